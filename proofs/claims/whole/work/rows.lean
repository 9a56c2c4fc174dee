section
-- begun with kit texts given for pasting: the skeleton's PART A and the printed names (NAMES.whole)
-- ===== PART A: goes FIRST, ahead of the names: the tables' words, and 'selects' of the private methods out of them =====
/-- a private method of a class that the tables say can be made, by its rows of tables_1 -/
def lw_okq (q : MethodName × Nat) : Prop := (q.1.cls ≠ "java/lang/invoke/MethodHandle" ∧ q.1.cls ≠ "java/lang/invoke/VarHandle") ∧ Cond.instantiable q.1.cls q.2 ∈ tables_1 ∧ Cond.privateMethod q.1 ∈ tables_1 ∧ Cond.instanceMethod q.1 ∈ tables_1
theorem lw_p0 : lw_okq (⟨"PrintSpooler$RangeText", "characterAt", "(I)I"⟩, 3) := ⟨⟨by decide +kernel, by decide +kernel⟩, List.mem_of_getElem? (i := 35) (by decide +kernel), List.mem_of_getElem? (i := 296) (by decide +kernel), List.mem_of_getElem? (i := 297) (by decide +kernel)⟩
theorem lw_p1 : lw_okq (⟨"PrintSpooler", "gather", "(LPrintSpooler$Document;)I"⟩, 5) := ⟨⟨by decide +kernel, by decide +kernel⟩, List.mem_of_getElem? (i := 15) (by decide +kernel), List.mem_of_getElem? (i := 316) (by decide +kernel), List.mem_of_getElem? (i := 317) (by decide +kernel)⟩
theorem lw_p2 : lw_okq (⟨"PrintSpooler$RangeText", "expandItem", "(LPrintSpooler$PageList;I)V"⟩, 3) := ⟨⟨by decide +kernel, by decide +kernel⟩, List.mem_of_getElem? (i := 35) (by decide +kernel), List.mem_of_getElem? (i := 328) (by decide +kernel), List.mem_of_getElem? (i := 329) (by decide +kernel)⟩
theorem lw_p3 : lw_okq (⟨"PrintSpooler$RangeText", "skip", "(I)Z"⟩, 3) := ⟨⟨by decide +kernel, by decide +kernel⟩, List.mem_of_getElem? (i := 35) (by decide +kernel), List.mem_of_getElem? (i := 332) (by decide +kernel), List.mem_of_getElem? (i := 333) (by decide +kernel)⟩
theorem lw_p4 : lw_okq (⟨"PrintSpooler$RangeText", "readNumber", "()I"⟩, 3) := ⟨⟨by decide +kernel, by decide +kernel⟩, List.mem_of_getElem? (i := 35) (by decide +kernel), List.mem_of_getElem? (i := 336) (by decide +kernel), List.mem_of_getElem? (i := 337) (by decide +kernel)⟩
theorem lw_p5 : lw_okq (⟨"PrintSpooler$PageList", "appendIf", "(II)V"⟩, 3) := ⟨⟨by decide +kernel, by decide +kernel⟩, List.mem_of_getElem? (i := 169) (by decide +kernel), List.mem_of_getElem? (i := 357) (by decide +kernel), List.mem_of_getElem? (i := 358) (by decide +kernel)⟩
theorem lw_p6 : lw_okq (⟨"PrintSpooler$Plan", "loadOfPages", "(II)I"⟩, 13) := ⟨⟨by decide +kernel, by decide +kernel⟩, List.mem_of_getElem? (i := 389) (by decide +kernel), List.mem_of_getElem? (i := 402) (by decide +kernel), List.mem_of_getElem? (i := 403) (by decide +kernel)⟩
theorem lw_p7 : lw_okq (⟨"PrintSpooler$Plan", "indexOn", "(III)I"⟩, 13) := ⟨⟨by decide +kernel, by decide +kernel⟩, List.mem_of_getElem? (i := 389) (by decide +kernel), List.mem_of_getElem? (i := 410) (by decide +kernel), List.mem_of_getElem? (i := 411) (by decide +kernel)⟩
theorem lw_p8 : lw_okq (⟨"PrintSpooler$ShortestText", "chooseFirstItem", "([IIII)V"⟩, 5) := ⟨⟨by decide +kernel, by decide +kernel⟩, List.mem_of_getElem? (i := 188) (by decide +kernel), List.mem_of_getElem? (i := 585) (by decide +kernel), List.mem_of_getElem? (i := 586) (by decide +kernel)⟩
theorem lw_p9 : lw_okq (⟨"PrintSpooler$ShortestText", "compare", "([IIII)V"⟩, 5) := ⟨⟨by decide +kernel, by decide +kernel⟩, List.mem_of_getElem? (i := 188) (by decide +kernel), List.mem_of_getElem? (i := 589) (by decide +kernel), List.mem_of_getElem? (i := 590) (by decide +kernel)⟩
theorem lw_p10 : lw_okq (⟨"PrintSpooler$ShortestText", "write", "([II)V"⟩, 5) := ⟨⟨by decide +kernel, by decide +kernel⟩, List.mem_of_getElem? (i := 188) (by decide +kernel), List.mem_of_getElem? (i := 605) (by decide +kernel), List.mem_of_getElem? (i := 606) (by decide +kernel)⟩
theorem lw_p11 : lw_okq (⟨"PrintSpooler$ShortestText", "put", "(I)V"⟩, 5) := ⟨⟨by decide +kernel, by decide +kernel⟩, List.mem_of_getElem? (i := 188) (by decide +kernel), List.mem_of_getElem? (i := 610) (by decide +kernel), List.mem_of_getElem? (i := 611) (by decide +kernel)⟩
theorem lw_p12 : lw_okq (⟨"PrintSpooler$ShortestText", "writeItem", "(III)V"⟩, 5) := ⟨⟨by decide +kernel, by decide +kernel⟩, List.mem_of_getElem? (i := 188) (by decide +kernel), List.mem_of_getElem? (i := 614) (by decide +kernel), List.mem_of_getElem? (i := 615) (by decide +kernel)⟩
theorem lw_p13 : lw_okq (⟨"PrintSpooler$ShortestText", "putNumber", "(I)V"⟩, 5) := ⟨⟨by decide +kernel, by decide +kernel⟩, List.mem_of_getElem? (i := 188) (by decide +kernel), List.mem_of_getElem? (i := 618) (by decide +kernel), List.mem_of_getElem? (i := 619) (by decide +kernel)⟩
theorem lw_p14 : lw_okq (⟨"PrintSpooler$Spool", "passTick", "()V"⟩, 17) := ⟨⟨by decide +kernel, by decide +kernel⟩, List.mem_of_getElem? (i := 23) (by decide +kernel), List.mem_of_getElem? (i := 760) (by decide +kernel), List.mem_of_getElem? (i := 761) (by decide +kernel)⟩
theorem lw_p15 : lw_okq (⟨"PrintSpooler$Spool", "endSheet", "(ILPrintSpooler$Printer;)V"⟩, 17) := ⟨⟨by decide +kernel, by decide +kernel⟩, List.mem_of_getElem? (i := 23) (by decide +kernel), List.mem_of_getElem? (i := 765) (by decide +kernel), List.mem_of_getElem? (i := 766) (by decide +kernel)⟩
def lw_privs_1 : List (MethodName × Nat) := [(⟨"PrintSpooler$RangeText", "characterAt", "(I)I"⟩, 3), (⟨"PrintSpooler", "gather", "(LPrintSpooler$Document;)I"⟩, 5), (⟨"PrintSpooler$RangeText", "expandItem", "(LPrintSpooler$PageList;I)V"⟩, 3), (⟨"PrintSpooler$RangeText", "skip", "(I)Z"⟩, 3), (⟨"PrintSpooler$RangeText", "readNumber", "()I"⟩, 3), (⟨"PrintSpooler$PageList", "appendIf", "(II)V"⟩, 3), (⟨"PrintSpooler$Plan", "loadOfPages", "(II)I"⟩, 13), (⟨"PrintSpooler$Plan", "indexOn", "(III)I"⟩, 13), (⟨"PrintSpooler$ShortestText", "chooseFirstItem", "([IIII)V"⟩, 5), (⟨"PrintSpooler$ShortestText", "compare", "([IIII)V"⟩, 5), (⟨"PrintSpooler$ShortestText", "write", "([II)V"⟩, 5), (⟨"PrintSpooler$ShortestText", "put", "(I)V"⟩, 5), (⟨"PrintSpooler$ShortestText", "writeItem", "(III)V"⟩, 5), (⟨"PrintSpooler$ShortestText", "putNumber", "(I)V"⟩, 5), (⟨"PrintSpooler$Spool", "passTick", "()V"⟩, 17), (⟨"PrintSpooler$Spool", "endSheet", "(ILPrintSpooler$Printer;)V"⟩, 17)]
theorem lw_r1 : ∀ q ∈ lw_privs_1, lw_okq q := List.forall_mem_cons.mpr ⟨lw_p0, List.forall_mem_cons.mpr ⟨lw_p1, List.forall_mem_cons.mpr ⟨lw_p2, List.forall_mem_cons.mpr ⟨lw_p3, List.forall_mem_cons.mpr ⟨lw_p4, List.forall_mem_cons.mpr ⟨lw_p5, List.forall_mem_cons.mpr ⟨lw_p6, List.forall_mem_cons.mpr ⟨lw_p7, List.forall_mem_cons.mpr ⟨lw_p8, List.forall_mem_cons.mpr ⟨lw_p9, List.forall_mem_cons.mpr ⟨lw_p10, List.forall_mem_cons.mpr ⟨lw_p11, List.forall_mem_cons.mpr ⟨lw_p12, List.forall_mem_cons.mpr ⟨lw_p13, List.forall_mem_cons.mpr ⟨lw_p14, List.forall_mem_cons.mpr ⟨lw_p15, fun _ h => absurd h List.not_mem_nil⟩⟩⟩⟩⟩⟩⟩⟩⟩⟩⟩⟩⟩⟩⟩⟩
theorem lw_p16 : lw_okq (⟨"PrintSpooler$Journal", "put", "(III)V"⟩, 2) := ⟨⟨by decide +kernel, by decide +kernel⟩, List.mem_of_getElem? (i := 53) (by decide +kernel), List.mem_of_getElem? (i := 773) (by decide +kernel), List.mem_of_getElem? (i := 774) (by decide +kernel)⟩
theorem lw_p17 : lw_okq (⟨"PrintSpooler$Spool", "countFor", "(I)V"⟩, 17) := ⟨⟨by decide +kernel, by decide +kernel⟩, List.mem_of_getElem? (i := 23) (by decide +kernel), List.mem_of_getElem? (i := 780) (by decide +kernel), List.mem_of_getElem? (i := 781) (by decide +kernel)⟩
theorem lw_p18 : lw_okq (⟨"PrintSpooler$Spool", "markDone", "(LPrintSpooler$Job;)V"⟩, 17) := ⟨⟨by decide +kernel, by decide +kernel⟩, List.mem_of_getElem? (i := 23) (by decide +kernel), List.mem_of_getElem? (i := 785) (by decide +kernel), List.mem_of_getElem? (i := 786) (by decide +kernel)⟩
theorem lw_p19 : lw_okq (⟨"PrintSpooler$Spool", "hasSupply", "(LPrintSpooler$Printer;LPrintSpooler$Plan;)Z"⟩, 17) := ⟨⟨by decide +kernel, by decide +kernel⟩, List.mem_of_getElem? (i := 23) (by decide +kernel), List.mem_of_getElem? (i := 789) (by decide +kernel), List.mem_of_getElem? (i := 790) (by decide +kernel)⟩
theorem lw_p20 : lw_okq (⟨"PrintSpooler$Spool", "bestFor", "(LPrintSpooler$Printer;)LPrintSpooler$Job;"⟩, 17) := ⟨⟨by decide +kernel, by decide +kernel⟩, List.mem_of_getElem? (i := 23) (by decide +kernel), List.mem_of_getElem? (i := 799) (by decide +kernel), List.mem_of_getElem? (i := 800) (by decide +kernel)⟩
theorem lw_p21 : lw_okq (⟨"PrintSpooler$Spool", "isPrintable", "(LPrintSpooler$Printer;LPrintSpooler$Job;)Z"⟩, 17) := ⟨⟨by decide +kernel, by decide +kernel⟩, List.mem_of_getElem? (i := 23) (by decide +kernel), List.mem_of_getElem? (i := 803) (by decide +kernel), List.mem_of_getElem? (i := 804) (by decide +kernel)⟩
theorem lw_p22 : lw_okq (⟨"PrintSpooler$Spool", "isOutranked", "(LPrintSpooler$Job;LPrintSpooler$Job;)Z"⟩, 17) := ⟨⟨by decide +kernel, by decide +kernel⟩, List.mem_of_getElem? (i := 23) (by decide +kernel), List.mem_of_getElem? (i := 808) (by decide +kernel), List.mem_of_getElem? (i := 809) (by decide +kernel)⟩
theorem lw_p23 : lw_okq (⟨"PrintSpooler$Spool", "beginSheet", "(LPrintSpooler$Printer;LPrintSpooler$Job;)V"⟩, 17) := ⟨⟨by decide +kernel, by decide +kernel⟩, List.mem_of_getElem? (i := 23) (by decide +kernel), List.mem_of_getElem? (i := 812) (by decide +kernel), List.mem_of_getElem? (i := 813) (by decide +kernel)⟩
theorem lw_p24 : lw_okq (⟨"PrintSpooler$Spool", "skipQuietTicks", "(I)I"⟩, 17) := ⟨⟨by decide +kernel, by decide +kernel⟩, List.mem_of_getElem? (i := 23) (by decide +kernel), List.mem_of_getElem? (i := 820) (by decide +kernel), List.mem_of_getElem? (i := 821) (by decide +kernel)⟩
theorem lw_p25 : lw_okq (⟨"PrintSpooler$Spool", "copyJobs", "(LPrintSpooler$Spool;)V"⟩, 17) := ⟨⟨by decide +kernel, by decide +kernel⟩, List.mem_of_getElem? (i := 23) (by decide +kernel), List.mem_of_getElem? (i := 851) (by decide +kernel), List.mem_of_getElem? (i := 852) (by decide +kernel)⟩
theorem lw_p26 : lw_okq (⟨"PrintSpooler$Spool", "copyPrinters", "(LPrintSpooler$Spool;)V"⟩, 17) := ⟨⟨by decide +kernel, by decide +kernel⟩, List.mem_of_getElem? (i := 23) (by decide +kernel), List.mem_of_getElem? (i := 859) (by decide +kernel), List.mem_of_getElem? (i := 860) (by decide +kernel)⟩
theorem lw_p27 : lw_okq (⟨"PrintSpooler", "slotAt", "(I)LPrintSpooler$Spool;"⟩, 5) := ⟨⟨by decide +kernel, by decide +kernel⟩, List.mem_of_getElem? (i := 15) (by decide +kernel), List.mem_of_getElem? (i := 909) (by decide +kernel), List.mem_of_getElem? (i := 910) (by decide +kernel)⟩
theorem lw_p28 : lw_okq (⟨"PrintSpoolerModel", "isDocument", "(I)Z"⟩, 22) := ⟨⟨by decide +kernel, by decide +kernel⟩, List.mem_of_getElem? (i := 917) (by decide +kernel), List.mem_of_getElem? (i := 1002) (by decide +kernel), List.mem_of_getElem? (i := 1003) (by decide +kernel)⟩
theorem lw_p29 : lw_okq (⟨"PrintSpoolerModel", "ofDocument", "(II)I"⟩, 22) := ⟨⟨by decide +kernel, by decide +kernel⟩, List.mem_of_getElem? (i := 917) (by decide +kernel), List.mem_of_getElem? (i := 1006) (by decide +kernel), List.mem_of_getElem? (i := 1007) (by decide +kernel)⟩
theorem lw_p30 : lw_okq (⟨"PrintSpoolerModel", "weightOf", "(II)I"⟩, 22) := ⟨⟨by decide +kernel, by decide +kernel⟩, List.mem_of_getElem? (i := 917) (by decide +kernel), List.mem_of_getElem? (i := 1010) (by decide +kernel), List.mem_of_getElem? (i := 1011) (by decide +kernel)⟩
theorem lw_p31 : lw_okq (⟨"PrintSpoolerModel", "faultOf", "()I"⟩, 22) := ⟨⟨by decide +kernel, by decide +kernel⟩, List.mem_of_getElem? (i := 917) (by decide +kernel), List.mem_of_getElem? (i := 1026) (by decide +kernel), List.mem_of_getElem? (i := 1027) (by decide +kernel)⟩
def lw_privs_2 : List (MethodName × Nat) := [(⟨"PrintSpooler$Journal", "put", "(III)V"⟩, 2), (⟨"PrintSpooler$Spool", "countFor", "(I)V"⟩, 17), (⟨"PrintSpooler$Spool", "markDone", "(LPrintSpooler$Job;)V"⟩, 17), (⟨"PrintSpooler$Spool", "hasSupply", "(LPrintSpooler$Printer;LPrintSpooler$Plan;)Z"⟩, 17), (⟨"PrintSpooler$Spool", "bestFor", "(LPrintSpooler$Printer;)LPrintSpooler$Job;"⟩, 17), (⟨"PrintSpooler$Spool", "isPrintable", "(LPrintSpooler$Printer;LPrintSpooler$Job;)Z"⟩, 17), (⟨"PrintSpooler$Spool", "isOutranked", "(LPrintSpooler$Job;LPrintSpooler$Job;)Z"⟩, 17), (⟨"PrintSpooler$Spool", "beginSheet", "(LPrintSpooler$Printer;LPrintSpooler$Job;)V"⟩, 17), (⟨"PrintSpooler$Spool", "skipQuietTicks", "(I)I"⟩, 17), (⟨"PrintSpooler$Spool", "copyJobs", "(LPrintSpooler$Spool;)V"⟩, 17), (⟨"PrintSpooler$Spool", "copyPrinters", "(LPrintSpooler$Spool;)V"⟩, 17), (⟨"PrintSpooler", "slotAt", "(I)LPrintSpooler$Spool;"⟩, 5), (⟨"PrintSpoolerModel", "isDocument", "(I)Z"⟩, 22), (⟨"PrintSpoolerModel", "ofDocument", "(II)I"⟩, 22), (⟨"PrintSpoolerModel", "weightOf", "(II)I"⟩, 22), (⟨"PrintSpoolerModel", "faultOf", "()I"⟩, 22)]
theorem lw_r2 : ∀ q ∈ lw_privs_2, lw_okq q := List.forall_mem_cons.mpr ⟨lw_p16, List.forall_mem_cons.mpr ⟨lw_p17, List.forall_mem_cons.mpr ⟨lw_p18, List.forall_mem_cons.mpr ⟨lw_p19, List.forall_mem_cons.mpr ⟨lw_p20, List.forall_mem_cons.mpr ⟨lw_p21, List.forall_mem_cons.mpr ⟨lw_p22, List.forall_mem_cons.mpr ⟨lw_p23, List.forall_mem_cons.mpr ⟨lw_p24, List.forall_mem_cons.mpr ⟨lw_p25, List.forall_mem_cons.mpr ⟨lw_p26, List.forall_mem_cons.mpr ⟨lw_p27, List.forall_mem_cons.mpr ⟨lw_p28, List.forall_mem_cons.mpr ⟨lw_p29, List.forall_mem_cons.mpr ⟨lw_p30, List.forall_mem_cons.mpr ⟨lw_p31, fun _ h => absurd h List.not_mem_nil⟩⟩⟩⟩⟩⟩⟩⟩⟩⟩⟩⟩⟩⟩⟩⟩
theorem lw_p32 : lw_okq (⟨"PrintSpoolerModel", "readItem", "()V"⟩, 22) := ⟨⟨by decide +kernel, by decide +kernel⟩, List.mem_of_getElem? (i := 917) (by decide +kernel), List.mem_of_getElem? (i := 1030) (by decide +kernel), List.mem_of_getElem? (i := 1031) (by decide +kernel)⟩
theorem lw_p33 : lw_okq (⟨"PrintSpoolerModel", "signAt", "(I)I"⟩, 22) := ⟨⟨by decide +kernel, by decide +kernel⟩, List.mem_of_getElem? (i := 917) (by decide +kernel), List.mem_of_getElem? (i := 1034) (by decide +kernel), List.mem_of_getElem? (i := 1035) (by decide +kernel)⟩
theorem lw_p34 : lw_okq (⟨"PrintSpoolerModel", "readNumber", "()I"⟩, 22) := ⟨⟨by decide +kernel, by decide +kernel⟩, List.mem_of_getElem? (i := 917) (by decide +kernel), List.mem_of_getElem? (i := 1038) (by decide +kernel), List.mem_of_getElem? (i := 1039) (by decide +kernel)⟩
theorem lw_p35 : lw_okq (⟨"PrintSpoolerModel", "makeList", "(I)Z"⟩, 22) := ⟨⟨by decide +kernel, by decide +kernel⟩, List.mem_of_getElem? (i := 917) (by decide +kernel), List.mem_of_getElem? (i := 1052) (by decide +kernel), List.mem_of_getElem? (i := 1053) (by decide +kernel)⟩
theorem lw_p36 : lw_okq (⟨"PrintSpoolerModel", "takeOut", "(I)V"⟩, 22) := ⟨⟨by decide +kernel, by decide +kernel⟩, List.mem_of_getElem? (i := 917) (by decide +kernel), List.mem_of_getElem? (i := 1056) (by decide +kernel), List.mem_of_getElem? (i := 1057) (by decide +kernel)⟩
theorem lw_p37 : lw_okq (⟨"PrintSpoolerModel", "isInItem", "(II)Z"⟩, 22) := ⟨⟨by decide +kernel, by decide +kernel⟩, List.mem_of_getElem? (i := 917) (by decide +kernel), List.mem_of_getElem? (i := 1060) (by decide +kernel), List.mem_of_getElem? (i := 1061) (by decide +kernel)⟩
theorem lw_p38 : lw_okq (⟨"PrintSpoolerModel", "isPart", "(I)Z"⟩, 22) := ⟨⟨by decide +kernel, by decide +kernel⟩, List.mem_of_getElem? (i := 917) (by decide +kernel), List.mem_of_getElem? (i := 1064) (by decide +kernel), List.mem_of_getElem? (i := 1065) (by decide +kernel)⟩
theorem lw_p39 : lw_okq (⟨"PrintSpoolerModel", "append", "(II)V"⟩, 22) := ⟨⟨by decide +kernel, by decide +kernel⟩, List.mem_of_getElem? (i := 917) (by decide +kernel), List.mem_of_getElem? (i := 1068) (by decide +kernel), List.mem_of_getElem? (i := 1069) (by decide +kernel)⟩
theorem lw_p40 : lw_okq (⟨"PrintSpoolerModel", "setJob", "(III)V"⟩, 22) := ⟨⟨by decide +kernel, by decide +kernel⟩, List.mem_of_getElem? (i := 917) (by decide +kernel), List.mem_of_getElem? (i := 1086) (by decide +kernel), List.mem_of_getElem? (i := 1087) (by decide +kernel)⟩
theorem lw_p41 : lw_okq (⟨"PrintSpoolerModel", "sheetsOfCopy", "(I)I"⟩, 22) := ⟨⟨by decide +kernel, by decide +kernel⟩, List.mem_of_getElem? (i := 917) (by decide +kernel), List.mem_of_getElem? (i := 1090) (by decide +kernel), List.mem_of_getElem? (i := 1091) (by decide +kernel)⟩
theorem lw_p42 : lw_okq (⟨"PrintSpoolerModel", "ofJob", "(II)I"⟩, 22) := ⟨⟨by decide +kernel, by decide +kernel⟩, List.mem_of_getElem? (i := 917) (by decide +kernel), List.mem_of_getElem? (i := 1094) (by decide +kernel), List.mem_of_getElem? (i := 1095) (by decide +kernel)⟩
theorem lw_p43 : lw_okq (⟨"PrintSpoolerModel", "isBooklet", "(I)Z"⟩, 22) := ⟨⟨by decide +kernel, by decide +kernel⟩, List.mem_of_getElem? (i := 917) (by decide +kernel), List.mem_of_getElem? (i := 1098) (by decide +kernel), List.mem_of_getElem? (i := 1099) (by decide +kernel)⟩
theorem lw_p44 : lw_okq (⟨"PrintSpoolerModel", "perSide", "(I)I"⟩, 22) := ⟨⟨by decide +kernel, by decide +kernel⟩, List.mem_of_getElem? (i := 917) (by decide +kernel), List.mem_of_getElem? (i := 1102) (by decide +kernel), List.mem_of_getElem? (i := 1103) (by decide +kernel)⟩
theorem lw_p45 : lw_okq (⟨"PrintSpoolerModel", "sidesOf", "(I)I"⟩, 22) := ⟨⟨by decide +kernel, by decide +kernel⟩, List.mem_of_getElem? (i := 917) (by decide +kernel), List.mem_of_getElem? (i := 1106) (by decide +kernel), List.mem_of_getElem? (i := 1107) (by decide +kernel)⟩
theorem lw_p46 : lw_okq (⟨"PrintSpoolerModel", "isJob", "(I)Z"⟩, 22) := ⟨⟨by decide +kernel, by decide +kernel⟩, List.mem_of_getElem? (i := 917) (by decide +kernel), List.mem_of_getElem? (i := 1114) (by decide +kernel), List.mem_of_getElem? (i := 1115) (by decide +kernel)⟩
theorem lw_p47 : lw_okq (⟨"PrintSpoolerModel", "rankOf", "(I)I"⟩, 22) := ⟨⟨by decide +kernel, by decide +kernel⟩, List.mem_of_getElem? (i := 917) (by decide +kernel), List.mem_of_getElem? (i := 1118) (by decide +kernel), List.mem_of_getElem? (i := 1119) (by decide +kernel)⟩
def lw_privs_3 : List (MethodName × Nat) := [(⟨"PrintSpoolerModel", "readItem", "()V"⟩, 22), (⟨"PrintSpoolerModel", "signAt", "(I)I"⟩, 22), (⟨"PrintSpoolerModel", "readNumber", "()I"⟩, 22), (⟨"PrintSpoolerModel", "makeList", "(I)Z"⟩, 22), (⟨"PrintSpoolerModel", "takeOut", "(I)V"⟩, 22), (⟨"PrintSpoolerModel", "isInItem", "(II)Z"⟩, 22), (⟨"PrintSpoolerModel", "isPart", "(I)Z"⟩, 22), (⟨"PrintSpoolerModel", "append", "(II)V"⟩, 22), (⟨"PrintSpoolerModel", "setJob", "(III)V"⟩, 22), (⟨"PrintSpoolerModel", "sheetsOfCopy", "(I)I"⟩, 22), (⟨"PrintSpoolerModel", "ofJob", "(II)I"⟩, 22), (⟨"PrintSpoolerModel", "isBooklet", "(I)Z"⟩, 22), (⟨"PrintSpoolerModel", "perSide", "(I)I"⟩, 22), (⟨"PrintSpoolerModel", "sidesOf", "(I)I"⟩, 22), (⟨"PrintSpoolerModel", "isJob", "(I)Z"⟩, 22), (⟨"PrintSpoolerModel", "rankOf", "(I)I"⟩, 22)]
theorem lw_r3 : ∀ q ∈ lw_privs_3, lw_okq q := List.forall_mem_cons.mpr ⟨lw_p32, List.forall_mem_cons.mpr ⟨lw_p33, List.forall_mem_cons.mpr ⟨lw_p34, List.forall_mem_cons.mpr ⟨lw_p35, List.forall_mem_cons.mpr ⟨lw_p36, List.forall_mem_cons.mpr ⟨lw_p37, List.forall_mem_cons.mpr ⟨lw_p38, List.forall_mem_cons.mpr ⟨lw_p39, List.forall_mem_cons.mpr ⟨lw_p40, List.forall_mem_cons.mpr ⟨lw_p41, List.forall_mem_cons.mpr ⟨lw_p42, List.forall_mem_cons.mpr ⟨lw_p43, List.forall_mem_cons.mpr ⟨lw_p44, List.forall_mem_cons.mpr ⟨lw_p45, List.forall_mem_cons.mpr ⟨lw_p46, List.forall_mem_cons.mpr ⟨lw_p47, fun _ h => absurd h List.not_mem_nil⟩⟩⟩⟩⟩⟩⟩⟩⟩⟩⟩⟩⟩⟩⟩⟩
theorem lw_p48 : lw_okq (⟨"PrintSpoolerModel", "isSheet", "(II)Z"⟩, 22) := ⟨⟨by decide +kernel, by decide +kernel⟩, List.mem_of_getElem? (i := 917) (by decide +kernel), List.mem_of_getElem? (i := 1126) (by decide +kernel), List.mem_of_getElem? (i := 1127) (by decide +kernel)⟩
theorem lw_p49 : lw_okq (⟨"PrintSpoolerModel", "pageAt", "(IIII)I"⟩, 22) := ⟨⟨by decide +kernel, by decide +kernel⟩, List.mem_of_getElem? (i := 917) (by decide +kernel), List.mem_of_getElem? (i := 1130) (by decide +kernel), List.mem_of_getElem? (i := 1131) (by decide +kernel)⟩
theorem lw_p50 : lw_okq (⟨"PrintSpoolerModel", "elementAt", "(IIII)I"⟩, 22) := ⟨⟨by decide +kernel, by decide +kernel⟩, List.mem_of_getElem? (i := 917) (by decide +kernel), List.mem_of_getElem? (i := 1134) (by decide +kernel), List.mem_of_getElem? (i := 1135) (by decide +kernel)⟩
theorem lw_p51 : lw_okq (⟨"PrintSpoolerModel", "layText", "(I)V"⟩, 22) := ⟨⟨by decide +kernel, by decide +kernel⟩, List.mem_of_getElem? (i := 917) (by decide +kernel), List.mem_of_getElem? (i := 1154) (by decide +kernel), List.mem_of_getElem? (i := 1155) (by decide +kernel)⟩
theorem lw_p52 : lw_okq (⟨"PrintSpoolerModel", "takeItem", "(IIII)V"⟩, 22) := ⟨⟨by decide +kernel, by decide +kernel⟩, List.mem_of_getElem? (i := 917) (by decide +kernel), List.mem_of_getElem? (i := 1158) (by decide +kernel), List.mem_of_getElem? (i := 1159) (by decide +kernel)⟩
theorem lw_p53 : lw_okq (⟨"PrintSpoolerModel", "signsOf", "(IIII)I"⟩, 22) := ⟨⟨by decide +kernel, by decide +kernel⟩, List.mem_of_getElem? (i := 917) (by decide +kernel), List.mem_of_getElem? (i := 1162) (by decide +kernel), List.mem_of_getElem? (i := 1163) (by decide +kernel)⟩
theorem lw_p54 : lw_okq (⟨"PrintSpoolerModel", "stepAt", "(II)I"⟩, 22) := ⟨⟨by decide +kernel, by decide +kernel⟩, List.mem_of_getElem? (i := 917) (by decide +kernel), List.mem_of_getElem? (i := 1169) (by decide +kernel), List.mem_of_getElem? (i := 1170) (by decide +kernel)⟩
theorem lw_p55 : lw_okq (⟨"PrintSpoolerModel", "signOf", "(III)I"⟩, 22) := ⟨⟨by decide +kernel, by decide +kernel⟩, List.mem_of_getElem? (i := 917) (by decide +kernel), List.mem_of_getElem? (i := 1173) (by decide +kernel), List.mem_of_getElem? (i := 1174) (by decide +kernel)⟩
theorem lw_p56 : lw_okq (⟨"PrintSpoolerModel", "setPrinter", "(III)V"⟩, 22) := ⟨⟨by decide +kernel, by decide +kernel⟩, List.mem_of_getElem? (i := 917) (by decide +kernel), List.mem_of_getElem? (i := 1184) (by decide +kernel), List.mem_of_getElem? (i := 1185) (by decide +kernel)⟩
theorem lw_p57 : lw_okq (⟨"PrintSpoolerModel", "isPrinter", "(I)Z"⟩, 22) := ⟨⟨by decide +kernel, by decide +kernel⟩, List.mem_of_getElem? (i := 917) (by decide +kernel), List.mem_of_getElem? (i := 1192) (by decide +kernel), List.mem_of_getElem? (i := 1193) (by decide +kernel)⟩
theorem lw_p58 : lw_okq (⟨"PrintSpoolerModel", "ofPrinter", "(II)I"⟩, 22) := ⟨⟨by decide +kernel, by decide +kernel⟩, List.mem_of_getElem? (i := 917) (by decide +kernel), List.mem_of_getElem? (i := 1196) (by decide +kernel), List.mem_of_getElem? (i := 1197) (by decide +kernel)⟩
theorem lw_p59 : lw_okq (⟨"PrintSpoolerModel", "laySide", "(IIII)V"⟩, 22) := ⟨⟨by decide +kernel, by decide +kernel⟩, List.mem_of_getElem? (i := 917) (by decide +kernel), List.mem_of_getElem? (i := 1208) (by decide +kernel), List.mem_of_getElem? (i := 1209) (by decide +kernel)⟩
theorem lw_p60 : lw_okq (⟨"PrintSpoolerModel", "ticksFor", "(III)I"⟩, 22) := ⟨⟨by decide +kernel, by decide +kernel⟩, List.mem_of_getElem? (i := 917) (by decide +kernel), List.mem_of_getElem? (i := 1219) (by decide +kernel), List.mem_of_getElem? (i := 1220) (by decide +kernel)⟩
theorem lw_p61 : lw_okq (⟨"PrintSpoolerModel", "isOver", "(I)Z"⟩, 22) := ⟨⟨by decide +kernel, by decide +kernel⟩, List.mem_of_getElem? (i := 917) (by decide +kernel), List.mem_of_getElem? (i := 1235) (by decide +kernel), List.mem_of_getElem? (i := 1236) (by decide +kernel)⟩
theorem lw_p62 : lw_okq (⟨"PrintSpoolerModel", "becomeWaiting", "(I)V"⟩, 22) := ⟨⟨by decide +kernel, by decide +kernel⟩, List.mem_of_getElem? (i := 917) (by decide +kernel), List.mem_of_getElem? (i := 1247) (by decide +kernel), List.mem_of_getElem? (i := 1248) (by decide +kernel)⟩
theorem lw_p63 : lw_okq (⟨"PrintSpoolerModel", "leave", "(I)V"⟩, 22) := ⟨⟨by decide +kernel, by decide +kernel⟩, List.mem_of_getElem? (i := 917) (by decide +kernel), List.mem_of_getElem? (i := 1259) (by decide +kernel), List.mem_of_getElem? (i := 1260) (by decide +kernel)⟩
def lw_privs_4 : List (MethodName × Nat) := [(⟨"PrintSpoolerModel", "isSheet", "(II)Z"⟩, 22), (⟨"PrintSpoolerModel", "pageAt", "(IIII)I"⟩, 22), (⟨"PrintSpoolerModel", "elementAt", "(IIII)I"⟩, 22), (⟨"PrintSpoolerModel", "layText", "(I)V"⟩, 22), (⟨"PrintSpoolerModel", "takeItem", "(IIII)V"⟩, 22), (⟨"PrintSpoolerModel", "signsOf", "(IIII)I"⟩, 22), (⟨"PrintSpoolerModel", "stepAt", "(II)I"⟩, 22), (⟨"PrintSpoolerModel", "signOf", "(III)I"⟩, 22), (⟨"PrintSpoolerModel", "setPrinter", "(III)V"⟩, 22), (⟨"PrintSpoolerModel", "isPrinter", "(I)Z"⟩, 22), (⟨"PrintSpoolerModel", "ofPrinter", "(II)I"⟩, 22), (⟨"PrintSpoolerModel", "laySide", "(IIII)V"⟩, 22), (⟨"PrintSpoolerModel", "ticksFor", "(III)I"⟩, 22), (⟨"PrintSpoolerModel", "isOver", "(I)Z"⟩, 22), (⟨"PrintSpoolerModel", "becomeWaiting", "(I)V"⟩, 22), (⟨"PrintSpoolerModel", "leave", "(I)V"⟩, 22)]
theorem lw_r4 : ∀ q ∈ lw_privs_4, lw_okq q := List.forall_mem_cons.mpr ⟨lw_p48, List.forall_mem_cons.mpr ⟨lw_p49, List.forall_mem_cons.mpr ⟨lw_p50, List.forall_mem_cons.mpr ⟨lw_p51, List.forall_mem_cons.mpr ⟨lw_p52, List.forall_mem_cons.mpr ⟨lw_p53, List.forall_mem_cons.mpr ⟨lw_p54, List.forall_mem_cons.mpr ⟨lw_p55, List.forall_mem_cons.mpr ⟨lw_p56, List.forall_mem_cons.mpr ⟨lw_p57, List.forall_mem_cons.mpr ⟨lw_p58, List.forall_mem_cons.mpr ⟨lw_p59, List.forall_mem_cons.mpr ⟨lw_p60, List.forall_mem_cons.mpr ⟨lw_p61, List.forall_mem_cons.mpr ⟨lw_p62, List.forall_mem_cons.mpr ⟨lw_p63, fun _ h => absurd h List.not_mem_nil⟩⟩⟩⟩⟩⟩⟩⟩⟩⟩⟩⟩⟩⟩⟩⟩
theorem lw_p64 : lw_okq (⟨"PrintSpoolerModel", "tick", "()V"⟩, 22) := ⟨⟨by decide +kernel, by decide +kernel⟩, List.mem_of_getElem? (i := 917) (by decide +kernel), List.mem_of_getElem? (i := 1271) (by decide +kernel), List.mem_of_getElem? (i := 1272) (by decide +kernel)⟩
theorem lw_p65 : lw_okq (⟨"PrintSpoolerModel", "endSheet", "(II)V"⟩, 22) := ⟨⟨by decide +kernel, by decide +kernel⟩, List.mem_of_getElem? (i := 917) (by decide +kernel), List.mem_of_getElem? (i := 1275) (by decide +kernel), List.mem_of_getElem? (i := 1276) (by decide +kernel)⟩
theorem lw_p66 : lw_okq (⟨"PrintSpoolerModel", "record", "(II)V"⟩, 22) := ⟨⟨by decide +kernel, by decide +kernel⟩, List.mem_of_getElem? (i := 917) (by decide +kernel), List.mem_of_getElem? (i := 1279) (by decide +kernel), List.mem_of_getElem? (i := 1280) (by decide +kernel)⟩
theorem lw_p67 : lw_okq (⟨"PrintSpoolerModel", "trayFor", "(II)I"⟩, 22) := ⟨⟨by decide +kernel, by decide +kernel⟩, List.mem_of_getElem? (i := 917) (by decide +kernel), List.mem_of_getElem? (i := 1283) (by decide +kernel), List.mem_of_getElem? (i := 1284) (by decide +kernel)⟩
theorem lw_p68 : lw_okq (⟨"PrintSpoolerModel", "hasQuota", "(I)Z"⟩, 22) := ⟨⟨by decide +kernel, by decide +kernel⟩, List.mem_of_getElem? (i := 917) (by decide +kernel), List.mem_of_getElem? (i := 1287) (by decide +kernel), List.mem_of_getElem? (i := 1288) (by decide +kernel)⟩
theorem lw_p69 : lw_okq (⟨"PrintSpoolerModel", "bestFor", "(I)I"⟩, 22) := ⟨⟨by decide +kernel, by decide +kernel⟩, List.mem_of_getElem? (i := 917) (by decide +kernel), List.mem_of_getElem? (i := 1291) (by decide +kernel), List.mem_of_getElem? (i := 1292) (by decide +kernel)⟩
theorem lw_p70 : lw_okq (⟨"PrintSpoolerModel", "isPrintable", "(II)Z"⟩, 22) := ⟨⟨by decide +kernel, by decide +kernel⟩, List.mem_of_getElem? (i := 917) (by decide +kernel), List.mem_of_getElem? (i := 1295) (by decide +kernel), List.mem_of_getElem? (i := 1296) (by decide +kernel)⟩
theorem lw_p71 : lw_okq (⟨"PrintSpoolerModel", "begin", "(II)V"⟩, 22) := ⟨⟨by decide +kernel, by decide +kernel⟩, List.mem_of_getElem? (i := 917) (by decide +kernel), List.mem_of_getElem? (i := 1299) (by decide +kernel), List.mem_of_getElem? (i := 1300) (by decide +kernel)⟩
theorem lw_p72 : lw_okq (⟨"PrintSpoolerModel", "putAside", "()V"⟩, 22) := ⟨⟨by decide +kernel, by decide +kernel⟩, List.mem_of_getElem? (i := 917) (by decide +kernel), List.mem_of_getElem? (i := 1315) (by decide +kernel), List.mem_of_getElem? (i := 1316) (by decide +kernel)⟩
theorem lw_p73 : lw_okq (⟨"PrintSpoolerModel", "putBack", "()V"⟩, 22) := ⟨⟨by decide +kernel, by decide +kernel⟩, List.mem_of_getElem? (i := 917) (by decide +kernel), List.mem_of_getElem? (i := 1319) (by decide +kernel), List.mem_of_getElem? (i := 1320) (by decide +kernel)⟩
theorem lw_p74 : lw_okq (⟨"PrintSpoolerModel", "isInTime", "(III)Z"⟩, 22) := ⟨⟨by decide +kernel, by decide +kernel⟩, List.mem_of_getElem? (i := 917) (by decide +kernel), List.mem_of_getElem? (i := 1327) (by decide +kernel), List.mem_of_getElem? (i := 1328) (by decide +kernel)⟩
theorem lw_p75 : lw_okq (⟨"PrintSpoolerModel", "waiting", "()I"⟩, 22) := ⟨⟨by decide +kernel, by decide +kernel⟩, List.mem_of_getElem? (i := 917) (by decide +kernel), List.mem_of_getElem? (i := 1339) (by decide +kernel), List.mem_of_getElem? (i := 1340) (by decide +kernel)⟩
def lw_privs_5 : List (MethodName × Nat) := [(⟨"PrintSpoolerModel", "tick", "()V"⟩, 22), (⟨"PrintSpoolerModel", "endSheet", "(II)V"⟩, 22), (⟨"PrintSpoolerModel", "record", "(II)V"⟩, 22), (⟨"PrintSpoolerModel", "trayFor", "(II)I"⟩, 22), (⟨"PrintSpoolerModel", "hasQuota", "(I)Z"⟩, 22), (⟨"PrintSpoolerModel", "bestFor", "(I)I"⟩, 22), (⟨"PrintSpoolerModel", "isPrintable", "(II)Z"⟩, 22), (⟨"PrintSpoolerModel", "begin", "(II)V"⟩, 22), (⟨"PrintSpoolerModel", "putAside", "()V"⟩, 22), (⟨"PrintSpoolerModel", "putBack", "()V"⟩, 22), (⟨"PrintSpoolerModel", "isInTime", "(III)Z"⟩, 22), (⟨"PrintSpoolerModel", "waiting", "()I"⟩, 22)]
theorem lw_r5 : ∀ q ∈ lw_privs_5, lw_okq q := List.forall_mem_cons.mpr ⟨lw_p64, List.forall_mem_cons.mpr ⟨lw_p65, List.forall_mem_cons.mpr ⟨lw_p66, List.forall_mem_cons.mpr ⟨lw_p67, List.forall_mem_cons.mpr ⟨lw_p68, List.forall_mem_cons.mpr ⟨lw_p69, List.forall_mem_cons.mpr ⟨lw_p70, List.forall_mem_cons.mpr ⟨lw_p71, List.forall_mem_cons.mpr ⟨lw_p72, List.forall_mem_cons.mpr ⟨lw_p73, List.forall_mem_cons.mpr ⟨lw_p74, List.forall_mem_cons.mpr ⟨lw_p75, fun _ h => absurd h List.not_mem_nil⟩⟩⟩⟩⟩⟩⟩⟩⟩⟩⟩⟩
def lw_privs : List (MethodName × Nat) := lw_privs_1 ++ (lw_privs_2 ++ (lw_privs_3 ++ (lw_privs_4 ++ (lw_privs_5))))
def lw_tbl : List Cond := k2_sels lw_privs ++ tables_1
theorem lw_privs_ok : ∀ q ∈ lw_privs, lw_okq q := by
  show ∀ q ∈ lw_privs_1 ++ (lw_privs_2 ++ (lw_privs_3 ++ (lw_privs_4 ++ (lw_privs_5)))), lw_okq q
  exact List.forall_mem_append.mpr ⟨lw_r1, List.forall_mem_append.mpr ⟨lw_r2, List.forall_mem_append.mpr ⟨lw_r3, List.forall_mem_append.mpr ⟨lw_r4, lw_r5⟩⟩⟩⟩
def RX0 : String := "PrintSpooler$Document"
def TX0 : u_T := fun k => match k with
  | 0 => ("PrintSpooler$Document", "pages", "I", true)
  | 1 => ("PrintSpooler$Document", "size", "I", true)
  | 2 => ("PrintSpooler$Document", "base", "I", true)
  | 3 => ("PrintSpooler$Document", "step", "I", true)
  | _ => ("PrintSpooler$Document", "span", "I", true)
def tyX0 : Nat → FieldType := fun k => match k with
  | 0 => .int
  | 1 => .int
  | 2 => .int
  | 3 => .int
  | _ => .int
abbrev wsX00 : List Cond := u_ws RX0 TX0 5
theorem nmX0 : ∀ a, a < 5 → ∀ b, b < 5 → a ≠ b → (TX0 a).2.1 ≠ (TX0 b).2.1 := by decide +kernel
theorem tyX0_ok : ∀ k, k < 5 → parseFieldDescriptor (TX0 k).2.2.1 = some (tyX0 k) := by decide +kernel
abbrev cX0_init : ByteArray := prog_2_method_1_code
def yX0_init : MethodName := ⟨RX0, "<init>", "(IIIII)V"⟩
abbrev cX0_weightOf : ByteArray := prog_2_method_2_code
def yX0_weightOf : MethodName := ⟨RX0, "weightOf", "(I)I"⟩
def RX1 : String := "PrintSpooler$Job"
def TX1 : u_T := fun k => match k with
  | 0 => ("PrintSpooler$Job", "number", "I", true)
  | 1 => ("PrintSpooler$Job", "plan", "LPrintSpooler$Plan;", false)
  | 2 => ("PrintSpooler$Job", "priority", "I", false)
  | 3 => ("PrintSpooler$Job", "state", "I", false)
  | 4 => ("PrintSpooler$Job", "next", "I", false)
  | 5 => ("PrintSpooler$Job", "since", "I", false)
  | _ => ("PrintSpooler$Job", "request", "I", false)
def tyX1 : Nat → FieldType := fun k => match k with
  | 0 => .int
  | 1 => .object "PrintSpooler$Plan"
  | 2 => .int
  | 3 => .int
  | 4 => .int
  | 5 => .int
  | _ => .int
abbrev wsX10 : List Cond := u_ws RX1 TX1 7
theorem nmX1 : ∀ a, a < 7 → ∀ b, b < 7 → a ≠ b → (TX1 a).2.1 ≠ (TX1 b).2.1 := by decide +kernel
theorem tyX1_ok : ∀ k, k < 7 → parseFieldDescriptor (TX1 k).2.2.1 = some (tyX1 k) := by decide +kernel
abbrev cX1_init : ByteArray := prog_3_method_1_code
def yX1_init : MethodName := ⟨RX1, "<init>", "(ILPrintSpooler$Plan;)V"⟩
abbrev cX1_beginLife : ByteArray := prog_3_method_2_code
def yX1_beginLife : MethodName := ⟨RX1, "beginLife", "(LPrintSpooler$Plan;II)V"⟩
abbrev cX1_awaitFrom : ByteArray := prog_3_method_3_code
def yX1_awaitFrom : MethodName := ⟨RX1, "awaitFrom", "(I)V"⟩
abbrev cX1_isOver : ByteArray := prog_3_method_4_code
def yX1_isOver : MethodName := ⟨RX1, "isOver", "()Z"⟩
abbrev cX1_rankAt : ByteArray := prog_3_method_5_code
def yX1_rankAt : MethodName := ⟨RX1, "rankAt", "(II)I"⟩
abbrev cX1_demand : ByteArray := prog_3_method_6_code
def yX1_demand : MethodName := ⟨RX1, "demand", "(I)V"⟩
abbrev cX1_stopPrinting : ByteArray := prog_3_method_7_code
def yX1_stopPrinting : MethodName := ⟨RX1, "stopPrinting", "(I)V"⟩
abbrev cX1_copyFrom : ByteArray := prog_3_method_8_code
def yX1_copyFrom : MethodName := ⟨RX1, "copyFrom", "(LPrintSpooler$Job;)V"⟩
def RX2 : String := "PrintSpooler$Journal"
def TX2 : u_T := fun k => match k with
  | 0 => ("PrintSpooler$Journal", "rows", "[I", true)
  | _ => ("PrintSpooler$Journal", "total", "I", false)
def tyX2 : Nat → FieldType := fun k => match k with
  | 0 => .array .int
  | _ => .int
abbrev wsX20 : List Cond := u_ws RX2 TX2 2
theorem nmX2 : ∀ a, a < 2 → ∀ b, b < 2 → a ≠ b → (TX2 a).2.1 ≠ (TX2 b).2.1 := by decide +kernel
theorem tyX2_ok : ∀ k, k < 2 → parseFieldDescriptor (TX2 k).2.2.1 = some (tyX2 k) := by decide +kernel
abbrev cX2_init : ByteArray := prog_4_method_1_code
def yX2_init : MethodName := ⟨RX2, "<init>", "()V"⟩
abbrev cX2_write : ByteArray := prog_4_method_2_code
def yX2_write : MethodName := ⟨RX2, "write", "(IIII)V"⟩
abbrev cX2_has : ByteArray := prog_4_method_3_code
def yX2_has : MethodName := ⟨RX2, "has", "(I)Z"⟩
abbrev cX2_read : ByteArray := prog_4_method_4_code
def yX2_read : MethodName := ⟨RX2, "read", "(II)I"⟩
abbrev cX2_put : ByteArray := prog_4_method_5_code
def yX2_put : MethodName := ⟨RX2, "put", "(III)V"⟩
abbrev cX2_cellOf : ByteArray := prog_4_method_6_code
def yX2_cellOf : MethodName := ⟨RX2, "cellOf", "(II)I"⟩
abbrev cX2_copyFrom : ByteArray := prog_4_method_7_code
def yX2_copyFrom : MethodName := ⟨RX2, "copyFrom", "(LPrintSpooler$Journal;)V"⟩
def RX3 : String := "PrintSpooler$PageList"
def TX3 : u_T := fun k => match k with
  | 0 => ("PrintSpooler$PageList", "pages", "[I", true)
  | 1 => ("PrintSpooler$PageList", "size", "I", false)
  | _ => ("PrintSpooler$PageList", "overfull", "Z", false)
def tyX3 : Nat → FieldType := fun k => match k with
  | 0 => .array .int
  | 1 => .int
  | _ => .boolean
abbrev wsX30 : List Cond := u_ws RX3 TX3 3
theorem nmX3 : ∀ a, a < 3 → ∀ b, b < 3 → a ≠ b → (TX3 a).2.1 ≠ (TX3 b).2.1 := by decide +kernel
theorem tyX3_ok : ∀ k, k < 3 → parseFieldDescriptor (TX3 k).2.2.1 = some (tyX3 k) := by decide +kernel
abbrev cX3_init : ByteArray := prog_5_method_1_code
def yX3_init : MethodName := ⟨RX3, "<init>", "()V"⟩
abbrev cX3_empty : ByteArray := prog_5_method_2_code
def yX3_empty : MethodName := ⟨RX3, "empty", "()V"⟩
abbrev cX3_has : ByteArray := prog_5_method_3_code
def yX3_has : MethodName := ⟨RX3, "has", "(I)Z"⟩
abbrev cX3_pageAt : ByteArray := prog_5_method_4_code
def yX3_pageAt : MethodName := ⟨RX3, "pageAt", "(I)I"⟩
abbrev cX3_copyOfPages : ByteArray := prog_5_method_5_code
def yX3_copyOfPages : MethodName := ⟨RX3, "copyOfPages", "()[I"⟩
abbrev cX3_appendSpan : ByteArray := prog_5_method_6_code
def yX3_appendSpan : MethodName := ⟨RX3, "appendSpan", "(IIII)V"⟩
abbrev cX3_appendIf : ByteArray := prog_5_method_7_code
def yX3_appendIf : MethodName := ⟨RX3, "appendIf", "(II)V"⟩
abbrev cX3_removeSpan : ByteArray := prog_5_method_8_code
def yX3_removeSpan : MethodName := ⟨RX3, "removeSpan", "(III)V"⟩
abbrev cX3_matches : ByteArray := prog_5_method_9_code
def yX3_matches : MethodName := ⟨RX3, "matches", "(II)Z"⟩
def RX4 : String := "PrintSpooler$Plan"
def TX4 : u_T := fun k => match k with
  | 0 => ("PrintSpooler$Plan", "paper", "LPrintSpooler$Document;", true)
  | 1 => ("PrintSpooler$Plan", "document", "I", true)
  | 2 => ("PrintSpooler$Plan", "pages", "[I", true)
  | 3 => ("PrintSpooler$Plan", "copies", "I", true)
  | 4 => ("PrintSpooler$Plan", "collate", "I", true)
  | 5 => ("PrintSpooler$Plan", "sides", "I", true)
  | 6 => ("PrintSpooler$Plan", "layout", "I", true)
  | 7 => ("PrintSpooler$Plan", "user", "I", true)
  | 8 => ("PrintSpooler$Plan", "booklet", "Z", true)
  | 9 => ("PrintSpooler$Plan", "twoSided", "Z", true)
  | 10 => ("PrintSpooler$Plan", "perSide", "I", true)
  | 11 => ("PrintSpooler$Plan", "sheetsPerCopy", "I", true)
  | _ => ("PrintSpooler$Plan", "loads", "[I", true)
def tyX4 : Nat → FieldType := fun k => match k with
  | 0 => .object "PrintSpooler$Document"
  | 1 => .int
  | 2 => .array .int
  | 3 => .int
  | 4 => .int
  | 5 => .int
  | 6 => .int
  | 7 => .int
  | 8 => .boolean
  | 9 => .boolean
  | 10 => .int
  | 11 => .int
  | _ => .array .int
abbrev wsX40 : List Cond := u_ws RX4 TX4 13
theorem nmX4 : ∀ a, a < 13 → ∀ b, b < 13 → a ≠ b → (TX4 a).2.1 ≠ (TX4 b).2.1 := by decide +kernel
theorem tyX4_ok : ∀ k, k < 13 → parseFieldDescriptor (TX4 k).2.2.1 = some (tyX4 k) := by decide +kernel
abbrev cX4_init : ByteArray := prog_6_method_1_code
def yX4_init : MethodName := ⟨RX4, "<init>", "(LPrintSpooler$Document;I[ILPrintSpooler$Spool;)V"⟩
abbrev cX4_sheets : ByteArray := prog_6_method_2_code
def yX4_sheets : MethodName := ⟨RX4, "sheets", "()I"⟩
abbrev cX4_hasSheet : ByteArray := prog_6_method_3_code
def yX4_hasSheet : MethodName := ⟨RX4, "hasSheet", "(I)Z"⟩
abbrev cX4_hasSide : ByteArray := prog_6_method_4_code
def yX4_hasSide : MethodName := ⟨RX4, "hasSide", "(I)Z"⟩
abbrev cX4_sheetOfCopy : ByteArray := prog_6_method_5_code
def yX4_sheetOfCopy : MethodName := ⟨RX4, "sheetOfCopy", "(I)I"⟩
abbrev cX4_pageOn : ByteArray := prog_6_method_6_code
def yX4_pageOn : MethodName := ⟨RX4, "pageOn", "(III)I"⟩
abbrev cX4_indexOn : ByteArray := prog_6_method_7_code
def yX4_indexOn : MethodName := ⟨RX4, "indexOn", "(III)I"⟩
abbrev cX4_placeOf : ByteArray := prog_6_method_8_code
def yX4_placeOf : MethodName := ⟨RX4, "placeOf", "(II)I"⟩
abbrev cX4_turnsBacks : ByteArray := prog_6_method_9_code
def yX4_turnsBacks : MethodName := ⟨RX4, "turnsBacks", "()Z"⟩
abbrev cX4_blankPositions : ByteArray := prog_6_method_10_code
def yX4_blankPositions : MethodName := ⟨RX4, "blankPositions", "()I"⟩
abbrev cX4_loadOn : ByteArray := prog_6_method_11_code
def yX4_loadOn : MethodName := ⟨RX4, "loadOn", "(II)I"⟩
abbrev cX4_loadOfPages : ByteArray := prog_6_method_12_code
def yX4_loadOfPages : MethodName := ⟨RX4, "loadOfPages", "(II)I"⟩
def RX5 : String := "PrintSpooler$Printer"
def TX5 : u_T := fun k => match k with
  | 0 => ("PrintSpooler$Printer", "speed", "I", false)
  | 1 => ("PrintSpooler$Printer", "memory", "I", false)
  | 2 => ("PrintSpooler$Printer", "both", "Z", false)
  | 3 => ("PrintSpooler$Printer", "trays", "[I", true)
  | 4 => ("PrintSpooler$Printer", "state", "I", false)
  | 5 => ("PrintSpooler$Printer", "job", "I", false)
  | 6 => ("PrintSpooler$Printer", "remaining", "I", false)
  | _ => ("PrintSpooler$Printer", "lost", "I", false)
def tyX5 : Nat → FieldType := fun k => match k with
  | 0 => .int
  | 1 => .int
  | 2 => .boolean
  | 3 => .array .int
  | 4 => .int
  | 5 => .int
  | 6 => .int
  | _ => .int
abbrev wsX50 : List Cond := u_ws RX5 TX5 8
theorem nmX5 : ∀ a, a < 8 → ∀ b, b < 8 → a ≠ b → (TX5 a).2.1 ≠ (TX5 b).2.1 := by decide +kernel
theorem tyX5_ok : ∀ k, k < 8 → parseFieldDescriptor (TX5 k).2.2.1 = some (tyX5 k) := by decide +kernel
abbrev cX5_init : ByteArray := prog_7_method_1_code
def yX5_init : MethodName := ⟨RX5, "<init>", "()V"⟩
abbrev cX5_beginLife : ByteArray := prog_7_method_2_code
def yX5_beginLife : MethodName := ⟨RX5, "beginLife", "(IIZ)V"⟩
abbrev cX5_sheetsIn : ByteArray := prog_7_method_3_code
def yX5_sheetsIn : MethodName := ⟨RX5, "sheetsIn", "(I)I"⟩
abbrev cX5_changeTray : ByteArray := prog_7_method_4_code
def yX5_changeTray : MethodName := ⟨RX5, "changeTray", "(II)V"⟩
abbrev cX5_isCoarse : ByteArray := prog_7_method_5_code
def yX5_isCoarse : MethodName := ⟨RX5, "isCoarse", "(I)Z"⟩
abbrev cX5_bandsFor : ByteArray := prog_7_method_6_code
def yX5_bandsFor : MethodName := ⟨RX5, "bandsFor", "(I)I"⟩
abbrev cX5_ticksFor : ByteArray := prog_7_method_7_code
def yX5_ticksFor : MethodName := ⟨RX5, "ticksFor", "(I)I"⟩
abbrev cX5_copyFrom : ByteArray := prog_7_method_8_code
def yX5_copyFrom : MethodName := ⟨RX5, "copyFrom", "(LPrintSpooler$Printer;)V"⟩
def RX6 : String := "PrintSpooler$RangeText"
def TX6 : u_T := fun k => match k with
  | 0 => ("PrintSpooler$RangeText", "characters", "[I", true)
  | 1 => ("PrintSpooler$RangeText", "length", "I", false)
  | _ => ("PrintSpooler$RangeText", "reading", "I", false)
def tyX6 : Nat → FieldType := fun k => match k with
  | 0 => .array .int
  | 1 => .int
  | _ => .int
abbrev wsX60 : List Cond := u_ws RX6 TX6 3
theorem nmX6 : ∀ a, a < 3 → ∀ b, b < 3 → a ≠ b → (TX6 a).2.1 ≠ (TX6 b).2.1 := by decide +kernel
theorem tyX6_ok : ∀ k, k < 3 → parseFieldDescriptor (TX6 k).2.2.1 = some (tyX6 k) := by decide +kernel
abbrev cX6_init : ByteArray := prog_8_method_1_code
def yX6_init : MethodName := ⟨RX6, "<init>", "()V"⟩
abbrev cX6_append : ByteArray := prog_8_method_2_code
def yX6_append : MethodName := ⟨RX6, "append", "(I)Z"⟩
abbrev cX6_firstFault : ByteArray := prog_8_method_3_code
def yX6_firstFault : MethodName := ⟨RX6, "firstFault", "()I"⟩
abbrev cX6_expand : ByteArray := prog_8_method_4_code
def yX6_expand : MethodName := ⟨RX6, "expand", "(LPrintSpooler$PageList;I)V"⟩
abbrev cX6_expandItem : ByteArray := prog_8_method_5_code
def yX6_expandItem : MethodName := ⟨RX6, "expandItem", "(LPrintSpooler$PageList;I)V"⟩
abbrev cX6_skip : ByteArray := prog_8_method_6_code
def yX6_skip : MethodName := ⟨RX6, "skip", "(I)Z"⟩
abbrev cX6_readNumber : ByteArray := prog_8_method_7_code
def yX6_readNumber : MethodName := ⟨RX6, "readNumber", "()I"⟩
abbrev cX6_characterAt : ByteArray := prog_8_method_8_code
def yX6_characterAt : MethodName := ⟨RX6, "characterAt", "(I)I"⟩
abbrev cX6_isDigit : ByteArray := prog_8_method_9_code
def yX6_isDigit : MethodName := ⟨RX6, "isDigit", "(I)Z"⟩
abbrev cX6_stateAfter : ByteArray := prog_8_method_10_code
def yX6_stateAfter : MethodName := ⟨RX6, "stateAfter", "(II)I"⟩
abbrev cX6_spanBegins : ByteArray := prog_8_method_11_code
def yX6_spanBegins : MethodName := ⟨RX6, "spanBegins", "(I)I"⟩
abbrev cX6_spanEnds : ByteArray := prog_8_method_12_code
def yX6_spanEnds : MethodName := ⟨RX6, "spanEnds", "(I)I"⟩
abbrev cX6_copyFrom : ByteArray := prog_8_method_13_code
def yX6_copyFrom : MethodName := ⟨RX6, "copyFrom", "(LPrintSpooler$RangeText;)V"⟩
def RX7 : String := "PrintSpooler$ShortestText"
def TX7 : u_T := fun k => match k with
  | 0 => ("PrintSpooler$ShortestText", "lengths", "[I", true)
  | 1 => ("PrintSpooler$ShortestText", "items", "[I", true)
  | 2 => ("PrintSpooler$ShortestText", "takes", "[I", true)
  | 3 => ("PrintSpooler$ShortestText", "characters", "[I", true)
  | _ => ("PrintSpooler$ShortestText", "size", "I", false)
def tyX7 : Nat → FieldType := fun k => match k with
  | 0 => .array .int
  | 1 => .array .int
  | 2 => .array .int
  | 3 => .array .int
  | _ => .int
abbrev wsX70 : List Cond := u_ws RX7 TX7 5
theorem nmX7 : ∀ a, a < 5 → ∀ b, b < 5 → a ≠ b → (TX7 a).2.1 ≠ (TX7 b).2.1 := by decide +kernel
theorem tyX7_ok : ∀ k, k < 5 → parseFieldDescriptor (TX7 k).2.2.1 = some (tyX7 k) := by decide +kernel
abbrev cX7_init : ByteArray := prog_9_method_1_code
def yX7_init : MethodName := ⟨RX7, "<init>", "()V"⟩
abbrev cX7_describe : ByteArray := prog_9_method_2_code
def yX7_describe : MethodName := ⟨RX7, "describe", "([I)V"⟩
abbrev cX7_itemCount : ByteArray := prog_9_method_3_code
def yX7_itemCount : MethodName := ⟨RX7, "itemCount", "()I"⟩
abbrev cX7_has : ByteArray := prog_9_method_4_code
def yX7_has : MethodName := ⟨RX7, "has", "(I)Z"⟩
abbrev cX7_characterAt : ByteArray := prog_9_method_5_code
def yX7_characterAt : MethodName := ⟨RX7, "characterAt", "(I)I"⟩
abbrev cX7_chooseFirstItem : ByteArray := prog_9_method_6_code
def yX7_chooseFirstItem : MethodName := ⟨RX7, "chooseFirstItem", "([IIII)V"⟩
abbrev cX7_compare : ByteArray := prog_9_method_7_code
def yX7_compare : MethodName := ⟨RX7, "compare", "([IIII)V"⟩
abbrev cX7_itemLength : ByteArray := prog_9_method_8_code
def yX7_itemLength : MethodName := ⟨RX7, "itemLength", "(III)I"⟩
abbrev cX7_isSpaced : ByteArray := prog_9_method_9_code
def yX7_isSpaced : MethodName := ⟨RX7, "isSpaced", "(III)Z"⟩
abbrev cX7_digits : ByteArray := prog_9_method_10_code
def yX7_digits : MethodName := ⟨RX7, "digits", "(I)I"⟩
abbrev cX7_write : ByteArray := prog_9_method_11_code
def yX7_write : MethodName := ⟨RX7, "write", "([II)V"⟩
abbrev cX7_writeItem : ByteArray := prog_9_method_12_code
def yX7_writeItem : MethodName := ⟨RX7, "writeItem", "(III)V"⟩
abbrev cX7_putNumber : ByteArray := prog_9_method_13_code
def yX7_putNumber : MethodName := ⟨RX7, "putNumber", "(I)V"⟩
abbrev cX7_put : ByteArray := prog_9_method_14_code
def yX7_put : MethodName := ⟨RX7, "put", "(I)V"⟩
def RX8 : String := "PrintSpooler$Spool"
def TX8 : u_T := fun k => match k with
  | 0 => ("PrintSpooler$Spool", "documents", "[LPrintSpooler$Document;", true)
  | 1 => ("PrintSpooler$Spool", "documentCount", "I", false)
  | 2 => ("PrintSpooler$Spool", "jobs", "[LPrintSpooler$Job;", true)
  | 3 => ("PrintSpooler$Spool", "jobCount", "I", false)
  | 4 => ("PrintSpooler$Spool", "printers", "[LPrintSpooler$Printer;", true)
  | 5 => ("PrintSpooler$Spool", "printerCount", "I", false)
  | 6 => ("PrintSpooler$Spool", "text", "LPrintSpooler$RangeText;", true)
  | 7 => ("PrintSpooler$Spool", "settings", "[I", true)
  | 8 => ("PrintSpooler$Spool", "quotas", "[I", true)
  | 9 => ("PrintSpooler$Spool", "printedBy", "[I", true)
  | 10 => ("PrintSpooler$Spool", "journal", "LPrintSpooler$Journal;", true)
  | 11 => ("PrintSpooler$Spool", "doneOrder", "[I", true)
  | 12 => ("PrintSpooler$Spool", "doneCount", "I", false)
  | 13 => ("PrintSpooler$Spool", "aging", "I", false)
  | 14 => ("PrintSpooler$Spool", "margin", "I", false)
  | 15 => ("PrintSpooler$Spool", "time", "I", false)
  | _ => ("PrintSpooler$Spool", "isSaved", "Z", false)
def tyX8 : Nat → FieldType := fun k => match k with
  | 0 => .array (.object "PrintSpooler$Document")
  | 1 => .int
  | 2 => .array (.object "PrintSpooler$Job")
  | 3 => .int
  | 4 => .array (.object "PrintSpooler$Printer")
  | 5 => .int
  | 6 => .object "PrintSpooler$RangeText"
  | 7 => .array .int
  | 8 => .array .int
  | 9 => .array .int
  | 10 => .object "PrintSpooler$Journal"
  | 11 => .array .int
  | 12 => .int
  | 13 => .int
  | 14 => .int
  | 15 => .int
  | _ => .boolean
abbrev wsX80 : List Cond := u_ws RX8 TX8 17
theorem nmX8 : ∀ a, a < 17 → ∀ b, b < 17 → a ≠ b → (TX8 a).2.1 ≠ (TX8 b).2.1 := by decide +kernel
theorem tyX8_ok : ∀ k, k < 17 → parseFieldDescriptor (TX8 k).2.2.1 = some (tyX8 k) := by decide +kernel
abbrev cX8_init : ByteArray := prog_10_method_1_code
def yX8_init : MethodName := ⟨RX8, "<init>", "()V"⟩
abbrev cX8_documentAt : ByteArray := prog_10_method_2_code
def yX8_documentAt : MethodName := ⟨RX8, "documentAt", "(I)LPrintSpooler$Document;"⟩
abbrev cX8_jobAt : ByteArray := prog_10_method_3_code
def yX8_jobAt : MethodName := ⟨RX8, "jobAt", "(I)LPrintSpooler$Job;"⟩
abbrev cX8_printerAt : ByteArray := prog_10_method_4_code
def yX8_printerAt : MethodName := ⟨RX8, "printerAt", "(I)LPrintSpooler$Printer;"⟩
abbrev cX8_keepDocument : ByteArray := prog_10_method_5_code
def yX8_keepDocument : MethodName := ⟨RX8, "keepDocument", "(LPrintSpooler$Document;)I"⟩
abbrev cX8_keepJob : ByteArray := prog_10_method_6_code
def yX8_keepJob : MethodName := ⟨RX8, "keepJob", "(LPrintSpooler$Plan;)I"⟩
abbrev cX8_keepPrinter : ByteArray := prog_10_method_7_code
def yX8_keepPrinter : MethodName := ⟨RX8, "keepPrinter", "(IIZ)I"⟩
abbrev cX8_settingAt : ByteArray := prog_10_method_8_code
def yX8_settingAt : MethodName := ⟨RX8, "settingAt", "(I)I"⟩
abbrev cX8_changeSetting : ByteArray := prog_10_method_9_code
def yX8_changeSetting : MethodName := ⟨RX8, "changeSetting", "(II)V"⟩
abbrev cX8_quotaOf : ByteArray := prog_10_method_10_code
def yX8_quotaOf : MethodName := ⟨RX8, "quotaOf", "(I)I"⟩
abbrev cX8_changeQuota : ByteArray := prog_10_method_11_code
def yX8_changeQuota : MethodName := ⟨RX8, "changeQuota", "(II)V"⟩
abbrev cX8_printedFor : ByteArray := prog_10_method_12_code
def yX8_printedFor : MethodName := ⟨RX8, "printedFor", "(I)I"⟩
abbrev cX8_waitingJobs : ByteArray := prog_10_method_13_code
def yX8_waitingJobs : MethodName := ⟨RX8, "waitingJobs", "()I"⟩
abbrev cX8_loseSheet : ByteArray := prog_10_method_14_code
def yX8_loseSheet : MethodName := ⟨RX8, "loseSheet", "(LPrintSpooler$Printer;)V"⟩
abbrev cX8_pass : ByteArray := prog_10_method_15_code
def yX8_pass : MethodName := ⟨RX8, "pass", "(I)V"⟩
abbrev cX8_ticksUntilDone : ByteArray := prog_10_method_16_code
def yX8_ticksUntilDone : MethodName := ⟨RX8, "ticksUntilDone", "(II)I"⟩
abbrev cX8_jobFinishedAs : ByteArray := prog_10_method_17_code
def yX8_jobFinishedAs : MethodName := ⟨RX8, "jobFinishedAs", "(II)I"⟩
abbrev cX8_passTick : ByteArray := prog_10_method_18_code
def yX8_passTick : MethodName := ⟨RX8, "passTick", "()V"⟩
abbrev cX8_skipQuietTicks : ByteArray := prog_10_method_19_code
def yX8_skipQuietTicks : MethodName := ⟨RX8, "skipQuietTicks", "(I)I"⟩
abbrev cX8_endSheet : ByteArray := prog_10_method_20_code
def yX8_endSheet : MethodName := ⟨RX8, "endSheet", "(ILPrintSpooler$Printer;)V"⟩
abbrev cX8_countFor : ByteArray := prog_10_method_21_code
def yX8_countFor : MethodName := ⟨RX8, "countFor", "(I)V"⟩
abbrev cX8_markDone : ByteArray := prog_10_method_22_code
def yX8_markDone : MethodName := ⟨RX8, "markDone", "(LPrintSpooler$Job;)V"⟩
abbrev cX8_isOutranked : ByteArray := prog_10_method_23_code
def yX8_isOutranked : MethodName := ⟨RX8, "isOutranked", "(LPrintSpooler$Job;LPrintSpooler$Job;)Z"⟩
abbrev cX8_beginSheet : ByteArray := prog_10_method_24_code
def yX8_beginSheet : MethodName := ⟨RX8, "beginSheet", "(LPrintSpooler$Printer;LPrintSpooler$Job;)V"⟩
abbrev cX8_bestFor : ByteArray := prog_10_method_25_code
def yX8_bestFor : MethodName := ⟨RX8, "bestFor", "(LPrintSpooler$Printer;)LPrintSpooler$Job;"⟩
abbrev cX8_isPrintable : ByteArray := prog_10_method_26_code
def yX8_isPrintable : MethodName := ⟨RX8, "isPrintable", "(LPrintSpooler$Printer;LPrintSpooler$Job;)Z"⟩
abbrev cX8_hasSupply : ByteArray := prog_10_method_27_code
def yX8_hasSupply : MethodName := ⟨RX8, "hasSupply", "(LPrintSpooler$Printer;LPrintSpooler$Plan;)Z"⟩
abbrev cX8_copyFrom : ByteArray := prog_10_method_28_code
def yX8_copyFrom : MethodName := ⟨RX8, "copyFrom", "(LPrintSpooler$Spool;)V"⟩
abbrev cX8_copyJobs : ByteArray := prog_10_method_29_code
def yX8_copyJobs : MethodName := ⟨RX8, "copyJobs", "(LPrintSpooler$Spool;)V"⟩
abbrev cX8_copyPrinters : ByteArray := prog_10_method_30_code
def yX8_copyPrinters : MethodName := ⟨RX8, "copyPrinters", "(LPrintSpooler$Spool;)V"⟩
def RX9 : String := "PrintSpooler"
def TX9 : u_T := fun k => match k with
  | 0 => ("PrintSpooler", "spool", "LPrintSpooler$Spool;", true)
  | 1 => ("PrintSpooler", "trial", "LPrintSpooler$Spool;", true)
  | 2 => ("PrintSpooler", "slots", "[LPrintSpooler$Spool;", true)
  | 3 => ("PrintSpooler", "gathered", "LPrintSpooler$PageList;", true)
  | _ => ("PrintSpooler", "shortest", "LPrintSpooler$ShortestText;", true)
def tyX9 : Nat → FieldType := fun k => match k with
  | 0 => .object "PrintSpooler$Spool"
  | 1 => .object "PrintSpooler$Spool"
  | 2 => .array (.object "PrintSpooler$Spool")
  | 3 => .object "PrintSpooler$PageList"
  | _ => .object "PrintSpooler$ShortestText"
abbrev wsX90 : List Cond := u_ws RX9 TX9 5
theorem nmX9 : ∀ a, a < 5 → ∀ b, b < 5 → a ≠ b → (TX9 a).2.1 ≠ (TX9 b).2.1 := by decide +kernel
theorem tyX9_ok : ∀ k, k < 5 → parseFieldDescriptor (TX9 k).2.2.1 = some (tyX9 k) := by decide +kernel
abbrev cX9_init : ByteArray := prog_1_method_1_code
def yX9_init : MethodName := ⟨RX9, "<init>", "()V"⟩
abbrev cX9_addDocument : ByteArray := prog_1_method_2_code
def yX9_addDocument : MethodName := ⟨RX9, "addDocument", "(IIIII)I"⟩
abbrev cX9_weight : ByteArray := prog_1_method_3_code
def yX9_weight : MethodName := ⟨RX9, "weight", "(II)I"⟩
abbrev cX9_say : ByteArray := prog_1_method_4_code
def yX9_say : MethodName := ⟨RX9, "say", "(I)I"⟩
abbrev cX9_wipe : ByteArray := prog_1_method_5_code
def yX9_wipe : MethodName := ⟨RX9, "wipe", "()I"⟩
abbrev cX9_fault : ByteArray := prog_1_method_6_code
def yX9_fault : MethodName := ⟨RX9, "fault", "()I"⟩
abbrev cX9_listed : ByteArray := prog_1_method_7_code
def yX9_listed : MethodName := ⟨RX9, "listed", "(II)I"⟩
abbrev cX9_set : ByteArray := prog_1_method_8_code
def yX9_set : MethodName := ⟨RX9, "set", "(II)I"⟩
abbrev cX9_submit : ByteArray := prog_1_method_9_code
def yX9_submit : MethodName := ⟨RX9, "submit", "(I)I"⟩
abbrev cX9_about : ByteArray := prog_1_method_10_code
def yX9_about : MethodName := ⟨RX9, "about", "(II)I"⟩
abbrev cX9_page : ByteArray := prog_1_method_11_code
def yX9_page : MethodName := ⟨RX9, "page", "(IIII)I"⟩
abbrev cX9_turned : ByteArray := prog_1_method_12_code
def yX9_turned : MethodName := ⟨RX9, "turned", "(II)I"⟩
abbrev cX9_blanks : ByteArray := prog_1_method_13_code
def yX9_blanks : MethodName := ⟨RX9, "blanks", "(I)I"⟩
abbrev cX9_where : ByteArray := prog_1_method_14_code
def yX9_where : MethodName := ⟨RX9, "where", "(III)I"⟩
abbrev cX9_canonical : ByteArray := prog_1_method_15_code
def yX9_canonical : MethodName := ⟨RX9, "canonical", "(II)I"⟩
abbrev cX9_addPrinter : ByteArray := prog_1_method_16_code
def yX9_addPrinter : MethodName := ⟨RX9, "addPrinter", "(III)I"⟩
abbrev cX9_fill : ByteArray := prog_1_method_17_code
def yX9_fill : MethodName := ⟨RX9, "fill", "(III)I"⟩
abbrev cX9_printer : ByteArray := prog_1_method_18_code
def yX9_printer : MethodName := ⟨RX9, "printer", "(II)I"⟩
abbrev cX9_side : ByteArray := prog_1_method_19_code
def yX9_side : MethodName := ⟨RX9, "side", "(IIIII)I"⟩
abbrev cX9_duration : ByteArray := prog_1_method_20_code
def yX9_duration : MethodName := ⟨RX9, "duration", "(II)I"⟩
abbrev cX9_setRules : ByteArray := prog_1_method_21_code
def yX9_setRules : MethodName := ⟨RX9, "setRules", "(II)I"⟩
abbrev cX9_setQuota : ByteArray := prog_1_method_22_code
def yX9_setQuota : MethodName := ⟨RX9, "setQuota", "(II)I"⟩
abbrev cX9_promote : ByteArray := prog_1_method_23_code
def yX9_promote : MethodName := ⟨RX9, "promote", "(II)I"⟩
abbrev cX9_hold : ByteArray := prog_1_method_24_code
def yX9_hold : MethodName := ⟨RX9, "hold", "(I)I"⟩
abbrev cX9_release : ByteArray := prog_1_method_25_code
def yX9_release : MethodName := ⟨RX9, "release", "(I)I"⟩
abbrev cX9_cancel : ByteArray := prog_1_method_26_code
def yX9_cancel : MethodName := ⟨RX9, "cancel", "(I)I"⟩
abbrev cX9_jam : ByteArray := prog_1_method_27_code
def yX9_jam : MethodName := ⟨RX9, "jam", "(I)I"⟩
abbrev cX9_clear : ByteArray := prog_1_method_28_code
def yX9_clear : MethodName := ⟨RX9, "clear", "(I)I"⟩
abbrev cX9_advance : ByteArray := prog_1_method_29_code
def yX9_advance : MethodName := ⟨RX9, "advance", "(I)I"⟩
abbrev cX9_log : ByteArray := prog_1_method_30_code
def yX9_log : MethodName := ⟨RX9, "log", "(II)I"⟩
abbrev cX9_printed : ByteArray := prog_1_method_31_code
def yX9_printed : MethodName := ⟨RX9, "printed", "(I)I"⟩
abbrev cX9_finish : ByteArray := prog_1_method_32_code
def yX9_finish : MethodName := ⟨RX9, "finish", "(II)I"⟩
abbrev cX9_urgency : ByteArray := prog_1_method_33_code
def yX9_urgency : MethodName := ⟨RX9, "urgency", "(II)I"⟩
abbrev cX9_finisher : ByteArray := prog_1_method_34_code
def yX9_finisher : MethodName := ⟨RX9, "finisher", "(II)I"⟩
abbrev cX9_count : ByteArray := prog_1_method_35_code
def yX9_count : MethodName := ⟨RX9, "count", "(I)I"⟩
abbrev cX9_save : ByteArray := prog_1_method_36_code
def yX9_save : MethodName := ⟨RX9, "save", "(I)I"⟩
abbrev cX9_restore : ByteArray := prog_1_method_37_code
def yX9_restore : MethodName := ⟨RX9, "restore", "(I)I"⟩
abbrev cX9_within : ByteArray := prog_1_method_38_code
def yX9_within : MethodName := ⟨RX9, "within", "(III)Z"⟩
abbrev cX9_isAllowed : ByteArray := prog_1_method_39_code
def yX9_isAllowed : MethodName := ⟨RX9, "isAllowed", "(II)Z"⟩
abbrev cX9_slotAt : ByteArray := prog_1_method_40_code
def yX9_slotAt : MethodName := ⟨RX9, "slotAt", "(I)LPrintSpooler$Spool;"⟩
abbrev cX9_gather : ByteArray := prog_1_method_41_code
def yX9_gather : MethodName := ⟨RX9, "gather", "(LPrintSpooler$Document;)I"⟩
def RX10 : String := "PrintSpoolerModel"
def TX10 : u_T := fun k => match k with
  | 0 => ("PrintSpoolerModel", "at", "[I", true)
  | 1 => ("PrintSpoolerModel", "aside", "[I", true)
  | 2 => ("PrintSpoolerModel", "lists", "[I", true)
  | 3 => ("PrintSpoolerModel", "slots", "[I", true)
  | 4 => ("PrintSpoolerModel", "slotLists", "[I", true)
  | 5 => ("PrintSpoolerModel", "isSaved", "[Z", true)
  | 6 => ("PrintSpoolerModel", "place", "I", false)
  | 7 => ("PrintSpoolerModel", "isBroken", "Z", false)
  | 8 => ("PrintSpoolerModel", "takesOut", "Z", false)
  | 9 => ("PrintSpoolerModel", "first", "I", false)
  | 10 => ("PrintSpoolerModel", "last", "I", false)
  | 11 => ("PrintSpoolerModel", "half", "I", false)
  | 12 => ("PrintSpoolerModel", "work", "[I", true)
  | 13 => ("PrintSpoolerModel", "worked", "I", false)
  | 14 => ("PrintSpoolerModel", "costs", "[I", true)
  | 15 => ("PrintSpoolerModel", "items", "[I", true)
  | 16 => ("PrintSpoolerModel", "takes", "[I", true)
  | 17 => ("PrintSpoolerModel", "load", "I", false)
  | 18 => ("PrintSpoolerModel", "bands", "I", false)
  | 19 => ("PrintSpoolerModel", "isCoarse", "Z", false)
  | 20 => ("PrintSpoolerModel", "finished", "[I", true)
  | _ => ("PrintSpoolerModel", "finishes", "I", false)
def tyX10 : Nat → FieldType := fun k => match k with
  | 0 => .array .int
  | 1 => .array .int
  | 2 => .array .int
  | 3 => .array .int
  | 4 => .array .int
  | 5 => .array .boolean
  | 6 => .int
  | 7 => .boolean
  | 8 => .boolean
  | 9 => .int
  | 10 => .int
  | 11 => .int
  | 12 => .array .int
  | 13 => .int
  | 14 => .array .int
  | 15 => .array .int
  | 16 => .array .int
  | 17 => .int
  | 18 => .int
  | 19 => .boolean
  | 20 => .array .int
  | _ => .int
abbrev wsX100 : List Cond := u_ws RX10 TX10 22
theorem nmX10 : ∀ a, a < 22 → ∀ b, b < 22 → a ≠ b → (TX10 a).2.1 ≠ (TX10 b).2.1 := by decide +kernel
theorem tyX10_ok : ∀ k, k < 22 → parseFieldDescriptor (TX10 k).2.2.1 = some (tyX10 k) := by decide +kernel
abbrev cX10_init : ByteArray := prog_12_method_1_code
def yX10_init : MethodName := ⟨RX10, "<init>", "()V"⟩
abbrev cX10_in : ByteArray := prog_12_method_2_code
def yX10_in : MethodName := ⟨RX10, "in", "(III)Z"⟩
abbrev cX10_isDocument : ByteArray := prog_12_method_3_code
def yX10_isDocument : MethodName := ⟨RX10, "isDocument", "(I)Z"⟩
abbrev cX10_isJob : ByteArray := prog_12_method_4_code
def yX10_isJob : MethodName := ⟨RX10, "isJob", "(I)Z"⟩
abbrev cX10_isPrinter : ByteArray := prog_12_method_5_code
def yX10_isPrinter : MethodName := ⟨RX10, "isPrinter", "(I)Z"⟩
abbrev cX10_isUser : ByteArray := prog_12_method_6_code
def yX10_isUser : MethodName := ⟨RX10, "isUser", "(I)Z"⟩
abbrev cX10_ofDocument : ByteArray := prog_12_method_7_code
def yX10_ofDocument : MethodName := ⟨RX10, "ofDocument", "(II)I"⟩
abbrev cX10_ofJob : ByteArray := prog_12_method_8_code
def yX10_ofJob : MethodName := ⟨RX10, "ofJob", "(II)I"⟩
abbrev cX10_setJob : ByteArray := prog_12_method_9_code
def yX10_setJob : MethodName := ⟨RX10, "setJob", "(III)V"⟩
abbrev cX10_ofPrinter : ByteArray := prog_12_method_10_code
def yX10_ofPrinter : MethodName := ⟨RX10, "ofPrinter", "(II)I"⟩
abbrev cX10_setPrinter : ByteArray := prog_12_method_11_code
def yX10_setPrinter : MethodName := ⟨RX10, "setPrinter", "(III)V"⟩
abbrev cX10_addDocument : ByteArray := prog_12_method_12_code
def yX10_addDocument : MethodName := ⟨RX10, "addDocument", "(IIIII)I"⟩
abbrev cX10_weightOf : ByteArray := prog_12_method_13_code
def yX10_weightOf : MethodName := ⟨RX10, "weightOf", "(II)I"⟩
abbrev cX10_weight : ByteArray := prog_12_method_14_code
def yX10_weight : MethodName := ⟨RX10, "weight", "(II)I"⟩
abbrev cX10_say : ByteArray := prog_12_method_15_code
def yX10_say : MethodName := ⟨RX10, "say", "(I)I"⟩
abbrev cX10_wipe : ByteArray := prog_12_method_16_code
def yX10_wipe : MethodName := ⟨RX10, "wipe", "()I"⟩
abbrev cX10_signAt : ByteArray := prog_12_method_17_code
def yX10_signAt : MethodName := ⟨RX10, "signAt", "(I)I"⟩
abbrev cX10_isDigit : ByteArray := prog_12_method_18_code
def yX10_isDigit : MethodName := ⟨RX10, "isDigit", "(II)Z"⟩
abbrev cX10_isHalf : ByteArray := prog_12_method_19_code
def yX10_isHalf : MethodName := ⟨RX10, "isHalf", "(I)Z"⟩
abbrev cX10_readNumber : ByteArray := prog_12_method_20_code
def yX10_readNumber : MethodName := ⟨RX10, "readNumber", "()I"⟩
abbrev cX10_readItem : ByteArray := prog_12_method_21_code
def yX10_readItem : MethodName := ⟨RX10, "readItem", "()V"⟩
abbrev cX10_faultOf : ByteArray := prog_12_method_22_code
def yX10_faultOf : MethodName := ⟨RX10, "faultOf", "()I"⟩
abbrev cX10_fault : ByteArray := prog_12_method_23_code
def yX10_fault : MethodName := ⟨RX10, "fault", "()I"⟩
abbrev cX10_isPart : ByteArray := prog_12_method_24_code
def yX10_isPart : MethodName := ⟨RX10, "isPart", "(I)Z"⟩
abbrev cX10_isInItem : ByteArray := prog_12_method_25_code
def yX10_isInItem : MethodName := ⟨RX10, "isInItem", "(II)Z"⟩
abbrev cX10_takeOut : ByteArray := prog_12_method_26_code
def yX10_takeOut : MethodName := ⟨RX10, "takeOut", "(I)V"⟩
abbrev cX10_append : ByteArray := prog_12_method_27_code
def yX10_append : MethodName := ⟨RX10, "append", "(II)V"⟩
abbrev cX10_makeList : ByteArray := prog_12_method_28_code
def yX10_makeList : MethodName := ⟨RX10, "makeList", "(I)Z"⟩
abbrev cX10_listed : ByteArray := prog_12_method_29_code
def yX10_listed : MethodName := ⟨RX10, "listed", "(II)I"⟩
abbrev cX10_isValue : ByteArray := prog_12_method_30_code
def yX10_isValue : MethodName := ⟨RX10, "isValue", "(II)Z"⟩
abbrev cX10_set : ByteArray := prog_12_method_31_code
def yX10_set : MethodName := ⟨RX10, "set", "(II)I"⟩
abbrev cX10_submit : ByteArray := prog_12_method_32_code
def yX10_submit : MethodName := ⟨RX10, "submit", "(I)I"⟩
abbrev cX10_isBooklet : ByteArray := prog_12_method_33_code
def yX10_isBooklet : MethodName := ⟨RX10, "isBooklet", "(I)Z"⟩
abbrev cX10_perSide : ByteArray := prog_12_method_34_code
def yX10_perSide : MethodName := ⟨RX10, "perSide", "(I)I"⟩
abbrev cX10_sidesOf : ByteArray := prog_12_method_35_code
def yX10_sidesOf : MethodName := ⟨RX10, "sidesOf", "(I)I"⟩
abbrev cX10_sheetsOfCopy : ByteArray := prog_12_method_36_code
def yX10_sheetsOfCopy : MethodName := ⟨RX10, "sheetsOfCopy", "(I)I"⟩
abbrev cX10_elementAt : ByteArray := prog_12_method_37_code
def yX10_elementAt : MethodName := ⟨RX10, "elementAt", "(IIII)I"⟩
abbrev cX10_pageAt : ByteArray := prog_12_method_38_code
def yX10_pageAt : MethodName := ⟨RX10, "pageAt", "(IIII)I"⟩
abbrev cX10_rankOf : ByteArray := prog_12_method_39_code
def yX10_rankOf : MethodName := ⟨RX10, "rankOf", "(I)I"⟩
abbrev cX10_about : ByteArray := prog_12_method_40_code
def yX10_about : MethodName := ⟨RX10, "about", "(II)I"⟩
abbrev cX10_isSheet : ByteArray := prog_12_method_41_code
def yX10_isSheet : MethodName := ⟨RX10, "isSheet", "(II)Z"⟩
abbrev cX10_page : ByteArray := prog_12_method_42_code
def yX10_page : MethodName := ⟨RX10, "page", "(IIII)I"⟩
abbrev cX10_turned : ByteArray := prog_12_method_43_code
def yX10_turned : MethodName := ⟨RX10, "turned", "(II)I"⟩
abbrev cX10_blanks : ByteArray := prog_12_method_44_code
def yX10_blanks : MethodName := ⟨RX10, "blanks", "(I)I"⟩
abbrev cX10_where : ByteArray := prog_12_method_45_code
def yX10_where : MethodName := ⟨RX10, "where", "(III)I"⟩
abbrev cX10_figures : ByteArray := prog_12_method_46_code
def yX10_figures : MethodName := ⟨RX10, "figures", "(I)I"⟩
abbrev cX10_signsOf : ByteArray := prog_12_method_47_code
def yX10_signsOf : MethodName := ⟨RX10, "signsOf", "(IIII)I"⟩
abbrev cX10_takeItem : ByteArray := prog_12_method_48_code
def yX10_takeItem : MethodName := ⟨RX10, "takeItem", "(IIII)V"⟩
abbrev cX10_stepAt : ByteArray := prog_12_method_49_code
def yX10_stepAt : MethodName := ⟨RX10, "stepAt", "(II)I"⟩
abbrev cX10_layText : ByteArray := prog_12_method_50_code
def yX10_layText : MethodName := ⟨RX10, "layText", "(I)V"⟩
abbrev cX10_figure : ByteArray := prog_12_method_51_code
def yX10_figure : MethodName := ⟨RX10, "figure", "(II)I"⟩
abbrev cX10_signOf : ByteArray := prog_12_method_52_code
def yX10_signOf : MethodName := ⟨RX10, "signOf", "(III)I"⟩
abbrev cX10_canonical : ByteArray := prog_12_method_53_code
def yX10_canonical : MethodName := ⟨RX10, "canonical", "(II)I"⟩
abbrev cX10_addPrinter : ByteArray := prog_12_method_54_code
def yX10_addPrinter : MethodName := ⟨RX10, "addPrinter", "(III)I"⟩
abbrev cX10_fill : ByteArray := prog_12_method_55_code
def yX10_fill : MethodName := ⟨RX10, "fill", "(III)I"⟩
abbrev cX10_printer : ByteArray := prog_12_method_56_code
def yX10_printer : MethodName := ⟨RX10, "printer", "(II)I"⟩
abbrev cX10_bandsFor : ByteArray := prog_12_method_57_code
def yX10_bandsFor : MethodName := ⟨RX10, "bandsFor", "(II)I"⟩
abbrev cX10_laySide : ByteArray := prog_12_method_58_code
def yX10_laySide : MethodName := ⟨RX10, "laySide", "(IIII)V"⟩
abbrev cX10_side : ByteArray := prog_12_method_59_code
def yX10_side : MethodName := ⟨RX10, "side", "(IIIII)I"⟩
abbrev cX10_ticksFor : ByteArray := prog_12_method_60_code
def yX10_ticksFor : MethodName := ⟨RX10, "ticksFor", "(III)I"⟩
abbrev cX10_duration : ByteArray := prog_12_method_61_code
def yX10_duration : MethodName := ⟨RX10, "duration", "(II)I"⟩
abbrev cX10_setRules : ByteArray := prog_12_method_62_code
def yX10_setRules : MethodName := ⟨RX10, "setRules", "(II)I"⟩
abbrev cX10_setQuota : ByteArray := prog_12_method_63_code
def yX10_setQuota : MethodName := ⟨RX10, "setQuota", "(II)I"⟩
abbrev cX10_isOver : ByteArray := prog_12_method_64_code
def yX10_isOver : MethodName := ⟨RX10, "isOver", "(I)Z"⟩
abbrev cX10_promote : ByteArray := prog_12_method_65_code
def yX10_promote : MethodName := ⟨RX10, "promote", "(II)I"⟩
abbrev cX10_hold : ByteArray := prog_12_method_66_code
def yX10_hold : MethodName := ⟨RX10, "hold", "(I)I"⟩
abbrev cX10_becomeWaiting : ByteArray := prog_12_method_67_code
def yX10_becomeWaiting : MethodName := ⟨RX10, "becomeWaiting", "(I)V"⟩
abbrev cX10_release : ByteArray := prog_12_method_68_code
def yX10_release : MethodName := ⟨RX10, "release", "(I)I"⟩
abbrev cX10_cancel : ByteArray := prog_12_method_69_code
def yX10_cancel : MethodName := ⟨RX10, "cancel", "(I)I"⟩
abbrev cX10_leave : ByteArray := prog_12_method_70_code
def yX10_leave : MethodName := ⟨RX10, "leave", "(I)V"⟩
abbrev cX10_jam : ByteArray := prog_12_method_71_code
def yX10_jam : MethodName := ⟨RX10, "jam", "(I)I"⟩
abbrev cX10_clear : ByteArray := prog_12_method_72_code
def yX10_clear : MethodName := ⟨RX10, "clear", "(I)I"⟩
abbrev cX10_trayFor : ByteArray := prog_12_method_73_code
def yX10_trayFor : MethodName := ⟨RX10, "trayFor", "(II)I"⟩
abbrev cX10_hasQuota : ByteArray := prog_12_method_74_code
def yX10_hasQuota : MethodName := ⟨RX10, "hasQuota", "(I)Z"⟩
abbrev cX10_isPrintable : ByteArray := prog_12_method_75_code
def yX10_isPrintable : MethodName := ⟨RX10, "isPrintable", "(II)Z"⟩
abbrev cX10_bestFor : ByteArray := prog_12_method_76_code
def yX10_bestFor : MethodName := ⟨RX10, "bestFor", "(I)I"⟩
abbrev cX10_begin : ByteArray := prog_12_method_77_code
def yX10_begin : MethodName := ⟨RX10, "begin", "(II)V"⟩
abbrev cX10_record : ByteArray := prog_12_method_78_code
def yX10_record : MethodName := ⟨RX10, "record", "(II)V"⟩
abbrev cX10_endSheet : ByteArray := prog_12_method_79_code
def yX10_endSheet : MethodName := ⟨RX10, "endSheet", "(II)V"⟩
abbrev cX10_tick : ByteArray := prog_12_method_80_code
def yX10_tick : MethodName := ⟨RX10, "tick", "()V"⟩
abbrev cX10_advance : ByteArray := prog_12_method_81_code
def yX10_advance : MethodName := ⟨RX10, "advance", "(I)I"⟩
abbrev cX10_log : ByteArray := prog_12_method_82_code
def yX10_log : MethodName := ⟨RX10, "log", "(II)I"⟩
abbrev cX10_printed : ByteArray := prog_12_method_83_code
def yX10_printed : MethodName := ⟨RX10, "printed", "(I)I"⟩
abbrev cX10_putAside : ByteArray := prog_12_method_84_code
def yX10_putAside : MethodName := ⟨RX10, "putAside", "()V"⟩
abbrev cX10_putBack : ByteArray := prog_12_method_85_code
def yX10_putBack : MethodName := ⟨RX10, "putBack", "()V"⟩
abbrev cX10_finish : ByteArray := prog_12_method_86_code
def yX10_finish : MethodName := ⟨RX10, "finish", "(II)I"⟩
abbrev cX10_isInTime : ByteArray := prog_12_method_87_code
def yX10_isInTime : MethodName := ⟨RX10, "isInTime", "(III)Z"⟩
abbrev cX10_urgency : ByteArray := prog_12_method_88_code
def yX10_urgency : MethodName := ⟨RX10, "urgency", "(II)I"⟩
abbrev cX10_finisher : ByteArray := prog_12_method_89_code
def yX10_finisher : MethodName := ⟨RX10, "finisher", "(II)I"⟩
abbrev cX10_waiting : ByteArray := prog_12_method_90_code
def yX10_waiting : MethodName := ⟨RX10, "waiting", "()I"⟩
abbrev cX10_count : ByteArray := prog_12_method_91_code
def yX10_count : MethodName := ⟨RX10, "count", "(I)I"⟩
abbrev cX10_save : ByteArray := prog_12_method_92_code
def yX10_save : MethodName := ⟨RX10, "save", "(I)I"⟩
abbrev cX10_restore : ByteArray := prog_12_method_93_code
def yX10_restore : MethodName := ⟨RX10, "restore", "(I)I"⟩
def RJ9 : String := "java/lang/Math"
def TJ9 : u_T := fun k => match k with
  | _ => ("", "", "", false)
def tyJ9 : Nat → FieldType := fun k => match k with
  | _ => .int
abbrev wsJ90 : List Cond := u_ws RJ9 TJ9 0
theorem nmJ9 : ∀ a, a < 0 → ∀ b, b < 0 → a ≠ b → (TJ9 a).2.1 ≠ (TJ9 b).2.1 := by decide +kernel
theorem tyJ9_ok : ∀ k, k < 0 → parseFieldDescriptor (TJ9 k).2.2.1 = some (tyJ9 k) := by decide +kernel
abbrev cJ9_abs_0f7a4 : ByteArray := prog_13_method_59_code
def yJ9_abs_0f7a4 : MethodName := ⟨RJ9, "abs", "(I)I"⟩
abbrev cJ9_max_7cf53 : ByteArray := prog_13_method_65_code
def yJ9_max_7cf53 : MethodName := ⟨RJ9, "max", "(II)I"⟩
abbrev cJ9_min_7cf53 : ByteArray := prog_13_method_69_code
def yJ9_min_7cf53 : MethodName := ⟨RJ9, "min", "(II)I"⟩
def RJ10 : String := "java/lang/System"
def TJ10 : u_T := fun k => match k with
  | _ => ("", "", "", false)
def tyJ10 : Nat → FieldType := fun k => match k with
  | _ => .int
abbrev wsJ100 : List Cond := u_ws RJ10 TJ10 0
theorem nmJ10 : ∀ a, a < 0 → ∀ b, b < 0 → a ≠ b → (TJ10 a).2.1 ≠ (TJ10 b).2.1 := by decide +kernel
theorem tyJ10_ok : ∀ k, k < 0 → parseFieldDescriptor (TJ10 k).2.2.1 = some (tyJ10 k) := by decide +kernel
def RL : String := "PrintSpoolerLaw"
abbrev cL_law : ByteArray := code
def yL_law : MethodName := ⟨RL, "law", "([I)Z"⟩
abbrev vwCl : List vw_C := [(RX0, TX0, 5), (RX1, TX1, 7), (RX2, TX2, 2), (RX3, TX3, 3), (RX4, TX4, 13), (RX5, TX5, 8), (RX6, TX6, 3), (RX7, TX7, 5), (RX8, TX8, 17), (RX9, TX9, 5), (RX10, TX10, 22)]
end
section
/-! THE HEAP AS NUMBERS. Each class, and each kind of array, has its own places 0, 1, ..: an object is (its kind, its place). Kinds 0..10: the classes of vwCl; 20 int[], 21 boolean[], 22 Document[], 23 Job[], 24 Printer[], 25 Spool[]. A field of kind t, slot k, has the number 32 t + k. -/
abbrev AV_ : Type := Int32 ⊕ (Nat × Option Nat)
abbrev GS_ : Type := (Nat → Nat → Int32) × (Nat → Nat → Option Nat) × (Nat → Nat → Nat → Int32) × (Nat → Nat → Nat → Option Nat) × (Nat → Nat → Nat) × (Nat → Nat) × Nat × Nat
def gfi (g : GS_) : Nat → Nat → Int32 := g.1
def gfr (g : GS_) : Nat → Nat → Option Nat := g.2.1
def gai (g : GS_) : Nat → Nat → Nat → Int32 := g.2.2.1
def gar (g : GS_) : Nat → Nat → Nat → Option Nat := g.2.2.2.1
def gln (g : GS_) : Nat → Nat → Nat := g.2.2.2.2.1
def gcn (g : GS_) : Nat → Nat := g.2.2.2.2.2.1
def ghs (g : GS_) : Nat := g.2.2.2.2.2.2.1
def gsl (g : GS_) : Nat := g.2.2.2.2.2.2.2
def sfi (g : GS_) (f i : Nat) (v : Int32) : GS_ := (fun f' i' => if f' = f ∧ i' = i then v else gfi g f' i', gfr g, gai g, gar g, gln g, gcn g, ghs g, gsl g)
def sfr (g : GS_) (f i : Nat) (v : Option Nat) : GS_ := (gfi g, fun f' i' => if f' = f ∧ i' = i then v else gfr g f' i', gai g, gar g, gln g, gcn g, ghs g, gsl g)
def sai (g : GS_) (t i j : Nat) (v : Int32) : GS_ := (gfi g, gfr g, fun t' i' j' => if t' = t ∧ i' = i ∧ j' = j then v else gai g t' i' j', gar g, gln g, gcn g, ghs g, gsl g)
def sar (g : GS_) (t i j : Nat) (v : Option Nat) : GS_ := (gfi g, gfr g, gai g, fun t' i' j' => if t' = t ∧ i' = i ∧ j' = j then v else gar g t' i' j', gln g, gcn g, ghs g, gsl g)
/-- the contents of an int array as a whole -/
def saw (g : GS_) (t i : Nat) (w : Nat → Int32) : GS_ := (gfi g, gfr g, fun t' i' => if t' = t ∧ i' = i then w else gai g t' i', gar g, gln g, gcn g, ghs g, gsl g)
/-- a new object of kind t with N fields -/
def nwo (g : GS_) (t N : Nat) : GS_ := (fun f i => if f / 32 = t ∧ i = gcn g t then 0 else gfi g f i, fun f i => if f / 32 = t ∧ i = gcn g t then none else gfr g f i, gai g, gar g, gln g, fun x => if x = t then gcn g t + 1 else gcn g x, ghs g + 1, gsl g + N)
/-- a new array of kind t and length n -/
def nwa (g : GS_) (t n : Nat) : GS_ := (gfi g, gfr g, fun t' i => if t' = t ∧ i = gcn g t then (fun _ => 0) else gai g t' i, fun t' i => if t' = t ∧ i = gcn g t then (fun _ => none) else gar g t' i, fun t' i => if t' = t ∧ i = gcn g t then n else gln g t' i, fun x => if x = t then gcn g t + 1 else gcn g x, ghs g + 1, gsl g + n)
/-- the kind of thing that a field of references holds -/
def rs_ (f : Nat) : Option Nat := match f with
  | 33 => some 4
  | 64 => some 20
  | 96 => some 20
  | 128 => some 0
  | 130 => some 20
  | 140 => some 20
  | 163 => some 20
  | 192 => some 20
  | 224 => some 20
  | 225 => some 20
  | 226 => some 20
  | 227 => some 20
  | 256 => some 22
  | 258 => some 23
  | 260 => some 24
  | 262 => some 6
  | 263 => some 20
  | 264 => some 20
  | 265 => some 20
  | 266 => some 2
  | 267 => some 20
  | 288 => some 8
  | 289 => some 8
  | 290 => some 25
  | 291 => some 3
  | 292 => some 7
  | 320 => some 20
  | 321 => some 20
  | 322 => some 20
  | 323 => some 20
  | 324 => some 20
  | 325 => some 21
  | 332 => some 20
  | 334 => some 20
  | 335 => some 20
  | 336 => some 20
  | 340 => some 20
  | _ => none
/-- the kind of thing that an array of references holds -/
def es_ (t : Nat) : Option Nat := match t with
  | 22 => some 0
  | 23 => some 1
  | 24 => some 5
  | 25 => some 8
  | _ => none
def cv_ (α : Nat → Nat → Nat) (v : AV_) : Value := match v with
  | .inl x => .int x
  | .inr q => va_rf (q.2.map (α q.1))
def fv_ (α : Nat → Nat → Nat) (g : GS_) (f i : Nat) : Value := match rs_ f with
  | none => .int (gfi g f i)
  | some t => va_rf ((gfr g f i).map (α t))
def ok_ (g : GS_) (v : AV_) : Prop := match v with
  | .inl _ => True
  | .inr q => ∀ i, q.2 = some i → i < gcn g q.1
def vS_ (g : GS_) (st : List AV_) : Prop := ∀ v ∈ st, ok_ g v
def vL_ (g : GS_) (L : List (Option AV_)) : Prop := ∀ (i : Nat) (v : AV_), L[i]? = some (some v) → ok_ g v
def lvr_ (α : Nat → Nat → Nat) (ls : Array Slot) (nL : Nat) (L : List (Option AV_)) : Prop := ls.size = nL ∧ lv_wf ls ∧ ∀ (i : Nat) (v : AV_), L[i]? = some (some v) → ls[i]? = some (.val (cv_ α v))
theorem fv_i {α : Nat → Nat → Nat} {g : GS_} {f i : Nat} (h : rs_ f = none) : fv_ α g f i = .int (gfi g f i) := by simp [fv_, h]
theorem fv_r {α : Nat → Nat → Nat} {g : GS_} {f i t : Nat} (h : rs_ f = some t) : fv_ α g f i = va_rf ((gfr g f i).map (α t)) := by simp [fv_, h]
theorem vS_i {g : GS_} {st : List AV_} {x : Int32} (h : vS_ g st) : vS_ g (.inl x :: st) := List.forall_mem_cons.mpr ⟨trivial, h⟩
theorem vS_c {g : GS_} {st : List AV_} {v : AV_} (h1 : ok_ g v) (h : vS_ g st) : vS_ g (v :: st) := List.forall_mem_cons.mpr ⟨h1, h⟩
theorem vS_t {g : GS_} {st : List AV_} {v : AV_} (h : vS_ g (v :: st)) : vS_ g st := (List.forall_mem_cons.mp h).2
theorem vS_h {g : GS_} {st : List AV_} {v : AV_} (h : vS_ g (v :: st)) : ok_ g v := (List.forall_mem_cons.mp h).1
theorem vS_a {g : GS_} {a b : List AV_} (h : vS_ g (a ++ b)) : vS_ g a ∧ vS_ g b := List.forall_mem_append.mp h
theorem ok_s {g : GS_} {t a : Nat} (h : ok_ g (.inr (t, some a))) : a < gcn g t := h a rfl
theorem ok_n {g : GS_} {t : Nat} : ok_ g (.inr (t, none)) := fun i h => by cases h
theorem ok_mono {g g' : GS_} (h : ∀ t, gcn g t ≤ gcn g' t) {v : AV_} (hv : ok_ g v) : ok_ g' v := by
  cases v with
  | inl x => trivial
  | inr q => exact fun i hi => Nat.lt_of_lt_of_le (hv i hi) (h q.1)
theorem cv_ext {g : GS_} {α α' : Nat → Nat → Nat} (h : ∀ t i, i < gcn g t → α' t i = α t i) {v : AV_} (hv : ok_ g v) : cv_ α' v = cv_ α v := by
  cases v with
  | inl x => rfl
  | inr q =>
    obtain ⟨t, x⟩ := q
    cases x with
    | none => rfl
    | some i =>
      show Value.ref (α' t i) = Value.ref (α t i)
      rw [h t i (hv i rfl)]
theorem vS_mono {g g' : GS_} (h : ∀ t, gcn g t ≤ gcn g' t) {st : List AV_} (hv : vS_ g st) : vS_ g' st := fun v hm => ok_mono h (hv v hm)
theorem vL_mono {g g' : GS_} (h : ∀ t, gcn g t ≤ gcn g' t) {L : List (Option AV_)} (hv : vL_ g L) : vL_ g' L := fun i v hm => ok_mono h (hv i v hm)
theorem map_ext {g : GS_} {α α' : Nat → Nat → Nat} (h : ∀ t i, i < gcn g t → α' t i = α t i) {st : List AV_} (hv : vS_ g st) : st.map (cv_ α') = st.map (cv_ α) := List.map_congr_left (fun v hm => cv_ext h (hv v hm))
theorem lvr_ext {g : GS_} {α α' : Nat → Nat → Nat} (h : ∀ t i, i < gcn g t → α' t i = α t i) {L : List (Option AV_)} (hv : vL_ g L) {ls : Array Slot} {nL : Nat} (hl : lvr_ α ls nL L) : lvr_ α' ls nL L := ⟨hl.1, hl.2.1, fun i v hm => by rw [cv_ext h (hv i v hm)]; exact hl.2.2 i v hm⟩
/-- the heap holds g, at the addresses α -/
def Rep_ (D : va_G) (α : Nat → Nat → Nat) (g : GS_) (H : Heap) : Prop :=
  (∀ t i, i < gcn g t → α t i < H.size) ∧
  (∀ t i t' i', i < gcn g t → i' < gcn g t' → α t i = α t' i' → t = t' ∧ i = i') ∧
  (∀ f t' i j, rs_ f = some t' → i < gcn g (f / 32) → gfr g f i = some j → j < gcn g t') ∧
  (∀ t t' i j v, es_ t = some t' → i < gcn g t → j < gln g t i → gar g t i j = some v → v < gcn g t') ∧
  (∀ t C T N i, vwCl[t]? = some (C, T, N) → i < gcn g t → t_OB (α t i) (D.1 t) N (D.2 t) H (fun k => fv_ α g (32 * t + k) i)) ∧
  (∀ t i, t = 20 ∨ t = 21 → i < gcn g t → H[α t i]? = some (vp_cell (D.1 t) (gln g t i, .inl (gai g t i)))) ∧
  (∀ t t' i, es_ t = some t' → i < gcn g t → H[α t i]? = some (vp_cell (D.1 t) (gln g t i, .inr (.inr (.inr (.inr (fun j => (gar g t i j).map (α t'))))))))
theorem vw_le {t : Nat} {C : String} {T : u_T} {N : Nat} (h : vwCl[t]? = some (C, T, N)) : N ≤ 32 ∧ t < 11 := by
  have h1 : ∀ q ∈ vwCl, q.2.2 ≤ 32 := by decide
  exact ⟨h1 _ (List.mem_of_getElem? h), (List.getElem?_eq_some_iff.mp h).1⟩
theorem es_ge {t t' : Nat} (h : es_ t = some t') : 22 ≤ t ∧ t ≤ 25 := by
  unfold es_ at h
  split at h
  · omega
  · omega
  · omega
  · omega
  · cases h
theorem f_div {t k : Nat} (h : k < 32) : (32 * t + k) / 32 = t := by omega
theorem fv_congr {α : Nat → Nat → Nat} {g g' : GS_} {f i : Nat} (h1 : gfi g' f i = gfi g f i) (h2 : gfr g' f i = gfr g f i) : fv_ α g' f i = fv_ α g f i := by
  unfold fv_
  rw [h1, h2]
theorem fv_alpha {D : va_G} {α α' : Nat → Nat → Nat} {g : GS_} {H : Heap} (hR : Rep_ D α g H) (he : ∀ t i, i < gcn g t → α' t i = α t i) {f i : Nat} (hi : i < gcn g (f / 32)) : fv_ α' g f i = fv_ α g f i := by
  cases hr : rs_ f with
  | none => rw [fv_i hr, fv_i hr]
  | some t =>
    rw [fv_r hr, fv_r hr]
    cases hx : gfr g f i with
    | none => rfl
    | some j =>
      show va_rf (some (α' t j)) = va_rf (some (α t j))
      rw [he t j (hR.2.2.1 f t i j hr hi hx)]
/-- one object's fields change -/
theorem rep_obj {D : va_G} {α : Nat → Nat → Nat} {g g' : GS_} {H H1 : Heap} {t a : Nat} (h : Rep_ D α g H) (ht : t < 11) (ha : a < gcn g t) (hcn : gcn g' = gcn g) (hln : gln g' = gln g) (hai : gai g' = gai g) (har : gar g' = gar g)
    (hfv : ∀ t' k i, k < 32 → (t' ≠ t ∨ i ≠ a) → fv_ α g' (32 * t' + k) i = fv_ α g (32 * t' + k) i) (hv : ∀ f t' i j, rs_ f = some t' → i < gcn g (f / 32) → gfr g' f i = some j → j < gcn g t')
    (hob : ∀ C T N, vwCl[t]? = some (C, T, N) → t_OB (α t a) (D.1 t) N (D.2 t) H1 (fun k => fv_ α g' (32 * t + k) a)) (z : H1.size = H.size) (oq : ∀ q, q ≠ α t a → H1[q]? = H[q]?) : Rep_ D α g' H1 := by
  obtain ⟨r1, r2, r3, r4, r5, r6, r7⟩ := h
  refine ⟨?_, ?_, ?_, ?_, ?_, ?_, ?_⟩
  · rw [hcn, z]; exact r1
  · rw [hcn]; exact r2
  · rw [hcn]; exact hv
  · rw [hcn, hln, har]; exact r4
  · rw [hcn]
    intro t' C T N i hc hi
    by_cases e : t' = t ∧ i = a
    · obtain ⟨rfl, rfl⟩ := e
      exact hob C T N hc
    · have hne : α t' i ≠ α t a := fun q => e (r2 t' i t a hi ha q)
      refine ((r5 t' C T N i hc hi).kept (oq _ hne)).to (fun k hk => (hfv t' k i (by have := (vw_le hc).1; omega) ?_).symm)
      by_cases e1 : t' = t
      · exact Or.inr (fun q => e ⟨e1, q⟩)
      · exact Or.inl e1
  · rw [hcn, hln, hai]
    intro t' i ht' hi
    rw [oq _ (fun q => by have := (r2 t' i t a hi ha q).1; omega)]
    exact r6 t' i ht' hi
  · rw [hcn, hln, har]
    intro t' t2 i ht' hi
    rw [oq _ (fun q => by have := (r2 t' i t a hi ha q).1; have := es_ge ht'; omega)]
    exact r7 t' t2 i ht' hi
theorem rep_fi {D : va_G} {α : Nat → Nat → Nat} {g : GS_} {H H1 : Heap} {t k a : Nat} {v : Int32} (h : Rep_ D α g H) (ht : t < 11) (ha : a < gcn g t) (hk : k < 32) (hr : rs_ (32 * t + k) = none)
    (hob : ∀ C T N, vwCl[t]? = some (C, T, N) → t_OB (α t a) (D.1 t) N (D.2 t) H1 (updV (fun k => fv_ α g (32 * t + k) a) k (.int v))) (z : H1.size = H.size) (oq : ∀ q, q ≠ α t a → H1[q]? = H[q]?) : Rep_ D α (sfi g (32 * t + k) a v) H1 := by
  refine rep_obj (g' := sfi g (32 * t + k) a v) h ht ha rfl rfl rfl rfl ?_ h.2.2.1 ?_ z oq
  · intro t' k' i hk' hne
    refine fv_congr ?_ rfl
    show (if 32 * t' + k' = 32 * t + k ∧ i = a then v else gfi g (32 * t' + k') i) = _
    rw [if_neg (by omega)]
  · intro C T N hc
    refine (hob C T N hc).to (fun k' hk' => ?_)
    have := (vw_le hc).1
    by_cases e : k' = k
    · subst e
      rw [fv_i hr]
      show updV _ _ _ _ = Value.int (if 32 * t + k' = 32 * t + k' ∧ a = a then v else gfi g (32 * t + k') a)
      simp [updV]
    · simp only [updV, e, if_false]
      refine fv_congr ?_ rfl
      show _ = (if 32 * t + k' = 32 * t + k ∧ a = a then v else gfi g (32 * t + k') a)
      rw [if_neg (by omega)]
theorem rep_fr {D : va_G} {α : Nat → Nat → Nat} {g : GS_} {H H1 : Heap} {t k a t2 : Nat} {v : Option Nat} (h : Rep_ D α g H) (ht : t < 11) (ha : a < gcn g t) (hk : k < 32) (hr : rs_ (32 * t + k) = some t2) (hv : ok_ g (.inr (t2, v)))
    (hob : ∀ C T N, vwCl[t]? = some (C, T, N) → t_OB (α t a) (D.1 t) N (D.2 t) H1 (updV (fun k => fv_ α g (32 * t + k) a) k (va_rf (v.map (α t2))))) (z : H1.size = H.size) (oq : ∀ q, q ≠ α t a → H1[q]? = H[q]?) : Rep_ D α (sfr g (32 * t + k) a v) H1 := by
  refine rep_obj (g' := sfr g (32 * t + k) a v) h ht ha rfl rfl rfl rfl ?_ ?_ ?_ z oq
  · intro t' k' i hk' hne
    refine fv_congr rfl ?_
    show (if 32 * t' + k' = 32 * t + k ∧ i = a then v else gfr g (32 * t' + k') i) = _
    rw [if_neg (by omega)]
  · intro f t' i j hf hi hx
    have hx : (if f = 32 * t + k ∧ i = a then v else gfr g f i) = some j := hx
    by_cases e : f = 32 * t + k ∧ i = a
    · rw [if_pos e] at hx
      rw [e.1, hr] at hf
      cases hf
      exact hv j hx
    · rw [if_neg e] at hx
      exact h.2.2.1 f t' i j hf hi hx
  · intro C T N hc
    refine (hob C T N hc).to (fun k' hk' => ?_)
    have := (vw_le hc).1
    by_cases e : k' = k
    · subst e
      rw [fv_r hr]
      show updV _ _ _ _ = va_rf ((if 32 * t + k' = 32 * t + k' ∧ a = a then v else gfr g (32 * t + k') a).map (α t2))
      simp [updV]
    · simp only [updV, e, if_false]
      refine fv_congr rfl ?_
      show _ = (if 32 * t + k' = 32 * t + k ∧ a = a then v else gfr g (32 * t + k') a)
      rw [if_neg (by omega)]
/-- one array of ints changes -/
theorem rep_ai {D : va_G} {α : Nat → Nat → Nat} {g g' : GS_} {H H1 : Heap} {t a : Nat} (h : Rep_ D α g H) (ht : t = 20 ∨ t = 21) (ha : a < gcn g t) (hcn : gcn g' = gcn g) (hln : gln g' = gln g) (hfi : gfi g' = gfi g) (hfr : gfr g' = gfr g) (har : gar g' = gar g)
    (hai : ∀ t' i, (t' ≠ t ∨ i ≠ a) → gai g' t' i = gai g t' i) (hc : H1[α t a]? = some (vp_cell (D.1 t) (gln g t a, .inl (gai g' t a)))) (z : H1.size = H.size) (oq : ∀ q, q ≠ α t a → H1[q]? = H[q]?) : Rep_ D α g' H1 := by
  obtain ⟨r1, r2, r3, r4, r5, r6, r7⟩ := h
  refine ⟨?_, ?_, ?_, ?_, ?_, ?_, ?_⟩
  · rw [hcn, z]; exact r1
  · rw [hcn]; exact r2
  · rw [hcn, hfr]; exact r3
  · rw [hcn, hln, har]; exact r4
  · rw [hcn]
    intro t' C T N i hq hi
    have := (vw_le hq).2
    refine ((r5 t' C T N i hq hi).kept (oq _ (fun q => by have := (r2 t' i t a hi ha q).1; omega))).to (fun k hk => fv_congr (by rw [hfi]) (by rw [hfr]))
  · rw [hcn, hln]
    intro t' i ht' hi
    by_cases e : t' = t ∧ i = a
    · obtain ⟨rfl, rfl⟩ := e
      exact hc
    · rw [oq _ (fun q => e (r2 t' i t a hi ha q)), hai t' i (by by_cases e1 : t' = t
                                                                · exact Or.inr (fun q => e ⟨e1, q⟩)
                                                                · exact Or.inl e1)]
      exact r6 t' i ht' hi
  · rw [hcn, hln, har]
    intro t' t2 i ht' hi
    rw [oq _ (fun q => by have := (r2 t' i t a hi ha q).1; have := es_ge ht'; omega)]
    exact r7 t' t2 i ht' hi
theorem cell_congr {c : ClassId} {n : Nat} {f f' : Nat → Option Nat} (h : ∀ j, f j = f' j) : some (vp_cell c (n, .inr (.inr (.inr (.inr f))))) = some (vp_cell c (n, .inr (.inr (.inr (.inr f'))))) := by rw [funext h]
/-- one array of references changes -/
theorem rep_ar {D : va_G} {α : Nat → Nat → Nat} {g : GS_} {H H1 : Heap} {t a t2 j : Nat} {v : Option Nat} (h : Rep_ D α g H) (ht : es_ t = some t2) (ha : a < gcn g t) (hv : ok_ g (.inr (t2, v)))
    (hc : H1[α t a]? = some (vp_cell (D.1 t) (gln g t a, .inr (.inr (.inr (.inr (va_up (fun j => (gar g t a j).map (α t2)) j (v.map (α t2))))))))) (z : H1.size = H.size) (oq : ∀ q, q ≠ α t a → H1[q]? = H[q]?) : Rep_ D α (sar g t a j v) H1 := by
  have hE := es_ge ht
  obtain ⟨r1, r2, r3, r4, r5, r6, r7⟩ := h
  refine ⟨by rw [z]; exact r1, r2, r3, ?_, ?_, ?_, ?_⟩
  · intro t' t3 i j' w ht' hi hj hw
    have hw : (if t' = t ∧ i = a ∧ j' = j then v else gar g t' i j') = some w := hw
    by_cases e : t' = t ∧ i = a ∧ j' = j
    · rw [if_pos e] at hw
      rw [e.1, ht] at ht'
      cases ht'
      exact hv w hw
    · rw [if_neg e] at hw
      exact r4 t' t3 i j' w ht' hi hj hw
  · intro t' C T N i hq hi
    have := (vw_le hq).2
    exact ((r5 t' C T N i hq hi).kept (oq _ (fun q => by have := (r2 t' i t a hi ha q).1; omega))).to (fun k hk => fv_congr rfl rfl)
  · intro t' i ht' hi
    rw [oq _ (fun q => by have := (r2 t' i t a hi ha q).1; omega)]
    exact r6 t' i ht' hi
  · intro t' t3 i ht' hi
    by_cases e : t' = t ∧ i = a
    · obtain ⟨rfl, rfl⟩ := e
      rw [ht] at ht'
      cases ht'
      rw [hc]
      refine cell_congr (fun j' => ?_)
      show va_up _ _ _ _ = (if t' = t' ∧ i = i ∧ j' = j then v else gar g t' i j').map (α t2)
      unfold va_up
      by_cases e : j' = j
      · rw [if_pos e, if_pos ⟨rfl, rfl, e⟩]
      · rw [if_neg e, if_neg (fun q => e q.2.2)]
    · rw [oq _ (fun q => e (r2 t' i t a hi ha q))]
      rw [r7 t' t3 i ht' hi]
      refine cell_congr (fun j' => ?_)
      show _ = (if t' = t ∧ i = a ∧ j' = j then v else gar g t' i j').map (α t3)
      rw [if_neg (fun q => e ⟨q.1, q.2.1⟩)]
def aup_ (α : Nat → Nat → Nat) (t i q : Nat) : Nat → Nat → Nat := fun t' i' => if t' = t ∧ i' = i then q else α t' i'
theorem aup_old {α : Nat → Nat → Nat} {g : GS_} {t q : Nat} : ∀ t' i', i' < gcn g t' → aup_ α t (gcn g t) q t' i' = α t' i' := by
  intro t' i' h
  unfold aup_
  rw [if_neg (by rintro ⟨rfl, rfl⟩; omega)]
theorem aup_new {α : Nat → Nat → Nat} {t i q : Nat} : aup_ α t i q t i = q := by simp [aup_]
/-- a new cell -/
theorem rep_new {D : va_G} {α : Nat → Nat → Nat} {g g' : GS_} {H H1 : Heap} {t : Nat} (h : Rep_ D α g H) (hcn : gcn g' = fun x => if x = t then gcn g t + 1 else gcn g x)
    (hf : ∀ f i, (f / 32 ≠ t ∨ i ≠ gcn g t) → gfi g' f i = gfi g f i ∧ gfr g' f i = gfr g f i)
    (ha : ∀ t' i, (t' ≠ t ∨ i ≠ gcn g t) → gai g' t' i = gai g t' i ∧ gar g' t' i = gar g t' i ∧ gln g' t' i = gln g t' i)
    (hn : ∀ f t2, rs_ f = some t2 → f / 32 = t → gfr g' f (gcn g t) = none) (hn2 : ∀ j t2, es_ t = some t2 → gar g' t (gcn g t) j = none) (z : H1.size = H.size + 1) (oq : ∀ q, q < H.size → H1[q]? = H[q]?)
    (ho : ∀ C T N, vwCl[t]? = some (C, T, N) → t_OB H.size (D.1 t) N (D.2 t) H1 (fun k => fv_ (aup_ α t (gcn g t) H.size) g' (32 * t + k) (gcn g t)))
    (hi : t = 20 ∨ t = 21 → H1[H.size]? = some (vp_cell (D.1 t) (gln g' t (gcn g t), .inl (gai g' t (gcn g t)))))
    (hr : ∀ t2, es_ t = some t2 → H1[H.size]? = some (vp_cell (D.1 t) (gln g' t (gcn g t), .inr (.inr (.inr (.inr (fun j => (gar g' t (gcn g t) j).map (aup_ α t (gcn g t) H.size t2)))))))) : Rep_ D (aup_ α t (gcn g t) H.size) g' H1 := by
  have hold := h
  obtain ⟨r1, r2, r3, r4, r5, r6, r7⟩ := h
  have cs : ∀ t' i, i < gcn g' t' → (t' = t ∧ i = gcn g t) ∨ (i < gcn g t' ∧ (t' ≠ t ∨ i ≠ gcn g t)) := by
    intro t' i hq
    rw [hcn] at hq
    by_cases e : t' = t
    · simp only [e, if_true] at hq
      by_cases e2 : i = gcn g t
      · exact Or.inl ⟨e, e2⟩
      · exact Or.inr ⟨by rw [e]; omega, Or.inr e2⟩
    · simp only [e, if_false] at hq
      exact Or.inr ⟨hq, Or.inl e⟩
  have up : ∀ x, gcn g x ≤ gcn g' x := by
    intro x
    rw [hcn]
    by_cases e : x = t
    · simp [e]
    · simp [e]
  have hA : ∀ t' i', i' < gcn g t' → aup_ α t (gcn g t) H.size t' i' = α t' i' := aup_old
  refine ⟨?_, ?_, ?_, ?_, ?_, ?_, ?_⟩
  · intro t' i hq
    rcases cs t' i hq with ⟨rfl, rfl⟩ | ⟨h1, -⟩
    · rw [aup_new]; omega
    · rw [hA t' i h1]
      have := r1 t' i h1
      omega
  · intro t1 i1 t2 i2 h1 h2 he
    rcases cs t1 i1 h1 with ⟨rfl, rfl⟩ | ⟨g1, -⟩ <;> rcases cs t2 i2 h2 with ⟨e1, e2⟩ | ⟨g2, -⟩
    · exact ⟨e1.symm, by rw [e2]⟩
    · rw [aup_new, hA t2 i2 g2] at he
      have := r1 t2 i2 g2
      omega
    · subst e1; subst e2
      rw [aup_new, hA t1 i1 g1] at he
      have := r1 t1 i1 g1
      omega
    · rw [hA t1 i1 g1, hA t2 i2 g2] at he
      exact r2 t1 i1 t2 i2 g1 g2 he
  · intro f t' i j hq hc hx
    rcases cs _ i hc with ⟨e1, e2⟩ | ⟨g1, g2⟩
    · subst e2
      rw [hn f t' hq e1] at hx
      cases hx
    · rw [(hf f i g2).2] at hx
      exact Nat.lt_of_lt_of_le (r3 f t' i j hq g1 hx) (up t')
  · intro t' t2 i j v hq hc hj hx
    rcases cs _ i hc with ⟨e1, e2⟩ | ⟨g1, g2⟩
    · subst e1; subst e2
      rw [hn2 j t2 hq] at hx
      cases hx
    · rw [(ha t' i g2).2.1] at hx
      rw [(ha t' i g2).2.2] at hj
      exact Nat.lt_of_lt_of_le (r4 t' t2 i j v hq g1 hj hx) (up t2)
  · intro t' C T N i hq hc
    rcases cs _ i hc with ⟨e1, e2⟩ | ⟨g1, g2⟩
    · subst e1; subst e2
      rw [aup_new]
      exact ho C T N hq
    · rw [hA t' i g1]
      refine ((r5 t' C T N i hq g1).kept (oq _ (r1 t' i g1))).to (fun k hk => ?_)
      have hk32 : k < 32 := by have := (vw_le hq).1; omega
      have h9 := hf (32 * t' + k) i (by rw [f_div hk32]; exact g2)
      rw [fv_congr h9.1 h9.2]
      exact (fv_alpha hold hA (by rw [f_div hk32]; exact g1)).symm
  · intro t' i hq hc
    rcases cs _ i hc with ⟨e1, e2⟩ | ⟨g1, g2⟩
    · subst e1; subst e2
      rw [aup_new]
      exact hi hq
    · rw [hA t' i g1, oq _ (r1 t' i g1), (ha t' i g2).1, (ha t' i g2).2.2]
      exact r6 t' i hq g1
  · intro t' t2 i hq hc
    rcases cs _ i hc with ⟨e1, e2⟩ | ⟨g1, g2⟩
    · subst e1; subst e2
      rw [aup_new]
      exact hr t2 hq
    · rw [hA t' i g1, oq _ (r1 t' i g1), (ha t' i g2).2.1, (ha t' i g2).2.2, r7 t' t2 i hq g1]
      rw [vp_cell_q, vp_cell_q]
      unfold arrV
      congr 3
      funext j
      show va_rf ((gar g t' i j.val).map (α t2)) = va_rf ((gar g t' i j.val).map (aup_ α t (gcn g t) H.size t2))
      cases hx : gar g t' i j.val with
      | none => rfl
      | some v =>
        show va_rf (some (α t2 v)) = va_rf (some (aup_ α t (gcn g t) H.size t2 v))
        rw [hA t2 v (r4 t' t2 i j.val v hq g1 j.isLt hx)]
end
section
/-! THE WALK OVER NUMBERS: K_ says of an instruction of a method, with its locals, its stack and the heap as numbers, that the machine goes from there to the method's end as the outcome o tells (o = none: nothing is said). -/
def TW_ : List Cond := lw_tbl.filter goodWord
theorem tw_mem {w : Cond} (h : w ∈ lw_tbl) (hg : goodWord w = true) : w ∈ TW_ := List.mem_filter.mpr ⟨h, hg⟩
theorem tw_good {ws : List Cond} (h : ∀ w ∈ ws, w ∈ TW_) : GoodIn TW_ ws := fun w hw => ⟨h w hw, good_of_word (List.mem_filter.mp (h w hw)).2⟩
def tys_ (D : va_G) : List (ClassId × FieldType) := [(D.1 20, .int), (D.1 21, .boolean), (D.1 22, .object RX0), (D.1 23, .object RX1), (D.1 24, .object RX5), (D.1 25, .object RX8)]
def NW_ (U : State) : Prop := (∀ a i b n d h, Cond.fieldLinkNest a i b n d h ∈ tables_1 → va_Nw (.fieldLinkNest a i b n d h) U) ∧ ∀ a i x h, Cond.methodLinkNest a i x h ∈ tables_1 → va_Nw (.methodLinkNest a i x h) U
def AO_ (U : State) : Prop := va_AO RX0 U ∧ va_AO RX1 U ∧ va_AO RX5 U ∧ va_AO RX8 U
def Amb_ (D : va_G) (U : State) : Prop := va_K D vwCl (tys_ D) U ∧ NW_ U ∧ AO_ U
theorem Amb_.warm {D : va_G} {s U : State} (hW : s.WarmedH U.vm) (h : Amb_ D s) : Amb_ D U :=
  ⟨va_K.moved hW.alike h.1, ⟨fun a i b n d h9 hm => va_Nw.warmF hW (h.2.1.1 a i b n d h9 hm), fun a i x h9 hm => va_Nw.warmM hW (h.2.1.2 a i x h9 hm)⟩, h.2.2.1.moved hW.alike, h.2.2.2.1.moved hW.alike, h.2.2.2.2.1.moved hW.alike, h.2.2.2.2.2.moved hW.alike⟩
theorem Amb_.calling {D : va_G} {U : State} (g : JFrame) (mk : MethodId) (a : Array Value) (h : Amb_ D U) : Amb_ D (U.calling g mk a) :=
  ⟨va_K.moved (u := U) (U := U.calling g mk a) (Vm.Alike.refl U.vm) h.1, ⟨fun a' i b n d h9 hm => va_Nw.same rfl (rfl : U.vm = (U.calling g mk a).vm) (h.2.1.1 a' i b n d h9 hm), fun a' i x h9 hm => va_Nw.same rfl (rfl : U.vm = (U.calling g mk a).vm) (h.2.1.2 a' i x h9 hm)⟩, va_AO.moved (u := U) (U := U.calling g mk a) (Vm.Alike.refl U.vm) h.2.2.1, va_AO.moved (u := U) (U := U.calling g mk a) (Vm.Alike.refl U.vm) h.2.2.2.1, va_AO.moved (u := U) (U := U.calling g mk a) (Vm.Alike.refl U.vm) h.2.2.2.2.1, va_AO.moved (u := U) (U := U.calling g mk a) (Vm.Alike.refl U.vm) h.2.2.2.2.2⟩
/-- what stands still in a method -/
def CX_ (own : String) (cc : ByteArray) (nL : Nat) (ret : Option FieldType) (dep loc : Nat) (ini : Bool) (D : va_G) (p : Program) (R : Room) (s : State) (m : MethodId) (args : Array Value) (meth : Method) (c : Code) : Prop :=
  p.tables.exec = Jvm.exec ∧ c.code = cc ∧ meth.sig.returnType = ret ∧ c.maxLocals = nL ∧ s.vm.findClass own = some m.cls ∧ (∀ w ∈ TW_, w.before args s = true) ∧ meth.locks = false ∧ dep ≤ R.frames ∧ loc ≤ R.locals ∧ (ini = true → meth.name = "<init>") ∧ Amb_ D s
/-- what moves with the heap -/
def SX_ (D : va_G) (A : Nat → Prop) (s : State) (α0 α : Nat → Nat → Nat) (g0 g : GS_) (H : Heap) (locs : List Loc) : Prop :=
  Rep_ D α g H ∧ (∀ t i, i < gcn g t → A (α t i)) ∧ (∀ q : Nat, s.heap.size ≤ q → A q) ∧ va_S A s.heap H locs ∧ (∀ t i, i < gcn g0 t → α t i = α0 t i) ∧ (∀ t, gcn g0 t ≤ gcn g t) ∧ ghs g0 ≤ ghs g ∧ gsl g0 ≤ gsl g
def QC_ (D : va_G) (A : Nat → Prop) (α0 : Nat → Nat → Nat) (g0 gf : GS_) (v : Option AV_) : State → Outcome → State → Prop := fun st oc t =>
  ∃ α : Nat → Nat → Nat, oc = .returned (v.map (cv_ α)) ∧ Rep_ D α gf t.heap ∧ Amb_ D t ∧ (∀ t' i, i < gcn g0 t' → α t' i = α0 t' i) ∧ (∀ t', gcn g0 t' ≤ gcn gf t') ∧ (∀ t' i, i < gcn gf t' → A (α t' i)) ∧ (∀ w, v = some w → ok_ gf w) ∧ va_F A st t
def K_ (own : String) (cc : ByteArray) (nL : Nat) (ret : Option FieldType) (dep loc : Nat) (ini : Bool) {ρ : Type} (E : ρ → Option AV_) (pc : Nat) (L : List (Option AV_)) (st : List AV_) (g : GS_) (o : Option (ρ × GS_)) : Prop :=
  ∀ (r : ρ) (gf : GS_), o = some (r, gf) → (ghs g ≤ ghs gf ∧ gsl g ≤ gsl gf) ∧
    ∀ (p : Program) (l : Launch) (e : Env) (R : Room) (s : State) (m : MethodId) (args : Array Value) (below : List Frame) (meth : Method) (c : Code) (D : va_G) (A : Nat → Prop) (α0 α : Nat → Nat → Nat) (g0 : GS_) (H : Heap) (locs : List Loc) (ls : Array Slot),
      CX_ own cc nL ret dep loc ini D p R s m args meth c → SX_ D A s α0 α g0 g H locs → ghs gf - ghs g0 ≤ R.cells → gsl gf - gsl g0 ≤ R.slots → vL_ g L → vS_ g st → lvr_ α ls nL L →
      W p l e R s m args below meth c H locs (ghs g - ghs g0) (gsl g - gsl g0) (MQ below (fun _ => QC_ D A α0 g0 gf (E r)) args s (ghs gf - ghs g0) (gsl gf - gsl g0) A) (F0 m pc ls (st.map (cv_ α)))
/-- names that the outcomes use -/
def lr_ {α β : Type} (x : α) (f : α → β) : β := f x
def bd_ {α β : Type} (x : Option (α × GS_)) (f : α → GS_ → Option β) : Option β := x.bind fun q => f q.1 q.2
def oc_ {β : Type} (x : Option Nat) (a : β) (b : Nat → β) : β := match x with
  | none => a
  | some i => b i
abbrev inb (i : Int32) (n : Nat) : Prop := 0 ≤ i.toInt ∧ i.toInt < n
theorem oc_none {β : Type} (a : β) (b : Nat → β) : oc_ none a b = a := rfl
theorem oc_some {β : Type} (i : Nat) (a : β) (b : Nat → β) : oc_ (some i) a b = b i := rfl
theorem bd_none {α β : Type} (f : α → GS_ → Option β) : bd_ none f = none := rfl
theorem bd_some {α β : Type} (x : α) (g : GS_) (f : α → GS_ → Option β) : bd_ (some (x, g)) f = f x g := rfl
section KR
variable {own : String} {cc : ByteArray} {nL : Nat} {ret : Option FieldType} {dep loc : Nat} {ini : Bool} {ρ : Type} {E : ρ → Option AV_} {pc : Nat} {L L' : List (Option AV_)} {st st' : List AV_} {g : GS_} {o : Option (ρ × GS_)}
theorem k_fail : K_ own cc nL ret dep loc ini E pc L st g (none : Option (ρ × GS_)) := fun r gf h => by cases h
theorem k_lift {pc' : Nat}
    (h : ∀ (p : Program) (l : Launch) (e : Env) (R : Room) (s : State) (m : MethodId) (args : Array Value) (below : List Frame) (meth : Method) (c : Code) (D : va_G) (α : Nat → Nat → Nat) (H : Heap) (locs : List Loc) (ls : Array Slot) (cells slots : Nat) (Q : State → Prop), CX_ own cc nL ret dep loc ini D p R s m args meth c → cells ≤ R.cells → slots ≤ R.slots → Rep_ D α g H → vL_ g L → vS_ g st → lvr_ α ls nL L →
      (vL_ g L' → vS_ g st' → ∀ ls', lvr_ α ls' nL L' → W p l e R s m args below meth c H locs cells slots Q (F0 m pc' ls' (st'.map (cv_ α)))) → W p l e R s m args below meth c H locs cells slots Q (F0 m pc ls (st.map (cv_ α))))
    (k : K_ own cc nL ret dep loc ini E pc' L' st' g o) : K_ own cc nL ret dep loc ini E pc L st g o := by
  intro r gf ho
  obtain ⟨hm, hk⟩ := k r gf ho
  refine ⟨hm, ?_⟩
  intro p l e R s m args below meth c D A α0 α g0 H locs ls cx sx hc hs vl vs hl
  exact h p l e R s m args below meth c D α H locs ls _ _ _ cx (by omega) (by omega) sx.1 vl vs hl (fun vl' vs' ls' hl' => hk p l e R s m args below meth c D A α0 α g0 H locs ls' cx sx hc hs vl' vs' hl')
/-- a step that needs the heap not at all, nor new locals -/
theorem k_step {pc' : Nat}
    (h : ∀ (p : Program) (l : Launch) (e : Env) (R : Room) (s : State) (m : MethodId) (args : Array Value) (below : List Frame) (meth : Method) (c : Code) (α : Nat → Nat → Nat) (H : Heap) (locs : List Loc) (ls : Array Slot) (cells slots : Nat) (Q : State → Prop), p.tables.exec = Jvm.exec → c.code = cc →
      W p l e R s m args below meth c H locs cells slots Q (F0 m pc' ls (st'.map (cv_ α))) → W p l e R s m args below meth c H locs cells slots Q (F0 m pc ls (st.map (cv_ α))))
    (hst : vS_ g st → vS_ g st') (k : K_ own cc nL ret dep loc ini E pc' L st' g o) : K_ own cc nL ret dep loc ini E pc L st g o :=
  k_lift (fun p l e R s m args below meth c D α H locs ls cells slots Q cx _ _ hR vl vs hl kk => h p l e R s m args below meth c α H locs ls cells slots Q cx.1 cx.2.1 (kk vl (hst vs) ls hl)) k
theorem k_mask (h : ∀ (i : Nat) (v : AV_), L'[i]? = some (some v) → L[i]? = some (some v)) (k : K_ own cc nL ret dep loc ini E pc L' st g o) : K_ own cc nL ret dep loc ini E pc L st g o :=
  k_lift (fun p l e R s m args below meth c D α H locs ls cells slots Q cx _ _ hR vl vs hl kk => kk (fun i v hv => vl i v (h i v hv)) vs ls ⟨hl.1, hl.2.1, fun i v hv => hl.2.2 i v (h i v hv)⟩) k
def mk_ (b : List Bool) (L : List (Option AV_)) : List (Option AV_) := match b, L with
  | true :: bs, x :: xs => x :: mk_ bs xs
  | false :: bs, _ :: xs => none :: mk_ bs xs
  | _, _ => []
theorem mk_sub : ∀ (b : List Bool) (L : List (Option AV_)) (i : Nat) (v : AV_), (mk_ b L)[i]? = some (some v) → L[i]? = some (some v)
  | [], L, i, v, h => by simp [mk_] at h
  | true :: bs, [], i, v, h => by simp [mk_] at h
  | false :: bs, [], i, v, h => by simp [mk_] at h
  | true :: bs, x :: xs, 0, v, h => by simpa [mk_] using h
  | true :: bs, x :: xs, i + 1, v, h => by
    simp only [mk_, List.getElem?_cons_succ] at h ⊢
    exact mk_sub bs xs i v h
  | false :: bs, x :: xs, 0, v, h => by simp [mk_] at h
  | false :: bs, x :: xs, i + 1, v, h => by
    simp only [mk_, List.getElem?_cons_succ] at h ⊢
    exact mk_sub bs xs i v h
theorem k_msk (b : List Bool) (h : mk_ b L = L') (k : K_ own cc nL ret dep loc ini E pc L' st g o) : K_ own cc nL ret dep loc ini E pc L st g o := k_mask (fun i v hv => mk_sub b L i v (by rw [h]; exact hv)) k
-- constants
theorem k_iconst {n : Int} {v : Int32} (d : decode cc pc = .ok (.iconst n, 1)) (hv : Int32.ofInt n = v) (k : K_ own cc nL ret dep loc ini E (pc + 1) L (.inl v :: st) g o) : K_ own cc nL ret dep loc ini E pc L st g o :=
  k_step (fun p l e R s m args below meth c α H locs ls cells slots Q hx hb kk => lv_iconst hx hb d hv kk) vS_i k
theorem k_bipush {n : Int} {v : Int32} (d : decode cc pc = .ok (.bipush n, 2)) (hv : (Int8.ofInt n).toInt32 = v) (k : K_ own cc nL ret dep loc ini E (pc + 2) L (.inl v :: st) g o) : K_ own cc nL ret dep loc ini E pc L st g o :=
  k_step (fun p l e R s m args below meth c α H locs ls cells slots Q hx hb kk => lv_bipush hx hb d hv kk) vS_i k
theorem k_sipush {n : Int} {v : Int32} (d : decode cc pc = .ok (.sipush n, 3)) (hv : (Int16.ofInt n).toInt32 = v) (k : K_ own cc nL ret dep loc ini E (pc + 3) L (.inl v :: st) g o) : K_ own cc nL ret dep loc ini E pc L st g o :=
  k_step (fun p l e R s m args below meth c α H locs ls cells slots Q hx hb kk => lv_sipush hx hb d hv kk) vS_i k
theorem k_null {t : Nat} (d : decode cc pc = .ok (.aconst_null, 1)) (k : K_ own cc nL ret dep loc ini E (pc + 1) L (.inr (t, none) :: st) g o) : K_ own cc nL ret dep loc ini E pc L st g o :=
  k_step (fun p l e R s m args below meth c α H locs ls cells slots Q hx hb kk => lv_null hx hb d kk) (vS_c ok_n) k
-- loads
theorem k_iloadn {i : Fin 4} {j : Nat} {x : Int32} (d : decode cc pc = .ok (.iload_n i, 1)) (hi : (i : Nat) = j) (hL : L[j]? = some (some (.inl x))) (k : K_ own cc nL ret dep loc ini E (pc + 1) L (.inl x :: st) g o) : K_ own cc nL ret dep loc ini E pc L st g o :=
  k_lift (fun p l e R s m args below meth c D α H locs ls cells slots Q cx _ _ hR vl vs hl kk => lv_iload_n cx.1 cx.2.1 d hi (hl.2.2 j _ hL) (kk vl (vS_i vs) ls hl)) k
theorem k_iload {j : Nat} {x : Int32} (d : decode cc pc = .ok (.iload j, 2)) (hL : L[j]? = some (some (.inl x))) (k : K_ own cc nL ret dep loc ini E (pc + 2) L (.inl x :: st) g o) : K_ own cc nL ret dep loc ini E pc L st g o :=
  k_lift (fun p l e R s m args below meth c D α H locs ls cells slots Q cx _ _ hR vl vs hl kk => lv_iload cx.1 cx.2.1 d (hl.2.2 j _ hL) (kk vl (vS_i vs) ls hl)) k
theorem k_aloadn {i : Fin 4} {j t : Nat} {x : Option Nat} (d : decode cc pc = .ok (.aload_n i, 1)) (hi : (i : Nat) = j) (hL : L[j]? = some (some (.inr (t, x)))) (k : K_ own cc nL ret dep loc ini E (pc + 1) L (.inr (t, x) :: st) g o) : K_ own cc nL ret dep loc ini E pc L st g o :=
  k_lift (fun p l e R s m args below meth c D α H locs ls cells slots Q cx _ _ hR vl vs hl kk => by
    have h1 := kk vl (vS_c (vl j _ hL) vs) ls hl
    have h2 := hl.2.2 j _ hL
    cases x with
    | none => exact lv_aload_nN cx.1 cx.2.1 d hi h2 h1
    | some a => exact lv_aload_n cx.1 cx.2.1 d hi h2 h1) k
theorem k_aload {j t : Nat} {x : Option Nat} (d : decode cc pc = .ok (.aload j, 2)) (hL : L[j]? = some (some (.inr (t, x)))) (k : K_ own cc nL ret dep loc ini E (pc + 2) L (.inr (t, x) :: st) g o) : K_ own cc nL ret dep loc ini E pc L st g o :=
  k_lift (fun p l e R s m args below meth c D α H locs ls cells slots Q cx _ _ hR vl vs hl kk => by
    have h1 := kk vl (vS_c (vl j _ hL) vs) ls hl
    have h2 := hl.2.2 j _ hL
    cases x with
    | none => exact lv_aloadN cx.1 cx.2.1 d h2 h1
    | some a => exact lv_aload cx.1 cx.2.1 d h2 h1) k
-- stores into locals
def lvl_ (α : Nat → Nat → Nat) (L : List (Option AV_)) : List (Nat × Value) := L.zipIdx.filterMap (fun q => q.1.map (fun v => (q.2, cv_ α v)))
theorem lvl_mem {α : Nat → Nat → Nat} {i : Nat} {v : AV_} (h : L[i]? = some (some v)) : (i, cv_ α v) ∈ lvl_ α L :=
  List.mem_filterMap.mpr ⟨(some v, i), List.mem_zipIdx_iff_getElem?.mpr h, rfl⟩
theorem lvl_has {α : Nat → Nat → Nat} {ls : Array Slot} (h : lvr_ α ls nL L) : lv_has ls nL (lvl_ α L) := by
  refine ⟨h.1, h.2.1, fun q hq => ?_⟩
  obtain ⟨⟨x, i⟩, hm, he⟩ := List.mem_filterMap.mp hq
  have hm := List.mem_zipIdx_iff_getElem?.mp hm
  cases x with
  | none => cases he
  | some v =>
    cases he
    exact h.2.2 i v hm
theorem cv_cat {α : Nat → Nat → Nat} {v : AV_} : (cv_ α v).category = 1 := by
  cases v with
  | inl x => rfl
  | inr q =>
    obtain ⟨t, x⟩ := q
    cases x <;> rfl
theorem lvr_store {α : Nat → Nat → Nat} {ls : Array Slot} {i : Nat} {v : AV_} (h : lv_has ls nL ((i, cv_ α v) :: (lvl_ α L).filter (fun q => !(q.1 == i) && !(q.1 + 1 == i && q.2.category == 2)))) : lvr_ α ls nL (L.set i (some v)) := by
  refine ⟨h.1, h.2.1, fun j w hj => ?_⟩
  by_cases e : i = j
  · subst e
    rw [List.getElem?_set] at hj
    simp only [if_true] at hj
    by_cases e2 : i < L.length
    · rw [if_pos e2] at hj
      cases hj
      exact h.2.2 (i, cv_ α v) List.mem_cons_self
    · rw [if_neg e2] at hj
      cases hj
  · rw [List.getElem?_set_ne e] at hj
    refine h.2.2 (j, cv_ α w) (List.mem_cons_of_mem _ (List.mem_filter.mpr ⟨lvl_mem hj, ?_⟩))
    simp [cv_cat, Ne.symm e]
theorem vL_set {i : Nat} {v : AV_} (h : vL_ g L) (hv : ok_ g v) : vL_ g (L.set i (some v)) := by
  intro j w hj
  by_cases e : i = j
  · subst e
    rw [List.getElem?_set] at hj
    simp only [if_true] at hj
    by_cases e2 : i < L.length
    · rw [if_pos e2] at hj
      cases hj
      exact hv
    · rw [if_neg e2] at hj
      cases hj
  · rw [List.getElem?_set_ne e] at hj
    exact h j w hj
theorem k_istn {i : Fin 4} {j : Nat} {x : Int32} (d : decode cc pc = .ok (.istore_n i, 1)) (hi : (i : Nat) = j) (hn : j < nL) (hL : L.set j (some (.inl x)) = L') (k : K_ own cc nL ret dep loc ini E (pc + 1) L' st g o) : K_ own cc nL ret dep loc ini E pc L (.inl x :: st) g o := by
  subst hL
  exact k_lift (fun p l e R s m args below meth c D α H locs ls cells slots Q cx _ _ hR vl vs hl kk => lv_istore_n cx.1 cx.2.1 d hi (lvl_has hl) hn rfl (fun ls' hl' => kk (vL_set (v := .inl x) vl trivial) (vS_t vs) ls' (lvr_store (v := .inl x) hl'))) k
theorem k_ist {j : Nat} {x : Int32} (d : decode cc pc = .ok (.istore j, 2)) (hn : j < nL) (hL : L.set j (some (.inl x)) = L') (k : K_ own cc nL ret dep loc ini E (pc + 2) L' st g o) : K_ own cc nL ret dep loc ini E pc L (.inl x :: st) g o := by
  subst hL
  exact k_lift (fun p l e R s m args below meth c D α H locs ls cells slots Q cx _ _ hR vl vs hl kk => lv_istore cx.1 cx.2.1 d (lvl_has hl) hn rfl (fun ls' hl' => kk (vL_set (v := .inl x) vl trivial) (vS_t vs) ls' (lvr_store (v := .inl x) hl'))) k
theorem k_iinc {j : Nat} {n : Int} {x v : Int32} (d : decode cc pc = .ok (.iinc j n, 3)) (hx : L[j]? = some (some (.inl x))) (hv : x + Int32.ofInt n = v) (hn : j < nL) (hL : L.set j (some (.inl v)) = L') (k : K_ own cc nL ret dep loc ini E (pc + 3) L' st g o) : K_ own cc nL ret dep loc ini E pc L st g o := by
  subst hL
  refine k_lift (fun p l e R s m args below meth c D α H locs ls cells slots Q cx _ _ hR vl vs hl kk => ?_) k
  obtain ⟨q, hq⟩ := List.getElem?_of_mem (lvl_mem (α := α) hx)
  exact lv_iinc cx.1 cx.2.1 d (lvl_has hl) hq hv hn rfl (fun ls' hl' => kk (vL_set vl trivial) vs ls' (lvr_store (v := .inl v) hl'))
theorem k_astn {i : Fin 4} {j t : Nat} {x : Option Nat} (d : decode cc pc = .ok (.astore_n i, 1)) (hi : (i : Nat) = j) (hn : j < nL) (hL : L.set j (some (.inr (t, x))) = L') (k : K_ own cc nL ret dep loc ini E (pc + 1) L' st g o) : K_ own cc nL ret dep loc ini E pc L (.inr (t, x) :: st) g o := by
  subst hL
  refine k_lift (fun p l e R s m args below meth c D α H locs ls cells slots Q cx _ _ hR vl vs hl kk => ?_) k
  cases x with
  | none => exact lv_astore_nN cx.1 cx.2.1 d hi (lvl_has hl) hn rfl (fun ls' hl' => kk (vL_set vl (vS_h vs)) (vS_t vs) ls' (lvr_store (v := .inr (t, none)) hl'))
  | some a => exact lv_astore_n cx.1 cx.2.1 d hi (lvl_has hl) hn rfl (fun ls' hl' => kk (vL_set vl (vS_h vs)) (vS_t vs) ls' (lvr_store (v := .inr (t, some a)) hl'))
theorem k_ast {j t : Nat} {x : Option Nat} (d : decode cc pc = .ok (.astore j, 2)) (hn : j < nL) (hL : L.set j (some (.inr (t, x))) = L') (k : K_ own cc nL ret dep loc ini E (pc + 2) L' st g o) : K_ own cc nL ret dep loc ini E pc L (.inr (t, x) :: st) g o := by
  subst hL
  refine k_lift (fun p l e R s m args below meth c D α H locs ls cells slots Q cx _ _ hR vl vs hl kk => ?_) k
  cases x with
  | none => exact lv_astoreN cx.1 cx.2.1 d (lvl_has hl) hn rfl (fun ls' hl' => kk (vL_set vl (vS_h vs)) (vS_t vs) ls' (lvr_store (v := .inr (t, none)) hl'))
  | some a => exact lv_astore cx.1 cx.2.1 d (lvl_has hl) hn rfl (fun ls' hl' => kk (vL_set vl (vS_h vs)) (vS_t vs) ls' (lvr_store (v := .inr (t, some a)) hl'))
theorem k_istnl {i : Fin 4} {j : Nat} {x : Int32} {L2 : Int32 → List (Option AV_)} {oo : Int32 → Option (ρ × GS_)} (d : decode cc pc = .ok (.istore_n i, 1)) (hi : (i : Nat) = j) (hn : j < nL) (hL : ∀ z, L.set j (some (.inl z)) = L2 z) (k : ∀ z, K_ own cc nL ret dep loc ini E (pc + 1) (L2 z) st g (oo z)) : K_ own cc nL ret dep loc ini E pc L (.inl x :: st) g (lr_ x oo) := k_istn d hi hn (hL x) (k x)
theorem k_istl {j : Nat} {x : Int32} {L2 : Int32 → List (Option AV_)} {oo : Int32 → Option (ρ × GS_)} (d : decode cc pc = .ok (.istore j, 2)) (hn : j < nL) (hL : ∀ z, L.set j (some (.inl z)) = L2 z) (k : ∀ z, K_ own cc nL ret dep loc ini E (pc + 2) (L2 z) st g (oo z)) : K_ own cc nL ret dep loc ini E pc L (.inl x :: st) g (lr_ x oo) := k_ist d hn (hL x) (k x)
-- arithmetic
theorem k_iadd {x y : Int32} (d : decode cc pc = .ok (.iadd, 1)) (k : K_ own cc nL ret dep loc ini E (pc + 1) L (.inl (x + y) :: st) g o) : K_ own cc nL ret dep loc ini E pc L (.inl y :: .inl x :: st) g o :=
  k_step (fun p l e R s m args below meth c α H locs ls cells slots Q hx hb kk => lv_iadd hx hb d kk) (fun h => vS_i (vS_t (vS_t h))) k
theorem k_isub {x y : Int32} (d : decode cc pc = .ok (.isub, 1)) (k : K_ own cc nL ret dep loc ini E (pc + 1) L (.inl (x - y) :: st) g o) : K_ own cc nL ret dep loc ini E pc L (.inl y :: .inl x :: st) g o :=
  k_step (fun p l e R s m args below meth c α H locs ls cells slots Q hx hb kk => lv_isub hx hb d kk) (fun h => vS_i (vS_t (vS_t h))) k
theorem k_imul {x y : Int32} (d : decode cc pc = .ok (.imul, 1)) (k : K_ own cc nL ret dep loc ini E (pc + 1) L (.inl (x * y) :: st) g o) : K_ own cc nL ret dep loc ini E pc L (.inl y :: .inl x :: st) g o :=
  k_step (fun p l e R s m args below meth c α H locs ls cells slots Q hx hb kk => lv_imul hx hb d kk) (fun h => vS_i (vS_t (vS_t h))) k
theorem k_iand {x y : Int32} (d : decode cc pc = .ok (.iand, 1)) (k : K_ own cc nL ret dep loc ini E (pc + 1) L (.inl (x &&& y) :: st) g o) : K_ own cc nL ret dep loc ini E pc L (.inl y :: .inl x :: st) g o :=
  k_step (fun p l e R s m args below meth c α H locs ls cells slots Q hx hb kk => lv_iand hx hb d kk) (fun h => vS_i (vS_t (vS_t h))) k
def jrem (x y : Int32) : Int32 := x - x / y * y
theorem k_idiv {x y : Int32} (d : decode cc pc = .ok (.idiv, 1)) (k : ¬ y = 0 → K_ own cc nL ret dep loc ini E (pc + 1) L (.inl (x / y) :: st) g o) : K_ own cc nL ret dep loc ini E pc L (.inl y :: .inl x :: st) g (if y = 0 then none else o) := by
  by_cases h : y = 0
  · rw [if_pos h]; exact k_fail
  · rw [if_neg h]
    exact k_step (fun p l e R s m args below meth c α H locs ls cells slots Q hx hb kk => lv_idiv hx hb d h kk) (fun h => vS_i (vS_t (vS_t h))) (k h)
theorem k_irem {x y : Int32} (d : decode cc pc = .ok (.irem, 1)) (k : ¬ y = 0 → K_ own cc nL ret dep loc ini E (pc + 1) L (.inl (jrem x y) :: st) g o) : K_ own cc nL ret dep loc ini E pc L (.inl y :: .inl x :: st) g (if y = 0 then none else o) := by
  by_cases h : y = 0
  · rw [if_pos h]; exact k_fail
  · rw [if_neg h]
    exact k_step (fun p l e R s m args below meth c α H locs ls cells slots Q hx hb kk => lv_irem hx hb d h kk) (fun h => vS_i (vS_t (vS_t h))) (k h)
theorem k_idivc {x y : Int32} (hy : ¬ y = 0) (d : decode cc pc = .ok (.idiv, 1)) (k : K_ own cc nL ret dep loc ini E (pc + 1) L (.inl (x / y) :: st) g o) : K_ own cc nL ret dep loc ini E pc L (.inl y :: .inl x :: st) g o :=
  k_step (fun p l e R s m args below meth c α H locs ls cells slots Q hx hb kk => lv_idiv hx hb d hy kk) (fun h => vS_i (vS_t (vS_t h))) k
theorem k_iremc {x y : Int32} (hy : ¬ y = 0) (d : decode cc pc = .ok (.irem, 1)) (k : K_ own cc nL ret dep loc ini E (pc + 1) L (.inl (jrem x y) :: st) g o) : K_ own cc nL ret dep loc ini E pc L (.inl y :: .inl x :: st) g o :=
  k_step (fun p l e R s m args below meth c α H locs ls cells slots Q hx hb kk => lv_irem hx hb d hy kk) (fun h => vS_i (vS_t (vS_t h))) k
-- the stack
theorem k_dup {v : AV_} (d : decode cc pc = .ok (.dup, 1)) (k : K_ own cc nL ret dep loc ini E (pc + 1) L (v :: v :: st) g o) : K_ own cc nL ret dep loc ini E pc L (v :: st) g o :=
  k_step (fun p l e R s m args below meth c α H locs ls cells slots Q hx hb kk => lv_dup hx hb d cv_cat kk) (fun h => vS_c (vS_h h) h) k
theorem k_dup2 {v w : AV_} (d : decode cc pc = .ok (.dup2, 1)) (k : K_ own cc nL ret dep loc ini E (pc + 1) L (v :: w :: v :: w :: st) g o) : K_ own cc nL ret dep loc ini E pc L (v :: w :: st) g o :=
  k_step (fun p l e R s m args below meth c α H locs ls cells slots Q hx hb kk => lv_dup2_11 hx hb d cv_cat cv_cat kk) (fun h => vS_c (vS_h h) (vS_c (vS_h (vS_t h)) h)) k
theorem k_pop {v : AV_} (d : decode cc pc = .ok (.pop, 1)) (k : K_ own cc nL ret dep loc ini E (pc + 1) L st g o) : K_ own cc nL ret dep loc ini E pc L (v :: st) g o :=
  k_step (fun p l e R s m args below meth c α H locs ls cells slots Q hx hb kk => lv_pop hx hb d cv_cat kk) vS_t k
theorem k_goto {off : Int} {tgt : Nat} (d : decode cc pc = .ok (.goto off, 3)) (ht : (pc : Int) + off = (tgt : Int)) (k : K_ own cc nL ret dep loc ini E tgt L st g o) : K_ own cc nL ret dep loc ini E pc L st g o :=
  k_step (fun p l e R s m args below meth c α H locs ls cells slots Q hx hb kk => lv_goto hx hb d ht kk) id k
-- branches
theorem k_two {C : Prop} [Decidable C] {tgt nxt : Nat} {o1 o2 : Option (ρ × GS_)}
    (h : ∀ (p : Program) (l : Launch) (e : Env) (R : Room) (s : State) (m : MethodId) (args : Array Value) (below : List Frame) (meth : Method) (c : Code) (α : Nat → Nat → Nat) (H : Heap) (locs : List Loc) (ls : Array Slot) (cells slots : Nat) (Q : State → Prop), p.tables.exec = Jvm.exec → c.code = cc →
      (C → W p l e R s m args below meth c H locs cells slots Q (F0 m tgt ls (st'.map (cv_ α)))) → (¬ C → W p l e R s m args below meth c H locs cells slots Q (F0 m nxt ls (st'.map (cv_ α)))) → W p l e R s m args below meth c H locs cells slots Q (F0 m pc ls (st.map (cv_ α))))
    (hst : vS_ g st → vS_ g st') (k1 : C → K_ own cc nL ret dep loc ini E tgt L st' g o1) (k2 : ¬ C → K_ own cc nL ret dep loc ini E nxt L st' g o2) : K_ own cc nL ret dep loc ini E pc L st g (if C then o1 else o2) := by
  by_cases hC : C
  · rw [if_pos hC]
    exact k_step (fun p l e R s m args below meth c α H locs ls cells slots Q hx hb kk => h p l e R s m args below meth c α H locs ls cells slots Q hx hb (fun _ => kk) (fun q => absurd hC q)) hst (k1 hC)
  · rw [if_neg hC]
    exact k_step (fun p l e R s m args below meth c α H locs ls cells slots Q hx hb kk => h p l e R s m args below meth c α H locs ls cells slots Q hx hb (fun q => absurd q hC) (fun _ => kk)) hst (k2 hC)
variable {x y : Int32} {off : Int} {tgt : Nat} {o1 o2 : Option (ρ × GS_)}
theorem k_ifeq (d : decode cc pc = .ok (.ifCond .eq off, 3)) (ht : (pc : Int) + off = (tgt : Int)) (k1 : x = 0 → K_ own cc nL ret dep loc ini E tgt L st g o1) (k2 : ¬ x = 0 → K_ own cc nL ret dep loc ini E (pc + 3) L st g o2) : K_ own cc nL ret dep loc ini E pc L (.inl x :: st) g (if x = 0 then o1 else o2) :=
  k_two (fun p l e R s m args below meth c α H locs ls cells slots Q hx hb kt kf => lv_if_eq hx hb d ht kt kf) vS_t k1 k2
theorem k_ifne (d : decode cc pc = .ok (.ifCond .ne off, 3)) (ht : (pc : Int) + off = (tgt : Int)) (k1 : x = 0 → K_ own cc nL ret dep loc ini E (pc + 3) L st g o1) (k2 : ¬ x = 0 → K_ own cc nL ret dep loc ini E tgt L st g o2) : K_ own cc nL ret dep loc ini E pc L (.inl x :: st) g (if x = 0 then o1 else o2) :=
  k_two (fun p l e R s m args below meth c α H locs ls cells slots Q hx hb kt kf => lv_if_ne hx hb d ht kf kt) vS_t k1 k2
theorem k_iflt (d : decode cc pc = .ok (.ifCond .lt off, 3)) (ht : (pc : Int) + off = (tgt : Int)) (k1 : x < 0 → K_ own cc nL ret dep loc ini E tgt L st g o1) (k2 : ¬ x < 0 → K_ own cc nL ret dep loc ini E (pc + 3) L st g o2) : K_ own cc nL ret dep loc ini E pc L (.inl x :: st) g (if x < 0 then o1 else o2) :=
  k_two (fun p l e R s m args below meth c α H locs ls cells slots Q hx hb kt kf => lv_if_lt hx hb d ht kt kf) vS_t k1 k2
theorem k_ifge (d : decode cc pc = .ok (.ifCond .ge off, 3)) (ht : (pc : Int) + off = (tgt : Int)) (k1 : 0 ≤ x → K_ own cc nL ret dep loc ini E tgt L st g o1) (k2 : ¬ 0 ≤ x → K_ own cc nL ret dep loc ini E (pc + 3) L st g o2) : K_ own cc nL ret dep loc ini E pc L (.inl x :: st) g (if 0 ≤ x then o1 else o2) :=
  k_two (fun p l e R s m args below meth c α H locs ls cells slots Q hx hb kt kf => lv_if_ge hx hb d ht kt kf) vS_t k1 k2
theorem k_ifgt (d : decode cc pc = .ok (.ifCond .gt off, 3)) (ht : (pc : Int) + off = (tgt : Int)) (k1 : 0 < x → K_ own cc nL ret dep loc ini E tgt L st g o1) (k2 : ¬ 0 < x → K_ own cc nL ret dep loc ini E (pc + 3) L st g o2) : K_ own cc nL ret dep loc ini E pc L (.inl x :: st) g (if 0 < x then o1 else o2) :=
  k_two (fun p l e R s m args below meth c α H locs ls cells slots Q hx hb kt kf => lv_if_gt hx hb d ht kt kf) vS_t k1 k2
theorem k_ifle (d : decode cc pc = .ok (.ifCond .le off, 3)) (ht : (pc : Int) + off = (tgt : Int)) (k1 : x ≤ 0 → K_ own cc nL ret dep loc ini E tgt L st g o1) (k2 : ¬ x ≤ 0 → K_ own cc nL ret dep loc ini E (pc + 3) L st g o2) : K_ own cc nL ret dep loc ini E pc L (.inl x :: st) g (if x ≤ 0 then o1 else o2) :=
  k_two (fun p l e R s m args below meth c α H locs ls cells slots Q hx hb kt kf => lv_if_le hx hb d ht kt kf) vS_t k1 k2
theorem k_icmpeq (d : decode cc pc = .ok (.if_icmp .eq off, 3)) (ht : (pc : Int) + off = (tgt : Int)) (k1 : x = y → K_ own cc nL ret dep loc ini E tgt L st g o1) (k2 : ¬ x = y → K_ own cc nL ret dep loc ini E (pc + 3) L st g o2) : K_ own cc nL ret dep loc ini E pc L (.inl y :: .inl x :: st) g (if x = y then o1 else o2) :=
  k_two (fun p l e R s m args below meth c α H locs ls cells slots Q hx hb kt kf => lv_icmp_eq hx hb d ht kt kf) (fun h => vS_t (vS_t h)) k1 k2
theorem k_icmpne (d : decode cc pc = .ok (.if_icmp .ne off, 3)) (ht : (pc : Int) + off = (tgt : Int)) (k1 : x = y → K_ own cc nL ret dep loc ini E (pc + 3) L st g o1) (k2 : ¬ x = y → K_ own cc nL ret dep loc ini E tgt L st g o2) : K_ own cc nL ret dep loc ini E pc L (.inl y :: .inl x :: st) g (if x = y then o1 else o2) :=
  k_two (fun p l e R s m args below meth c α H locs ls cells slots Q hx hb kt kf => lv_icmp_ne hx hb d ht kf kt) (fun h => vS_t (vS_t h)) k1 k2
theorem k_icmplt (d : decode cc pc = .ok (.if_icmp .lt off, 3)) (ht : (pc : Int) + off = (tgt : Int)) (k1 : x < y → K_ own cc nL ret dep loc ini E tgt L st g o1) (k2 : ¬ x < y → K_ own cc nL ret dep loc ini E (pc + 3) L st g o2) : K_ own cc nL ret dep loc ini E pc L (.inl y :: .inl x :: st) g (if x < y then o1 else o2) :=
  k_two (fun p l e R s m args below meth c α H locs ls cells slots Q hx hb kt kf => lv_icmp_lt hx hb d ht kt kf) (fun h => vS_t (vS_t h)) k1 k2
theorem k_icmpge (d : decode cc pc = .ok (.if_icmp .ge off, 3)) (ht : (pc : Int) + off = (tgt : Int)) (k1 : y ≤ x → K_ own cc nL ret dep loc ini E tgt L st g o1) (k2 : ¬ y ≤ x → K_ own cc nL ret dep loc ini E (pc + 3) L st g o2) : K_ own cc nL ret dep loc ini E pc L (.inl y :: .inl x :: st) g (if y ≤ x then o1 else o2) :=
  k_two (fun p l e R s m args below meth c α H locs ls cells slots Q hx hb kt kf => lv_icmp_ge hx hb d ht kt kf) (fun h => vS_t (vS_t h)) k1 k2
theorem k_icmpgt (d : decode cc pc = .ok (.if_icmp .gt off, 3)) (ht : (pc : Int) + off = (tgt : Int)) (k1 : y < x → K_ own cc nL ret dep loc ini E tgt L st g o1) (k2 : ¬ y < x → K_ own cc nL ret dep loc ini E (pc + 3) L st g o2) : K_ own cc nL ret dep loc ini E pc L (.inl y :: .inl x :: st) g (if y < x then o1 else o2) :=
  k_two (fun p l e R s m args below meth c α H locs ls cells slots Q hx hb kt kf => lv_icmp_gt hx hb d ht kt kf) (fun h => vS_t (vS_t h)) k1 k2
theorem k_icmple (d : decode cc pc = .ok (.if_icmp .le off, 3)) (ht : (pc : Int) + off = (tgt : Int)) (k1 : x ≤ y → K_ own cc nL ret dep loc ini E tgt L st g o1) (k2 : ¬ x ≤ y → K_ own cc nL ret dep loc ini E (pc + 3) L st g o2) : K_ own cc nL ret dep loc ini E pc L (.inl y :: .inl x :: st) g (if x ≤ y then o1 else o2) :=
  k_two (fun p l e R s m args below meth c α H locs ls cells slots Q hx hb kt kf => lv_icmp_le hx hb d ht kt kf) (fun h => vS_t (vS_t h)) k1 k2
theorem k_ifnulln {t : Nat} {B : Nat → Option (ρ × GS_)} (d : decode cc pc = .ok (.ifnull off, 3)) (ht : (pc : Int) + off = (tgt : Int)) (k : K_ own cc nL ret dep loc ini E tgt L st g o) : K_ own cc nL ret dep loc ini E pc L (.inr (t, none) :: st) g (oc_ none o B) :=
  k_step (fun p l e R s m args below meth c α H locs ls cells slots Q hx hb kk => lv_ifnullN hx hb d ht kk) vS_t k
theorem k_ifnulls {t a : Nat} {B : Nat → Option (ρ × GS_)} (d : decode cc pc = .ok (.ifnull off, 3)) (k : K_ own cc nL ret dep loc ini E (pc + 3) L st g (B a)) : K_ own cc nL ret dep loc ini E pc L (.inr (t, some a) :: st) g (oc_ (some a) o B) :=
  k_step (fun p l e R s m args below meth c α H locs ls cells slots Q hx hb kk => lv_ifnull hx hb d kk) vS_t k
theorem k_ifnonnulln {t : Nat} {B : Nat → Option (ρ × GS_)} (d : decode cc pc = .ok (.ifnonnull off, 3)) (k : K_ own cc nL ret dep loc ini E (pc + 3) L st g o) : K_ own cc nL ret dep loc ini E pc L (.inr (t, none) :: st) g (oc_ none o B) :=
  k_step (fun p l e R s m args below meth c α H locs ls cells slots Q hx hb kk => lv_ifnonnullN hx hb d kk) vS_t k
theorem k_ifnonnulls {t a : Nat} {B : Nat → Option (ρ × GS_)} (d : decode cc pc = .ok (.ifnonnull off, 3)) (ht : (pc : Int) + off = (tgt : Int)) (k : K_ own cc nL ret dep loc ini E tgt L st g (B a)) : K_ own cc nL ret dep loc ini E pc L (.inr (t, some a) :: st) g (oc_ (some a) o B) :=
  k_step (fun p l e R s m args below meth c α H locs ls cells slots Q hx hb kk => lv_ifnonnull hx hb d ht kk) vS_t k
/-- the same, of a thing known not to be null -/
theorem k_ifnullk {t a : Nat} (d : decode cc pc = .ok (.ifnull off, 3)) (k : K_ own cc nL ret dep loc ini E (pc + 3) L st g o) : K_ own cc nL ret dep loc ini E pc L (.inr (t, some a) :: st) g o :=
  k_step (fun p l e R s m args below meth c α H locs ls cells slots Q hx hb kk => lv_ifnull hx hb d kk) vS_t k
theorem k_ifnonnullk {t a : Nat} (d : decode cc pc = .ok (.ifnonnull off, 3)) (ht : (pc : Int) + off = (tgt : Int)) (k : K_ own cc nL ret dep loc ini E tgt L st g o) : K_ own cc nL ret dep loc ini E pc L (.inr (t, some a) :: st) g o :=
  k_step (fun p l e R s m args below meth c α H locs ls cells slots Q hx hb kk => lv_ifnonnull hx hb d ht kk) vS_t k
/-- a case without a step, for the switches -/
theorem k_case {C : Prop} [Decidable C] (k1 : C → K_ own cc nL ret dep loc ini E pc L st g o1) (k2 : ¬ C → K_ own cc nL ret dep loc ini E pc L st g o2) : K_ own cc nL ret dep loc ini E pc L st g (if C then o1 else o2) := by
  by_cases hC : C
  · rw [if_pos hC]; exact k1 hC
  · rw [if_neg hC]; exact k2 hC
theorem k_tin {dflt lo hi : Int} {offs : Array Int} {len : Nat} {v : Int32} (d : decode cc pc = .ok (.tableswitch dflt lo hi offs, len)) (hx : x = v) (h1 : ¬ v.toInt < lo) (h2 : ¬ hi < v.toInt) (ho : offs[(v.toInt - lo).toNat]? = some off) (ht : (pc : Int) + off = (tgt : Int)) (k : K_ own cc nL ret dep loc ini E tgt L st g o) : K_ own cc nL ret dep loc ini E pc L (.inl x :: st) g o := by
  subst hx
  exact k_step (fun p l e R s m args below meth c α H locs ls cells slots Q hx hb kk => lv_tableIn hx hb d h1 h2 ho ht kk) vS_t k
theorem k_tout {dflt lo hi : Int} {offs : Array Int} {len : Nat} (d : decode cc pc = .ok (.tableswitch dflt lo hi offs, len)) (h : x.toInt < lo ∨ hi < x.toInt) (ht : (pc : Int) + dflt = (tgt : Int)) (k : K_ own cc nL ret dep loc ini E tgt L st g o) : K_ own cc nL ret dep loc ini E pc L (.inl x :: st) g o :=
  k_step (fun p l e R s m args below meth c α H locs ls cells slots Q hx hb kk => lv_tableOut hx hb d h ht kk) vS_t k
end KR
end
section
/-! the walk over numbers: fields, arrays, new things -/
def dv_ (f : Nat) : Value := if (rs_ f).isSome then .null else .int 0
/-- a class's facts -/
def CF_ (t : Nat) (C : String) (T : u_T) (N : Nat) : Prop := vwCl[t]? = some (C, T, N) ∧ (∀ w ∈ u_ws C T N, w ∈ TW_) ∧ (∀ a, a < N → ∀ b, b < N → a ≠ b → (T a).2.1 ≠ (T b).2.1) ∧ ∃ ty : Nat → FieldType, (∀ k, k < N → parseFieldDescriptor (T k).2.2.1 = some (ty k)) ∧ ∀ k, k < N → defaultValue (ty k) = dv_ (32 * t + k)
/-- a place of the pool that names a field -/
def FL_ (own : String) (idx : Nat) (T : u_T) (k : Nat) : Prop := Cond.fieldLink own idx (T k).1 (T k).2.1 (T k).2.2.1 ∈ TW_ ∨ ∃ host, Cond.fieldLinkNest own idx (T k).1 (T k).2.1 (T k).2.2.1 host ∈ tables_1
def FG_ (own : String) (idx t k : Nat) : Prop := ∃ (C : String) (T : u_T) (N : Nat), CF_ t C T N ∧ k < N ∧ FL_ own idx T k
def FP_ (own : String) (idx t k : Nat) (ty : FieldType) : Prop := ∃ (C : String) (T : u_T) (N : Nat), CF_ t C T N ∧ k < N ∧ (T k).2.2.2 = false ∧ parseFieldDescriptor (T k).2.2.1 = some ty ∧ FL_ own idx T k
def FF_ (own : String) (idx t k : Nat) (ty : FieldType) : Prop := ∃ (C : String) (T : u_T) (N : Nat), CF_ t C T N ∧ k < N ∧ (T k).2.2.2 = true ∧ parseFieldDescriptor (T k).2.2.1 = some ty ∧ (T k).1 = own ∧ Cond.fieldLink own idx (T k).1 (T k).2.1 (T k).2.2.1 ∈ TW_
section KW
variable {p : Program} {l : Launch} {e : Env} {R : Room} {s : State} {m : MethodId} {args : Array Value} {below : List Frame} {meth : Method} {c : Code} {H : Heap} {locs : List Loc} {cells slots : Nat} {Q : State → Prop}
variable {own : String} {cc : ByteArray} {pc : Nat} {ls : Array Slot} {rest : List Value} {D : va_G} {α : Nat → Nat → Nat} {g : GS_} {A : Nat → Prop}
theorem w_get {idx t k a : Nat} (hF : FG_ own idx t k) (hx : p.tables.exec = Jvm.exec) (hb : c.code = cc) (hown : s.vm.findClass own = some m.cls) (hts : ∀ w ∈ TW_, w.before args s = true) (hA : Amb_ D s) (hR : Rep_ D α g H) (ha : a < gcn g t) (hd : decode cc pc = .ok (.getfield idx, 3))
    (kk : W p l e R s m args below meth c H locs cells slots Q (F0 m (pc + 3) ls (fv_ α g (32 * t + k) a :: rest))) : W p l e R s m args below meth c H locs cells slots Q (F0 m pc ls (.ref (α t a) :: rest)) := by
  obtain ⟨C, T, N, ⟨hc, hin, hnm, ty, hty, -⟩, hk, hl⟩ := hF
  obtain ⟨cell, q1, q2, q3, q4⟩ := hR.2.2.2.2.1 t C T N a hc ha
  obtain ⟨hS, hfc, kC, hkC, hkind⟩ := hA.1.1 t _ hc
  obtain ⟨cf, kf, fi, f, hi, hsl⟩ := hS k hk
  have hst := (u_facts hfc hkC (u_lays hts hin hk) hi).1
  have hv : cell.slots[f.slot]? = some (fv_ α g (32 * t + k) a) := by rw [hsl]; exact q4 k hk
  rcases hl with hl | ⟨host, hl⟩
  · exact W.getf hx hb hown (hts _ hl) hi hst q1 (by rw [q3]; exact fun h => by cases h) hv rfl rfl hd kk
  · exact va_Wgetf hx hb hown (va_Nw.use rfl (hA.2.1.1 _ _ _ _ _ _ hl)) hi hst q1 (by rw [q3]; exact fun h => by cases h) hv rfl rfl hd kk
theorem w_put {idx t k a : Nat} {ty : FieldType} {v : Value} (hF : FP_ own idx t k ty) (hx : p.tables.exec = Jvm.exec) (hb : c.code = cc) (hown : s.vm.findClass own = some m.cls) (hts : ∀ w ∈ TW_, w.before args s = true) (hA : Amb_ D s) (hR : Rep_ D α g H) (hS0 : va_S A s.heap H locs) (hAa : A (α t a)) (ha : a < gcn g t) (hn : narrow ty v = v) (hfit : fits ty v = true) (hd : decode cc pc = .ok (.putfield idx, 3))
    (kk : ∀ (H1 : Heap) (locs1 : List Loc), (∀ C T N, vwCl[t]? = some (C, T, N) → t_OB (α t a) (D.1 t) N (D.2 t) H1 (updV (fun k => fv_ α g (32 * t + k) a) k v)) → H1.size = H.size → (∀ q, q ≠ α t a → H1[q]? = H[q]?) → va_S A s.heap H1 locs1 → W p l e R s m args below meth c H1 locs1 cells slots Q (F0 m (pc + 3) ls rest)) : W p l e R s m args below meth c H locs cells slots Q (F0 m pc ls (v :: .ref (α t a) :: rest)) := by
  obtain ⟨C, T, N, ⟨hc, hin, hnm, ty0, hty, -⟩, hk, hfin, hty2, hl⟩ := hF
  have hap := va_apart (own := own) hts hin ty0 hty hnm hA.1 hc
  obtain ⟨cell, q1, q2, q3, q4⟩ := hR.2.2.2.2.1 t C T N a hc ha
  obtain ⟨hS, hfc, kC, hkC, hkind⟩ := hA.1.1 t _ hc
  obtain ⟨cf, kf, fi, f, hi, hsl⟩ := hS k hk
  have hlay := hts _ (hin _ (u_in_lay hk))
  unfold u_lay at hlay
  rw [if_neg (by rw [hfin]; decide)] at hlay
  have hst := (u_facts hfc hkC (u_lays hts hin hk) hi).1
  have h6 := u_store hfc hkC hkind hlay hi hty2 hn hfit
  have fin : ∀ H' : Heap, H'[α t a]? = some (cell.setSlot f.slot v) → H'.size = H.size → (∀ q, q ≠ α t a → H'[q]? = H[q]?) → W p l e R s m args below meth c H' (locs ++ [⟨α t a, f.slot⟩]) cells slots Q (F0 m (pc + 3) ls rest) := by
    intro H' e1 e2 e3
    refine kk H' _ (fun C' T' N' hc' => ?_) e2 e3 (hS0.put e2 e3 hAa)
    cases hc.symm.trans hc'
    rw [hsl] at e1
    exact ⟨_, e1, q2, q3, t_set q4 hap hk v⟩
  rcases hl with hl | ⟨host, hl⟩
  · exact W.putK hx hb (f := f) ⟨hown, hts _ hl, ⟨_, _, _, hi⟩, hst⟩ (by rw [q2]; exact h6) q1 q3 (by rw [hsl]; exact k2_hasslot (q4 k hk)) rfl rfl hd fin
  · exact va_WputK hx hb (f := f) hown (va_Nw.use rfl (hA.2.1.1 _ _ _ _ _ _ hl)) hi hst (by rw [q2]; exact h6) q1 q3 (by rw [hsl]; exact k2_hasslot (q4 k hk)) rfl rfl hd fin
theorem w_putF {idx t k a : Nat} {ty : FieldType} {v : Value} (hF : FF_ own idx t k ty) (hx : p.tables.exec = Jvm.exec) (hb : c.code = cc) (hown : s.vm.findClass own = some m.cls) (hts : ∀ w ∈ TW_, w.before args s = true) (hin2 : meth.name = "<init>") (hA : Amb_ D s) (hR : Rep_ D α g H) (hS0 : va_S A s.heap H locs) (hAa : A (α t a)) (ha : a < gcn g t) (hn : narrow ty v = v) (hfit : fits ty v = true) (hd : decode cc pc = .ok (.putfield idx, 3))
    (kk : ∀ (H1 : Heap) (locs1 : List Loc), (∀ C T N, vwCl[t]? = some (C, T, N) → t_OB (α t a) (D.1 t) N (D.2 t) H1 (updV (fun k => fv_ α g (32 * t + k) a) k v)) → H1.size = H.size → (∀ q, q ≠ α t a → H1[q]? = H[q]?) → va_S A s.heap H1 locs1 → W p l e R s m args below meth c H1 locs1 cells slots Q (F0 m (pc + 3) ls rest)) : W p l e R s m args below meth c H locs cells slots Q (F0 m pc ls (v :: .ref (α t a) :: rest)) := by
  obtain ⟨C, T, N, ⟨hc, hin, hnm, ty0, hty, -⟩, hk, hfin, hty2, hdecl, hl⟩ := hF
  have hap := va_apart (own := own) hts hin ty0 hty hnm hA.1 hc
  obtain ⟨cell, q1, q2, q3, q4⟩ := hR.2.2.2.2.1 t C T N a hc ha
  obtain ⟨hS, hfc, kC, hkC, hkind⟩ := hA.1.1 t _ hc
  obtain ⟨cf, kf, fi, f, hi, hsl⟩ := hS k hk
  have hlay := hts _ (hin _ (u_in_lay hk))
  unfold u_lay at hlay
  rw [if_pos hfin] at hlay
  have hst := (u_facts hfc hkC (u_lays hts hin hk) hi).1
  have hcf : m.cls = cf := by
    obtain ⟨_, _, c', _, _, _, -, -, hf', -, -, -, hown2, -⟩ := Cond.laysFinal_spec hlay
    have e1 : c' = cf := by have := hi.symm.trans hf'; simp at this; exact this.1.symm
    rw [hdecl] at hown2
    rw [← e1]; exact Option.some.inj (hown.symm.trans hown2)
  have h6 := u_fits hfc hkC hkind (Or.inr hlay) hi hty2 hn hfit
  refine W.putFinK hx hb hown (hts _ hl) hi hst hcf hin2 (by rw [q2]; exact h6) q1 q3 (by rw [hsl]; exact k2_hasslot (q4 k hk)) rfl rfl hd (fun H' e1 e2 e3 => ?_)
  refine kk H' _ (fun C' T' N' hc' => ?_) e2 e3 (hS0.put e2 e3 hAa)
  cases hc.symm.trans hc'
  rw [hsl] at e1
  exact ⟨_, e1, q2, q3, t_set q4 hap hk v⟩
theorem p1_ {q : Nat × va_E} (h : va_at D vwCl q H) : va_P D vwCl [q] H := by
  intro k q' hk
  cases k with
  | zero => cases hk; exact h
  | succ k => simp at hk
end KW
theorem cat_sum (α : Nat → Nat → Nat) : ∀ st : List AV_, ((st.map (cv_ α)).map fun v => v.category).sum = st.length
  | [] => rfl
  | v :: st => by
    simp only [List.map_cons, List.sum_cons, List.length_cons]
    rw [cv_cat, cat_sum α st]
    omega
theorem inb_in {i : Int32} {n : Nat} (h : inb i n) : vp_in i n := vp_in_iff.mpr h
def no_ {β : Type} (g : GS_) (t N : Nat) (o : Nat → GS_ → β) : β := o (gcn g t) (nwo g t N)
def na_ {β : Type} (g : GS_) (t : Nat) (n : Int32) (o : Nat → GS_ → Option β) : Option β := if 0 ≤ n.toInt ∧ n.toInt ≤ 100000 then o (gcn g t) (nwa g t n.toInt.toNat) else none
def cp_ {β : Type} (g : GS_) (a b : Nat) (sp dp n : Int32) (o : GS_ → Option β) : Option β := if (0 ≤ sp.toInt ∧ 0 ≤ dp.toInt ∧ 0 ≤ n.toInt) ∧ sp.toInt + n.toInt ≤ gln g 20 a ∧ dp.toInt + n.toInt ≤ gln g 20 b then o (saw g 20 b (va_cpy (gai g 20 a) (gai g 20 b) sp.toInt.toNat dp.toInt.toNat n.toInt.toNat)) else none
def jmax (x y : Int32) : Int32 := if x < y then y else x
def jmin (x y : Int32) : Int32 := if y < x then y else x
def jabs (x : Int32) : Int32 := if 0 ≤ x then x else 0 - x
section KH
variable {own : String} {cc : ByteArray} {nL : Nat} {ret : Option FieldType} {dep loc : Nat} {ini : Bool} {ρ : Type} {E : ρ → Option AV_} {pc : Nat} {L L' : List (Option AV_)} {st st' : List AV_} {g : GS_} {o : Option (ρ × GS_)} {oo : GS_ → Option (ρ × GS_)}
/-- a step that changes the heap and makes nothing -/
theorem k_liftG {pc' : Nat} {g' : GS_} (hcn : gcn g' = gcn g) (hhs : ghs g' = ghs g) (hsl : gsl g' = gsl g)
    (h : ∀ (p : Program) (l : Launch) (e : Env) (R : Room) (s : State) (m : MethodId) (args : Array Value) (below : List Frame) (meth : Method) (c : Code) (D : va_G) (A : Nat → Prop) (α : Nat → Nat → Nat) (H : Heap) (locs : List Loc) (ls : Array Slot) (cells slots : Nat) (Q : State → Prop), CX_ own cc nL ret dep loc ini D p R s m args meth c → cells ≤ R.cells → slots ≤ R.slots → Rep_ D α g H → (∀ t i, i < gcn g t → A (α t i)) → va_S A s.heap H locs → vL_ g L → vS_ g st → lvr_ α ls nL L →
      (∀ (H1 : Heap) (locs1 : List Loc), Rep_ D α g' H1 → va_S A s.heap H1 locs1 → W p l e R s m args below meth c H1 locs1 cells slots Q (F0 m pc' ls (st'.map (cv_ α)))) → W p l e R s m args below meth c H locs cells slots Q (F0 m pc ls (st.map (cv_ α))))
    (hst : vS_ g st → vS_ g st') (k : K_ own cc nL ret dep loc ini E pc' L st' g' o) : K_ own cc nL ret dep loc ini E pc L st g o := by
  intro r gf ho
  obtain ⟨hm, hk⟩ := k r gf ho
  rw [hhs, hsl] at hm
  refine ⟨hm, ?_⟩
  intro p l e R s m args below meth c D A α0 α g0 H locs ls cx sx hc hs vl vs hl
  obtain ⟨s1, s2, s3, s4, s5, s6, s7, s8⟩ := sx
  refine h p l e R s m args below meth c D A α H locs ls _ _ _ cx (by omega) (by omega) s1 s2 s4 vl vs hl (fun H1 locs1 hR hS => ?_)
  have hz := hk p l e R s m args below meth c D A α0 α g0 H1 locs1 ls cx ⟨hR, by rw [hcn]; exact s2, s3, hS, s5, by rw [hcn]; exact s6, by rw [hhs]; exact s7, by rw [hsl]; exact s8⟩ hc hs (vL_mono (fun t => by rw [hcn]; exact Nat.le_refl _) vl) (vS_mono (fun t => by rw [hcn]; exact Nat.le_refl _) (hst vs)) hl
  rw [hhs, hsl] at hz
  exact hz
/-- a step that makes a cell of n slots -/
theorem k_liftN {pc' t n : Nat} {g' : GS_} (hcn : gcn g' = fun x => if x = t then gcn g t + 1 else gcn g x) (hhs : ghs g' = ghs g + 1) (hsl : gsl g' = gsl g + n)
    (h : ∀ (p : Program) (l : Launch) (e : Env) (R : Room) (s : State) (m : MethodId) (args : Array Value) (below : List Frame) (meth : Method) (c : Code) (D : va_G) (α : Nat → Nat → Nat) (H : Heap) (locs : List Loc) (ls : Array Slot) (cells slots : Nat) (Q : State → Prop), CX_ own cc nL ret dep loc ini D p R s m args meth c → cells + 1 ≤ R.cells → slots + n ≤ R.slots → Rep_ D α g H →
      (∀ (H1 : Heap), Rep_ D (aup_ α t (gcn g t) H.size) g' H1 → H1.size = H.size + 1 → (∀ q, q < H.size → H1[q]? = H[q]?) → W p l e R s m args below meth c H1 locs (cells + 1) (slots + n) Q (F0 m pc' ls (.ref H.size :: st'.map (cv_ α)))) → W p l e R s m args below meth c H locs cells slots Q (F0 m pc ls (st.map (cv_ α))))
    (hst : vS_ g st → vS_ g st') (k : K_ own cc nL ret dep loc ini E pc' L (.inr (t, some (gcn g t)) :: st') g' o) : K_ own cc nL ret dep loc ini E pc L st g o := by
  intro r gf ho
  obtain ⟨hm, hk⟩ := k r gf ho
  rw [hhs, hsl] at hm
  refine ⟨⟨by omega, by omega⟩, ?_⟩
  intro p l e R s m args below meth c D A α0 α g0 H locs ls cx sx hc hs vl vs hl
  obtain ⟨s1, s2, s3, s4, s5, s6, s7, s8⟩ := sx
  have up : ∀ x, gcn g x ≤ gcn g' x := by
    intro x
    rw [hcn]
    by_cases e : x = t
    · simp [e]
    · simp [e]
  have hA : ∀ t' i', i' < gcn g t' → aup_ α t (gcn g t) H.size t' i' = α t' i' := aup_old
  refine h p l e R s m args below meth c D α H locs ls _ _ _ cx (by omega) (by omega) s1 (fun H1 hR z oq => ?_)
  have hz := hk p l e R s m args below meth c D A α0 (aup_ α t (gcn g t) H.size) g0 H1 locs ls cx ⟨hR, ?_, s3, ⟨by have := s4.1; omega, fun q h1 h2 => (oq q (Nat.lt_of_lt_of_le h1 s4.1)).trans (s4.2.1 q h1 h2), s4.2.2⟩, fun t' i hi => (hA t' i (Nat.lt_of_lt_of_le hi (s6 t'))).trans (s5 t' i hi), fun t' => Nat.le_trans (s6 t') (up t'), by omega, by omega⟩ hc hs (vL_mono up vl) (vS_c (fun i hi => by cases hi; show gcn g t < gcn g' t; rw [hcn]; simp) (vS_mono up (hst vs))) (lvr_ext hA vl hl)
  · have e1 : ghs g' - ghs g0 = ghs g - ghs g0 + 1 := by omega
    have e2 : gsl g' - gsl g0 = gsl g - gsl g0 + n := by omega
    rw [e1, e2, List.map_cons, map_ext hA (hst vs)] at hz
    have e3 : cv_ (aup_ α t (gcn g t) H.size) (.inr (t, some (gcn g t))) = .ref H.size := by
      show Value.ref (aup_ α t (gcn g t) H.size t (gcn g t)) = _
      rw [aup_new]
    rw [e3] at hz
    exact hz
  · intro t' i hi
    by_cases e : t' = t ∧ i = gcn g t
    · obtain ⟨rfl, rfl⟩ := e
      rw [aup_new]
      exact s3 _ s4.1
    · have h1 : i < gcn g t' := by
        rw [hcn] at hi
        by_cases e1 : t' = t
        · simp only [e1, if_true] at hi
          have e2 : i ≠ gcn g t := fun q => e ⟨e1, q⟩
          rw [e1]; omega
        · simpa [e1] using hi
      rw [hA t' i h1]
      exact s2 t' i h1
-- fields
theorem k_geti {idx t k f a : Nat} (hF : FG_ own idx t k) (he : 32 * t + k = f) (hr : rs_ f = none) (d : decode cc pc = .ok (.getfield idx, 3)) (k1 : K_ own cc nL ret dep loc ini E (pc + 3) L (.inl (gfi g f a) :: st) g o) : K_ own cc nL ret dep loc ini E pc L (.inr (t, some a) :: st) g o := by
  subst he
  refine k_lift (fun p l e R s m args below meth c D α H locs ls cells slots Q cx _ _ hR vl vs hl kk => ?_) k1
  refine w_get hF cx.1 cx.2.1 cx.2.2.2.2.1 cx.2.2.2.2.2.1 cx.2.2.2.2.2.2.2.2.2.2 hR (ok_s (vS_h vs)) d ?_
  rw [fv_i hr]
  exact kk vl (vS_i (vS_t vs)) ls hl
theorem k_getr {idx t k f a t2 : Nat} {ox : Option Nat → Option (ρ × GS_)} (hF : FG_ own idx t k) (he : 32 * t + k = f) (hr : rs_ f = some t2) (d : decode cc pc = .ok (.getfield idx, 3)) (k1 : ∀ x, K_ own cc nL ret dep loc ini E (pc + 3) L (.inr (t2, x) :: st) g (ox x)) : K_ own cc nL ret dep loc ini E pc L (.inr (t, some a) :: st) g (lr_ (gfr g f a) ox) := by
  subst he
  refine k_lift (fun p l e R s m args below meth c D α H locs ls cells slots Q cx _ _ hR vl vs hl kk => ?_) (k1 (gfr g (32 * t + k) a))
  refine w_get hF cx.1 cx.2.1 cx.2.2.2.2.1 cx.2.2.2.2.2.1 cx.2.2.2.2.2.2.2.2.2.2 hR (ok_s (vS_h vs)) d ?_
  rw [fv_r hr]
  refine kk vl (vS_c (fun i hi => hR.2.2.1 _ _ _ _ hr ?_ hi) (vS_t vs)) ls hl
  obtain ⟨C, T, N, hcf, hk, -⟩ := hF
  rw [f_div (by have := (vw_le hcf.1).1; omega)]
  exact ok_s (vS_h vs)
theorem FP_lt {idx t k : Nat} {ty : FieldType} (hF : FP_ own idx t k ty) : t < 11 ∧ k < 32 := by
  obtain ⟨C, T, N, hcf, hk, -⟩ := hF
  have := vw_le hcf.1
  omega
theorem FF_lt {idx t k : Nat} {ty : FieldType} (hF : FF_ own idx t k ty) : t < 11 ∧ k < 32 := by
  obtain ⟨C, T, N, hcf, hk, -⟩ := hF
  have := vw_le hcf.1
  omega
theorem k_puti {idx t k f a : Nat} {v : Int32} (hF : FP_ own idx t k .int) (he : 32 * t + k = f) (hr : rs_ f = none) (d : decode cc pc = .ok (.putfield idx, 3)) (k1 : ∀ g', K_ own cc nL ret dep loc ini E (pc + 3) L st g' (oo g')) : K_ own cc nL ret dep loc ini E pc L (.inl v :: .inr (t, some a) :: st) g (lr_ (sfi g f a v) oo) := by
  subst he
  refine k_liftG (g' := sfi g (32 * t + k) a v) rfl rfl rfl (fun p l e R s m args below meth c D A α H locs ls cells slots Q cx _ _ hR hA hS vl vs hl kk => ?_) (fun h => vS_t (vS_t h)) (k1 _)
  have ha := ok_s (vS_h (vS_t vs))
  exact w_put hF cx.1 cx.2.1 cx.2.2.2.2.1 cx.2.2.2.2.2.1 cx.2.2.2.2.2.2.2.2.2.2 hR hS (hA _ _ ha) ha rfl rfl d (fun H1 locs1 e1 z oq hS1 => kk H1 locs1 (rep_fi hR (FP_lt hF).1 ha (FP_lt hF).2 hr e1 z oq) hS1)
theorem k_putz {idx t k f a : Nat} {v : Int32} (hF : FP_ own idx t k .boolean) (he : 32 * t + k = f) (hr : rs_ f = none) (hv : v = 0 ∨ v = 1) (d : decode cc pc = .ok (.putfield idx, 3)) (k1 : ∀ g', K_ own cc nL ret dep loc ini E (pc + 3) L st g' (oo g')) : K_ own cc nL ret dep loc ini E pc L (.inl v :: .inr (t, some a) :: st) g (lr_ (sfi g f a v) oo) := by
  subst he
  refine k_liftG (g' := sfi g (32 * t + k) a v) rfl rfl rfl (fun p l e R s m args below meth c D A α H locs ls cells slots Q cx _ _ hR hA hS vl vs hl kk => ?_) (fun h => vS_t (vS_t h)) (k1 _)
  have ha := ok_s (vS_h (vS_t vs))
  exact w_put hF cx.1 cx.2.1 cx.2.2.2.2.1 cx.2.2.2.2.2.1 cx.2.2.2.2.2.2.2.2.2.2 hR hS (hA _ _ ha) ha (by rcases hv with rfl | rfl <;> rfl) (by rcases hv with rfl | rfl <;> rfl) d (fun H1 locs1 e1 z oq hS1 => kk H1 locs1 (rep_fi hR (FP_lt hF).1 ha (FP_lt hF).2 hr e1 z oq) hS1)
/-- a boolean that must be looked at -/
theorem k_putzc {idx t k f a : Nat} {v : Int32} (hF : FP_ own idx t k .boolean) (he : 32 * t + k = f) (hr : rs_ f = none) (d : decode cc pc = .ok (.putfield idx, 3)) (k1 : ∀ g', K_ own cc nL ret dep loc ini E (pc + 3) L st g' (oo g')) : K_ own cc nL ret dep loc ini E pc L (.inl v :: .inr (t, some a) :: st) g (if v = 0 ∨ v = 1 then lr_ (sfi g f a v) oo else none) :=
  k_case (fun h => k_putz hF he hr h d k1) (fun _ => k_fail)
theorem k_putr {idx t k f a t2 : Nat} {ty : FieldType} {x : Option Nat} (hF : FP_ own idx t k ty) (hty : ∀ w, narrow ty (va_rf w) = va_rf w ∧ fits ty (va_rf w) = true) (he : 32 * t + k = f) (hr : rs_ f = some t2) (d : decode cc pc = .ok (.putfield idx, 3)) (k1 : ∀ g', K_ own cc nL ret dep loc ini E (pc + 3) L st g' (oo g')) : K_ own cc nL ret dep loc ini E pc L (.inr (t2, x) :: .inr (t, some a) :: st) g (lr_ (sfr g f a x) oo) := by
  subst he
  refine k_liftG (g' := sfr g (32 * t + k) a x) rfl rfl rfl (fun p l e R s m args below meth c D A α H locs ls cells slots Q cx _ _ hR hA hS vl vs hl kk => ?_) (fun h => vS_t (vS_t h)) (k1 _)
  have ha := ok_s (vS_h (vS_t vs))
  exact w_put (v := va_rf (x.map (α t2))) hF cx.1 cx.2.1 cx.2.2.2.2.1 cx.2.2.2.2.2.1 cx.2.2.2.2.2.2.2.2.2.2 hR hS (hA _ _ ha) ha (hty _).1 (hty _).2 d (fun H1 locs1 e1 z oq hS1 => kk H1 locs1 (rep_fr hR (FP_lt hF).1 ha (FP_lt hF).2 hr (vS_h vs) e1 z oq) hS1)
theorem k_putfi {idx t k f a : Nat} {v : Int32} (hF : FF_ own idx t k .int) (he : 32 * t + k = f) (hr : rs_ f = none) (hini : ini = true) (d : decode cc pc = .ok (.putfield idx, 3)) (k1 : ∀ g', K_ own cc nL ret dep loc ini E (pc + 3) L st g' (oo g')) : K_ own cc nL ret dep loc ini E pc L (.inl v :: .inr (t, some a) :: st) g (lr_ (sfi g f a v) oo) := by
  subst he
  refine k_liftG (g' := sfi g (32 * t + k) a v) rfl rfl rfl (fun p l e R s m args below meth c D A α H locs ls cells slots Q cx _ _ hR hA hS vl vs hl kk => ?_) (fun h => vS_t (vS_t h)) (k1 _)
  have ha := ok_s (vS_h (vS_t vs))
  exact w_putF hF cx.1 cx.2.1 cx.2.2.2.2.1 cx.2.2.2.2.2.1 (cx.2.2.2.2.2.2.2.2.2.1 hini) cx.2.2.2.2.2.2.2.2.2.2 hR hS (hA _ _ ha) ha rfl rfl d (fun H1 locs1 e1 z oq hS1 => kk H1 locs1 (rep_fi hR (FF_lt hF).1 ha (FF_lt hF).2 hr e1 z oq) hS1)
theorem k_putfz {idx t k f a : Nat} {v : Int32} (hF : FF_ own idx t k .boolean) (he : 32 * t + k = f) (hr : rs_ f = none) (hini : ini = true) (hv : v = 0 ∨ v = 1) (d : decode cc pc = .ok (.putfield idx, 3)) (k1 : ∀ g', K_ own cc nL ret dep loc ini E (pc + 3) L st g' (oo g')) : K_ own cc nL ret dep loc ini E pc L (.inl v :: .inr (t, some a) :: st) g (lr_ (sfi g f a v) oo) := by
  subst he
  refine k_liftG (g' := sfi g (32 * t + k) a v) rfl rfl rfl (fun p l e R s m args below meth c D A α H locs ls cells slots Q cx _ _ hR hA hS vl vs hl kk => ?_) (fun h => vS_t (vS_t h)) (k1 _)
  have ha := ok_s (vS_h (vS_t vs))
  exact w_putF hF cx.1 cx.2.1 cx.2.2.2.2.1 cx.2.2.2.2.2.1 (cx.2.2.2.2.2.2.2.2.2.1 hini) cx.2.2.2.2.2.2.2.2.2.2 hR hS (hA _ _ ha) ha (by rcases hv with rfl | rfl <;> rfl) (by rcases hv with rfl | rfl <;> rfl) d (fun H1 locs1 e1 z oq hS1 => kk H1 locs1 (rep_fi hR (FF_lt hF).1 ha (FF_lt hF).2 hr e1 z oq) hS1)
theorem k_putfzc {idx t k f a : Nat} {v : Int32} (hF : FF_ own idx t k .boolean) (he : 32 * t + k = f) (hr : rs_ f = none) (hini : ini = true) (d : decode cc pc = .ok (.putfield idx, 3)) (k1 : ∀ g', K_ own cc nL ret dep loc ini E (pc + 3) L st g' (oo g')) : K_ own cc nL ret dep loc ini E pc L (.inl v :: .inr (t, some a) :: st) g (if v = 0 ∨ v = 1 then lr_ (sfi g f a v) oo else none) :=
  k_case (fun h => k_putfz hF he hr hini h d k1) (fun _ => k_fail)
theorem k_putfr {idx t k f a t2 : Nat} {ty : FieldType} {x : Option Nat} (hF : FF_ own idx t k ty) (hty : ∀ w, narrow ty (va_rf w) = va_rf w ∧ fits ty (va_rf w) = true) (he : 32 * t + k = f) (hr : rs_ f = some t2) (hini : ini = true) (d : decode cc pc = .ok (.putfield idx, 3)) (k1 : ∀ g', K_ own cc nL ret dep loc ini E (pc + 3) L st g' (oo g')) : K_ own cc nL ret dep loc ini E pc L (.inr (t2, x) :: .inr (t, some a) :: st) g (lr_ (sfr g f a x) oo) := by
  subst he
  refine k_liftG (g' := sfr g (32 * t + k) a x) rfl rfl rfl (fun p l e R s m args below meth c D A α H locs ls cells slots Q cx _ _ hR hA hS vl vs hl kk => ?_) (fun h => vS_t (vS_t h)) (k1 _)
  have ha := ok_s (vS_h (vS_t vs))
  exact w_putF (v := va_rf (x.map (α t2))) hF cx.1 cx.2.1 cx.2.2.2.2.1 cx.2.2.2.2.2.1 (cx.2.2.2.2.2.2.2.2.2.1 hini) cx.2.2.2.2.2.2.2.2.2.2 hR hS (hA _ _ ha) ha (hty _).1 (hty _).2 d (fun H1 locs1 e1 z oq hS1 => kk H1 locs1 (rep_fr hR (FF_lt hF).1 ha (FF_lt hF).2 hr (vS_h vs) e1 z oq) hS1)
theorem ty_obj {C : String} : ∀ w, narrow (.object C) (va_rf w) = va_rf w ∧ fits (.object C) (va_rf w) = true := by
  intro w
  cases w <;> exact ⟨rfl, rfl⟩
theorem ty_arr {t : FieldType} : ∀ w, narrow (.array t) (va_rf w) = va_rf w ∧ fits (.array t) (va_rf w) = true := by
  intro w
  cases w <;> exact ⟨rfl, rfl⟩
-- arrays of ints
theorem k_iald {a : Nat} {i : Int32} (d : decode cc pc = .ok (.iaload, 1)) (k1 : K_ own cc nL ret dep loc ini E (pc + 1) L (.inl (gai g 20 a i.toInt.toNat) :: st) g o) : K_ own cc nL ret dep loc ini E pc L (.inl i :: .inr (20, some a) :: st) g (if inb i (gln g 20 a) then o else none) := by
  refine k_case (fun hin => ?_) (fun _ => k_fail)
  refine k_lift (fun p l e R s m args below meth c D α H locs ls cells slots Q cx _ _ hR vl vs hl kk => ?_) k1
  have ha := ok_s (vS_h (vS_t vs))
  exact va_iald cx.1 cx.2.1 cx.2.2.2.2.2.2.2.2.2.2.1 (p1_ (q := (α 20 a, .inl (D.1 20, gln g 20 a, .inl (gai g 20 a)))) (hR.2.2.2.2.2.1 20 a (Or.inl rfl) ha)) 0 0 rfl rfl (inb_in hin) d (kk vl (vS_i (vS_t (vS_t vs))) ls hl)
theorem k_zald {a : Nat} {i : Int32} (d : decode cc pc = .ok (.baload, 1)) (k1 : K_ own cc nL ret dep loc ini E (pc + 1) L (.inl (gai g 21 a i.toInt.toNat) :: st) g o) : K_ own cc nL ret dep loc ini E pc L (.inl i :: .inr (21, some a) :: st) g (if inb i (gln g 21 a) then o else none) := by
  refine k_case (fun hin => ?_) (fun _ => k_fail)
  refine k_lift (fun p l e R s m args below meth c D α H locs ls cells slots Q cx _ _ hR vl vs hl kk => ?_) k1
  have ha := ok_s (vS_h (vS_t vs))
  exact va_zald cx.1 cx.2.1 cx.2.2.2.2.2.2.2.2.2.2.1 (p1_ (q := (α 21 a, .inl (D.1 21, gln g 21 a, .inl (gai g 21 a)))) (hR.2.2.2.2.2.1 21 a (Or.inr rfl) ha)) 0 1 rfl rfl (inb_in hin) d (kk vl (vS_i (vS_t (vS_t vs))) ls hl)
theorem k_alen {t a : Nat} (d : decode cc pc = .ok (.arraylength, 1)) (ht : t = 20 ∨ t = 22 ∨ t = 23 ∨ t = 24 ∨ t = 25) (k1 : K_ own cc nL ret dep loc ini E (pc + 1) L (.inl (Int32.ofNat (gln g t a)) :: st) g o) : K_ own cc nL ret dep loc ini E pc L (.inr (t, some a) :: st) g o := by
  refine k_lift (fun p l e R s m args below meth c D α H locs ls cells slots Q cx _ _ hR vl vs hl kk => ?_) k1
  have ha := ok_s (vS_h vs)
  have hk := kk vl (vS_i (vS_t vs)) ls hl
  have hK := cx.2.2.2.2.2.2.2.2.2.2.1
  rcases ht with rfl | rfl | rfl | rfl | rfl
  · exact va_alen cx.1 cx.2.1 hK (p1_ (q := (α 20 a, .inl (D.1 20, gln g 20 a, .inl (gai g 20 a)))) (hR.2.2.2.2.2.1 20 a (Or.inl rfl) ha)) 0 0 rfl rfl rfl d hk
  · exact va_alen cx.1 cx.2.1 hK (p1_ (q := (α 22 a, .inl (D.1 22, gln g 22 a, .inr (.inr (.inr (.inr (fun j => (gar g 22 a j).map (α 0)))))))) (hR.2.2.2.2.2.2 22 0 a rfl ha)) 0 2 rfl rfl rfl d hk
  · exact va_alen cx.1 cx.2.1 hK (p1_ (q := (α 23 a, .inl (D.1 23, gln g 23 a, .inr (.inr (.inr (.inr (fun j => (gar g 23 a j).map (α 1)))))))) (hR.2.2.2.2.2.2 23 1 a rfl ha)) 0 3 rfl rfl rfl d hk
  · exact va_alen cx.1 cx.2.1 hK (p1_ (q := (α 24 a, .inl (D.1 24, gln g 24 a, .inr (.inr (.inr (.inr (fun j => (gar g 24 a j).map (α 5)))))))) (hR.2.2.2.2.2.2 24 5 a rfl ha)) 0 4 rfl rfl rfl d hk
  · exact va_alen cx.1 cx.2.1 hK (p1_ (q := (α 25 a, .inl (D.1 25, gln g 25 a, .inr (.inr (.inr (.inr (fun j => (gar g 25 a j).map (α 8)))))))) (hR.2.2.2.2.2.2 25 8 a rfl ha)) 0 5 rfl rfl rfl d hk
theorem upd_cell {c : ClassId} {n j : Nat} {f f' : Nat → Int32} {x : Int32} (h : ∀ q, f' q = if q = j then x else f q) : (vp_cell c (n, .inl f)).setSlot j (.int x) = vp_cell c (n, .inl f') := by
  rw [vp_cell_i, vp_cell_i, arrV_store]
  congr 1
  funext q
  rw [h q]
  by_cases e : q = j
  · simp [updV, e]
  · simp [updV, e]
theorem k_iast {a : Nat} {i v : Int32} (d : decode cc pc = .ok (.iastore, 1)) (k1 : ∀ g', K_ own cc nL ret dep loc ini E (pc + 1) L st g' (oo g')) : K_ own cc nL ret dep loc ini E pc L (.inl v :: .inl i :: .inr (20, some a) :: st) g (if inb i (gln g 20 a) then lr_ (sai g 20 a i.toInt.toNat v) oo else none) := by
  refine k_case (fun hin => ?_) (fun _ => k_fail)
  refine k_liftG (g' := sai g 20 a i.toInt.toNat v) rfl rfl rfl (fun p l e R s m args below meth c D A α H locs ls cells slots Q cx _ _ hR hA hS vl vs hl kk => ?_) (fun h => vS_t (vS_t (vS_t h))) (k1 _)
  have ha := ok_s (vS_h (vS_t (vS_t vs)))
  have hc := hR.2.2.2.2.2.1 20 a (Or.inl rfl) ha
  have hK := cx.2.2.2.2.2.2.2.2.2.2.1
  refine W.iast cx.1 cx.2.1 hc ((hK.2 0 _ rfl).1 (gln g 20 a) (fun j => .int (gai g 20 a j))) (fun q => by cases q) (by show ¬ (i < 0 ∨ (arrV _ _ _).slots.size ≤ _); rw [arrV_size]; exact inb_in hin) rfl rfl d fun H1 e z oq => ?_
  refine kk H1 _ (rep_ai hR (Or.inl rfl) ha rfl rfl rfl rfl rfl (fun t' i' hne => ?_) ?_ z oq) (hS.put z oq (hA _ _ ha))
  · funext j
    show (if t' = 20 ∧ i' = a ∧ j = i.toInt.toNat then v else gai g t' i' j) = _
    rw [if_neg (by omega)]
  · rw [e]
    refine congrArg some (upd_cell (fun q => ?_))
    show (if 20 = 20 ∧ a = a ∧ q = i.toInt.toNat then v else gai g 20 a q) = _
    simp only [true_and]
    rfl
theorem k_zast {a : Nat} {i v : Int32} (hv : v = 0 ∨ v = 1) (d : decode cc pc = .ok (.bastore, 1)) (k1 : ∀ g', K_ own cc nL ret dep loc ini E (pc + 1) L st g' (oo g')) : K_ own cc nL ret dep loc ini E pc L (.inl v :: .inl i :: .inr (21, some a) :: st) g (if inb i (gln g 21 a) then lr_ (sai g 21 a i.toInt.toNat v) oo else none) := by
  refine k_case (fun hin => ?_) (fun _ => k_fail)
  refine k_liftG (g' := sai g 21 a i.toInt.toNat v) rfl rfl rfl (fun p l e R s m args below meth c D A α H locs ls cells slots Q cx _ _ hR hA hS vl vs hl kk => ?_) (fun h => vS_t (vS_t (vS_t h))) (k1 _)
  have ha := ok_s (vS_h (vS_t (vS_t vs)))
  have hc := hR.2.2.2.2.2.1 21 a (Or.inr rfl) ha
  have hK := cx.2.2.2.2.2.2.2.2.2.2.1
  refine W.zast cx.1 cx.2.1 hc ((hK.2 1 _ rfl).1 (gln g 21 a) (fun j => .int (gai g 21 a j))) (fun q => by cases q) (by show ¬ (i < 0 ∨ (arrV _ _ _).slots.size ≤ _); rw [arrV_size]; exact inb_in hin) rfl rfl d fun H1 e z oq => ?_
  refine kk H1 _ (rep_ai hR (Or.inr rfl) ha rfl rfl rfl rfl rfl (fun t' i' hne => ?_) ?_ z oq) (hS.put z oq (hA _ _ ha))
  · funext j
    show (if t' = 21 ∧ i' = a ∧ j = i.toInt.toNat then v else gai g t' i' j) = _
    rw [if_neg (by omega)]
  · rw [e]
    have en : narrow .boolean (.int v) = .int v := by rcases hv with rfl | rfl <;> rfl
    rw [en]
    refine congrArg some (upd_cell (fun q => ?_))
    show (if 21 = 21 ∧ a = a ∧ q = i.toInt.toNat then v else gai g 21 a q) = _
    simp only [true_and]
    rfl
-- arrays of references
theorem tys_at {D : va_G} {t t2 : Nat} (h : es_ t = some t2) : ∃ (k : Nat) (C : String) (T : u_T) (N : Nat), (tys_ D)[k]? = some (D.1 t, .object C) ∧ vwCl[t2]? = some (C, T, N) := by
  have hE := es_ge h
  rcases (show t = 22 ∨ t = 23 ∨ t = 24 ∨ t = 25 by omega) with rfl | rfl | rfl | rfl
  · cases h; exact ⟨2, _, _, _, rfl, rfl⟩
  · cases h; exact ⟨3, _, _, _, rfl, rfl⟩
  · cases h; exact ⟨4, _, _, _, rfl, rfl⟩
  · cases h; exact ⟨5, _, _, _, rfl, rfl⟩
theorem k_aald {t t2 a : Nat} {i : Int32} {ox : Option Nat → Option (ρ × GS_)} (ht : es_ t = some t2) (d : decode cc pc = .ok (.aaload, 1)) (k1 : ∀ x, K_ own cc nL ret dep loc ini E (pc + 1) L (.inr (t2, x) :: st) g (ox x)) : K_ own cc nL ret dep loc ini E pc L (.inl i :: .inr (t, some a) :: st) g (if inb i (gln g t a) then lr_ (gar g t a i.toInt.toNat) ox else none) := by
  refine k_case (fun hin => ?_) (fun _ => k_fail)
  refine k_lift (fun p l e R s m args below meth c D α H locs ls cells slots Q cx _ _ hR vl vs hl kk => ?_) (k1 (gar g t a i.toInt.toNat))
  have ha := ok_s (vS_h (vS_t vs))
  obtain ⟨k, C, T, N, hk, -⟩ := tys_at (D := D) ht
  refine va_aldq cx.1 cx.2.1 cx.2.2.2.2.2.2.2.2.2.2.1 (p1_ (q := (α t a, .inl (D.1 t, gln g t a, .inr (.inr (.inr (.inr (fun j => (gar g t a j).map (α t2)))))))) (hR.2.2.2.2.2.2 t t2 a ht ha)) 0 k rfl hk (inb_in hin) d (kk vl (vS_c (fun j hj => ?_) (vS_t (vS_t vs))) ls hl)
  exact hR.2.2.2.1 t t2 a _ j ht ha (by have := hin.1; have := hin.2; omega) hj
theorem k_aast {t t2 a b : Nat} {i : Int32} (ht : es_ t = some t2) (d : decode cc pc = .ok (.aastore, 1)) (k1 : ∀ g', K_ own cc nL ret dep loc ini E (pc + 1) L st g' (oo g')) : K_ own cc nL ret dep loc ini E pc L (.inr (t2, some b) :: .inl i :: .inr (t, some a) :: st) g (if inb i (gln g t a) then lr_ (sar g t a i.toInt.toNat (some b)) oo else none) := by
  refine k_case (fun hin => ?_) (fun _ => k_fail)
  refine k_liftG (g' := sar g t a i.toInt.toNat (some b)) rfl rfl rfl (fun p l e R s m args below meth c D A α H locs ls cells slots Q cx _ _ hR hA hS vl vs hl kk => ?_) (fun h => vS_t (vS_t (vS_t h))) (k1 _)
  have ha := ok_s (vS_h (vS_t (vS_t vs)))
  have hb := ok_s (vS_h vs)
  have hc := hR.2.2.2.2.2.2 t t2 a ht ha
  have hK := cx.2.2.2.2.2.2.2.2.2.2.1
  obtain ⟨k, C, T, N, hk, hvw⟩ := tys_at (D := D) ht
  obtain ⟨cellV, g1, g2, g3, -⟩ := hR.2.2.2.2.1 t2 C T N b hvw hb
  have hcls := (hK.1 t2 _ hvw).2
  obtain ⟨kA, comp, k1, k2, k3, -⟩ := (hK.2 k _ hk).2
  have hcomp : comp = D.1 t2 := Option.some.inj (k3.symm.trans hcls.1)
  subst hcomp
  obtain ⟨kC, hkC, -⟩ := hcls.2
  have hv := inb_in hin
  refine W.aast cx.1 cx.2.1 hc (fun q h => by cases h) (fun h => by cases h) k1 k2 rfl hkC ⟨fun q => hv (Or.inl q), by show _ < (arrV _ _ _).slots.size; rw [arrV_size]; exact Nat.not_le.mp fun q => hv (Or.inr q)⟩ g1 (fun q h => by rw [g3] at h; cases h) (by rw [g2]; exact hkC) (by rw [g2]; exact va_assign hcls) rfl rfl d fun H1 e z oq => ?_
  refine kk H1 _ (rep_ar hR ht ha (vS_h vs) ?_ z oq) (hS.put z oq (hA _ _ ha))
  rw [e]
  rw [vp_cell_q, vp_cell_q, arrV_store]
  congr 2
  funext q
  by_cases e : q = i.toInt.toNat
  · subst e
    have e3 : i.toNatClampNeg = i.toInt.toNat := rfl
    rw [e3]
    simp [updV, va_up, va_rf]
  · have e2 : ¬ q = i.toNatClampNeg := e
    simp [updV, va_up, e, e2]
-- new things
theorem dv_none {t k i : Nat} {α : Nat → Nat → Nat} {g : GS_} (h1 : gfi g (32 * t + k) i = 0) (h2 : gfr g (32 * t + k) i = none) : fv_ α g (32 * t + k) i = dv_ (32 * t + k) := by
  unfold dv_
  cases hr : rs_ (32 * t + k) with
  | none => rw [fv_i hr, h1]; rfl
  | some t2 => rw [fv_r hr, h2]; rfl
theorem k_new {idx t N : Nat} {C : String} {T : u_T} {on : Nat → GS_ → Option (ρ × GS_)} (hcf : CF_ t C T N) (hl : Cond.classLink own idx C ∈ TW_) (hi : Cond.instantiable C N ∈ TW_) (hz : Cond.initialized C ∈ TW_) (d : decode cc pc = .ok (.new idx, 3)) (k1 : ∀ q g', K_ own cc nL ret dep loc ini E (pc + 3) L (.inr (t, some q) :: st) g' (on q g')) : K_ own cc nL ret dep loc ini E pc L st g (no_ g t N on) := by
  refine k_liftN (g' := nwo g t N) (t := t) (n := N) rfl rfl rfl (fun p l e R s m args below meth c D α H locs ls cells slots Q cx hce hsl hR kk => ?_) id (k1 (gcn g t) (nwo g t N))
  have hK := cx.2.2.2.2.2.2.2.2.2.2.1
  have hts := cx.2.2.2.2.2.1
  obtain ⟨hc, hin, hnm, ty, hty, hdv⟩ := hcf
  have hKn := hK.1 t _ hc
  refine W.newcK cx.1 cx.2.1 cx.2.2.2.2.1 (hts _ hl) (hts _ hi) (hts _ hz) rfl d hce hsl hKn.2.1 rfl fun H1 kC hkC e1 z1 o1 => ?_
  refine kk H1 (rep_new hR rfl ?_ ?_ ?_ ?_ z1 o1 ?_ ?_ ?_) z1 o1
  · intro f i hne
    have hne2 : ¬ (f / 32 = t ∧ i = gcn g t) := by omega
    exact ⟨if_neg hne2, if_neg hne2⟩
  · exact fun t' i _ => ⟨rfl, rfl, rfl⟩
  · exact fun f t2 _ hf => if_pos ⟨hf, rfl⟩
  · intro j t2 he
    have := es_ge he
    have := (vw_le hc).2
    omega
  · intro C' T' N' hc'
    cases hc.symm.trans hc'
    refine (u_born ty hts hin hKn hkC e1 hty).to (fun k hk => ?_)
    have hk32 : k < 32 := by have := (vw_le hc).1; omega
    rw [hdv k hk]
    have h1 : gfi (nwo g t N) (32 * t + k) (gcn g t) = 0 := if_pos ⟨f_div hk32, rfl⟩
    have h2 : gfr (nwo g t N) (32 * t + k) (gcn g t) = none := if_pos ⟨f_div hk32, rfl⟩
    exact (dv_none h1 h2).symm
  · intro ht
    have := (vw_le hc).2
    omega
  · intro t2 ht
    have := es_ge ht
    have := (vw_le hc).2
    omega
theorem k_newa {n : Int32} {on : Nat → GS_ → Option (ρ × GS_)} (hw : Cond.arrayClass .int ∈ TW_) (d : decode cc pc = .ok (.newarray .int, 2)) (k1 : ∀ q g', K_ own cc nL ret dep loc ini E (pc + 2) L (.inr (20, some q) :: st) g' (on q g')) : K_ own cc nL ret dep loc ini E pc L (.inl n :: st) g (na_ g 20 n on) := by
  refine k_case (fun hn => ?_) (fun _ => k_fail)
  refine k_liftN (g' := nwa g 20 n.toInt.toNat) (t := 20) (n := n.toInt.toNat) rfl rfl rfl (fun p l e R s m args below meth c D α H locs ls cells slots Q cx hce hsl hR kk => ?_) vS_t (k1 (gcn g 20) (nwa g 20 n.toInt.toNat))
  have hK := cx.2.2.2.2.2.2.2.2.2.2.1
  have hts := cx.2.2.2.2.2.1
  have hn0 : ¬ n < 0 := by rw [Int32.lt_iff_toInt_lt, Int32.toInt_zero]; omega
  refine va_newaK (atype := .int) (N := n.toInt.toNat) cx.1 cx.2.1 (hts _ hw) rfl d rfl hn0 rfl (by show n.toInt.toNat * 4 ≤ _; omega) hce hsl rfl fun H1 cA e1 z1 o1 hAr hNm => ?_
  have hcA : cA = D.1 20 := Option.some.inj (hNm.symm.trans (hK.2 0 _ rfl).2)
  subst hcA
  refine kk H1 (rep_new hR rfl ?_ ?_ ?_ ?_ z1 o1 ?_ ?_ ?_) z1 o1
  · exact fun f i _ => ⟨rfl, rfl⟩
  · intro t' i hne
    have hne2 : ¬ (t' = 20 ∧ i = gcn g 20) := by omega
    exact ⟨if_neg hne2, if_neg hne2, if_neg hne2⟩
  · intro f t2 hr hf
    exfalso
    unfold rs_ at hr
    split at hr <;> first | omega | (cases hr)
  · intro j t2 he
    have := es_ge he
    omega
  · intro C' T' N' hc'
    have := (vw_le hc').2
    omega
  · intro _
    rw [e1]
    have h1 : gln (nwa g 20 n.toInt.toNat) 20 (gcn g 20) = n.toInt.toNat := if_pos ⟨rfl, rfl⟩
    have h2 : gai (nwa g 20 n.toInt.toNat) 20 (gcn g 20) = fun _ => 0 := if_pos ⟨rfl, rfl⟩
    rw [h1, h2]
    rfl
  · intro t2 ht
    have := es_ge ht
    omega
theorem k_newz {n : Int32} {on : Nat → GS_ → Option (ρ × GS_)} (hw : Cond.arrayClass .boolean ∈ TW_) (d : decode cc pc = .ok (.newarray .boolean, 2)) (k1 : ∀ q g', K_ own cc nL ret dep loc ini E (pc + 2) L (.inr (21, some q) :: st) g' (on q g')) : K_ own cc nL ret dep loc ini E pc L (.inl n :: st) g (na_ g 21 n on) := by
  refine k_case (fun hn => ?_) (fun _ => k_fail)
  refine k_liftN (g' := nwa g 21 n.toInt.toNat) (t := 21) (n := n.toInt.toNat) rfl rfl rfl (fun p l e R s m args below meth c D α H locs ls cells slots Q cx hce hsl hR kk => ?_) vS_t (k1 (gcn g 21) (nwa g 21 n.toInt.toNat))
  have hK := cx.2.2.2.2.2.2.2.2.2.2.1
  have hts := cx.2.2.2.2.2.1
  have hn0 : ¬ n < 0 := by rw [Int32.lt_iff_toInt_lt, Int32.toInt_zero]; omega
  refine va_newaK (atype := .boolean) (N := n.toInt.toNat) cx.1 cx.2.1 (hts _ hw) rfl d rfl hn0 rfl (by show n.toInt.toNat * 1 ≤ _; omega) hce hsl rfl fun H1 cA e1 z1 o1 hAr hNm => ?_
  have hcA : cA = D.1 21 := Option.some.inj (hNm.symm.trans (hK.2 1 _ rfl).2)
  subst hcA
  refine kk H1 (rep_new hR rfl ?_ ?_ ?_ ?_ z1 o1 ?_ ?_ ?_) z1 o1
  · exact fun f i _ => ⟨rfl, rfl⟩
  · intro t' i hne
    have hne2 : ¬ (t' = 21 ∧ i = gcn g 21) := by omega
    exact ⟨if_neg hne2, if_neg hne2, if_neg hne2⟩
  · intro f t2 hr hf
    exfalso
    unfold rs_ at hr
    split at hr <;> first | omega | (cases hr)
  · intro j t2 he
    have := es_ge he
    omega
  · intro C' T' N' hc'
    have := (vw_le hc').2
    omega
  · intro _
    rw [e1]
    have h1 : gln (nwa g 21 n.toInt.toNat) 21 (gcn g 21) = n.toInt.toNat := if_pos ⟨rfl, rfl⟩
    have h2 : gai (nwa g 21 n.toInt.toNat) 21 (gcn g 21) = fun _ => 0 := if_pos ⟨rfl, rfl⟩
    rw [h1, h2]
    rfl
  · intro t2 ht
    have := es_ge ht
    omega
theorem ao_use {t t2 : Nat} {D : va_G} {s : State} (h : es_ t = some t2) (hA : Amb_ D s) : ∃ (C : String) (T : u_T) (N k : Nat), vwCl[t2]? = some (C, T, N) ∧ va_AO C s ∧ (tys_ D)[k]? = some (D.1 t, .object C) := by
  have hE := es_ge h
  rcases (show t = 22 ∨ t = 23 ∨ t = 24 ∨ t = 25 by omega) with rfl | rfl | rfl | rfl
  · cases h; exact ⟨_, _, _, 2, rfl, hA.2.2.1, rfl⟩
  · cases h; exact ⟨_, _, _, 3, rfl, hA.2.2.2.1, rfl⟩
  · cases h; exact ⟨_, _, _, 4, rfl, hA.2.2.2.2.1, rfl⟩
  · cases h; exact ⟨_, _, _, 5, rfl, hA.2.2.2.2.2, rfl⟩
theorem k_anew {idx t t2 : Nat} {n : Int32} {on : Nat → GS_ → Option (ρ × GS_)} (ht : es_ t = some t2) (hl : ∀ C T N, vwCl[t2]? = some (C, T, N) → Cond.classLink own idx C ∈ TW_) (d : decode cc pc = .ok (.anewarray idx, 3)) (k1 : ∀ q g', K_ own cc nL ret dep loc ini E (pc + 3) L (.inr (t, some q) :: st) g' (on q g')) : K_ own cc nL ret dep loc ini E pc L (.inl n :: st) g (na_ g t n on) := by
  refine k_case (fun hn => ?_) (fun _ => k_fail)
  refine k_liftN (g' := nwa g t n.toInt.toNat) (t := t) (n := n.toInt.toNat) rfl rfl rfl (fun p l e R s m args below meth c D α H locs ls cells slots Q cx hce hsl hR kk => ?_) vS_t (k1 (gcn g t) (nwa g t n.toInt.toNat))
  have hK := cx.2.2.2.2.2.2.2.2.2.2.1
  have hts := cx.2.2.2.2.2.1
  have hn0 : ¬ n < 0 := by rw [Int32.lt_iff_toInt_lt, Int32.toInt_zero]; omega
  have hE := es_ge ht
  obtain ⟨C, T, N, k, hvw, hao, hk⟩ := ao_use (D := D) ht cx.2.2.2.2.2.2.2.2.2.2
  refine W.anew cx.1 cx.2.1 cx.2.2.2.2.1 (hts _ (hl C T N hvw)) (va_AO.use hao) rfl d rfl hn0 (by show n.toInt.toNat * 4 ≤ _; omega) hce hsl fun cA kA comp f1 f2 f3 f4 => ?_
  generalize hH1 : H.push ({ cls := cA, slots := Array.replicate n.toNatClampNeg .null, vm := .none } : Cell) = H1
  have z1 : H1.size = H.size + 1 := by rw [← hH1, Array.size_push]
  have e1 : H1[H.size]? = some (arrV cA n.toNatClampNeg (fun _ => .null)) := by rw [← hH1, Array.getElem?_push_size, ← arrV_new]
  have o1 : ∀ q : Nat, q < H.size → H1[q]? = H[q]? := fun q hq => by rw [← hH1, Array.getElem?_push, if_neg (Nat.ne_of_lt hq)]
  obtain ⟨-, -, -, -, -, h9⟩ := (hK.2 k _ hk).2
  have hcA : cA = D.1 t := Option.some.inj (f1.symm.trans h9)
  subst hcA
  refine kk H1 (rep_new hR rfl ?_ ?_ ?_ ?_ z1 o1 ?_ ?_ ?_) z1 o1
  · exact fun f i _ => ⟨rfl, rfl⟩
  · intro t' i hne
    have hne2 : ¬ (t' = t ∧ i = gcn g t) := by omega
    exact ⟨if_neg hne2, if_neg hne2, if_neg hne2⟩
  · intro f t3 hr hf
    exfalso
    unfold rs_ at hr
    split at hr <;> first | omega | (cases hr)
  · intro j t3 he
    have h2 : gar (nwa g t n.toInt.toNat) t (gcn g t) = fun _ => none := if_pos ⟨rfl, rfl⟩
    rw [h2]
  · intro C' T' N' hc'
    have := (vw_le hc').2
    omega
  · intro h
    omega
  · intro t3 ht3
    rw [e1]
    have h1 : gln (nwa g t n.toInt.toNat) t (gcn g t) = n.toInt.toNat := if_pos ⟨rfl, rfl⟩
    have h2 : gar (nwa g t n.toInt.toNat) t (gcn g t) = fun _ => none := if_pos ⟨rfl, rfl⟩
    rw [h1, h2]
    rfl
-- java.lang.Object's constructor, Math, arraycopy
theorem k_objInit {idx : Nat} {t a : Nat} (hl : Cond.methodLink own idx objectInit ∈ TW_) (hi : Cond.instanceMethod objectInit ∈ TW_) (hc : Cond.code objectInit ⟨#[0xb1]⟩ 1 none ∈ TW_) (hd : 1 ≤ dep) (hlo : st.length + 12 ≤ loc) (d : decode cc pc = .ok (.invokespecial idx, 3)) (k1 : K_ own cc nL ret dep loc ini E (pc + 3) L st g o) : K_ own cc nL ret dep loc ini E pc L (.inr (t, some a) :: st) g o := by
  refine k_lift (fun p l e R s m args below meth c D α H locs ls cells slots Q cx _ _ hR vl vs hl' kk => ?_) k1
  have hts := cx.2.2.2.2.2.1
  refine W.objInit cx.1 cx.2.1 cx.2.2.2.2.1 (hts _ hl) (hts _ hi) (hts _ hc) rfl (by rw [cx.2.2.2.1]; exact hl'.1) rfl d (Nat.le_trans hd cx.2.2.2.2.2.2.2.1) ?_ (kk vl (vS_t vs) ls hl')
  show 2 * 0 + ((st.map (cv_ α)).map fun v => v.category).sum + 12 ≤ R.locals
  rw [cat_sum]
  have := cx.2.2.2.2.2.2.2.2.1
  omega
def MW_ (y : MethodName) (b : ByteArray) (n : Nat) : Prop := Cond.static y ∈ TW_ ∧ Cond.initialized "java/lang/Math" ∈ TW_ ∧ Cond.code y b n (some .int) ∈ TW_
theorem k_max {idx : Nat} {x y : Int32} (hw : MW_ Lib.Math.max.name Lib.Math.max.code 2) (hl : Cond.methodLink own idx Lib.Math.max.name ∈ TW_) (hd : 1 ≤ dep) (hlo : st.length + 13 ≤ loc) (d : decode cc pc = .ok (.invokestatic idx, 3)) (k1 : K_ own cc nL ret dep loc ini E (pc + 3) L (.inl (jmax x y) :: st) g o) : K_ own cc nL ret dep loc ini E pc L (.inl y :: .inl x :: st) g o := by
  refine k_lift (fun p l e R s m args below meth c D α H locs ls cells slots Q cx hce hsl hR vl vs hl' kk => ?_) k1
  have hts := cx.2.2.2.2.2.1
  refine va_mmax cx.1 cx.2.1 (by rw [cx.2.2.2.1]; exact hl'.1.symm) cx.2.2.2.2.1 (hts _ hl) (hts _ hw.1) (hts _ hw.2.1) (hts _ hw.2.2) (Nat.le_trans hd cx.2.2.2.2.2.2.2.1) ?_ hce hsl d (kk vl (vS_i (vS_t (vS_t vs))) ls hl')
  rw [cat_sum]
  have := cx.2.2.2.2.2.2.2.2.1
  omega
theorem k_min {idx : Nat} {x y : Int32} (hw : MW_ Lib.Math.min.name Lib.Math.min.code 2) (hl : Cond.methodLink own idx Lib.Math.min.name ∈ TW_) (hd : 1 ≤ dep) (hlo : st.length + 13 ≤ loc) (d : decode cc pc = .ok (.invokestatic idx, 3)) (k1 : K_ own cc nL ret dep loc ini E (pc + 3) L (.inl (jmin x y) :: st) g o) : K_ own cc nL ret dep loc ini E pc L (.inl y :: .inl x :: st) g o := by
  refine k_lift (fun p l e R s m args below meth c D α H locs ls cells slots Q cx hce hsl hR vl vs hl' kk => ?_) k1
  have hts := cx.2.2.2.2.2.1
  refine va_mmin cx.1 cx.2.1 (by rw [cx.2.2.2.1]; exact hl'.1.symm) cx.2.2.2.2.1 (hts _ hl) (hts _ hw.1) (hts _ hw.2.1) (hts _ hw.2.2) (Nat.le_trans hd cx.2.2.2.2.2.2.2.1) ?_ hce hsl d (kk vl (vS_i (vS_t (vS_t vs))) ls hl')
  rw [cat_sum]
  have := cx.2.2.2.2.2.2.2.2.1
  omega
theorem k_abs {idx : Nat} {x : Int32} (hw : MW_ Lib.Math.abs.name Lib.Math.abs.code 1) (hl : Cond.methodLink own idx Lib.Math.abs.name ∈ TW_) (hd : 1 ≤ dep) (hlo : st.length + 13 ≤ loc) (d : decode cc pc = .ok (.invokestatic idx, 3)) (k1 : K_ own cc nL ret dep loc ini E (pc + 3) L (.inl (jabs x) :: st) g o) : K_ own cc nL ret dep loc ini E pc L (.inl x :: st) g o := by
  refine k_lift (fun p l e R s m args below meth c D α H locs ls cells slots Q cx hce hsl hR vl vs hl' kk => ?_) k1
  have hts := cx.2.2.2.2.2.1
  refine va_mabs cx.1 cx.2.1 (by rw [cx.2.2.2.1]; exact hl'.1.symm) cx.2.2.2.2.1 (hts _ hl) (hts _ hw.1) (hts _ hw.2.1) (hts _ hw.2.2) (Nat.le_trans hd cx.2.2.2.2.2.2.2.1) ?_ hce hsl d (kk vl (vS_i (vS_t vs)) ls hl')
  rw [cat_sum]
  have := cx.2.2.2.2.2.2.2.2.1
  omega
def YW_ : Prop := Cond.native arraycopyName ∈ TW_ ∧ Cond.static arraycopyName ∈ TW_ ∧ Cond.initialized "java/lang/System" ∈ TW_
theorem k_copy {idx a b : Nat} {sp dp n : Int32} (hw : YW_) (hl : Cond.methodLink own idx arraycopyName ∈ TW_) (hd : 1 ≤ dep) (hlo : st.length + (nativeFrameWords "java/lang/System" "arraycopy" 5 + 11) ≤ loc) (d : decode cc pc = .ok (.invokestatic idx, 3)) (k1 : ∀ g', K_ own cc nL ret dep loc ini E (pc + 3) L st g' (oo g')) : K_ own cc nL ret dep loc ini E pc L (.inl n :: .inl dp :: .inr (20, some b) :: .inl sp :: .inr (20, some a) :: st) g (cp_ g a b sp dp n oo) := by
  refine k_case (fun hz => ?_) (fun _ => k_fail)
  obtain ⟨⟨z1, z2, z3⟩, z4, z5⟩ := hz
  refine k_liftG (g' := saw g 20 b (va_cpy (gai g 20 a) (gai g 20 b) sp.toInt.toNat dp.toInt.toNat n.toInt.toNat)) rfl rfl rfl (fun p l e R s m args below meth c D A α H locs ls cells slots Q cx _ _ hR hA hS vl vs hl' kk => ?_) (fun h => vS_t (vS_t (vS_t (vS_t (vS_t h))))) (k1 _)
  have hts := cx.2.2.2.2.2.1
  have hK := cx.2.2.2.2.2.2.2.2.2.2.1
  have hb := ok_s (vS_h (vS_t (vS_t vs)))
  have ha := ok_s (vS_h (vS_t (vS_t (vS_t (vS_t vs)))))
  have hc0 := hR.2.2.2.2.2.1 20 a (Or.inl rfl) ha
  have hc1 := hR.2.2.2.2.2.1 20 b (Or.inl rfl) hb
  have ng : ∀ z : Int32, 0 ≤ z.toInt → ¬ z < 0 := by
    intro z hz
    rw [Int32.lt_iff_toInt_lt, Int32.toInt_zero]
    omega
  have ht : sp.toInt.toNat + n.toInt.toNat ≤ gln g 20 a ∧ dp.toInt.toNat + n.toInt.toNat ≤ gln g 20 b := by omega
  intro T hT X
  obtain ⟨-, k0, hk0, cm0, hkk0⟩ := (hK.2 0 _ rfl).1 (gln g 20 a) (fun j => .int (gai g 20 a j))
  obtain ⟨-, k1', hk1, cm1, hkk1⟩ := (hK.2 0 _ rfl).1 (gln g 20 b) (fun j => .int (gai g 20 b j))
  obtain ⟨vm', X', step⟩ := X.arraycopy cx.1 cx.2.2.2.2.1 (hts _ hl) (hts _ hw.1) (hts _ hw.2.1) (hts _ hw.2.2) (src := α 20 a) (dst := α 20 b) (cs := vp_cell (D.1 20) (gln g 20 a, .inl (gai g 20 a))) (cd := vp_cell (D.1 20) (gln g 20 b, .inl (gai g 20 b))) (srcPos := sp) (destPos := dp) (n := n) (by rw [hT]; exact hc0) (by rw [hT]; exact hc1)
    (fun _ h => by cases h) (fun _ h => by cases h) (fun h => by cases h) (fun h => by cases h) hk0 hk1 hkk0 hkk1 (by simp [refKind]) (ng sp z1) (ng dp z2) (ng n z3)
    (by show ¬ _ > ((arrV (D.1 20) (gln g 20 a) (fun j => .int (gai g 20 a j))).slots.size : Int); rw [arrV_size]; omega)
    (by show ¬ _ > ((arrV (D.1 20) (gln g 20 b) (fun j => .int (gai g 20 b j))).slots.size : Int); rw [arrV_size]; omega)
    (fun vm₁ _ i hi => by
      have hi : i < n.toInt.toNat := hi
      have e : (vp_cell (D.1 20) (gln g 20 a, .inl (gai g 20 a))).slots.getD (sp.toNatClampNeg + i) .null = .int (gai g 20 a (sp.toNatClampNeg + i)) := by
        show (arrV (D.1 20) (gln g 20 a) (fun j => .int (gai g 20 a j))).slots.getD _ _ = _
        rw [Array.getD_eq_getD_getElem?, arrV_read _ _ (by show sp.toInt.toNat + i < _; omega)]
        rfl
      refine ⟨?_, ?_⟩
      · rw [e]
        rfl
      · rw [e]
        exact trivial)
    (g := F0 m pc ls ((.inl n :: .inl dp :: .inr (20, some b) :: .inl sp :: .inr (20, some a) :: st : List AV_).map (cv_ α))) rfl (by rw [cx.2.2.2.1]; exact hl'.1) (rest := st.map (cv_ α)) rfl (by rw [cx.2.1]; exact d) (Nat.le_trans hd cx.2.2.2.2.2.2.2.1) (by
      show 2 * 0 + ((st.map (cv_ α)).map fun v => v.category).sum + (nativeFrameWords "java/lang/System" "arraycopy" 5 + 11) ≤ R.locals
      rw [cat_sum]
      have := cx.2.2.2.2.2.2.2.2.1
      omega)
  have e1 : copied (vp_cell (D.1 20) (gln g 20 a, .inl (gai g 20 a))) (vp_cell (D.1 20) (gln g 20 b, .inl (gai g 20 b))) sp dp n = vp_cell (D.1 20) (gln g 20 b, .inl (va_cpy (gai g 20 a) (gai g 20 b) sp.toNatClampNeg dp.toNatClampNeg n.toNatClampNeg)) := va_copied (fun z => .int z) (D.1 20) (D.1 20) (gai g 20 a) (gai g 20 b) ht.1
  rw [e1] at X' step
  have hlt : α 20 b < H.size := hR.1 20 b hb
  have hheap : ((T.setVm vm').setCell (α 20 b) (vp_cell (D.1 20) (gln g 20 b, .inl (va_cpy (gai g 20 a) (gai g 20 b) sp.toNatClampNeg dp.toNatClampNeg n.toNatClampNeg)))).heap = H.setIfInBounds (α 20 b) (vp_cell (D.1 20) (gln g 20 b, .inl (va_cpy (gai g 20 a) (gai g 20 b) sp.toNatClampNeg dp.toNatClampNeg n.toNatClampNeg))) := by rw [← hT]; rfl
  have oq : ∀ q : Nat, q ≠ α 20 b → (H.setIfInBounds (α 20 b) (vp_cell (D.1 20) (gln g 20 b, .inl (va_cpy (gai g 20 a) (gai g 20 b) sp.toNatClampNeg dp.toNatClampNeg n.toNatClampNeg))))[q]? = H[q]? := fun q hq => by simp [Array.getElem?_setIfInBounds, Ne.symm hq]
  have z : (H.setIfInBounds (α 20 b) (vp_cell (D.1 20) (gln g 20 b, .inl (va_cpy (gai g 20 a) (gai g 20 b) sp.toNatClampNeg dp.toNatClampNeg n.toNatClampNeg)))).size = H.size := by simp
  have hS1 := hS
  obtain ⟨t, a1, b1⟩ := kk _ _ (rep_ai hR (Or.inl rfl) hb rfl rfl rfl rfl rfl (fun t' i' hne => by
      show (if t' = 20 ∧ i' = b then _ else gai g t' i') = _
      rw [if_neg (by omega)]) (by
      show (H.setIfInBounds (α 20 b) _)[α 20 b]? = some (vp_cell _ (_, .inl (if 20 = 20 ∧ b = b then _ else gai g 20 b)))
      rw [if_pos ⟨rfl, rfl⟩]
      simp [Array.getElem?_setIfInBounds, hlt]) z oq) ⟨by rw [z]; exact hS.1, fun q g1 g2 => by
        rw [oq q (fun e => g2 (by rw [e]; exact hA _ _ hb))]
        exact hS.2.1 q g1 g2, fun q hq => by
        rcases List.mem_append.mp hq with h | h
        · exact hS.2.2 q h
        · obtain ⟨z, -, hz⟩ := List.mem_map.mp h
          rw [← hz]
          exact hA _ _ hb⟩ _ hheap X'
  exact ⟨t, step t a1, b1⟩
end KH
end
section
/-! the walk over numbers: a method's end, a method's contract, calls -/
def EI_ (v : Int32) : Option AV_ := some (.inl v)
def EV_ (_ : Unit) : Option AV_ := none
def ER_ (t : Nat) (x : Option Nat) : Option AV_ := some (.inr (t, x))
def PC_ (D : va_G) (A : Nat → Prop) (α : Nat → Nat → Nat) (g : GS_) (As : List AV_) : Array Value → State → Prop :=
  va_Pc (As.map (cv_ α)) (fun U => Rep_ D α g U.heap ∧ Amb_ D U ∧ (∀ t i, i < gcn g t → A (α t i)) ∧ (∀ q : Nat, U.heap.size ≤ q → A q) ∧ vS_ g As)
def Cn_ (y : MethodName) (b : ByteArray) (maxL : Nat) (ret : Option FieldType) (dep loc : Nat) {ρ : Type} (E : ρ → Option AV_) (As : List AV_) (g : GS_) (o : Option (ρ × GS_)) : Prop :=
  ∀ (r : ρ) (gf : GS_), o = some (r, gf) → (ghs g ≤ ghs gf ∧ gsl g ≤ gsl gf) ∧ ∀ (l : Launch) (D : va_G) (A : Nat → Prop) (α : Nat → Nat → Nat),
    Met l y (Cond.code y b maxL ret :: TW_) ({ frames := dep, cells := ghs gf - ghs g, slots := gsl gf - gsl g, locals := loc } : Room) (PC_ D A α g As) (fun _ => QC_ D A α g gf (E r)) (ghs gf - ghs g) (gsl gf - gsl g) A
theorem PC_blind {D : va_G} {A : Nat → Prop} {α : Nat → Nat → Nat} {g : GS_} {As : List AV_} : FrameBlind (PC_ D A α g As) := by
  intro a U gg mk h
  obtain ⟨h1, h2, h3, h4, h5, h6⟩ := h
  exact ⟨h1, h2, h3.calling gg mk a, h4, h5, h6⟩
section KE
variable {own : String} {cc : ByteArray} {nL : Nat} {ret : Option FieldType} {dep loc : Nat} {ini : Bool} {pc : Nat} {L : List (Option AV_)} {st : List AV_} {g : GS_}
theorem k_ireturn {v : Int32} (hret : ret = some .int) (d : decode cc pc = .ok (.ireturn, 1)) : K_ own cc nL ret dep loc ini EI_ pc L [.inl v] g (some (v, g)) := by
  intro r gf ho
  cases ho
  refine ⟨⟨Nat.le_refl _, Nat.le_refl _⟩, ?_⟩
  intro p l e R s m args below meth c D A α0 α g0 H locs ls cx sx hc hs vl vs hl
  exact W.iret (v := v) cx.1 cx.2.1 (cx.2.2.1.trans hret) (fun t ht hW => ⟨α, rfl, by rw [ht]; exact sx.1, cx.2.2.2.2.2.2.2.2.2.2.warm hW, sx.2.2.2.2.1, sx.2.2.2.2.2.1, sx.2.1, fun w hw => by cases hw; trivial, sx.2.2.2.1.F ht⟩) sx.2.2.2.1.2.2 d cx.2.2.2.2.2.2.1
theorem k_zreturn {v : Int32} (hret : ret = some .boolean) (hv : v = 0 ∨ v = 1) (d : decode cc pc = .ok (.ireturn, 1)) : K_ own cc nL ret dep loc ini EI_ pc L [.inl v] g (some (v, g)) := by
  intro r gf ho
  cases ho
  refine ⟨⟨Nat.le_refl _, Nat.le_refl _⟩, ?_⟩
  intro p l e R s m args below meth c D A α0 α g0 H locs ls cx sx hc hs vl vs hl
  exact W.zret (v := v) (ty := .boolean) cx.1 cx.2.1 (cx.2.2.1.trans hret) (by rcases hv with rfl | rfl <;> rfl) (fun t ht hW => ⟨α, rfl, by rw [ht]; exact sx.1, cx.2.2.2.2.2.2.2.2.2.2.warm hW, sx.2.2.2.2.1, sx.2.2.2.2.2.1, sx.2.1, fun w hw => by cases hw; trivial, sx.2.2.2.1.F ht⟩) sx.2.2.2.1.2.2 d cx.2.2.2.2.2.2.1
theorem k_zreturnc {v : Int32} (hret : ret = some .boolean) (d : decode cc pc = .ok (.ireturn, 1)) : K_ own cc nL ret dep loc ini EI_ pc L [.inl v] g (if v = 0 ∨ v = 1 then some (v, g) else none) :=
  k_case (fun h => k_zreturn hret h d) (fun _ => k_fail)
theorem k_return (hret : ret = none) (d : decode cc pc = .ok (.return_, 1)) : K_ own cc nL ret dep loc ini EV_ pc L [] g (some ((), g)) := by
  intro r gf ho
  cases ho
  refine ⟨⟨Nat.le_refl _, Nat.le_refl _⟩, ?_⟩
  intro p l e R s m args below meth c D A α0 α g0 H locs ls cx sx hc hs vl vs hl
  exact W.vret cx.1 cx.2.1 (cx.2.2.1.trans hret) (fun t ht hW => ⟨α, rfl, by rw [ht]; exact sx.1, cx.2.2.2.2.2.2.2.2.2.2.warm hW, sx.2.2.2.2.1, sx.2.2.2.2.2.1, sx.2.1, (fun w hw => by cases hw), sx.2.2.2.1.F ht⟩) sx.2.2.2.1.2.2 d cx.2.2.2.2.2.2.1
theorem k_areturn {t : Nat} {x : Option Nat} {rt : FieldType} (hret : ret = some rt) (hrt : (∃ n, rt = .object n) ∨ ∃ t, rt = .array t) (d : decode cc pc = .ok (.areturn, 1)) : K_ own cc nL ret dep loc ini (ER_ t) pc L [.inr (t, x)] g (some (x, g)) := by
  intro r gf ho
  cases ho
  refine ⟨⟨Nat.le_refl _, Nat.le_refl _⟩, ?_⟩
  intro p l e R s m args below meth c D A α0 α g0 H locs ls cx sx hc hs vl vs hl
  exact W.aret (v := cv_ α (.inr (t, x))) cx.1 cx.2.1 (cx.2.2.1.trans hret) hrt (by
    cases x with
    | none => exact Or.inl rfl
    | some a => exact Or.inr ⟨_, rfl⟩) (fun t ht hW => ⟨α, rfl, by rw [ht]; exact sx.1, cx.2.2.2.2.2.2.2.2.2.2.warm hW, sx.2.2.2.2.1, sx.2.2.2.2.2.1, sx.2.1, fun w hw => by cases hw; exact vS_h vs, sx.2.2.2.1.F ht⟩) sx.2.2.2.1.2.2 d cx.2.2.2.2.2.2.1
theorem lg_cv (α : Nat → Nat → Nat) : ∀ As : List AV_, lg_sl (As.map (cv_ α)) = As.map (fun v => Slot.val (cv_ α v))
  | [] => rfl
  | v :: As => by
    have h := lg_cv α As
    unfold lg_sl at h ⊢
    rw [List.map_cons, List.flatMap_cons, h, if_neg (by rw [cv_cat]; decide)]
    rfl
theorem lv_args_cv (α : Nat → Nat → Nat) : ∀ (As : List AV_) (b i : Nat) (v : AV_), As[i]? = some v → (b + i, cv_ α v) ∈ lv_args b (As.map (cv_ α))
  | [], b, i, v, h => by simp at h
  | w :: As, b, 0, v, h => by
    cases h
    exact List.mem_cons_self
  | w :: As, b, i + 1, v, h => by
    have h1 := lv_args_cv α As (b + 1) i v (by simpa using h)
    show _ ∈ (b, cv_ α w) :: lv_args (if (cv_ α w).category = 2 then b + 2 else b + 1) (As.map (cv_ α))
    rw [if_neg (by rw [cv_cat]; decide)]
    refine List.mem_cons_of_mem _ ?_
    rw [show b + (i + 1) = b + 1 + i by omega]
    exact h1
def L0_ (maxL : Nat) (As : List AV_) : List (Option AV_) := As.map some ++ List.replicate (maxL - As.length) none
theorem L0_at {maxL : Nat} {As : List AV_} {i : Nat} {v : AV_} (h : (L0_ maxL As)[i]? = some (some v)) : As[i]? = some v := by
  unfold L0_ at h
  by_cases hl : i < As.length
  · rw [List.getElem?_append_left (by simpa using hl), List.getElem?_map] at h
    cases hx : As[i]? with
    | none => rw [hx] at h; cases h
    | some w => rw [hx] at h; cases h; rfl
  · rw [List.getElem?_append_right (by simpa using Nat.le_of_not_lt hl)] at h
    have := List.mem_of_getElem? h
    have := List.eq_of_mem_replicate this
    cases this
theorem k_method {y : MethodName} {b : ByteArray} {maxL : Nat} {ρ : Type} {E : ρ → Option AV_} {As : List AV_} {o : Option (ρ × GS_)} {L1 : List (Option AV_)} (hy : plainName y.cls = true) (hown : y.cls = own) (hi : ini = true → y.name = "<init>") (hlen : As.length ≤ maxL) (hL : L0_ maxL As = L1) (k : K_ own b maxL ret dep loc ini E 0 L1 [] g o) : Cn_ y b maxL ret dep loc E As g o := by
  subst hL
  intro r gf ho
  obtain ⟨hm, hk⟩ := k r gf ho
  refine ⟨hm, fun l D A α => ?_⟩
  refine Met.ofW (cc := b) (maxL := maxL) (ret := ret) hy rfl ?_
  intro p e s m args below meth c s₁ B hml hv
  obtain ⟨rfl, hR, hAm, hc, hA2, hvs⟩ := hv
  have hts : ∀ w ∈ TW_, w.before ((As.map (cv_ α)).toArray) s = true := fun w hw => atoms_spec (ws := Cond.code y b maxL ret :: TW_) B.pre w (List.mem_cons_of_mem _ hw)
  have hl := lv_entry (As.map (cv_ α)) (n := maxL) (by rw [lg_cv, List.length_map]; exact hlen)
  rw [lg_entry_eq]
  generalize (lg_sl (As.map (cv_ α)) ++ List.replicate (maxL - (lg_sl (As.map (cv_ α))).length) Slot.unset).toArray = ls at hl ⊢
  have hz := hk p l e (headSpec (Cond.code y b maxL ret :: TW_) ({ frames := dep, cells := ghs gf - ghs g, slots := gsl gf - gsl g, locals := loc } : Room)).room s m (As.map (cv_ α)).toArray below meth c D A α α g s.heap [] ls
    ⟨B.exec, B.bytes, B.returns, hml, hown ▸ findClass_of_methodNamed B.named, hts, B.notSynchronized, Nat.le_refl _, Nat.le_refl _, fun h => (name_of_methodNamed B.named B.method).1.trans (hi h), hAm⟩
    ⟨hR, hc, hA2, va_S.rf, fun _ _ _ => rfl, fun _ => Nat.le_refl _, Nat.le_refl _, Nat.le_refl _⟩ (Nat.le_refl _) (Nat.le_refl _)
    (fun i v h => hvs v (List.mem_of_getElem? (L0_at h))) (fun v h => by cases h)
    ⟨hl.1, hl.2.1, fun i v h => by
      have h1 := lv_args_cv α As 0 i v (L0_at h)
      rw [Nat.zero_add] at h1
      exact hl.2.2 _ h1⟩
  rw [Nat.sub_self, Nat.sub_self] at hz
  exact hz
end KE
/-- what the tables say of a method that is called -/
def VW_ (y : MethodName) (b : ByteArray) (maxL : Nat) (ret : Option FieldType) (t n : Nat) : Prop := Cond.code y b maxL ret ∈ TW_ ∧ Cond.instanceMethod y ∈ TW_ ∧ Cond.selects y.cls y y ∈ TW_ ∧ Cond.initialized y.cls ∈ TW_ ∧ (∃ (T : u_T) (N : Nat), vwCl[t]? = some (y.cls, T, N)) ∧ y.cls ≠ "java/lang/invoke/MethodHandle" ∧ y.cls ≠ "java/lang/invoke/VarHandle" ∧ (parseMethodDescriptor y.desc).map (fun d => d.parameters.length) = some n
def SW_ (y : MethodName) (b : ByteArray) (maxL : Nat) (ret : Option FieldType) (n : Nat) : Prop := Cond.code y b maxL ret ∈ TW_ ∧ Cond.static y ∈ TW_ ∧ Cond.initialized y.cls ∈ TW_ ∧ y.cls ≠ "java/lang/invoke/MethodHandle" ∧ y.cls ≠ "java/lang/invoke/VarHandle" ∧ (parseMethodDescriptor y.desc).map (fun d => d.parameters.length) = some n
def IW_ (y : MethodName) (b : ByteArray) (maxL : Nat) (n : Nat) : Prop := Cond.code y b maxL none ∈ TW_ ∧ Cond.instanceMethod y ∈ TW_ ∧ Cond.initialized y.cls ∈ TW_ ∧ y.name = "<init>" ∧ y.cls ≠ "java/lang/invoke/MethodHandle" ∧ y.cls ≠ "java/lang/invoke/VarHandle" ∧ (parseMethodDescriptor y.desc).map (fun d => d.parameters.length) = some n
section WC
variable {p : Program} {l : Launch} {e : Env} {R : Room} {s : State} {m : MethodId} {args : Array Value} {below : List Frame} {meth : Method} {c : Code} {H : Heap} {locs : List Loc} {cells slots : Nat} {Q : State → Prop}
variable {own : String} {cc : ByteArray} {nL pc : Nat} {ls : Array Slot} {rest st0 : List Value} {D : va_G} {α : Nat → Nat → Nat} {g g1 : GS_} {A A0 : Nat → Prop} {H0 : Heap} {Ts : List Cond}
theorem w_run {v : Option AV_} {mc ms : Nat} (hr : va_Run p l e R s m args below meth c H locs cells slots mc ms (F0 m pc ls st0) rest (QC_ D A α g g1 v) A) (hS : va_S A0 H0 H locs) (hA : ∀ q, A q → A0 q)
    (kk : ∀ (α' : Nat → Nat → Nat) (H1 : Heap) (locs1 : List Loc), Rep_ D α' g1 H1 → (∀ t i, i < gcn g t → α' t i = α t i) → (∀ t, gcn g t ≤ gcn g1 t) → (∀ t i, i < gcn g1 t → A (α' t i)) → (∀ w, v = some w → ok_ g1 w) → H.size ≤ H1.size → (∀ q : Nat, q < H.size → ¬ A q → H1[q]? = H[q]?) → va_S A0 H0 H1 locs1 → W p l e R s m args below meth c H1 locs1 (cells + mc) (slots + ms) Q (F0 m (pc + 3) ls ((v.map (cv_ α')).toList ++ rest))) :
    W p l e R s m args below meth c H locs cells slots Q (F0 m pc ls st0) := by
  intro T hT X
  obtain ⟨v', st₀, t, T', L, h0, X', hL, e1, e2, ⟨α', hv, q1, q2, q3, q4, q5, q6, q7⟩, st⟩ := hr T hT X
  cases hv
  obtain ⟨hz, hk⟩ := q7
  rw [h0] at hz hk
  obtain ⟨t2, a1, b1⟩ := kk α' T'.heap (locs ++ L) (by rw [e1]; exact q1) q3 q4 q5 q6 (by rw [e1]; exact hz) (fun q h1 h2 => by rw [e1]; exact hk q h1 h2)
    ⟨Nat.le_trans hS.1 (by rw [e1]; exact hz), fun q h1 h2 => by rw [e1, hk q (Nat.lt_of_lt_of_le h1 hS.1) (fun z => h2 (hA q z))]; exact hS.2.1 q h1 h2, fun q hq => by
      rcases List.mem_append.mp hq with h | h
      · exact hS.2.2 q h
      · exact hA _ (hL q h)⟩ T' rfl X'
  exact ⟨t2, st t2 a1, b1⟩
theorem map_rev (α : Nat → Nat → Nat) (As : List AV_) (r : List Value) : (As.map (cv_ α)).reverse ++ r = As.reverse.map (cv_ α) ++ r := by rw [List.map_reverse]
theorem pre_of {As : List AV_} (hAm : Amb_ D s) (hR : Rep_ D α g H) (hc : ∀ t i, i < gcn g t → A (α t i)) (hA2 : ∀ q : Nat, H.size ≤ q → A q) (hvs : vS_ g As) : ∀ U : State, U.heap = H → s.WarmedH U.vm → PC_ D A α g As ((As.map (cv_ α)).toArray) U :=
  fun U hU hW => ⟨rfl, by rw [hU]; exact hR, hAm.warm hW, hc, by rw [hU]; exact hA2, hvs⟩
/-- a call of a method of an object -/
theorem w_callV {ρ' : Type} {E' : ρ' → Option AV_} {y : MethodName} {b : ByteArray} {maxL index t a n dep' loc' : Nat} {ret' : Option FieldType} {As : List AV_} {r : ρ'} (hM : Cn_ y b maxL ret' dep' loc' E' (.inr (t, some a) :: As) g (some (r, g1))) (hw : VW_ y b maxL ret' t n)
    (S : CallFix p m c cc nL s args Ts own) (hT : ∀ w ∈ TW_, w ∈ Ts) (hl : Cond.methodLink own index y ∈ Ts ∨ ∃ host, Cond.methodLinkNest own index y host ∈ tables_1) (hAm : Amb_ D s) (hlen : As.length = n) (hls : ls.size = nL) (hfr : dep' + 1 ≤ R.frames) (hlo : 8 + (maxL + 11) + loc' ≤ R.locals)
    (hR : Rep_ D α g H) (hc : ∀ t i, i < gcn g t → A (α t i)) (hA2 : ∀ q : Nat, H.size ≤ q → A q) (hvs : vS_ g (.inr (t, some a) :: As)) (hW : (rest.map fun v => v.category).sum ≤ 8) (hce : cells + (ghs g1 - ghs g) ≤ R.cells) (hsl : slots + (gsl g1 - gsl g) ≤ R.slots) (d : decode cc pc = .ok (.invokevirtual index, 3)) (hgl : Cond.methodLink own index y ∈ Ts → goodWord (Cond.methodLink own index y) = true) :
    va_Run p l e R s m args below meth c H locs cells slots (ghs g1 - ghs g) (gsl g1 - gsl g) (F0 m pc ls ((As.map (cv_ α)).reverse ++ .ref (α t a) :: rest)) rest (QC_ D A α g g1 (E' r)) A := by
  obtain ⟨h1, h2, h3, h4, ⟨T, N, hvw⟩, h5, h6, h7⟩ := hw
  have hMet := (hM r g1 rfl).2 l D A α
  obtain ⟨hx, hb, hml, ho, hts⟩ := S
  have hrecv : ∃ cellB : Cell, H[α t a]? = some cellB ∧ cellB.vm.isStatics = false ∧ s.vm.findClass y.cls = some cellB.cls := by
    obtain ⟨cell, g1, g2, g3, -⟩ := hR.2.2.2.2.1 t _ _ _ a hvw (ok_s (vS_h hvs))
    exact ⟨cell, g1, by rw [g3]; rfl, by rw [g2]; exact (hAm.1.1 t _ hvw).2.1⟩
  have hpre : PreV s H y.cls (α t a) (PC_ D A α g (.inr (t, some a) :: As)) (As.map (cv_ α)) := ⟨PC_blind, hrecv, pre_of hAm hR hc hA2 hvs⟩
  have hin := hts _ (hT _ h2)
  have hgd : GoodIn Ts (Cond.code y b maxL ret' :: TW_) := fun w hw' => by
    have : w ∈ TW_ := by
      rcases List.mem_cons.mp hw' with rfl | h
      · exact h1
      · exact h
    exact ⟨hT _ this, good_of_word (List.mem_filter.mp this).2⟩
  rcases hl with hl | ⟨host, hl⟩
  · exact va_runV ⟨hx, hb, hml, ho, hts⟩ hMet ⟨callB_of n hts hgd rfl rfl rfl (hts _ (hT _ h4)) (hts _ hl) ⟨h5, h6, h7⟩ ⟨hfr, hlo⟩, hin, hts _ (hT _ h3)⟩ hpre rfl (by rw [List.length_map]; exact hlen) hls rfl (by show 2 * 0 + _ ≤ 8; omega) d ⟨hce, hsl⟩
  · exact va_runVN ⟨hx, hb, hml, ho, hts⟩ hMet ⟨va_cnB n hts hgd rfl rfl rfl (hAm.2.1.2 _ _ _ _ hl) (hts _ (hT _ h4)) ⟨h5, h6, h7⟩ ⟨hfr, hlo⟩, hin, hts _ (hT _ h3)⟩ hpre rfl (by rw [List.length_map]; exact hlen) hls rfl (by show 2 * 0 + _ ≤ 8; omega) d ⟨hce, hsl⟩
theorem w_callS {ρ' : Type} {E' : ρ' → Option AV_} {y : MethodName} {b : ByteArray} {maxL index n dep' loc' : Nat} {ret' : Option FieldType} {As : List AV_} {r : ρ'} (hM : Cn_ y b maxL ret' dep' loc' E' As g (some (r, g1))) (hw : SW_ y b maxL ret' n)
    (S : CallFix p m c cc nL s args Ts own) (hT : ∀ w ∈ TW_, w ∈ Ts) (hl : Cond.methodLink own index y ∈ Ts) (hAm : Amb_ D s) (hlen : As.length = n) (hls : ls.size = nL) (hfr : dep' + 1 ≤ R.frames) (hlo : 8 + (maxL + 11) + loc' ≤ R.locals)
    (hR : Rep_ D α g H) (hc : ∀ t i, i < gcn g t → A (α t i)) (hA2 : ∀ q : Nat, H.size ≤ q → A q) (hvs : vS_ g As) (hW : (rest.map fun v => v.category).sum ≤ 8) (hce : cells + (ghs g1 - ghs g) ≤ R.cells) (hsl : slots + (gsl g1 - gsl g) ≤ R.slots) (d : decode cc pc = .ok (.invokestatic index, 3)) :
    va_Run p l e R s m args below meth c H locs cells slots (ghs g1 - ghs g) (gsl g1 - gsl g) (F0 m pc ls ((As.map (cv_ α)).reverse ++ rest)) rest (QC_ D A α g g1 (E' r)) A := by
  obtain ⟨h1, h2, h4, h5, h6, h7⟩ := hw
  have hMet := (hM r g1 rfl).2 l D A α
  obtain ⟨hx, hb, hml, ho, hts⟩ := S
  have hgd : GoodIn Ts (Cond.code y b maxL ret' :: TW_) := fun w hw' => by
    have : w ∈ TW_ := by
      rcases List.mem_cons.mp hw' with rfl | h
      · exact h1
      · exact h
    exact ⟨hT _ this, good_of_word (List.mem_filter.mp this).2⟩
  exact va_runS ⟨hx, hb, hml, ho, hts⟩ hMet ⟨callB_of n hts hgd rfl rfl rfl (hts _ (hT _ h4)) (hts _ hl) ⟨h5, h6, h7⟩ ⟨hfr, hlo⟩, hts _ (hT _ h2)⟩ ⟨PC_blind, pre_of hAm hR hc hA2 hvs⟩ rfl (by rw [List.length_map]; exact hlen) hls rfl (by show 2 * 0 + _ ≤ 8; omega) d ⟨hce, hsl⟩
theorem w_callI {ρ' : Type} {E' : ρ' → Option AV_} {y : MethodName} {b : ByteArray} {maxL index t a n dep' loc' : Nat} {As : List AV_} {r : ρ'} (hM : Cn_ y b maxL none dep' loc' E' (.inr (t, some a) :: As) g (some (r, g1))) (hw : IW_ y b maxL n)
    (S : CallFix p m c cc nL s args Ts own) (hT : ∀ w ∈ TW_, w ∈ Ts) (hl : Cond.methodLink own index y ∈ Ts ∨ ∃ host, Cond.methodLinkNest own index y host ∈ tables_1) (hAm : Amb_ D s) (hlen : As.length = n) (hls : ls.size = nL) (hfr : dep' + 1 ≤ R.frames) (hlo : 8 + (maxL + 11) + loc' ≤ R.locals)
    (hR : Rep_ D α g H) (hc : ∀ t i, i < gcn g t → A (α t i)) (hA2 : ∀ q : Nat, H.size ≤ q → A q) (hvs : vS_ g (.inr (t, some a) :: As)) (hW : (rest.map fun v => v.category).sum ≤ 8) (hce : cells + (ghs g1 - ghs g) ≤ R.cells) (hsl : slots + (gsl g1 - gsl g) ≤ R.slots) (d : decode cc pc = .ok (.invokespecial index, 3)) :
    va_Run p l e R s m args below meth c H locs cells slots (ghs g1 - ghs g) (gsl g1 - gsl g) (F0 m pc ls ((As.map (cv_ α)).reverse ++ .ref (α t a) :: rest)) rest (QC_ D A α g g1 (E' r)) A := by
  obtain ⟨h1, h2, h4, h3, h5, h6, h7⟩ := hw
  have hMet := (hM r g1 rfl).2 l D A α
  obtain ⟨hx, hb, hml, ho, hts⟩ := S
  have hin := hts _ (hT _ h2)
  have hgd : GoodIn Ts (Cond.code y b maxL none :: TW_) := fun w hw' => by
    have : w ∈ TW_ := by
      rcases List.mem_cons.mp hw' with rfl | h
      · exact h1
      · exact h
    exact ⟨hT _ this, good_of_word (List.mem_filter.mp this).2⟩
  have hpre : PreS s H (PC_ D A α g (.inr (t, some a) :: As)) (.ref (α t a) :: As.map (cv_ α)) := ⟨PC_blind, pre_of hAm hR hc hA2 hvs⟩
  rcases hl with hl | ⟨host, hl⟩
  · exact va_runI ⟨hx, hb, hml, ho, hts⟩ hMet ⟨callB_of n hts hgd rfl rfl rfl (hts _ (hT _ h4)) (hts _ hl) ⟨h5, h6, h7⟩ ⟨hfr, hlo⟩, h3, hin⟩ hpre rfl (by rw [List.length_map]; exact hlen) hls rfl (by show 2 * 0 + _ ≤ 8; omega) d ⟨hce, hsl⟩
  · exact va_runIN ⟨hx, hb, hml, ho, hts⟩ hMet ⟨va_cnB n hts hgd rfl rfl rfl (hAm.2.1.2 _ _ _ _ hl) (hts _ (hT _ h4)) ⟨h5, h6, h7⟩ ⟨hfr, hlo⟩, h3, hin⟩ hpre rfl (by rw [List.length_map]; exact hlen) hls rfl (by show 2 * 0 + _ ≤ 8; omega) d ⟨hce, hsl⟩
end WC
section KC
variable {own : String} {cc : ByteArray} {nL : Nat} {ret : Option FieldType} {dep loc : Nat} {ini : Bool} {ρ ρ' : Type} {E : ρ → Option AV_} {E' : ρ' → Option AV_} {pc : Nat} {L : List (Option AV_)} {st st0 : List AV_} {g : GS_} {f : Option (ρ' × GS_)} {oo : ρ' → GS_ → Option (ρ × GS_)}
theorem k_call
    (hf : ∀ r g1, f = some (r, g1) → (ghs g ≤ ghs g1 ∧ gsl g ≤ gsl g1) ∧ ∀ (p : Program) (l : Launch) (e : Env) (R : Room) (s : State) (m : MethodId) (args : Array Value) (below : List Frame) (meth : Method) (c : Code) (D : va_G) (A : Nat → Prop) (α : Nat → Nat → Nat) (H : Heap) (locs : List Loc) (ls : Array Slot) (cells slots : Nat), CX_ own cc nL ret dep loc ini D p R s m args meth c → Rep_ D α g H → (∀ t i, i < gcn g t → A (α t i)) → (∀ q : Nat, H.size ≤ q → A q) → vS_ g st0 → lvr_ α ls nL L → cells + (ghs g1 - ghs g) ≤ R.cells → slots + (gsl g1 - gsl g) ≤ R.slots →
      va_Run p l e R s m args below meth c H locs cells slots (ghs g1 - ghs g) (gsl g1 - gsl g) (F0 m pc ls (st0.map (cv_ α))) (st.map (cv_ α)) (QC_ D A α g g1 (E' r)) A)
    (hst : vS_ g st0 → vS_ g st) (kk : ∀ v g1, K_ own cc nL ret dep loc ini E (pc + 3) L ((E' v).toList ++ st) g1 (oo v g1)) : K_ own cc nL ret dep loc ini E pc L st0 g (bd_ f oo) := by
  intro r gf ho
  cases hfe : f with
  | none => rw [hfe] at ho; cases ho
  | some q =>
    obtain ⟨v, g1⟩ := q
    rw [hfe] at ho
    obtain ⟨hm1, hrun⟩ := hf v g1 hfe
    obtain ⟨hm, hk⟩ := kk v g1 r gf ho
    refine ⟨⟨Nat.le_trans hm1.1 hm.1, Nat.le_trans hm1.2 hm.2⟩, ?_⟩
    intro p l e R s m args below meth c D A α0 α g0 H locs ls cx sx hc hs vl vs hl
    obtain ⟨s1, s2, s3, s4, s5, s6, s7, s8⟩ := sx
    refine w_run (hrun p l e R s m args below meth c D A α H locs ls _ _ cx s1 s2 (fun q hq => s3 q (Nat.le_trans s4.1 hq)) vs hl (by omega) (by omega)) s4 (fun _ h => h) (fun α' H1 locs1 q1 q3 q4 q5 q6 q7 q8 hS => ?_)
    have hz := hk p l e R s m args below meth c D A α0 α' g0 H1 locs1 ls cx ⟨q1, q5, s3, hS, fun t i hi => (q3 t i (Nat.lt_of_lt_of_le hi (s6 t))).trans (s5 t i hi), fun t => Nat.le_trans (s6 t) (q4 t), by omega, by omega⟩ hc hs (vL_mono q4 vl) (by
      have h1 := vS_mono q4 (hst vs)
      cases hv : E' v with
      | none => exact h1
      | some w => exact vS_c (q6 w hv) h1) (lvr_ext q3 vl hl)
    have e1 : ghs g1 - ghs g0 = ghs g - ghs g0 + (ghs g1 - ghs g) := by omega
    have e2 : gsl g1 - gsl g0 = gsl g - gsl g0 + (gsl g1 - gsl g) := by omega
    rw [e1, e2, List.map_append, map_ext q3 (hst vs)] at hz
    have e3 : (E' v).toList.map (cv_ α') = ((E' v).map (cv_ α')).toList := by cases E' v <;> rfl
    rw [e3] at hz
    exact hz
theorem k_callV {y : MethodName} {b : ByteArray} {maxL index t a n dep' loc' : Nat} {ret' : Option FieldType} (As : List AV_) (hM : Cn_ y b maxL ret' dep' loc' E' (.inr (t, some a) :: As) g f) (hw : VW_ y b maxL ret' t n) (hl : Cond.methodLink own index y ∈ TW_ ∨ ∃ host, Cond.methodLinkNest own index y host ∈ tables_1) (hs : As.reverse ++ .inr (t, some a) :: st = st0) (hlen : As.length = n) (hfr : dep' + 1 ≤ dep) (hlo : 8 + (maxL + 11) + loc' ≤ loc) (hW : st.length ≤ 8) (d : decode cc pc = .ok (.invokevirtual index, 3))
    (kk : ∀ v g1, K_ own cc nL ret dep loc ini E (pc + 3) L ((E' v).toList ++ st) g1 (oo v g1)) : K_ own cc nL ret dep loc ini E pc L st0 g (bd_ f oo) := by
  subst hs
  refine k_call (fun r g1 hfe => ⟨(hM r g1 hfe).1, fun p l e R s m args below meth c D A α H locs ls cells slots cx hR hc hA2 vs hl' hce hsl => ?_⟩) (fun h => vS_t (vS_a h).2) kk
  rw [hfe] at hM
  have hvs : vS_ g (.inr (t, some a) :: As) := vS_c (vS_h (vS_a vs).2) (fun v hv => (vS_a vs).1 v (List.mem_reverse.mpr hv))
  have h9 := w_callV (rest := st.map (cv_ α)) (locs := locs) (below := below) (meth := meth) (e := e) (l := l) (pc := pc) hM hw ⟨cx.1, cx.2.1, cx.2.2.2.1, cx.2.2.2.2.1, cx.2.2.2.2.2.1⟩ (fun _ h => h) hl cx.2.2.2.2.2.2.2.2.2.2 hlen hl'.1 (Nat.le_trans hfr cx.2.2.2.2.2.2.2.1) (Nat.le_trans hlo cx.2.2.2.2.2.2.2.2.1) hR hc hA2 hvs (by rw [cat_sum]; exact hW) hce hsl d (fun h => (List.mem_filter.mp h).2)
  rw [map_rev] at h9
  rw [List.map_append]
  exact h9
theorem k_callS {y : MethodName} {b : ByteArray} {maxL index n dep' loc' : Nat} {ret' : Option FieldType} (As : List AV_) (hM : Cn_ y b maxL ret' dep' loc' E' As g f) (hw : SW_ y b maxL ret' n) (hl : Cond.methodLink own index y ∈ TW_) (hs : As.reverse ++ st = st0) (hlen : As.length = n) (hfr : dep' + 1 ≤ dep) (hlo : 8 + (maxL + 11) + loc' ≤ loc) (hW : st.length ≤ 8) (d : decode cc pc = .ok (.invokestatic index, 3))
    (kk : ∀ v g1, K_ own cc nL ret dep loc ini E (pc + 3) L ((E' v).toList ++ st) g1 (oo v g1)) : K_ own cc nL ret dep loc ini E pc L st0 g (bd_ f oo) := by
  subst hs
  refine k_call (fun r g1 hfe => ⟨(hM r g1 hfe).1, fun p l e R s m args below meth c D A α H locs ls cells slots cx hR hc hA2 vs hl' hce hsl => ?_⟩) (fun h => (vS_a h).2) kk
  rw [hfe] at hM
  have hvs : vS_ g As := fun v hv => (vS_a vs).1 v (List.mem_reverse.mpr hv)
  have h9 := w_callS (rest := st.map (cv_ α)) (locs := locs) (below := below) (meth := meth) (e := e) (l := l) (pc := pc) hM hw ⟨cx.1, cx.2.1, cx.2.2.2.1, cx.2.2.2.2.1, cx.2.2.2.2.2.1⟩ (fun _ h => h) hl cx.2.2.2.2.2.2.2.2.2.2 hlen hl'.1 (Nat.le_trans hfr cx.2.2.2.2.2.2.2.1) (Nat.le_trans hlo cx.2.2.2.2.2.2.2.2.1) hR hc hA2 hvs (by rw [cat_sum]; exact hW) hce hsl d
  rw [map_rev] at h9
  rw [List.map_append]
  exact h9
theorem k_callI {y : MethodName} {b : ByteArray} {maxL index t a n dep' loc' : Nat} (As : List AV_) (hM : Cn_ y b maxL none dep' loc' E' (.inr (t, some a) :: As) g f) (hw : IW_ y b maxL n) (hl : Cond.methodLink own index y ∈ TW_ ∨ ∃ host, Cond.methodLinkNest own index y host ∈ tables_1) (hs : As.reverse ++ .inr (t, some a) :: st = st0) (hlen : As.length = n) (hfr : dep' + 1 ≤ dep) (hlo : 8 + (maxL + 11) + loc' ≤ loc) (hW : st.length ≤ 8) (d : decode cc pc = .ok (.invokespecial index, 3))
    (kk : ∀ v g1, K_ own cc nL ret dep loc ini E (pc + 3) L ((E' v).toList ++ st) g1 (oo v g1)) : K_ own cc nL ret dep loc ini E pc L st0 g (bd_ f oo) := by
  subst hs
  refine k_call (fun r g1 hfe => ⟨(hM r g1 hfe).1, fun p l e R s m args below meth c D A α H locs ls cells slots cx hR hc hA2 vs hl' hce hsl => ?_⟩) (fun h => vS_t (vS_a h).2) kk
  rw [hfe] at hM
  have hvs : vS_ g (.inr (t, some a) :: As) := vS_c (vS_h (vS_a vs).2) (fun v hv => (vS_a vs).1 v (List.mem_reverse.mpr hv))
  have h9 := w_callI (rest := st.map (cv_ α)) (locs := locs) (below := below) (meth := meth) (e := e) (l := l) (pc := pc) hM hw ⟨cx.1, cx.2.1, cx.2.2.2.1, cx.2.2.2.2.1, cx.2.2.2.2.2.1⟩ (fun _ h => h) hl cx.2.2.2.2.2.2.2.2.2.2 hlen hl'.1 (Nat.le_trans hfr cx.2.2.2.2.2.2.2.1) (Nat.le_trans hlo cx.2.2.2.2.2.2.2.2.1) hR hc hA2 hvs (by rw [cat_sum]; exact hW) hce hsl d
  rw [map_rev] at h9
  rw [List.map_append]
  exact h9
end KC
end
section
/-! the tables' words that the methods need, by their places; the number that bounds the turns of a loop -/
def FU_ : Nat := 20000
theorem k_ocn {own : String} {cc : ByteArray} {nL : Nat} {ret : Option FieldType} {dep loc : Nat} {ini : Bool} {ρ : Type} {E : ρ → Option AV_} {pc : Nat} {L : List (Option AV_)} {st : List AV_} {g : GS_} {B : Nat → Option (ρ × GS_)} : K_ own cc nL ret dep loc ini E pc L st g (oc_ none none B) := k_fail
theorem k_ocs {own : String} {cc : ByteArray} {nL : Nat} {ret : Option FieldType} {dep loc : Nat} {ini : Bool} {ρ : Type} {E : ρ → Option AV_} {pc : Nat} {L : List (Option AV_)} {st : List AV_} {g : GS_} {a : Nat} {o : Option (ρ × GS_)} {B : Nat → Option (ρ × GS_)} (k : K_ own cc nL ret dep loc ini E pc L st g (B a)) : K_ own cc nL ret dep loc ini E pc L st g (oc_ (some a) o B) := k
theorem cfw_0 : ∀ w ∈ u_ws RX0 TX0 5, w ∈ TW_ := fun w hw => tw_mem ((by decide +kernel : ∀ w ∈ u_ws RX0 TX0 5, w ∈ lw_tbl) w hw) ((by decide +kernel : ∀ w ∈ u_ws RX0 TX0 5, goodWord w = true) w hw)
theorem cf_0 : CF_ 0 RX0 TX0 5 := ⟨rfl, cfw_0, nmX0, tyX0, tyX0_ok, by decide +kernel⟩
theorem in_0 : Cond.instantiable RX0 5 ∈ TW_ ∧ Cond.initialized RX0 ∈ TW_ := ⟨(tw_mem (List.mem_of_getElem? (i := 310) (by decide +kernel)) (by decide +kernel)), (tw_mem (List.mem_of_getElem? (i := 85) (by decide +kernel)) (by decide +kernel))⟩
theorem cfw_1 : ∀ w ∈ u_ws RX1 TX1 7, w ∈ TW_ := fun w hw => tw_mem ((by decide +kernel : ∀ w ∈ u_ws RX1 TX1 7, w ∈ lw_tbl) w hw) ((by decide +kernel : ∀ w ∈ u_ws RX1 TX1 7, goodWord w = true) w hw)
theorem cf_1 : CF_ 1 RX1 TX1 7 := ⟨rfl, cfw_1, nmX1, tyX1, tyX1_ok, by decide +kernel⟩
theorem in_1 : Cond.instantiable RX1 7 ∈ TW_ ∧ Cond.initialized RX1 ∈ TW_ := ⟨(tw_mem (List.mem_of_getElem? (i := 546) (by decide +kernel)) (by decide +kernel)), (tw_mem (List.mem_of_getElem? (i := 88) (by decide +kernel)) (by decide +kernel))⟩
theorem cfw_2 : ∀ w ∈ u_ws RX2 TX2 2, w ∈ TW_ := fun w hw => tw_mem ((by decide +kernel : ∀ w ∈ u_ws RX2 TX2 2, w ∈ lw_tbl) w hw) ((by decide +kernel : ∀ w ∈ u_ws RX2 TX2 2, goodWord w = true) w hw)
theorem cf_2 : CF_ 2 RX2 TX2 2 := ⟨rfl, cfw_2, nmX2, tyX2, tyX2_ok, by decide +kernel⟩
theorem in_2 : Cond.instantiable RX2 2 ∈ TW_ ∧ Cond.initialized RX2 ∈ TW_ := ⟨(tw_mem (List.mem_of_getElem? (i := 129) (by decide +kernel)) (by decide +kernel)), (tw_mem (List.mem_of_getElem? (i := 80) (by decide +kernel)) (by decide +kernel))⟩
theorem cfw_3 : ∀ w ∈ u_ws RX3 TX3 3, w ∈ TW_ := fun w hw => tw_mem ((by decide +kernel : ∀ w ∈ u_ws RX3 TX3 3, w ∈ lw_tbl) w hw) ((by decide +kernel : ∀ w ∈ u_ws RX3 TX3 3, goodWord w = true) w hw)
theorem cf_3 : CF_ 3 RX3 TX3 3 := ⟨rfl, cfw_3, nmX3, tyX3, tyX3_ok, by decide +kernel⟩
theorem in_3 : Cond.instantiable RX3 3 ∈ TW_ ∧ Cond.initialized RX3 ∈ TW_ := ⟨(tw_mem (List.mem_of_getElem? (i := 245) (by decide +kernel)) (by decide +kernel)), (tw_mem (List.mem_of_getElem? (i := 82) (by decide +kernel)) (by decide +kernel))⟩
theorem cfw_4 : ∀ w ∈ u_ws RX4 TX4 13, w ∈ TW_ := fun w hw => tw_mem ((by decide +kernel : ∀ w ∈ u_ws RX4 TX4 13, w ∈ lw_tbl) w hw) ((by decide +kernel : ∀ w ∈ u_ws RX4 TX4 13, goodWord w = true) w hw)
theorem cf_4 : CF_ 4 RX4 TX4 13 := ⟨rfl, cfw_4, nmX4, tyX4, tyX4_ok, by decide +kernel⟩
theorem in_4 : Cond.instantiable RX4 13 ∈ TW_ ∧ Cond.initialized RX4 ∈ TW_ := ⟨(tw_mem (List.mem_of_getElem? (i := 465) (by decide +kernel)) (by decide +kernel)), (tw_mem (List.mem_of_getElem? (i := 87) (by decide +kernel)) (by decide +kernel))⟩
theorem cfw_5 : ∀ w ∈ u_ws RX5 TX5 8, w ∈ TW_ := fun w hw => tw_mem ((by decide +kernel : ∀ w ∈ u_ws RX5 TX5 8, w ∈ lw_tbl) w hw) ((by decide +kernel : ∀ w ∈ u_ws RX5 TX5 8, goodWord w = true) w hw)
theorem cf_5 : CF_ 5 RX5 TX5 8 := ⟨rfl, cfw_5, nmX5, tyX5, tyX5_ok, by decide +kernel⟩
theorem in_5 : Cond.instantiable RX5 8 ∈ TW_ ∧ Cond.initialized RX5 ∈ TW_ := ⟨(tw_mem (List.mem_of_getElem? (i := 142) (by decide +kernel)) (by decide +kernel)), (tw_mem (List.mem_of_getElem? (i := 81) (by decide +kernel)) (by decide +kernel))⟩
theorem cfw_6 : ∀ w ∈ u_ws RX6 TX6 3, w ∈ TW_ := fun w hw => tw_mem ((by decide +kernel : ∀ w ∈ u_ws RX6 TX6 3, w ∈ lw_tbl) w hw) ((by decide +kernel : ∀ w ∈ u_ws RX6 TX6 3, goodWord w = true) w hw)
theorem cf_6 : CF_ 6 RX6 TX6 3 := ⟨rfl, cfw_6, nmX6, tyX6, tyX6_ok, by decide +kernel⟩
theorem in_6 : Cond.instantiable RX6 3 ∈ TW_ ∧ Cond.initialized RX6 ∈ TW_ := ⟨(tw_mem (List.mem_of_getElem? (i := 111) (by decide +kernel)) (by decide +kernel)), (tw_mem (List.mem_of_getElem? (i := 79) (by decide +kernel)) (by decide +kernel))⟩
theorem cfw_7 : ∀ w ∈ u_ws RX7 TX7 5, w ∈ TW_ := fun w hw => tw_mem ((by decide +kernel : ∀ w ∈ u_ws RX7 TX7 5, w ∈ lw_tbl) w hw) ((by decide +kernel : ∀ w ∈ u_ws RX7 TX7 5, goodWord w = true) w hw)
theorem cf_7 : CF_ 7 RX7 TX7 5 := ⟨rfl, cfw_7, nmX7, tyX7, tyX7_ok, by decide +kernel⟩
theorem in_7 : Cond.instantiable RX7 5 ∈ TW_ ∧ Cond.initialized RX7 ∈ TW_ := ⟨(tw_mem (List.mem_of_getElem? (i := 264) (by decide +kernel)) (by decide +kernel)), (tw_mem (List.mem_of_getElem? (i := 83) (by decide +kernel)) (by decide +kernel))⟩
theorem cfw_8 : ∀ w ∈ u_ws RX8 TX8 17, w ∈ TW_ := fun w hw => tw_mem ((by decide +kernel : ∀ w ∈ u_ws RX8 TX8 17, w ∈ lw_tbl) w hw) ((by decide +kernel : ∀ w ∈ u_ws RX8 TX8 17, goodWord w = true) w hw)
theorem cf_8 : CF_ 8 RX8 TX8 17 := ⟨rfl, cfw_8, nmX8, tyX8, tyX8_ok, by decide +kernel⟩
theorem in_8 : Cond.instantiable RX8 17 ∈ TW_ ∧ Cond.initialized RX8 ∈ TW_ := ⟨(tw_mem (List.mem_of_getElem? (i := 99) (by decide +kernel)) (by decide +kernel)), (tw_mem (List.mem_of_getElem? (i := 78) (by decide +kernel)) (by decide +kernel))⟩
theorem cfw_9 : ∀ w ∈ u_ws RX9 TX9 5, w ∈ TW_ := fun w hw => tw_mem ((by decide +kernel : ∀ w ∈ u_ws RX9 TX9 5, w ∈ lw_tbl) w hw) ((by decide +kernel : ∀ w ∈ u_ws RX9 TX9 5, goodWord w = true) w hw)
theorem cf_9 : CF_ 9 RX9 TX9 5 := ⟨rfl, cfw_9, nmX9, tyX9, tyX9_ok, by decide +kernel⟩
theorem in_9 : Cond.instantiable RX9 5 ∈ TW_ ∧ Cond.initialized RX9 ∈ TW_ := ⟨(tw_mem (List.mem_of_getElem? (i := 91) (by decide +kernel)) (by decide +kernel)), (tw_mem (List.mem_of_getElem? (i := 77) (by decide +kernel)) (by decide +kernel))⟩
theorem cfw_10 : ∀ w ∈ u_ws RX10 TX10 22, w ∈ TW_ := fun w hw => tw_mem ((by decide +kernel : ∀ w ∈ u_ws RX10 TX10 22, w ∈ lw_tbl) w hw) ((by decide +kernel : ∀ w ∈ u_ws RX10 TX10 22, goodWord w = true) w hw)
theorem cf_10 : CF_ 10 RX10 TX10 22 := ⟨rfl, cfw_10, nmX10, tyX10, tyX10_ok, by decide +kernel⟩
theorem in_10 : Cond.instantiable RX10 22 ∈ TW_ ∧ Cond.initialized RX10 ∈ TW_ := ⟨(tw_mem (List.mem_of_getElem? (i := 993) (by decide +kernel)) (by decide +kernel)), (tw_mem (List.mem_of_getElem? (i := 84) (by decide +kernel)) (by decide +kernel))⟩
theorem fg_0_16 : FG_ RX0 16 0 2 := ⟨RX0, TX0, 5, cf_0, by decide, (Or.inl (tw_mem (List.mem_of_getElem? (i := 321) (by decide +kernel)) (by decide +kernel)))⟩
theorem fg_0_19 : FG_ RX0 19 0 3 := ⟨RX0, TX0, 5, cf_0, by decide, (Or.inl (tw_mem (List.mem_of_getElem? (i := 322) (by decide +kernel)) (by decide +kernel)))⟩
theorem fg_0_22 : FG_ RX0 22 0 4 := ⟨RX0, TX0, 5, cf_0, by decide, (Or.inl (tw_mem (List.mem_of_getElem? (i := 323) (by decide +kernel)) (by decide +kernel)))⟩
theorem fg_1_9 : FG_ RX1 9 1 2 := ⟨RX1, TX1, 7, cf_1, by decide, (Or.inl (tw_mem (List.mem_of_getElem? (i := 556) (by decide +kernel)) (by decide +kernel)))⟩
theorem fg_1_15 : FG_ RX1 15 1 3 := ⟨RX1, TX1, 7, cf_1, by decide, (Or.inl (tw_mem (List.mem_of_getElem? (i := 559) (by decide +kernel)) (by decide +kernel)))⟩
theorem fg_1_18 : FG_ RX1 18 1 4 := ⟨RX1, TX1, 7, cf_1, by decide, (Or.inl (tw_mem (List.mem_of_getElem? (i := 562) (by decide +kernel)) (by decide +kernel)))⟩
theorem fg_1_21 : FG_ RX1 21 1 5 := ⟨RX1, TX1, 7, cf_1, by decide, (Or.inl (tw_mem (List.mem_of_getElem? (i := 565) (by decide +kernel)) (by decide +kernel)))⟩
theorem fg_1_24 : FG_ RX1 24 1 6 := ⟨RX1, TX1, 7, cf_1, by decide, (Or.inl (tw_mem (List.mem_of_getElem? (i := 566) (by decide +kernel)) (by decide +kernel)))⟩
theorem fg_1_30 : FG_ RX1 30 1 1 := ⟨RX1, TX1, 7, cf_1, by decide, (Or.inl (tw_mem (List.mem_of_getElem? (i := 553) (by decide +kernel)) (by decide +kernel)))⟩
theorem fg_2_11 : FG_ RX2 11 2 0 := ⟨RX2, TX2, 2, cf_2, by decide, (Or.inl (tw_mem (List.mem_of_getElem? (i := 134) (by decide +kernel)) (by decide +kernel)))⟩
theorem fg_2_15 : FG_ RX2 15 2 1 := ⟨RX2, TX2, 2, cf_2, by decide, (Or.inl (tw_mem (List.mem_of_getElem? (i := 135) (by decide +kernel)) (by decide +kernel)))⟩
theorem fg_3_9 : FG_ RX3 9 3 0 := ⟨RX3, TX3, 3, cf_3, by decide, (Or.inl (tw_mem (List.mem_of_getElem? (i := 250) (by decide +kernel)) (by decide +kernel)))⟩
theorem fg_3_15 : FG_ RX3 15 3 1 := ⟨RX3, TX3, 3, cf_3, by decide, (Or.inl (tw_mem (List.mem_of_getElem? (i := 251) (by decide +kernel)) (by decide +kernel)))⟩
theorem fg_4_9 : FG_ RX4 9 4 0 := ⟨RX4, TX4, 13, cf_4, by decide, (Or.inl (tw_mem (List.mem_of_getElem? (i := 490) (by decide +kernel)) (by decide +kernel)))⟩
theorem fg_4_19 : FG_ RX4 19 4 2 := ⟨RX4, TX4, 13, cf_4, by decide, (Or.inl (tw_mem (List.mem_of_getElem? (i := 494) (by decide +kernel)) (by decide +kernel)))⟩
theorem fg_4_35 : FG_ RX4 35 4 3 := ⟨RX4, TX4, 13, cf_4, by decide, (Or.inl (tw_mem (List.mem_of_getElem? (i := 496) (by decide +kernel)) (by decide +kernel)))⟩
theorem fg_4_38 : FG_ RX4 38 4 4 := ⟨RX4, TX4, 13, cf_4, by decide, (Or.inl (tw_mem (List.mem_of_getElem? (i := 498) (by decide +kernel)) (by decide +kernel)))⟩
theorem fg_4_41 : FG_ RX4 41 0 1 := ⟨RX0, TX0, 5, cf_0, by decide, (Or.inl (tw_mem (List.mem_of_getElem? (i := 318) (by decide +kernel)) (by decide +kernel)))⟩
theorem fg_4_46 : FG_ RX4 46 4 5 := ⟨RX4, TX4, 13, cf_4, by decide, (Or.inl (tw_mem (List.mem_of_getElem? (i := 500) (by decide +kernel)) (by decide +kernel)))⟩
theorem fg_4_49 : FG_ RX4 49 4 6 := ⟨RX4, TX4, 13, cf_4, by decide, (Or.inl (tw_mem (List.mem_of_getElem? (i := 502) (by decide +kernel)) (by decide +kernel)))⟩
theorem fg_4_55 : FG_ RX4 55 4 8 := ⟨RX4, TX4, 13, cf_4, by decide, (Or.inl (tw_mem (List.mem_of_getElem? (i := 507) (by decide +kernel)) (by decide +kernel)))⟩
theorem fg_4_59 : FG_ RX4 59 4 9 := ⟨RX4, TX4, 13, cf_4, by decide, (Or.inl (tw_mem (List.mem_of_getElem? (i := 508) (by decide +kernel)) (by decide +kernel)))⟩
theorem fg_4_62 : FG_ RX4 62 4 10 := ⟨RX4, TX4, 13, cf_4, by decide, (Or.inl (tw_mem (List.mem_of_getElem? (i := 510) (by decide +kernel)) (by decide +kernel)))⟩
theorem fg_4_65 : FG_ RX4 65 4 11 := ⟨RX4, TX4, 13, cf_4, by decide, (Or.inl (tw_mem (List.mem_of_getElem? (i := 512) (by decide +kernel)) (by decide +kernel)))⟩
theorem fg_4_68 : FG_ RX4 68 4 12 := ⟨RX4, TX4, 13, cf_4, by decide, (Or.inl (tw_mem (List.mem_of_getElem? (i := 514) (by decide +kernel)) (by decide +kernel)))⟩
theorem fg_5_9 : FG_ RX5 9 5 0 := ⟨RX5, TX5, 8, cf_5, by decide, (Or.inl (tw_mem (List.mem_of_getElem? (i := 147) (by decide +kernel)) (by decide +kernel)))⟩
theorem fg_5_15 : FG_ RX5 15 5 1 := ⟨RX5, TX5, 8, cf_5, by decide, (Or.inl (tw_mem (List.mem_of_getElem? (i := 148) (by decide +kernel)) (by decide +kernel)))⟩
theorem fg_5_18 : FG_ RX5 18 5 2 := ⟨RX5, TX5, 8, cf_5, by decide, (Or.inl (tw_mem (List.mem_of_getElem? (i := 149) (by decide +kernel)) (by decide +kernel)))⟩
theorem fg_5_22 : FG_ RX5 22 5 3 := ⟨RX5, TX5, 8, cf_5, by decide, (Or.inl (tw_mem (List.mem_of_getElem? (i := 151) (by decide +kernel)) (by decide +kernel)))⟩
theorem fg_5_26 : FG_ RX5 26 5 4 := ⟨RX5, TX5, 8, cf_5, by decide, (Or.inl (tw_mem (List.mem_of_getElem? (i := 152) (by decide +kernel)) (by decide +kernel)))⟩
theorem fg_5_29 : FG_ RX5 29 5 5 := ⟨RX5, TX5, 8, cf_5, by decide, (Or.inl (tw_mem (List.mem_of_getElem? (i := 155) (by decide +kernel)) (by decide +kernel)))⟩
theorem fg_5_32 : FG_ RX5 32 5 6 := ⟨RX5, TX5, 8, cf_5, by decide, (Or.inl (tw_mem (List.mem_of_getElem? (i := 158) (by decide +kernel)) (by decide +kernel)))⟩
theorem fg_5_35 : FG_ RX5 35 5 7 := ⟨RX5, TX5, 8, cf_5, by decide, (Or.inl (tw_mem (List.mem_of_getElem? (i := 161) (by decide +kernel)) (by decide +kernel)))⟩
theorem fg_6_9 : FG_ RX6 9 6 0 := ⟨RX6, TX6, 3, cf_6, by decide, (Or.inl (tw_mem (List.mem_of_getElem? (i := 116) (by decide +kernel)) (by decide +kernel)))⟩
theorem fg_6_15 : FG_ RX6 15 6 1 := ⟨RX6, TX6, 3, cf_6, by decide, (Or.inl (tw_mem (List.mem_of_getElem? (i := 117) (by decide +kernel)) (by decide +kernel)))⟩
theorem fg_6_19 : FG_ RX6 19 6 2 := ⟨RX6, TX6, 3, cf_6, by decide, (Or.inl (tw_mem (List.mem_of_getElem? (i := 119) (by decide +kernel)) (by decide +kernel)))⟩
theorem fg_6_35 : FG_ RX6 35 3 2 := ⟨RX3, TX3, 3, cf_3, by decide, (Or.inr ⟨"PrintSpooler", (List.mem_of_getElem? (i := 178) (by decide +kernel))⟩)⟩
theorem fg_7_9 : FG_ RX7 9 7 0 := ⟨RX7, TX7, 5, cf_7, by decide, (Or.inl (tw_mem (List.mem_of_getElem? (i := 269) (by decide +kernel)) (by decide +kernel)))⟩
theorem fg_7_15 : FG_ RX7 15 7 1 := ⟨RX7, TX7, 5, cf_7, by decide, (Or.inl (tw_mem (List.mem_of_getElem? (i := 270) (by decide +kernel)) (by decide +kernel)))⟩
theorem fg_7_18 : FG_ RX7 18 7 2 := ⟨RX7, TX7, 5, cf_7, by decide, (Or.inl (tw_mem (List.mem_of_getElem? (i := 271) (by decide +kernel)) (by decide +kernel)))⟩
theorem fg_7_21 : FG_ RX7 21 7 3 := ⟨RX7, TX7, 5, cf_7, by decide, (Or.inl (tw_mem (List.mem_of_getElem? (i := 272) (by decide +kernel)) (by decide +kernel)))⟩
theorem fg_7_24 : FG_ RX7 24 7 4 := ⟨RX7, TX7, 5, cf_7, by decide, (Or.inl (tw_mem (List.mem_of_getElem? (i := 273) (by decide +kernel)) (by decide +kernel)))⟩
theorem fg_8_11 : FG_ RX8 11 8 0 := ⟨RX8, TX8, 17, cf_8, by decide, (Or.inl (tw_mem (List.mem_of_getElem? (i := 181) (by decide +kernel)) (by decide +kernel)))⟩
theorem fg_8_17 : FG_ RX8 17 8 1 := ⟨RX8, TX8, 17, cf_8, by decide, (Or.inl (tw_mem (List.mem_of_getElem? (i := 182) (by decide +kernel)) (by decide +kernel)))⟩
theorem fg_8_23 : FG_ RX8 23 8 2 := ⟨RX8, TX8, 17, cf_8, by decide, (Or.inl (tw_mem (List.mem_of_getElem? (i := 184) (by decide +kernel)) (by decide +kernel)))⟩
theorem fg_8_27 : FG_ RX8 27 8 3 := ⟨RX8, TX8, 17, cf_8, by decide, (Or.inl (tw_mem (List.mem_of_getElem? (i := 185) (by decide +kernel)) (by decide +kernel)))⟩
theorem fg_8_32 : FG_ RX8 32 8 4 := ⟨RX8, TX8, 17, cf_8, by decide, (Or.inl (tw_mem (List.mem_of_getElem? (i := 187) (by decide +kernel)) (by decide +kernel)))⟩
theorem fg_8_36 : FG_ RX8 36 8 5 := ⟨RX8, TX8, 17, cf_8, by decide, (Or.inl (tw_mem (List.mem_of_getElem? (i := 188) (by decide +kernel)) (by decide +kernel)))⟩
theorem fg_8_42 : FG_ RX8 42 8 6 := ⟨RX8, TX8, 17, cf_8, by decide, (Or.inl (tw_mem (List.mem_of_getElem? (i := 190) (by decide +kernel)) (by decide +kernel)))⟩
theorem fg_8_46 : FG_ RX8 46 8 7 := ⟨RX8, TX8, 17, cf_8, by decide, (Or.inl (tw_mem (List.mem_of_getElem? (i := 192) (by decide +kernel)) (by decide +kernel)))⟩
theorem fg_8_50 : FG_ RX8 50 8 8 := ⟨RX8, TX8, 17, cf_8, by decide, (Or.inl (tw_mem (List.mem_of_getElem? (i := 193) (by decide +kernel)) (by decide +kernel)))⟩
theorem fg_8_53 : FG_ RX8 53 8 9 := ⟨RX8, TX8, 17, cf_8, by decide, (Or.inl (tw_mem (List.mem_of_getElem? (i := 194) (by decide +kernel)) (by decide +kernel)))⟩
theorem fg_8_59 : FG_ RX8 59 8 10 := ⟨RX8, TX8, 17, cf_8, by decide, (Or.inl (tw_mem (List.mem_of_getElem? (i := 195) (by decide +kernel)) (by decide +kernel)))⟩
theorem fg_8_63 : FG_ RX8 63 8 11 := ⟨RX8, TX8, 17, cf_8, by decide, (Or.inl (tw_mem (List.mem_of_getElem? (i := 197) (by decide +kernel)) (by decide +kernel)))⟩
theorem fg_8_66 : FG_ RX8 66 8 12 := ⟨RX8, TX8, 17, cf_8, by decide, (Or.inl (tw_mem (List.mem_of_getElem? (i := 198) (by decide +kernel)) (by decide +kernel)))⟩
theorem fg_8_69 : FG_ RX8 69 8 13 := ⟨RX8, TX8, 17, cf_8, by decide, (Or.inl (tw_mem (List.mem_of_getElem? (i := 200) (by decide +kernel)) (by decide +kernel)))⟩
theorem fg_8_72 : FG_ RX8 72 8 14 := ⟨RX8, TX8, 17, cf_8, by decide, (Or.inl (tw_mem (List.mem_of_getElem? (i := 202) (by decide +kernel)) (by decide +kernel)))⟩
theorem fg_8_75 : FG_ RX8 75 8 15 := ⟨RX8, TX8, 17, cf_8, by decide, (Or.inl (tw_mem (List.mem_of_getElem? (i := 204) (by decide +kernel)) (by decide +kernel)))⟩
theorem fg_8_101 : FG_ RX8 101 1 3 := ⟨RX1, TX1, 7, cf_1, by decide, (Or.inr ⟨"PrintSpooler", (List.mem_of_getElem? (i := 485) (by decide +kernel))⟩)⟩
theorem fg_8_104 : FG_ RX8 104 5 5 := ⟨RX5, TX5, 8, cf_5, by decide, (Or.inr ⟨"PrintSpooler", (List.mem_of_getElem? (i := 80) (by decide +kernel))⟩)⟩
theorem fg_8_111 : FG_ RX8 111 5 7 := ⟨RX5, TX5, 8, cf_5, by decide, (Or.inr ⟨"PrintSpooler", (List.mem_of_getElem? (i := 86) (by decide +kernel))⟩)⟩
theorem fg_8_124 : FG_ RX8 124 5 4 := ⟨RX5, TX5, 8, cf_5, by decide, (Or.inr ⟨"PrintSpooler", (List.mem_of_getElem? (i := 78) (by decide +kernel))⟩)⟩
theorem fg_8_125 : FG_ RX8 125 5 6 := ⟨RX5, TX5, 8, cf_5, by decide, (Or.inr ⟨"PrintSpooler", (List.mem_of_getElem? (i := 83) (by decide +kernel))⟩)⟩
theorem fg_8_146 : FG_ RX8 146 1 0 := ⟨RX1, TX1, 7, cf_1, by decide, (Or.inl (tw_mem (List.mem_of_getElem? (i := 552) (by decide +kernel)) (by decide +kernel)))⟩
theorem fg_8_149 : FG_ RX8 149 1 4 := ⟨RX1, TX1, 7, cf_1, by decide, (Or.inr ⟨"PrintSpooler", (List.mem_of_getElem? (i := 488) (by decide +kernel))⟩)⟩
theorem fg_8_156 : FG_ RX8 156 1 1 := ⟨RX1, TX1, 7, cf_1, by decide, (Or.inr ⟨"PrintSpooler", (List.mem_of_getElem? (i := 479) (by decide +kernel))⟩)⟩
theorem fg_8_160 : FG_ RX8 160 4 7 := ⟨RX4, TX4, 13, cf_4, by decide, (Or.inl (tw_mem (List.mem_of_getElem? (i := 506) (by decide +kernel)) (by decide +kernel)))⟩
theorem fg_8_176 : FG_ RX8 176 1 6 := ⟨RX1, TX1, 7, cf_1, by decide, (Or.inr ⟨"PrintSpooler", (List.mem_of_getElem? (i := 491) (by decide +kernel))⟩)⟩
theorem fg_8_190 : FG_ RX8 190 1 2 := ⟨RX1, TX1, 7, cf_1, by decide, (Or.inr ⟨"PrintSpooler", (List.mem_of_getElem? (i := 482) (by decide +kernel))⟩)⟩
theorem fg_8_193 : FG_ RX8 193 4 0 := ⟨RX4, TX4, 13, cf_4, by decide, (Or.inl (tw_mem (List.mem_of_getElem? (i := 491) (by decide +kernel)) (by decide +kernel)))⟩
theorem fg_8_197 : FG_ RX8 197 0 1 := ⟨RX0, TX0, 5, cf_0, by decide, (Or.inl (tw_mem (List.mem_of_getElem? (i := 320) (by decide +kernel)) (by decide +kernel)))⟩
theorem fg_8_220 : FG_ RX8 220 5 2 := ⟨RX5, TX5, 8, cf_5, by decide, (Or.inr ⟨"PrintSpooler", (List.mem_of_getElem? (i := 74) (by decide +kernel))⟩)⟩
theorem fg_8_223 : FG_ RX8 223 4 9 := ⟨RX4, TX4, 13, cf_4, by decide, (Or.inl (tw_mem (List.mem_of_getElem? (i := 509) (by decide +kernel)) (by decide +kernel)))⟩
theorem fg_9_10 : FG_ RX9 10 9 0 := ⟨RX9, TX9, 5, cf_9, by decide, (Or.inl (tw_mem (List.mem_of_getElem? (i := 286) (by decide +kernel)) (by decide +kernel)))⟩
theorem fg_9_16 : FG_ RX9 16 9 1 := ⟨RX9, TX9, 5, cf_9, by decide, (Or.inl (tw_mem (List.mem_of_getElem? (i := 287) (by decide +kernel)) (by decide +kernel)))⟩
theorem fg_9_19 : FG_ RX9 19 9 2 := ⟨RX9, TX9, 5, cf_9, by decide, (Or.inl (tw_mem (List.mem_of_getElem? (i := 288) (by decide +kernel)) (by decide +kernel)))⟩
theorem fg_9_26 : FG_ RX9 26 9 3 := ⟨RX9, TX9, 5, cf_9, by decide, (Or.inl (tw_mem (List.mem_of_getElem? (i := 289) (by decide +kernel)) (by decide +kernel)))⟩
theorem fg_9_33 : FG_ RX9 33 9 4 := ⟨RX9, TX9, 5, cf_9, by decide, (Or.inl (tw_mem (List.mem_of_getElem? (i := 290) (by decide +kernel)) (by decide +kernel)))⟩
theorem fg_9_41 : FG_ RX9 41 8 1 := ⟨RX8, TX8, 17, cf_8, by decide, (Or.inr ⟨"PrintSpooler", (List.mem_of_getElem? (i := 107) (by decide +kernel))⟩)⟩
theorem fg_9_58 : FG_ RX9 58 0 0 := ⟨RX0, TX0, 5, cf_0, by decide, (Or.inl (tw_mem (List.mem_of_getElem? (i := 316) (by decide +kernel)) (by decide +kernel)))⟩
theorem fg_9_65 : FG_ RX9 65 8 6 := ⟨RX8, TX8, 17, cf_8, by decide, (Or.inr ⟨"PrintSpooler", (List.mem_of_getElem? (i := 115) (by decide +kernel))⟩)⟩
theorem fg_9_75 : FG_ RX9 75 6 1 := ⟨RX6, TX6, 3, cf_6, by decide, (Or.inr ⟨"PrintSpooler", (List.mem_of_getElem? (i := 42) (by decide +kernel))⟩)⟩
theorem fg_9_85 : FG_ RX9 85 3 1 := ⟨RX3, TX3, 3, cf_3, by decide, (Or.inr ⟨"PrintSpooler", (List.mem_of_getElem? (i := 176) (by decide +kernel))⟩)⟩
theorem fg_9_105 : FG_ RX9 105 8 3 := ⟨RX8, TX8, 17, cf_8, by decide, (Or.inr ⟨"PrintSpooler", (List.mem_of_getElem? (i := 110) (by decide +kernel))⟩)⟩
theorem fg_9_108 : FG_ RX9 108 0 1 := ⟨RX0, TX0, 5, cf_0, by decide, (Or.inl (tw_mem (List.mem_of_getElem? (i := 319) (by decide +kernel)) (by decide +kernel)))⟩
theorem fg_9_126 : FG_ RX9 126 1 1 := ⟨RX1, TX1, 7, cf_1, by decide, (Or.inr ⟨"PrintSpooler", (List.mem_of_getElem? (i := 478) (by decide +kernel))⟩)⟩
theorem fg_9_132 : FG_ RX9 132 4 3 := ⟨RX4, TX4, 13, cf_4, by decide, (Or.inl (tw_mem (List.mem_of_getElem? (i := 497) (by decide +kernel)) (by decide +kernel)))⟩
theorem fg_9_135 : FG_ RX9 135 4 4 := ⟨RX4, TX4, 13, cf_4, by decide, (Or.inl (tw_mem (List.mem_of_getElem? (i := 499) (by decide +kernel)) (by decide +kernel)))⟩
theorem fg_9_138 : FG_ RX9 138 4 5 := ⟨RX4, TX4, 13, cf_4, by decide, (Or.inl (tw_mem (List.mem_of_getElem? (i := 501) (by decide +kernel)) (by decide +kernel)))⟩
theorem fg_9_141 : FG_ RX9 141 4 6 := ⟨RX4, TX4, 13, cf_4, by decide, (Or.inl (tw_mem (List.mem_of_getElem? (i := 503) (by decide +kernel)) (by decide +kernel)))⟩
theorem fg_9_144 : FG_ RX9 144 1 2 := ⟨RX1, TX1, 7, cf_1, by decide, (Or.inr ⟨"PrintSpooler", (List.mem_of_getElem? (i := 481) (by decide +kernel))⟩)⟩
theorem fg_9_147 : FG_ RX9 147 4 7 := ⟨RX4, TX4, 13, cf_4, by decide, (Or.inl (tw_mem (List.mem_of_getElem? (i := 505) (by decide +kernel)) (by decide +kernel)))⟩
theorem fg_9_150 : FG_ RX9 150 4 1 := ⟨RX4, TX4, 13, cf_4, by decide, (Or.inl (tw_mem (List.mem_of_getElem? (i := 493) (by decide +kernel)) (by decide +kernel)))⟩
theorem fg_9_153 : FG_ RX9 153 4 2 := ⟨RX4, TX4, 13, cf_4, by decide, (Or.inl (tw_mem (List.mem_of_getElem? (i := 495) (by decide +kernel)) (by decide +kernel)))⟩
theorem fg_9_159 : FG_ RX9 159 1 3 := ⟨RX1, TX1, 7, cf_1, by decide, (Or.inr ⟨"PrintSpooler", (List.mem_of_getElem? (i := 484) (by decide +kernel))⟩)⟩
theorem fg_9_162 : FG_ RX9 162 1 4 := ⟨RX1, TX1, 7, cf_1, by decide, (Or.inr ⟨"PrintSpooler", (List.mem_of_getElem? (i := 487) (by decide +kernel))⟩)⟩
theorem fg_9_165 : FG_ RX9 165 8 15 := ⟨RX8, TX8, 17, cf_8, by decide, (Or.inr ⟨"PrintSpooler", (List.mem_of_getElem? (i := 129) (by decide +kernel))⟩)⟩
theorem fg_9_168 : FG_ RX9 168 8 13 := ⟨RX8, TX8, 17, cf_8, by decide, (Or.inr ⟨"PrintSpooler", (List.mem_of_getElem? (i := 125) (by decide +kernel))⟩)⟩
theorem fg_9_181 : FG_ RX9 181 4 10 := ⟨RX4, TX4, 13, cf_4, by decide, (Or.inl (tw_mem (List.mem_of_getElem? (i := 511) (by decide +kernel)) (by decide +kernel)))⟩
theorem fg_9_205 : FG_ RX9 205 7 4 := ⟨RX7, TX7, 5, cf_7, by decide, (Or.inr ⟨"PrintSpooler", (List.mem_of_getElem? (i := 198) (by decide +kernel))⟩)⟩
theorem fg_9_229 : FG_ RX9 229 5 4 := ⟨RX5, TX5, 8, cf_5, by decide, (Or.inr ⟨"PrintSpooler", (List.mem_of_getElem? (i := 77) (by decide +kernel))⟩)⟩
theorem fg_9_230 : FG_ RX9 230 5 5 := ⟨RX5, TX5, 8, cf_5, by decide, (Or.inr ⟨"PrintSpooler", (List.mem_of_getElem? (i := 81) (by decide +kernel))⟩)⟩
theorem fg_9_233 : FG_ RX9 233 5 6 := ⟨RX5, TX5, 8, cf_5, by decide, (Or.inr ⟨"PrintSpooler", (List.mem_of_getElem? (i := 84) (by decide +kernel))⟩)⟩
theorem fg_9_236 : FG_ RX9 236 5 7 := ⟨RX5, TX5, 8, cf_5, by decide, (Or.inr ⟨"PrintSpooler", (List.mem_of_getElem? (i := 87) (by decide +kernel))⟩)⟩
theorem fg_9_248 : FG_ RX9 248 4 11 := ⟨RX4, TX4, 13, cf_4, by decide, (Or.inl (tw_mem (List.mem_of_getElem? (i := 513) (by decide +kernel)) (by decide +kernel)))⟩
theorem fg_9_273 : FG_ RX9 273 1 6 := ⟨RX1, TX1, 7, cf_1, by decide, (Or.inr ⟨"PrintSpooler", (List.mem_of_getElem? (i := 492) (by decide +kernel))⟩)⟩
theorem fg_9_283 : FG_ RX9 283 8 10 := ⟨RX8, TX8, 17, cf_8, by decide, (Or.inr ⟨"PrintSpooler", (List.mem_of_getElem? (i := 120) (by decide +kernel))⟩)⟩
theorem fg_9_303 : FG_ RX9 303 8 12 := ⟨RX8, TX8, 17, cf_8, by decide, (Or.inr ⟨"PrintSpooler", (List.mem_of_getElem? (i := 123) (by decide +kernel))⟩)⟩
theorem fg_9_309 : FG_ RX9 309 8 5 := ⟨RX8, TX8, 17, cf_8, by decide, (Or.inr ⟨"PrintSpooler", (List.mem_of_getElem? (i := 113) (by decide +kernel))⟩)⟩
theorem fg_9_312 : FG_ RX9 312 2 1 := ⟨RX2, TX2, 2, cf_2, by decide, (Or.inr ⟨"PrintSpooler", (List.mem_of_getElem? (i := 60) (by decide +kernel))⟩)⟩
theorem fg_9_322 : FG_ RX9 322 8 16 := ⟨RX8, TX8, 17, cf_8, by decide, (Or.inr ⟨"PrintSpooler", (List.mem_of_getElem? (i := 131) (by decide +kernel))⟩)⟩
theorem fg_9_330 : FG_ RX9 330 3 2 := ⟨RX3, TX3, 3, cf_3, by decide, (Or.inr ⟨"PrintSpooler", (List.mem_of_getElem? (i := 179) (by decide +kernel))⟩)⟩
theorem fg_10_7 : FG_ RX10 7 10 0 := ⟨RX10, TX10, 22, cf_10, by decide, (Or.inl (tw_mem (List.mem_of_getElem? (i := 998) (by decide +kernel)) (by decide +kernel)))⟩
theorem fg_10_13 : FG_ RX10 13 10 1 := ⟨RX10, TX10, 22, cf_10, by decide, (Or.inl (tw_mem (List.mem_of_getElem? (i := 999) (by decide +kernel)) (by decide +kernel)))⟩
theorem fg_10_16 : FG_ RX10 16 10 2 := ⟨RX10, TX10, 22, cf_10, by decide, (Or.inl (tw_mem (List.mem_of_getElem? (i := 1000) (by decide +kernel)) (by decide +kernel)))⟩
theorem fg_10_19 : FG_ RX10 19 10 3 := ⟨RX10, TX10, 22, cf_10, by decide, (Or.inl (tw_mem (List.mem_of_getElem? (i := 1001) (by decide +kernel)) (by decide +kernel)))⟩
theorem fg_10_22 : FG_ RX10 22 10 4 := ⟨RX10, TX10, 22, cf_10, by decide, (Or.inl (tw_mem (List.mem_of_getElem? (i := 1002) (by decide +kernel)) (by decide +kernel)))⟩
theorem fg_10_25 : FG_ RX10 25 10 5 := ⟨RX10, TX10, 22, cf_10, by decide, (Or.inl (tw_mem (List.mem_of_getElem? (i := 1003) (by decide +kernel)) (by decide +kernel)))⟩
theorem fg_10_29 : FG_ RX10 29 10 12 := ⟨RX10, TX10, 22, cf_10, by decide, (Or.inl (tw_mem (List.mem_of_getElem? (i := 1010) (by decide +kernel)) (by decide +kernel)))⟩
theorem fg_10_32 : FG_ RX10 32 10 14 := ⟨RX10, TX10, 22, cf_10, by decide, (Or.inl (tw_mem (List.mem_of_getElem? (i := 1012) (by decide +kernel)) (by decide +kernel)))⟩
theorem fg_10_35 : FG_ RX10 35 10 15 := ⟨RX10, TX10, 22, cf_10, by decide, (Or.inl (tw_mem (List.mem_of_getElem? (i := 1013) (by decide +kernel)) (by decide +kernel)))⟩
theorem fg_10_38 : FG_ RX10 38 10 16 := ⟨RX10, TX10, 22, cf_10, by decide, (Or.inl (tw_mem (List.mem_of_getElem? (i := 1014) (by decide +kernel)) (by decide +kernel)))⟩
theorem fg_10_41 : FG_ RX10 41 10 20 := ⟨RX10, TX10, 22, cf_10, by decide, (Or.inl (tw_mem (List.mem_of_getElem? (i := 1018) (by decide +kernel)) (by decide +kernel)))⟩
theorem fg_10_59 : FG_ RX10 59 10 6 := ⟨RX10, TX10, 22, cf_10, by decide, (Or.inl (tw_mem (List.mem_of_getElem? (i := 1004) (by decide +kernel)) (by decide +kernel)))⟩
theorem fg_10_71 : FG_ RX10 71 10 7 := ⟨RX10, TX10, 22, cf_10, by decide, (Or.inl (tw_mem (List.mem_of_getElem? (i := 1005) (by decide +kernel)) (by decide +kernel)))⟩
theorem fg_10_75 : FG_ RX10 75 10 8 := ⟨RX10, TX10, 22, cf_10, by decide, (Or.inl (tw_mem (List.mem_of_getElem? (i := 1006) (by decide +kernel)) (by decide +kernel)))⟩
theorem fg_10_78 : FG_ RX10 78 10 11 := ⟨RX10, TX10, 22, cf_10, by decide, (Or.inl (tw_mem (List.mem_of_getElem? (i := 1009) (by decide +kernel)) (by decide +kernel)))⟩
theorem fg_10_81 : FG_ RX10 81 10 9 := ⟨RX10, TX10, 22, cf_10, by decide, (Or.inl (tw_mem (List.mem_of_getElem? (i := 1007) (by decide +kernel)) (by decide +kernel)))⟩
theorem fg_10_84 : FG_ RX10 84 10 10 := ⟨RX10, TX10, 22, cf_10, by decide, (Or.inl (tw_mem (List.mem_of_getElem? (i := 1008) (by decide +kernel)) (by decide +kernel)))⟩
theorem fg_10_103 : FG_ RX10 103 10 13 := ⟨RX10, TX10, 22, cf_10, by decide, (Or.inl (tw_mem (List.mem_of_getElem? (i := 1011) (by decide +kernel)) (by decide +kernel)))⟩
theorem fg_10_193 : FG_ RX10 193 10 17 := ⟨RX10, TX10, 22, cf_10, by decide, (Or.inl (tw_mem (List.mem_of_getElem? (i := 1015) (by decide +kernel)) (by decide +kernel)))⟩
theorem fg_10_196 : FG_ RX10 196 10 18 := ⟨RX10, TX10, 22, cf_10, by decide, (Or.inl (tw_mem (List.mem_of_getElem? (i := 1016) (by decide +kernel)) (by decide +kernel)))⟩
theorem fg_10_199 : FG_ RX10 199 10 19 := ⟨RX10, TX10, 22, cf_10, by decide, (Or.inl (tw_mem (List.mem_of_getElem? (i := 1017) (by decide +kernel)) (by decide +kernel)))⟩
theorem fg_10_232 : FG_ RX10 232 10 21 := ⟨RX10, TX10, 22, cf_10, by decide, (Or.inl (tw_mem (List.mem_of_getElem? (i := 1019) (by decide +kernel)) (by decide +kernel)))⟩
theorem fp_0_7 : FF_ RX0 7 0 0 .int := ⟨RX0, TX0, 5, cf_0, by decide, rfl, by decide +kernel, rfl, (tw_mem (List.mem_of_getElem? (i := 315) (by decide +kernel)) (by decide +kernel))⟩
theorem fp_0_13 : FF_ RX0 13 0 1 .int := ⟨RX0, TX0, 5, cf_0, by decide, rfl, by decide +kernel, rfl, (tw_mem (List.mem_of_getElem? (i := 317) (by decide +kernel)) (by decide +kernel))⟩
theorem fp_0_16 : FF_ RX0 16 0 2 .int := ⟨RX0, TX0, 5, cf_0, by decide, rfl, by decide +kernel, rfl, (tw_mem (List.mem_of_getElem? (i := 321) (by decide +kernel)) (by decide +kernel))⟩
theorem fp_0_19 : FF_ RX0 19 0 3 .int := ⟨RX0, TX0, 5, cf_0, by decide, rfl, by decide +kernel, rfl, (tw_mem (List.mem_of_getElem? (i := 322) (by decide +kernel)) (by decide +kernel))⟩
theorem fp_0_22 : FF_ RX0 22 0 4 .int := ⟨RX0, TX0, 5, cf_0, by decide, rfl, by decide +kernel, rfl, (tw_mem (List.mem_of_getElem? (i := 323) (by decide +kernel)) (by decide +kernel))⟩
theorem fp_1_9 : FP_ RX1 9 1 2 .int := ⟨RX1, TX1, 7, cf_1, by decide, rfl, by decide +kernel, (Or.inl (tw_mem (List.mem_of_getElem? (i := 556) (by decide +kernel)) (by decide +kernel)))⟩
theorem fp_1_15 : FP_ RX1 15 1 3 .int := ⟨RX1, TX1, 7, cf_1, by decide, rfl, by decide +kernel, (Or.inl (tw_mem (List.mem_of_getElem? (i := 559) (by decide +kernel)) (by decide +kernel)))⟩
theorem fp_1_18 : FP_ RX1 18 1 4 .int := ⟨RX1, TX1, 7, cf_1, by decide, rfl, by decide +kernel, (Or.inl (tw_mem (List.mem_of_getElem? (i := 562) (by decide +kernel)) (by decide +kernel)))⟩
theorem fp_1_21 : FP_ RX1 21 1 5 .int := ⟨RX1, TX1, 7, cf_1, by decide, rfl, by decide +kernel, (Or.inl (tw_mem (List.mem_of_getElem? (i := 565) (by decide +kernel)) (by decide +kernel)))⟩
theorem fp_1_24 : FP_ RX1 24 1 6 .int := ⟨RX1, TX1, 7, cf_1, by decide, rfl, by decide +kernel, (Or.inl (tw_mem (List.mem_of_getElem? (i := 566) (by decide +kernel)) (by decide +kernel)))⟩
theorem fp_1_27 : FF_ RX1 27 1 0 .int := ⟨RX1, TX1, 7, cf_1, by decide, rfl, by decide +kernel, rfl, (tw_mem (List.mem_of_getElem? (i := 551) (by decide +kernel)) (by decide +kernel))⟩
theorem fp_1_30 : FP_ RX1 30 1 1 (.object "PrintSpooler$Plan") := ⟨RX1, TX1, 7, cf_1, by decide, rfl, by decide +kernel, (Or.inl (tw_mem (List.mem_of_getElem? (i := 553) (by decide +kernel)) (by decide +kernel)))⟩
theorem fp_2_11 : FF_ RX2 11 2 0 (.array .int) := ⟨RX2, TX2, 2, cf_2, by decide, rfl, by decide +kernel, rfl, (tw_mem (List.mem_of_getElem? (i := 134) (by decide +kernel)) (by decide +kernel))⟩
theorem fp_2_15 : FP_ RX2 15 2 1 .int := ⟨RX2, TX2, 2, cf_2, by decide, rfl, by decide +kernel, (Or.inl (tw_mem (List.mem_of_getElem? (i := 135) (by decide +kernel)) (by decide +kernel)))⟩
theorem fp_3_9 : FF_ RX3 9 3 0 (.array .int) := ⟨RX3, TX3, 3, cf_3, by decide, rfl, by decide +kernel, rfl, (tw_mem (List.mem_of_getElem? (i := 250) (by decide +kernel)) (by decide +kernel))⟩
theorem fp_3_15 : FP_ RX3 15 3 1 .int := ⟨RX3, TX3, 3, cf_3, by decide, rfl, by decide +kernel, (Or.inl (tw_mem (List.mem_of_getElem? (i := 251) (by decide +kernel)) (by decide +kernel)))⟩
theorem fp_3_19 : FP_ RX3 19 3 2 .boolean := ⟨RX3, TX3, 3, cf_3, by decide, rfl, by decide +kernel, (Or.inl (tw_mem (List.mem_of_getElem? (i := 253) (by decide +kernel)) (by decide +kernel)))⟩
theorem fp_4_9 : FF_ RX4 9 4 0 (.object "PrintSpooler$Document") := ⟨RX4, TX4, 13, cf_4, by decide, rfl, by decide +kernel, rfl, (tw_mem (List.mem_of_getElem? (i := 490) (by decide +kernel)) (by decide +kernel))⟩
theorem fp_4_15 : FF_ RX4 15 4 1 .int := ⟨RX4, TX4, 13, cf_4, by decide, rfl, by decide +kernel, rfl, (tw_mem (List.mem_of_getElem? (i := 492) (by decide +kernel)) (by decide +kernel))⟩
theorem fp_4_19 : FF_ RX4 19 4 2 (.array .int) := ⟨RX4, TX4, 13, cf_4, by decide, rfl, by decide +kernel, rfl, (tw_mem (List.mem_of_getElem? (i := 494) (by decide +kernel)) (by decide +kernel))⟩
theorem fp_4_35 : FF_ RX4 35 4 3 .int := ⟨RX4, TX4, 13, cf_4, by decide, rfl, by decide +kernel, rfl, (tw_mem (List.mem_of_getElem? (i := 496) (by decide +kernel)) (by decide +kernel))⟩
theorem fp_4_38 : FF_ RX4 38 4 4 .int := ⟨RX4, TX4, 13, cf_4, by decide, rfl, by decide +kernel, rfl, (tw_mem (List.mem_of_getElem? (i := 498) (by decide +kernel)) (by decide +kernel))⟩
theorem fp_4_46 : FF_ RX4 46 4 5 .int := ⟨RX4, TX4, 13, cf_4, by decide, rfl, by decide +kernel, rfl, (tw_mem (List.mem_of_getElem? (i := 500) (by decide +kernel)) (by decide +kernel))⟩
theorem fp_4_49 : FF_ RX4 49 4 6 .int := ⟨RX4, TX4, 13, cf_4, by decide, rfl, by decide +kernel, rfl, (tw_mem (List.mem_of_getElem? (i := 502) (by decide +kernel)) (by decide +kernel))⟩
theorem fp_4_52 : FF_ RX4 52 4 7 .int := ⟨RX4, TX4, 13, cf_4, by decide, rfl, by decide +kernel, rfl, (tw_mem (List.mem_of_getElem? (i := 504) (by decide +kernel)) (by decide +kernel))⟩
theorem fp_4_55 : FF_ RX4 55 4 8 .boolean := ⟨RX4, TX4, 13, cf_4, by decide, rfl, by decide +kernel, rfl, (tw_mem (List.mem_of_getElem? (i := 507) (by decide +kernel)) (by decide +kernel))⟩
theorem fp_4_59 : FF_ RX4 59 4 9 .boolean := ⟨RX4, TX4, 13, cf_4, by decide, rfl, by decide +kernel, rfl, (tw_mem (List.mem_of_getElem? (i := 508) (by decide +kernel)) (by decide +kernel))⟩
theorem fp_4_62 : FF_ RX4 62 4 10 .int := ⟨RX4, TX4, 13, cf_4, by decide, rfl, by decide +kernel, rfl, (tw_mem (List.mem_of_getElem? (i := 510) (by decide +kernel)) (by decide +kernel))⟩
theorem fp_4_65 : FF_ RX4 65 4 11 .int := ⟨RX4, TX4, 13, cf_4, by decide, rfl, by decide +kernel, rfl, (tw_mem (List.mem_of_getElem? (i := 512) (by decide +kernel)) (by decide +kernel))⟩
theorem fp_4_68 : FF_ RX4 68 4 12 (.array .int) := ⟨RX4, TX4, 13, cf_4, by decide, rfl, by decide +kernel, rfl, (tw_mem (List.mem_of_getElem? (i := 514) (by decide +kernel)) (by decide +kernel))⟩
theorem fp_5_9 : FP_ RX5 9 5 0 .int := ⟨RX5, TX5, 8, cf_5, by decide, rfl, by decide +kernel, (Or.inl (tw_mem (List.mem_of_getElem? (i := 147) (by decide +kernel)) (by decide +kernel)))⟩
theorem fp_5_15 : FP_ RX5 15 5 1 .int := ⟨RX5, TX5, 8, cf_5, by decide, rfl, by decide +kernel, (Or.inl (tw_mem (List.mem_of_getElem? (i := 148) (by decide +kernel)) (by decide +kernel)))⟩
theorem fp_5_18 : FP_ RX5 18 5 2 .boolean := ⟨RX5, TX5, 8, cf_5, by decide, rfl, by decide +kernel, (Or.inl (tw_mem (List.mem_of_getElem? (i := 149) (by decide +kernel)) (by decide +kernel)))⟩
theorem fp_5_22 : FF_ RX5 22 5 3 (.array .int) := ⟨RX5, TX5, 8, cf_5, by decide, rfl, by decide +kernel, rfl, (tw_mem (List.mem_of_getElem? (i := 151) (by decide +kernel)) (by decide +kernel))⟩
theorem fp_5_26 : FP_ RX5 26 5 4 .int := ⟨RX5, TX5, 8, cf_5, by decide, rfl, by decide +kernel, (Or.inl (tw_mem (List.mem_of_getElem? (i := 152) (by decide +kernel)) (by decide +kernel)))⟩
theorem fp_5_29 : FP_ RX5 29 5 5 .int := ⟨RX5, TX5, 8, cf_5, by decide, rfl, by decide +kernel, (Or.inl (tw_mem (List.mem_of_getElem? (i := 155) (by decide +kernel)) (by decide +kernel)))⟩
theorem fp_5_32 : FP_ RX5 32 5 6 .int := ⟨RX5, TX5, 8, cf_5, by decide, rfl, by decide +kernel, (Or.inl (tw_mem (List.mem_of_getElem? (i := 158) (by decide +kernel)) (by decide +kernel)))⟩
theorem fp_5_35 : FP_ RX5 35 5 7 .int := ⟨RX5, TX5, 8, cf_5, by decide, rfl, by decide +kernel, (Or.inl (tw_mem (List.mem_of_getElem? (i := 161) (by decide +kernel)) (by decide +kernel)))⟩
theorem fp_6_9 : FF_ RX6 9 6 0 (.array .int) := ⟨RX6, TX6, 3, cf_6, by decide, rfl, by decide +kernel, rfl, (tw_mem (List.mem_of_getElem? (i := 116) (by decide +kernel)) (by decide +kernel))⟩
theorem fp_6_15 : FP_ RX6 15 6 1 .int := ⟨RX6, TX6, 3, cf_6, by decide, rfl, by decide +kernel, (Or.inl (tw_mem (List.mem_of_getElem? (i := 117) (by decide +kernel)) (by decide +kernel)))⟩
theorem fp_6_19 : FP_ RX6 19 6 2 .int := ⟨RX6, TX6, 3, cf_6, by decide, rfl, by decide +kernel, (Or.inl (tw_mem (List.mem_of_getElem? (i := 119) (by decide +kernel)) (by decide +kernel)))⟩
theorem fp_7_9 : FF_ RX7 9 7 0 (.array .int) := ⟨RX7, TX7, 5, cf_7, by decide, rfl, by decide +kernel, rfl, (tw_mem (List.mem_of_getElem? (i := 269) (by decide +kernel)) (by decide +kernel))⟩
theorem fp_7_15 : FF_ RX7 15 7 1 (.array .int) := ⟨RX7, TX7, 5, cf_7, by decide, rfl, by decide +kernel, rfl, (tw_mem (List.mem_of_getElem? (i := 270) (by decide +kernel)) (by decide +kernel))⟩
theorem fp_7_18 : FF_ RX7 18 7 2 (.array .int) := ⟨RX7, TX7, 5, cf_7, by decide, rfl, by decide +kernel, rfl, (tw_mem (List.mem_of_getElem? (i := 271) (by decide +kernel)) (by decide +kernel))⟩
theorem fp_7_21 : FF_ RX7 21 7 3 (.array .int) := ⟨RX7, TX7, 5, cf_7, by decide, rfl, by decide +kernel, rfl, (tw_mem (List.mem_of_getElem? (i := 272) (by decide +kernel)) (by decide +kernel))⟩
theorem fp_7_24 : FP_ RX7 24 7 4 .int := ⟨RX7, TX7, 5, cf_7, by decide, rfl, by decide +kernel, (Or.inl (tw_mem (List.mem_of_getElem? (i := 273) (by decide +kernel)) (by decide +kernel)))⟩
theorem fp_8_11 : FF_ RX8 11 8 0 (.array (.object "PrintSpooler$Document")) := ⟨RX8, TX8, 17, cf_8, by decide, rfl, by decide +kernel, rfl, (tw_mem (List.mem_of_getElem? (i := 181) (by decide +kernel)) (by decide +kernel))⟩
theorem fp_8_17 : FP_ RX8 17 8 1 .int := ⟨RX8, TX8, 17, cf_8, by decide, rfl, by decide +kernel, (Or.inl (tw_mem (List.mem_of_getElem? (i := 182) (by decide +kernel)) (by decide +kernel)))⟩
theorem fp_8_23 : FF_ RX8 23 8 2 (.array (.object "PrintSpooler$Job")) := ⟨RX8, TX8, 17, cf_8, by decide, rfl, by decide +kernel, rfl, (tw_mem (List.mem_of_getElem? (i := 184) (by decide +kernel)) (by decide +kernel))⟩
theorem fp_8_27 : FP_ RX8 27 8 3 .int := ⟨RX8, TX8, 17, cf_8, by decide, rfl, by decide +kernel, (Or.inl (tw_mem (List.mem_of_getElem? (i := 185) (by decide +kernel)) (by decide +kernel)))⟩
theorem fp_8_32 : FF_ RX8 32 8 4 (.array (.object "PrintSpooler$Printer")) := ⟨RX8, TX8, 17, cf_8, by decide, rfl, by decide +kernel, rfl, (tw_mem (List.mem_of_getElem? (i := 187) (by decide +kernel)) (by decide +kernel))⟩
theorem fp_8_36 : FP_ RX8 36 8 5 .int := ⟨RX8, TX8, 17, cf_8, by decide, rfl, by decide +kernel, (Or.inl (tw_mem (List.mem_of_getElem? (i := 188) (by decide +kernel)) (by decide +kernel)))⟩
theorem fp_8_42 : FF_ RX8 42 8 6 (.object "PrintSpooler$RangeText") := ⟨RX8, TX8, 17, cf_8, by decide, rfl, by decide +kernel, rfl, (tw_mem (List.mem_of_getElem? (i := 190) (by decide +kernel)) (by decide +kernel))⟩
theorem fp_8_46 : FF_ RX8 46 8 7 (.array .int) := ⟨RX8, TX8, 17, cf_8, by decide, rfl, by decide +kernel, rfl, (tw_mem (List.mem_of_getElem? (i := 192) (by decide +kernel)) (by decide +kernel))⟩
theorem fp_8_50 : FF_ RX8 50 8 8 (.array .int) := ⟨RX8, TX8, 17, cf_8, by decide, rfl, by decide +kernel, rfl, (tw_mem (List.mem_of_getElem? (i := 193) (by decide +kernel)) (by decide +kernel))⟩
theorem fp_8_53 : FF_ RX8 53 8 9 (.array .int) := ⟨RX8, TX8, 17, cf_8, by decide, rfl, by decide +kernel, rfl, (tw_mem (List.mem_of_getElem? (i := 194) (by decide +kernel)) (by decide +kernel))⟩
theorem fp_8_59 : FF_ RX8 59 8 10 (.object "PrintSpooler$Journal") := ⟨RX8, TX8, 17, cf_8, by decide, rfl, by decide +kernel, rfl, (tw_mem (List.mem_of_getElem? (i := 195) (by decide +kernel)) (by decide +kernel))⟩
theorem fp_8_63 : FF_ RX8 63 8 11 (.array .int) := ⟨RX8, TX8, 17, cf_8, by decide, rfl, by decide +kernel, rfl, (tw_mem (List.mem_of_getElem? (i := 197) (by decide +kernel)) (by decide +kernel))⟩
theorem fp_8_66 : FP_ RX8 66 8 12 .int := ⟨RX8, TX8, 17, cf_8, by decide, rfl, by decide +kernel, (Or.inl (tw_mem (List.mem_of_getElem? (i := 198) (by decide +kernel)) (by decide +kernel)))⟩
theorem fp_8_69 : FP_ RX8 69 8 13 .int := ⟨RX8, TX8, 17, cf_8, by decide, rfl, by decide +kernel, (Or.inl (tw_mem (List.mem_of_getElem? (i := 200) (by decide +kernel)) (by decide +kernel)))⟩
theorem fp_8_72 : FP_ RX8 72 8 14 .int := ⟨RX8, TX8, 17, cf_8, by decide, rfl, by decide +kernel, (Or.inl (tw_mem (List.mem_of_getElem? (i := 202) (by decide +kernel)) (by decide +kernel)))⟩
theorem fp_8_75 : FP_ RX8 75 8 15 .int := ⟨RX8, TX8, 17, cf_8, by decide, rfl, by decide +kernel, (Or.inl (tw_mem (List.mem_of_getElem? (i := 204) (by decide +kernel)) (by decide +kernel)))⟩
theorem fp_8_78 : FP_ RX8 78 8 16 .boolean := ⟨RX8, TX8, 17, cf_8, by decide, rfl, by decide +kernel, (Or.inl (tw_mem (List.mem_of_getElem? (i := 206) (by decide +kernel)) (by decide +kernel)))⟩
theorem fp_8_101 : FP_ RX8 101 1 3 .int := ⟨RX1, TX1, 7, cf_1, by decide, rfl, by decide +kernel, (Or.inr ⟨"PrintSpooler", (List.mem_of_getElem? (i := 485) (by decide +kernel))⟩)⟩
theorem fp_8_104 : FP_ RX8 104 5 5 .int := ⟨RX5, TX5, 8, cf_5, by decide, rfl, by decide +kernel, (Or.inr ⟨"PrintSpooler", (List.mem_of_getElem? (i := 80) (by decide +kernel))⟩)⟩
theorem fp_8_111 : FP_ RX8 111 5 7 .int := ⟨RX5, TX5, 8, cf_5, by decide, rfl, by decide +kernel, (Or.inr ⟨"PrintSpooler", (List.mem_of_getElem? (i := 86) (by decide +kernel))⟩)⟩
theorem fp_8_124 : FP_ RX8 124 5 4 .int := ⟨RX5, TX5, 8, cf_5, by decide, rfl, by decide +kernel, (Or.inr ⟨"PrintSpooler", (List.mem_of_getElem? (i := 78) (by decide +kernel))⟩)⟩
theorem fp_8_125 : FP_ RX8 125 5 6 .int := ⟨RX5, TX5, 8, cf_5, by decide, rfl, by decide +kernel, (Or.inr ⟨"PrintSpooler", (List.mem_of_getElem? (i := 83) (by decide +kernel))⟩)⟩
theorem fp_8_149 : FP_ RX8 149 1 4 .int := ⟨RX1, TX1, 7, cf_1, by decide, rfl, by decide +kernel, (Or.inr ⟨"PrintSpooler", (List.mem_of_getElem? (i := 488) (by decide +kernel))⟩)⟩
theorem fp_8_176 : FP_ RX8 176 1 6 .int := ⟨RX1, TX1, 7, cf_1, by decide, rfl, by decide +kernel, (Or.inr ⟨"PrintSpooler", (List.mem_of_getElem? (i := 491) (by decide +kernel))⟩)⟩
theorem fp_9_10 : FF_ RX9 10 9 0 (.object "PrintSpooler$Spool") := ⟨RX9, TX9, 5, cf_9, by decide, rfl, by decide +kernel, rfl, (tw_mem (List.mem_of_getElem? (i := 286) (by decide +kernel)) (by decide +kernel))⟩
theorem fp_9_16 : FF_ RX9 16 9 1 (.object "PrintSpooler$Spool") := ⟨RX9, TX9, 5, cf_9, by decide, rfl, by decide +kernel, rfl, (tw_mem (List.mem_of_getElem? (i := 287) (by decide +kernel)) (by decide +kernel))⟩
theorem fp_9_19 : FF_ RX9 19 9 2 (.array (.object "PrintSpooler$Spool")) := ⟨RX9, TX9, 5, cf_9, by decide, rfl, by decide +kernel, rfl, (tw_mem (List.mem_of_getElem? (i := 288) (by decide +kernel)) (by decide +kernel))⟩
theorem fp_9_26 : FF_ RX9 26 9 3 (.object "PrintSpooler$PageList") := ⟨RX9, TX9, 5, cf_9, by decide, rfl, by decide +kernel, rfl, (tw_mem (List.mem_of_getElem? (i := 289) (by decide +kernel)) (by decide +kernel))⟩
theorem fp_9_33 : FF_ RX9 33 9 4 (.object "PrintSpooler$ShortestText") := ⟨RX9, TX9, 5, cf_9, by decide, rfl, by decide +kernel, rfl, (tw_mem (List.mem_of_getElem? (i := 290) (by decide +kernel)) (by decide +kernel))⟩
theorem fp_9_75 : FP_ RX9 75 6 1 .int := ⟨RX6, TX6, 3, cf_6, by decide, rfl, by decide +kernel, (Or.inr ⟨"PrintSpooler", (List.mem_of_getElem? (i := 42) (by decide +kernel))⟩)⟩
theorem fp_9_144 : FP_ RX9 144 1 2 .int := ⟨RX1, TX1, 7, cf_1, by decide, rfl, by decide +kernel, (Or.inr ⟨"PrintSpooler", (List.mem_of_getElem? (i := 481) (by decide +kernel))⟩)⟩
theorem fp_9_168 : FP_ RX9 168 8 13 .int := ⟨RX8, TX8, 17, cf_8, by decide, rfl, by decide +kernel, (Or.inr ⟨"PrintSpooler", (List.mem_of_getElem? (i := 125) (by decide +kernel))⟩)⟩
theorem fp_9_229 : FP_ RX9 229 5 4 .int := ⟨RX5, TX5, 8, cf_5, by decide, rfl, by decide +kernel, (Or.inr ⟨"PrintSpooler", (List.mem_of_getElem? (i := 77) (by decide +kernel))⟩)⟩
theorem fp_9_254 : FP_ RX9 254 8 14 .int := ⟨RX8, TX8, 17, cf_8, by decide, rfl, by decide +kernel, (Or.inr ⟨"PrintSpooler", (List.mem_of_getElem? (i := 127) (by decide +kernel))⟩)⟩
theorem fp_9_273 : FP_ RX9 273 1 6 .int := ⟨RX1, TX1, 7, cf_1, by decide, rfl, by decide +kernel, (Or.inr ⟨"PrintSpooler", (List.mem_of_getElem? (i := 492) (by decide +kernel))⟩)⟩
theorem fp_9_322 : FP_ RX9 322 8 16 .boolean := ⟨RX8, TX8, 17, cf_8, by decide, rfl, by decide +kernel, (Or.inr ⟨"PrintSpooler", (List.mem_of_getElem? (i := 131) (by decide +kernel))⟩)⟩
theorem fp_10_7 : FF_ RX10 7 10 0 (.array .int) := ⟨RX10, TX10, 22, cf_10, by decide, rfl, by decide +kernel, rfl, (tw_mem (List.mem_of_getElem? (i := 998) (by decide +kernel)) (by decide +kernel))⟩
theorem fp_10_13 : FF_ RX10 13 10 1 (.array .int) := ⟨RX10, TX10, 22, cf_10, by decide, rfl, by decide +kernel, rfl, (tw_mem (List.mem_of_getElem? (i := 999) (by decide +kernel)) (by decide +kernel))⟩
theorem fp_10_16 : FF_ RX10 16 10 2 (.array .int) := ⟨RX10, TX10, 22, cf_10, by decide, rfl, by decide +kernel, rfl, (tw_mem (List.mem_of_getElem? (i := 1000) (by decide +kernel)) (by decide +kernel))⟩
theorem fp_10_19 : FF_ RX10 19 10 3 (.array .int) := ⟨RX10, TX10, 22, cf_10, by decide, rfl, by decide +kernel, rfl, (tw_mem (List.mem_of_getElem? (i := 1001) (by decide +kernel)) (by decide +kernel))⟩
theorem fp_10_22 : FF_ RX10 22 10 4 (.array .int) := ⟨RX10, TX10, 22, cf_10, by decide, rfl, by decide +kernel, rfl, (tw_mem (List.mem_of_getElem? (i := 1002) (by decide +kernel)) (by decide +kernel))⟩
theorem fp_10_25 : FF_ RX10 25 10 5 (.array .boolean) := ⟨RX10, TX10, 22, cf_10, by decide, rfl, by decide +kernel, rfl, (tw_mem (List.mem_of_getElem? (i := 1003) (by decide +kernel)) (by decide +kernel))⟩
theorem fp_10_29 : FF_ RX10 29 10 12 (.array .int) := ⟨RX10, TX10, 22, cf_10, by decide, rfl, by decide +kernel, rfl, (tw_mem (List.mem_of_getElem? (i := 1010) (by decide +kernel)) (by decide +kernel))⟩
theorem fp_10_32 : FF_ RX10 32 10 14 (.array .int) := ⟨RX10, TX10, 22, cf_10, by decide, rfl, by decide +kernel, rfl, (tw_mem (List.mem_of_getElem? (i := 1012) (by decide +kernel)) (by decide +kernel))⟩
theorem fp_10_35 : FF_ RX10 35 10 15 (.array .int) := ⟨RX10, TX10, 22, cf_10, by decide, rfl, by decide +kernel, rfl, (tw_mem (List.mem_of_getElem? (i := 1013) (by decide +kernel)) (by decide +kernel))⟩
theorem fp_10_38 : FF_ RX10 38 10 16 (.array .int) := ⟨RX10, TX10, 22, cf_10, by decide, rfl, by decide +kernel, rfl, (tw_mem (List.mem_of_getElem? (i := 1014) (by decide +kernel)) (by decide +kernel))⟩
theorem fp_10_41 : FF_ RX10 41 10 20 (.array .int) := ⟨RX10, TX10, 22, cf_10, by decide, rfl, by decide +kernel, rfl, (tw_mem (List.mem_of_getElem? (i := 1018) (by decide +kernel)) (by decide +kernel))⟩
theorem fp_10_59 : FP_ RX10 59 10 6 .int := ⟨RX10, TX10, 22, cf_10, by decide, rfl, by decide +kernel, (Or.inl (tw_mem (List.mem_of_getElem? (i := 1004) (by decide +kernel)) (by decide +kernel)))⟩
theorem fp_10_71 : FP_ RX10 71 10 7 .boolean := ⟨RX10, TX10, 22, cf_10, by decide, rfl, by decide +kernel, (Or.inl (tw_mem (List.mem_of_getElem? (i := 1005) (by decide +kernel)) (by decide +kernel)))⟩
theorem fp_10_75 : FP_ RX10 75 10 8 .boolean := ⟨RX10, TX10, 22, cf_10, by decide, rfl, by decide +kernel, (Or.inl (tw_mem (List.mem_of_getElem? (i := 1006) (by decide +kernel)) (by decide +kernel)))⟩
theorem fp_10_78 : FP_ RX10 78 10 11 .int := ⟨RX10, TX10, 22, cf_10, by decide, rfl, by decide +kernel, (Or.inl (tw_mem (List.mem_of_getElem? (i := 1009) (by decide +kernel)) (by decide +kernel)))⟩
theorem fp_10_81 : FP_ RX10 81 10 9 .int := ⟨RX10, TX10, 22, cf_10, by decide, rfl, by decide +kernel, (Or.inl (tw_mem (List.mem_of_getElem? (i := 1007) (by decide +kernel)) (by decide +kernel)))⟩
theorem fp_10_84 : FP_ RX10 84 10 10 .int := ⟨RX10, TX10, 22, cf_10, by decide, rfl, by decide +kernel, (Or.inl (tw_mem (List.mem_of_getElem? (i := 1008) (by decide +kernel)) (by decide +kernel)))⟩
theorem fp_10_103 : FP_ RX10 103 10 13 .int := ⟨RX10, TX10, 22, cf_10, by decide, rfl, by decide +kernel, (Or.inl (tw_mem (List.mem_of_getElem? (i := 1011) (by decide +kernel)) (by decide +kernel)))⟩
theorem fp_10_193 : FP_ RX10 193 10 17 .int := ⟨RX10, TX10, 22, cf_10, by decide, rfl, by decide +kernel, (Or.inl (tw_mem (List.mem_of_getElem? (i := 1015) (by decide +kernel)) (by decide +kernel)))⟩
theorem fp_10_196 : FP_ RX10 196 10 18 .int := ⟨RX10, TX10, 22, cf_10, by decide, rfl, by decide +kernel, (Or.inl (tw_mem (List.mem_of_getElem? (i := 1016) (by decide +kernel)) (by decide +kernel)))⟩
theorem fp_10_199 : FP_ RX10 199 10 19 .boolean := ⟨RX10, TX10, 22, cf_10, by decide, rfl, by decide +kernel, (Or.inl (tw_mem (List.mem_of_getElem? (i := 1017) (by decide +kernel)) (by decide +kernel)))⟩
theorem fp_10_232 : FP_ RX10 232 10 21 .int := ⟨RX10, TX10, 22, cf_10, by decide, rfl, by decide +kernel, (Or.inl (tw_mem (List.mem_of_getElem? (i := 1019) (by decide +kernel)) (by decide +kernel)))⟩
theorem cl_8_9 : Cond.classLink RX8 9 RX0 ∈ TW_ := (tw_mem (List.mem_of_getElem? (i := 104) (by decide +kernel)) (by decide +kernel))
theorem cl_8_21 : Cond.classLink RX8 21 RX1 ∈ TW_ := (tw_mem (List.mem_of_getElem? (i := 106) (by decide +kernel)) (by decide +kernel))
theorem cl_8_30 : Cond.classLink RX8 30 RX5 ∈ TW_ := (tw_mem (List.mem_of_getElem? (i := 108) (by decide +kernel)) (by decide +kernel))
theorem cl_8_39 : Cond.classLink RX8 39 RX6 ∈ TW_ := (tw_mem (List.mem_of_getElem? (i := 110) (by decide +kernel)) (by decide +kernel))
theorem cl_8_56 : Cond.classLink RX8 56 RX2 ∈ TW_ := (tw_mem (List.mem_of_getElem? (i := 128) (by decide +kernel)) (by decide +kernel))
theorem cl_9_7 : Cond.classLink RX9 7 RX8 ∈ TW_ := (tw_mem (List.mem_of_getElem? (i := 98) (by decide +kernel)) (by decide +kernel))
theorem cl_9_23 : Cond.classLink RX9 23 RX3 ∈ TW_ := (tw_mem (List.mem_of_getElem? (i := 244) (by decide +kernel)) (by decide +kernel))
theorem cl_9_30 : Cond.classLink RX9 30 RX7 ∈ TW_ := (tw_mem (List.mem_of_getElem? (i := 263) (by decide +kernel)) (by decide +kernel))
theorem cl_9_45 : Cond.classLink RX9 45 RX0 ∈ TW_ := (tw_mem (List.mem_of_getElem? (i := 309) (by decide +kernel)) (by decide +kernel))
theorem cl_9_109 : Cond.classLink RX9 109 RX4 ∈ TW_ := (tw_mem (List.mem_of_getElem? (i := 464) (by decide +kernel)) (by decide +kernel))
theorem ac_20 : Cond.arrayClass .int ∈ TW_ := (tw_mem (List.mem_of_getElem? (i := 127) (by decide +kernel)) (by decide +kernel))
theorem ac_21 : Cond.arrayClass .boolean ∈ TW_ := (tw_mem (List.mem_of_getElem? (i := 1065) (by decide +kernel)) (by decide +kernel))
theorem oi_ : Cond.instanceMethod objectInit ∈ TW_ ∧ Cond.code objectInit ⟨#[0xb1]⟩ 1 none ∈ TW_ := ⟨(tw_mem (List.mem_of_getElem? (i := 96) (by decide +kernel)) (by decide +kernel)), (tw_mem (List.mem_of_getElem? (i := 97) (by decide +kernel)) (by decide +kernel))⟩
theorem mw_max : MW_ Lib.Math.max.name Lib.Math.max.code 2 := ⟨(tw_mem (List.mem_of_getElem? (i := 423) (by decide +kernel)) (by decide +kernel)), (tw_mem (List.mem_of_getElem? (i := 86) (by decide +kernel)) (by decide +kernel)), (tw_mem (List.mem_of_getElem? (i := 424) (by decide +kernel)) (by decide +kernel))⟩
theorem mw_min : MW_ Lib.Math.min.name Lib.Math.min.code 2 := ⟨(tw_mem (List.mem_of_getElem? (i := 420) (by decide +kernel)) (by decide +kernel)), (tw_mem (List.mem_of_getElem? (i := 86) (by decide +kernel)) (by decide +kernel)), (tw_mem (List.mem_of_getElem? (i := 421) (by decide +kernel)) (by decide +kernel))⟩
theorem mw_abs : MW_ Lib.Math.abs.name Lib.Math.abs.code 1 := ⟨(tw_mem (List.mem_of_getElem? (i := 678) (by decide +kernel)) (by decide +kernel)), (tw_mem (List.mem_of_getElem? (i := 86) (by decide +kernel)) (by decide +kernel)), (tw_mem (List.mem_of_getElem? (i := 679) (by decide +kernel)) (by decide +kernel))⟩
theorem yw_ : YW_ := ⟨(tw_mem (List.mem_of_getElem? (i := 944) (by decide +kernel)) (by decide +kernel)), (tw_mem (List.mem_of_getElem? (i := 943) (by decide +kernel)) (by decide +kernel)), (tw_mem (List.mem_of_getElem? (i := 89) (by decide +kernel)) (by decide +kernel))⟩
theorem ml_0_1 : Cond.methodLink RX0 1 objectInit ∈ TW_ := (tw_mem (List.mem_of_getElem? (i := 314) (by decide +kernel)) (by decide +kernel))
theorem ml_1_3 : Cond.methodLink RX1 3 objectInit ∈ TW_ := (tw_mem (List.mem_of_getElem? (i := 550) (by decide +kernel)) (by decide +kernel))
theorem ml_1_34 : Cond.methodLink RX1 34 yX1_awaitFrom ∈ TW_ := (tw_mem (List.mem_of_getElem? (i := 589) (by decide +kernel)) (by decide +kernel))
theorem ml_2_3 : Cond.methodLink RX2 3 objectInit ∈ TW_ := (tw_mem (List.mem_of_getElem? (i := 133) (by decide +kernel)) (by decide +kernel))
theorem ml_2_19 : Cond.methodLink RX2 19 yX2_put ∈ TW_ := (tw_mem (List.mem_of_getElem? (i := 848) (by decide +kernel)) (by decide +kernel))
theorem ml_2_23 : Cond.methodLink RX2 23 yX2_cellOf ∈ TW_ := (tw_mem (List.mem_of_getElem? (i := 852) (by decide +kernel)) (by decide +kernel))
theorem ml_2_27 : Cond.methodLink RX2 27 arraycopyName ∈ TW_ := (tw_mem (List.mem_of_getElem? (i := 955) (by decide +kernel)) (by decide +kernel))
theorem ml_3_3 : Cond.methodLink RX3 3 objectInit ∈ TW_ := (tw_mem (List.mem_of_getElem? (i := 249) (by decide +kernel)) (by decide +kernel))
theorem ml_3_23 : Cond.methodLink RX3 23 yX3_has ∈ TW_ := (tw_mem (List.mem_of_getElem? (i := 444) (by decide +kernel)) (by decide +kernel))
theorem ml_3_27 : Cond.methodLink RX3 27 Lib.Math.max.name ∈ TW_ := (tw_mem (List.mem_of_getElem? (i := 422) (by decide +kernel)) (by decide +kernel))
theorem ml_3_33 : Cond.methodLink RX3 33 yX3_pageAt ∈ TW_ := (tw_mem (List.mem_of_getElem? (i := 470) (by decide +kernel)) (by decide +kernel))
theorem ml_3_37 : Cond.methodLink RX3 37 yX3_appendIf ∈ TW_ := (tw_mem (List.mem_of_getElem? (i := 432) (by decide +kernel)) (by decide +kernel))
theorem ml_3_41 : Cond.methodLink RX3 41 Lib.Math.min.name ∈ TW_ := (tw_mem (List.mem_of_getElem? (i := 419) (by decide +kernel)) (by decide +kernel))
theorem ml_3_44 : Cond.methodLink RX3 44 yX3_matches ∈ TW_ := (tw_mem (List.mem_of_getElem? (i := 425) (by decide +kernel)) (by decide +kernel))
theorem ml_4_3 : Cond.methodLink RX4 3 objectInit ∈ TW_ := (tw_mem (List.mem_of_getElem? (i := 474) (by decide +kernel)) (by decide +kernel))
theorem ml_4_23 : Cond.methodLink RX4 23 yX8_settingAt ∈ TW_ := (tw_mem (List.mem_of_getElem? (i := 475) (by decide +kernel)) (by decide +kernel))
theorem ml_4_29 : Cond.methodLink RX4 29 Lib.Math.max.name ∈ TW_ := (tw_mem (List.mem_of_getElem? (i := 476) (by decide +kernel)) (by decide +kernel))
theorem ml_4_71 : Cond.methodLink RX4 71 yX4_loadOfPages ∈ TW_ := (tw_mem (List.mem_of_getElem? (i := 477) (by decide +kernel)) (by decide +kernel))
theorem ml_4_74 : Cond.methodLink RX4 74 yX4_sheets ∈ TW_ := (tw_mem (List.mem_of_getElem? (i := 617) (by decide +kernel)) (by decide +kernel))
theorem ml_4_78 : Cond.methodLink RX4 78 yX4_indexOn ∈ TW_ := (tw_mem (List.mem_of_getElem? (i := 485) (by decide +kernel)) (by decide +kernel))
theorem ml_4_82 : Cond.methodLink RX4 82 yX4_hasSide ∈ TW_ := (tw_mem (List.mem_of_getElem? (i := 750) (by decide +kernel)) (by decide +kernel))
theorem ml_4_86 : Cond.methodLink RX4 86 yX4_pageOn ∈ TW_ := (tw_mem (List.mem_of_getElem? (i := 481) (by decide +kernel)) (by decide +kernel))
theorem ml_4_89 : Cond.methodLink RX4 89 yX0_weightOf ∈ TW_ := (tw_mem (List.mem_of_getElem? (i := 489) (by decide +kernel)) (by decide +kernel))
theorem ml_5_3 : Cond.methodLink RX5 3 objectInit ∈ TW_ := (tw_mem (List.mem_of_getElem? (i := 146) (by decide +kernel)) (by decide +kernel))
theorem ml_5_38 : Cond.methodLink RX5 38 yX5_isCoarse ∈ TW_ := (tw_mem (List.mem_of_getElem? (i := 755) (by decide +kernel)) (by decide +kernel))
theorem ml_5_42 : Cond.methodLink RX5 42 yX5_bandsFor ∈ TW_ := (tw_mem (List.mem_of_getElem? (i := 768) (by decide +kernel)) (by decide +kernel))
theorem ml_5_46 : Cond.methodLink RX5 46 arraycopyName ∈ TW_ := (tw_mem (List.mem_of_getElem? (i := 942) (by decide +kernel)) (by decide +kernel))
theorem ml_6_3 : Cond.methodLink RX6 3 objectInit ∈ TW_ := (tw_mem (List.mem_of_getElem? (i := 115) (by decide +kernel)) (by decide +kernel))
theorem ml_6_22 : Cond.methodLink RX6 22 yX6_characterAt ∈ TW_ := (tw_mem (List.mem_of_getElem? (i := 371) (by decide +kernel)) (by decide +kernel))
theorem ml_6_26 : Cond.methodLink RX6 26 yX6_stateAfter ∈ TW_ := (tw_mem (List.mem_of_getElem? (i := 375) (by decide +kernel)) (by decide +kernel))
theorem ml_6_30 : Cond.methodLink RX6 30 yX3_empty ∈ TW_ := (tw_mem (List.mem_of_getElem? (i := 399) (by decide +kernel)) (by decide +kernel))
theorem ml_6_39 : Cond.methodLink RX6 39 yX6_expandItem ∈ TW_ := (tw_mem (List.mem_of_getElem? (i := 403) (by decide +kernel)) (by decide +kernel))
theorem ml_6_43 : Cond.methodLink RX6 43 yX6_skip ∈ TW_ := (tw_mem (List.mem_of_getElem? (i := 407) (by decide +kernel)) (by decide +kernel))
theorem ml_6_47 : Cond.methodLink RX6 47 yX6_readNumber ∈ TW_ := (tw_mem (List.mem_of_getElem? (i := 411) (by decide +kernel)) (by decide +kernel))
theorem ml_6_51 : Cond.methodLink RX6 51 yX3_removeSpan ∈ TW_ := (tw_mem (List.mem_of_getElem? (i := 415) (by decide +kernel)) (by decide +kernel))
theorem ml_6_55 : Cond.methodLink RX6 55 yX3_appendSpan ∈ TW_ := (tw_mem (List.mem_of_getElem? (i := 428) (by decide +kernel)) (by decide +kernel))
theorem ml_6_59 : Cond.methodLink RX6 59 yX6_isDigit ∈ TW_ := (tw_mem (List.mem_of_getElem? (i := 381) (by decide +kernel)) (by decide +kernel))
theorem ml_6_62 : Cond.methodLink RX6 62 yX6_spanBegins ∈ TW_ := (tw_mem (List.mem_of_getElem? (i := 378) (by decide +kernel)) (by decide +kernel))
theorem ml_6_65 : Cond.methodLink RX6 65 yX6_spanEnds ∈ TW_ := (tw_mem (List.mem_of_getElem? (i := 384) (by decide +kernel)) (by decide +kernel))
theorem ml_6_68 : Cond.methodLink RX6 68 arraycopyName ∈ TW_ := (tw_mem (List.mem_of_getElem? (i := 949) (by decide +kernel)) (by decide +kernel))
theorem ml_7_3 : Cond.methodLink RX7 3 objectInit ∈ TW_ := (tw_mem (List.mem_of_getElem? (i := 268) (by decide +kernel)) (by decide +kernel))
theorem ml_7_28 : Cond.methodLink RX7 28 Lib.Math.min.name ∈ TW_ := (tw_mem (List.mem_of_getElem? (i := 659) (by decide +kernel)) (by decide +kernel))
theorem ml_7_34 : Cond.methodLink RX7 34 yX7_chooseFirstItem ∈ TW_ := (tw_mem (List.mem_of_getElem? (i := 660) (by decide +kernel)) (by decide +kernel))
theorem ml_7_38 : Cond.methodLink RX7 38 yX7_write ∈ TW_ := (tw_mem (List.mem_of_getElem? (i := 680) (by decide +kernel)) (by decide +kernel))
theorem ml_7_42 : Cond.methodLink RX7 42 yX7_has ∈ TW_ := (tw_mem (List.mem_of_getElem? (i := 709) (by decide +kernel)) (by decide +kernel))
theorem ml_7_46 : Cond.methodLink RX7 46 yX7_compare ∈ TW_ := (tw_mem (List.mem_of_getElem? (i := 664) (by decide +kernel)) (by decide +kernel))
theorem ml_7_49 : Cond.methodLink RX7 49 yX7_itemLength ∈ TW_ := (tw_mem (List.mem_of_getElem? (i := 668) (by decide +kernel)) (by decide +kernel))
theorem ml_7_53 : Cond.methodLink RX7 53 yX7_digits ∈ TW_ := (tw_mem (List.mem_of_getElem? (i := 671) (by decide +kernel)) (by decide +kernel))
theorem ml_7_57 : Cond.methodLink RX7 57 yX7_isSpaced ∈ TW_ := (tw_mem (List.mem_of_getElem? (i := 674) (by decide +kernel)) (by decide +kernel))
theorem ml_7_61 : Cond.methodLink RX7 61 Lib.Math.abs.name ∈ TW_ := (tw_mem (List.mem_of_getElem? (i := 677) (by decide +kernel)) (by decide +kernel))
theorem ml_7_64 : Cond.methodLink RX7 64 Lib.Math.max.name ∈ TW_ := (tw_mem (List.mem_of_getElem? (i := 684) (by decide +kernel)) (by decide +kernel))
theorem ml_7_67 : Cond.methodLink RX7 67 yX7_put ∈ TW_ := (tw_mem (List.mem_of_getElem? (i := 685) (by decide +kernel)) (by decide +kernel))
theorem ml_7_71 : Cond.methodLink RX7 71 yX7_writeItem ∈ TW_ := (tw_mem (List.mem_of_getElem? (i := 689) (by decide +kernel)) (by decide +kernel))
theorem ml_7_75 : Cond.methodLink RX7 75 yX7_putNumber ∈ TW_ := (tw_mem (List.mem_of_getElem? (i := 693) (by decide +kernel)) (by decide +kernel))
theorem ml_8_3 : Cond.methodLink RX8 3 objectInit ∈ TW_ := (tw_mem (List.mem_of_getElem? (i := 103) (by decide +kernel)) (by decide +kernel))
theorem ml_8_41 : ∃ host, Cond.methodLinkNest RX8 41 yX6_init host ∈ tables_1 := ⟨"PrintSpooler", (List.mem_of_getElem? (i := 36) (by decide +kernel))⟩
theorem ml_8_58 : ∃ host, Cond.methodLinkNest RX8 58 yX2_init host ∈ tables_1 := ⟨"PrintSpooler", (List.mem_of_getElem? (i := 54) (by decide +kernel))⟩
theorem ml_8_82 : ∃ host, Cond.methodLinkNest RX8 82 yX5_init host ∈ tables_1 := ⟨"PrintSpooler", (List.mem_of_getElem? (i := 67) (by decide +kernel))⟩
theorem ml_8_83 : Cond.methodLink RX8 83 yX1_init ∈ TW_ := (tw_mem (List.mem_of_getElem? (i := 547) (by decide +kernel)) (by decide +kernel))
theorem ml_8_86 : Cond.methodLink RX8 86 yX8_settingAt ∈ TW_ := (tw_mem (List.mem_of_getElem? (i := 584) (by decide +kernel)) (by decide +kernel))
theorem ml_8_90 : Cond.methodLink RX8 90 yX1_beginLife ∈ TW_ := (tw_mem (List.mem_of_getElem? (i := 585) (by decide +kernel)) (by decide +kernel))
theorem ml_8_94 : Cond.methodLink RX8 94 yX5_beginLife ∈ TW_ := (tw_mem (List.mem_of_getElem? (i := 718) (by decide +kernel)) (by decide +kernel))
theorem ml_8_97 : Cond.methodLink RX8 97 yX8_jobAt ∈ TW_ := (tw_mem (List.mem_of_getElem? (i := 818) (by decide +kernel)) (by decide +kernel))
theorem ml_8_107 : Cond.methodLink RX8 107 yX1_stopPrinting ∈ TW_ := (tw_mem (List.mem_of_getElem? (i := 819) (by decide +kernel)) (by decide +kernel))
theorem ml_8_114 : Cond.methodLink RX8 114 yX8_passTick ∈ TW_ := (tw_mem (List.mem_of_getElem? (i := 835) (by decide +kernel)) (by decide +kernel))
theorem ml_8_117 : Cond.methodLink RX8 117 yX8_skipQuietTicks ∈ TW_ := (tw_mem (List.mem_of_getElem? (i := 895) (by decide +kernel)) (by decide +kernel))
theorem ml_8_120 : Cond.methodLink RX8 120 yX8_printerAt ∈ TW_ := (tw_mem (List.mem_of_getElem? (i := 839) (by decide +kernel)) (by decide +kernel))
theorem ml_8_128 : Cond.methodLink RX8 128 yX8_endSheet ∈ TW_ := (tw_mem (List.mem_of_getElem? (i := 840) (by decide +kernel)) (by decide +kernel))
theorem ml_8_132 : Cond.methodLink RX8 132 yX8_bestFor ∈ TW_ := (tw_mem (List.mem_of_getElem? (i := 874) (by decide +kernel)) (by decide +kernel))
theorem ml_8_136 : Cond.methodLink RX8 136 yX8_beginSheet ∈ TW_ := (tw_mem (List.mem_of_getElem? (i := 887) (by decide +kernel)) (by decide +kernel))
theorem ml_8_140 : Cond.methodLink RX8 140 Lib.Math.min.name ∈ TW_ := (tw_mem (List.mem_of_getElem? (i := 899) (by decide +kernel)) (by decide +kernel))
theorem ml_8_152 : Cond.methodLink RX8 152 yX2_write ∈ TW_ := (tw_mem (List.mem_of_getElem? (i := 844) (by decide +kernel)) (by decide +kernel))
theorem ml_8_165 : Cond.methodLink RX8 165 yX8_countFor ∈ TW_ := (tw_mem (List.mem_of_getElem? (i := 855) (by decide +kernel)) (by decide +kernel))
theorem ml_8_168 : Cond.methodLink RX8 168 yX4_sheets ∈ TW_ := (tw_mem (List.mem_of_getElem? (i := 859) (by decide +kernel)) (by decide +kernel))
theorem ml_8_172 : Cond.methodLink RX8 172 yX8_markDone ∈ TW_ := (tw_mem (List.mem_of_getElem? (i := 860) (by decide +kernel)) (by decide +kernel))
theorem ml_8_179 : Cond.methodLink RX8 179 yX8_hasSupply ∈ TW_ := (tw_mem (List.mem_of_getElem? (i := 864) (by decide +kernel)) (by decide +kernel))
theorem ml_8_183 : Cond.methodLink RX8 183 yX8_isOutranked ∈ TW_ := (tw_mem (List.mem_of_getElem? (i := 883) (by decide +kernel)) (by decide +kernel))
theorem ml_8_187 : Cond.methodLink RX8 187 yX1_rankAt ∈ TW_ := (tw_mem (List.mem_of_getElem? (i := 882) (by decide +kernel)) (by decide +kernel))
theorem ml_8_200 : Cond.methodLink RX8 200 yX4_sheetOfCopy ∈ TW_ := (tw_mem (List.mem_of_getElem? (i := 891) (by decide +kernel)) (by decide +kernel))
theorem ml_8_203 : Cond.methodLink RX8 203 yX5_sheetsIn ∈ TW_ := (tw_mem (List.mem_of_getElem? (i := 868) (by decide +kernel)) (by decide +kernel))
theorem ml_8_206 : Cond.methodLink RX8 206 yX5_changeTray ∈ TW_ := (tw_mem (List.mem_of_getElem? (i := 892) (by decide +kernel)) (by decide +kernel))
theorem ml_8_210 : Cond.methodLink RX8 210 yX4_loadOn ∈ TW_ := (tw_mem (List.mem_of_getElem? (i := 893) (by decide +kernel)) (by decide +kernel))
theorem ml_8_213 : Cond.methodLink RX8 213 yX5_ticksFor ∈ TW_ := (tw_mem (List.mem_of_getElem? (i := 894) (by decide +kernel)) (by decide +kernel))
theorem ml_8_216 : Cond.methodLink RX8 216 yX8_isPrintable ∈ TW_ := (tw_mem (List.mem_of_getElem? (i := 878) (by decide +kernel)) (by decide +kernel))
theorem ml_8_226 : Cond.methodLink RX8 226 yX8_printedFor ∈ TW_ := (tw_mem (List.mem_of_getElem? (i := 869) (by decide +kernel)) (by decide +kernel))
theorem ml_8_229 : Cond.methodLink RX8 229 yX8_quotaOf ∈ TW_ := (tw_mem (List.mem_of_getElem? (i := 873) (by decide +kernel)) (by decide +kernel))
theorem ml_8_232 : Cond.methodLink RX8 232 yX8_documentAt ∈ TW_ := (tw_mem (List.mem_of_getElem? (i := 925) (by decide +kernel)) (by decide +kernel))
theorem ml_8_236 : Cond.methodLink RX8 236 yX8_copyJobs ∈ TW_ := (tw_mem (List.mem_of_getElem? (i := 926) (by decide +kernel)) (by decide +kernel))
theorem ml_8_240 : Cond.methodLink RX8 240 yX8_copyPrinters ∈ TW_ := (tw_mem (List.mem_of_getElem? (i := 934) (by decide +kernel)) (by decide +kernel))
theorem ml_8_243 : Cond.methodLink RX8 243 yX6_copyFrom ∈ TW_ := (tw_mem (List.mem_of_getElem? (i := 945) (by decide +kernel)) (by decide +kernel))
theorem ml_8_247 : Cond.methodLink RX8 247 arraycopyName ∈ TW_ := (tw_mem (List.mem_of_getElem? (i := 950) (by decide +kernel)) (by decide +kernel))
theorem ml_8_253 : Cond.methodLink RX8 253 yX2_copyFrom ∈ TW_ := (tw_mem (List.mem_of_getElem? (i := 951) (by decide +kernel)) (by decide +kernel))
theorem ml_8_256 : Cond.methodLink RX8 256 yX1_copyFrom ∈ TW_ := (tw_mem (List.mem_of_getElem? (i := 930) (by decide +kernel)) (by decide +kernel))
theorem ml_8_258 : Cond.methodLink RX8 258 yX5_copyFrom ∈ TW_ := (tw_mem (List.mem_of_getElem? (i := 938) (by decide +kernel)) (by decide +kernel))
theorem ml_9_1 : Cond.methodLink RX9 1 objectInit ∈ TW_ := (tw_mem (List.mem_of_getElem? (i := 95) (by decide +kernel)) (by decide +kernel))
theorem ml_9_9 : Cond.methodLink RX9 9 yX8_init ∈ TW_ := (tw_mem (List.mem_of_getElem? (i := 100) (by decide +kernel)) (by decide +kernel))
theorem ml_9_25 : ∃ host, Cond.methodLinkNest RX9 25 yX3_init host ∈ tables_1 := ⟨"PrintSpooler", (List.mem_of_getElem? (i := 170) (by decide +kernel))⟩
theorem ml_9_32 : ∃ host, Cond.methodLinkNest RX9 32 yX7_init host ∈ tables_1 := ⟨"PrintSpooler", (List.mem_of_getElem? (i := 189) (by decide +kernel))⟩
theorem ml_9_37 : Cond.methodLink RX9 37 yX9_within ∈ TW_ := (tw_mem (List.mem_of_getElem? (i := 306) (by decide +kernel)) (by decide +kernel))
theorem ml_9_47 : Cond.methodLink RX9 47 yX0_init ∈ TW_ := (tw_mem (List.mem_of_getElem? (i := 311) (by decide +kernel)) (by decide +kernel))
theorem ml_9_50 : Cond.methodLink RX9 50 yX8_keepDocument ∈ TW_ := (tw_mem (List.mem_of_getElem? (i := 335) (by decide +kernel)) (by decide +kernel))
theorem ml_9_54 : Cond.methodLink RX9 54 yX8_documentAt ∈ TW_ := (tw_mem (List.mem_of_getElem? (i := 343) (by decide +kernel)) (by decide +kernel))
theorem ml_9_61 : Cond.methodLink RX9 61 yX0_weightOf ∈ TW_ := (tw_mem (List.mem_of_getElem? (i := 347) (by decide +kernel)) (by decide +kernel))
theorem ml_9_69 : Cond.methodLink RX9 69 yX6_append ∈ TW_ := (tw_mem (List.mem_of_getElem? (i := 355) (by decide +kernel)) (by decide +kernel))
theorem ml_9_78 : Cond.methodLink RX9 78 yX6_firstFault ∈ TW_ := (tw_mem (List.mem_of_getElem? (i := 367) (by decide +kernel)) (by decide +kernel))
theorem ml_9_82 : Cond.methodLink RX9 82 yX9_gather ∈ TW_ := (tw_mem (List.mem_of_getElem? (i := 391) (by decide +kernel)) (by decide +kernel))
theorem ml_9_88 : Cond.methodLink RX9 88 yX3_has ∈ TW_ := (tw_mem (List.mem_of_getElem? (i := 436) (by decide +kernel)) (by decide +kernel))
theorem ml_9_91 : Cond.methodLink RX9 91 yX3_pageAt ∈ TW_ := (tw_mem (List.mem_of_getElem? (i := 440) (by decide +kernel)) (by decide +kernel))
theorem ml_9_94 : Cond.methodLink RX9 94 yX9_isAllowed ∈ TW_ := (tw_mem (List.mem_of_getElem? (i := 449) (by decide +kernel)) (by decide +kernel))
theorem ml_9_98 : Cond.methodLink RX9 98 yX8_settingAt ∈ TW_ := (tw_mem (List.mem_of_getElem? (i := 452) (by decide +kernel)) (by decide +kernel))
theorem ml_9_101 : Cond.methodLink RX9 101 yX8_changeSetting ∈ TW_ := (tw_mem (List.mem_of_getElem? (i := 456) (by decide +kernel)) (by decide +kernel))
theorem ml_9_111 : Cond.methodLink RX9 111 yX3_copyOfPages ∈ TW_ := (tw_mem (List.mem_of_getElem? (i := 466) (by decide +kernel)) (by decide +kernel))
theorem ml_9_115 : Cond.methodLink RX9 115 yX4_init ∈ TW_ := (tw_mem (List.mem_of_getElem? (i := 471) (by decide +kernel)) (by decide +kernel))
theorem ml_9_118 : Cond.methodLink RX9 118 yX8_keepJob ∈ TW_ := (tw_mem (List.mem_of_getElem? (i := 542) (by decide +kernel)) (by decide +kernel))
theorem ml_9_122 : Cond.methodLink RX9 122 yX8_jobAt ∈ TW_ := (tw_mem (List.mem_of_getElem? (i := 597) (by decide +kernel)) (by decide +kernel))
theorem ml_9_156 : Cond.methodLink RX9 156 yX4_sheets ∈ TW_ := (tw_mem (List.mem_of_getElem? (i := 601) (by decide +kernel)) (by decide +kernel))
theorem ml_9_171 : Cond.methodLink RX9 171 yX1_rankAt ∈ TW_ := (tw_mem (List.mem_of_getElem? (i := 605) (by decide +kernel)) (by decide +kernel))
theorem ml_9_175 : Cond.methodLink RX9 175 yX4_hasSheet ∈ TW_ := (tw_mem (List.mem_of_getElem? (i := 613) (by decide +kernel)) (by decide +kernel))
theorem ml_9_178 : Cond.methodLink RX9 178 yX4_hasSide ∈ TW_ := (tw_mem (List.mem_of_getElem? (i := 618) (by decide +kernel)) (by decide +kernel))
theorem ml_9_184 : Cond.methodLink RX9 184 yX4_sheetOfCopy ∈ TW_ := (tw_mem (List.mem_of_getElem? (i := 622) (by decide +kernel)) (by decide +kernel))
theorem ml_9_187 : Cond.methodLink RX9 187 yX4_pageOn ∈ TW_ := (tw_mem (List.mem_of_getElem? (i := 626) (by decide +kernel)) (by decide +kernel))
theorem ml_9_191 : Cond.methodLink RX9 191 yX4_turnsBacks ∈ TW_ := (tw_mem (List.mem_of_getElem? (i := 631) (by decide +kernel)) (by decide +kernel))
theorem ml_9_195 : Cond.methodLink RX9 195 yX4_blankPositions ∈ TW_ := (tw_mem (List.mem_of_getElem? (i := 639) (by decide +kernel)) (by decide +kernel))
theorem ml_9_198 : Cond.methodLink RX9 198 yX4_placeOf ∈ TW_ := (tw_mem (List.mem_of_getElem? (i := 647) (by decide +kernel)) (by decide +kernel))
theorem ml_9_201 : Cond.methodLink RX9 201 yX7_describe ∈ TW_ := (tw_mem (List.mem_of_getElem? (i := 655) (by decide +kernel)) (by decide +kernel))
theorem ml_9_206 : Cond.methodLink RX9 206 yX7_itemCount ∈ TW_ := (tw_mem (List.mem_of_getElem? (i := 697) (by decide +kernel)) (by decide +kernel))
theorem ml_9_209 : Cond.methodLink RX9 209 yX7_has ∈ TW_ := (tw_mem (List.mem_of_getElem? (i := 701) (by decide +kernel)) (by decide +kernel))
theorem ml_9_210 : Cond.methodLink RX9 210 yX7_characterAt ∈ TW_ := (tw_mem (List.mem_of_getElem? (i := 705) (by decide +kernel)) (by decide +kernel))
theorem ml_9_213 : Cond.methodLink RX9 213 yX8_keepPrinter ∈ TW_ := (tw_mem (List.mem_of_getElem? (i := 714) (by decide +kernel)) (by decide +kernel))
theorem ml_9_217 : Cond.methodLink RX9 217 yX8_printerAt ∈ TW_ := (tw_mem (List.mem_of_getElem? (i := 726) (by decide +kernel)) (by decide +kernel))
theorem ml_9_221 : Cond.methodLink RX9 221 yX5_sheetsIn ∈ TW_ := (tw_mem (List.mem_of_getElem? (i := 730) (by decide +kernel)) (by decide +kernel))
theorem ml_9_226 : Cond.methodLink RX9 226 yX5_changeTray ∈ TW_ := (tw_mem (List.mem_of_getElem? (i := 734) (by decide +kernel)) (by decide +kernel))
theorem ml_9_239 : Cond.methodLink RX9 239 yX4_loadOn ∈ TW_ := (tw_mem (List.mem_of_getElem? (i := 746) (by decide +kernel)) (by decide +kernel))
theorem ml_9_242 : Cond.methodLink RX9 242 yX5_bandsFor ∈ TW_ := (tw_mem (List.mem_of_getElem? (i := 751) (by decide +kernel)) (by decide +kernel))
theorem ml_9_245 : Cond.methodLink RX9 245 yX5_isCoarse ∈ TW_ := (tw_mem (List.mem_of_getElem? (i := 759) (by decide +kernel)) (by decide +kernel))
theorem ml_9_251 : Cond.methodLink RX9 251 yX5_ticksFor ∈ TW_ := (tw_mem (List.mem_of_getElem? (i := 764) (by decide +kernel)) (by decide +kernel))
theorem ml_9_257 : Cond.methodLink RX9 257 yX8_quotaOf ∈ TW_ := (tw_mem (List.mem_of_getElem? (i := 777) (by decide +kernel)) (by decide +kernel))
theorem ml_9_260 : Cond.methodLink RX9 260 yX8_changeQuota ∈ TW_ := (tw_mem (List.mem_of_getElem? (i := 781) (by decide +kernel)) (by decide +kernel))
theorem ml_9_263 : Cond.methodLink RX9 263 yX1_isOver ∈ TW_ := (tw_mem (List.mem_of_getElem? (i := 789) (by decide +kernel)) (by decide +kernel))
theorem ml_9_266 : Cond.methodLink RX9 266 yX1_demand ∈ TW_ := (tw_mem (List.mem_of_getElem? (i := 797) (by decide +kernel)) (by decide +kernel))
theorem ml_9_270 : Cond.methodLink RX9 270 yX1_awaitFrom ∈ TW_ := (tw_mem (List.mem_of_getElem? (i := 805) (by decide +kernel)) (by decide +kernel))
theorem ml_9_276 : Cond.methodLink RX9 276 yX8_loseSheet ∈ TW_ := (tw_mem (List.mem_of_getElem? (i := 814) (by decide +kernel)) (by decide +kernel))
theorem ml_9_280 : Cond.methodLink RX9 280 yX8_pass ∈ TW_ := (tw_mem (List.mem_of_getElem? (i := 831) (by decide +kernel)) (by decide +kernel))
theorem ml_9_287 : Cond.methodLink RX9 287 yX2_has ∈ TW_ := (tw_mem (List.mem_of_getElem? (i := 904) (by decide +kernel)) (by decide +kernel))
theorem ml_9_290 : Cond.methodLink RX9 290 yX2_read ∈ TW_ := (tw_mem (List.mem_of_getElem? (i := 908) (by decide +kernel)) (by decide +kernel))
theorem ml_9_293 : Cond.methodLink RX9 293 yX8_printedFor ∈ TW_ := (tw_mem (List.mem_of_getElem? (i := 916) (by decide +kernel)) (by decide +kernel))
theorem ml_9_296 : Cond.methodLink RX9 296 yX8_copyFrom ∈ TW_ := (tw_mem (List.mem_of_getElem? (i := 921) (by decide +kernel)) (by decide +kernel))
theorem ml_9_300 : Cond.methodLink RX9 300 yX8_ticksUntilDone ∈ TW_ := (tw_mem (List.mem_of_getElem? (i := 956) (by decide +kernel)) (by decide +kernel))
theorem ml_9_306 : Cond.methodLink RX9 306 yX8_jobFinishedAs ∈ TW_ := (tw_mem (List.mem_of_getElem? (i := 968) (by decide +kernel)) (by decide +kernel))
theorem ml_9_315 : Cond.methodLink RX9 315 yX8_waitingJobs ∈ TW_ := (tw_mem (List.mem_of_getElem? (i := 976) (by decide +kernel)) (by decide +kernel))
theorem ml_9_318 : Cond.methodLink RX9 318 yX9_slotAt ∈ TW_ := (tw_mem (List.mem_of_getElem? (i := 984) (by decide +kernel)) (by decide +kernel))
theorem ml_9_326 : Cond.methodLink RX9 326 yX6_expand ∈ TW_ := (tw_mem (List.mem_of_getElem? (i := 395) (by decide +kernel)) (by decide +kernel))
theorem ml_10_1 : Cond.methodLink RX10 1 objectInit ∈ TW_ := (tw_mem (List.mem_of_getElem? (i := 997) (by decide +kernel)) (by decide +kernel))
theorem ml_10_44 : Cond.methodLink RX10 44 yX10_in ∈ TW_ := (tw_mem (List.mem_of_getElem? (i := 1070) (by decide +kernel)) (by decide +kernel))
theorem ml_10_48 : Cond.methodLink RX10 48 yX10_ofDocument ∈ TW_ := (tw_mem (List.mem_of_getElem? (i := 1081) (by decide +kernel)) (by decide +kernel))
theorem ml_10_52 : Cond.methodLink RX10 52 yX10_isDocument ∈ TW_ := (tw_mem (List.mem_of_getElem? (i := 1077) (by decide +kernel)) (by decide +kernel))
theorem ml_10_56 : Cond.methodLink RX10 56 yX10_weightOf ∈ TW_ := (tw_mem (List.mem_of_getElem? (i := 1085) (by decide +kernel)) (by decide +kernel))
theorem ml_10_63 : Cond.methodLink RX10 63 yX10_signAt ∈ TW_ := (tw_mem (List.mem_of_getElem? (i := 1109) (by decide +kernel)) (by decide +kernel))
theorem ml_10_67 : Cond.methodLink RX10 67 yX10_isDigit ∈ TW_ := (tw_mem (List.mem_of_getElem? (i := 1117) (by decide +kernel)) (by decide +kernel))
theorem ml_10_87 : Cond.methodLink RX10 87 yX10_readNumber ∈ TW_ := (tw_mem (List.mem_of_getElem? (i := 1113) (by decide +kernel)) (by decide +kernel))
theorem ml_10_91 : Cond.methodLink RX10 91 yX10_isHalf ∈ TW_ := (tw_mem (List.mem_of_getElem? (i := 1120) (by decide +kernel)) (by decide +kernel))
theorem ml_10_94 : Cond.methodLink RX10 94 yX10_readItem ∈ TW_ := (tw_mem (List.mem_of_getElem? (i := 1105) (by decide +kernel)) (by decide +kernel))
theorem ml_10_97 : Cond.methodLink RX10 97 yX10_faultOf ∈ TW_ := (tw_mem (List.mem_of_getElem? (i := 1101) (by decide +kernel)) (by decide +kernel))
theorem ml_10_100 : Cond.methodLink RX10 100 yX10_isPart ∈ TW_ := (tw_mem (List.mem_of_getElem? (i := 1139) (by decide +kernel)) (by decide +kernel))
theorem ml_10_106 : Cond.methodLink RX10 106 yX10_isInItem ∈ TW_ := (tw_mem (List.mem_of_getElem? (i := 1135) (by decide +kernel)) (by decide +kernel))
theorem ml_10_109 : Cond.methodLink RX10 109 yX10_takeOut ∈ TW_ := (tw_mem (List.mem_of_getElem? (i := 1131) (by decide +kernel)) (by decide +kernel))
theorem ml_10_113 : Cond.methodLink RX10 113 yX10_append ∈ TW_ := (tw_mem (List.mem_of_getElem? (i := 1143) (by decide +kernel)) (by decide +kernel))
theorem ml_10_117 : Cond.methodLink RX10 117 yX10_makeList ∈ TW_ := (tw_mem (List.mem_of_getElem? (i := 1127) (by decide +kernel)) (by decide +kernel))
theorem ml_10_120 : Cond.methodLink RX10 120 yX10_isUser ∈ TW_ := (tw_mem (List.mem_of_getElem? (i := 1154) (by decide +kernel)) (by decide +kernel))
theorem ml_10_123 : Cond.methodLink RX10 123 yX10_isValue ∈ TW_ := (tw_mem (List.mem_of_getElem? (i := 1151) (by decide +kernel)) (by decide +kernel))
theorem ml_10_126 : Cond.methodLink RX10 126 yX10_setJob ∈ TW_ := (tw_mem (List.mem_of_getElem? (i := 1161) (by decide +kernel)) (by decide +kernel))
theorem ml_10_130 : Cond.methodLink RX10 130 yX10_sheetsOfCopy ∈ TW_ := (tw_mem (List.mem_of_getElem? (i := 1165) (by decide +kernel)) (by decide +kernel))
theorem ml_10_133 : Cond.methodLink RX10 133 yX10_ofJob ∈ TW_ := (tw_mem (List.mem_of_getElem? (i := 1169) (by decide +kernel)) (by decide +kernel))
theorem ml_10_136 : Cond.methodLink RX10 136 yX10_isBooklet ∈ TW_ := (tw_mem (List.mem_of_getElem? (i := 1173) (by decide +kernel)) (by decide +kernel))
theorem ml_10_139 : Cond.methodLink RX10 139 yX10_perSide ∈ TW_ := (tw_mem (List.mem_of_getElem? (i := 1177) (by decide +kernel)) (by decide +kernel))
theorem ml_10_142 : Cond.methodLink RX10 142 yX10_sidesOf ∈ TW_ := (tw_mem (List.mem_of_getElem? (i := 1181) (by decide +kernel)) (by decide +kernel))
theorem ml_10_145 : Cond.methodLink RX10 145 yX10_elementAt ∈ TW_ := (tw_mem (List.mem_of_getElem? (i := 1209) (by decide +kernel)) (by decide +kernel))
theorem ml_10_149 : Cond.methodLink RX10 149 yX10_isJob ∈ TW_ := (tw_mem (List.mem_of_getElem? (i := 1189) (by decide +kernel)) (by decide +kernel))
theorem ml_10_152 : Cond.methodLink RX10 152 yX10_rankOf ∈ TW_ := (tw_mem (List.mem_of_getElem? (i := 1193) (by decide +kernel)) (by decide +kernel))
theorem ml_10_155 : Cond.methodLink RX10 155 yX10_isSheet ∈ TW_ := (tw_mem (List.mem_of_getElem? (i := 1201) (by decide +kernel)) (by decide +kernel))
theorem ml_10_158 : Cond.methodLink RX10 158 yX10_pageAt ∈ TW_ := (tw_mem (List.mem_of_getElem? (i := 1205) (by decide +kernel)) (by decide +kernel))
theorem ml_10_161 : Cond.methodLink RX10 161 yX10_figures ∈ TW_ := (tw_mem (List.mem_of_getElem? (i := 1241) (by decide +kernel)) (by decide +kernel))
theorem ml_10_164 : Cond.methodLink RX10 164 yX10_signsOf ∈ TW_ := (tw_mem (List.mem_of_getElem? (i := 1237) (by decide +kernel)) (by decide +kernel))
theorem ml_10_167 : Cond.methodLink RX10 167 yX10_takeItem ∈ TW_ := (tw_mem (List.mem_of_getElem? (i := 1233) (by decide +kernel)) (by decide +kernel))
theorem ml_10_171 : Cond.methodLink RX10 171 yX10_stepAt ∈ TW_ := (tw_mem (List.mem_of_getElem? (i := 1244) (by decide +kernel)) (by decide +kernel))
theorem ml_10_174 : Cond.methodLink RX10 174 yX10_figure ∈ TW_ := (tw_mem (List.mem_of_getElem? (i := 1252) (by decide +kernel)) (by decide +kernel))
theorem ml_10_177 : Cond.methodLink RX10 177 yX10_layText ∈ TW_ := (tw_mem (List.mem_of_getElem? (i := 1229) (by decide +kernel)) (by decide +kernel))
theorem ml_10_180 : Cond.methodLink RX10 180 yX10_signOf ∈ TW_ := (tw_mem (List.mem_of_getElem? (i := 1248) (by decide +kernel)) (by decide +kernel))
theorem ml_10_184 : Cond.methodLink RX10 184 yX10_setPrinter ∈ TW_ := (tw_mem (List.mem_of_getElem? (i := 1259) (by decide +kernel)) (by decide +kernel))
theorem ml_10_187 : Cond.methodLink RX10 187 yX10_isPrinter ∈ TW_ := (tw_mem (List.mem_of_getElem? (i := 1267) (by decide +kernel)) (by decide +kernel))
theorem ml_10_190 : Cond.methodLink RX10 190 yX10_ofPrinter ∈ TW_ := (tw_mem (List.mem_of_getElem? (i := 1271) (by decide +kernel)) (by decide +kernel))
theorem ml_10_202 : Cond.methodLink RX10 202 yX10_bandsFor ∈ TW_ := (tw_mem (List.mem_of_getElem? (i := 1287) (by decide +kernel)) (by decide +kernel))
theorem ml_10_205 : Cond.methodLink RX10 205 yX10_laySide ∈ TW_ := (tw_mem (List.mem_of_getElem? (i := 1283) (by decide +kernel)) (by decide +kernel))
theorem ml_10_208 : Cond.methodLink RX10 208 yX10_ticksFor ∈ TW_ := (tw_mem (List.mem_of_getElem? (i := 1294) (by decide +kernel)) (by decide +kernel))
theorem ml_10_211 : Cond.methodLink RX10 211 yX10_isOver ∈ TW_ := (tw_mem (List.mem_of_getElem? (i := 1310) (by decide +kernel)) (by decide +kernel))
theorem ml_10_214 : Cond.methodLink RX10 214 yX10_becomeWaiting ∈ TW_ := (tw_mem (List.mem_of_getElem? (i := 1322) (by decide +kernel)) (by decide +kernel))
theorem ml_10_217 : Cond.methodLink RX10 217 yX10_leave ∈ TW_ := (tw_mem (List.mem_of_getElem? (i := 1334) (by decide +kernel)) (by decide +kernel))
theorem ml_10_220 : Cond.methodLink RX10 220 yX10_trayFor ∈ TW_ := (tw_mem (List.mem_of_getElem? (i := 1358) (by decide +kernel)) (by decide +kernel))
theorem ml_10_223 : Cond.methodLink RX10 223 yX10_hasQuota ∈ TW_ := (tw_mem (List.mem_of_getElem? (i := 1362) (by decide +kernel)) (by decide +kernel))
theorem ml_10_226 : Cond.methodLink RX10 226 yX10_isPrintable ∈ TW_ := (tw_mem (List.mem_of_getElem? (i := 1370) (by decide +kernel)) (by decide +kernel))
theorem ml_10_229 : Cond.methodLink RX10 229 yX10_record ∈ TW_ := (tw_mem (List.mem_of_getElem? (i := 1354) (by decide +kernel)) (by decide +kernel))
theorem ml_10_235 : Cond.methodLink RX10 235 yX10_bestFor ∈ TW_ := (tw_mem (List.mem_of_getElem? (i := 1366) (by decide +kernel)) (by decide +kernel))
theorem ml_10_238 : Cond.methodLink RX10 238 yX10_begin ∈ TW_ := (tw_mem (List.mem_of_getElem? (i := 1374) (by decide +kernel)) (by decide +kernel))
theorem ml_10_241 : Cond.methodLink RX10 241 yX10_endSheet ∈ TW_ := (tw_mem (List.mem_of_getElem? (i := 1350) (by decide +kernel)) (by decide +kernel))
theorem ml_10_244 : Cond.methodLink RX10 244 yX10_tick ∈ TW_ := (tw_mem (List.mem_of_getElem? (i := 1346) (by decide +kernel)) (by decide +kernel))
theorem ml_10_247 : Cond.methodLink RX10 247 yX10_putAside ∈ TW_ := (tw_mem (List.mem_of_getElem? (i := 1390) (by decide +kernel)) (by decide +kernel))
theorem ml_10_250 : Cond.methodLink RX10 250 yX10_putBack ∈ TW_ := (tw_mem (List.mem_of_getElem? (i := 1394) (by decide +kernel)) (by decide +kernel))
theorem ml_10_253 : Cond.methodLink RX10 253 yX10_isInTime ∈ TW_ := (tw_mem (List.mem_of_getElem? (i := 1402) (by decide +kernel)) (by decide +kernel))
theorem ml_10_256 : Cond.methodLink RX10 256 yX10_waiting ∈ TW_ := (tw_mem (List.mem_of_getElem? (i := 1414) (by decide +kernel)) (by decide +kernel))
theorem cw_cX0_init : IW_ yX0_init cX0_init 6 5 := ⟨(tw_mem (List.mem_of_getElem? (i := 313) (by decide +kernel)) (by decide +kernel)), (tw_mem (List.mem_of_getElem? (i := 312) (by decide +kernel)) (by decide +kernel)), (in_0).2, rfl, by decide, by decide, by decide +kernel⟩
theorem cw_cX0_weightOf : VW_ yX0_weightOf cX0_weightOf 2 (some .int) 0 1 := ⟨(tw_mem (List.mem_of_getElem? (i := 350) (by decide +kernel)) (by decide +kernel)), (tw_mem (List.mem_of_getElem? (i := 348) (by decide +kernel)) (by decide +kernel)), (tw_mem (List.mem_of_getElem? (i := 349) (by decide +kernel)) (by decide +kernel)), (in_0).2, ⟨TX0, 5, rfl⟩, by decide, by decide, by decide +kernel⟩
theorem cw_cX1_init : IW_ yX1_init cX1_init 3 2 := ⟨(tw_mem (List.mem_of_getElem? (i := 549) (by decide +kernel)) (by decide +kernel)), (tw_mem (List.mem_of_getElem? (i := 548) (by decide +kernel)) (by decide +kernel)), (in_1).2, rfl, by decide, by decide, by decide +kernel⟩
theorem cw_cX1_awaitFrom : VW_ yX1_awaitFrom cX1_awaitFrom 2 none 1 1 := ⟨(tw_mem (List.mem_of_getElem? (i := 592) (by decide +kernel)) (by decide +kernel)), (tw_mem (List.mem_of_getElem? (i := 590) (by decide +kernel)) (by decide +kernel)), (tw_mem (List.mem_of_getElem? (i := 591) (by decide +kernel)) (by decide +kernel)), (in_1).2, ⟨TX1, 7, rfl⟩, by decide, by decide, by decide +kernel⟩
theorem cw_cX1_beginLife : VW_ yX1_beginLife cX1_beginLife 4 none 1 3 := ⟨(tw_mem (List.mem_of_getElem? (i := 588) (by decide +kernel)) (by decide +kernel)), (tw_mem (List.mem_of_getElem? (i := 586) (by decide +kernel)) (by decide +kernel)), (tw_mem (List.mem_of_getElem? (i := 587) (by decide +kernel)) (by decide +kernel)), (in_1).2, ⟨TX1, 7, rfl⟩, by decide, by decide, by decide +kernel⟩
theorem cw_cX1_isOver : VW_ yX1_isOver cX1_isOver 1 (some .boolean) 1 0 := ⟨(tw_mem (List.mem_of_getElem? (i := 792) (by decide +kernel)) (by decide +kernel)), (tw_mem (List.mem_of_getElem? (i := 790) (by decide +kernel)) (by decide +kernel)), (tw_mem (List.mem_of_getElem? (i := 791) (by decide +kernel)) (by decide +kernel)), (in_1).2, ⟨TX1, 7, rfl⟩, by decide, by decide, by decide +kernel⟩
theorem cw_cX1_rankAt : VW_ yX1_rankAt cX1_rankAt 4 (some .int) 1 2 := ⟨(tw_mem (List.mem_of_getElem? (i := 608) (by decide +kernel)) (by decide +kernel)), (tw_mem (List.mem_of_getElem? (i := 606) (by decide +kernel)) (by decide +kernel)), (tw_mem (List.mem_of_getElem? (i := 607) (by decide +kernel)) (by decide +kernel)), (in_1).2, ⟨TX1, 7, rfl⟩, by decide, by decide, by decide +kernel⟩
theorem cw_cX1_demand : VW_ yX1_demand cX1_demand 2 none 1 1 := ⟨(tw_mem (List.mem_of_getElem? (i := 800) (by decide +kernel)) (by decide +kernel)), (tw_mem (List.mem_of_getElem? (i := 798) (by decide +kernel)) (by decide +kernel)), (tw_mem (List.mem_of_getElem? (i := 799) (by decide +kernel)) (by decide +kernel)), (in_1).2, ⟨TX1, 7, rfl⟩, by decide, by decide, by decide +kernel⟩
theorem cw_cX1_stopPrinting : VW_ yX1_stopPrinting cX1_stopPrinting 2 none 1 1 := ⟨(tw_mem (List.mem_of_getElem? (i := 822) (by decide +kernel)) (by decide +kernel)), (tw_mem (List.mem_of_getElem? (i := 820) (by decide +kernel)) (by decide +kernel)), (tw_mem (List.mem_of_getElem? (i := 821) (by decide +kernel)) (by decide +kernel)), (in_1).2, ⟨TX1, 7, rfl⟩, by decide, by decide, by decide +kernel⟩
theorem cw_cX1_copyFrom : VW_ yX1_copyFrom cX1_copyFrom 2 none 1 1 := ⟨(tw_mem (List.mem_of_getElem? (i := 933) (by decide +kernel)) (by decide +kernel)), (tw_mem (List.mem_of_getElem? (i := 931) (by decide +kernel)) (by decide +kernel)), (tw_mem (List.mem_of_getElem? (i := 932) (by decide +kernel)) (by decide +kernel)), (in_1).2, ⟨TX1, 7, rfl⟩, by decide, by decide, by decide +kernel⟩
theorem cw_cX2_init : IW_ yX2_init cX2_init 1 0 := ⟨(tw_mem (List.mem_of_getElem? (i := 132) (by decide +kernel)) (by decide +kernel)), (tw_mem (List.mem_of_getElem? (i := 131) (by decide +kernel)) (by decide +kernel)), (in_2).2, rfl, by decide, by decide, by decide +kernel⟩
theorem cw_cX2_cellOf : SW_ yX2_cellOf cX2_cellOf 2 (some .int) 2 := ⟨(tw_mem (List.mem_of_getElem? (i := 854) (by decide +kernel)) (by decide +kernel)), (tw_mem (List.mem_of_getElem? (i := 853) (by decide +kernel)) (by decide +kernel)), (in_2).2, by decide, by decide, by decide +kernel⟩
theorem cw_cX2_put : VW_ yX2_put cX2_put 5 none 2 3 := ⟨(tw_mem (List.mem_of_getElem? (i := 851) (by decide +kernel)) (by decide +kernel)), (tw_mem (List.mem_of_getElem? (i := 850) (by decide +kernel)) (by decide +kernel)), (tw_mem (List.mem_of_getElem? (i := 16) (by decide +kernel)) (by decide +kernel)), (in_2).2, ⟨TX2, 2, rfl⟩, by decide, by decide, by decide +kernel⟩
theorem cw_cX2_write : VW_ yX2_write cX2_write 5 none 2 4 := ⟨(tw_mem (List.mem_of_getElem? (i := 847) (by decide +kernel)) (by decide +kernel)), (tw_mem (List.mem_of_getElem? (i := 845) (by decide +kernel)) (by decide +kernel)), (tw_mem (List.mem_of_getElem? (i := 846) (by decide +kernel)) (by decide +kernel)), (in_2).2, ⟨TX2, 2, rfl⟩, by decide, by decide, by decide +kernel⟩
theorem cw_cX2_has : VW_ yX2_has cX2_has 2 (some .boolean) 2 1 := ⟨(tw_mem (List.mem_of_getElem? (i := 907) (by decide +kernel)) (by decide +kernel)), (tw_mem (List.mem_of_getElem? (i := 905) (by decide +kernel)) (by decide +kernel)), (tw_mem (List.mem_of_getElem? (i := 906) (by decide +kernel)) (by decide +kernel)), (in_2).2, ⟨TX2, 2, rfl⟩, by decide, by decide, by decide +kernel⟩
theorem cw_cX2_read : VW_ yX2_read cX2_read 4 (some .int) 2 2 := ⟨(tw_mem (List.mem_of_getElem? (i := 911) (by decide +kernel)) (by decide +kernel)), (tw_mem (List.mem_of_getElem? (i := 909) (by decide +kernel)) (by decide +kernel)), (tw_mem (List.mem_of_getElem? (i := 910) (by decide +kernel)) (by decide +kernel)), (in_2).2, ⟨TX2, 2, rfl⟩, by decide, by decide, by decide +kernel⟩
theorem cw_cX2_copyFrom : VW_ yX2_copyFrom cX2_copyFrom 2 none 2 1 := ⟨(tw_mem (List.mem_of_getElem? (i := 954) (by decide +kernel)) (by decide +kernel)), (tw_mem (List.mem_of_getElem? (i := 952) (by decide +kernel)) (by decide +kernel)), (tw_mem (List.mem_of_getElem? (i := 953) (by decide +kernel)) (by decide +kernel)), (in_2).2, ⟨TX2, 2, rfl⟩, by decide, by decide, by decide +kernel⟩
theorem cw_cX3_init : IW_ yX3_init cX3_init 1 0 := ⟨(tw_mem (List.mem_of_getElem? (i := 248) (by decide +kernel)) (by decide +kernel)), (tw_mem (List.mem_of_getElem? (i := 247) (by decide +kernel)) (by decide +kernel)), (in_3).2, rfl, by decide, by decide, by decide +kernel⟩
theorem cw_cX3_empty : VW_ yX3_empty cX3_empty 1 none 3 0 := ⟨(tw_mem (List.mem_of_getElem? (i := 402) (by decide +kernel)) (by decide +kernel)), (tw_mem (List.mem_of_getElem? (i := 400) (by decide +kernel)) (by decide +kernel)), (tw_mem (List.mem_of_getElem? (i := 401) (by decide +kernel)) (by decide +kernel)), (in_3).2, ⟨TX3, 3, rfl⟩, by decide, by decide, by decide +kernel⟩
theorem cw_cX3_has : VW_ yX3_has cX3_has 2 (some .boolean) 3 1 := ⟨(tw_mem (List.mem_of_getElem? (i := 439) (by decide +kernel)) (by decide +kernel)), (tw_mem (List.mem_of_getElem? (i := 437) (by decide +kernel)) (by decide +kernel)), (tw_mem (List.mem_of_getElem? (i := 438) (by decide +kernel)) (by decide +kernel)), (in_3).2, ⟨TX3, 3, rfl⟩, by decide, by decide, by decide +kernel⟩
theorem cw_cX3_pageAt : VW_ yX3_pageAt cX3_pageAt 2 (some .int) 3 1 := ⟨(tw_mem (List.mem_of_getElem? (i := 443) (by decide +kernel)) (by decide +kernel)), (tw_mem (List.mem_of_getElem? (i := 441) (by decide +kernel)) (by decide +kernel)), (tw_mem (List.mem_of_getElem? (i := 442) (by decide +kernel)) (by decide +kernel)), (in_3).2, ⟨TX3, 3, rfl⟩, by decide, by decide, by decide +kernel⟩
theorem cw_cX3_copyOfPages : VW_ yX3_copyOfPages cX3_copyOfPages 3 (some (.array .int)) 3 0 := ⟨(tw_mem (List.mem_of_getElem? (i := 469) (by decide +kernel)) (by decide +kernel)), (tw_mem (List.mem_of_getElem? (i := 467) (by decide +kernel)) (by decide +kernel)), (tw_mem (List.mem_of_getElem? (i := 468) (by decide +kernel)) (by decide +kernel)), (in_3).2, ⟨TX3, 3, rfl⟩, by decide, by decide, by decide +kernel⟩
theorem cw_cX3_matches : SW_ yX3_matches cX3_matches 2 (some .boolean) 2 := ⟨(tw_mem (List.mem_of_getElem? (i := 427) (by decide +kernel)) (by decide +kernel)), (tw_mem (List.mem_of_getElem? (i := 426) (by decide +kernel)) (by decide +kernel)), (in_3).2, by decide, by decide, by decide +kernel⟩
theorem cw_cX3_appendIf : VW_ yX3_appendIf cX3_appendIf 3 none 3 2 := ⟨(tw_mem (List.mem_of_getElem? (i := 435) (by decide +kernel)) (by decide +kernel)), (tw_mem (List.mem_of_getElem? (i := 434) (by decide +kernel)) (by decide +kernel)), (tw_mem (List.mem_of_getElem? (i := 5) (by decide +kernel)) (by decide +kernel)), (in_3).2, ⟨TX3, 3, rfl⟩, by decide, by decide, by decide +kernel⟩
theorem cw_cX3_appendSpan : VW_ yX3_appendSpan cX3_appendSpan 6 none 3 4 := ⟨(tw_mem (List.mem_of_getElem? (i := 431) (by decide +kernel)) (by decide +kernel)), (tw_mem (List.mem_of_getElem? (i := 429) (by decide +kernel)) (by decide +kernel)), (tw_mem (List.mem_of_getElem? (i := 430) (by decide +kernel)) (by decide +kernel)), (in_3).2, ⟨TX3, 3, rfl⟩, by decide, by decide, by decide +kernel⟩
theorem cw_cX3_removeSpan : VW_ yX3_removeSpan cX3_removeSpan 10 none 3 3 := ⟨(tw_mem (List.mem_of_getElem? (i := 418) (by decide +kernel)) (by decide +kernel)), (tw_mem (List.mem_of_getElem? (i := 416) (by decide +kernel)) (by decide +kernel)), (tw_mem (List.mem_of_getElem? (i := 417) (by decide +kernel)) (by decide +kernel)), (in_3).2, ⟨TX3, 3, rfl⟩, by decide, by decide, by decide +kernel⟩
theorem cw_cX4_blankPositions : VW_ yX4_blankPositions cX4_blankPositions 2 (some .int) 4 0 := ⟨(tw_mem (List.mem_of_getElem? (i := 642) (by decide +kernel)) (by decide +kernel)), (tw_mem (List.mem_of_getElem? (i := 640) (by decide +kernel)) (by decide +kernel)), (tw_mem (List.mem_of_getElem? (i := 641) (by decide +kernel)) (by decide +kernel)), (in_4).2, ⟨TX4, 13, rfl⟩, by decide, by decide, by decide +kernel⟩
theorem cw_cX4_hasSide : VW_ yX4_hasSide cX4_hasSide 2 (some .boolean) 4 1 := ⟨(tw_mem (List.mem_of_getElem? (i := 621) (by decide +kernel)) (by decide +kernel)), (tw_mem (List.mem_of_getElem? (i := 619) (by decide +kernel)) (by decide +kernel)), (tw_mem (List.mem_of_getElem? (i := 620) (by decide +kernel)) (by decide +kernel)), (in_4).2, ⟨TX4, 13, rfl⟩, by decide, by decide, by decide +kernel⟩
theorem cw_cX4_loadOn : VW_ yX4_loadOn cX4_loadOn 4 (some .int) 4 2 := ⟨(tw_mem (List.mem_of_getElem? (i := 749) (by decide +kernel)) (by decide +kernel)), (tw_mem (List.mem_of_getElem? (i := 747) (by decide +kernel)) (by decide +kernel)), (tw_mem (List.mem_of_getElem? (i := 748) (by decide +kernel)) (by decide +kernel)), (in_4).2, ⟨TX4, 13, rfl⟩, by decide, by decide, by decide +kernel⟩
theorem cw_cX4_indexOn : VW_ yX4_indexOn cX4_indexOn 6 (some .int) 4 3 := ⟨(tw_mem (List.mem_of_getElem? (i := 488) (by decide +kernel)) (by decide +kernel)), (tw_mem (List.mem_of_getElem? (i := 487) (by decide +kernel)) (by decide +kernel)), (tw_mem (List.mem_of_getElem? (i := 7) (by decide +kernel)) (by decide +kernel)), (in_4).2, ⟨TX4, 13, rfl⟩, by decide, by decide, by decide +kernel⟩
theorem cw_cX4_pageOn : VW_ yX4_pageOn cX4_pageOn 5 (some .int) 4 3 := ⟨(tw_mem (List.mem_of_getElem? (i := 484) (by decide +kernel)) (by decide +kernel)), (tw_mem (List.mem_of_getElem? (i := 482) (by decide +kernel)) (by decide +kernel)), (tw_mem (List.mem_of_getElem? (i := 483) (by decide +kernel)) (by decide +kernel)), (in_4).2, ⟨TX4, 13, rfl⟩, by decide, by decide, by decide +kernel⟩
theorem cw_cX4_loadOfPages : VW_ yX4_loadOfPages cX4_loadOfPages 7 (some .int) 4 2 := ⟨(tw_mem (List.mem_of_getElem? (i := 480) (by decide +kernel)) (by decide +kernel)), (tw_mem (List.mem_of_getElem? (i := 479) (by decide +kernel)) (by decide +kernel)), (tw_mem (List.mem_of_getElem? (i := 6) (by decide +kernel)) (by decide +kernel)), (in_4).2, ⟨TX4, 13, rfl⟩, by decide, by decide, by decide +kernel⟩
theorem cw_cX8_settingAt : VW_ yX8_settingAt cX8_settingAt 2 (some .int) 8 1 := ⟨(tw_mem (List.mem_of_getElem? (i := 455) (by decide +kernel)) (by decide +kernel)), (tw_mem (List.mem_of_getElem? (i := 453) (by decide +kernel)) (by decide +kernel)), (tw_mem (List.mem_of_getElem? (i := 454) (by decide +kernel)) (by decide +kernel)), (in_8).2, ⟨TX8, 17, rfl⟩, by decide, by decide, by decide +kernel⟩
theorem cw_cX4_init : IW_ yX4_init cX4_init 7 4 := ⟨(tw_mem (List.mem_of_getElem? (i := 473) (by decide +kernel)) (by decide +kernel)), (tw_mem (List.mem_of_getElem? (i := 472) (by decide +kernel)) (by decide +kernel)), (in_4).2, rfl, by decide, by decide, by decide +kernel⟩
theorem cw_cX4_sheets : VW_ yX4_sheets cX4_sheets 1 (some .int) 4 0 := ⟨(tw_mem (List.mem_of_getElem? (i := 604) (by decide +kernel)) (by decide +kernel)), (tw_mem (List.mem_of_getElem? (i := 602) (by decide +kernel)) (by decide +kernel)), (tw_mem (List.mem_of_getElem? (i := 603) (by decide +kernel)) (by decide +kernel)), (in_4).2, ⟨TX4, 13, rfl⟩, by decide, by decide, by decide +kernel⟩
theorem cw_cX4_hasSheet : VW_ yX4_hasSheet cX4_hasSheet 2 (some .boolean) 4 1 := ⟨(tw_mem (List.mem_of_getElem? (i := 616) (by decide +kernel)) (by decide +kernel)), (tw_mem (List.mem_of_getElem? (i := 614) (by decide +kernel)) (by decide +kernel)), (tw_mem (List.mem_of_getElem? (i := 615) (by decide +kernel)) (by decide +kernel)), (in_4).2, ⟨TX4, 13, rfl⟩, by decide, by decide, by decide +kernel⟩
theorem cw_cX4_sheetOfCopy : VW_ yX4_sheetOfCopy cX4_sheetOfCopy 2 (some .int) 4 1 := ⟨(tw_mem (List.mem_of_getElem? (i := 625) (by decide +kernel)) (by decide +kernel)), (tw_mem (List.mem_of_getElem? (i := 623) (by decide +kernel)) (by decide +kernel)), (tw_mem (List.mem_of_getElem? (i := 624) (by decide +kernel)) (by decide +kernel)), (in_4).2, ⟨TX4, 13, rfl⟩, by decide, by decide, by decide +kernel⟩
theorem cw_cX4_placeOf : VW_ yX4_placeOf cX4_placeOf 8 (some .int) 4 2 := ⟨(tw_mem (List.mem_of_getElem? (i := 650) (by decide +kernel)) (by decide +kernel)), (tw_mem (List.mem_of_getElem? (i := 648) (by decide +kernel)) (by decide +kernel)), (tw_mem (List.mem_of_getElem? (i := 649) (by decide +kernel)) (by decide +kernel)), (in_4).2, ⟨TX4, 13, rfl⟩, by decide, by decide, by decide +kernel⟩
theorem cw_cX4_turnsBacks : VW_ yX4_turnsBacks cX4_turnsBacks 1 (some .boolean) 4 0 := ⟨(tw_mem (List.mem_of_getElem? (i := 634) (by decide +kernel)) (by decide +kernel)), (tw_mem (List.mem_of_getElem? (i := 632) (by decide +kernel)) (by decide +kernel)), (tw_mem (List.mem_of_getElem? (i := 633) (by decide +kernel)) (by decide +kernel)), (in_4).2, ⟨TX4, 13, rfl⟩, by decide, by decide, by decide +kernel⟩
theorem cw_cX5_init : IW_ yX5_init cX5_init 1 0 := ⟨(tw_mem (List.mem_of_getElem? (i := 145) (by decide +kernel)) (by decide +kernel)), (tw_mem (List.mem_of_getElem? (i := 144) (by decide +kernel)) (by decide +kernel)), (in_5).2, rfl, by decide, by decide, by decide +kernel⟩
theorem cw_cX5_beginLife : VW_ yX5_beginLife cX5_beginLife 5 none 5 3 := ⟨(tw_mem (List.mem_of_getElem? (i := 721) (by decide +kernel)) (by decide +kernel)), (tw_mem (List.mem_of_getElem? (i := 719) (by decide +kernel)) (by decide +kernel)), (tw_mem (List.mem_of_getElem? (i := 720) (by decide +kernel)) (by decide +kernel)), (in_5).2, ⟨TX5, 8, rfl⟩, by decide, by decide, by decide +kernel⟩
theorem cw_cX5_sheetsIn : VW_ yX5_sheetsIn cX5_sheetsIn 2 (some .int) 5 1 := ⟨(tw_mem (List.mem_of_getElem? (i := 733) (by decide +kernel)) (by decide +kernel)), (tw_mem (List.mem_of_getElem? (i := 731) (by decide +kernel)) (by decide +kernel)), (tw_mem (List.mem_of_getElem? (i := 732) (by decide +kernel)) (by decide +kernel)), (in_5).2, ⟨TX5, 8, rfl⟩, by decide, by decide, by decide +kernel⟩
theorem cw_cX5_changeTray : VW_ yX5_changeTray cX5_changeTray 3 none 5 2 := ⟨(tw_mem (List.mem_of_getElem? (i := 737) (by decide +kernel)) (by decide +kernel)), (tw_mem (List.mem_of_getElem? (i := 735) (by decide +kernel)) (by decide +kernel)), (tw_mem (List.mem_of_getElem? (i := 736) (by decide +kernel)) (by decide +kernel)), (in_5).2, ⟨TX5, 8, rfl⟩, by decide, by decide, by decide +kernel⟩
theorem cw_cX5_isCoarse : VW_ yX5_isCoarse cX5_isCoarse 2 (some .boolean) 5 1 := ⟨(tw_mem (List.mem_of_getElem? (i := 758) (by decide +kernel)) (by decide +kernel)), (tw_mem (List.mem_of_getElem? (i := 756) (by decide +kernel)) (by decide +kernel)), (tw_mem (List.mem_of_getElem? (i := 757) (by decide +kernel)) (by decide +kernel)), (in_5).2, ⟨TX5, 8, rfl⟩, by decide, by decide, by decide +kernel⟩
theorem cw_cX5_bandsFor : VW_ yX5_bandsFor cX5_bandsFor 4 (some .int) 5 1 := ⟨(tw_mem (List.mem_of_getElem? (i := 754) (by decide +kernel)) (by decide +kernel)), (tw_mem (List.mem_of_getElem? (i := 752) (by decide +kernel)) (by decide +kernel)), (tw_mem (List.mem_of_getElem? (i := 753) (by decide +kernel)) (by decide +kernel)), (in_5).2, ⟨TX5, 8, rfl⟩, by decide, by decide, by decide +kernel⟩
theorem cw_cX5_ticksFor : VW_ yX5_ticksFor cX5_ticksFor 2 (some .int) 5 1 := ⟨(tw_mem (List.mem_of_getElem? (i := 767) (by decide +kernel)) (by decide +kernel)), (tw_mem (List.mem_of_getElem? (i := 765) (by decide +kernel)) (by decide +kernel)), (tw_mem (List.mem_of_getElem? (i := 766) (by decide +kernel)) (by decide +kernel)), (in_5).2, ⟨TX5, 8, rfl⟩, by decide, by decide, by decide +kernel⟩
theorem cw_cX5_copyFrom : VW_ yX5_copyFrom cX5_copyFrom 2 none 5 1 := ⟨(tw_mem (List.mem_of_getElem? (i := 941) (by decide +kernel)) (by decide +kernel)), (tw_mem (List.mem_of_getElem? (i := 939) (by decide +kernel)) (by decide +kernel)), (tw_mem (List.mem_of_getElem? (i := 940) (by decide +kernel)) (by decide +kernel)), (in_5).2, ⟨TX5, 8, rfl⟩, by decide, by decide, by decide +kernel⟩
theorem cw_cX6_isDigit : SW_ yX6_isDigit cX6_isDigit 1 (some .boolean) 1 := ⟨(tw_mem (List.mem_of_getElem? (i := 383) (by decide +kernel)) (by decide +kernel)), (tw_mem (List.mem_of_getElem? (i := 382) (by decide +kernel)) (by decide +kernel)), (in_6).2, by decide, by decide, by decide +kernel⟩
theorem cw_cX6_spanBegins : SW_ yX6_spanBegins cX6_spanBegins 1 (some .int) 1 := ⟨(tw_mem (List.mem_of_getElem? (i := 380) (by decide +kernel)) (by decide +kernel)), (tw_mem (List.mem_of_getElem? (i := 379) (by decide +kernel)) (by decide +kernel)), (in_6).2, by decide, by decide, by decide +kernel⟩
theorem cw_cX6_spanEnds : SW_ yX6_spanEnds cX6_spanEnds 1 (some .int) 1 := ⟨(tw_mem (List.mem_of_getElem? (i := 386) (by decide +kernel)) (by decide +kernel)), (tw_mem (List.mem_of_getElem? (i := 385) (by decide +kernel)) (by decide +kernel)), (in_6).2, by decide, by decide, by decide +kernel⟩
theorem cw_cX6_stateAfter : SW_ yX6_stateAfter cX6_stateAfter 2 (some .int) 2 := ⟨(tw_mem (List.mem_of_getElem? (i := 377) (by decide +kernel)) (by decide +kernel)), (tw_mem (List.mem_of_getElem? (i := 376) (by decide +kernel)) (by decide +kernel)), (in_6).2, by decide, by decide, by decide +kernel⟩
theorem cw_cX6_copyFrom : VW_ yX6_copyFrom cX6_copyFrom 2 none 6 1 := ⟨(tw_mem (List.mem_of_getElem? (i := 948) (by decide +kernel)) (by decide +kernel)), (tw_mem (List.mem_of_getElem? (i := 946) (by decide +kernel)) (by decide +kernel)), (tw_mem (List.mem_of_getElem? (i := 947) (by decide +kernel)) (by decide +kernel)), (in_6).2, ⟨TX6, 3, rfl⟩, by decide, by decide, by decide +kernel⟩
theorem cw_cX6_init : IW_ yX6_init cX6_init 1 0 := ⟨(tw_mem (List.mem_of_getElem? (i := 114) (by decide +kernel)) (by decide +kernel)), (tw_mem (List.mem_of_getElem? (i := 113) (by decide +kernel)) (by decide +kernel)), (in_6).2, rfl, by decide, by decide, by decide +kernel⟩
theorem cw_cX6_append : VW_ yX6_append cX6_append 2 (some .boolean) 6 1 := ⟨(tw_mem (List.mem_of_getElem? (i := 358) (by decide +kernel)) (by decide +kernel)), (tw_mem (List.mem_of_getElem? (i := 356) (by decide +kernel)) (by decide +kernel)), (tw_mem (List.mem_of_getElem? (i := 357) (by decide +kernel)) (by decide +kernel)), (in_6).2, ⟨TX6, 3, rfl⟩, by decide, by decide, by decide +kernel⟩
theorem cw_cX6_characterAt : VW_ yX6_characterAt cX6_characterAt 2 (some .int) 6 1 := ⟨(tw_mem (List.mem_of_getElem? (i := 374) (by decide +kernel)) (by decide +kernel)), (tw_mem (List.mem_of_getElem? (i := 373) (by decide +kernel)) (by decide +kernel)), (tw_mem (List.mem_of_getElem? (i := 0) (by decide +kernel)) (by decide +kernel)), (in_6).2, ⟨TX6, 3, rfl⟩, by decide, by decide, by decide +kernel⟩
theorem cw_cX6_firstFault : VW_ yX6_firstFault cX6_firstFault 3 (some .int) 6 0 := ⟨(tw_mem (List.mem_of_getElem? (i := 370) (by decide +kernel)) (by decide +kernel)), (tw_mem (List.mem_of_getElem? (i := 368) (by decide +kernel)) (by decide +kernel)), (tw_mem (List.mem_of_getElem? (i := 369) (by decide +kernel)) (by decide +kernel)), (in_6).2, ⟨TX6, 3, rfl⟩, by decide, by decide, by decide +kernel⟩
theorem cw_cX6_skip : VW_ yX6_skip cX6_skip 3 (some .boolean) 6 1 := ⟨(tw_mem (List.mem_of_getElem? (i := 410) (by decide +kernel)) (by decide +kernel)), (tw_mem (List.mem_of_getElem? (i := 409) (by decide +kernel)) (by decide +kernel)), (tw_mem (List.mem_of_getElem? (i := 3) (by decide +kernel)) (by decide +kernel)), (in_6).2, ⟨TX6, 3, rfl⟩, by decide, by decide, by decide +kernel⟩
theorem cw_cX6_readNumber : VW_ yX6_readNumber cX6_readNumber 3 (some .int) 6 0 := ⟨(tw_mem (List.mem_of_getElem? (i := 414) (by decide +kernel)) (by decide +kernel)), (tw_mem (List.mem_of_getElem? (i := 413) (by decide +kernel)) (by decide +kernel)), (tw_mem (List.mem_of_getElem? (i := 4) (by decide +kernel)) (by decide +kernel)), (in_6).2, ⟨TX6, 3, rfl⟩, by decide, by decide, by decide +kernel⟩
theorem cw_cX6_expandItem : VW_ yX6_expandItem cX6_expandItem 9 none 6 2 := ⟨(tw_mem (List.mem_of_getElem? (i := 406) (by decide +kernel)) (by decide +kernel)), (tw_mem (List.mem_of_getElem? (i := 405) (by decide +kernel)) (by decide +kernel)), (tw_mem (List.mem_of_getElem? (i := 2) (by decide +kernel)) (by decide +kernel)), (in_6).2, ⟨TX6, 3, rfl⟩, by decide, by decide, by decide +kernel⟩
theorem cw_cX6_expand : VW_ yX6_expand cX6_expand 4 none 6 2 := ⟨(tw_mem (List.mem_of_getElem? (i := 398) (by decide +kernel)) (by decide +kernel)), (tw_mem (List.mem_of_getElem? (i := 396) (by decide +kernel)) (by decide +kernel)), (tw_mem (List.mem_of_getElem? (i := 397) (by decide +kernel)) (by decide +kernel)), (in_6).2, ⟨TX6, 3, rfl⟩, by decide, by decide, by decide +kernel⟩
theorem cw_cX7_digits : SW_ yX7_digits cX7_digits 1 (some .int) 1 := ⟨(tw_mem (List.mem_of_getElem? (i := 673) (by decide +kernel)) (by decide +kernel)), (tw_mem (List.mem_of_getElem? (i := 672) (by decide +kernel)) (by decide +kernel)), (in_7).2, by decide, by decide, by decide +kernel⟩
theorem cw_cX7_put : VW_ yX7_put cX7_put 2 none 7 1 := ⟨(tw_mem (List.mem_of_getElem? (i := 688) (by decide +kernel)) (by decide +kernel)), (tw_mem (List.mem_of_getElem? (i := 687) (by decide +kernel)) (by decide +kernel)), (tw_mem (List.mem_of_getElem? (i := 11) (by decide +kernel)) (by decide +kernel)), (in_7).2, ⟨TX7, 5, rfl⟩, by decide, by decide, by decide +kernel⟩
theorem cw_cX7_putNumber : VW_ yX7_putNumber cX7_putNumber 2 none 7 1 := ⟨(tw_mem (List.mem_of_getElem? (i := 696) (by decide +kernel)) (by decide +kernel)), (tw_mem (List.mem_of_getElem? (i := 695) (by decide +kernel)) (by decide +kernel)), (tw_mem (List.mem_of_getElem? (i := 13) (by decide +kernel)) (by decide +kernel)), (in_7).2, ⟨TX7, 5, rfl⟩, by decide, by decide, by decide +kernel⟩
theorem cw_cX7_isSpaced : SW_ yX7_isSpaced cX7_isSpaced 3 (some .boolean) 3 := ⟨(tw_mem (List.mem_of_getElem? (i := 676) (by decide +kernel)) (by decide +kernel)), (tw_mem (List.mem_of_getElem? (i := 675) (by decide +kernel)) (by decide +kernel)), (in_7).2, by decide, by decide, by decide +kernel⟩
theorem cw_cX7_writeItem : VW_ yX7_writeItem cX7_writeItem 4 none 7 3 := ⟨(tw_mem (List.mem_of_getElem? (i := 692) (by decide +kernel)) (by decide +kernel)), (tw_mem (List.mem_of_getElem? (i := 691) (by decide +kernel)) (by decide +kernel)), (tw_mem (List.mem_of_getElem? (i := 12) (by decide +kernel)) (by decide +kernel)), (in_7).2, ⟨TX7, 5, rfl⟩, by decide, by decide, by decide +kernel⟩
theorem cw_cX7_write : VW_ yX7_write cX7_write 6 none 7 2 := ⟨(tw_mem (List.mem_of_getElem? (i := 683) (by decide +kernel)) (by decide +kernel)), (tw_mem (List.mem_of_getElem? (i := 682) (by decide +kernel)) (by decide +kernel)), (tw_mem (List.mem_of_getElem? (i := 10) (by decide +kernel)) (by decide +kernel)), (in_7).2, ⟨TX7, 5, rfl⟩, by decide, by decide, by decide +kernel⟩
theorem cw_cX7_init : IW_ yX7_init cX7_init 1 0 := ⟨(tw_mem (List.mem_of_getElem? (i := 267) (by decide +kernel)) (by decide +kernel)), (tw_mem (List.mem_of_getElem? (i := 266) (by decide +kernel)) (by decide +kernel)), (in_7).2, rfl, by decide, by decide, by decide +kernel⟩
theorem cw_cX7_itemLength : SW_ yX7_itemLength cX7_itemLength 3 (some .int) 3 := ⟨(tw_mem (List.mem_of_getElem? (i := 670) (by decide +kernel)) (by decide +kernel)), (tw_mem (List.mem_of_getElem? (i := 669) (by decide +kernel)) (by decide +kernel)), (in_7).2, by decide, by decide, by decide +kernel⟩
theorem cw_cX7_compare : VW_ yX7_compare cX7_compare 10 none 7 4 := ⟨(tw_mem (List.mem_of_getElem? (i := 667) (by decide +kernel)) (by decide +kernel)), (tw_mem (List.mem_of_getElem? (i := 666) (by decide +kernel)) (by decide +kernel)), (tw_mem (List.mem_of_getElem? (i := 9) (by decide +kernel)) (by decide +kernel)), (in_7).2, ⟨TX7, 5, rfl⟩, by decide, by decide, by decide +kernel⟩
theorem cw_cX7_chooseFirstItem : VW_ yX7_chooseFirstItem cX7_chooseFirstItem 5 none 7 4 := ⟨(tw_mem (List.mem_of_getElem? (i := 663) (by decide +kernel)) (by decide +kernel)), (tw_mem (List.mem_of_getElem? (i := 662) (by decide +kernel)) (by decide +kernel)), (tw_mem (List.mem_of_getElem? (i := 8) (by decide +kernel)) (by decide +kernel)), (in_7).2, ⟨TX7, 5, rfl⟩, by decide, by decide, by decide +kernel⟩
theorem cw_cX7_describe : VW_ yX7_describe cX7_describe 8 none 7 1 := ⟨(tw_mem (List.mem_of_getElem? (i := 658) (by decide +kernel)) (by decide +kernel)), (tw_mem (List.mem_of_getElem? (i := 656) (by decide +kernel)) (by decide +kernel)), (tw_mem (List.mem_of_getElem? (i := 657) (by decide +kernel)) (by decide +kernel)), (in_7).2, ⟨TX7, 5, rfl⟩, by decide, by decide, by decide +kernel⟩
theorem cw_cX7_itemCount : VW_ yX7_itemCount cX7_itemCount 1 (some .int) 7 0 := ⟨(tw_mem (List.mem_of_getElem? (i := 700) (by decide +kernel)) (by decide +kernel)), (tw_mem (List.mem_of_getElem? (i := 698) (by decide +kernel)) (by decide +kernel)), (tw_mem (List.mem_of_getElem? (i := 699) (by decide +kernel)) (by decide +kernel)), (in_7).2, ⟨TX7, 5, rfl⟩, by decide, by decide, by decide +kernel⟩
theorem cw_cX7_has : VW_ yX7_has cX7_has 2 (some .boolean) 7 1 := ⟨(tw_mem (List.mem_of_getElem? (i := 704) (by decide +kernel)) (by decide +kernel)), (tw_mem (List.mem_of_getElem? (i := 702) (by decide +kernel)) (by decide +kernel)), (tw_mem (List.mem_of_getElem? (i := 703) (by decide +kernel)) (by decide +kernel)), (in_7).2, ⟨TX7, 5, rfl⟩, by decide, by decide, by decide +kernel⟩
theorem cw_cX7_characterAt : VW_ yX7_characterAt cX7_characterAt 2 (some .int) 7 1 := ⟨(tw_mem (List.mem_of_getElem? (i := 708) (by decide +kernel)) (by decide +kernel)), (tw_mem (List.mem_of_getElem? (i := 706) (by decide +kernel)) (by decide +kernel)), (tw_mem (List.mem_of_getElem? (i := 707) (by decide +kernel)) (by decide +kernel)), (in_7).2, ⟨TX7, 5, rfl⟩, by decide, by decide, by decide +kernel⟩
theorem cw_cX8_quotaOf : VW_ yX8_quotaOf cX8_quotaOf 2 (some .int) 8 1 := ⟨(tw_mem (List.mem_of_getElem? (i := 780) (by decide +kernel)) (by decide +kernel)), (tw_mem (List.mem_of_getElem? (i := 778) (by decide +kernel)) (by decide +kernel)), (tw_mem (List.mem_of_getElem? (i := 779) (by decide +kernel)) (by decide +kernel)), (in_8).2, ⟨TX8, 17, rfl⟩, by decide, by decide, by decide +kernel⟩
theorem cw_cX8_changeQuota : VW_ yX8_changeQuota cX8_changeQuota 3 none 8 2 := ⟨(tw_mem (List.mem_of_getElem? (i := 784) (by decide +kernel)) (by decide +kernel)), (tw_mem (List.mem_of_getElem? (i := 782) (by decide +kernel)) (by decide +kernel)), (tw_mem (List.mem_of_getElem? (i := 783) (by decide +kernel)) (by decide +kernel)), (in_8).2, ⟨TX8, 17, rfl⟩, by decide, by decide, by decide +kernel⟩
theorem cw_cX8_printedFor : VW_ yX8_printedFor cX8_printedFor 2 (some .int) 8 1 := ⟨(tw_mem (List.mem_of_getElem? (i := 872) (by decide +kernel)) (by decide +kernel)), (tw_mem (List.mem_of_getElem? (i := 870) (by decide +kernel)) (by decide +kernel)), (tw_mem (List.mem_of_getElem? (i := 871) (by decide +kernel)) (by decide +kernel)), (in_8).2, ⟨TX8, 17, rfl⟩, by decide, by decide, by decide +kernel⟩
theorem cw_cX8_jobAt : VW_ yX8_jobAt cX8_jobAt 2 (some (.object RX1)) 8 1 := ⟨(tw_mem (List.mem_of_getElem? (i := 600) (by decide +kernel)) (by decide +kernel)), (tw_mem (List.mem_of_getElem? (i := 598) (by decide +kernel)) (by decide +kernel)), (tw_mem (List.mem_of_getElem? (i := 599) (by decide +kernel)) (by decide +kernel)), (in_8).2, ⟨TX8, 17, rfl⟩, by decide, by decide, by decide +kernel⟩
theorem cw_cX8_waitingJobs : VW_ yX8_waitingJobs cX8_waitingJobs 4 (some .int) 8 0 := ⟨(tw_mem (List.mem_of_getElem? (i := 979) (by decide +kernel)) (by decide +kernel)), (tw_mem (List.mem_of_getElem? (i := 977) (by decide +kernel)) (by decide +kernel)), (tw_mem (List.mem_of_getElem? (i := 978) (by decide +kernel)) (by decide +kernel)), (in_8).2, ⟨TX8, 17, rfl⟩, by decide, by decide, by decide +kernel⟩
theorem cw_cX8_loseSheet : VW_ yX8_loseSheet cX8_loseSheet 3 none 8 1 := ⟨(tw_mem (List.mem_of_getElem? (i := 817) (by decide +kernel)) (by decide +kernel)), (tw_mem (List.mem_of_getElem? (i := 815) (by decide +kernel)) (by decide +kernel)), (tw_mem (List.mem_of_getElem? (i := 816) (by decide +kernel)) (by decide +kernel)), (in_8).2, ⟨TX8, 17, rfl⟩, by decide, by decide, by decide +kernel⟩
theorem cw_cX8_printerAt : VW_ yX8_printerAt cX8_printerAt 3 (some (.object RX5)) 8 1 := ⟨(tw_mem (List.mem_of_getElem? (i := 729) (by decide +kernel)) (by decide +kernel)), (tw_mem (List.mem_of_getElem? (i := 727) (by decide +kernel)) (by decide +kernel)), (tw_mem (List.mem_of_getElem? (i := 728) (by decide +kernel)) (by decide +kernel)), (in_8).2, ⟨TX8, 17, rfl⟩, by decide, by decide, by decide +kernel⟩
theorem cw_cX8_countFor : VW_ yX8_countFor cX8_countFor 2 none 8 1 := ⟨(tw_mem (List.mem_of_getElem? (i := 858) (by decide +kernel)) (by decide +kernel)), (tw_mem (List.mem_of_getElem? (i := 857) (by decide +kernel)) (by decide +kernel)), (tw_mem (List.mem_of_getElem? (i := 17) (by decide +kernel)) (by decide +kernel)), (in_8).2, ⟨TX8, 17, rfl⟩, by decide, by decide, by decide +kernel⟩
theorem cw_cX8_markDone : VW_ yX8_markDone cX8_markDone 2 none 8 1 := ⟨(tw_mem (List.mem_of_getElem? (i := 863) (by decide +kernel)) (by decide +kernel)), (tw_mem (List.mem_of_getElem? (i := 862) (by decide +kernel)) (by decide +kernel)), (tw_mem (List.mem_of_getElem? (i := 18) (by decide +kernel)) (by decide +kernel)), (in_8).2, ⟨TX8, 17, rfl⟩, by decide, by decide, by decide +kernel⟩
theorem cw_cX8_hasSupply : VW_ yX8_hasSupply cX8_hasSupply 3 (some .boolean) 8 2 := ⟨(tw_mem (List.mem_of_getElem? (i := 867) (by decide +kernel)) (by decide +kernel)), (tw_mem (List.mem_of_getElem? (i := 866) (by decide +kernel)) (by decide +kernel)), (tw_mem (List.mem_of_getElem? (i := 19) (by decide +kernel)) (by decide +kernel)), (in_8).2, ⟨TX8, 17, rfl⟩, by decide, by decide, by decide +kernel⟩
theorem cw_cX8_isPrintable : VW_ yX8_isPrintable cX8_isPrintable 3 (some .boolean) 8 2 := ⟨(tw_mem (List.mem_of_getElem? (i := 881) (by decide +kernel)) (by decide +kernel)), (tw_mem (List.mem_of_getElem? (i := 880) (by decide +kernel)) (by decide +kernel)), (tw_mem (List.mem_of_getElem? (i := 21) (by decide +kernel)) (by decide +kernel)), (in_8).2, ⟨TX8, 17, rfl⟩, by decide, by decide, by decide +kernel⟩
theorem cw_cX8_bestFor : VW_ yX8_bestFor cX8_bestFor 7 (some (.object RX1)) 8 1 := ⟨(tw_mem (List.mem_of_getElem? (i := 877) (by decide +kernel)) (by decide +kernel)), (tw_mem (List.mem_of_getElem? (i := 876) (by decide +kernel)) (by decide +kernel)), (tw_mem (List.mem_of_getElem? (i := 20) (by decide +kernel)) (by decide +kernel)), (in_8).2, ⟨TX8, 17, rfl⟩, by decide, by decide, by decide +kernel⟩
theorem cw_cX8_isOutranked : VW_ yX8_isOutranked cX8_isOutranked 3 (some .boolean) 8 2 := ⟨(tw_mem (List.mem_of_getElem? (i := 886) (by decide +kernel)) (by decide +kernel)), (tw_mem (List.mem_of_getElem? (i := 885) (by decide +kernel)) (by decide +kernel)), (tw_mem (List.mem_of_getElem? (i := 22) (by decide +kernel)) (by decide +kernel)), (in_8).2, ⟨TX8, 17, rfl⟩, by decide, by decide, by decide +kernel⟩
theorem cw_cX8_beginSheet : VW_ yX8_beginSheet cX8_beginSheet 6 none 8 2 := ⟨(tw_mem (List.mem_of_getElem? (i := 890) (by decide +kernel)) (by decide +kernel)), (tw_mem (List.mem_of_getElem? (i := 889) (by decide +kernel)) (by decide +kernel)), (tw_mem (List.mem_of_getElem? (i := 23) (by decide +kernel)) (by decide +kernel)), (in_8).2, ⟨TX8, 17, rfl⟩, by decide, by decide, by decide +kernel⟩
theorem cw_cX8_endSheet : VW_ yX8_endSheet cX8_endSheet 4 none 8 2 := ⟨(tw_mem (List.mem_of_getElem? (i := 843) (by decide +kernel)) (by decide +kernel)), (tw_mem (List.mem_of_getElem? (i := 842) (by decide +kernel)) (by decide +kernel)), (tw_mem (List.mem_of_getElem? (i := 15) (by decide +kernel)) (by decide +kernel)), (in_8).2, ⟨TX8, 17, rfl⟩, by decide, by decide, by decide +kernel⟩
theorem cw_cX8_passTick : VW_ yX8_passTick cX8_passTick 4 none 8 0 := ⟨(tw_mem (List.mem_of_getElem? (i := 838) (by decide +kernel)) (by decide +kernel)), (tw_mem (List.mem_of_getElem? (i := 837) (by decide +kernel)) (by decide +kernel)), (tw_mem (List.mem_of_getElem? (i := 14) (by decide +kernel)) (by decide +kernel)), (in_8).2, ⟨TX8, 17, rfl⟩, by decide, by decide, by decide +kernel⟩
theorem cw_cX8_skipQuietTicks : VW_ yX8_skipQuietTicks cX8_skipQuietTicks 5 (some .int) 8 1 := ⟨(tw_mem (List.mem_of_getElem? (i := 898) (by decide +kernel)) (by decide +kernel)), (tw_mem (List.mem_of_getElem? (i := 897) (by decide +kernel)) (by decide +kernel)), (tw_mem (List.mem_of_getElem? (i := 24) (by decide +kernel)) (by decide +kernel)), (in_8).2, ⟨TX8, 17, rfl⟩, by decide, by decide, by decide +kernel⟩
theorem cw_cX8_pass : VW_ yX8_pass cX8_pass 3 none 8 1 := ⟨(tw_mem (List.mem_of_getElem? (i := 834) (by decide +kernel)) (by decide +kernel)), (tw_mem (List.mem_of_getElem? (i := 832) (by decide +kernel)) (by decide +kernel)), (tw_mem (List.mem_of_getElem? (i := 833) (by decide +kernel)) (by decide +kernel)), (in_8).2, ⟨TX8, 17, rfl⟩, by decide, by decide, by decide +kernel⟩
theorem cw_cX8_ticksUntilDone : VW_ yX8_ticksUntilDone cX8_ticksUntilDone 5 (some .int) 8 2 := ⟨(tw_mem (List.mem_of_getElem? (i := 959) (by decide +kernel)) (by decide +kernel)), (tw_mem (List.mem_of_getElem? (i := 957) (by decide +kernel)) (by decide +kernel)), (tw_mem (List.mem_of_getElem? (i := 958) (by decide +kernel)) (by decide +kernel)), (in_8).2, ⟨TX8, 17, rfl⟩, by decide, by decide, by decide +kernel⟩
theorem cw_cX8_jobFinishedAs : VW_ yX8_jobFinishedAs cX8_jobFinishedAs 4 (some .int) 8 2 := ⟨(tw_mem (List.mem_of_getElem? (i := 971) (by decide +kernel)) (by decide +kernel)), (tw_mem (List.mem_of_getElem? (i := 969) (by decide +kernel)) (by decide +kernel)), (tw_mem (List.mem_of_getElem? (i := 970) (by decide +kernel)) (by decide +kernel)), (in_8).2, ⟨TX8, 17, rfl⟩, by decide, by decide, by decide +kernel⟩
theorem cw_cX8_init : IW_ yX8_init cX8_init 2 0 := ⟨(tw_mem (List.mem_of_getElem? (i := 102) (by decide +kernel)) (by decide +kernel)), (tw_mem (List.mem_of_getElem? (i := 101) (by decide +kernel)) (by decide +kernel)), (in_8).2, rfl, by decide, by decide, by decide +kernel⟩
theorem cw_cX8_documentAt : VW_ yX8_documentAt cX8_documentAt 3 (some (.object RX0)) 8 1 := ⟨(tw_mem (List.mem_of_getElem? (i := 346) (by decide +kernel)) (by decide +kernel)), (tw_mem (List.mem_of_getElem? (i := 344) (by decide +kernel)) (by decide +kernel)), (tw_mem (List.mem_of_getElem? (i := 345) (by decide +kernel)) (by decide +kernel)), (in_8).2, ⟨TX8, 17, rfl⟩, by decide, by decide, by decide +kernel⟩
theorem cw_cX8_copyJobs : VW_ yX8_copyJobs cX8_copyJobs 4 none 8 1 := ⟨(tw_mem (List.mem_of_getElem? (i := 929) (by decide +kernel)) (by decide +kernel)), (tw_mem (List.mem_of_getElem? (i := 928) (by decide +kernel)) (by decide +kernel)), (tw_mem (List.mem_of_getElem? (i := 25) (by decide +kernel)) (by decide +kernel)), (in_8).2, ⟨TX8, 17, rfl⟩, by decide, by decide, by decide +kernel⟩
theorem cw_cX8_copyPrinters : VW_ yX8_copyPrinters cX8_copyPrinters 5 none 8 1 := ⟨(tw_mem (List.mem_of_getElem? (i := 937) (by decide +kernel)) (by decide +kernel)), (tw_mem (List.mem_of_getElem? (i := 936) (by decide +kernel)) (by decide +kernel)), (tw_mem (List.mem_of_getElem? (i := 26) (by decide +kernel)) (by decide +kernel)), (in_8).2, ⟨TX8, 17, rfl⟩, by decide, by decide, by decide +kernel⟩
theorem cw_cX8_copyFrom : VW_ yX8_copyFrom cX8_copyFrom 3 none 8 1 := ⟨(tw_mem (List.mem_of_getElem? (i := 924) (by decide +kernel)) (by decide +kernel)), (tw_mem (List.mem_of_getElem? (i := 922) (by decide +kernel)) (by decide +kernel)), (tw_mem (List.mem_of_getElem? (i := 923) (by decide +kernel)) (by decide +kernel)), (in_8).2, ⟨TX8, 17, rfl⟩, by decide, by decide, by decide +kernel⟩
theorem cw_cX8_keepDocument : VW_ yX8_keepDocument cX8_keepDocument 2 (some .int) 8 1 := ⟨(tw_mem (List.mem_of_getElem? (i := 338) (by decide +kernel)) (by decide +kernel)), (tw_mem (List.mem_of_getElem? (i := 336) (by decide +kernel)) (by decide +kernel)), (tw_mem (List.mem_of_getElem? (i := 337) (by decide +kernel)) (by decide +kernel)), (in_8).2, ⟨TX8, 17, rfl⟩, by decide, by decide, by decide +kernel⟩
theorem cw_cX8_keepJob : VW_ yX8_keepJob cX8_keepJob 3 (some .int) 8 1 := ⟨(tw_mem (List.mem_of_getElem? (i := 545) (by decide +kernel)) (by decide +kernel)), (tw_mem (List.mem_of_getElem? (i := 543) (by decide +kernel)) (by decide +kernel)), (tw_mem (List.mem_of_getElem? (i := 544) (by decide +kernel)) (by decide +kernel)), (in_8).2, ⟨TX8, 17, rfl⟩, by decide, by decide, by decide +kernel⟩
theorem cw_cX8_keepPrinter : VW_ yX8_keepPrinter cX8_keepPrinter 5 (some .int) 8 3 := ⟨(tw_mem (List.mem_of_getElem? (i := 717) (by decide +kernel)) (by decide +kernel)), (tw_mem (List.mem_of_getElem? (i := 715) (by decide +kernel)) (by decide +kernel)), (tw_mem (List.mem_of_getElem? (i := 716) (by decide +kernel)) (by decide +kernel)), (in_8).2, ⟨TX8, 17, rfl⟩, by decide, by decide, by decide +kernel⟩
theorem cw_cX8_changeSetting : VW_ yX8_changeSetting cX8_changeSetting 3 none 8 2 := ⟨(tw_mem (List.mem_of_getElem? (i := 459) (by decide +kernel)) (by decide +kernel)), (tw_mem (List.mem_of_getElem? (i := 457) (by decide +kernel)) (by decide +kernel)), (tw_mem (List.mem_of_getElem? (i := 458) (by decide +kernel)) (by decide +kernel)), (in_8).2, ⟨TX8, 17, rfl⟩, by decide, by decide, by decide +kernel⟩
theorem cw_cX9_about : VW_ yX9_about cX9_about 5 (some .int) 9 2 := ⟨(tw_mem (List.mem_of_getElem? (i := 596) (by decide +kernel)) (by decide +kernel)), (tw_mem (List.mem_of_getElem? (i := 594) (by decide +kernel)) (by decide +kernel)), (tw_mem (List.mem_of_getElem? (i := 595) (by decide +kernel)) (by decide +kernel)), (in_9).2, ⟨TX9, 5, rfl⟩, by decide, by decide, by decide +kernel⟩
theorem cw_cX9_within : SW_ yX9_within cX9_within 3 (some .boolean) 3 := ⟨(tw_mem (List.mem_of_getElem? (i := 308) (by decide +kernel)) (by decide +kernel)), (tw_mem (List.mem_of_getElem? (i := 307) (by decide +kernel)) (by decide +kernel)), (in_9).2, by decide, by decide, by decide +kernel⟩
theorem cw_cX9_page : VW_ yX9_page cX9_page 7 (some .int) 9 4 := ⟨(tw_mem (List.mem_of_getElem? (i := 612) (by decide +kernel)) (by decide +kernel)), (tw_mem (List.mem_of_getElem? (i := 610) (by decide +kernel)) (by decide +kernel)), (tw_mem (List.mem_of_getElem? (i := 611) (by decide +kernel)) (by decide +kernel)), (in_9).2, ⟨TX9, 5, rfl⟩, by decide, by decide, by decide +kernel⟩
theorem cw_cX9_turned : VW_ yX9_turned cX9_turned 4 (some .int) 9 2 := ⟨(tw_mem (List.mem_of_getElem? (i := 630) (by decide +kernel)) (by decide +kernel)), (tw_mem (List.mem_of_getElem? (i := 628) (by decide +kernel)) (by decide +kernel)), (tw_mem (List.mem_of_getElem? (i := 629) (by decide +kernel)) (by decide +kernel)), (in_9).2, ⟨TX9, 5, rfl⟩, by decide, by decide, by decide +kernel⟩
theorem cw_cX9_blanks : VW_ yX9_blanks cX9_blanks 3 (some .int) 9 1 := ⟨(tw_mem (List.mem_of_getElem? (i := 638) (by decide +kernel)) (by decide +kernel)), (tw_mem (List.mem_of_getElem? (i := 636) (by decide +kernel)) (by decide +kernel)), (tw_mem (List.mem_of_getElem? (i := 637) (by decide +kernel)) (by decide +kernel)), (in_9).2, ⟨TX9, 5, rfl⟩, by decide, by decide, by decide +kernel⟩
theorem cw_cX9_where : VW_ yX9_where cX9_where 5 (some .int) 9 3 := ⟨(tw_mem (List.mem_of_getElem? (i := 646) (by decide +kernel)) (by decide +kernel)), (tw_mem (List.mem_of_getElem? (i := 644) (by decide +kernel)) (by decide +kernel)), (tw_mem (List.mem_of_getElem? (i := 645) (by decide +kernel)) (by decide +kernel)), (in_9).2, ⟨TX9, 5, rfl⟩, by decide, by decide, by decide +kernel⟩
theorem cw_cX9_canonical : VW_ yX9_canonical cX9_canonical 4 (some .int) 9 2 := ⟨(tw_mem (List.mem_of_getElem? (i := 654) (by decide +kernel)) (by decide +kernel)), (tw_mem (List.mem_of_getElem? (i := 652) (by decide +kernel)) (by decide +kernel)), (tw_mem (List.mem_of_getElem? (i := 653) (by decide +kernel)) (by decide +kernel)), (in_9).2, ⟨TX9, 5, rfl⟩, by decide, by decide, by decide +kernel⟩
theorem cw_cX9_addPrinter : VW_ yX9_addPrinter cX9_addPrinter 4 (some .int) 9 3 := ⟨(tw_mem (List.mem_of_getElem? (i := 713) (by decide +kernel)) (by decide +kernel)), (tw_mem (List.mem_of_getElem? (i := 711) (by decide +kernel)) (by decide +kernel)), (tw_mem (List.mem_of_getElem? (i := 712) (by decide +kernel)) (by decide +kernel)), (in_9).2, ⟨TX9, 5, rfl⟩, by decide, by decide, by decide +kernel⟩
theorem cw_cX9_fill : VW_ yX9_fill cX9_fill 6 (some .int) 9 3 := ⟨(tw_mem (List.mem_of_getElem? (i := 725) (by decide +kernel)) (by decide +kernel)), (tw_mem (List.mem_of_getElem? (i := 723) (by decide +kernel)) (by decide +kernel)), (tw_mem (List.mem_of_getElem? (i := 724) (by decide +kernel)) (by decide +kernel)), (in_9).2, ⟨TX9, 5, rfl⟩, by decide, by decide, by decide +kernel⟩
theorem cw_cX9_printer : VW_ yX9_printer cX9_printer 5 (some .int) 9 2 := ⟨(tw_mem (List.mem_of_getElem? (i := 741) (by decide +kernel)) (by decide +kernel)), (tw_mem (List.mem_of_getElem? (i := 739) (by decide +kernel)) (by decide +kernel)), (tw_mem (List.mem_of_getElem? (i := 740) (by decide +kernel)) (by decide +kernel)), (in_9).2, ⟨TX9, 5, rfl⟩, by decide, by decide, by decide +kernel⟩
theorem cw_cX9_side : VW_ yX9_side cX9_side 10 (some .int) 9 5 := ⟨(tw_mem (List.mem_of_getElem? (i := 745) (by decide +kernel)) (by decide +kernel)), (tw_mem (List.mem_of_getElem? (i := 743) (by decide +kernel)) (by decide +kernel)), (tw_mem (List.mem_of_getElem? (i := 744) (by decide +kernel)) (by decide +kernel)), (in_9).2, ⟨TX9, 5, rfl⟩, by decide, by decide, by decide +kernel⟩
theorem cw_cX9_init : IW_ yX9_init cX9_init 2 0 := ⟨(tw_mem (List.mem_of_getElem? (i := 94) (by decide +kernel)) (by decide +kernel)), (tw_mem (List.mem_of_getElem? (i := 93) (by decide +kernel)) (by decide +kernel)), (in_9).2, rfl, by decide, by decide, by decide +kernel⟩
theorem cw_cX9_duration : VW_ yX9_duration cX9_duration 8 (some .int) 9 2 := ⟨(tw_mem (List.mem_of_getElem? (i := 763) (by decide +kernel)) (by decide +kernel)), (tw_mem (List.mem_of_getElem? (i := 761) (by decide +kernel)) (by decide +kernel)), (tw_mem (List.mem_of_getElem? (i := 762) (by decide +kernel)) (by decide +kernel)), (in_9).2, ⟨TX9, 5, rfl⟩, by decide, by decide, by decide +kernel⟩
theorem cw_cX9_setRules : VW_ yX9_setRules cX9_setRules 4 (some .int) 9 2 := ⟨(tw_mem (List.mem_of_getElem? (i := 772) (by decide +kernel)) (by decide +kernel)), (tw_mem (List.mem_of_getElem? (i := 770) (by decide +kernel)) (by decide +kernel)), (tw_mem (List.mem_of_getElem? (i := 771) (by decide +kernel)) (by decide +kernel)), (in_9).2, ⟨TX9, 5, rfl⟩, by decide, by decide, by decide +kernel⟩
theorem cw_cX9_setQuota : VW_ yX9_setQuota cX9_setQuota 4 (some .int) 9 2 := ⟨(tw_mem (List.mem_of_getElem? (i := 776) (by decide +kernel)) (by decide +kernel)), (tw_mem (List.mem_of_getElem? (i := 774) (by decide +kernel)) (by decide +kernel)), (tw_mem (List.mem_of_getElem? (i := 775) (by decide +kernel)) (by decide +kernel)), (in_9).2, ⟨TX9, 5, rfl⟩, by decide, by decide, by decide +kernel⟩
theorem cw_cX9_promote : VW_ yX9_promote cX9_promote 5 (some .int) 9 2 := ⟨(tw_mem (List.mem_of_getElem? (i := 788) (by decide +kernel)) (by decide +kernel)), (tw_mem (List.mem_of_getElem? (i := 786) (by decide +kernel)) (by decide +kernel)), (tw_mem (List.mem_of_getElem? (i := 787) (by decide +kernel)) (by decide +kernel)), (in_9).2, ⟨TX9, 5, rfl⟩, by decide, by decide, by decide +kernel⟩
theorem cw_cX9_hold : VW_ yX9_hold cX9_hold 3 (some .int) 9 1 := ⟨(tw_mem (List.mem_of_getElem? (i := 796) (by decide +kernel)) (by decide +kernel)), (tw_mem (List.mem_of_getElem? (i := 794) (by decide +kernel)) (by decide +kernel)), (tw_mem (List.mem_of_getElem? (i := 795) (by decide +kernel)) (by decide +kernel)), (in_9).2, ⟨TX9, 5, rfl⟩, by decide, by decide, by decide +kernel⟩
theorem cw_cX9_release : VW_ yX9_release cX9_release 3 (some .int) 9 1 := ⟨(tw_mem (List.mem_of_getElem? (i := 804) (by decide +kernel)) (by decide +kernel)), (tw_mem (List.mem_of_getElem? (i := 802) (by decide +kernel)) (by decide +kernel)), (tw_mem (List.mem_of_getElem? (i := 803) (by decide +kernel)) (by decide +kernel)), (in_9).2, ⟨TX9, 5, rfl⟩, by decide, by decide, by decide +kernel⟩
theorem cw_cX9_cancel : VW_ yX9_cancel cX9_cancel 3 (some .int) 9 1 := ⟨(tw_mem (List.mem_of_getElem? (i := 809) (by decide +kernel)) (by decide +kernel)), (tw_mem (List.mem_of_getElem? (i := 807) (by decide +kernel)) (by decide +kernel)), (tw_mem (List.mem_of_getElem? (i := 808) (by decide +kernel)) (by decide +kernel)), (in_9).2, ⟨TX9, 5, rfl⟩, by decide, by decide, by decide +kernel⟩
theorem cw_cX9_jam : VW_ yX9_jam cX9_jam 4 (some .int) 9 1 := ⟨(tw_mem (List.mem_of_getElem? (i := 813) (by decide +kernel)) (by decide +kernel)), (tw_mem (List.mem_of_getElem? (i := 811) (by decide +kernel)) (by decide +kernel)), (tw_mem (List.mem_of_getElem? (i := 812) (by decide +kernel)) (by decide +kernel)), (in_9).2, ⟨TX9, 5, rfl⟩, by decide, by decide, by decide +kernel⟩
theorem cw_cX9_clear : VW_ yX9_clear cX9_clear 3 (some .int) 9 1 := ⟨(tw_mem (List.mem_of_getElem? (i := 826) (by decide +kernel)) (by decide +kernel)), (tw_mem (List.mem_of_getElem? (i := 824) (by decide +kernel)) (by decide +kernel)), (tw_mem (List.mem_of_getElem? (i := 825) (by decide +kernel)) (by decide +kernel)), (in_9).2, ⟨TX9, 5, rfl⟩, by decide, by decide, by decide +kernel⟩
theorem cw_cX9_advance : VW_ yX9_advance cX9_advance 2 (some .int) 9 1 := ⟨(tw_mem (List.mem_of_getElem? (i := 830) (by decide +kernel)) (by decide +kernel)), (tw_mem (List.mem_of_getElem? (i := 828) (by decide +kernel)) (by decide +kernel)), (tw_mem (List.mem_of_getElem? (i := 829) (by decide +kernel)) (by decide +kernel)), (in_9).2, ⟨TX9, 5, rfl⟩, by decide, by decide, by decide +kernel⟩
theorem cw_cX9_addDocument : VW_ yX9_addDocument cX9_addDocument 6 (some .int) 9 5 := ⟨(tw_mem (List.mem_of_getElem? (i := 305) (by decide +kernel)) (by decide +kernel)), (tw_mem (List.mem_of_getElem? (i := 303) (by decide +kernel)) (by decide +kernel)), (tw_mem (List.mem_of_getElem? (i := 304) (by decide +kernel)) (by decide +kernel)), (in_9).2, ⟨TX9, 5, rfl⟩, by decide, by decide, by decide +kernel⟩
theorem cw_cX9_log : VW_ yX9_log cX9_log 3 (some .int) 9 2 := ⟨(tw_mem (List.mem_of_getElem? (i := 903) (by decide +kernel)) (by decide +kernel)), (tw_mem (List.mem_of_getElem? (i := 901) (by decide +kernel)) (by decide +kernel)), (tw_mem (List.mem_of_getElem? (i := 902) (by decide +kernel)) (by decide +kernel)), (in_9).2, ⟨TX9, 5, rfl⟩, by decide, by decide, by decide +kernel⟩
theorem cw_cX9_printed : VW_ yX9_printed cX9_printed 2 (some .int) 9 1 := ⟨(tw_mem (List.mem_of_getElem? (i := 915) (by decide +kernel)) (by decide +kernel)), (tw_mem (List.mem_of_getElem? (i := 913) (by decide +kernel)) (by decide +kernel)), (tw_mem (List.mem_of_getElem? (i := 914) (by decide +kernel)) (by decide +kernel)), (in_9).2, ⟨TX9, 5, rfl⟩, by decide, by decide, by decide +kernel⟩
theorem cw_cX9_finish : VW_ yX9_finish cX9_finish 4 (some .int) 9 2 := ⟨(tw_mem (List.mem_of_getElem? (i := 920) (by decide +kernel)) (by decide +kernel)), (tw_mem (List.mem_of_getElem? (i := 918) (by decide +kernel)) (by decide +kernel)), (tw_mem (List.mem_of_getElem? (i := 919) (by decide +kernel)) (by decide +kernel)), (in_9).2, ⟨TX9, 5, rfl⟩, by decide, by decide, by decide +kernel⟩
theorem cw_cX9_urgency : VW_ yX9_urgency cX9_urgency 6 (some .int) 9 2 := ⟨(tw_mem (List.mem_of_getElem? (i := 963) (by decide +kernel)) (by decide +kernel)), (tw_mem (List.mem_of_getElem? (i := 961) (by decide +kernel)) (by decide +kernel)), (tw_mem (List.mem_of_getElem? (i := 962) (by decide +kernel)) (by decide +kernel)), (in_9).2, ⟨TX9, 5, rfl⟩, by decide, by decide, by decide +kernel⟩
theorem cw_cX9_finisher : VW_ yX9_finisher cX9_finisher 3 (some .int) 9 2 := ⟨(tw_mem (List.mem_of_getElem? (i := 967) (by decide +kernel)) (by decide +kernel)), (tw_mem (List.mem_of_getElem? (i := 965) (by decide +kernel)) (by decide +kernel)), (tw_mem (List.mem_of_getElem? (i := 966) (by decide +kernel)) (by decide +kernel)), (in_9).2, ⟨TX9, 5, rfl⟩, by decide, by decide, by decide +kernel⟩
theorem cw_cX9_count : VW_ yX9_count cX9_count 2 (some .int) 9 1 := ⟨(tw_mem (List.mem_of_getElem? (i := 975) (by decide +kernel)) (by decide +kernel)), (tw_mem (List.mem_of_getElem? (i := 973) (by decide +kernel)) (by decide +kernel)), (tw_mem (List.mem_of_getElem? (i := 974) (by decide +kernel)) (by decide +kernel)), (in_9).2, ⟨TX9, 5, rfl⟩, by decide, by decide, by decide +kernel⟩
theorem cw_cX9_slotAt : VW_ yX9_slotAt cX9_slotAt 2 (some (.object RX8)) 9 1 := ⟨(tw_mem (List.mem_of_getElem? (i := 987) (by decide +kernel)) (by decide +kernel)), (tw_mem (List.mem_of_getElem? (i := 986) (by decide +kernel)) (by decide +kernel)), (tw_mem (List.mem_of_getElem? (i := 27) (by decide +kernel)) (by decide +kernel)), (in_9).2, ⟨TX9, 5, rfl⟩, by decide, by decide, by decide +kernel⟩
theorem cw_cX9_save : VW_ yX9_save cX9_save 3 (some .int) 9 1 := ⟨(tw_mem (List.mem_of_getElem? (i := 983) (by decide +kernel)) (by decide +kernel)), (tw_mem (List.mem_of_getElem? (i := 981) (by decide +kernel)) (by decide +kernel)), (tw_mem (List.mem_of_getElem? (i := 982) (by decide +kernel)) (by decide +kernel)), (in_9).2, ⟨TX9, 5, rfl⟩, by decide, by decide, by decide +kernel⟩
theorem cw_cX9_restore : VW_ yX9_restore cX9_restore 3 (some .int) 9 1 := ⟨(tw_mem (List.mem_of_getElem? (i := 991) (by decide +kernel)) (by decide +kernel)), (tw_mem (List.mem_of_getElem? (i := 989) (by decide +kernel)) (by decide +kernel)), (tw_mem (List.mem_of_getElem? (i := 990) (by decide +kernel)) (by decide +kernel)), (in_9).2, ⟨TX9, 5, rfl⟩, by decide, by decide, by decide +kernel⟩
theorem cw_cX9_isAllowed : SW_ yX9_isAllowed cX9_isAllowed 2 (some .boolean) 2 := ⟨(tw_mem (List.mem_of_getElem? (i := 451) (by decide +kernel)) (by decide +kernel)), (tw_mem (List.mem_of_getElem? (i := 450) (by decide +kernel)) (by decide +kernel)), (in_9).2, by decide, by decide, by decide +kernel⟩
theorem cw_cX9_weight : VW_ yX9_weight cX9_weight 4 (some .int) 9 2 := ⟨(tw_mem (List.mem_of_getElem? (i := 342) (by decide +kernel)) (by decide +kernel)), (tw_mem (List.mem_of_getElem? (i := 340) (by decide +kernel)) (by decide +kernel)), (tw_mem (List.mem_of_getElem? (i := 341) (by decide +kernel)) (by decide +kernel)), (in_9).2, ⟨TX9, 5, rfl⟩, by decide, by decide, by decide +kernel⟩
theorem cw_cX9_gather : VW_ yX9_gather cX9_gather 2 (some .int) 9 1 := ⟨(tw_mem (List.mem_of_getElem? (i := 394) (by decide +kernel)) (by decide +kernel)), (tw_mem (List.mem_of_getElem? (i := 393) (by decide +kernel)) (by decide +kernel)), (tw_mem (List.mem_of_getElem? (i := 1) (by decide +kernel)) (by decide +kernel)), (in_9).2, ⟨TX9, 5, rfl⟩, by decide, by decide, by decide +kernel⟩
theorem cw_cX9_say : VW_ yX9_say cX9_say 2 (some .int) 9 1 := ⟨(tw_mem (List.mem_of_getElem? (i := 354) (by decide +kernel)) (by decide +kernel)), (tw_mem (List.mem_of_getElem? (i := 352) (by decide +kernel)) (by decide +kernel)), (tw_mem (List.mem_of_getElem? (i := 353) (by decide +kernel)) (by decide +kernel)), (in_9).2, ⟨TX9, 5, rfl⟩, by decide, by decide, by decide +kernel⟩
theorem cw_cX9_wipe : VW_ yX9_wipe cX9_wipe 2 (some .int) 9 0 := ⟨(tw_mem (List.mem_of_getElem? (i := 362) (by decide +kernel)) (by decide +kernel)), (tw_mem (List.mem_of_getElem? (i := 360) (by decide +kernel)) (by decide +kernel)), (tw_mem (List.mem_of_getElem? (i := 361) (by decide +kernel)) (by decide +kernel)), (in_9).2, ⟨TX9, 5, rfl⟩, by decide, by decide, by decide +kernel⟩
theorem cw_cX9_fault : VW_ yX9_fault cX9_fault 1 (some .int) 9 0 := ⟨(tw_mem (List.mem_of_getElem? (i := 366) (by decide +kernel)) (by decide +kernel)), (tw_mem (List.mem_of_getElem? (i := 364) (by decide +kernel)) (by decide +kernel)), (tw_mem (List.mem_of_getElem? (i := 365) (by decide +kernel)) (by decide +kernel)), (in_9).2, ⟨TX9, 5, rfl⟩, by decide, by decide, by decide +kernel⟩
theorem cw_cX9_listed : VW_ yX9_listed cX9_listed 5 (some .int) 9 2 := ⟨(tw_mem (List.mem_of_getElem? (i := 390) (by decide +kernel)) (by decide +kernel)), (tw_mem (List.mem_of_getElem? (i := 388) (by decide +kernel)) (by decide +kernel)), (tw_mem (List.mem_of_getElem? (i := 389) (by decide +kernel)) (by decide +kernel)), (in_9).2, ⟨TX9, 5, rfl⟩, by decide, by decide, by decide +kernel⟩
theorem cw_cX9_set : VW_ yX9_set cX9_set 4 (some .int) 9 2 := ⟨(tw_mem (List.mem_of_getElem? (i := 448) (by decide +kernel)) (by decide +kernel)), (tw_mem (List.mem_of_getElem? (i := 446) (by decide +kernel)) (by decide +kernel)), (tw_mem (List.mem_of_getElem? (i := 447) (by decide +kernel)) (by decide +kernel)), (in_9).2, ⟨TX9, 5, rfl⟩, by decide, by decide, by decide +kernel⟩
theorem cw_cX9_submit : VW_ yX9_submit cX9_submit 5 (some .int) 9 1 := ⟨(tw_mem (List.mem_of_getElem? (i := 463) (by decide +kernel)) (by decide +kernel)), (tw_mem (List.mem_of_getElem? (i := 461) (by decide +kernel)) (by decide +kernel)), (tw_mem (List.mem_of_getElem? (i := 462) (by decide +kernel)) (by decide +kernel)), (in_9).2, ⟨TX9, 5, rfl⟩, by decide, by decide, by decide +kernel⟩
theorem cw_cX10_ofPrinter : VW_ yX10_ofPrinter cX10_ofPrinter 3 (some .int) 10 2 := ⟨(tw_mem (List.mem_of_getElem? (i := 1274) (by decide +kernel)) (by decide +kernel)), (tw_mem (List.mem_of_getElem? (i := 1273) (by decide +kernel)) (by decide +kernel)), (tw_mem (List.mem_of_getElem? (i := 58) (by decide +kernel)) (by decide +kernel)), (in_10).2, ⟨TX10, 22, rfl⟩, by decide, by decide, by decide +kernel⟩
theorem cw_cX10_setPrinter : VW_ yX10_setPrinter cX10_setPrinter 4 none 10 3 := ⟨(tw_mem (List.mem_of_getElem? (i := 1262) (by decide +kernel)) (by decide +kernel)), (tw_mem (List.mem_of_getElem? (i := 1261) (by decide +kernel)) (by decide +kernel)), (tw_mem (List.mem_of_getElem? (i := 56) (by decide +kernel)) (by decide +kernel)), (in_10).2, ⟨TX10, 22, rfl⟩, by decide, by decide, by decide +kernel⟩
theorem cw_cX10_in : SW_ yX10_in cX10_in 3 (some .boolean) 3 := ⟨(tw_mem (List.mem_of_getElem? (i := 1072) (by decide +kernel)) (by decide +kernel)), (tw_mem (List.mem_of_getElem? (i := 1071) (by decide +kernel)) (by decide +kernel)), (in_10).2, by decide, by decide, by decide +kernel⟩
theorem cw_cX10_addDocument : VW_ yX10_addDocument cX10_addDocument 7 (some .int) 10 5 := ⟨(tw_mem (List.mem_of_getElem? (i := 1069) (by decide +kernel)) (by decide +kernel)), (tw_mem (List.mem_of_getElem? (i := 1067) (by decide +kernel)) (by decide +kernel)), (tw_mem (List.mem_of_getElem? (i := 1068) (by decide +kernel)) (by decide +kernel)), (in_10).2, ⟨TX10, 22, rfl⟩, by decide, by decide, by decide +kernel⟩
theorem cw_cX10_ofDocument : VW_ yX10_ofDocument cX10_ofDocument 3 (some .int) 10 2 := ⟨(tw_mem (List.mem_of_getElem? (i := 1084) (by decide +kernel)) (by decide +kernel)), (tw_mem (List.mem_of_getElem? (i := 1083) (by decide +kernel)) (by decide +kernel)), (tw_mem (List.mem_of_getElem? (i := 29) (by decide +kernel)) (by decide +kernel)), (in_10).2, ⟨TX10, 22, rfl⟩, by decide, by decide, by decide +kernel⟩
theorem cw_cX10_weightOf : VW_ yX10_weightOf cX10_weightOf 3 (some .int) 10 2 := ⟨(tw_mem (List.mem_of_getElem? (i := 1088) (by decide +kernel)) (by decide +kernel)), (tw_mem (List.mem_of_getElem? (i := 1087) (by decide +kernel)) (by decide +kernel)), (tw_mem (List.mem_of_getElem? (i := 30) (by decide +kernel)) (by decide +kernel)), (in_10).2, ⟨TX10, 22, rfl⟩, by decide, by decide, by decide +kernel⟩
theorem cw_cX10_isDocument : VW_ yX10_isDocument cX10_isDocument 2 (some .boolean) 10 1 := ⟨(tw_mem (List.mem_of_getElem? (i := 1080) (by decide +kernel)) (by decide +kernel)), (tw_mem (List.mem_of_getElem? (i := 1079) (by decide +kernel)) (by decide +kernel)), (tw_mem (List.mem_of_getElem? (i := 28) (by decide +kernel)) (by decide +kernel)), (in_10).2, ⟨TX10, 22, rfl⟩, by decide, by decide, by decide +kernel⟩
theorem cw_cX10_weight : VW_ yX10_weight cX10_weight 3 (some .int) 10 2 := ⟨(tw_mem (List.mem_of_getElem? (i := 1076) (by decide +kernel)) (by decide +kernel)), (tw_mem (List.mem_of_getElem? (i := 1074) (by decide +kernel)) (by decide +kernel)), (tw_mem (List.mem_of_getElem? (i := 1075) (by decide +kernel)) (by decide +kernel)), (in_10).2, ⟨TX10, 22, rfl⟩, by decide, by decide, by decide +kernel⟩
theorem cw_cX10_say : VW_ yX10_say cX10_say 2 (some .int) 10 1 := ⟨(tw_mem (List.mem_of_getElem? (i := 1092) (by decide +kernel)) (by decide +kernel)), (tw_mem (List.mem_of_getElem? (i := 1090) (by decide +kernel)) (by decide +kernel)), (tw_mem (List.mem_of_getElem? (i := 1091) (by decide +kernel)) (by decide +kernel)), (in_10).2, ⟨TX10, 22, rfl⟩, by decide, by decide, by decide +kernel⟩
theorem cw_cX10_wipe : VW_ yX10_wipe cX10_wipe 2 (some .int) 10 0 := ⟨(tw_mem (List.mem_of_getElem? (i := 1096) (by decide +kernel)) (by decide +kernel)), (tw_mem (List.mem_of_getElem? (i := 1094) (by decide +kernel)) (by decide +kernel)), (tw_mem (List.mem_of_getElem? (i := 1095) (by decide +kernel)) (by decide +kernel)), (in_10).2, ⟨TX10, 22, rfl⟩, by decide, by decide, by decide +kernel⟩
theorem cw_cX10_signAt : VW_ yX10_signAt cX10_signAt 2 (some .int) 10 1 := ⟨(tw_mem (List.mem_of_getElem? (i := 1112) (by decide +kernel)) (by decide +kernel)), (tw_mem (List.mem_of_getElem? (i := 1111) (by decide +kernel)) (by decide +kernel)), (tw_mem (List.mem_of_getElem? (i := 33) (by decide +kernel)) (by decide +kernel)), (in_10).2, ⟨TX10, 22, rfl⟩, by decide, by decide, by decide +kernel⟩
theorem cw_cX10_isDigit : SW_ yX10_isDigit cX10_isDigit 2 (some .boolean) 2 := ⟨(tw_mem (List.mem_of_getElem? (i := 1119) (by decide +kernel)) (by decide +kernel)), (tw_mem (List.mem_of_getElem? (i := 1118) (by decide +kernel)) (by decide +kernel)), (in_10).2, by decide, by decide, by decide +kernel⟩
theorem cw_cX10_isHalf : SW_ yX10_isHalf cX10_isHalf 1 (some .boolean) 1 := ⟨(tw_mem (List.mem_of_getElem? (i := 1122) (by decide +kernel)) (by decide +kernel)), (tw_mem (List.mem_of_getElem? (i := 1121) (by decide +kernel)) (by decide +kernel)), (in_10).2, by decide, by decide, by decide +kernel⟩
theorem cw_cX10_init : IW_ yX10_init cX10_init 2 0 := ⟨(tw_mem (List.mem_of_getElem? (i := 996) (by decide +kernel)) (by decide +kernel)), (tw_mem (List.mem_of_getElem? (i := 995) (by decide +kernel)) (by decide +kernel)), (in_10).2, rfl, by decide, by decide, by decide +kernel⟩
theorem cw_cX10_readNumber : VW_ yX10_readNumber cX10_readNumber 3 (some .int) 10 0 := ⟨(tw_mem (List.mem_of_getElem? (i := 1116) (by decide +kernel)) (by decide +kernel)), (tw_mem (List.mem_of_getElem? (i := 1115) (by decide +kernel)) (by decide +kernel)), (tw_mem (List.mem_of_getElem? (i := 34) (by decide +kernel)) (by decide +kernel)), (in_10).2, ⟨TX10, 22, rfl⟩, by decide, by decide, by decide +kernel⟩
theorem cw_cX10_readItem : VW_ yX10_readItem cX10_readItem 1 none 10 0 := ⟨(tw_mem (List.mem_of_getElem? (i := 1108) (by decide +kernel)) (by decide +kernel)), (tw_mem (List.mem_of_getElem? (i := 1107) (by decide +kernel)) (by decide +kernel)), (tw_mem (List.mem_of_getElem? (i := 32) (by decide +kernel)) (by decide +kernel)), (in_10).2, ⟨TX10, 22, rfl⟩, by decide, by decide, by decide +kernel⟩
theorem cw_cX10_faultOf : VW_ yX10_faultOf cX10_faultOf 2 (some .int) 10 0 := ⟨(tw_mem (List.mem_of_getElem? (i := 1104) (by decide +kernel)) (by decide +kernel)), (tw_mem (List.mem_of_getElem? (i := 1103) (by decide +kernel)) (by decide +kernel)), (tw_mem (List.mem_of_getElem? (i := 31) (by decide +kernel)) (by decide +kernel)), (in_10).2, ⟨TX10, 22, rfl⟩, by decide, by decide, by decide +kernel⟩
theorem cw_cX10_fault : VW_ yX10_fault cX10_fault 1 (some .int) 10 0 := ⟨(tw_mem (List.mem_of_getElem? (i := 1100) (by decide +kernel)) (by decide +kernel)), (tw_mem (List.mem_of_getElem? (i := 1098) (by decide +kernel)) (by decide +kernel)), (tw_mem (List.mem_of_getElem? (i := 1099) (by decide +kernel)) (by decide +kernel)), (in_10).2, ⟨TX10, 22, rfl⟩, by decide, by decide, by decide +kernel⟩
theorem cw_cX10_isPart : VW_ yX10_isPart cX10_isPart 2 (some .boolean) 10 1 := ⟨(tw_mem (List.mem_of_getElem? (i := 1142) (by decide +kernel)) (by decide +kernel)), (tw_mem (List.mem_of_getElem? (i := 1141) (by decide +kernel)) (by decide +kernel)), (tw_mem (List.mem_of_getElem? (i := 38) (by decide +kernel)) (by decide +kernel)), (in_10).2, ⟨TX10, 22, rfl⟩, by decide, by decide, by decide +kernel⟩
theorem cw_cX10_isInItem : VW_ yX10_isInItem cX10_isInItem 5 (some .boolean) 10 2 := ⟨(tw_mem (List.mem_of_getElem? (i := 1138) (by decide +kernel)) (by decide +kernel)), (tw_mem (List.mem_of_getElem? (i := 1137) (by decide +kernel)) (by decide +kernel)), (tw_mem (List.mem_of_getElem? (i := 37) (by decide +kernel)) (by decide +kernel)), (in_10).2, ⟨TX10, 22, rfl⟩, by decide, by decide, by decide +kernel⟩
theorem cw_cX10_takeOut : VW_ yX10_takeOut cX10_takeOut 4 none 10 1 := ⟨(tw_mem (List.mem_of_getElem? (i := 1134) (by decide +kernel)) (by decide +kernel)), (tw_mem (List.mem_of_getElem? (i := 1133) (by decide +kernel)) (by decide +kernel)), (tw_mem (List.mem_of_getElem? (i := 36) (by decide +kernel)) (by decide +kernel)), (in_10).2, ⟨TX10, 22, rfl⟩, by decide, by decide, by decide +kernel⟩
theorem cw_cX10_append : VW_ yX10_append cX10_append 7 none 10 2 := ⟨(tw_mem (List.mem_of_getElem? (i := 1146) (by decide +kernel)) (by decide +kernel)), (tw_mem (List.mem_of_getElem? (i := 1145) (by decide +kernel)) (by decide +kernel)), (tw_mem (List.mem_of_getElem? (i := 39) (by decide +kernel)) (by decide +kernel)), (in_10).2, ⟨TX10, 22, rfl⟩, by decide, by decide, by decide +kernel⟩
theorem cw_cX10_makeList : VW_ yX10_makeList cX10_makeList 7 (some .boolean) 10 1 := ⟨(tw_mem (List.mem_of_getElem? (i := 1130) (by decide +kernel)) (by decide +kernel)), (tw_mem (List.mem_of_getElem? (i := 1129) (by decide +kernel)) (by decide +kernel)), (tw_mem (List.mem_of_getElem? (i := 35) (by decide +kernel)) (by decide +kernel)), (in_10).2, ⟨TX10, 22, rfl⟩, by decide, by decide, by decide +kernel⟩
theorem cw_cX10_listed : VW_ yX10_listed cX10_listed 3 (some .int) 10 2 := ⟨(tw_mem (List.mem_of_getElem? (i := 1126) (by decide +kernel)) (by decide +kernel)), (tw_mem (List.mem_of_getElem? (i := 1124) (by decide +kernel)) (by decide +kernel)), (tw_mem (List.mem_of_getElem? (i := 1125) (by decide +kernel)) (by decide +kernel)), (in_10).2, ⟨TX10, 22, rfl⟩, by decide, by decide, by decide +kernel⟩
theorem cw_cX10_isUser : SW_ yX10_isUser cX10_isUser 1 (some .boolean) 1 := ⟨(tw_mem (List.mem_of_getElem? (i := 1156) (by decide +kernel)) (by decide +kernel)), (tw_mem (List.mem_of_getElem? (i := 1155) (by decide +kernel)) (by decide +kernel)), (in_10).2, by decide, by decide, by decide +kernel⟩
theorem cw_cX10_isValue : SW_ yX10_isValue cX10_isValue 2 (some .boolean) 2 := ⟨(tw_mem (List.mem_of_getElem? (i := 1153) (by decide +kernel)) (by decide +kernel)), (tw_mem (List.mem_of_getElem? (i := 1152) (by decide +kernel)) (by decide +kernel)), (in_10).2, by decide, by decide, by decide +kernel⟩
theorem cw_cX10_set : VW_ yX10_set cX10_set 4 (some .int) 10 2 := ⟨(tw_mem (List.mem_of_getElem? (i := 1150) (by decide +kernel)) (by decide +kernel)), (tw_mem (List.mem_of_getElem? (i := 1148) (by decide +kernel)) (by decide +kernel)), (tw_mem (List.mem_of_getElem? (i := 1149) (by decide +kernel)) (by decide +kernel)), (in_10).2, ⟨TX10, 22, rfl⟩, by decide, by decide, by decide +kernel⟩
theorem cw_cX10_setJob : VW_ yX10_setJob cX10_setJob 4 none 10 3 := ⟨(tw_mem (List.mem_of_getElem? (i := 1164) (by decide +kernel)) (by decide +kernel)), (tw_mem (List.mem_of_getElem? (i := 1163) (by decide +kernel)) (by decide +kernel)), (tw_mem (List.mem_of_getElem? (i := 40) (by decide +kernel)) (by decide +kernel)), (in_10).2, ⟨TX10, 22, rfl⟩, by decide, by decide, by decide +kernel⟩
theorem cw_cX10_ofJob : VW_ yX10_ofJob cX10_ofJob 3 (some .int) 10 2 := ⟨(tw_mem (List.mem_of_getElem? (i := 1172) (by decide +kernel)) (by decide +kernel)), (tw_mem (List.mem_of_getElem? (i := 1171) (by decide +kernel)) (by decide +kernel)), (tw_mem (List.mem_of_getElem? (i := 42) (by decide +kernel)) (by decide +kernel)), (in_10).2, ⟨TX10, 22, rfl⟩, by decide, by decide, by decide +kernel⟩
theorem cw_cX10_isBooklet : VW_ yX10_isBooklet cX10_isBooklet 2 (some .boolean) 10 1 := ⟨(tw_mem (List.mem_of_getElem? (i := 1176) (by decide +kernel)) (by decide +kernel)), (tw_mem (List.mem_of_getElem? (i := 1175) (by decide +kernel)) (by decide +kernel)), (tw_mem (List.mem_of_getElem? (i := 43) (by decide +kernel)) (by decide +kernel)), (in_10).2, ⟨TX10, 22, rfl⟩, by decide, by decide, by decide +kernel⟩
theorem cw_cX10_perSide : VW_ yX10_perSide cX10_perSide 2 (some .int) 10 1 := ⟨(tw_mem (List.mem_of_getElem? (i := 1180) (by decide +kernel)) (by decide +kernel)), (tw_mem (List.mem_of_getElem? (i := 1179) (by decide +kernel)) (by decide +kernel)), (tw_mem (List.mem_of_getElem? (i := 44) (by decide +kernel)) (by decide +kernel)), (in_10).2, ⟨TX10, 22, rfl⟩, by decide, by decide, by decide +kernel⟩
theorem cw_cX10_sidesOf : VW_ yX10_sidesOf cX10_sidesOf 2 (some .int) 10 1 := ⟨(tw_mem (List.mem_of_getElem? (i := 1184) (by decide +kernel)) (by decide +kernel)), (tw_mem (List.mem_of_getElem? (i := 1183) (by decide +kernel)) (by decide +kernel)), (tw_mem (List.mem_of_getElem? (i := 45) (by decide +kernel)) (by decide +kernel)), (in_10).2, ⟨TX10, 22, rfl⟩, by decide, by decide, by decide +kernel⟩
theorem cw_cX10_sheetsOfCopy : VW_ yX10_sheetsOfCopy cX10_sheetsOfCopy 4 (some .int) 10 1 := ⟨(tw_mem (List.mem_of_getElem? (i := 1168) (by decide +kernel)) (by decide +kernel)), (tw_mem (List.mem_of_getElem? (i := 1167) (by decide +kernel)) (by decide +kernel)), (tw_mem (List.mem_of_getElem? (i := 41) (by decide +kernel)) (by decide +kernel)), (in_10).2, ⟨TX10, 22, rfl⟩, by decide, by decide, by decide +kernel⟩
theorem cw_cX10_submit : VW_ yX10_submit cX10_submit 5 (some .int) 10 1 := ⟨(tw_mem (List.mem_of_getElem? (i := 1160) (by decide +kernel)) (by decide +kernel)), (tw_mem (List.mem_of_getElem? (i := 1158) (by decide +kernel)) (by decide +kernel)), (tw_mem (List.mem_of_getElem? (i := 1159) (by decide +kernel)) (by decide +kernel)), (in_10).2, ⟨TX10, 22, rfl⟩, by decide, by decide, by decide +kernel⟩
theorem cw_cX10_elementAt : VW_ yX10_elementAt cX10_elementAt 6 (some .int) 10 4 := ⟨(tw_mem (List.mem_of_getElem? (i := 1212) (by decide +kernel)) (by decide +kernel)), (tw_mem (List.mem_of_getElem? (i := 1211) (by decide +kernel)) (by decide +kernel)), (tw_mem (List.mem_of_getElem? (i := 50) (by decide +kernel)) (by decide +kernel)), (in_10).2, ⟨TX10, 22, rfl⟩, by decide, by decide, by decide +kernel⟩
theorem cw_cX10_pageAt : VW_ yX10_pageAt cX10_pageAt 7 (some .int) 10 4 := ⟨(tw_mem (List.mem_of_getElem? (i := 1208) (by decide +kernel)) (by decide +kernel)), (tw_mem (List.mem_of_getElem? (i := 1207) (by decide +kernel)) (by decide +kernel)), (tw_mem (List.mem_of_getElem? (i := 49) (by decide +kernel)) (by decide +kernel)), (in_10).2, ⟨TX10, 22, rfl⟩, by decide, by decide, by decide +kernel⟩
theorem cw_cX10_rankOf : VW_ yX10_rankOf cX10_rankOf 2 (some .int) 10 1 := ⟨(tw_mem (List.mem_of_getElem? (i := 1196) (by decide +kernel)) (by decide +kernel)), (tw_mem (List.mem_of_getElem? (i := 1195) (by decide +kernel)) (by decide +kernel)), (tw_mem (List.mem_of_getElem? (i := 47) (by decide +kernel)) (by decide +kernel)), (in_10).2, ⟨TX10, 22, rfl⟩, by decide, by decide, by decide +kernel⟩
theorem cw_cX10_isJob : VW_ yX10_isJob cX10_isJob 2 (some .boolean) 10 1 := ⟨(tw_mem (List.mem_of_getElem? (i := 1192) (by decide +kernel)) (by decide +kernel)), (tw_mem (List.mem_of_getElem? (i := 1191) (by decide +kernel)) (by decide +kernel)), (tw_mem (List.mem_of_getElem? (i := 46) (by decide +kernel)) (by decide +kernel)), (in_10).2, ⟨TX10, 22, rfl⟩, by decide, by decide, by decide +kernel⟩
theorem cw_cX10_about : VW_ yX10_about cX10_about 3 (some .int) 10 2 := ⟨(tw_mem (List.mem_of_getElem? (i := 1188) (by decide +kernel)) (by decide +kernel)), (tw_mem (List.mem_of_getElem? (i := 1186) (by decide +kernel)) (by decide +kernel)), (tw_mem (List.mem_of_getElem? (i := 1187) (by decide +kernel)) (by decide +kernel)), (in_10).2, ⟨TX10, 22, rfl⟩, by decide, by decide, by decide +kernel⟩
theorem cw_cX10_isSheet : VW_ yX10_isSheet cX10_isSheet 3 (some .boolean) 10 2 := ⟨(tw_mem (List.mem_of_getElem? (i := 1204) (by decide +kernel)) (by decide +kernel)), (tw_mem (List.mem_of_getElem? (i := 1203) (by decide +kernel)) (by decide +kernel)), (tw_mem (List.mem_of_getElem? (i := 48) (by decide +kernel)) (by decide +kernel)), (in_10).2, ⟨TX10, 22, rfl⟩, by decide, by decide, by decide +kernel⟩
theorem cw_cX10_page : VW_ yX10_page cX10_page 5 (some .int) 10 4 := ⟨(tw_mem (List.mem_of_getElem? (i := 1200) (by decide +kernel)) (by decide +kernel)), (tw_mem (List.mem_of_getElem? (i := 1198) (by decide +kernel)) (by decide +kernel)), (tw_mem (List.mem_of_getElem? (i := 1199) (by decide +kernel)) (by decide +kernel)), (in_10).2, ⟨TX10, 22, rfl⟩, by decide, by decide, by decide +kernel⟩
theorem cw_cX10_turned : VW_ yX10_turned cX10_turned 3 (some .int) 10 2 := ⟨(tw_mem (List.mem_of_getElem? (i := 1216) (by decide +kernel)) (by decide +kernel)), (tw_mem (List.mem_of_getElem? (i := 1214) (by decide +kernel)) (by decide +kernel)), (tw_mem (List.mem_of_getElem? (i := 1215) (by decide +kernel)) (by decide +kernel)), (in_10).2, ⟨TX10, 22, rfl⟩, by decide, by decide, by decide +kernel⟩
theorem cw_cX10_blanks : VW_ yX10_blanks cX10_blanks 3 (some .int) 10 1 := ⟨(tw_mem (List.mem_of_getElem? (i := 1220) (by decide +kernel)) (by decide +kernel)), (tw_mem (List.mem_of_getElem? (i := 1218) (by decide +kernel)) (by decide +kernel)), (tw_mem (List.mem_of_getElem? (i := 1219) (by decide +kernel)) (by decide +kernel)), (in_10).2, ⟨TX10, 22, rfl⟩, by decide, by decide, by decide +kernel⟩
theorem cw_cX10_where : VW_ yX10_where cX10_where 8 (some .int) 10 3 := ⟨(tw_mem (List.mem_of_getElem? (i := 1224) (by decide +kernel)) (by decide +kernel)), (tw_mem (List.mem_of_getElem? (i := 1222) (by decide +kernel)) (by decide +kernel)), (tw_mem (List.mem_of_getElem? (i := 1223) (by decide +kernel)) (by decide +kernel)), (in_10).2, ⟨TX10, 22, rfl⟩, by decide, by decide, by decide +kernel⟩
theorem cw_cX10_figures : SW_ yX10_figures cX10_figures 1 (some .int) 1 := ⟨(tw_mem (List.mem_of_getElem? (i := 1243) (by decide +kernel)) (by decide +kernel)), (tw_mem (List.mem_of_getElem? (i := 1242) (by decide +kernel)) (by decide +kernel)), (in_10).2, by decide, by decide, by decide +kernel⟩
theorem cw_cX10_signsOf : VW_ yX10_signsOf cX10_signsOf 7 (some .int) 10 4 := ⟨(tw_mem (List.mem_of_getElem? (i := 1240) (by decide +kernel)) (by decide +kernel)), (tw_mem (List.mem_of_getElem? (i := 1239) (by decide +kernel)) (by decide +kernel)), (tw_mem (List.mem_of_getElem? (i := 53) (by decide +kernel)) (by decide +kernel)), (in_10).2, ⟨TX10, 22, rfl⟩, by decide, by decide, by decide +kernel⟩
theorem cw_cX10_takeItem : VW_ yX10_takeItem cX10_takeItem 9 none 10 4 := ⟨(tw_mem (List.mem_of_getElem? (i := 1236) (by decide +kernel)) (by decide +kernel)), (tw_mem (List.mem_of_getElem? (i := 1235) (by decide +kernel)) (by decide +kernel)), (tw_mem (List.mem_of_getElem? (i := 52) (by decide +kernel)) (by decide +kernel)), (in_10).2, ⟨TX10, 22, rfl⟩, by decide, by decide, by decide +kernel⟩
theorem cw_cX10_stepAt : VW_ yX10_stepAt cX10_stepAt 3 (some .int) 10 2 := ⟨(tw_mem (List.mem_of_getElem? (i := 1247) (by decide +kernel)) (by decide +kernel)), (tw_mem (List.mem_of_getElem? (i := 1246) (by decide +kernel)) (by decide +kernel)), (tw_mem (List.mem_of_getElem? (i := 54) (by decide +kernel)) (by decide +kernel)), (in_10).2, ⟨TX10, 22, rfl⟩, by decide, by decide, by decide +kernel⟩
theorem cw_cX10_layText : VW_ yX10_layText cX10_layText 7 none 10 1 := ⟨(tw_mem (List.mem_of_getElem? (i := 1232) (by decide +kernel)) (by decide +kernel)), (tw_mem (List.mem_of_getElem? (i := 1231) (by decide +kernel)) (by decide +kernel)), (tw_mem (List.mem_of_getElem? (i := 51) (by decide +kernel)) (by decide +kernel)), (in_10).2, ⟨TX10, 22, rfl⟩, by decide, by decide, by decide +kernel⟩
theorem cw_cX10_figure : SW_ yX10_figure cX10_figure 5 (some .int) 2 := ⟨(tw_mem (List.mem_of_getElem? (i := 1254) (by decide +kernel)) (by decide +kernel)), (tw_mem (List.mem_of_getElem? (i := 1253) (by decide +kernel)) (by decide +kernel)), (in_10).2, by decide, by decide, by decide +kernel⟩
theorem cw_cX10_signOf : VW_ yX10_signOf cX10_signOf 8 (some .int) 10 3 := ⟨(tw_mem (List.mem_of_getElem? (i := 1251) (by decide +kernel)) (by decide +kernel)), (tw_mem (List.mem_of_getElem? (i := 1250) (by decide +kernel)) (by decide +kernel)), (tw_mem (List.mem_of_getElem? (i := 55) (by decide +kernel)) (by decide +kernel)), (in_10).2, ⟨TX10, 22, rfl⟩, by decide, by decide, by decide +kernel⟩
theorem cw_cX10_canonical : VW_ yX10_canonical cX10_canonical 8 (some .int) 10 2 := ⟨(tw_mem (List.mem_of_getElem? (i := 1228) (by decide +kernel)) (by decide +kernel)), (tw_mem (List.mem_of_getElem? (i := 1226) (by decide +kernel)) (by decide +kernel)), (tw_mem (List.mem_of_getElem? (i := 1227) (by decide +kernel)) (by decide +kernel)), (in_10).2, ⟨TX10, 22, rfl⟩, by decide, by decide, by decide +kernel⟩
theorem cw_cX10_addPrinter : VW_ yX10_addPrinter cX10_addPrinter 6 (some .int) 10 3 := ⟨(tw_mem (List.mem_of_getElem? (i := 1258) (by decide +kernel)) (by decide +kernel)), (tw_mem (List.mem_of_getElem? (i := 1256) (by decide +kernel)) (by decide +kernel)), (tw_mem (List.mem_of_getElem? (i := 1257) (by decide +kernel)) (by decide +kernel)), (in_10).2, ⟨TX10, 22, rfl⟩, by decide, by decide, by decide +kernel⟩
theorem cw_cX10_isPrinter : VW_ yX10_isPrinter cX10_isPrinter 2 (some .boolean) 10 1 := ⟨(tw_mem (List.mem_of_getElem? (i := 1270) (by decide +kernel)) (by decide +kernel)), (tw_mem (List.mem_of_getElem? (i := 1269) (by decide +kernel)) (by decide +kernel)), (tw_mem (List.mem_of_getElem? (i := 57) (by decide +kernel)) (by decide +kernel)), (in_10).2, ⟨TX10, 22, rfl⟩, by decide, by decide, by decide +kernel⟩
theorem cw_cX10_fill : VW_ yX10_fill cX10_fill 5 (some .int) 10 3 := ⟨(tw_mem (List.mem_of_getElem? (i := 1266) (by decide +kernel)) (by decide +kernel)), (tw_mem (List.mem_of_getElem? (i := 1264) (by decide +kernel)) (by decide +kernel)), (tw_mem (List.mem_of_getElem? (i := 1265) (by decide +kernel)) (by decide +kernel)), (in_10).2, ⟨TX10, 22, rfl⟩, by decide, by decide, by decide +kernel⟩
theorem cw_cX10_printer : VW_ yX10_printer cX10_printer 4 (some .int) 10 2 := ⟨(tw_mem (List.mem_of_getElem? (i := 1278) (by decide +kernel)) (by decide +kernel)), (tw_mem (List.mem_of_getElem? (i := 1276) (by decide +kernel)) (by decide +kernel)), (tw_mem (List.mem_of_getElem? (i := 1277) (by decide +kernel)) (by decide +kernel)), (in_10).2, ⟨TX10, 22, rfl⟩, by decide, by decide, by decide +kernel⟩
theorem cw_cX10_bandsFor : SW_ yX10_bandsFor cX10_bandsFor 3 (some .int) 2 := ⟨(tw_mem (List.mem_of_getElem? (i := 1289) (by decide +kernel)) (by decide +kernel)), (tw_mem (List.mem_of_getElem? (i := 1288) (by decide +kernel)) (by decide +kernel)), (in_10).2, by decide, by decide, by decide +kernel⟩
theorem cw_cX10_laySide : VW_ yX10_laySide cX10_laySide 8 none 10 4 := ⟨(tw_mem (List.mem_of_getElem? (i := 1286) (by decide +kernel)) (by decide +kernel)), (tw_mem (List.mem_of_getElem? (i := 1285) (by decide +kernel)) (by decide +kernel)), (tw_mem (List.mem_of_getElem? (i := 59) (by decide +kernel)) (by decide +kernel)), (in_10).2, ⟨TX10, 22, rfl⟩, by decide, by decide, by decide +kernel⟩
theorem cw_cX10_side : VW_ yX10_side cX10_side 6 (some .int) 10 5 := ⟨(tw_mem (List.mem_of_getElem? (i := 1282) (by decide +kernel)) (by decide +kernel)), (tw_mem (List.mem_of_getElem? (i := 1280) (by decide +kernel)) (by decide +kernel)), (tw_mem (List.mem_of_getElem? (i := 1281) (by decide +kernel)) (by decide +kernel)), (in_10).2, ⟨TX10, 22, rfl⟩, by decide, by decide, by decide +kernel⟩
theorem cw_cX10_ticksFor : VW_ yX10_ticksFor cX10_ticksFor 6 (some .int) 10 3 := ⟨(tw_mem (List.mem_of_getElem? (i := 1297) (by decide +kernel)) (by decide +kernel)), (tw_mem (List.mem_of_getElem? (i := 1296) (by decide +kernel)) (by decide +kernel)), (tw_mem (List.mem_of_getElem? (i := 60) (by decide +kernel)) (by decide +kernel)), (in_10).2, ⟨TX10, 22, rfl⟩, by decide, by decide, by decide +kernel⟩
theorem cw_cX10_duration : VW_ yX10_duration cX10_duration 5 (some .int) 10 2 := ⟨(tw_mem (List.mem_of_getElem? (i := 1293) (by decide +kernel)) (by decide +kernel)), (tw_mem (List.mem_of_getElem? (i := 1291) (by decide +kernel)) (by decide +kernel)), (tw_mem (List.mem_of_getElem? (i := 1292) (by decide +kernel)) (by decide +kernel)), (in_10).2, ⟨TX10, 22, rfl⟩, by decide, by decide, by decide +kernel⟩
theorem cw_cX10_setRules : VW_ yX10_setRules cX10_setRules 4 (some .int) 10 2 := ⟨(tw_mem (List.mem_of_getElem? (i := 1301) (by decide +kernel)) (by decide +kernel)), (tw_mem (List.mem_of_getElem? (i := 1299) (by decide +kernel)) (by decide +kernel)), (tw_mem (List.mem_of_getElem? (i := 1300) (by decide +kernel)) (by decide +kernel)), (in_10).2, ⟨TX10, 22, rfl⟩, by decide, by decide, by decide +kernel⟩
theorem cw_cX10_setQuota : VW_ yX10_setQuota cX10_setQuota 4 (some .int) 10 2 := ⟨(tw_mem (List.mem_of_getElem? (i := 1305) (by decide +kernel)) (by decide +kernel)), (tw_mem (List.mem_of_getElem? (i := 1303) (by decide +kernel)) (by decide +kernel)), (tw_mem (List.mem_of_getElem? (i := 1304) (by decide +kernel)) (by decide +kernel)), (in_10).2, ⟨TX10, 22, rfl⟩, by decide, by decide, by decide +kernel⟩
theorem cw_cX10_isOver : VW_ yX10_isOver cX10_isOver 2 (some .boolean) 10 1 := ⟨(tw_mem (List.mem_of_getElem? (i := 1313) (by decide +kernel)) (by decide +kernel)), (tw_mem (List.mem_of_getElem? (i := 1312) (by decide +kernel)) (by decide +kernel)), (tw_mem (List.mem_of_getElem? (i := 61) (by decide +kernel)) (by decide +kernel)), (in_10).2, ⟨TX10, 22, rfl⟩, by decide, by decide, by decide +kernel⟩
theorem cw_cX10_promote : VW_ yX10_promote cX10_promote 4 (some .int) 10 2 := ⟨(tw_mem (List.mem_of_getElem? (i := 1309) (by decide +kernel)) (by decide +kernel)), (tw_mem (List.mem_of_getElem? (i := 1307) (by decide +kernel)) (by decide +kernel)), (tw_mem (List.mem_of_getElem? (i := 1308) (by decide +kernel)) (by decide +kernel)), (in_10).2, ⟨TX10, 22, rfl⟩, by decide, by decide, by decide +kernel⟩
theorem cw_cX10_hold : VW_ yX10_hold cX10_hold 3 (some .int) 10 1 := ⟨(tw_mem (List.mem_of_getElem? (i := 1317) (by decide +kernel)) (by decide +kernel)), (tw_mem (List.mem_of_getElem? (i := 1315) (by decide +kernel)) (by decide +kernel)), (tw_mem (List.mem_of_getElem? (i := 1316) (by decide +kernel)) (by decide +kernel)), (in_10).2, ⟨TX10, 22, rfl⟩, by decide, by decide, by decide +kernel⟩
theorem cw_cX10_becomeWaiting : VW_ yX10_becomeWaiting cX10_becomeWaiting 2 none 10 1 := ⟨(tw_mem (List.mem_of_getElem? (i := 1325) (by decide +kernel)) (by decide +kernel)), (tw_mem (List.mem_of_getElem? (i := 1324) (by decide +kernel)) (by decide +kernel)), (tw_mem (List.mem_of_getElem? (i := 62) (by decide +kernel)) (by decide +kernel)), (in_10).2, ⟨TX10, 22, rfl⟩, by decide, by decide, by decide +kernel⟩
theorem cw_cX10_release : VW_ yX10_release cX10_release 3 (some .int) 10 1 := ⟨(tw_mem (List.mem_of_getElem? (i := 1321) (by decide +kernel)) (by decide +kernel)), (tw_mem (List.mem_of_getElem? (i := 1319) (by decide +kernel)) (by decide +kernel)), (tw_mem (List.mem_of_getElem? (i := 1320) (by decide +kernel)) (by decide +kernel)), (in_10).2, ⟨TX10, 22, rfl⟩, by decide, by decide, by decide +kernel⟩
theorem cw_cX10_cancel : VW_ yX10_cancel cX10_cancel 2 (some .int) 10 1 := ⟨(tw_mem (List.mem_of_getElem? (i := 1329) (by decide +kernel)) (by decide +kernel)), (tw_mem (List.mem_of_getElem? (i := 1327) (by decide +kernel)) (by decide +kernel)), (tw_mem (List.mem_of_getElem? (i := 1328) (by decide +kernel)) (by decide +kernel)), (in_10).2, ⟨TX10, 22, rfl⟩, by decide, by decide, by decide +kernel⟩
theorem cw_cX10_leave : VW_ yX10_leave cX10_leave 2 none 10 1 := ⟨(tw_mem (List.mem_of_getElem? (i := 1337) (by decide +kernel)) (by decide +kernel)), (tw_mem (List.mem_of_getElem? (i := 1336) (by decide +kernel)) (by decide +kernel)), (tw_mem (List.mem_of_getElem? (i := 63) (by decide +kernel)) (by decide +kernel)), (in_10).2, ⟨TX10, 22, rfl⟩, by decide, by decide, by decide +kernel⟩
theorem cw_cX10_jam : VW_ yX10_jam cX10_jam 3 (some .int) 10 1 := ⟨(tw_mem (List.mem_of_getElem? (i := 1333) (by decide +kernel)) (by decide +kernel)), (tw_mem (List.mem_of_getElem? (i := 1331) (by decide +kernel)) (by decide +kernel)), (tw_mem (List.mem_of_getElem? (i := 1332) (by decide +kernel)) (by decide +kernel)), (in_10).2, ⟨TX10, 22, rfl⟩, by decide, by decide, by decide +kernel⟩
theorem cw_cX10_clear : VW_ yX10_clear cX10_clear 2 (some .int) 10 1 := ⟨(tw_mem (List.mem_of_getElem? (i := 1341) (by decide +kernel)) (by decide +kernel)), (tw_mem (List.mem_of_getElem? (i := 1339) (by decide +kernel)) (by decide +kernel)), (tw_mem (List.mem_of_getElem? (i := 1340) (by decide +kernel)) (by decide +kernel)), (in_10).2, ⟨TX10, 22, rfl⟩, by decide, by decide, by decide +kernel⟩
theorem cw_cX10_trayFor : VW_ yX10_trayFor cX10_trayFor 3 (some .int) 10 2 := ⟨(tw_mem (List.mem_of_getElem? (i := 1361) (by decide +kernel)) (by decide +kernel)), (tw_mem (List.mem_of_getElem? (i := 1360) (by decide +kernel)) (by decide +kernel)), (tw_mem (List.mem_of_getElem? (i := 67) (by decide +kernel)) (by decide +kernel)), (in_10).2, ⟨TX10, 22, rfl⟩, by decide, by decide, by decide +kernel⟩
theorem cw_cX10_hasQuota : VW_ yX10_hasQuota cX10_hasQuota 2 (some .boolean) 10 1 := ⟨(tw_mem (List.mem_of_getElem? (i := 1365) (by decide +kernel)) (by decide +kernel)), (tw_mem (List.mem_of_getElem? (i := 1364) (by decide +kernel)) (by decide +kernel)), (tw_mem (List.mem_of_getElem? (i := 68) (by decide +kernel)) (by decide +kernel)), (in_10).2, ⟨TX10, 22, rfl⟩, by decide, by decide, by decide +kernel⟩
theorem cw_cX10_isPrintable : VW_ yX10_isPrintable cX10_isPrintable 4 (some .boolean) 10 2 := ⟨(tw_mem (List.mem_of_getElem? (i := 1373) (by decide +kernel)) (by decide +kernel)), (tw_mem (List.mem_of_getElem? (i := 1372) (by decide +kernel)) (by decide +kernel)), (tw_mem (List.mem_of_getElem? (i := 70) (by decide +kernel)) (by decide +kernel)), (in_10).2, ⟨TX10, 22, rfl⟩, by decide, by decide, by decide +kernel⟩
theorem cw_cX10_bestFor : VW_ yX10_bestFor cX10_bestFor 4 (some .int) 10 1 := ⟨(tw_mem (List.mem_of_getElem? (i := 1369) (by decide +kernel)) (by decide +kernel)), (tw_mem (List.mem_of_getElem? (i := 1368) (by decide +kernel)) (by decide +kernel)), (tw_mem (List.mem_of_getElem? (i := 69) (by decide +kernel)) (by decide +kernel)), (in_10).2, ⟨TX10, 22, rfl⟩, by decide, by decide, by decide +kernel⟩
theorem cw_cX10_begin : VW_ yX10_begin cX10_begin 4 none 10 2 := ⟨(tw_mem (List.mem_of_getElem? (i := 1377) (by decide +kernel)) (by decide +kernel)), (tw_mem (List.mem_of_getElem? (i := 1376) (by decide +kernel)) (by decide +kernel)), (tw_mem (List.mem_of_getElem? (i := 71) (by decide +kernel)) (by decide +kernel)), (in_10).2, ⟨TX10, 22, rfl⟩, by decide, by decide, by decide +kernel⟩
theorem cw_cX10_record : VW_ yX10_record cX10_record 4 none 10 2 := ⟨(tw_mem (List.mem_of_getElem? (i := 1357) (by decide +kernel)) (by decide +kernel)), (tw_mem (List.mem_of_getElem? (i := 1356) (by decide +kernel)) (by decide +kernel)), (tw_mem (List.mem_of_getElem? (i := 66) (by decide +kernel)) (by decide +kernel)), (in_10).2, ⟨TX10, 22, rfl⟩, by decide, by decide, by decide +kernel⟩
theorem cw_cX10_endSheet : VW_ yX10_endSheet cX10_endSheet 4 none 10 2 := ⟨(tw_mem (List.mem_of_getElem? (i := 1353) (by decide +kernel)) (by decide +kernel)), (tw_mem (List.mem_of_getElem? (i := 1352) (by decide +kernel)) (by decide +kernel)), (tw_mem (List.mem_of_getElem? (i := 65) (by decide +kernel)) (by decide +kernel)), (in_10).2, ⟨TX10, 22, rfl⟩, by decide, by decide, by decide +kernel⟩
theorem cw_cX10_tick : VW_ yX10_tick cX10_tick 3 none 10 0 := ⟨(tw_mem (List.mem_of_getElem? (i := 1349) (by decide +kernel)) (by decide +kernel)), (tw_mem (List.mem_of_getElem? (i := 1348) (by decide +kernel)) (by decide +kernel)), (tw_mem (List.mem_of_getElem? (i := 64) (by decide +kernel)) (by decide +kernel)), (in_10).2, ⟨TX10, 22, rfl⟩, by decide, by decide, by decide +kernel⟩
theorem cw_cX10_advance : VW_ yX10_advance cX10_advance 3 (some .int) 10 1 := ⟨(tw_mem (List.mem_of_getElem? (i := 1345) (by decide +kernel)) (by decide +kernel)), (tw_mem (List.mem_of_getElem? (i := 1343) (by decide +kernel)) (by decide +kernel)), (tw_mem (List.mem_of_getElem? (i := 1344) (by decide +kernel)) (by decide +kernel)), (in_10).2, ⟨TX10, 22, rfl⟩, by decide, by decide, by decide +kernel⟩
theorem cw_cX10_log : VW_ yX10_log cX10_log 3 (some .int) 10 2 := ⟨(tw_mem (List.mem_of_getElem? (i := 1381) (by decide +kernel)) (by decide +kernel)), (tw_mem (List.mem_of_getElem? (i := 1379) (by decide +kernel)) (by decide +kernel)), (tw_mem (List.mem_of_getElem? (i := 1380) (by decide +kernel)) (by decide +kernel)), (in_10).2, ⟨TX10, 22, rfl⟩, by decide, by decide, by decide +kernel⟩
theorem cw_cX10_printed : VW_ yX10_printed cX10_printed 2 (some .int) 10 1 := ⟨(tw_mem (List.mem_of_getElem? (i := 1385) (by decide +kernel)) (by decide +kernel)), (tw_mem (List.mem_of_getElem? (i := 1383) (by decide +kernel)) (by decide +kernel)), (tw_mem (List.mem_of_getElem? (i := 1384) (by decide +kernel)) (by decide +kernel)), (in_10).2, ⟨TX10, 22, rfl⟩, by decide, by decide, by decide +kernel⟩
theorem cw_cX10_putAside : VW_ yX10_putAside cX10_putAside 2 none 10 0 := ⟨(tw_mem (List.mem_of_getElem? (i := 1393) (by decide +kernel)) (by decide +kernel)), (tw_mem (List.mem_of_getElem? (i := 1392) (by decide +kernel)) (by decide +kernel)), (tw_mem (List.mem_of_getElem? (i := 72) (by decide +kernel)) (by decide +kernel)), (in_10).2, ⟨TX10, 22, rfl⟩, by decide, by decide, by decide +kernel⟩
theorem cw_cX10_putBack : VW_ yX10_putBack cX10_putBack 2 none 10 0 := ⟨(tw_mem (List.mem_of_getElem? (i := 1397) (by decide +kernel)) (by decide +kernel)), (tw_mem (List.mem_of_getElem? (i := 1396) (by decide +kernel)) (by decide +kernel)), (tw_mem (List.mem_of_getElem? (i := 73) (by decide +kernel)) (by decide +kernel)), (in_10).2, ⟨TX10, 22, rfl⟩, by decide, by decide, by decide +kernel⟩
theorem cw_cX10_finish : VW_ yX10_finish cX10_finish 5 (some .int) 10 2 := ⟨(tw_mem (List.mem_of_getElem? (i := 1389) (by decide +kernel)) (by decide +kernel)), (tw_mem (List.mem_of_getElem? (i := 1387) (by decide +kernel)) (by decide +kernel)), (tw_mem (List.mem_of_getElem? (i := 1388) (by decide +kernel)) (by decide +kernel)), (in_10).2, ⟨TX10, 22, rfl⟩, by decide, by decide, by decide +kernel⟩
theorem cw_cX10_isInTime : VW_ yX10_isInTime cX10_isInTime 5 (some .boolean) 10 3 := ⟨(tw_mem (List.mem_of_getElem? (i := 1405) (by decide +kernel)) (by decide +kernel)), (tw_mem (List.mem_of_getElem? (i := 1404) (by decide +kernel)) (by decide +kernel)), (tw_mem (List.mem_of_getElem? (i := 74) (by decide +kernel)) (by decide +kernel)), (in_10).2, ⟨TX10, 22, rfl⟩, by decide, by decide, by decide +kernel⟩
theorem cw_cX10_urgency : VW_ yX10_urgency cX10_urgency 4 (some .int) 10 2 := ⟨(tw_mem (List.mem_of_getElem? (i := 1401) (by decide +kernel)) (by decide +kernel)), (tw_mem (List.mem_of_getElem? (i := 1399) (by decide +kernel)) (by decide +kernel)), (tw_mem (List.mem_of_getElem? (i := 1400) (by decide +kernel)) (by decide +kernel)), (in_10).2, ⟨TX10, 22, rfl⟩, by decide, by decide, by decide +kernel⟩
theorem cw_cX10_finisher : VW_ yX10_finisher cX10_finisher 4 (some .int) 10 2 := ⟨(tw_mem (List.mem_of_getElem? (i := 1409) (by decide +kernel)) (by decide +kernel)), (tw_mem (List.mem_of_getElem? (i := 1407) (by decide +kernel)) (by decide +kernel)), (tw_mem (List.mem_of_getElem? (i := 1408) (by decide +kernel)) (by decide +kernel)), (in_10).2, ⟨TX10, 22, rfl⟩, by decide, by decide, by decide +kernel⟩
theorem cw_cX10_waiting : VW_ yX10_waiting cX10_waiting 3 (some .int) 10 0 := ⟨(tw_mem (List.mem_of_getElem? (i := 1417) (by decide +kernel)) (by decide +kernel)), (tw_mem (List.mem_of_getElem? (i := 1416) (by decide +kernel)) (by decide +kernel)), (tw_mem (List.mem_of_getElem? (i := 75) (by decide +kernel)) (by decide +kernel)), (in_10).2, ⟨TX10, 22, rfl⟩, by decide, by decide, by decide +kernel⟩
theorem cw_cX10_count : VW_ yX10_count cX10_count 2 (some .int) 10 1 := ⟨(tw_mem (List.mem_of_getElem? (i := 1413) (by decide +kernel)) (by decide +kernel)), (tw_mem (List.mem_of_getElem? (i := 1411) (by decide +kernel)) (by decide +kernel)), (tw_mem (List.mem_of_getElem? (i := 1412) (by decide +kernel)) (by decide +kernel)), (in_10).2, ⟨TX10, 22, rfl⟩, by decide, by decide, by decide +kernel⟩
theorem cw_cX10_save : VW_ yX10_save cX10_save 3 (some .int) 10 1 := ⟨(tw_mem (List.mem_of_getElem? (i := 1421) (by decide +kernel)) (by decide +kernel)), (tw_mem (List.mem_of_getElem? (i := 1419) (by decide +kernel)) (by decide +kernel)), (tw_mem (List.mem_of_getElem? (i := 1420) (by decide +kernel)) (by decide +kernel)), (in_10).2, ⟨TX10, 22, rfl⟩, by decide, by decide, by decide +kernel⟩
theorem cw_cX10_restore : VW_ yX10_restore cX10_restore 3 (some .int) 10 1 := ⟨(tw_mem (List.mem_of_getElem? (i := 1425) (by decide +kernel)) (by decide +kernel)), (tw_mem (List.mem_of_getElem? (i := 1423) (by decide +kernel)) (by decide +kernel)), (tw_mem (List.mem_of_getElem? (i := 1424) (by decide +kernel)) (by decide +kernel)), (in_10).2, ⟨TX10, 22, rfl⟩, by decide, by decide, by decide +kernel⟩
end
section
/-! calls, by what comes back -/
section KC2
variable {own : String} {cc : ByteArray} {nL : Nat} {ret : Option FieldType} {dep loc : Nat} {ini : Bool} {ρ : Type} {E : ρ → Option AV_} {pc : Nat} {L : List (Option AV_)} {st st0 : List AV_} {g : GS_}
theorem k_callVi {y : MethodName} {b : ByteArray} {maxL index t a n dep' loc' : Nat} {ret' : Option FieldType} {f : Option (Int32 × GS_)} {oo : Int32 → GS_ → Option (ρ × GS_)} (As : List AV_) (hM : Cn_ y b maxL ret' dep' loc' EI_ (.inr (t, some a) :: As) g f) (hw : VW_ y b maxL ret' t n) (hl : Cond.methodLink own index y ∈ TW_ ∨ ∃ host, Cond.methodLinkNest own index y host ∈ tables_1) (hs : As.reverse ++ .inr (t, some a) :: st = st0) (hlen : As.length = n) (hfr : dep' + 1 ≤ dep) (hlo : 8 + (maxL + 11) + loc' ≤ loc) (hW : st.length ≤ 8) (d : decode cc pc = .ok (.invokevirtual index, 3)) (kk : ∀ v g1, K_ own cc nL ret dep loc ini E (pc + 3) L (.inl v :: st) g1 (oo v g1)) : K_ own cc nL ret dep loc ini E pc L st0 g (bd_ f oo) := k_callV As hM hw hl hs hlen hfr hlo hW d (fun v g1 => kk v g1)
theorem k_callVv {y : MethodName} {b : ByteArray} {maxL index t a n dep' loc' : Nat} {ret' : Option FieldType} {f : Option (Unit × GS_)} {oo : Unit → GS_ → Option (ρ × GS_)} (As : List AV_) (hM : Cn_ y b maxL ret' dep' loc' EV_ (.inr (t, some a) :: As) g f) (hw : VW_ y b maxL ret' t n) (hl : Cond.methodLink own index y ∈ TW_ ∨ ∃ host, Cond.methodLinkNest own index y host ∈ tables_1) (hs : As.reverse ++ .inr (t, some a) :: st = st0) (hlen : As.length = n) (hfr : dep' + 1 ≤ dep) (hlo : 8 + (maxL + 11) + loc' ≤ loc) (hW : st.length ≤ 8) (d : decode cc pc = .ok (.invokevirtual index, 3)) (kk : ∀ v g1, K_ own cc nL ret dep loc ini E (pc + 3) L (st) g1 (oo v g1)) : K_ own cc nL ret dep loc ini E pc L st0 g (bd_ f oo) := k_callV As hM hw hl hs hlen hfr hlo hW d (fun v g1 => kk v g1)
theorem k_callVr {y : MethodName} {b : ByteArray} {maxL index t a n dep' loc' : Nat} {ret' : Option FieldType} {t2 : Nat} {f : Option (Option Nat × GS_)} {oo : Option Nat → GS_ → Option (ρ × GS_)} (As : List AV_) (hM : Cn_ y b maxL ret' dep' loc' (ER_ t2) (.inr (t, some a) :: As) g f) (hw : VW_ y b maxL ret' t n) (hl : Cond.methodLink own index y ∈ TW_ ∨ ∃ host, Cond.methodLinkNest own index y host ∈ tables_1) (hs : As.reverse ++ .inr (t, some a) :: st = st0) (hlen : As.length = n) (hfr : dep' + 1 ≤ dep) (hlo : 8 + (maxL + 11) + loc' ≤ loc) (hW : st.length ≤ 8) (d : decode cc pc = .ok (.invokevirtual index, 3)) (kk : ∀ v g1, K_ own cc nL ret dep loc ini E (pc + 3) L (.inr (t2, v) :: st) g1 (oo v g1)) : K_ own cc nL ret dep loc ini E pc L st0 g (bd_ f oo) := k_callV As hM hw hl hs hlen hfr hlo hW d (fun v g1 => kk v g1)
theorem k_callSi {y : MethodName} {b : ByteArray} {maxL index n dep' loc' : Nat} {ret' : Option FieldType} {f : Option (Int32 × GS_)} {oo : Int32 → GS_ → Option (ρ × GS_)} (As : List AV_) (hM : Cn_ y b maxL ret' dep' loc' EI_ As g f) (hw : SW_ y b maxL ret' n) (hl : Cond.methodLink own index y ∈ TW_) (hs : As.reverse ++ st = st0) (hlen : As.length = n) (hfr : dep' + 1 ≤ dep) (hlo : 8 + (maxL + 11) + loc' ≤ loc) (hW : st.length ≤ 8) (d : decode cc pc = .ok (.invokestatic index, 3)) (kk : ∀ v g1, K_ own cc nL ret dep loc ini E (pc + 3) L (.inl v :: st) g1 (oo v g1)) : K_ own cc nL ret dep loc ini E pc L st0 g (bd_ f oo) := k_callS As hM hw hl hs hlen hfr hlo hW d (fun v g1 => kk v g1)
theorem k_callSv {y : MethodName} {b : ByteArray} {maxL index n dep' loc' : Nat} {ret' : Option FieldType} {f : Option (Unit × GS_)} {oo : Unit → GS_ → Option (ρ × GS_)} (As : List AV_) (hM : Cn_ y b maxL ret' dep' loc' EV_ As g f) (hw : SW_ y b maxL ret' n) (hl : Cond.methodLink own index y ∈ TW_) (hs : As.reverse ++ st = st0) (hlen : As.length = n) (hfr : dep' + 1 ≤ dep) (hlo : 8 + (maxL + 11) + loc' ≤ loc) (hW : st.length ≤ 8) (d : decode cc pc = .ok (.invokestatic index, 3)) (kk : ∀ v g1, K_ own cc nL ret dep loc ini E (pc + 3) L (st) g1 (oo v g1)) : K_ own cc nL ret dep loc ini E pc L st0 g (bd_ f oo) := k_callS As hM hw hl hs hlen hfr hlo hW d (fun v g1 => kk v g1)
theorem k_callSr {y : MethodName} {b : ByteArray} {maxL index n dep' loc' : Nat} {ret' : Option FieldType} {t2 : Nat} {f : Option (Option Nat × GS_)} {oo : Option Nat → GS_ → Option (ρ × GS_)} (As : List AV_) (hM : Cn_ y b maxL ret' dep' loc' (ER_ t2) As g f) (hw : SW_ y b maxL ret' n) (hl : Cond.methodLink own index y ∈ TW_) (hs : As.reverse ++ st = st0) (hlen : As.length = n) (hfr : dep' + 1 ≤ dep) (hlo : 8 + (maxL + 11) + loc' ≤ loc) (hW : st.length ≤ 8) (d : decode cc pc = .ok (.invokestatic index, 3)) (kk : ∀ v g1, K_ own cc nL ret dep loc ini E (pc + 3) L (.inr (t2, v) :: st) g1 (oo v g1)) : K_ own cc nL ret dep loc ini E pc L st0 g (bd_ f oo) := k_callS As hM hw hl hs hlen hfr hlo hW d (fun v g1 => kk v g1)
theorem k_callIv {y : MethodName} {b : ByteArray} {maxL index t a n dep' loc' : Nat} {f : Option (Unit × GS_)} {oo : Unit → GS_ → Option (ρ × GS_)} (As : List AV_) (hM : Cn_ y b maxL none dep' loc' EV_ (.inr (t, some a) :: As) g f) (hw : IW_ y b maxL n) (hl : Cond.methodLink own index y ∈ TW_ ∨ ∃ host, Cond.methodLinkNest own index y host ∈ tables_1) (hs : As.reverse ++ .inr (t, some a) :: st = st0) (hlen : As.length = n) (hfr : dep' + 1 ≤ dep) (hlo : 8 + (maxL + 11) + loc' ≤ loc) (hW : st.length ≤ 8) (d : decode cc pc = .ok (.invokespecial index, 3)) (kk : ∀ v g1, K_ own cc nL ret dep loc ini E (pc + 3) L (st) g1 (oo v g1)) : K_ own cc nL ret dep loc ini E pc L st0 g (bd_ f oo) := k_callI As hM hw hl hs hlen hfr hlo hW d (fun v g1 => kk v g1)
end KC2
end
section
/-! methods as functions over numbers, and that the machine does them: written by wip/whole/gen/mkparts.py (decode rows: printed names) -/
theorem dX0_init_0 : decode cX0_init 0 = .ok (.aload_n 0, 1) := by decide +kernel
theorem dX0_init_1 : decode cX0_init 1 = .ok (.invokespecial 1, 3) := by decide +kernel
theorem dX0_init_4 : decode cX0_init 4 = .ok (.aload_n 0, 1) := by decide +kernel
theorem dX0_init_5 : decode cX0_init 5 = .ok (.iload_n 1, 1) := by decide +kernel
theorem dX0_init_6 : decode cX0_init 6 = .ok (.putfield 7, 3) := by decide +kernel
theorem dX0_init_9 : decode cX0_init 9 = .ok (.aload_n 0, 1) := by decide +kernel
theorem dX0_init_10 : decode cX0_init 10 = .ok (.iload_n 2, 1) := by decide +kernel
theorem dX0_init_11 : decode cX0_init 11 = .ok (.putfield 13, 3) := by decide +kernel
theorem dX0_init_14 : decode cX0_init 14 = .ok (.aload_n 0, 1) := by decide +kernel
theorem dX0_init_15 : decode cX0_init 15 = .ok (.iload_n 3, 1) := by decide +kernel
theorem dX0_init_16 : decode cX0_init 16 = .ok (.putfield 16, 3) := by decide +kernel
theorem dX0_init_19 : decode cX0_init 19 = .ok (.aload_n 0, 1) := by decide +kernel
theorem dX0_init_20 : decode cX0_init 20 = .ok (.iload 4, 2) := by decide +kernel
theorem dX0_init_22 : decode cX0_init 22 = .ok (.putfield 19, 3) := by decide +kernel
theorem dX0_init_25 : decode cX0_init 25 = .ok (.aload_n 0, 1) := by decide +kernel
theorem dX0_init_26 : decode cX0_init 26 = .ok (.iload 5, 2) := by decide +kernel
theorem dX0_init_28 : decode cX0_init 28 = .ok (.putfield 22, 3) := by decide +kernel
theorem dX0_init_31 : decode cX0_init 31 = .ok (.return_, 1) := by decide +kernel
def f0_init (v0 : Nat) (v1 : Int32) (v2 : Int32) (v3 : Int32) (v4 : Int32) (v5 : Int32) (g : GS_) : Option (Unit × GS_) :=
  lr_ (sfi g 0 v0 v1) fun g1 => lr_ (sfi g1 1 v0 v2) fun g2 => lr_ (sfi g2 2 v0 v3) fun g3 => lr_ (sfi g3 3 v0 v4) fun g4 => lr_ (sfi g4 4 v0 v5) fun g5 => some ((), g5)
theorem t0_init (v0 : Nat) (v1 : Int32) (v2 : Int32) (v3 : Int32) (v4 : Int32) (v5 : Int32) (g : GS_) : Cn_ yX0_init cX0_init 6 none 1 12 EV_ [.inr (0, some v0), .inl v1, .inl v2, .inl v3, .inl v4, .inl v5] g (f0_init v0 v1 v2 v3 v4 v5 g) := by
  refine k_method (own := RX0) (ini := true) (L1 := [some (.inr (0, some v0)), some (.inl v1), some (.inl v2), some (.inl v3), some (.inl v4), some (.inl v5)]) (by decide +kernel) rfl (fun _ => rfl) (Nat.le_of_ble_eq_true rfl) rfl ?_
  unfold f0_init
  refine k_aloadn (j := 0) dX0_init_0 rfl rfl ?_
  refine k_objInit ml_0_1 oi_.1 oi_.2 (by decide) (Nat.le_of_ble_eq_true rfl) dX0_init_1 ?_
  refine k_aloadn (j := 0) dX0_init_4 rfl rfl ?_
  refine k_iloadn (j := 1) dX0_init_5 rfl rfl ?_
  refine k_putfi fp_0_7 rfl rfl rfl dX0_init_6 (fun g1 => ?_)
  refine k_aloadn (j := 0) dX0_init_9 rfl rfl ?_
  refine k_iloadn (j := 2) dX0_init_10 rfl rfl ?_
  refine k_putfi fp_0_13 rfl rfl rfl dX0_init_11 (fun g2 => ?_)
  refine k_aloadn (j := 0) dX0_init_14 rfl rfl ?_
  refine k_iloadn (j := 3) dX0_init_15 rfl rfl ?_
  refine k_putfi fp_0_16 rfl rfl rfl dX0_init_16 (fun g3 => ?_)
  refine k_aloadn (j := 0) dX0_init_19 rfl rfl ?_
  refine k_iload dX0_init_20 rfl ?_
  refine k_putfi fp_0_19 rfl rfl rfl dX0_init_22 (fun g4 => ?_)
  refine k_aloadn (j := 0) dX0_init_25 rfl rfl ?_
  refine k_iload dX0_init_26 rfl ?_
  refine k_putfi fp_0_22 rfl rfl rfl dX0_init_28 (fun g5 => ?_)
  exact k_return rfl dX0_init_31
theorem dX0_weightOf_0 : decode cX0_weightOf 0 = .ok (.aload_n 0, 1) := by decide +kernel
theorem dX0_weightOf_1 : decode cX0_weightOf 1 = .ok (.getfield 22, 3) := by decide +kernel
theorem dX0_weightOf_4 : decode cX0_weightOf 4 = .ok (.iconst 1, 1) := by decide +kernel
theorem dX0_weightOf_5 : decode cX0_weightOf 5 = .ok (.if_icmp .ge 10, 3) := by decide +kernel
theorem dX0_weightOf_8 : decode cX0_weightOf 8 = .ok (.aload_n 0, 1) := by decide +kernel
theorem dX0_weightOf_9 : decode cX0_weightOf 9 = .ok (.getfield 16, 3) := by decide +kernel
theorem dX0_weightOf_12 : decode cX0_weightOf 12 = .ok (.goto 19, 3) := by decide +kernel
theorem dX0_weightOf_15 : decode cX0_weightOf 15 = .ok (.aload_n 0, 1) := by decide +kernel
theorem dX0_weightOf_16 : decode cX0_weightOf 16 = .ok (.getfield 16, 3) := by decide +kernel
theorem dX0_weightOf_19 : decode cX0_weightOf 19 = .ok (.iload_n 1, 1) := by decide +kernel
theorem dX0_weightOf_20 : decode cX0_weightOf 20 = .ok (.aload_n 0, 1) := by decide +kernel
theorem dX0_weightOf_21 : decode cX0_weightOf 21 = .ok (.getfield 19, 3) := by decide +kernel
theorem dX0_weightOf_24 : decode cX0_weightOf 24 = .ok (.imul, 1) := by decide +kernel
theorem dX0_weightOf_25 : decode cX0_weightOf 25 = .ok (.aload_n 0, 1) := by decide +kernel
theorem dX0_weightOf_26 : decode cX0_weightOf 26 = .ok (.getfield 22, 3) := by decide +kernel
theorem dX0_weightOf_29 : decode cX0_weightOf 29 = .ok (.irem, 1) := by decide +kernel
theorem dX0_weightOf_30 : decode cX0_weightOf 30 = .ok (.iadd, 1) := by decide +kernel
theorem dX0_weightOf_31 : decode cX0_weightOf 31 = .ok (.ireturn, 1) := by decide +kernel
def f0_weightOf (v0 : Nat) (v1 : Int32) (g : GS_) : Option (Int32 × GS_) :=
  if (1 : Int32) ≤ (gfi g 4 v0) then if (gfi g 4 v0) = 0 then none else some (((gfi g 2 v0) + (jrem (v1 * (gfi g 3 v0)) (gfi g 4 v0))), g) else some ((gfi g 2 v0), g)
theorem t0_weightOf (v0 : Nat) (v1 : Int32) (g : GS_) : Cn_ yX0_weightOf cX0_weightOf 2 (some .int) 0 0 EI_ [.inr (0, some v0), .inl v1] g (f0_weightOf v0 v1 g) := by
  refine k_method (own := RX0) (ini := false) (L1 := [some (.inr (0, some v0)), some (.inl v1)]) (by decide +kernel) rfl (fun h => by cases h) (Nat.le_of_ble_eq_true rfl) rfl ?_
  unfold f0_weightOf
  refine k_aloadn (j := 0) dX0_weightOf_0 rfl rfl ?_
  refine k_geti fg_0_22 rfl rfl dX0_weightOf_1 ?_
  refine k_iconst (v := (1 : Int32)) dX0_weightOf_4 rfl ?_
  refine k_icmpge (tgt := 15) dX0_weightOf_5 (by decide) (fun _ => ?_) (fun _ => ?_)
  · refine k_aloadn (j := 0) dX0_weightOf_15 rfl rfl ?_
    refine k_geti fg_0_16 rfl rfl dX0_weightOf_16 ?_
    refine k_iloadn (j := 1) dX0_weightOf_19 rfl rfl ?_
    refine k_aloadn (j := 0) dX0_weightOf_20 rfl rfl ?_
    refine k_geti fg_0_19 rfl rfl dX0_weightOf_21 ?_
    refine k_imul dX0_weightOf_24 ?_
    refine k_aloadn (j := 0) dX0_weightOf_25 rfl rfl ?_
    refine k_geti fg_0_22 rfl rfl dX0_weightOf_26 ?_
    refine k_irem dX0_weightOf_29 (fun _ => ?_)
    refine k_iadd dX0_weightOf_30 ?_
    exact k_ireturn rfl dX0_weightOf_31
  refine k_aloadn (j := 0) dX0_weightOf_8 rfl rfl ?_
  refine k_geti fg_0_16 rfl rfl dX0_weightOf_9 ?_
  refine k_goto (tgt := 31) dX0_weightOf_12 (by decide) ?_
  exact k_ireturn rfl dX0_weightOf_31
theorem dX1_init_0 : decode cX1_init 0 = .ok (.aload_n 0, 1) := by decide +kernel
theorem dX1_init_1 : decode cX1_init 1 = .ok (.invokespecial 3, 3) := by decide +kernel
theorem dX1_init_4 : decode cX1_init 4 = .ok (.aload_n 0, 1) := by decide +kernel
theorem dX1_init_5 : decode cX1_init 5 = .ok (.iconst 0, 1) := by decide +kernel
theorem dX1_init_6 : decode cX1_init 6 = .ok (.putfield 9, 3) := by decide +kernel
theorem dX1_init_9 : decode cX1_init 9 = .ok (.aload_n 0, 1) := by decide +kernel
theorem dX1_init_10 : decode cX1_init 10 = .ok (.iconst 0, 1) := by decide +kernel
theorem dX1_init_11 : decode cX1_init 11 = .ok (.putfield 15, 3) := by decide +kernel
theorem dX1_init_14 : decode cX1_init 14 = .ok (.aload_n 0, 1) := by decide +kernel
theorem dX1_init_15 : decode cX1_init 15 = .ok (.iconst 0, 1) := by decide +kernel
theorem dX1_init_16 : decode cX1_init 16 = .ok (.putfield 18, 3) := by decide +kernel
theorem dX1_init_19 : decode cX1_init 19 = .ok (.aload_n 0, 1) := by decide +kernel
theorem dX1_init_20 : decode cX1_init 20 = .ok (.iconst 0, 1) := by decide +kernel
theorem dX1_init_21 : decode cX1_init 21 = .ok (.putfield 21, 3) := by decide +kernel
theorem dX1_init_24 : decode cX1_init 24 = .ok (.aload_n 0, 1) := by decide +kernel
theorem dX1_init_25 : decode cX1_init 25 = .ok (.iconst (-1), 1) := by decide +kernel
theorem dX1_init_26 : decode cX1_init 26 = .ok (.putfield 24, 3) := by decide +kernel
theorem dX1_init_29 : decode cX1_init 29 = .ok (.aload_n 0, 1) := by decide +kernel
theorem dX1_init_30 : decode cX1_init 30 = .ok (.iload_n 1, 1) := by decide +kernel
theorem dX1_init_31 : decode cX1_init 31 = .ok (.putfield 27, 3) := by decide +kernel
theorem dX1_init_34 : decode cX1_init 34 = .ok (.aload_n 0, 1) := by decide +kernel
theorem dX1_init_35 : decode cX1_init 35 = .ok (.aload_n 2, 1) := by decide +kernel
theorem dX1_init_36 : decode cX1_init 36 = .ok (.putfield 30, 3) := by decide +kernel
theorem dX1_init_39 : decode cX1_init 39 = .ok (.return_, 1) := by decide +kernel
def f1_init (v0 : Nat) (v1 : Int32) (v2 : Option Nat) (g : GS_) : Option (Unit × GS_) :=
  lr_ (sfi g 34 v0 (0 : Int32)) fun g1 => lr_ (sfi g1 35 v0 (0 : Int32)) fun g2 => lr_ (sfi g2 36 v0 (0 : Int32)) fun g3 => lr_ (sfi g3 37 v0 (0 : Int32)) fun g4 => lr_ (sfi g4 38 v0 (-1 : Int32)) fun g5 => lr_ (sfi g5 32 v0 v1) fun g6 => lr_ (sfr g6 33 v0 v2) fun g7 => some ((), g7)
theorem t1_init (v0 : Nat) (v1 : Int32) (v2 : Option Nat) (g : GS_) : Cn_ yX1_init cX1_init 3 none 1 12 EV_ [.inr (1, some v0), .inl v1, .inr (4, v2)] g (f1_init v0 v1 v2 g) := by
  refine k_method (own := RX1) (ini := true) (L1 := [some (.inr (1, some v0)), some (.inl v1), some (.inr (4, v2))]) (by decide +kernel) rfl (fun _ => rfl) (Nat.le_of_ble_eq_true rfl) rfl ?_
  unfold f1_init
  refine k_aloadn (j := 0) dX1_init_0 rfl rfl ?_
  refine k_objInit ml_1_3 oi_.1 oi_.2 (by decide) (Nat.le_of_ble_eq_true rfl) dX1_init_1 ?_
  refine k_aloadn (j := 0) dX1_init_4 rfl rfl ?_
  refine k_iconst (v := (0 : Int32)) dX1_init_5 rfl ?_
  refine k_puti fp_1_9 rfl rfl dX1_init_6 (fun g1 => ?_)
  refine k_aloadn (j := 0) dX1_init_9 rfl rfl ?_
  refine k_iconst (v := (0 : Int32)) dX1_init_10 rfl ?_
  refine k_puti fp_1_15 rfl rfl dX1_init_11 (fun g2 => ?_)
  refine k_aloadn (j := 0) dX1_init_14 rfl rfl ?_
  refine k_iconst (v := (0 : Int32)) dX1_init_15 rfl ?_
  refine k_puti fp_1_18 rfl rfl dX1_init_16 (fun g3 => ?_)
  refine k_aloadn (j := 0) dX1_init_19 rfl rfl ?_
  refine k_iconst (v := (0 : Int32)) dX1_init_20 rfl ?_
  refine k_puti fp_1_21 rfl rfl dX1_init_21 (fun g4 => ?_)
  refine k_aloadn (j := 0) dX1_init_24 rfl rfl ?_
  refine k_iconst (v := (-1 : Int32)) dX1_init_25 rfl ?_
  refine k_puti fp_1_24 rfl rfl dX1_init_26 (fun g5 => ?_)
  refine k_aloadn (j := 0) dX1_init_29 rfl rfl ?_
  refine k_iloadn (j := 1) dX1_init_30 rfl rfl ?_
  refine k_putfi fp_1_27 rfl rfl rfl dX1_init_31 (fun g6 => ?_)
  refine k_aloadn (j := 0) dX1_init_34 rfl rfl ?_
  refine k_aloadn (j := 2) dX1_init_35 rfl rfl ?_
  refine k_putr fp_1_30 ty_obj rfl rfl dX1_init_36 (fun g7 => ?_)
  exact k_return rfl dX1_init_39
theorem dX1_awaitFrom_0 : decode cX1_awaitFrom 0 = .ok (.aload_n 0, 1) := by decide +kernel
theorem dX1_awaitFrom_1 : decode cX1_awaitFrom 1 = .ok (.iconst 0, 1) := by decide +kernel
theorem dX1_awaitFrom_2 : decode cX1_awaitFrom 2 = .ok (.putfield 15, 3) := by decide +kernel
theorem dX1_awaitFrom_5 : decode cX1_awaitFrom 5 = .ok (.aload_n 0, 1) := by decide +kernel
theorem dX1_awaitFrom_6 : decode cX1_awaitFrom 6 = .ok (.iload_n 1, 1) := by decide +kernel
theorem dX1_awaitFrom_7 : decode cX1_awaitFrom 7 = .ok (.putfield 21, 3) := by decide +kernel
theorem dX1_awaitFrom_10 : decode cX1_awaitFrom 10 = .ok (.return_, 1) := by decide +kernel
def f1_awaitFrom (v0 : Nat) (v1 : Int32) (g : GS_) : Option (Unit × GS_) :=
  lr_ (sfi g 35 v0 (0 : Int32)) fun g1 => lr_ (sfi g1 37 v0 v1) fun g2 => some ((), g2)
theorem t1_awaitFrom (v0 : Nat) (v1 : Int32) (g : GS_) : Cn_ yX1_awaitFrom cX1_awaitFrom 2 none 0 0 EV_ [.inr (1, some v0), .inl v1] g (f1_awaitFrom v0 v1 g) := by
  refine k_method (own := RX1) (ini := false) (L1 := [some (.inr (1, some v0)), some (.inl v1)]) (by decide +kernel) rfl (fun h => by cases h) (Nat.le_of_ble_eq_true rfl) rfl ?_
  unfold f1_awaitFrom
  refine k_aloadn (j := 0) dX1_awaitFrom_0 rfl rfl ?_
  refine k_iconst (v := (0 : Int32)) dX1_awaitFrom_1 rfl ?_
  refine k_puti fp_1_15 rfl rfl dX1_awaitFrom_2 (fun g1 => ?_)
  refine k_aloadn (j := 0) dX1_awaitFrom_5 rfl rfl ?_
  refine k_iloadn (j := 1) dX1_awaitFrom_6 rfl rfl ?_
  refine k_puti fp_1_21 rfl rfl dX1_awaitFrom_7 (fun g2 => ?_)
  exact k_return rfl dX1_awaitFrom_10
theorem dX1_beginLife_0 : decode cX1_beginLife 0 = .ok (.aload_n 0, 1) := by decide +kernel
theorem dX1_beginLife_1 : decode cX1_beginLife 1 = .ok (.aload_n 1, 1) := by decide +kernel
theorem dX1_beginLife_2 : decode cX1_beginLife 2 = .ok (.putfield 30, 3) := by decide +kernel
theorem dX1_beginLife_5 : decode cX1_beginLife 5 = .ok (.aload_n 0, 1) := by decide +kernel
theorem dX1_beginLife_6 : decode cX1_beginLife 6 = .ok (.iload_n 2, 1) := by decide +kernel
theorem dX1_beginLife_7 : decode cX1_beginLife 7 = .ok (.putfield 9, 3) := by decide +kernel
theorem dX1_beginLife_10 : decode cX1_beginLife 10 = .ok (.aload_n 0, 1) := by decide +kernel
theorem dX1_beginLife_11 : decode cX1_beginLife 11 = .ok (.iconst 0, 1) := by decide +kernel
theorem dX1_beginLife_12 : decode cX1_beginLife 12 = .ok (.putfield 18, 3) := by decide +kernel
theorem dX1_beginLife_15 : decode cX1_beginLife 15 = .ok (.aload_n 0, 1) := by decide +kernel
theorem dX1_beginLife_16 : decode cX1_beginLife 16 = .ok (.iconst (-1), 1) := by decide +kernel
theorem dX1_beginLife_17 : decode cX1_beginLife 17 = .ok (.putfield 24, 3) := by decide +kernel
theorem dX1_beginLife_20 : decode cX1_beginLife 20 = .ok (.aload_n 0, 1) := by decide +kernel
theorem dX1_beginLife_21 : decode cX1_beginLife 21 = .ok (.iload_n 3, 1) := by decide +kernel
theorem dX1_beginLife_22 : decode cX1_beginLife 22 = .ok (.invokevirtual 34, 3) := by decide +kernel
theorem dX1_beginLife_25 : decode cX1_beginLife 25 = .ok (.return_, 1) := by decide +kernel
def f1_beginLife (v0 : Nat) (v1 : Option Nat) (v2 : Int32) (v3 : Int32) (g : GS_) : Option (Unit × GS_) :=
  lr_ (sfr g 33 v0 v1) fun g1 => lr_ (sfi g1 34 v0 v2) fun g2 => lr_ (sfi g2 36 v0 (0 : Int32)) fun g3 => lr_ (sfi g3 38 v0 (-1 : Int32)) fun g4 => bd_ (f1_awaitFrom v0 v3 g4) fun _ g5 => some ((), g5)
theorem t1_beginLife (v0 : Nat) (v1 : Option Nat) (v2 : Int32) (v3 : Int32) (g : GS_) : Cn_ yX1_beginLife cX1_beginLife 4 none 1 21 EV_ [.inr (1, some v0), .inr (4, v1), .inl v2, .inl v3] g (f1_beginLife v0 v1 v2 v3 g) := by
  refine k_method (own := RX1) (ini := false) (L1 := [some (.inr (1, some v0)), some (.inr (4, v1)), some (.inl v2), some (.inl v3)]) (by decide +kernel) rfl (fun h => by cases h) (Nat.le_of_ble_eq_true rfl) rfl ?_
  unfold f1_beginLife
  refine k_aloadn (j := 0) dX1_beginLife_0 rfl rfl ?_
  refine k_aloadn (j := 1) dX1_beginLife_1 rfl rfl ?_
  refine k_putr fp_1_30 ty_obj rfl rfl dX1_beginLife_2 (fun g1 => ?_)
  refine k_aloadn (j := 0) dX1_beginLife_5 rfl rfl ?_
  refine k_iloadn (j := 2) dX1_beginLife_6 rfl rfl ?_
  refine k_puti fp_1_9 rfl rfl dX1_beginLife_7 (fun g2 => ?_)
  refine k_aloadn (j := 0) dX1_beginLife_10 rfl rfl ?_
  refine k_iconst (v := (0 : Int32)) dX1_beginLife_11 rfl ?_
  refine k_puti fp_1_18 rfl rfl dX1_beginLife_12 (fun g3 => ?_)
  refine k_aloadn (j := 0) dX1_beginLife_15 rfl rfl ?_
  refine k_iconst (v := (-1 : Int32)) dX1_beginLife_16 rfl ?_
  refine k_puti fp_1_24 rfl rfl dX1_beginLife_17 (fun g4 => ?_)
  refine k_aloadn (j := 0) dX1_beginLife_20 rfl rfl ?_
  refine k_iloadn (j := 3) dX1_beginLife_21 rfl rfl ?_
  refine k_callVv [.inl v3] (t1_awaitFrom v0 v3 g4) cw_cX1_awaitFrom (Or.inl ml_1_34) rfl rfl (by decide) (by decide) (Nat.le_of_ble_eq_true rfl) dX1_beginLife_22 (fun _ g5 => ?_)
  exact k_return rfl dX1_beginLife_25
theorem dX1_isOver_0 : decode cX1_isOver 0 = .ok (.aload_n 0, 1) := by decide +kernel
theorem dX1_isOver_1 : decode cX1_isOver 1 = .ok (.getfield 15, 3) := by decide +kernel
theorem dX1_isOver_4 : decode cX1_isOver 4 = .ok (.iconst 3, 1) := by decide +kernel
theorem dX1_isOver_5 : decode cX1_isOver 5 = .ok (.if_icmp .eq 11, 3) := by decide +kernel
theorem dX1_isOver_8 : decode cX1_isOver 8 = .ok (.aload_n 0, 1) := by decide +kernel
theorem dX1_isOver_9 : decode cX1_isOver 9 = .ok (.getfield 15, 3) := by decide +kernel
theorem dX1_isOver_12 : decode cX1_isOver 12 = .ok (.iconst 4, 1) := by decide +kernel
theorem dX1_isOver_13 : decode cX1_isOver 13 = .ok (.if_icmp .ne 7, 3) := by decide +kernel
theorem dX1_isOver_16 : decode cX1_isOver 16 = .ok (.iconst 1, 1) := by decide +kernel
theorem dX1_isOver_17 : decode cX1_isOver 17 = .ok (.goto 4, 3) := by decide +kernel
theorem dX1_isOver_20 : decode cX1_isOver 20 = .ok (.iconst 0, 1) := by decide +kernel
theorem dX1_isOver_21 : decode cX1_isOver 21 = .ok (.ireturn, 1) := by decide +kernel
def f1_isOver_b16 (g : GS_) : Option (Int32 × GS_) :=
  some ((1 : Int32), g)
theorem t1_isOver_b16 (g : GS_) : K_ RX1 cX1_isOver 1 (some .boolean) 0 0 false EI_ 16 [none] [] g (f1_isOver_b16 g) := by
  unfold f1_isOver_b16
  refine k_iconst (v := (1 : Int32)) dX1_isOver_16 rfl ?_
  refine k_goto (tgt := 21) dX1_isOver_17 (by decide) ?_
  exact k_zreturn rfl (by decide) dX1_isOver_21
def f1_isOver (v0 : Nat) (g : GS_) : Option (Int32 × GS_) :=
  if (gfi g 35 v0) = (3 : Int32) then f1_isOver_b16 g else if (gfi g 35 v0) = (4 : Int32) then f1_isOver_b16 g else some ((0 : Int32), g)
theorem t1_isOver (v0 : Nat) (g : GS_) : Cn_ yX1_isOver cX1_isOver 1 (some .boolean) 0 0 EI_ [.inr (1, some v0)] g (f1_isOver v0 g) := by
  refine k_method (own := RX1) (ini := false) (L1 := [some (.inr (1, some v0))]) (by decide +kernel) rfl (fun h => by cases h) (Nat.le_of_ble_eq_true rfl) rfl ?_
  unfold f1_isOver
  refine k_aloadn (j := 0) dX1_isOver_0 rfl rfl ?_
  refine k_geti fg_1_15 rfl rfl dX1_isOver_1 ?_
  refine k_iconst (v := (3 : Int32)) dX1_isOver_4 rfl ?_
  refine k_icmpeq (tgt := 16) dX1_isOver_5 (by decide) (fun _ => ?_) (fun _ => ?_)
  · refine k_msk (L' := [none]) [false] rfl ?_
    exact t1_isOver_b16 g
  refine k_aloadn (j := 0) dX1_isOver_8 rfl rfl ?_
  refine k_geti fg_1_15 rfl rfl dX1_isOver_9 ?_
  refine k_iconst (v := (4 : Int32)) dX1_isOver_12 rfl ?_
  refine k_icmpne (tgt := 20) dX1_isOver_13 (by decide) (fun _ => ?_) (fun _ => ?_)
  · refine k_msk (L' := [none]) [false] rfl ?_
    exact t1_isOver_b16 g
  refine k_iconst (v := (0 : Int32)) dX1_isOver_20 rfl ?_
  exact k_zreturn rfl (by decide) dX1_isOver_21
theorem dX1_rankAt_0 : decode cX1_rankAt 0 = .ok (.iload_n 2, 1) := by decide +kernel
theorem dX1_rankAt_1 : decode cX1_rankAt 1 = .ok (.iconst 1, 1) := by decide +kernel
theorem dX1_rankAt_2 : decode cX1_rankAt 2 = .ok (.if_icmp .ge 7, 3) := by decide +kernel
theorem dX1_rankAt_5 : decode cX1_rankAt 5 = .ok (.iconst 0, 1) := by decide +kernel
theorem dX1_rankAt_6 : decode cX1_rankAt 6 = .ok (.goto 11, 3) := by decide +kernel
theorem dX1_rankAt_9 : decode cX1_rankAt 9 = .ok (.iload_n 1, 1) := by decide +kernel
theorem dX1_rankAt_10 : decode cX1_rankAt 10 = .ok (.aload_n 0, 1) := by decide +kernel
theorem dX1_rankAt_11 : decode cX1_rankAt 11 = .ok (.getfield 21, 3) := by decide +kernel
theorem dX1_rankAt_14 : decode cX1_rankAt 14 = .ok (.isub, 1) := by decide +kernel
theorem dX1_rankAt_15 : decode cX1_rankAt 15 = .ok (.iload_n 2, 1) := by decide +kernel
theorem dX1_rankAt_16 : decode cX1_rankAt 16 = .ok (.idiv, 1) := by decide +kernel
theorem dX1_rankAt_17 : decode cX1_rankAt 17 = .ok (.istore_n 3, 1) := by decide +kernel
theorem dX1_rankAt_18 : decode cX1_rankAt 18 = .ok (.bipush 10, 2) := by decide +kernel
theorem dX1_rankAt_20 : decode cX1_rankAt 20 = .ok (.aload_n 0, 1) := by decide +kernel
theorem dX1_rankAt_21 : decode cX1_rankAt 21 = .ok (.getfield 9, 3) := by decide +kernel
theorem dX1_rankAt_24 : decode cX1_rankAt 24 = .ok (.imul, 1) := by decide +kernel
theorem dX1_rankAt_25 : decode cX1_rankAt 25 = .ok (.iload_n 3, 1) := by decide +kernel
theorem dX1_rankAt_26 : decode cX1_rankAt 26 = .ok (.iadd, 1) := by decide +kernel
theorem dX1_rankAt_27 : decode cX1_rankAt 27 = .ok (.ireturn, 1) := by decide +kernel
def f1_rankAt_b17 (v0 : Nat) (s0 : Int32) (g : GS_) : Option (Int32 × GS_) :=
  some ((((10 : Int32) * (gfi g 34 v0)) + s0), g)
theorem t1_rankAt_b17 (v0 : Nat) (s0 : Int32) (g : GS_) : K_ RX1 cX1_rankAt 4 (some .int) 0 0 false EI_ 17 [some (.inr (1, some v0)), none, none, none] [.inl s0] g (f1_rankAt_b17 v0 s0 g) := by
  unfold f1_rankAt_b17
  refine k_istn (j := 3) (L' := [some (.inr (1, some v0)), none, none, some (.inl s0)]) dX1_rankAt_17 rfl (by decide) rfl ?_
  refine k_bipush (v := (10 : Int32)) dX1_rankAt_18 rfl ?_
  refine k_aloadn (j := 0) dX1_rankAt_20 rfl rfl ?_
  refine k_geti fg_1_9 rfl rfl dX1_rankAt_21 ?_
  refine k_imul dX1_rankAt_24 ?_
  refine k_iloadn (j := 3) dX1_rankAt_25 rfl rfl ?_
  refine k_iadd dX1_rankAt_26 ?_
  exact k_ireturn rfl dX1_rankAt_27
def f1_rankAt (v0 : Nat) (v1 : Int32) (v2 : Int32) (g : GS_) : Option (Int32 × GS_) :=
  if (1 : Int32) ≤ v2 then if v2 = 0 then none else f1_rankAt_b17 v0 ((v1 - (gfi g 37 v0)) / v2) g else f1_rankAt_b17 v0 (0 : Int32) g
theorem t1_rankAt (v0 : Nat) (v1 : Int32) (v2 : Int32) (g : GS_) : Cn_ yX1_rankAt cX1_rankAt 4 (some .int) 0 0 EI_ [.inr (1, some v0), .inl v1, .inl v2] g (f1_rankAt v0 v1 v2 g) := by
  refine k_method (own := RX1) (ini := false) (L1 := [some (.inr (1, some v0)), some (.inl v1), some (.inl v2), none]) (by decide +kernel) rfl (fun h => by cases h) (Nat.le_of_ble_eq_true rfl) rfl ?_
  unfold f1_rankAt
  refine k_iloadn (j := 2) dX1_rankAt_0 rfl rfl ?_
  refine k_iconst (v := (1 : Int32)) dX1_rankAt_1 rfl ?_
  refine k_icmpge (tgt := 9) dX1_rankAt_2 (by decide) (fun _ => ?_) (fun _ => ?_)
  · refine k_iloadn (j := 1) dX1_rankAt_9 rfl rfl ?_
    refine k_aloadn (j := 0) dX1_rankAt_10 rfl rfl ?_
    refine k_geti fg_1_21 rfl rfl dX1_rankAt_11 ?_
    refine k_isub dX1_rankAt_14 ?_
    refine k_iloadn (j := 2) dX1_rankAt_15 rfl rfl ?_
    refine k_idiv dX1_rankAt_16 (fun _ => ?_)
    refine k_msk (L' := [some (.inr (1, some v0)), none, none, none]) [true, false, false, true] rfl ?_
    exact t1_rankAt_b17 v0 ((v1 - (gfi g 37 v0)) / v2) g
  refine k_iconst (v := (0 : Int32)) dX1_rankAt_5 rfl ?_
  refine k_goto (tgt := 17) dX1_rankAt_6 (by decide) ?_
  refine k_msk (L' := [some (.inr (1, some v0)), none, none, none]) [true, false, false, true] rfl ?_
  exact t1_rankAt_b17 v0 (0 : Int32) g
theorem dX1_demand_0 : decode cX1_demand 0 = .ok (.aload_n 0, 1) := by decide +kernel
theorem dX1_demand_1 : decode cX1_demand 1 = .ok (.getfield 15, 3) := by decide +kernel
theorem dX1_demand_4 : decode cX1_demand 4 = .ok (.iconst 1, 1) := by decide +kernel
theorem dX1_demand_5 : decode cX1_demand 5 = .ok (.if_icmp .ne 11, 3) := by decide +kernel
theorem dX1_demand_8 : decode cX1_demand 8 = .ok (.aload_n 0, 1) := by decide +kernel
theorem dX1_demand_9 : decode cX1_demand 9 = .ok (.iload_n 1, 1) := by decide +kernel
theorem dX1_demand_10 : decode cX1_demand 10 = .ok (.putfield 24, 3) := by decide +kernel
theorem dX1_demand_13 : decode cX1_demand 13 = .ok (.goto 8, 3) := by decide +kernel
theorem dX1_demand_16 : decode cX1_demand 16 = .ok (.aload_n 0, 1) := by decide +kernel
theorem dX1_demand_17 : decode cX1_demand 17 = .ok (.iload_n 1, 1) := by decide +kernel
theorem dX1_demand_18 : decode cX1_demand 18 = .ok (.putfield 15, 3) := by decide +kernel
theorem dX1_demand_21 : decode cX1_demand 21 = .ok (.return_, 1) := by decide +kernel
def f1_demand (v0 : Nat) (v1 : Int32) (g : GS_) : Option (Unit × GS_) :=
  if (gfi g 35 v0) = (1 : Int32) then lr_ (sfi g 38 v0 v1) fun g1 => some ((), g1) else lr_ (sfi g 35 v0 v1) fun g2 => some ((), g2)
theorem t1_demand (v0 : Nat) (v1 : Int32) (g : GS_) : Cn_ yX1_demand cX1_demand 2 none 0 0 EV_ [.inr (1, some v0), .inl v1] g (f1_demand v0 v1 g) := by
  refine k_method (own := RX1) (ini := false) (L1 := [some (.inr (1, some v0)), some (.inl v1)]) (by decide +kernel) rfl (fun h => by cases h) (Nat.le_of_ble_eq_true rfl) rfl ?_
  unfold f1_demand
  refine k_aloadn (j := 0) dX1_demand_0 rfl rfl ?_
  refine k_geti fg_1_15 rfl rfl dX1_demand_1 ?_
  refine k_iconst (v := (1 : Int32)) dX1_demand_4 rfl ?_
  refine k_icmpne (tgt := 16) dX1_demand_5 (by decide) (fun _ => ?_) (fun _ => ?_)
  · refine k_aloadn (j := 0) dX1_demand_8 rfl rfl ?_
    refine k_iloadn (j := 1) dX1_demand_9 rfl rfl ?_
    refine k_puti fp_1_24 rfl rfl dX1_demand_10 (fun g1 => ?_)
    refine k_goto (tgt := 21) dX1_demand_13 (by decide) ?_
    exact k_return rfl dX1_demand_21
  refine k_aloadn (j := 0) dX1_demand_16 rfl rfl ?_
  refine k_iloadn (j := 1) dX1_demand_17 rfl rfl ?_
  refine k_puti fp_1_15 rfl rfl dX1_demand_18 (fun g2 => ?_)
  exact k_return rfl dX1_demand_21
theorem dX1_stopPrinting_0 : decode cX1_stopPrinting 0 = .ok (.aload_n 0, 1) := by decide +kernel
theorem dX1_stopPrinting_1 : decode cX1_stopPrinting 1 = .ok (.getfield 24, 3) := by decide +kernel
theorem dX1_stopPrinting_4 : decode cX1_stopPrinting 4 = .ok (.iconst (-1), 1) := by decide +kernel
theorem dX1_stopPrinting_5 : decode cX1_stopPrinting 5 = .ok (.if_icmp .ne 11, 3) := by decide +kernel
theorem dX1_stopPrinting_8 : decode cX1_stopPrinting 8 = .ok (.aload_n 0, 1) := by decide +kernel
theorem dX1_stopPrinting_9 : decode cX1_stopPrinting 9 = .ok (.iload_n 1, 1) := by decide +kernel
theorem dX1_stopPrinting_10 : decode cX1_stopPrinting 10 = .ok (.invokevirtual 34, 3) := by decide +kernel
theorem dX1_stopPrinting_13 : decode cX1_stopPrinting 13 = .ok (.goto 11, 3) := by decide +kernel
theorem dX1_stopPrinting_16 : decode cX1_stopPrinting 16 = .ok (.aload_n 0, 1) := by decide +kernel
theorem dX1_stopPrinting_17 : decode cX1_stopPrinting 17 = .ok (.aload_n 0, 1) := by decide +kernel
theorem dX1_stopPrinting_18 : decode cX1_stopPrinting 18 = .ok (.getfield 24, 3) := by decide +kernel
theorem dX1_stopPrinting_21 : decode cX1_stopPrinting 21 = .ok (.putfield 15, 3) := by decide +kernel
theorem dX1_stopPrinting_24 : decode cX1_stopPrinting 24 = .ok (.aload_n 0, 1) := by decide +kernel
theorem dX1_stopPrinting_25 : decode cX1_stopPrinting 25 = .ok (.iconst (-1), 1) := by decide +kernel
theorem dX1_stopPrinting_26 : decode cX1_stopPrinting 26 = .ok (.putfield 24, 3) := by decide +kernel
theorem dX1_stopPrinting_29 : decode cX1_stopPrinting 29 = .ok (.return_, 1) := by decide +kernel
def f1_stopPrinting_b24 (v0 : Nat) (g : GS_) : Option (Unit × GS_) :=
  lr_ (sfi g 38 v0 (-1 : Int32)) fun g1 => some ((), g1)
theorem t1_stopPrinting_b24 (v0 : Nat) (g : GS_) : K_ RX1 cX1_stopPrinting 2 none 1 21 false EV_ 24 [some (.inr (1, some v0)), none] [] g (f1_stopPrinting_b24 v0 g) := by
  unfold f1_stopPrinting_b24
  refine k_aloadn (j := 0) dX1_stopPrinting_24 rfl rfl ?_
  refine k_iconst (v := (-1 : Int32)) dX1_stopPrinting_25 rfl ?_
  refine k_puti fp_1_24 rfl rfl dX1_stopPrinting_26 (fun g1 => ?_)
  exact k_return rfl dX1_stopPrinting_29
def f1_stopPrinting (v0 : Nat) (v1 : Int32) (g : GS_) : Option (Unit × GS_) :=
  if (gfi g 38 v0) = (-1 : Int32) then bd_ (f1_awaitFrom v0 v1 g) fun _ g2 => f1_stopPrinting_b24 v0 g2 else lr_ (sfi g 35 v0 (gfi g 38 v0)) fun g3 => f1_stopPrinting_b24 v0 g3
theorem t1_stopPrinting (v0 : Nat) (v1 : Int32) (g : GS_) : Cn_ yX1_stopPrinting cX1_stopPrinting 2 none 1 21 EV_ [.inr (1, some v0), .inl v1] g (f1_stopPrinting v0 v1 g) := by
  refine k_method (own := RX1) (ini := false) (L1 := [some (.inr (1, some v0)), some (.inl v1)]) (by decide +kernel) rfl (fun h => by cases h) (Nat.le_of_ble_eq_true rfl) rfl ?_
  unfold f1_stopPrinting
  refine k_aloadn (j := 0) dX1_stopPrinting_0 rfl rfl ?_
  refine k_geti fg_1_24 rfl rfl dX1_stopPrinting_1 ?_
  refine k_iconst (v := (-1 : Int32)) dX1_stopPrinting_4 rfl ?_
  refine k_icmpne (tgt := 16) dX1_stopPrinting_5 (by decide) (fun _ => ?_) (fun _ => ?_)
  · refine k_aloadn (j := 0) dX1_stopPrinting_8 rfl rfl ?_
    refine k_iloadn (j := 1) dX1_stopPrinting_9 rfl rfl ?_
    refine k_callVv [.inl v1] (t1_awaitFrom v0 v1 g) cw_cX1_awaitFrom (Or.inl ml_1_34) rfl rfl (by decide) (by decide) (Nat.le_of_ble_eq_true rfl) dX1_stopPrinting_10 (fun _ g2 => ?_)
    refine k_goto (tgt := 24) dX1_stopPrinting_13 (by decide) ?_
    refine k_msk (L' := [some (.inr (1, some v0)), none]) [true, false] rfl ?_
    exact t1_stopPrinting_b24 v0 g2
  refine k_aloadn (j := 0) dX1_stopPrinting_16 rfl rfl ?_
  refine k_aloadn (j := 0) dX1_stopPrinting_17 rfl rfl ?_
  refine k_geti fg_1_24 rfl rfl dX1_stopPrinting_18 ?_
  refine k_puti fp_1_15 rfl rfl dX1_stopPrinting_21 (fun g3 => ?_)
  refine k_msk (L' := [some (.inr (1, some v0)), none]) [true, false] rfl ?_
  exact t1_stopPrinting_b24 v0 g3
theorem dX1_copyFrom_0 : decode cX1_copyFrom 0 = .ok (.aload_n 0, 1) := by decide +kernel
theorem dX1_copyFrom_1 : decode cX1_copyFrom 1 = .ok (.aload_n 1, 1) := by decide +kernel
theorem dX1_copyFrom_2 : decode cX1_copyFrom 2 = .ok (.getfield 30, 3) := by decide +kernel
theorem dX1_copyFrom_5 : decode cX1_copyFrom 5 = .ok (.putfield 30, 3) := by decide +kernel
theorem dX1_copyFrom_8 : decode cX1_copyFrom 8 = .ok (.aload_n 0, 1) := by decide +kernel
theorem dX1_copyFrom_9 : decode cX1_copyFrom 9 = .ok (.aload_n 1, 1) := by decide +kernel
theorem dX1_copyFrom_10 : decode cX1_copyFrom 10 = .ok (.getfield 9, 3) := by decide +kernel
theorem dX1_copyFrom_13 : decode cX1_copyFrom 13 = .ok (.putfield 9, 3) := by decide +kernel
theorem dX1_copyFrom_16 : decode cX1_copyFrom 16 = .ok (.aload_n 0, 1) := by decide +kernel
theorem dX1_copyFrom_17 : decode cX1_copyFrom 17 = .ok (.aload_n 1, 1) := by decide +kernel
theorem dX1_copyFrom_18 : decode cX1_copyFrom 18 = .ok (.getfield 15, 3) := by decide +kernel
theorem dX1_copyFrom_21 : decode cX1_copyFrom 21 = .ok (.putfield 15, 3) := by decide +kernel
theorem dX1_copyFrom_24 : decode cX1_copyFrom 24 = .ok (.aload_n 0, 1) := by decide +kernel
theorem dX1_copyFrom_25 : decode cX1_copyFrom 25 = .ok (.aload_n 1, 1) := by decide +kernel
theorem dX1_copyFrom_26 : decode cX1_copyFrom 26 = .ok (.getfield 18, 3) := by decide +kernel
theorem dX1_copyFrom_29 : decode cX1_copyFrom 29 = .ok (.putfield 18, 3) := by decide +kernel
theorem dX1_copyFrom_32 : decode cX1_copyFrom 32 = .ok (.aload_n 0, 1) := by decide +kernel
theorem dX1_copyFrom_33 : decode cX1_copyFrom 33 = .ok (.aload_n 1, 1) := by decide +kernel
theorem dX1_copyFrom_34 : decode cX1_copyFrom 34 = .ok (.getfield 21, 3) := by decide +kernel
theorem dX1_copyFrom_37 : decode cX1_copyFrom 37 = .ok (.putfield 21, 3) := by decide +kernel
theorem dX1_copyFrom_40 : decode cX1_copyFrom 40 = .ok (.aload_n 0, 1) := by decide +kernel
theorem dX1_copyFrom_41 : decode cX1_copyFrom 41 = .ok (.aload_n 1, 1) := by decide +kernel
theorem dX1_copyFrom_42 : decode cX1_copyFrom 42 = .ok (.getfield 24, 3) := by decide +kernel
theorem dX1_copyFrom_45 : decode cX1_copyFrom 45 = .ok (.putfield 24, 3) := by decide +kernel
theorem dX1_copyFrom_48 : decode cX1_copyFrom 48 = .ok (.return_, 1) := by decide +kernel
def f1_copyFrom (v0 : Nat) (v1 : Option Nat) (g : GS_) : Option (Unit × GS_) :=
  oc_ v1 none fun a1 => lr_ (gfr g 33 a1) fun x2 => lr_ (sfr g 33 v0 x2) fun g3 => lr_ (sfi g3 34 v0 (gfi g3 34 a1)) fun g4 => lr_ (sfi g4 35 v0 (gfi g4 35 a1)) fun g5 => lr_ (sfi g5 36 v0 (gfi g5 36 a1)) fun g6 => lr_ (sfi g6 37 v0 (gfi g6 37 a1)) fun g7 => lr_ (sfi g7 38 v0 (gfi g7 38 a1)) fun g8 => some ((), g8)
theorem t1_copyFrom (v0 : Nat) (v1 : Option Nat) (g : GS_) : Cn_ yX1_copyFrom cX1_copyFrom 2 none 0 0 EV_ [.inr (1, some v0), .inr (1, v1)] g (f1_copyFrom v0 v1 g) := by
  refine k_method (own := RX1) (ini := false) (L1 := [some (.inr (1, some v0)), some (.inr (1, v1))]) (by decide +kernel) rfl (fun h => by cases h) (Nat.le_of_ble_eq_true rfl) rfl ?_
  unfold f1_copyFrom
  refine k_aloadn (j := 0) dX1_copyFrom_0 rfl rfl ?_
  refine k_aloadn (j := 1) dX1_copyFrom_1 rfl rfl ?_
  rcases v1 with _ | a1
  · exact k_ocn
  refine k_ocs ?_
  refine k_getr fg_1_30 rfl rfl dX1_copyFrom_2 (fun x2 => ?_)
  refine k_putr fp_1_30 ty_obj rfl rfl dX1_copyFrom_5 (fun g3 => ?_)
  refine k_aloadn (j := 0) dX1_copyFrom_8 rfl rfl ?_
  refine k_aloadn (j := 1) dX1_copyFrom_9 rfl rfl ?_
  refine k_geti fg_1_9 rfl rfl dX1_copyFrom_10 ?_
  refine k_puti fp_1_9 rfl rfl dX1_copyFrom_13 (fun g4 => ?_)
  refine k_aloadn (j := 0) dX1_copyFrom_16 rfl rfl ?_
  refine k_aloadn (j := 1) dX1_copyFrom_17 rfl rfl ?_
  refine k_geti fg_1_15 rfl rfl dX1_copyFrom_18 ?_
  refine k_puti fp_1_15 rfl rfl dX1_copyFrom_21 (fun g5 => ?_)
  refine k_aloadn (j := 0) dX1_copyFrom_24 rfl rfl ?_
  refine k_aloadn (j := 1) dX1_copyFrom_25 rfl rfl ?_
  refine k_geti fg_1_18 rfl rfl dX1_copyFrom_26 ?_
  refine k_puti fp_1_18 rfl rfl dX1_copyFrom_29 (fun g6 => ?_)
  refine k_aloadn (j := 0) dX1_copyFrom_32 rfl rfl ?_
  refine k_aloadn (j := 1) dX1_copyFrom_33 rfl rfl ?_
  refine k_geti fg_1_21 rfl rfl dX1_copyFrom_34 ?_
  refine k_puti fp_1_21 rfl rfl dX1_copyFrom_37 (fun g7 => ?_)
  refine k_aloadn (j := 0) dX1_copyFrom_40 rfl rfl ?_
  refine k_aloadn (j := 1) dX1_copyFrom_41 rfl rfl ?_
  refine k_geti fg_1_24 rfl rfl dX1_copyFrom_42 ?_
  refine k_puti fp_1_24 rfl rfl dX1_copyFrom_45 (fun g8 => ?_)
  exact k_return rfl dX1_copyFrom_48
theorem dX2_init_0 : decode cX2_init 0 = .ok (.aload_n 0, 1) := by decide +kernel
theorem dX2_init_1 : decode cX2_init 1 = .ok (.invokespecial 3, 3) := by decide +kernel
theorem dX2_init_4 : decode cX2_init 4 = .ok (.aload_n 0, 1) := by decide +kernel
theorem dX2_init_5 : decode cX2_init 5 = .ok (.sipush 400, 3) := by decide +kernel
theorem dX2_init_8 : decode cX2_init 8 = .ok (.newarray .int, 2) := by decide +kernel
theorem dX2_init_10 : decode cX2_init 10 = .ok (.putfield 11, 3) := by decide +kernel
theorem dX2_init_13 : decode cX2_init 13 = .ok (.aload_n 0, 1) := by decide +kernel
theorem dX2_init_14 : decode cX2_init 14 = .ok (.iconst 0, 1) := by decide +kernel
theorem dX2_init_15 : decode cX2_init 15 = .ok (.putfield 15, 3) := by decide +kernel
theorem dX2_init_18 : decode cX2_init 18 = .ok (.return_, 1) := by decide +kernel
def f2_init (v0 : Nat) (g : GS_) : Option (Unit × GS_) :=
  na_ g 20 (400 : Int32) fun a1 g2 => lr_ (sfr g2 64 v0 (some a1)) fun g3 => lr_ (sfi g3 65 v0 (0 : Int32)) fun g4 => some ((), g4)
theorem t2_init (v0 : Nat) (g : GS_) : Cn_ yX2_init cX2_init 1 none 1 12 EV_ [.inr (2, some v0)] g (f2_init v0 g) := by
  refine k_method (own := RX2) (ini := true) (L1 := [some (.inr (2, some v0))]) (by decide +kernel) rfl (fun _ => rfl) (Nat.le_of_ble_eq_true rfl) rfl ?_
  unfold f2_init
  refine k_aloadn (j := 0) dX2_init_0 rfl rfl ?_
  refine k_objInit ml_2_3 oi_.1 oi_.2 (by decide) (Nat.le_of_ble_eq_true rfl) dX2_init_1 ?_
  refine k_aloadn (j := 0) dX2_init_4 rfl rfl ?_
  refine k_sipush (v := (400 : Int32)) dX2_init_5 rfl ?_
  refine k_newa ac_20 dX2_init_8 (fun a1 g2 => ?_)
  refine k_putfr fp_2_11 ty_arr rfl rfl rfl dX2_init_10 (fun g3 => ?_)
  refine k_aloadn (j := 0) dX2_init_13 rfl rfl ?_
  refine k_iconst (v := (0 : Int32)) dX2_init_14 rfl ?_
  refine k_puti fp_2_15 rfl rfl dX2_init_15 (fun g4 => ?_)
  exact k_return rfl dX2_init_18
theorem dX2_cellOf_0 : decode cX2_cellOf 0 = .ok (.iload_n 0, 1) := by decide +kernel
theorem dX2_cellOf_1 : decode cX2_cellOf 1 = .ok (.bipush 100, 2) := by decide +kernel
theorem dX2_cellOf_3 : decode cX2_cellOf 3 = .ok (.irem, 1) := by decide +kernel
theorem dX2_cellOf_4 : decode cX2_cellOf 4 = .ok (.iconst 4, 1) := by decide +kernel
theorem dX2_cellOf_5 : decode cX2_cellOf 5 = .ok (.imul, 1) := by decide +kernel
theorem dX2_cellOf_6 : decode cX2_cellOf 6 = .ok (.iload_n 1, 1) := by decide +kernel
theorem dX2_cellOf_7 : decode cX2_cellOf 7 = .ok (.iadd, 1) := by decide +kernel
theorem dX2_cellOf_8 : decode cX2_cellOf 8 = .ok (.ireturn, 1) := by decide +kernel
def f2_cellOf (v0 : Int32) (v1 : Int32) (g : GS_) : Option (Int32 × GS_) :=
  some ((((jrem v0 (100 : Int32)) * (4 : Int32)) + v1), g)
theorem t2_cellOf (v0 : Int32) (v1 : Int32) (g : GS_) : Cn_ yX2_cellOf cX2_cellOf 2 (some .int) 0 0 EI_ [.inl v0, .inl v1] g (f2_cellOf v0 v1 g) := by
  refine k_method (own := RX2) (ini := false) (L1 := [some (.inl v0), some (.inl v1)]) (by decide +kernel) rfl (fun h => by cases h) (Nat.le_of_ble_eq_true rfl) rfl ?_
  unfold f2_cellOf
  refine k_iloadn (j := 0) dX2_cellOf_0 rfl rfl ?_
  refine k_bipush (v := (100 : Int32)) dX2_cellOf_1 rfl ?_
  refine k_iremc (by decide) dX2_cellOf_3 ?_
  refine k_iconst (v := (4 : Int32)) dX2_cellOf_4 rfl ?_
  refine k_imul dX2_cellOf_5 ?_
  refine k_iloadn (j := 1) dX2_cellOf_6 rfl rfl ?_
  refine k_iadd dX2_cellOf_7 ?_
  exact k_ireturn rfl dX2_cellOf_8
theorem dX2_put_0 : decode cX2_put 0 = .ok (.iload_n 1, 1) := by decide +kernel
theorem dX2_put_1 : decode cX2_put 1 = .ok (.iload_n 2, 1) := by decide +kernel
theorem dX2_put_2 : decode cX2_put 2 = .ok (.invokestatic 23, 3) := by decide +kernel
theorem dX2_put_5 : decode cX2_put 5 = .ok (.istore 4, 2) := by decide +kernel
theorem dX2_put_7 : decode cX2_put 7 = .ok (.iload 4, 2) := by decide +kernel
theorem dX2_put_9 : decode cX2_put 9 = .ok (.ifCond .lt 21, 3) := by decide +kernel
theorem dX2_put_12 : decode cX2_put 12 = .ok (.iload 4, 2) := by decide +kernel
theorem dX2_put_14 : decode cX2_put 14 = .ok (.aload_n 0, 1) := by decide +kernel
theorem dX2_put_15 : decode cX2_put 15 = .ok (.getfield 11, 3) := by decide +kernel
theorem dX2_put_18 : decode cX2_put 18 = .ok (.arraylength, 1) := by decide +kernel
theorem dX2_put_19 : decode cX2_put 19 = .ok (.if_icmp .ge 11, 3) := by decide +kernel
theorem dX2_put_22 : decode cX2_put 22 = .ok (.aload_n 0, 1) := by decide +kernel
theorem dX2_put_23 : decode cX2_put 23 = .ok (.getfield 11, 3) := by decide +kernel
theorem dX2_put_26 : decode cX2_put 26 = .ok (.iload 4, 2) := by decide +kernel
theorem dX2_put_28 : decode cX2_put 28 = .ok (.iload_n 3, 1) := by decide +kernel
theorem dX2_put_29 : decode cX2_put 29 = .ok (.iastore, 1) := by decide +kernel
theorem dX2_put_30 : decode cX2_put 30 = .ok (.return_, 1) := by decide +kernel
def f2_put (v0 : Nat) (v1 : Int32) (v2 : Int32) (v3 : Int32) (g : GS_) : Option (Unit × GS_) :=
  bd_ (f2_cellOf v1 v2 g) fun z2 g1 => if z2 < 0 then some ((), g1) else lr_ (gfr g1 64 v0) fun x3 => oc_ x3 none fun a4 => if (Int32.ofNat (gln g1 20 a4)) ≤ z2 then some ((), g1) else lr_ (gfr g1 64 v0) fun x5 => oc_ x5 none fun a6 => if inb z2 (gln g1 20 a6) then lr_ (sai g1 20 a6 z2.toInt.toNat v3) (fun g7 => some ((), g7)) else none
theorem t2_put (v0 : Nat) (v1 : Int32) (v2 : Int32) (v3 : Int32) (g : GS_) : Cn_ yX2_put cX2_put 5 none 1 21 EV_ [.inr (2, some v0), .inl v1, .inl v2, .inl v3] g (f2_put v0 v1 v2 v3 g) := by
  refine k_method (own := RX2) (ini := false) (L1 := [some (.inr (2, some v0)), some (.inl v1), some (.inl v2), some (.inl v3), none]) (by decide +kernel) rfl (fun h => by cases h) (Nat.le_of_ble_eq_true rfl) rfl ?_
  unfold f2_put
  refine k_iloadn (j := 1) dX2_put_0 rfl rfl ?_
  refine k_iloadn (j := 2) dX2_put_1 rfl rfl ?_
  refine k_callSi [.inl v1, .inl v2] (t2_cellOf v1 v2 g) cw_cX2_cellOf ml_2_23 rfl rfl (by decide) (by decide) (Nat.le_of_ble_eq_true rfl) dX2_put_2 (fun z2 g1 => ?_)
  refine k_ist (L' := [some (.inr (2, some v0)), some (.inl v1), some (.inl v2), some (.inl v3), some (.inl z2)]) dX2_put_5 (by decide) rfl ?_
  refine k_iload dX2_put_7 rfl ?_
  refine k_iflt (tgt := 30) dX2_put_9 (by decide) (fun _ => ?_) (fun _ => ?_)
  · exact k_return rfl dX2_put_30
  refine k_iload dX2_put_12 rfl ?_
  refine k_aloadn (j := 0) dX2_put_14 rfl rfl ?_
  refine k_getr fg_2_11 rfl rfl dX2_put_15 (fun x3 => ?_)
  rcases x3 with _ | a4
  · exact k_ocn
  refine k_ocs ?_
  refine k_alen dX2_put_18 (by decide) ?_
  refine k_icmpge (tgt := 30) dX2_put_19 (by decide) (fun _ => ?_) (fun _ => ?_)
  · exact k_return rfl dX2_put_30
  refine k_aloadn (j := 0) dX2_put_22 rfl rfl ?_
  refine k_getr fg_2_11 rfl rfl dX2_put_23 (fun x5 => ?_)
  refine k_iload dX2_put_26 rfl ?_
  refine k_iloadn (j := 3) dX2_put_28 rfl rfl ?_
  rcases x5 with _ | a6
  · exact k_ocn
  refine k_ocs ?_
  refine k_iast dX2_put_29 (fun g7 => ?_)
  exact k_return rfl dX2_put_30
theorem dX2_write_0 : decode cX2_write 0 = .ok (.aload_n 0, 1) := by decide +kernel
theorem dX2_write_1 : decode cX2_write 1 = .ok (.aload_n 0, 1) := by decide +kernel
theorem dX2_write_2 : decode cX2_write 2 = .ok (.getfield 15, 3) := by decide +kernel
theorem dX2_write_5 : decode cX2_write 5 = .ok (.iconst 0, 1) := by decide +kernel
theorem dX2_write_6 : decode cX2_write 6 = .ok (.iload_n 1, 1) := by decide +kernel
theorem dX2_write_7 : decode cX2_write 7 = .ok (.invokevirtual 19, 3) := by decide +kernel
theorem dX2_write_10 : decode cX2_write 10 = .ok (.aload_n 0, 1) := by decide +kernel
theorem dX2_write_11 : decode cX2_write 11 = .ok (.aload_n 0, 1) := by decide +kernel
theorem dX2_write_12 : decode cX2_write 12 = .ok (.getfield 15, 3) := by decide +kernel
theorem dX2_write_15 : decode cX2_write 15 = .ok (.iconst 1, 1) := by decide +kernel
theorem dX2_write_16 : decode cX2_write 16 = .ok (.iload_n 2, 1) := by decide +kernel
theorem dX2_write_17 : decode cX2_write 17 = .ok (.invokevirtual 19, 3) := by decide +kernel
theorem dX2_write_20 : decode cX2_write 20 = .ok (.aload_n 0, 1) := by decide +kernel
theorem dX2_write_21 : decode cX2_write 21 = .ok (.aload_n 0, 1) := by decide +kernel
theorem dX2_write_22 : decode cX2_write 22 = .ok (.getfield 15, 3) := by decide +kernel
theorem dX2_write_25 : decode cX2_write 25 = .ok (.iconst 2, 1) := by decide +kernel
theorem dX2_write_26 : decode cX2_write 26 = .ok (.iload_n 3, 1) := by decide +kernel
theorem dX2_write_27 : decode cX2_write 27 = .ok (.invokevirtual 19, 3) := by decide +kernel
theorem dX2_write_30 : decode cX2_write 30 = .ok (.aload_n 0, 1) := by decide +kernel
theorem dX2_write_31 : decode cX2_write 31 = .ok (.aload_n 0, 1) := by decide +kernel
theorem dX2_write_32 : decode cX2_write 32 = .ok (.getfield 15, 3) := by decide +kernel
theorem dX2_write_35 : decode cX2_write 35 = .ok (.iconst 3, 1) := by decide +kernel
theorem dX2_write_36 : decode cX2_write 36 = .ok (.iload 4, 2) := by decide +kernel
theorem dX2_write_38 : decode cX2_write 38 = .ok (.invokevirtual 19, 3) := by decide +kernel
theorem dX2_write_41 : decode cX2_write 41 = .ok (.aload_n 0, 1) := by decide +kernel
theorem dX2_write_42 : decode cX2_write 42 = .ok (.dup, 1) := by decide +kernel
theorem dX2_write_43 : decode cX2_write 43 = .ok (.getfield 15, 3) := by decide +kernel
theorem dX2_write_46 : decode cX2_write 46 = .ok (.iconst 1, 1) := by decide +kernel
theorem dX2_write_47 : decode cX2_write 47 = .ok (.iadd, 1) := by decide +kernel
theorem dX2_write_48 : decode cX2_write 48 = .ok (.putfield 15, 3) := by decide +kernel
theorem dX2_write_51 : decode cX2_write 51 = .ok (.return_, 1) := by decide +kernel
def f2_write (v0 : Nat) (v1 : Int32) (v2 : Int32) (v3 : Int32) (v4 : Int32) (g : GS_) : Option (Unit × GS_) :=
  bd_ (f2_put v0 (gfi g 65 v0) (0 : Int32) v1 g) fun _ g1 => bd_ (f2_put v0 (gfi g1 65 v0) (1 : Int32) v2 g1) fun _ g2 => bd_ (f2_put v0 (gfi g2 65 v0) (2 : Int32) v3 g2) fun _ g3 => bd_ (f2_put v0 (gfi g3 65 v0) (3 : Int32) v4 g3) fun _ g4 => lr_ (sfi g4 65 v0 ((gfi g4 65 v0) + (1 : Int32))) fun g5 => some ((), g5)
theorem t2_write (v0 : Nat) (v1 : Int32) (v2 : Int32) (v3 : Int32) (v4 : Int32) (g : GS_) : Cn_ yX2_write cX2_write 5 none 2 45 EV_ [.inr (2, some v0), .inl v1, .inl v2, .inl v3, .inl v4] g (f2_write v0 v1 v2 v3 v4 g) := by
  refine k_method (own := RX2) (ini := false) (L1 := [some (.inr (2, some v0)), some (.inl v1), some (.inl v2), some (.inl v3), some (.inl v4)]) (by decide +kernel) rfl (fun h => by cases h) (Nat.le_of_ble_eq_true rfl) rfl ?_
  unfold f2_write
  refine k_aloadn (j := 0) dX2_write_0 rfl rfl ?_
  refine k_aloadn (j := 0) dX2_write_1 rfl rfl ?_
  refine k_geti fg_2_15 rfl rfl dX2_write_2 ?_
  refine k_iconst (v := (0 : Int32)) dX2_write_5 rfl ?_
  refine k_iloadn (j := 1) dX2_write_6 rfl rfl ?_
  refine k_callVv [.inl (gfi g 65 v0), .inl (0 : Int32), .inl v1] (t2_put v0 (gfi g 65 v0) (0 : Int32) v1 g) cw_cX2_put (Or.inl ml_2_19) rfl rfl (by decide) (by decide) (Nat.le_of_ble_eq_true rfl) dX2_write_7 (fun _ g1 => ?_)
  refine k_aloadn (j := 0) dX2_write_10 rfl rfl ?_
  refine k_aloadn (j := 0) dX2_write_11 rfl rfl ?_
  refine k_geti fg_2_15 rfl rfl dX2_write_12 ?_
  refine k_iconst (v := (1 : Int32)) dX2_write_15 rfl ?_
  refine k_iloadn (j := 2) dX2_write_16 rfl rfl ?_
  refine k_callVv [.inl (gfi g1 65 v0), .inl (1 : Int32), .inl v2] (t2_put v0 (gfi g1 65 v0) (1 : Int32) v2 g1) cw_cX2_put (Or.inl ml_2_19) rfl rfl (by decide) (by decide) (Nat.le_of_ble_eq_true rfl) dX2_write_17 (fun _ g2 => ?_)
  refine k_aloadn (j := 0) dX2_write_20 rfl rfl ?_
  refine k_aloadn (j := 0) dX2_write_21 rfl rfl ?_
  refine k_geti fg_2_15 rfl rfl dX2_write_22 ?_
  refine k_iconst (v := (2 : Int32)) dX2_write_25 rfl ?_
  refine k_iloadn (j := 3) dX2_write_26 rfl rfl ?_
  refine k_callVv [.inl (gfi g2 65 v0), .inl (2 : Int32), .inl v3] (t2_put v0 (gfi g2 65 v0) (2 : Int32) v3 g2) cw_cX2_put (Or.inl ml_2_19) rfl rfl (by decide) (by decide) (Nat.le_of_ble_eq_true rfl) dX2_write_27 (fun _ g3 => ?_)
  refine k_aloadn (j := 0) dX2_write_30 rfl rfl ?_
  refine k_aloadn (j := 0) dX2_write_31 rfl rfl ?_
  refine k_geti fg_2_15 rfl rfl dX2_write_32 ?_
  refine k_iconst (v := (3 : Int32)) dX2_write_35 rfl ?_
  refine k_iload dX2_write_36 rfl ?_
  refine k_callVv [.inl (gfi g3 65 v0), .inl (3 : Int32), .inl v4] (t2_put v0 (gfi g3 65 v0) (3 : Int32) v4 g3) cw_cX2_put (Or.inl ml_2_19) rfl rfl (by decide) (by decide) (Nat.le_of_ble_eq_true rfl) dX2_write_38 (fun _ g4 => ?_)
  refine k_aloadn (j := 0) dX2_write_41 rfl rfl ?_
  refine k_dup dX2_write_42 ?_
  refine k_geti fg_2_15 rfl rfl dX2_write_43 ?_
  refine k_iconst (v := (1 : Int32)) dX2_write_46 rfl ?_
  refine k_iadd dX2_write_47 ?_
  refine k_puti fp_2_15 rfl rfl dX2_write_48 (fun g5 => ?_)
  exact k_return rfl dX2_write_51
theorem dX2_has_0 : decode cX2_has 0 = .ok (.iload_n 1, 1) := by decide +kernel
theorem dX2_has_1 : decode cX2_has 1 = .ok (.ifCond .lt 26, 3) := by decide +kernel
theorem dX2_has_4 : decode cX2_has 4 = .ok (.iload_n 1, 1) := by decide +kernel
theorem dX2_has_5 : decode cX2_has 5 = .ok (.aload_n 0, 1) := by decide +kernel
theorem dX2_has_6 : decode cX2_has 6 = .ok (.getfield 15, 3) := by decide +kernel
theorem dX2_has_9 : decode cX2_has 9 = .ok (.if_icmp .ge 18, 3) := by decide +kernel
theorem dX2_has_12 : decode cX2_has 12 = .ok (.iload_n 1, 1) := by decide +kernel
theorem dX2_has_13 : decode cX2_has 13 = .ok (.aload_n 0, 1) := by decide +kernel
theorem dX2_has_14 : decode cX2_has 14 = .ok (.getfield 15, 3) := by decide +kernel
theorem dX2_has_17 : decode cX2_has 17 = .ok (.bipush 100, 2) := by decide +kernel
theorem dX2_has_19 : decode cX2_has 19 = .ok (.isub, 1) := by decide +kernel
theorem dX2_has_20 : decode cX2_has 20 = .ok (.if_icmp .lt 7, 3) := by decide +kernel
theorem dX2_has_23 : decode cX2_has 23 = .ok (.iconst 1, 1) := by decide +kernel
theorem dX2_has_24 : decode cX2_has 24 = .ok (.goto 4, 3) := by decide +kernel
theorem dX2_has_27 : decode cX2_has 27 = .ok (.iconst 0, 1) := by decide +kernel
theorem dX2_has_28 : decode cX2_has 28 = .ok (.ireturn, 1) := by decide +kernel
def f2_has_b27 (g : GS_) : Option (Int32 × GS_) :=
  some ((0 : Int32), g)
theorem t2_has_b27 (g : GS_) : K_ RX2 cX2_has 2 (some .boolean) 0 0 false EI_ 27 [none, none] [] g (f2_has_b27 g) := by
  unfold f2_has_b27
  refine k_iconst (v := (0 : Int32)) dX2_has_27 rfl ?_
  exact k_zreturn rfl (by decide) dX2_has_28
def f2_has (v0 : Nat) (v1 : Int32) (g : GS_) : Option (Int32 × GS_) :=
  if v1 < 0 then f2_has_b27 g else if (gfi g 65 v0) ≤ v1 then f2_has_b27 g else if v1 < ((gfi g 65 v0) - (100 : Int32)) then f2_has_b27 g else some ((1 : Int32), g)
theorem t2_has (v0 : Nat) (v1 : Int32) (g : GS_) : Cn_ yX2_has cX2_has 2 (some .boolean) 0 0 EI_ [.inr (2, some v0), .inl v1] g (f2_has v0 v1 g) := by
  refine k_method (own := RX2) (ini := false) (L1 := [some (.inr (2, some v0)), some (.inl v1)]) (by decide +kernel) rfl (fun h => by cases h) (Nat.le_of_ble_eq_true rfl) rfl ?_
  unfold f2_has
  refine k_iloadn (j := 1) dX2_has_0 rfl rfl ?_
  refine k_iflt (tgt := 27) dX2_has_1 (by decide) (fun _ => ?_) (fun _ => ?_)
  · refine k_msk (L' := [none, none]) [false, false] rfl ?_
    exact t2_has_b27 g
  refine k_iloadn (j := 1) dX2_has_4 rfl rfl ?_
  refine k_aloadn (j := 0) dX2_has_5 rfl rfl ?_
  refine k_geti fg_2_15 rfl rfl dX2_has_6 ?_
  refine k_icmpge (tgt := 27) dX2_has_9 (by decide) (fun _ => ?_) (fun _ => ?_)
  · refine k_msk (L' := [none, none]) [false, false] rfl ?_
    exact t2_has_b27 g
  refine k_iloadn (j := 1) dX2_has_12 rfl rfl ?_
  refine k_aloadn (j := 0) dX2_has_13 rfl rfl ?_
  refine k_geti fg_2_15 rfl rfl dX2_has_14 ?_
  refine k_bipush (v := (100 : Int32)) dX2_has_17 rfl ?_
  refine k_isub dX2_has_19 ?_
  refine k_icmplt (tgt := 27) dX2_has_20 (by decide) (fun _ => ?_) (fun _ => ?_)
  · refine k_msk (L' := [none, none]) [false, false] rfl ?_
    exact t2_has_b27 g
  refine k_iconst (v := (1 : Int32)) dX2_has_23 rfl ?_
  refine k_goto (tgt := 28) dX2_has_24 (by decide) ?_
  exact k_zreturn rfl (by decide) dX2_has_28
theorem dX2_read_0 : decode cX2_read 0 = .ok (.iload_n 1, 1) := by decide +kernel
theorem dX2_read_1 : decode cX2_read 1 = .ok (.iload_n 2, 1) := by decide +kernel
theorem dX2_read_2 : decode cX2_read 2 = .ok (.invokestatic 23, 3) := by decide +kernel
theorem dX2_read_5 : decode cX2_read 5 = .ok (.istore_n 3, 1) := by decide +kernel
theorem dX2_read_6 : decode cX2_read 6 = .ok (.iload_n 3, 1) := by decide +kernel
theorem dX2_read_7 : decode cX2_read 7 = .ok (.ifCond .lt 21, 3) := by decide +kernel
theorem dX2_read_10 : decode cX2_read 10 = .ok (.iload_n 3, 1) := by decide +kernel
theorem dX2_read_11 : decode cX2_read 11 = .ok (.aload_n 0, 1) := by decide +kernel
theorem dX2_read_12 : decode cX2_read 12 = .ok (.getfield 11, 3) := by decide +kernel
theorem dX2_read_15 : decode cX2_read 15 = .ok (.arraylength, 1) := by decide +kernel
theorem dX2_read_16 : decode cX2_read 16 = .ok (.if_icmp .ge 12, 3) := by decide +kernel
theorem dX2_read_19 : decode cX2_read 19 = .ok (.aload_n 0, 1) := by decide +kernel
theorem dX2_read_20 : decode cX2_read 20 = .ok (.getfield 11, 3) := by decide +kernel
theorem dX2_read_23 : decode cX2_read 23 = .ok (.iload_n 3, 1) := by decide +kernel
theorem dX2_read_24 : decode cX2_read 24 = .ok (.iaload, 1) := by decide +kernel
theorem dX2_read_25 : decode cX2_read 25 = .ok (.goto 4, 3) := by decide +kernel
theorem dX2_read_28 : decode cX2_read 28 = .ok (.iconst 0, 1) := by decide +kernel
theorem dX2_read_29 : decode cX2_read 29 = .ok (.ireturn, 1) := by decide +kernel
def f2_read_b28 (g : GS_) : Option (Int32 × GS_) :=
  some ((0 : Int32), g)
theorem t2_read_b28 (g : GS_) : K_ RX2 cX2_read 4 (some .int) 1 21 false EI_ 28 [none, none, none, none] [] g (f2_read_b28 g) := by
  unfold f2_read_b28
  refine k_iconst (v := (0 : Int32)) dX2_read_28 rfl ?_
  exact k_ireturn rfl dX2_read_29
def f2_read (v0 : Nat) (v1 : Int32) (v2 : Int32) (g : GS_) : Option (Int32 × GS_) :=
  bd_ (f2_cellOf v1 v2 g) fun z2 g1 => if z2 < 0 then f2_read_b28 g1 else lr_ (gfr g1 64 v0) fun x3 => oc_ x3 none fun a4 => if (Int32.ofNat (gln g1 20 a4)) ≤ z2 then f2_read_b28 g1 else lr_ (gfr g1 64 v0) fun x5 => oc_ x5 none fun a6 => if inb z2 (gln g1 20 a6) then some ((gai g1 20 a6 z2.toInt.toNat), g1) else none
theorem t2_read (v0 : Nat) (v1 : Int32) (v2 : Int32) (g : GS_) : Cn_ yX2_read cX2_read 4 (some .int) 1 21 EI_ [.inr (2, some v0), .inl v1, .inl v2] g (f2_read v0 v1 v2 g) := by
  refine k_method (own := RX2) (ini := false) (L1 := [some (.inr (2, some v0)), some (.inl v1), some (.inl v2), none]) (by decide +kernel) rfl (fun h => by cases h) (Nat.le_of_ble_eq_true rfl) rfl ?_
  unfold f2_read
  refine k_iloadn (j := 1) dX2_read_0 rfl rfl ?_
  refine k_iloadn (j := 2) dX2_read_1 rfl rfl ?_
  refine k_callSi [.inl v1, .inl v2] (t2_cellOf v1 v2 g) cw_cX2_cellOf ml_2_23 rfl rfl (by decide) (by decide) (Nat.le_of_ble_eq_true rfl) dX2_read_2 (fun z2 g1 => ?_)
  refine k_istn (j := 3) (L' := [some (.inr (2, some v0)), some (.inl v1), some (.inl v2), some (.inl z2)]) dX2_read_5 rfl (by decide) rfl ?_
  refine k_iloadn (j := 3) dX2_read_6 rfl rfl ?_
  refine k_iflt (tgt := 28) dX2_read_7 (by decide) (fun _ => ?_) (fun _ => ?_)
  · refine k_msk (L' := [none, none, none, none]) [false, false, false, false] rfl ?_
    exact t2_read_b28 g1
  refine k_iloadn (j := 3) dX2_read_10 rfl rfl ?_
  refine k_aloadn (j := 0) dX2_read_11 rfl rfl ?_
  refine k_getr fg_2_11 rfl rfl dX2_read_12 (fun x3 => ?_)
  rcases x3 with _ | a4
  · exact k_ocn
  refine k_ocs ?_
  refine k_alen dX2_read_15 (by decide) ?_
  refine k_icmpge (tgt := 28) dX2_read_16 (by decide) (fun _ => ?_) (fun _ => ?_)
  · refine k_msk (L' := [none, none, none, none]) [false, false, false, false] rfl ?_
    exact t2_read_b28 g1
  refine k_aloadn (j := 0) dX2_read_19 rfl rfl ?_
  refine k_getr fg_2_11 rfl rfl dX2_read_20 (fun x5 => ?_)
  refine k_iloadn (j := 3) dX2_read_23 rfl rfl ?_
  rcases x5 with _ | a6
  · exact k_ocn
  refine k_ocs ?_
  refine k_iald dX2_read_24 ?_
  refine k_goto (tgt := 29) dX2_read_25 (by decide) ?_
  exact k_ireturn rfl dX2_read_29
theorem dX2_copyFrom_0 : decode cX2_copyFrom 0 = .ok (.aload_n 0, 1) := by decide +kernel
theorem dX2_copyFrom_1 : decode cX2_copyFrom 1 = .ok (.aload_n 1, 1) := by decide +kernel
theorem dX2_copyFrom_2 : decode cX2_copyFrom 2 = .ok (.getfield 15, 3) := by decide +kernel
theorem dX2_copyFrom_5 : decode cX2_copyFrom 5 = .ok (.putfield 15, 3) := by decide +kernel
theorem dX2_copyFrom_8 : decode cX2_copyFrom 8 = .ok (.aload_n 1, 1) := by decide +kernel
theorem dX2_copyFrom_9 : decode cX2_copyFrom 9 = .ok (.getfield 11, 3) := by decide +kernel
theorem dX2_copyFrom_12 : decode cX2_copyFrom 12 = .ok (.iconst 0, 1) := by decide +kernel
theorem dX2_copyFrom_13 : decode cX2_copyFrom 13 = .ok (.aload_n 0, 1) := by decide +kernel
theorem dX2_copyFrom_14 : decode cX2_copyFrom 14 = .ok (.getfield 11, 3) := by decide +kernel
theorem dX2_copyFrom_17 : decode cX2_copyFrom 17 = .ok (.iconst 0, 1) := by decide +kernel
theorem dX2_copyFrom_18 : decode cX2_copyFrom 18 = .ok (.aload_n 0, 1) := by decide +kernel
theorem dX2_copyFrom_19 : decode cX2_copyFrom 19 = .ok (.getfield 11, 3) := by decide +kernel
theorem dX2_copyFrom_22 : decode cX2_copyFrom 22 = .ok (.arraylength, 1) := by decide +kernel
theorem dX2_copyFrom_23 : decode cX2_copyFrom 23 = .ok (.invokestatic 27, 3) := by decide +kernel
theorem dX2_copyFrom_26 : decode cX2_copyFrom 26 = .ok (.return_, 1) := by decide +kernel
def f2_copyFrom (v0 : Nat) (v1 : Option Nat) (g : GS_) : Option (Unit × GS_) :=
  oc_ v1 none fun a1 => lr_ (sfi g 65 v0 (gfi g 65 a1)) fun g2 => lr_ (gfr g2 64 a1) fun x3 => lr_ (gfr g2 64 v0) fun x4 => lr_ (gfr g2 64 v0) fun x5 => oc_ x5 none fun a6 => oc_ x3 none fun a7 => oc_ x4 none fun a8 => cp_ g2 a7 a8 (0 : Int32) (0 : Int32) (Int32.ofNat (gln g2 20 a6)) fun g9 => some ((), g9)
theorem t2_copyFrom (v0 : Nat) (v1 : Option Nat) (g : GS_) : Cn_ yX2_copyFrom cX2_copyFrom 2 none 1 40 EV_ [.inr (2, some v0), .inr (2, v1)] g (f2_copyFrom v0 v1 g) := by
  refine k_method (own := RX2) (ini := false) (L1 := [some (.inr (2, some v0)), some (.inr (2, v1))]) (by decide +kernel) rfl (fun h => by cases h) (Nat.le_of_ble_eq_true rfl) rfl ?_
  unfold f2_copyFrom
  refine k_aloadn (j := 0) dX2_copyFrom_0 rfl rfl ?_
  refine k_aloadn (j := 1) dX2_copyFrom_1 rfl rfl ?_
  rcases v1 with _ | a1
  · exact k_ocn
  refine k_ocs ?_
  refine k_geti fg_2_15 rfl rfl dX2_copyFrom_2 ?_
  refine k_puti fp_2_15 rfl rfl dX2_copyFrom_5 (fun g2 => ?_)
  refine k_aloadn (j := 1) dX2_copyFrom_8 rfl rfl ?_
  refine k_getr fg_2_11 rfl rfl dX2_copyFrom_9 (fun x3 => ?_)
  refine k_iconst (v := (0 : Int32)) dX2_copyFrom_12 rfl ?_
  refine k_aloadn (j := 0) dX2_copyFrom_13 rfl rfl ?_
  refine k_getr fg_2_11 rfl rfl dX2_copyFrom_14 (fun x4 => ?_)
  refine k_iconst (v := (0 : Int32)) dX2_copyFrom_17 rfl ?_
  refine k_aloadn (j := 0) dX2_copyFrom_18 rfl rfl ?_
  refine k_getr fg_2_11 rfl rfl dX2_copyFrom_19 (fun x5 => ?_)
  rcases x5 with _ | a6
  · exact k_ocn
  refine k_ocs ?_
  refine k_alen dX2_copyFrom_22 (by decide) ?_
  rcases x3 with _ | a7
  · exact k_ocn
  refine k_ocs ?_
  rcases x4 with _ | a8
  · exact k_ocn
  refine k_ocs ?_
  refine k_copy yw_ ml_2_27 (by decide) (Nat.le_of_ble_eq_true rfl) dX2_copyFrom_23 (fun g9 => ?_)
  exact k_return rfl dX2_copyFrom_26
theorem dX3_init_0 : decode cX3_init 0 = .ok (.aload_n 0, 1) := by decide +kernel
theorem dX3_init_1 : decode cX3_init 1 = .ok (.invokespecial 3, 3) := by decide +kernel
theorem dX3_init_4 : decode cX3_init 4 = .ok (.aload_n 0, 1) := by decide +kernel
theorem dX3_init_5 : decode cX3_init 5 = .ok (.sipush 400, 3) := by decide +kernel
theorem dX3_init_8 : decode cX3_init 8 = .ok (.newarray .int, 2) := by decide +kernel
theorem dX3_init_10 : decode cX3_init 10 = .ok (.putfield 9, 3) := by decide +kernel
theorem dX3_init_13 : decode cX3_init 13 = .ok (.aload_n 0, 1) := by decide +kernel
theorem dX3_init_14 : decode cX3_init 14 = .ok (.iconst 0, 1) := by decide +kernel
theorem dX3_init_15 : decode cX3_init 15 = .ok (.putfield 15, 3) := by decide +kernel
theorem dX3_init_18 : decode cX3_init 18 = .ok (.aload_n 0, 1) := by decide +kernel
theorem dX3_init_19 : decode cX3_init 19 = .ok (.iconst 0, 1) := by decide +kernel
theorem dX3_init_20 : decode cX3_init 20 = .ok (.putfield 19, 3) := by decide +kernel
theorem dX3_init_23 : decode cX3_init 23 = .ok (.return_, 1) := by decide +kernel
def f3_init (v0 : Nat) (g : GS_) : Option (Unit × GS_) :=
  na_ g 20 (400 : Int32) fun a1 g2 => lr_ (sfr g2 96 v0 (some a1)) fun g3 => lr_ (sfi g3 97 v0 (0 : Int32)) fun g4 => lr_ (sfi g4 98 v0 (0 : Int32)) fun g5 => some ((), g5)
theorem t3_init (v0 : Nat) (g : GS_) : Cn_ yX3_init cX3_init 1 none 1 12 EV_ [.inr (3, some v0)] g (f3_init v0 g) := by
  refine k_method (own := RX3) (ini := true) (L1 := [some (.inr (3, some v0))]) (by decide +kernel) rfl (fun _ => rfl) (Nat.le_of_ble_eq_true rfl) rfl ?_
  unfold f3_init
  refine k_aloadn (j := 0) dX3_init_0 rfl rfl ?_
  refine k_objInit ml_3_3 oi_.1 oi_.2 (by decide) (Nat.le_of_ble_eq_true rfl) dX3_init_1 ?_
  refine k_aloadn (j := 0) dX3_init_4 rfl rfl ?_
  refine k_sipush (v := (400 : Int32)) dX3_init_5 rfl ?_
  refine k_newa ac_20 dX3_init_8 (fun a1 g2 => ?_)
  refine k_putfr fp_3_9 ty_arr rfl rfl rfl dX3_init_10 (fun g3 => ?_)
  refine k_aloadn (j := 0) dX3_init_13 rfl rfl ?_
  refine k_iconst (v := (0 : Int32)) dX3_init_14 rfl ?_
  refine k_puti fp_3_15 rfl rfl dX3_init_15 (fun g4 => ?_)
  refine k_aloadn (j := 0) dX3_init_18 rfl rfl ?_
  refine k_iconst (v := (0 : Int32)) dX3_init_19 rfl ?_
  refine k_putz fp_3_19 rfl rfl (by decide) dX3_init_20 (fun g5 => ?_)
  exact k_return rfl dX3_init_23
theorem dX3_empty_0 : decode cX3_empty 0 = .ok (.aload_n 0, 1) := by decide +kernel
theorem dX3_empty_1 : decode cX3_empty 1 = .ok (.iconst 0, 1) := by decide +kernel
theorem dX3_empty_2 : decode cX3_empty 2 = .ok (.putfield 15, 3) := by decide +kernel
theorem dX3_empty_5 : decode cX3_empty 5 = .ok (.aload_n 0, 1) := by decide +kernel
theorem dX3_empty_6 : decode cX3_empty 6 = .ok (.iconst 0, 1) := by decide +kernel
theorem dX3_empty_7 : decode cX3_empty 7 = .ok (.putfield 19, 3) := by decide +kernel
theorem dX3_empty_10 : decode cX3_empty 10 = .ok (.return_, 1) := by decide +kernel
def f3_empty (v0 : Nat) (g : GS_) : Option (Unit × GS_) :=
  lr_ (sfi g 97 v0 (0 : Int32)) fun g1 => lr_ (sfi g1 98 v0 (0 : Int32)) fun g2 => some ((), g2)
theorem t3_empty (v0 : Nat) (g : GS_) : Cn_ yX3_empty cX3_empty 1 none 0 0 EV_ [.inr (3, some v0)] g (f3_empty v0 g) := by
  refine k_method (own := RX3) (ini := false) (L1 := [some (.inr (3, some v0))]) (by decide +kernel) rfl (fun h => by cases h) (Nat.le_of_ble_eq_true rfl) rfl ?_
  unfold f3_empty
  refine k_aloadn (j := 0) dX3_empty_0 rfl rfl ?_
  refine k_iconst (v := (0 : Int32)) dX3_empty_1 rfl ?_
  refine k_puti fp_3_15 rfl rfl dX3_empty_2 (fun g1 => ?_)
  refine k_aloadn (j := 0) dX3_empty_5 rfl rfl ?_
  refine k_iconst (v := (0 : Int32)) dX3_empty_6 rfl ?_
  refine k_putz fp_3_19 rfl rfl (by decide) dX3_empty_7 (fun g2 => ?_)
  exact k_return rfl dX3_empty_10
theorem dX3_has_0 : decode cX3_has 0 = .ok (.iload_n 1, 1) := by decide +kernel
theorem dX3_has_1 : decode cX3_has 1 = .ok (.ifCond .lt 24, 3) := by decide +kernel
theorem dX3_has_4 : decode cX3_has 4 = .ok (.iload_n 1, 1) := by decide +kernel
theorem dX3_has_5 : decode cX3_has 5 = .ok (.aload_n 0, 1) := by decide +kernel
theorem dX3_has_6 : decode cX3_has 6 = .ok (.getfield 15, 3) := by decide +kernel
theorem dX3_has_9 : decode cX3_has 9 = .ok (.if_icmp .ge 16, 3) := by decide +kernel
theorem dX3_has_12 : decode cX3_has 12 = .ok (.iload_n 1, 1) := by decide +kernel
theorem dX3_has_13 : decode cX3_has 13 = .ok (.aload_n 0, 1) := by decide +kernel
theorem dX3_has_14 : decode cX3_has 14 = .ok (.getfield 9, 3) := by decide +kernel
theorem dX3_has_17 : decode cX3_has 17 = .ok (.arraylength, 1) := by decide +kernel
theorem dX3_has_18 : decode cX3_has 18 = .ok (.if_icmp .ge 7, 3) := by decide +kernel
theorem dX3_has_21 : decode cX3_has 21 = .ok (.iconst 1, 1) := by decide +kernel
theorem dX3_has_22 : decode cX3_has 22 = .ok (.goto 4, 3) := by decide +kernel
theorem dX3_has_25 : decode cX3_has 25 = .ok (.iconst 0, 1) := by decide +kernel
theorem dX3_has_26 : decode cX3_has 26 = .ok (.ireturn, 1) := by decide +kernel
def f3_has_b25 (g : GS_) : Option (Int32 × GS_) :=
  some ((0 : Int32), g)
theorem t3_has_b25 (g : GS_) : K_ RX3 cX3_has 2 (some .boolean) 0 0 false EI_ 25 [none, none] [] g (f3_has_b25 g) := by
  unfold f3_has_b25
  refine k_iconst (v := (0 : Int32)) dX3_has_25 rfl ?_
  exact k_zreturn rfl (by decide) dX3_has_26
def f3_has (v0 : Nat) (v1 : Int32) (g : GS_) : Option (Int32 × GS_) :=
  if v1 < 0 then f3_has_b25 g else if (gfi g 97 v0) ≤ v1 then f3_has_b25 g else lr_ (gfr g 96 v0) fun x1 => oc_ x1 none fun a2 => if (Int32.ofNat (gln g 20 a2)) ≤ v1 then f3_has_b25 g else some ((1 : Int32), g)
theorem t3_has (v0 : Nat) (v1 : Int32) (g : GS_) : Cn_ yX3_has cX3_has 2 (some .boolean) 0 0 EI_ [.inr (3, some v0), .inl v1] g (f3_has v0 v1 g) := by
  refine k_method (own := RX3) (ini := false) (L1 := [some (.inr (3, some v0)), some (.inl v1)]) (by decide +kernel) rfl (fun h => by cases h) (Nat.le_of_ble_eq_true rfl) rfl ?_
  unfold f3_has
  refine k_iloadn (j := 1) dX3_has_0 rfl rfl ?_
  refine k_iflt (tgt := 25) dX3_has_1 (by decide) (fun _ => ?_) (fun _ => ?_)
  · refine k_msk (L' := [none, none]) [false, false] rfl ?_
    exact t3_has_b25 g
  refine k_iloadn (j := 1) dX3_has_4 rfl rfl ?_
  refine k_aloadn (j := 0) dX3_has_5 rfl rfl ?_
  refine k_geti fg_3_15 rfl rfl dX3_has_6 ?_
  refine k_icmpge (tgt := 25) dX3_has_9 (by decide) (fun _ => ?_) (fun _ => ?_)
  · refine k_msk (L' := [none, none]) [false, false] rfl ?_
    exact t3_has_b25 g
  refine k_iloadn (j := 1) dX3_has_12 rfl rfl ?_
  refine k_aloadn (j := 0) dX3_has_13 rfl rfl ?_
  refine k_getr fg_3_9 rfl rfl dX3_has_14 (fun x1 => ?_)
  rcases x1 with _ | a2
  · exact k_ocn
  refine k_ocs ?_
  refine k_alen dX3_has_17 (by decide) ?_
  refine k_icmpge (tgt := 25) dX3_has_18 (by decide) (fun _ => ?_) (fun _ => ?_)
  · refine k_msk (L' := [none, none]) [false, false] rfl ?_
    exact t3_has_b25 g
  refine k_iconst (v := (1 : Int32)) dX3_has_21 rfl ?_
  refine k_goto (tgt := 26) dX3_has_22 (by decide) ?_
  exact k_zreturn rfl (by decide) dX3_has_26
theorem dX3_pageAt_0 : decode cX3_pageAt 0 = .ok (.aload_n 0, 1) := by decide +kernel
theorem dX3_pageAt_1 : decode cX3_pageAt 1 = .ok (.iload_n 1, 1) := by decide +kernel
theorem dX3_pageAt_2 : decode cX3_pageAt 2 = .ok (.invokevirtual 23, 3) := by decide +kernel
theorem dX3_pageAt_5 : decode cX3_pageAt 5 = .ok (.ifCond .eq 12, 3) := by decide +kernel
theorem dX3_pageAt_8 : decode cX3_pageAt 8 = .ok (.aload_n 0, 1) := by decide +kernel
theorem dX3_pageAt_9 : decode cX3_pageAt 9 = .ok (.getfield 9, 3) := by decide +kernel
theorem dX3_pageAt_12 : decode cX3_pageAt 12 = .ok (.iload_n 1, 1) := by decide +kernel
theorem dX3_pageAt_13 : decode cX3_pageAt 13 = .ok (.iaload, 1) := by decide +kernel
theorem dX3_pageAt_14 : decode cX3_pageAt 14 = .ok (.goto 4, 3) := by decide +kernel
theorem dX3_pageAt_17 : decode cX3_pageAt 17 = .ok (.iconst 0, 1) := by decide +kernel
theorem dX3_pageAt_18 : decode cX3_pageAt 18 = .ok (.ireturn, 1) := by decide +kernel
def f3_pageAt (v0 : Nat) (v1 : Int32) (g : GS_) : Option (Int32 × GS_) :=
  bd_ (f3_has v0 v1 g) fun z2 g1 => if z2 = 0 then some ((0 : Int32), g1) else lr_ (gfr g1 96 v0) fun x3 => oc_ x3 none fun a4 => if inb v1 (gln g1 20 a4) then some ((gai g1 20 a4 v1.toInt.toNat), g1) else none
theorem t3_pageAt (v0 : Nat) (v1 : Int32) (g : GS_) : Cn_ yX3_pageAt cX3_pageAt 2 (some .int) 1 21 EI_ [.inr (3, some v0), .inl v1] g (f3_pageAt v0 v1 g) := by
  refine k_method (own := RX3) (ini := false) (L1 := [some (.inr (3, some v0)), some (.inl v1)]) (by decide +kernel) rfl (fun h => by cases h) (Nat.le_of_ble_eq_true rfl) rfl ?_
  unfold f3_pageAt
  refine k_aloadn (j := 0) dX3_pageAt_0 rfl rfl ?_
  refine k_iloadn (j := 1) dX3_pageAt_1 rfl rfl ?_
  refine k_callVi [.inl v1] (t3_has v0 v1 g) cw_cX3_has (Or.inl ml_3_23) rfl rfl (by decide) (by decide) (Nat.le_of_ble_eq_true rfl) dX3_pageAt_2 (fun z2 g1 => ?_)
  refine k_ifeq (tgt := 17) dX3_pageAt_5 (by decide) (fun _ => ?_) (fun _ => ?_)
  · refine k_iconst (v := (0 : Int32)) dX3_pageAt_17 rfl ?_
    exact k_ireturn rfl dX3_pageAt_18
  refine k_aloadn (j := 0) dX3_pageAt_8 rfl rfl ?_
  refine k_getr fg_3_9 rfl rfl dX3_pageAt_9 (fun x3 => ?_)
  refine k_iloadn (j := 1) dX3_pageAt_12 rfl rfl ?_
  rcases x3 with _ | a4
  · exact k_ocn
  refine k_ocs ?_
  refine k_iald dX3_pageAt_13 ?_
  refine k_goto (tgt := 18) dX3_pageAt_14 (by decide) ?_
  exact k_ireturn rfl dX3_pageAt_18
theorem dX3_copyOfPages_0 : decode cX3_copyOfPages 0 = .ok (.iconst 0, 1) := by decide +kernel
theorem dX3_copyOfPages_1 : decode cX3_copyOfPages 1 = .ok (.aload_n 0, 1) := by decide +kernel
theorem dX3_copyOfPages_2 : decode cX3_copyOfPages 2 = .ok (.getfield 15, 3) := by decide +kernel
theorem dX3_copyOfPages_5 : decode cX3_copyOfPages 5 = .ok (.invokestatic 27, 3) := by decide +kernel
theorem dX3_copyOfPages_8 : decode cX3_copyOfPages 8 = .ok (.newarray .int, 2) := by decide +kernel
theorem dX3_copyOfPages_10 : decode cX3_copyOfPages 10 = .ok (.astore_n 1, 1) := by decide +kernel
theorem dX3_copyOfPages_11 : decode cX3_copyOfPages 11 = .ok (.iconst 0, 1) := by decide +kernel
theorem dX3_copyOfPages_12 : decode cX3_copyOfPages 12 = .ok (.istore_n 2, 1) := by decide +kernel
theorem dX3_copyOfPages_13 : decode cX3_copyOfPages 13 = .ok (.iload_n 2, 1) := by decide +kernel
theorem dX3_copyOfPages_14 : decode cX3_copyOfPages 14 = .ok (.aload_n 1, 1) := by decide +kernel
theorem dX3_copyOfPages_15 : decode cX3_copyOfPages 15 = .ok (.arraylength, 1) := by decide +kernel
theorem dX3_copyOfPages_16 : decode cX3_copyOfPages 16 = .ok (.if_icmp .ge 17, 3) := by decide +kernel
theorem dX3_copyOfPages_19 : decode cX3_copyOfPages 19 = .ok (.aload_n 1, 1) := by decide +kernel
theorem dX3_copyOfPages_20 : decode cX3_copyOfPages 20 = .ok (.iload_n 2, 1) := by decide +kernel
theorem dX3_copyOfPages_21 : decode cX3_copyOfPages 21 = .ok (.aload_n 0, 1) := by decide +kernel
theorem dX3_copyOfPages_22 : decode cX3_copyOfPages 22 = .ok (.iload_n 2, 1) := by decide +kernel
theorem dX3_copyOfPages_23 : decode cX3_copyOfPages 23 = .ok (.invokevirtual 33, 3) := by decide +kernel
theorem dX3_copyOfPages_26 : decode cX3_copyOfPages 26 = .ok (.iastore, 1) := by decide +kernel
theorem dX3_copyOfPages_27 : decode cX3_copyOfPages 27 = .ok (.iinc 2 1, 3) := by decide +kernel
theorem dX3_copyOfPages_30 : decode cX3_copyOfPages 30 = .ok (.goto (-17), 3) := by decide +kernel
theorem dX3_copyOfPages_33 : decode cX3_copyOfPages 33 = .ok (.aload_n 1, 1) := by decide +kernel
theorem dX3_copyOfPages_34 : decode cX3_copyOfPages 34 = .ok (.areturn, 1) := by decide +kernel
def f3_copyOfPages_b13 : Nat → Nat → Nat → Int32 → GS_ → Option (Option Nat × GS_)
  | 0, _, _, _, _ => none
  | n + 1, v0, v1, v2, g =>
    if (Int32.ofNat (gln g 20 v1)) ≤ v2 then some ((some v1), g) else bd_ (f3_pageAt v0 v2 g) fun z2 g1 => if inb v2 (gln g1 20 v1) then lr_ (sai g1 20 v1 v2.toInt.toNat z2) (fun g3 => (f3_copyOfPages_b13 n) v0 v1 (v2 + (1 : Int32)) g3) else none
theorem t3_copyOfPages_b13 : ∀ (n : Nat) (v0 : Nat) (v1 : Nat) (v2 : Int32) (g : GS_), K_ RX3 cX3_copyOfPages 3 (some (.array .int)) 2 42 false (ER_ 20) 13 [some (.inr (3, some v0)), some (.inr (20, some v1)), some (.inl v2)] [] g (f3_copyOfPages_b13 n v0 v1 v2 g) := by
  intro n
  induction n with
  | zero =>
    intro v0 v1 v2 g
    exact k_fail
  | succ n ih =>
    intro v0 v1 v2 g
    show K_ RX3 cX3_copyOfPages 3 (some (.array .int)) 2 42 false (ER_ 20) 13 [some (.inr (3, some v0)), some (.inr (20, some v1)), some (.inl v2)] [] g (if (Int32.ofNat (gln g 20 v1)) ≤ v2 then some ((some v1), g) else bd_ (f3_pageAt v0 v2 g) fun z2 g1 => if inb v2 (gln g1 20 v1) then lr_ (sai g1 20 v1 v2.toInt.toNat z2) (fun g3 => (f3_copyOfPages_b13 n) v0 v1 (v2 + (1 : Int32)) g3) else none)
    refine k_iloadn (j := 2) dX3_copyOfPages_13 rfl rfl ?_
    refine k_aloadn (j := 1) dX3_copyOfPages_14 rfl rfl ?_
    refine k_alen dX3_copyOfPages_15 (by decide) ?_
    refine k_icmpge (tgt := 33) dX3_copyOfPages_16 (by decide) (fun _ => ?_) (fun _ => ?_)
    · refine k_aloadn (j := 1) dX3_copyOfPages_33 rfl rfl ?_
      exact k_areturn rfl (Or.inr ⟨_, rfl⟩) dX3_copyOfPages_34
    refine k_aloadn (j := 1) dX3_copyOfPages_19 rfl rfl ?_
    refine k_iloadn (j := 2) dX3_copyOfPages_20 rfl rfl ?_
    refine k_aloadn (j := 0) dX3_copyOfPages_21 rfl rfl ?_
    refine k_iloadn (j := 2) dX3_copyOfPages_22 rfl rfl ?_
    refine k_callVi [.inl v2] (t3_pageAt v0 v2 g) cw_cX3_pageAt (Or.inl ml_3_33) rfl rfl (by decide) (by decide) (Nat.le_of_ble_eq_true rfl) dX3_copyOfPages_23 (fun z2 g1 => ?_)
    refine k_iast dX3_copyOfPages_26 (fun g3 => ?_)
    refine k_iinc (v := (v2 + (1 : Int32))) (L' := [some (.inr (3, some v0)), some (.inr (20, some v1)), some (.inl (v2 + (1 : Int32)))]) dX3_copyOfPages_27 rfl rfl (by decide) rfl ?_
    refine k_goto (tgt := 13) dX3_copyOfPages_30 (by decide) ?_
    exact ih v0 v1 (v2 + (1 : Int32)) g3
def f3_copyOfPages (v0 : Nat) (g : GS_) : Option (Option Nat × GS_) :=
  na_ g 20 (jmax (0 : Int32) (gfi g 97 v0)) fun a4 g5 => f3_copyOfPages_b13 FU_ v0 a4 (0 : Int32) g5
theorem t3_copyOfPages (v0 : Nat) (g : GS_) : Cn_ yX3_copyOfPages cX3_copyOfPages 3 (some (.array .int)) 2 42 (ER_ 20) [.inr (3, some v0)] g (f3_copyOfPages v0 g) := by
  refine k_method (own := RX3) (ini := false) (L1 := [some (.inr (3, some v0)), none, none]) (by decide +kernel) rfl (fun h => by cases h) (Nat.le_of_ble_eq_true rfl) rfl ?_
  unfold f3_copyOfPages
  refine k_iconst (v := (0 : Int32)) dX3_copyOfPages_0 rfl ?_
  refine k_aloadn (j := 0) dX3_copyOfPages_1 rfl rfl ?_
  refine k_geti fg_3_15 rfl rfl dX3_copyOfPages_2 ?_
  refine k_max mw_max ml_3_27 (by decide) (Nat.le_of_ble_eq_true rfl) dX3_copyOfPages_5 ?_
  refine k_newa ac_20 dX3_copyOfPages_8 (fun a4 g5 => ?_)
  refine k_astn (j := 1) (L' := [some (.inr (3, some v0)), some (.inr (20, some a4)), none]) dX3_copyOfPages_10 rfl (by decide) rfl ?_
  refine k_iconst (v := (0 : Int32)) dX3_copyOfPages_11 rfl ?_
  refine k_istn (j := 2) (L' := [some (.inr (3, some v0)), some (.inr (20, some a4)), some (.inl (0 : Int32))]) dX3_copyOfPages_12 rfl (by decide) rfl ?_
  exact t3_copyOfPages_b13 FU_ v0 a4 (0 : Int32) g5
theorem dX3_matches_0 : decode cX3_matches 0 = .ok (.iload_n 1, 1) := by decide +kernel
theorem dX3_matches_1 : decode cX3_matches 1 = .ok (.iconst (-1), 1) := by decide +kernel
theorem dX3_matches_2 : decode cX3_matches 2 = .ok (.if_icmp .eq 10, 3) := by decide +kernel
theorem dX3_matches_5 : decode cX3_matches 5 = .ok (.iload_n 0, 1) := by decide +kernel
theorem dX3_matches_6 : decode cX3_matches 6 = .ok (.iconst 2, 1) := by decide +kernel
theorem dX3_matches_7 : decode cX3_matches 7 = .ok (.irem, 1) := by decide +kernel
theorem dX3_matches_8 : decode cX3_matches 8 = .ok (.iload_n 1, 1) := by decide +kernel
theorem dX3_matches_9 : decode cX3_matches 9 = .ok (.if_icmp .ne 7, 3) := by decide +kernel
theorem dX3_matches_12 : decode cX3_matches 12 = .ok (.iconst 1, 1) := by decide +kernel
theorem dX3_matches_13 : decode cX3_matches 13 = .ok (.goto 4, 3) := by decide +kernel
theorem dX3_matches_16 : decode cX3_matches 16 = .ok (.iconst 0, 1) := by decide +kernel
theorem dX3_matches_17 : decode cX3_matches 17 = .ok (.ireturn, 1) := by decide +kernel
def f3_matches_b12 (g : GS_) : Option (Int32 × GS_) :=
  some ((1 : Int32), g)
theorem t3_matches_b12 (g : GS_) : K_ RX3 cX3_matches 2 (some .boolean) 0 0 false EI_ 12 [none, none] [] g (f3_matches_b12 g) := by
  unfold f3_matches_b12
  refine k_iconst (v := (1 : Int32)) dX3_matches_12 rfl ?_
  refine k_goto (tgt := 17) dX3_matches_13 (by decide) ?_
  exact k_zreturn rfl (by decide) dX3_matches_17
def f3_matches (v0 : Int32) (v1 : Int32) (g : GS_) : Option (Int32 × GS_) :=
  if v1 = (-1 : Int32) then f3_matches_b12 g else if (jrem v0 (2 : Int32)) = v1 then f3_matches_b12 g else some ((0 : Int32), g)
theorem t3_matches (v0 : Int32) (v1 : Int32) (g : GS_) : Cn_ yX3_matches cX3_matches 2 (some .boolean) 0 0 EI_ [.inl v0, .inl v1] g (f3_matches v0 v1 g) := by
  refine k_method (own := RX3) (ini := false) (L1 := [some (.inl v0), some (.inl v1)]) (by decide +kernel) rfl (fun h => by cases h) (Nat.le_of_ble_eq_true rfl) rfl ?_
  unfold f3_matches
  refine k_iloadn (j := 1) dX3_matches_0 rfl rfl ?_
  refine k_iconst (v := (-1 : Int32)) dX3_matches_1 rfl ?_
  refine k_icmpeq (tgt := 12) dX3_matches_2 (by decide) (fun _ => ?_) (fun _ => ?_)
  · refine k_msk (L' := [none, none]) [false, false] rfl ?_
    exact t3_matches_b12 g
  refine k_iloadn (j := 0) dX3_matches_5 rfl rfl ?_
  refine k_iconst (v := (2 : Int32)) dX3_matches_6 rfl ?_
  refine k_iremc (by decide) dX3_matches_7 ?_
  refine k_iloadn (j := 1) dX3_matches_8 rfl rfl ?_
  refine k_icmpne (tgt := 16) dX3_matches_9 (by decide) (fun _ => ?_) (fun _ => ?_)
  · refine k_msk (L' := [none, none]) [false, false] rfl ?_
    exact t3_matches_b12 g
  refine k_iconst (v := (0 : Int32)) dX3_matches_16 rfl ?_
  exact k_zreturn rfl (by decide) dX3_matches_17
theorem dX3_appendIf_0 : decode cX3_appendIf 0 = .ok (.iload_n 1, 1) := by decide +kernel
theorem dX3_appendIf_1 : decode cX3_appendIf 1 = .ok (.iload_n 2, 1) := by decide +kernel
theorem dX3_appendIf_2 : decode cX3_appendIf 2 = .ok (.invokestatic 44, 3) := by decide +kernel
theorem dX3_appendIf_5 : decode cX3_appendIf 5 = .ok (.ifCond .ne 4, 3) := by decide +kernel
theorem dX3_appendIf_8 : decode cX3_appendIf 8 = .ok (.return_, 1) := by decide +kernel
theorem dX3_appendIf_9 : decode cX3_appendIf 9 = .ok (.aload_n 0, 1) := by decide +kernel
theorem dX3_appendIf_10 : decode cX3_appendIf 10 = .ok (.getfield 15, 3) := by decide +kernel
theorem dX3_appendIf_13 : decode cX3_appendIf 13 = .ok (.ifCond .lt 15, 3) := by decide +kernel
theorem dX3_appendIf_16 : decode cX3_appendIf 16 = .ok (.aload_n 0, 1) := by decide +kernel
theorem dX3_appendIf_17 : decode cX3_appendIf 17 = .ok (.getfield 15, 3) := by decide +kernel
theorem dX3_appendIf_20 : decode cX3_appendIf 20 = .ok (.aload_n 0, 1) := by decide +kernel
theorem dX3_appendIf_21 : decode cX3_appendIf 21 = .ok (.getfield 9, 3) := by decide +kernel
theorem dX3_appendIf_24 : decode cX3_appendIf 24 = .ok (.arraylength, 1) := by decide +kernel
theorem dX3_appendIf_25 : decode cX3_appendIf 25 = .ok (.if_icmp .lt 9, 3) := by decide +kernel
theorem dX3_appendIf_28 : decode cX3_appendIf 28 = .ok (.aload_n 0, 1) := by decide +kernel
theorem dX3_appendIf_29 : decode cX3_appendIf 29 = .ok (.iconst 1, 1) := by decide +kernel
theorem dX3_appendIf_30 : decode cX3_appendIf 30 = .ok (.putfield 19, 3) := by decide +kernel
theorem dX3_appendIf_33 : decode cX3_appendIf 33 = .ok (.return_, 1) := by decide +kernel
theorem dX3_appendIf_34 : decode cX3_appendIf 34 = .ok (.aload_n 0, 1) := by decide +kernel
theorem dX3_appendIf_35 : decode cX3_appendIf 35 = .ok (.getfield 9, 3) := by decide +kernel
theorem dX3_appendIf_38 : decode cX3_appendIf 38 = .ok (.aload_n 0, 1) := by decide +kernel
theorem dX3_appendIf_39 : decode cX3_appendIf 39 = .ok (.getfield 15, 3) := by decide +kernel
theorem dX3_appendIf_42 : decode cX3_appendIf 42 = .ok (.iload_n 1, 1) := by decide +kernel
theorem dX3_appendIf_43 : decode cX3_appendIf 43 = .ok (.iastore, 1) := by decide +kernel
theorem dX3_appendIf_44 : decode cX3_appendIf 44 = .ok (.aload_n 0, 1) := by decide +kernel
theorem dX3_appendIf_45 : decode cX3_appendIf 45 = .ok (.dup, 1) := by decide +kernel
theorem dX3_appendIf_46 : decode cX3_appendIf 46 = .ok (.getfield 15, 3) := by decide +kernel
theorem dX3_appendIf_49 : decode cX3_appendIf 49 = .ok (.iconst 1, 1) := by decide +kernel
theorem dX3_appendIf_50 : decode cX3_appendIf 50 = .ok (.iadd, 1) := by decide +kernel
theorem dX3_appendIf_51 : decode cX3_appendIf 51 = .ok (.putfield 15, 3) := by decide +kernel
theorem dX3_appendIf_54 : decode cX3_appendIf 54 = .ok (.return_, 1) := by decide +kernel
def f3_appendIf_b28 (v0 : Nat) (g : GS_) : Option (Unit × GS_) :=
  lr_ (sfi g 98 v0 (1 : Int32)) fun g1 => some ((), g1)
theorem t3_appendIf_b28 (v0 : Nat) (g : GS_) : K_ RX3 cX3_appendIf 3 none 1 21 false EV_ 28 [some (.inr (3, some v0)), none, none] [] g (f3_appendIf_b28 v0 g) := by
  unfold f3_appendIf_b28
  refine k_aloadn (j := 0) dX3_appendIf_28 rfl rfl ?_
  refine k_iconst (v := (1 : Int32)) dX3_appendIf_29 rfl ?_
  refine k_putz fp_3_19 rfl rfl (by decide) dX3_appendIf_30 (fun g1 => ?_)
  exact k_return rfl dX3_appendIf_33
def f3_appendIf (v0 : Nat) (v1 : Int32) (v2 : Int32) (g : GS_) : Option (Unit × GS_) :=
  bd_ (f3_matches v1 v2 g) fun z3 g2 => if z3 = 0 then some ((), g2) else if (gfi g2 97 v0) < 0 then f3_appendIf_b28 v0 g2 else lr_ (gfr g2 96 v0) fun x4 => oc_ x4 none fun a5 => if (gfi g2 97 v0) < (Int32.ofNat (gln g2 20 a5)) then lr_ (gfr g2 96 v0) fun x6 => oc_ x6 none fun a7 => if inb (gfi g2 97 v0) (gln g2 20 a7) then lr_ (sai g2 20 a7 (gfi g2 97 v0).toInt.toNat v1) (fun g8 => lr_ (sfi g8 97 v0 ((gfi g8 97 v0) + (1 : Int32))) fun g9 => some ((), g9)) else none else f3_appendIf_b28 v0 g2
theorem t3_appendIf (v0 : Nat) (v1 : Int32) (v2 : Int32) (g : GS_) : Cn_ yX3_appendIf cX3_appendIf 3 none 1 21 EV_ [.inr (3, some v0), .inl v1, .inl v2] g (f3_appendIf v0 v1 v2 g) := by
  refine k_method (own := RX3) (ini := false) (L1 := [some (.inr (3, some v0)), some (.inl v1), some (.inl v2)]) (by decide +kernel) rfl (fun h => by cases h) (Nat.le_of_ble_eq_true rfl) rfl ?_
  unfold f3_appendIf
  refine k_iloadn (j := 1) dX3_appendIf_0 rfl rfl ?_
  refine k_iloadn (j := 2) dX3_appendIf_1 rfl rfl ?_
  refine k_callSi [.inl v1, .inl v2] (t3_matches v1 v2 g) cw_cX3_matches ml_3_44 rfl rfl (by decide) (by decide) (Nat.le_of_ble_eq_true rfl) dX3_appendIf_2 (fun z3 g2 => ?_)
  refine k_ifne (tgt := 9) dX3_appendIf_5 (by decide) (fun _ => ?_) (fun _ => ?_)
  · exact k_return rfl dX3_appendIf_8
  refine k_aloadn (j := 0) dX3_appendIf_9 rfl rfl ?_
  refine k_geti fg_3_15 rfl rfl dX3_appendIf_10 ?_
  refine k_iflt (tgt := 28) dX3_appendIf_13 (by decide) (fun _ => ?_) (fun _ => ?_)
  · refine k_msk (L' := [some (.inr (3, some v0)), none, none]) [true, false, false] rfl ?_
    exact t3_appendIf_b28 v0 g2
  refine k_aloadn (j := 0) dX3_appendIf_16 rfl rfl ?_
  refine k_geti fg_3_15 rfl rfl dX3_appendIf_17 ?_
  refine k_aloadn (j := 0) dX3_appendIf_20 rfl rfl ?_
  refine k_getr fg_3_9 rfl rfl dX3_appendIf_21 (fun x4 => ?_)
  rcases x4 with _ | a5
  · exact k_ocn
  refine k_ocs ?_
  refine k_alen dX3_appendIf_24 (by decide) ?_
  refine k_icmplt (tgt := 34) dX3_appendIf_25 (by decide) (fun _ => ?_) (fun _ => ?_)
  · refine k_aloadn (j := 0) dX3_appendIf_34 rfl rfl ?_
    refine k_getr fg_3_9 rfl rfl dX3_appendIf_35 (fun x6 => ?_)
    refine k_aloadn (j := 0) dX3_appendIf_38 rfl rfl ?_
    refine k_geti fg_3_15 rfl rfl dX3_appendIf_39 ?_
    refine k_iloadn (j := 1) dX3_appendIf_42 rfl rfl ?_
    rcases x6 with _ | a7
    · exact k_ocn
    refine k_ocs ?_
    refine k_iast dX3_appendIf_43 (fun g8 => ?_)
    refine k_aloadn (j := 0) dX3_appendIf_44 rfl rfl ?_
    refine k_dup dX3_appendIf_45 ?_
    refine k_geti fg_3_15 rfl rfl dX3_appendIf_46 ?_
    refine k_iconst (v := (1 : Int32)) dX3_appendIf_49 rfl ?_
    refine k_iadd dX3_appendIf_50 ?_
    refine k_puti fp_3_15 rfl rfl dX3_appendIf_51 (fun g9 => ?_)
    exact k_return rfl dX3_appendIf_54
  refine k_msk (L' := [some (.inr (3, some v0)), none, none]) [true, false, false] rfl ?_
  exact t3_appendIf_b28 v0 g2
theorem dX3_appendSpan_0 : decode cX3_appendSpan 0 = .ok (.iload_n 1, 1) := by decide +kernel
theorem dX3_appendSpan_1 : decode cX3_appendSpan 1 = .ok (.iload_n 2, 1) := by decide +kernel
theorem dX3_appendSpan_2 : decode cX3_appendSpan 2 = .ok (.if_icmp .gt 35, 3) := by decide +kernel
theorem dX3_appendSpan_5 : decode cX3_appendSpan 5 = .ok (.iload_n 1, 1) := by decide +kernel
theorem dX3_appendSpan_6 : decode cX3_appendSpan 6 = .ok (.istore 5, 2) := by decide +kernel
theorem dX3_appendSpan_8 : decode cX3_appendSpan 8 = .ok (.iload 5, 2) := by decide +kernel
theorem dX3_appendSpan_10 : decode cX3_appendSpan 10 = .ok (.iload_n 2, 1) := by decide +kernel
theorem dX3_appendSpan_11 : decode cX3_appendSpan 11 = .ok (.if_icmp .gt 23, 3) := by decide +kernel
theorem dX3_appendSpan_14 : decode cX3_appendSpan 14 = .ok (.iload 5, 2) := by decide +kernel
theorem dX3_appendSpan_16 : decode cX3_appendSpan 16 = .ok (.iload 4, 2) := by decide +kernel
theorem dX3_appendSpan_18 : decode cX3_appendSpan 18 = .ok (.if_icmp .gt 16, 3) := by decide +kernel
theorem dX3_appendSpan_21 : decode cX3_appendSpan 21 = .ok (.aload_n 0, 1) := by decide +kernel
theorem dX3_appendSpan_22 : decode cX3_appendSpan 22 = .ok (.iload 5, 2) := by decide +kernel
theorem dX3_appendSpan_24 : decode cX3_appendSpan 24 = .ok (.iload_n 3, 1) := by decide +kernel
theorem dX3_appendSpan_25 : decode cX3_appendSpan 25 = .ok (.invokevirtual 37, 3) := by decide +kernel
theorem dX3_appendSpan_28 : decode cX3_appendSpan 28 = .ok (.iinc 5 1, 3) := by decide +kernel
theorem dX3_appendSpan_31 : decode cX3_appendSpan 31 = .ok (.goto (-23), 3) := by decide +kernel
theorem dX3_appendSpan_34 : decode cX3_appendSpan 34 = .ok (.goto 30, 3) := by decide +kernel
theorem dX3_appendSpan_37 : decode cX3_appendSpan 37 = .ok (.iload_n 1, 1) := by decide +kernel
theorem dX3_appendSpan_38 : decode cX3_appendSpan 38 = .ok (.iload 4, 2) := by decide +kernel
theorem dX3_appendSpan_40 : decode cX3_appendSpan 40 = .ok (.invokestatic 41, 3) := by decide +kernel
theorem dX3_appendSpan_43 : decode cX3_appendSpan 43 = .ok (.istore 5, 2) := by decide +kernel
theorem dX3_appendSpan_45 : decode cX3_appendSpan 45 = .ok (.iload 5, 2) := by decide +kernel
theorem dX3_appendSpan_47 : decode cX3_appendSpan 47 = .ok (.iload_n 2, 1) := by decide +kernel
theorem dX3_appendSpan_48 : decode cX3_appendSpan 48 = .ok (.if_icmp .lt 16, 3) := by decide +kernel
theorem dX3_appendSpan_51 : decode cX3_appendSpan 51 = .ok (.aload_n 0, 1) := by decide +kernel
theorem dX3_appendSpan_52 : decode cX3_appendSpan 52 = .ok (.iload 5, 2) := by decide +kernel
theorem dX3_appendSpan_54 : decode cX3_appendSpan 54 = .ok (.iload_n 3, 1) := by decide +kernel
theorem dX3_appendSpan_55 : decode cX3_appendSpan 55 = .ok (.invokevirtual 37, 3) := by decide +kernel
theorem dX3_appendSpan_58 : decode cX3_appendSpan 58 = .ok (.iinc 5 (-1), 3) := by decide +kernel
theorem dX3_appendSpan_61 : decode cX3_appendSpan 61 = .ok (.goto (-16), 3) := by decide +kernel
theorem dX3_appendSpan_64 : decode cX3_appendSpan 64 = .ok (.return_, 1) := by decide +kernel
def f3_appendSpan_b45 : Nat → Nat → Int32 → Int32 → Int32 → GS_ → Option (Unit × GS_)
  | 0, _, _, _, _, _ => none
  | n + 1, v0, v2, v3, v5, g =>
    if v5 < v2 then some ((), g) else bd_ (f3_appendIf v0 v5 v3 g) fun _ g1 => (f3_appendSpan_b45 n) v0 v2 v3 (v5 + (-1 : Int32)) g1
theorem t3_appendSpan_b45 : ∀ (n : Nat) (v0 : Nat) (v2 : Int32) (v3 : Int32) (v5 : Int32) (g : GS_), K_ RX3 cX3_appendSpan 6 none 2 43 false EV_ 45 [some (.inr (3, some v0)), none, some (.inl v2), some (.inl v3), none, some (.inl v5)] [] g (f3_appendSpan_b45 n v0 v2 v3 v5 g) := by
  intro n
  induction n with
  | zero =>
    intro v0 v2 v3 v5 g
    exact k_fail
  | succ n ih =>
    intro v0 v2 v3 v5 g
    show K_ RX3 cX3_appendSpan 6 none 2 43 false EV_ 45 [some (.inr (3, some v0)), none, some (.inl v2), some (.inl v3), none, some (.inl v5)] [] g (if v5 < v2 then some ((), g) else bd_ (f3_appendIf v0 v5 v3 g) fun _ g1 => (f3_appendSpan_b45 n) v0 v2 v3 (v5 + (-1 : Int32)) g1)
    refine k_iload dX3_appendSpan_45 rfl ?_
    refine k_iloadn (j := 2) dX3_appendSpan_47 rfl rfl ?_
    refine k_icmplt (tgt := 64) dX3_appendSpan_48 (by decide) (fun _ => ?_) (fun _ => ?_)
    · exact k_return rfl dX3_appendSpan_64
    refine k_aloadn (j := 0) dX3_appendSpan_51 rfl rfl ?_
    refine k_iload dX3_appendSpan_52 rfl ?_
    refine k_iloadn (j := 3) dX3_appendSpan_54 rfl rfl ?_
    refine k_callVv [.inl v5, .inl v3] (t3_appendIf v0 v5 v3 g) cw_cX3_appendIf (Or.inl ml_3_37) rfl rfl (by decide) (by decide) (Nat.le_of_ble_eq_true rfl) dX3_appendSpan_55 (fun _ g1 => ?_)
    refine k_iinc (v := (v5 + (-1 : Int32))) (L' := [some (.inr (3, some v0)), none, some (.inl v2), some (.inl v3), none, some (.inl (v5 + (-1 : Int32)))]) dX3_appendSpan_58 rfl rfl (by decide) rfl ?_
    refine k_goto (tgt := 45) dX3_appendSpan_61 (by decide) ?_
    exact ih v0 v2 v3 (v5 + (-1 : Int32)) g1
def f3_appendSpan_b34 (g : GS_) : Option (Unit × GS_) :=
  some ((), g)
theorem t3_appendSpan_b34 (g : GS_) : K_ RX3 cX3_appendSpan 6 none 2 43 false EV_ 34 [none, none, none, none, none, none] [] g (f3_appendSpan_b34 g) := by
  unfold f3_appendSpan_b34
  refine k_goto (tgt := 64) dX3_appendSpan_34 (by decide) ?_
  exact k_return rfl dX3_appendSpan_64
def f3_appendSpan_b8 : Nat → Nat → Int32 → Int32 → Int32 → Int32 → GS_ → Option (Unit × GS_)
  | 0, _, _, _, _, _, _ => none
  | n + 1, v0, v2, v3, v4, v5, g =>
    if v2 < v5 then f3_appendSpan_b34 g else if v4 < v5 then f3_appendSpan_b34 g else bd_ (f3_appendIf v0 v5 v3 g) fun _ g2 => (f3_appendSpan_b8 n) v0 v2 v3 v4 (v5 + (1 : Int32)) g2
theorem t3_appendSpan_b8 : ∀ (n : Nat) (v0 : Nat) (v2 : Int32) (v3 : Int32) (v4 : Int32) (v5 : Int32) (g : GS_), K_ RX3 cX3_appendSpan 6 none 2 43 false EV_ 8 [some (.inr (3, some v0)), none, some (.inl v2), some (.inl v3), some (.inl v4), some (.inl v5)] [] g (f3_appendSpan_b8 n v0 v2 v3 v4 v5 g) := by
  intro n
  induction n with
  | zero =>
    intro v0 v2 v3 v4 v5 g
    exact k_fail
  | succ n ih =>
    intro v0 v2 v3 v4 v5 g
    show K_ RX3 cX3_appendSpan 6 none 2 43 false EV_ 8 [some (.inr (3, some v0)), none, some (.inl v2), some (.inl v3), some (.inl v4), some (.inl v5)] [] g (if v2 < v5 then f3_appendSpan_b34 g else if v4 < v5 then f3_appendSpan_b34 g else bd_ (f3_appendIf v0 v5 v3 g) fun _ g2 => (f3_appendSpan_b8 n) v0 v2 v3 v4 (v5 + (1 : Int32)) g2)
    refine k_iload dX3_appendSpan_8 rfl ?_
    refine k_iloadn (j := 2) dX3_appendSpan_10 rfl rfl ?_
    refine k_icmpgt (tgt := 34) dX3_appendSpan_11 (by decide) (fun _ => ?_) (fun _ => ?_)
    · refine k_msk (L' := [none, none, none, none, none, none]) [false, true, false, false, false, false] rfl ?_
      exact t3_appendSpan_b34 g
    refine k_iload dX3_appendSpan_14 rfl ?_
    refine k_iload dX3_appendSpan_16 rfl ?_
    refine k_icmpgt (tgt := 34) dX3_appendSpan_18 (by decide) (fun _ => ?_) (fun _ => ?_)
    · refine k_msk (L' := [none, none, none, none, none, none]) [false, true, false, false, false, false] rfl ?_
      exact t3_appendSpan_b34 g
    refine k_aloadn (j := 0) dX3_appendSpan_21 rfl rfl ?_
    refine k_iload dX3_appendSpan_22 rfl ?_
    refine k_iloadn (j := 3) dX3_appendSpan_24 rfl rfl ?_
    refine k_callVv [.inl v5, .inl v3] (t3_appendIf v0 v5 v3 g) cw_cX3_appendIf (Or.inl ml_3_37) rfl rfl (by decide) (by decide) (Nat.le_of_ble_eq_true rfl) dX3_appendSpan_25 (fun _ g2 => ?_)
    refine k_iinc (v := (v5 + (1 : Int32))) (L' := [some (.inr (3, some v0)), none, some (.inl v2), some (.inl v3), some (.inl v4), some (.inl (v5 + (1 : Int32)))]) dX3_appendSpan_28 rfl rfl (by decide) rfl ?_
    refine k_goto (tgt := 8) dX3_appendSpan_31 (by decide) ?_
    exact ih v0 v2 v3 v4 (v5 + (1 : Int32)) g2
def f3_appendSpan (v0 : Nat) (v1 : Int32) (v2 : Int32) (v3 : Int32) (v4 : Int32) (g : GS_) : Option (Unit × GS_) :=
  if v2 < v1 then lr_ (jmin v1 v4) fun z3 => f3_appendSpan_b45 FU_ v0 v2 v3 z3 g else f3_appendSpan_b8 FU_ v0 v2 v3 v4 v1 g
theorem t3_appendSpan (v0 : Nat) (v1 : Int32) (v2 : Int32) (v3 : Int32) (v4 : Int32) (g : GS_) : Cn_ yX3_appendSpan cX3_appendSpan 6 none 2 43 EV_ [.inr (3, some v0), .inl v1, .inl v2, .inl v3, .inl v4] g (f3_appendSpan v0 v1 v2 v3 v4 g) := by
  refine k_method (own := RX3) (ini := false) (L1 := [some (.inr (3, some v0)), some (.inl v1), some (.inl v2), some (.inl v3), some (.inl v4), none]) (by decide +kernel) rfl (fun h => by cases h) (Nat.le_of_ble_eq_true rfl) rfl ?_
  unfold f3_appendSpan
  refine k_iloadn (j := 1) dX3_appendSpan_0 rfl rfl ?_
  refine k_iloadn (j := 2) dX3_appendSpan_1 rfl rfl ?_
  refine k_icmpgt (tgt := 37) dX3_appendSpan_2 (by decide) (fun _ => ?_) (fun _ => ?_)
  · refine k_iloadn (j := 1) dX3_appendSpan_37 rfl rfl ?_
    refine k_iload dX3_appendSpan_38 rfl ?_
    refine k_min mw_min ml_3_41 (by decide) (Nat.le_of_ble_eq_true rfl) dX3_appendSpan_40 ?_
    refine k_istl (L2 := fun z3 => [some (.inr (3, some v0)), some (.inl v1), some (.inl v2), some (.inl v3), some (.inl v4), some (.inl z3)]) dX3_appendSpan_43 (by decide) (fun _ => rfl) (fun z3 => ?_)
    refine k_msk (L' := [some (.inr (3, some v0)), none, some (.inl v2), some (.inl v3), none, some (.inl z3)]) [true, false, true, true, false, true] rfl ?_
    exact t3_appendSpan_b45 FU_ v0 v2 v3 z3 g
  refine k_iloadn (j := 1) dX3_appendSpan_5 rfl rfl ?_
  refine k_ist (L' := [some (.inr (3, some v0)), some (.inl v1), some (.inl v2), some (.inl v3), some (.inl v4), some (.inl v1)]) dX3_appendSpan_6 (by decide) rfl ?_
  refine k_msk (L' := [some (.inr (3, some v0)), none, some (.inl v2), some (.inl v3), some (.inl v4), some (.inl v1)]) [true, false, true, true, true, true] rfl ?_
  exact t3_appendSpan_b8 FU_ v0 v2 v3 v4 v1 g
theorem dX3_removeSpan_0 : decode cX3_removeSpan 0 = .ok (.iload_n 1, 1) := by decide +kernel
theorem dX3_removeSpan_1 : decode cX3_removeSpan 1 = .ok (.iload_n 2, 1) := by decide +kernel
theorem dX3_removeSpan_2 : decode cX3_removeSpan 2 = .ok (.invokestatic 41, 3) := by decide +kernel
theorem dX3_removeSpan_5 : decode cX3_removeSpan 5 = .ok (.istore 4, 2) := by decide +kernel
theorem dX3_removeSpan_7 : decode cX3_removeSpan 7 = .ok (.iload_n 1, 1) := by decide +kernel
theorem dX3_removeSpan_8 : decode cX3_removeSpan 8 = .ok (.iload_n 2, 1) := by decide +kernel
theorem dX3_removeSpan_9 : decode cX3_removeSpan 9 = .ok (.invokestatic 27, 3) := by decide +kernel
theorem dX3_removeSpan_12 : decode cX3_removeSpan 12 = .ok (.istore 5, 2) := by decide +kernel
theorem dX3_removeSpan_14 : decode cX3_removeSpan 14 = .ok (.iconst 0, 1) := by decide +kernel
theorem dX3_removeSpan_15 : decode cX3_removeSpan 15 = .ok (.istore 6, 2) := by decide +kernel
theorem dX3_removeSpan_17 : decode cX3_removeSpan 17 = .ok (.iconst 0, 1) := by decide +kernel
theorem dX3_removeSpan_18 : decode cX3_removeSpan 18 = .ok (.istore 7, 2) := by decide +kernel
theorem dX3_removeSpan_20 : decode cX3_removeSpan 20 = .ok (.iload 7, 2) := by decide +kernel
theorem dX3_removeSpan_22 : decode cX3_removeSpan 22 = .ok (.aload_n 0, 1) := by decide +kernel
theorem dX3_removeSpan_23 : decode cX3_removeSpan 23 = .ok (.getfield 15, 3) := by decide +kernel
theorem dX3_removeSpan_26 : decode cX3_removeSpan 26 = .ok (.if_icmp .ge 85, 3) := by decide +kernel
theorem dX3_removeSpan_29 : decode cX3_removeSpan 29 = .ok (.iload 7, 2) := by decide +kernel
theorem dX3_removeSpan_31 : decode cX3_removeSpan 31 = .ok (.aload_n 0, 1) := by decide +kernel
theorem dX3_removeSpan_32 : decode cX3_removeSpan 32 = .ok (.getfield 9, 3) := by decide +kernel
theorem dX3_removeSpan_35 : decode cX3_removeSpan 35 = .ok (.arraylength, 1) := by decide +kernel
theorem dX3_removeSpan_36 : decode cX3_removeSpan 36 = .ok (.if_icmp .ge 75, 3) := by decide +kernel
theorem dX3_removeSpan_39 : decode cX3_removeSpan 39 = .ok (.aload_n 0, 1) := by decide +kernel
theorem dX3_removeSpan_40 : decode cX3_removeSpan 40 = .ok (.getfield 9, 3) := by decide +kernel
theorem dX3_removeSpan_43 : decode cX3_removeSpan 43 = .ok (.iload 7, 2) := by decide +kernel
theorem dX3_removeSpan_45 : decode cX3_removeSpan 45 = .ok (.iaload, 1) := by decide +kernel
theorem dX3_removeSpan_46 : decode cX3_removeSpan 46 = .ok (.istore 8, 2) := by decide +kernel
theorem dX3_removeSpan_48 : decode cX3_removeSpan 48 = .ok (.iload 8, 2) := by decide +kernel
theorem dX3_removeSpan_50 : decode cX3_removeSpan 50 = .ok (.iload 4, 2) := by decide +kernel
theorem dX3_removeSpan_52 : decode cX3_removeSpan 52 = .ok (.if_icmp .lt 23, 3) := by decide +kernel
theorem dX3_removeSpan_55 : decode cX3_removeSpan 55 = .ok (.iload 8, 2) := by decide +kernel
theorem dX3_removeSpan_57 : decode cX3_removeSpan 57 = .ok (.iload 5, 2) := by decide +kernel
theorem dX3_removeSpan_59 : decode cX3_removeSpan 59 = .ok (.if_icmp .gt 16, 3) := by decide +kernel
theorem dX3_removeSpan_62 : decode cX3_removeSpan 62 = .ok (.iload 8, 2) := by decide +kernel
theorem dX3_removeSpan_64 : decode cX3_removeSpan 64 = .ok (.iload_n 3, 1) := by decide +kernel
theorem dX3_removeSpan_65 : decode cX3_removeSpan 65 = .ok (.invokestatic 44, 3) := by decide +kernel
theorem dX3_removeSpan_68 : decode cX3_removeSpan 68 = .ok (.ifCond .eq 7, 3) := by decide +kernel
theorem dX3_removeSpan_71 : decode cX3_removeSpan 71 = .ok (.iconst 1, 1) := by decide +kernel
theorem dX3_removeSpan_72 : decode cX3_removeSpan 72 = .ok (.goto 4, 3) := by decide +kernel
theorem dX3_removeSpan_75 : decode cX3_removeSpan 75 = .ok (.iconst 0, 1) := by decide +kernel
theorem dX3_removeSpan_76 : decode cX3_removeSpan 76 = .ok (.istore 9, 2) := by decide +kernel
theorem dX3_removeSpan_78 : decode cX3_removeSpan 78 = .ok (.iload 9, 2) := by decide +kernel
theorem dX3_removeSpan_80 : decode cX3_removeSpan 80 = .ok (.ifCond .ne 25, 3) := by decide +kernel
theorem dX3_removeSpan_83 : decode cX3_removeSpan 83 = .ok (.iload 6, 2) := by decide +kernel
theorem dX3_removeSpan_85 : decode cX3_removeSpan 85 = .ok (.aload_n 0, 1) := by decide +kernel
theorem dX3_removeSpan_86 : decode cX3_removeSpan 86 = .ok (.getfield 9, 3) := by decide +kernel
theorem dX3_removeSpan_89 : decode cX3_removeSpan 89 = .ok (.arraylength, 1) := by decide +kernel
theorem dX3_removeSpan_90 : decode cX3_removeSpan 90 = .ok (.if_icmp .ge 15, 3) := by decide +kernel
theorem dX3_removeSpan_93 : decode cX3_removeSpan 93 = .ok (.aload_n 0, 1) := by decide +kernel
theorem dX3_removeSpan_94 : decode cX3_removeSpan 94 = .ok (.getfield 9, 3) := by decide +kernel
theorem dX3_removeSpan_97 : decode cX3_removeSpan 97 = .ok (.iload 6, 2) := by decide +kernel
theorem dX3_removeSpan_99 : decode cX3_removeSpan 99 = .ok (.iload 8, 2) := by decide +kernel
theorem dX3_removeSpan_101 : decode cX3_removeSpan 101 = .ok (.iastore, 1) := by decide +kernel
theorem dX3_removeSpan_102 : decode cX3_removeSpan 102 = .ok (.iinc 6 1, 3) := by decide +kernel
theorem dX3_removeSpan_105 : decode cX3_removeSpan 105 = .ok (.iinc 7 1, 3) := by decide +kernel
theorem dX3_removeSpan_108 : decode cX3_removeSpan 108 = .ok (.goto (-88), 3) := by decide +kernel
theorem dX3_removeSpan_111 : decode cX3_removeSpan 111 = .ok (.aload_n 0, 1) := by decide +kernel
theorem dX3_removeSpan_112 : decode cX3_removeSpan 112 = .ok (.iload 6, 2) := by decide +kernel
theorem dX3_removeSpan_114 : decode cX3_removeSpan 114 = .ok (.putfield 15, 3) := by decide +kernel
theorem dX3_removeSpan_117 : decode cX3_removeSpan 117 = .ok (.return_, 1) := by decide +kernel
def f3_removeSpan_b111 (v0 : Nat) (v6 : Int32) (g : GS_) : Option (Unit × GS_) :=
  lr_ (sfi g 97 v0 v6) fun g1 => some ((), g1)
theorem t3_removeSpan_b111 (v0 : Nat) (v6 : Int32) (g : GS_) : K_ RX3 cX3_removeSpan 10 none 1 21 false EV_ 111 [some (.inr (3, some v0)), none, none, none, none, none, some (.inl v6), none, none, none] [] g (f3_removeSpan_b111 v0 v6 g) := by
  unfold f3_removeSpan_b111
  refine k_aloadn (j := 0) dX3_removeSpan_111 rfl rfl ?_
  refine k_iload dX3_removeSpan_112 rfl ?_
  refine k_puti fp_3_15 rfl rfl dX3_removeSpan_114 (fun g1 => ?_)
  exact k_return rfl dX3_removeSpan_117
def f3_removeSpan_b105 (c20 : Nat → Int32 → Int32 → Int32 → Int32 → Int32 → GS_ → Option (Unit × GS_)) (v0 : Nat) (v3 : Int32) (v4 : Int32) (v5 : Int32) (v6 : Int32) (v7 : Int32) (g : GS_) : Option (Unit × GS_) :=
  c20 v0 v3 v4 v5 v6 (v7 + (1 : Int32)) g
theorem t3_removeSpan_b105 (c20 : Nat → Int32 → Int32 → Int32 → Int32 → Int32 → GS_ → Option (Unit × GS_)) (h20 : ∀ (v0 : Nat) (v3 : Int32) (v4 : Int32) (v5 : Int32) (v6 : Int32) (v7 : Int32) (g : GS_), K_ RX3 cX3_removeSpan 10 none 1 21 false EV_ 20 [some (.inr (3, some v0)), none, none, some (.inl v3), some (.inl v4), some (.inl v5), some (.inl v6), some (.inl v7), none, none] [] g (c20 v0 v3 v4 v5 v6 v7 g)) (v0 : Nat) (v3 : Int32) (v4 : Int32) (v5 : Int32) (v6 : Int32) (v7 : Int32) (g : GS_) : K_ RX3 cX3_removeSpan 10 none 1 21 false EV_ 105 [some (.inr (3, some v0)), none, none, some (.inl v3), some (.inl v4), some (.inl v5), some (.inl v6), some (.inl v7), none, none] [] g (f3_removeSpan_b105 c20 v0 v3 v4 v5 v6 v7 g) := by
  unfold f3_removeSpan_b105
  refine k_iinc (v := (v7 + (1 : Int32))) (L' := [some (.inr (3, some v0)), none, none, some (.inl v3), some (.inl v4), some (.inl v5), some (.inl v6), some (.inl (v7 + (1 : Int32))), none, none]) dX3_removeSpan_105 rfl rfl (by decide) rfl ?_
  refine k_goto (tgt := 20) dX3_removeSpan_108 (by decide) ?_
  exact h20 v0 v3 v4 v5 v6 (v7 + (1 : Int32)) g
def f3_removeSpan_b76 (c20 : Nat → Int32 → Int32 → Int32 → Int32 → Int32 → GS_ → Option (Unit × GS_)) (v0 : Nat) (v3 : Int32) (v4 : Int32) (v5 : Int32) (v6 : Int32) (v7 : Int32) (v8 : Int32) (s0 : Int32) (g : GS_) : Option (Unit × GS_) :=
  if s0 = 0 then lr_ (gfr g 96 v0) fun x2 => oc_ x2 none fun a3 => if (Int32.ofNat (gln g 20 a3)) ≤ v6 then f3_removeSpan_b105 c20 v0 v3 v4 v5 v6 v7 g else lr_ (gfr g 96 v0) fun x4 => oc_ x4 none fun a5 => if inb v6 (gln g 20 a5) then lr_ (sai g 20 a5 v6.toInt.toNat v8) (fun g6 => f3_removeSpan_b105 c20 v0 v3 v4 v5 (v6 + (1 : Int32)) v7 g6) else none else f3_removeSpan_b105 c20 v0 v3 v4 v5 v6 v7 g
theorem t3_removeSpan_b76 (c20 : Nat → Int32 → Int32 → Int32 → Int32 → Int32 → GS_ → Option (Unit × GS_)) (h20 : ∀ (v0 : Nat) (v3 : Int32) (v4 : Int32) (v5 : Int32) (v6 : Int32) (v7 : Int32) (g : GS_), K_ RX3 cX3_removeSpan 10 none 1 21 false EV_ 20 [some (.inr (3, some v0)), none, none, some (.inl v3), some (.inl v4), some (.inl v5), some (.inl v6), some (.inl v7), none, none] [] g (c20 v0 v3 v4 v5 v6 v7 g)) (v0 : Nat) (v3 : Int32) (v4 : Int32) (v5 : Int32) (v6 : Int32) (v7 : Int32) (v8 : Int32) (s0 : Int32) (g : GS_) : K_ RX3 cX3_removeSpan 10 none 1 21 false EV_ 76 [some (.inr (3, some v0)), none, none, some (.inl v3), some (.inl v4), some (.inl v5), some (.inl v6), some (.inl v7), some (.inl v8), none] [.inl s0] g (f3_removeSpan_b76 c20 v0 v3 v4 v5 v6 v7 v8 s0 g) := by
  unfold f3_removeSpan_b76
  refine k_ist (L' := [some (.inr (3, some v0)), none, none, some (.inl v3), some (.inl v4), some (.inl v5), some (.inl v6), some (.inl v7), some (.inl v8), some (.inl s0)]) dX3_removeSpan_76 (by decide) rfl ?_
  refine k_iload dX3_removeSpan_78 rfl ?_
  refine k_ifne (tgt := 105) dX3_removeSpan_80 (by decide) (fun _ => ?_) (fun _ => ?_)
  · refine k_iload dX3_removeSpan_83 rfl ?_
    refine k_aloadn (j := 0) dX3_removeSpan_85 rfl rfl ?_
    refine k_getr fg_3_9 rfl rfl dX3_removeSpan_86 (fun x2 => ?_)
    rcases x2 with _ | a3
    · exact k_ocn
    refine k_ocs ?_
    refine k_alen dX3_removeSpan_89 (by decide) ?_
    refine k_icmpge (tgt := 105) dX3_removeSpan_90 (by decide) (fun _ => ?_) (fun _ => ?_)
    · refine k_msk (L' := [some (.inr (3, some v0)), none, none, some (.inl v3), some (.inl v4), some (.inl v5), some (.inl v6), some (.inl v7), none, none]) [true, true, true, true, true, true, true, true, false, false] rfl ?_
      exact t3_removeSpan_b105 c20 h20 v0 v3 v4 v5 v6 v7 g
    refine k_aloadn (j := 0) dX3_removeSpan_93 rfl rfl ?_
    refine k_getr fg_3_9 rfl rfl dX3_removeSpan_94 (fun x4 => ?_)
    refine k_iload dX3_removeSpan_97 rfl ?_
    refine k_iload dX3_removeSpan_99 rfl ?_
    rcases x4 with _ | a5
    · exact k_ocn
    refine k_ocs ?_
    refine k_iast dX3_removeSpan_101 (fun g6 => ?_)
    refine k_iinc (v := (v6 + (1 : Int32))) (L' := [some (.inr (3, some v0)), none, none, some (.inl v3), some (.inl v4), some (.inl v5), some (.inl (v6 + (1 : Int32))), some (.inl v7), some (.inl v8), some (.inl s0)]) dX3_removeSpan_102 rfl rfl (by decide) rfl ?_
    refine k_msk (L' := [some (.inr (3, some v0)), none, none, some (.inl v3), some (.inl v4), some (.inl v5), some (.inl (v6 + (1 : Int32))), some (.inl v7), none, none]) [true, true, true, true, true, true, true, true, false, false] rfl ?_
    exact t3_removeSpan_b105 c20 h20 v0 v3 v4 v5 (v6 + (1 : Int32)) v7 g6
  refine k_msk (L' := [some (.inr (3, some v0)), none, none, some (.inl v3), some (.inl v4), some (.inl v5), some (.inl v6), some (.inl v7), none, none]) [true, true, true, true, true, true, true, true, false, false] rfl ?_
  exact t3_removeSpan_b105 c20 h20 v0 v3 v4 v5 v6 v7 g
def f3_removeSpan_b75 (c20 : Nat → Int32 → Int32 → Int32 → Int32 → Int32 → GS_ → Option (Unit × GS_)) (v0 : Nat) (v3 : Int32) (v4 : Int32) (v5 : Int32) (v6 : Int32) (v7 : Int32) (v8 : Int32) (g : GS_) : Option (Unit × GS_) :=
  f3_removeSpan_b76 c20 v0 v3 v4 v5 v6 v7 v8 (0 : Int32) g
theorem t3_removeSpan_b75 (c20 : Nat → Int32 → Int32 → Int32 → Int32 → Int32 → GS_ → Option (Unit × GS_)) (h20 : ∀ (v0 : Nat) (v3 : Int32) (v4 : Int32) (v5 : Int32) (v6 : Int32) (v7 : Int32) (g : GS_), K_ RX3 cX3_removeSpan 10 none 1 21 false EV_ 20 [some (.inr (3, some v0)), none, none, some (.inl v3), some (.inl v4), some (.inl v5), some (.inl v6), some (.inl v7), none, none] [] g (c20 v0 v3 v4 v5 v6 v7 g)) (v0 : Nat) (v3 : Int32) (v4 : Int32) (v5 : Int32) (v6 : Int32) (v7 : Int32) (v8 : Int32) (g : GS_) : K_ RX3 cX3_removeSpan 10 none 1 21 false EV_ 75 [some (.inr (3, some v0)), none, none, some (.inl v3), some (.inl v4), some (.inl v5), some (.inl v6), some (.inl v7), some (.inl v8), none] [] g (f3_removeSpan_b75 c20 v0 v3 v4 v5 v6 v7 v8 g) := by
  unfold f3_removeSpan_b75
  refine k_iconst (v := (0 : Int32)) dX3_removeSpan_75 rfl ?_
  exact t3_removeSpan_b76 c20 h20 v0 v3 v4 v5 v6 v7 v8 (0 : Int32) g
def f3_removeSpan_b20 : Nat → Nat → Int32 → Int32 → Int32 → Int32 → Int32 → GS_ → Option (Unit × GS_)
  | 0, _, _, _, _, _, _, _ => none
  | n + 1, v0, v3, v4, v5, v6, v7, g =>
    if (gfi g 97 v0) ≤ v7 then f3_removeSpan_b111 v0 v6 g else lr_ (gfr g 96 v0) fun x7 => oc_ x7 none fun a8 => if (Int32.ofNat (gln g 20 a8)) ≤ v7 then f3_removeSpan_b111 v0 v6 g else lr_ (gfr g 96 v0) fun x9 => oc_ x9 none fun a10 => if inb v7 (gln g 20 a10) then lr_ (gai g 20 a10 v7.toInt.toNat) fun z11 => if z11 < v4 then f3_removeSpan_b75 (f3_removeSpan_b20 n) v0 v3 v4 v5 v6 v7 z11 g else if v5 < z11 then f3_removeSpan_b75 (f3_removeSpan_b20 n) v0 v3 v4 v5 v6 v7 z11 g else bd_ (f3_matches z11 v3 g) fun z13 g12 => if z13 = 0 then f3_removeSpan_b75 (f3_removeSpan_b20 n) v0 v3 v4 v5 v6 v7 z11 g12 else f3_removeSpan_b76 (f3_removeSpan_b20 n) v0 v3 v4 v5 v6 v7 z11 (1 : Int32) g12 else none
theorem t3_removeSpan_b20 : ∀ (n : Nat) (v0 : Nat) (v3 : Int32) (v4 : Int32) (v5 : Int32) (v6 : Int32) (v7 : Int32) (g : GS_), K_ RX3 cX3_removeSpan 10 none 1 21 false EV_ 20 [some (.inr (3, some v0)), none, none, some (.inl v3), some (.inl v4), some (.inl v5), some (.inl v6), some (.inl v7), none, none] [] g (f3_removeSpan_b20 n v0 v3 v4 v5 v6 v7 g) := by
  intro n
  induction n with
  | zero =>
    intro v0 v3 v4 v5 v6 v7 g
    exact k_fail
  | succ n ih =>
    intro v0 v3 v4 v5 v6 v7 g
    show K_ RX3 cX3_removeSpan 10 none 1 21 false EV_ 20 [some (.inr (3, some v0)), none, none, some (.inl v3), some (.inl v4), some (.inl v5), some (.inl v6), some (.inl v7), none, none] [] g (if (gfi g 97 v0) ≤ v7 then f3_removeSpan_b111 v0 v6 g else lr_ (gfr g 96 v0) fun x7 => oc_ x7 none fun a8 => if (Int32.ofNat (gln g 20 a8)) ≤ v7 then f3_removeSpan_b111 v0 v6 g else lr_ (gfr g 96 v0) fun x9 => oc_ x9 none fun a10 => if inb v7 (gln g 20 a10) then lr_ (gai g 20 a10 v7.toInt.toNat) fun z11 => if z11 < v4 then f3_removeSpan_b75 (f3_removeSpan_b20 n) v0 v3 v4 v5 v6 v7 z11 g else if v5 < z11 then f3_removeSpan_b75 (f3_removeSpan_b20 n) v0 v3 v4 v5 v6 v7 z11 g else bd_ (f3_matches z11 v3 g) fun z13 g12 => if z13 = 0 then f3_removeSpan_b75 (f3_removeSpan_b20 n) v0 v3 v4 v5 v6 v7 z11 g12 else f3_removeSpan_b76 (f3_removeSpan_b20 n) v0 v3 v4 v5 v6 v7 z11 (1 : Int32) g12 else none)
    refine k_iload dX3_removeSpan_20 rfl ?_
    refine k_aloadn (j := 0) dX3_removeSpan_22 rfl rfl ?_
    refine k_geti fg_3_15 rfl rfl dX3_removeSpan_23 ?_
    refine k_icmpge (tgt := 111) dX3_removeSpan_26 (by decide) (fun _ => ?_) (fun _ => ?_)
    · refine k_msk (L' := [some (.inr (3, some v0)), none, none, none, none, none, some (.inl v6), none, none, none]) [true, true, true, false, false, false, true, false, true, true] rfl ?_
      exact t3_removeSpan_b111 v0 v6 g
    refine k_iload dX3_removeSpan_29 rfl ?_
    refine k_aloadn (j := 0) dX3_removeSpan_31 rfl rfl ?_
    refine k_getr fg_3_9 rfl rfl dX3_removeSpan_32 (fun x7 => ?_)
    rcases x7 with _ | a8
    · exact k_ocn
    refine k_ocs ?_
    refine k_alen dX3_removeSpan_35 (by decide) ?_
    refine k_icmpge (tgt := 111) dX3_removeSpan_36 (by decide) (fun _ => ?_) (fun _ => ?_)
    · refine k_msk (L' := [some (.inr (3, some v0)), none, none, none, none, none, some (.inl v6), none, none, none]) [true, true, true, false, false, false, true, false, true, true] rfl ?_
      exact t3_removeSpan_b111 v0 v6 g
    refine k_aloadn (j := 0) dX3_removeSpan_39 rfl rfl ?_
    refine k_getr fg_3_9 rfl rfl dX3_removeSpan_40 (fun x9 => ?_)
    refine k_iload dX3_removeSpan_43 rfl ?_
    rcases x9 with _ | a10
    · exact k_ocn
    refine k_ocs ?_
    refine k_iald dX3_removeSpan_45 ?_
    refine k_istl (L2 := fun z11 => [some (.inr (3, some v0)), none, none, some (.inl v3), some (.inl v4), some (.inl v5), some (.inl v6), some (.inl v7), some (.inl z11), none]) dX3_removeSpan_46 (by decide) (fun _ => rfl) (fun z11 => ?_)
    refine k_iload dX3_removeSpan_48 rfl ?_
    refine k_iload dX3_removeSpan_50 rfl ?_
    refine k_icmplt (tgt := 75) dX3_removeSpan_52 (by decide) (fun _ => ?_) (fun _ => ?_)
    · exact t3_removeSpan_b75 (f3_removeSpan_b20 n) ih v0 v3 v4 v5 v6 v7 z11 g
    refine k_iload dX3_removeSpan_55 rfl ?_
    refine k_iload dX3_removeSpan_57 rfl ?_
    refine k_icmpgt (tgt := 75) dX3_removeSpan_59 (by decide) (fun _ => ?_) (fun _ => ?_)
    · exact t3_removeSpan_b75 (f3_removeSpan_b20 n) ih v0 v3 v4 v5 v6 v7 z11 g
    refine k_iload dX3_removeSpan_62 rfl ?_
    refine k_iloadn (j := 3) dX3_removeSpan_64 rfl rfl ?_
    refine k_callSi [.inl z11, .inl v3] (t3_matches z11 v3 g) cw_cX3_matches ml_3_44 rfl rfl (by decide) (by decide) (Nat.le_of_ble_eq_true rfl) dX3_removeSpan_65 (fun z13 g12 => ?_)
    refine k_ifeq (tgt := 75) dX3_removeSpan_68 (by decide) (fun _ => ?_) (fun _ => ?_)
    · exact t3_removeSpan_b75 (f3_removeSpan_b20 n) ih v0 v3 v4 v5 v6 v7 z11 g12
    refine k_iconst (v := (1 : Int32)) dX3_removeSpan_71 rfl ?_
    refine k_goto (tgt := 76) dX3_removeSpan_72 (by decide) ?_
    exact t3_removeSpan_b76 (f3_removeSpan_b20 n) ih v0 v3 v4 v5 v6 v7 z11 (1 : Int32) g12
def f3_removeSpan (v0 : Nat) (v1 : Int32) (v2 : Int32) (v3 : Int32) (g : GS_) : Option (Unit × GS_) :=
  lr_ (jmin v1 v2) fun z14 => lr_ (jmax v1 v2) fun z15 => f3_removeSpan_b20 FU_ v0 v3 z14 z15 (0 : Int32) (0 : Int32) g
theorem t3_removeSpan (v0 : Nat) (v1 : Int32) (v2 : Int32) (v3 : Int32) (g : GS_) : Cn_ yX3_removeSpan cX3_removeSpan 10 none 1 21 EV_ [.inr (3, some v0), .inl v1, .inl v2, .inl v3] g (f3_removeSpan v0 v1 v2 v3 g) := by
  refine k_method (own := RX3) (ini := false) (L1 := [some (.inr (3, some v0)), some (.inl v1), some (.inl v2), some (.inl v3), none, none, none, none, none, none]) (by decide +kernel) rfl (fun h => by cases h) (Nat.le_of_ble_eq_true rfl) rfl ?_
  unfold f3_removeSpan
  refine k_iloadn (j := 1) dX3_removeSpan_0 rfl rfl ?_
  refine k_iloadn (j := 2) dX3_removeSpan_1 rfl rfl ?_
  refine k_min mw_min ml_3_41 (by decide) (Nat.le_of_ble_eq_true rfl) dX3_removeSpan_2 ?_
  refine k_istl (L2 := fun z14 => [some (.inr (3, some v0)), some (.inl v1), some (.inl v2), some (.inl v3), some (.inl z14), none, none, none, none, none]) dX3_removeSpan_5 (by decide) (fun _ => rfl) (fun z14 => ?_)
  refine k_iloadn (j := 1) dX3_removeSpan_7 rfl rfl ?_
  refine k_iloadn (j := 2) dX3_removeSpan_8 rfl rfl ?_
  refine k_max mw_max ml_3_27 (by decide) (Nat.le_of_ble_eq_true rfl) dX3_removeSpan_9 ?_
  refine k_istl (L2 := fun z15 => [some (.inr (3, some v0)), some (.inl v1), some (.inl v2), some (.inl v3), some (.inl z14), some (.inl z15), none, none, none, none]) dX3_removeSpan_12 (by decide) (fun _ => rfl) (fun z15 => ?_)
  refine k_iconst (v := (0 : Int32)) dX3_removeSpan_14 rfl ?_
  refine k_ist (L' := [some (.inr (3, some v0)), some (.inl v1), some (.inl v2), some (.inl v3), some (.inl z14), some (.inl z15), some (.inl (0 : Int32)), none, none, none]) dX3_removeSpan_15 (by decide) rfl ?_
  refine k_iconst (v := (0 : Int32)) dX3_removeSpan_17 rfl ?_
  refine k_ist (L' := [some (.inr (3, some v0)), some (.inl v1), some (.inl v2), some (.inl v3), some (.inl z14), some (.inl z15), some (.inl (0 : Int32)), some (.inl (0 : Int32)), none, none]) dX3_removeSpan_18 (by decide) rfl ?_
  refine k_msk (L' := [some (.inr (3, some v0)), none, none, some (.inl v3), some (.inl z14), some (.inl z15), some (.inl (0 : Int32)), some (.inl (0 : Int32)), none, none]) [true, false, false, true, true, true, true, true, true, true] rfl ?_
  exact t3_removeSpan_b20 FU_ v0 v3 z14 z15 (0 : Int32) (0 : Int32) g
theorem dX4_blankPositions_0 : decode cX4_blankPositions 0 = .ok (.aload_n 0, 1) := by decide +kernel
theorem dX4_blankPositions_1 : decode cX4_blankPositions 1 = .ok (.getfield 65, 3) := by decide +kernel
theorem dX4_blankPositions_4 : decode cX4_blankPositions 4 = .ok (.aload_n 0, 1) := by decide +kernel
theorem dX4_blankPositions_5 : decode cX4_blankPositions 5 = .ok (.getfield 59, 3) := by decide +kernel
theorem dX4_blankPositions_8 : decode cX4_blankPositions 8 = .ok (.ifCond .eq 7, 3) := by decide +kernel
theorem dX4_blankPositions_11 : decode cX4_blankPositions 11 = .ok (.iconst 2, 1) := by decide +kernel
theorem dX4_blankPositions_12 : decode cX4_blankPositions 12 = .ok (.goto 4, 3) := by decide +kernel
theorem dX4_blankPositions_15 : decode cX4_blankPositions 15 = .ok (.iconst 1, 1) := by decide +kernel
theorem dX4_blankPositions_16 : decode cX4_blankPositions 16 = .ok (.imul, 1) := by decide +kernel
theorem dX4_blankPositions_17 : decode cX4_blankPositions 17 = .ok (.aload_n 0, 1) := by decide +kernel
theorem dX4_blankPositions_18 : decode cX4_blankPositions 18 = .ok (.getfield 62, 3) := by decide +kernel
theorem dX4_blankPositions_21 : decode cX4_blankPositions 21 = .ok (.imul, 1) := by decide +kernel
theorem dX4_blankPositions_22 : decode cX4_blankPositions 22 = .ok (.aload_n 0, 1) := by decide +kernel
theorem dX4_blankPositions_23 : decode cX4_blankPositions 23 = .ok (.getfield 19, 3) := by decide +kernel
theorem dX4_blankPositions_26 : decode cX4_blankPositions 26 = .ok (.arraylength, 1) := by decide +kernel
theorem dX4_blankPositions_27 : decode cX4_blankPositions 27 = .ok (.isub, 1) := by decide +kernel
theorem dX4_blankPositions_28 : decode cX4_blankPositions 28 = .ok (.istore_n 1, 1) := by decide +kernel
theorem dX4_blankPositions_29 : decode cX4_blankPositions 29 = .ok (.aload_n 0, 1) := by decide +kernel
theorem dX4_blankPositions_30 : decode cX4_blankPositions 30 = .ok (.getfield 35, 3) := by decide +kernel
theorem dX4_blankPositions_33 : decode cX4_blankPositions 33 = .ok (.iload_n 1, 1) := by decide +kernel
theorem dX4_blankPositions_34 : decode cX4_blankPositions 34 = .ok (.imul, 1) := by decide +kernel
theorem dX4_blankPositions_35 : decode cX4_blankPositions 35 = .ok (.ireturn, 1) := by decide +kernel
def f4_blankPositions_b16 (v0 : Nat) (s0 : Int32) (s1 : Int32) (g : GS_) : Option (Int32 × GS_) :=
  lr_ (gfr g 130 v0) fun x1 => oc_ x1 none fun a2 => lr_ (((s0 * s1) * (gfi g 138 v0)) - (Int32.ofNat (gln g 20 a2))) fun z3 => some (((gfi g 131 v0) * z3), g)
theorem t4_blankPositions_b16 (v0 : Nat) (s0 : Int32) (s1 : Int32) (g : GS_) : K_ RX4 cX4_blankPositions 2 (some .int) 0 0 false EI_ 16 [some (.inr (4, some v0)), none] [.inl s1, .inl s0] g (f4_blankPositions_b16 v0 s0 s1 g) := by
  unfold f4_blankPositions_b16
  refine k_imul dX4_blankPositions_16 ?_
  refine k_aloadn (j := 0) dX4_blankPositions_17 rfl rfl ?_
  refine k_geti fg_4_62 rfl rfl dX4_blankPositions_18 ?_
  refine k_imul dX4_blankPositions_21 ?_
  refine k_aloadn (j := 0) dX4_blankPositions_22 rfl rfl ?_
  refine k_getr fg_4_19 rfl rfl dX4_blankPositions_23 (fun x1 => ?_)
  rcases x1 with _ | a2
  · exact k_ocn
  refine k_ocs ?_
  refine k_alen dX4_blankPositions_26 (by decide) ?_
  refine k_isub dX4_blankPositions_27 ?_
  refine k_istnl (j := 1) (L2 := fun z3 => [some (.inr (4, some v0)), some (.inl z3)]) dX4_blankPositions_28 rfl (by decide) (fun _ => rfl) (fun z3 => ?_)
  refine k_aloadn (j := 0) dX4_blankPositions_29 rfl rfl ?_
  refine k_geti fg_4_35 rfl rfl dX4_blankPositions_30 ?_
  refine k_iloadn (j := 1) dX4_blankPositions_33 rfl rfl ?_
  refine k_imul dX4_blankPositions_34 ?_
  exact k_ireturn rfl dX4_blankPositions_35
def f4_blankPositions (v0 : Nat) (g : GS_) : Option (Int32 × GS_) :=
  if (gfi g 137 v0) = 0 then f4_blankPositions_b16 v0 (gfi g 139 v0) (1 : Int32) g else f4_blankPositions_b16 v0 (gfi g 139 v0) (2 : Int32) g
theorem t4_blankPositions (v0 : Nat) (g : GS_) : Cn_ yX4_blankPositions cX4_blankPositions 2 (some .int) 0 0 EI_ [.inr (4, some v0)] g (f4_blankPositions v0 g) := by
  refine k_method (own := RX4) (ini := false) (L1 := [some (.inr (4, some v0)), none]) (by decide +kernel) rfl (fun h => by cases h) (Nat.le_of_ble_eq_true rfl) rfl ?_
  unfold f4_blankPositions
  refine k_aloadn (j := 0) dX4_blankPositions_0 rfl rfl ?_
  refine k_geti fg_4_65 rfl rfl dX4_blankPositions_1 ?_
  refine k_aloadn (j := 0) dX4_blankPositions_4 rfl rfl ?_
  refine k_geti fg_4_59 rfl rfl dX4_blankPositions_5 ?_
  refine k_ifeq (tgt := 15) dX4_blankPositions_8 (by decide) (fun _ => ?_) (fun _ => ?_)
  · refine k_iconst (v := (1 : Int32)) dX4_blankPositions_15 rfl ?_
    exact t4_blankPositions_b16 v0 (gfi g 139 v0) (1 : Int32) g
  refine k_iconst (v := (2 : Int32)) dX4_blankPositions_11 rfl ?_
  refine k_goto (tgt := 16) dX4_blankPositions_12 (by decide) ?_
  exact t4_blankPositions_b16 v0 (gfi g 139 v0) (2 : Int32) g
theorem dX4_hasSide_0 : decode cX4_hasSide 0 = .ok (.iload_n 1, 1) := by decide +kernel
theorem dX4_hasSide_1 : decode cX4_hasSide 1 = .ok (.ifCond .eq 15, 3) := by decide +kernel
theorem dX4_hasSide_4 : decode cX4_hasSide 4 = .ok (.iload_n 1, 1) := by decide +kernel
theorem dX4_hasSide_5 : decode cX4_hasSide 5 = .ok (.iconst 1, 1) := by decide +kernel
theorem dX4_hasSide_6 : decode cX4_hasSide 6 = .ok (.if_icmp .ne 14, 3) := by decide +kernel
theorem dX4_hasSide_9 : decode cX4_hasSide 9 = .ok (.aload_n 0, 1) := by decide +kernel
theorem dX4_hasSide_10 : decode cX4_hasSide 10 = .ok (.getfield 59, 3) := by decide +kernel
theorem dX4_hasSide_13 : decode cX4_hasSide 13 = .ok (.ifCond .eq 7, 3) := by decide +kernel
theorem dX4_hasSide_16 : decode cX4_hasSide 16 = .ok (.iconst 1, 1) := by decide +kernel
theorem dX4_hasSide_17 : decode cX4_hasSide 17 = .ok (.goto 4, 3) := by decide +kernel
theorem dX4_hasSide_20 : decode cX4_hasSide 20 = .ok (.iconst 0, 1) := by decide +kernel
theorem dX4_hasSide_21 : decode cX4_hasSide 21 = .ok (.ireturn, 1) := by decide +kernel
def f4_hasSide_b16 (g : GS_) : Option (Int32 × GS_) :=
  some ((1 : Int32), g)
theorem t4_hasSide_b16 (g : GS_) : K_ RX4 cX4_hasSide 2 (some .boolean) 0 0 false EI_ 16 [none, none] [] g (f4_hasSide_b16 g) := by
  unfold f4_hasSide_b16
  refine k_iconst (v := (1 : Int32)) dX4_hasSide_16 rfl ?_
  refine k_goto (tgt := 21) dX4_hasSide_17 (by decide) ?_
  exact k_zreturn rfl (by decide) dX4_hasSide_21
def f4_hasSide_b20 (g : GS_) : Option (Int32 × GS_) :=
  some ((0 : Int32), g)
theorem t4_hasSide_b20 (g : GS_) : K_ RX4 cX4_hasSide 2 (some .boolean) 0 0 false EI_ 20 [none, none] [] g (f4_hasSide_b20 g) := by
  unfold f4_hasSide_b20
  refine k_iconst (v := (0 : Int32)) dX4_hasSide_20 rfl ?_
  exact k_zreturn rfl (by decide) dX4_hasSide_21
def f4_hasSide (v0 : Nat) (v1 : Int32) (g : GS_) : Option (Int32 × GS_) :=
  if v1 = 0 then f4_hasSide_b16 g else if v1 = (1 : Int32) then if (gfi g 137 v0) = 0 then f4_hasSide_b20 g else f4_hasSide_b16 g else f4_hasSide_b20 g
theorem t4_hasSide (v0 : Nat) (v1 : Int32) (g : GS_) : Cn_ yX4_hasSide cX4_hasSide 2 (some .boolean) 0 0 EI_ [.inr (4, some v0), .inl v1] g (f4_hasSide v0 v1 g) := by
  refine k_method (own := RX4) (ini := false) (L1 := [some (.inr (4, some v0)), some (.inl v1)]) (by decide +kernel) rfl (fun h => by cases h) (Nat.le_of_ble_eq_true rfl) rfl ?_
  unfold f4_hasSide
  refine k_iloadn (j := 1) dX4_hasSide_0 rfl rfl ?_
  refine k_ifeq (tgt := 16) dX4_hasSide_1 (by decide) (fun _ => ?_) (fun _ => ?_)
  · refine k_msk (L' := [none, none]) [false, false] rfl ?_
    exact t4_hasSide_b16 g
  refine k_iloadn (j := 1) dX4_hasSide_4 rfl rfl ?_
  refine k_iconst (v := (1 : Int32)) dX4_hasSide_5 rfl ?_
  refine k_icmpne (tgt := 20) dX4_hasSide_6 (by decide) (fun _ => ?_) (fun _ => ?_)
  · refine k_aloadn (j := 0) dX4_hasSide_9 rfl rfl ?_
    refine k_geti fg_4_59 rfl rfl dX4_hasSide_10 ?_
    refine k_ifeq (tgt := 20) dX4_hasSide_13 (by decide) (fun _ => ?_) (fun _ => ?_)
    · refine k_msk (L' := [none, none]) [false, false] rfl ?_
      exact t4_hasSide_b20 g
    refine k_msk (L' := [none, none]) [false, false] rfl ?_
    exact t4_hasSide_b16 g
  refine k_msk (L' := [none, none]) [false, false] rfl ?_
  exact t4_hasSide_b20 g
theorem dX4_loadOn_0 : decode cX4_loadOn 0 = .ok (.aload_n 0, 1) := by decide +kernel
theorem dX4_loadOn_1 : decode cX4_loadOn 1 = .ok (.iload_n 2, 1) := by decide +kernel
theorem dX4_loadOn_2 : decode cX4_loadOn 2 = .ok (.invokevirtual 82, 3) := by decide +kernel
theorem dX4_loadOn_5 : decode cX4_loadOn 5 = .ok (.ifCond .ne 5, 3) := by decide +kernel
theorem dX4_loadOn_8 : decode cX4_loadOn 8 = .ok (.iconst (-1), 1) := by decide +kernel
theorem dX4_loadOn_9 : decode cX4_loadOn 9 = .ok (.ireturn, 1) := by decide +kernel
theorem dX4_loadOn_10 : decode cX4_loadOn 10 = .ok (.aload_n 0, 1) := by decide +kernel
theorem dX4_loadOn_11 : decode cX4_loadOn 11 = .ok (.getfield 59, 3) := by decide +kernel
theorem dX4_loadOn_14 : decode cX4_loadOn 14 = .ok (.ifCond .eq 11, 3) := by decide +kernel
theorem dX4_loadOn_17 : decode cX4_loadOn 17 = .ok (.iconst 2, 1) := by decide +kernel
theorem dX4_loadOn_18 : decode cX4_loadOn 18 = .ok (.iload_n 1, 1) := by decide +kernel
theorem dX4_loadOn_19 : decode cX4_loadOn 19 = .ok (.imul, 1) := by decide +kernel
theorem dX4_loadOn_20 : decode cX4_loadOn 20 = .ok (.iload_n 2, 1) := by decide +kernel
theorem dX4_loadOn_21 : decode cX4_loadOn 21 = .ok (.iadd, 1) := by decide +kernel
theorem dX4_loadOn_22 : decode cX4_loadOn 22 = .ok (.goto 4, 3) := by decide +kernel
theorem dX4_loadOn_25 : decode cX4_loadOn 25 = .ok (.iload_n 1, 1) := by decide +kernel
theorem dX4_loadOn_26 : decode cX4_loadOn 26 = .ok (.istore_n 3, 1) := by decide +kernel
theorem dX4_loadOn_27 : decode cX4_loadOn 27 = .ok (.iload_n 3, 1) := by decide +kernel
theorem dX4_loadOn_28 : decode cX4_loadOn 28 = .ok (.ifCond .lt 21, 3) := by decide +kernel
theorem dX4_loadOn_31 : decode cX4_loadOn 31 = .ok (.iload_n 3, 1) := by decide +kernel
theorem dX4_loadOn_32 : decode cX4_loadOn 32 = .ok (.aload_n 0, 1) := by decide +kernel
theorem dX4_loadOn_33 : decode cX4_loadOn 33 = .ok (.getfield 68, 3) := by decide +kernel
theorem dX4_loadOn_36 : decode cX4_loadOn 36 = .ok (.arraylength, 1) := by decide +kernel
theorem dX4_loadOn_37 : decode cX4_loadOn 37 = .ok (.if_icmp .ge 12, 3) := by decide +kernel
theorem dX4_loadOn_40 : decode cX4_loadOn 40 = .ok (.aload_n 0, 1) := by decide +kernel
theorem dX4_loadOn_41 : decode cX4_loadOn 41 = .ok (.getfield 68, 3) := by decide +kernel
theorem dX4_loadOn_44 : decode cX4_loadOn 44 = .ok (.iload_n 3, 1) := by decide +kernel
theorem dX4_loadOn_45 : decode cX4_loadOn 45 = .ok (.iaload, 1) := by decide +kernel
theorem dX4_loadOn_46 : decode cX4_loadOn 46 = .ok (.goto 4, 3) := by decide +kernel
theorem dX4_loadOn_49 : decode cX4_loadOn 49 = .ok (.iconst (-1), 1) := by decide +kernel
theorem dX4_loadOn_50 : decode cX4_loadOn 50 = .ok (.ireturn, 1) := by decide +kernel
def f4_loadOn_b49 (g : GS_) : Option (Int32 × GS_) :=
  some ((-1 : Int32), g)
theorem t4_loadOn_b49 (g : GS_) : K_ RX4 cX4_loadOn 4 (some .int) 1 21 false EI_ 49 [none, none, none, none] [] g (f4_loadOn_b49 g) := by
  unfold f4_loadOn_b49
  refine k_iconst (v := (-1 : Int32)) dX4_loadOn_49 rfl ?_
  exact k_ireturn rfl dX4_loadOn_50
def f4_loadOn_b26 (v0 : Nat) (s0 : Int32) (g : GS_) : Option (Int32 × GS_) :=
  if s0 < 0 then f4_loadOn_b49 g else lr_ (gfr g 140 v0) fun x1 => oc_ x1 none fun a2 => if (Int32.ofNat (gln g 20 a2)) ≤ s0 then f4_loadOn_b49 g else lr_ (gfr g 140 v0) fun x3 => oc_ x3 none fun a4 => if inb s0 (gln g 20 a4) then some ((gai g 20 a4 s0.toInt.toNat), g) else none
theorem t4_loadOn_b26 (v0 : Nat) (s0 : Int32) (g : GS_) : K_ RX4 cX4_loadOn 4 (some .int) 1 21 false EI_ 26 [some (.inr (4, some v0)), none, none, none] [.inl s0] g (f4_loadOn_b26 v0 s0 g) := by
  unfold f4_loadOn_b26
  refine k_istn (j := 3) (L' := [some (.inr (4, some v0)), none, none, some (.inl s0)]) dX4_loadOn_26 rfl (by decide) rfl ?_
  refine k_iloadn (j := 3) dX4_loadOn_27 rfl rfl ?_
  refine k_iflt (tgt := 49) dX4_loadOn_28 (by decide) (fun _ => ?_) (fun _ => ?_)
  · refine k_msk (L' := [none, none, none, none]) [false, true, true, false] rfl ?_
    exact t4_loadOn_b49 g
  refine k_iloadn (j := 3) dX4_loadOn_31 rfl rfl ?_
  refine k_aloadn (j := 0) dX4_loadOn_32 rfl rfl ?_
  refine k_getr fg_4_68 rfl rfl dX4_loadOn_33 (fun x1 => ?_)
  rcases x1 with _ | a2
  · exact k_ocn
  refine k_ocs ?_
  refine k_alen dX4_loadOn_36 (by decide) ?_
  refine k_icmpge (tgt := 49) dX4_loadOn_37 (by decide) (fun _ => ?_) (fun _ => ?_)
  · refine k_msk (L' := [none, none, none, none]) [false, true, true, false] rfl ?_
    exact t4_loadOn_b49 g
  refine k_aloadn (j := 0) dX4_loadOn_40 rfl rfl ?_
  refine k_getr fg_4_68 rfl rfl dX4_loadOn_41 (fun x3 => ?_)
  refine k_iloadn (j := 3) dX4_loadOn_44 rfl rfl ?_
  rcases x3 with _ | a4
  · exact k_ocn
  refine k_ocs ?_
  refine k_iald dX4_loadOn_45 ?_
  refine k_goto (tgt := 50) dX4_loadOn_46 (by decide) ?_
  exact k_ireturn rfl dX4_loadOn_50
def f4_loadOn (v0 : Nat) (v1 : Int32) (v2 : Int32) (g : GS_) : Option (Int32 × GS_) :=
  bd_ (f4_hasSide v0 v2 g) fun z6 g5 => if z6 = 0 then some ((-1 : Int32), g5) else if (gfi g5 137 v0) = 0 then f4_loadOn_b26 v0 v1 g5 else f4_loadOn_b26 v0 (((2 : Int32) * v1) + v2) g5
theorem t4_loadOn (v0 : Nat) (v1 : Int32) (v2 : Int32) (g : GS_) : Cn_ yX4_loadOn cX4_loadOn 4 (some .int) 1 21 EI_ [.inr (4, some v0), .inl v1, .inl v2] g (f4_loadOn v0 v1 v2 g) := by
  refine k_method (own := RX4) (ini := false) (L1 := [some (.inr (4, some v0)), some (.inl v1), some (.inl v2), none]) (by decide +kernel) rfl (fun h => by cases h) (Nat.le_of_ble_eq_true rfl) rfl ?_
  unfold f4_loadOn
  refine k_aloadn (j := 0) dX4_loadOn_0 rfl rfl ?_
  refine k_iloadn (j := 2) dX4_loadOn_1 rfl rfl ?_
  refine k_callVi [.inl v2] (t4_hasSide v0 v2 g) cw_cX4_hasSide (Or.inl ml_4_82) rfl rfl (by decide) (by decide) (Nat.le_of_ble_eq_true rfl) dX4_loadOn_2 (fun z6 g5 => ?_)
  refine k_ifne (tgt := 10) dX4_loadOn_5 (by decide) (fun _ => ?_) (fun _ => ?_)
  · refine k_iconst (v := (-1 : Int32)) dX4_loadOn_8 rfl ?_
    exact k_ireturn rfl dX4_loadOn_9
  refine k_aloadn (j := 0) dX4_loadOn_10 rfl rfl ?_
  refine k_geti fg_4_59 rfl rfl dX4_loadOn_11 ?_
  refine k_ifeq (tgt := 25) dX4_loadOn_14 (by decide) (fun _ => ?_) (fun _ => ?_)
  · refine k_iloadn (j := 1) dX4_loadOn_25 rfl rfl ?_
    refine k_msk (L' := [some (.inr (4, some v0)), none, none, none]) [true, false, false, true] rfl ?_
    exact t4_loadOn_b26 v0 v1 g5
  refine k_iconst (v := (2 : Int32)) dX4_loadOn_17 rfl ?_
  refine k_iloadn (j := 1) dX4_loadOn_18 rfl rfl ?_
  refine k_imul dX4_loadOn_19 ?_
  refine k_iloadn (j := 2) dX4_loadOn_20 rfl rfl ?_
  refine k_iadd dX4_loadOn_21 ?_
  refine k_goto (tgt := 26) dX4_loadOn_22 (by decide) ?_
  refine k_msk (L' := [some (.inr (4, some v0)), none, none, none]) [true, false, false, true] rfl ?_
  exact t4_loadOn_b26 v0 (((2 : Int32) * v1) + v2) g5
theorem dX4_indexOn_0 : decode cX4_indexOn 0 = .ok (.aload_n 0, 1) := by decide +kernel
theorem dX4_indexOn_1 : decode cX4_indexOn 1 = .ok (.getfield 55, 3) := by decide +kernel
theorem dX4_indexOn_4 : decode cX4_indexOn 4 = .ok (.ifCond .ne 27, 3) := by decide +kernel
theorem dX4_indexOn_7 : decode cX4_indexOn 7 = .ok (.aload_n 0, 1) := by decide +kernel
theorem dX4_indexOn_8 : decode cX4_indexOn 8 = .ok (.getfield 59, 3) := by decide +kernel
theorem dX4_indexOn_11 : decode cX4_indexOn 11 = .ok (.ifCond .eq 11, 3) := by decide +kernel
theorem dX4_indexOn_14 : decode cX4_indexOn 14 = .ok (.iconst 2, 1) := by decide +kernel
theorem dX4_indexOn_15 : decode cX4_indexOn 15 = .ok (.iload_n 1, 1) := by decide +kernel
theorem dX4_indexOn_16 : decode cX4_indexOn 16 = .ok (.imul, 1) := by decide +kernel
theorem dX4_indexOn_17 : decode cX4_indexOn 17 = .ok (.iload_n 2, 1) := by decide +kernel
theorem dX4_indexOn_18 : decode cX4_indexOn 18 = .ok (.iadd, 1) := by decide +kernel
theorem dX4_indexOn_19 : decode cX4_indexOn 19 = .ok (.goto 4, 3) := by decide +kernel
theorem dX4_indexOn_22 : decode cX4_indexOn 22 = .ok (.iload_n 1, 1) := by decide +kernel
theorem dX4_indexOn_23 : decode cX4_indexOn 23 = .ok (.aload_n 0, 1) := by decide +kernel
theorem dX4_indexOn_24 : decode cX4_indexOn 24 = .ok (.getfield 62, 3) := by decide +kernel
theorem dX4_indexOn_27 : decode cX4_indexOn 27 = .ok (.imul, 1) := by decide +kernel
theorem dX4_indexOn_28 : decode cX4_indexOn 28 = .ok (.iload_n 3, 1) := by decide +kernel
theorem dX4_indexOn_29 : decode cX4_indexOn 29 = .ok (.iadd, 1) := by decide +kernel
theorem dX4_indexOn_30 : decode cX4_indexOn 30 = .ok (.ireturn, 1) := by decide +kernel
theorem dX4_indexOn_31 : decode cX4_indexOn 31 = .ok (.iconst 2, 1) := by decide +kernel
theorem dX4_indexOn_32 : decode cX4_indexOn 32 = .ok (.iload_n 1, 1) := by decide +kernel
theorem dX4_indexOn_33 : decode cX4_indexOn 33 = .ok (.imul, 1) := by decide +kernel
theorem dX4_indexOn_34 : decode cX4_indexOn 34 = .ok (.iload_n 2, 1) := by decide +kernel
theorem dX4_indexOn_35 : decode cX4_indexOn 35 = .ok (.iadd, 1) := by decide +kernel
theorem dX4_indexOn_36 : decode cX4_indexOn 36 = .ok (.istore 4, 2) := by decide +kernel
theorem dX4_indexOn_38 : decode cX4_indexOn 38 = .ok (.iload_n 3, 1) := by decide +kernel
theorem dX4_indexOn_39 : decode cX4_indexOn 39 = .ok (.iconst 1, 1) := by decide +kernel
theorem dX4_indexOn_40 : decode cX4_indexOn 40 = .ok (.if_icmp .ne 7, 3) := by decide +kernel
theorem dX4_indexOn_43 : decode cX4_indexOn 43 = .ok (.iconst 1, 1) := by decide +kernel
theorem dX4_indexOn_44 : decode cX4_indexOn 44 = .ok (.goto 4, 3) := by decide +kernel
theorem dX4_indexOn_47 : decode cX4_indexOn 47 = .ok (.iconst 0, 1) := by decide +kernel
theorem dX4_indexOn_48 : decode cX4_indexOn 48 = .ok (.iload_n 2, 1) := by decide +kernel
theorem dX4_indexOn_49 : decode cX4_indexOn 49 = .ok (.ifCond .ne 7, 3) := by decide +kernel
theorem dX4_indexOn_52 : decode cX4_indexOn 52 = .ok (.iconst 1, 1) := by decide +kernel
theorem dX4_indexOn_53 : decode cX4_indexOn 53 = .ok (.goto 4, 3) := by decide +kernel
theorem dX4_indexOn_56 : decode cX4_indexOn 56 = .ok (.iconst 0, 1) := by decide +kernel
theorem dX4_indexOn_57 : decode cX4_indexOn 57 = .ok (.if_icmp .ne 7, 3) := by decide +kernel
theorem dX4_indexOn_60 : decode cX4_indexOn 60 = .ok (.iconst 1, 1) := by decide +kernel
theorem dX4_indexOn_61 : decode cX4_indexOn 61 = .ok (.goto 4, 3) := by decide +kernel
theorem dX4_indexOn_64 : decode cX4_indexOn 64 = .ok (.iconst 0, 1) := by decide +kernel
theorem dX4_indexOn_65 : decode cX4_indexOn 65 = .ok (.istore 5, 2) := by decide +kernel
theorem dX4_indexOn_67 : decode cX4_indexOn 67 = .ok (.iload 5, 2) := by decide +kernel
theorem dX4_indexOn_69 : decode cX4_indexOn 69 = .ok (.ifCond .eq 8, 3) := by decide +kernel
theorem dX4_indexOn_72 : decode cX4_indexOn 72 = .ok (.iload 4, 2) := by decide +kernel
theorem dX4_indexOn_74 : decode cX4_indexOn 74 = .ok (.goto 14, 3) := by decide +kernel
theorem dX4_indexOn_77 : decode cX4_indexOn 77 = .ok (.iconst 4, 1) := by decide +kernel
theorem dX4_indexOn_78 : decode cX4_indexOn 78 = .ok (.aload_n 0, 1) := by decide +kernel
theorem dX4_indexOn_79 : decode cX4_indexOn 79 = .ok (.getfield 65, 3) := by decide +kernel
theorem dX4_indexOn_82 : decode cX4_indexOn 82 = .ok (.imul, 1) := by decide +kernel
theorem dX4_indexOn_83 : decode cX4_indexOn 83 = .ok (.iconst 1, 1) := by decide +kernel
theorem dX4_indexOn_84 : decode cX4_indexOn 84 = .ok (.isub, 1) := by decide +kernel
theorem dX4_indexOn_85 : decode cX4_indexOn 85 = .ok (.iload 4, 2) := by decide +kernel
theorem dX4_indexOn_87 : decode cX4_indexOn 87 = .ok (.isub, 1) := by decide +kernel
theorem dX4_indexOn_88 : decode cX4_indexOn 88 = .ok (.ireturn, 1) := by decide +kernel
def f4_indexOn_b65 (v0 : Nat) (v4 : Int32) (s0 : Int32) (g : GS_) : Option (Int32 × GS_) :=
  if s0 = 0 then some (((((4 : Int32) * (gfi g 139 v0)) - (1 : Int32)) - v4), g) else some (v4, g)
theorem t4_indexOn_b65 (v0 : Nat) (v4 : Int32) (s0 : Int32) (g : GS_) : K_ RX4 cX4_indexOn 6 (some .int) 0 0 false EI_ 65 [some (.inr (4, some v0)), none, none, none, some (.inl v4), none] [.inl s0] g (f4_indexOn_b65 v0 v4 s0 g) := by
  unfold f4_indexOn_b65
  refine k_ist (L' := [some (.inr (4, some v0)), none, none, none, some (.inl v4), some (.inl s0)]) dX4_indexOn_65 (by decide) rfl ?_
  refine k_iload dX4_indexOn_67 rfl ?_
  refine k_ifeq (tgt := 77) dX4_indexOn_69 (by decide) (fun _ => ?_) (fun _ => ?_)
  · refine k_iconst (v := (4 : Int32)) dX4_indexOn_77 rfl ?_
    refine k_aloadn (j := 0) dX4_indexOn_78 rfl rfl ?_
    refine k_geti fg_4_65 rfl rfl dX4_indexOn_79 ?_
    refine k_imul dX4_indexOn_82 ?_
    refine k_iconst (v := (1 : Int32)) dX4_indexOn_83 rfl ?_
    refine k_isub dX4_indexOn_84 ?_
    refine k_iload dX4_indexOn_85 rfl ?_
    refine k_isub dX4_indexOn_87 ?_
    exact k_ireturn rfl dX4_indexOn_88
  refine k_iload dX4_indexOn_72 rfl ?_
  refine k_goto (tgt := 88) dX4_indexOn_74 (by decide) ?_
  exact k_ireturn rfl dX4_indexOn_88
def f4_indexOn_b57 (v0 : Nat) (v4 : Int32) (s0 : Int32) (s1 : Int32) (g : GS_) : Option (Int32 × GS_) :=
  if s0 = s1 then f4_indexOn_b65 v0 v4 (1 : Int32) g else f4_indexOn_b65 v0 v4 (0 : Int32) g
theorem t4_indexOn_b57 (v0 : Nat) (v4 : Int32) (s0 : Int32) (s1 : Int32) (g : GS_) : K_ RX4 cX4_indexOn 6 (some .int) 0 0 false EI_ 57 [some (.inr (4, some v0)), none, none, none, some (.inl v4), none] [.inl s1, .inl s0] g (f4_indexOn_b57 v0 v4 s0 s1 g) := by
  unfold f4_indexOn_b57
  refine k_icmpne (tgt := 64) dX4_indexOn_57 (by decide) (fun _ => ?_) (fun _ => ?_)
  · refine k_iconst (v := (1 : Int32)) dX4_indexOn_60 rfl ?_
    refine k_goto (tgt := 65) dX4_indexOn_61 (by decide) ?_
    exact t4_indexOn_b65 v0 v4 (1 : Int32) g
  refine k_iconst (v := (0 : Int32)) dX4_indexOn_64 rfl ?_
  exact t4_indexOn_b65 v0 v4 (0 : Int32) g
def f4_indexOn_b48 (v0 : Nat) (v2 : Int32) (v4 : Int32) (s0 : Int32) (g : GS_) : Option (Int32 × GS_) :=
  if v2 = 0 then f4_indexOn_b57 v0 v4 s0 (1 : Int32) g else f4_indexOn_b57 v0 v4 s0 (0 : Int32) g
theorem t4_indexOn_b48 (v0 : Nat) (v2 : Int32) (v4 : Int32) (s0 : Int32) (g : GS_) : K_ RX4 cX4_indexOn 6 (some .int) 0 0 false EI_ 48 [some (.inr (4, some v0)), none, some (.inl v2), none, some (.inl v4), none] [.inl s0] g (f4_indexOn_b48 v0 v2 v4 s0 g) := by
  unfold f4_indexOn_b48
  refine k_iloadn (j := 2) dX4_indexOn_48 rfl rfl ?_
  refine k_ifne (tgt := 56) dX4_indexOn_49 (by decide) (fun _ => ?_) (fun _ => ?_)
  · refine k_iconst (v := (1 : Int32)) dX4_indexOn_52 rfl ?_
    refine k_goto (tgt := 57) dX4_indexOn_53 (by decide) ?_
    refine k_msk (L' := [some (.inr (4, some v0)), none, none, none, some (.inl v4), none]) [true, true, false, true, true, true] rfl ?_
    exact t4_indexOn_b57 v0 v4 s0 (1 : Int32) g
  refine k_iconst (v := (0 : Int32)) dX4_indexOn_56 rfl ?_
  refine k_msk (L' := [some (.inr (4, some v0)), none, none, none, some (.inl v4), none]) [true, true, false, true, true, true] rfl ?_
  exact t4_indexOn_b57 v0 v4 s0 (0 : Int32) g
def f4_indexOn_b23 (v0 : Nat) (v3 : Int32) (s0 : Int32) (g : GS_) : Option (Int32 × GS_) :=
  some (((s0 * (gfi g 138 v0)) + v3), g)
theorem t4_indexOn_b23 (v0 : Nat) (v3 : Int32) (s0 : Int32) (g : GS_) : K_ RX4 cX4_indexOn 6 (some .int) 0 0 false EI_ 23 [some (.inr (4, some v0)), none, none, some (.inl v3), none, none] [.inl s0] g (f4_indexOn_b23 v0 v3 s0 g) := by
  unfold f4_indexOn_b23
  refine k_aloadn (j := 0) dX4_indexOn_23 rfl rfl ?_
  refine k_geti fg_4_62 rfl rfl dX4_indexOn_24 ?_
  refine k_imul dX4_indexOn_27 ?_
  refine k_iloadn (j := 3) dX4_indexOn_28 rfl rfl ?_
  refine k_iadd dX4_indexOn_29 ?_
  exact k_ireturn rfl dX4_indexOn_30
def f4_indexOn (v0 : Nat) (v1 : Int32) (v2 : Int32) (v3 : Int32) (g : GS_) : Option (Int32 × GS_) :=
  if (gfi g 136 v0) = 0 then if (gfi g 137 v0) = 0 then f4_indexOn_b23 v0 v3 v1 g else f4_indexOn_b23 v0 v3 (((2 : Int32) * v1) + v2) g else lr_ (((2 : Int32) * v1) + v2) fun z1 => if v3 = (1 : Int32) then f4_indexOn_b48 v0 v2 z1 (1 : Int32) g else f4_indexOn_b48 v0 v2 z1 (0 : Int32) g
theorem t4_indexOn (v0 : Nat) (v1 : Int32) (v2 : Int32) (v3 : Int32) (g : GS_) : Cn_ yX4_indexOn cX4_indexOn 6 (some .int) 0 0 EI_ [.inr (4, some v0), .inl v1, .inl v2, .inl v3] g (f4_indexOn v0 v1 v2 v3 g) := by
  refine k_method (own := RX4) (ini := false) (L1 := [some (.inr (4, some v0)), some (.inl v1), some (.inl v2), some (.inl v3), none, none]) (by decide +kernel) rfl (fun h => by cases h) (Nat.le_of_ble_eq_true rfl) rfl ?_
  unfold f4_indexOn
  refine k_aloadn (j := 0) dX4_indexOn_0 rfl rfl ?_
  refine k_geti fg_4_55 rfl rfl dX4_indexOn_1 ?_
  refine k_ifne (tgt := 31) dX4_indexOn_4 (by decide) (fun _ => ?_) (fun _ => ?_)
  · refine k_aloadn (j := 0) dX4_indexOn_7 rfl rfl ?_
    refine k_geti fg_4_59 rfl rfl dX4_indexOn_8 ?_
    refine k_ifeq (tgt := 22) dX4_indexOn_11 (by decide) (fun _ => ?_) (fun _ => ?_)
    · refine k_iloadn (j := 1) dX4_indexOn_22 rfl rfl ?_
      refine k_msk (L' := [some (.inr (4, some v0)), none, none, some (.inl v3), none, none]) [true, false, false, true, true, true] rfl ?_
      exact t4_indexOn_b23 v0 v3 v1 g
    refine k_iconst (v := (2 : Int32)) dX4_indexOn_14 rfl ?_
    refine k_iloadn (j := 1) dX4_indexOn_15 rfl rfl ?_
    refine k_imul dX4_indexOn_16 ?_
    refine k_iloadn (j := 2) dX4_indexOn_17 rfl rfl ?_
    refine k_iadd dX4_indexOn_18 ?_
    refine k_goto (tgt := 23) dX4_indexOn_19 (by decide) ?_
    refine k_msk (L' := [some (.inr (4, some v0)), none, none, some (.inl v3), none, none]) [true, false, false, true, true, true] rfl ?_
    exact t4_indexOn_b23 v0 v3 (((2 : Int32) * v1) + v2) g
  refine k_iconst (v := (2 : Int32)) dX4_indexOn_31 rfl ?_
  refine k_iloadn (j := 1) dX4_indexOn_32 rfl rfl ?_
  refine k_imul dX4_indexOn_33 ?_
  refine k_iloadn (j := 2) dX4_indexOn_34 rfl rfl ?_
  refine k_iadd dX4_indexOn_35 ?_
  refine k_istl (L2 := fun z1 => [some (.inr (4, some v0)), some (.inl v1), some (.inl v2), some (.inl v3), some (.inl z1), none]) dX4_indexOn_36 (by decide) (fun _ => rfl) (fun z1 => ?_)
  refine k_iloadn (j := 3) dX4_indexOn_38 rfl rfl ?_
  refine k_iconst (v := (1 : Int32)) dX4_indexOn_39 rfl ?_
  refine k_icmpne (tgt := 47) dX4_indexOn_40 (by decide) (fun _ => ?_) (fun _ => ?_)
  · refine k_iconst (v := (1 : Int32)) dX4_indexOn_43 rfl ?_
    refine k_goto (tgt := 48) dX4_indexOn_44 (by decide) ?_
    refine k_msk (L' := [some (.inr (4, some v0)), none, some (.inl v2), none, some (.inl z1), none]) [true, false, true, false, true, true] rfl ?_
    exact t4_indexOn_b48 v0 v2 z1 (1 : Int32) g
  refine k_iconst (v := (0 : Int32)) dX4_indexOn_47 rfl ?_
  refine k_msk (L' := [some (.inr (4, some v0)), none, some (.inl v2), none, some (.inl z1), none]) [true, false, true, false, true, true] rfl ?_
  exact t4_indexOn_b48 v0 v2 z1 (0 : Int32) g
theorem dX4_pageOn_0 : decode cX4_pageOn 0 = .ok (.aload_n 0, 1) := by decide +kernel
theorem dX4_pageOn_1 : decode cX4_pageOn 1 = .ok (.iload_n 1, 1) := by decide +kernel
theorem dX4_pageOn_2 : decode cX4_pageOn 2 = .ok (.iload_n 2, 1) := by decide +kernel
theorem dX4_pageOn_3 : decode cX4_pageOn 3 = .ok (.iload_n 3, 1) := by decide +kernel
theorem dX4_pageOn_4 : decode cX4_pageOn 4 = .ok (.invokevirtual 78, 3) := by decide +kernel
theorem dX4_pageOn_7 : decode cX4_pageOn 7 = .ok (.istore 4, 2) := by decide +kernel
theorem dX4_pageOn_9 : decode cX4_pageOn 9 = .ok (.iload 4, 2) := by decide +kernel
theorem dX4_pageOn_11 : decode cX4_pageOn 11 = .ok (.ifCond .lt 23, 3) := by decide +kernel
theorem dX4_pageOn_14 : decode cX4_pageOn 14 = .ok (.iload 4, 2) := by decide +kernel
theorem dX4_pageOn_16 : decode cX4_pageOn 16 = .ok (.aload_n 0, 1) := by decide +kernel
theorem dX4_pageOn_17 : decode cX4_pageOn 17 = .ok (.getfield 19, 3) := by decide +kernel
theorem dX4_pageOn_20 : decode cX4_pageOn 20 = .ok (.arraylength, 1) := by decide +kernel
theorem dX4_pageOn_21 : decode cX4_pageOn 21 = .ok (.if_icmp .ge 13, 3) := by decide +kernel
theorem dX4_pageOn_24 : decode cX4_pageOn 24 = .ok (.aload_n 0, 1) := by decide +kernel
theorem dX4_pageOn_25 : decode cX4_pageOn 25 = .ok (.getfield 19, 3) := by decide +kernel
theorem dX4_pageOn_28 : decode cX4_pageOn 28 = .ok (.iload 4, 2) := by decide +kernel
theorem dX4_pageOn_30 : decode cX4_pageOn 30 = .ok (.iaload, 1) := by decide +kernel
theorem dX4_pageOn_31 : decode cX4_pageOn 31 = .ok (.goto 4, 3) := by decide +kernel
theorem dX4_pageOn_34 : decode cX4_pageOn 34 = .ok (.iconst 0, 1) := by decide +kernel
theorem dX4_pageOn_35 : decode cX4_pageOn 35 = .ok (.ireturn, 1) := by decide +kernel
def f4_pageOn_b34 (g : GS_) : Option (Int32 × GS_) :=
  some ((0 : Int32), g)
theorem t4_pageOn_b34 (g : GS_) : K_ RX4 cX4_pageOn 5 (some .int) 1 25 false EI_ 34 [none, none, none, none, none] [] g (f4_pageOn_b34 g) := by
  unfold f4_pageOn_b34
  refine k_iconst (v := (0 : Int32)) dX4_pageOn_34 rfl ?_
  exact k_ireturn rfl dX4_pageOn_35
def f4_pageOn (v0 : Nat) (v1 : Int32) (v2 : Int32) (v3 : Int32) (g : GS_) : Option (Int32 × GS_) :=
  bd_ (f4_indexOn v0 v1 v2 v3 g) fun z2 g1 => if z2 < 0 then f4_pageOn_b34 g1 else lr_ (gfr g1 130 v0) fun x3 => oc_ x3 none fun a4 => if (Int32.ofNat (gln g1 20 a4)) ≤ z2 then f4_pageOn_b34 g1 else lr_ (gfr g1 130 v0) fun x5 => oc_ x5 none fun a6 => if inb z2 (gln g1 20 a6) then some ((gai g1 20 a6 z2.toInt.toNat), g1) else none
theorem t4_pageOn (v0 : Nat) (v1 : Int32) (v2 : Int32) (v3 : Int32) (g : GS_) : Cn_ yX4_pageOn cX4_pageOn 5 (some .int) 1 25 EI_ [.inr (4, some v0), .inl v1, .inl v2, .inl v3] g (f4_pageOn v0 v1 v2 v3 g) := by
  refine k_method (own := RX4) (ini := false) (L1 := [some (.inr (4, some v0)), some (.inl v1), some (.inl v2), some (.inl v3), none]) (by decide +kernel) rfl (fun h => by cases h) (Nat.le_of_ble_eq_true rfl) rfl ?_
  unfold f4_pageOn
  refine k_aloadn (j := 0) dX4_pageOn_0 rfl rfl ?_
  refine k_iloadn (j := 1) dX4_pageOn_1 rfl rfl ?_
  refine k_iloadn (j := 2) dX4_pageOn_2 rfl rfl ?_
  refine k_iloadn (j := 3) dX4_pageOn_3 rfl rfl ?_
  refine k_callVi [.inl v1, .inl v2, .inl v3] (t4_indexOn v0 v1 v2 v3 g) cw_cX4_indexOn (Or.inl ml_4_78) rfl rfl (by decide) (by decide) (Nat.le_of_ble_eq_true rfl) dX4_pageOn_4 (fun z2 g1 => ?_)
  refine k_ist (L' := [some (.inr (4, some v0)), some (.inl v1), some (.inl v2), some (.inl v3), some (.inl z2)]) dX4_pageOn_7 (by decide) rfl ?_
  refine k_iload dX4_pageOn_9 rfl ?_
  refine k_iflt (tgt := 34) dX4_pageOn_11 (by decide) (fun _ => ?_) (fun _ => ?_)
  · refine k_msk (L' := [none, none, none, none, none]) [false, false, false, false, false] rfl ?_
    exact t4_pageOn_b34 g1
  refine k_iload dX4_pageOn_14 rfl ?_
  refine k_aloadn (j := 0) dX4_pageOn_16 rfl rfl ?_
  refine k_getr fg_4_19 rfl rfl dX4_pageOn_17 (fun x3 => ?_)
  rcases x3 with _ | a4
  · exact k_ocn
  refine k_ocs ?_
  refine k_alen dX4_pageOn_20 (by decide) ?_
  refine k_icmpge (tgt := 34) dX4_pageOn_21 (by decide) (fun _ => ?_) (fun _ => ?_)
  · refine k_msk (L' := [none, none, none, none, none]) [false, false, false, false, false] rfl ?_
    exact t4_pageOn_b34 g1
  refine k_aloadn (j := 0) dX4_pageOn_24 rfl rfl ?_
  refine k_getr fg_4_19 rfl rfl dX4_pageOn_25 (fun x5 => ?_)
  refine k_iload dX4_pageOn_28 rfl ?_
  rcases x5 with _ | a6
  · exact k_ocn
  refine k_ocs ?_
  refine k_iald dX4_pageOn_30 ?_
  refine k_goto (tgt := 35) dX4_pageOn_31 (by decide) ?_
  exact k_ireturn rfl dX4_pageOn_35
theorem dX4_loadOfPages_0 : decode cX4_loadOfPages 0 = .ok (.iconst 0, 1) := by decide +kernel
theorem dX4_loadOfPages_1 : decode cX4_loadOfPages 1 = .ok (.istore_n 3, 1) := by decide +kernel
theorem dX4_loadOfPages_2 : decode cX4_loadOfPages 2 = .ok (.iconst 1, 1) := by decide +kernel
theorem dX4_loadOfPages_3 : decode cX4_loadOfPages 3 = .ok (.istore 4, 2) := by decide +kernel
theorem dX4_loadOfPages_5 : decode cX4_loadOfPages 5 = .ok (.iconst 0, 1) := by decide +kernel
theorem dX4_loadOfPages_6 : decode cX4_loadOfPages 6 = .ok (.istore 5, 2) := by decide +kernel
theorem dX4_loadOfPages_8 : decode cX4_loadOfPages 8 = .ok (.iload 5, 2) := by decide +kernel
theorem dX4_loadOfPages_10 : decode cX4_loadOfPages 10 = .ok (.aload_n 0, 1) := by decide +kernel
theorem dX4_loadOfPages_11 : decode cX4_loadOfPages 11 = .ok (.getfield 62, 3) := by decide +kernel
theorem dX4_loadOfPages_14 : decode cX4_loadOfPages 14 = .ok (.if_icmp .ge 51, 3) := by decide +kernel
theorem dX4_loadOfPages_17 : decode cX4_loadOfPages 17 = .ok (.aload_n 0, 1) := by decide +kernel
theorem dX4_loadOfPages_18 : decode cX4_loadOfPages 18 = .ok (.iload_n 1, 1) := by decide +kernel
theorem dX4_loadOfPages_19 : decode cX4_loadOfPages 19 = .ok (.iload_n 2, 1) := by decide +kernel
theorem dX4_loadOfPages_20 : decode cX4_loadOfPages 20 = .ok (.iload 5, 2) := by decide +kernel
theorem dX4_loadOfPages_22 : decode cX4_loadOfPages 22 = .ok (.invokevirtual 86, 3) := by decide +kernel
theorem dX4_loadOfPages_25 : decode cX4_loadOfPages 25 = .ok (.istore 6, 2) := by decide +kernel
theorem dX4_loadOfPages_27 : decode cX4_loadOfPages 27 = .ok (.iload 6, 2) := by decide +kernel
theorem dX4_loadOfPages_29 : decode cX4_loadOfPages 29 = .ok (.ifCond .eq 30, 3) := by decide +kernel
theorem dX4_loadOfPages_32 : decode cX4_loadOfPages 32 = .ok (.aload_n 0, 1) := by decide +kernel
theorem dX4_loadOfPages_33 : decode cX4_loadOfPages 33 = .ok (.getfield 62, 3) := by decide +kernel
theorem dX4_loadOfPages_36 : decode cX4_loadOfPages 36 = .ok (.ifCond .le 23, 3) := by decide +kernel
theorem dX4_loadOfPages_39 : decode cX4_loadOfPages 39 = .ok (.iconst 0, 1) := by decide +kernel
theorem dX4_loadOfPages_40 : decode cX4_loadOfPages 40 = .ok (.istore 4, 2) := by decide +kernel
theorem dX4_loadOfPages_42 : decode cX4_loadOfPages 42 = .ok (.iload_n 3, 1) := by decide +kernel
theorem dX4_loadOfPages_43 : decode cX4_loadOfPages 43 = .ok (.aload_n 0, 1) := by decide +kernel
theorem dX4_loadOfPages_44 : decode cX4_loadOfPages 44 = .ok (.getfield 9, 3) := by decide +kernel
theorem dX4_loadOfPages_47 : decode cX4_loadOfPages 47 = .ok (.iload 6, 2) := by decide +kernel
theorem dX4_loadOfPages_49 : decode cX4_loadOfPages 49 = .ok (.invokevirtual 89, 3) := by decide +kernel
theorem dX4_loadOfPages_52 : decode cX4_loadOfPages 52 = .ok (.aload_n 0, 1) := by decide +kernel
theorem dX4_loadOfPages_53 : decode cX4_loadOfPages 53 = .ok (.getfield 62, 3) := by decide +kernel
theorem dX4_loadOfPages_56 : decode cX4_loadOfPages 56 = .ok (.idiv, 1) := by decide +kernel
theorem dX4_loadOfPages_57 : decode cX4_loadOfPages 57 = .ok (.iadd, 1) := by decide +kernel
theorem dX4_loadOfPages_58 : decode cX4_loadOfPages 58 = .ok (.istore_n 3, 1) := by decide +kernel
theorem dX4_loadOfPages_59 : decode cX4_loadOfPages 59 = .ok (.iinc 5 1, 3) := by decide +kernel
theorem dX4_loadOfPages_62 : decode cX4_loadOfPages 62 = .ok (.goto (-54), 3) := by decide +kernel
theorem dX4_loadOfPages_65 : decode cX4_loadOfPages 65 = .ok (.iload 4, 2) := by decide +kernel
theorem dX4_loadOfPages_67 : decode cX4_loadOfPages 67 = .ok (.ifCond .eq 7, 3) := by decide +kernel
theorem dX4_loadOfPages_70 : decode cX4_loadOfPages 70 = .ok (.iconst (-1), 1) := by decide +kernel
theorem dX4_loadOfPages_71 : decode cX4_loadOfPages 71 = .ok (.goto 4, 3) := by decide +kernel
theorem dX4_loadOfPages_74 : decode cX4_loadOfPages 74 = .ok (.iload_n 3, 1) := by decide +kernel
theorem dX4_loadOfPages_75 : decode cX4_loadOfPages 75 = .ok (.ireturn, 1) := by decide +kernel
def f4_loadOfPages_b59 (c8 : Nat → Int32 → Int32 → Int32 → Int32 → Int32 → GS_ → Option (Int32 × GS_)) (v0 : Nat) (v1 : Int32) (v2 : Int32) (v3 : Int32) (v4 : Int32) (v5 : Int32) (g : GS_) : Option (Int32 × GS_) :=
  c8 v0 v1 v2 v3 v4 (v5 + (1 : Int32)) g
theorem t4_loadOfPages_b59 (c8 : Nat → Int32 → Int32 → Int32 → Int32 → Int32 → GS_ → Option (Int32 × GS_)) (h8 : ∀ (v0 : Nat) (v1 : Int32) (v2 : Int32) (v3 : Int32) (v4 : Int32) (v5 : Int32) (g : GS_), K_ RX4 cX4_loadOfPages 7 (some .int) 2 49 false EI_ 8 [some (.inr (4, some v0)), some (.inl v1), some (.inl v2), some (.inl v3), some (.inl v4), some (.inl v5), none] [] g (c8 v0 v1 v2 v3 v4 v5 g)) (v0 : Nat) (v1 : Int32) (v2 : Int32) (v3 : Int32) (v4 : Int32) (v5 : Int32) (g : GS_) : K_ RX4 cX4_loadOfPages 7 (some .int) 2 49 false EI_ 59 [some (.inr (4, some v0)), some (.inl v1), some (.inl v2), some (.inl v3), some (.inl v4), some (.inl v5), none] [] g (f4_loadOfPages_b59 c8 v0 v1 v2 v3 v4 v5 g) := by
  unfold f4_loadOfPages_b59
  refine k_iinc (v := (v5 + (1 : Int32))) (L' := [some (.inr (4, some v0)), some (.inl v1), some (.inl v2), some (.inl v3), some (.inl v4), some (.inl (v5 + (1 : Int32))), none]) dX4_loadOfPages_59 rfl rfl (by decide) rfl ?_
  refine k_goto (tgt := 8) dX4_loadOfPages_62 (by decide) ?_
  exact h8 v0 v1 v2 v3 v4 (v5 + (1 : Int32)) g
def f4_loadOfPages_b8 : Nat → Nat → Int32 → Int32 → Int32 → Int32 → Int32 → GS_ → Option (Int32 × GS_)
  | 0, _, _, _, _, _, _, _ => none
  | n + 1, v0, v1, v2, v3, v4, v5, g =>
    if (gfi g 138 v0) ≤ v5 then if v4 = 0 then some (v3, g) else some ((-1 : Int32), g) else bd_ (f4_pageOn v0 v1 v2 v5 g) fun z2 g1 => if z2 = 0 then f4_loadOfPages_b59 (f4_loadOfPages_b8 n) v0 v1 v2 v3 v4 v5 g1 else if (gfi g1 138 v0) ≤ 0 then f4_loadOfPages_b59 (f4_loadOfPages_b8 n) v0 v1 v2 v3 v4 v5 g1 else lr_ (gfr g1 128 v0) fun x3 => oc_ x3 none fun a4 => bd_ (f0_weightOf a4 z2 g1) fun z6 g5 => if (gfi g5 138 v0) = 0 then none else lr_ (v3 + (z6 / (gfi g5 138 v0))) fun z7 => f4_loadOfPages_b59 (f4_loadOfPages_b8 n) v0 v1 v2 z7 (0 : Int32) v5 g5
theorem t4_loadOfPages_b8 : ∀ (n : Nat) (v0 : Nat) (v1 : Int32) (v2 : Int32) (v3 : Int32) (v4 : Int32) (v5 : Int32) (g : GS_), K_ RX4 cX4_loadOfPages 7 (some .int) 2 49 false EI_ 8 [some (.inr (4, some v0)), some (.inl v1), some (.inl v2), some (.inl v3), some (.inl v4), some (.inl v5), none] [] g (f4_loadOfPages_b8 n v0 v1 v2 v3 v4 v5 g) := by
  intro n
  induction n with
  | zero =>
    intro v0 v1 v2 v3 v4 v5 g
    exact k_fail
  | succ n ih =>
    intro v0 v1 v2 v3 v4 v5 g
    show K_ RX4 cX4_loadOfPages 7 (some .int) 2 49 false EI_ 8 [some (.inr (4, some v0)), some (.inl v1), some (.inl v2), some (.inl v3), some (.inl v4), some (.inl v5), none] [] g (if (gfi g 138 v0) ≤ v5 then if v4 = 0 then some (v3, g) else some ((-1 : Int32), g) else bd_ (f4_pageOn v0 v1 v2 v5 g) fun z2 g1 => if z2 = 0 then f4_loadOfPages_b59 (f4_loadOfPages_b8 n) v0 v1 v2 v3 v4 v5 g1 else if (gfi g1 138 v0) ≤ 0 then f4_loadOfPages_b59 (f4_loadOfPages_b8 n) v0 v1 v2 v3 v4 v5 g1 else lr_ (gfr g1 128 v0) fun x3 => oc_ x3 none fun a4 => bd_ (f0_weightOf a4 z2 g1) fun z6 g5 => if (gfi g5 138 v0) = 0 then none else lr_ (v3 + (z6 / (gfi g5 138 v0))) fun z7 => f4_loadOfPages_b59 (f4_loadOfPages_b8 n) v0 v1 v2 z7 (0 : Int32) v5 g5)
    refine k_iload dX4_loadOfPages_8 rfl ?_
    refine k_aloadn (j := 0) dX4_loadOfPages_10 rfl rfl ?_
    refine k_geti fg_4_62 rfl rfl dX4_loadOfPages_11 ?_
    refine k_icmpge (tgt := 65) dX4_loadOfPages_14 (by decide) (fun _ => ?_) (fun _ => ?_)
    · refine k_iload dX4_loadOfPages_65 rfl ?_
      refine k_ifeq (tgt := 74) dX4_loadOfPages_67 (by decide) (fun _ => ?_) (fun _ => ?_)
      · refine k_iloadn (j := 3) dX4_loadOfPages_74 rfl rfl ?_
        exact k_ireturn rfl dX4_loadOfPages_75
      refine k_iconst (v := (-1 : Int32)) dX4_loadOfPages_70 rfl ?_
      refine k_goto (tgt := 75) dX4_loadOfPages_71 (by decide) ?_
      exact k_ireturn rfl dX4_loadOfPages_75
    refine k_aloadn (j := 0) dX4_loadOfPages_17 rfl rfl ?_
    refine k_iloadn (j := 1) dX4_loadOfPages_18 rfl rfl ?_
    refine k_iloadn (j := 2) dX4_loadOfPages_19 rfl rfl ?_
    refine k_iload dX4_loadOfPages_20 rfl ?_
    refine k_callVi [.inl v1, .inl v2, .inl v5] (t4_pageOn v0 v1 v2 v5 g) cw_cX4_pageOn (Or.inl ml_4_86) rfl rfl (by decide) (by decide) (Nat.le_of_ble_eq_true rfl) dX4_loadOfPages_22 (fun z2 g1 => ?_)
    refine k_ist (L' := [some (.inr (4, some v0)), some (.inl v1), some (.inl v2), some (.inl v3), some (.inl v4), some (.inl v5), some (.inl z2)]) dX4_loadOfPages_25 (by decide) rfl ?_
    refine k_iload dX4_loadOfPages_27 rfl ?_
    refine k_ifeq (tgt := 59) dX4_loadOfPages_29 (by decide) (fun _ => ?_) (fun _ => ?_)
    · refine k_msk (L' := [some (.inr (4, some v0)), some (.inl v1), some (.inl v2), some (.inl v3), some (.inl v4), some (.inl v5), none]) [true, true, true, true, true, true, false] rfl ?_
      exact t4_loadOfPages_b59 (f4_loadOfPages_b8 n) ih v0 v1 v2 v3 v4 v5 g1
    refine k_aloadn (j := 0) dX4_loadOfPages_32 rfl rfl ?_
    refine k_geti fg_4_62 rfl rfl dX4_loadOfPages_33 ?_
    refine k_ifle (tgt := 59) dX4_loadOfPages_36 (by decide) (fun _ => ?_) (fun _ => ?_)
    · refine k_msk (L' := [some (.inr (4, some v0)), some (.inl v1), some (.inl v2), some (.inl v3), some (.inl v4), some (.inl v5), none]) [true, true, true, true, true, true, false] rfl ?_
      exact t4_loadOfPages_b59 (f4_loadOfPages_b8 n) ih v0 v1 v2 v3 v4 v5 g1
    refine k_iconst (v := (0 : Int32)) dX4_loadOfPages_39 rfl ?_
    refine k_ist (L' := [some (.inr (4, some v0)), some (.inl v1), some (.inl v2), some (.inl v3), some (.inl (0 : Int32)), some (.inl v5), some (.inl z2)]) dX4_loadOfPages_40 (by decide) rfl ?_
    refine k_iloadn (j := 3) dX4_loadOfPages_42 rfl rfl ?_
    refine k_aloadn (j := 0) dX4_loadOfPages_43 rfl rfl ?_
    refine k_getr fg_4_9 rfl rfl dX4_loadOfPages_44 (fun x3 => ?_)
    refine k_iload dX4_loadOfPages_47 rfl ?_
    rcases x3 with _ | a4
    · exact k_ocn
    refine k_ocs ?_
    refine k_callVi [.inl z2] (t0_weightOf a4 z2 g1) cw_cX0_weightOf (Or.inl ml_4_89) rfl rfl (by decide) (by decide) (Nat.le_of_ble_eq_true rfl) dX4_loadOfPages_49 (fun z6 g5 => ?_)
    refine k_aloadn (j := 0) dX4_loadOfPages_52 rfl rfl ?_
    refine k_geti fg_4_62 rfl rfl dX4_loadOfPages_53 ?_
    refine k_idiv dX4_loadOfPages_56 (fun _ => ?_)
    refine k_iadd dX4_loadOfPages_57 ?_
    refine k_istnl (j := 3) (L2 := fun z7 => [some (.inr (4, some v0)), some (.inl v1), some (.inl v2), some (.inl z7), some (.inl (0 : Int32)), some (.inl v5), some (.inl z2)]) dX4_loadOfPages_58 rfl (by decide) (fun _ => rfl) (fun z7 => ?_)
    refine k_msk (L' := [some (.inr (4, some v0)), some (.inl v1), some (.inl v2), some (.inl z7), some (.inl (0 : Int32)), some (.inl v5), none]) [true, true, true, true, true, true, false] rfl ?_
    exact t4_loadOfPages_b59 (f4_loadOfPages_b8 n) ih v0 v1 v2 z7 (0 : Int32) v5 g5
def f4_loadOfPages (v0 : Nat) (v1 : Int32) (v2 : Int32) (g : GS_) : Option (Int32 × GS_) :=
  f4_loadOfPages_b8 FU_ v0 v1 v2 (0 : Int32) (1 : Int32) (0 : Int32) g
theorem t4_loadOfPages (v0 : Nat) (v1 : Int32) (v2 : Int32) (g : GS_) : Cn_ yX4_loadOfPages cX4_loadOfPages 7 (some .int) 2 49 EI_ [.inr (4, some v0), .inl v1, .inl v2] g (f4_loadOfPages v0 v1 v2 g) := by
  refine k_method (own := RX4) (ini := false) (L1 := [some (.inr (4, some v0)), some (.inl v1), some (.inl v2), none, none, none, none]) (by decide +kernel) rfl (fun h => by cases h) (Nat.le_of_ble_eq_true rfl) rfl ?_
  unfold f4_loadOfPages
  refine k_iconst (v := (0 : Int32)) dX4_loadOfPages_0 rfl ?_
  refine k_istn (j := 3) (L' := [some (.inr (4, some v0)), some (.inl v1), some (.inl v2), some (.inl (0 : Int32)), none, none, none]) dX4_loadOfPages_1 rfl (by decide) rfl ?_
  refine k_iconst (v := (1 : Int32)) dX4_loadOfPages_2 rfl ?_
  refine k_ist (L' := [some (.inr (4, some v0)), some (.inl v1), some (.inl v2), some (.inl (0 : Int32)), some (.inl (1 : Int32)), none, none]) dX4_loadOfPages_3 (by decide) rfl ?_
  refine k_iconst (v := (0 : Int32)) dX4_loadOfPages_5 rfl ?_
  refine k_ist (L' := [some (.inr (4, some v0)), some (.inl v1), some (.inl v2), some (.inl (0 : Int32)), some (.inl (1 : Int32)), some (.inl (0 : Int32)), none]) dX4_loadOfPages_6 (by decide) rfl ?_
  exact t4_loadOfPages_b8 FU_ v0 v1 v2 (0 : Int32) (1 : Int32) (0 : Int32) g
theorem dX8_settingAt_0 : decode cX8_settingAt 0 = .ok (.iload_n 1, 1) := by decide +kernel
theorem dX8_settingAt_1 : decode cX8_settingAt 1 = .ok (.ifCond .lt 21, 3) := by decide +kernel
theorem dX8_settingAt_4 : decode cX8_settingAt 4 = .ok (.iload_n 1, 1) := by decide +kernel
theorem dX8_settingAt_5 : decode cX8_settingAt 5 = .ok (.aload_n 0, 1) := by decide +kernel
theorem dX8_settingAt_6 : decode cX8_settingAt 6 = .ok (.getfield 46, 3) := by decide +kernel
theorem dX8_settingAt_9 : decode cX8_settingAt 9 = .ok (.arraylength, 1) := by decide +kernel
theorem dX8_settingAt_10 : decode cX8_settingAt 10 = .ok (.if_icmp .ge 12, 3) := by decide +kernel
theorem dX8_settingAt_13 : decode cX8_settingAt 13 = .ok (.aload_n 0, 1) := by decide +kernel
theorem dX8_settingAt_14 : decode cX8_settingAt 14 = .ok (.getfield 46, 3) := by decide +kernel
theorem dX8_settingAt_17 : decode cX8_settingAt 17 = .ok (.iload_n 1, 1) := by decide +kernel
theorem dX8_settingAt_18 : decode cX8_settingAt 18 = .ok (.iaload, 1) := by decide +kernel
theorem dX8_settingAt_19 : decode cX8_settingAt 19 = .ok (.goto 4, 3) := by decide +kernel
theorem dX8_settingAt_22 : decode cX8_settingAt 22 = .ok (.iconst 0, 1) := by decide +kernel
theorem dX8_settingAt_23 : decode cX8_settingAt 23 = .ok (.ireturn, 1) := by decide +kernel
def f8_settingAt_b22 (g : GS_) : Option (Int32 × GS_) :=
  some ((0 : Int32), g)
theorem t8_settingAt_b22 (g : GS_) : K_ RX8 cX8_settingAt 2 (some .int) 0 0 false EI_ 22 [none, none] [] g (f8_settingAt_b22 g) := by
  unfold f8_settingAt_b22
  refine k_iconst (v := (0 : Int32)) dX8_settingAt_22 rfl ?_
  exact k_ireturn rfl dX8_settingAt_23
def f8_settingAt (v0 : Nat) (v1 : Int32) (g : GS_) : Option (Int32 × GS_) :=
  if v1 < 0 then f8_settingAt_b22 g else lr_ (gfr g 263 v0) fun x1 => oc_ x1 none fun a2 => if (Int32.ofNat (gln g 20 a2)) ≤ v1 then f8_settingAt_b22 g else lr_ (gfr g 263 v0) fun x3 => oc_ x3 none fun a4 => if inb v1 (gln g 20 a4) then some ((gai g 20 a4 v1.toInt.toNat), g) else none
theorem t8_settingAt (v0 : Nat) (v1 : Int32) (g : GS_) : Cn_ yX8_settingAt cX8_settingAt 2 (some .int) 0 0 EI_ [.inr (8, some v0), .inl v1] g (f8_settingAt v0 v1 g) := by
  refine k_method (own := RX8) (ini := false) (L1 := [some (.inr (8, some v0)), some (.inl v1)]) (by decide +kernel) rfl (fun h => by cases h) (Nat.le_of_ble_eq_true rfl) rfl ?_
  unfold f8_settingAt
  refine k_iloadn (j := 1) dX8_settingAt_0 rfl rfl ?_
  refine k_iflt (tgt := 22) dX8_settingAt_1 (by decide) (fun _ => ?_) (fun _ => ?_)
  · refine k_msk (L' := [none, none]) [false, false] rfl ?_
    exact t8_settingAt_b22 g
  refine k_iloadn (j := 1) dX8_settingAt_4 rfl rfl ?_
  refine k_aloadn (j := 0) dX8_settingAt_5 rfl rfl ?_
  refine k_getr fg_8_46 rfl rfl dX8_settingAt_6 (fun x1 => ?_)
  rcases x1 with _ | a2
  · exact k_ocn
  refine k_ocs ?_
  refine k_alen dX8_settingAt_9 (by decide) ?_
  refine k_icmpge (tgt := 22) dX8_settingAt_10 (by decide) (fun _ => ?_) (fun _ => ?_)
  · refine k_msk (L' := [none, none]) [false, false] rfl ?_
    exact t8_settingAt_b22 g
  refine k_aloadn (j := 0) dX8_settingAt_13 rfl rfl ?_
  refine k_getr fg_8_46 rfl rfl dX8_settingAt_14 (fun x3 => ?_)
  refine k_iloadn (j := 1) dX8_settingAt_17 rfl rfl ?_
  rcases x3 with _ | a4
  · exact k_ocn
  refine k_ocs ?_
  refine k_iald dX8_settingAt_18 ?_
  refine k_goto (tgt := 23) dX8_settingAt_19 (by decide) ?_
  exact k_ireturn rfl dX8_settingAt_23
theorem dX4_init_0 : decode cX4_init 0 = .ok (.aload_n 0, 1) := by decide +kernel
theorem dX4_init_1 : decode cX4_init 1 = .ok (.invokespecial 3, 3) := by decide +kernel
theorem dX4_init_4 : decode cX4_init 4 = .ok (.aload_n 0, 1) := by decide +kernel
theorem dX4_init_5 : decode cX4_init 5 = .ok (.aload_n 1, 1) := by decide +kernel
theorem dX4_init_6 : decode cX4_init 6 = .ok (.putfield 9, 3) := by decide +kernel
theorem dX4_init_9 : decode cX4_init 9 = .ok (.aload_n 0, 1) := by decide +kernel
theorem dX4_init_10 : decode cX4_init 10 = .ok (.iload_n 2, 1) := by decide +kernel
theorem dX4_init_11 : decode cX4_init 11 = .ok (.putfield 15, 3) := by decide +kernel
theorem dX4_init_14 : decode cX4_init 14 = .ok (.aload_n 0, 1) := by decide +kernel
theorem dX4_init_15 : decode cX4_init 15 = .ok (.aload_n 3, 1) := by decide +kernel
theorem dX4_init_16 : decode cX4_init 16 = .ok (.putfield 19, 3) := by decide +kernel
theorem dX4_init_19 : decode cX4_init 19 = .ok (.aload_n 0, 1) := by decide +kernel
theorem dX4_init_20 : decode cX4_init 20 = .ok (.iconst 1, 1) := by decide +kernel
theorem dX4_init_21 : decode cX4_init 21 = .ok (.aload 4, 2) := by decide +kernel
theorem dX4_init_23 : decode cX4_init 23 = .ok (.iconst 0, 1) := by decide +kernel
theorem dX4_init_24 : decode cX4_init 24 = .ok (.invokevirtual 23, 3) := by decide +kernel
theorem dX4_init_27 : decode cX4_init 27 = .ok (.invokestatic 29, 3) := by decide +kernel
theorem dX4_init_30 : decode cX4_init 30 = .ok (.putfield 35, 3) := by decide +kernel
theorem dX4_init_33 : decode cX4_init 33 = .ok (.aload_n 0, 1) := by decide +kernel
theorem dX4_init_34 : decode cX4_init 34 = .ok (.aload 4, 2) := by decide +kernel
theorem dX4_init_36 : decode cX4_init 36 = .ok (.iconst 1, 1) := by decide +kernel
theorem dX4_init_37 : decode cX4_init 37 = .ok (.invokevirtual 23, 3) := by decide +kernel
theorem dX4_init_40 : decode cX4_init 40 = .ok (.putfield 38, 3) := by decide +kernel
theorem dX4_init_43 : decode cX4_init 43 = .ok (.aload_n 0, 1) := by decide +kernel
theorem dX4_init_44 : decode cX4_init 44 = .ok (.aload_n 1, 1) := by decide +kernel
theorem dX4_init_45 : decode cX4_init 45 = .ok (.getfield 41, 3) := by decide +kernel
theorem dX4_init_48 : decode cX4_init 48 = .ok (.iconst 2, 1) := by decide +kernel
theorem dX4_init_49 : decode cX4_init 49 = .ok (.if_icmp .ne 7, 3) := by decide +kernel
theorem dX4_init_52 : decode cX4_init 52 = .ok (.iconst 0, 1) := by decide +kernel
theorem dX4_init_53 : decode cX4_init 53 = .ok (.goto 9, 3) := by decide +kernel
theorem dX4_init_56 : decode cX4_init 56 = .ok (.aload 4, 2) := by decide +kernel
theorem dX4_init_58 : decode cX4_init 58 = .ok (.iconst 2, 1) := by decide +kernel
theorem dX4_init_59 : decode cX4_init 59 = .ok (.invokevirtual 23, 3) := by decide +kernel
theorem dX4_init_62 : decode cX4_init 62 = .ok (.putfield 46, 3) := by decide +kernel
theorem dX4_init_65 : decode cX4_init 65 = .ok (.aload_n 0, 1) := by decide +kernel
theorem dX4_init_66 : decode cX4_init 66 = .ok (.aload 4, 2) := by decide +kernel
theorem dX4_init_68 : decode cX4_init 68 = .ok (.iconst 3, 1) := by decide +kernel
theorem dX4_init_69 : decode cX4_init 69 = .ok (.invokevirtual 23, 3) := by decide +kernel
theorem dX4_init_72 : decode cX4_init 72 = .ok (.putfield 49, 3) := by decide +kernel
theorem dX4_init_75 : decode cX4_init 75 = .ok (.aload_n 0, 1) := by decide +kernel
theorem dX4_init_76 : decode cX4_init 76 = .ok (.aload 4, 2) := by decide +kernel
theorem dX4_init_78 : decode cX4_init 78 = .ok (.iconst 5, 1) := by decide +kernel
theorem dX4_init_79 : decode cX4_init 79 = .ok (.invokevirtual 23, 3) := by decide +kernel
theorem dX4_init_82 : decode cX4_init 82 = .ok (.putfield 52, 3) := by decide +kernel
theorem dX4_init_85 : decode cX4_init 85 = .ok (.aload_n 0, 1) := by decide +kernel
theorem dX4_init_86 : decode cX4_init 86 = .ok (.aload_n 0, 1) := by decide +kernel
theorem dX4_init_87 : decode cX4_init 87 = .ok (.getfield 49, 3) := by decide +kernel
theorem dX4_init_90 : decode cX4_init 90 = .ok (.ifCond .ne 7, 3) := by decide +kernel
theorem dX4_init_93 : decode cX4_init 93 = .ok (.iconst 1, 1) := by decide +kernel
theorem dX4_init_94 : decode cX4_init 94 = .ok (.goto 4, 3) := by decide +kernel
theorem dX4_init_97 : decode cX4_init 97 = .ok (.iconst 0, 1) := by decide +kernel
theorem dX4_init_98 : decode cX4_init 98 = .ok (.putfield 55, 3) := by decide +kernel
theorem dX4_init_101 : decode cX4_init 101 = .ok (.aload_n 0, 1) := by decide +kernel
theorem dX4_init_102 : decode cX4_init 102 = .ok (.aload_n 0, 1) := by decide +kernel
theorem dX4_init_103 : decode cX4_init 103 = .ok (.getfield 55, 3) := by decide +kernel
theorem dX4_init_106 : decode cX4_init 106 = .ok (.ifCond .ne 10, 3) := by decide +kernel
theorem dX4_init_109 : decode cX4_init 109 = .ok (.aload_n 0, 1) := by decide +kernel
theorem dX4_init_110 : decode cX4_init 110 = .ok (.getfield 46, 3) := by decide +kernel
theorem dX4_init_113 : decode cX4_init 113 = .ok (.ifCond .eq 7, 3) := by decide +kernel
theorem dX4_init_116 : decode cX4_init 116 = .ok (.iconst 1, 1) := by decide +kernel
theorem dX4_init_117 : decode cX4_init 117 = .ok (.goto 4, 3) := by decide +kernel
theorem dX4_init_120 : decode cX4_init 120 = .ok (.iconst 0, 1) := by decide +kernel
theorem dX4_init_121 : decode cX4_init 121 = .ok (.putfield 59, 3) := by decide +kernel
theorem dX4_init_124 : decode cX4_init 124 = .ok (.aload_n 0, 1) := by decide +kernel
theorem dX4_init_125 : decode cX4_init 125 = .ok (.aload_n 0, 1) := by decide +kernel
theorem dX4_init_126 : decode cX4_init 126 = .ok (.getfield 55, 3) := by decide +kernel
theorem dX4_init_129 : decode cX4_init 129 = .ok (.ifCond .eq 7, 3) := by decide +kernel
theorem dX4_init_132 : decode cX4_init 132 = .ok (.iconst 2, 1) := by decide +kernel
theorem dX4_init_133 : decode cX4_init 133 = .ok (.goto 11, 3) := by decide +kernel
theorem dX4_init_136 : decode cX4_init 136 = .ok (.iconst 1, 1) := by decide +kernel
theorem dX4_init_137 : decode cX4_init 137 = .ok (.aload_n 0, 1) := by decide +kernel
theorem dX4_init_138 : decode cX4_init 138 = .ok (.getfield 49, 3) := by decide +kernel
theorem dX4_init_141 : decode cX4_init 141 = .ok (.invokestatic 29, 3) := by decide +kernel
theorem dX4_init_144 : decode cX4_init 144 = .ok (.putfield 62, 3) := by decide +kernel
theorem dX4_init_147 : decode cX4_init 147 = .ok (.aload_n 3, 1) := by decide +kernel
theorem dX4_init_148 : decode cX4_init 148 = .ok (.arraylength, 1) := by decide +kernel
theorem dX4_init_149 : decode cX4_init 149 = .ok (.aload_n 0, 1) := by decide +kernel
theorem dX4_init_150 : decode cX4_init 150 = .ok (.getfield 62, 3) := by decide +kernel
theorem dX4_init_153 : decode cX4_init 153 = .ok (.iadd, 1) := by decide +kernel
theorem dX4_init_154 : decode cX4_init 154 = .ok (.iconst 1, 1) := by decide +kernel
theorem dX4_init_155 : decode cX4_init 155 = .ok (.isub, 1) := by decide +kernel
theorem dX4_init_156 : decode cX4_init 156 = .ok (.aload_n 0, 1) := by decide +kernel
theorem dX4_init_157 : decode cX4_init 157 = .ok (.getfield 62, 3) := by decide +kernel
theorem dX4_init_160 : decode cX4_init 160 = .ok (.idiv, 1) := by decide +kernel
theorem dX4_init_161 : decode cX4_init 161 = .ok (.istore 5, 2) := by decide +kernel
theorem dX4_init_163 : decode cX4_init 163 = .ok (.aload_n 0, 1) := by decide +kernel
theorem dX4_init_164 : decode cX4_init 164 = .ok (.aload_n 0, 1) := by decide +kernel
theorem dX4_init_165 : decode cX4_init 165 = .ok (.getfield 55, 3) := by decide +kernel
theorem dX4_init_168 : decode cX4_init 168 = .ok (.ifCond .eq 12, 3) := by decide +kernel
theorem dX4_init_171 : decode cX4_init 171 = .ok (.aload_n 3, 1) := by decide +kernel
theorem dX4_init_172 : decode cX4_init 172 = .ok (.arraylength, 1) := by decide +kernel
theorem dX4_init_173 : decode cX4_init 173 = .ok (.iconst 3, 1) := by decide +kernel
theorem dX4_init_174 : decode cX4_init 174 = .ok (.iadd, 1) := by decide +kernel
theorem dX4_init_175 : decode cX4_init 175 = .ok (.iconst 4, 1) := by decide +kernel
theorem dX4_init_176 : decode cX4_init 176 = .ok (.idiv, 1) := by decide +kernel
theorem dX4_init_177 : decode cX4_init 177 = .ok (.goto 21, 3) := by decide +kernel
theorem dX4_init_180 : decode cX4_init 180 = .ok (.aload_n 0, 1) := by decide +kernel
theorem dX4_init_181 : decode cX4_init 181 = .ok (.getfield 59, 3) := by decide +kernel
theorem dX4_init_184 : decode cX4_init 184 = .ok (.ifCond .eq 12, 3) := by decide +kernel
theorem dX4_init_187 : decode cX4_init 187 = .ok (.iload 5, 2) := by decide +kernel
theorem dX4_init_189 : decode cX4_init 189 = .ok (.iconst 1, 1) := by decide +kernel
theorem dX4_init_190 : decode cX4_init 190 = .ok (.iadd, 1) := by decide +kernel
theorem dX4_init_191 : decode cX4_init 191 = .ok (.iconst 2, 1) := by decide +kernel
theorem dX4_init_192 : decode cX4_init 192 = .ok (.idiv, 1) := by decide +kernel
theorem dX4_init_193 : decode cX4_init 193 = .ok (.goto 5, 3) := by decide +kernel
theorem dX4_init_196 : decode cX4_init 196 = .ok (.iload 5, 2) := by decide +kernel
theorem dX4_init_198 : decode cX4_init 198 = .ok (.putfield 65, 3) := by decide +kernel
theorem dX4_init_201 : decode cX4_init 201 = .ok (.aload_n 0, 1) := by decide +kernel
theorem dX4_init_202 : decode cX4_init 202 = .ok (.iconst 0, 1) := by decide +kernel
theorem dX4_init_203 : decode cX4_init 203 = .ok (.aload_n 0, 1) := by decide +kernel
theorem dX4_init_204 : decode cX4_init 204 = .ok (.getfield 59, 3) := by decide +kernel
theorem dX4_init_207 : decode cX4_init 207 = .ok (.ifCond .eq 12, 3) := by decide +kernel
theorem dX4_init_210 : decode cX4_init 210 = .ok (.iconst 2, 1) := by decide +kernel
theorem dX4_init_211 : decode cX4_init 211 = .ok (.aload_n 0, 1) := by decide +kernel
theorem dX4_init_212 : decode cX4_init 212 = .ok (.getfield 65, 3) := by decide +kernel
theorem dX4_init_215 : decode cX4_init 215 = .ok (.imul, 1) := by decide +kernel
theorem dX4_init_216 : decode cX4_init 216 = .ok (.goto 7, 3) := by decide +kernel
theorem dX4_init_219 : decode cX4_init 219 = .ok (.aload_n 0, 1) := by decide +kernel
theorem dX4_init_220 : decode cX4_init 220 = .ok (.getfield 65, 3) := by decide +kernel
theorem dX4_init_223 : decode cX4_init 223 = .ok (.invokestatic 29, 3) := by decide +kernel
theorem dX4_init_226 : decode cX4_init 226 = .ok (.newarray .int, 2) := by decide +kernel
theorem dX4_init_228 : decode cX4_init 228 = .ok (.putfield 68, 3) := by decide +kernel
theorem dX4_init_231 : decode cX4_init 231 = .ok (.iconst 0, 1) := by decide +kernel
theorem dX4_init_232 : decode cX4_init 232 = .ok (.istore 6, 2) := by decide +kernel
theorem dX4_init_234 : decode cX4_init 234 = .ok (.iload 6, 2) := by decide +kernel
theorem dX4_init_236 : decode cX4_init 236 = .ok (.aload_n 0, 1) := by decide +kernel
theorem dX4_init_237 : decode cX4_init 237 = .ok (.getfield 68, 3) := by decide +kernel
theorem dX4_init_240 : decode cX4_init 240 = .ok (.arraylength, 1) := by decide +kernel
theorem dX4_init_241 : decode cX4_init 241 = .ok (.if_icmp .ge 45, 3) := by decide +kernel
theorem dX4_init_244 : decode cX4_init 244 = .ok (.aload_n 0, 1) := by decide +kernel
theorem dX4_init_245 : decode cX4_init 245 = .ok (.getfield 68, 3) := by decide +kernel
theorem dX4_init_248 : decode cX4_init 248 = .ok (.iload 6, 2) := by decide +kernel
theorem dX4_init_250 : decode cX4_init 250 = .ok (.aload_n 0, 1) := by decide +kernel
theorem dX4_init_251 : decode cX4_init 251 = .ok (.getfield 59, 3) := by decide +kernel
theorem dX4_init_254 : decode cX4_init 254 = .ok (.ifCond .eq 18, 3) := by decide +kernel
theorem dX4_init_257 : decode cX4_init 257 = .ok (.aload_n 0, 1) := by decide +kernel
theorem dX4_init_258 : decode cX4_init 258 = .ok (.iload 6, 2) := by decide +kernel
theorem dX4_init_260 : decode cX4_init 260 = .ok (.iconst 2, 1) := by decide +kernel
theorem dX4_init_261 : decode cX4_init 261 = .ok (.idiv, 1) := by decide +kernel
theorem dX4_init_262 : decode cX4_init 262 = .ok (.iload 6, 2) := by decide +kernel
theorem dX4_init_264 : decode cX4_init 264 = .ok (.iconst 2, 1) := by decide +kernel
theorem dX4_init_265 : decode cX4_init 265 = .ok (.irem, 1) := by decide +kernel
theorem dX4_init_266 : decode cX4_init 266 = .ok (.invokevirtual 71, 3) := by decide +kernel
theorem dX4_init_269 : decode cX4_init 269 = .ok (.goto 10, 3) := by decide +kernel
theorem dX4_init_272 : decode cX4_init 272 = .ok (.aload_n 0, 1) := by decide +kernel
theorem dX4_init_273 : decode cX4_init 273 = .ok (.iload 6, 2) := by decide +kernel
theorem dX4_init_275 : decode cX4_init 275 = .ok (.iconst 0, 1) := by decide +kernel
theorem dX4_init_276 : decode cX4_init 276 = .ok (.invokevirtual 71, 3) := by decide +kernel
theorem dX4_init_279 : decode cX4_init 279 = .ok (.iastore, 1) := by decide +kernel
theorem dX4_init_280 : decode cX4_init 280 = .ok (.iinc 6 1, 3) := by decide +kernel
theorem dX4_init_283 : decode cX4_init 283 = .ok (.goto (-49), 3) := by decide +kernel
theorem dX4_init_286 : decode cX4_init 286 = .ok (.return_, 1) := by decide +kernel
def f4_init_b279 (c234 : Nat → Int32 → GS_ → Option (Unit × GS_)) (v0 : Nat) (v6 : Int32) (s0 : Option Nat) (s1 : Int32) (s2 : Int32) (g : GS_) : Option (Unit × GS_) :=
  oc_ s0 none fun a1 => if inb s1 (gln g 20 a1) then lr_ (sai g 20 a1 s1.toInt.toNat s2) (fun g2 => c234 v0 (v6 + (1 : Int32)) g2) else none
theorem t4_init_b279 (c234 : Nat → Int32 → GS_ → Option (Unit × GS_)) (h234 : ∀ (v0 : Nat) (v6 : Int32) (g : GS_), K_ RX4 cX4_init 7 none 3 75 true EV_ 234 [some (.inr (4, some v0)), none, none, none, none, none, some (.inl v6)] [] g (c234 v0 v6 g)) (v0 : Nat) (v6 : Int32) (s0 : Option Nat) (s1 : Int32) (s2 : Int32) (g : GS_) : K_ RX4 cX4_init 7 none 3 75 true EV_ 279 [some (.inr (4, some v0)), none, none, none, none, none, some (.inl v6)] [.inl s2, .inl s1, .inr (20, s0)] g (f4_init_b279 c234 v0 v6 s0 s1 s2 g) := by
  unfold f4_init_b279
  rcases s0 with _ | a1
  · exact k_ocn
  refine k_ocs ?_
  refine k_iast dX4_init_279 (fun g2 => ?_)
  refine k_iinc (v := (v6 + (1 : Int32))) (L' := [some (.inr (4, some v0)), none, none, none, none, none, some (.inl (v6 + (1 : Int32)))]) dX4_init_280 rfl rfl (by decide) rfl ?_
  refine k_goto (tgt := 234) dX4_init_283 (by decide) ?_
  exact h234 v0 (v6 + (1 : Int32)) g2
def f4_init_b234 : Nat → Nat → Int32 → GS_ → Option (Unit × GS_)
  | 0, _, _, _ => none
  | n + 1, v0, v6, g =>
    lr_ (gfr g 140 v0) fun x3 => oc_ x3 none fun a4 => if (Int32.ofNat (gln g 20 a4)) ≤ v6 then some ((), g) else lr_ (gfr g 140 v0) fun x5 => if (gfi g 137 v0) = 0 then bd_ (f4_loadOfPages v0 v6 (0 : Int32) g) fun z7 g6 => f4_init_b279 (f4_init_b234 n) v0 v6 x5 v6 z7 g6 else bd_ (f4_loadOfPages v0 (v6 / (2 : Int32)) (jrem v6 (2 : Int32)) g) fun z9 g8 => f4_init_b279 (f4_init_b234 n) v0 v6 x5 v6 z9 g8
theorem t4_init_b234 : ∀ (n : Nat) (v0 : Nat) (v6 : Int32) (g : GS_), K_ RX4 cX4_init 7 none 3 75 true EV_ 234 [some (.inr (4, some v0)), none, none, none, none, none, some (.inl v6)] [] g (f4_init_b234 n v0 v6 g) := by
  intro n
  induction n with
  | zero =>
    intro v0 v6 g
    exact k_fail
  | succ n ih =>
    intro v0 v6 g
    show K_ RX4 cX4_init 7 none 3 75 true EV_ 234 [some (.inr (4, some v0)), none, none, none, none, none, some (.inl v6)] [] g (lr_ (gfr g 140 v0) fun x3 => oc_ x3 none fun a4 => if (Int32.ofNat (gln g 20 a4)) ≤ v6 then some ((), g) else lr_ (gfr g 140 v0) fun x5 => if (gfi g 137 v0) = 0 then bd_ (f4_loadOfPages v0 v6 (0 : Int32) g) fun z7 g6 => f4_init_b279 (f4_init_b234 n) v0 v6 x5 v6 z7 g6 else bd_ (f4_loadOfPages v0 (v6 / (2 : Int32)) (jrem v6 (2 : Int32)) g) fun z9 g8 => f4_init_b279 (f4_init_b234 n) v0 v6 x5 v6 z9 g8)
    refine k_iload dX4_init_234 rfl ?_
    refine k_aloadn (j := 0) dX4_init_236 rfl rfl ?_
    refine k_getr fg_4_68 rfl rfl dX4_init_237 (fun x3 => ?_)
    rcases x3 with _ | a4
    · exact k_ocn
    refine k_ocs ?_
    refine k_alen dX4_init_240 (by decide) ?_
    refine k_icmpge (tgt := 286) dX4_init_241 (by decide) (fun _ => ?_) (fun _ => ?_)
    · exact k_return rfl dX4_init_286
    refine k_aloadn (j := 0) dX4_init_244 rfl rfl ?_
    refine k_getr fg_4_68 rfl rfl dX4_init_245 (fun x5 => ?_)
    refine k_iload dX4_init_248 rfl ?_
    refine k_aloadn (j := 0) dX4_init_250 rfl rfl ?_
    refine k_geti fg_4_59 rfl rfl dX4_init_251 ?_
    refine k_ifeq (tgt := 272) dX4_init_254 (by decide) (fun _ => ?_) (fun _ => ?_)
    · refine k_aloadn (j := 0) dX4_init_272 rfl rfl ?_
      refine k_iload dX4_init_273 rfl ?_
      refine k_iconst (v := (0 : Int32)) dX4_init_275 rfl ?_
      refine k_callVi [.inl v6, .inl (0 : Int32)] (t4_loadOfPages v0 v6 (0 : Int32) g) cw_cX4_loadOfPages (Or.inl ml_4_71) rfl rfl (by decide) (by decide) (Nat.le_of_ble_eq_true rfl) dX4_init_276 (fun z7 g6 => ?_)
      exact t4_init_b279 (f4_init_b234 n) ih v0 v6 x5 v6 z7 g6
    refine k_aloadn (j := 0) dX4_init_257 rfl rfl ?_
    refine k_iload dX4_init_258 rfl ?_
    refine k_iconst (v := (2 : Int32)) dX4_init_260 rfl ?_
    refine k_idivc (by decide) dX4_init_261 ?_
    refine k_iload dX4_init_262 rfl ?_
    refine k_iconst (v := (2 : Int32)) dX4_init_264 rfl ?_
    refine k_iremc (by decide) dX4_init_265 ?_
    refine k_callVi [.inl (v6 / (2 : Int32)), .inl (jrem v6 (2 : Int32))] (t4_loadOfPages v0 (v6 / (2 : Int32)) (jrem v6 (2 : Int32)) g) cw_cX4_loadOfPages (Or.inl ml_4_71) rfl rfl (by decide) (by decide) (Nat.le_of_ble_eq_true rfl) dX4_init_266 (fun z9 g8 => ?_)
    refine k_goto (tgt := 279) dX4_init_269 (by decide) ?_
    exact t4_init_b279 (f4_init_b234 n) ih v0 v6 x5 v6 z9 g8
def f4_init_b223 (v0 : Nat) (s0 : Nat) (s1 : Int32) (s2 : Int32) (g : GS_) : Option (Unit × GS_) :=
  na_ g 20 (jmax s1 s2) fun a10 g11 => lr_ (sfr g11 140 s0 (some a10)) fun g12 => f4_init_b234 FU_ v0 (0 : Int32) g12
theorem t4_init_b223 (v0 : Nat) (s0 : Nat) (s1 : Int32) (s2 : Int32) (g : GS_) : K_ RX4 cX4_init 7 none 3 75 true EV_ 223 [some (.inr (4, some v0)), none, none, none, none, none, none] [.inl s2, .inl s1, .inr (4, some s0)] g (f4_init_b223 v0 s0 s1 s2 g) := by
  unfold f4_init_b223
  refine k_max mw_max ml_4_29 (by decide) (Nat.le_of_ble_eq_true rfl) dX4_init_223 ?_
  refine k_newa ac_20 dX4_init_226 (fun a10 g11 => ?_)
  refine k_putfr fp_4_68 ty_arr rfl rfl rfl dX4_init_228 (fun g12 => ?_)
  refine k_iconst (v := (0 : Int32)) dX4_init_231 rfl ?_
  refine k_ist (L' := [some (.inr (4, some v0)), none, none, none, none, none, some (.inl (0 : Int32))]) dX4_init_232 (by decide) rfl ?_
  exact t4_init_b234 FU_ v0 (0 : Int32) g12
def f4_init_b198 (v0 : Nat) (s0 : Nat) (s1 : Int32) (g : GS_) : Option (Unit × GS_) :=
  lr_ (sfi g 139 s0 s1) fun g13 => if (gfi g13 137 v0) = 0 then f4_init_b223 v0 v0 (0 : Int32) (gfi g13 139 v0) g13 else f4_init_b223 v0 v0 (0 : Int32) ((2 : Int32) * (gfi g13 139 v0)) g13
theorem t4_init_b198 (v0 : Nat) (s0 : Nat) (s1 : Int32) (g : GS_) : K_ RX4 cX4_init 7 none 3 75 true EV_ 198 [some (.inr (4, some v0)), none, none, none, none, none, none] [.inl s1, .inr (4, some s0)] g (f4_init_b198 v0 s0 s1 g) := by
  unfold f4_init_b198
  refine k_putfi fp_4_65 rfl rfl rfl dX4_init_198 (fun g13 => ?_)
  refine k_aloadn (j := 0) dX4_init_201 rfl rfl ?_
  refine k_iconst (v := (0 : Int32)) dX4_init_202 rfl ?_
  refine k_aloadn (j := 0) dX4_init_203 rfl rfl ?_
  refine k_geti fg_4_59 rfl rfl dX4_init_204 ?_
  refine k_ifeq (tgt := 219) dX4_init_207 (by decide) (fun _ => ?_) (fun _ => ?_)
  · refine k_aloadn (j := 0) dX4_init_219 rfl rfl ?_
    refine k_geti fg_4_65 rfl rfl dX4_init_220 ?_
    exact t4_init_b223 v0 v0 (0 : Int32) (gfi g13 139 v0) g13
  refine k_iconst (v := (2 : Int32)) dX4_init_210 rfl ?_
  refine k_aloadn (j := 0) dX4_init_211 rfl rfl ?_
  refine k_geti fg_4_65 rfl rfl dX4_init_212 ?_
  refine k_imul dX4_init_215 ?_
  refine k_goto (tgt := 223) dX4_init_216 (by decide) ?_
  exact t4_init_b223 v0 v0 (0 : Int32) ((2 : Int32) * (gfi g13 139 v0)) g13
def f4_init_b144 (v0 : Nat) (v3 : Option Nat) (s0 : Nat) (s1 : Int32) (g : GS_) : Option (Unit × GS_) :=
  lr_ (sfi g 138 s0 s1) fun g14 => oc_ v3 none fun a15 => if (gfi g14 138 v0) = 0 then none else lr_ ((((Int32.ofNat (gln g14 20 a15)) + (gfi g14 138 v0)) - (1 : Int32)) / (gfi g14 138 v0)) fun z16 => if (gfi g14 136 v0) = 0 then if (gfi g14 137 v0) = 0 then f4_init_b198 v0 v0 z16 g14 else f4_init_b198 v0 v0 ((z16 + (1 : Int32)) / (2 : Int32)) g14 else f4_init_b198 v0 v0 (((Int32.ofNat (gln g14 20 a15)) + (3 : Int32)) / (4 : Int32)) g14
theorem t4_init_b144 (v0 : Nat) (v3 : Option Nat) (s0 : Nat) (s1 : Int32) (g : GS_) : K_ RX4 cX4_init 7 none 3 75 true EV_ 144 [some (.inr (4, some v0)), none, none, some (.inr (20, v3)), none, none, none] [.inl s1, .inr (4, some s0)] g (f4_init_b144 v0 v3 s0 s1 g) := by
  unfold f4_init_b144
  refine k_putfi fp_4_62 rfl rfl rfl dX4_init_144 (fun g14 => ?_)
  refine k_aloadn (j := 3) dX4_init_147 rfl rfl ?_
  rcases v3 with _ | a15
  · exact k_ocn
  refine k_ocs ?_
  refine k_alen dX4_init_148 (by decide) ?_
  refine k_aloadn (j := 0) dX4_init_149 rfl rfl ?_
  refine k_geti fg_4_62 rfl rfl dX4_init_150 ?_
  refine k_iadd dX4_init_153 ?_
  refine k_iconst (v := (1 : Int32)) dX4_init_154 rfl ?_
  refine k_isub dX4_init_155 ?_
  refine k_aloadn (j := 0) dX4_init_156 rfl rfl ?_
  refine k_geti fg_4_62 rfl rfl dX4_init_157 ?_
  refine k_idiv dX4_init_160 (fun _ => ?_)
  refine k_istl (L2 := fun z16 => [some (.inr (4, some v0)), none, none, some (.inr (20, some a15)), none, some (.inl z16), none]) dX4_init_161 (by decide) (fun _ => rfl) (fun z16 => ?_)
  refine k_aloadn (j := 0) dX4_init_163 rfl rfl ?_
  refine k_aloadn (j := 0) dX4_init_164 rfl rfl ?_
  refine k_geti fg_4_55 rfl rfl dX4_init_165 ?_
  refine k_ifeq (tgt := 180) dX4_init_168 (by decide) (fun _ => ?_) (fun _ => ?_)
  · refine k_aloadn (j := 0) dX4_init_180 rfl rfl ?_
    refine k_geti fg_4_59 rfl rfl dX4_init_181 ?_
    refine k_ifeq (tgt := 196) dX4_init_184 (by decide) (fun _ => ?_) (fun _ => ?_)
    · refine k_iload dX4_init_196 rfl ?_
      refine k_msk (L' := [some (.inr (4, some v0)), none, none, none, none, none, none]) [true, true, true, false, true, false, true] rfl ?_
      exact t4_init_b198 v0 v0 z16 g14
    refine k_iload dX4_init_187 rfl ?_
    refine k_iconst (v := (1 : Int32)) dX4_init_189 rfl ?_
    refine k_iadd dX4_init_190 ?_
    refine k_iconst (v := (2 : Int32)) dX4_init_191 rfl ?_
    refine k_idivc (by decide) dX4_init_192 ?_
    refine k_goto (tgt := 198) dX4_init_193 (by decide) ?_
    refine k_msk (L' := [some (.inr (4, some v0)), none, none, none, none, none, none]) [true, true, true, false, true, false, true] rfl ?_
    exact t4_init_b198 v0 v0 ((z16 + (1 : Int32)) / (2 : Int32)) g14
  refine k_aloadn (j := 3) dX4_init_171 rfl rfl ?_
  refine k_alen dX4_init_172 (by decide) ?_
  refine k_iconst (v := (3 : Int32)) dX4_init_173 rfl ?_
  refine k_iadd dX4_init_174 ?_
  refine k_iconst (v := (4 : Int32)) dX4_init_175 rfl ?_
  refine k_idivc (by decide) dX4_init_176 ?_
  refine k_goto (tgt := 198) dX4_init_177 (by decide) ?_
  refine k_msk (L' := [some (.inr (4, some v0)), none, none, none, none, none, none]) [true, true, true, false, true, false, true] rfl ?_
  exact t4_init_b198 v0 v0 (((Int32.ofNat (gln g14 20 a15)) + (3 : Int32)) / (4 : Int32)) g14
def f4_init_b121 (v0 : Nat) (v3 : Option Nat) (s0 : Nat) (s1 : Int32) (g : GS_) : Option (Unit × GS_) :=
  if s1 = 0 ∨ s1 = 1 then lr_ (sfi g 137 s0 s1) (fun g17 => if (gfi g17 136 v0) = 0 then f4_init_b144 v0 v3 v0 (jmax (1 : Int32) (gfi g17 134 v0)) g17 else f4_init_b144 v0 v3 v0 (2 : Int32) g17) else none
theorem t4_init_b121 (v0 : Nat) (v3 : Option Nat) (s0 : Nat) (s1 : Int32) (g : GS_) : K_ RX4 cX4_init 7 none 3 75 true EV_ 121 [some (.inr (4, some v0)), none, none, some (.inr (20, v3)), none, none, none] [.inl s1, .inr (4, some s0)] g (f4_init_b121 v0 v3 s0 s1 g) := by
  unfold f4_init_b121
  refine k_putfzc fp_4_59 rfl rfl rfl dX4_init_121 (fun g17 => ?_)
  refine k_aloadn (j := 0) dX4_init_124 rfl rfl ?_
  refine k_aloadn (j := 0) dX4_init_125 rfl rfl ?_
  refine k_geti fg_4_55 rfl rfl dX4_init_126 ?_
  refine k_ifeq (tgt := 136) dX4_init_129 (by decide) (fun _ => ?_) (fun _ => ?_)
  · refine k_iconst (v := (1 : Int32)) dX4_init_136 rfl ?_
    refine k_aloadn (j := 0) dX4_init_137 rfl rfl ?_
    refine k_geti fg_4_49 rfl rfl dX4_init_138 ?_
    refine k_max mw_max ml_4_29 (by decide) (Nat.le_of_ble_eq_true rfl) dX4_init_141 ?_
    exact t4_init_b144 v0 v3 v0 (jmax (1 : Int32) (gfi g17 134 v0)) g17
  refine k_iconst (v := (2 : Int32)) dX4_init_132 rfl ?_
  refine k_goto (tgt := 144) dX4_init_133 (by decide) ?_
  exact t4_init_b144 v0 v3 v0 (2 : Int32) g17
def f4_init_b116 (v0 : Nat) (v3 : Option Nat) (s0 : Nat) (g : GS_) : Option (Unit × GS_) :=
  f4_init_b121 v0 v3 s0 (1 : Int32) g
theorem t4_init_b116 (v0 : Nat) (v3 : Option Nat) (s0 : Nat) (g : GS_) : K_ RX4 cX4_init 7 none 3 75 true EV_ 116 [some (.inr (4, some v0)), none, none, some (.inr (20, v3)), none, none, none] [.inr (4, some s0)] g (f4_init_b116 v0 v3 s0 g) := by
  unfold f4_init_b116
  refine k_iconst (v := (1 : Int32)) dX4_init_116 rfl ?_
  refine k_goto (tgt := 121) dX4_init_117 (by decide) ?_
  exact t4_init_b121 v0 v3 s0 (1 : Int32) g
def f4_init_b98 (v0 : Nat) (v3 : Option Nat) (s0 : Nat) (s1 : Int32) (g : GS_) : Option (Unit × GS_) :=
  if s1 = 0 ∨ s1 = 1 then lr_ (sfi g 136 s0 s1) (fun g18 => if (gfi g18 136 v0) = 0 then if (gfi g18 133 v0) = 0 then f4_init_b121 v0 v3 v0 (0 : Int32) g18 else f4_init_b116 v0 v3 v0 g18 else f4_init_b116 v0 v3 v0 g18) else none
theorem t4_init_b98 (v0 : Nat) (v3 : Option Nat) (s0 : Nat) (s1 : Int32) (g : GS_) : K_ RX4 cX4_init 7 none 3 75 true EV_ 98 [some (.inr (4, some v0)), none, none, some (.inr (20, v3)), none, none, none] [.inl s1, .inr (4, some s0)] g (f4_init_b98 v0 v3 s0 s1 g) := by
  unfold f4_init_b98
  refine k_putfzc fp_4_55 rfl rfl rfl dX4_init_98 (fun g18 => ?_)
  refine k_aloadn (j := 0) dX4_init_101 rfl rfl ?_
  refine k_aloadn (j := 0) dX4_init_102 rfl rfl ?_
  refine k_geti fg_4_55 rfl rfl dX4_init_103 ?_
  refine k_ifne (tgt := 116) dX4_init_106 (by decide) (fun _ => ?_) (fun _ => ?_)
  · refine k_aloadn (j := 0) dX4_init_109 rfl rfl ?_
    refine k_geti fg_4_46 rfl rfl dX4_init_110 ?_
    refine k_ifeq (tgt := 120) dX4_init_113 (by decide) (fun _ => ?_) (fun _ => ?_)
    · refine k_iconst (v := (0 : Int32)) dX4_init_120 rfl ?_
      exact t4_init_b121 v0 v3 v0 (0 : Int32) g18
    exact t4_init_b116 v0 v3 v0 g18
  exact t4_init_b116 v0 v3 v0 g18
def f4_init_b62 (v0 : Nat) (v3 : Option Nat) (v4 : Option Nat) (s0 : Nat) (s1 : Int32) (g : GS_) : Option (Unit × GS_) :=
  lr_ (sfi g 133 s0 s1) fun g19 => oc_ v4 none fun a20 => bd_ (f8_settingAt a20 (3 : Int32) g19) fun z22 g21 => lr_ (sfi g21 134 v0 z22) fun g23 => bd_ (f8_settingAt a20 (5 : Int32) g23) fun z25 g24 => lr_ (sfi g24 135 v0 z25) fun g26 => if (gfi g26 134 v0) = 0 then f4_init_b98 v0 v3 v0 (1 : Int32) g26 else f4_init_b98 v0 v3 v0 (0 : Int32) g26
theorem t4_init_b62 (v0 : Nat) (v3 : Option Nat) (v4 : Option Nat) (s0 : Nat) (s1 : Int32) (g : GS_) : K_ RX4 cX4_init 7 none 3 75 true EV_ 62 [some (.inr (4, some v0)), none, none, some (.inr (20, v3)), some (.inr (8, v4)), none, none] [.inl s1, .inr (4, some s0)] g (f4_init_b62 v0 v3 v4 s0 s1 g) := by
  unfold f4_init_b62
  refine k_putfi fp_4_46 rfl rfl rfl dX4_init_62 (fun g19 => ?_)
  refine k_aloadn (j := 0) dX4_init_65 rfl rfl ?_
  refine k_aload dX4_init_66 rfl ?_
  refine k_iconst (v := (3 : Int32)) dX4_init_68 rfl ?_
  rcases v4 with _ | a20
  · exact k_ocn
  refine k_ocs ?_
  refine k_callVi [.inl (3 : Int32)] (t8_settingAt a20 (3 : Int32) g19) cw_cX8_settingAt (Or.inl ml_4_23) rfl rfl (by decide) (by decide) (Nat.le_of_ble_eq_true rfl) dX4_init_69 (fun z22 g21 => ?_)
  refine k_putfi fp_4_49 rfl rfl rfl dX4_init_72 (fun g23 => ?_)
  refine k_aloadn (j := 0) dX4_init_75 rfl rfl ?_
  refine k_aload dX4_init_76 rfl ?_
  refine k_iconst (v := (5 : Int32)) dX4_init_78 rfl ?_
  refine k_callVi [.inl (5 : Int32)] (t8_settingAt a20 (5 : Int32) g23) cw_cX8_settingAt (Or.inl ml_4_23) rfl rfl (by decide) (by decide) (Nat.le_of_ble_eq_true rfl) dX4_init_79 (fun z25 g24 => ?_)
  refine k_putfi fp_4_52 rfl rfl rfl dX4_init_82 (fun g26 => ?_)
  refine k_aloadn (j := 0) dX4_init_85 rfl rfl ?_
  refine k_aloadn (j := 0) dX4_init_86 rfl rfl ?_
  refine k_geti fg_4_49 rfl rfl dX4_init_87 ?_
  refine k_ifne (tgt := 97) dX4_init_90 (by decide) (fun _ => ?_) (fun _ => ?_)
  · refine k_iconst (v := (1 : Int32)) dX4_init_93 rfl ?_
    refine k_goto (tgt := 98) dX4_init_94 (by decide) ?_
    refine k_msk (L' := [some (.inr (4, some v0)), none, none, some (.inr (20, v3)), none, none, none]) [true, true, true, true, false, true, true] rfl ?_
    exact t4_init_b98 v0 v3 v0 (1 : Int32) g26
  refine k_iconst (v := (0 : Int32)) dX4_init_97 rfl ?_
  refine k_msk (L' := [some (.inr (4, some v0)), none, none, some (.inr (20, v3)), none, none, none]) [true, true, true, true, false, true, true] rfl ?_
  exact t4_init_b98 v0 v3 v0 (0 : Int32) g26
def f4_init (v0 : Nat) (v1 : Option Nat) (v2 : Int32) (v3 : Option Nat) (v4 : Option Nat) (g : GS_) : Option (Unit × GS_) :=
  lr_ (sfr g 128 v0 v1) fun g27 => lr_ (sfi g27 129 v0 v2) fun g28 => lr_ (sfr g28 130 v0 v3) fun g29 => oc_ v4 none fun a30 => bd_ (f8_settingAt a30 (0 : Int32) g29) fun z32 g31 => lr_ (sfi g31 131 v0 (jmax (1 : Int32) z32)) fun g33 => bd_ (f8_settingAt a30 (1 : Int32) g33) fun z35 g34 => lr_ (sfi g34 132 v0 z35) fun g36 => oc_ v1 none fun a37 => if (gfi g36 1 a37) = (2 : Int32) then f4_init_b62 v0 v3 (some a30) v0 (0 : Int32) g36 else bd_ (f8_settingAt a30 (2 : Int32) g36) fun z39 g38 => f4_init_b62 v0 v3 (some a30) v0 z39 g38
theorem t4_init (v0 : Nat) (v1 : Option Nat) (v2 : Int32) (v3 : Option Nat) (v4 : Option Nat) (g : GS_) : Cn_ yX4_init cX4_init 7 none 3 75 EV_ [.inr (4, some v0), .inr (0, v1), .inl v2, .inr (20, v3), .inr (8, v4)] g (f4_init v0 v1 v2 v3 v4 g) := by
  refine k_method (own := RX4) (ini := true) (L1 := [some (.inr (4, some v0)), some (.inr (0, v1)), some (.inl v2), some (.inr (20, v3)), some (.inr (8, v4)), none, none]) (by decide +kernel) rfl (fun _ => rfl) (Nat.le_of_ble_eq_true rfl) rfl ?_
  unfold f4_init
  refine k_aloadn (j := 0) dX4_init_0 rfl rfl ?_
  refine k_objInit ml_4_3 oi_.1 oi_.2 (by decide) (Nat.le_of_ble_eq_true rfl) dX4_init_1 ?_
  refine k_aloadn (j := 0) dX4_init_4 rfl rfl ?_
  refine k_aloadn (j := 1) dX4_init_5 rfl rfl ?_
  refine k_putfr fp_4_9 ty_obj rfl rfl rfl dX4_init_6 (fun g27 => ?_)
  refine k_aloadn (j := 0) dX4_init_9 rfl rfl ?_
  refine k_iloadn (j := 2) dX4_init_10 rfl rfl ?_
  refine k_putfi fp_4_15 rfl rfl rfl dX4_init_11 (fun g28 => ?_)
  refine k_aloadn (j := 0) dX4_init_14 rfl rfl ?_
  refine k_aloadn (j := 3) dX4_init_15 rfl rfl ?_
  refine k_putfr fp_4_19 ty_arr rfl rfl rfl dX4_init_16 (fun g29 => ?_)
  refine k_aloadn (j := 0) dX4_init_19 rfl rfl ?_
  refine k_iconst (v := (1 : Int32)) dX4_init_20 rfl ?_
  refine k_aload dX4_init_21 rfl ?_
  refine k_iconst (v := (0 : Int32)) dX4_init_23 rfl ?_
  rcases v4 with _ | a30
  · exact k_ocn
  refine k_ocs ?_
  refine k_callVi [.inl (0 : Int32)] (t8_settingAt a30 (0 : Int32) g29) cw_cX8_settingAt (Or.inl ml_4_23) rfl rfl (by decide) (by decide) (Nat.le_of_ble_eq_true rfl) dX4_init_24 (fun z32 g31 => ?_)
  refine k_max mw_max ml_4_29 (by decide) (Nat.le_of_ble_eq_true rfl) dX4_init_27 ?_
  refine k_putfi fp_4_35 rfl rfl rfl dX4_init_30 (fun g33 => ?_)
  refine k_aloadn (j := 0) dX4_init_33 rfl rfl ?_
  refine k_aload dX4_init_34 rfl ?_
  refine k_iconst (v := (1 : Int32)) dX4_init_36 rfl ?_
  refine k_callVi [.inl (1 : Int32)] (t8_settingAt a30 (1 : Int32) g33) cw_cX8_settingAt (Or.inl ml_4_23) rfl rfl (by decide) (by decide) (Nat.le_of_ble_eq_true rfl) dX4_init_37 (fun z35 g34 => ?_)
  refine k_putfi fp_4_38 rfl rfl rfl dX4_init_40 (fun g36 => ?_)
  refine k_aloadn (j := 0) dX4_init_43 rfl rfl ?_
  refine k_aloadn (j := 1) dX4_init_44 rfl rfl ?_
  rcases v1 with _ | a37
  · exact k_ocn
  refine k_ocs ?_
  refine k_geti fg_4_41 rfl rfl dX4_init_45 ?_
  refine k_iconst (v := (2 : Int32)) dX4_init_48 rfl ?_
  refine k_icmpne (tgt := 56) dX4_init_49 (by decide) (fun _ => ?_) (fun _ => ?_)
  · refine k_iconst (v := (0 : Int32)) dX4_init_52 rfl ?_
    refine k_goto (tgt := 62) dX4_init_53 (by decide) ?_
    refine k_msk (L' := [some (.inr (4, some v0)), none, none, some (.inr (20, v3)), some (.inr (8, some a30)), none, none]) [true, false, false, true, true, true, true] rfl ?_
    exact t4_init_b62 v0 v3 (some a30) v0 (0 : Int32) g36
  refine k_aload dX4_init_56 rfl ?_
  refine k_iconst (v := (2 : Int32)) dX4_init_58 rfl ?_
  refine k_callVi [.inl (2 : Int32)] (t8_settingAt a30 (2 : Int32) g36) cw_cX8_settingAt (Or.inl ml_4_23) rfl rfl (by decide) (by decide) (Nat.le_of_ble_eq_true rfl) dX4_init_59 (fun z39 g38 => ?_)
  refine k_msk (L' := [some (.inr (4, some v0)), none, none, some (.inr (20, v3)), some (.inr (8, some a30)), none, none]) [true, false, false, true, true, true, true] rfl ?_
  exact t4_init_b62 v0 v3 (some a30) v0 z39 g38
theorem dX4_sheets_0 : decode cX4_sheets 0 = .ok (.aload_n 0, 1) := by decide +kernel
theorem dX4_sheets_1 : decode cX4_sheets 1 = .ok (.getfield 35, 3) := by decide +kernel
theorem dX4_sheets_4 : decode cX4_sheets 4 = .ok (.aload_n 0, 1) := by decide +kernel
theorem dX4_sheets_5 : decode cX4_sheets 5 = .ok (.getfield 65, 3) := by decide +kernel
theorem dX4_sheets_8 : decode cX4_sheets 8 = .ok (.imul, 1) := by decide +kernel
theorem dX4_sheets_9 : decode cX4_sheets 9 = .ok (.ireturn, 1) := by decide +kernel
def f4_sheets (v0 : Nat) (g : GS_) : Option (Int32 × GS_) :=
  some (((gfi g 131 v0) * (gfi g 139 v0)), g)
theorem t4_sheets (v0 : Nat) (g : GS_) : Cn_ yX4_sheets cX4_sheets 1 (some .int) 0 0 EI_ [.inr (4, some v0)] g (f4_sheets v0 g) := by
  refine k_method (own := RX4) (ini := false) (L1 := [some (.inr (4, some v0))]) (by decide +kernel) rfl (fun h => by cases h) (Nat.le_of_ble_eq_true rfl) rfl ?_
  unfold f4_sheets
  refine k_aloadn (j := 0) dX4_sheets_0 rfl rfl ?_
  refine k_geti fg_4_35 rfl rfl dX4_sheets_1 ?_
  refine k_aloadn (j := 0) dX4_sheets_4 rfl rfl ?_
  refine k_geti fg_4_65 rfl rfl dX4_sheets_5 ?_
  refine k_imul dX4_sheets_8 ?_
  exact k_ireturn rfl dX4_sheets_9
theorem dX4_hasSheet_0 : decode cX4_hasSheet 0 = .ok (.iload_n 1, 1) := by decide +kernel
theorem dX4_hasSheet_1 : decode cX4_hasSheet 1 = .ok (.ifCond .lt 15, 3) := by decide +kernel
theorem dX4_hasSheet_4 : decode cX4_hasSheet 4 = .ok (.iload_n 1, 1) := by decide +kernel
theorem dX4_hasSheet_5 : decode cX4_hasSheet 5 = .ok (.aload_n 0, 1) := by decide +kernel
theorem dX4_hasSheet_6 : decode cX4_hasSheet 6 = .ok (.invokevirtual 74, 3) := by decide +kernel
theorem dX4_hasSheet_9 : decode cX4_hasSheet 9 = .ok (.if_icmp .ge 7, 3) := by decide +kernel
theorem dX4_hasSheet_12 : decode cX4_hasSheet 12 = .ok (.iconst 1, 1) := by decide +kernel
theorem dX4_hasSheet_13 : decode cX4_hasSheet 13 = .ok (.goto 4, 3) := by decide +kernel
theorem dX4_hasSheet_16 : decode cX4_hasSheet 16 = .ok (.iconst 0, 1) := by decide +kernel
theorem dX4_hasSheet_17 : decode cX4_hasSheet 17 = .ok (.ireturn, 1) := by decide +kernel
def f4_hasSheet_b16 (g : GS_) : Option (Int32 × GS_) :=
  some ((0 : Int32), g)
theorem t4_hasSheet_b16 (g : GS_) : K_ RX4 cX4_hasSheet 2 (some .boolean) 1 20 false EI_ 16 [none, none] [] g (f4_hasSheet_b16 g) := by
  unfold f4_hasSheet_b16
  refine k_iconst (v := (0 : Int32)) dX4_hasSheet_16 rfl ?_
  exact k_zreturn rfl (by decide) dX4_hasSheet_17
def f4_hasSheet (v0 : Nat) (v1 : Int32) (g : GS_) : Option (Int32 × GS_) :=
  if v1 < 0 then f4_hasSheet_b16 g else bd_ (f4_sheets v0 g) fun z2 g1 => if z2 ≤ v1 then f4_hasSheet_b16 g1 else some ((1 : Int32), g1)
theorem t4_hasSheet (v0 : Nat) (v1 : Int32) (g : GS_) : Cn_ yX4_hasSheet cX4_hasSheet 2 (some .boolean) 1 20 EI_ [.inr (4, some v0), .inl v1] g (f4_hasSheet v0 v1 g) := by
  refine k_method (own := RX4) (ini := false) (L1 := [some (.inr (4, some v0)), some (.inl v1)]) (by decide +kernel) rfl (fun h => by cases h) (Nat.le_of_ble_eq_true rfl) rfl ?_
  unfold f4_hasSheet
  refine k_iloadn (j := 1) dX4_hasSheet_0 rfl rfl ?_
  refine k_iflt (tgt := 16) dX4_hasSheet_1 (by decide) (fun _ => ?_) (fun _ => ?_)
  · refine k_msk (L' := [none, none]) [false, false] rfl ?_
    exact t4_hasSheet_b16 g
  refine k_iloadn (j := 1) dX4_hasSheet_4 rfl rfl ?_
  refine k_aloadn (j := 0) dX4_hasSheet_5 rfl rfl ?_
  refine k_callVi [] (t4_sheets v0 g) cw_cX4_sheets (Or.inl ml_4_74) rfl rfl (by decide) (by decide) (Nat.le_of_ble_eq_true rfl) dX4_hasSheet_6 (fun z2 g1 => ?_)
  refine k_icmpge (tgt := 16) dX4_hasSheet_9 (by decide) (fun _ => ?_) (fun _ => ?_)
  · refine k_msk (L' := [none, none]) [false, false] rfl ?_
    exact t4_hasSheet_b16 g1
  refine k_iconst (v := (1 : Int32)) dX4_hasSheet_12 rfl ?_
  refine k_goto (tgt := 17) dX4_hasSheet_13 (by decide) ?_
  exact k_zreturn rfl (by decide) dX4_hasSheet_17
theorem dX4_sheetOfCopy_0 : decode cX4_sheetOfCopy 0 = .ok (.aload_n 0, 1) := by decide +kernel
theorem dX4_sheetOfCopy_1 : decode cX4_sheetOfCopy 1 = .ok (.getfield 65, 3) := by decide +kernel
theorem dX4_sheetOfCopy_4 : decode cX4_sheetOfCopy 4 = .ok (.iconst 1, 1) := by decide +kernel
theorem dX4_sheetOfCopy_5 : decode cX4_sheetOfCopy 5 = .ok (.if_icmp .lt 11, 3) := by decide +kernel
theorem dX4_sheetOfCopy_8 : decode cX4_sheetOfCopy 8 = .ok (.aload_n 0, 1) := by decide +kernel
theorem dX4_sheetOfCopy_9 : decode cX4_sheetOfCopy 9 = .ok (.getfield 35, 3) := by decide +kernel
theorem dX4_sheetOfCopy_12 : decode cX4_sheetOfCopy 12 = .ok (.iconst 1, 1) := by decide +kernel
theorem dX4_sheetOfCopy_13 : decode cX4_sheetOfCopy 13 = .ok (.if_icmp .ge 5, 3) := by decide +kernel
theorem dX4_sheetOfCopy_16 : decode cX4_sheetOfCopy 16 = .ok (.iconst 0, 1) := by decide +kernel
theorem dX4_sheetOfCopy_17 : decode cX4_sheetOfCopy 17 = .ok (.ireturn, 1) := by decide +kernel
theorem dX4_sheetOfCopy_18 : decode cX4_sheetOfCopy 18 = .ok (.aload_n 0, 1) := by decide +kernel
theorem dX4_sheetOfCopy_19 : decode cX4_sheetOfCopy 19 = .ok (.getfield 38, 3) := by decide +kernel
theorem dX4_sheetOfCopy_22 : decode cX4_sheetOfCopy 22 = .ok (.iconst 1, 1) := by decide +kernel
theorem dX4_sheetOfCopy_23 : decode cX4_sheetOfCopy 23 = .ok (.if_icmp .ne 12, 3) := by decide +kernel
theorem dX4_sheetOfCopy_26 : decode cX4_sheetOfCopy 26 = .ok (.iload_n 1, 1) := by decide +kernel
theorem dX4_sheetOfCopy_27 : decode cX4_sheetOfCopy 27 = .ok (.aload_n 0, 1) := by decide +kernel
theorem dX4_sheetOfCopy_28 : decode cX4_sheetOfCopy 28 = .ok (.getfield 65, 3) := by decide +kernel
theorem dX4_sheetOfCopy_31 : decode cX4_sheetOfCopy 31 = .ok (.irem, 1) := by decide +kernel
theorem dX4_sheetOfCopy_32 : decode cX4_sheetOfCopy 32 = .ok (.goto 9, 3) := by decide +kernel
theorem dX4_sheetOfCopy_35 : decode cX4_sheetOfCopy 35 = .ok (.iload_n 1, 1) := by decide +kernel
theorem dX4_sheetOfCopy_36 : decode cX4_sheetOfCopy 36 = .ok (.aload_n 0, 1) := by decide +kernel
theorem dX4_sheetOfCopy_37 : decode cX4_sheetOfCopy 37 = .ok (.getfield 35, 3) := by decide +kernel
theorem dX4_sheetOfCopy_40 : decode cX4_sheetOfCopy 40 = .ok (.idiv, 1) := by decide +kernel
theorem dX4_sheetOfCopy_41 : decode cX4_sheetOfCopy 41 = .ok (.ireturn, 1) := by decide +kernel
def f4_sheetOfCopy (v0 : Nat) (v1 : Int32) (g : GS_) : Option (Int32 × GS_) :=
  if (gfi g 139 v0) < (1 : Int32) then some ((0 : Int32), g) else if (1 : Int32) ≤ (gfi g 131 v0) then if (gfi g 132 v0) = (1 : Int32) then if (gfi g 139 v0) = 0 then none else some ((jrem v1 (gfi g 139 v0)), g) else if (gfi g 131 v0) = 0 then none else some ((v1 / (gfi g 131 v0)), g) else some ((0 : Int32), g)
theorem t4_sheetOfCopy (v0 : Nat) (v1 : Int32) (g : GS_) : Cn_ yX4_sheetOfCopy cX4_sheetOfCopy 2 (some .int) 0 0 EI_ [.inr (4, some v0), .inl v1] g (f4_sheetOfCopy v0 v1 g) := by
  refine k_method (own := RX4) (ini := false) (L1 := [some (.inr (4, some v0)), some (.inl v1)]) (by decide +kernel) rfl (fun h => by cases h) (Nat.le_of_ble_eq_true rfl) rfl ?_
  unfold f4_sheetOfCopy
  refine k_aloadn (j := 0) dX4_sheetOfCopy_0 rfl rfl ?_
  refine k_geti fg_4_65 rfl rfl dX4_sheetOfCopy_1 ?_
  refine k_iconst (v := (1 : Int32)) dX4_sheetOfCopy_4 rfl ?_
  refine k_icmplt (tgt := 16) dX4_sheetOfCopy_5 (by decide) (fun _ => ?_) (fun _ => ?_)
  · refine k_iconst (v := (0 : Int32)) dX4_sheetOfCopy_16 rfl ?_
    exact k_ireturn rfl dX4_sheetOfCopy_17
  refine k_aloadn (j := 0) dX4_sheetOfCopy_8 rfl rfl ?_
  refine k_geti fg_4_35 rfl rfl dX4_sheetOfCopy_9 ?_
  refine k_iconst (v := (1 : Int32)) dX4_sheetOfCopy_12 rfl ?_
  refine k_icmpge (tgt := 18) dX4_sheetOfCopy_13 (by decide) (fun _ => ?_) (fun _ => ?_)
  · refine k_aloadn (j := 0) dX4_sheetOfCopy_18 rfl rfl ?_
    refine k_geti fg_4_38 rfl rfl dX4_sheetOfCopy_19 ?_
    refine k_iconst (v := (1 : Int32)) dX4_sheetOfCopy_22 rfl ?_
    refine k_icmpne (tgt := 35) dX4_sheetOfCopy_23 (by decide) (fun _ => ?_) (fun _ => ?_)
    · refine k_iloadn (j := 1) dX4_sheetOfCopy_26 rfl rfl ?_
      refine k_aloadn (j := 0) dX4_sheetOfCopy_27 rfl rfl ?_
      refine k_geti fg_4_65 rfl rfl dX4_sheetOfCopy_28 ?_
      refine k_irem dX4_sheetOfCopy_31 (fun _ => ?_)
      refine k_goto (tgt := 41) dX4_sheetOfCopy_32 (by decide) ?_
      exact k_ireturn rfl dX4_sheetOfCopy_41
    refine k_iloadn (j := 1) dX4_sheetOfCopy_35 rfl rfl ?_
    refine k_aloadn (j := 0) dX4_sheetOfCopy_36 rfl rfl ?_
    refine k_geti fg_4_35 rfl rfl dX4_sheetOfCopy_37 ?_
    refine k_idiv dX4_sheetOfCopy_40 (fun _ => ?_)
    exact k_ireturn rfl dX4_sheetOfCopy_41
  refine k_iconst (v := (0 : Int32)) dX4_sheetOfCopy_16 rfl ?_
  exact k_ireturn rfl dX4_sheetOfCopy_17
end

section
-- ===== PART A: goes FIRST, ahead of the names: the tables' words, and 'selects' of the private methods out of them =====
/-- a private method of a class that the tables say can be made, by its rows of tables_1 -/
def lw_okq (q : MethodName × Nat) : Prop := (q.1.cls ≠ "java/lang/invoke/MethodHandle" ∧ q.1.cls ≠ "java/lang/invoke/VarHandle") ∧ Cond.instantiable q.1.cls q.2 ∈ tables_1 ∧ Cond.privateMethod q.1 ∈ tables_1 ∧ Cond.instanceMethod q.1 ∈ tables_1
theorem lw_p0 : lw_okq (⟨"IntervalPacker", "rowOf", "(Z)LIntervalPacker$Row;"⟩, 5) := ⟨⟨by decide +kernel, by decide +kernel⟩, List.mem_of_getElem? (i := 17) (by decide +kernel), List.mem_of_getElem? (i := 364) (by decide +kernel), List.mem_of_getElem? (i := 365) (by decide +kernel)⟩
theorem lw_p1 : lw_okq (⟨"IntervalPacker$Packing", "encode", "(II)Z"⟩, 17) := ⟨⟨by decide +kernel, by decide +kernel⟩, List.mem_of_getElem? (i := 262) (by decide +kernel), List.mem_of_getElem? (i := 453) (by decide +kernel), List.mem_of_getElem? (i := 454) (by decide +kernel)⟩
theorem lw_p2 : lw_okq (⟨"IntervalPacker$Packing", "choose", "(II)V"⟩, 17) := ⟨⟨by decide +kernel, by decide +kernel⟩, List.mem_of_getElem? (i := 262) (by decide +kernel), List.mem_of_getElem? (i := 488) (by decide +kernel), List.mem_of_getElem? (i := 489) (by decide +kernel)⟩
theorem lw_p3 : lw_okq (⟨"IntervalPacker$Packing", "searchMatch", "(II)V"⟩, 17) := ⟨⟨by decide +kernel, by decide +kernel⟩, List.mem_of_getElem? (i := 262) (by decide +kernel), List.mem_of_getElem? (i := 492) (by decide +kernel), List.mem_of_getElem? (i := 493) (by decide +kernel)⟩
theorem lw_p4 : lw_okq (⟨"IntervalPacker$Packing", "sameBytes", "(IJI)I"⟩, 17) := ⟨⟨by decide +kernel, by decide +kernel⟩, List.mem_of_getElem? (i := 262) (by decide +kernel), List.mem_of_getElem? (i := 496) (by decide +kernel), List.mem_of_getElem? (i := 497) (by decide +kernel)⟩
theorem lw_p5 : lw_okq (⟨"IntervalPacker$Packing", "searchAgain", "(II)V"⟩, 17) := ⟨⟨by decide +kernel, by decide +kernel⟩, List.mem_of_getElem? (i := 262) (by decide +kernel), List.mem_of_getElem? (i := 500) (by decide +kernel), List.mem_of_getElem? (i := 501) (by decide +kernel)⟩
theorem lw_p6 : lw_okq (⟨"IntervalPacker$Model", "codeKind", "(I)I"⟩, 11) := ⟨⟨by decide +kernel, by decide +kernel⟩, List.mem_of_getElem? (i := 115) (by decide +kernel), List.mem_of_getElem? (i := 513) (by decide +kernel), List.mem_of_getElem? (i := 514) (by decide +kernel)⟩
theorem lw_p7 : lw_okq (⟨"IntervalPacker$BitSink", "shift", "()V"⟩, 6) := ⟨⟨by decide +kernel, by decide +kernel⟩, List.mem_of_getElem? (i := 264) (by decide +kernel), List.mem_of_getElem? (i := 523) (by decide +kernel), List.mem_of_getElem? (i := 524) (by decide +kernel)⟩
theorem lw_p8 : lw_okq (⟨"IntervalPacker$BitSink", "raise", "(J)V"⟩, 6) := ⟨⟨by decide +kernel, by decide +kernel⟩, List.mem_of_getElem? (i := 264) (by decide +kernel), List.mem_of_getElem? (i := 528) (by decide +kernel), List.mem_of_getElem? (i := 529) (by decide +kernel)⟩
theorem lw_p9 : lw_okq (⟨"IntervalPacker$BitSource", "shift", "()V"⟩, 12) := ⟨⟨by decide +kernel, by decide +kernel⟩, List.mem_of_getElem? (i := 52) (by decide +kernel), List.mem_of_getElem? (i := 541) (by decide +kernel), List.mem_of_getElem? (i := 542) (by decide +kernel)⟩
theorem lw_p10 : lw_okq (⟨"IntervalPacker$BitSource", "keep", "()V"⟩, 12) := ⟨⟨by decide +kernel, by decide +kernel⟩, List.mem_of_getElem? (i := 52) (by decide +kernel), List.mem_of_getElem? (i := 549) (by decide +kernel), List.mem_of_getElem? (i := 550) (by decide +kernel)⟩
theorem lw_p11 : lw_okq (⟨"IntervalPacker$Model", "codeLiteral", "(II)I"⟩, 11) := ⟨⟨by decide +kernel, by decide +kernel⟩, List.mem_of_getElem? (i := 115) (by decide +kernel), List.mem_of_getElem? (i := 553) (by decide +kernel), List.mem_of_getElem? (i := 554) (by decide +kernel)⟩
theorem lw_p12 : lw_okq (⟨"IntervalPacker$Model", "codeLength", "(II)I"⟩, 11) := ⟨⟨by decide +kernel, by decide +kernel⟩, List.mem_of_getElem? (i := 115) (by decide +kernel), List.mem_of_getElem? (i := 557) (by decide +kernel), List.mem_of_getElem? (i := 558) (by decide +kernel)⟩
theorem lw_p13 : lw_okq (⟨"IntervalPacker$Model", "codeTree", "(III)I"⟩, 11) := ⟨⟨by decide +kernel, by decide +kernel⟩, List.mem_of_getElem? (i := 115) (by decide +kernel), List.mem_of_getElem? (i := 561) (by decide +kernel), List.mem_of_getElem? (i := 562) (by decide +kernel)⟩
theorem lw_p14 : lw_okq (⟨"IntervalPacker$Model", "codeDistance", "()J"⟩, 11) := ⟨⟨by decide +kernel, by decide +kernel⟩, List.mem_of_getElem? (i := 115) (by decide +kernel), List.mem_of_getElem? (i := 565) (by decide +kernel), List.mem_of_getElem? (i := 566) (by decide +kernel)⟩
theorem lw_p15 : lw_okq (⟨"IntervalPacker$Model", "codeTreeBackwards", "(III)I"⟩, 11) := ⟨⟨by decide +kernel, by decide +kernel⟩, List.mem_of_getElem? (i := 115) (by decide +kernel), List.mem_of_getElem? (i := 582) (by decide +kernel), List.mem_of_getElem? (i := 583) (by decide +kernel)⟩
def lw_privs_1 : List (MethodName × Nat) := [(⟨"IntervalPacker", "rowOf", "(Z)LIntervalPacker$Row;"⟩, 5), (⟨"IntervalPacker$Packing", "encode", "(II)Z"⟩, 17), (⟨"IntervalPacker$Packing", "choose", "(II)V"⟩, 17), (⟨"IntervalPacker$Packing", "searchMatch", "(II)V"⟩, 17), (⟨"IntervalPacker$Packing", "sameBytes", "(IJI)I"⟩, 17), (⟨"IntervalPacker$Packing", "searchAgain", "(II)V"⟩, 17), (⟨"IntervalPacker$Model", "codeKind", "(I)I"⟩, 11), (⟨"IntervalPacker$BitSink", "shift", "()V"⟩, 6), (⟨"IntervalPacker$BitSink", "raise", "(J)V"⟩, 6), (⟨"IntervalPacker$BitSource", "shift", "()V"⟩, 12), (⟨"IntervalPacker$BitSource", "keep", "()V"⟩, 12), (⟨"IntervalPacker$Model", "codeLiteral", "(II)I"⟩, 11), (⟨"IntervalPacker$Model", "codeLength", "(II)I"⟩, 11), (⟨"IntervalPacker$Model", "codeTree", "(III)I"⟩, 11), (⟨"IntervalPacker$Model", "codeDistance", "()J"⟩, 11), (⟨"IntervalPacker$Model", "codeTreeBackwards", "(III)I"⟩, 11)]
theorem lw_r1 : ∀ q ∈ lw_privs_1, lw_okq q := List.forall_mem_cons.mpr ⟨lw_p0, List.forall_mem_cons.mpr ⟨lw_p1, List.forall_mem_cons.mpr ⟨lw_p2, List.forall_mem_cons.mpr ⟨lw_p3, List.forall_mem_cons.mpr ⟨lw_p4, List.forall_mem_cons.mpr ⟨lw_p5, List.forall_mem_cons.mpr ⟨lw_p6, List.forall_mem_cons.mpr ⟨lw_p7, List.forall_mem_cons.mpr ⟨lw_p8, List.forall_mem_cons.mpr ⟨lw_p9, List.forall_mem_cons.mpr ⟨lw_p10, List.forall_mem_cons.mpr ⟨lw_p11, List.forall_mem_cons.mpr ⟨lw_p12, List.forall_mem_cons.mpr ⟨lw_p13, List.forall_mem_cons.mpr ⟨lw_p14, List.forall_mem_cons.mpr ⟨lw_p15, fun _ h => absurd h List.not_mem_nil⟩⟩⟩⟩⟩⟩⟩⟩⟩⟩⟩⟩⟩⟩⟩⟩
theorem lw_p16 : lw_okq (⟨"IntervalPacker$Model", "bringForward", "(IJ)V"⟩, 11) := ⟨⟨by decide +kernel, by decide +kernel⟩, List.mem_of_getElem? (i := 115) (by decide +kernel), List.mem_of_getElem? (i := 596) (by decide +kernel), List.mem_of_getElem? (i := 597) (by decide +kernel)⟩
theorem lw_p17 : lw_okq (⟨"IntervalPacker$Packing", "writeCoded", "(I)V"⟩, 17) := ⟨⟨by decide +kernel, by decide +kernel⟩, List.mem_of_getElem? (i := 262) (by decide +kernel), List.mem_of_getElem? (i := 607) (by decide +kernel), List.mem_of_getElem? (i := 608) (by decide +kernel)⟩
theorem lw_p18 : lw_okq (⟨"IntervalPacker$Packing", "appendTwo", "(I)V"⟩, 17) := ⟨⟨by decide +kernel, by decide +kernel⟩, List.mem_of_getElem? (i := 262) (by decide +kernel), List.mem_of_getElem? (i := 611) (by decide +kernel), List.mem_of_getElem? (i := 612) (by decide +kernel)⟩
theorem lw_p19 : lw_okq (⟨"IntervalPacker$Packing", "writePlain", "(II)V"⟩, 17) := ⟨⟨by decide +kernel, by decide +kernel⟩, List.mem_of_getElem? (i := 262) (by decide +kernel), List.mem_of_getElem? (i := 615) (by decide +kernel), List.mem_of_getElem? (i := 616) (by decide +kernel)⟩
theorem lw_p20 : lw_okq (⟨"IntervalPacker$Packing", "fillUp", "(I)V"⟩, 17) := ⟨⟨by decide +kernel, by decide +kernel⟩, List.mem_of_getElem? (i := 262) (by decide +kernel), List.mem_of_getElem? (i := 626) (by decide +kernel), List.mem_of_getElem? (i := 627) (by decide +kernel)⟩
theorem lw_p21 : lw_okq (⟨"IntervalPacker$Packing", "appendNumber", "(J)V"⟩, 17) := ⟨⟨by decide +kernel, by decide +kernel⟩, List.mem_of_getElem? (i := 262) (by decide +kernel), List.mem_of_getElem? (i := 639) (by decide +kernel), List.mem_of_getElem? (i := 640) (by decide +kernel)⟩
theorem lw_p22 : lw_okq (⟨"IntervalPacker$Unpacking", "readHead", "()V"⟩, 19) := ⟨⟨by decide +kernel, by decide +kernel⟩, List.mem_of_getElem? (i := 163) (by decide +kernel), List.mem_of_getElem? (i := 708) (by decide +kernel), List.mem_of_getElem? (i := 709) (by decide +kernel)⟩
theorem lw_p23 : lw_okq (⟨"IntervalPacker$Unpacking", "readHeadNumbers", "()V"⟩, 19) := ⟨⟨by decide +kernel, by decide +kernel⟩, List.mem_of_getElem? (i := 163) (by decide +kernel), List.mem_of_getElem? (i := 718) (by decide +kernel), List.mem_of_getElem? (i := 719) (by decide +kernel)⟩
theorem lw_p24 : lw_okq (⟨"IntervalPacker$Unpacking", "readChunkHead", "()V"⟩, 19) := ⟨⟨by decide +kernel, by decide +kernel⟩, List.mem_of_getElem? (i := 163) (by decide +kernel), List.mem_of_getElem? (i := 745) (by decide +kernel), List.mem_of_getElem? (i := 746) (by decide +kernel)⟩
theorem lw_p25 : lw_okq (⟨"IntervalPacker$Unpacking", "isAllowed", "()Z"⟩, 19) := ⟨⟨by decide +kernel, by decide +kernel⟩, List.mem_of_getElem? (i := 163) (by decide +kernel), List.mem_of_getElem? (i := 749) (by decide +kernel), List.mem_of_getElem? (i := 750) (by decide +kernel)⟩
theorem lw_p26 : lw_okq (⟨"IntervalPacker$Unpacking", "empties", "()Z"⟩, 19) := ⟨⟨by decide +kernel, by decide +kernel⟩, List.mem_of_getElem? (i := 163) (by decide +kernel), List.mem_of_getElem? (i := 753) (by decide +kernel), List.mem_of_getElem? (i := 754) (by decide +kernel)⟩
theorem lw_p27 : lw_okq (⟨"IntervalPacker$Unpacking", "readProperties", "()V"⟩, 19) := ⟨⟨by decide +kernel, by decide +kernel⟩, List.mem_of_getElem? (i := 163) (by decide +kernel), List.mem_of_getElem? (i := 761) (by decide +kernel), List.mem_of_getElem? (i := 762) (by decide +kernel)⟩
theorem lw_p28 : lw_okq (⟨"IntervalPacker$Unpacking", "giveCoded", "()V"⟩, 19) := ⟨⟨by decide +kernel, by decide +kernel⟩, List.mem_of_getElem? (i := 163) (by decide +kernel), List.mem_of_getElem? (i := 768) (by decide +kernel), List.mem_of_getElem? (i := 769) (by decide +kernel)⟩
theorem lw_p29 : lw_okq (⟨"IntervalPacker$Unpacking", "hasBytesAndRoom", "(I)Z"⟩, 19) := ⟨⟨by decide +kernel, by decide +kernel⟩, List.mem_of_getElem? (i := 163) (by decide +kernel), List.mem_of_getElem? (i := 772) (by decide +kernel), List.mem_of_getElem? (i := 773) (by decide +kernel)⟩
theorem lw_p30 : lw_okq (⟨"IntervalPacker$Unpacking", "giveStep", "(II)Z"⟩, 19) := ⟨⟨by decide +kernel, by decide +kernel⟩, List.mem_of_getElem? (i := 163) (by decide +kernel), List.mem_of_getElem? (i := 786) (by decide +kernel), List.mem_of_getElem? (i := 787) (by decide +kernel)⟩
theorem lw_p31 : lw_okq (⟨"IntervalPacker$Unpacking", "givePlain", "()V"⟩, 19) := ⟨⟨by decide +kernel, by decide +kernel⟩, List.mem_of_getElem? (i := 163) (by decide +kernel), List.mem_of_getElem? (i := 796) (by decide +kernel), List.mem_of_getElem? (i := 797) (by decide +kernel)⟩
def lw_privs_2 : List (MethodName × Nat) := [(⟨"IntervalPacker$Model", "bringForward", "(IJ)V"⟩, 11), (⟨"IntervalPacker$Packing", "writeCoded", "(I)V"⟩, 17), (⟨"IntervalPacker$Packing", "appendTwo", "(I)V"⟩, 17), (⟨"IntervalPacker$Packing", "writePlain", "(II)V"⟩, 17), (⟨"IntervalPacker$Packing", "fillUp", "(I)V"⟩, 17), (⟨"IntervalPacker$Packing", "appendNumber", "(J)V"⟩, 17), (⟨"IntervalPacker$Unpacking", "readHead", "()V"⟩, 19), (⟨"IntervalPacker$Unpacking", "readHeadNumbers", "()V"⟩, 19), (⟨"IntervalPacker$Unpacking", "readChunkHead", "()V"⟩, 19), (⟨"IntervalPacker$Unpacking", "isAllowed", "()Z"⟩, 19), (⟨"IntervalPacker$Unpacking", "empties", "()Z"⟩, 19), (⟨"IntervalPacker$Unpacking", "readProperties", "()V"⟩, 19), (⟨"IntervalPacker$Unpacking", "giveCoded", "()V"⟩, 19), (⟨"IntervalPacker$Unpacking", "hasBytesAndRoom", "(I)Z"⟩, 19), (⟨"IntervalPacker$Unpacking", "giveStep", "(II)Z"⟩, 19), (⟨"IntervalPacker$Unpacking", "givePlain", "()V"⟩, 19)]
theorem lw_r2 : ∀ q ∈ lw_privs_2, lw_okq q := List.forall_mem_cons.mpr ⟨lw_p16, List.forall_mem_cons.mpr ⟨lw_p17, List.forall_mem_cons.mpr ⟨lw_p18, List.forall_mem_cons.mpr ⟨lw_p19, List.forall_mem_cons.mpr ⟨lw_p20, List.forall_mem_cons.mpr ⟨lw_p21, List.forall_mem_cons.mpr ⟨lw_p22, List.forall_mem_cons.mpr ⟨lw_p23, List.forall_mem_cons.mpr ⟨lw_p24, List.forall_mem_cons.mpr ⟨lw_p25, List.forall_mem_cons.mpr ⟨lw_p26, List.forall_mem_cons.mpr ⟨lw_p27, List.forall_mem_cons.mpr ⟨lw_p28, List.forall_mem_cons.mpr ⟨lw_p29, List.forall_mem_cons.mpr ⟨lw_p30, List.forall_mem_cons.mpr ⟨lw_p31, fun _ h => absurd h List.not_mem_nil⟩⟩⟩⟩⟩⟩⟩⟩⟩⟩⟩⟩⟩⟩⟩⟩
theorem lw_p32 : lw_okq (⟨"IntervalPacker$Unpacking", "closeBlock", "(I)V"⟩, 19) := ⟨⟨by decide +kernel, by decide +kernel⟩, List.mem_of_getElem? (i := 163) (by decide +kernel), List.mem_of_getElem? (i := 801) (by decide +kernel), List.mem_of_getElem? (i := 802) (by decide +kernel)⟩
theorem lw_p33 : lw_okq (⟨"IntervalPackerModel", "begin", "()V"⟩, 42) := ⟨⟨by decide +kernel, by decide +kernel⟩, List.mem_of_getElem? (i := 852) (by decide +kernel), List.mem_of_getElem? (i := 1024) (by decide +kernel), List.mem_of_getElem? (i := 1025) (by decide +kernel)⟩
theorem lw_p34 : lw_okq (⟨"IntervalPackerModel", "has", "(I)Z"⟩, 42) := ⟨⟨by decide +kernel, by decide +kernel⟩, List.mem_of_getElem? (i := 852) (by decide +kernel), List.mem_of_getElem? (i := 1028) (by decide +kernel), List.mem_of_getElem? (i := 1029) (by decide +kernel)⟩
theorem lw_p35 : lw_okq (⟨"IntervalPackerModel", "fail", "(II)V"⟩, 42) := ⟨⟨by decide +kernel, by decide +kernel⟩, List.mem_of_getElem? (i := 852) (by decide +kernel), List.mem_of_getElem? (i := 1032) (by decide +kernel), List.mem_of_getElem? (i := 1033) (by decide +kernel)⟩
theorem lw_p36 : lw_okq (⟨"IntervalPackerModel", "sumOf", "(I)V"⟩, 42) := ⟨⟨by decide +kernel, by decide +kernel⟩, List.mem_of_getElem? (i := 852) (by decide +kernel), List.mem_of_getElem? (i := 1042) (by decide +kernel), List.mem_of_getElem? (i := 1043) (by decide +kernel)⟩
theorem lw_p37 : lw_okq (⟨"IntervalPackerModel", "number", "(II)J"⟩, 42) := ⟨⟨by decide +kernel, by decide +kernel⟩, List.mem_of_getElem? (i := 852) (by decide +kernel), List.mem_of_getElem? (i := 1046) (by decide +kernel), List.mem_of_getElem? (i := 1047) (by decide +kernel)⟩
theorem lw_p38 : lw_okq (⟨"IntervalPackerModel", "fourOfPacked", "(II)J"⟩, 42) := ⟨⟨by decide +kernel, by decide +kernel⟩, List.mem_of_getElem? (i := 852) (by decide +kernel), List.mem_of_getElem? (i := 1050) (by decide +kernel), List.mem_of_getElem? (i := 1051) (by decide +kernel)⟩
theorem lw_p39 : lw_okq (⟨"IntervalPackerModel", "block", "()V"⟩, 42) := ⟨⟨by decide +kernel, by decide +kernel⟩, List.mem_of_getElem? (i := 852) (by decide +kernel), List.mem_of_getElem? (i := 1054) (by decide +kernel), List.mem_of_getElem? (i := 1055) (by decide +kernel)⟩
theorem lw_p40 : lw_okq (⟨"IntervalPackerModel", "vli", "(II)J"⟩, 42) := ⟨⟨by decide +kernel, by decide +kernel⟩, List.mem_of_getElem? (i := 852) (by decide +kernel), List.mem_of_getElem? (i := 1058) (by decide +kernel), List.mem_of_getElem? (i := 1059) (by decide +kernel)⟩
theorem lw_p41 : lw_okq (⟨"IntervalPackerModel", "headByte", "(I)I"⟩, 42) := ⟨⟨by decide +kernel, by decide +kernel⟩, List.mem_of_getElem? (i := 852) (by decide +kernel), List.mem_of_getElem? (i := 1062) (by decide +kernel), List.mem_of_getElem? (i := 1063) (by decide +kernel)⟩
theorem lw_p42 : lw_okq (⟨"IntervalPackerModel", "chunk", "()Z"⟩, 42) := ⟨⟨by decide +kernel, by decide +kernel⟩, List.mem_of_getElem? (i := 852) (by decide +kernel), List.mem_of_getElem? (i := 1066) (by decide +kernel), List.mem_of_getElem? (i := 1067) (by decide +kernel)⟩
theorem lw_p43 : lw_okq (⟨"IntervalPackerModel", "length", "(I)I"⟩, 42) := ⟨⟨by decide +kernel, by decide +kernel⟩, List.mem_of_getElem? (i := 852) (by decide +kernel), List.mem_of_getElem? (i := 1070) (by decide +kernel), List.mem_of_getElem? (i := 1071) (by decide +kernel)⟩
theorem lw_p44 : lw_okq (⟨"IntervalPackerModel", "plainChunk", "(IZ)V"⟩, 42) := ⟨⟨by decide +kernel, by decide +kernel⟩, List.mem_of_getElem? (i := 852) (by decide +kernel), List.mem_of_getElem? (i := 1074) (by decide +kernel), List.mem_of_getElem? (i := 1075) (by decide +kernel)⟩
theorem lw_p45 : lw_okq (⟨"IntervalPackerModel", "properties", "(I)V"⟩, 42) := ⟨⟨by decide +kernel, by decide +kernel⟩, List.mem_of_getElem? (i := 852) (by decide +kernel), List.mem_of_getElem? (i := 1078) (by decide +kernel), List.mem_of_getElem? (i := 1079) (by decide +kernel)⟩
theorem lw_p46 : lw_okq (⟨"IntervalPackerModel", "coded", "(III)V"⟩, 42) := ⟨⟨by decide +kernel, by decide +kernel⟩, List.mem_of_getElem? (i := 852) (by decide +kernel), List.mem_of_getElem? (i := 1085) (by decide +kernel), List.mem_of_getElem? (i := 1086) (by decide +kernel)⟩
theorem lw_p47 : lw_okq (⟨"IntervalPackerModel", "anew", "()V"⟩, 42) := ⟨⟨by decide +kernel, by decide +kernel⟩, List.mem_of_getElem? (i := 852) (by decide +kernel), List.mem_of_getElem? (i := 1089) (by decide +kernel), List.mem_of_getElem? (i := 1090) (by decide +kernel)⟩
def lw_privs_3 : List (MethodName × Nat) := [(⟨"IntervalPacker$Unpacking", "closeBlock", "(I)V"⟩, 19), (⟨"IntervalPackerModel", "begin", "()V"⟩, 42), (⟨"IntervalPackerModel", "has", "(I)Z"⟩, 42), (⟨"IntervalPackerModel", "fail", "(II)V"⟩, 42), (⟨"IntervalPackerModel", "sumOf", "(I)V"⟩, 42), (⟨"IntervalPackerModel", "number", "(II)J"⟩, 42), (⟨"IntervalPackerModel", "fourOfPacked", "(II)J"⟩, 42), (⟨"IntervalPackerModel", "block", "()V"⟩, 42), (⟨"IntervalPackerModel", "vli", "(II)J"⟩, 42), (⟨"IntervalPackerModel", "headByte", "(I)I"⟩, 42), (⟨"IntervalPackerModel", "chunk", "()Z"⟩, 42), (⟨"IntervalPackerModel", "length", "(I)I"⟩, 42), (⟨"IntervalPackerModel", "plainChunk", "(IZ)V"⟩, 42), (⟨"IntervalPackerModel", "properties", "(I)V"⟩, 42), (⟨"IntervalPackerModel", "coded", "(III)V"⟩, 42), (⟨"IntervalPackerModel", "anew", "()V"⟩, 42)]
theorem lw_r3 : ∀ q ∈ lw_privs_3, lw_okq q := List.forall_mem_cons.mpr ⟨lw_p32, List.forall_mem_cons.mpr ⟨lw_p33, List.forall_mem_cons.mpr ⟨lw_p34, List.forall_mem_cons.mpr ⟨lw_p35, List.forall_mem_cons.mpr ⟨lw_p36, List.forall_mem_cons.mpr ⟨lw_p37, List.forall_mem_cons.mpr ⟨lw_p38, List.forall_mem_cons.mpr ⟨lw_p39, List.forall_mem_cons.mpr ⟨lw_p40, List.forall_mem_cons.mpr ⟨lw_p41, List.forall_mem_cons.mpr ⟨lw_p42, List.forall_mem_cons.mpr ⟨lw_p43, List.forall_mem_cons.mpr ⟨lw_p44, List.forall_mem_cons.mpr ⟨lw_p45, List.forall_mem_cons.mpr ⟨lw_p46, List.forall_mem_cons.mpr ⟨lw_p47, fun _ h => absurd h List.not_mem_nil⟩⟩⟩⟩⟩⟩⟩⟩⟩⟩⟩⟩⟩⟩⟩⟩
theorem lw_p48 : lw_okq (⟨"IntervalPackerModel", "token", "()V"⟩, 42) := ⟨⟨by decide +kernel, by decide +kernel⟩, List.mem_of_getElem? (i := 852) (by decide +kernel), List.mem_of_getElem? (i := 1093) (by decide +kernel), List.mem_of_getElem? (i := 1094) (by decide +kernel)⟩
theorem lw_p49 : lw_okq (⟨"IntervalPackerModel", "bytes", "()I"⟩, 42) := ⟨⟨by decide +kernel, by decide +kernel⟩, List.mem_of_getElem? (i := 852) (by decide +kernel), List.mem_of_getElem? (i := 1097) (by decide +kernel), List.mem_of_getElem? (i := 1098) (by decide +kernel)⟩
theorem lw_p50 : lw_okq (⟨"IntervalPackerModel", "low4", "(I)I"⟩, 42) := ⟨⟨by decide +kernel, by decide +kernel⟩, List.mem_of_getElem? (i := 852) (by decide +kernel), List.mem_of_getElem? (i := 1101) (by decide +kernel), List.mem_of_getElem? (i := 1102) (by decide +kernel)⟩
theorem lw_p51 : lw_okq (⟨"IntervalPackerModel", "bit", "(I)I"⟩, 42) := ⟨⟨by decide +kernel, by decide +kernel⟩, List.mem_of_getElem? (i := 852) (by decide +kernel), List.mem_of_getElem? (i := 1105) (by decide +kernel), List.mem_of_getElem? (i := 1106) (by decide +kernel)⟩
theorem lw_p52 : lw_okq (⟨"IntervalPackerModel", "shift", "()V"⟩, 42) := ⟨⟨by decide +kernel, by decide +kernel⟩, List.mem_of_getElem? (i := 852) (by decide +kernel), List.mem_of_getElem? (i := 1109) (by decide +kernel), List.mem_of_getElem? (i := 1110) (by decide +kernel)⟩
theorem lw_p53 : lw_okq (⟨"IntervalPackerModel", "learn", "(IZ)V"⟩, 42) := ⟨⟨by decide +kernel, by decide +kernel⟩, List.mem_of_getElem? (i := 852) (by decide +kernel), List.mem_of_getElem? (i := 1116) (by decide +kernel), List.mem_of_getElem? (i := 1117) (by decide +kernel)⟩
theorem lw_p54 : lw_okq (⟨"IntervalPackerModel", "told", "()V"⟩, 42) := ⟨⟨by decide +kernel, by decide +kernel⟩, List.mem_of_getElem? (i := 852) (by decide +kernel), List.mem_of_getElem? (i := 1120) (by decide +kernel), List.mem_of_getElem? (i := 1121) (by decide +kernel)⟩
theorem lw_p55 : lw_okq (⟨"IntervalPackerModel", "literal", "()V"⟩, 42) := ⟨⟨by decide +kernel, by decide +kernel⟩, List.mem_of_getElem? (i := 852) (by decide +kernel), List.mem_of_getElem? (i := 1124) (by decide +kernel), List.mem_of_getElem? (i := 1125) (by decide +kernel)⟩
theorem lw_p56 : lw_okq (⟨"IntervalPackerModel", "context", "(II)I"⟩, 42) := ⟨⟨by decide +kernel, by decide +kernel⟩, List.mem_of_getElem? (i := 852) (by decide +kernel), List.mem_of_getElem? (i := 1128) (by decide +kernel), List.mem_of_getElem? (i := 1129) (by decide +kernel)⟩
theorem lw_p57 : lw_okq (⟨"IntervalPackerModel", "give", "(I)V"⟩, 42) := ⟨⟨by decide +kernel, by decide +kernel⟩, List.mem_of_getElem? (i := 852) (by decide +kernel), List.mem_of_getElem? (i := 1132) (by decide +kernel), List.mem_of_getElem? (i := 1133) (by decide +kernel)⟩
theorem lw_p58 : lw_okq (⟨"IntervalPackerModel", "lengthTaken", "(II)I"⟩, 42) := ⟨⟨by decide +kernel, by decide +kernel⟩, List.mem_of_getElem? (i := 852) (by decide +kernel), List.mem_of_getElem? (i := 1139) (by decide +kernel), List.mem_of_getElem? (i := 1140) (by decide +kernel)⟩
theorem lw_p59 : lw_okq (⟨"IntervalPackerModel", "tree", "(II)I"⟩, 42) := ⟨⟨by decide +kernel, by decide +kernel⟩, List.mem_of_getElem? (i := 852) (by decide +kernel), List.mem_of_getElem? (i := 1143) (by decide +kernel), List.mem_of_getElem? (i := 1144) (by decide +kernel)⟩
theorem lw_p60 : lw_okq (⟨"IntervalPackerModel", "distance", "(I)J"⟩, 42) := ⟨⟨by decide +kernel, by decide +kernel⟩, List.mem_of_getElem? (i := 852) (by decide +kernel), List.mem_of_getElem? (i := 1147) (by decide +kernel), List.mem_of_getElem? (i := 1148) (by decide +kernel)⟩
theorem lw_p61 : lw_okq (⟨"IntervalPackerModel", "backwards", "(II)I"⟩, 42) := ⟨⟨by decide +kernel, by decide +kernel⟩, List.mem_of_getElem? (i := 852) (by decide +kernel), List.mem_of_getElem? (i := 1153) (by decide +kernel), List.mem_of_getElem? (i := 1154) (by decide +kernel)⟩
theorem lw_p62 : lw_okq (⟨"IntervalPackerModel", "even", "()I"⟩, 42) := ⟨⟨by decide +kernel, by decide +kernel⟩, List.mem_of_getElem? (i := 852) (by decide +kernel), List.mem_of_getElem? (i := 1157) (by decide +kernel), List.mem_of_getElem? (i := 1158) (by decide +kernel)⟩
theorem lw_p63 : lw_okq (⟨"IntervalPackerModel", "back", "(II)V"⟩, 42) := ⟨⟨by decide +kernel, by decide +kernel⟩, List.mem_of_getElem? (i := 852) (by decide +kernel), List.mem_of_getElem? (i := 1162) (by decide +kernel), List.mem_of_getElem? (i := 1163) (by decide +kernel)⟩
def lw_privs_4 : List (MethodName × Nat) := [(⟨"IntervalPackerModel", "token", "()V"⟩, 42), (⟨"IntervalPackerModel", "bytes", "()I"⟩, 42), (⟨"IntervalPackerModel", "low4", "(I)I"⟩, 42), (⟨"IntervalPackerModel", "bit", "(I)I"⟩, 42), (⟨"IntervalPackerModel", "shift", "()V"⟩, 42), (⟨"IntervalPackerModel", "learn", "(IZ)V"⟩, 42), (⟨"IntervalPackerModel", "told", "()V"⟩, 42), (⟨"IntervalPackerModel", "literal", "()V"⟩, 42), (⟨"IntervalPackerModel", "context", "(II)I"⟩, 42), (⟨"IntervalPackerModel", "give", "(I)V"⟩, 42), (⟨"IntervalPackerModel", "lengthTaken", "(II)I"⟩, 42), (⟨"IntervalPackerModel", "tree", "(II)I"⟩, 42), (⟨"IntervalPackerModel", "distance", "(I)J"⟩, 42), (⟨"IntervalPackerModel", "backwards", "(II)I"⟩, 42), (⟨"IntervalPackerModel", "even", "()I"⟩, 42), (⟨"IntervalPackerModel", "back", "(II)V"⟩, 42)]
theorem lw_r4 : ∀ q ∈ lw_privs_4, lw_okq q := List.forall_mem_cons.mpr ⟨lw_p48, List.forall_mem_cons.mpr ⟨lw_p49, List.forall_mem_cons.mpr ⟨lw_p50, List.forall_mem_cons.mpr ⟨lw_p51, List.forall_mem_cons.mpr ⟨lw_p52, List.forall_mem_cons.mpr ⟨lw_p53, List.forall_mem_cons.mpr ⟨lw_p54, List.forall_mem_cons.mpr ⟨lw_p55, List.forall_mem_cons.mpr ⟨lw_p56, List.forall_mem_cons.mpr ⟨lw_p57, List.forall_mem_cons.mpr ⟨lw_p58, List.forall_mem_cons.mpr ⟨lw_p59, List.forall_mem_cons.mpr ⟨lw_p60, List.forall_mem_cons.mpr ⟨lw_p61, List.forall_mem_cons.mpr ⟨lw_p62, List.forall_mem_cons.mpr ⟨lw_p63, fun _ h => absurd h List.not_mem_nil⟩⟩⟩⟩⟩⟩⟩⟩⟩⟩⟩⟩⟩⟩⟩⟩
theorem lw_p64 : lw_okq (⟨"IntervalPackerModel", "repeated", "(II)V"⟩, 42) := ⟨⟨by decide +kernel, by decide +kernel⟩, List.mem_of_getElem? (i := 852) (by decide +kernel), List.mem_of_getElem? (i := 1166) (by decide +kernel), List.mem_of_getElem? (i := 1167) (by decide +kernel)⟩
theorem lw_p65 : lw_okq (⟨"IntervalPackerModel", "turn", "(I)V"⟩, 42) := ⟨⟨by decide +kernel, by decide +kernel⟩, List.mem_of_getElem? (i := 852) (by decide +kernel), List.mem_of_getElem? (i := 1170) (by decide +kernel), List.mem_of_getElem? (i := 1171) (by decide +kernel)⟩
theorem lw_p66 : lw_okq (⟨"IntervalPackerModel", "zeros", "(I)V"⟩, 42) := ⟨⟨by decide +kernel, by decide +kernel⟩, List.mem_of_getElem? (i := 852) (by decide +kernel), List.mem_of_getElem? (i := 1174) (by decide +kernel), List.mem_of_getElem? (i := 1175) (by decide +kernel)⟩
theorem lw_p67 : lw_okq (⟨"IntervalPackerModel", "fourOfMade", "(I)J"⟩, 42) := ⟨⟨by decide +kernel, by decide +kernel⟩, List.mem_of_getElem? (i := 852) (by decide +kernel), List.mem_of_getElem? (i := 1178) (by decide +kernel), List.mem_of_getElem? (i := 1179) (by decide +kernel)⟩
theorem lw_p68 : lw_okq (⟨"IntervalPackerModel", "eightOfMade", "(I)J"⟩, 42) := ⟨⟨by decide +kernel, by decide +kernel⟩, List.mem_of_getElem? (i := 852) (by decide +kernel), List.mem_of_getElem? (i := 1182) (by decide +kernel), List.mem_of_getElem? (i := 1183) (by decide +kernel)⟩
theorem lw_p69 : lw_okq (⟨"IntervalPackerModel", "index", "()V"⟩, 42) := ⟨⟨by decide +kernel, by decide +kernel⟩, List.mem_of_getElem? (i := 852) (by decide +kernel), List.mem_of_getElem? (i := 1186) (by decide +kernel), List.mem_of_getElem? (i := 1187) (by decide +kernel)⟩
theorem lw_p70 : lw_okq (⟨"IntervalPackerModel", "expect", "(I)V"⟩, 42) := ⟨⟨by decide +kernel, by decide +kernel⟩, List.mem_of_getElem? (i := 852) (by decide +kernel), List.mem_of_getElem? (i := 1190) (by decide +kernel), List.mem_of_getElem? (i := 1191) (by decide +kernel)⟩
theorem lw_p71 : lw_okq (⟨"IntervalPackerModel", "write", "(I)V"⟩, 42) := ⟨⟨by decide +kernel, by decide +kernel⟩, List.mem_of_getElem? (i := 852) (by decide +kernel), List.mem_of_getElem? (i := 1218) (by decide +kernel), List.mem_of_getElem? (i := 1219) (by decide +kernel)⟩
theorem lw_p72 : lw_okq (⟨"IntervalPackerModel", "writeSum", "(I)V"⟩, 42) := ⟨⟨by decide +kernel, by decide +kernel⟩, List.mem_of_getElem? (i := 852) (by decide +kernel), List.mem_of_getElem? (i := 1222) (by decide +kernel), List.mem_of_getElem? (i := 1223) (by decide +kernel)⟩
theorem lw_p73 : lw_okq (⟨"IntervalPackerModel", "writeNumber", "(JI)V"⟩, 42) := ⟨⟨by decide +kernel, by decide +kernel⟩, List.mem_of_getElem? (i := 852) (by decide +kernel), List.mem_of_getElem? (i := 1226) (by decide +kernel), List.mem_of_getElem? (i := 1227) (by decide +kernel)⟩
theorem lw_p74 : lw_okq (⟨"IntervalPackerModel", "writeBlock", "(III)I"⟩, 42) := ⟨⟨by decide +kernel, by decide +kernel⟩, List.mem_of_getElem? (i := 852) (by decide +kernel), List.mem_of_getElem? (i := 1230) (by decide +kernel), List.mem_of_getElem? (i := 1231) (by decide +kernel)⟩
theorem lw_p75 : lw_okq (⟨"IntervalPackerModel", "writeChunks", "(II)V"⟩, 42) := ⟨⟨by decide +kernel, by decide +kernel⟩, List.mem_of_getElem? (i := 852) (by decide +kernel), List.mem_of_getElem? (i := 1234) (by decide +kernel), List.mem_of_getElem? (i := 1235) (by decide +kernel)⟩
theorem lw_p76 : lw_okq (⟨"IntervalPackerModel", "squeeze", "(II)Z"⟩, 42) := ⟨⟨by decide +kernel, by decide +kernel⟩, List.mem_of_getElem? (i := 852) (by decide +kernel), List.mem_of_getElem? (i := 1238) (by decide +kernel), List.mem_of_getElem? (i := 1239) (by decide +kernel)⟩
theorem lw_p77 : lw_okq (⟨"IntervalPackerModel", "putToken", "(II)I"⟩, 42) := ⟨⟨by decide +kernel, by decide +kernel⟩, List.mem_of_getElem? (i := 852) (by decide +kernel), List.mem_of_getElem? (i := 1242) (by decide +kernel), List.mem_of_getElem? (i := 1243) (by decide +kernel)⟩
theorem lw_p78 : lw_okq (⟨"IntervalPackerModel", "alike", "(IJI)I"⟩, 42) := ⟨⟨by decide +kernel, by decide +kernel⟩, List.mem_of_getElem? (i := 852) (by decide +kernel), List.mem_of_getElem? (i := 1246) (by decide +kernel), List.mem_of_getElem? (i := 1247) (by decide +kernel)⟩
theorem lw_p79 : lw_okq (⟨"IntervalPackerModel", "distanceOf", "(I)J"⟩, 42) := ⟨⟨by decide +kernel, by decide +kernel⟩, List.mem_of_getElem? (i := 852) (by decide +kernel), List.mem_of_getElem? (i := 1250) (by decide +kernel), List.mem_of_getElem? (i := 1251) (by decide +kernel)⟩
def lw_privs_5 : List (MethodName × Nat) := [(⟨"IntervalPackerModel", "repeated", "(II)V"⟩, 42), (⟨"IntervalPackerModel", "turn", "(I)V"⟩, 42), (⟨"IntervalPackerModel", "zeros", "(I)V"⟩, 42), (⟨"IntervalPackerModel", "fourOfMade", "(I)J"⟩, 42), (⟨"IntervalPackerModel", "eightOfMade", "(I)J"⟩, 42), (⟨"IntervalPackerModel", "index", "()V"⟩, 42), (⟨"IntervalPackerModel", "expect", "(I)V"⟩, 42), (⟨"IntervalPackerModel", "write", "(I)V"⟩, 42), (⟨"IntervalPackerModel", "writeSum", "(I)V"⟩, 42), (⟨"IntervalPackerModel", "writeNumber", "(JI)V"⟩, 42), (⟨"IntervalPackerModel", "writeBlock", "(III)I"⟩, 42), (⟨"IntervalPackerModel", "writeChunks", "(II)V"⟩, 42), (⟨"IntervalPackerModel", "squeeze", "(II)Z"⟩, 42), (⟨"IntervalPackerModel", "putToken", "(II)I"⟩, 42), (⟨"IntervalPackerModel", "alike", "(IJI)I"⟩, 42), (⟨"IntervalPackerModel", "distanceOf", "(I)J"⟩, 42)]
theorem lw_r5 : ∀ q ∈ lw_privs_5, lw_okq q := List.forall_mem_cons.mpr ⟨lw_p64, List.forall_mem_cons.mpr ⟨lw_p65, List.forall_mem_cons.mpr ⟨lw_p66, List.forall_mem_cons.mpr ⟨lw_p67, List.forall_mem_cons.mpr ⟨lw_p68, List.forall_mem_cons.mpr ⟨lw_p69, List.forall_mem_cons.mpr ⟨lw_p70, List.forall_mem_cons.mpr ⟨lw_p71, List.forall_mem_cons.mpr ⟨lw_p72, List.forall_mem_cons.mpr ⟨lw_p73, List.forall_mem_cons.mpr ⟨lw_p74, List.forall_mem_cons.mpr ⟨lw_p75, List.forall_mem_cons.mpr ⟨lw_p76, List.forall_mem_cons.mpr ⟨lw_p77, List.forall_mem_cons.mpr ⟨lw_p78, List.forall_mem_cons.mpr ⟨lw_p79, fun _ h => absurd h List.not_mem_nil⟩⟩⟩⟩⟩⟩⟩⟩⟩⟩⟩⟩⟩⟩⟩⟩
theorem lw_p80 : lw_okq (⟨"IntervalPackerModel", "putRepeated", "(III)V"⟩, 42) := ⟨⟨by decide +kernel, by decide +kernel⟩, List.mem_of_getElem? (i := 852) (by decide +kernel), List.mem_of_getElem? (i := 1254) (by decide +kernel), List.mem_of_getElem? (i := 1255) (by decide +kernel)⟩
theorem lw_p81 : lw_okq (⟨"IntervalPackerModel", "put", "(II)V"⟩, 42) := ⟨⟨by decide +kernel, by decide +kernel⟩, List.mem_of_getElem? (i := 852) (by decide +kernel), List.mem_of_getElem? (i := 1258) (by decide +kernel), List.mem_of_getElem? (i := 1259) (by decide +kernel)⟩
theorem lw_p82 : lw_okq (⟨"IntervalPackerModel", "shiftOut", "()V"⟩, 42) := ⟨⟨by decide +kernel, by decide +kernel⟩, List.mem_of_getElem? (i := 852) (by decide +kernel), List.mem_of_getElem? (i := 1262) (by decide +kernel), List.mem_of_getElem? (i := 1263) (by decide +kernel)⟩
theorem lw_p83 : lw_okq (⟨"IntervalPackerModel", "grow", "(J)V"⟩, 42) := ⟨⟨by decide +kernel, by decide +kernel⟩, List.mem_of_getElem? (i := 852) (by decide +kernel), List.mem_of_getElem? (i := 1266) (by decide +kernel), List.mem_of_getElem? (i := 1267) (by decide +kernel)⟩
theorem lw_p84 : lw_okq (⟨"IntervalPackerModel", "putLength", "(III)V"⟩, 42) := ⟨⟨by decide +kernel, by decide +kernel⟩, List.mem_of_getElem? (i := 852) (by decide +kernel), List.mem_of_getElem? (i := 1270) (by decide +kernel), List.mem_of_getElem? (i := 1271) (by decide +kernel)⟩
theorem lw_p85 : lw_okq (⟨"IntervalPackerModel", "putTree", "(III)V"⟩, 42) := ⟨⟨by decide +kernel, by decide +kernel⟩, List.mem_of_getElem? (i := 852) (by decide +kernel), List.mem_of_getElem? (i := 1274) (by decide +kernel), List.mem_of_getElem? (i := 1275) (by decide +kernel)⟩
theorem lw_p86 : lw_okq (⟨"IntervalPackerModel", "putCopy", "(III)V"⟩, 42) := ⟨⟨by decide +kernel, by decide +kernel⟩, List.mem_of_getElem? (i := 852) (by decide +kernel), List.mem_of_getElem? (i := 1278) (by decide +kernel), List.mem_of_getElem? (i := 1279) (by decide +kernel)⟩
theorem lw_p87 : lw_okq (⟨"IntervalPackerModel", "putBackwards", "(III)V"⟩, 42) := ⟨⟨by decide +kernel, by decide +kernel⟩, List.mem_of_getElem? (i := 852) (by decide +kernel), List.mem_of_getElem? (i := 1282) (by decide +kernel), List.mem_of_getElem? (i := 1283) (by decide +kernel)⟩
theorem lw_p88 : lw_okq (⟨"IntervalPackerModel", "putEven", "(I)V"⟩, 42) := ⟨⟨by decide +kernel, by decide +kernel⟩, List.mem_of_getElem? (i := 852) (by decide +kernel), List.mem_of_getElem? (i := 1286) (by decide +kernel), List.mem_of_getElem? (i := 1287) (by decide +kernel)⟩
theorem lw_p89 : lw_okq (⟨"IntervalPackerModel", "putLiteral", "(II)V"⟩, 42) := ⟨⟨by decide +kernel, by decide +kernel⟩, List.mem_of_getElem? (i := 852) (by decide +kernel), List.mem_of_getElem? (i := 1290) (by decide +kernel), List.mem_of_getElem? (i := 1291) (by decide +kernel)⟩
theorem lw_p90 : lw_okq (⟨"IntervalPackerModel", "writeZeros", "(I)V"⟩, 42) := ⟨⟨by decide +kernel, by decide +kernel⟩, List.mem_of_getElem? (i := 852) (by decide +kernel), List.mem_of_getElem? (i := 1294) (by decide +kernel), List.mem_of_getElem? (i := 1295) (by decide +kernel)⟩
theorem lw_p91 : lw_okq (⟨"IntervalPackerModel", "writeVli", "(I)V"⟩, 42) := ⟨⟨by decide +kernel, by decide +kernel⟩, List.mem_of_getElem? (i := 852) (by decide +kernel), List.mem_of_getElem? (i := 1299) (by decide +kernel), List.mem_of_getElem? (i := 1300) (by decide +kernel)⟩
def lw_privs_6 : List (MethodName × Nat) := [(⟨"IntervalPackerModel", "putRepeated", "(III)V"⟩, 42), (⟨"IntervalPackerModel", "put", "(II)V"⟩, 42), (⟨"IntervalPackerModel", "shiftOut", "()V"⟩, 42), (⟨"IntervalPackerModel", "grow", "(J)V"⟩, 42), (⟨"IntervalPackerModel", "putLength", "(III)V"⟩, 42), (⟨"IntervalPackerModel", "putTree", "(III)V"⟩, 42), (⟨"IntervalPackerModel", "putCopy", "(III)V"⟩, 42), (⟨"IntervalPackerModel", "putBackwards", "(III)V"⟩, 42), (⟨"IntervalPackerModel", "putEven", "(I)V"⟩, 42), (⟨"IntervalPackerModel", "putLiteral", "(II)V"⟩, 42), (⟨"IntervalPackerModel", "writeZeros", "(I)V"⟩, 42), (⟨"IntervalPackerModel", "writeVli", "(I)V"⟩, 42)]
theorem lw_r6 : ∀ q ∈ lw_privs_6, lw_okq q := List.forall_mem_cons.mpr ⟨lw_p80, List.forall_mem_cons.mpr ⟨lw_p81, List.forall_mem_cons.mpr ⟨lw_p82, List.forall_mem_cons.mpr ⟨lw_p83, List.forall_mem_cons.mpr ⟨lw_p84, List.forall_mem_cons.mpr ⟨lw_p85, List.forall_mem_cons.mpr ⟨lw_p86, List.forall_mem_cons.mpr ⟨lw_p87, List.forall_mem_cons.mpr ⟨lw_p88, List.forall_mem_cons.mpr ⟨lw_p89, List.forall_mem_cons.mpr ⟨lw_p90, List.forall_mem_cons.mpr ⟨lw_p91, fun _ h => absurd h List.not_mem_nil⟩⟩⟩⟩⟩⟩⟩⟩⟩⟩⟩⟩
def lw_privs : List (MethodName × Nat) := lw_privs_1 ++ (lw_privs_2 ++ (lw_privs_3 ++ (lw_privs_4 ++ (lw_privs_5 ++ (lw_privs_6)))))
def lw_tbl : List Cond := k2_sels lw_privs ++ tables_1
theorem lw_privs_ok : ∀ q ∈ lw_privs, lw_okq q := by
  show ∀ q ∈ lw_privs_1 ++ (lw_privs_2 ++ (lw_privs_3 ++ (lw_privs_4 ++ (lw_privs_5 ++ (lw_privs_6))))), lw_okq q
  exact List.forall_mem_append.mpr ⟨lw_r1, List.forall_mem_append.mpr ⟨lw_r2, List.forall_mem_append.mpr ⟨lw_r3, List.forall_mem_append.mpr ⟨lw_r4, List.forall_mem_append.mpr ⟨lw_r5, lw_r6⟩⟩⟩⟩⟩
end
section
/-! The pure machine: states as functions, straight stretches as a program that runs by rfl. -/
/-- ints and longs, by the place of the cell and the slot (or the index) in it -/
abbrev zx_D : Type := (Nat → Nat → Int32) × (Nat → Nat → Int64)
/-- a state: the references that change (each a place), and the numbers -/
abbrev zx_S : Type := List Nat × zx_D
def zg_i (D : zx_D) (p k : Nat) : Int32 := D.1 p k
def zg_l (D : zx_D) (p k : Nat) : Int64 := D.2 p k
def zp_i (D : zx_D) (p k : Nat) (x : Int32) : zx_D := (va_up D.1 p (va_up (D.1 p) k x), D.2)
def zp_l (D : zx_D) (p k : Nat) (x : Int64) : zx_D := (D.1, va_up D.2 p (va_up (D.2 p) k x))
/-- a whole int array at once -/
def zp_a (D : zx_D) (p : Nat) (f : Nat → Int32) : zx_D := (va_up D.1 p f, D.2)
def zn (i : Int32) : Nat := i.toNatClampNeg
-- the operations by name
def zo_shl (x y : Int32) : Int32 := x <<< (y &&& 31)
def zo_shr (x y : Int32) : Int32 := x >>> (y &&& 31)
def zo_ushr (x y : Int32) : Int32 := (x.toUInt32 >>> (y.toUInt32 &&& Int32.toUInt32 31)).toInt32
def zo_lshl (x : Int64) (y : Int32) : Int64 := x <<< (y.toInt64 &&& 63)
def zo_lshr (x : Int64) (y : Int32) : Int64 := x >>> (y.toInt64 &&& 63)
def zo_lushr (x : Int64) (y : Int32) : Int64 := (x.toUInt64 >>> (y.toInt64.toUInt64 &&& Int64.toUInt64 63)).toInt64
def zo_rem (x y : Int32) : Int32 := x - x / y * y
/-- a place: an object (its class's number, the kinds of its slots: 0 int, 1 long, 3 boolean, 50 and on: a reference that changes, by its number; 100 and on: a reference that stays, to that place) or an array (its length; of longs or of ints) -/
abbrev zx_C : Type := (Nat × List Nat) ⊕ (Nat × Bool)
/-- an instruction: what it does, two numbers, a value, pairs of a class's number and a slot (or a method's number) -/
abbrev zx_I : Type := Nat × Nat × Nat × Value × List (Nat × Nat)
abbrev zx_K : Type := List (Nat × List (Nat × Nat × zx_I))
/-- where the machine is: the place in the code, the locals, the stack, the state -/
abbrev zx_X : Type := Nat × List (Option Value) × List Value × zx_S
def zx_at1 : List (Nat × Nat × zx_I) → Nat → Option (Nat × zx_I)
  | [], _ => none
  | e :: r, pc => if e.1 = pc then some e.2 else zx_at1 r pc
def zx_at : zx_K → Nat → Option (Nat × zx_I)
  | [], _ => none
  | g :: r, pc => if pc < g.1 then zx_at1 g.2 pc else zx_at r pc
/-- storing to a local -/
def zx_kill (L : List (Option Value)) : Nat → List (Option Value)
  | 0 => L
  | a + 1 => match L[a]? with
    | some (some (.long _)) => L.set a none
    | some (some (.double _)) => L.set a none
    | _ => L
def zx_sto (L : List (Option Value)) (a : Nat) (w : Value) : Option (List (Option Value)) :=
  match w with
  | .int x => if a < L.length then some ((zx_kill L a).set a (some (.int x))) else none
  | .ref x => if a < L.length then some ((zx_kill L a).set a (some (.ref x))) else none
  | .long x => if a + 1 < L.length then some (((zx_kill L a).set a (some (.long x))).set (a + 1) none) else none
  | _ => none
def zx_find : List (Nat × Nat) → Nat → Option Nat
  | [], _ => none
  | e :: r, c => if e.1 = c then some e.2 else zx_find r c
/-- reading a field, and writing it -/
def zx_gf (lay : List zx_C) (S : zx_S) (as : List (Nat × Nat)) (p : Nat) : Option Value :=
  match lay[p]? with
  | some (.inl (ci, ks)) => match zx_find as ci with
    | some k => match ks[k]? with
      | some 0 => some (.int (zg_i S.2 p k))
      | some 1 => some (.long (zg_l S.2 p k))
      | some 3 => some (.int (zg_i S.2 p k))
      | some kd => if 100 ≤ kd then some (.ref (kd - 100)) else if 50 ≤ kd then (match S.1[kd - 50]? with
        | some q => some (.ref q)
        | none => none) else none
      | none => none
    | none => none
  | _ => none
def zx_pf (lay : List zx_C) (S : zx_S) (as : List (Nat × Nat)) (p : Nat) (w : Value) : Option (Option Prop × zx_S) :=
  match lay[p]? with
  | some (.inl (ci, ks)) => match zx_find as ci with
    | some k => match ks[k]?, w with
      | some 0, .int x => some (none, S.1, zp_i S.2 p k x)
      | some 1, .long x => some (none, S.1, zp_l S.2 p k x)
      | some 3, .int x => some (some (x = 0 ∨ x = 1), S.1, zp_i S.2 p k x)
      | some kd, .ref q => if 50 ≤ kd ∧ kd < 100 ∧ kd - 50 < S.1.length then some (none, S.1.set (kd - 50) q, S.2) else none
      | _, _ => none
    | none => none
  | _ => none
/-- reading an array (beyond the places: the class's own table), and writing it -/
def zx_ald (lay : List zx_C) (ro : Nat × (Nat → Int32)) (S : zx_S) (b p : Nat) (i : Int32) : Option (Prop × Value) :=
  match b, lay[p]? with
  | 0, some (.inr (n, false)) => some (vp_in i n, .int (zg_i S.2 p (zn i)))
  | 1, some (.inr (n, true)) => some (vp_in i n, .long (zg_l S.2 p (zn i)))
  | 0, none => if p = lay.length then some (vp_in i ro.1, .int (ro.2 (zn i))) else none
  | _, _ => none
def zx_ast (lay : List zx_C) (S : zx_S) (b p : Nat) (i : Int32) (w : Value) : Option (Prop × zx_S) :=
  match b, lay[p]?, w with
  | 0, some (.inr (n, false)), .int x => some (vp_in i n, S.1, zp_i S.2 p (zn i) x)
  | 1, some (.inr (n, true)), .long x => some (vp_in i n, S.1, zp_l S.2 p (zn i) x)
  | _, _, _ => none
def zx_aln (lay : List zx_C) (ro : Nat × (Nat → Int32)) (p : Nat) : Option Int32 :=
  match lay[p]? with
  | some (.inr (n, _)) => some (Int32.ofNat n)
  | some _ => none
  | none => if p = lay.length then some (Int32.ofNat ro.1) else none
/-- two values, one comes back -/
def zx_bin (b : Nat) (x y : Value) : Option Value :=
  match b, x, y with
  | 0, .int x, .int y => some (.int (x + y))
  | 1, .int x, .int y => some (.int (x - y))
  | 2, .int x, .int y => some (.int (x * y))
  | 3, .int x, .int y => if y = 0 then none else some (.int (x / y))
  | 4, .int x, .int y => if y = 0 then none else some (.int (zo_rem x y))
  | 5, .int x, .int y => some (.int (x &&& y))
  | 6, .int x, .int y => some (.int (x ||| y))
  | 7, .int x, .int y => some (.int (zo_shl x y))
  | 8, .int x, .int y => some (.int (zo_shr x y))
  | 9, .int x, .int y => some (.int (zo_ushr x y))
  | 10, .long x, .long y => some (.long (x + y))
  | 11, .long x, .long y => some (.long (x - y))
  | 12, .long x, .long y => some (.long (x * y))
  | 13, .long x, .long y => if y = 0 then none else some (.long (x / y))
  | 14, .long x, .long y => some (.long (x &&& y))
  | 15, .long x, .long y => some (.long (x ||| y))
  | 16, .long x, .long y => some (.long (x ^^^ y))
  | 17, .long x, .int y => some (.long (zo_lshl x y))
  | 18, .long x, .int y => some (.long (zo_lshr x y))
  | 19, .long x, .int y => some (.long (zo_lushr x y))
  | _, _, _ => none
def zx_ld (b : Nat) (w : Option (Option Value)) : Option Value :=
  match b, w with
  | 0, some (some (.int x)) => some (.int x)
  | 1, some (some (.long x)) => some (.long x)
  | 2, some (some (.ref x)) => some (.ref x)
  | _, _ => none
/-- the words on a stack -/
def zx_wd : List Value → Nat
  | [] => 0
  | .long _ :: r => zx_wd r + 2
  | .double _ :: r => zx_wd r + 2
  | _ :: r => zx_wd r + 1
/-- one step on a straight stretch: what must hold, and where it leads -/
def zx_stp (lay : List zx_C) (ro : Nat × (Nat → Int32)) (n : Nat) (e : zx_I) (X : zx_X) : Option (Option Prop × zx_X) :=
  match e, X with
  | (op, a, b, v, as), (pc, L, st, S) => match op with
    | 0 => some (none, (pc + n, L, v :: st, S))
    | 1 => match zx_ld b L[a]? with
      | some w => some (none, (pc + n, L, w :: st, S))
      | _ => none
    | 2 => match st with
      | w :: st => match zx_ld b (some (some w)) with
        | some w => match zx_sto L a w with
          | some L' => some (none, (pc + n, L', st, S))
          | none => none
        | none => none
      | _ => none
    | 3 => match L[a]?, v with
      | some (some (.int x)), .int d => match zx_sto L a (.int (x + d)) with
        | some L' => some (none, (pc + n, L', st, S))
        | none => none
      | _, _ => none
    | 4 => match st with
      | y :: x :: st => match zx_bin b x y with
        | some w => some (none, (pc + n, L, w :: st, S))
        | none => none
      | _ => none
    | 5 => match b, st with
      | 0, .int x :: st => some (none, (pc + n, L, .long x.toInt64 :: st, S))
      | 1, .long x :: st => some (none, (pc + n, L, .int x.toInt32 :: st, S))
      | _, _ => none
    | 6 => some (none, (a, L, st, S))
    | 7 => match st with
      | .ref p :: st => match zx_gf lay S as p with
        | some w => some (none, (pc + n, L, w :: st, S))
        | none => none
      | _ => none
    | 8 => match st with
      | w :: .ref p :: st => match zx_pf lay S as p w with
        | some (c, S') => some (c, (pc + n, L, st, S'))
        | none => none
      | _ => none
    | 9 => match st with
      | .int i :: .ref p :: st => match zx_ald lay ro S b p i with
        | some (c, w) => some (some c, (pc + n, L, w :: st, S))
        | none => none
      | _ => none
    | 10 => match st with
      | w :: .int i :: .ref p :: st => match zx_ast lay S b p i w with
        | some (c, S') => some (some c, (pc + n, L, st, S'))
        | none => none
      | _ => none
    | 11 => match st with
      | .ref p :: st => match zx_aln lay ro p with
        | some x => some (none, (pc + n, L, .int x :: st, S))
        | none => none
      | _ => none
    | 12 => match st with
      | .int x :: st => some (none, (pc + n, L, .int x :: .int x :: st, S))
      | .ref x :: st => some (none, (pc + n, L, .ref x :: .ref x :: st, S))
      | _ => none
    | 13 => match st with
      | .int x :: .ref y :: st => some (none, (pc + n, L, .int x :: .ref y :: .int x :: .ref y :: st, S))
      | _ => none
    | 14 => some (none, (pc + n, L, .ref lay.length :: st, S))
    | 15 => match b, st with
      | 0, .int y :: .int x :: st => if zx_wd st ≤ 8 then some (none, (pc + n, L, .int (if y < x then y else x) :: st, S)) else none
      | 1, .int y :: .int x :: st => if zx_wd st ≤ 8 then some (none, (pc + n, L, .int (if x < y then y else x) :: st, S)) else none
      | _, _ => none
    | 16 => match st with
      | .int k :: .int dp :: .ref q :: .int sp :: .ref p :: st => match lay[p]?, lay[q]? with
        | some (.inr (n0, false)), some (.inr (n1, false)) => if zx_wd st ≤ 8 then some (some (¬ sp < 0 ∧ ¬ dp < 0 ∧ ¬ k < 0 ∧ zn sp + zn k ≤ n0 ∧ zn dp + zn k ≤ n1), (pc + n, L, st, S.1, zp_a S.2 q (va_cpy (S.2.1 p) (S.2.1 q) (zn sp) (zn dp) (zn k)))) else none
        | _, _ => none
      | _ => none
    | _ => none
/-- a straight stretch of k steps: what must hold, and where it leads -/
def zx_run (lay : List zx_C) (ro : Nat × (Nat → Int32)) (K : zx_K) : Nat → Prop → zx_X → Option (Prop × zx_X)
  | 0, P, X => some (P, X)
  | k + 1, P, X => match zx_at K X.1 with
    | some (n, e) => match zx_stp lay ro n e X with
      | some (none, X') => zx_run lay ro K k P X'
      | some (some c, X') => zx_run lay ro K k (P ∧ c) X'
      | none => none
    | none => none
/-- a fork: the condition, where it leads if it holds, and if not -/
def zx_ci (b : Nat) (x y : Int32) : Prop := match b with
  | 0 => x = y
  | 1 => ¬ x = y
  | 2 => x < y
  | 3 => y ≤ x
  | 4 => y < x
  | _ => x ≤ y
def zx_cl' (b : Nat) (x y : Int64) : Prop := match b with
  | 0 => x = y
  | 1 => ¬ x = y
  | 2 => x < y
  | 3 => y ≤ x
  | 4 => y < x
  | _ => x ≤ y
def zx_brn (n : Nat) (e : zx_I) (X : zx_X) : Option (Prop × zx_X × zx_X) :=
  match e, X with
  | (op, a, b, _, _), (pc, L, st, S) => match op, st with
    | 20, .int y :: .int x :: st => some (zx_ci b x y, (a, L, st, S), (pc + n, L, st, S))
    | 21, .int x :: st => some (zx_ci b x 0, (a, L, st, S), (pc + n, L, st, S))
    | 22, .long y :: .long x :: st => some (zx_cl' b x y, (a, L, st, S), (pc + n, L, st, S))
    | _, _ => none
/-- a call: the method's number, what it is given, and where it comes back (its answer is laid on the stack there) -/
def zx_cal (lay : List zx_C) (n : Nat) (e : zx_I) (X : zx_X) : Option (Nat × List Value × zx_X) :=
  match e, X with
  | (op, _, b, _, as), (pc, L, st, S) => match op with
    | 30 => match st.drop b with
      | .ref p :: rest => match lay[p]? with
        | some (.inl (ci, _)) => match zx_find as ci with
          | some k => if zx_wd rest ≤ 8 then some (k, .ref p :: (st.take b).reverse, (pc + n, L, rest, S)) else none
          | none => none
        | _ => none
      | _ => none
    | 31 => match as with
      | [(_, k)] => if zx_wd (st.drop b) ≤ 8 ∧ b ≤ st.length then some (k, (st.take b).reverse, (pc + n, L, st.drop b, S)) else none
      | _ => none
    | _ => none
/-- the end: what must hold, and the answer -/
def zx_rtn (e : zx_I) (X : zx_X) : Option (Prop × Option Value) :=
  match e, X with
  | (op, _, b, _, _), (_, _, st, _) => match op, b, st with
    | 40, 0, [] => some (True, none)
    | 40, 1, [.int x] => some (True, some (.int x))
    | 40, 2, [.long x] => some (True, some (.long x))
    | 40, 3, [.ref x] => some (True, some (.ref x))
    | 40, 4, [.int x] => some (x = 0 ∨ x = 1, some (.int x))
    | _, _, _ => none
end
section
/-! Names: classes, words, tables (written by a program out of the Statement) -/
def zt_P : u_T := fun k => match k with
  | 0 => ("IntervalPacker", "plain", "LIntervalPacker$Row;", true)
  | 1 => ("IntervalPacker", "packed", "LIntervalPacker$Row;", true)
  | 2 => ("IntervalPacker", "source", "LIntervalPacker$BitSource;", true)
  | 3 => ("IntervalPacker", "reader", "LIntervalPacker$Unpacking;", true)
  | _ => ("IntervalPacker", "writer", "LIntervalPacker$Packing;", true)
def zt_Row : u_T := fun k => match k with
  | 0 => ("IntervalPacker$Row", "bytes", "[I", true)
  | 1 => ("IntervalPacker$Row", "size", "I", false)
  | _ => ("IntervalPacker$Row", "overfull", "Z", false)
def zt_Cur : u_T := fun k => match k with
  | 0 => ("IntervalPacker$Cursor", "bytes", "[I", false)
  | 1 => ("IntervalPacker$Cursor", "size", "I", false)
  | 2 => ("IntervalPacker$Cursor", "end", "I", false)
  | 3 => ("IntervalPacker$Cursor", "next", "I", false)
  | 4 => ("IntervalPacker$Cursor", "fault", "I", false)
  | _ => ("IntervalPacker$Cursor", "place", "I", false)
def zt_Src : u_T := fun k => match k with
  | 0 => ("IntervalPacker$BitLine", "chances", "[I", true)
  | 1 => ("IntervalPacker$BitLine", "range", "J", false)
  | 2 => ("IntervalPacker$BitLine", "broken", "Z", false)
  | 3 => ("IntervalPacker$BitSource", "data", "[I", false)
  | 4 => ("IntervalPacker$BitSource", "next", "I", false)
  | 5 => ("IntervalPacker$BitSource", "end", "I", false)
  | 6 => ("IntervalPacker$BitSource", "codeNow", "J", false)
  | 7 => ("IntervalPacker$BitSource", "beyond", "Z", false)
  | 8 => ("IntervalPacker$BitSource", "taken", "I", false)
  | 9 => ("IntervalPacker$BitSource", "watched", "I", false)
  | 10 => ("IntervalPacker$BitSource", "keptRange", "J", false)
  | _ => ("IntervalPacker$BitSource", "keptCode", "J", false)
def zt_Snk : u_T := fun k => match k with
  | 0 => ("IntervalPacker$BitLine", "chances", "[I", true)
  | 1 => ("IntervalPacker$BitLine", "range", "J", false)
  | 2 => ("IntervalPacker$BitLine", "broken", "Z", false)
  | 3 => ("IntervalPacker$BitSink", "data", "[I", true)
  | 4 => ("IntervalPacker$BitSink", "size", "I", false)
  | _ => ("IntervalPacker$BitSink", "most", "I", false)
def zt_Mdl : u_T := fun k => match k with
  | 0 => ("IntervalPacker$Model", "chances", "[I", true)
  | 1 => ("IntervalPacker$Model", "distances", "[J", true)
  | 2 => ("IntervalPacker$Model", "state", "I", false)
  | 3 => ("IntervalPacker$Model", "lc", "I", false)
  | 4 => ("IntervalPacker$Model", "lp", "I", false)
  | 5 => ("IntervalPacker$Model", "pb", "I", false)
  | 6 => ("IntervalPacker$Model", "line", "LIntervalPacker$BitLine;", false)
  | 7 => ("IntervalPacker$Model", "kind", "I", false)
  | 8 => ("IntervalPacker$Model", "octet", "I", false)
  | 9 => ("IntervalPacker$Model", "length", "I", false)
  | _ => ("IntervalPacker$Model", "distance", "J", false)
def zt_Unp : u_T := fun k => match k with
  | 0 => ("IntervalPacker$Unpacking", "given", "LIntervalPacker$Row;", true)
  | 1 => ("IntervalPacker$Unpacking", "cursor", "LIntervalPacker$Cursor;", true)
  | 2 => ("IntervalPacker$Unpacking", "counts", "[I", true)
  | 3 => ("IntervalPacker$Unpacking", "model", "LIntervalPacker$Model;", true)
  | 4 => ("IntervalPacker$Unpacking", "source", "LIntervalPacker$BitSource;", true)
  | 5 => ("IntervalPacker$Unpacking", "sizes", "[J", true)
  | 6 => ("IntervalPacker$Unpacking", "gifts", "[J", true)
  | 7 => ("IntervalPacker$Unpacking", "sort", "I", false)
  | 8 => ("IntervalPacker$Unpacking", "blockPlace", "I", false)
  | 9 => ("IntervalPacker$Unpacking", "givenBefore", "I", false)
  | 10 => ("IntervalPacker$Unpacking", "saidSize", "J", false)
  | 11 => ("IntervalPacker$Unpacking", "saidGift", "J", false)
  | 12 => ("IntervalPacker$Unpacking", "dictionary", "I", false)
  | 13 => ("IntervalPacker$Unpacking", "isFirstChunk", "Z", false)
  | 14 => ("IntervalPacker$Unpacking", "lacksProperties", "Z", false)
  | 15 => ("IntervalPacker$Unpacking", "control", "I", false)
  | 16 => ("IntervalPacker$Unpacking", "gift", "I", false)
  | 17 => ("IntervalPacker$Unpacking", "dataSize", "I", false)
  | _ => ("IntervalPacker$Unpacking", "indexSize", "I", false)
def zt_Pkg : u_T := fun k => match k with
  | 0 => ("IntervalPacker$Packing", "draft", "LIntervalPacker$Row;", true)
  | 1 => ("IntervalPacker$Packing", "model", "LIntervalPacker$Model;", true)
  | 2 => ("IntervalPacker$Packing", "sink", "LIntervalPacker$BitSink;", true)
  | 3 => ("IntervalPacker$Packing", "end", "[I", true)
  | 4 => ("IntervalPacker$Packing", "plain", "LIntervalPacker$Row;", false)
  | 5 => ("IntervalPacker$Packing", "sort", "I", false)
  | 6 => ("IntervalPacker$Packing", "properties", "I", false)
  | 7 => ("IntervalPacker$Packing", "blockPlace", "I", false)
  | 8 => ("IntervalPacker$Packing", "blockSize", "J", false)
  | 9 => ("IntervalPacker$Packing", "indexSize", "I", false)
  | 10 => ("IntervalPacker$Packing", "isFirstChunk", "Z", false)
  | 11 => ("IntervalPacker$Packing", "isFirstCoded", "Z", false)
  | 12 => ("IntervalPacker$Packing", "isBehindPlain", "Z", false)
  | 13 => ("IntervalPacker$Packing", "matchLength", "I", false)
  | 14 => ("IntervalPacker$Packing", "matchDistance", "I", false)
  | 15 => ("IntervalPacker$Packing", "againLength", "I", false)
  | _ => ("IntervalPacker$Packing", "again", "I", false)
def zt_R : u_T := fun k => match k with
  | 0 => ("IntervalPackerModel", "plain", "[I", true)
  | 1 => ("IntervalPackerModel", "plainSize", "I", false)
  | 2 => ("IntervalPackerModel", "packed", "[I", true)
  | 3 => ("IntervalPackerModel", "packedSize", "I", false)
  | 4 => ("IntervalPackerModel", "made", "[I", true)
  | 5 => ("IntervalPackerModel", "madeSize", "I", false)
  | 6 => ("IntervalPackerModel", "box", "[I", true)
  | 7 => ("IntervalPackerModel", "boxSize", "I", false)
  | 8 => ("IntervalPackerModel", "chances", "[I", true)
  | 9 => ("IntervalPackerModel", "lc", "I", false)
  | 10 => ("IntervalPackerModel", "lp", "I", false)
  | 11 => ("IntervalPackerModel", "pb", "I", false)
  | 12 => ("IntervalPackerModel", "state", "I", false)
  | 13 => ("IntervalPackerModel", "r0", "J", false)
  | 14 => ("IntervalPackerModel", "r1", "J", false)
  | 15 => ("IntervalPackerModel", "r2", "J", false)
  | 16 => ("IntervalPackerModel", "r3", "J", false)
  | 17 => ("IntervalPackerModel", "range", "J", false)
  | 18 => ("IntervalPackerModel", "code", "J", false)
  | 19 => ("IntervalPackerModel", "next", "I", false)
  | 20 => ("IntervalPackerModel", "end", "I", false)
  | 21 => ("IntervalPackerModel", "left", "I", false)
  | 22 => ("IntervalPackerModel", "bad", "Z", false)
  | 23 => ("IntervalPackerModel", "first", "I", false)
  | 24 => ("IntervalPackerModel", "low", "[I", true)
  | 25 => ("IntervalPackerModel", "lowSize", "I", false)
  | 26 => ("IntervalPackerModel", "limit", "I", false)
  | 27 => ("IntervalPackerModel", "lost", "Z", false)
  | 28 => ("IntervalPackerModel", "at", "I", false)
  | 29 => ("IntervalPackerModel", "fault", "I", false)
  | 30 => ("IntervalPackerModel", "faultAt", "I", false)
  | 31 => ("IntervalPackerModel", "sort", "I", false)
  | 32 => ("IntervalPackerModel", "blocks", "I", false)
  | 33 => ("IntervalPackerModel", "sizes", "[I", true)
  | 34 => ("IntervalPackerModel", "gives", "[I", true)
  | 35 => ("IntervalPackerModel", "emptied", "Z", false)
  | 36 => ("IntervalPackerModel", "bare", "Z", false)
  | 37 => ("IntervalPackerModel", "watched", "I", false)
  | 38 => ("IntervalPackerModel", "looked", "I", false)
  | 39 => ("IntervalPackerModel", "keptRange", "J", false)
  | 40 => ("IntervalPackerModel", "keptCode", "J", false)
  | _ => ("IntervalPackerModel", "counts", "[I", true)
def zx_on (o : Nat) : String := ["IntervalPacker", "IntervalPacker$Row", "IntervalPacker$Cursor", "IntervalPacker$BitSource", "IntervalPacker$BitSink", "IntervalPacker$Model", "IntervalPacker$Unpacking", "IntervalPacker$Packing", "IntervalPackerModel", "IntervalPacker$BitLine", "java/util/Arrays", "java/lang/Long", "java/lang/Integer"].getD o ""
abbrev zx_cl : List vw_C := [("IntervalPacker", zt_P, 5), ("IntervalPacker$Row", zt_Row, 3), ("IntervalPacker$Cursor", zt_Cur, 6), ("IntervalPacker$BitSource", zt_Src, 12), ("IntervalPacker$BitSink", zt_Snk, 6), ("IntervalPacker$Model", zt_Mdl, 11), ("IntervalPacker$Unpacking", zt_Unp, 19), ("IntervalPacker$Packing", zt_Pkg, 17), ("IntervalPackerModel", zt_R, 42)]
def zx_kd (ci : Nat) : List Nat := [[2, 2, 2, 2, 2], [2, 0, 3], [2, 0, 0, 0, 0, 0], [2, 1, 3, 2, 0, 0, 1, 3, 0, 0, 1, 1], [2, 1, 3, 2, 0, 0], [2, 2, 0, 0, 0, 0, 2, 0, 0, 0, 1], [2, 2, 2, 2, 2, 2, 2, 0, 0, 0, 1, 1, 0, 3, 3, 0, 0, 0, 0], [2, 2, 2, 2, 2, 0, 0, 0, 1, 0, 3, 3, 3, 0, 0, 0, 0], [2, 0, 2, 0, 2, 0, 2, 0, 2, 0, 0, 0, 0, 1, 1, 1, 1, 1, 1, 0, 0, 0, 3, 0, 2, 0, 0, 3, 0, 0, 0, 0, 0, 2, 2, 3, 3, 0, 0, 1, 1, 2]].getD ci []
def zx_mgC : String := "IntervalPacker"
def zx_mgN : String := "MAGIC"
def zx_mgD : String := "[I"
def zx_WS : List Cond := lw_tbl.filter goodWord
theorem zx_good (w : Cond) (h : w ∈ zx_WS) : (w.onTables && w.keeps) = true ∨ ∃ ty, w = .arrayClass ty := good_of_word (List.mem_filter.mp h).2
theorem zx_r0 {w : Cond} (h : w ∈ tables_1_1) (hg : goodWord w = true) : w ∈ zx_WS := List.mem_filter.mpr ⟨List.mem_append_right _ (show w ∈ tables_1 from List.mem_append_left _ h), hg⟩
theorem zx_r1 {w : Cond} (h : w ∈ tables_1_2) (hg : goodWord w = true) : w ∈ zx_WS := List.mem_filter.mpr ⟨List.mem_append_right _ (show w ∈ tables_1 from List.mem_append_right _ (List.mem_append_left _ h)), hg⟩
theorem zx_r2 {w : Cond} (h : w ∈ tables_1_3) (hg : goodWord w = true) : w ∈ zx_WS := List.mem_filter.mpr ⟨List.mem_append_right _ (show w ∈ tables_1 from List.mem_append_right _ (List.mem_append_right _ (List.mem_append_left _ h))), hg⟩
theorem zx_r3 {w : Cond} (h : w ∈ tables_1_4) (hg : goodWord w = true) : w ∈ zx_WS := List.mem_filter.mpr ⟨List.mem_append_right _ (show w ∈ tables_1 from List.mem_append_right _ (List.mem_append_right _ (List.mem_append_right _ (List.mem_append_left _ h)))), hg⟩
theorem zx_r4 {w : Cond} (h : w ∈ tables_1_5) (hg : goodWord w = true) : w ∈ zx_WS := List.mem_filter.mpr ⟨List.mem_append_right _ (show w ∈ tables_1 from List.mem_append_right _ (List.mem_append_right _ (List.mem_append_right _ (List.mem_append_right _ (List.mem_append_left _ h))))), hg⟩
theorem zx_r5 {w : Cond} (h : w ∈ tables_1_6) (hg : goodWord w = true) : w ∈ zx_WS := List.mem_filter.mpr ⟨List.mem_append_right _ (show w ∈ tables_1 from List.mem_append_right _ (List.mem_append_right _ (List.mem_append_right _ (List.mem_append_right _ (List.mem_append_right _ (h)))))), hg⟩
theorem zx_rs {q : MethodName × Nat} (h : q ∈ lw_privs) : Cond.selects q.1.cls q.1 q.1 ∈ zx_WS := List.mem_filter.mpr ⟨List.mem_append_left _ (List.mem_map.mpr ⟨q, h, rfl⟩), rfl⟩
theorem wd_1_108 : (Jvm.Cond.laysFinal "IntervalPacker" "IntervalPacker" "plain" "LIntervalPacker$Row;") ∈ zx_WS := zx_r1 (List.mem_of_getElem? (i := 108) rfl) rfl
theorem wd_1_110 : (Jvm.Cond.laysFinal "IntervalPacker" "IntervalPacker" "packed" "LIntervalPacker$Row;") ∈ zx_WS := zx_r1 (List.mem_of_getElem? (i := 110) rfl) rfl
theorem wd_1_112 : (Jvm.Cond.laysFinal "IntervalPacker" "IntervalPacker" "source" "LIntervalPacker$BitSource;") ∈ zx_WS := zx_r1 (List.mem_of_getElem? (i := 112) rfl) rfl
theorem wd_1_114 : (Jvm.Cond.laysFinal "IntervalPacker" "IntervalPacker" "reader" "LIntervalPacker$Unpacking;") ∈ zx_WS := zx_r1 (List.mem_of_getElem? (i := 114) rfl) rfl
theorem wd_1_116 : (Jvm.Cond.laysFinal "IntervalPacker" "IntervalPacker" "writer" "LIntervalPacker$Packing;") ∈ zx_WS := zx_r1 (List.mem_of_getElem? (i := 116) rfl) rfl
theorem zu_P : ∀ w ∈ u_ws "IntervalPacker" zt_P 5, w ∈ zx_WS := by
  intro w hw
  rcases List.mem_map.mp hw with ⟨k, hk, rfl⟩
  have hk := List.mem_range.mp hk
  match k, hk with
  | 0, _ => exact wd_1_108
  | 1, _ => exact wd_1_110
  | 2, _ => exact wd_1_112
  | 3, _ => exact wd_1_114
  | 4, _ => exact wd_1_116
  | j + 5, h => exact absurd h (by omega)
theorem wd_0_43 : (Jvm.Cond.laysFinal "IntervalPacker$Row" "IntervalPacker$Row" "bytes" "[I") ∈ zx_WS := zx_r0 (List.mem_of_getElem? (i := 43) rfl) rfl
theorem wd_0_45 : (Jvm.Cond.lays "IntervalPacker$Row" "IntervalPacker$Row" "size" "I") ∈ zx_WS := zx_r0 (List.mem_of_getElem? (i := 45) rfl) rfl
theorem wd_0_47 : (Jvm.Cond.lays "IntervalPacker$Row" "IntervalPacker$Row" "overfull" "Z") ∈ zx_WS := zx_r0 (List.mem_of_getElem? (i := 47) rfl) rfl
theorem zu_Row : ∀ w ∈ u_ws "IntervalPacker$Row" zt_Row 3, w ∈ zx_WS := by
  intro w hw
  rcases List.mem_map.mp hw with ⟨k, hk, rfl⟩
  have hk := List.mem_range.mp hk
  match k, hk with
  | 0, _ => exact wd_0_43
  | 1, _ => exact wd_0_45
  | 2, _ => exact wd_0_47
  | j + 3, h => exact absurd h (by omega)
theorem wd_0_187 : (Jvm.Cond.lays "IntervalPacker$Cursor" "IntervalPacker$Cursor" "bytes" "[I") ∈ zx_WS := zx_r0 (List.mem_of_getElem? (i := 187) rfl) rfl
theorem wd_0_189 : (Jvm.Cond.lays "IntervalPacker$Cursor" "IntervalPacker$Cursor" "size" "I") ∈ zx_WS := zx_r0 (List.mem_of_getElem? (i := 189) rfl) rfl
theorem wd_0_191 : (Jvm.Cond.lays "IntervalPacker$Cursor" "IntervalPacker$Cursor" "end" "I") ∈ zx_WS := zx_r0 (List.mem_of_getElem? (i := 191) rfl) rfl
theorem wd_0_193 : (Jvm.Cond.lays "IntervalPacker$Cursor" "IntervalPacker$Cursor" "next" "I") ∈ zx_WS := zx_r0 (List.mem_of_getElem? (i := 193) rfl) rfl
theorem wd_0_195 : (Jvm.Cond.lays "IntervalPacker$Cursor" "IntervalPacker$Cursor" "fault" "I") ∈ zx_WS := zx_r0 (List.mem_of_getElem? (i := 195) rfl) rfl
theorem wd_0_197 : (Jvm.Cond.lays "IntervalPacker$Cursor" "IntervalPacker$Cursor" "place" "I") ∈ zx_WS := zx_r0 (List.mem_of_getElem? (i := 197) rfl) rfl
theorem zu_Cur : ∀ w ∈ u_ws "IntervalPacker$Cursor" zt_Cur 6, w ∈ zx_WS := by
  intro w hw
  rcases List.mem_map.mp hw with ⟨k, hk, rfl⟩
  have hk := List.mem_range.mp hk
  match k, hk with
  | 0, _ => exact wd_0_187
  | 1, _ => exact wd_0_189
  | 2, _ => exact wd_0_191
  | 3, _ => exact wd_0_193
  | 4, _ => exact wd_0_195
  | 5, _ => exact wd_0_197
  | j + 6, h => exact absurd h (by omega)
theorem wd_0_107 : (Jvm.Cond.laysFinal "IntervalPacker$BitSource" "IntervalPacker$BitLine" "chances" "[I") ∈ zx_WS := zx_r0 (List.mem_of_getElem? (i := 107) rfl) rfl
theorem wd_0_109 : (Jvm.Cond.lays "IntervalPacker$BitSource" "IntervalPacker$BitLine" "range" "J") ∈ zx_WS := zx_r0 (List.mem_of_getElem? (i := 109) rfl) rfl
theorem wd_0_111 : (Jvm.Cond.lays "IntervalPacker$BitSource" "IntervalPacker$BitLine" "broken" "Z") ∈ zx_WS := zx_r0 (List.mem_of_getElem? (i := 111) rfl) rfl
theorem wd_0_89 : (Jvm.Cond.lays "IntervalPacker$BitSource" "IntervalPacker$BitSource" "data" "[I") ∈ zx_WS := zx_r0 (List.mem_of_getElem? (i := 89) rfl) rfl
theorem wd_0_91 : (Jvm.Cond.lays "IntervalPacker$BitSource" "IntervalPacker$BitSource" "next" "I") ∈ zx_WS := zx_r0 (List.mem_of_getElem? (i := 91) rfl) rfl
theorem wd_0_93 : (Jvm.Cond.lays "IntervalPacker$BitSource" "IntervalPacker$BitSource" "end" "I") ∈ zx_WS := zx_r0 (List.mem_of_getElem? (i := 93) rfl) rfl
theorem wd_0_95 : (Jvm.Cond.lays "IntervalPacker$BitSource" "IntervalPacker$BitSource" "codeNow" "J") ∈ zx_WS := zx_r0 (List.mem_of_getElem? (i := 95) rfl) rfl
theorem wd_0_97 : (Jvm.Cond.lays "IntervalPacker$BitSource" "IntervalPacker$BitSource" "beyond" "Z") ∈ zx_WS := zx_r0 (List.mem_of_getElem? (i := 97) rfl) rfl
theorem wd_0_99 : (Jvm.Cond.lays "IntervalPacker$BitSource" "IntervalPacker$BitSource" "taken" "I") ∈ zx_WS := zx_r0 (List.mem_of_getElem? (i := 99) rfl) rfl
theorem wd_0_101 : (Jvm.Cond.lays "IntervalPacker$BitSource" "IntervalPacker$BitSource" "watched" "I") ∈ zx_WS := zx_r0 (List.mem_of_getElem? (i := 101) rfl) rfl
theorem wd_0_103 : (Jvm.Cond.lays "IntervalPacker$BitSource" "IntervalPacker$BitSource" "keptRange" "J") ∈ zx_WS := zx_r0 (List.mem_of_getElem? (i := 103) rfl) rfl
theorem wd_0_105 : (Jvm.Cond.lays "IntervalPacker$BitSource" "IntervalPacker$BitSource" "keptCode" "J") ∈ zx_WS := zx_r0 (List.mem_of_getElem? (i := 105) rfl) rfl
theorem zu_Src : ∀ w ∈ u_ws "IntervalPacker$BitSource" zt_Src 12, w ∈ zx_WS := by
  intro w hw
  rcases List.mem_map.mp hw with ⟨k, hk, rfl⟩
  have hk := List.mem_range.mp hk
  match k, hk with
  | 0, _ => exact wd_0_107
  | 1, _ => exact wd_0_109
  | 2, _ => exact wd_0_111
  | 3, _ => exact wd_0_89
  | 4, _ => exact wd_0_91
  | 5, _ => exact wd_0_93
  | 6, _ => exact wd_0_95
  | 7, _ => exact wd_0_97
  | 8, _ => exact wd_0_99
  | 9, _ => exact wd_0_101
  | 10, _ => exact wd_0_103
  | 11, _ => exact wd_0_105
  | j + 12, h => exact absurd h (by omega)
theorem wd_1_40 : (Jvm.Cond.laysFinal "IntervalPacker$BitSink" "IntervalPacker$BitLine" "chances" "[I") ∈ zx_WS := zx_r1 (List.mem_of_getElem? (i := 40) rfl) rfl
theorem wd_1_41 : (Jvm.Cond.lays "IntervalPacker$BitSink" "IntervalPacker$BitLine" "range" "J") ∈ zx_WS := zx_r1 (List.mem_of_getElem? (i := 41) rfl) rfl
theorem wd_1_42 : (Jvm.Cond.lays "IntervalPacker$BitSink" "IntervalPacker$BitLine" "broken" "Z") ∈ zx_WS := zx_r1 (List.mem_of_getElem? (i := 42) rfl) rfl
theorem wd_1_34 : (Jvm.Cond.laysFinal "IntervalPacker$BitSink" "IntervalPacker$BitSink" "data" "[I") ∈ zx_WS := zx_r1 (List.mem_of_getElem? (i := 34) rfl) rfl
theorem wd_1_36 : (Jvm.Cond.lays "IntervalPacker$BitSink" "IntervalPacker$BitSink" "size" "I") ∈ zx_WS := zx_r1 (List.mem_of_getElem? (i := 36) rfl) rfl
theorem wd_1_38 : (Jvm.Cond.lays "IntervalPacker$BitSink" "IntervalPacker$BitSink" "most" "I") ∈ zx_WS := zx_r1 (List.mem_of_getElem? (i := 38) rfl) rfl
theorem zu_Snk : ∀ w ∈ u_ws "IntervalPacker$BitSink" zt_Snk 6, w ∈ zx_WS := by
  intro w hw
  rcases List.mem_map.mp hw with ⟨k, hk, rfl⟩
  have hk := List.mem_range.mp hk
  match k, hk with
  | 0, _ => exact wd_1_40
  | 1, _ => exact wd_1_41
  | 2, _ => exact wd_1_42
  | 3, _ => exact wd_1_34
  | 4, _ => exact wd_1_36
  | 5, _ => exact wd_1_38
  | j + 6, h => exact absurd h (by omega)
theorem wd_0_138 : (Jvm.Cond.laysFinal "IntervalPacker$Model" "IntervalPacker$Model" "chances" "[I") ∈ zx_WS := zx_r0 (List.mem_of_getElem? (i := 138) rfl) rfl
theorem wd_0_140 : (Jvm.Cond.laysFinal "IntervalPacker$Model" "IntervalPacker$Model" "distances" "[J") ∈ zx_WS := zx_r0 (List.mem_of_getElem? (i := 140) rfl) rfl
theorem wd_0_142 : (Jvm.Cond.lays "IntervalPacker$Model" "IntervalPacker$Model" "state" "I") ∈ zx_WS := zx_r0 (List.mem_of_getElem? (i := 142) rfl) rfl
theorem wd_0_144 : (Jvm.Cond.lays "IntervalPacker$Model" "IntervalPacker$Model" "lc" "I") ∈ zx_WS := zx_r0 (List.mem_of_getElem? (i := 144) rfl) rfl
theorem wd_0_146 : (Jvm.Cond.lays "IntervalPacker$Model" "IntervalPacker$Model" "lp" "I") ∈ zx_WS := zx_r0 (List.mem_of_getElem? (i := 146) rfl) rfl
theorem wd_0_148 : (Jvm.Cond.lays "IntervalPacker$Model" "IntervalPacker$Model" "pb" "I") ∈ zx_WS := zx_r0 (List.mem_of_getElem? (i := 148) rfl) rfl
theorem wd_0_150 : (Jvm.Cond.lays "IntervalPacker$Model" "IntervalPacker$Model" "line" "LIntervalPacker$BitLine;") ∈ zx_WS := zx_r0 (List.mem_of_getElem? (i := 150) rfl) rfl
theorem wd_0_152 : (Jvm.Cond.lays "IntervalPacker$Model" "IntervalPacker$Model" "kind" "I") ∈ zx_WS := zx_r0 (List.mem_of_getElem? (i := 152) rfl) rfl
theorem wd_0_154 : (Jvm.Cond.lays "IntervalPacker$Model" "IntervalPacker$Model" "octet" "I") ∈ zx_WS := zx_r0 (List.mem_of_getElem? (i := 154) rfl) rfl
theorem wd_0_156 : (Jvm.Cond.lays "IntervalPacker$Model" "IntervalPacker$Model" "length" "I") ∈ zx_WS := zx_r0 (List.mem_of_getElem? (i := 156) rfl) rfl
theorem wd_0_158 : (Jvm.Cond.lays "IntervalPacker$Model" "IntervalPacker$Model" "distance" "J") ∈ zx_WS := zx_r0 (List.mem_of_getElem? (i := 158) rfl) rfl
theorem zu_Mdl : ∀ w ∈ u_ws "IntervalPacker$Model" zt_Mdl 11, w ∈ zx_WS := by
  intro w hw
  rcases List.mem_map.mp hw with ⟨k, hk, rfl⟩
  have hk := List.mem_range.mp hk
  match k, hk with
  | 0, _ => exact wd_0_138
  | 1, _ => exact wd_0_140
  | 2, _ => exact wd_0_142
  | 3, _ => exact wd_0_144
  | 4, _ => exact wd_0_146
  | 5, _ => exact wd_0_148
  | 6, _ => exact wd_0_150
  | 7, _ => exact wd_0_152
  | 8, _ => exact wd_0_154
  | 9, _ => exact wd_0_156
  | 10, _ => exact wd_0_158
  | j + 11, h => exact absurd h (by omega)
theorem wd_0_222 : (Jvm.Cond.laysFinal "IntervalPacker$Unpacking" "IntervalPacker$Unpacking" "given" "LIntervalPacker$Row;") ∈ zx_WS := zx_r0 (List.mem_of_getElem? (i := 222) rfl) rfl
theorem wd_0_224 : (Jvm.Cond.laysFinal "IntervalPacker$Unpacking" "IntervalPacker$Unpacking" "cursor" "LIntervalPacker$Cursor;") ∈ zx_WS := zx_r0 (List.mem_of_getElem? (i := 224) rfl) rfl
theorem wd_0_226 : (Jvm.Cond.laysFinal "IntervalPacker$Unpacking" "IntervalPacker$Unpacking" "counts" "[I") ∈ zx_WS := zx_r0 (List.mem_of_getElem? (i := 226) rfl) rfl
theorem wd_0_228 : (Jvm.Cond.laysFinal "IntervalPacker$Unpacking" "IntervalPacker$Unpacking" "model" "LIntervalPacker$Model;") ∈ zx_WS := zx_r0 (List.mem_of_getElem? (i := 228) rfl) rfl
theorem wd_0_230 : (Jvm.Cond.laysFinal "IntervalPacker$Unpacking" "IntervalPacker$Unpacking" "source" "LIntervalPacker$BitSource;") ∈ zx_WS := zx_r0 (List.mem_of_getElem? (i := 230) rfl) rfl
theorem wd_0_232 : (Jvm.Cond.laysFinal "IntervalPacker$Unpacking" "IntervalPacker$Unpacking" "sizes" "[J") ∈ zx_WS := zx_r0 (List.mem_of_getElem? (i := 232) rfl) rfl
theorem wd_0_234 : (Jvm.Cond.laysFinal "IntervalPacker$Unpacking" "IntervalPacker$Unpacking" "gifts" "[J") ∈ zx_WS := zx_r0 (List.mem_of_getElem? (i := 234) rfl) rfl
theorem wd_0_236 : (Jvm.Cond.lays "IntervalPacker$Unpacking" "IntervalPacker$Unpacking" "sort" "I") ∈ zx_WS := zx_r0 (List.mem_of_getElem? (i := 236) rfl) rfl
theorem wd_0_238 : (Jvm.Cond.lays "IntervalPacker$Unpacking" "IntervalPacker$Unpacking" "blockPlace" "I") ∈ zx_WS := zx_r0 (List.mem_of_getElem? (i := 238) rfl) rfl
theorem wd_1_0 : (Jvm.Cond.lays "IntervalPacker$Unpacking" "IntervalPacker$Unpacking" "givenBefore" "I") ∈ zx_WS := zx_r1 (List.mem_of_getElem? (i := 0) rfl) rfl
theorem wd_1_2 : (Jvm.Cond.lays "IntervalPacker$Unpacking" "IntervalPacker$Unpacking" "saidSize" "J") ∈ zx_WS := zx_r1 (List.mem_of_getElem? (i := 2) rfl) rfl
theorem wd_1_4 : (Jvm.Cond.lays "IntervalPacker$Unpacking" "IntervalPacker$Unpacking" "saidGift" "J") ∈ zx_WS := zx_r1 (List.mem_of_getElem? (i := 4) rfl) rfl
theorem wd_1_6 : (Jvm.Cond.lays "IntervalPacker$Unpacking" "IntervalPacker$Unpacking" "dictionary" "I") ∈ zx_WS := zx_r1 (List.mem_of_getElem? (i := 6) rfl) rfl
theorem wd_1_8 : (Jvm.Cond.lays "IntervalPacker$Unpacking" "IntervalPacker$Unpacking" "isFirstChunk" "Z") ∈ zx_WS := zx_r1 (List.mem_of_getElem? (i := 8) rfl) rfl
theorem wd_1_10 : (Jvm.Cond.lays "IntervalPacker$Unpacking" "IntervalPacker$Unpacking" "lacksProperties" "Z") ∈ zx_WS := zx_r1 (List.mem_of_getElem? (i := 10) rfl) rfl
theorem wd_1_12 : (Jvm.Cond.lays "IntervalPacker$Unpacking" "IntervalPacker$Unpacking" "control" "I") ∈ zx_WS := zx_r1 (List.mem_of_getElem? (i := 12) rfl) rfl
theorem wd_1_14 : (Jvm.Cond.lays "IntervalPacker$Unpacking" "IntervalPacker$Unpacking" "gift" "I") ∈ zx_WS := zx_r1 (List.mem_of_getElem? (i := 14) rfl) rfl
theorem wd_1_16 : (Jvm.Cond.lays "IntervalPacker$Unpacking" "IntervalPacker$Unpacking" "dataSize" "I") ∈ zx_WS := zx_r1 (List.mem_of_getElem? (i := 16) rfl) rfl
theorem wd_1_18 : (Jvm.Cond.lays "IntervalPacker$Unpacking" "IntervalPacker$Unpacking" "indexSize" "I") ∈ zx_WS := zx_r1 (List.mem_of_getElem? (i := 18) rfl) rfl
theorem zu_Unp : ∀ w ∈ u_ws "IntervalPacker$Unpacking" zt_Unp 19, w ∈ zx_WS := by
  intro w hw
  rcases List.mem_map.mp hw with ⟨k, hk, rfl⟩
  have hk := List.mem_range.mp hk
  match k, hk with
  | 0, _ => exact wd_0_222
  | 1, _ => exact wd_0_224
  | 2, _ => exact wd_0_226
  | 3, _ => exact wd_0_228
  | 4, _ => exact wd_0_230
  | 5, _ => exact wd_0_232
  | 6, _ => exact wd_0_234
  | 7, _ => exact wd_0_236
  | 8, _ => exact wd_0_238
  | 9, _ => exact wd_1_0
  | 10, _ => exact wd_1_2
  | 11, _ => exact wd_1_4
  | 12, _ => exact wd_1_6
  | 13, _ => exact wd_1_8
  | 14, _ => exact wd_1_10
  | 15, _ => exact wd_1_12
  | 16, _ => exact wd_1_14
  | 17, _ => exact wd_1_16
  | 18, _ => exact wd_1_18
  | j + 19, h => exact absurd h (by omega)
theorem wd_1_68 : (Jvm.Cond.laysFinal "IntervalPacker$Packing" "IntervalPacker$Packing" "draft" "LIntervalPacker$Row;") ∈ zx_WS := zx_r1 (List.mem_of_getElem? (i := 68) rfl) rfl
theorem wd_1_70 : (Jvm.Cond.laysFinal "IntervalPacker$Packing" "IntervalPacker$Packing" "model" "LIntervalPacker$Model;") ∈ zx_WS := zx_r1 (List.mem_of_getElem? (i := 70) rfl) rfl
theorem wd_1_72 : (Jvm.Cond.laysFinal "IntervalPacker$Packing" "IntervalPacker$Packing" "sink" "LIntervalPacker$BitSink;") ∈ zx_WS := zx_r1 (List.mem_of_getElem? (i := 72) rfl) rfl
theorem wd_1_74 : (Jvm.Cond.laysFinal "IntervalPacker$Packing" "IntervalPacker$Packing" "end" "[I") ∈ zx_WS := zx_r1 (List.mem_of_getElem? (i := 74) rfl) rfl
theorem wd_1_76 : (Jvm.Cond.lays "IntervalPacker$Packing" "IntervalPacker$Packing" "plain" "LIntervalPacker$Row;") ∈ zx_WS := zx_r1 (List.mem_of_getElem? (i := 76) rfl) rfl
theorem wd_1_78 : (Jvm.Cond.lays "IntervalPacker$Packing" "IntervalPacker$Packing" "sort" "I") ∈ zx_WS := zx_r1 (List.mem_of_getElem? (i := 78) rfl) rfl
theorem wd_1_80 : (Jvm.Cond.lays "IntervalPacker$Packing" "IntervalPacker$Packing" "properties" "I") ∈ zx_WS := zx_r1 (List.mem_of_getElem? (i := 80) rfl) rfl
theorem wd_1_82 : (Jvm.Cond.lays "IntervalPacker$Packing" "IntervalPacker$Packing" "blockPlace" "I") ∈ zx_WS := zx_r1 (List.mem_of_getElem? (i := 82) rfl) rfl
theorem wd_1_84 : (Jvm.Cond.lays "IntervalPacker$Packing" "IntervalPacker$Packing" "blockSize" "J") ∈ zx_WS := zx_r1 (List.mem_of_getElem? (i := 84) rfl) rfl
theorem wd_1_86 : (Jvm.Cond.lays "IntervalPacker$Packing" "IntervalPacker$Packing" "indexSize" "I") ∈ zx_WS := zx_r1 (List.mem_of_getElem? (i := 86) rfl) rfl
theorem wd_1_88 : (Jvm.Cond.lays "IntervalPacker$Packing" "IntervalPacker$Packing" "isFirstChunk" "Z") ∈ zx_WS := zx_r1 (List.mem_of_getElem? (i := 88) rfl) rfl
theorem wd_1_90 : (Jvm.Cond.lays "IntervalPacker$Packing" "IntervalPacker$Packing" "isFirstCoded" "Z") ∈ zx_WS := zx_r1 (List.mem_of_getElem? (i := 90) rfl) rfl
theorem wd_1_92 : (Jvm.Cond.lays "IntervalPacker$Packing" "IntervalPacker$Packing" "isBehindPlain" "Z") ∈ zx_WS := zx_r1 (List.mem_of_getElem? (i := 92) rfl) rfl
theorem wd_1_94 : (Jvm.Cond.lays "IntervalPacker$Packing" "IntervalPacker$Packing" "matchLength" "I") ∈ zx_WS := zx_r1 (List.mem_of_getElem? (i := 94) rfl) rfl
theorem wd_1_96 : (Jvm.Cond.lays "IntervalPacker$Packing" "IntervalPacker$Packing" "matchDistance" "I") ∈ zx_WS := zx_r1 (List.mem_of_getElem? (i := 96) rfl) rfl
theorem wd_1_98 : (Jvm.Cond.lays "IntervalPacker$Packing" "IntervalPacker$Packing" "againLength" "I") ∈ zx_WS := zx_r1 (List.mem_of_getElem? (i := 98) rfl) rfl
theorem wd_1_100 : (Jvm.Cond.lays "IntervalPacker$Packing" "IntervalPacker$Packing" "again" "I") ∈ zx_WS := zx_r1 (List.mem_of_getElem? (i := 100) rfl) rfl
theorem zu_Pkg : ∀ w ∈ u_ws "IntervalPacker$Packing" zt_Pkg 17, w ∈ zx_WS := by
  intro w hw
  rcases List.mem_map.mp hw with ⟨k, hk, rfl⟩
  have hk := List.mem_range.mp hk
  match k, hk with
  | 0, _ => exact wd_1_68
  | 1, _ => exact wd_1_70
  | 2, _ => exact wd_1_72
  | 3, _ => exact wd_1_74
  | 4, _ => exact wd_1_76
  | 5, _ => exact wd_1_78
  | 6, _ => exact wd_1_80
  | 7, _ => exact wd_1_82
  | 8, _ => exact wd_1_84
  | 9, _ => exact wd_1_86
  | 10, _ => exact wd_1_88
  | 11, _ => exact wd_1_90
  | 12, _ => exact wd_1_92
  | 13, _ => exact wd_1_94
  | 14, _ => exact wd_1_96
  | 15, _ => exact wd_1_98
  | 16, _ => exact wd_1_100
  | j + 17, h => exact absurd h (by omega)
theorem wd_3_180 : (Jvm.Cond.laysFinal "IntervalPackerModel" "IntervalPackerModel" "plain" "[I") ∈ zx_WS := zx_r3 (List.mem_of_getElem? (i := 180) rfl) rfl
theorem wd_3_182 : (Jvm.Cond.lays "IntervalPackerModel" "IntervalPackerModel" "plainSize" "I") ∈ zx_WS := zx_r3 (List.mem_of_getElem? (i := 182) rfl) rfl
theorem wd_3_184 : (Jvm.Cond.laysFinal "IntervalPackerModel" "IntervalPackerModel" "packed" "[I") ∈ zx_WS := zx_r3 (List.mem_of_getElem? (i := 184) rfl) rfl
theorem wd_3_186 : (Jvm.Cond.lays "IntervalPackerModel" "IntervalPackerModel" "packedSize" "I") ∈ zx_WS := zx_r3 (List.mem_of_getElem? (i := 186) rfl) rfl
theorem wd_3_188 : (Jvm.Cond.laysFinal "IntervalPackerModel" "IntervalPackerModel" "made" "[I") ∈ zx_WS := zx_r3 (List.mem_of_getElem? (i := 188) rfl) rfl
theorem wd_3_190 : (Jvm.Cond.lays "IntervalPackerModel" "IntervalPackerModel" "madeSize" "I") ∈ zx_WS := zx_r3 (List.mem_of_getElem? (i := 190) rfl) rfl
theorem wd_3_192 : (Jvm.Cond.laysFinal "IntervalPackerModel" "IntervalPackerModel" "box" "[I") ∈ zx_WS := zx_r3 (List.mem_of_getElem? (i := 192) rfl) rfl
theorem wd_3_194 : (Jvm.Cond.lays "IntervalPackerModel" "IntervalPackerModel" "boxSize" "I") ∈ zx_WS := zx_r3 (List.mem_of_getElem? (i := 194) rfl) rfl
theorem wd_3_196 : (Jvm.Cond.laysFinal "IntervalPackerModel" "IntervalPackerModel" "chances" "[I") ∈ zx_WS := zx_r3 (List.mem_of_getElem? (i := 196) rfl) rfl
theorem wd_3_198 : (Jvm.Cond.lays "IntervalPackerModel" "IntervalPackerModel" "lc" "I") ∈ zx_WS := zx_r3 (List.mem_of_getElem? (i := 198) rfl) rfl
theorem wd_3_200 : (Jvm.Cond.lays "IntervalPackerModel" "IntervalPackerModel" "lp" "I") ∈ zx_WS := zx_r3 (List.mem_of_getElem? (i := 200) rfl) rfl
theorem wd_3_202 : (Jvm.Cond.lays "IntervalPackerModel" "IntervalPackerModel" "pb" "I") ∈ zx_WS := zx_r3 (List.mem_of_getElem? (i := 202) rfl) rfl
theorem wd_3_204 : (Jvm.Cond.lays "IntervalPackerModel" "IntervalPackerModel" "state" "I") ∈ zx_WS := zx_r3 (List.mem_of_getElem? (i := 204) rfl) rfl
theorem wd_3_206 : (Jvm.Cond.lays "IntervalPackerModel" "IntervalPackerModel" "r0" "J") ∈ zx_WS := zx_r3 (List.mem_of_getElem? (i := 206) rfl) rfl
theorem wd_3_208 : (Jvm.Cond.lays "IntervalPackerModel" "IntervalPackerModel" "r1" "J") ∈ zx_WS := zx_r3 (List.mem_of_getElem? (i := 208) rfl) rfl
theorem wd_3_210 : (Jvm.Cond.lays "IntervalPackerModel" "IntervalPackerModel" "r2" "J") ∈ zx_WS := zx_r3 (List.mem_of_getElem? (i := 210) rfl) rfl
theorem wd_3_212 : (Jvm.Cond.lays "IntervalPackerModel" "IntervalPackerModel" "r3" "J") ∈ zx_WS := zx_r3 (List.mem_of_getElem? (i := 212) rfl) rfl
theorem wd_3_214 : (Jvm.Cond.lays "IntervalPackerModel" "IntervalPackerModel" "range" "J") ∈ zx_WS := zx_r3 (List.mem_of_getElem? (i := 214) rfl) rfl
theorem wd_3_216 : (Jvm.Cond.lays "IntervalPackerModel" "IntervalPackerModel" "code" "J") ∈ zx_WS := zx_r3 (List.mem_of_getElem? (i := 216) rfl) rfl
theorem wd_3_218 : (Jvm.Cond.lays "IntervalPackerModel" "IntervalPackerModel" "next" "I") ∈ zx_WS := zx_r3 (List.mem_of_getElem? (i := 218) rfl) rfl
theorem wd_3_220 : (Jvm.Cond.lays "IntervalPackerModel" "IntervalPackerModel" "end" "I") ∈ zx_WS := zx_r3 (List.mem_of_getElem? (i := 220) rfl) rfl
theorem wd_3_222 : (Jvm.Cond.lays "IntervalPackerModel" "IntervalPackerModel" "left" "I") ∈ zx_WS := zx_r3 (List.mem_of_getElem? (i := 222) rfl) rfl
theorem wd_3_224 : (Jvm.Cond.lays "IntervalPackerModel" "IntervalPackerModel" "bad" "Z") ∈ zx_WS := zx_r3 (List.mem_of_getElem? (i := 224) rfl) rfl
theorem wd_3_226 : (Jvm.Cond.lays "IntervalPackerModel" "IntervalPackerModel" "first" "I") ∈ zx_WS := zx_r3 (List.mem_of_getElem? (i := 226) rfl) rfl
theorem wd_3_228 : (Jvm.Cond.laysFinal "IntervalPackerModel" "IntervalPackerModel" "low" "[I") ∈ zx_WS := zx_r3 (List.mem_of_getElem? (i := 228) rfl) rfl
theorem wd_3_230 : (Jvm.Cond.lays "IntervalPackerModel" "IntervalPackerModel" "lowSize" "I") ∈ zx_WS := zx_r3 (List.mem_of_getElem? (i := 230) rfl) rfl
theorem wd_3_232 : (Jvm.Cond.lays "IntervalPackerModel" "IntervalPackerModel" "limit" "I") ∈ zx_WS := zx_r3 (List.mem_of_getElem? (i := 232) rfl) rfl
theorem wd_3_234 : (Jvm.Cond.lays "IntervalPackerModel" "IntervalPackerModel" "lost" "Z") ∈ zx_WS := zx_r3 (List.mem_of_getElem? (i := 234) rfl) rfl
theorem wd_3_236 : (Jvm.Cond.lays "IntervalPackerModel" "IntervalPackerModel" "at" "I") ∈ zx_WS := zx_r3 (List.mem_of_getElem? (i := 236) rfl) rfl
theorem wd_3_238 : (Jvm.Cond.lays "IntervalPackerModel" "IntervalPackerModel" "fault" "I") ∈ zx_WS := zx_r3 (List.mem_of_getElem? (i := 238) rfl) rfl
theorem wd_4_0 : (Jvm.Cond.lays "IntervalPackerModel" "IntervalPackerModel" "faultAt" "I") ∈ zx_WS := zx_r4 (List.mem_of_getElem? (i := 0) rfl) rfl
theorem wd_4_2 : (Jvm.Cond.lays "IntervalPackerModel" "IntervalPackerModel" "sort" "I") ∈ zx_WS := zx_r4 (List.mem_of_getElem? (i := 2) rfl) rfl
theorem wd_4_4 : (Jvm.Cond.lays "IntervalPackerModel" "IntervalPackerModel" "blocks" "I") ∈ zx_WS := zx_r4 (List.mem_of_getElem? (i := 4) rfl) rfl
theorem wd_4_6 : (Jvm.Cond.laysFinal "IntervalPackerModel" "IntervalPackerModel" "sizes" "[I") ∈ zx_WS := zx_r4 (List.mem_of_getElem? (i := 6) rfl) rfl
theorem wd_4_8 : (Jvm.Cond.laysFinal "IntervalPackerModel" "IntervalPackerModel" "gives" "[I") ∈ zx_WS := zx_r4 (List.mem_of_getElem? (i := 8) rfl) rfl
theorem wd_4_10 : (Jvm.Cond.lays "IntervalPackerModel" "IntervalPackerModel" "emptied" "Z") ∈ zx_WS := zx_r4 (List.mem_of_getElem? (i := 10) rfl) rfl
theorem wd_4_12 : (Jvm.Cond.lays "IntervalPackerModel" "IntervalPackerModel" "bare" "Z") ∈ zx_WS := zx_r4 (List.mem_of_getElem? (i := 12) rfl) rfl
theorem wd_4_14 : (Jvm.Cond.lays "IntervalPackerModel" "IntervalPackerModel" "watched" "I") ∈ zx_WS := zx_r4 (List.mem_of_getElem? (i := 14) rfl) rfl
theorem wd_4_16 : (Jvm.Cond.lays "IntervalPackerModel" "IntervalPackerModel" "looked" "I") ∈ zx_WS := zx_r4 (List.mem_of_getElem? (i := 16) rfl) rfl
theorem wd_4_18 : (Jvm.Cond.lays "IntervalPackerModel" "IntervalPackerModel" "keptRange" "J") ∈ zx_WS := zx_r4 (List.mem_of_getElem? (i := 18) rfl) rfl
theorem wd_4_20 : (Jvm.Cond.lays "IntervalPackerModel" "IntervalPackerModel" "keptCode" "J") ∈ zx_WS := zx_r4 (List.mem_of_getElem? (i := 20) rfl) rfl
theorem wd_4_22 : (Jvm.Cond.laysFinal "IntervalPackerModel" "IntervalPackerModel" "counts" "[I") ∈ zx_WS := zx_r4 (List.mem_of_getElem? (i := 22) rfl) rfl
theorem zu_R : ∀ w ∈ u_ws "IntervalPackerModel" zt_R 42, w ∈ zx_WS := by
  intro w hw
  rcases List.mem_map.mp hw with ⟨k, hk, rfl⟩
  have hk := List.mem_range.mp hk
  match k, hk with
  | 0, _ => exact wd_3_180
  | 1, _ => exact wd_3_182
  | 2, _ => exact wd_3_184
  | 3, _ => exact wd_3_186
  | 4, _ => exact wd_3_188
  | 5, _ => exact wd_3_190
  | 6, _ => exact wd_3_192
  | 7, _ => exact wd_3_194
  | 8, _ => exact wd_3_196
  | 9, _ => exact wd_3_198
  | 10, _ => exact wd_3_200
  | 11, _ => exact wd_3_202
  | 12, _ => exact wd_3_204
  | 13, _ => exact wd_3_206
  | 14, _ => exact wd_3_208
  | 15, _ => exact wd_3_210
  | 16, _ => exact wd_3_212
  | 17, _ => exact wd_3_214
  | 18, _ => exact wd_3_216
  | 19, _ => exact wd_3_218
  | 20, _ => exact wd_3_220
  | 21, _ => exact wd_3_222
  | 22, _ => exact wd_3_224
  | 23, _ => exact wd_3_226
  | 24, _ => exact wd_3_228
  | 25, _ => exact wd_3_230
  | 26, _ => exact wd_3_232
  | 27, _ => exact wd_3_234
  | 28, _ => exact wd_3_236
  | 29, _ => exact wd_3_238
  | 30, _ => exact wd_4_0
  | 31, _ => exact wd_4_2
  | 32, _ => exact wd_4_4
  | 33, _ => exact wd_4_6
  | 34, _ => exact wd_4_8
  | 35, _ => exact wd_4_10
  | 36, _ => exact wd_4_12
  | 37, _ => exact wd_4_14
  | 38, _ => exact wd_4_16
  | 39, _ => exact wd_4_18
  | 40, _ => exact wd_4_20
  | 41, _ => exact wd_4_22
  | j + 42, h => exact absurd h (by omega)
theorem wd_1_192 : (Jvm.Cond.constantLong "IntervalPacker" (185 : Nat) (4294967295 : Int64)) ∈ zx_WS := zx_r1 (List.mem_of_getElem? (i := 192) rfl) rfl
theorem wd_1_193 : (Jvm.Cond.constantLong "IntervalPacker" (187 : Nat) (3988292384 : Int64)) ∈ zx_WS := zx_r1 (List.mem_of_getElem? (i := 193) rfl) rfl
theorem wd_2_152 : (Jvm.Cond.constantLong "IntervalPacker" (193 : Nat) (-1 : Int64)) ∈ zx_WS := zx_r2 (List.mem_of_getElem? (i := 152) rfl) rfl
theorem wd_2_153 : (Jvm.Cond.constantLong "IntervalPacker" (195 : Nat) (-3932672073523589310 : Int64)) ∈ zx_WS := zx_r2 (List.mem_of_getElem? (i := 153) rfl) rfl
theorem wd_3_6 : (Jvm.Cond.constantLong "IntervalPacker$Cursor" (60 : Nat) (-1 : Int64)) ∈ zx_WS := zx_r3 (List.mem_of_getElem? (i := 6) rfl) rfl
theorem wd_0_60 : (Jvm.Cond.constantLong "IntervalPacker$BitSource" (9 : Nat) (-1 : Int64)) ∈ zx_WS := zx_r0 (List.mem_of_getElem? (i := 60) rfl) rfl
theorem wd_3_60 : (Jvm.Cond.constantLong "IntervalPacker$BitSource" (34 : Nat) (4294967295 : Int64)) ∈ zx_WS := zx_r3 (List.mem_of_getElem? (i := 60) rfl) rfl
theorem wd_2_64 : (Jvm.Cond.constantLong "IntervalPacker$BitSource" (49 : Nat) (16777216 : Int64)) ∈ zx_WS := zx_r2 (List.mem_of_getElem? (i := 64) rfl) rfl
theorem wd_1_221 : (Jvm.Cond.constantLong "IntervalPacker$BitSink" (32 : Nat) (4294967295 : Int64)) ∈ zx_WS := zx_r1 (List.mem_of_getElem? (i := 221) rfl) rfl
theorem wd_2_46 : (Jvm.Cond.constantLong "IntervalPacker$BitSink" (44 : Nat) (16777216 : Int64)) ∈ zx_WS := zx_r2 (List.mem_of_getElem? (i := 46) rfl) rfl
theorem wd_2_100 : (Jvm.Cond.constantLong "IntervalPacker$Model" (95 : Nat) (2 : Int64)) ∈ zx_WS := zx_r2 (List.mem_of_getElem? (i := 100) rfl) rfl
theorem wd_2_114 : (Jvm.Cond.constantLong "IntervalPacker$Model" (103 : Nat) (16 : Int64)) ∈ zx_WS := zx_r2 (List.mem_of_getElem? (i := 114) rfl) rfl
theorem wd_2_92 : (Jvm.Cond.constantLong "IntervalPacker$Model" (105 : Nat) (4 : Int64)) ∈ zx_WS := zx_r2 (List.mem_of_getElem? (i := 92) rfl) rfl
theorem wd_3_1 : (Jvm.Cond.constantLong "IntervalPacker$Unpacking" (153 : Nat) (-1 : Int64)) ∈ zx_WS := zx_r3 (List.mem_of_getElem? (i := 1) rfl) rfl
theorem wd_2_162 : (Jvm.Cond.constantLong "IntervalPacker$Packing" (198 : Nat) (128 : Int64)) ∈ zx_WS := zx_r2 (List.mem_of_getElem? (i := 162) rfl) rfl
theorem wd_2_163 : (Jvm.Cond.constantLong "IntervalPacker$Packing" (200 : Nat) (127 : Int64)) ∈ zx_WS := zx_r2 (List.mem_of_getElem? (i := 163) rfl) rfl
theorem wd_3_137 : (Jvm.Cond.constantLong "IntervalPackerModel" (38 : Nat) (-1 : Int64)) ∈ zx_WS := zx_r3 (List.mem_of_getElem? (i := 137) rfl) rfl
theorem wd_4_29 : (Jvm.Cond.constantLong "IntervalPackerModel" (56 : Nat) (255 : Int64)) ∈ zx_WS := zx_r4 (List.mem_of_getElem? (i := 29) rfl) rfl
theorem wd_4_58 : (Jvm.Cond.constantLong "IntervalPackerModel" (58 : Nat) (3988292384 : Int64)) ∈ zx_WS := zx_r4 (List.mem_of_getElem? (i := 58) rfl) rfl
theorem wd_4_54 : (Jvm.Cond.constantLong "IntervalPackerModel" (60 : Nat) (-3932672073523589310 : Int64)) ∈ zx_WS := zx_r4 (List.mem_of_getElem? (i := 54) rfl) rfl
theorem wd_4_50 : (Jvm.Cond.constantLong "IntervalPackerModel" (62 : Nat) (4294967295 : Int64)) ∈ zx_WS := zx_r4 (List.mem_of_getElem? (i := 50) rfl) rfl
theorem wd_4_152 : (Jvm.Cond.constantLong "IntervalPackerModel" (228 : Nat) (16777216 : Int64)) ∈ zx_WS := zx_r4 (List.mem_of_getElem? (i := 152) rfl) rfl
theorem wd_4_153 : (Jvm.Cond.constantLong "IntervalPackerModel" (230 : Nat) (256 : Int64)) ∈ zx_WS := zx_r4 (List.mem_of_getElem? (i := 153) rfl) rfl
theorem wd_4_154 : (Jvm.Cond.constantLong "IntervalPackerModel" (232 : Nat) (2048 : Int64)) ∈ zx_WS := zx_r4 (List.mem_of_getElem? (i := 154) rfl) rfl
theorem wd_4_190 : (Jvm.Cond.constantLong "IntervalPackerModel" (240 : Nat) (2 : Int64)) ∈ zx_WS := zx_r4 (List.mem_of_getElem? (i := 190) rfl) rfl
theorem wd_4_191 : (Jvm.Cond.constantLong "IntervalPackerModel" (277 : Nat) (3 : Int64)) ∈ zx_WS := zx_r4 (List.mem_of_getElem? (i := 191) rfl) rfl
theorem wd_4_200 : (Jvm.Cond.constantLong "IntervalPackerModel" (285 : Nat) (16 : Int64)) ∈ zx_WS := zx_r4 (List.mem_of_getElem? (i := 200) rfl) rfl
def zx_ctab : List (Nat × Nat × Int64) := [(0, 185, 4294967295), (0, 187, 3988292384), (0, 193, -1), (0, 195, -3932672073523589310), (2, 60, -1), (3, 9, -1), (3, 34, 4294967295), (3, 49, 16777216), (4, 32, 4294967295), (4, 44, 16777216), (5, 95, 2), (5, 103, 16), (5, 105, 4), (6, 153, -1), (7, 198, 128), (7, 200, 127), (8, 38, -1), (8, 56, 255), (8, 58, 3988292384), (8, 60, -3932672073523589310), (8, 62, 4294967295), (8, 228, 16777216), (8, 230, 256), (8, 232, 2048), (8, 240, 2), (8, 277, 3), (8, 285, 16)]
theorem zx_ctab_g0 : ∀ q ∈ ([(0, 185, 4294967295), (0, 187, 3988292384), (0, 193, -1), (0, 195, -3932672073523589310), (2, 60, -1), (3, 9, -1), (3, 34, 4294967295), (3, 49, 16777216), (4, 32, 4294967295), (4, 44, 16777216), (5, 95, 2), (5, 103, 16), (5, 105, 4), (6, 153, -1), (7, 198, 128), (7, 200, 127)] : List (Nat × Nat × Int64)), Cond.constantLong (zx_on q.1) q.2.1 q.2.2 ∈ zx_WS := List.forall_mem_cons.mpr ⟨wd_1_192, List.forall_mem_cons.mpr ⟨wd_1_193, List.forall_mem_cons.mpr ⟨wd_2_152, List.forall_mem_cons.mpr ⟨wd_2_153, List.forall_mem_cons.mpr ⟨wd_3_6, List.forall_mem_cons.mpr ⟨wd_0_60, List.forall_mem_cons.mpr ⟨wd_3_60, List.forall_mem_cons.mpr ⟨wd_2_64, List.forall_mem_cons.mpr ⟨wd_1_221, List.forall_mem_cons.mpr ⟨wd_2_46, List.forall_mem_cons.mpr ⟨wd_2_100, List.forall_mem_cons.mpr ⟨wd_2_114, List.forall_mem_cons.mpr ⟨wd_2_92, List.forall_mem_cons.mpr ⟨wd_3_1, List.forall_mem_cons.mpr ⟨wd_2_162, List.forall_mem_cons.mpr ⟨wd_2_163, fun _ h => absurd h List.not_mem_nil⟩⟩⟩⟩⟩⟩⟩⟩⟩⟩⟩⟩⟩⟩⟩⟩
theorem zx_ctab_g1 : ∀ q ∈ ([(8, 38, -1), (8, 56, 255), (8, 58, 3988292384), (8, 60, -3932672073523589310), (8, 62, 4294967295), (8, 228, 16777216), (8, 230, 256), (8, 232, 2048), (8, 240, 2), (8, 277, 3), (8, 285, 16)] : List (Nat × Nat × Int64)), Cond.constantLong (zx_on q.1) q.2.1 q.2.2 ∈ zx_WS := List.forall_mem_cons.mpr ⟨wd_3_137, List.forall_mem_cons.mpr ⟨wd_4_29, List.forall_mem_cons.mpr ⟨wd_4_58, List.forall_mem_cons.mpr ⟨wd_4_54, List.forall_mem_cons.mpr ⟨wd_4_50, List.forall_mem_cons.mpr ⟨wd_4_152, List.forall_mem_cons.mpr ⟨wd_4_153, List.forall_mem_cons.mpr ⟨wd_4_154, List.forall_mem_cons.mpr ⟨wd_4_190, List.forall_mem_cons.mpr ⟨wd_4_191, List.forall_mem_cons.mpr ⟨wd_4_200, fun _ h => absurd h List.not_mem_nil⟩⟩⟩⟩⟩⟩⟩⟩⟩⟩⟩
theorem zx_ctab_ok : ∀ q ∈ zx_ctab, Cond.constantLong (zx_on q.1) q.2.1 q.2.2 ∈ zx_WS := List.forall_mem_append.mpr ⟨zx_ctab_g0, zx_ctab_g1⟩
theorem wd_2_99 : (Jvm.Cond.constant "java/lang/Integer" (264 : Nat) (65536 : Int32)) ∈ zx_WS := zx_r2 (List.mem_of_getElem? (i := 99) rfl) rfl
def zx_itab : List (Nat × Nat × Int32) := [(12, 264, 65536)]
theorem zx_itab_g0 : ∀ q ∈ ([(12, 264, 65536)] : List (Nat × Nat × Int32)), Cond.constant (zx_on q.1) q.2.1 q.2.2 ∈ zx_WS := List.forall_mem_cons.mpr ⟨wd_2_99, fun _ h => absurd h List.not_mem_nil⟩
theorem zx_itab_ok : ∀ q ∈ zx_itab, Cond.constant (zx_on q.1) q.2.1 q.2.2 ∈ zx_WS := zx_itab_g0
def zx_fOK (o idx ci k : Nat) : Prop := ∃ (C : String) (T : u_T) (N : Nat) (ref : String), zx_cl[ci]? = some (C, T, N) ∧ k < N ∧ Cond.fieldLink (zx_on o) idx ref (T k).2.1 (T k).2.2.1 ∈ zx_WS ∧ (∀ w ∈ u_ws C T N, w ∈ zx_WS) ∧ (ref = (T k).1 ∨ Cond.sameField ref (T k).1 (T k).2.1 (T k).2.2.1 ∈ zx_WS)
theorem wd_1_103 : (Jvm.Cond.fieldLink "IntervalPacker" (14 : Nat) "IntervalPacker" "plain" "LIntervalPacker$Row;") ∈ zx_WS := zx_r1 (List.mem_of_getElem? (i := 103) rfl) rfl
theorem fo_0_14_0 : zx_fOK 0 14 0 0 := ⟨"IntervalPacker", zt_P, 5, "IntervalPacker", rfl, by decide, wd_1_103, zu_P, Or.inl rfl⟩
theorem wd_1_104 : (Jvm.Cond.fieldLink "IntervalPacker" (18 : Nat) "IntervalPacker" "packed" "LIntervalPacker$Row;") ∈ zx_WS := zx_r1 (List.mem_of_getElem? (i := 104) rfl) rfl
theorem fo_0_18_0 : zx_fOK 0 18 0 1 := ⟨"IntervalPacker", zt_P, 5, "IntervalPacker", rfl, by decide, wd_1_104, zu_P, Or.inl rfl⟩
theorem wd_1_105 : (Jvm.Cond.fieldLink "IntervalPacker" (26 : Nat) "IntervalPacker" "source" "LIntervalPacker$BitSource;") ∈ zx_WS := zx_r1 (List.mem_of_getElem? (i := 105) rfl) rfl
theorem fo_0_26_0 : zx_fOK 0 26 0 2 := ⟨"IntervalPacker", zt_P, 5, "IntervalPacker", rfl, by decide, wd_1_105, zu_P, Or.inl rfl⟩
theorem wd_1_106 : (Jvm.Cond.fieldLink "IntervalPacker" (40 : Nat) "IntervalPacker" "reader" "LIntervalPacker$Unpacking;") ∈ zx_WS := zx_r1 (List.mem_of_getElem? (i := 106) rfl) rfl
theorem fo_0_40_0 : zx_fOK 0 40 0 3 := ⟨"IntervalPacker", zt_P, 5, "IntervalPacker", rfl, by decide, wd_1_106, zu_P, Or.inl rfl⟩
theorem wd_1_107 : (Jvm.Cond.fieldLink "IntervalPacker" (52 : Nat) "IntervalPacker" "writer" "LIntervalPacker$Packing;") ∈ zx_WS := zx_r1 (List.mem_of_getElem? (i := 107) rfl) rfl
theorem fo_0_52_0 : zx_fOK 0 52 0 4 := ⟨"IntervalPacker", zt_P, 5, "IntervalPacker", rfl, by decide, wd_1_107, zu_P, Or.inl rfl⟩
theorem wd_0_37 : (Jvm.Cond.fieldLink "IntervalPacker" (67 : Nat) "IntervalPacker$Row" "size" "I") ∈ zx_WS := zx_r0 (List.mem_of_getElem? (i := 37) rfl) rfl
theorem fo_0_67_1 : zx_fOK 0 67 1 1 := ⟨"IntervalPacker$Row", zt_Row, 3, "IntervalPacker$Row", rfl, by decide, wd_0_37, zu_Row, Or.inl rfl⟩
theorem wd_0_33 : (Jvm.Cond.fieldLink "IntervalPacker" (79 : Nat) "IntervalPacker$Row" "bytes" "[I") ∈ zx_WS := zx_r0 (List.mem_of_getElem? (i := 33) rfl) rfl
theorem fo_0_79_1 : zx_fOK 0 79 1 0 := ⟨"IntervalPacker$Row", zt_Row, 3, "IntervalPacker$Row", rfl, by decide, wd_0_33, zu_Row, Or.inl rfl⟩
theorem wd_1_51 : (Jvm.Cond.fieldLink "IntervalPacker" (115 : Nat) "IntervalPacker$Packing" "draft" "LIntervalPacker$Row;") ∈ zx_WS := zx_r1 (List.mem_of_getElem? (i := 51) rfl) rfl
theorem fo_0_115_7 : zx_fOK 0 115 7 0 := ⟨"IntervalPacker$Packing", zt_Pkg, 17, "IntervalPacker$Packing", rfl, by decide, wd_1_51, zu_Pkg, Or.inl rfl⟩
theorem wd_0_42 : (Jvm.Cond.fieldLink "IntervalPacker" (118 : Nat) "IntervalPacker$Row" "overfull" "Z") ∈ zx_WS := zx_r0 (List.mem_of_getElem? (i := 42) rfl) rfl
theorem fo_0_118_1 : zx_fOK 0 118 1 2 := ⟨"IntervalPacker$Row", zt_Row, 3, "IntervalPacker$Row", rfl, by decide, wd_0_42, zu_Row, Or.inl rfl⟩
theorem wd_0_203 : (Jvm.Cond.fieldLink "IntervalPacker" (144 : Nat) "IntervalPacker$Unpacking" "cursor" "LIntervalPacker$Cursor;") ∈ zx_WS := zx_r0 (List.mem_of_getElem? (i := 203) rfl) rfl
theorem fo_0_144_6 : zx_fOK 0 144 6 1 := ⟨"IntervalPacker$Unpacking", zt_Unp, 19, "IntervalPacker$Unpacking", rfl, by decide, wd_0_203, zu_Unp, Or.inl rfl⟩
theorem wd_0_184 : (Jvm.Cond.fieldLink "IntervalPacker" (153 : Nat) "IntervalPacker$Cursor" "fault" "I") ∈ zx_WS := zx_r0 (List.mem_of_getElem? (i := 184) rfl) rfl
theorem fo_0_153_2 : zx_fOK 0 153 2 4 := ⟨"IntervalPacker$Cursor", zt_Cur, 6, "IntervalPacker$Cursor", rfl, by decide, wd_0_184, zu_Cur, Or.inl rfl⟩
theorem wd_0_201 : (Jvm.Cond.fieldLink "IntervalPacker" (156 : Nat) "IntervalPacker$Unpacking" "given" "LIntervalPacker$Row;") ∈ zx_WS := zx_r0 (List.mem_of_getElem? (i := 201) rfl) rfl
theorem fo_0_156_6 : zx_fOK 0 156 6 0 := ⟨"IntervalPacker$Unpacking", zt_Unp, 19, "IntervalPacker$Unpacking", rfl, by decide, wd_0_201, zu_Unp, Or.inl rfl⟩
theorem wd_0_186 : (Jvm.Cond.fieldLink "IntervalPacker" (159 : Nat) "IntervalPacker$Cursor" "place" "I") ∈ zx_WS := zx_r0 (List.mem_of_getElem? (i := 186) rfl) rfl
theorem fo_0_159_2 : zx_fOK 0 159 2 5 := ⟨"IntervalPacker$Cursor", zt_Cur, 6, "IntervalPacker$Cursor", rfl, by decide, wd_0_186, zu_Cur, Or.inl rfl⟩
theorem wd_0_69 : (Jvm.Cond.fieldLink "IntervalPacker" (162 : Nat) "IntervalPacker$BitSource" "watched" "I") ∈ zx_WS := zx_r0 (List.mem_of_getElem? (i := 69) rfl) rfl
theorem fo_0_162_3 : zx_fOK 0 162 3 9 := ⟨"IntervalPacker$BitSource", zt_Src, 12, "IntervalPacker$BitSource", rfl, by decide, wd_0_69, zu_Src, Or.inl rfl⟩
theorem wd_0_71 : (Jvm.Cond.fieldLink "IntervalPacker" (165 : Nat) "IntervalPacker$BitSource" "keptRange" "J") ∈ zx_WS := zx_r0 (List.mem_of_getElem? (i := 71) rfl) rfl
theorem fo_0_165_3 : zx_fOK 0 165 3 10 := ⟨"IntervalPacker$BitSource", zt_Src, 12, "IntervalPacker$BitSource", rfl, by decide, wd_0_71, zu_Src, Or.inl rfl⟩
theorem wd_0_73 : (Jvm.Cond.fieldLink "IntervalPacker" (169 : Nat) "IntervalPacker$BitSource" "keptCode" "J") ∈ zx_WS := zx_r0 (List.mem_of_getElem? (i := 73) rfl) rfl
theorem fo_0_169_3 : zx_fOK 0 169 3 11 := ⟨"IntervalPacker$BitSource", zt_Src, 12, "IntervalPacker$BitSource", rfl, by decide, wd_0_73, zu_Src, Or.inl rfl⟩
theorem wd_0_67 : (Jvm.Cond.fieldLink "IntervalPacker" (172 : Nat) "IntervalPacker$BitSource" "taken" "I") ∈ zx_WS := zx_r0 (List.mem_of_getElem? (i := 67) rfl) rfl
theorem fo_0_172_3 : zx_fOK 0 172 3 8 := ⟨"IntervalPacker$BitSource", zt_Src, 12, "IntervalPacker$BitSource", rfl, by decide, wd_0_67, zu_Src, Or.inl rfl⟩
theorem wd_0_205 : (Jvm.Cond.fieldLink "IntervalPacker" (175 : Nat) "IntervalPacker$Unpacking" "counts" "[I") ∈ zx_WS := zx_r0 (List.mem_of_getElem? (i := 205) rfl) rfl
theorem fo_0_175_6 : zx_fOK 0 175 6 2 := ⟨"IntervalPacker$Unpacking", zt_Unp, 19, "IntervalPacker$Unpacking", rfl, by decide, wd_0_205, zu_Unp, Or.inl rfl⟩
theorem wd_0_30 : (Jvm.Cond.fieldLink "IntervalPacker$Row" (9 : Nat) "IntervalPacker$Row" "bytes" "[I") ∈ zx_WS := zx_r0 (List.mem_of_getElem? (i := 30) rfl) rfl
theorem fo_1_9_1 : zx_fOK 1 9 1 0 := ⟨"IntervalPacker$Row", zt_Row, 3, "IntervalPacker$Row", rfl, by decide, wd_0_30, zu_Row, Or.inl rfl⟩
theorem wd_0_35 : (Jvm.Cond.fieldLink "IntervalPacker$Row" (15 : Nat) "IntervalPacker$Row" "size" "I") ∈ zx_WS := zx_r0 (List.mem_of_getElem? (i := 35) rfl) rfl
theorem fo_1_15_1 : zx_fOK 1 15 1 1 := ⟨"IntervalPacker$Row", zt_Row, 3, "IntervalPacker$Row", rfl, by decide, wd_0_35, zu_Row, Or.inl rfl⟩
theorem wd_0_40 : (Jvm.Cond.fieldLink "IntervalPacker$Row" (19 : Nat) "IntervalPacker$Row" "overfull" "Z") ∈ zx_WS := zx_r0 (List.mem_of_getElem? (i := 40) rfl) rfl
theorem fo_1_19_1 : zx_fOK 1 19 1 2 := ⟨"IntervalPacker$Row", zt_Row, 3, "IntervalPacker$Row", rfl, by decide, wd_0_40, zu_Row, Or.inl rfl⟩
theorem wd_0_176 : (Jvm.Cond.fieldLink "IntervalPacker$Cursor" (9 : Nat) "IntervalPacker$Cursor" "bytes" "[I") ∈ zx_WS := zx_r0 (List.mem_of_getElem? (i := 176) rfl) rfl
theorem fo_2_9_2 : zx_fOK 2 9 2 0 := ⟨"IntervalPacker$Cursor", zt_Cur, 6, "IntervalPacker$Cursor", rfl, by decide, wd_0_176, zu_Cur, Or.inl rfl⟩
theorem wd_0_185 : (Jvm.Cond.fieldLink "IntervalPacker$Cursor" (15 : Nat) "IntervalPacker$Cursor" "place" "I") ∈ zx_WS := zx_r0 (List.mem_of_getElem? (i := 185) rfl) rfl
theorem fo_2_15_2 : zx_fOK 2 15 2 5 := ⟨"IntervalPacker$Cursor", zt_Cur, 6, "IntervalPacker$Cursor", rfl, by decide, wd_0_185, zu_Cur, Or.inl rfl⟩
theorem wd_0_31 : (Jvm.Cond.fieldLink "IntervalPacker$Cursor" (19 : Nat) "IntervalPacker$Row" "bytes" "[I") ∈ zx_WS := zx_r0 (List.mem_of_getElem? (i := 31) rfl) rfl
theorem fo_2_19_1 : zx_fOK 2 19 1 0 := ⟨"IntervalPacker$Row", zt_Row, 3, "IntervalPacker$Row", rfl, by decide, wd_0_31, zu_Row, Or.inl rfl⟩
theorem wd_0_36 : (Jvm.Cond.fieldLink "IntervalPacker$Cursor" (22 : Nat) "IntervalPacker$Row" "size" "I") ∈ zx_WS := zx_r0 (List.mem_of_getElem? (i := 36) rfl) rfl
theorem fo_2_22_1 : zx_fOK 2 22 1 1 := ⟨"IntervalPacker$Row", zt_Row, 3, "IntervalPacker$Row", rfl, by decide, wd_0_36, zu_Row, Or.inl rfl⟩
theorem wd_0_178 : (Jvm.Cond.fieldLink "IntervalPacker$Cursor" (25 : Nat) "IntervalPacker$Cursor" "size" "I") ∈ zx_WS := zx_r0 (List.mem_of_getElem? (i := 178) rfl) rfl
theorem fo_2_25_2 : zx_fOK 2 25 2 1 := ⟨"IntervalPacker$Cursor", zt_Cur, 6, "IntervalPacker$Cursor", rfl, by decide, wd_0_178, zu_Cur, Or.inl rfl⟩
theorem wd_0_180 : (Jvm.Cond.fieldLink "IntervalPacker$Cursor" (26 : Nat) "IntervalPacker$Cursor" "end" "I") ∈ zx_WS := zx_r0 (List.mem_of_getElem? (i := 180) rfl) rfl
theorem fo_2_26_2 : zx_fOK 2 26 2 2 := ⟨"IntervalPacker$Cursor", zt_Cur, 6, "IntervalPacker$Cursor", rfl, by decide, wd_0_180, zu_Cur, Or.inl rfl⟩
theorem wd_0_181 : (Jvm.Cond.fieldLink "IntervalPacker$Cursor" (29 : Nat) "IntervalPacker$Cursor" "next" "I") ∈ zx_WS := zx_r0 (List.mem_of_getElem? (i := 181) rfl) rfl
theorem fo_2_29_2 : zx_fOK 2 29 2 3 := ⟨"IntervalPacker$Cursor", zt_Cur, 6, "IntervalPacker$Cursor", rfl, by decide, wd_0_181, zu_Cur, Or.inl rfl⟩
theorem wd_0_183 : (Jvm.Cond.fieldLink "IntervalPacker$Cursor" (32 : Nat) "IntervalPacker$Cursor" "fault" "I") ∈ zx_WS := zx_r0 (List.mem_of_getElem? (i := 183) rfl) rfl
theorem fo_2_32_2 : zx_fOK 2 32 2 4 := ⟨"IntervalPacker$Cursor", zt_Cur, 6, "IntervalPacker$Cursor", rfl, by decide, wd_0_183, zu_Cur, Or.inl rfl⟩
theorem wd_0_70 : (Jvm.Cond.fieldLink "IntervalPacker$BitSource" (11 : Nat) "IntervalPacker$BitSource" "keptRange" "J") ∈ zx_WS := zx_r0 (List.mem_of_getElem? (i := 70) rfl) rfl
theorem fo_3_11_3 : zx_fOK 3 11 3 10 := ⟨"IntervalPacker$BitSource", zt_Src, 12, "IntervalPacker$BitSource", rfl, by decide, wd_0_70, zu_Src, Or.inl rfl⟩
theorem wd_0_72 : (Jvm.Cond.fieldLink "IntervalPacker$BitSource" (17 : Nat) "IntervalPacker$BitSource" "keptCode" "J") ∈ zx_WS := zx_r0 (List.mem_of_getElem? (i := 72) rfl) rfl
theorem fo_3_17_3 : zx_fOK 3 17 3 11 := ⟨"IntervalPacker$BitSource", zt_Src, 12, "IntervalPacker$BitSource", rfl, by decide, wd_0_72, zu_Src, Or.inl rfl⟩
theorem wd_0_61 : (Jvm.Cond.fieldLink "IntervalPacker$BitSource" (20 : Nat) "IntervalPacker$BitSource" "data" "[I") ∈ zx_WS := zx_r0 (List.mem_of_getElem? (i := 61) rfl) rfl
theorem fo_3_20_3 : zx_fOK 3 20 3 3 := ⟨"IntervalPacker$BitSource", zt_Src, 12, "IntervalPacker$BitSource", rfl, by decide, wd_0_61, zu_Src, Or.inl rfl⟩
theorem wd_0_66 : (Jvm.Cond.fieldLink "IntervalPacker$BitSource" (24 : Nat) "IntervalPacker$BitSource" "taken" "I") ∈ zx_WS := zx_r0 (List.mem_of_getElem? (i := 66) rfl) rfl
theorem fo_3_24_3 : zx_fOK 3 24 3 8 := ⟨"IntervalPacker$BitSource", zt_Src, 12, "IntervalPacker$BitSource", rfl, by decide, wd_0_66, zu_Src, Or.inl rfl⟩
theorem wd_0_62 : (Jvm.Cond.fieldLink "IntervalPacker$BitSource" (28 : Nat) "IntervalPacker$BitSource" "next" "I") ∈ zx_WS := zx_r0 (List.mem_of_getElem? (i := 62) rfl) rfl
theorem fo_3_28_3 : zx_fOK 3 28 3 4 := ⟨"IntervalPacker$BitSource", zt_Src, 12, "IntervalPacker$BitSource", rfl, by decide, wd_0_62, zu_Src, Or.inl rfl⟩
theorem wd_0_63 : (Jvm.Cond.fieldLink "IntervalPacker$BitSource" (31 : Nat) "IntervalPacker$BitSource" "end" "I") ∈ zx_WS := zx_r0 (List.mem_of_getElem? (i := 63) rfl) rfl
theorem fo_3_31_3 : zx_fOK 3 31 3 5 := ⟨"IntervalPacker$BitSource", zt_Src, 12, "IntervalPacker$BitSource", rfl, by decide, wd_0_63, zu_Src, Or.inl rfl⟩
theorem wd_0_82 : (Jvm.Cond.sameField "IntervalPacker$BitSource" "IntervalPacker$BitLine" "range" "J") ∈ zx_WS := zx_r0 (List.mem_of_getElem? (i := 82) rfl) rfl
theorem wd_0_81 : (Jvm.Cond.fieldLink "IntervalPacker$BitSource" (36 : Nat) "IntervalPacker$BitSource" "range" "J") ∈ zx_WS := zx_r0 (List.mem_of_getElem? (i := 81) rfl) rfl
theorem fo_3_36_3 : zx_fOK 3 36 3 1 := ⟨"IntervalPacker$BitSource", zt_Src, 12, "IntervalPacker$BitSource", rfl, by decide, wd_0_81, zu_Src, Or.inr wd_0_82⟩
theorem wd_0_64 : (Jvm.Cond.fieldLink "IntervalPacker$BitSource" (39 : Nat) "IntervalPacker$BitSource" "codeNow" "J") ∈ zx_WS := zx_r0 (List.mem_of_getElem? (i := 64) rfl) rfl
theorem fo_3_39_3 : zx_fOK 3 39 3 6 := ⟨"IntervalPacker$BitSource", zt_Src, 12, "IntervalPacker$BitSource", rfl, by decide, wd_0_64, zu_Src, Or.inl rfl⟩
theorem wd_0_86 : (Jvm.Cond.sameField "IntervalPacker$BitSource" "IntervalPacker$BitLine" "broken" "Z") ∈ zx_WS := zx_r0 (List.mem_of_getElem? (i := 86) rfl) rfl
theorem wd_0_85 : (Jvm.Cond.fieldLink "IntervalPacker$BitSource" (42 : Nat) "IntervalPacker$BitSource" "broken" "Z") ∈ zx_WS := zx_r0 (List.mem_of_getElem? (i := 85) rfl) rfl
theorem fo_3_42_3 : zx_fOK 3 42 3 2 := ⟨"IntervalPacker$BitSource", zt_Src, 12, "IntervalPacker$BitSource", rfl, by decide, wd_0_85, zu_Src, Or.inr wd_0_86⟩
theorem wd_0_65 : (Jvm.Cond.fieldLink "IntervalPacker$BitSource" (46 : Nat) "IntervalPacker$BitSource" "beyond" "Z") ∈ zx_WS := zx_r0 (List.mem_of_getElem? (i := 65) rfl) rfl
theorem fo_3_46_3 : zx_fOK 3 46 3 7 := ⟨"IntervalPacker$BitSource", zt_Src, 12, "IntervalPacker$BitSource", rfl, by decide, wd_0_65, zu_Src, Or.inl rfl⟩
theorem wd_0_78 : (Jvm.Cond.sameField "IntervalPacker$BitSource" "IntervalPacker$BitLine" "chances" "[I") ∈ zx_WS := zx_r0 (List.mem_of_getElem? (i := 78) rfl) rfl
theorem wd_0_77 : (Jvm.Cond.fieldLink "IntervalPacker$BitSource" (55 : Nat) "IntervalPacker$BitSource" "chances" "[I") ∈ zx_WS := zx_r0 (List.mem_of_getElem? (i := 77) rfl) rfl
theorem fo_3_55_3 : zx_fOK 3 55 3 0 := ⟨"IntervalPacker$BitSource", zt_Src, 12, "IntervalPacker$BitSource", rfl, by decide, wd_0_77, zu_Src, Or.inr wd_0_78⟩
theorem wd_0_68 : (Jvm.Cond.fieldLink "IntervalPacker$BitSource" (65 : Nat) "IntervalPacker$BitSource" "watched" "I") ∈ zx_WS := zx_r0 (List.mem_of_getElem? (i := 68) rfl) rfl
theorem fo_3_65_3 : zx_fOK 3 65 3 9 := ⟨"IntervalPacker$BitSource", zt_Src, 12, "IntervalPacker$BitSource", rfl, by decide, wd_0_68, zu_Src, Or.inl rfl⟩
theorem wd_1_29 : (Jvm.Cond.fieldLink "IntervalPacker$BitSink" (9 : Nat) "IntervalPacker$BitSink" "data" "[I") ∈ zx_WS := zx_r1 (List.mem_of_getElem? (i := 29) rfl) rfl
theorem fo_4_9_4 : zx_fOK 4 9 4 3 := ⟨"IntervalPacker$BitSink", zt_Snk, 6, "IntervalPacker$BitSink", rfl, by decide, wd_1_29, zu_Snk, Or.inl rfl⟩
theorem wd_1_33 : (Jvm.Cond.fieldLink "IntervalPacker$BitSink" (21 : Nat) "IntervalPacker$BitSink" "most" "I") ∈ zx_WS := zx_r1 (List.mem_of_getElem? (i := 33) rfl) rfl
theorem fo_4_21_4 : zx_fOK 4 21 4 5 := ⟨"IntervalPacker$BitSink", zt_Snk, 6, "IntervalPacker$BitSink", rfl, by decide, wd_1_33, zu_Snk, Or.inl rfl⟩
theorem wd_0_84 : (Jvm.Cond.sameField "IntervalPacker$BitSink" "IntervalPacker$BitLine" "broken" "Z") ∈ zx_WS := zx_r0 (List.mem_of_getElem? (i := 84) rfl) rfl
theorem wd_0_83 : (Jvm.Cond.fieldLink "IntervalPacker$BitSink" (25 : Nat) "IntervalPacker$BitSink" "broken" "Z") ∈ zx_WS := zx_r0 (List.mem_of_getElem? (i := 83) rfl) rfl
theorem fo_4_25_4 : zx_fOK 4 25 4 2 := ⟨"IntervalPacker$BitSink", zt_Snk, 6, "IntervalPacker$BitSink", rfl, by decide, wd_0_83, zu_Snk, Or.inr wd_0_84⟩
theorem wd_1_31 : (Jvm.Cond.fieldLink "IntervalPacker$BitSink" (29 : Nat) "IntervalPacker$BitSink" "size" "I") ∈ zx_WS := zx_r1 (List.mem_of_getElem? (i := 31) rfl) rfl
theorem fo_4_29_4 : zx_fOK 4 29 4 4 := ⟨"IntervalPacker$BitSink", zt_Snk, 6, "IntervalPacker$BitSink", rfl, by decide, wd_1_31, zu_Snk, Or.inl rfl⟩
theorem wd_0_80 : (Jvm.Cond.sameField "IntervalPacker$BitSink" "IntervalPacker$BitLine" "range" "J") ∈ zx_WS := zx_r0 (List.mem_of_getElem? (i := 80) rfl) rfl
theorem wd_0_79 : (Jvm.Cond.fieldLink "IntervalPacker$BitSink" (34 : Nat) "IntervalPacker$BitSink" "range" "J") ∈ zx_WS := zx_r0 (List.mem_of_getElem? (i := 79) rfl) rfl
theorem fo_4_34_4 : zx_fOK 4 34 4 1 := ⟨"IntervalPacker$BitSink", zt_Snk, 6, "IntervalPacker$BitSink", rfl, by decide, wd_0_79, zu_Snk, Or.inr wd_0_80⟩
theorem wd_0_76 : (Jvm.Cond.sameField "IntervalPacker$BitSink" "IntervalPacker$BitLine" "chances" "[I") ∈ zx_WS := zx_r0 (List.mem_of_getElem? (i := 76) rfl) rfl
theorem wd_0_75 : (Jvm.Cond.fieldLink "IntervalPacker$BitSink" (50 : Nat) "IntervalPacker$BitSink" "chances" "[I") ∈ zx_WS := zx_r0 (List.mem_of_getElem? (i := 75) rfl) rfl
theorem fo_4_50_4 : zx_fOK 4 50 4 0 := ⟨"IntervalPacker$BitSink", zt_Snk, 6, "IntervalPacker$BitSink", rfl, by decide, wd_0_75, zu_Snk, Or.inr wd_0_76⟩
theorem wd_0_121 : (Jvm.Cond.fieldLink "IntervalPacker$Model" (9 : Nat) "IntervalPacker$Model" "distances" "[J") ∈ zx_WS := zx_r0 (List.mem_of_getElem? (i := 121) rfl) rfl
theorem fo_5_9_5 : zx_fOK 5 9 5 1 := ⟨"IntervalPacker$Model", zt_Mdl, 11, "IntervalPacker$Model", rfl, by decide, wd_0_121, zu_Mdl, Or.inl rfl⟩
theorem wd_0_120 : (Jvm.Cond.fieldLink "IntervalPacker$Model" (15 : Nat) "IntervalPacker$Model" "chances" "[I") ∈ zx_WS := zx_r0 (List.mem_of_getElem? (i := 120) rfl) rfl
theorem fo_5_15_5 : zx_fOK 5 15 5 0 := ⟨"IntervalPacker$Model", zt_Mdl, 11, "IntervalPacker$Model", rfl, by decide, wd_0_120, zu_Mdl, Or.inl rfl⟩
theorem wd_0_126 : (Jvm.Cond.fieldLink "IntervalPacker$Model" (19 : Nat) "IntervalPacker$Model" "line" "LIntervalPacker$BitLine;") ∈ zx_WS := zx_r0 (List.mem_of_getElem? (i := 126) rfl) rfl
theorem fo_5_19_5 : zx_fOK 5 19 5 6 := ⟨"IntervalPacker$Model", zt_Mdl, 11, "IntervalPacker$Model", rfl, by decide, wd_0_126, zu_Mdl, Or.inl rfl⟩
theorem wd_0_123 : (Jvm.Cond.fieldLink "IntervalPacker$Model" (23 : Nat) "IntervalPacker$Model" "lc" "I") ∈ zx_WS := zx_r0 (List.mem_of_getElem? (i := 123) rfl) rfl
theorem fo_5_23_5 : zx_fOK 5 23 5 3 := ⟨"IntervalPacker$Model", zt_Mdl, 11, "IntervalPacker$Model", rfl, by decide, wd_0_123, zu_Mdl, Or.inl rfl⟩
theorem wd_0_124 : (Jvm.Cond.fieldLink "IntervalPacker$Model" (27 : Nat) "IntervalPacker$Model" "lp" "I") ∈ zx_WS := zx_r0 (List.mem_of_getElem? (i := 124) rfl) rfl
theorem fo_5_27_5 : zx_fOK 5 27 5 4 := ⟨"IntervalPacker$Model", zt_Mdl, 11, "IntervalPacker$Model", rfl, by decide, wd_0_124, zu_Mdl, Or.inl rfl⟩
theorem wd_0_125 : (Jvm.Cond.fieldLink "IntervalPacker$Model" (30 : Nat) "IntervalPacker$Model" "pb" "I") ∈ zx_WS := zx_r0 (List.mem_of_getElem? (i := 125) rfl) rfl
theorem fo_5_30_5 : zx_fOK 5 30 5 5 := ⟨"IntervalPacker$Model", zt_Mdl, 11, "IntervalPacker$Model", rfl, by decide, wd_0_125, zu_Mdl, Or.inl rfl⟩
theorem wd_0_122 : (Jvm.Cond.fieldLink "IntervalPacker$Model" (42 : Nat) "IntervalPacker$Model" "state" "I") ∈ zx_WS := zx_r0 (List.mem_of_getElem? (i := 122) rfl) rfl
theorem fo_5_42_5 : zx_fOK 5 42 5 2 := ⟨"IntervalPacker$Model", zt_Mdl, 11, "IntervalPacker$Model", rfl, by decide, wd_0_122, zu_Mdl, Or.inl rfl⟩
theorem wd_0_127 : (Jvm.Cond.fieldLink "IntervalPacker$Model" (49 : Nat) "IntervalPacker$Model" "kind" "I") ∈ zx_WS := zx_r0 (List.mem_of_getElem? (i := 127) rfl) rfl
theorem fo_5_49_5 : zx_fOK 5 49 5 7 := ⟨"IntervalPacker$Model", zt_Mdl, 11, "IntervalPacker$Model", rfl, by decide, wd_0_127, zu_Mdl, Or.inl rfl⟩
theorem wd_0_130 : (Jvm.Cond.fieldLink "IntervalPacker$Model" (56 : Nat) "IntervalPacker$Model" "octet" "I") ∈ zx_WS := zx_r0 (List.mem_of_getElem? (i := 130) rfl) rfl
theorem fo_5_56_5 : zx_fOK 5 56 5 8 := ⟨"IntervalPacker$Model", zt_Mdl, 11, "IntervalPacker$Model", rfl, by decide, wd_0_130, zu_Mdl, Or.inl rfl⟩
theorem wd_0_133 : (Jvm.Cond.fieldLink "IntervalPacker$Model" (59 : Nat) "IntervalPacker$Model" "length" "I") ∈ zx_WS := zx_r0 (List.mem_of_getElem? (i := 133) rfl) rfl
theorem fo_5_59_5 : zx_fOK 5 59 5 9 := ⟨"IntervalPacker$Model", zt_Mdl, 11, "IntervalPacker$Model", rfl, by decide, wd_0_133, zu_Mdl, Or.inl rfl⟩
theorem wd_0_136 : (Jvm.Cond.fieldLink "IntervalPacker$Model" (69 : Nat) "IntervalPacker$Model" "distance" "J") ∈ zx_WS := zx_r0 (List.mem_of_getElem? (i := 136) rfl) rfl
theorem fo_5_69_5 : zx_fOK 5 69 5 10 := ⟨"IntervalPacker$Model", zt_Mdl, 11, "IntervalPacker$Model", rfl, by decide, wd_0_136, zu_Mdl, Or.inl rfl⟩
theorem wd_0_200 : (Jvm.Cond.fieldLink "IntervalPacker$Unpacking" (14 : Nat) "IntervalPacker$Unpacking" "given" "LIntervalPacker$Row;") ∈ zx_WS := zx_r0 (List.mem_of_getElem? (i := 200) rfl) rfl
theorem fo_6_14_6 : zx_fOK 6 14 6 0 := ⟨"IntervalPacker$Unpacking", zt_Unp, 19, "IntervalPacker$Unpacking", rfl, by decide, wd_0_200, zu_Unp, Or.inl rfl⟩
theorem wd_0_202 : (Jvm.Cond.fieldLink "IntervalPacker$Unpacking" (23 : Nat) "IntervalPacker$Unpacking" "cursor" "LIntervalPacker$Cursor;") ∈ zx_WS := zx_r0 (List.mem_of_getElem? (i := 202) rfl) rfl
theorem fo_6_23_6 : zx_fOK 6 23 6 1 := ⟨"IntervalPacker$Unpacking", zt_Unp, 19, "IntervalPacker$Unpacking", rfl, by decide, wd_0_202, zu_Unp, Or.inl rfl⟩
theorem wd_0_204 : (Jvm.Cond.fieldLink "IntervalPacker$Unpacking" (27 : Nat) "IntervalPacker$Unpacking" "counts" "[I") ∈ zx_WS := zx_r0 (List.mem_of_getElem? (i := 204) rfl) rfl
theorem fo_6_27_6 : zx_fOK 6 27 6 2 := ⟨"IntervalPacker$Unpacking", zt_Unp, 19, "IntervalPacker$Unpacking", rfl, by decide, wd_0_204, zu_Unp, Or.inl rfl⟩
theorem wd_0_208 : (Jvm.Cond.fieldLink "IntervalPacker$Unpacking" (31 : Nat) "IntervalPacker$Unpacking" "sizes" "[J") ∈ zx_WS := zx_r0 (List.mem_of_getElem? (i := 208) rfl) rfl
theorem fo_6_31_6 : zx_fOK 6 31 6 5 := ⟨"IntervalPacker$Unpacking", zt_Unp, 19, "IntervalPacker$Unpacking", rfl, by decide, wd_0_208, zu_Unp, Or.inl rfl⟩
theorem wd_0_209 : (Jvm.Cond.fieldLink "IntervalPacker$Unpacking" (35 : Nat) "IntervalPacker$Unpacking" "gifts" "[J") ∈ zx_WS := zx_r0 (List.mem_of_getElem? (i := 209) rfl) rfl
theorem fo_6_35_6 : zx_fOK 6 35 6 6 := ⟨"IntervalPacker$Unpacking", zt_Unp, 19, "IntervalPacker$Unpacking", rfl, by decide, wd_0_209, zu_Unp, Or.inl rfl⟩
theorem wd_0_206 : (Jvm.Cond.fieldLink "IntervalPacker$Unpacking" (38 : Nat) "IntervalPacker$Unpacking" "model" "LIntervalPacker$Model;") ∈ zx_WS := zx_r0 (List.mem_of_getElem? (i := 206) rfl) rfl
theorem fo_6_38_6 : zx_fOK 6 38 6 3 := ⟨"IntervalPacker$Unpacking", zt_Unp, 19, "IntervalPacker$Unpacking", rfl, by decide, wd_0_206, zu_Unp, Or.inl rfl⟩
theorem wd_0_207 : (Jvm.Cond.fieldLink "IntervalPacker$Unpacking" (42 : Nat) "IntervalPacker$Unpacking" "source" "LIntervalPacker$BitSource;") ∈ zx_WS := zx_r0 (List.mem_of_getElem? (i := 207) rfl) rfl
theorem fo_6_42_6 : zx_fOK 6 42 6 4 := ⟨"IntervalPacker$Unpacking", zt_Unp, 19, "IntervalPacker$Unpacking", rfl, by decide, wd_0_207, zu_Unp, Or.inl rfl⟩
theorem wd_0_177 : (Jvm.Cond.fieldLink "IntervalPacker$Unpacking" (71 : Nat) "IntervalPacker$Cursor" "bytes" "[I") ∈ zx_WS := zx_r0 (List.mem_of_getElem? (i := 177) rfl) rfl
theorem fo_6_71_2 : zx_fOK 6 71 2 0 := ⟨"IntervalPacker$Cursor", zt_Cur, 6, "IntervalPacker$Cursor", rfl, by decide, wd_0_177, zu_Cur, Or.inl rfl⟩
theorem wd_0_182 : (Jvm.Cond.fieldLink "IntervalPacker$Unpacking" (78 : Nat) "IntervalPacker$Cursor" "next" "I") ∈ zx_WS := zx_r0 (List.mem_of_getElem? (i := 182) rfl) rfl
theorem fo_6_78_2 : zx_fOK 6 78 2 3 := ⟨"IntervalPacker$Cursor", zt_Cur, 6, "IntervalPacker$Cursor", rfl, by decide, wd_0_182, zu_Cur, Or.inl rfl⟩
theorem wd_0_210 : (Jvm.Cond.fieldLink "IntervalPacker$Unpacking" (82 : Nat) "IntervalPacker$Unpacking" "sort" "I") ∈ zx_WS := zx_r0 (List.mem_of_getElem? (i := 210) rfl) rfl
theorem fo_6_82_6 : zx_fOK 6 82 6 7 := ⟨"IntervalPacker$Unpacking", zt_Unp, 19, "IntervalPacker$Unpacking", rfl, by decide, wd_0_210, zu_Unp, Or.inl rfl⟩
theorem wd_0_211 : (Jvm.Cond.fieldLink "IntervalPacker$Unpacking" (96 : Nat) "IntervalPacker$Unpacking" "blockPlace" "I") ∈ zx_WS := zx_r0 (List.mem_of_getElem? (i := 211) rfl) rfl
theorem fo_6_96_6 : zx_fOK 6 96 6 8 := ⟨"IntervalPacker$Unpacking", zt_Unp, 19, "IntervalPacker$Unpacking", rfl, by decide, wd_0_211, zu_Unp, Or.inl rfl⟩
theorem wd_0_39 : (Jvm.Cond.fieldLink "IntervalPacker$Unpacking" (99 : Nat) "IntervalPacker$Row" "size" "I") ∈ zx_WS := zx_r0 (List.mem_of_getElem? (i := 39) rfl) rfl
theorem fo_6_99_1 : zx_fOK 6 99 1 1 := ⟨"IntervalPacker$Row", zt_Row, 3, "IntervalPacker$Row", rfl, by decide, wd_0_39, zu_Row, Or.inl rfl⟩
theorem wd_0_212 : (Jvm.Cond.fieldLink "IntervalPacker$Unpacking" (102 : Nat) "IntervalPacker$Unpacking" "givenBefore" "I") ∈ zx_WS := zx_r0 (List.mem_of_getElem? (i := 212) rfl) rfl
theorem fo_6_102_6 : zx_fOK 6 102 6 9 := ⟨"IntervalPacker$Unpacking", zt_Unp, 19, "IntervalPacker$Unpacking", rfl, by decide, wd_0_212, zu_Unp, Or.inl rfl⟩
theorem wd_0_216 : (Jvm.Cond.fieldLink "IntervalPacker$Unpacking" (105 : Nat) "IntervalPacker$Unpacking" "isFirstChunk" "Z") ∈ zx_WS := zx_r0 (List.mem_of_getElem? (i := 216) rfl) rfl
theorem fo_6_105_6 : zx_fOK 6 105 6 13 := ⟨"IntervalPacker$Unpacking", zt_Unp, 19, "IntervalPacker$Unpacking", rfl, by decide, wd_0_216, zu_Unp, Or.inl rfl⟩
theorem wd_0_217 : (Jvm.Cond.fieldLink "IntervalPacker$Unpacking" (109 : Nat) "IntervalPacker$Unpacking" "lacksProperties" "Z") ∈ zx_WS := zx_r0 (List.mem_of_getElem? (i := 217) rfl) rfl
theorem fo_6_109_6 : zx_fOK 6 109 6 14 := ⟨"IntervalPacker$Unpacking", zt_Unp, 19, "IntervalPacker$Unpacking", rfl, by decide, wd_0_217, zu_Unp, Or.inl rfl⟩
theorem wd_0_218 : (Jvm.Cond.fieldLink "IntervalPacker$Unpacking" (122 : Nat) "IntervalPacker$Unpacking" "control" "I") ∈ zx_WS := zx_r0 (List.mem_of_getElem? (i := 218) rfl) rfl
theorem fo_6_122_6 : zx_fOK 6 122 6 15 := ⟨"IntervalPacker$Unpacking", zt_Unp, 19, "IntervalPacker$Unpacking", rfl, by decide, wd_0_218, zu_Unp, Or.inl rfl⟩
theorem wd_0_213 : (Jvm.Cond.fieldLink "IntervalPacker$Unpacking" (155 : Nat) "IntervalPacker$Unpacking" "saidSize" "J") ∈ zx_WS := zx_r0 (List.mem_of_getElem? (i := 213) rfl) rfl
theorem fo_6_155_6 : zx_fOK 6 155 6 10 := ⟨"IntervalPacker$Unpacking", zt_Unp, 19, "IntervalPacker$Unpacking", rfl, by decide, wd_0_213, zu_Unp, Or.inl rfl⟩
theorem wd_0_214 : (Jvm.Cond.fieldLink "IntervalPacker$Unpacking" (159 : Nat) "IntervalPacker$Unpacking" "saidGift" "J") ∈ zx_WS := zx_r0 (List.mem_of_getElem? (i := 214) rfl) rfl
theorem fo_6_159_6 : zx_fOK 6 159 6 11 := ⟨"IntervalPacker$Unpacking", zt_Unp, 19, "IntervalPacker$Unpacking", rfl, by decide, wd_0_214, zu_Unp, Or.inl rfl⟩
theorem wd_0_215 : (Jvm.Cond.fieldLink "IntervalPacker$Unpacking" (172 : Nat) "IntervalPacker$Unpacking" "dictionary" "I") ∈ zx_WS := zx_r0 (List.mem_of_getElem? (i := 215) rfl) rfl
theorem fo_6_172_6 : zx_fOK 6 172 6 12 := ⟨"IntervalPacker$Unpacking", zt_Unp, 19, "IntervalPacker$Unpacking", rfl, by decide, wd_0_215, zu_Unp, Or.inl rfl⟩
theorem wd_0_219 : (Jvm.Cond.fieldLink "IntervalPacker$Unpacking" (179 : Nat) "IntervalPacker$Unpacking" "gift" "I") ∈ zx_WS := zx_r0 (List.mem_of_getElem? (i := 219) rfl) rfl
theorem fo_6_179_6 : zx_fOK 6 179 6 16 := ⟨"IntervalPacker$Unpacking", zt_Unp, 19, "IntervalPacker$Unpacking", rfl, by decide, wd_0_219, zu_Unp, Or.inl rfl⟩
theorem wd_0_220 : (Jvm.Cond.fieldLink "IntervalPacker$Unpacking" (182 : Nat) "IntervalPacker$Unpacking" "dataSize" "I") ∈ zx_WS := zx_r0 (List.mem_of_getElem? (i := 220) rfl) rfl
theorem fo_6_182_6 : zx_fOK 6 182 6 17 := ⟨"IntervalPacker$Unpacking", zt_Unp, 19, "IntervalPacker$Unpacking", rfl, by decide, wd_0_220, zu_Unp, Or.inl rfl⟩
theorem wd_0_88 : (Jvm.Cond.fieldLink "IntervalPacker$Unpacking" (227 : Nat) "IntervalPacker$BitSource" "broken" "Z") ∈ zx_WS := zx_r0 (List.mem_of_getElem? (i := 88) rfl) rfl
theorem fo_6_227_3 : zx_fOK 6 227 3 2 := ⟨"IntervalPacker$BitSource", zt_Src, 12, "IntervalPacker$BitSource", rfl, by decide, wd_0_88, zu_Src, Or.inr wd_0_86⟩
theorem wd_0_129 : (Jvm.Cond.fieldLink "IntervalPacker$Unpacking" (234 : Nat) "IntervalPacker$Model" "kind" "I") ∈ zx_WS := zx_r0 (List.mem_of_getElem? (i := 129) rfl) rfl
theorem fo_6_234_5 : zx_fOK 6 234 5 7 := ⟨"IntervalPacker$Model", zt_Mdl, 11, "IntervalPacker$Model", rfl, by decide, wd_0_129, zu_Mdl, Or.inl rfl⟩
theorem wd_0_132 : (Jvm.Cond.fieldLink "IntervalPacker$Unpacking" (240 : Nat) "IntervalPacker$Model" "octet" "I") ∈ zx_WS := zx_r0 (List.mem_of_getElem? (i := 132) rfl) rfl
theorem fo_6_240_5 : zx_fOK 6 240 5 8 := ⟨"IntervalPacker$Model", zt_Mdl, 11, "IntervalPacker$Model", rfl, by decide, wd_0_132, zu_Mdl, Or.inl rfl⟩
theorem wd_0_135 : (Jvm.Cond.fieldLink "IntervalPacker$Unpacking" (246 : Nat) "IntervalPacker$Model" "length" "I") ∈ zx_WS := zx_r0 (List.mem_of_getElem? (i := 135) rfl) rfl
theorem fo_6_246_5 : zx_fOK 6 246 5 9 := ⟨"IntervalPacker$Model", zt_Mdl, 11, "IntervalPacker$Model", rfl, by decide, wd_0_135, zu_Mdl, Or.inl rfl⟩
theorem wd_0_34 : (Jvm.Cond.fieldLink "IntervalPacker$Unpacking" (260 : Nat) "IntervalPacker$Row" "bytes" "[I") ∈ zx_WS := zx_r0 (List.mem_of_getElem? (i := 34) rfl) rfl
theorem fo_6_260_1 : zx_fOK 6 260 1 0 := ⟨"IntervalPacker$Row", zt_Row, 3, "IntervalPacker$Row", rfl, by decide, wd_0_34, zu_Row, Or.inl rfl⟩
theorem wd_0_221 : (Jvm.Cond.fieldLink "IntervalPacker$Unpacking" (268 : Nat) "IntervalPacker$Unpacking" "indexSize" "I") ∈ zx_WS := zx_r0 (List.mem_of_getElem? (i := 221) rfl) rfl
theorem fo_6_268_6 : zx_fOK 6 268 6 18 := ⟨"IntervalPacker$Unpacking", zt_Unp, 19, "IntervalPacker$Unpacking", rfl, by decide, wd_0_221, zu_Unp, Or.inl rfl⟩
theorem wd_0_179 : (Jvm.Cond.fieldLink "IntervalPacker$Unpacking" (271 : Nat) "IntervalPacker$Cursor" "size" "I") ∈ zx_WS := zx_r0 (List.mem_of_getElem? (i := 179) rfl) rfl
theorem fo_6_271_2 : zx_fOK 6 271 2 1 := ⟨"IntervalPacker$Cursor", zt_Cur, 6, "IntervalPacker$Cursor", rfl, by decide, wd_0_179, zu_Cur, Or.inl rfl⟩
theorem wd_1_50 : (Jvm.Cond.fieldLink "IntervalPacker$Packing" (14 : Nat) "IntervalPacker$Packing" "draft" "LIntervalPacker$Row;") ∈ zx_WS := zx_r1 (List.mem_of_getElem? (i := 50) rfl) rfl
theorem fo_7_14_7 : zx_fOK 7 14 7 0 := ⟨"IntervalPacker$Packing", zt_Pkg, 17, "IntervalPacker$Packing", rfl, by decide, wd_1_50, zu_Pkg, Or.inl rfl⟩
theorem wd_1_54 : (Jvm.Cond.fieldLink "IntervalPacker$Packing" (20 : Nat) "IntervalPacker$Packing" "end" "[I") ∈ zx_WS := zx_r1 (List.mem_of_getElem? (i := 54) rfl) rfl
theorem fo_7_20_7 : zx_fOK 7 20 7 3 := ⟨"IntervalPacker$Packing", zt_Pkg, 17, "IntervalPacker$Packing", rfl, by decide, wd_1_54, zu_Pkg, Or.inl rfl⟩
theorem wd_1_52 : (Jvm.Cond.fieldLink "IntervalPacker$Packing" (24 : Nat) "IntervalPacker$Packing" "model" "LIntervalPacker$Model;") ∈ zx_WS := zx_r1 (List.mem_of_getElem? (i := 52) rfl) rfl
theorem fo_7_24_7 : zx_fOK 7 24 7 1 := ⟨"IntervalPacker$Packing", zt_Pkg, 17, "IntervalPacker$Packing", rfl, by decide, wd_1_52, zu_Pkg, Or.inl rfl⟩
theorem wd_1_53 : (Jvm.Cond.fieldLink "IntervalPacker$Packing" (28 : Nat) "IntervalPacker$Packing" "sink" "LIntervalPacker$BitSink;") ∈ zx_WS := zx_r1 (List.mem_of_getElem? (i := 53) rfl) rfl
theorem fo_7_28_7 : zx_fOK 7 28 7 2 := ⟨"IntervalPacker$Packing", zt_Pkg, 17, "IntervalPacker$Packing", rfl, by decide, wd_1_53, zu_Pkg, Or.inl rfl⟩
theorem wd_1_55 : (Jvm.Cond.fieldLink "IntervalPacker$Packing" (32 : Nat) "IntervalPacker$Packing" "plain" "LIntervalPacker$Row;") ∈ zx_WS := zx_r1 (List.mem_of_getElem? (i := 55) rfl) rfl
theorem fo_7_32_7 : zx_fOK 7 32 7 4 := ⟨"IntervalPacker$Packing", zt_Pkg, 17, "IntervalPacker$Packing", rfl, by decide, wd_1_55, zu_Pkg, Or.inl rfl⟩
theorem wd_1_56 : (Jvm.Cond.fieldLink "IntervalPacker$Packing" (35 : Nat) "IntervalPacker$Packing" "sort" "I") ∈ zx_WS := zx_r1 (List.mem_of_getElem? (i := 56) rfl) rfl
theorem fo_7_35_7 : zx_fOK 7 35 7 5 := ⟨"IntervalPacker$Packing", zt_Pkg, 17, "IntervalPacker$Packing", rfl, by decide, wd_1_56, zu_Pkg, Or.inl rfl⟩
theorem wd_1_57 : (Jvm.Cond.fieldLink "IntervalPacker$Packing" (39 : Nat) "IntervalPacker$Packing" "properties" "I") ∈ zx_WS := zx_r1 (List.mem_of_getElem? (i := 57) rfl) rfl
theorem fo_7_39_7 : zx_fOK 7 39 7 6 := ⟨"IntervalPacker$Packing", zt_Pkg, 17, "IntervalPacker$Packing", rfl, by decide, wd_1_57, zu_Pkg, Or.inl rfl⟩
theorem wd_0_32 : (Jvm.Cond.fieldLink "IntervalPacker$Packing" (55 : Nat) "IntervalPacker$Row" "bytes" "[I") ∈ zx_WS := zx_r0 (List.mem_of_getElem? (i := 32) rfl) rfl
theorem fo_7_55_1 : zx_fOK 7 55 1 0 := ⟨"IntervalPacker$Row", zt_Row, 3, "IntervalPacker$Row", rfl, by decide, wd_0_32, zu_Row, Or.inl rfl⟩
theorem wd_0_38 : (Jvm.Cond.fieldLink "IntervalPacker$Packing" (66 : Nat) "IntervalPacker$Row" "size" "I") ∈ zx_WS := zx_r0 (List.mem_of_getElem? (i := 38) rfl) rfl
theorem fo_7_66_1 : zx_fOK 7 66 1 1 := ⟨"IntervalPacker$Row", zt_Row, 3, "IntervalPacker$Row", rfl, by decide, wd_0_38, zu_Row, Or.inl rfl⟩
theorem wd_1_58 : (Jvm.Cond.fieldLink "IntervalPacker$Packing" (69 : Nat) "IntervalPacker$Packing" "blockPlace" "I") ∈ zx_WS := zx_r1 (List.mem_of_getElem? (i := 58) rfl) rfl
theorem fo_7_69_7 : zx_fOK 7 69 7 7 := ⟨"IntervalPacker$Packing", zt_Pkg, 17, "IntervalPacker$Packing", rfl, by decide, wd_1_58, zu_Pkg, Or.inl rfl⟩
theorem wd_1_61 : (Jvm.Cond.fieldLink "IntervalPacker$Packing" (72 : Nat) "IntervalPacker$Packing" "isFirstChunk" "Z") ∈ zx_WS := zx_r1 (List.mem_of_getElem? (i := 61) rfl) rfl
theorem fo_7_72_7 : zx_fOK 7 72 7 10 := ⟨"IntervalPacker$Packing", zt_Pkg, 17, "IntervalPacker$Packing", rfl, by decide, wd_1_61, zu_Pkg, Or.inl rfl⟩
theorem wd_1_62 : (Jvm.Cond.fieldLink "IntervalPacker$Packing" (76 : Nat) "IntervalPacker$Packing" "isFirstCoded" "Z") ∈ zx_WS := zx_r1 (List.mem_of_getElem? (i := 62) rfl) rfl
theorem fo_7_76_7 : zx_fOK 7 76 7 11 := ⟨"IntervalPacker$Packing", zt_Pkg, 17, "IntervalPacker$Packing", rfl, by decide, wd_1_62, zu_Pkg, Or.inl rfl⟩
theorem wd_1_63 : (Jvm.Cond.fieldLink "IntervalPacker$Packing" (79 : Nat) "IntervalPacker$Packing" "isBehindPlain" "Z") ∈ zx_WS := zx_r1 (List.mem_of_getElem? (i := 63) rfl) rfl
theorem fo_7_79_7 : zx_fOK 7 79 7 12 := ⟨"IntervalPacker$Packing", zt_Pkg, 17, "IntervalPacker$Packing", rfl, by decide, wd_1_63, zu_Pkg, Or.inl rfl⟩
theorem wd_0_41 : (Jvm.Cond.fieldLink "IntervalPacker$Packing" (82 : Nat) "IntervalPacker$Row" "overfull" "Z") ∈ zx_WS := zx_r0 (List.mem_of_getElem? (i := 41) rfl) rfl
theorem fo_7_82_1 : zx_fOK 7 82 1 2 := ⟨"IntervalPacker$Row", zt_Row, 3, "IntervalPacker$Row", rfl, by decide, wd_0_41, zu_Row, Or.inl rfl⟩
theorem wd_1_32 : (Jvm.Cond.fieldLink "IntervalPacker$Packing" (99 : Nat) "IntervalPacker$BitSink" "size" "I") ∈ zx_WS := zx_r1 (List.mem_of_getElem? (i := 32) rfl) rfl
theorem fo_7_99_4 : zx_fOK 7 99 4 4 := ⟨"IntervalPacker$BitSink", zt_Snk, 6, "IntervalPacker$BitSink", rfl, by decide, wd_1_32, zu_Snk, Or.inl rfl⟩
theorem wd_1_30 : (Jvm.Cond.fieldLink "IntervalPacker$Packing" (102 : Nat) "IntervalPacker$BitSink" "data" "[I") ∈ zx_WS := zx_r1 (List.mem_of_getElem? (i := 30) rfl) rfl
theorem fo_7_102_4 : zx_fOK 7 102 4 3 := ⟨"IntervalPacker$BitSink", zt_Snk, 6, "IntervalPacker$BitSink", rfl, by decide, wd_1_30, zu_Snk, Or.inl rfl⟩
theorem wd_0_87 : (Jvm.Cond.fieldLink "IntervalPacker$Packing" (108 : Nat) "IntervalPacker$BitSink" "broken" "Z") ∈ zx_WS := zx_r0 (List.mem_of_getElem? (i := 87) rfl) rfl
theorem fo_7_108_4 : zx_fOK 7 108 4 2 := ⟨"IntervalPacker$BitSink", zt_Snk, 6, "IntervalPacker$BitSink", rfl, by decide, wd_0_87, zu_Snk, Or.inr wd_0_84⟩
theorem wd_0_134 : (Jvm.Cond.fieldLink "IntervalPacker$Packing" (144 : Nat) "IntervalPacker$Model" "length" "I") ∈ zx_WS := zx_r0 (List.mem_of_getElem? (i := 134) rfl) rfl
theorem fo_7_144_5 : zx_fOK 7 144 5 9 := ⟨"IntervalPacker$Model", zt_Mdl, 11, "IntervalPacker$Model", rfl, by decide, wd_0_134, zu_Mdl, Or.inl rfl⟩
theorem wd_0_131 : (Jvm.Cond.fieldLink "IntervalPacker$Packing" (159 : Nat) "IntervalPacker$Model" "octet" "I") ∈ zx_WS := zx_r0 (List.mem_of_getElem? (i := 131) rfl) rfl
theorem fo_7_159_5 : zx_fOK 7 159 5 8 := ⟨"IntervalPacker$Model", zt_Mdl, 11, "IntervalPacker$Model", rfl, by decide, wd_0_131, zu_Mdl, Or.inl rfl⟩
theorem wd_1_66 : (Jvm.Cond.fieldLink "IntervalPacker$Packing" (162 : Nat) "IntervalPacker$Packing" "againLength" "I") ∈ zx_WS := zx_r1 (List.mem_of_getElem? (i := 66) rfl) rfl
theorem fo_7_162_7 : zx_fOK 7 162 7 15 := ⟨"IntervalPacker$Packing", zt_Pkg, 17, "IntervalPacker$Packing", rfl, by decide, wd_1_66, zu_Pkg, Or.inl rfl⟩
theorem wd_1_64 : (Jvm.Cond.fieldLink "IntervalPacker$Packing" (165 : Nat) "IntervalPacker$Packing" "matchLength" "I") ∈ zx_WS := zx_r1 (List.mem_of_getElem? (i := 64) rfl) rfl
theorem fo_7_165_7 : zx_fOK 7 165 7 13 := ⟨"IntervalPacker$Packing", zt_Pkg, 17, "IntervalPacker$Packing", rfl, by decide, wd_1_64, zu_Pkg, Or.inl rfl⟩
theorem wd_1_67 : (Jvm.Cond.fieldLink "IntervalPacker$Packing" (168 : Nat) "IntervalPacker$Packing" "again" "I") ∈ zx_WS := zx_r1 (List.mem_of_getElem? (i := 67) rfl) rfl
theorem fo_7_168_7 : zx_fOK 7 168 7 16 := ⟨"IntervalPacker$Packing", zt_Pkg, 17, "IntervalPacker$Packing", rfl, by decide, wd_1_67, zu_Pkg, Or.inl rfl⟩
theorem wd_0_128 : (Jvm.Cond.fieldLink "IntervalPacker$Packing" (171 : Nat) "IntervalPacker$Model" "kind" "I") ∈ zx_WS := zx_r0 (List.mem_of_getElem? (i := 128) rfl) rfl
theorem fo_7_171_5 : zx_fOK 7 171 5 7 := ⟨"IntervalPacker$Model", zt_Mdl, 11, "IntervalPacker$Model", rfl, by decide, wd_0_128, zu_Mdl, Or.inl rfl⟩
theorem wd_1_65 : (Jvm.Cond.fieldLink "IntervalPacker$Packing" (174 : Nat) "IntervalPacker$Packing" "matchDistance" "I") ∈ zx_WS := zx_r1 (List.mem_of_getElem? (i := 65) rfl) rfl
theorem fo_7_174_7 : zx_fOK 7 174 7 14 := ⟨"IntervalPacker$Packing", zt_Pkg, 17, "IntervalPacker$Packing", rfl, by decide, wd_1_65, zu_Pkg, Or.inl rfl⟩
theorem wd_0_137 : (Jvm.Cond.fieldLink "IntervalPacker$Packing" (177 : Nat) "IntervalPacker$Model" "distance" "J") ∈ zx_WS := zx_r0 (List.mem_of_getElem? (i := 137) rfl) rfl
theorem fo_7_177_5 : zx_fOK 7 177 5 10 := ⟨"IntervalPacker$Model", zt_Mdl, 11, "IntervalPacker$Model", rfl, by decide, wd_0_137, zu_Mdl, Or.inl rfl⟩
theorem wd_1_59 : (Jvm.Cond.fieldLink "IntervalPacker$Packing" (189 : Nat) "IntervalPacker$Packing" "blockSize" "J") ∈ zx_WS := zx_r1 (List.mem_of_getElem? (i := 59) rfl) rfl
theorem fo_7_189_7 : zx_fOK 7 189 7 8 := ⟨"IntervalPacker$Packing", zt_Pkg, 17, "IntervalPacker$Packing", rfl, by decide, wd_1_59, zu_Pkg, Or.inl rfl⟩
theorem wd_1_60 : (Jvm.Cond.fieldLink "IntervalPacker$Packing" (206 : Nat) "IntervalPacker$Packing" "indexSize" "I") ∈ zx_WS := zx_r1 (List.mem_of_getElem? (i := 60) rfl) rfl
theorem fo_7_206_7 : zx_fOK 7 206 7 9 := ⟨"IntervalPacker$Packing", zt_Pkg, 17, "IntervalPacker$Packing", rfl, by decide, wd_1_60, zu_Pkg, Or.inl rfl⟩
theorem wd_3_138 : (Jvm.Cond.fieldLink "IntervalPackerModel" (7 : Nat) "IntervalPackerModel" "plain" "[I") ∈ zx_WS := zx_r3 (List.mem_of_getElem? (i := 138) rfl) rfl
theorem fo_8_7_8 : zx_fOK 8 7 8 0 := ⟨"IntervalPackerModel", zt_R, 42, "IntervalPackerModel", rfl, by decide, wd_3_138, zu_R, Or.inl rfl⟩
theorem wd_3_140 : (Jvm.Cond.fieldLink "IntervalPackerModel" (13 : Nat) "IntervalPackerModel" "packed" "[I") ∈ zx_WS := zx_r3 (List.mem_of_getElem? (i := 140) rfl) rfl
theorem fo_8_13_8 : zx_fOK 8 13 8 2 := ⟨"IntervalPackerModel", zt_R, 42, "IntervalPackerModel", rfl, by decide, wd_3_140, zu_R, Or.inl rfl⟩
theorem wd_3_142 : (Jvm.Cond.fieldLink "IntervalPackerModel" (16 : Nat) "IntervalPackerModel" "made" "[I") ∈ zx_WS := zx_r3 (List.mem_of_getElem? (i := 142) rfl) rfl
theorem fo_8_16_8 : zx_fOK 8 16 8 4 := ⟨"IntervalPackerModel", zt_R, 42, "IntervalPackerModel", rfl, by decide, wd_3_142, zu_R, Or.inl rfl⟩
theorem wd_3_144 : (Jvm.Cond.fieldLink "IntervalPackerModel" (19 : Nat) "IntervalPackerModel" "box" "[I") ∈ zx_WS := zx_r3 (List.mem_of_getElem? (i := 144) rfl) rfl
theorem fo_8_19_8 : zx_fOK 8 19 8 6 := ⟨"IntervalPackerModel", zt_R, 42, "IntervalPackerModel", rfl, by decide, wd_3_144, zu_R, Or.inl rfl⟩
theorem wd_3_146 : (Jvm.Cond.fieldLink "IntervalPackerModel" (22 : Nat) "IntervalPackerModel" "chances" "[I") ∈ zx_WS := zx_r3 (List.mem_of_getElem? (i := 146) rfl) rfl
theorem fo_8_22_8 : zx_fOK 8 22 8 8 := ⟨"IntervalPackerModel", zt_R, 42, "IntervalPackerModel", rfl, by decide, wd_3_146, zu_R, Or.inl rfl⟩
theorem wd_3_162 : (Jvm.Cond.fieldLink "IntervalPackerModel" (25 : Nat) "IntervalPackerModel" "low" "[I") ∈ zx_WS := zx_r3 (List.mem_of_getElem? (i := 162) rfl) rfl
theorem fo_8_25_8 : zx_fOK 8 25 8 24 := ⟨"IntervalPackerModel", zt_R, 42, "IntervalPackerModel", rfl, by decide, wd_3_162, zu_R, Or.inl rfl⟩
theorem wd_3_168 : (Jvm.Cond.fieldLink "IntervalPackerModel" (28 : Nat) "IntervalPackerModel" "faultAt" "I") ∈ zx_WS := zx_r3 (List.mem_of_getElem? (i := 168) rfl) rfl
theorem fo_8_28_8 : zx_fOK 8 28 8 30 := ⟨"IntervalPackerModel", zt_R, 42, "IntervalPackerModel", rfl, by decide, wd_3_168, zu_R, Or.inl rfl⟩
theorem wd_3_171 : (Jvm.Cond.fieldLink "IntervalPackerModel" (32 : Nat) "IntervalPackerModel" "sizes" "[I") ∈ zx_WS := zx_r3 (List.mem_of_getElem? (i := 171) rfl) rfl
theorem fo_8_32_8 : zx_fOK 8 32 8 33 := ⟨"IntervalPackerModel", zt_R, 42, "IntervalPackerModel", rfl, by decide, wd_3_171, zu_R, Or.inl rfl⟩
theorem wd_3_172 : (Jvm.Cond.fieldLink "IntervalPackerModel" (35 : Nat) "IntervalPackerModel" "gives" "[I") ∈ zx_WS := zx_r3 (List.mem_of_getElem? (i := 172) rfl) rfl
theorem fo_8_35_8 : zx_fOK 8 35 8 34 := ⟨"IntervalPackerModel", zt_R, 42, "IntervalPackerModel", rfl, by decide, wd_3_172, zu_R, Or.inl rfl⟩
theorem wd_3_177 : (Jvm.Cond.fieldLink "IntervalPackerModel" (40 : Nat) "IntervalPackerModel" "keptRange" "J") ∈ zx_WS := zx_r3 (List.mem_of_getElem? (i := 177) rfl) rfl
theorem fo_8_40_8 : zx_fOK 8 40 8 39 := ⟨"IntervalPackerModel", zt_R, 42, "IntervalPackerModel", rfl, by decide, wd_3_177, zu_R, Or.inl rfl⟩
theorem wd_3_178 : (Jvm.Cond.fieldLink "IntervalPackerModel" (44 : Nat) "IntervalPackerModel" "keptCode" "J") ∈ zx_WS := zx_r3 (List.mem_of_getElem? (i := 178) rfl) rfl
theorem fo_8_44_8 : zx_fOK 8 44 8 40 := ⟨"IntervalPackerModel", zt_R, 42, "IntervalPackerModel", rfl, by decide, wd_3_178, zu_R, Or.inl rfl⟩
theorem wd_3_179 : (Jvm.Cond.fieldLink "IntervalPackerModel" (47 : Nat) "IntervalPackerModel" "counts" "[I") ∈ zx_WS := zx_r3 (List.mem_of_getElem? (i := 179) rfl) rfl
theorem fo_8_47_8 : zx_fOK 8 47 8 41 := ⟨"IntervalPackerModel", zt_R, 42, "IntervalPackerModel", rfl, by decide, wd_3_179, zu_R, Or.inl rfl⟩
theorem wd_3_141 : (Jvm.Cond.fieldLink "IntervalPackerModel" (50 : Nat) "IntervalPackerModel" "packedSize" "I") ∈ zx_WS := zx_r3 (List.mem_of_getElem? (i := 141) rfl) rfl
theorem fo_8_50_8 : zx_fOK 8 50 8 3 := ⟨"IntervalPackerModel", zt_R, 42, "IntervalPackerModel", rfl, by decide, wd_3_141, zu_R, Or.inl rfl⟩
theorem wd_3_139 : (Jvm.Cond.fieldLink "IntervalPackerModel" (53 : Nat) "IntervalPackerModel" "plainSize" "I") ∈ zx_WS := zx_r3 (List.mem_of_getElem? (i := 139) rfl) rfl
theorem fo_8_53_8 : zx_fOK 8 53 8 1 := ⟨"IntervalPackerModel", zt_R, 42, "IntervalPackerModel", rfl, by decide, wd_3_139, zu_R, Or.inl rfl⟩
theorem wd_3_143 : (Jvm.Cond.fieldLink "IntervalPackerModel" (68 : Nat) "IntervalPackerModel" "madeSize" "I") ∈ zx_WS := zx_r3 (List.mem_of_getElem? (i := 143) rfl) rfl
theorem fo_8_68_8 : zx_fOK 8 68 8 5 := ⟨"IntervalPackerModel", zt_R, 42, "IntervalPackerModel", rfl, by decide, wd_3_143, zu_R, Or.inl rfl⟩
theorem wd_3_167 : (Jvm.Cond.fieldLink "IntervalPackerModel" (74 : Nat) "IntervalPackerModel" "fault" "I") ∈ zx_WS := zx_r3 (List.mem_of_getElem? (i := 167) rfl) rfl
theorem fo_8_74_8 : zx_fOK 8 74 8 29 := ⟨"IntervalPackerModel", zt_R, 42, "IntervalPackerModel", rfl, by decide, wd_3_167, zu_R, Or.inl rfl⟩
theorem wd_3_166 : (Jvm.Cond.fieldLink "IntervalPackerModel" (77 : Nat) "IntervalPackerModel" "at" "I") ∈ zx_WS := zx_r3 (List.mem_of_getElem? (i := 166) rfl) rfl
theorem fo_8_77_8 : zx_fOK 8 77 8 28 := ⟨"IntervalPackerModel", zt_R, 42, "IntervalPackerModel", rfl, by decide, wd_3_166, zu_R, Or.inl rfl⟩
theorem wd_3_169 : (Jvm.Cond.fieldLink "IntervalPackerModel" (99 : Nat) "IntervalPackerModel" "sort" "I") ∈ zx_WS := zx_r3 (List.mem_of_getElem? (i := 169) rfl) rfl
theorem fo_8_99_8 : zx_fOK 8 99 8 31 := ⟨"IntervalPackerModel", zt_R, 42, "IntervalPackerModel", rfl, by decide, wd_3_169, zu_R, Or.inl rfl⟩
theorem wd_3_173 : (Jvm.Cond.fieldLink "IntervalPackerModel" (115 : Nat) "IntervalPackerModel" "emptied" "Z") ∈ zx_WS := zx_r3 (List.mem_of_getElem? (i := 173) rfl) rfl
theorem fo_8_115_8 : zx_fOK 8 115 8 35 := ⟨"IntervalPackerModel", zt_R, 42, "IntervalPackerModel", rfl, by decide, wd_3_173, zu_R, Or.inl rfl⟩
theorem wd_3_174 : (Jvm.Cond.fieldLink "IntervalPackerModel" (119 : Nat) "IntervalPackerModel" "bare" "Z") ∈ zx_WS := zx_r3 (List.mem_of_getElem? (i := 174) rfl) rfl
theorem fo_8_119_8 : zx_fOK 8 119 8 36 := ⟨"IntervalPackerModel", zt_R, 42, "IntervalPackerModel", rfl, by decide, wd_3_174, zu_R, Or.inl rfl⟩
theorem wd_3_170 : (Jvm.Cond.fieldLink "IntervalPackerModel" (136 : Nat) "IntervalPackerModel" "blocks" "I") ∈ zx_WS := zx_r3 (List.mem_of_getElem? (i := 170) rfl) rfl
theorem fo_8_136_8 : zx_fOK 8 136 8 32 := ⟨"IntervalPackerModel", zt_R, 42, "IntervalPackerModel", rfl, by decide, wd_3_170, zu_R, Or.inl rfl⟩
theorem wd_3_147 : (Jvm.Cond.fieldLink "IntervalPackerModel" (156 : Nat) "IntervalPackerModel" "lc" "I") ∈ zx_WS := zx_r3 (List.mem_of_getElem? (i := 147) rfl) rfl
theorem fo_8_156_8 : zx_fOK 8 156 8 9 := ⟨"IntervalPackerModel", zt_R, 42, "IntervalPackerModel", rfl, by decide, wd_3_147, zu_R, Or.inl rfl⟩
theorem wd_3_148 : (Jvm.Cond.fieldLink "IntervalPackerModel" (159 : Nat) "IntervalPackerModel" "lp" "I") ∈ zx_WS := zx_r3 (List.mem_of_getElem? (i := 148) rfl) rfl
theorem fo_8_159_8 : zx_fOK 8 159 8 10 := ⟨"IntervalPackerModel", zt_R, 42, "IntervalPackerModel", rfl, by decide, wd_3_148, zu_R, Or.inl rfl⟩
theorem wd_3_149 : (Jvm.Cond.fieldLink "IntervalPackerModel" (162 : Nat) "IntervalPackerModel" "pb" "I") ∈ zx_WS := zx_r3 (List.mem_of_getElem? (i := 149) rfl) rfl
theorem fo_8_162_8 : zx_fOK 8 162 8 11 := ⟨"IntervalPackerModel", zt_R, 42, "IntervalPackerModel", rfl, by decide, wd_3_149, zu_R, Or.inl rfl⟩
theorem wd_3_161 : (Jvm.Cond.fieldLink "IntervalPackerModel" (165 : Nat) "IntervalPackerModel" "first" "I") ∈ zx_WS := zx_r3 (List.mem_of_getElem? (i := 161) rfl) rfl
theorem fo_8_165_8 : zx_fOK 8 165 8 23 := ⟨"IntervalPackerModel", zt_R, 42, "IntervalPackerModel", rfl, by decide, wd_3_161, zu_R, Or.inl rfl⟩
theorem wd_3_155 : (Jvm.Cond.fieldLink "IntervalPackerModel" (171 : Nat) "IntervalPackerModel" "range" "J") ∈ zx_WS := zx_r3 (List.mem_of_getElem? (i := 155) rfl) rfl
theorem fo_8_171_8 : zx_fOK 8 171 8 17 := ⟨"IntervalPackerModel", zt_R, 42, "IntervalPackerModel", rfl, by decide, wd_3_155, zu_R, Or.inl rfl⟩
theorem wd_3_156 : (Jvm.Cond.fieldLink "IntervalPackerModel" (174 : Nat) "IntervalPackerModel" "code" "J") ∈ zx_WS := zx_r3 (List.mem_of_getElem? (i := 156) rfl) rfl
theorem fo_8_174_8 : zx_fOK 8 174 8 18 := ⟨"IntervalPackerModel", zt_R, 42, "IntervalPackerModel", rfl, by decide, wd_3_156, zu_R, Or.inl rfl⟩
theorem wd_3_157 : (Jvm.Cond.fieldLink "IntervalPackerModel" (177 : Nat) "IntervalPackerModel" "next" "I") ∈ zx_WS := zx_r3 (List.mem_of_getElem? (i := 157) rfl) rfl
theorem fo_8_177_8 : zx_fOK 8 177 8 19 := ⟨"IntervalPackerModel", zt_R, 42, "IntervalPackerModel", rfl, by decide, wd_3_157, zu_R, Or.inl rfl⟩
theorem wd_3_158 : (Jvm.Cond.fieldLink "IntervalPackerModel" (180 : Nat) "IntervalPackerModel" "end" "I") ∈ zx_WS := zx_r3 (List.mem_of_getElem? (i := 158) rfl) rfl
theorem fo_8_180_8 : zx_fOK 8 180 8 20 := ⟨"IntervalPackerModel", zt_R, 42, "IntervalPackerModel", rfl, by decide, wd_3_158, zu_R, Or.inl rfl⟩
theorem wd_3_159 : (Jvm.Cond.fieldLink "IntervalPackerModel" (183 : Nat) "IntervalPackerModel" "left" "I") ∈ zx_WS := zx_r3 (List.mem_of_getElem? (i := 159) rfl) rfl
theorem fo_8_183_8 : zx_fOK 8 183 8 21 := ⟨"IntervalPackerModel", zt_R, 42, "IntervalPackerModel", rfl, by decide, wd_3_159, zu_R, Or.inl rfl⟩
theorem wd_3_160 : (Jvm.Cond.fieldLink "IntervalPackerModel" (186 : Nat) "IntervalPackerModel" "bad" "Z") ∈ zx_WS := zx_r3 (List.mem_of_getElem? (i := 160) rfl) rfl
theorem fo_8_186_8 : zx_fOK 8 186 8 22 := ⟨"IntervalPackerModel", zt_R, 42, "IntervalPackerModel", rfl, by decide, wd_3_160, zu_R, Or.inl rfl⟩
theorem wd_3_175 : (Jvm.Cond.fieldLink "IntervalPackerModel" (198 : Nat) "IntervalPackerModel" "watched" "I") ∈ zx_WS := zx_r3 (List.mem_of_getElem? (i := 175) rfl) rfl
theorem fo_8_198_8 : zx_fOK 8 198 8 37 := ⟨"IntervalPackerModel", zt_R, 42, "IntervalPackerModel", rfl, by decide, wd_3_175, zu_R, Or.inl rfl⟩
theorem wd_3_176 : (Jvm.Cond.fieldLink "IntervalPackerModel" (201 : Nat) "IntervalPackerModel" "looked" "I") ∈ zx_WS := zx_r3 (List.mem_of_getElem? (i := 176) rfl) rfl
theorem fo_8_201_8 : zx_fOK 8 201 8 38 := ⟨"IntervalPackerModel", zt_R, 42, "IntervalPackerModel", rfl, by decide, wd_3_176, zu_R, Or.inl rfl⟩
theorem wd_3_150 : (Jvm.Cond.fieldLink "IntervalPackerModel" (213 : Nat) "IntervalPackerModel" "state" "I") ∈ zx_WS := zx_r3 (List.mem_of_getElem? (i := 150) rfl) rfl
theorem fo_8_213_8 : zx_fOK 8 213 8 12 := ⟨"IntervalPackerModel", zt_R, 42, "IntervalPackerModel", rfl, by decide, wd_3_150, zu_R, Or.inl rfl⟩
theorem wd_3_151 : (Jvm.Cond.fieldLink "IntervalPackerModel" (216 : Nat) "IntervalPackerModel" "r0" "J") ∈ zx_WS := zx_r3 (List.mem_of_getElem? (i := 151) rfl) rfl
theorem fo_8_216_8 : zx_fOK 8 216 8 13 := ⟨"IntervalPackerModel", zt_R, 42, "IntervalPackerModel", rfl, by decide, wd_3_151, zu_R, Or.inl rfl⟩
theorem wd_3_152 : (Jvm.Cond.fieldLink "IntervalPackerModel" (219 : Nat) "IntervalPackerModel" "r1" "J") ∈ zx_WS := zx_r3 (List.mem_of_getElem? (i := 152) rfl) rfl
theorem fo_8_219_8 : zx_fOK 8 219 8 14 := ⟨"IntervalPackerModel", zt_R, 42, "IntervalPackerModel", rfl, by decide, wd_3_152, zu_R, Or.inl rfl⟩
theorem wd_3_153 : (Jvm.Cond.fieldLink "IntervalPackerModel" (222 : Nat) "IntervalPackerModel" "r2" "J") ∈ zx_WS := zx_r3 (List.mem_of_getElem? (i := 153) rfl) rfl
theorem fo_8_222_8 : zx_fOK 8 222 8 15 := ⟨"IntervalPackerModel", zt_R, 42, "IntervalPackerModel", rfl, by decide, wd_3_153, zu_R, Or.inl rfl⟩
theorem wd_3_154 : (Jvm.Cond.fieldLink "IntervalPackerModel" (225 : Nat) "IntervalPackerModel" "r3" "J") ∈ zx_WS := zx_r3 (List.mem_of_getElem? (i := 154) rfl) rfl
theorem fo_8_225_8 : zx_fOK 8 225 8 16 := ⟨"IntervalPackerModel", zt_R, 42, "IntervalPackerModel", rfl, by decide, wd_3_154, zu_R, Or.inl rfl⟩
theorem wd_3_165 : (Jvm.Cond.fieldLink "IntervalPackerModel" (293 : Nat) "IntervalPackerModel" "lost" "Z") ∈ zx_WS := zx_r3 (List.mem_of_getElem? (i := 165) rfl) rfl
theorem fo_8_293_8 : zx_fOK 8 293 8 27 := ⟨"IntervalPackerModel", zt_R, 42, "IntervalPackerModel", rfl, by decide, wd_3_165, zu_R, Or.inl rfl⟩
theorem wd_3_163 : (Jvm.Cond.fieldLink "IntervalPackerModel" (296 : Nat) "IntervalPackerModel" "lowSize" "I") ∈ zx_WS := zx_r3 (List.mem_of_getElem? (i := 163) rfl) rfl
theorem fo_8_296_8 : zx_fOK 8 296 8 25 := ⟨"IntervalPackerModel", zt_R, 42, "IntervalPackerModel", rfl, by decide, wd_3_163, zu_R, Or.inl rfl⟩
theorem wd_3_164 : (Jvm.Cond.fieldLink "IntervalPackerModel" (299 : Nat) "IntervalPackerModel" "limit" "I") ∈ zx_WS := zx_r3 (List.mem_of_getElem? (i := 164) rfl) rfl
theorem fo_8_299_8 : zx_fOK 8 299 8 26 := ⟨"IntervalPackerModel", zt_R, 42, "IntervalPackerModel", rfl, by decide, wd_3_164, zu_R, Or.inl rfl⟩
theorem wd_3_145 : (Jvm.Cond.fieldLink "IntervalPackerModel" (340 : Nat) "IntervalPackerModel" "boxSize" "I") ∈ zx_WS := zx_r3 (List.mem_of_getElem? (i := 145) rfl) rfl
theorem fo_8_340_8 : zx_fOK 8 340 8 7 := ⟨"IntervalPackerModel", zt_R, 42, "IntervalPackerModel", rfl, by decide, wd_3_145, zu_R, Or.inl rfl⟩
theorem wd_0_74 : (Jvm.Cond.fieldLink "IntervalPacker$BitLine" (9 : Nat) "IntervalPacker$BitLine" "chances" "[I") ∈ zx_WS := zx_r0 (List.mem_of_getElem? (i := 74) rfl) rfl
theorem fo_9_9_3 : zx_fOK 9 9 3 0 := ⟨"IntervalPacker$BitSource", zt_Src, 12, "IntervalPacker$BitLine", rfl, by decide, wd_0_74, zu_Src, Or.inl rfl⟩
theorem fo_9_9_4 : zx_fOK 9 9 4 0 := ⟨"IntervalPacker$BitSink", zt_Snk, 6, "IntervalPacker$BitLine", rfl, by decide, wd_0_74, zu_Snk, Or.inl rfl⟩
def zx_ftab : List (Nat × Nat × Nat × Nat) := [(0, 14, 0, 0), (0, 18, 0, 1), (0, 26, 0, 2), (0, 40, 0, 3), (0, 52, 0, 4), (0, 67, 1, 1), (0, 79, 1, 0), (0, 115, 7, 0), (0, 118, 1, 2), (0, 144, 6, 1), (0, 153, 2, 4), (0, 156, 6, 0), (0, 159, 2, 5), (0, 162, 3, 9), (0, 165, 3, 10), (0, 169, 3, 11), (0, 172, 3, 8), (0, 175, 6, 2), (1, 9, 1, 0), (1, 15, 1, 1), (1, 19, 1, 2), (2, 9, 2, 0), (2, 15, 2, 5), (2, 19, 1, 0), (2, 22, 1, 1), (2, 25, 2, 1), (2, 26, 2, 2), (2, 29, 2, 3), (2, 32, 2, 4), (3, 11, 3, 10), (3, 17, 3, 11), (3, 20, 3, 3), (3, 24, 3, 8), (3, 28, 3, 4), (3, 31, 3, 5), (3, 36, 3, 1), (3, 39, 3, 6), (3, 42, 3, 2), (3, 46, 3, 7), (3, 55, 3, 0), (3, 65, 3, 9), (4, 9, 4, 3), (4, 21, 4, 5), (4, 25, 4, 2), (4, 29, 4, 4), (4, 34, 4, 1), (4, 50, 4, 0), (5, 9, 5, 1), (5, 15, 5, 0), (5, 19, 5, 6), (5, 23, 5, 3), (5, 27, 5, 4), (5, 30, 5, 5), (5, 42, 5, 2), (5, 49, 5, 7), (5, 56, 5, 8), (5, 59, 5, 9), (5, 69, 5, 10), (6, 14, 6, 0), (6, 23, 6, 1), (6, 27, 6, 2), (6, 31, 6, 5), (6, 35, 6, 6), (6, 38, 6, 3), (6, 42, 6, 4), (6, 71, 2, 0), (6, 78, 2, 3), (6, 82, 6, 7), (6, 96, 6, 8), (6, 99, 1, 1), (6, 102, 6, 9), (6, 105, 6, 13), (6, 109, 6, 14), (6, 122, 6, 15), (6, 155, 6, 10), (6, 159, 6, 11), (6, 172, 6, 12), (6, 179, 6, 16), (6, 182, 6, 17), (6, 227, 3, 2), (6, 234, 5, 7), (6, 240, 5, 8), (6, 246, 5, 9), (6, 260, 1, 0), (6, 268, 6, 18), (6, 271, 2, 1), (7, 14, 7, 0), (7, 20, 7, 3), (7, 24, 7, 1), (7, 28, 7, 2), (7, 32, 7, 4), (7, 35, 7, 5), (7, 39, 7, 6), (7, 55, 1, 0), (7, 66, 1, 1), (7, 69, 7, 7), (7, 72, 7, 10), (7, 76, 7, 11), (7, 79, 7, 12), (7, 82, 1, 2), (7, 99, 4, 4), (7, 102, 4, 3), (7, 108, 4, 2), (7, 144, 5, 9), (7, 159, 5, 8), (7, 162, 7, 15), (7, 165, 7, 13), (7, 168, 7, 16), (7, 171, 5, 7), (7, 174, 7, 14), (7, 177, 5, 10), (7, 189, 7, 8), (7, 206, 7, 9), (8, 7, 8, 0), (8, 13, 8, 2), (8, 16, 8, 4), (8, 19, 8, 6), (8, 22, 8, 8), (8, 25, 8, 24), (8, 28, 8, 30), (8, 32, 8, 33), (8, 35, 8, 34), (8, 40, 8, 39), (8, 44, 8, 40), (8, 47, 8, 41), (8, 50, 8, 3), (8, 53, 8, 1), (8, 68, 8, 5), (8, 74, 8, 29), (8, 77, 8, 28), (8, 99, 8, 31), (8, 115, 8, 35), (8, 119, 8, 36), (8, 136, 8, 32), (8, 156, 8, 9), (8, 159, 8, 10), (8, 162, 8, 11), (8, 165, 8, 23), (8, 171, 8, 17), (8, 174, 8, 18), (8, 177, 8, 19), (8, 180, 8, 20), (8, 183, 8, 21), (8, 186, 8, 22), (8, 198, 8, 37), (8, 201, 8, 38), (8, 213, 8, 12), (8, 216, 8, 13), (8, 219, 8, 14), (8, 222, 8, 15), (8, 225, 8, 16), (8, 293, 8, 27), (8, 296, 8, 25), (8, 299, 8, 26), (8, 340, 8, 7), (9, 9, 3, 0), (9, 9, 4, 0)]
theorem zx_ftab_g0 : ∀ q ∈ ([(0, 14, 0, 0), (0, 18, 0, 1), (0, 26, 0, 2), (0, 40, 0, 3), (0, 52, 0, 4), (0, 67, 1, 1), (0, 79, 1, 0), (0, 115, 7, 0), (0, 118, 1, 2), (0, 144, 6, 1), (0, 153, 2, 4), (0, 156, 6, 0), (0, 159, 2, 5), (0, 162, 3, 9), (0, 165, 3, 10), (0, 169, 3, 11)] : List (Nat × Nat × Nat × Nat)), zx_fOK q.1 q.2.1 q.2.2.1 q.2.2.2 := List.forall_mem_cons.mpr ⟨fo_0_14_0, List.forall_mem_cons.mpr ⟨fo_0_18_0, List.forall_mem_cons.mpr ⟨fo_0_26_0, List.forall_mem_cons.mpr ⟨fo_0_40_0, List.forall_mem_cons.mpr ⟨fo_0_52_0, List.forall_mem_cons.mpr ⟨fo_0_67_1, List.forall_mem_cons.mpr ⟨fo_0_79_1, List.forall_mem_cons.mpr ⟨fo_0_115_7, List.forall_mem_cons.mpr ⟨fo_0_118_1, List.forall_mem_cons.mpr ⟨fo_0_144_6, List.forall_mem_cons.mpr ⟨fo_0_153_2, List.forall_mem_cons.mpr ⟨fo_0_156_6, List.forall_mem_cons.mpr ⟨fo_0_159_2, List.forall_mem_cons.mpr ⟨fo_0_162_3, List.forall_mem_cons.mpr ⟨fo_0_165_3, List.forall_mem_cons.mpr ⟨fo_0_169_3, fun _ h => absurd h List.not_mem_nil⟩⟩⟩⟩⟩⟩⟩⟩⟩⟩⟩⟩⟩⟩⟩⟩
theorem zx_ftab_g1 : ∀ q ∈ ([(0, 172, 3, 8), (0, 175, 6, 2), (1, 9, 1, 0), (1, 15, 1, 1), (1, 19, 1, 2), (2, 9, 2, 0), (2, 15, 2, 5), (2, 19, 1, 0), (2, 22, 1, 1), (2, 25, 2, 1), (2, 26, 2, 2), (2, 29, 2, 3), (2, 32, 2, 4), (3, 11, 3, 10), (3, 17, 3, 11), (3, 20, 3, 3)] : List (Nat × Nat × Nat × Nat)), zx_fOK q.1 q.2.1 q.2.2.1 q.2.2.2 := List.forall_mem_cons.mpr ⟨fo_0_172_3, List.forall_mem_cons.mpr ⟨fo_0_175_6, List.forall_mem_cons.mpr ⟨fo_1_9_1, List.forall_mem_cons.mpr ⟨fo_1_15_1, List.forall_mem_cons.mpr ⟨fo_1_19_1, List.forall_mem_cons.mpr ⟨fo_2_9_2, List.forall_mem_cons.mpr ⟨fo_2_15_2, List.forall_mem_cons.mpr ⟨fo_2_19_1, List.forall_mem_cons.mpr ⟨fo_2_22_1, List.forall_mem_cons.mpr ⟨fo_2_25_2, List.forall_mem_cons.mpr ⟨fo_2_26_2, List.forall_mem_cons.mpr ⟨fo_2_29_2, List.forall_mem_cons.mpr ⟨fo_2_32_2, List.forall_mem_cons.mpr ⟨fo_3_11_3, List.forall_mem_cons.mpr ⟨fo_3_17_3, List.forall_mem_cons.mpr ⟨fo_3_20_3, fun _ h => absurd h List.not_mem_nil⟩⟩⟩⟩⟩⟩⟩⟩⟩⟩⟩⟩⟩⟩⟩⟩
theorem zx_ftab_g2 : ∀ q ∈ ([(3, 24, 3, 8), (3, 28, 3, 4), (3, 31, 3, 5), (3, 36, 3, 1), (3, 39, 3, 6), (3, 42, 3, 2), (3, 46, 3, 7), (3, 55, 3, 0), (3, 65, 3, 9), (4, 9, 4, 3), (4, 21, 4, 5), (4, 25, 4, 2), (4, 29, 4, 4), (4, 34, 4, 1), (4, 50, 4, 0), (5, 9, 5, 1)] : List (Nat × Nat × Nat × Nat)), zx_fOK q.1 q.2.1 q.2.2.1 q.2.2.2 := List.forall_mem_cons.mpr ⟨fo_3_24_3, List.forall_mem_cons.mpr ⟨fo_3_28_3, List.forall_mem_cons.mpr ⟨fo_3_31_3, List.forall_mem_cons.mpr ⟨fo_3_36_3, List.forall_mem_cons.mpr ⟨fo_3_39_3, List.forall_mem_cons.mpr ⟨fo_3_42_3, List.forall_mem_cons.mpr ⟨fo_3_46_3, List.forall_mem_cons.mpr ⟨fo_3_55_3, List.forall_mem_cons.mpr ⟨fo_3_65_3, List.forall_mem_cons.mpr ⟨fo_4_9_4, List.forall_mem_cons.mpr ⟨fo_4_21_4, List.forall_mem_cons.mpr ⟨fo_4_25_4, List.forall_mem_cons.mpr ⟨fo_4_29_4, List.forall_mem_cons.mpr ⟨fo_4_34_4, List.forall_mem_cons.mpr ⟨fo_4_50_4, List.forall_mem_cons.mpr ⟨fo_5_9_5, fun _ h => absurd h List.not_mem_nil⟩⟩⟩⟩⟩⟩⟩⟩⟩⟩⟩⟩⟩⟩⟩⟩
theorem zx_ftab_g3 : ∀ q ∈ ([(5, 15, 5, 0), (5, 19, 5, 6), (5, 23, 5, 3), (5, 27, 5, 4), (5, 30, 5, 5), (5, 42, 5, 2), (5, 49, 5, 7), (5, 56, 5, 8), (5, 59, 5, 9), (5, 69, 5, 10), (6, 14, 6, 0), (6, 23, 6, 1), (6, 27, 6, 2), (6, 31, 6, 5), (6, 35, 6, 6), (6, 38, 6, 3)] : List (Nat × Nat × Nat × Nat)), zx_fOK q.1 q.2.1 q.2.2.1 q.2.2.2 := List.forall_mem_cons.mpr ⟨fo_5_15_5, List.forall_mem_cons.mpr ⟨fo_5_19_5, List.forall_mem_cons.mpr ⟨fo_5_23_5, List.forall_mem_cons.mpr ⟨fo_5_27_5, List.forall_mem_cons.mpr ⟨fo_5_30_5, List.forall_mem_cons.mpr ⟨fo_5_42_5, List.forall_mem_cons.mpr ⟨fo_5_49_5, List.forall_mem_cons.mpr ⟨fo_5_56_5, List.forall_mem_cons.mpr ⟨fo_5_59_5, List.forall_mem_cons.mpr ⟨fo_5_69_5, List.forall_mem_cons.mpr ⟨fo_6_14_6, List.forall_mem_cons.mpr ⟨fo_6_23_6, List.forall_mem_cons.mpr ⟨fo_6_27_6, List.forall_mem_cons.mpr ⟨fo_6_31_6, List.forall_mem_cons.mpr ⟨fo_6_35_6, List.forall_mem_cons.mpr ⟨fo_6_38_6, fun _ h => absurd h List.not_mem_nil⟩⟩⟩⟩⟩⟩⟩⟩⟩⟩⟩⟩⟩⟩⟩⟩
theorem zx_ftab_g4 : ∀ q ∈ ([(6, 42, 6, 4), (6, 71, 2, 0), (6, 78, 2, 3), (6, 82, 6, 7), (6, 96, 6, 8), (6, 99, 1, 1), (6, 102, 6, 9), (6, 105, 6, 13), (6, 109, 6, 14), (6, 122, 6, 15), (6, 155, 6, 10), (6, 159, 6, 11), (6, 172, 6, 12), (6, 179, 6, 16), (6, 182, 6, 17), (6, 227, 3, 2)] : List (Nat × Nat × Nat × Nat)), zx_fOK q.1 q.2.1 q.2.2.1 q.2.2.2 := List.forall_mem_cons.mpr ⟨fo_6_42_6, List.forall_mem_cons.mpr ⟨fo_6_71_2, List.forall_mem_cons.mpr ⟨fo_6_78_2, List.forall_mem_cons.mpr ⟨fo_6_82_6, List.forall_mem_cons.mpr ⟨fo_6_96_6, List.forall_mem_cons.mpr ⟨fo_6_99_1, List.forall_mem_cons.mpr ⟨fo_6_102_6, List.forall_mem_cons.mpr ⟨fo_6_105_6, List.forall_mem_cons.mpr ⟨fo_6_109_6, List.forall_mem_cons.mpr ⟨fo_6_122_6, List.forall_mem_cons.mpr ⟨fo_6_155_6, List.forall_mem_cons.mpr ⟨fo_6_159_6, List.forall_mem_cons.mpr ⟨fo_6_172_6, List.forall_mem_cons.mpr ⟨fo_6_179_6, List.forall_mem_cons.mpr ⟨fo_6_182_6, List.forall_mem_cons.mpr ⟨fo_6_227_3, fun _ h => absurd h List.not_mem_nil⟩⟩⟩⟩⟩⟩⟩⟩⟩⟩⟩⟩⟩⟩⟩⟩
theorem zx_ftab_g5 : ∀ q ∈ ([(6, 234, 5, 7), (6, 240, 5, 8), (6, 246, 5, 9), (6, 260, 1, 0), (6, 268, 6, 18), (6, 271, 2, 1), (7, 14, 7, 0), (7, 20, 7, 3), (7, 24, 7, 1), (7, 28, 7, 2), (7, 32, 7, 4), (7, 35, 7, 5), (7, 39, 7, 6), (7, 55, 1, 0), (7, 66, 1, 1), (7, 69, 7, 7)] : List (Nat × Nat × Nat × Nat)), zx_fOK q.1 q.2.1 q.2.2.1 q.2.2.2 := List.forall_mem_cons.mpr ⟨fo_6_234_5, List.forall_mem_cons.mpr ⟨fo_6_240_5, List.forall_mem_cons.mpr ⟨fo_6_246_5, List.forall_mem_cons.mpr ⟨fo_6_260_1, List.forall_mem_cons.mpr ⟨fo_6_268_6, List.forall_mem_cons.mpr ⟨fo_6_271_2, List.forall_mem_cons.mpr ⟨fo_7_14_7, List.forall_mem_cons.mpr ⟨fo_7_20_7, List.forall_mem_cons.mpr ⟨fo_7_24_7, List.forall_mem_cons.mpr ⟨fo_7_28_7, List.forall_mem_cons.mpr ⟨fo_7_32_7, List.forall_mem_cons.mpr ⟨fo_7_35_7, List.forall_mem_cons.mpr ⟨fo_7_39_7, List.forall_mem_cons.mpr ⟨fo_7_55_1, List.forall_mem_cons.mpr ⟨fo_7_66_1, List.forall_mem_cons.mpr ⟨fo_7_69_7, fun _ h => absurd h List.not_mem_nil⟩⟩⟩⟩⟩⟩⟩⟩⟩⟩⟩⟩⟩⟩⟩⟩
theorem zx_ftab_g6 : ∀ q ∈ ([(7, 72, 7, 10), (7, 76, 7, 11), (7, 79, 7, 12), (7, 82, 1, 2), (7, 99, 4, 4), (7, 102, 4, 3), (7, 108, 4, 2), (7, 144, 5, 9), (7, 159, 5, 8), (7, 162, 7, 15), (7, 165, 7, 13), (7, 168, 7, 16), (7, 171, 5, 7), (7, 174, 7, 14), (7, 177, 5, 10), (7, 189, 7, 8)] : List (Nat × Nat × Nat × Nat)), zx_fOK q.1 q.2.1 q.2.2.1 q.2.2.2 := List.forall_mem_cons.mpr ⟨fo_7_72_7, List.forall_mem_cons.mpr ⟨fo_7_76_7, List.forall_mem_cons.mpr ⟨fo_7_79_7, List.forall_mem_cons.mpr ⟨fo_7_82_1, List.forall_mem_cons.mpr ⟨fo_7_99_4, List.forall_mem_cons.mpr ⟨fo_7_102_4, List.forall_mem_cons.mpr ⟨fo_7_108_4, List.forall_mem_cons.mpr ⟨fo_7_144_5, List.forall_mem_cons.mpr ⟨fo_7_159_5, List.forall_mem_cons.mpr ⟨fo_7_162_7, List.forall_mem_cons.mpr ⟨fo_7_165_7, List.forall_mem_cons.mpr ⟨fo_7_168_7, List.forall_mem_cons.mpr ⟨fo_7_171_5, List.forall_mem_cons.mpr ⟨fo_7_174_7, List.forall_mem_cons.mpr ⟨fo_7_177_5, List.forall_mem_cons.mpr ⟨fo_7_189_7, fun _ h => absurd h List.not_mem_nil⟩⟩⟩⟩⟩⟩⟩⟩⟩⟩⟩⟩⟩⟩⟩⟩
theorem zx_ftab_g7 : ∀ q ∈ ([(7, 206, 7, 9), (8, 7, 8, 0), (8, 13, 8, 2), (8, 16, 8, 4), (8, 19, 8, 6), (8, 22, 8, 8), (8, 25, 8, 24), (8, 28, 8, 30), (8, 32, 8, 33), (8, 35, 8, 34), (8, 40, 8, 39), (8, 44, 8, 40), (8, 47, 8, 41), (8, 50, 8, 3), (8, 53, 8, 1), (8, 68, 8, 5)] : List (Nat × Nat × Nat × Nat)), zx_fOK q.1 q.2.1 q.2.2.1 q.2.2.2 := List.forall_mem_cons.mpr ⟨fo_7_206_7, List.forall_mem_cons.mpr ⟨fo_8_7_8, List.forall_mem_cons.mpr ⟨fo_8_13_8, List.forall_mem_cons.mpr ⟨fo_8_16_8, List.forall_mem_cons.mpr ⟨fo_8_19_8, List.forall_mem_cons.mpr ⟨fo_8_22_8, List.forall_mem_cons.mpr ⟨fo_8_25_8, List.forall_mem_cons.mpr ⟨fo_8_28_8, List.forall_mem_cons.mpr ⟨fo_8_32_8, List.forall_mem_cons.mpr ⟨fo_8_35_8, List.forall_mem_cons.mpr ⟨fo_8_40_8, List.forall_mem_cons.mpr ⟨fo_8_44_8, List.forall_mem_cons.mpr ⟨fo_8_47_8, List.forall_mem_cons.mpr ⟨fo_8_50_8, List.forall_mem_cons.mpr ⟨fo_8_53_8, List.forall_mem_cons.mpr ⟨fo_8_68_8, fun _ h => absurd h List.not_mem_nil⟩⟩⟩⟩⟩⟩⟩⟩⟩⟩⟩⟩⟩⟩⟩⟩
theorem zx_ftab_g8 : ∀ q ∈ ([(8, 74, 8, 29), (8, 77, 8, 28), (8, 99, 8, 31), (8, 115, 8, 35), (8, 119, 8, 36), (8, 136, 8, 32), (8, 156, 8, 9), (8, 159, 8, 10), (8, 162, 8, 11), (8, 165, 8, 23), (8, 171, 8, 17), (8, 174, 8, 18), (8, 177, 8, 19), (8, 180, 8, 20), (8, 183, 8, 21), (8, 186, 8, 22)] : List (Nat × Nat × Nat × Nat)), zx_fOK q.1 q.2.1 q.2.2.1 q.2.2.2 := List.forall_mem_cons.mpr ⟨fo_8_74_8, List.forall_mem_cons.mpr ⟨fo_8_77_8, List.forall_mem_cons.mpr ⟨fo_8_99_8, List.forall_mem_cons.mpr ⟨fo_8_115_8, List.forall_mem_cons.mpr ⟨fo_8_119_8, List.forall_mem_cons.mpr ⟨fo_8_136_8, List.forall_mem_cons.mpr ⟨fo_8_156_8, List.forall_mem_cons.mpr ⟨fo_8_159_8, List.forall_mem_cons.mpr ⟨fo_8_162_8, List.forall_mem_cons.mpr ⟨fo_8_165_8, List.forall_mem_cons.mpr ⟨fo_8_171_8, List.forall_mem_cons.mpr ⟨fo_8_174_8, List.forall_mem_cons.mpr ⟨fo_8_177_8, List.forall_mem_cons.mpr ⟨fo_8_180_8, List.forall_mem_cons.mpr ⟨fo_8_183_8, List.forall_mem_cons.mpr ⟨fo_8_186_8, fun _ h => absurd h List.not_mem_nil⟩⟩⟩⟩⟩⟩⟩⟩⟩⟩⟩⟩⟩⟩⟩⟩
theorem zx_ftab_g9 : ∀ q ∈ ([(8, 198, 8, 37), (8, 201, 8, 38), (8, 213, 8, 12), (8, 216, 8, 13), (8, 219, 8, 14), (8, 222, 8, 15), (8, 225, 8, 16), (8, 293, 8, 27), (8, 296, 8, 25), (8, 299, 8, 26), (8, 340, 8, 7), (9, 9, 3, 0), (9, 9, 4, 0)] : List (Nat × Nat × Nat × Nat)), zx_fOK q.1 q.2.1 q.2.2.1 q.2.2.2 := List.forall_mem_cons.mpr ⟨fo_8_198_8, List.forall_mem_cons.mpr ⟨fo_8_201_8, List.forall_mem_cons.mpr ⟨fo_8_213_8, List.forall_mem_cons.mpr ⟨fo_8_216_8, List.forall_mem_cons.mpr ⟨fo_8_219_8, List.forall_mem_cons.mpr ⟨fo_8_222_8, List.forall_mem_cons.mpr ⟨fo_8_225_8, List.forall_mem_cons.mpr ⟨fo_8_293_8, List.forall_mem_cons.mpr ⟨fo_8_296_8, List.forall_mem_cons.mpr ⟨fo_8_299_8, List.forall_mem_cons.mpr ⟨fo_8_340_8, List.forall_mem_cons.mpr ⟨fo_9_9_3, List.forall_mem_cons.mpr ⟨fo_9_9_4, fun _ h => absurd h List.not_mem_nil⟩⟩⟩⟩⟩⟩⟩⟩⟩⟩⟩⟩⟩
theorem zx_ftab_ok : ∀ q ∈ zx_ftab, zx_fOK q.1 q.2.1 q.2.2.1 q.2.2.2 := List.forall_mem_append.mpr ⟨zx_ftab_g0, List.forall_mem_append.mpr ⟨zx_ftab_g1, List.forall_mem_append.mpr ⟨zx_ftab_g2, List.forall_mem_append.mpr ⟨zx_ftab_g3, List.forall_mem_append.mpr ⟨zx_ftab_g4, List.forall_mem_append.mpr ⟨zx_ftab_g5, List.forall_mem_append.mpr ⟨zx_ftab_g6, List.forall_mem_append.mpr ⟨zx_ftab_g7, List.forall_mem_append.mpr ⟨zx_ftab_g8, zx_ftab_g9⟩⟩⟩⟩⟩⟩⟩⟩⟩
def zx_tk (kd : Option Nat) (ty : FieldType) : Prop := match kd with
  | some 0 => ty = .int
  | some 1 => ty = .long
  | some 2 => (∃ c, ty = .object c) ∨ ∃ t, ty = .array t
  | some 3 => ty = .boolean
  | _ => False
def zx_pOK (ci k : Nat) : Prop := ∃ (C : String) (T : u_T) (N : Nat) (ty0 : Nat → FieldType) (ty : FieldType), zx_cl[ci]? = some (C, T, N) ∧ (∀ k, k < N → parseFieldDescriptor (T k).2.2.1 = some (ty0 k)) ∧ (∀ a, a < N → ∀ b, b < N → a ≠ b → (T a).2.1 ≠ (T b).2.1) ∧ (T k).2.2.2 = false ∧ parseFieldDescriptor (T k).2.2.1 = some ty ∧ zx_tk ((zx_kd ci)[k]?) ty
def zy_P : Nat → FieldType := fun k => match k with
  | 0 => .object "IntervalPacker$Row"
  | 1 => .object "IntervalPacker$Row"
  | 2 => .object "IntervalPacker$BitSource"
  | 3 => .object "IntervalPacker$Unpacking"
  | _ => .object "IntervalPacker$Packing"
theorem zy_P_ok : ∀ k, k < 5 → parseFieldDescriptor (zt_P k).2.2.1 = some (zy_P k) := by decide +kernel
theorem zm_P : ∀ a, a < 5 → ∀ b, b < 5 → a ≠ b → (zt_P a).2.1 ≠ (zt_P b).2.1 := by decide +kernel
def zy_Row : Nat → FieldType := fun k => match k with
  | 0 => .array .int
  | 1 => .int
  | _ => .boolean
theorem zy_Row_ok : ∀ k, k < 3 → parseFieldDescriptor (zt_Row k).2.2.1 = some (zy_Row k) := by decide +kernel
theorem zm_Row : ∀ a, a < 3 → ∀ b, b < 3 → a ≠ b → (zt_Row a).2.1 ≠ (zt_Row b).2.1 := by decide +kernel
def zy_Cur : Nat → FieldType := fun k => match k with
  | 0 => .array .int
  | 1 => .int
  | 2 => .int
  | 3 => .int
  | 4 => .int
  | _ => .int
theorem zy_Cur_ok : ∀ k, k < 6 → parseFieldDescriptor (zt_Cur k).2.2.1 = some (zy_Cur k) := by decide +kernel
theorem zm_Cur : ∀ a, a < 6 → ∀ b, b < 6 → a ≠ b → (zt_Cur a).2.1 ≠ (zt_Cur b).2.1 := by decide +kernel
def zy_Src : Nat → FieldType := fun k => match k with
  | 0 => .array .int
  | 1 => .long
  | 2 => .boolean
  | 3 => .array .int
  | 4 => .int
  | 5 => .int
  | 6 => .long
  | 7 => .boolean
  | 8 => .int
  | 9 => .int
  | 10 => .long
  | _ => .long
theorem zy_Src_ok : ∀ k, k < 12 → parseFieldDescriptor (zt_Src k).2.2.1 = some (zy_Src k) := by decide +kernel
theorem zm_Src : ∀ a, a < 12 → ∀ b, b < 12 → a ≠ b → (zt_Src a).2.1 ≠ (zt_Src b).2.1 := by decide +kernel
def zy_Snk : Nat → FieldType := fun k => match k with
  | 0 => .array .int
  | 1 => .long
  | 2 => .boolean
  | 3 => .array .int
  | 4 => .int
  | _ => .int
theorem zy_Snk_ok : ∀ k, k < 6 → parseFieldDescriptor (zt_Snk k).2.2.1 = some (zy_Snk k) := by decide +kernel
theorem zm_Snk : ∀ a, a < 6 → ∀ b, b < 6 → a ≠ b → (zt_Snk a).2.1 ≠ (zt_Snk b).2.1 := by decide +kernel
def zy_Mdl : Nat → FieldType := fun k => match k with
  | 0 => .array .int
  | 1 => .array .long
  | 2 => .int
  | 3 => .int
  | 4 => .int
  | 5 => .int
  | 6 => .object "IntervalPacker$BitLine"
  | 7 => .int
  | 8 => .int
  | 9 => .int
  | _ => .long
theorem zy_Mdl_ok : ∀ k, k < 11 → parseFieldDescriptor (zt_Mdl k).2.2.1 = some (zy_Mdl k) := by decide +kernel
theorem zm_Mdl : ∀ a, a < 11 → ∀ b, b < 11 → a ≠ b → (zt_Mdl a).2.1 ≠ (zt_Mdl b).2.1 := by decide +kernel
def zy_Unp : Nat → FieldType := fun k => match k with
  | 0 => .object "IntervalPacker$Row"
  | 1 => .object "IntervalPacker$Cursor"
  | 2 => .array .int
  | 3 => .object "IntervalPacker$Model"
  | 4 => .object "IntervalPacker$BitSource"
  | 5 => .array .long
  | 6 => .array .long
  | 7 => .int
  | 8 => .int
  | 9 => .int
  | 10 => .long
  | 11 => .long
  | 12 => .int
  | 13 => .boolean
  | 14 => .boolean
  | 15 => .int
  | 16 => .int
  | 17 => .int
  | _ => .int
theorem zy_Unp_ok : ∀ k, k < 19 → parseFieldDescriptor (zt_Unp k).2.2.1 = some (zy_Unp k) := by decide +kernel
theorem zm_Unp : ∀ a, a < 19 → ∀ b, b < 19 → a ≠ b → (zt_Unp a).2.1 ≠ (zt_Unp b).2.1 := by decide +kernel
def zy_Pkg : Nat → FieldType := fun k => match k with
  | 0 => .object "IntervalPacker$Row"
  | 1 => .object "IntervalPacker$Model"
  | 2 => .object "IntervalPacker$BitSink"
  | 3 => .array .int
  | 4 => .object "IntervalPacker$Row"
  | 5 => .int
  | 6 => .int
  | 7 => .int
  | 8 => .long
  | 9 => .int
  | 10 => .boolean
  | 11 => .boolean
  | 12 => .boolean
  | 13 => .int
  | 14 => .int
  | 15 => .int
  | _ => .int
theorem zy_Pkg_ok : ∀ k, k < 17 → parseFieldDescriptor (zt_Pkg k).2.2.1 = some (zy_Pkg k) := by decide +kernel
theorem zm_Pkg : ∀ a, a < 17 → ∀ b, b < 17 → a ≠ b → (zt_Pkg a).2.1 ≠ (zt_Pkg b).2.1 := by decide +kernel
def zy_R : Nat → FieldType := fun k => match k with
  | 0 => .array .int
  | 1 => .int
  | 2 => .array .int
  | 3 => .int
  | 4 => .array .int
  | 5 => .int
  | 6 => .array .int
  | 7 => .int
  | 8 => .array .int
  | 9 => .int
  | 10 => .int
  | 11 => .int
  | 12 => .int
  | 13 => .long
  | 14 => .long
  | 15 => .long
  | 16 => .long
  | 17 => .long
  | 18 => .long
  | 19 => .int
  | 20 => .int
  | 21 => .int
  | 22 => .boolean
  | 23 => .int
  | 24 => .array .int
  | 25 => .int
  | 26 => .int
  | 27 => .boolean
  | 28 => .int
  | 29 => .int
  | 30 => .int
  | 31 => .int
  | 32 => .int
  | 33 => .array .int
  | 34 => .array .int
  | 35 => .boolean
  | 36 => .boolean
  | 37 => .int
  | 38 => .int
  | 39 => .long
  | 40 => .long
  | _ => .array .int
theorem zy_R_ok : ∀ k, k < 42 → parseFieldDescriptor (zt_R k).2.2.1 = some (zy_R k) := by decide +kernel
theorem zm_R : ∀ a, a < 42 → ∀ b, b < 42 → a ≠ b → (zt_R a).2.1 ≠ (zt_R b).2.1 := by decide +kernel
theorem po_1_1 : zx_pOK 1 1 := ⟨"IntervalPacker$Row", zt_Row, 3, zy_Row, .int, rfl, zy_Row_ok, zm_Row, rfl, by decide +kernel, rfl⟩
theorem po_1_2 : zx_pOK 1 2 := ⟨"IntervalPacker$Row", zt_Row, 3, zy_Row, .boolean, rfl, zy_Row_ok, zm_Row, rfl, by decide +kernel, rfl⟩
theorem po_2_0 : zx_pOK 2 0 := ⟨"IntervalPacker$Cursor", zt_Cur, 6, zy_Cur, .array .int, rfl, zy_Cur_ok, zm_Cur, rfl, by decide +kernel, Or.inr ⟨_, rfl⟩⟩
theorem po_2_1 : zx_pOK 2 1 := ⟨"IntervalPacker$Cursor", zt_Cur, 6, zy_Cur, .int, rfl, zy_Cur_ok, zm_Cur, rfl, by decide +kernel, rfl⟩
theorem po_2_2 : zx_pOK 2 2 := ⟨"IntervalPacker$Cursor", zt_Cur, 6, zy_Cur, .int, rfl, zy_Cur_ok, zm_Cur, rfl, by decide +kernel, rfl⟩
theorem po_2_3 : zx_pOK 2 3 := ⟨"IntervalPacker$Cursor", zt_Cur, 6, zy_Cur, .int, rfl, zy_Cur_ok, zm_Cur, rfl, by decide +kernel, rfl⟩
theorem po_2_4 : zx_pOK 2 4 := ⟨"IntervalPacker$Cursor", zt_Cur, 6, zy_Cur, .int, rfl, zy_Cur_ok, zm_Cur, rfl, by decide +kernel, rfl⟩
theorem po_2_5 : zx_pOK 2 5 := ⟨"IntervalPacker$Cursor", zt_Cur, 6, zy_Cur, .int, rfl, zy_Cur_ok, zm_Cur, rfl, by decide +kernel, rfl⟩
theorem po_3_1 : zx_pOK 3 1 := ⟨"IntervalPacker$BitSource", zt_Src, 12, zy_Src, .long, rfl, zy_Src_ok, zm_Src, rfl, by decide +kernel, rfl⟩
theorem po_3_2 : zx_pOK 3 2 := ⟨"IntervalPacker$BitSource", zt_Src, 12, zy_Src, .boolean, rfl, zy_Src_ok, zm_Src, rfl, by decide +kernel, rfl⟩
theorem po_3_3 : zx_pOK 3 3 := ⟨"IntervalPacker$BitSource", zt_Src, 12, zy_Src, .array .int, rfl, zy_Src_ok, zm_Src, rfl, by decide +kernel, Or.inr ⟨_, rfl⟩⟩
theorem po_3_4 : zx_pOK 3 4 := ⟨"IntervalPacker$BitSource", zt_Src, 12, zy_Src, .int, rfl, zy_Src_ok, zm_Src, rfl, by decide +kernel, rfl⟩
theorem po_3_5 : zx_pOK 3 5 := ⟨"IntervalPacker$BitSource", zt_Src, 12, zy_Src, .int, rfl, zy_Src_ok, zm_Src, rfl, by decide +kernel, rfl⟩
theorem po_3_6 : zx_pOK 3 6 := ⟨"IntervalPacker$BitSource", zt_Src, 12, zy_Src, .long, rfl, zy_Src_ok, zm_Src, rfl, by decide +kernel, rfl⟩
theorem po_3_7 : zx_pOK 3 7 := ⟨"IntervalPacker$BitSource", zt_Src, 12, zy_Src, .boolean, rfl, zy_Src_ok, zm_Src, rfl, by decide +kernel, rfl⟩
theorem po_3_8 : zx_pOK 3 8 := ⟨"IntervalPacker$BitSource", zt_Src, 12, zy_Src, .int, rfl, zy_Src_ok, zm_Src, rfl, by decide +kernel, rfl⟩
theorem po_3_9 : zx_pOK 3 9 := ⟨"IntervalPacker$BitSource", zt_Src, 12, zy_Src, .int, rfl, zy_Src_ok, zm_Src, rfl, by decide +kernel, rfl⟩
theorem po_3_10 : zx_pOK 3 10 := ⟨"IntervalPacker$BitSource", zt_Src, 12, zy_Src, .long, rfl, zy_Src_ok, zm_Src, rfl, by decide +kernel, rfl⟩
theorem po_3_11 : zx_pOK 3 11 := ⟨"IntervalPacker$BitSource", zt_Src, 12, zy_Src, .long, rfl, zy_Src_ok, zm_Src, rfl, by decide +kernel, rfl⟩
theorem po_4_1 : zx_pOK 4 1 := ⟨"IntervalPacker$BitSink", zt_Snk, 6, zy_Snk, .long, rfl, zy_Snk_ok, zm_Snk, rfl, by decide +kernel, rfl⟩
theorem po_4_2 : zx_pOK 4 2 := ⟨"IntervalPacker$BitSink", zt_Snk, 6, zy_Snk, .boolean, rfl, zy_Snk_ok, zm_Snk, rfl, by decide +kernel, rfl⟩
theorem po_4_4 : zx_pOK 4 4 := ⟨"IntervalPacker$BitSink", zt_Snk, 6, zy_Snk, .int, rfl, zy_Snk_ok, zm_Snk, rfl, by decide +kernel, rfl⟩
theorem po_4_5 : zx_pOK 4 5 := ⟨"IntervalPacker$BitSink", zt_Snk, 6, zy_Snk, .int, rfl, zy_Snk_ok, zm_Snk, rfl, by decide +kernel, rfl⟩
theorem po_5_2 : zx_pOK 5 2 := ⟨"IntervalPacker$Model", zt_Mdl, 11, zy_Mdl, .int, rfl, zy_Mdl_ok, zm_Mdl, rfl, by decide +kernel, rfl⟩
theorem po_5_3 : zx_pOK 5 3 := ⟨"IntervalPacker$Model", zt_Mdl, 11, zy_Mdl, .int, rfl, zy_Mdl_ok, zm_Mdl, rfl, by decide +kernel, rfl⟩
theorem po_5_4 : zx_pOK 5 4 := ⟨"IntervalPacker$Model", zt_Mdl, 11, zy_Mdl, .int, rfl, zy_Mdl_ok, zm_Mdl, rfl, by decide +kernel, rfl⟩
theorem po_5_5 : zx_pOK 5 5 := ⟨"IntervalPacker$Model", zt_Mdl, 11, zy_Mdl, .int, rfl, zy_Mdl_ok, zm_Mdl, rfl, by decide +kernel, rfl⟩
theorem po_5_6 : zx_pOK 5 6 := ⟨"IntervalPacker$Model", zt_Mdl, 11, zy_Mdl, .object "IntervalPacker$BitLine", rfl, zy_Mdl_ok, zm_Mdl, rfl, by decide +kernel, Or.inl ⟨_, rfl⟩⟩
theorem po_5_7 : zx_pOK 5 7 := ⟨"IntervalPacker$Model", zt_Mdl, 11, zy_Mdl, .int, rfl, zy_Mdl_ok, zm_Mdl, rfl, by decide +kernel, rfl⟩
theorem po_5_8 : zx_pOK 5 8 := ⟨"IntervalPacker$Model", zt_Mdl, 11, zy_Mdl, .int, rfl, zy_Mdl_ok, zm_Mdl, rfl, by decide +kernel, rfl⟩
theorem po_5_9 : zx_pOK 5 9 := ⟨"IntervalPacker$Model", zt_Mdl, 11, zy_Mdl, .int, rfl, zy_Mdl_ok, zm_Mdl, rfl, by decide +kernel, rfl⟩
theorem po_5_10 : zx_pOK 5 10 := ⟨"IntervalPacker$Model", zt_Mdl, 11, zy_Mdl, .long, rfl, zy_Mdl_ok, zm_Mdl, rfl, by decide +kernel, rfl⟩
theorem po_6_7 : zx_pOK 6 7 := ⟨"IntervalPacker$Unpacking", zt_Unp, 19, zy_Unp, .int, rfl, zy_Unp_ok, zm_Unp, rfl, by decide +kernel, rfl⟩
theorem po_6_8 : zx_pOK 6 8 := ⟨"IntervalPacker$Unpacking", zt_Unp, 19, zy_Unp, .int, rfl, zy_Unp_ok, zm_Unp, rfl, by decide +kernel, rfl⟩
theorem po_6_9 : zx_pOK 6 9 := ⟨"IntervalPacker$Unpacking", zt_Unp, 19, zy_Unp, .int, rfl, zy_Unp_ok, zm_Unp, rfl, by decide +kernel, rfl⟩
theorem po_6_10 : zx_pOK 6 10 := ⟨"IntervalPacker$Unpacking", zt_Unp, 19, zy_Unp, .long, rfl, zy_Unp_ok, zm_Unp, rfl, by decide +kernel, rfl⟩
theorem po_6_11 : zx_pOK 6 11 := ⟨"IntervalPacker$Unpacking", zt_Unp, 19, zy_Unp, .long, rfl, zy_Unp_ok, zm_Unp, rfl, by decide +kernel, rfl⟩
theorem po_6_12 : zx_pOK 6 12 := ⟨"IntervalPacker$Unpacking", zt_Unp, 19, zy_Unp, .int, rfl, zy_Unp_ok, zm_Unp, rfl, by decide +kernel, rfl⟩
theorem po_6_13 : zx_pOK 6 13 := ⟨"IntervalPacker$Unpacking", zt_Unp, 19, zy_Unp, .boolean, rfl, zy_Unp_ok, zm_Unp, rfl, by decide +kernel, rfl⟩
theorem po_6_14 : zx_pOK 6 14 := ⟨"IntervalPacker$Unpacking", zt_Unp, 19, zy_Unp, .boolean, rfl, zy_Unp_ok, zm_Unp, rfl, by decide +kernel, rfl⟩
theorem po_6_15 : zx_pOK 6 15 := ⟨"IntervalPacker$Unpacking", zt_Unp, 19, zy_Unp, .int, rfl, zy_Unp_ok, zm_Unp, rfl, by decide +kernel, rfl⟩
theorem po_6_16 : zx_pOK 6 16 := ⟨"IntervalPacker$Unpacking", zt_Unp, 19, zy_Unp, .int, rfl, zy_Unp_ok, zm_Unp, rfl, by decide +kernel, rfl⟩
theorem po_6_17 : zx_pOK 6 17 := ⟨"IntervalPacker$Unpacking", zt_Unp, 19, zy_Unp, .int, rfl, zy_Unp_ok, zm_Unp, rfl, by decide +kernel, rfl⟩
theorem po_6_18 : zx_pOK 6 18 := ⟨"IntervalPacker$Unpacking", zt_Unp, 19, zy_Unp, .int, rfl, zy_Unp_ok, zm_Unp, rfl, by decide +kernel, rfl⟩
theorem po_7_4 : zx_pOK 7 4 := ⟨"IntervalPacker$Packing", zt_Pkg, 17, zy_Pkg, .object "IntervalPacker$Row", rfl, zy_Pkg_ok, zm_Pkg, rfl, by decide +kernel, Or.inl ⟨_, rfl⟩⟩
theorem po_7_5 : zx_pOK 7 5 := ⟨"IntervalPacker$Packing", zt_Pkg, 17, zy_Pkg, .int, rfl, zy_Pkg_ok, zm_Pkg, rfl, by decide +kernel, rfl⟩
theorem po_7_6 : zx_pOK 7 6 := ⟨"IntervalPacker$Packing", zt_Pkg, 17, zy_Pkg, .int, rfl, zy_Pkg_ok, zm_Pkg, rfl, by decide +kernel, rfl⟩
theorem po_7_7 : zx_pOK 7 7 := ⟨"IntervalPacker$Packing", zt_Pkg, 17, zy_Pkg, .int, rfl, zy_Pkg_ok, zm_Pkg, rfl, by decide +kernel, rfl⟩
theorem po_7_8 : zx_pOK 7 8 := ⟨"IntervalPacker$Packing", zt_Pkg, 17, zy_Pkg, .long, rfl, zy_Pkg_ok, zm_Pkg, rfl, by decide +kernel, rfl⟩
theorem po_7_9 : zx_pOK 7 9 := ⟨"IntervalPacker$Packing", zt_Pkg, 17, zy_Pkg, .int, rfl, zy_Pkg_ok, zm_Pkg, rfl, by decide +kernel, rfl⟩
theorem po_7_10 : zx_pOK 7 10 := ⟨"IntervalPacker$Packing", zt_Pkg, 17, zy_Pkg, .boolean, rfl, zy_Pkg_ok, zm_Pkg, rfl, by decide +kernel, rfl⟩
theorem po_7_11 : zx_pOK 7 11 := ⟨"IntervalPacker$Packing", zt_Pkg, 17, zy_Pkg, .boolean, rfl, zy_Pkg_ok, zm_Pkg, rfl, by decide +kernel, rfl⟩
theorem po_7_12 : zx_pOK 7 12 := ⟨"IntervalPacker$Packing", zt_Pkg, 17, zy_Pkg, .boolean, rfl, zy_Pkg_ok, zm_Pkg, rfl, by decide +kernel, rfl⟩
theorem po_7_13 : zx_pOK 7 13 := ⟨"IntervalPacker$Packing", zt_Pkg, 17, zy_Pkg, .int, rfl, zy_Pkg_ok, zm_Pkg, rfl, by decide +kernel, rfl⟩
theorem po_7_14 : zx_pOK 7 14 := ⟨"IntervalPacker$Packing", zt_Pkg, 17, zy_Pkg, .int, rfl, zy_Pkg_ok, zm_Pkg, rfl, by decide +kernel, rfl⟩
theorem po_7_15 : zx_pOK 7 15 := ⟨"IntervalPacker$Packing", zt_Pkg, 17, zy_Pkg, .int, rfl, zy_Pkg_ok, zm_Pkg, rfl, by decide +kernel, rfl⟩
theorem po_7_16 : zx_pOK 7 16 := ⟨"IntervalPacker$Packing", zt_Pkg, 17, zy_Pkg, .int, rfl, zy_Pkg_ok, zm_Pkg, rfl, by decide +kernel, rfl⟩
theorem po_8_1 : zx_pOK 8 1 := ⟨"IntervalPackerModel", zt_R, 42, zy_R, .int, rfl, zy_R_ok, zm_R, rfl, by decide +kernel, rfl⟩
theorem po_8_3 : zx_pOK 8 3 := ⟨"IntervalPackerModel", zt_R, 42, zy_R, .int, rfl, zy_R_ok, zm_R, rfl, by decide +kernel, rfl⟩
theorem po_8_5 : zx_pOK 8 5 := ⟨"IntervalPackerModel", zt_R, 42, zy_R, .int, rfl, zy_R_ok, zm_R, rfl, by decide +kernel, rfl⟩
theorem po_8_7 : zx_pOK 8 7 := ⟨"IntervalPackerModel", zt_R, 42, zy_R, .int, rfl, zy_R_ok, zm_R, rfl, by decide +kernel, rfl⟩
theorem po_8_9 : zx_pOK 8 9 := ⟨"IntervalPackerModel", zt_R, 42, zy_R, .int, rfl, zy_R_ok, zm_R, rfl, by decide +kernel, rfl⟩
theorem po_8_10 : zx_pOK 8 10 := ⟨"IntervalPackerModel", zt_R, 42, zy_R, .int, rfl, zy_R_ok, zm_R, rfl, by decide +kernel, rfl⟩
theorem po_8_11 : zx_pOK 8 11 := ⟨"IntervalPackerModel", zt_R, 42, zy_R, .int, rfl, zy_R_ok, zm_R, rfl, by decide +kernel, rfl⟩
theorem po_8_12 : zx_pOK 8 12 := ⟨"IntervalPackerModel", zt_R, 42, zy_R, .int, rfl, zy_R_ok, zm_R, rfl, by decide +kernel, rfl⟩
theorem po_8_13 : zx_pOK 8 13 := ⟨"IntervalPackerModel", zt_R, 42, zy_R, .long, rfl, zy_R_ok, zm_R, rfl, by decide +kernel, rfl⟩
theorem po_8_14 : zx_pOK 8 14 := ⟨"IntervalPackerModel", zt_R, 42, zy_R, .long, rfl, zy_R_ok, zm_R, rfl, by decide +kernel, rfl⟩
theorem po_8_15 : zx_pOK 8 15 := ⟨"IntervalPackerModel", zt_R, 42, zy_R, .long, rfl, zy_R_ok, zm_R, rfl, by decide +kernel, rfl⟩
theorem po_8_16 : zx_pOK 8 16 := ⟨"IntervalPackerModel", zt_R, 42, zy_R, .long, rfl, zy_R_ok, zm_R, rfl, by decide +kernel, rfl⟩
theorem po_8_17 : zx_pOK 8 17 := ⟨"IntervalPackerModel", zt_R, 42, zy_R, .long, rfl, zy_R_ok, zm_R, rfl, by decide +kernel, rfl⟩
theorem po_8_18 : zx_pOK 8 18 := ⟨"IntervalPackerModel", zt_R, 42, zy_R, .long, rfl, zy_R_ok, zm_R, rfl, by decide +kernel, rfl⟩
theorem po_8_19 : zx_pOK 8 19 := ⟨"IntervalPackerModel", zt_R, 42, zy_R, .int, rfl, zy_R_ok, zm_R, rfl, by decide +kernel, rfl⟩
theorem po_8_20 : zx_pOK 8 20 := ⟨"IntervalPackerModel", zt_R, 42, zy_R, .int, rfl, zy_R_ok, zm_R, rfl, by decide +kernel, rfl⟩
theorem po_8_21 : zx_pOK 8 21 := ⟨"IntervalPackerModel", zt_R, 42, zy_R, .int, rfl, zy_R_ok, zm_R, rfl, by decide +kernel, rfl⟩
theorem po_8_22 : zx_pOK 8 22 := ⟨"IntervalPackerModel", zt_R, 42, zy_R, .boolean, rfl, zy_R_ok, zm_R, rfl, by decide +kernel, rfl⟩
theorem po_8_23 : zx_pOK 8 23 := ⟨"IntervalPackerModel", zt_R, 42, zy_R, .int, rfl, zy_R_ok, zm_R, rfl, by decide +kernel, rfl⟩
theorem po_8_25 : zx_pOK 8 25 := ⟨"IntervalPackerModel", zt_R, 42, zy_R, .int, rfl, zy_R_ok, zm_R, rfl, by decide +kernel, rfl⟩
theorem po_8_26 : zx_pOK 8 26 := ⟨"IntervalPackerModel", zt_R, 42, zy_R, .int, rfl, zy_R_ok, zm_R, rfl, by decide +kernel, rfl⟩
theorem po_8_27 : zx_pOK 8 27 := ⟨"IntervalPackerModel", zt_R, 42, zy_R, .boolean, rfl, zy_R_ok, zm_R, rfl, by decide +kernel, rfl⟩
theorem po_8_28 : zx_pOK 8 28 := ⟨"IntervalPackerModel", zt_R, 42, zy_R, .int, rfl, zy_R_ok, zm_R, rfl, by decide +kernel, rfl⟩
theorem po_8_29 : zx_pOK 8 29 := ⟨"IntervalPackerModel", zt_R, 42, zy_R, .int, rfl, zy_R_ok, zm_R, rfl, by decide +kernel, rfl⟩
theorem po_8_30 : zx_pOK 8 30 := ⟨"IntervalPackerModel", zt_R, 42, zy_R, .int, rfl, zy_R_ok, zm_R, rfl, by decide +kernel, rfl⟩
theorem po_8_31 : zx_pOK 8 31 := ⟨"IntervalPackerModel", zt_R, 42, zy_R, .int, rfl, zy_R_ok, zm_R, rfl, by decide +kernel, rfl⟩
theorem po_8_32 : zx_pOK 8 32 := ⟨"IntervalPackerModel", zt_R, 42, zy_R, .int, rfl, zy_R_ok, zm_R, rfl, by decide +kernel, rfl⟩
theorem po_8_35 : zx_pOK 8 35 := ⟨"IntervalPackerModel", zt_R, 42, zy_R, .boolean, rfl, zy_R_ok, zm_R, rfl, by decide +kernel, rfl⟩
theorem po_8_36 : zx_pOK 8 36 := ⟨"IntervalPackerModel", zt_R, 42, zy_R, .boolean, rfl, zy_R_ok, zm_R, rfl, by decide +kernel, rfl⟩
theorem po_8_37 : zx_pOK 8 37 := ⟨"IntervalPackerModel", zt_R, 42, zy_R, .int, rfl, zy_R_ok, zm_R, rfl, by decide +kernel, rfl⟩
theorem po_8_38 : zx_pOK 8 38 := ⟨"IntervalPackerModel", zt_R, 42, zy_R, .int, rfl, zy_R_ok, zm_R, rfl, by decide +kernel, rfl⟩
theorem po_8_39 : zx_pOK 8 39 := ⟨"IntervalPackerModel", zt_R, 42, zy_R, .long, rfl, zy_R_ok, zm_R, rfl, by decide +kernel, rfl⟩
theorem po_8_40 : zx_pOK 8 40 := ⟨"IntervalPackerModel", zt_R, 42, zy_R, .long, rfl, zy_R_ok, zm_R, rfl, by decide +kernel, rfl⟩
def zx_ptab : List (Nat × Nat) := [(1, 1), (1, 2), (2, 0), (2, 1), (2, 2), (2, 3), (2, 4), (2, 5), (3, 1), (3, 2), (3, 3), (3, 4), (3, 5), (3, 6), (3, 7), (3, 8), (3, 9), (3, 10), (3, 11), (4, 1), (4, 2), (4, 4), (4, 5), (5, 2), (5, 3), (5, 4), (5, 5), (5, 6), (5, 7), (5, 8), (5, 9), (5, 10), (6, 7), (6, 8), (6, 9), (6, 10), (6, 11), (6, 12), (6, 13), (6, 14), (6, 15), (6, 16), (6, 17), (6, 18), (7, 4), (7, 5), (7, 6), (7, 7), (7, 8), (7, 9), (7, 10), (7, 11), (7, 12), (7, 13), (7, 14), (7, 15), (7, 16), (8, 1), (8, 3), (8, 5), (8, 7), (8, 9), (8, 10), (8, 11), (8, 12), (8, 13), (8, 14), (8, 15), (8, 16), (8, 17), (8, 18), (8, 19), (8, 20), (8, 21), (8, 22), (8, 23), (8, 25), (8, 26), (8, 27), (8, 28), (8, 29), (8, 30), (8, 31), (8, 32), (8, 35), (8, 36), (8, 37), (8, 38), (8, 39), (8, 40)]
theorem zx_ptab_g0 : ∀ q ∈ ([(1, 1), (1, 2), (2, 0), (2, 1), (2, 2), (2, 3), (2, 4), (2, 5), (3, 1), (3, 2), (3, 3), (3, 4), (3, 5), (3, 6), (3, 7), (3, 8)] : List (Nat × Nat)), zx_pOK q.1 q.2 := List.forall_mem_cons.mpr ⟨po_1_1, List.forall_mem_cons.mpr ⟨po_1_2, List.forall_mem_cons.mpr ⟨po_2_0, List.forall_mem_cons.mpr ⟨po_2_1, List.forall_mem_cons.mpr ⟨po_2_2, List.forall_mem_cons.mpr ⟨po_2_3, List.forall_mem_cons.mpr ⟨po_2_4, List.forall_mem_cons.mpr ⟨po_2_5, List.forall_mem_cons.mpr ⟨po_3_1, List.forall_mem_cons.mpr ⟨po_3_2, List.forall_mem_cons.mpr ⟨po_3_3, List.forall_mem_cons.mpr ⟨po_3_4, List.forall_mem_cons.mpr ⟨po_3_5, List.forall_mem_cons.mpr ⟨po_3_6, List.forall_mem_cons.mpr ⟨po_3_7, List.forall_mem_cons.mpr ⟨po_3_8, fun _ h => absurd h List.not_mem_nil⟩⟩⟩⟩⟩⟩⟩⟩⟩⟩⟩⟩⟩⟩⟩⟩
theorem zx_ptab_g1 : ∀ q ∈ ([(3, 9), (3, 10), (3, 11), (4, 1), (4, 2), (4, 4), (4, 5), (5, 2), (5, 3), (5, 4), (5, 5), (5, 6), (5, 7), (5, 8), (5, 9), (5, 10)] : List (Nat × Nat)), zx_pOK q.1 q.2 := List.forall_mem_cons.mpr ⟨po_3_9, List.forall_mem_cons.mpr ⟨po_3_10, List.forall_mem_cons.mpr ⟨po_3_11, List.forall_mem_cons.mpr ⟨po_4_1, List.forall_mem_cons.mpr ⟨po_4_2, List.forall_mem_cons.mpr ⟨po_4_4, List.forall_mem_cons.mpr ⟨po_4_5, List.forall_mem_cons.mpr ⟨po_5_2, List.forall_mem_cons.mpr ⟨po_5_3, List.forall_mem_cons.mpr ⟨po_5_4, List.forall_mem_cons.mpr ⟨po_5_5, List.forall_mem_cons.mpr ⟨po_5_6, List.forall_mem_cons.mpr ⟨po_5_7, List.forall_mem_cons.mpr ⟨po_5_8, List.forall_mem_cons.mpr ⟨po_5_9, List.forall_mem_cons.mpr ⟨po_5_10, fun _ h => absurd h List.not_mem_nil⟩⟩⟩⟩⟩⟩⟩⟩⟩⟩⟩⟩⟩⟩⟩⟩
theorem zx_ptab_g2 : ∀ q ∈ ([(6, 7), (6, 8), (6, 9), (6, 10), (6, 11), (6, 12), (6, 13), (6, 14), (6, 15), (6, 16), (6, 17), (6, 18), (7, 4), (7, 5), (7, 6), (7, 7)] : List (Nat × Nat)), zx_pOK q.1 q.2 := List.forall_mem_cons.mpr ⟨po_6_7, List.forall_mem_cons.mpr ⟨po_6_8, List.forall_mem_cons.mpr ⟨po_6_9, List.forall_mem_cons.mpr ⟨po_6_10, List.forall_mem_cons.mpr ⟨po_6_11, List.forall_mem_cons.mpr ⟨po_6_12, List.forall_mem_cons.mpr ⟨po_6_13, List.forall_mem_cons.mpr ⟨po_6_14, List.forall_mem_cons.mpr ⟨po_6_15, List.forall_mem_cons.mpr ⟨po_6_16, List.forall_mem_cons.mpr ⟨po_6_17, List.forall_mem_cons.mpr ⟨po_6_18, List.forall_mem_cons.mpr ⟨po_7_4, List.forall_mem_cons.mpr ⟨po_7_5, List.forall_mem_cons.mpr ⟨po_7_6, List.forall_mem_cons.mpr ⟨po_7_7, fun _ h => absurd h List.not_mem_nil⟩⟩⟩⟩⟩⟩⟩⟩⟩⟩⟩⟩⟩⟩⟩⟩
theorem zx_ptab_g3 : ∀ q ∈ ([(7, 8), (7, 9), (7, 10), (7, 11), (7, 12), (7, 13), (7, 14), (7, 15), (7, 16), (8, 1), (8, 3), (8, 5), (8, 7), (8, 9), (8, 10), (8, 11)] : List (Nat × Nat)), zx_pOK q.1 q.2 := List.forall_mem_cons.mpr ⟨po_7_8, List.forall_mem_cons.mpr ⟨po_7_9, List.forall_mem_cons.mpr ⟨po_7_10, List.forall_mem_cons.mpr ⟨po_7_11, List.forall_mem_cons.mpr ⟨po_7_12, List.forall_mem_cons.mpr ⟨po_7_13, List.forall_mem_cons.mpr ⟨po_7_14, List.forall_mem_cons.mpr ⟨po_7_15, List.forall_mem_cons.mpr ⟨po_7_16, List.forall_mem_cons.mpr ⟨po_8_1, List.forall_mem_cons.mpr ⟨po_8_3, List.forall_mem_cons.mpr ⟨po_8_5, List.forall_mem_cons.mpr ⟨po_8_7, List.forall_mem_cons.mpr ⟨po_8_9, List.forall_mem_cons.mpr ⟨po_8_10, List.forall_mem_cons.mpr ⟨po_8_11, fun _ h => absurd h List.not_mem_nil⟩⟩⟩⟩⟩⟩⟩⟩⟩⟩⟩⟩⟩⟩⟩⟩
theorem zx_ptab_g4 : ∀ q ∈ ([(8, 12), (8, 13), (8, 14), (8, 15), (8, 16), (8, 17), (8, 18), (8, 19), (8, 20), (8, 21), (8, 22), (8, 23), (8, 25), (8, 26), (8, 27), (8, 28)] : List (Nat × Nat)), zx_pOK q.1 q.2 := List.forall_mem_cons.mpr ⟨po_8_12, List.forall_mem_cons.mpr ⟨po_8_13, List.forall_mem_cons.mpr ⟨po_8_14, List.forall_mem_cons.mpr ⟨po_8_15, List.forall_mem_cons.mpr ⟨po_8_16, List.forall_mem_cons.mpr ⟨po_8_17, List.forall_mem_cons.mpr ⟨po_8_18, List.forall_mem_cons.mpr ⟨po_8_19, List.forall_mem_cons.mpr ⟨po_8_20, List.forall_mem_cons.mpr ⟨po_8_21, List.forall_mem_cons.mpr ⟨po_8_22, List.forall_mem_cons.mpr ⟨po_8_23, List.forall_mem_cons.mpr ⟨po_8_25, List.forall_mem_cons.mpr ⟨po_8_26, List.forall_mem_cons.mpr ⟨po_8_27, List.forall_mem_cons.mpr ⟨po_8_28, fun _ h => absurd h List.not_mem_nil⟩⟩⟩⟩⟩⟩⟩⟩⟩⟩⟩⟩⟩⟩⟩⟩
theorem zx_ptab_g5 : ∀ q ∈ ([(8, 29), (8, 30), (8, 31), (8, 32), (8, 35), (8, 36), (8, 37), (8, 38), (8, 39), (8, 40)] : List (Nat × Nat)), zx_pOK q.1 q.2 := List.forall_mem_cons.mpr ⟨po_8_29, List.forall_mem_cons.mpr ⟨po_8_30, List.forall_mem_cons.mpr ⟨po_8_31, List.forall_mem_cons.mpr ⟨po_8_32, List.forall_mem_cons.mpr ⟨po_8_35, List.forall_mem_cons.mpr ⟨po_8_36, List.forall_mem_cons.mpr ⟨po_8_37, List.forall_mem_cons.mpr ⟨po_8_38, List.forall_mem_cons.mpr ⟨po_8_39, List.forall_mem_cons.mpr ⟨po_8_40, fun _ h => absurd h List.not_mem_nil⟩⟩⟩⟩⟩⟩⟩⟩⟩⟩
theorem zx_ptab_ok : ∀ q ∈ zx_ptab, zx_pOK q.1 q.2 := List.forall_mem_append.mpr ⟨zx_ptab_g0, List.forall_mem_append.mpr ⟨zx_ptab_g1, List.forall_mem_append.mpr ⟨zx_ptab_g2, List.forall_mem_append.mpr ⟨zx_ptab_g3, List.forall_mem_append.mpr ⟨zx_ptab_g4, zx_ptab_g5⟩⟩⟩⟩⟩
def zx_NW : List Cond := [(Jvm.Cond.fieldLinkNest "IntervalPacker$Unpacking" (64 : Nat) "IntervalPacker" "MAGIC" "[I" "IntervalPacker"), (Jvm.Cond.fieldLinkNest "IntervalPacker$Packing" (45 : Nat) "IntervalPacker" "MAGIC" "[I" "IntervalPacker"), (Jvm.Cond.methodLinkNest "IntervalPacker$Packing" (58 : Nat) ({ cls := "IntervalPacker", name := "sumFour", desc := "([III)J" } : Jvm.MethodName) "IntervalPacker"), (Jvm.Cond.methodLinkNest "IntervalPacker$Packing" (185 : Nat) ({ cls := "IntervalPacker", name := "checkSize", desc := "(I)I" } : Jvm.MethodName) "IntervalPacker"), (Jvm.Cond.methodLinkNest "IntervalPacker$Packing" (195 : Nat) ({ cls := "IntervalPacker", name := "sumEight", desc := "([III)J" } : Jvm.MethodName) "IntervalPacker"), (Jvm.Cond.methodLinkNest "IntervalPacker$Unpacking" (85 : Nat) ({ cls := "IntervalPacker", name := "isSort", desc := "(I)Z" } : Jvm.MethodName) "IntervalPacker"), (Jvm.Cond.methodLinkNest "IntervalPacker$Unpacking" (88 : Nat) ({ cls := "IntervalPacker", name := "sumFour", desc := "([III)J" } : Jvm.MethodName) "IntervalPacker"), (Jvm.Cond.methodLinkNest "IntervalPacker$Unpacking" (188 : Nat) ({ cls := "IntervalPacker", name := "areProperties", desc := "(I)Z" } : Jvm.MethodName) "IntervalPacker"), (Jvm.Cond.methodLinkNest "IntervalPacker$Unpacking" (253 : Nat) ({ cls := "IntervalPacker", name := "checkSize", desc := "(I)I" } : Jvm.MethodName) "IntervalPacker"), (Jvm.Cond.methodLinkNest "IntervalPacker$Unpacking" (261 : Nat) ({ cls := "IntervalPacker", name := "sumEight", desc := "([III)J" } : Jvm.MethodName) "IntervalPacker"), (Jvm.Cond.declares ({ cls := "IntervalPacker$BitLine", name := "codeBit", desc := "(II)I" } : Jvm.MethodName)), (Jvm.Cond.declares ({ cls := "IntervalPacker$BitLine", name := "codeEvenBit", desc := "(I)I" } : Jvm.MethodName)), (Jvm.Cond.declares ({ cls := "IntervalPacker$BitLine", name := "learn", desc := "(II)V" } : Jvm.MethodName))]
theorem zn_0 : (Jvm.Cond.fieldLinkNest "IntervalPacker$Unpacking" (64 : Nat) "IntervalPacker" "MAGIC" "[I" "IntervalPacker") ∈ zx_NW := List.mem_of_getElem? (i := 0) rfl
theorem zn_1 : (Jvm.Cond.fieldLinkNest "IntervalPacker$Packing" (45 : Nat) "IntervalPacker" "MAGIC" "[I" "IntervalPacker") ∈ zx_NW := List.mem_of_getElem? (i := 1) rfl
theorem zn_2 : (Jvm.Cond.methodLinkNest "IntervalPacker$Packing" (58 : Nat) ({ cls := "IntervalPacker", name := "sumFour", desc := "([III)J" } : Jvm.MethodName) "IntervalPacker") ∈ zx_NW := List.mem_of_getElem? (i := 2) rfl
theorem zn_3 : (Jvm.Cond.methodLinkNest "IntervalPacker$Packing" (185 : Nat) ({ cls := "IntervalPacker", name := "checkSize", desc := "(I)I" } : Jvm.MethodName) "IntervalPacker") ∈ zx_NW := List.mem_of_getElem? (i := 3) rfl
theorem zn_4 : (Jvm.Cond.methodLinkNest "IntervalPacker$Packing" (195 : Nat) ({ cls := "IntervalPacker", name := "sumEight", desc := "([III)J" } : Jvm.MethodName) "IntervalPacker") ∈ zx_NW := List.mem_of_getElem? (i := 4) rfl
theorem zn_5 : (Jvm.Cond.methodLinkNest "IntervalPacker$Unpacking" (85 : Nat) ({ cls := "IntervalPacker", name := "isSort", desc := "(I)Z" } : Jvm.MethodName) "IntervalPacker") ∈ zx_NW := List.mem_of_getElem? (i := 5) rfl
theorem zn_6 : (Jvm.Cond.methodLinkNest "IntervalPacker$Unpacking" (88 : Nat) ({ cls := "IntervalPacker", name := "sumFour", desc := "([III)J" } : Jvm.MethodName) "IntervalPacker") ∈ zx_NW := List.mem_of_getElem? (i := 6) rfl
theorem zn_7 : (Jvm.Cond.methodLinkNest "IntervalPacker$Unpacking" (188 : Nat) ({ cls := "IntervalPacker", name := "areProperties", desc := "(I)Z" } : Jvm.MethodName) "IntervalPacker") ∈ zx_NW := List.mem_of_getElem? (i := 7) rfl
theorem zn_8 : (Jvm.Cond.methodLinkNest "IntervalPacker$Unpacking" (253 : Nat) ({ cls := "IntervalPacker", name := "checkSize", desc := "(I)I" } : Jvm.MethodName) "IntervalPacker") ∈ zx_NW := List.mem_of_getElem? (i := 8) rfl
theorem zn_9 : (Jvm.Cond.methodLinkNest "IntervalPacker$Unpacking" (261 : Nat) ({ cls := "IntervalPacker", name := "sumEight", desc := "([III)J" } : Jvm.MethodName) "IntervalPacker") ∈ zx_NW := List.mem_of_getElem? (i := 9) rfl
theorem zn_10 : (Jvm.Cond.declares ({ cls := "IntervalPacker$BitLine", name := "codeBit", desc := "(II)I" } : Jvm.MethodName)) ∈ zx_NW := List.mem_of_getElem? (i := 10) rfl
theorem zn_11 : (Jvm.Cond.declares ({ cls := "IntervalPacker$BitLine", name := "codeEvenBit", desc := "(I)I" } : Jvm.MethodName)) ∈ zx_NW := List.mem_of_getElem? (i := 11) rfl
theorem zn_12 : (Jvm.Cond.declares ({ cls := "IntervalPacker$BitLine", name := "learn", desc := "(II)V" } : Jvm.MethodName)) ∈ zx_NW := List.mem_of_getElem? (i := 12) rfl
theorem zx_NW_in : ∀ w ∈ zx_NW, w ∈ lw_tbl := List.forall_mem_cons.mpr ⟨List.mem_append_right _ (List.mem_of_getElem? (i := 678) (by decide +kernel)), List.forall_mem_cons.mpr ⟨List.mem_append_right _ (List.mem_of_getElem? (i := 422) (by decide +kernel)), List.forall_mem_cons.mpr ⟨List.mem_append_right _ (List.mem_of_getElem? (i := 429) (by decide +kernel)), List.forall_mem_cons.mpr ⟨List.mem_append_right _ (List.mem_of_getElem? (i := 622) (by decide +kernel)), List.forall_mem_cons.mpr ⟨List.mem_append_right _ (List.mem_of_getElem? (i := 629) (by decide +kernel)), List.forall_mem_cons.mpr ⟨List.mem_append_right _ (List.mem_of_getElem? (i := 688) (by decide +kernel)), List.forall_mem_cons.mpr ⟨List.mem_append_right _ (List.mem_of_getElem? (i := 689) (by decide +kernel)), List.forall_mem_cons.mpr ⟨List.mem_append_right _ (List.mem_of_getElem? (i := 764) (by decide +kernel)), List.forall_mem_cons.mpr ⟨List.mem_append_right _ (List.mem_of_getElem? (i := 804) (by decide +kernel)), List.forall_mem_cons.mpr ⟨List.mem_append_right _ (List.mem_of_getElem? (i := 810) (by decide +kernel)), List.forall_mem_cons.mpr ⟨List.mem_append_right _ (List.mem_of_getElem? (i := 517) (by decide +kernel)), List.forall_mem_cons.mpr ⟨List.mem_append_right _ (List.mem_of_getElem? (i := 586) (by decide +kernel)), List.forall_mem_cons.mpr ⟨List.mem_append_right _ (List.mem_of_getElem? (i := 533) (by decide +kernel)), fun _ h => absurd h List.not_mem_nil⟩⟩⟩⟩⟩⟩⟩⟩⟩⟩⟩⟩⟩
theorem zx_NW_tab : ∀ w ∈ zx_NW, w.onTables = true := List.forall_mem_cons.mpr ⟨rfl, List.forall_mem_cons.mpr ⟨rfl, List.forall_mem_cons.mpr ⟨rfl, List.forall_mem_cons.mpr ⟨rfl, List.forall_mem_cons.mpr ⟨rfl, List.forall_mem_cons.mpr ⟨rfl, List.forall_mem_cons.mpr ⟨rfl, List.forall_mem_cons.mpr ⟨rfl, List.forall_mem_cons.mpr ⟨rfl, List.forall_mem_cons.mpr ⟨rfl, List.forall_mem_cons.mpr ⟨rfl, List.forall_mem_cons.mpr ⟨rfl, List.forall_mem_cons.mpr ⟨rfl, fun _ h => absurd h List.not_mem_nil⟩⟩⟩⟩⟩⟩⟩⟩⟩⟩⟩⟩⟩
theorem zx_NW_moved {s U : State} (hW : s.WarmedH U.vm) (h : ∀ w ∈ zx_NW, va_Nw w s) : ∀ w ∈ zx_NW, va_Nw w U := List.forall_mem_cons.mpr ⟨va_Nw.warmF hW (h _ zn_0), List.forall_mem_cons.mpr ⟨va_Nw.warmF hW (h _ zn_1), List.forall_mem_cons.mpr ⟨va_Nw.warmM hW (h _ zn_2), List.forall_mem_cons.mpr ⟨va_Nw.warmM hW (h _ zn_3), List.forall_mem_cons.mpr ⟨va_Nw.warmM hW (h _ zn_4), List.forall_mem_cons.mpr ⟨va_Nw.warmM hW (h _ zn_5), List.forall_mem_cons.mpr ⟨va_Nw.warmM hW (h _ zn_6), List.forall_mem_cons.mpr ⟨va_Nw.warmM hW (h _ zn_7), List.forall_mem_cons.mpr ⟨va_Nw.warmM hW (h _ zn_8), List.forall_mem_cons.mpr ⟨va_Nw.warmM hW (h _ zn_9), List.forall_mem_cons.mpr ⟨va_Nw.warmD hW (h _ zn_10), List.forall_mem_cons.mpr ⟨va_Nw.warmD hW (h _ zn_11), List.forall_mem_cons.mpr ⟨va_Nw.warmD hW (h _ zn_12), fun _ h => absurd h List.not_mem_nil⟩⟩⟩⟩⟩⟩⟩⟩⟩⟩⟩⟩⟩
def zx_stab : List (Nat × Nat) := [(6, 64), (7, 45)]
theorem zx_stab_g0 : ∀ q ∈ ([(6, 64), (7, 45)] : List (Nat × Nat)), ∃ ref host : String, Cond.fieldLinkNest (zx_on q.1) q.2 ref zx_mgN zx_mgD host ∈ zx_NW ∧ ref = zx_mgC := List.forall_mem_cons.mpr ⟨⟨_, _, zn_0, rfl⟩, List.forall_mem_cons.mpr ⟨⟨_, _, zn_1, rfl⟩, fun _ h => absurd h List.not_mem_nil⟩⟩
theorem zx_stab_ok : ∀ q ∈ zx_stab, ∃ ref host : String, Cond.fieldLinkNest (zx_on q.1) q.2 ref zx_mgN zx_mgD host ∈ zx_NW ∧ ref = zx_mgC := zx_stab_g0
theorem wd_1_205 : (Jvm.Cond.methodLink "IntervalPacker" (96 : Nat) ({ cls := "java/lang/Math", name := "min", desc := "(II)I" } : Jvm.MethodName)) ∈ zx_WS := zx_r1 (List.mem_of_getElem? (i := 205) rfl) rfl
theorem wd_1_206 : (Jvm.Cond.static ({ cls := "java/lang/Math", name := "min", desc := "(II)I" } : Jvm.MethodName)) ∈ zx_WS := zx_r1 (List.mem_of_getElem? (i := 206) rfl) rfl
theorem wd_0_11 : (Jvm.Cond.initialized "java/lang/Math") ∈ zx_WS := zx_r0 (List.mem_of_getElem? (i := 11) rfl) rfl
theorem wd_1_207 : (Jvm.Cond.code ({ cls := "java/lang/Math", name := "min", desc := "(II)I" } : Jvm.MethodName) prog_14_method_69_code (2 : Nat) (Option.some Jvm.ClassFile.FieldType.int)) ∈ zx_WS := zx_r1 (List.mem_of_getElem? (i := 207) rfl) rfl
theorem wd_2_172 : (Jvm.Cond.methodLink "IntervalPacker$Row" (31 : Nat) ({ cls := "java/lang/Math", name := "min", desc := "(II)I" } : Jvm.MethodName)) ∈ zx_WS := zx_r2 (List.mem_of_getElem? (i := 172) rfl) rfl
theorem wd_2_236 : (Jvm.Cond.methodLink "IntervalPacker$Cursor" (35 : Nat) ({ cls := "java/lang/Math", name := "min", desc := "(II)I" } : Jvm.MethodName)) ∈ zx_WS := zx_r2 (List.mem_of_getElem? (i := 236) rfl) rfl
theorem wd_1_220 : (Jvm.Cond.methodLink "IntervalPacker$BitSink" (15 : Nat) ({ cls := "java/lang/Math", name := "min", desc := "(II)I" } : Jvm.MethodName)) ∈ zx_WS := zx_r1 (List.mem_of_getElem? (i := 220) rfl) rfl
theorem wd_2_88 : (Jvm.Cond.methodLink "IntervalPacker$Model" (86 : Nat) ({ cls := "java/lang/Math", name := "min", desc := "(II)I" } : Jvm.MethodName)) ∈ zx_WS := zx_r2 (List.mem_of_getElem? (i := 88) rfl) rfl
theorem wd_2_6 : (Jvm.Cond.methodLink "IntervalPacker$Packing" (123 : Nat) ({ cls := "java/lang/Math", name := "min", desc := "(II)I" } : Jvm.MethodName)) ∈ zx_WS := zx_r2 (List.mem_of_getElem? (i := 6) rfl) rfl
def zx_mintab : List (Nat × Nat) := [(0, 96), (1, 31), (2, 35), (4, 15), (5, 86), (7, 123)]
theorem zx_mintab_g0 : ∀ q ∈ ([(0, 96), (1, 31), (2, 35), (4, 15), (5, 86), (7, 123)] : List (Nat × Nat)), Cond.methodLink (zx_on q.1) q.2 Lib.Math.min.name ∈ zx_WS ∧ Cond.static Lib.Math.min.name ∈ zx_WS ∧ Cond.initialized "java/lang/Math" ∈ zx_WS ∧ Cond.code Lib.Math.min.name Lib.Math.min.code 2 (some .int) ∈ zx_WS := List.forall_mem_cons.mpr ⟨⟨wd_1_205, wd_1_206, wd_0_11, wd_1_207⟩, List.forall_mem_cons.mpr ⟨⟨wd_2_172, wd_1_206, wd_0_11, wd_1_207⟩, List.forall_mem_cons.mpr ⟨⟨wd_2_236, wd_1_206, wd_0_11, wd_1_207⟩, List.forall_mem_cons.mpr ⟨⟨wd_1_220, wd_1_206, wd_0_11, wd_1_207⟩, List.forall_mem_cons.mpr ⟨⟨wd_2_88, wd_1_206, wd_0_11, wd_1_207⟩, List.forall_mem_cons.mpr ⟨⟨wd_2_6, wd_1_206, wd_0_11, wd_1_207⟩, fun _ h => absurd h List.not_mem_nil⟩⟩⟩⟩⟩⟩
theorem zx_mintab_ok : ∀ q ∈ zx_mintab, Cond.methodLink (zx_on q.1) q.2 Lib.Math.min.name ∈ zx_WS ∧ Cond.static Lib.Math.min.name ∈ zx_WS ∧ Cond.initialized "java/lang/Math" ∈ zx_WS ∧ Cond.code Lib.Math.min.name Lib.Math.min.code 2 (some .int) ∈ zx_WS := zx_mintab_g0
theorem wd_2_119 : (Jvm.Cond.methodLink "IntervalPacker$Packing" (147 : Nat) ({ cls := "java/lang/Math", name := "max", desc := "(II)I" } : Jvm.MethodName)) ∈ zx_WS := zx_r2 (List.mem_of_getElem? (i := 119) rfl) rfl
theorem wd_2_120 : (Jvm.Cond.static ({ cls := "java/lang/Math", name := "max", desc := "(II)I" } : Jvm.MethodName)) ∈ zx_WS := zx_r2 (List.mem_of_getElem? (i := 120) rfl) rfl
theorem wd_2_121 : (Jvm.Cond.code ({ cls := "java/lang/Math", name := "max", desc := "(II)I" } : Jvm.MethodName) prog_14_method_65_code (2 : Nat) (Option.some Jvm.ClassFile.FieldType.int)) ∈ zx_WS := zx_r2 (List.mem_of_getElem? (i := 121) rfl) rfl
def zx_maxtab : List (Nat × Nat) := [(7, 147)]
theorem zx_maxtab_g0 : ∀ q ∈ ([(7, 147)] : List (Nat × Nat)), Cond.methodLink (zx_on q.1) q.2 Lib.Math.max.name ∈ zx_WS ∧ Cond.static Lib.Math.max.name ∈ zx_WS ∧ Cond.initialized "java/lang/Math" ∈ zx_WS ∧ Cond.code Lib.Math.max.name Lib.Math.max.code 2 (some .int) ∈ zx_WS := List.forall_mem_cons.mpr ⟨⟨wd_2_119, wd_2_120, wd_0_11, wd_2_121⟩, fun _ h => absurd h List.not_mem_nil⟩
theorem zx_maxtab_ok : ∀ q ∈ zx_maxtab, Cond.methodLink (zx_on q.1) q.2 Lib.Math.max.name ∈ zx_WS ∧ Cond.static Lib.Math.max.name ∈ zx_WS ∧ Cond.initialized "java/lang/Math" ∈ zx_WS ∧ Cond.code Lib.Math.max.name Lib.Math.max.code 2 (some .int) ∈ zx_WS := zx_maxtab_g0
theorem wd_2_173 : (Jvm.Cond.methodLink "IntervalPacker$Row" (37 : Nat) ({ cls := "java/lang/System", name := "arraycopy", desc := "(Ljava/lang/Object;ILjava/lang/Object;II)V" } : Jvm.MethodName)) ∈ zx_WS := zx_r2 (List.mem_of_getElem? (i := 173) rfl) rfl
theorem wd_2_175 : (Jvm.Cond.native ({ cls := "java/lang/System", name := "arraycopy", desc := "(Ljava/lang/Object;ILjava/lang/Object;II)V" } : Jvm.MethodName)) ∈ zx_WS := zx_r2 (List.mem_of_getElem? (i := 175) rfl) rfl
theorem wd_2_174 : (Jvm.Cond.static ({ cls := "java/lang/System", name := "arraycopy", desc := "(Ljava/lang/Object;ILjava/lang/Object;II)V" } : Jvm.MethodName)) ∈ zx_WS := zx_r2 (List.mem_of_getElem? (i := 174) rfl) rfl
theorem wd_0_15 : (Jvm.Cond.initialized "java/lang/System") ∈ zx_WS := zx_r0 (List.mem_of_getElem? (i := 15) rfl) rfl
def zx_cpytab : List (Nat × Nat) := [(1, 37)]
theorem zx_cpytab_g0 : ∀ q ∈ ([(1, 37)] : List (Nat × Nat)), Cond.methodLink (zx_on q.1) q.2 arraycopyName ∈ zx_WS ∧ Cond.native arraycopyName ∈ zx_WS ∧ Cond.static arraycopyName ∈ zx_WS ∧ Cond.initialized "java/lang/System" ∈ zx_WS := List.forall_mem_cons.mpr ⟨⟨wd_2_173, wd_2_175, wd_2_174, wd_0_15⟩, fun _ h => absurd h List.not_mem_nil⟩
theorem zx_cpytab_ok : ∀ q ∈ zx_cpytab, Cond.methodLink (zx_on q.1) q.2 arraycopyName ∈ zx_WS ∧ Cond.native arraycopyName ∈ zx_WS ∧ Cond.static arraycopyName ∈ zx_WS ∧ Cond.initialized "java/lang/System" ∈ zx_WS := zx_cpytab_g0
def zx_vtab : List (Nat × Nat × Nat × Nat × Nat) := [(0, 56, 1, 0, 13), (0, 60, 1, 1, 21), (0, 64, 1, 1, 22), (0, 71, 2, 1, 25), (0, 75, 1, 1, 26), (0, 89, 3, 7, 86), (0, 93, 0, 7, 87), (0, 102, 2, 7, 88), (0, 106, 0, 7, 97), (0, 109, 0, 7, 100), (0, 112, 0, 7, 101), (0, 122, 1, 1, 28), (0, 126, 1, 6, 69), (0, 128, 0, 6, 70), (0, 131, 0, 6, 71), (0, 135, 0, 6, 72), (0, 138, 0, 6, 84), (0, 141, 0, 6, 85), (0, 148, 0, 2, 30), (1, 23, 1, 1, 22), (1, 27, 2, 1, 27), (2, 41, 2, 2, 31), (2, 45, 2, 2, 36), (2, 48, 1, 2, 34), (2, 52, 1, 2, 35), (2, 56, 2, 2, 38), (2, 62, 0, 2, 41), (3, 51, 0, 3, 45), (3, 58, 2, 3, 180), (3, 62, 0, 3, 48), (4, 46, 0, 4, 51), (4, 53, 1, 4, 52), (4, 57, 2, 4, 180), (5, 45, 1, 5, 62), (5, 52, 2, 5, 63), (5, 62, 2, 5, 64), (5, 65, 0, 5, 65), (5, 73, 2, 5, 61), (5, 77, 2, 3, 46), (5, 77, 2, 4, 53), (5, 82, 3, 5, 67), (5, 97, 3, 5, 68), (5, 100, 1, 3, 47), (5, 100, 1, 4, 54), (6, 46, 1, 2, 29), (6, 50, 0, 1, 20), (6, 59, 0, 3, 43), (6, 67, 1, 2, 34), (6, 74, 2, 2, 31), (6, 92, 2, 2, 39), (6, 112, 0, 6, 73), (6, 115, 0, 2, 30), (6, 119, 0, 6, 75), (6, 125, 0, 6, 81), (6, 128, 0, 6, 80), (6, 131, 1, 6, 83), (6, 134, 2, 2, 38), (6, 138, 1, 2, 32), (6, 141, 0, 6, 74), (6, 144, 1, 2, 35), (6, 147, 2, 2, 36), (6, 150, 0, 2, 33), (6, 162, 0, 2, 41), (6, 166, 0, 6, 77), (6, 169, 0, 6, 76), (6, 175, 0, 2, 40), (6, 185, 0, 6, 78), (6, 191, 1, 5, 56), (6, 196, 0, 5, 57), (6, 199, 1, 1, 21), (6, 202, 1, 6, 79), (6, 205, 3, 1, 23), (6, 209, 3, 3, 44), (6, 211, 1, 5, 58), (6, 215, 2, 1, 27), (6, 219, 1, 5, 59), (6, 223, 3, 5, 60), (6, 230, 2, 6, 82), (6, 237, 0, 3, 49), (6, 243, 1, 1, 22), (6, 249, 2, 1, 25), (6, 257, 1, 2, 37), (6, 264, 1, 2, 42), (7, 42, 0, 1, 20), (7, 48, 3, 1, 23), (7, 52, 1, 1, 22), (7, 62, 2, 1, 24), (7, 85, 2, 7, 92), (7, 89, 1, 7, 90), (7, 92, 2, 7, 89), (7, 96, 1, 7, 91), (7, 105, 1, 4, 50), (7, 111, 1, 5, 56), (7, 116, 0, 5, 57), (7, 119, 1, 5, 58), (7, 129, 2, 7, 93), (7, 132, 1, 5, 59), (7, 136, 2, 1, 27), (7, 140, 3, 5, 60), (7, 150, 0, 4, 55), (7, 153, 2, 7, 94), (7, 156, 2, 7, 95), (7, 181, 3, 7, 96), (7, 192, 1, 7, 98), (7, 202, 1, 7, 99), (8, 80, 2, 8, 113), (8, 84, 1, 8, 114), (8, 88, 2, 8, 115), (8, 92, 2, 8, 109), (8, 105, 1, 8, 116), (8, 109, 2, 8, 117), (8, 112, 1, 8, 122), (8, 122, 0, 8, 124), (8, 126, 1, 8, 118), (8, 129, 1, 8, 110), (8, 133, 1, 8, 111), (8, 139, 1, 8, 125), (8, 142, 2, 8, 128), (8, 146, 1, 8, 127), (8, 149, 3, 8, 129), (8, 168, 0, 8, 138), (8, 189, 0, 8, 149), (8, 192, 0, 8, 139), (8, 195, 1, 8, 131), (8, 204, 0, 8, 121), (8, 207, 0, 8, 123), (8, 210, 0, 8, 130), (8, 234, 2, 8, 142), (8, 237, 0, 8, 140), (8, 242, 1, 8, 141), (8, 245, 0, 8, 146), (8, 249, 1, 8, 147), (8, 252, 0, 8, 157), (8, 255, 2, 8, 153), (8, 259, 1, 8, 154), (8, 262, 2, 8, 152), (8, 265, 2, 8, 150), (8, 268, 1, 8, 151), (8, 271, 1, 8, 148), (8, 274, 2, 8, 144), (8, 279, 2, 8, 145), (8, 282, 0, 8, 143), (8, 287, 2, 8, 155), (8, 302, 0, 8, 158), (8, 305, 1, 8, 159), (8, 309, 2, 8, 160), (8, 312, 3, 8, 164), (8, 316, 1, 8, 165), (8, 319, 3, 8, 167), (8, 322, 3, 8, 168), (8, 325, 2, 8, 170), (8, 328, 3, 8, 169), (8, 331, 3, 8, 162), (8, 334, 3, 8, 163), (8, 337, 1, 8, 161), (8, 343, 1, 8, 171), (8, 346, 2, 8, 172), (8, 350, 2, 8, 166), (8, 353, 2, 8, 176), (8, 357, 1, 8, 173), (8, 360, 2, 8, 177), (8, 363, 1, 8, 175), (8, 366, 1, 8, 112), (8, 370, 3, 8, 178), (8, 374, 1, 8, 174)]
def zx_stab2 : List (Nat × Nat × Nat × Nat × Nat) := [(0, 83, 1, 0, 14), (0, 86, 1, 0, 16), (0, 178, 3, 0, 18), (0, 182, 3, 0, 17), (0, 189, 5, 0, 19), (4, 38, 2, 0, 183), (5, 33, 4, 0, 184), (5, 39, 2, 0, 182), (5, 91, 1, 0, 66), (5, 107, 1, 0, 185), (6, 53, 2, 0, 183), (6, 85, 1, 0, 14), (6, 88, 3, 0, 17), (6, 188, 1, 0, 16), (6, 253, 1, 0, 15), (6, 261, 3, 0, 18), (7, 58, 3, 0, 17), (7, 185, 1, 0, 15), (7, 195, 3, 0, 18), (8, 64, 2, 0, 107), (8, 71, 2, 0, 108), (8, 95, 1, 0, 119), (8, 102, 1, 0, 120), (8, 153, 1, 0, 126), (8, 290, 1, 0, 156), (10, 13, 3, 0, 181), (11, 308, 1, 0, 186)]
end
section
/-! The pure machine's states as worlds of the kit -/
abbrev zx_E : Type := va_G × (Nat → Nat) × ClassId × ClassId
def zx_v (r : Nat → Nat) (v : Value) : Value := match v with
  | .ref p => .ref (r p)
  | w => w
def zx_fv (E : zx_E) (S : zx_S) (p k kind : Nat) : Value := if 100 ≤ kind then .ref (E.2.1 (kind - 100)) else if 50 ≤ kind then .ref (E.2.1 (S.1.getD (kind - 50) 0)) else if kind = 1 then .long (zg_l S.2 p k) else .int (zg_i S.2 p k)
def zx_ce (E : zx_E) (S : zx_S) (p : Nat) (c : zx_C) : va_E := match c with
  | .inl (ci, ks) => .inr (ci, ks.mapIdx (fun k kind => zx_fv E S p k kind))
  | .inr (n, false) => .inl (E.2.2.1, n, .inl (S.2.1 p))
  | .inr (n, true) => .inl (E.2.2.2, n, .inr (.inl (S.2.2 p)))
def zx_w (lay : List zx_C) (E : zx_E) (S : zx_S) : va_W := lay.mapIdx (fun p c => (E.2.1 p, zx_ce E S p c))
theorem zx_w_at {lay : List zx_C} {E : zx_E} {S : zx_S} {p : Nat} {c : zx_C} (h : lay[p]? = some c) : (zx_w lay E S)[p]? = some (E.2.1 p, zx_ce E S p c) := by
  simp [zx_w, List.getElem?_mapIdx, h]
theorem zx_w_no {lay : List zx_C} {E : zx_E} {S : zx_S} {p : Nat} (h : lay[p]? = none) : (zx_w lay E S)[p]? = none := by
  simp only [zx_w, List.getElem?_mapIdx, h, Option.map_none]
theorem zx_w_set {lay : List zx_C} {E : zx_E} {S S' : zx_S} {p : Nat} {c : zx_C} (h : lay[p]? = some c) (ho : ∀ (q : Nat) (c' : zx_C), q ≠ p → lay[q]? = some c' → zx_ce E S' q c' = zx_ce E S q c') : (zx_w lay E S).set p (E.2.1 p, zx_ce E S' p c) = zx_w lay E S' := by
  apply List.ext_getElem?
  intro q
  by_cases hq : q = p
  · subst hq
    have hl : q < (zx_w lay E S).length := (List.getElem?_eq_some_iff.mp (zx_w_at (E := E) (S := S) h)).1
    rw [List.getElem?_set_self hl, zx_w_at h]
  · rw [List.getElem?_set_ne (Ne.symm hq)]
    cases hc : lay[q]? with
    | none => rw [zx_w_no hc, zx_w_no hc]
    | some c' => rw [zx_w_at hc, zx_w_at hc, ho q c' hq hc]
theorem zx_up_ne {α : Type} {f : Nat → α} {p q : Nat} {v : α} (h : q ≠ p) : va_up f p v q = f q := by simp [va_up, h]
theorem zx_up_eq {α : Type} {f : Nat → α} {p : Nat} {v : α} : va_up f p v p = v := by simp [va_up]
theorem zx_ce_i {E : zx_E} {r : List Nat} {D : zx_D} {p k : Nat} {x : Int32} (q : Nat) (c : zx_C) (h : q ≠ p) : zx_ce E (r, zp_i D p k x) q c = zx_ce E (r, D) q c := by
  rcases c with ⟨ci, ks⟩ | ⟨n, b⟩
  · simp [zx_ce, zx_fv, zg_i, zg_l, zp_i, zx_up_ne h]
  · cases b <;> simp [zx_ce, zp_i, zx_up_ne h]
theorem zx_ce_l {E : zx_E} {r : List Nat} {D : zx_D} {p k : Nat} {x : Int64} (q : Nat) (c : zx_C) (h : q ≠ p) : zx_ce E (r, zp_l D p k x) q c = zx_ce E (r, D) q c := by
  rcases c with ⟨ci, ks⟩ | ⟨n, b⟩
  · simp [zx_ce, zx_fv, zg_i, zg_l, zp_l, zx_up_ne h]
  · cases b <;> simp [zx_ce, zp_l, zx_up_ne h]
theorem zx_ce_a {E : zx_E} {r : List Nat} {D : zx_D} {p : Nat} {f : Nat → Int32} (q : Nat) (c : zx_C) (h : q ≠ p) : zx_ce E (r, zp_a D p f) q c = zx_ce E (r, D) q c := by
  rcases c with ⟨ci, ks⟩ | ⟨n, b⟩
  · simp [zx_ce, zx_fv, zg_i, zg_l, zp_a, zx_up_ne h]
  · cases b <;> simp [zx_ce, zp_a, zx_up_ne h]
/-- a field that was put: the list of values -/
theorem zx_fs_set {ks : List Nat} {f g : Nat → Nat → Value} {k : Nat} {v : Value} (hk : k < ks.length) (hv : ∀ kind, ks[k]? = some kind → g k kind = v) (ho : ∀ j kind, j ≠ k → ks[j]? = some kind → g j kind = f j kind) : (ks.mapIdx f).set k v = ks.mapIdx g := by
  apply List.ext_getElem?
  intro j
  by_cases hj : j = k
  · subst hj
    rw [List.getElem?_set_self (by simpa using hk), List.getElem?_mapIdx]
    cases hc : ks[j]? with
    | none => simp [List.getElem?_eq_none_iff] at hc; omega
    | some kind => simp [hv kind hc]
  · rw [List.getElem?_set_ne (Ne.symm hj), List.getElem?_mapIdx, List.getElem?_mapIdx]
    cases hc : ks[j]? with
    | none => rfl
    | some kind => simp [ho j kind hj hc]
theorem zx_put_i {lay : List zx_C} {E : zx_E} {r : List Nat} {D : zx_D} {p k ci : Nat} {x : Int32} {ks : List Nat} {kd : Nat} (h : lay[p]? = some (.inl (ci, ks))) (hk : ks[k]? = some kd) (hd : kd = 0 ∨ kd = 3) : (zx_w lay E (r, D)).set p (E.2.1 p, .inr (ci, (ks.mapIdx (fun k kind => zx_fv E (r, D) p k kind)).set k (.int x))) = zx_w lay E (r, zp_i D p k x) := by
  have hl : k < ks.length := (List.getElem?_eq_some_iff.mp hk).1
  rw [zx_fs_set (g := fun j kind => zx_fv E (r, zp_i D p k x) p j kind) hl ?_ ?_]
  · exact zx_w_set h (fun q c' hq _ => zx_ce_i q c' hq)
  · intro kind hkd
    have : kind = kd := by rw [hk] at hkd; exact (Option.some.inj hkd).symm
    subst this
    rcases hd with rfl | rfl <;> simp [zx_fv, zg_i, zp_i, zx_up_eq]
  · intro j kind hj _
    simp [zx_fv, zg_i, zg_l, zp_i, zx_up_eq, zx_up_ne hj]
theorem zx_put_l {lay : List zx_C} {E : zx_E} {r : List Nat} {D : zx_D} {p k ci : Nat} {x : Int64} {ks : List Nat} (h : lay[p]? = some (.inl (ci, ks))) (hk : ks[k]? = some 1) : (zx_w lay E (r, D)).set p (E.2.1 p, .inr (ci, (ks.mapIdx (fun k kind => zx_fv E (r, D) p k kind)).set k (.long x))) = zx_w lay E (r, zp_l D p k x) := by
  have hl : k < ks.length := (List.getElem?_eq_some_iff.mp hk).1
  rw [zx_fs_set (g := fun j kind => zx_fv E (r, zp_l D p k x) p j kind) hl ?_ ?_]
  · exact zx_w_set h (fun q c' hq _ => zx_ce_l q c' hq)
  · intro kind hkd
    have : kind = 1 := by rw [hk] at hkd; exact (Option.some.inj hkd).symm
    subst this
    simp [zx_fv, zg_l, zp_l, zx_up_eq]
  · intro j kind hj _
    simp [zx_fv, zg_i, zg_l, zp_l, zx_up_eq, zx_up_ne hj]
/-- no two slots share a reference that changes -/
def zx_luq (lay : List zx_C) : Prop := ∀ (p q ci cj : Nat) (ks kt : List Nat) (i j kd : Nat), lay[p]? = some (.inl (ci, ks)) → lay[q]? = some (.inl (cj, kt)) → ks[i]? = some kd → kt[j]? = some kd → 50 ≤ kd → kd < 100 → p = q ∧ i = j
theorem zx_put_r {lay : List zx_C} {E : zx_E} {r : List Nat} {D : zx_D} {p k ci : Nat} {x : Nat} {ks : List Nat} {kd : Nat} (hu : zx_luq lay) (h : lay[p]? = some (.inl (ci, ks))) (hk : ks[k]? = some kd) (h5 : 50 ≤ kd ∧ kd < 100 ∧ kd - 50 < r.length) : (zx_w lay E (r, D)).set p (E.2.1 p, .inr (ci, (ks.mapIdx (fun k kind => zx_fv E (r, D) p k kind)).set k (.ref (E.2.1 x)))) = zx_w lay E (r.set (kd - 50) x, D) := by
  have hl : k < ks.length := (List.getElem?_eq_some_iff.mp hk).1
  have other : ∀ (q cj j : Nat) (kt : List Nat) (kind : Nat), lay[q]? = some (.inl (cj, kt)) → kt[j]? = some kind → ¬ (q = p ∧ j = k) → zx_fv E (r.set (kd - 50) x, D) q j kind = zx_fv E (r, D) q j kind := by
    intro q cj j kt kind hq hj hne
    by_cases h1 : 100 ≤ kind
    · simp [zx_fv, h1]
    · by_cases h2 : 50 ≤ kind
      · have hn : kind ≠ kd := fun e => by
          subst e
          obtain ⟨e1, e2⟩ := hu p q ci cj ks kt k j kind h hq hk hj h2 h5.2.1
          exact hne ⟨e1.symm, e2.symm⟩
        have hn2 : kd - 50 ≠ kind - 50 := by omega
        simp [zx_fv, h1, h2, List.getD_eq_getElem?_getD, List.getElem?_set_ne hn2]
      · simp [zx_fv, h1, h2]
  rw [zx_fs_set (g := fun j kind => zx_fv E (r.set (kd - 50) x, D) p j kind) hl ?_ ?_]
  · refine zx_w_set h (fun q c' hq hc' => ?_)
    rcases c' with ⟨cj, kt⟩ | ⟨n, b⟩
    · simp only [zx_ce]
      congr 2
      apply List.ext_getElem?
      intro j
      rw [List.getElem?_mapIdx, List.getElem?_mapIdx]
      cases hj : kt[j]? with
      | none => rfl
      | some kind => simp [other q cj j kt kind hc' hj (fun e => hq e.1)]
    · cases b <;> rfl
  · intro kind hkd
    have : kind = kd := by rw [hk] at hkd; exact (Option.some.inj hkd).symm
    subst this
    have h1 : ¬ 100 ≤ kind := by omega
    simp [zx_fv, h1, h5.1, List.getD_eq_getElem?_getD, h5.2.2]
  · intro j kind hj hkj
    exact other p ci j ks kind h hkj (fun e => hj e.2)
theorem zx_put_ai {lay : List zx_C} {E : zx_E} {r : List Nat} {D : zx_D} {p j n : Nat} {x : Int32} (h : lay[p]? = some (.inr (n, false))) : (zx_w lay E (r, D)).set p (E.2.1 p, .inl (E.2.2.1, n, .inl (upd (D.1 p) j x))) = zx_w lay E (r, zp_i D p j x) := by
  have e : (Sum.inl (E.2.2.1, n, .inl (upd (D.1 p) j x)) : va_E) = zx_ce E (r, zp_i D p j x) p (.inr (n, false)) := by
    simp only [zx_ce, zp_i, zx_up_eq]
    rfl
  rw [e]
  exact zx_w_set h (fun q c' hq _ => zx_ce_i q c' hq)
theorem zx_put_al {lay : List zx_C} {E : zx_E} {r : List Nat} {D : zx_D} {p j n : Nat} {x : Int64} (h : lay[p]? = some (.inr (n, true))) : (zx_w lay E (r, D)).set p (E.2.1 p, .inl (E.2.2.2, n, .inr (.inl (vp_updL (D.2 p) j x)))) = zx_w lay E (r, zp_l D p j x) := by
  have e : (Sum.inl (E.2.2.2, n, .inr (.inl (vp_updL (D.2 p) j x))) : va_E) = zx_ce E (r, zp_l D p j x) p (.inr (n, true)) := by
    simp only [zx_ce, zp_l, zx_up_eq]
    rfl
  rw [e]
  exact zx_w_set h (fun q c' hq _ => zx_ce_l q c' hq)
theorem zx_put_aa {lay : List zx_C} {E : zx_E} {r : List Nat} {D : zx_D} {p n : Nat} {f : Nat → Int32} (h : lay[p]? = some (.inr (n, false))) : (zx_w lay E (r, D)).set p (E.2.1 p, .inl (E.2.2.1, n, .inl f)) = zx_w lay E (r, zp_a D p f) := by
  have e : (Sum.inl (E.2.2.1, n, .inl f) : va_E) = zx_ce E (r, zp_a D p f) p (.inr (n, false)) := by
    simp only [zx_ce, zp_a, zx_up_eq]
  rw [e]
  exact zx_w_set h (fun q c' hq _ => zx_ce_a q c' hq)
/-- the cells of the world, by their addresses -/
def zx_A (lay : List zx_C) (E : zx_E) : Nat → Prop := fun q => ∃ p, p < lay.length ∧ q = E.2.1 p
def zx_inj (lay : List zx_C) (E : zx_E) : Prop := ∀ i j, i < lay.length → j < lay.length → E.2.1 i = E.2.1 j → i = j
theorem zx_Dn {lay : List zx_C} {E : zx_E} {S : zx_S} (h : zx_inj lay E) : va_D (zx_A lay E) (zx_w lay E S) := by
  have key : ∀ (k : Nat) (q : Nat × va_E), (zx_w lay E S)[k]? = some q → k < lay.length ∧ q.1 = E.2.1 k := by
    intro k q hk
    cases hc : lay[k]? with
    | none => rw [zx_w_no hc] at hk; cases hk
    | some c =>
      rw [zx_w_at hc] at hk
      cases hk
      exact ⟨(List.getElem?_eq_some_iff.mp hc).1, rfl⟩
  refine ⟨fun i j x y hi hj hxy => ?_, fun k q hk => ?_⟩
  · obtain ⟨h1, h2⟩ := key i x hi
    obtain ⟨h3, h4⟩ := key j y hj
    exact h i j h1 h3 (by rw [← h2, ← h4]; exact hxy)
  · obtain ⟨h1, h2⟩ := key k q hk
    exact ⟨k, h1, h2⟩
/-- the locals -/
def zx_lv (r : Nat → Nat) (ls : Array Slot) (nL : Nat) (L : List (Option Value)) : Prop := ls.size = nL ∧ L.length = nL ∧ lv_wf ls ∧ ∀ (i : Nat) (v : Value), L[i]? = some (some v) → ls[i]? = some (.val (zx_v r v))
def zx_ls (r : Nat → Nat) (L : List (Option Value)) : List (Nat × Value) := (List.range L.length).filterMap (fun i => match L[i]? with
  | some (some v) => some (i, zx_v r v)
  | _ => none)
theorem zx_ls_mem {r : Nat → Nat} {L : List (Option Value)} {i : Nat} {v : Value} (h : L[i]? = some (some v)) : (i, zx_v r v) ∈ zx_ls r L := by
  unfold zx_ls
  rw [List.mem_filterMap]
  refine ⟨i, ?_, by rw [h]⟩
  rw [List.mem_range]
  exact (List.getElem?_eq_some_iff.mp h).1
theorem zx_lv.has {r : Nat → Nat} {ls : Array Slot} {nL : Nat} {L : List (Option Value)} (h : zx_lv r ls nL L) : lv_has ls nL (zx_ls r L) := by
  refine ⟨h.1, h.2.2.1, fun q hq => ?_⟩
  unfold zx_ls at hq
  rw [List.mem_filterMap] at hq
  obtain ⟨i, -, hi⟩ := hq
  split at hi
  · rename_i v hv
    cases hi
    exact h.2.2.2 i v hv
  · cases hi
theorem zx_cat (r : Nat → Nat) (v : Value) : (zx_v r v).category = v.category := by cases v <;> rfl
theorem zx_kill_len (L : List (Option Value)) (a : Nat) : (zx_kill L a).length = L.length := by
  cases a with
  | zero => rfl
  | succ a => simp only [zx_kill]; split <;> simp
/-- what is left beside the slot that is stored to: no wide value just before it -/
theorem zx_kill_get {L : List (Option Value)} {a i : Nat} {v : Value} (h : (zx_kill L a)[i]? = some (some v)) : L[i]? = some (some v) ∧ ¬ (i + 1 = a ∧ v.category = 2) := by
  cases a with
  | zero => exact ⟨h, fun q => by omega⟩
  | succ a =>
    simp only [zx_kill] at h
    by_cases hi : i = a
    · subst hi
      cases hc : L[i]? with
      | none => rw [hc] at h; simp at h; rw [hc] at h; cases h
      | some o =>
        rw [hc] at h
        have hl : i < L.length := (List.getElem?_eq_some_iff.mp hc).1
        cases o with
        | none => simp at h; rw [hc] at h; cases h
        | some w =>
          cases w <;> simp only [] at h <;> (try (rw [List.getElem?_set_self hl] at h; cases h)) <;> (rw [hc] at h; cases h; exact ⟨rfl, fun q => by simp [Value.category] at q⟩)
    · have hL : L[i]? = some (some v) := by
        split at h
        · rwa [List.getElem?_set_ne (Ne.symm hi)] at h
        · rwa [List.getElem?_set_ne (Ne.symm hi)] at h
        · exact h
      exact ⟨hL, fun q => hi (by omega)⟩
theorem zx_lv.st1 {r : Nat → Nat} {ls ls' : Array Slot} {nL : Nat} {L : List (Option Value)} {a : Nat} {w : Value} (h : zx_lv r ls nL L) (ha : a < L.length) (h2 : lv_has ls' nL ((a, zx_v r w) :: (zx_ls r L).filter (fun q => !(q.1 == a) && !(q.1 + 1 == a && q.2.category == 2)))) : zx_lv r ls' nL ((zx_kill L a).set a (some w)) := by
  refine ⟨h2.1, by rw [List.length_set, zx_kill_len]; exact h.2.1, h2.2.1, fun i v hv => ?_⟩
  by_cases hi : i = a
  · subst hi
    rw [List.getElem?_set_self (by rw [zx_kill_len]; exact ha)] at hv
    cases hv
    exact h2.2.2 (i, zx_v r w) List.mem_cons_self
  · rw [List.getElem?_set_ne (Ne.symm hi)] at hv
    obtain ⟨h3, h4⟩ := zx_kill_get hv
    refine h2.2.2 (i, zx_v r v) (List.mem_cons_of_mem _ (List.mem_filter.mpr ⟨zx_ls_mem h3, ?_⟩))
    have h5 : ¬ (i + 1 = a ∧ (zx_v r v).category = 2) := by rw [zx_cat]; exact h4
    simp only [Bool.and_eq_true, Bool.not_eq_true', beq_eq_false_iff_ne, ne_eq, Bool.and_eq_false_iff]
    refine ⟨hi, ?_⟩
    by_cases h6 : i + 1 = a
    · exact Or.inr (fun h7 => h5 ⟨h6, h7⟩)
    · exact Or.inl h6
theorem zx_lv.st2 {r : Nat → Nat} {ls ls' : Array Slot} {nL : Nat} {L : List (Option Value)} {a : Nat} {w : Value} (h : zx_lv r ls nL L) (ha : a + 1 < L.length) (h2 : lv_has ls' nL ((a, zx_v r w) :: (zx_ls r L).filter (fun q => !(q.1 == a) && (!(q.1 == a + 1) && !(q.1 + 1 == a && q.2.category == 2))))) : zx_lv r ls' nL (((zx_kill L a).set a (some w)).set (a + 1) none) := by
  refine ⟨h2.1, by rw [List.length_set, List.length_set, zx_kill_len]; exact h.2.1, h2.2.1, fun i v hv => ?_⟩
  by_cases hi1 : i = a + 1
  · subst hi1
    rw [List.getElem?_set_self (by rw [List.length_set, zx_kill_len]; exact ha)] at hv
    cases hv
  rw [List.getElem?_set_ne (Ne.symm hi1)] at hv
  by_cases hi : i = a
  · subst hi
    rw [List.getElem?_set_self (by rw [zx_kill_len]; omega)] at hv
    cases hv
    exact h2.2.2 (i, zx_v r w) List.mem_cons_self
  · rw [List.getElem?_set_ne (Ne.symm hi)] at hv
    obtain ⟨h3, h4⟩ := zx_kill_get hv
    refine h2.2.2 (i, zx_v r v) (List.mem_cons_of_mem _ (List.mem_filter.mpr ⟨zx_ls_mem h3, ?_⟩))
    have h5 : ¬ (i + 1 = a ∧ (zx_v r v).category = 2) := by rw [zx_cat]; exact h4
    simp only [Bool.and_eq_true, Bool.not_eq_true', beq_eq_false_iff_ne, ne_eq, Bool.and_eq_false_iff]
    refine ⟨hi, hi1, ?_⟩
    by_cases h6 : i + 1 = a
    · exact Or.inr (fun h7 => h5 ⟨h6, h7⟩)
    · exact Or.inl h6
end
section
/-! What an instruction's entry in the tables must be, as a program decides it -/
def zx_f4 (a : Nat) : Fin 4 := ⟨a % 4, Nat.mod_lt a (by decide)⟩
def zx_in4 (b : Nat) : Option Instr := match b with
  | 0 => some .iadd
  | 1 => some .isub
  | 2 => some .imul
  | 3 => some .idiv
  | 4 => some .irem
  | 5 => some .iand
  | 6 => some .ior
  | 7 => some .ishl
  | 8 => some .ishr
  | 9 => some .iushr
  | 10 => some .ladd
  | 11 => some .lsub
  | 12 => some .lmul
  | 13 => some .ldiv
  | 14 => some .land
  | 15 => some .lor
  | 16 => some .lxor
  | 17 => some .lshl
  | 18 => some .lshr
  | 19 => some .lushr
  | _ => none
def zx_cnd (b : Nat) : Jvm.ClassFile.Cond := match b with
  | 0 => .eq
  | 1 => .ne
  | 2 => .lt
  | 3 => .ge
  | 4 => .gt
  | _ => .le
def zx_dd (cc : ByteArray) (pc : Nat) (i : Instr) (n : Nat) : Bool := decide (decode cc pc = .ok (i, n))
def zx_okB (o : Nat) (ret : Option FieldType) (cc : ByteArray) (pc n : Nat) (e : zx_I) : Bool := match e with
  | (op, a, b, v, as) => match op with
    | 0 => match b, v with
      | 0, .int x => decide (n = 1) && zx_dd cc pc (.iconst x.toInt) 1
      | 1, .int x => decide (n = 2) && zx_dd cc pc (.bipush x.toInt) 2 && decide ((Int8.ofInt x.toInt).toInt32 = x)
      | 2, .int x => decide (n = 3) && zx_dd cc pc (.sipush x.toInt) 3 && decide ((Int16.ofInt x.toInt).toInt32 = x)
      | 3, .long x => decide (n = 1) && zx_dd cc pc (.lconst 0) 1 && decide (x = 0)
      | 4, .long x => decide (n = 1) && zx_dd cc pc (.lconst 1) 1 && decide (x = 1)
      | 5, .long x => decide (n = 3) && zx_dd cc pc (.ldc2_w a) 3 && decide ((o, a, x) ∈ zx_ctab)
      | 6, .int x => decide (n = 3) && zx_dd cc pc (.ldc_w a) 3 && decide ((o, a, x) ∈ zx_itab)
      | _, _ => false
    | 1 => match b with
      | 0 => (decide (n = 1) && decide (a < 4) && zx_dd cc pc (.iload_n (zx_f4 a)) 1) || (decide (n = 2) && zx_dd cc pc (.iload a) 2)
      | 1 => (decide (n = 1) && decide (a < 4) && zx_dd cc pc (.lload_n (zx_f4 a)) 1) || (decide (n = 2) && zx_dd cc pc (.lload a) 2)
      | 2 => (decide (n = 1) && decide (a < 4) && zx_dd cc pc (.aload_n (zx_f4 a)) 1) || (decide (n = 2) && zx_dd cc pc (.aload a) 2)
      | _ => false
    | 2 => match b with
      | 0 => (decide (n = 1) && decide (a < 4) && zx_dd cc pc (.istore_n (zx_f4 a)) 1) || (decide (n = 2) && zx_dd cc pc (.istore a) 2)
      | 1 => (decide (n = 1) && decide (a < 4) && zx_dd cc pc (.lstore_n (zx_f4 a)) 1) || (decide (n = 2) && zx_dd cc pc (.lstore a) 2)
      | 2 => (decide (n = 1) && decide (a < 4) && zx_dd cc pc (.astore_n (zx_f4 a)) 1) || (decide (n = 2) && zx_dd cc pc (.astore a) 2)
      | _ => false
    | 3 => match v with
      | .int x => decide (n = 3) && zx_dd cc pc (.iinc a x.toInt) 3
      | _ => false
    | 4 => match zx_in4 b with
      | some i => decide (n = 1) && zx_dd cc pc i 1
      | none => false
    | 5 => match b with
      | 0 => decide (n = 1) && zx_dd cc pc .i2l 1
      | 1 => decide (n = 1) && zx_dd cc pc .l2i 1
      | _ => false
    | 6 => decide (n = 3) && zx_dd cc pc (.goto ((a : Int) - (pc : Int))) 3
    | 7 => decide (n = 3) && zx_dd cc pc (.getfield a) 3 && as.all (fun q => decide ((o, a, q.1, q.2) ∈ zx_ftab))
    | 8 => decide (n = 3) && zx_dd cc pc (.putfield a) 3 && as.all (fun q => decide ((o, a, q.1, q.2) ∈ zx_ftab) && decide ((q.1, q.2) ∈ zx_ptab))
    | 9 => match b with
      | 0 => decide (n = 1) && zx_dd cc pc .iaload 1
      | 1 => decide (n = 1) && zx_dd cc pc .laload 1
      | _ => false
    | 10 => match b with
      | 0 => decide (n = 1) && zx_dd cc pc .iastore 1
      | 1 => decide (n = 1) && zx_dd cc pc .lastore 1
      | _ => false
    | 11 => decide (n = 1) && zx_dd cc pc .arraylength 1
    | 12 => decide (n = 1) && zx_dd cc pc .dup 1
    | 13 => decide (n = 1) && zx_dd cc pc .dup2 1
    | 14 => decide (n = 3) && zx_dd cc pc (.getstatic a) 3 && decide ((o, a) ∈ zx_stab)
    | 15 => match b with
      | 0 => decide (n = 3) && zx_dd cc pc (.invokestatic a) 3 && decide ((o, a) ∈ zx_mintab)
      | 1 => decide (n = 3) && zx_dd cc pc (.invokestatic a) 3 && decide ((o, a) ∈ zx_maxtab)
      | _ => false
    | 16 => decide (n = 3) && zx_dd cc pc (.invokestatic a) 3 && decide ((o, a) ∈ zx_cpytab)
    | 20 => decide (n = 3) && zx_dd cc pc (.if_icmp (zx_cnd b) ((a : Int) - (pc : Int))) 3
    | 21 => decide (n = 3) && zx_dd cc pc (.ifCond (zx_cnd b) ((a : Int) - (pc : Int))) 3
    | 22 => decide (n = 4) && zx_dd cc pc .lcmp 1 && zx_dd cc (pc + 1) (.ifCond (zx_cnd b) ((a : Int) - ((pc + 1 : Nat) : Int))) 3
    | 30 => decide (n = 3) && zx_dd cc pc (.invokevirtual a) 3 && as.all (fun q => decide ((o, a, b, q.1, q.2) ∈ zx_vtab))
    | 31 => decide (n = 3) && zx_dd cc pc (.invokestatic a) 3 && as.all (fun q => decide ((o, a, b, q.1, q.2) ∈ zx_stab2))
    | 40 => match b with
      | 0 => zx_dd cc pc .return_ 1 && decide (ret = none)
      | 1 => zx_dd cc pc .ireturn 1 && decide (ret = some .int)
      | 2 => zx_dd cc pc .lreturn 1 && decide (ret = some .long)
      | 3 => zx_dd cc pc .areturn 1 && (match ret with
        | some (.object _) => true
        | _ => false)
      | 4 => zx_dd cc pc .ireturn 1 && decide (ret = some .boolean)
      | _ => false
    | _ => false
def zx_okK (o : Nat) (ret : Option FieldType) (cc : ByteArray) (g : List (Nat × Nat × zx_I)) : Bool := g.all (fun e => zx_okB o ret cc e.1 e.2.1 e.2.2)
theorem zx_at1_mem : ∀ (g : List (Nat × Nat × zx_I)) (pc : Nat) (q : Nat × zx_I), zx_at1 g pc = some q → (pc, q.1, q.2) ∈ g
  | [], _, _, h => by cases h
  | e :: r, pc, q, h => by
    unfold zx_at1 at h
    split at h
    · rename_i he
      cases h
      subst he
      exact List.mem_cons_self
    · exact List.mem_cons_of_mem _ (zx_at1_mem r pc q h)
theorem zx_at_mem : ∀ (K : zx_K) (pc : Nat) (q : Nat × zx_I), zx_at K pc = some q → ∃ g ∈ K, (pc, q.1, q.2) ∈ g.2
  | [], _, _, h => by cases h
  | g :: r, pc, q, h => by
    unfold zx_at at h
    split at h
    · exact ⟨g, List.mem_cons_self, zx_at1_mem g.2 pc q h⟩
    · obtain ⟨g', h1, h2⟩ := zx_at_mem r pc q h
      exact ⟨g', List.mem_cons_of_mem _ h1, h2⟩
theorem zx_dd_spec {cc : ByteArray} {pc n : Nat} {i : Instr} (h : zx_dd cc pc i n = true) : decode cc pc = .ok (i, n) := of_decide_eq_true h
theorem zx_ok_at {o : Nat} {ret : Option FieldType} {cc : ByteArray} {K : zx_K} (hK : ∀ g ∈ K, zx_okK o ret cc g.2 = true) {pc n : Nat} {e : zx_I} (h : zx_at K pc = some (n, e)) : zx_okB o ret cc pc n e = true := by
  obtain ⟨g, h1, h2⟩ := zx_at_mem K pc (n, e) h
  exact List.all_eq_true.mp (hK g h1) (pc, n, e) h2
end
section
/-! Each step of the pure machine, over the kit's rows -/
theorem zx_f4_eq {a : Nat} (h : a < 4) : ((zx_f4 a : Fin 4) : Nat) = a := Nat.mod_eq_of_lt h
theorem zx_find_mem : ∀ (as : List (Nat × Nat)) (c k : Nat), zx_find as c = some k → (c, k) ∈ as
  | [], _, _, h => by cases h
  | e :: r, c, k, h => by
    unfold zx_find at h
    split at h
    · rename_i he
      cases h
      subst he
      exact List.mem_cons_self
    · exact List.mem_cons_of_mem _ (zx_find_mem r c k h)
theorem zx_wd_sum (r : Nat → Nat) : ∀ st : List Value, ((st.map (zx_v r)).map fun v => v.category).sum = zx_wd st
  | [] => rfl
  | v :: st => by
    have ih := zx_wd_sum r st
    simp only [List.map_cons, List.sum_cons, ih, zx_cat]
    cases v <;> simp only [Value.category, zx_wd] <;> omega
def zx_rm (d : Nat) : Room := { frames := d + 1, cells := 0, slots := 0, locals := 40 * (d + 1) }
def zx_env (lay : List zx_C) (ro : Nat × (Nat → Int32)) (E : zx_E) (U : State) (H : Heap) : Prop :=
  va_K E.1 zx_cl [(E.2.2.1, .int), (E.2.2.2, .long)] U ∧ va_Z zx_mgC zx_mgN zx_mgD (.ref (E.2.1 lay.length)) (zx_A lay E) U H ∧ va_T .int (E.2.1 lay.length) ro.1 (fun j => .int (ro.2 j)) (zx_A lay E) U H ∧ (∀ w ∈ zx_NW, va_Nw w U) ∧ zx_inj lay E
def zx_kt (kd : Nat) : Nat := if 50 ≤ kd then 2 else kd
def zx_lok (lay : List zx_C) : Prop := (∀ (q ci : Nat) (ks : List Nat), lay[q]? = some (.inl (ci, ks)) → ks.map zx_kt = zx_kd ci) ∧ zx_luq lay
def zx_F (lay : List zx_C) (ro : Nat × (Nat → Int32)) (E : zx_E) (o : Nat) (cc : ByteArray) (nL d : Nat) (ret : Option FieldType) (p : Program) (R : Room) (s : State) (m : MethodId) (args : Array Value) (meth : Method) (c : Code) : Prop :=
  p.tables.exec = Jvm.exec ∧ c.code = cc ∧ c.maxLocals = nL ∧ s.vm.findClass (zx_on o) = some m.cls ∧ (∀ w ∈ zx_WS, w.before args s = true) ∧ zx_env lay ro E s s.heap ∧ zx_lok lay ∧ meth.sig.returnType = ret ∧ meth.locks = false ∧ R = zx_rm d
def zx_Z (lay : List zx_C) (E : zx_E) (p : Program) (l : Launch) (e : Env) (R : Room) (s : State) (m : MethodId) (args : Array Value) (below : List Frame) (meth : Method) (c : Code) (nL : Nat) (Qs : State → Prop) (X : zx_X) : Prop :=
  ∀ (H : Heap) (locs : List Loc) (ls : Array Slot), va_P E.1 zx_cl (zx_w lay E X.2.2.2) H → va_S (zx_A lay E) s.heap H locs → zx_lv E.2.1 ls nL X.2.1 → W p l e R s m args below meth c H locs 0 0 Qs (F0 m X.1 ls (X.2.2.1.map (zx_v E.2.1)))
section ZX
variable {p : Program} {l : Launch} {e : Env} {R : Room} {s : State} {m : MethodId} {args : Array Value} {below : List Frame} {meth : Method} {c : Code} {Qs : State → Prop}
variable {lay : List zx_C} {ro : Nat × (Nat → Int32)} {E : zx_E} {o : Nat} {cc : ByteArray} {nL d : Nat} {ret : Option FieldType}
variable {n a b pc : Nat} {v : Value} {as : List (Nat × Nat)} {L : List (Option Value)} {st : List Value} {S : zx_S} {oc : Option Prop} {X' : zx_X}
theorem zx_k0 (F : zx_F lay ro E o cc nL d ret p R s m args meth c) (hok : zx_okB o ret cc pc n (0, a, b, v, as) = true) (hs : zx_stp lay ro n (0, a, b, v, as) (pc, L, st, S) = some (oc, X')) (hc : ∀ q, oc = some q → q) (hz : zx_Z lay E p l e R s m args below meth c nL Qs X') : zx_Z lay E p l e R s m args below meth c nL Qs (pc, L, st, S) := by
  obtain ⟨hx, hb, hml, hown, hts, henv, hlok, hret, hlk, hR⟩ := F
  simp only [zx_stp, Option.some.injEq, Prod.mk.injEq] at hs
  obtain ⟨rfl, rfl⟩ := hs
  simp only [zx_okB] at hok
  split at hok
  · simp only [Bool.and_eq_true, decide_eq_true_eq, Bool.or_eq_true] at hok
    obtain ⟨rfl, h1⟩ := hok
    exact fun H locs ls hP hS hl => lv_iconst hx hb (zx_dd_spec h1) (Int32.ofInt_toInt _) (hz H locs ls hP hS hl)
  · simp only [Bool.and_eq_true, decide_eq_true_eq, Bool.or_eq_true] at hok
    obtain ⟨⟨rfl, h1⟩, h2⟩ := hok
    exact fun H locs ls hP hS hl => lv_bipush hx hb (zx_dd_spec h1) h2 (hz H locs ls hP hS hl)
  · simp only [Bool.and_eq_true, decide_eq_true_eq, Bool.or_eq_true] at hok
    obtain ⟨⟨rfl, h1⟩, h2⟩ := hok
    exact fun H locs ls hP hS hl => lv_sipush hx hb (zx_dd_spec h1) h2 (hz H locs ls hP hS hl)
  · simp only [Bool.and_eq_true, decide_eq_true_eq, Bool.or_eq_true] at hok
    obtain ⟨⟨rfl, h1⟩, rfl⟩ := hok
    exact fun H locs ls hP hS hl => lv_lconst hx hb (zx_dd_spec h1) rfl (hz H locs ls hP hS hl)
  · simp only [Bool.and_eq_true, decide_eq_true_eq, Bool.or_eq_true] at hok
    obtain ⟨⟨rfl, h1⟩, rfl⟩ := hok
    exact fun H locs ls hP hS hl => lv_lconst hx hb (zx_dd_spec h1) rfl (hz H locs ls hP hS hl)
  · simp only [Bool.and_eq_true, decide_eq_true_eq, Bool.or_eq_true] at hok
    obtain ⟨⟨rfl, h1⟩, h2⟩ := hok
    exact fun H locs ls hP hS hl => lv_ldc2 hx hb hown (hts _ (zx_ctab_ok _ h2)) (zx_dd_spec h1) (hz H locs ls hP hS hl)
  · simp only [Bool.and_eq_true, decide_eq_true_eq, Bool.or_eq_true] at hok
    obtain ⟨⟨rfl, h1⟩, h2⟩ := hok
    exact fun H locs ls hP hS hl => lv_ldcw hx hb hown (hts _ (zx_itab_ok _ h2)) (zx_dd_spec h1) (hz H locs ls hP hS hl)
  · cases hok
theorem zx_k1 (F : zx_F lay ro E o cc nL d ret p R s m args meth c) (hok : zx_okB o ret cc pc n (1, a, b, v, as) = true) (hs : zx_stp lay ro n (1, a, b, v, as) (pc, L, st, S) = some (oc, X')) (hc : ∀ q, oc = some q → q) (hz : zx_Z lay E p l e R s m args below meth c nL Qs X') : zx_Z lay E p l e R s m args below meth c nL Qs (pc, L, st, S) := by
  obtain ⟨hx, hb, hml, hown, hts, henv, hlok, hret, hlk, hR⟩ := F
  cases hw : zx_ld b L[a]? with
  | none => simp [zx_stp, hw] at hs
  | some w =>
    simp only [zx_stp, hw, Option.some.injEq, Prod.mk.injEq] at hs
    obtain ⟨rfl, rfl⟩ := hs
    unfold zx_ld at hw
    split at hw
    · rename_i h
      cases hw
      simp only [zx_okB, Bool.and_eq_true, decide_eq_true_eq, Bool.or_eq_true] at hok
      rcases hok with ⟨⟨rfl, h4⟩, h1⟩ | ⟨rfl, h1⟩
      · exact fun H locs ls hP hS hl => lv_iload_n hx hb (zx_dd_spec h1) (zx_f4_eq h4) (hl.2.2.2 _ _ h) (hz H locs ls hP hS hl)
      · exact fun H locs ls hP hS hl => lv_iload hx hb (zx_dd_spec h1) (hl.2.2.2 _ _ h) (hz H locs ls hP hS hl)
    · rename_i h
      cases hw
      simp only [zx_okB, Bool.and_eq_true, decide_eq_true_eq, Bool.or_eq_true] at hok
      rcases hok with ⟨⟨rfl, h4⟩, h1⟩ | ⟨rfl, h1⟩
      · exact fun H locs ls hP hS hl => lv_lload_n hx hb (zx_dd_spec h1) (zx_f4_eq h4) (hl.2.2.2 _ _ h) (hz H locs ls hP hS hl)
      · exact fun H locs ls hP hS hl => lv_lload hx hb (zx_dd_spec h1) (hl.2.2.2 _ _ h) (hz H locs ls hP hS hl)
    · rename_i h
      cases hw
      simp only [zx_okB, Bool.and_eq_true, decide_eq_true_eq, Bool.or_eq_true] at hok
      rcases hok with ⟨⟨rfl, h4⟩, h1⟩ | ⟨rfl, h1⟩
      · exact fun H locs ls hP hS hl => lv_aload_n hx hb (zx_dd_spec h1) (zx_f4_eq h4) (hl.2.2.2 _ _ h) (hz H locs ls hP hS hl)
      · exact fun H locs ls hP hS hl => lv_aload hx hb (zx_dd_spec h1) (hl.2.2.2 _ _ h) (hz H locs ls hP hS hl)
    · cases hw
theorem zx_k2 (F : zx_F lay ro E o cc nL d ret p R s m args meth c) (hok : zx_okB o ret cc pc n (2, a, b, v, as) = true) (hs : zx_stp lay ro n (2, a, b, v, as) (pc, L, st, S) = some (oc, X')) (hc : ∀ q, oc = some q → q) (hz : zx_Z lay E p l e R s m args below meth c nL Qs X') : zx_Z lay E p l e R s m args below meth c nL Qs (pc, L, st, S) := by
  obtain ⟨hx, hb, hml, hown, hts, henv, hlok, hret, hlk, hR⟩ := F
  rcases st with _ | ⟨w, st⟩
  · simp [zx_stp] at hs
  cases hw : zx_ld b (some (some w)) with
  | none => simp [zx_stp, hw] at hs
  | some w' =>
    cases hL : zx_sto L a w' with
    | none => simp [zx_stp, hw, hL] at hs
    | some L' =>
      simp only [zx_stp, hw, hL, Option.some.injEq, Prod.mk.injEq] at hs
      obtain ⟨rfl, rfl⟩ := hs
      unfold zx_ld at hw
      split at hw
      · rename_i x h
        cases h
        cases hw
        simp only [zx_sto] at hL
        split at hL
        · rename_i ha
          cases hL
          simp only [zx_okB, Bool.and_eq_true, decide_eq_true_eq, Bool.or_eq_true] at hok
          rcases hok with ⟨⟨rfl, h4⟩, h1⟩ | ⟨rfl, h1⟩
          · exact fun H locs ls hP hS hl => lv_istore_n hx hb (zx_dd_spec h1) (zx_f4_eq h4) hl.has (by rw [← hl.2.1]; exact ha) rfl (fun ls' h' => hz H locs ls' hP hS (hl.st1 (w := .int x) ha h'))
          · exact fun H locs ls hP hS hl => lv_istore hx hb (zx_dd_spec h1) hl.has (by rw [← hl.2.1]; exact ha) rfl (fun ls' h' => hz H locs ls' hP hS (hl.st1 (w := .int x) ha h'))
        · cases hL
      · rename_i x h
        cases h
        cases hw
        simp only [zx_sto] at hL
        split at hL
        · rename_i ha
          cases hL
          simp only [zx_okB, Bool.and_eq_true, decide_eq_true_eq, Bool.or_eq_true] at hok
          rcases hok with ⟨⟨rfl, h4⟩, h1⟩ | ⟨rfl, h1⟩
          · exact fun H locs ls hP hS hl => lv_lstore_n hx hb (zx_dd_spec h1) (zx_f4_eq h4) hl.has (by rw [← hl.2.1]; exact ha) rfl (fun ls' h' => hz H locs ls' hP hS (hl.st2 (w := .long x) ha h'))
          · exact fun H locs ls hP hS hl => lv_lstore hx hb (zx_dd_spec h1) hl.has (by rw [← hl.2.1]; exact ha) rfl (fun ls' h' => hz H locs ls' hP hS (hl.st2 (w := .long x) ha h'))
        · cases hL
      · rename_i x h
        cases h
        cases hw
        simp only [zx_sto] at hL
        split at hL
        · rename_i ha
          cases hL
          simp only [zx_okB, Bool.and_eq_true, decide_eq_true_eq, Bool.or_eq_true] at hok
          rcases hok with ⟨⟨rfl, h4⟩, h1⟩ | ⟨rfl, h1⟩
          · exact fun H locs ls hP hS hl => lv_astore_n hx hb (zx_dd_spec h1) (zx_f4_eq h4) hl.has (by rw [← hl.2.1]; exact ha) rfl (fun ls' h' => hz H locs ls' hP hS (hl.st1 (w := .ref x) ha h'))
          · exact fun H locs ls hP hS hl => lv_astore hx hb (zx_dd_spec h1) hl.has (by rw [← hl.2.1]; exact ha) rfl (fun ls' h' => hz H locs ls' hP hS (hl.st1 (w := .ref x) ha h'))
        · cases hL
      · cases hw
theorem zx_k3 (F : zx_F lay ro E o cc nL d ret p R s m args meth c) (hok : zx_okB o ret cc pc n (3, a, b, v, as) = true) (hs : zx_stp lay ro n (3, a, b, v, as) (pc, L, st, S) = some (oc, X')) (hc : ∀ q, oc = some q → q) (hz : zx_Z lay E p l e R s m args below meth c nL Qs X') : zx_Z lay E p l e R s m args below meth c nL Qs (pc, L, st, S) := by
  obtain ⟨hx, hb, hml, hown, hts, henv, hlok, hret, hlk, hR⟩ := F
  cases h : L[a]? with
  | none => simp [zx_stp, h] at hs
  | some w =>
    rcases w with _ | (x | _ | _ | _ | _ | _ | _) <;> try (simp [zx_stp, h] at hs; done)
    rcases v with dx | _ | _ | _ | _ | _ | _ <;> try (simp [zx_stp, h] at hs; done)
    cases hL : zx_sto L a (.int (x + dx)) with
    | none => simp [zx_stp, h, hL] at hs
    | some L' =>
      simp only [zx_stp, h, hL, Option.some.injEq, Prod.mk.injEq] at hs
      obtain ⟨rfl, rfl⟩ := hs
      simp only [zx_sto] at hL
      split at hL
      · rename_i ha
        cases hL
        simp only [zx_okB, Bool.and_eq_true, decide_eq_true_eq, Bool.or_eq_true] at hok
        obtain ⟨rfl, h1⟩ := hok
        intro H locs ls hP hS hl
        obtain ⟨k, hk⟩ := List.getElem?_of_mem (zx_ls_mem (r := E.2.1) h)
        exact lv_iinc hx hb (zx_dd_spec h1) hl.has hk (by rw [Int32.ofInt_toInt]) (by rw [← hl.2.1]; exact ha) rfl (fun ls' h' => hz H locs ls' hP hS (hl.st1 (w := .int (x + dx)) ha h'))
      · cases hL
theorem zx_k4 (F : zx_F lay ro E o cc nL d ret p R s m args meth c) (hok : zx_okB o ret cc pc n (4, a, b, v, as) = true) (hs : zx_stp lay ro n (4, a, b, v, as) (pc, L, st, S) = some (oc, X')) (hc : ∀ q, oc = some q → q) (hz : zx_Z lay E p l e R s m args below meth c nL Qs X') : zx_Z lay E p l e R s m args below meth c nL Qs (pc, L, st, S) := by
  obtain ⟨hx, hb, hml, hown, hts, henv, hlok, hret, hlk, hR⟩ := F
  rcases st with _ | ⟨y, _ | ⟨x, st⟩⟩
  · simp [zx_stp] at hs
  · simp [zx_stp] at hs
  cases hw : zx_bin b x y with
  | none => simp [zx_stp, hw] at hs
  | some w =>
    simp only [zx_stp, hw, Option.some.injEq, Prod.mk.injEq] at hs
    obtain ⟨rfl, rfl⟩ := hs
    unfold zx_bin at hw
    split at hw
    · cases hw
      simp only [zx_okB, zx_in4, Bool.and_eq_true, decide_eq_true_eq, Bool.or_eq_true] at hok
      obtain ⟨rfl, h1⟩ := hok
      exact fun H locs ls hP hS hl => lv_iadd hx hb (zx_dd_spec h1) (hz H locs ls hP hS hl)
    · cases hw
      simp only [zx_okB, zx_in4, Bool.and_eq_true, decide_eq_true_eq, Bool.or_eq_true] at hok
      obtain ⟨rfl, h1⟩ := hok
      exact fun H locs ls hP hS hl => lv_isub hx hb (zx_dd_spec h1) (hz H locs ls hP hS hl)
    · cases hw
      simp only [zx_okB, zx_in4, Bool.and_eq_true, decide_eq_true_eq, Bool.or_eq_true] at hok
      obtain ⟨rfl, h1⟩ := hok
      exact fun H locs ls hP hS hl => lv_imul hx hb (zx_dd_spec h1) (hz H locs ls hP hS hl)
    · split at hw
      · cases hw
      · rename_i hy
        cases hw
        simp only [zx_okB, zx_in4, Bool.and_eq_true, decide_eq_true_eq, Bool.or_eq_true] at hok
        obtain ⟨rfl, h1⟩ := hok
        exact fun H locs ls hP hS hl => lv_idiv hx hb (zx_dd_spec h1) hy (hz H locs ls hP hS hl)
    · split at hw
      · cases hw
      · rename_i hy
        cases hw
        simp only [zx_okB, zx_in4, Bool.and_eq_true, decide_eq_true_eq, Bool.or_eq_true] at hok
        obtain ⟨rfl, h1⟩ := hok
        exact fun H locs ls hP hS hl => lv_irem hx hb (zx_dd_spec h1) hy (hz H locs ls hP hS hl)
    · cases hw
      simp only [zx_okB, zx_in4, Bool.and_eq_true, decide_eq_true_eq, Bool.or_eq_true] at hok
      obtain ⟨rfl, h1⟩ := hok
      exact fun H locs ls hP hS hl => lv_iand hx hb (zx_dd_spec h1) (hz H locs ls hP hS hl)
    · cases hw
      simp only [zx_okB, zx_in4, Bool.and_eq_true, decide_eq_true_eq, Bool.or_eq_true] at hok
      obtain ⟨rfl, h1⟩ := hok
      exact fun H locs ls hP hS hl => lv_ior hx hb (zx_dd_spec h1) (hz H locs ls hP hS hl)
    · cases hw
      simp only [zx_okB, zx_in4, Bool.and_eq_true, decide_eq_true_eq, Bool.or_eq_true] at hok
      obtain ⟨rfl, h1⟩ := hok
      exact fun H locs ls hP hS hl => lv_ishl hx hb (zx_dd_spec h1) (hz H locs ls hP hS hl)
    · cases hw
      simp only [zx_okB, zx_in4, Bool.and_eq_true, decide_eq_true_eq, Bool.or_eq_true] at hok
      obtain ⟨rfl, h1⟩ := hok
      exact fun H locs ls hP hS hl => lv_ishr hx hb (zx_dd_spec h1) (hz H locs ls hP hS hl)
    · cases hw
      simp only [zx_okB, zx_in4, Bool.and_eq_true, decide_eq_true_eq, Bool.or_eq_true] at hok
      obtain ⟨rfl, h1⟩ := hok
      exact fun H locs ls hP hS hl => lv_iushr hx hb (zx_dd_spec h1) rfl (hz H locs ls hP hS hl)
    · cases hw
      simp only [zx_okB, zx_in4, Bool.and_eq_true, decide_eq_true_eq, Bool.or_eq_true] at hok
      obtain ⟨rfl, h1⟩ := hok
      exact fun H locs ls hP hS hl => lv_ladd hx hb (zx_dd_spec h1) (hz H locs ls hP hS hl)
    · cases hw
      simp only [zx_okB, zx_in4, Bool.and_eq_true, decide_eq_true_eq, Bool.or_eq_true] at hok
      obtain ⟨rfl, h1⟩ := hok
      exact fun H locs ls hP hS hl => lv_lsub hx hb (zx_dd_spec h1) (hz H locs ls hP hS hl)
    · cases hw
      simp only [zx_okB, zx_in4, Bool.and_eq_true, decide_eq_true_eq, Bool.or_eq_true] at hok
      obtain ⟨rfl, h1⟩ := hok
      exact fun H locs ls hP hS hl => lv_lmul hx hb (zx_dd_spec h1) (hz H locs ls hP hS hl)
    · split at hw
      · cases hw
      · rename_i hy
        cases hw
        simp only [zx_okB, zx_in4, Bool.and_eq_true, decide_eq_true_eq, Bool.or_eq_true] at hok
        obtain ⟨rfl, h1⟩ := hok
        exact fun H locs ls hP hS hl => lv_ldiv hx hb (zx_dd_spec h1) hy (hz H locs ls hP hS hl)
    · cases hw
      simp only [zx_okB, zx_in4, Bool.and_eq_true, decide_eq_true_eq, Bool.or_eq_true] at hok
      obtain ⟨rfl, h1⟩ := hok
      exact fun H locs ls hP hS hl => lv_land hx hb (zx_dd_spec h1) (hz H locs ls hP hS hl)
    · cases hw
      simp only [zx_okB, zx_in4, Bool.and_eq_true, decide_eq_true_eq, Bool.or_eq_true] at hok
      obtain ⟨rfl, h1⟩ := hok
      exact fun H locs ls hP hS hl => lv_lor hx hb (zx_dd_spec h1) (hz H locs ls hP hS hl)
    · cases hw
      simp only [zx_okB, zx_in4, Bool.and_eq_true, decide_eq_true_eq, Bool.or_eq_true] at hok
      obtain ⟨rfl, h1⟩ := hok
      exact fun H locs ls hP hS hl => lv_lxor hx hb (zx_dd_spec h1) (hz H locs ls hP hS hl)
    · cases hw
      simp only [zx_okB, zx_in4, Bool.and_eq_true, decide_eq_true_eq, Bool.or_eq_true] at hok
      obtain ⟨rfl, h1⟩ := hok
      exact fun H locs ls hP hS hl => lv_lshl hx hb (zx_dd_spec h1) rfl (hz H locs ls hP hS hl)
    · cases hw
      simp only [zx_okB, zx_in4, Bool.and_eq_true, decide_eq_true_eq, Bool.or_eq_true] at hok
      obtain ⟨rfl, h1⟩ := hok
      exact fun H locs ls hP hS hl => lv_lshr hx hb (zx_dd_spec h1) rfl (hz H locs ls hP hS hl)
    · cases hw
      simp only [zx_okB, zx_in4, Bool.and_eq_true, decide_eq_true_eq, Bool.or_eq_true] at hok
      obtain ⟨rfl, h1⟩ := hok
      exact fun H locs ls hP hS hl => lv_lushr hx hb (zx_dd_spec h1) rfl (hz H locs ls hP hS hl)
    · cases hw
theorem zx_k5 (F : zx_F lay ro E o cc nL d ret p R s m args meth c) (hok : zx_okB o ret cc pc n (5, a, b, v, as) = true) (hs : zx_stp lay ro n (5, a, b, v, as) (pc, L, st, S) = some (oc, X')) (hc : ∀ q, oc = some q → q) (hz : zx_Z lay E p l e R s m args below meth c nL Qs X') : zx_Z lay E p l e R s m args below meth c nL Qs (pc, L, st, S) := by
  obtain ⟨hx, hb, hml, hown, hts, henv, hlok, hret, hlk, hR⟩ := F
  simp only [zx_stp] at hs
  split at hs
  · simp only [Option.some.injEq, Prod.mk.injEq] at hs
    obtain ⟨rfl, rfl⟩ := hs
    simp only [zx_okB, Bool.and_eq_true, decide_eq_true_eq, Bool.or_eq_true] at hok
    obtain ⟨rfl, h1⟩ := hok
    exact fun H locs ls hP hS hl => lv_i2l hx hb (zx_dd_spec h1) rfl (hz H locs ls hP hS hl)
  · simp only [Option.some.injEq, Prod.mk.injEq] at hs
    obtain ⟨rfl, rfl⟩ := hs
    simp only [zx_okB, Bool.and_eq_true, decide_eq_true_eq, Bool.or_eq_true] at hok
    obtain ⟨rfl, h1⟩ := hok
    exact fun H locs ls hP hS hl => lv_l2i hx hb (zx_dd_spec h1) rfl (hz H locs ls hP hS hl)
  · cases hs
theorem zx_k6 (F : zx_F lay ro E o cc nL d ret p R s m args meth c) (hok : zx_okB o ret cc pc n (6, a, b, v, as) = true) (hs : zx_stp lay ro n (6, a, b, v, as) (pc, L, st, S) = some (oc, X')) (hc : ∀ q, oc = some q → q) (hz : zx_Z lay E p l e R s m args below meth c nL Qs X') : zx_Z lay E p l e R s m args below meth c nL Qs (pc, L, st, S) := by
  obtain ⟨hx, hb, hml, hown, hts, henv, hlok, hret, hlk, hR⟩ := F
  simp only [zx_stp, Option.some.injEq, Prod.mk.injEq] at hs
  obtain ⟨rfl, rfl⟩ := hs
  simp only [zx_okB, Bool.and_eq_true, decide_eq_true_eq, Bool.or_eq_true] at hok
  obtain ⟨rfl, h1⟩ := hok
  exact fun H locs ls hP hS hl => lv_goto hx hb (zx_dd_spec h1) (by omega) (hz H locs ls hP hS hl)
theorem zx_same {ref own' nm ds : String} (h : ref = own' ∨ Cond.sameField ref own' nm ds ∈ zx_WS) (hts : ∀ w ∈ zx_WS, w.before args s = true) : ∀ x, s.fieldFound? own' nm ds = some x → s.fieldFound? ref nm ds = some x := by
  rcases h with rfl | h
  · exact fun _ h => h
  · exact fun x hx => u_same (hts _ h) x hx
theorem zx_k7 (F : zx_F lay ro E o cc nL d ret p R s m args meth c) (hok : zx_okB o ret cc pc n (7, a, b, v, as) = true) (hs : zx_stp lay ro n (7, a, b, v, as) (pc, L, st, S) = some (oc, X')) (hc : ∀ q, oc = some q → q) (hz : zx_Z lay E p l e R s m args below meth c nL Qs X') : zx_Z lay E p l e R s m args below meth c nL Qs (pc, L, st, S) := by
  obtain ⟨hx, hb, hml, hown, hts, henv, hlok, hret, hlk, hR⟩ := F
  rcases st with _ | ⟨q0, st⟩
  · simp [zx_stp] at hs
  rcases q0 with _ | _ | _ | _ | _ | q | _ <;> try (simp [zx_stp] at hs; done)
  cases hg : zx_gf lay S as q with
  | none => simp [zx_stp, hg] at hs
  | some w =>
    simp only [zx_stp, hg, Option.some.injEq, Prod.mk.injEq] at hs
    obtain ⟨rfl, rfl⟩ := hs
    simp only [zx_okB, Bool.and_eq_true, decide_eq_true_eq, Bool.or_eq_true, List.all_eq_true] at hok
    obtain ⟨⟨rfl, h1⟩, h2⟩ := hok
    unfold zx_gf at hg
    split at hg
    · rename_i ci ks hlay
      split at hg
      · rename_i k hk
        obtain ⟨C, T, N, ref, g1, g2, g3, g4, g5⟩ := zx_ftab_ok _ (h2 _ (zx_find_mem _ _ _ hk))
        have key : ∀ kd, ks[k]? = some kd → zx_v E.2.1 w = zx_fv E S q k kd → zx_Z lay E p l e R s m args below meth c nL Qs (pc, L, .ref q :: st, S) := by
          intro kd hkd he H locs ls hP hS hl
          refine va_get (D := E.1) (ci := ci) (v := zx_v E.2.1 w) hx hb hts g4 hown henv.1 hP q (zx_w_at hlay) g1 k g2 (hts _ g3) (zx_same g5 hts) ?_ (zx_dd_spec h1) (hz H locs ls hP hS hl)
          simp [List.getElem?_mapIdx, hkd, he]
        split at hg
        · rename_i hkd; cases hg; exact key _ hkd rfl
        · rename_i hkd; cases hg; exact key _ hkd rfl
        · rename_i hkd; cases hg; exact key _ hkd rfl
        · rename_i kd _ _ _ hkd
          split at hg
          · rename_i h100
            cases hg
            exact key _ hkd (by simp [zx_fv, zx_v, h100])
          · rename_i h100
            split at hg
            · rename_i h50
              split at hg
              · rename_i q' hq'
                cases hg
                exact key _ hkd (by simp [zx_fv, zx_v, h100, h50, List.getD_eq_getElem?_getD, hq'])
              · cases hg
            · cases hg
        · cases hg
      · cases hg
    · cases hg
theorem zx_k8 (F : zx_F lay ro E o cc nL d ret p R s m args meth c) (hok : zx_okB o ret cc pc n (8, a, b, v, as) = true) (hs : zx_stp lay ro n (8, a, b, v, as) (pc, L, st, S) = some (oc, X')) (hc : ∀ q, oc = some q → q) (hz : zx_Z lay E p l e R s m args below meth c nL Qs X') : zx_Z lay E p l e R s m args below meth c nL Qs (pc, L, st, S) := by
  obtain ⟨hx, hb, hml, hown, hts, henv, hlok, hret, hlk, hR⟩ := F
  rcases st with _ | ⟨w, _ | ⟨q0, st⟩⟩
  · simp [zx_stp] at hs
  · simp [zx_stp] at hs
  rcases q0 with _ | _ | _ | _ | _ | q | _ <;> try (simp [zx_stp] at hs; done)
  cases hg : zx_pf lay S as q w with
  | none => simp [zx_stp, hg] at hs
  | some r =>
    obtain ⟨oc', S'⟩ := r
    simp only [zx_stp, hg, Option.some.injEq, Prod.mk.injEq] at hs
    obtain ⟨rfl, rfl⟩ := hs
    simp only [zx_okB, Bool.and_eq_true, decide_eq_true_eq, Bool.or_eq_true, List.all_eq_true] at hok
    obtain ⟨⟨rfl, h1⟩, h2⟩ := hok
    unfold zx_pf at hg
    split at hg
    · rename_i ci ks hlay
      split at hg
      · rename_i k hk
        obtain ⟨h3, h4⟩ := h2 _ (zx_find_mem _ _ _ hk)
        obtain ⟨C, T, N, ref, g1, g2, g3, g4, g5⟩ := zx_ftab_ok _ h3
        obtain ⟨C', T', N', ty0, ty, f1, f2, f3, f4, f5, f6⟩ := zx_ptab_ok _ h4
        have hCT : (C, T, N) = (C', T', N') := Option.some.inj (g1.symm.trans f1)
        cases hCT
        have hks := hlok.1 q ci ks hlay
        have hkk : ∀ kd, ks[k]? = some kd → (zx_kd ci)[k]? = some (zx_kt kd) := fun kd h => by rw [← hks, List.getElem?_map, h]; rfl
        obtain ⟨r, D⟩ := S
        have key : ∀ (w' : Value) (S1 : zx_S), k < ks.length → narrow ty w' = w' → fits ty w' = true → (zx_w lay E (r, D)).set q (E.2.1 q, .inr (ci, (ks.mapIdx (fun k kind => zx_fv E (r, D) q k kind)).set k w')) = zx_w lay E S1 → zx_Z lay E p l e R s m args below meth c nL Qs (pc + 3, L, st, S1) → zx_v E.2.1 w = w' → zx_Z lay E p l e R s m args below meth c nL Qs (pc, L, w :: .ref q :: st, r, D) := by
          intro w' S1 hlen hn hf hw hz' he H locs ls hP hS hl
          subst he
          refine va_put (D := E.1) (ci := ci) (v := zx_v E.2.1 w) (ty := ty) hx hb hts g4 ty0 f2 f3 hown henv.1 hP (zx_Dn henv.2.2.2.2) hS q (zx_w_at hlay) g1 k g2 (hts _ g3) (zx_same g5 hts) f4 f5 hn hf (by simpa using hlen) (zx_dd_spec h1) (fun H1 locs1 hP1 _ hS1 => hz' H1 locs1 ls ?_ hS1 hl)
          show va_P E.1 zx_cl (zx_w lay E S1) H1
          rw [← hw]
          exact hP1
        split at hg
        · rename_i x hkd
          cases hg
          have hl' : k < ks.length := (List.getElem?_eq_some_iff.mp hkd).1
          have ht : ty = .int := by rw [hkk _ hkd] at f6; exact f6
          subst ht
          exact key (.int x) _ hl' rfl rfl (zx_put_i hlay hkd (Or.inl rfl)) hz rfl
        · rename_i x hkd
          cases hg
          have hl' : k < ks.length := (List.getElem?_eq_some_iff.mp hkd).1
          have ht : ty = .long := by rw [hkk _ hkd] at f6; exact f6
          subst ht
          exact key (.long x) _ hl' rfl rfl (zx_put_l hlay hkd) hz rfl
        · rename_i x hkd
          cases hg
          have hl' : k < ks.length := (List.getElem?_eq_some_iff.mp hkd).1
          have ht : ty = .boolean := by rw [hkk _ hkd] at f6; exact f6
          subst ht
          have hcx := hc _ rfl
          refine key (.int x) _ hl' ?_ ?_ (zx_put_i hlay hkd (Or.inr rfl)) hz rfl
          · rcases hcx with rfl | rfl <;> decide
          · rcases hcx with rfl | rfl <;> decide
        · rename_i kd x hkd
          split at hg
          · rename_i h5
            cases hg
            have hl' : k < ks.length := (List.getElem?_eq_some_iff.mp hkd).1
            have ht : (∃ c, ty = .object c) ∨ ∃ t, ty = .array t := by rw [hkk _ hkd, show zx_kt kd = 2 by simp [zx_kt, h5.1]] at f6; exact f6
            refine key (.ref (E.2.1 x)) _ hl' ?_ ?_ (zx_put_r hlok.2 hlay hkd h5) hz rfl
            · rcases ht with ⟨_, rfl⟩ | ⟨_, rfl⟩ <;> rfl
            · rcases ht with ⟨_, rfl⟩ | ⟨_, rfl⟩ <;> rfl
          · cases hg
        · cases hg
      · cases hg
    · cases hg
theorem zx_k9 (F : zx_F lay ro E o cc nL d ret p R s m args meth c) (hok : zx_okB o ret cc pc n (9, a, b, v, as) = true) (hs : zx_stp lay ro n (9, a, b, v, as) (pc, L, st, S) = some (oc, X')) (hc : ∀ q, oc = some q → q) (hz : zx_Z lay E p l e R s m args below meth c nL Qs X') : zx_Z lay E p l e R s m args below meth c nL Qs (pc, L, st, S) := by
  obtain ⟨hx, hb, hml, hown, hts, henv, hlok, hret, hlk, hR⟩ := F
  rcases st with _ | ⟨i0, _ | ⟨q0, st⟩⟩
  · simp [zx_stp] at hs
  · cases i0 <;> simp [zx_stp] at hs
  rcases i0 with i | _ | _ | _ | _ | _ | _ <;> try (simp [zx_stp] at hs; done)
  rcases q0 with _ | _ | _ | _ | _ | q | _ <;> try (simp [zx_stp] at hs; done)
  cases hg : zx_ald lay ro S b q i with
  | none => simp [zx_stp, hg] at hs
  | some r =>
    obtain ⟨c', w⟩ := r
    simp only [zx_stp, hg, Option.some.injEq, Prod.mk.injEq] at hs
    obtain ⟨rfl, rfl⟩ := hs
    have hcx := hc _ rfl
    unfold zx_ald at hg
    split at hg
    · rename_i k hlay
      cases hg
      simp only [zx_okB, Bool.and_eq_true, decide_eq_true_eq, Bool.or_eq_true] at hok
      obtain ⟨rfl, h1⟩ := hok
      exact fun H locs ls hP hS hl => va_iald hx hb henv.1 hP q 0 (zx_w_at hlay) rfl hcx (zx_dd_spec h1) (hz H locs ls hP hS hl)
    · rename_i k hlay
      cases hg
      simp only [zx_okB, Bool.and_eq_true, decide_eq_true_eq, Bool.or_eq_true] at hok
      obtain ⟨rfl, h1⟩ := hok
      exact fun H locs ls hP hS hl => va_lald hx hb henv.1 hP q 1 (zx_w_at hlay) rfl hcx (zx_dd_spec h1) (hz H locs ls hP hS hl)
    · split at hg
      · rename_i hq
        cases hg
        subst hq
        simp only [zx_okB, Bool.and_eq_true, decide_eq_true_eq, Bool.or_eq_true] at hok
        obtain ⟨rfl, h1⟩ := hok
        exact fun H locs ls hP hS hl => va_ti hx hb henv.2.2.1 hS hcx rfl (zx_dd_spec h1) (hz H locs ls hP hS hl)
      · cases hg
    · cases hg
theorem zx_k10 (F : zx_F lay ro E o cc nL d ret p R s m args meth c) (hok : zx_okB o ret cc pc n (10, a, b, v, as) = true) (hs : zx_stp lay ro n (10, a, b, v, as) (pc, L, st, S) = some (oc, X')) (hc : ∀ q, oc = some q → q) (hz : zx_Z lay E p l e R s m args below meth c nL Qs X') : zx_Z lay E p l e R s m args below meth c nL Qs (pc, L, st, S) := by
  obtain ⟨hx, hb, hml, hown, hts, henv, hlok, hret, hlk, hR⟩ := F
  rcases st with _ | ⟨w, _ | ⟨i0, _ | ⟨q0, st⟩⟩⟩
  · simp [zx_stp] at hs
  · simp [zx_stp] at hs
  · cases i0 <;> simp [zx_stp] at hs
  rcases i0 with i | _ | _ | _ | _ | _ | _ <;> try (simp [zx_stp] at hs; done)
  rcases q0 with _ | _ | _ | _ | _ | q | _ <;> try (simp [zx_stp] at hs; done)
  cases hg : zx_ast lay S b q i w with
  | none => simp [zx_stp, hg] at hs
  | some r =>
    obtain ⟨c', S'⟩ := r
    simp only [zx_stp, hg, Option.some.injEq, Prod.mk.injEq] at hs
    obtain ⟨rfl, rfl⟩ := hs
    have hcx := hc _ rfl
    unfold zx_ast at hg
    split at hg
    · rename_i k x hlay
      cases hg
      simp only [zx_okB, Bool.and_eq_true, decide_eq_true_eq, Bool.or_eq_true] at hok
      obtain ⟨rfl, h1⟩ := hok
      refine fun H locs ls hP hS hl => va_iast hx hb henv.1 hP (zx_Dn henv.2.2.2.2) hS q 0 (zx_w_at hlay) rfl hcx (zx_dd_spec h1) (fun H1 locs1 hP1 _ hS1 => hz H1 locs1 ls ?_ hS1 hl)
      obtain ⟨r, D⟩ := S
      show va_P E.1 zx_cl (zx_w lay E (r, zp_i D q (zn i) x)) H1
      rw [← zx_put_ai hlay]
      exact hP1
    · rename_i k x hlay
      cases hg
      simp only [zx_okB, Bool.and_eq_true, decide_eq_true_eq, Bool.or_eq_true] at hok
      obtain ⟨rfl, h1⟩ := hok
      refine fun H locs ls hP hS hl => va_last hx hb henv.1 hP (zx_Dn henv.2.2.2.2) hS q 1 (zx_w_at hlay) rfl hcx (zx_dd_spec h1) (fun H1 locs1 hP1 _ hS1 => hz H1 locs1 ls ?_ hS1 hl)
      obtain ⟨r, D⟩ := S
      show va_P E.1 zx_cl (zx_w lay E (r, zp_l D q (zn i) x)) H1
      rw [← zx_put_al hlay]
      exact hP1
    · cases hg
theorem zx_k11 (F : zx_F lay ro E o cc nL d ret p R s m args meth c) (hok : zx_okB o ret cc pc n (11, a, b, v, as) = true) (hs : zx_stp lay ro n (11, a, b, v, as) (pc, L, st, S) = some (oc, X')) (hc : ∀ q, oc = some q → q) (hz : zx_Z lay E p l e R s m args below meth c nL Qs X') : zx_Z lay E p l e R s m args below meth c nL Qs (pc, L, st, S) := by
  obtain ⟨hx, hb, hml, hown, hts, henv, hlok, hret, hlk, hR⟩ := F
  rcases st with _ | ⟨q0, st⟩
  · simp [zx_stp] at hs
  rcases q0 with _ | _ | _ | _ | _ | q | _ <;> try (simp [zx_stp] at hs; done)
  cases hg : zx_aln lay ro q with
  | none => simp [zx_stp, hg] at hs
  | some x =>
    simp only [zx_stp, hg, Option.some.injEq, Prod.mk.injEq] at hs
    obtain ⟨rfl, rfl⟩ := hs
    simp only [zx_okB, Bool.and_eq_true, decide_eq_true_eq, Bool.or_eq_true] at hok
    obtain ⟨rfl, h1⟩ := hok
    unfold zx_aln at hg
    split at hg
    · rename_i k bb hlay
      cases hg
      cases bb
      · exact fun H locs ls hP hS hl => va_alen hx hb henv.1 hP q 0 (zx_w_at hlay) rfl rfl (zx_dd_spec h1) (hz H locs ls hP hS hl)
      · exact fun H locs ls hP hS hl => va_alen hx hb henv.1 hP q 1 (zx_w_at hlay) rfl rfl (zx_dd_spec h1) (hz H locs ls hP hS hl)
    · cases hg
    · split at hg
      · rename_i hq
        cases hg
        subst hq
        exact fun H locs ls hP hS hl => va_tlen hx hb henv.2.2.1 hS rfl (zx_dd_spec h1) (hz H locs ls hP hS hl)
      · cases hg
theorem zx_k12 (F : zx_F lay ro E o cc nL d ret p R s m args meth c) (hok : zx_okB o ret cc pc n (12, a, b, v, as) = true) (hs : zx_stp lay ro n (12, a, b, v, as) (pc, L, st, S) = some (oc, X')) (hc : ∀ q, oc = some q → q) (hz : zx_Z lay E p l e R s m args below meth c nL Qs X') : zx_Z lay E p l e R s m args below meth c nL Qs (pc, L, st, S) := by
  obtain ⟨hx, hb, hml, hown, hts, henv, hlok, hret, hlk, hR⟩ := F
  simp only [zx_stp] at hs
  simp only [zx_okB, Bool.and_eq_true, decide_eq_true_eq, Bool.or_eq_true] at hok
  obtain ⟨rfl, h1⟩ := hok
  split at hs
  · simp only [Option.some.injEq, Prod.mk.injEq] at hs
    obtain ⟨rfl, rfl⟩ := hs
    exact fun H locs ls hP hS hl => lv_dup hx hb (zx_dd_spec h1) rfl (hz H locs ls hP hS hl)
  · simp only [Option.some.injEq, Prod.mk.injEq] at hs
    obtain ⟨rfl, rfl⟩ := hs
    exact fun H locs ls hP hS hl => lv_dup hx hb (zx_dd_spec h1) rfl (hz H locs ls hP hS hl)
  · cases hs
theorem zx_k13 (F : zx_F lay ro E o cc nL d ret p R s m args meth c) (hok : zx_okB o ret cc pc n (13, a, b, v, as) = true) (hs : zx_stp lay ro n (13, a, b, v, as) (pc, L, st, S) = some (oc, X')) (hc : ∀ q, oc = some q → q) (hz : zx_Z lay E p l e R s m args below meth c nL Qs X') : zx_Z lay E p l e R s m args below meth c nL Qs (pc, L, st, S) := by
  obtain ⟨hx, hb, hml, hown, hts, henv, hlok, hret, hlk, hR⟩ := F
  simp only [zx_stp] at hs
  simp only [zx_okB, Bool.and_eq_true, decide_eq_true_eq, Bool.or_eq_true] at hok
  obtain ⟨rfl, h1⟩ := hok
  split at hs
  · simp only [Option.some.injEq, Prod.mk.injEq] at hs
    obtain ⟨rfl, rfl⟩ := hs
    exact fun H locs ls hP hS hl => lv_dup2_11 hx hb (zx_dd_spec h1) rfl rfl (hz H locs ls hP hS hl)
  · cases hs
theorem zx_k14 (F : zx_F lay ro E o cc nL d ret p R s m args meth c) (hok : zx_okB o ret cc pc n (14, a, b, v, as) = true) (hs : zx_stp lay ro n (14, a, b, v, as) (pc, L, st, S) = some (oc, X')) (hc : ∀ q, oc = some q → q) (hz : zx_Z lay E p l e R s m args below meth c nL Qs X') : zx_Z lay E p l e R s m args below meth c nL Qs (pc, L, st, S) := by
  obtain ⟨hx, hb, hml, hown, hts, henv, hlok, hret, hlk, hR⟩ := F
  simp only [zx_stp, Option.some.injEq, Prod.mk.injEq] at hs
  obtain ⟨rfl, rfl⟩ := hs
  simp only [zx_okB, Bool.and_eq_true, decide_eq_true_eq, Bool.or_eq_true] at hok
  obtain ⟨⟨rfl, h1⟩, h2⟩ := hok
  obtain ⟨ref, host, g1, g2⟩ := zx_stab_ok _ h2
  subst g2
  exact fun H locs ls hP hS hl => va_getsN hx hb henv.2.1 hS hown (va_Nw.use rfl (henv.2.2.2.1 _ g1)) (fun _ h => h) (zx_dd_spec h1) (hz H locs ls hP hS hl)
theorem zx_k15 (F : zx_F lay ro E o cc nL d ret p R s m args meth c) (hok : zx_okB o ret cc pc n (15, a, b, v, as) = true) (hs : zx_stp lay ro n (15, a, b, v, as) (pc, L, st, S) = some (oc, X')) (hc : ∀ q, oc = some q → q) (hz : zx_Z lay E p l e R s m args below meth c nL Qs X') : zx_Z lay E p l e R s m args below meth c nL Qs (pc, L, st, S) := by
  obtain ⟨hx, hb, hml, hown, hts, henv, hlok, hret, hlk, hR⟩ := F
  subst hR
  simp only [zx_stp] at hs
  split at hs
  · split at hs
    · rename_i hw
      simp only [Option.some.injEq, Prod.mk.injEq] at hs
      obtain ⟨rfl, rfl⟩ := hs
      simp only [zx_okB, Bool.and_eq_true, decide_eq_true_eq, Bool.or_eq_true] at hok
      obtain ⟨⟨rfl, h1⟩, h2⟩ := hok
      obtain ⟨g1, g2, g3, g4⟩ := zx_mintab_ok _ h2
      exact fun H locs ls hP hS hl => va_mmin hx hb (by rw [hml, hl.1]) hown (hts _ g1) (hts _ g2) (hts _ g3) (hts _ g4) (by simp [zx_rm]) (by rw [zx_wd_sum]; simp only [zx_rm]; omega) (by simp [zx_rm]) (by simp [zx_rm]) (zx_dd_spec h1) (hz H locs ls hP hS hl)
    · cases hs
  · split at hs
    · rename_i hw
      simp only [Option.some.injEq, Prod.mk.injEq] at hs
      obtain ⟨rfl, rfl⟩ := hs
      simp only [zx_okB, Bool.and_eq_true, decide_eq_true_eq, Bool.or_eq_true] at hok
      obtain ⟨⟨rfl, h1⟩, h2⟩ := hok
      obtain ⟨g1, g2, g3, g4⟩ := zx_maxtab_ok _ h2
      exact fun H locs ls hP hS hl => va_mmax hx hb (by rw [hml, hl.1]) hown (hts _ g1) (hts _ g2) (hts _ g3) (hts _ g4) (by simp [zx_rm]) (by rw [zx_wd_sum]; simp only [zx_rm]; omega) (by simp [zx_rm]) (by simp [zx_rm]) (zx_dd_spec h1) (hz H locs ls hP hS hl)
    · cases hs
  · cases hs
theorem zx_k16 (F : zx_F lay ro E o cc nL d ret p R s m args meth c) (hok : zx_okB o ret cc pc n (16, a, b, v, as) = true) (hs : zx_stp lay ro n (16, a, b, v, as) (pc, L, st, S) = some (oc, X')) (hc : ∀ q, oc = some q → q) (hz : zx_Z lay E p l e R s m args below meth c nL Qs X') : zx_Z lay E p l e R s m args below meth c nL Qs (pc, L, st, S) := by
  obtain ⟨hx, hb, hml, hown, hts, henv, hlok, hret, hlk, hR⟩ := F
  subst hR
  simp only [zx_stp] at hs
  split at hs
  · rename_i k dp q sp r st'
    split at hs
    · rename_i n0 n1 hl0 hl1
      split at hs
      · rename_i hw
        simp only [Option.some.injEq, Prod.mk.injEq] at hs
        obtain ⟨rfl, rfl⟩ := hs
        simp only [zx_okB, Bool.and_eq_true, decide_eq_true_eq, Bool.or_eq_true] at hok
        obtain ⟨⟨rfl, h1⟩, h2⟩ := hok
        obtain ⟨g1, g2, g3, g4⟩ := zx_cpytab_ok _ h2
        obtain ⟨c1, c2, c3, c4, c5⟩ := hc _ rfl
        refine fun H locs ls hP hS hl => va_copyi hx hb (by rw [hml, hl.1]) hown (hts _ g1) (hts _ g2) (hts _ g3) (hts _ g4) henv.1 hP (zx_Dn henv.2.2.2.2) hS r q 0 0 (ty := .int) (zx_w_at hl0) (zx_w_at hl1) rfl rfl rfl c1 c2 c3 c4 c5 (fun _ _ => rfl) (by simp [zx_rm]) (by rw [zx_wd_sum]; simp only [zx_rm]; have : nativeFrameWords "java/lang/System" "arraycopy" 5 ≤ 20 := (by decide +kernel); omega) (zx_dd_spec h1) (fun H1 locs1 hP1 _ hS1 => hz H1 locs1 ls ?_ hS1 hl)
        obtain ⟨r0, D⟩ := S
        show va_P E.1 zx_cl (zx_w lay E (r0, zp_a D q (va_cpy (D.1 r) (D.1 q) (zn sp) (zn dp) (zn k)))) H1
        rw [← zx_put_aa hl1]
        exact hP1
      · cases hs
    · cases hs
  · cases hs
theorem zx_kAll (F : zx_F lay ro E o cc nL d ret p R s m args meth c) {I : zx_I} {X : zx_X} (hok : zx_okB o ret cc X.1 n I = true) (hs : zx_stp lay ro n I X = some (oc, X')) (hc : ∀ q, oc = some q → q) (hz : zx_Z lay E p l e R s m args below meth c nL Qs X') : zx_Z lay E p l e R s m args below meth c nL Qs X := by
  obtain ⟨op, a, b, v, as⟩ := I
  obtain ⟨pc, L, st, S⟩ := X
  match op, hok, hs with
  | 0, hok, hs => exact zx_k0 F hok hs hc hz
  | 1, hok, hs => exact zx_k1 F hok hs hc hz
  | 2, hok, hs => exact zx_k2 F hok hs hc hz
  | 3, hok, hs => exact zx_k3 F hok hs hc hz
  | 4, hok, hs => exact zx_k4 F hok hs hc hz
  | 5, hok, hs => exact zx_k5 F hok hs hc hz
  | 6, hok, hs => exact zx_k6 F hok hs hc hz
  | 7, hok, hs => exact zx_k7 F hok hs hc hz
  | 8, hok, hs => exact zx_k8 F hok hs hc hz
  | 9, hok, hs => exact zx_k9 F hok hs hc hz
  | 10, hok, hs => exact zx_k10 F hok hs hc hz
  | 11, hok, hs => exact zx_k11 F hok hs hc hz
  | 12, hok, hs => exact zx_k12 F hok hs hc hz
  | 13, hok, hs => exact zx_k13 F hok hs hc hz
  | 14, hok, hs => exact zx_k14 F hok hs hc hz
  | 15, hok, hs => exact zx_k15 F hok hs hc hz
  | 16, hok, hs => exact zx_k16 F hok hs hc hz
  | k + 17, hok, hs => simp [zx_stp] at hs
end ZX
end
section
/-! Forks, calls, ends; a method's contract out of its pure run -/
theorem zx_env.moved {lay : List zx_C} {ro : Nat × (Nat → Int32)} {E : zx_E} {s U : State} {H H1 : Heap} (h : zx_env lay ro E s H) (hW : s.WarmedH U.vm) (hq : ∀ a : Nat, a < H.size → ¬ zx_A lay E a → H1[a]? = H[a]?) : zx_env lay ro E U H1 :=
  ⟨va_K.moved hW.alike h.1, va_Z.moved hW.alike (h.2.1.kept hq), va_T.moved hW.alike (h.2.2.1.kept hq), zx_NW_moved hW h.2.2.2.1, h.2.2.2.2⟩
abbrev zx_Y : Type := MethodName × Nat × ByteArray × Nat × Option FieldType
def zx_cd (y : zx_Y) : Cond := .code y.1 y.2.2.1 y.2.2.2.1 y.2.2.2.2
def zx_ws (y : zx_Y) : List Cond := zx_cd y :: zx_WS
def zx_Q (lay : List zx_C) (E : zx_E) (Q : Option Value → zx_S → Prop) : Array Value → State → Outcome → State → Prop := fun _ st oc t => (∃ (r : Option Value) (S' : zx_S), oc = .returned (r.map (zx_v E.2.1)) ∧ Q r S' ∧ va_P E.1 zx_cl (zx_w lay E S') t.heap) ∧ va_F (zx_A lay E) st t
def zx_Pc (lay : List zx_C) (ro : Nat × (Nat → Int32)) (E : zx_E) (av : List Value) (S : zx_S) : Array Value → State → Prop := va_Pc (av.map (zx_v E.2.1)) (fun U => va_P E.1 zx_cl (zx_w lay E S) U.heap ∧ zx_env lay ro E U U.heap)
theorem zx_blind {lay : List zx_C} {ro : Nat × (Nat → Int32)} {E : zx_E} {av : List Value} {S : zx_S} : FrameBlind (zx_Pc lay ro E av S) := by
  intro a U g mk q
  obtain ⟨q0, qP, q1, q2, q3, q4, q5⟩ := q
  exact ⟨q0, qP, va_K.moved (u := U) (U := U.calling g mk a) (Vm.Alike.refl U.vm) q1, va_Z.moved (u := U) (U := U.calling g mk a) (Vm.Alike.refl U.vm) q2, va_T.moved (u := U) (U := U.calling g mk a) (Vm.Alike.refl U.vm) q3, fun w hw => va_Nw.same (zx_NW_tab w hw) (u := U) (U := U.calling g mk a) rfl (q4 w hw), q5⟩
/-- the contract: method number k, calls at most d deep, given av in the state S, comes back with Q -/
def zx_Met (mt : List zx_Y) (lay : List zx_C) (ro : Nat × (Nat → Int32)) (l : Launch) (E : zx_E) (k d : Nat) (av : List Value) (S : zx_S) (Q : Option Value → zx_S → Prop) : Prop :=
  ∃ y, mt[k]? = some y ∧ Met l y.1 (zx_ws y) (zx_rm d) (zx_Pc lay ro E av S) (zx_Q lay E Q) 0 0 (zx_A lay E)
theorem zx_gin {ws : List Cond} (h : ∀ w ∈ ws, w ∈ zx_WS) : GoodIn zx_WS ws := fun w hw => ⟨h w hw, zx_good w (h w hw)⟩
abbrev zx_noMH (s : String) : Prop := s ≠ "java/lang/invoke/MethodHandle" ∧ s ≠ "java/lang/invoke/VarHandle"
abbrev zx_na (x : MethodName) (n : Nat) : Prop := (parseMethodDescriptor x.desc).map (fun d => d.parameters.length) = some n
def zx_vOK (mt : List zx_Y) (o idx n ci k : Nat) : Prop := ∃ (C : String) (T : u_T) (N : Nat) (y : zx_Y), zx_cl[ci]? = some (C, T, N) ∧ mt[k]? = some y ∧ y.2.2.2.1 ≤ 21 ∧ zx_cd y ∈ zx_WS ∧
  ((y.1.cls = C ∧ zx_noMH y.1.cls ∧ zx_na y.1 n ∧ Cond.methodLink (zx_on o) idx y.1 ∈ zx_WS ∧ Cond.instanceMethod y.1 ∈ zx_WS ∧ Cond.selects C y.1 y.1 ∈ zx_WS ∧ Cond.initialized C ∈ zx_WS) ∨
   (∃ (owner : String) (x : MethodName), zx_noMH owner ∧ zx_na x n ∧ Cond.methodLink (zx_on o) idx x ∈ zx_WS ∧ Cond.sameMethod x.cls owner x.name x.desc ∈ zx_WS ∧ Cond.selects C x y.1 ∈ zx_WS ∧ Cond.instanceMethod y.1 ∈ zx_WS ∧ Cond.initialized y.1.cls ∈ zx_WS ∧ (y.1 = ⟨owner, x.name, x.desc⟩ ∨ Cond.declares ⟨owner, x.name, x.desc⟩ ∈ zx_NW)))
def zx_sOK (mt : List zx_Y) (o idx n k : Nat) : Prop := ∃ y : zx_Y, mt[k]? = some y ∧ y.2.2.2.1 ≤ 21 ∧ zx_cd y ∈ zx_WS ∧ zx_noMH y.1.cls ∧ zx_na y.1 n ∧ Cond.static y.1 ∈ zx_WS ∧ Cond.initialized y.1.cls ∈ zx_WS ∧
  (Cond.methodLink (zx_on o) idx y.1 ∈ zx_WS ∨ ∃ host : String, Cond.methodLinkNest (zx_on o) idx y.1 host ∈ zx_NW)
section ZX
variable {p : Program} {l : Launch} {e : Env} {R : Room} {s : State} {m : MethodId} {args : Array Value} {below : List Frame} {meth : Method} {c : Code} {Qs : State → Prop}
variable {lay : List zx_C} {ro : Nat × (Nat → Int32)} {E : zx_E} {o : Nat} {cc : ByteArray} {nL d : Nat} {ret : Option FieldType} {mt : List zx_Y}
theorem zx_kbr (F : zx_F lay ro E o cc nL d ret p R s m args meth c) {n : Nat} {I : zx_I} {X X1 X2 : zx_X} {q : Prop} (hok : zx_okB o ret cc X.1 n I = true) (hs : zx_brn n I X = some (q, X1, X2)) (k1 : q → zx_Z lay E p l e R s m args below meth c nL Qs X1) (k2 : ¬ q → zx_Z lay E p l e R s m args below meth c nL Qs X2) : zx_Z lay E p l e R s m args below meth c nL Qs X := by
  obtain ⟨hx, hb, hml, hown, hts, henv, hlok, hret, hlk, hR⟩ := F
  obtain ⟨op, a, b, v, as⟩ := I
  obtain ⟨pc, L, st, S⟩ := X
  simp only [zx_brn] at hs
  split at hs
  · simp only [Option.some.injEq, Prod.mk.injEq] at hs
    obtain ⟨rfl, rfl, rfl⟩ := hs
    simp only [zx_okB, Bool.and_eq_true, decide_eq_true_eq] at hok
    obtain ⟨rfl, h1⟩ := hok
    have h2 := zx_dd_spec h1
    intro H locs ls hP hS hl
    match b, h2, k1, k2 with
    | 0, h2, k1, k2 => exact lv_icmp_eq hx hb h2 (by omega) (fun h => k1 h H locs ls hP hS hl) (fun h => k2 h H locs ls hP hS hl)
    | 1, h2, k1, k2 => exact lv_icmp_ne hx hb h2 (by omega) (fun h => k1 h H locs ls hP hS hl) (fun h => k2 (fun q => q h) H locs ls hP hS hl)
    | 2, h2, k1, k2 => exact lv_icmp_lt hx hb h2 (by omega) (fun h => k1 h H locs ls hP hS hl) (fun h => k2 h H locs ls hP hS hl)
    | 3, h2, k1, k2 => exact lv_icmp_ge hx hb h2 (by omega) (fun h => k1 h H locs ls hP hS hl) (fun h => k2 h H locs ls hP hS hl)
    | 4, h2, k1, k2 => exact lv_icmp_gt hx hb h2 (by omega) (fun h => k1 h H locs ls hP hS hl) (fun h => k2 h H locs ls hP hS hl)
    | _ + 5, h2, k1, k2 => exact lv_icmp_le hx hb h2 (by omega) (fun h => k1 h H locs ls hP hS hl) (fun h => k2 h H locs ls hP hS hl)
  · simp only [Option.some.injEq, Prod.mk.injEq] at hs
    obtain ⟨rfl, rfl, rfl⟩ := hs
    simp only [zx_okB, Bool.and_eq_true, decide_eq_true_eq] at hok
    obtain ⟨rfl, h1⟩ := hok
    have h2 := zx_dd_spec h1
    intro H locs ls hP hS hl
    match b, h2, k1, k2 with
    | 0, h2, k1, k2 => exact lv_if_eq hx hb h2 (by omega) (fun h => k1 h H locs ls hP hS hl) (fun h => k2 h H locs ls hP hS hl)
    | 1, h2, k1, k2 => exact lv_if_ne hx hb h2 (by omega) (fun h => k1 h H locs ls hP hS hl) (fun h => k2 (fun q => q h) H locs ls hP hS hl)
    | 2, h2, k1, k2 => exact lv_if_lt hx hb h2 (by omega) (fun h => k1 h H locs ls hP hS hl) (fun h => k2 h H locs ls hP hS hl)
    | 3, h2, k1, k2 => exact lv_if_ge hx hb h2 (by omega) (fun h => k1 h H locs ls hP hS hl) (fun h => k2 h H locs ls hP hS hl)
    | 4, h2, k1, k2 => exact lv_if_gt hx hb h2 (by omega) (fun h => k1 h H locs ls hP hS hl) (fun h => k2 h H locs ls hP hS hl)
    | _ + 5, h2, k1, k2 => exact lv_if_le hx hb h2 (by omega) (fun h => k1 h H locs ls hP hS hl) (fun h => k2 h H locs ls hP hS hl)
  · rename_i y x st'
    simp only [Option.some.injEq, Prod.mk.injEq] at hs
    obtain ⟨rfl, rfl, rfl⟩ := hs
    simp only [zx_okB, Bool.and_eq_true, decide_eq_true_eq] at hok
    obtain ⟨⟨rfl, h1⟩, h3⟩ := hok
    have h2 := zx_dd_spec h3
    intro H locs ls hP hS hl
    refine W.lcmp hx hb (zx_dd_spec h1) ?_
    match b, h2, k1, k2 with
    | 0, h2, k1, k2 => exact lv_if_eq hx hb h2 (by omega) (fun h => k1 ((lg_cmp_eq x y).mp h) H locs ls hP hS hl) (fun h => k2 (fun q => h ((lg_cmp_eq x y).mpr q)) H locs ls hP hS hl)
    | 1, h2, k1, k2 => exact lv_if_ne hx hb h2 (by omega) (fun h => k1 (fun q => h ((lg_cmp_eq x y).mpr q)) H locs ls hP hS hl) (fun h => k2 (fun q => q ((lg_cmp_eq x y).mp h)) H locs ls hP hS hl)
    | 2, h2, k1, k2 => exact lv_if_lt hx hb h2 (by omega) (fun h => k1 ((lg_cmp_lt x y).mp h) H locs ls hP hS hl) (fun h => k2 (fun q => h ((lg_cmp_lt x y).mpr q)) H locs ls hP hS hl)
    | 3, h2, k1, k2 => exact lv_if_ge hx hb h2 (by omega) (fun h => k1 ((lg_cmp_ge x y).mp h) H locs ls hP hS hl) (fun h => k2 (fun q => h ((lg_cmp_ge x y).mpr q)) H locs ls hP hS hl)
    | 4, h2, k1, k2 => exact lv_if_gt hx hb h2 (by omega) (fun h => k1 ((lg_cmp_gt x y).mp h) H locs ls hP hS hl) (fun h => k2 (fun q => h ((lg_cmp_gt x y).mpr q)) H locs ls hP hS hl)
    | _ + 5, h2, k1, k2 => exact lv_if_le hx hb h2 (by omega) (fun h => k1 ((lg_cmp_le x y).mp h) H locs ls hP hS hl) (fun h => k2 (fun q => h ((lg_cmp_le x y).mpr q)) H locs ls hP hS hl)
  · cases hs
theorem zx_kret (F : zx_F lay ro E o cc nL d ret p R s m args meth c) {n : Nat} {I : zx_I} {X : zx_X} {q : Prop} {r : Option Value} {Q : Option Value → zx_S → Prop} (hok : zx_okB o ret cc X.1 n I = true) (hs : zx_rtn I X = some (q, r)) (hq : q) (hQ : Q r X.2.2.2) : zx_Z lay E p l e R s m args below meth c nL (MQ below (zx_Q lay E Q) args s 0 0 (zx_A lay E)) X := by
  obtain ⟨hx, hb, hml, hown, hts, henv, hlok, hret, hlk, hR⟩ := F
  obtain ⟨op, a, b, v, as⟩ := I
  obtain ⟨pc, L, st, S⟩ := X
  have key : ∀ (H : Heap) (locs : List Loc), va_P E.1 zx_cl (zx_w lay E S) H → va_S (zx_A lay E) s.heap H locs → ∀ t : State, t.heap = H → zx_Q lay E Q args s (.returned (r.map (zx_v E.2.1))) t :=
    fun H locs hP hS t ht => ⟨⟨r, S, rfl, hQ, by rw [ht]; exact hP⟩, hS.F ht⟩
  simp only [zx_rtn] at hs
  split at hs
  · simp only [Option.some.injEq, Prod.mk.injEq] at hs
    obtain ⟨rfl, rfl⟩ := hs
    simp only [zx_okB, Bool.and_eq_true, decide_eq_true_eq] at hok
    exact fun H locs ls hP hS hl => W.vret hx hb (hret.trans hok.2) (fun t ht _ => key H locs hP hS t ht) hS.2.2 (zx_dd_spec hok.1) hlk
  · simp only [Option.some.injEq, Prod.mk.injEq] at hs
    obtain ⟨rfl, rfl⟩ := hs
    simp only [zx_okB, Bool.and_eq_true, decide_eq_true_eq] at hok
    exact fun H locs ls hP hS hl => W.iret hx hb (hret.trans hok.2) (fun t ht _ => key H locs hP hS t ht) hS.2.2 (zx_dd_spec hok.1) hlk
  · simp only [Option.some.injEq, Prod.mk.injEq] at hs
    obtain ⟨rfl, rfl⟩ := hs
    simp only [zx_okB, Bool.and_eq_true, decide_eq_true_eq] at hok
    exact fun H locs ls hP hS hl => W.lret hx hb (hret.trans hok.2) (fun t ht _ => key H locs hP hS t ht) hS.2.2 (zx_dd_spec hok.1) hlk
  · simp only [Option.some.injEq, Prod.mk.injEq] at hs
    obtain ⟨rfl, rfl⟩ := hs
    simp only [zx_okB, Bool.and_eq_true] at hok
    obtain ⟨h1, h2⟩ := hok
    split at h2
    · rename_i nm
      exact fun H locs ls hP hS hl => W.aret hx hb hret (Or.inl ⟨_, rfl⟩) (Or.inr ⟨_, rfl⟩) (fun t ht _ => key H locs hP hS t ht) hS.2.2 (zx_dd_spec h1) hlk
    · cases h2
  · simp only [Option.some.injEq, Prod.mk.injEq] at hs
    obtain ⟨rfl, rfl⟩ := hs
    simp only [zx_okB, Bool.and_eq_true, decide_eq_true_eq] at hok
    exact fun H locs ls hP hS hl => W.zret hx hb (hret.trans hok.2) (by rcases hq with rfl | rfl <;> decide) (fun t ht _ => key H locs hP hS t ht) hS.2.2 (zx_dd_spec hok.1) hlk
  · cases hs
theorem zx_cont {H : Heap} {locs : List Loc} {pc : Nat} {ls : Array Slot} {st0 rest : List Value} {a : Array Value} {Q' : Option Value → zx_S → Prop} (hr : va_Run p l e R s m args below meth c H locs 0 0 0 0 (F0 m pc ls st0) rest (zx_Q lay E Q' a) (zx_A lay E)) (hS : va_S (zx_A lay E) s.heap H locs)
    (kk : ∀ (r : Option Value) (S' : zx_S) (H1 : Heap) (locs1 : List Loc), Q' r S' → va_P E.1 zx_cl (zx_w lay E S') H1 → va_S (zx_A lay E) s.heap H1 locs1 → W p l e R s m args below meth c H1 locs1 0 0 Qs (F0 m (pc + 3) ls ((r.map (zx_v E.2.1)).toList ++ rest))) : W p l e R s m args below meth c H locs 0 0 Qs (F0 m pc ls st0) := by
  intro T hT X
  obtain ⟨v, st₀, t, T', L, h0, X', hL, e1, e2, ⟨⟨r, S', hv, hq, hp⟩, hz, hk⟩, st⟩ := hr T hT X
  cases hv
  rw [h0] at hz hk
  obtain ⟨t2, a1, b1⟩ := kk r S' T'.heap (locs ++ L) hq (by rw [e1]; exact hp)
    ⟨Nat.le_trans hS.1 (by rw [e1]; exact hz), fun q h1 h2 => by rw [e1, hk q (Nat.lt_of_lt_of_le h1 hS.1) h2]; exact hS.2.1 q h1 h2, fun q hq => by
      rcases List.mem_append.mp hq with h | h
      · exact hS.2.2 q h
      · exact hL q h⟩ T' rfl X'
  exact ⟨t2, st t2 a1, b1⟩
theorem zx_env.at (henv : zx_env lay ro E s s.heap) {H : Heap} {locs : List Loc} (hS : va_S (zx_A lay E) s.heap H locs) {U : State} (hU : U.heap = H) (hW : s.WarmedH U.vm) : zx_env lay ro E U U.heap :=
  henv.moved hW (fun a h1 h2 => by rw [hU]; exact hS.2.1 a h1 h2)
theorem zx_map_split (f : Value → Value) (st : List Value) (b : Nat) : st.map f = (((st.take b).reverse).map f).reverse ++ (st.drop b).map f := by
  rw [← List.map_reverse, List.reverse_reverse, ← List.map_append, List.take_append_drop]
theorem zx_kcal (F : zx_F lay ro E o cc nL d ret p R s m args meth c) (hvt : ∀ q ∈ zx_vtab, zx_vOK mt q.1 q.2.1 q.2.2.1 q.2.2.2.1 q.2.2.2.2) (hst : ∀ q ∈ zx_stab2, zx_sOK mt q.1 q.2.1 q.2.2.1 q.2.2.2.2) {n k dd : Nat} {I : zx_I} {X X1 : zx_X} {av : List Value} {Q' : Option Value → zx_S → Prop} (hok : zx_okB o ret cc X.1 n I = true) (hs : zx_cal lay n I X = some (k, av, X1)) (hd : dd < d) (hM : zx_Met mt lay ro l E k dd av X.2.2.2 Q')
    (hz : ∀ (r : Option Value) (S' : zx_S), Q' r S' → zx_Z lay E p l e R s m args below meth c nL Qs (X1.1, X1.2.1, r.toList ++ X1.2.2.1, S')) : zx_Z lay E p l e R s m args below meth c nL Qs X := by
  obtain ⟨hx, hb, hml, hown, hts, henv, hlok, hret, hlk, hR⟩ := F
  subst hR
  obtain ⟨op, a, b, v, as⟩ := I
  obtain ⟨pc, L, st, S⟩ := X
  obtain ⟨y, hy, hM⟩ := hM
  have hroom : ∀ mL, mL ≤ 21 → (zx_rm dd).frames + 1 ≤ (zx_rm d).frames ∧ 8 + (mL + 11) + (zx_rm dd).locals ≤ (zx_rm d).locals := by
    intro mL h
    simp only [zx_rm]
    omega
  have htl : ∀ (r : Option Value) (rest : List Value), (r.map (zx_v E.2.1)).toList ++ rest.map (zx_v E.2.1) = (r.toList ++ rest).map (zx_v E.2.1) := by
    intro r rest
    cases r <;> rfl
  simp only [zx_cal] at hs
  split at hs
  · split at hs
    · rename_i q rest hdrop
      split at hs
      · rename_i ci ks hlay
        split at hs
        · rename_i k' hk
          split at hs
          · rename_i hw
            simp only [Option.some.injEq, Prod.mk.injEq] at hs
            obtain ⟨rfl, rfl, rfl⟩ := hs
            simp only [zx_okB, Bool.and_eq_true, decide_eq_true_eq, List.all_eq_true] at hok
            obtain ⟨⟨rfl, h1⟩, h2⟩ := hok
            obtain ⟨C, T, N, y', g1, g2, g3, g4, g5⟩ := hvt _ (h2 _ (zx_find_mem _ _ _ hk))
            have hyy : y = y' := Option.some.inj (hy.symm.trans g2)
            subst hyy
            intro H locs ls hP hS hl
            have hpre : PreV s H C (E.2.1 q) (zx_Pc lay ro E (.ref q :: (st.take b).reverse) S) (((st.take b).reverse).map (zx_v E.2.1)) := ⟨zx_blind, va_recv henv.1 hP g1 (zx_w_at hlay), fun U hU hW => ⟨rfl, by rw [hU]; exact hP, henv.at hS hU hW⟩⟩
            have hlen : b ≤ st.length := by
              rcases Nat.lt_or_ge st.length b with h | h
              · rw [List.drop_eq_nil_of_le (Nat.le_of_lt h)] at hdrop
                cases hdrop
              · exact h
            have hn : (((st.take b).reverse).map (zx_v E.2.1)).length = b := by simp; omega
            have hstk : st.map (zx_v E.2.1) = (((st.take b).reverse).map (zx_v E.2.1)).reverse ++ .ref (E.2.1 q) :: rest.map (zx_v E.2.1) := by
              rw [zx_map_split (zx_v E.2.1) st b, hdrop]
              rfl
            have hwd : 2 * (F0 m pc ls (st.map (zx_v E.2.1))).monitorRoom + ((rest.map (zx_v E.2.1)).map fun v => v.category).sum ≤ 8 := lv_room (by rw [zx_wd_sum]; exact hw)
            have hgi : ∀ w ∈ zx_ws y, w ∈ zx_WS := fun w hw => by
              rcases List.mem_cons.mp hw with rfl | hw
              · exact g4
              · exact hw
            have hfix : CallFix p m c cc nL s args zx_WS (zx_on o) := ⟨hx, hb, hml, hown, hts⟩
            refine zx_cont (a := (Value.ref (E.2.1 q) :: ((st.take b).reverse).map (zx_v E.2.1)).toArray) (Q' := Q') (rest := rest.map (zx_v E.2.1)) ?_ hS (fun r S' H1 locs1 hq hP1 hS1 => ?_)
            · rcases g5 with ⟨rfl, f1, f2, f3, f4, f5, f6⟩ | ⟨owner, x, f1, f2, f3, f4, f5, f6, f7, f8⟩
              · refine va_runV hfix hM (cwV b hts (zx_gin fun w hw => ?_) rfl rfl rfl ⟨rfl, f1.1, f1.2, f2⟩ (hroom _ g3)) hpre rfl hn hl.1 hstk hwd (zx_dd_spec h1) ⟨Nat.le_refl _, Nat.le_refl _⟩
                simp only [wsV, List.mem_append, List.mem_cons, List.not_mem_nil, or_false] at hw
                rcases hw with (rfl | rfl | rfl | rfl) | hw
                · exact f3
                · exact f4
                · exact f5
                · exact f6
                · exact hgi w hw
              · have hall : ∀ w ∈ va_wsU (zx_on o) a C owner x y.1 (zx_ws y), w ∈ zx_WS := fun w hw => by
                  simp only [va_wsU, List.mem_append, List.mem_cons, List.not_mem_nil, or_false] at hw
                  rcases hw with (rfl | rfl | rfl | rfl | rfl) | hw
                  · exact f3
                  · exact f4
                  · exact f5
                  · exact f6
                  · exact f7
                  · exact hgi w hw
                rcases f8 with f8 | f8
                · exact va_runU hfix hM (va_cwU b hts (zx_gin hall) rfl rfl rfl f8 ⟨f1.1, f1.2, f2⟩ (hroom _ g3)) hpre rfl hn hl.1 hstk hwd (zx_dd_spec h1) ⟨Nat.le_refl _, Nat.le_refl _⟩
                · exact va_runU hfix hM (va_cwA b hts (zx_gin hall) rfl rfl rfl (henv.2.2.2.1 _ f8) ⟨f1.1, f1.2, f2⟩ (hroom _ g3)) hpre rfl hn hl.1 hstk hwd (zx_dd_spec h1) ⟨Nat.le_refl _, Nat.le_refl _⟩
            · have := hz r S' hq H1 locs1 ls hP1 hS1 hl
              rw [htl]
              exact this
          · cases hs
        · cases hs
      · cases hs
    · cases hs
  · split at hs
    · rename_i c0 k'
      split at hs
      · rename_i hw
        obtain ⟨hw, hlen⟩ := hw
        simp only [Option.some.injEq, Prod.mk.injEq] at hs
        obtain ⟨rfl, rfl, rfl⟩ := hs
        simp only [zx_okB, Bool.and_eq_true, decide_eq_true_eq, List.all_eq_true] at hok
        obtain ⟨⟨rfl, h1⟩, h2⟩ := hok
        obtain ⟨y', g2, g3, g4, f1, f2, f3, f4, f5⟩ := hst _ (h2 _ List.mem_cons_self)
        have hyy : y = y' := Option.some.inj (hy.symm.trans g2)
        subst hyy
        intro H locs ls hP hS hl
        have hpre : PreS s H (zx_Pc lay ro E ((st.take b).reverse) S) (((st.take b).reverse).map (zx_v E.2.1)) := ⟨zx_blind, fun U hU hW => ⟨rfl, by rw [hU]; exact hP, henv.at hS hU hW⟩⟩
        have hn : (((st.take b).reverse).map (zx_v E.2.1)).length = b := by simp; omega
        have hstk : st.map (zx_v E.2.1) = (((st.take b).reverse).map (zx_v E.2.1)).reverse ++ (st.drop b).map (zx_v E.2.1) := zx_map_split (zx_v E.2.1) st b
        have hwd : 2 * (F0 m pc ls (st.map (zx_v E.2.1))).monitorRoom + (((st.drop b).map (zx_v E.2.1)).map fun v => v.category).sum ≤ 8 := lv_room (by rw [zx_wd_sum]; exact hw)
        have hgi : ∀ w ∈ zx_ws y, w ∈ zx_WS := fun w hw => by
          rcases List.mem_cons.mp hw with rfl | hw
          · exact g4
          · exact hw
        have hfix : CallFix p m c cc nL s args zx_WS (zx_on o) := ⟨hx, hb, hml, hown, hts⟩
        refine zx_cont (a := (((st.take b).reverse).map (zx_v E.2.1)).toArray) (Q' := Q') (rest := (st.drop b).map (zx_v E.2.1)) ?_ hS (fun r S' H1 locs1 hq hP1 hS1 => ?_)
        · rcases f5 with f5 | ⟨host, f5⟩
          · refine va_runS hfix hM (va_cwS b hts (zx_gin fun w hw => ?_) rfl rfl rfl ⟨f1.1, f1.2, f2⟩ (hroom _ g3)) hpre rfl hn hl.1 hstk hwd (zx_dd_spec h1) ⟨Nat.le_refl _, Nat.le_refl _⟩
            simp only [va_wsS, List.mem_append, List.mem_cons, List.not_mem_nil, or_false] at hw
            rcases hw with (rfl | rfl | rfl) | hw
            · exact f5
            · exact f3
            · exact f4
            · exact hgi w hw
          · exact va_runSN hfix hM ⟨va_cnB b hts (zx_gin hgi) rfl rfl rfl (henv.2.2.2.1 _ f5) (hts _ f4) ⟨f1.1, f1.2, f2⟩ (hroom _ g3), hts _ f3, trivial⟩ hpre rfl hn hl.1 hstk hwd (zx_dd_spec h1) ⟨Nat.le_refl _, Nat.le_refl _⟩
        · have := hz r S' hq H1 locs1 ls hP1 hS1 hl
          rw [htl]
          exact this
      · cases hs
    · cases hs
  · cases hs
end ZX
end
section
/-! The rules that a pure proof goes by; a contract out of them -/
def zx_br (K : zx_K) (X : zx_X) : Option (Prop × zx_X × zx_X) := match zx_at K X.1 with
  | some (n, I) => zx_brn n I X
  | none => none
def zx_ca (lay : List zx_C) (K : zx_K) (X : zx_X) : Option (Nat × List Value × zx_X) := match zx_at K X.1 with
  | some (n, I) => zx_cal lay n I X
  | none => none
def zx_rt (K : zx_K) (X : zx_X) : Option (Prop × Option Value) := match zx_at K X.1 with
  | some (_, I) => zx_rtn I X
  | none => none
def zx_R (mt : List zx_Y) (lay : List zx_C) (ro : Nat × (Nat → Int32)) (l : Launch) (E : zx_E) (K : zx_K) (d : Nat) (Q : Option Value → zx_S → Prop) (Zp : zx_X → Prop) : Prop :=
  (∀ (k : Nat) (P : Prop) (X : zx_X) (P' : Prop) (X' : zx_X), zx_run lay ro K k P X = some (P', X') → P' → Zp X' → Zp X) ∧
  (∀ (X : zx_X) (q : Prop) (X1 X2 : zx_X), zx_br K X = some (q, X1, X2) → (q → Zp X1) → (¬ q → Zp X2) → Zp X) ∧
  (∀ (X : zx_X) (k : Nat) (av : List Value) (X1 : zx_X) (Q' : Option Value → zx_S → Prop) (dd : Nat), zx_ca lay K X = some (k, av, X1) → dd < d → zx_Met mt lay ro l E k dd av X.2.2.2 Q' → (∀ (r : Option Value) (S' : zx_S), Q' r S' → Zp (X1.1, X1.2.1, r.toList ++ X1.2.2.1, S')) → Zp X) ∧
  (∀ (X : zx_X) (q : Prop) (r : Option Value), zx_rt K X = some (q, r) → q → Q r X.2.2.2 → Zp X)
section ZX
variable {p : Program} {l : Launch} {e : Env} {R : Room} {s : State} {m : MethodId} {args : Array Value} {below : List Frame} {meth : Method} {c : Code} {Qs : State → Prop}
variable {lay : List zx_C} {ro : Nat × (Nat → Int32)} {E : zx_E} {o : Nat} {cc : ByteArray} {nL d : Nat} {ret : Option FieldType} {mt : List zx_Y} {K : zx_K}
theorem zx_krun (F : zx_F lay ro E o cc nL d ret p R s m args meth c) (hK : ∀ g ∈ K, zx_okK o ret cc g.2 = true) : ∀ (k : Nat) (P : Prop) (X : zx_X) (P' : Prop) (X' : zx_X), zx_run lay ro K k P X = some (P', X') → P' → P ∧ (zx_Z lay E p l e R s m args below meth c nL Qs X' → zx_Z lay E p l e R s m args below meth c nL Qs X)
  | 0, P, X, P', X', h, hp => by
    simp only [zx_run, Option.some.injEq, Prod.mk.injEq] at h
    obtain ⟨rfl, rfl⟩ := h
    exact ⟨hp, id⟩
  | k + 1, P, X, P', X', h, hp => by
    unfold zx_run at h
    split at h
    · rename_i n I hat
      have hok := zx_ok_at hK hat
      split at h
      · rename_i X1 hs
        obtain ⟨h1, h2⟩ := zx_krun F hK k P X1 P' X' h hp
        exact ⟨h1, fun hz => zx_kAll F hok hs (fun q hq => by cases hq) (h2 hz)⟩
      · rename_i c1 X1 hs
        obtain ⟨h1, h2⟩ := zx_krun F hK k (P ∧ c1) X1 P' X' h hp
        exact ⟨h1.1, fun hz => zx_kAll F hok hs (fun q hq => by cases hq; exact h1.2) (h2 hz)⟩
      · cases h
    · cases h
end ZX
/-- the locals at a method's entry -/
def zx_sl : List Value → List (Option Value)
  | [] => []
  | .long x :: r => some (.long x) :: none :: zx_sl r
  | .double x :: r => some (.double x) :: none :: zx_sl r
  | v :: r => some v :: zx_sl r
def zx_ent (nL : Nat) (av : List Value) : List (Option Value) := zx_sl av ++ List.replicate (nL - (zx_sl av).length) none
theorem zx_sl_len (r : Nat → Nat) : ∀ av : List Value, (zx_sl av).length = (lg_sl (av.map (zx_v r))).length
  | [] => rfl
  | v :: t => by
    have ih := zx_sl_len r t
    cases v <;> simp_all [zx_sl, lg_sl, zx_v, Value.category] <;> omega
theorem zx_sl_mem (r : Nat → Nat) : ∀ (av : List Value) (i j : Nat) (v : Value), (zx_sl av)[j]? = some (some v) → (i + j, zx_v r v) ∈ lv_args i (av.map (zx_v r))
  | [], i, j, v, h => by simp [zx_sl] at h
  | w :: t, i, j, v, h => by
    have wide : ∀ w' : Value, w'.category = 2 → zx_sl (w' :: t) = some w' :: none :: zx_sl t → (zx_sl (w' :: t))[j]? = some (some v) → (i + j, zx_v r v) ∈ lv_args i ((w' :: t).map (zx_v r)) := by
      intro w' hc he h
      rw [he] at h
      simp only [List.map_cons, lv_args, zx_cat, hc, if_true]
      match j, h with
      | 0, h => cases h; exact List.mem_cons_self
      | 1, h => cases h
      | j + 2, h =>
        refine List.mem_cons_of_mem _ ?_
        have := zx_sl_mem r t (i + 2) j v h
        rwa [show i + 2 + j = i + (j + 2) by omega] at this
    have slim : ∀ w' : Value, w'.category = 1 → zx_sl (w' :: t) = some w' :: zx_sl t → (zx_sl (w' :: t))[j]? = some (some v) → (i + j, zx_v r v) ∈ lv_args i ((w' :: t).map (zx_v r)) := by
      intro w' hc he h
      rw [he] at h
      have hn : ¬ (1 = 2) := by decide
      simp only [List.map_cons, lv_args, zx_cat, hc, hn, if_false]
      match j, h with
      | 0, h => cases h; exact List.mem_cons_self
      | j + 1, h =>
        refine List.mem_cons_of_mem _ ?_
        have := zx_sl_mem r t (i + 1) j v h
        rwa [show i + 1 + j = i + (j + 1) by omega] at this
    cases w with
    | long x => exact wide _ rfl rfl h
    | double x => exact wide _ rfl rfl h
    | int x => exact slim _ rfl rfl h
    | float x => exact slim _ rfl rfl h
    | null => exact slim _ rfl rfl h
    | ref x => exact slim _ rfl rfl h
    | retAddr x => exact slim _ rfl rfl h
theorem zx_ent_lv {E : zx_E} {nL : Nat} {av : List Value} (h : (zx_sl av).length ≤ nL) : zx_lv E.2.1 ((lg_sl (av.map (zx_v E.2.1)) ++ List.replicate (nL - (lg_sl (av.map (zx_v E.2.1))).length) Slot.unset).toArray) nL (zx_ent nL av) := by
  have h0 := lv_entry (av.map (zx_v E.2.1)) (n := nL) (by rw [← zx_sl_len]; exact h)
  refine ⟨h0.1, by simp [zx_ent]; omega, h0.2.1, fun i v hv => ?_⟩
  refine h0.2.2 (i, zx_v E.2.1 v) ?_
  have h1 : (zx_sl av)[i]? = some (some v) := by
    unfold zx_ent at hv
    by_cases hi : i < (zx_sl av).length
    · rwa [List.getElem?_append_left hi] at hv
    · rw [List.getElem?_append_right (by omega), List.getElem?_replicate] at hv
      split at hv <;> cases hv
  have := zx_sl_mem E.2.1 av 0 i v h1
  rwa [Nat.zero_add] at this
theorem zx_Met.of {mt : List zx_Y} {lay : List zx_C} {ro : Nat × (Nat → Int32)} {l : Launch} {E : zx_E} {k d : Nat} {av : List Value} {S : zx_S} {Q : Option Value → zx_S → Prop} {y : zx_Y} {K : zx_K} (hvt : ∀ q ∈ zx_vtab, zx_vOK mt q.1 q.2.1 q.2.2.1 q.2.2.2.1 q.2.2.2.2) (hst : ∀ q ∈ zx_stab2, zx_sOK mt q.1 q.2.1 q.2.2.1 q.2.2.2.2) (hlok : zx_lok lay) (hk : mt[k]? = some y) (hy : plainName y.1.cls = true) (hon : zx_on y.2.1 = y.1.cls) (hK : ∀ g ∈ K, zx_okK y.2.1 y.2.2.2.2 y.2.2.1 g.2 = true) (hlen : (zx_sl av).length ≤ y.2.2.2.1)
    (h : ∀ Zp : zx_X → Prop, zx_R mt lay ro l E K d Q Zp → Zp (0, zx_ent y.2.2.2.1 av, [], S)) : zx_Met mt lay ro l E k d av S Q := by
  refine ⟨y, hk, Met.ofW (cc := y.2.2.1) (maxL := y.2.2.2.1) (ret := y.2.2.2.2) hy rfl ?_⟩
  intro p e s m args below meth c s₁ B hml hv
  obtain ⟨rfl, hP, henv⟩ := hv
  have hts : ∀ w ∈ zx_ws y, w.before _ s = true := atoms_spec (ws := zx_ws y) B.pre
  have hown : s.vm.findClass (zx_on y.2.1) = some m.cls := by rw [hon]; exact findClass_of_methodNamed B.named
  have F : zx_F lay ro E y.2.1 y.2.2.1 y.2.2.2.1 d y.2.2.2.2 p (headSpec (zx_ws y) (zx_rm d)).room s m _ meth c := ⟨B.exec, B.bytes, hml, hown, fun w hw => hts w (List.mem_cons_of_mem _ hw), henv, hlok, B.returns, B.notSynchronized, rfl⟩
  rw [lg_entry_eq]
  have hr : zx_R mt lay ro l E K d Q (zx_Z lay E p l e (headSpec (zx_ws y) (zx_rm d)).room s m ((av.map (zx_v E.2.1)).toArray) below meth c y.2.2.2.1 (MQ below (zx_Q lay E Q) ((av.map (zx_v E.2.1)).toArray) s 0 0 (zx_A lay E))) := by
    refine ⟨fun k P X P' X' h1 h2 h3 => (zx_krun F hK k P X P' X' h1 h2).2 h3, fun X q X1 X2 h1 h2 h3 => ?_, fun X k av X1 Q' dd h1 h2 h3 h4 => ?_, fun X q r h1 h2 h3 => ?_⟩
    · unfold zx_br at h1
      split at h1
      · rename_i n I hat
        exact zx_kbr F (zx_ok_at hK hat) h1 h2 h3
      · cases h1
    · unfold zx_ca at h1
      split at h1
      · rename_i n I hat
        exact zx_kcal F hvt hst (zx_ok_at hK hat) h1 h2 h3 h4
      · cases h1
    · unfold zx_rt at h1
      split at h1
      · rename_i n I hat
        exact zx_kret F (zx_ok_at hK hat) h1 h2 h3
      · cases h1
  exact h _ hr s.heap [] _ hP va_S.rf (zx_ent_lv hlen)
end
section
/-! The methods, and what each call links (written by a program out of the Statement) -/
def zx_mt : List zx_Y := [
  (⟨"IntervalPacker", "feed", "(JIZ)I"⟩, 0, prog_1_method_2_code, 7, (some Jvm.ClassFile.FieldType.int)), -- 0 P_feed
  (⟨"IntervalPacker", "copy", "(II)I"⟩, 0, prog_1_method_3_code, 3, (some Jvm.ClassFile.FieldType.int)), -- 1 P_copy
  (⟨"IntervalPacker", "cut", "(IZ)I"⟩, 0, prog_1_method_4_code, 5, (some Jvm.ClassFile.FieldType.int)), -- 2 P_cut
  (⟨"IntervalPacker", "change", "(II)I"⟩, 0, prog_1_method_5_code, 4, (some Jvm.ClassFile.FieldType.int)), -- 3 P_change
  (⟨"IntervalPacker", "at", "(IZ)I"⟩, 0, prog_1_method_6_code, 3, (some Jvm.ClassFile.FieldType.int)), -- 4 P_at
  (⟨"IntervalPacker", "pack", "(III)I"⟩, 0, prog_1_method_7_code, 5, (some Jvm.ClassFile.FieldType.int)), -- 5 P_pack
  (⟨"IntervalPacker", "unpack", "()I"⟩, 0, prog_1_method_8_code, 2, (some Jvm.ClassFile.FieldType.int)), -- 6 P_unpack
  (⟨"IntervalPacker", "where", "()I"⟩, 0, prog_1_method_9_code, 1, (some Jvm.ClassFile.FieldType.int)), -- 7 P_where
  (⟨"IntervalPacker", "watch", "(I)Z"⟩, 0, prog_1_method_10_code, 2, (some Jvm.ClassFile.FieldType.boolean)), -- 8 P_watch
  (⟨"IntervalPacker", "range", "()J"⟩, 0, prog_1_method_11_code, 1, (some Jvm.ClassFile.FieldType.long)), -- 9 P_range
  (⟨"IntervalPacker", "code", "()J"⟩, 0, prog_1_method_12_code, 1, (some Jvm.ClassFile.FieldType.long)), -- 10 P_code
  (⟨"IntervalPacker", "count", "(I)I"⟩, 0, prog_1_method_13_code, 2, (some Jvm.ClassFile.FieldType.int)), -- 11 P_count
  (⟨"IntervalPacker", "sum", "(Z)J"⟩, 0, prog_1_method_14_code, 2, (some Jvm.ClassFile.FieldType.long)), -- 12 P_sum
  (⟨"IntervalPacker", "rowOf", "(Z)LIntervalPacker$Row;"⟩, 0, prog_1_method_15_code, 2, (some (Jvm.ClassFile.FieldType.object "IntervalPacker$Row"))), -- 13 P_rowOf
  (⟨"IntervalPacker", "isSort", "(I)Z"⟩, 0, prog_1_method_16_code, 1, (some Jvm.ClassFile.FieldType.boolean)), -- 14 P_isSort
  (⟨"IntervalPacker", "checkSize", "(I)I"⟩, 0, prog_1_method_17_code, 1, (some Jvm.ClassFile.FieldType.int)), -- 15 P_checkSize
  (⟨"IntervalPacker", "areProperties", "(I)Z"⟩, 0, prog_1_method_18_code, 1, (some Jvm.ClassFile.FieldType.boolean)), -- 16 P_areProperties
  (⟨"IntervalPacker", "sumFour", "([III)J"⟩, 0, prog_1_method_19_code, 3, (some Jvm.ClassFile.FieldType.long)), -- 17 P_sumFour
  (⟨"IntervalPacker", "sumEight", "([III)J"⟩, 0, prog_1_method_20_code, 3, (some Jvm.ClassFile.FieldType.long)), -- 18 P_sumEight
  (⟨"IntervalPacker", "sumBy", "([IIIJJ)J"⟩, 0, prog_1_method_21_code, 11, (some Jvm.ClassFile.FieldType.long)), -- 19 P_sumBy
  (⟨"IntervalPacker$Row", "clear", "()V"⟩, 1, prog_8_method_2_code, 1, none), -- 20 Row_clear
  (⟨"IntervalPacker$Row", "hasRoom", "(I)Z"⟩, 1, prog_8_method_3_code, 2, (some Jvm.ClassFile.FieldType.boolean)), -- 21 Row_hasRoom
  (⟨"IntervalPacker$Row", "append", "(I)V"⟩, 1, prog_8_method_4_code, 2, none), -- 22 Row_append
  (⟨"IntervalPacker$Row", "appendAll", "([III)V"⟩, 1, prog_8_method_5_code, 5, none), -- 23 Row_appendAll
  (⟨"IntervalPacker$Row", "appendLowFirst", "(JI)V"⟩, 1, prog_8_method_6_code, 5, none), -- 24 Row_appendLowFirst
  (⟨"IntervalPacker$Row", "repeat", "(JI)V"⟩, 1, prog_8_method_7_code, 5, none), -- 25 Row_repeat
  (⟨"IntervalPacker$Row", "byteAt", "(I)I"⟩, 1, prog_8_method_8_code, 2, (some Jvm.ClassFile.FieldType.int)), -- 26 Row_byteAt
  (⟨"IntervalPacker$Row", "byteBack", "(IJ)I"⟩, 1, prog_8_method_9_code, 4, (some Jvm.ClassFile.FieldType.int)), -- 27 Row_byteBack
  (⟨"IntervalPacker$Row", "become", "(LIntervalPacker$Row;)V"⟩, 1, prog_8_method_10_code, 2, none), -- 28 Row_become
  (⟨"IntervalPacker$Cursor", "begin", "(LIntervalPacker$Row;)V"⟩, 2, prog_5_method_2_code, 2, none), -- 29 Cur_begin
  (⟨"IntervalPacker$Cursor", "isSound", "()Z"⟩, 2, prog_5_method_3_code, 1, (some Jvm.ClassFile.FieldType.boolean)), -- 30 Cur_isSound
  (⟨"IntervalPacker$Cursor", "fail", "(II)V"⟩, 2, prog_5_method_4_code, 3, none), -- 31 Cur_fail
  (⟨"IntervalPacker$Cursor", "narrow", "(I)V"⟩, 2, prog_5_method_5_code, 2, none), -- 32 Cur_narrow
  (⟨"IntervalPacker$Cursor", "widen", "()V"⟩, 2, prog_5_method_6_code, 1, none), -- 33 Cur_widen
  (⟨"IntervalPacker$Cursor", "has", "(I)Z"⟩, 2, prog_5_method_7_code, 2, (some Jvm.ClassFile.FieldType.boolean)), -- 34 Cur_has
  (⟨"IntervalPacker$Cursor", "expectByte", "(I)V"⟩, 2, prog_5_method_8_code, 2, none), -- 35 Cur_expectByte
  (⟨"IntervalPacker$Cursor", "expectWithin", "(II)V"⟩, 2, prog_5_method_9_code, 3, none), -- 36 Cur_expectWithin
  (⟨"IntervalPacker$Cursor", "expectFilling", "(I)V"⟩, 2, prog_5_method_10_code, 3, none), -- 37 Cur_expectFilling
  (⟨"IntervalPacker$Cursor", "lowFirst", "(II)J"⟩, 2, prog_5_method_11_code, 6, (some Jvm.ClassFile.FieldType.long)), -- 38 Cur_lowFirst
  (⟨"IntervalPacker$Cursor", "expectSum", "(IJ)V"⟩, 2, prog_5_method_12_code, 4, none), -- 39 Cur_expectSum
  (⟨"IntervalPacker$Cursor", "readTwo", "()I"⟩, 2, prog_5_method_13_code, 1, (some Jvm.ClassFile.FieldType.int)), -- 40 Cur_readTwo
  (⟨"IntervalPacker$Cursor", "readNumber", "()J"⟩, 2, prog_5_method_14_code, 5, (some Jvm.ClassFile.FieldType.long)), -- 41 Cur_readNumber
  (⟨"IntervalPacker$Cursor", "expectNumber", "(J)V"⟩, 2, prog_5_method_15_code, 4, none), -- 42 Cur_expectNumber
  (⟨"IntervalPacker$BitSource", "forget", "()V"⟩, 3, prog_4_method_2_code, 1, none), -- 43 Src_forget
  (⟨"IntervalPacker$BitSource", "begin", "([III)V"⟩, 3, prog_4_method_3_code, 5, none), -- 44 Src_begin
  (⟨"IntervalPacker$BitSource", "shift", "()V"⟩, 3, prog_4_method_4_code, 1, none), -- 45 Src_shift
  (⟨"IntervalPacker$BitSource", "codeBit", "(II)I"⟩, 3, prog_4_method_5_code, 6, (some Jvm.ClassFile.FieldType.int)), -- 46 Src_codeBit
  (⟨"IntervalPacker$BitSource", "codeEvenBit", "(I)I"⟩, 3, prog_4_method_6_code, 3, (some Jvm.ClassFile.FieldType.int)), -- 47 Src_codeEvenBit
  (⟨"IntervalPacker$BitSource", "keep", "()V"⟩, 3, prog_4_method_7_code, 1, none), -- 48 Src_keep
  (⟨"IntervalPacker$BitSource", "endsWell", "()Z"⟩, 3, prog_4_method_8_code, 1, (some Jvm.ClassFile.FieldType.boolean)), -- 49 Src_endsWell
  (⟨"IntervalPacker$BitSink", "begin", "(I)V"⟩, 4, prog_3_method_2_code, 2, none), -- 50 Snk_begin
  (⟨"IntervalPacker$BitSink", "shift", "()V"⟩, 4, prog_3_method_3_code, 1, none), -- 51 Snk_shift
  (⟨"IntervalPacker$BitSink", "raise", "(J)V"⟩, 4, prog_3_method_4_code, 6, none), -- 52 Snk_raise
  (⟨"IntervalPacker$BitSink", "codeBit", "(II)I"⟩, 4, prog_3_method_5_code, 5, (some Jvm.ClassFile.FieldType.int)), -- 53 Snk_codeBit
  (⟨"IntervalPacker$BitSink", "codeEvenBit", "(I)I"⟩, 4, prog_3_method_6_code, 2, (some Jvm.ClassFile.FieldType.int)), -- 54 Snk_codeEvenBit
  (⟨"IntervalPacker$BitSink", "finish", "()V"⟩, 4, prog_3_method_7_code, 1, none), -- 55 Snk_finish
  (⟨"IntervalPacker$Model", "setProperties", "(I)V"⟩, 5, prog_6_method_2_code, 2, none), -- 56 Mdl_setProperties
  (⟨"IntervalPacker$Model", "beginAnew", "()V"⟩, 5, prog_6_method_3_code, 1, none), -- 57 Mdl_beginAnew
  (⟨"IntervalPacker$Model", "useLine", "(LIntervalPacker$BitLine;)V"⟩, 5, prog_6_method_4_code, 2, none), -- 58 Mdl_useLine
  (⟨"IntervalPacker$Model", "distanceOf", "(I)J"⟩, 5, prog_6_method_5_code, 2, (some Jvm.ClassFile.FieldType.long)), -- 59 Mdl_distanceOf
  (⟨"IntervalPacker$Model", "step", "(III)V"⟩, 5, prog_6_method_6_code, 6, none), -- 60 Mdl_step
  (⟨"IntervalPacker$Model", "bringForward", "(IJ)V"⟩, 5, prog_6_method_7_code, 5, none), -- 61 Mdl_bringForward
  (⟨"IntervalPacker$Model", "codeKind", "(I)I"⟩, 5, prog_6_method_8_code, 3, (some Jvm.ClassFile.FieldType.int)), -- 62 Mdl_codeKind
  (⟨"IntervalPacker$Model", "codeLiteral", "(II)I"⟩, 5, prog_6_method_9_code, 9, (some Jvm.ClassFile.FieldType.int)), -- 63 Mdl_codeLiteral
  (⟨"IntervalPacker$Model", "codeLength", "(II)I"⟩, 5, prog_6_method_10_code, 3, (some Jvm.ClassFile.FieldType.int)), -- 64 Mdl_codeLength
  (⟨"IntervalPacker$Model", "codeDistance", "()J"⟩, 5, prog_6_method_11_code, 10, (some Jvm.ClassFile.FieldType.long)), -- 65 Mdl_codeDistance
  (⟨"IntervalPacker$Model", "slotOf", "(J)I"⟩, 5, prog_6_method_12_code, 5, (some Jvm.ClassFile.FieldType.int)), -- 66 Mdl_slotOf
  (⟨"IntervalPacker$Model", "codeTree", "(III)I"⟩, 5, prog_6_method_13_code, 6, (some Jvm.ClassFile.FieldType.int)), -- 67 Mdl_codeTree
  (⟨"IntervalPacker$Model", "codeTreeBackwards", "(III)I"⟩, 5, prog_6_method_14_code, 8, (some Jvm.ClassFile.FieldType.int)), -- 68 Mdl_codeTreeBackwards
  (⟨"IntervalPacker$Unpacking", "begin", "(LIntervalPacker$Row;)V"⟩, 6, prog_9_method_2_code, 2, none), -- 69 Unp_begin
  (⟨"IntervalPacker$Unpacking", "readStart", "()V"⟩, 6, prog_9_method_3_code, 2, none), -- 70 Unp_readStart
  (⟨"IntervalPacker$Unpacking", "comesBlock", "()Z"⟩, 6, prog_9_method_4_code, 1, (some Jvm.ClassFile.FieldType.boolean)), -- 71 Unp_comesBlock
  (⟨"IntervalPacker$Unpacking", "readBlock", "()V"⟩, 6, prog_9_method_5_code, 3, none), -- 72 Unp_readBlock
  (⟨"IntervalPacker$Unpacking", "readHead", "()V"⟩, 6, prog_9_method_6_code, 4, none), -- 73 Unp_readHead
  (⟨"IntervalPacker$Unpacking", "readHeadNumbers", "()V"⟩, 6, prog_9_method_7_code, 3, none), -- 74 Unp_readHeadNumbers
  (⟨"IntervalPacker$Unpacking", "readChunkHead", "()V"⟩, 6, prog_9_method_8_code, 1, none), -- 75 Unp_readChunkHead
  (⟨"IntervalPacker$Unpacking", "empties", "()Z"⟩, 6, prog_9_method_9_code, 1, (some Jvm.ClassFile.FieldType.boolean)), -- 76 Unp_empties
  (⟨"IntervalPacker$Unpacking", "isAllowed", "()Z"⟩, 6, prog_9_method_10_code, 1, (some Jvm.ClassFile.FieldType.boolean)), -- 77 Unp_isAllowed
  (⟨"IntervalPacker$Unpacking", "readProperties", "()V"⟩, 6, prog_9_method_11_code, 2, none), -- 78 Unp_readProperties
  (⟨"IntervalPacker$Unpacking", "hasBytesAndRoom", "(I)Z"⟩, 6, prog_9_method_12_code, 2, (some Jvm.ClassFile.FieldType.boolean)), -- 79 Unp_hasBytesAndRoom
  (⟨"IntervalPacker$Unpacking", "givePlain", "()V"⟩, 6, prog_9_method_13_code, 1, none), -- 80 Unp_givePlain
  (⟨"IntervalPacker$Unpacking", "giveCoded", "()V"⟩, 6, prog_9_method_14_code, 5, none), -- 81 Unp_giveCoded
  (⟨"IntervalPacker$Unpacking", "giveStep", "(II)Z"⟩, 6, prog_9_method_15_code, 3, (some Jvm.ClassFile.FieldType.boolean)), -- 82 Unp_giveStep
  (⟨"IntervalPacker$Unpacking", "closeBlock", "(I)V"⟩, 6, prog_9_method_16_code, 7, none), -- 83 Unp_closeBlock
  (⟨"IntervalPacker$Unpacking", "readIndex", "()V"⟩, 6, prog_9_method_17_code, 3, none), -- 84 Unp_readIndex
  (⟨"IntervalPacker$Unpacking", "readEnd", "()V"⟩, 6, prog_9_method_18_code, 3, none), -- 85 Unp_readEnd
  (⟨"IntervalPacker$Packing", "begin", "(LIntervalPacker$Row;II)V"⟩, 7, prog_7_method_2_code, 4, none), -- 86 Pkg_begin
  (⟨"IntervalPacker$Packing", "writeHead", "()V"⟩, 7, prog_7_method_3_code, 1, none), -- 87 Pkg_writeHead
  (⟨"IntervalPacker$Packing", "writePiece", "(II)V"⟩, 7, prog_7_method_4_code, 3, none), -- 88 Pkg_writePiece
  (⟨"IntervalPacker$Packing", "writePlain", "(II)V"⟩, 7, prog_7_method_5_code, 3, none), -- 89 Pkg_writePlain
  (⟨"IntervalPacker$Packing", "writeCoded", "(I)V"⟩, 7, prog_7_method_6_code, 3, none), -- 90 Pkg_writeCoded
  (⟨"IntervalPacker$Packing", "appendTwo", "(I)V"⟩, 7, prog_7_method_7_code, 2, none), -- 91 Pkg_appendTwo
  (⟨"IntervalPacker$Packing", "encode", "(II)Z"⟩, 7, prog_7_method_8_code, 5, (some Jvm.ClassFile.FieldType.boolean)), -- 92 Pkg_encode
  (⟨"IntervalPacker$Packing", "choose", "(II)V"⟩, 7, prog_7_method_9_code, 3, none), -- 93 Pkg_choose
  (⟨"IntervalPacker$Packing", "searchMatch", "(II)V"⟩, 7, prog_7_method_10_code, 5, none), -- 94 Pkg_searchMatch
  (⟨"IntervalPacker$Packing", "searchAgain", "(II)V"⟩, 7, prog_7_method_11_code, 5, none), -- 95 Pkg_searchAgain
  (⟨"IntervalPacker$Packing", "sameBytes", "(IJI)I"⟩, 7, prog_7_method_12_code, 8, (some Jvm.ClassFile.FieldType.int)), -- 96 Pkg_sameBytes
  (⟨"IntervalPacker$Packing", "closeBlock", "()V"⟩, 7, prog_7_method_13_code, 1, none), -- 97 Pkg_closeBlock
  (⟨"IntervalPacker$Packing", "fillUp", "(I)V"⟩, 7, prog_7_method_14_code, 3, none), -- 98 Pkg_fillUp
  (⟨"IntervalPacker$Packing", "appendNumber", "(J)V"⟩, 7, prog_7_method_15_code, 6, none), -- 99 Pkg_appendNumber
  (⟨"IntervalPacker$Packing", "writeIndex", "()V"⟩, 7, prog_7_method_16_code, 2, none), -- 100 Pkg_writeIndex
  (⟨"IntervalPacker$Packing", "writeEnd", "()V"⟩, 7, prog_7_method_17_code, 1, none), -- 101 Pkg_writeEnd
  (⟨"IntervalPackerModel", "feed", "(JIZ)I"⟩, 8, prog_11_method_2_code, 8, (some Jvm.ClassFile.FieldType.int)), -- 102 R_feed
  (⟨"IntervalPackerModel", "copy", "(II)I"⟩, 8, prog_11_method_3_code, 4, (some Jvm.ClassFile.FieldType.int)), -- 103 R_copy
  (⟨"IntervalPackerModel", "cut", "(IZ)I"⟩, 8, prog_11_method_4_code, 4, (some Jvm.ClassFile.FieldType.int)), -- 104 R_cut
  (⟨"IntervalPackerModel", "change", "(II)I"⟩, 8, prog_11_method_5_code, 4, (some Jvm.ClassFile.FieldType.int)), -- 105 R_change
  (⟨"IntervalPackerModel", "at", "(IZ)I"⟩, 8, prog_11_method_6_code, 3, (some Jvm.ClassFile.FieldType.int)), -- 106 R_at
  (⟨"IntervalPackerModel", "four", "(JI)J"⟩, 8, prog_11_method_7_code, 6, (some Jvm.ClassFile.FieldType.long)), -- 107 R_four
  (⟨"IntervalPackerModel", "eight", "(JI)J"⟩, 8, prog_11_method_8_code, 6, (some Jvm.ClassFile.FieldType.long)), -- 108 R_eight
  (⟨"IntervalPackerModel", "fourOfPacked", "(II)J"⟩, 8, prog_11_method_9_code, 6, (some Jvm.ClassFile.FieldType.long)), -- 109 R_fourOfPacked
  (⟨"IntervalPackerModel", "fourOfMade", "(I)J"⟩, 8, prog_11_method_10_code, 5, (some Jvm.ClassFile.FieldType.long)), -- 110 R_fourOfMade
  (⟨"IntervalPackerModel", "eightOfMade", "(I)J"⟩, 8, prog_11_method_11_code, 5, (some Jvm.ClassFile.FieldType.long)), -- 111 R_eightOfMade
  (⟨"IntervalPackerModel", "sum", "(Z)J"⟩, 8, prog_11_method_12_code, 5, (some Jvm.ClassFile.FieldType.long)), -- 112 R_sum
  (⟨"IntervalPackerModel", "fail", "(II)V"⟩, 8, prog_11_method_13_code, 3, none), -- 113 R_fail
  (⟨"IntervalPackerModel", "has", "(I)Z"⟩, 8, prog_11_method_14_code, 2, (some Jvm.ClassFile.FieldType.boolean)), -- 114 R_has
  (⟨"IntervalPackerModel", "number", "(II)J"⟩, 8, prog_11_method_15_code, 6, (some Jvm.ClassFile.FieldType.long)), -- 115 R_number
  (⟨"IntervalPackerModel", "sumOf", "(I)V"⟩, 8, prog_11_method_16_code, 2, none), -- 116 R_sumOf
  (⟨"IntervalPackerModel", "vli", "(II)J"⟩, 8, prog_11_method_17_code, 8, (some Jvm.ClassFile.FieldType.long)), -- 117 R_vli
  (⟨"IntervalPackerModel", "zeros", "(I)V"⟩, 8, prog_11_method_18_code, 2, none), -- 118 R_zeros
  (⟨"IntervalPackerModel", "magic", "(I)I"⟩, 8, prog_11_method_19_code, 1, (some Jvm.ClassFile.FieldType.int)), -- 119 R_magic
  (⟨"IntervalPackerModel", "isSort", "(I)Z"⟩, 8, prog_11_method_20_code, 1, (some Jvm.ClassFile.FieldType.boolean)), -- 120 R_isSort
  (⟨"IntervalPackerModel", "begin", "()V"⟩, 8, prog_11_method_21_code, 2, none), -- 121 R_begin
  (⟨"IntervalPackerModel", "headByte", "(I)I"⟩, 8, prog_11_method_22_code, 2, (some Jvm.ClassFile.FieldType.int)), -- 122 R_headByte
  (⟨"IntervalPackerModel", "block", "()V"⟩, 8, prog_11_method_23_code, 14, none), -- 123 R_block
  (⟨"IntervalPackerModel", "chunk", "()Z"⟩, 8, prog_11_method_24_code, 5, (some Jvm.ClassFile.FieldType.boolean)), -- 124 R_chunk
  (⟨"IntervalPackerModel", "length", "(I)I"⟩, 8, prog_11_method_25_code, 2, (some Jvm.ClassFile.FieldType.int)), -- 125 R_length
  (⟨"IntervalPackerModel", "isProperties", "(I)Z"⟩, 8, prog_11_method_26_code, 1, (some Jvm.ClassFile.FieldType.boolean)), -- 126 R_isProperties
  (⟨"IntervalPackerModel", "properties", "(I)V"⟩, 8, prog_11_method_27_code, 2, none), -- 127 R_properties
  (⟨"IntervalPackerModel", "plainChunk", "(IZ)V"⟩, 8, prog_11_method_28_code, 4, none), -- 128 R_plainChunk
  (⟨"IntervalPackerModel", "coded", "(III)V"⟩, 8, prog_11_method_29_code, 4, none), -- 129 R_coded
  (⟨"IntervalPackerModel", "index", "()V"⟩, 8, prog_11_method_30_code, 3, none), -- 130 R_index
  (⟨"IntervalPackerModel", "expect", "(I)V"⟩, 8, prog_11_method_31_code, 3, none), -- 131 R_expect
  (⟨"IntervalPackerModel", "unpack", "()I"⟩, 8, prog_11_method_32_code, 2, (some Jvm.ClassFile.FieldType.int)), -- 132 R_unpack
  (⟨"IntervalPackerModel", "where", "()I"⟩, 8, prog_11_method_33_code, 1, (some Jvm.ClassFile.FieldType.int)), -- 133 R_where
  (⟨"IntervalPackerModel", "watch", "(I)Z"⟩, 8, prog_11_method_34_code, 2, (some Jvm.ClassFile.FieldType.boolean)), -- 134 R_watch
  (⟨"IntervalPackerModel", "range", "()J"⟩, 8, prog_11_method_35_code, 1, (some Jvm.ClassFile.FieldType.long)), -- 135 R_range
  (⟨"IntervalPackerModel", "code", "()J"⟩, 8, prog_11_method_36_code, 1, (some Jvm.ClassFile.FieldType.long)), -- 136 R_code
  (⟨"IntervalPackerModel", "count", "(I)I"⟩, 8, prog_11_method_37_code, 2, (some Jvm.ClassFile.FieldType.int)), -- 137 R_count
  (⟨"IntervalPackerModel", "anew", "()V"⟩, 8, prog_11_method_38_code, 2, none), -- 138 R_anew
  (⟨"IntervalPackerModel", "shift", "()V"⟩, 8, prog_11_method_39_code, 1, none), -- 139 R_shift
  (⟨"IntervalPackerModel", "told", "()V"⟩, 8, prog_11_method_40_code, 1, none), -- 140 R_told
  (⟨"IntervalPackerModel", "bit", "(I)I"⟩, 8, prog_11_method_41_code, 5, (some Jvm.ClassFile.FieldType.int)), -- 141 R_bit
  (⟨"IntervalPackerModel", "learn", "(IZ)V"⟩, 8, prog_11_method_42_code, 4, none), -- 142 R_learn
  (⟨"IntervalPackerModel", "even", "()I"⟩, 8, prog_11_method_43_code, 2, (some Jvm.ClassFile.FieldType.int)), -- 143 R_even
  (⟨"IntervalPackerModel", "tree", "(II)I"⟩, 8, prog_11_method_44_code, 5, (some Jvm.ClassFile.FieldType.int)), -- 144 R_tree
  (⟨"IntervalPackerModel", "backwards", "(II)I"⟩, 8, prog_11_method_45_code, 7, (some Jvm.ClassFile.FieldType.int)), -- 145 R_backwards
  (⟨"IntervalPackerModel", "bytes", "()I"⟩, 8, prog_11_method_46_code, 1, (some Jvm.ClassFile.FieldType.int)), -- 146 R_bytes
  (⟨"IntervalPackerModel", "low4", "(I)I"⟩, 8, prog_11_method_47_code, 2, (some Jvm.ClassFile.FieldType.int)), -- 147 R_low4
  (⟨"IntervalPackerModel", "give", "(I)V"⟩, 8, prog_11_method_48_code, 2, none), -- 148 R_give
  (⟨"IntervalPackerModel", "token", "()V"⟩, 8, prog_11_method_49_code, 3, none), -- 149 R_token
  (⟨"IntervalPackerModel", "repeated", "(II)V"⟩, 8, prog_11_method_50_code, 4, none), -- 150 R_repeated
  (⟨"IntervalPackerModel", "turn", "(I)V"⟩, 8, prog_11_method_51_code, 4, none), -- 151 R_turn
  (⟨"IntervalPackerModel", "back", "(II)V"⟩, 8, prog_11_method_52_code, 4, none), -- 152 R_back
  (⟨"IntervalPackerModel", "lengthTaken", "(II)I"⟩, 8, prog_11_method_53_code, 3, (some Jvm.ClassFile.FieldType.int)), -- 153 R_lengthTaken
  (⟨"IntervalPackerModel", "distance", "(I)J"⟩, 8, prog_11_method_54_code, 9, (some Jvm.ClassFile.FieldType.long)), -- 154 R_distance
  (⟨"IntervalPackerModel", "context", "(II)I"⟩, 8, prog_11_method_55_code, 3, (some Jvm.ClassFile.FieldType.int)), -- 155 R_context
  (⟨"IntervalPackerModel", "after", "(I)I"⟩, 8, prog_11_method_56_code, 1, (some Jvm.ClassFile.FieldType.int)), -- 156 R_after
  (⟨"IntervalPackerModel", "literal", "()V"⟩, 8, prog_11_method_57_code, 9, none), -- 157 R_literal
  (⟨"IntervalPackerModel", "shiftOut", "()V"⟩, 8, prog_11_method_58_code, 1, none), -- 158 R_shiftOut
  (⟨"IntervalPackerModel", "grow", "(J)V"⟩, 8, prog_11_method_59_code, 6, none), -- 159 R_grow
  (⟨"IntervalPackerModel", "put", "(II)V"⟩, 8, prog_11_method_60_code, 5, none), -- 160 R_put
  (⟨"IntervalPackerModel", "putEven", "(I)V"⟩, 8, prog_11_method_61_code, 2, none), -- 161 R_putEven
  (⟨"IntervalPackerModel", "putTree", "(III)V"⟩, 8, prog_11_method_62_code, 6, none), -- 162 R_putTree
  (⟨"IntervalPackerModel", "putBackwards", "(III)V"⟩, 8, prog_11_method_63_code, 6, none), -- 163 R_putBackwards
  (⟨"IntervalPackerModel", "alike", "(IJI)I"⟩, 8, prog_11_method_64_code, 6, (some Jvm.ClassFile.FieldType.int)), -- 164 R_alike
  (⟨"IntervalPackerModel", "distanceOf", "(I)J"⟩, 8, prog_11_method_65_code, 2, (some Jvm.ClassFile.FieldType.long)), -- 165 R_distanceOf
  (⟨"IntervalPackerModel", "putToken", "(II)I"⟩, 8, prog_11_method_66_code, 9, (some Jvm.ClassFile.FieldType.int)), -- 166 R_putToken
  (⟨"IntervalPackerModel", "putRepeated", "(III)V"⟩, 8, prog_11_method_67_code, 4, none), -- 167 R_putRepeated
  (⟨"IntervalPackerModel", "putCopy", "(III)V"⟩, 8, prog_11_method_68_code, 9, none), -- 168 R_putCopy
  (⟨"IntervalPackerModel", "putLength", "(III)V"⟩, 8, prog_11_method_69_code, 4, none), -- 169 R_putLength
  (⟨"IntervalPackerModel", "putLiteral", "(II)V"⟩, 8, prog_11_method_70_code, 11, none), -- 170 R_putLiteral
  (⟨"IntervalPackerModel", "write", "(I)V"⟩, 8, prog_11_method_71_code, 2, none), -- 171 R_write
  (⟨"IntervalPackerModel", "writeNumber", "(JI)V"⟩, 8, prog_11_method_72_code, 5, none), -- 172 R_writeNumber
  (⟨"IntervalPackerModel", "writeSum", "(I)V"⟩, 8, prog_11_method_73_code, 5, none), -- 173 R_writeSum
  (⟨"IntervalPackerModel", "writeVli", "(I)V"⟩, 8, prog_11_method_74_code, 3, none), -- 174 R_writeVli
  (⟨"IntervalPackerModel", "writeZeros", "(I)V"⟩, 8, prog_11_method_75_code, 2, none), -- 175 R_writeZeros
  (⟨"IntervalPackerModel", "squeeze", "(II)Z"⟩, 8, prog_11_method_76_code, 4, (some Jvm.ClassFile.FieldType.boolean)), -- 176 R_squeeze
  (⟨"IntervalPackerModel", "writeChunks", "(II)V"⟩, 8, prog_11_method_77_code, 7, none), -- 177 R_writeChunks
  (⟨"IntervalPackerModel", "writeBlock", "(III)I"⟩, 8, prog_11_method_78_code, 7, (some Jvm.ClassFile.FieldType.int)), -- 178 R_writeBlock
  (⟨"IntervalPackerModel", "pack", "(III)I"⟩, 8, prog_11_method_79_code, 10, (some Jvm.ClassFile.FieldType.int)), -- 179 R_pack
  (⟨"IntervalPacker$BitLine", "learn", "(II)V"⟩, 9, prog_2_method_4_code, 4, none), -- 180 Lin_learn
  (⟨"java/util/Arrays", "rangeCheck", "(III)V"⟩, 10, prog_16_method_30_code, 3, none), -- 181 Arr_rangeCheck
  (⟨"java/util/Arrays", "fill", "([JJ)V"⟩, 10, prog_16_method_101_code, 5, none), -- 182 Arr_fill
  (⟨"java/util/Arrays", "fill", "([II)V"⟩, 10, prog_16_method_103_code, 4, none), -- 183 Arr_fill2
  (⟨"java/util/Arrays", "fill", "([IIII)V"⟩, 10, prog_16_method_104_code, 5, none), -- 184 Arr_fill3
  (⟨"java/lang/Long", "numberOfLeadingZeros", "(J)I"⟩, 11, prog_13_method_48_code, 3, (some Jvm.ClassFile.FieldType.int)), -- 185 Lng_numberOfLeadingZeros
  (⟨"java/lang/Integer", "numberOfLeadingZeros", "(I)I"⟩, 12, prog_12_method_47_code, 2, (some Jvm.ClassFile.FieldType.int))] -- 186 Itg_numberOfLeadingZeros
theorem wd_1_123 : (Jvm.Cond.methodLink "IntervalPacker" (56 : Nat) ({ cls := "IntervalPacker", name := "rowOf", desc := "(Z)LIntervalPacker$Row;" } : Jvm.MethodName)) ∈ zx_WS := zx_r1 (List.mem_of_getElem? (i := 123) rfl) rfl
theorem wd_1_126 : (Jvm.Cond.code ({ cls := "IntervalPacker", name := "rowOf", desc := "(Z)LIntervalPacker$Row;" } : Jvm.MethodName) prog_1_method_15_code (2 : Nat) (Option.some (Jvm.ClassFile.FieldType.object "IntervalPacker$Row"))) ∈ zx_WS := zx_r1 (List.mem_of_getElem? (i := 126) rfl) rfl
theorem ws_0 : Cond.selects "IntervalPacker" ⟨"IntervalPacker", "rowOf", "(Z)LIntervalPacker$Row;"⟩ ⟨"IntervalPacker", "rowOf", "(Z)LIntervalPacker$Row;"⟩ ∈ zx_WS := zx_rs (q := (⟨"IntervalPacker", "rowOf", "(Z)LIntervalPacker$Row;"⟩, 5)) (List.mem_of_getElem? (i := 0) rfl)
theorem wd_1_125 : (Jvm.Cond.instanceMethod ({ cls := "IntervalPacker", name := "rowOf", desc := "(Z)LIntervalPacker$Row;" } : Jvm.MethodName)) ∈ zx_WS := zx_r1 (List.mem_of_getElem? (i := 125) rfl) rfl
theorem wd_0_1 : (Jvm.Cond.initialized "IntervalPacker") ∈ zx_WS := zx_r0 (List.mem_of_getElem? (i := 1) rfl) rfl
theorem vo_0_56_0 : zx_vOK zx_mt 0 56 1 0 13 := ⟨"IntervalPacker", zt_P, 5, _, rfl, rfl, by decide, wd_1_126, Or.inl ⟨rfl, ⟨by decide, by decide⟩, (by decide +kernel), wd_1_123, wd_1_125, ws_0, wd_0_1⟩⟩
theorem wd_1_127 : (Jvm.Cond.methodLink "IntervalPacker" (60 : Nat) ({ cls := "IntervalPacker$Row", name := "hasRoom", desc := "(I)Z" } : Jvm.MethodName)) ∈ zx_WS := zx_r1 (List.mem_of_getElem? (i := 127) rfl) rfl
theorem wd_1_130 : (Jvm.Cond.code ({ cls := "IntervalPacker$Row", name := "hasRoom", desc := "(I)Z" } : Jvm.MethodName) prog_8_method_3_code (2 : Nat) (Option.some Jvm.ClassFile.FieldType.boolean)) ∈ zx_WS := zx_r1 (List.mem_of_getElem? (i := 130) rfl) rfl
theorem wd_1_129 : (Jvm.Cond.selects "IntervalPacker$Row" ({ cls := "IntervalPacker$Row", name := "hasRoom", desc := "(I)Z" } : Jvm.MethodName) ({ cls := "IntervalPacker$Row", name := "hasRoom", desc := "(I)Z" } : Jvm.MethodName)) ∈ zx_WS := zx_r1 (List.mem_of_getElem? (i := 129) rfl) rfl
theorem wd_1_128 : (Jvm.Cond.instanceMethod ({ cls := "IntervalPacker$Row", name := "hasRoom", desc := "(I)Z" } : Jvm.MethodName)) ∈ zx_WS := zx_r1 (List.mem_of_getElem? (i := 128) rfl) rfl
theorem wd_0_2 : (Jvm.Cond.initialized "IntervalPacker$Row") ∈ zx_WS := zx_r0 (List.mem_of_getElem? (i := 2) rfl) rfl
theorem vo_0_60_1 : zx_vOK zx_mt 0 60 1 1 21 := ⟨"IntervalPacker$Row", zt_Row, 3, _, rfl, rfl, by decide, wd_1_130, Or.inl ⟨rfl, ⟨by decide, by decide⟩, (by decide +kernel), wd_1_127, wd_1_128, wd_1_129, wd_0_2⟩⟩
theorem wd_1_131 : (Jvm.Cond.methodLink "IntervalPacker" (64 : Nat) ({ cls := "IntervalPacker$Row", name := "append", desc := "(I)V" } : Jvm.MethodName)) ∈ zx_WS := zx_r1 (List.mem_of_getElem? (i := 131) rfl) rfl
theorem wd_1_134 : (Jvm.Cond.code ({ cls := "IntervalPacker$Row", name := "append", desc := "(I)V" } : Jvm.MethodName) prog_8_method_4_code (2 : Nat) (Option.none : Option Jvm.ClassFile.FieldType)) ∈ zx_WS := zx_r1 (List.mem_of_getElem? (i := 134) rfl) rfl
theorem wd_1_133 : (Jvm.Cond.selects "IntervalPacker$Row" ({ cls := "IntervalPacker$Row", name := "append", desc := "(I)V" } : Jvm.MethodName) ({ cls := "IntervalPacker$Row", name := "append", desc := "(I)V" } : Jvm.MethodName)) ∈ zx_WS := zx_r1 (List.mem_of_getElem? (i := 133) rfl) rfl
theorem wd_1_132 : (Jvm.Cond.instanceMethod ({ cls := "IntervalPacker$Row", name := "append", desc := "(I)V" } : Jvm.MethodName)) ∈ zx_WS := zx_r1 (List.mem_of_getElem? (i := 132) rfl) rfl
theorem vo_0_64_1 : zx_vOK zx_mt 0 64 1 1 22 := ⟨"IntervalPacker$Row", zt_Row, 3, _, rfl, rfl, by decide, wd_1_134, Or.inl ⟨rfl, ⟨by decide, by decide⟩, (by decide +kernel), wd_1_131, wd_1_132, wd_1_133, wd_0_2⟩⟩
theorem wd_1_139 : (Jvm.Cond.methodLink "IntervalPacker" (71 : Nat) ({ cls := "IntervalPacker$Row", name := "repeat", desc := "(JI)V" } : Jvm.MethodName)) ∈ zx_WS := zx_r1 (List.mem_of_getElem? (i := 139) rfl) rfl
theorem wd_1_142 : (Jvm.Cond.code ({ cls := "IntervalPacker$Row", name := "repeat", desc := "(JI)V" } : Jvm.MethodName) prog_8_method_7_code (5 : Nat) (Option.none : Option Jvm.ClassFile.FieldType)) ∈ zx_WS := zx_r1 (List.mem_of_getElem? (i := 142) rfl) rfl
theorem wd_1_141 : (Jvm.Cond.selects "IntervalPacker$Row" ({ cls := "IntervalPacker$Row", name := "repeat", desc := "(JI)V" } : Jvm.MethodName) ({ cls := "IntervalPacker$Row", name := "repeat", desc := "(JI)V" } : Jvm.MethodName)) ∈ zx_WS := zx_r1 (List.mem_of_getElem? (i := 141) rfl) rfl
theorem wd_1_140 : (Jvm.Cond.instanceMethod ({ cls := "IntervalPacker$Row", name := "repeat", desc := "(JI)V" } : Jvm.MethodName)) ∈ zx_WS := zx_r1 (List.mem_of_getElem? (i := 140) rfl) rfl
theorem vo_0_71_1 : zx_vOK zx_mt 0 71 2 1 25 := ⟨"IntervalPacker$Row", zt_Row, 3, _, rfl, rfl, by decide, wd_1_142, Or.inl ⟨rfl, ⟨by decide, by decide⟩, (by decide +kernel), wd_1_139, wd_1_140, wd_1_141, wd_0_2⟩⟩
theorem wd_1_156 : (Jvm.Cond.methodLink "IntervalPacker" (75 : Nat) ({ cls := "IntervalPacker$Row", name := "byteAt", desc := "(I)I" } : Jvm.MethodName)) ∈ zx_WS := zx_r1 (List.mem_of_getElem? (i := 156) rfl) rfl
theorem wd_1_159 : (Jvm.Cond.code ({ cls := "IntervalPacker$Row", name := "byteAt", desc := "(I)I" } : Jvm.MethodName) prog_8_method_8_code (2 : Nat) (Option.some Jvm.ClassFile.FieldType.int)) ∈ zx_WS := zx_r1 (List.mem_of_getElem? (i := 159) rfl) rfl
theorem wd_1_158 : (Jvm.Cond.selects "IntervalPacker$Row" ({ cls := "IntervalPacker$Row", name := "byteAt", desc := "(I)I" } : Jvm.MethodName) ({ cls := "IntervalPacker$Row", name := "byteAt", desc := "(I)I" } : Jvm.MethodName)) ∈ zx_WS := zx_r1 (List.mem_of_getElem? (i := 158) rfl) rfl
theorem wd_1_157 : (Jvm.Cond.instanceMethod ({ cls := "IntervalPacker$Row", name := "byteAt", desc := "(I)I" } : Jvm.MethodName)) ∈ zx_WS := zx_r1 (List.mem_of_getElem? (i := 157) rfl) rfl
theorem vo_0_75_1 : zx_vOK zx_mt 0 75 1 1 26 := ⟨"IntervalPacker$Row", zt_Row, 3, _, rfl, rfl, by decide, wd_1_159, Or.inl ⟨rfl, ⟨by decide, by decide⟩, (by decide +kernel), wd_1_156, wd_1_157, wd_1_158, wd_0_2⟩⟩
theorem wd_1_174 : (Jvm.Cond.methodLink "IntervalPacker" (89 : Nat) ({ cls := "IntervalPacker$Packing", name := "begin", desc := "(LIntervalPacker$Row;II)V" } : Jvm.MethodName)) ∈ zx_WS := zx_r1 (List.mem_of_getElem? (i := 174) rfl) rfl
theorem wd_1_177 : (Jvm.Cond.code ({ cls := "IntervalPacker$Packing", name := "begin", desc := "(LIntervalPacker$Row;II)V" } : Jvm.MethodName) prog_7_method_2_code (4 : Nat) (Option.none : Option Jvm.ClassFile.FieldType)) ∈ zx_WS := zx_r1 (List.mem_of_getElem? (i := 177) rfl) rfl
theorem wd_1_176 : (Jvm.Cond.selects "IntervalPacker$Packing" ({ cls := "IntervalPacker$Packing", name := "begin", desc := "(LIntervalPacker$Row;II)V" } : Jvm.MethodName) ({ cls := "IntervalPacker$Packing", name := "begin", desc := "(LIntervalPacker$Row;II)V" } : Jvm.MethodName)) ∈ zx_WS := zx_r1 (List.mem_of_getElem? (i := 176) rfl) rfl
theorem wd_1_175 : (Jvm.Cond.instanceMethod ({ cls := "IntervalPacker$Packing", name := "begin", desc := "(LIntervalPacker$Row;II)V" } : Jvm.MethodName)) ∈ zx_WS := zx_r1 (List.mem_of_getElem? (i := 175) rfl) rfl
theorem wd_0_8 : (Jvm.Cond.initialized "IntervalPacker$Packing") ∈ zx_WS := zx_r0 (List.mem_of_getElem? (i := 8) rfl) rfl
theorem vo_0_89_7 : zx_vOK zx_mt 0 89 3 7 86 := ⟨"IntervalPacker$Packing", zt_Pkg, 17, _, rfl, rfl, by decide, wd_1_177, Or.inl ⟨rfl, ⟨by decide, by decide⟩, (by decide +kernel), wd_1_174, wd_1_175, wd_1_176, wd_0_8⟩⟩
theorem wd_1_201 : (Jvm.Cond.methodLink "IntervalPacker" (93 : Nat) ({ cls := "IntervalPacker$Packing", name := "writeHead", desc := "()V" } : Jvm.MethodName)) ∈ zx_WS := zx_r1 (List.mem_of_getElem? (i := 201) rfl) rfl
theorem wd_1_204 : (Jvm.Cond.code ({ cls := "IntervalPacker$Packing", name := "writeHead", desc := "()V" } : Jvm.MethodName) prog_7_method_3_code (1 : Nat) (Option.none : Option Jvm.ClassFile.FieldType)) ∈ zx_WS := zx_r1 (List.mem_of_getElem? (i := 204) rfl) rfl
theorem wd_1_203 : (Jvm.Cond.selects "IntervalPacker$Packing" ({ cls := "IntervalPacker$Packing", name := "writeHead", desc := "()V" } : Jvm.MethodName) ({ cls := "IntervalPacker$Packing", name := "writeHead", desc := "()V" } : Jvm.MethodName)) ∈ zx_WS := zx_r1 (List.mem_of_getElem? (i := 203) rfl) rfl
theorem wd_1_202 : (Jvm.Cond.instanceMethod ({ cls := "IntervalPacker$Packing", name := "writeHead", desc := "()V" } : Jvm.MethodName)) ∈ zx_WS := zx_r1 (List.mem_of_getElem? (i := 202) rfl) rfl
theorem vo_0_93_7 : zx_vOK zx_mt 0 93 0 7 87 := ⟨"IntervalPacker$Packing", zt_Pkg, 17, _, rfl, rfl, by decide, wd_1_204, Or.inl ⟨rfl, ⟨by decide, by decide⟩, (by decide +kernel), wd_1_201, wd_1_202, wd_1_203, wd_0_8⟩⟩
theorem wd_1_208 : (Jvm.Cond.methodLink "IntervalPacker" (102 : Nat) ({ cls := "IntervalPacker$Packing", name := "writePiece", desc := "(II)V" } : Jvm.MethodName)) ∈ zx_WS := zx_r1 (List.mem_of_getElem? (i := 208) rfl) rfl
theorem wd_1_211 : (Jvm.Cond.code ({ cls := "IntervalPacker$Packing", name := "writePiece", desc := "(II)V" } : Jvm.MethodName) prog_7_method_4_code (3 : Nat) (Option.none : Option Jvm.ClassFile.FieldType)) ∈ zx_WS := zx_r1 (List.mem_of_getElem? (i := 211) rfl) rfl
theorem wd_1_210 : (Jvm.Cond.selects "IntervalPacker$Packing" ({ cls := "IntervalPacker$Packing", name := "writePiece", desc := "(II)V" } : Jvm.MethodName) ({ cls := "IntervalPacker$Packing", name := "writePiece", desc := "(II)V" } : Jvm.MethodName)) ∈ zx_WS := zx_r1 (List.mem_of_getElem? (i := 210) rfl) rfl
theorem wd_1_209 : (Jvm.Cond.instanceMethod ({ cls := "IntervalPacker$Packing", name := "writePiece", desc := "(II)V" } : Jvm.MethodName)) ∈ zx_WS := zx_r1 (List.mem_of_getElem? (i := 209) rfl) rfl
theorem vo_0_102_7 : zx_vOK zx_mt 0 102 2 7 88 := ⟨"IntervalPacker$Packing", zt_Pkg, 17, _, rfl, rfl, by decide, wd_1_211, Or.inl ⟨rfl, ⟨by decide, by decide⟩, (by decide +kernel), wd_1_208, wd_1_209, wd_1_210, wd_0_8⟩⟩
theorem wd_2_138 : (Jvm.Cond.methodLink "IntervalPacker" (106 : Nat) ({ cls := "IntervalPacker$Packing", name := "closeBlock", desc := "()V" } : Jvm.MethodName)) ∈ zx_WS := zx_r2 (List.mem_of_getElem? (i := 138) rfl) rfl
theorem wd_2_141 : (Jvm.Cond.code ({ cls := "IntervalPacker$Packing", name := "closeBlock", desc := "()V" } : Jvm.MethodName) prog_7_method_13_code (1 : Nat) (Option.none : Option Jvm.ClassFile.FieldType)) ∈ zx_WS := zx_r2 (List.mem_of_getElem? (i := 141) rfl) rfl
theorem wd_2_140 : (Jvm.Cond.selects "IntervalPacker$Packing" ({ cls := "IntervalPacker$Packing", name := "closeBlock", desc := "()V" } : Jvm.MethodName) ({ cls := "IntervalPacker$Packing", name := "closeBlock", desc := "()V" } : Jvm.MethodName)) ∈ zx_WS := zx_r2 (List.mem_of_getElem? (i := 140) rfl) rfl
theorem wd_2_139 : (Jvm.Cond.instanceMethod ({ cls := "IntervalPacker$Packing", name := "closeBlock", desc := "()V" } : Jvm.MethodName)) ∈ zx_WS := zx_r2 (List.mem_of_getElem? (i := 139) rfl) rfl
theorem vo_0_106_7 : zx_vOK zx_mt 0 106 0 7 97 := ⟨"IntervalPacker$Packing", zt_Pkg, 17, _, rfl, rfl, by decide, wd_2_141, Or.inl ⟨rfl, ⟨by decide, by decide⟩, (by decide +kernel), wd_2_138, wd_2_139, wd_2_140, wd_0_8⟩⟩
theorem wd_2_154 : (Jvm.Cond.methodLink "IntervalPacker" (109 : Nat) ({ cls := "IntervalPacker$Packing", name := "writeIndex", desc := "()V" } : Jvm.MethodName)) ∈ zx_WS := zx_r2 (List.mem_of_getElem? (i := 154) rfl) rfl
theorem wd_2_157 : (Jvm.Cond.code ({ cls := "IntervalPacker$Packing", name := "writeIndex", desc := "()V" } : Jvm.MethodName) prog_7_method_16_code (2 : Nat) (Option.none : Option Jvm.ClassFile.FieldType)) ∈ zx_WS := zx_r2 (List.mem_of_getElem? (i := 157) rfl) rfl
theorem wd_2_156 : (Jvm.Cond.selects "IntervalPacker$Packing" ({ cls := "IntervalPacker$Packing", name := "writeIndex", desc := "()V" } : Jvm.MethodName) ({ cls := "IntervalPacker$Packing", name := "writeIndex", desc := "()V" } : Jvm.MethodName)) ∈ zx_WS := zx_r2 (List.mem_of_getElem? (i := 156) rfl) rfl
theorem wd_2_155 : (Jvm.Cond.instanceMethod ({ cls := "IntervalPacker$Packing", name := "writeIndex", desc := "()V" } : Jvm.MethodName)) ∈ zx_WS := zx_r2 (List.mem_of_getElem? (i := 155) rfl) rfl
theorem vo_0_109_7 : zx_vOK zx_mt 0 109 0 7 100 := ⟨"IntervalPacker$Packing", zt_Pkg, 17, _, rfl, rfl, by decide, wd_2_157, Or.inl ⟨rfl, ⟨by decide, by decide⟩, (by decide +kernel), wd_2_154, wd_2_155, wd_2_156, wd_0_8⟩⟩
theorem wd_2_164 : (Jvm.Cond.methodLink "IntervalPacker" (112 : Nat) ({ cls := "IntervalPacker$Packing", name := "writeEnd", desc := "()V" } : Jvm.MethodName)) ∈ zx_WS := zx_r2 (List.mem_of_getElem? (i := 164) rfl) rfl
theorem wd_2_167 : (Jvm.Cond.code ({ cls := "IntervalPacker$Packing", name := "writeEnd", desc := "()V" } : Jvm.MethodName) prog_7_method_17_code (1 : Nat) (Option.none : Option Jvm.ClassFile.FieldType)) ∈ zx_WS := zx_r2 (List.mem_of_getElem? (i := 167) rfl) rfl
theorem wd_2_166 : (Jvm.Cond.selects "IntervalPacker$Packing" ({ cls := "IntervalPacker$Packing", name := "writeEnd", desc := "()V" } : Jvm.MethodName) ({ cls := "IntervalPacker$Packing", name := "writeEnd", desc := "()V" } : Jvm.MethodName)) ∈ zx_WS := zx_r2 (List.mem_of_getElem? (i := 166) rfl) rfl
theorem wd_2_165 : (Jvm.Cond.instanceMethod ({ cls := "IntervalPacker$Packing", name := "writeEnd", desc := "()V" } : Jvm.MethodName)) ∈ zx_WS := zx_r2 (List.mem_of_getElem? (i := 165) rfl) rfl
theorem vo_0_112_7 : zx_vOK zx_mt 0 112 0 7 101 := ⟨"IntervalPacker$Packing", zt_Pkg, 17, _, rfl, rfl, by decide, wd_2_167, Or.inl ⟨rfl, ⟨by decide, by decide⟩, (by decide +kernel), wd_2_164, wd_2_165, wd_2_166, wd_0_8⟩⟩
theorem wd_2_168 : (Jvm.Cond.methodLink "IntervalPacker" (122 : Nat) ({ cls := "IntervalPacker$Row", name := "become", desc := "(LIntervalPacker$Row;)V" } : Jvm.MethodName)) ∈ zx_WS := zx_r2 (List.mem_of_getElem? (i := 168) rfl) rfl
theorem wd_2_171 : (Jvm.Cond.code ({ cls := "IntervalPacker$Row", name := "become", desc := "(LIntervalPacker$Row;)V" } : Jvm.MethodName) prog_8_method_10_code (2 : Nat) (Option.none : Option Jvm.ClassFile.FieldType)) ∈ zx_WS := zx_r2 (List.mem_of_getElem? (i := 171) rfl) rfl
theorem wd_2_170 : (Jvm.Cond.selects "IntervalPacker$Row" ({ cls := "IntervalPacker$Row", name := "become", desc := "(LIntervalPacker$Row;)V" } : Jvm.MethodName) ({ cls := "IntervalPacker$Row", name := "become", desc := "(LIntervalPacker$Row;)V" } : Jvm.MethodName)) ∈ zx_WS := zx_r2 (List.mem_of_getElem? (i := 170) rfl) rfl
theorem wd_2_169 : (Jvm.Cond.instanceMethod ({ cls := "IntervalPacker$Row", name := "become", desc := "(LIntervalPacker$Row;)V" } : Jvm.MethodName)) ∈ zx_WS := zx_r2 (List.mem_of_getElem? (i := 169) rfl) rfl
theorem vo_0_122_1 : zx_vOK zx_mt 0 122 1 1 28 := ⟨"IntervalPacker$Row", zt_Row, 3, _, rfl, rfl, by decide, wd_2_171, Or.inl ⟨rfl, ⟨by decide, by decide⟩, (by decide +kernel), wd_2_168, wd_2_169, wd_2_170, wd_0_2⟩⟩
theorem wd_2_180 : (Jvm.Cond.methodLink "IntervalPacker" (126 : Nat) ({ cls := "IntervalPacker$Unpacking", name := "begin", desc := "(LIntervalPacker$Row;)V" } : Jvm.MethodName)) ∈ zx_WS := zx_r2 (List.mem_of_getElem? (i := 180) rfl) rfl
theorem wd_2_183 : (Jvm.Cond.code ({ cls := "IntervalPacker$Unpacking", name := "begin", desc := "(LIntervalPacker$Row;)V" } : Jvm.MethodName) prog_9_method_2_code (2 : Nat) (Option.none : Option Jvm.ClassFile.FieldType)) ∈ zx_WS := zx_r2 (List.mem_of_getElem? (i := 183) rfl) rfl
theorem wd_2_182 : (Jvm.Cond.selects "IntervalPacker$Unpacking" ({ cls := "IntervalPacker$Unpacking", name := "begin", desc := "(LIntervalPacker$Row;)V" } : Jvm.MethodName) ({ cls := "IntervalPacker$Unpacking", name := "begin", desc := "(LIntervalPacker$Row;)V" } : Jvm.MethodName)) ∈ zx_WS := zx_r2 (List.mem_of_getElem? (i := 182) rfl) rfl
theorem wd_2_181 : (Jvm.Cond.instanceMethod ({ cls := "IntervalPacker$Unpacking", name := "begin", desc := "(LIntervalPacker$Row;)V" } : Jvm.MethodName)) ∈ zx_WS := zx_r2 (List.mem_of_getElem? (i := 181) rfl) rfl
theorem wd_0_6 : (Jvm.Cond.initialized "IntervalPacker$Unpacking") ∈ zx_WS := zx_r0 (List.mem_of_getElem? (i := 6) rfl) rfl
theorem vo_0_126_6 : zx_vOK zx_mt 0 126 1 6 69 := ⟨"IntervalPacker$Unpacking", zt_Unp, 19, _, rfl, rfl, by decide, wd_2_183, Or.inl ⟨rfl, ⟨by decide, by decide⟩, (by decide +kernel), wd_2_180, wd_2_181, wd_2_182, wd_0_6⟩⟩
theorem wd_2_194 : (Jvm.Cond.methodLink "IntervalPacker" (128 : Nat) ({ cls := "IntervalPacker$Unpacking", name := "readStart", desc := "()V" } : Jvm.MethodName)) ∈ zx_WS := zx_r2 (List.mem_of_getElem? (i := 194) rfl) rfl
theorem wd_2_197 : (Jvm.Cond.code ({ cls := "IntervalPacker$Unpacking", name := "readStart", desc := "()V" } : Jvm.MethodName) prog_9_method_3_code (2 : Nat) (Option.none : Option Jvm.ClassFile.FieldType)) ∈ zx_WS := zx_r2 (List.mem_of_getElem? (i := 197) rfl) rfl
theorem wd_2_196 : (Jvm.Cond.selects "IntervalPacker$Unpacking" ({ cls := "IntervalPacker$Unpacking", name := "readStart", desc := "()V" } : Jvm.MethodName) ({ cls := "IntervalPacker$Unpacking", name := "readStart", desc := "()V" } : Jvm.MethodName)) ∈ zx_WS := zx_r2 (List.mem_of_getElem? (i := 196) rfl) rfl
theorem wd_2_195 : (Jvm.Cond.instanceMethod ({ cls := "IntervalPacker$Unpacking", name := "readStart", desc := "()V" } : Jvm.MethodName)) ∈ zx_WS := zx_r2 (List.mem_of_getElem? (i := 195) rfl) rfl
theorem vo_0_128_6 : zx_vOK zx_mt 0 128 0 6 70 := ⟨"IntervalPacker$Unpacking", zt_Unp, 19, _, rfl, rfl, by decide, wd_2_197, Or.inl ⟨rfl, ⟨by decide, by decide⟩, (by decide +kernel), wd_2_194, wd_2_195, wd_2_196, wd_0_6⟩⟩
theorem wd_2_219 : (Jvm.Cond.methodLink "IntervalPacker" (131 : Nat) ({ cls := "IntervalPacker$Unpacking", name := "comesBlock", desc := "()Z" } : Jvm.MethodName)) ∈ zx_WS := zx_r2 (List.mem_of_getElem? (i := 219) rfl) rfl
theorem wd_2_222 : (Jvm.Cond.code ({ cls := "IntervalPacker$Unpacking", name := "comesBlock", desc := "()Z" } : Jvm.MethodName) prog_9_method_4_code (1 : Nat) (Option.some Jvm.ClassFile.FieldType.boolean)) ∈ zx_WS := zx_r2 (List.mem_of_getElem? (i := 222) rfl) rfl
theorem wd_2_221 : (Jvm.Cond.selects "IntervalPacker$Unpacking" ({ cls := "IntervalPacker$Unpacking", name := "comesBlock", desc := "()Z" } : Jvm.MethodName) ({ cls := "IntervalPacker$Unpacking", name := "comesBlock", desc := "()Z" } : Jvm.MethodName)) ∈ zx_WS := zx_r2 (List.mem_of_getElem? (i := 221) rfl) rfl
theorem wd_2_220 : (Jvm.Cond.instanceMethod ({ cls := "IntervalPacker$Unpacking", name := "comesBlock", desc := "()Z" } : Jvm.MethodName)) ∈ zx_WS := zx_r2 (List.mem_of_getElem? (i := 220) rfl) rfl
theorem vo_0_131_6 : zx_vOK zx_mt 0 131 0 6 71 := ⟨"IntervalPacker$Unpacking", zt_Unp, 19, _, rfl, rfl, by decide, wd_2_222, Or.inl ⟨rfl, ⟨by decide, by decide⟩, (by decide +kernel), wd_2_219, wd_2_220, wd_2_221, wd_0_6⟩⟩
theorem wd_2_223 : (Jvm.Cond.methodLink "IntervalPacker" (135 : Nat) ({ cls := "IntervalPacker$Unpacking", name := "readBlock", desc := "()V" } : Jvm.MethodName)) ∈ zx_WS := zx_r2 (List.mem_of_getElem? (i := 223) rfl) rfl
theorem wd_2_226 : (Jvm.Cond.code ({ cls := "IntervalPacker$Unpacking", name := "readBlock", desc := "()V" } : Jvm.MethodName) prog_9_method_5_code (3 : Nat) (Option.none : Option Jvm.ClassFile.FieldType)) ∈ zx_WS := zx_r2 (List.mem_of_getElem? (i := 226) rfl) rfl
theorem wd_2_225 : (Jvm.Cond.selects "IntervalPacker$Unpacking" ({ cls := "IntervalPacker$Unpacking", name := "readBlock", desc := "()V" } : Jvm.MethodName) ({ cls := "IntervalPacker$Unpacking", name := "readBlock", desc := "()V" } : Jvm.MethodName)) ∈ zx_WS := zx_r2 (List.mem_of_getElem? (i := 225) rfl) rfl
theorem wd_2_224 : (Jvm.Cond.instanceMethod ({ cls := "IntervalPacker$Unpacking", name := "readBlock", desc := "()V" } : Jvm.MethodName)) ∈ zx_WS := zx_r2 (List.mem_of_getElem? (i := 224) rfl) rfl
theorem vo_0_135_6 : zx_vOK zx_mt 0 135 0 6 72 := ⟨"IntervalPacker$Unpacking", zt_Unp, 19, _, rfl, rfl, by decide, wd_2_226, Or.inl ⟨rfl, ⟨by decide, by decide⟩, (by decide +kernel), wd_2_223, wd_2_224, wd_2_225, wd_0_6⟩⟩
theorem wd_3_91 : (Jvm.Cond.methodLink "IntervalPacker" (138 : Nat) ({ cls := "IntervalPacker$Unpacking", name := "readIndex", desc := "()V" } : Jvm.MethodName)) ∈ zx_WS := zx_r3 (List.mem_of_getElem? (i := 91) rfl) rfl
theorem wd_3_94 : (Jvm.Cond.code ({ cls := "IntervalPacker$Unpacking", name := "readIndex", desc := "()V" } : Jvm.MethodName) prog_9_method_17_code (3 : Nat) (Option.none : Option Jvm.ClassFile.FieldType)) ∈ zx_WS := zx_r3 (List.mem_of_getElem? (i := 94) rfl) rfl
theorem wd_3_93 : (Jvm.Cond.selects "IntervalPacker$Unpacking" ({ cls := "IntervalPacker$Unpacking", name := "readIndex", desc := "()V" } : Jvm.MethodName) ({ cls := "IntervalPacker$Unpacking", name := "readIndex", desc := "()V" } : Jvm.MethodName)) ∈ zx_WS := zx_r3 (List.mem_of_getElem? (i := 93) rfl) rfl
theorem wd_3_92 : (Jvm.Cond.instanceMethod ({ cls := "IntervalPacker$Unpacking", name := "readIndex", desc := "()V" } : Jvm.MethodName)) ∈ zx_WS := zx_r3 (List.mem_of_getElem? (i := 92) rfl) rfl
theorem vo_0_138_6 : zx_vOK zx_mt 0 138 0 6 84 := ⟨"IntervalPacker$Unpacking", zt_Unp, 19, _, rfl, rfl, by decide, wd_3_94, Or.inl ⟨rfl, ⟨by decide, by decide⟩, (by decide +kernel), wd_3_91, wd_3_92, wd_3_93, wd_0_6⟩⟩
theorem wd_3_100 : (Jvm.Cond.methodLink "IntervalPacker" (141 : Nat) ({ cls := "IntervalPacker$Unpacking", name := "readEnd", desc := "()V" } : Jvm.MethodName)) ∈ zx_WS := zx_r3 (List.mem_of_getElem? (i := 100) rfl) rfl
theorem wd_3_103 : (Jvm.Cond.code ({ cls := "IntervalPacker$Unpacking", name := "readEnd", desc := "()V" } : Jvm.MethodName) prog_9_method_18_code (3 : Nat) (Option.none : Option Jvm.ClassFile.FieldType)) ∈ zx_WS := zx_r3 (List.mem_of_getElem? (i := 103) rfl) rfl
theorem wd_3_102 : (Jvm.Cond.selects "IntervalPacker$Unpacking" ({ cls := "IntervalPacker$Unpacking", name := "readEnd", desc := "()V" } : Jvm.MethodName) ({ cls := "IntervalPacker$Unpacking", name := "readEnd", desc := "()V" } : Jvm.MethodName)) ∈ zx_WS := zx_r3 (List.mem_of_getElem? (i := 102) rfl) rfl
theorem wd_3_101 : (Jvm.Cond.instanceMethod ({ cls := "IntervalPacker$Unpacking", name := "readEnd", desc := "()V" } : Jvm.MethodName)) ∈ zx_WS := zx_r3 (List.mem_of_getElem? (i := 101) rfl) rfl
theorem vo_0_141_6 : zx_vOK zx_mt 0 141 0 6 85 := ⟨"IntervalPacker$Unpacking", zt_Unp, 19, _, rfl, rfl, by decide, wd_3_103, Or.inl ⟨rfl, ⟨by decide, by decide⟩, (by decide +kernel), wd_3_100, wd_3_101, wd_3_102, wd_0_6⟩⟩
theorem wd_3_104 : (Jvm.Cond.methodLink "IntervalPacker" (148 : Nat) ({ cls := "IntervalPacker$Cursor", name := "isSound", desc := "()Z" } : Jvm.MethodName)) ∈ zx_WS := zx_r3 (List.mem_of_getElem? (i := 104) rfl) rfl
theorem wd_3_23 : (Jvm.Cond.code ({ cls := "IntervalPacker$Cursor", name := "isSound", desc := "()Z" } : Jvm.MethodName) prog_5_method_3_code (1 : Nat) (Option.some Jvm.ClassFile.FieldType.boolean)) ∈ zx_WS := zx_r3 (List.mem_of_getElem? (i := 23) rfl) rfl
theorem wd_3_22 : (Jvm.Cond.selects "IntervalPacker$Cursor" ({ cls := "IntervalPacker$Cursor", name := "isSound", desc := "()Z" } : Jvm.MethodName) ({ cls := "IntervalPacker$Cursor", name := "isSound", desc := "()Z" } : Jvm.MethodName)) ∈ zx_WS := zx_r3 (List.mem_of_getElem? (i := 22) rfl) rfl
theorem wd_3_21 : (Jvm.Cond.instanceMethod ({ cls := "IntervalPacker$Cursor", name := "isSound", desc := "()Z" } : Jvm.MethodName)) ∈ zx_WS := zx_r3 (List.mem_of_getElem? (i := 21) rfl) rfl
theorem wd_0_7 : (Jvm.Cond.initialized "IntervalPacker$Cursor") ∈ zx_WS := zx_r0 (List.mem_of_getElem? (i := 7) rfl) rfl
theorem vo_0_148_2 : zx_vOK zx_mt 0 148 0 2 30 := ⟨"IntervalPacker$Cursor", zt_Cur, 6, _, rfl, rfl, by decide, wd_3_23, Or.inl ⟨rfl, ⟨by decide, by decide⟩, (by decide +kernel), wd_3_104, wd_3_21, wd_3_22, wd_0_7⟩⟩
theorem wd_1_147 : (Jvm.Cond.methodLink "IntervalPacker$Row" (23 : Nat) ({ cls := "IntervalPacker$Row", name := "append", desc := "(I)V" } : Jvm.MethodName)) ∈ zx_WS := zx_r1 (List.mem_of_getElem? (i := 147) rfl) rfl
theorem vo_1_23_1 : zx_vOK zx_mt 1 23 1 1 22 := ⟨"IntervalPacker$Row", zt_Row, 3, _, rfl, rfl, by decide, wd_1_134, Or.inl ⟨rfl, ⟨by decide, by decide⟩, (by decide +kernel), wd_1_147, wd_1_132, wd_1_133, wd_0_2⟩⟩
theorem wd_1_143 : (Jvm.Cond.methodLink "IntervalPacker$Row" (27 : Nat) ({ cls := "IntervalPacker$Row", name := "byteBack", desc := "(IJ)I" } : Jvm.MethodName)) ∈ zx_WS := zx_r1 (List.mem_of_getElem? (i := 143) rfl) rfl
theorem wd_1_146 : (Jvm.Cond.code ({ cls := "IntervalPacker$Row", name := "byteBack", desc := "(IJ)I" } : Jvm.MethodName) prog_8_method_9_code (4 : Nat) (Option.some Jvm.ClassFile.FieldType.int)) ∈ zx_WS := zx_r1 (List.mem_of_getElem? (i := 146) rfl) rfl
theorem wd_1_145 : (Jvm.Cond.selects "IntervalPacker$Row" ({ cls := "IntervalPacker$Row", name := "byteBack", desc := "(IJ)I" } : Jvm.MethodName) ({ cls := "IntervalPacker$Row", name := "byteBack", desc := "(IJ)I" } : Jvm.MethodName)) ∈ zx_WS := zx_r1 (List.mem_of_getElem? (i := 145) rfl) rfl
theorem wd_1_144 : (Jvm.Cond.instanceMethod ({ cls := "IntervalPacker$Row", name := "byteBack", desc := "(IJ)I" } : Jvm.MethodName)) ∈ zx_WS := zx_r1 (List.mem_of_getElem? (i := 144) rfl) rfl
theorem vo_1_27_1 : zx_vOK zx_mt 1 27 2 1 27 := ⟨"IntervalPacker$Row", zt_Row, 3, _, rfl, rfl, by decide, wd_1_146, Or.inl ⟨rfl, ⟨by decide, by decide⟩, (by decide +kernel), wd_1_143, wd_1_144, wd_1_145, wd_0_2⟩⟩
theorem wd_2_203 : (Jvm.Cond.methodLink "IntervalPacker$Cursor" (41 : Nat) ({ cls := "IntervalPacker$Cursor", name := "fail", desc := "(II)V" } : Jvm.MethodName)) ∈ zx_WS := zx_r2 (List.mem_of_getElem? (i := 203) rfl) rfl
theorem wd_2_206 : (Jvm.Cond.code ({ cls := "IntervalPacker$Cursor", name := "fail", desc := "(II)V" } : Jvm.MethodName) prog_5_method_4_code (3 : Nat) (Option.none : Option Jvm.ClassFile.FieldType)) ∈ zx_WS := zx_r2 (List.mem_of_getElem? (i := 206) rfl) rfl
theorem wd_2_205 : (Jvm.Cond.selects "IntervalPacker$Cursor" ({ cls := "IntervalPacker$Cursor", name := "fail", desc := "(II)V" } : Jvm.MethodName) ({ cls := "IntervalPacker$Cursor", name := "fail", desc := "(II)V" } : Jvm.MethodName)) ∈ zx_WS := zx_r2 (List.mem_of_getElem? (i := 205) rfl) rfl
theorem wd_2_204 : (Jvm.Cond.instanceMethod ({ cls := "IntervalPacker$Cursor", name := "fail", desc := "(II)V" } : Jvm.MethodName)) ∈ zx_WS := zx_r2 (List.mem_of_getElem? (i := 204) rfl) rfl
theorem vo_2_41_2 : zx_vOK zx_mt 2 41 2 2 31 := ⟨"IntervalPacker$Cursor", zt_Cur, 6, _, rfl, rfl, by decide, wd_2_206, Or.inl ⟨rfl, ⟨by decide, by decide⟩, (by decide +kernel), wd_2_203, wd_2_204, wd_2_205, wd_0_7⟩⟩
theorem wd_3_11 : (Jvm.Cond.methodLink "IntervalPacker$Cursor" (45 : Nat) ({ cls := "IntervalPacker$Cursor", name := "expectWithin", desc := "(II)V" } : Jvm.MethodName)) ∈ zx_WS := zx_r3 (List.mem_of_getElem? (i := 11) rfl) rfl
theorem wd_3_14 : (Jvm.Cond.code ({ cls := "IntervalPacker$Cursor", name := "expectWithin", desc := "(II)V" } : Jvm.MethodName) prog_5_method_9_code (3 : Nat) (Option.none : Option Jvm.ClassFile.FieldType)) ∈ zx_WS := zx_r3 (List.mem_of_getElem? (i := 14) rfl) rfl
theorem wd_3_13 : (Jvm.Cond.selects "IntervalPacker$Cursor" ({ cls := "IntervalPacker$Cursor", name := "expectWithin", desc := "(II)V" } : Jvm.MethodName) ({ cls := "IntervalPacker$Cursor", name := "expectWithin", desc := "(II)V" } : Jvm.MethodName)) ∈ zx_WS := zx_r3 (List.mem_of_getElem? (i := 13) rfl) rfl
theorem wd_3_12 : (Jvm.Cond.instanceMethod ({ cls := "IntervalPacker$Cursor", name := "expectWithin", desc := "(II)V" } : Jvm.MethodName)) ∈ zx_WS := zx_r3 (List.mem_of_getElem? (i := 12) rfl) rfl
theorem vo_2_45_2 : zx_vOK zx_mt 2 45 2 2 36 := ⟨"IntervalPacker$Cursor", zt_Cur, 6, _, rfl, rfl, by decide, wd_3_14, Or.inl ⟨rfl, ⟨by decide, by decide⟩, (by decide +kernel), wd_3_11, wd_3_12, wd_3_13, wd_0_7⟩⟩
theorem wd_2_214 : (Jvm.Cond.methodLink "IntervalPacker$Cursor" (48 : Nat) ({ cls := "IntervalPacker$Cursor", name := "has", desc := "(I)Z" } : Jvm.MethodName)) ∈ zx_WS := zx_r2 (List.mem_of_getElem? (i := 214) rfl) rfl
theorem wd_2_202 : (Jvm.Cond.code ({ cls := "IntervalPacker$Cursor", name := "has", desc := "(I)Z" } : Jvm.MethodName) prog_5_method_7_code (2 : Nat) (Option.some Jvm.ClassFile.FieldType.boolean)) ∈ zx_WS := zx_r2 (List.mem_of_getElem? (i := 202) rfl) rfl
theorem wd_2_201 : (Jvm.Cond.selects "IntervalPacker$Cursor" ({ cls := "IntervalPacker$Cursor", name := "has", desc := "(I)Z" } : Jvm.MethodName) ({ cls := "IntervalPacker$Cursor", name := "has", desc := "(I)Z" } : Jvm.MethodName)) ∈ zx_WS := zx_r2 (List.mem_of_getElem? (i := 201) rfl) rfl
theorem wd_2_200 : (Jvm.Cond.instanceMethod ({ cls := "IntervalPacker$Cursor", name := "has", desc := "(I)Z" } : Jvm.MethodName)) ∈ zx_WS := zx_r2 (List.mem_of_getElem? (i := 200) rfl) rfl
theorem vo_2_48_2 : zx_vOK zx_mt 2 48 1 2 34 := ⟨"IntervalPacker$Cursor", zt_Cur, 6, _, rfl, rfl, by decide, wd_2_202, Or.inl ⟨rfl, ⟨by decide, by decide⟩, (by decide +kernel), wd_2_214, wd_2_200, wd_2_201, wd_0_7⟩⟩
theorem wd_3_89 : (Jvm.Cond.methodLink "IntervalPacker$Cursor" (52 : Nat) ({ cls := "IntervalPacker$Cursor", name := "expectByte", desc := "(I)V" } : Jvm.MethodName)) ∈ zx_WS := zx_r3 (List.mem_of_getElem? (i := 89) rfl) rfl
theorem wd_3_10 : (Jvm.Cond.code ({ cls := "IntervalPacker$Cursor", name := "expectByte", desc := "(I)V" } : Jvm.MethodName) prog_5_method_8_code (2 : Nat) (Option.none : Option Jvm.ClassFile.FieldType)) ∈ zx_WS := zx_r3 (List.mem_of_getElem? (i := 10) rfl) rfl
theorem wd_3_9 : (Jvm.Cond.selects "IntervalPacker$Cursor" ({ cls := "IntervalPacker$Cursor", name := "expectByte", desc := "(I)V" } : Jvm.MethodName) ({ cls := "IntervalPacker$Cursor", name := "expectByte", desc := "(I)V" } : Jvm.MethodName)) ∈ zx_WS := zx_r3 (List.mem_of_getElem? (i := 9) rfl) rfl
theorem wd_3_8 : (Jvm.Cond.instanceMethod ({ cls := "IntervalPacker$Cursor", name := "expectByte", desc := "(I)V" } : Jvm.MethodName)) ∈ zx_WS := zx_r3 (List.mem_of_getElem? (i := 8) rfl) rfl
theorem vo_2_52_2 : zx_vOK zx_mt 2 52 1 2 35 := ⟨"IntervalPacker$Cursor", zt_Cur, 6, _, rfl, rfl, by decide, wd_3_10, Or.inl ⟨rfl, ⟨by decide, by decide⟩, (by decide +kernel), wd_3_89, wd_3_8, wd_3_9, wd_0_7⟩⟩
theorem wd_2_215 : (Jvm.Cond.methodLink "IntervalPacker$Cursor" (56 : Nat) ({ cls := "IntervalPacker$Cursor", name := "lowFirst", desc := "(II)J" } : Jvm.MethodName)) ∈ zx_WS := zx_r2 (List.mem_of_getElem? (i := 215) rfl) rfl
theorem wd_2_218 : (Jvm.Cond.code ({ cls := "IntervalPacker$Cursor", name := "lowFirst", desc := "(II)J" } : Jvm.MethodName) prog_5_method_11_code (6 : Nat) (Option.some Jvm.ClassFile.FieldType.long)) ∈ zx_WS := zx_r2 (List.mem_of_getElem? (i := 218) rfl) rfl
theorem wd_2_217 : (Jvm.Cond.selects "IntervalPacker$Cursor" ({ cls := "IntervalPacker$Cursor", name := "lowFirst", desc := "(II)J" } : Jvm.MethodName) ({ cls := "IntervalPacker$Cursor", name := "lowFirst", desc := "(II)J" } : Jvm.MethodName)) ∈ zx_WS := zx_r2 (List.mem_of_getElem? (i := 217) rfl) rfl
theorem wd_2_216 : (Jvm.Cond.instanceMethod ({ cls := "IntervalPacker$Cursor", name := "lowFirst", desc := "(II)J" } : Jvm.MethodName)) ∈ zx_WS := zx_r2 (List.mem_of_getElem? (i := 216) rfl) rfl
theorem vo_2_56_2 : zx_vOK zx_mt 2 56 2 2 38 := ⟨"IntervalPacker$Cursor", zt_Cur, 6, _, rfl, rfl, by decide, wd_2_218, Or.inl ⟨rfl, ⟨by decide, by decide⟩, (by decide +kernel), wd_2_215, wd_2_216, wd_2_217, wd_0_7⟩⟩
theorem wd_3_99 : (Jvm.Cond.methodLink "IntervalPacker$Cursor" (62 : Nat) ({ cls := "IntervalPacker$Cursor", name := "readNumber", desc := "()J" } : Jvm.MethodName)) ∈ zx_WS := zx_r3 (List.mem_of_getElem? (i := 99) rfl) rfl
theorem wd_3_5 : (Jvm.Cond.code ({ cls := "IntervalPacker$Cursor", name := "readNumber", desc := "()J" } : Jvm.MethodName) prog_5_method_14_code (5 : Nat) (Option.some Jvm.ClassFile.FieldType.long)) ∈ zx_WS := zx_r3 (List.mem_of_getElem? (i := 5) rfl) rfl
theorem wd_3_4 : (Jvm.Cond.selects "IntervalPacker$Cursor" ({ cls := "IntervalPacker$Cursor", name := "readNumber", desc := "()J" } : Jvm.MethodName) ({ cls := "IntervalPacker$Cursor", name := "readNumber", desc := "()J" } : Jvm.MethodName)) ∈ zx_WS := zx_r3 (List.mem_of_getElem? (i := 4) rfl) rfl
theorem wd_3_3 : (Jvm.Cond.instanceMethod ({ cls := "IntervalPacker$Cursor", name := "readNumber", desc := "()J" } : Jvm.MethodName)) ∈ zx_WS := zx_r3 (List.mem_of_getElem? (i := 3) rfl) rfl
theorem vo_2_62_2 : zx_vOK zx_mt 2 62 0 2 41 := ⟨"IntervalPacker$Cursor", zt_Cur, 6, _, rfl, rfl, by decide, wd_3_5, Or.inl ⟨rfl, ⟨by decide, by decide⟩, (by decide +kernel), wd_3_99, wd_3_3, wd_3_4, wd_0_7⟩⟩
theorem wd_2_60 : (Jvm.Cond.methodLink "IntervalPacker$BitSource" (51 : Nat) ({ cls := "IntervalPacker$BitSource", name := "shift", desc := "()V" } : Jvm.MethodName)) ∈ zx_WS := zx_r2 (List.mem_of_getElem? (i := 60) rfl) rfl
theorem wd_2_63 : (Jvm.Cond.code ({ cls := "IntervalPacker$BitSource", name := "shift", desc := "()V" } : Jvm.MethodName) prog_4_method_4_code (1 : Nat) (Option.none : Option Jvm.ClassFile.FieldType)) ∈ zx_WS := zx_r2 (List.mem_of_getElem? (i := 63) rfl) rfl
theorem ws_9 : Cond.selects "IntervalPacker$BitSource" ⟨"IntervalPacker$BitSource", "shift", "()V"⟩ ⟨"IntervalPacker$BitSource", "shift", "()V"⟩ ∈ zx_WS := zx_rs (q := (⟨"IntervalPacker$BitSource", "shift", "()V"⟩, 12)) (List.mem_of_getElem? (i := 9) rfl)
theorem wd_2_62 : (Jvm.Cond.instanceMethod ({ cls := "IntervalPacker$BitSource", name := "shift", desc := "()V" } : Jvm.MethodName)) ∈ zx_WS := zx_r2 (List.mem_of_getElem? (i := 62) rfl) rfl
theorem wd_0_4 : (Jvm.Cond.initialized "IntervalPacker$BitSource") ∈ zx_WS := zx_r0 (List.mem_of_getElem? (i := 4) rfl) rfl
theorem vo_3_51_3 : zx_vOK zx_mt 3 51 0 3 45 := ⟨"IntervalPacker$BitSource", zt_Src, 12, _, rfl, rfl, by decide, wd_2_63, Or.inl ⟨rfl, ⟨by decide, by decide⟩, (by decide +kernel), wd_2_60, wd_2_62, ws_9, wd_0_4⟩⟩
theorem wd_2_65 : (Jvm.Cond.methodLink "IntervalPacker$BitSource" (58 : Nat) ({ cls := "IntervalPacker$BitSource", name := "learn", desc := "(II)V" } : Jvm.MethodName)) ∈ zx_WS := zx_r2 (List.mem_of_getElem? (i := 65) rfl) rfl
theorem wd_2_56 : (Jvm.Cond.code ({ cls := "IntervalPacker$BitLine", name := "learn", desc := "(II)V" } : Jvm.MethodName) prog_2_method_4_code (4 : Nat) (Option.none : Option Jvm.ClassFile.FieldType)) ∈ zx_WS := zx_r2 (List.mem_of_getElem? (i := 56) rfl) rfl
theorem wd_2_66 : (Jvm.Cond.sameMethod "IntervalPacker$BitSource" "IntervalPacker$BitLine" "learn" "(II)V") ∈ zx_WS := zx_r2 (List.mem_of_getElem? (i := 66) rfl) rfl
theorem wd_2_67 : (Jvm.Cond.selects "IntervalPacker$BitSource" ({ cls := "IntervalPacker$BitSource", name := "learn", desc := "(II)V" } : Jvm.MethodName) ({ cls := "IntervalPacker$BitLine", name := "learn", desc := "(II)V" } : Jvm.MethodName)) ∈ zx_WS := zx_r2 (List.mem_of_getElem? (i := 67) rfl) rfl
theorem wd_2_55 : (Jvm.Cond.instanceMethod ({ cls := "IntervalPacker$BitLine", name := "learn", desc := "(II)V" } : Jvm.MethodName)) ∈ zx_WS := zx_r2 (List.mem_of_getElem? (i := 55) rfl) rfl
theorem wd_0_3 : (Jvm.Cond.initialized "IntervalPacker$BitLine") ∈ zx_WS := zx_r0 (List.mem_of_getElem? (i := 3) rfl) rfl
theorem vo_3_58_3 : zx_vOK zx_mt 3 58 2 3 180 := ⟨"IntervalPacker$BitSource", zt_Src, 12, _, rfl, rfl, by decide, wd_2_56, Or.inr ⟨"IntervalPacker$BitLine", ⟨"IntervalPacker$BitSource", "learn", "(II)V"⟩, ⟨by decide, by decide⟩, (by decide +kernel), wd_2_65, wd_2_66, wd_2_67, wd_2_55, wd_0_3, Or.inl rfl⟩⟩
theorem wd_2_68 : (Jvm.Cond.methodLink "IntervalPacker$BitSource" (62 : Nat) ({ cls := "IntervalPacker$BitSource", name := "keep", desc := "()V" } : Jvm.MethodName)) ∈ zx_WS := zx_r2 (List.mem_of_getElem? (i := 68) rfl) rfl
theorem wd_2_71 : (Jvm.Cond.code ({ cls := "IntervalPacker$BitSource", name := "keep", desc := "()V" } : Jvm.MethodName) prog_4_method_7_code (1 : Nat) (Option.none : Option Jvm.ClassFile.FieldType)) ∈ zx_WS := zx_r2 (List.mem_of_getElem? (i := 71) rfl) rfl
theorem ws_10 : Cond.selects "IntervalPacker$BitSource" ⟨"IntervalPacker$BitSource", "keep", "()V"⟩ ⟨"IntervalPacker$BitSource", "keep", "()V"⟩ ∈ zx_WS := zx_rs (q := (⟨"IntervalPacker$BitSource", "keep", "()V"⟩, 12)) (List.mem_of_getElem? (i := 10) rfl)
theorem wd_2_70 : (Jvm.Cond.instanceMethod ({ cls := "IntervalPacker$BitSource", name := "keep", desc := "()V" } : Jvm.MethodName)) ∈ zx_WS := zx_r2 (List.mem_of_getElem? (i := 70) rfl) rfl
theorem vo_3_62_3 : zx_vOK zx_mt 3 62 0 3 48 := ⟨"IntervalPacker$BitSource", zt_Src, 12, _, rfl, rfl, by decide, wd_2_71, Or.inl ⟨rfl, ⟨by decide, by decide⟩, (by decide +kernel), wd_2_68, wd_2_70, ws_10, wd_0_4⟩⟩
theorem wd_2_42 : (Jvm.Cond.methodLink "IntervalPacker$BitSink" (46 : Nat) ({ cls := "IntervalPacker$BitSink", name := "shift", desc := "()V" } : Jvm.MethodName)) ∈ zx_WS := zx_r2 (List.mem_of_getElem? (i := 42) rfl) rfl
theorem wd_2_45 : (Jvm.Cond.code ({ cls := "IntervalPacker$BitSink", name := "shift", desc := "()V" } : Jvm.MethodName) prog_3_method_3_code (1 : Nat) (Option.none : Option Jvm.ClassFile.FieldType)) ∈ zx_WS := zx_r2 (List.mem_of_getElem? (i := 45) rfl) rfl
theorem ws_7 : Cond.selects "IntervalPacker$BitSink" ⟨"IntervalPacker$BitSink", "shift", "()V"⟩ ⟨"IntervalPacker$BitSink", "shift", "()V"⟩ ∈ zx_WS := zx_rs (q := (⟨"IntervalPacker$BitSink", "shift", "()V"⟩, 6)) (List.mem_of_getElem? (i := 7) rfl)
theorem wd_2_44 : (Jvm.Cond.instanceMethod ({ cls := "IntervalPacker$BitSink", name := "shift", desc := "()V" } : Jvm.MethodName)) ∈ zx_WS := zx_r2 (List.mem_of_getElem? (i := 44) rfl) rfl
theorem wd_0_9 : (Jvm.Cond.initialized "IntervalPacker$BitSink") ∈ zx_WS := zx_r0 (List.mem_of_getElem? (i := 9) rfl) rfl
theorem vo_4_46_4 : zx_vOK zx_mt 4 46 0 4 51 := ⟨"IntervalPacker$BitSink", zt_Snk, 6, _, rfl, rfl, by decide, wd_2_45, Or.inl ⟨rfl, ⟨by decide, by decide⟩, (by decide +kernel), wd_2_42, wd_2_44, ws_7, wd_0_9⟩⟩
theorem wd_2_47 : (Jvm.Cond.methodLink "IntervalPacker$BitSink" (53 : Nat) ({ cls := "IntervalPacker$BitSink", name := "raise", desc := "(J)V" } : Jvm.MethodName)) ∈ zx_WS := zx_r2 (List.mem_of_getElem? (i := 47) rfl) rfl
theorem wd_2_50 : (Jvm.Cond.code ({ cls := "IntervalPacker$BitSink", name := "raise", desc := "(J)V" } : Jvm.MethodName) prog_3_method_4_code (6 : Nat) (Option.none : Option Jvm.ClassFile.FieldType)) ∈ zx_WS := zx_r2 (List.mem_of_getElem? (i := 50) rfl) rfl
theorem ws_8 : Cond.selects "IntervalPacker$BitSink" ⟨"IntervalPacker$BitSink", "raise", "(J)V"⟩ ⟨"IntervalPacker$BitSink", "raise", "(J)V"⟩ ∈ zx_WS := zx_rs (q := (⟨"IntervalPacker$BitSink", "raise", "(J)V"⟩, 6)) (List.mem_of_getElem? (i := 8) rfl)
theorem wd_2_49 : (Jvm.Cond.instanceMethod ({ cls := "IntervalPacker$BitSink", name := "raise", desc := "(J)V" } : Jvm.MethodName)) ∈ zx_WS := zx_r2 (List.mem_of_getElem? (i := 49) rfl) rfl
theorem vo_4_53_4 : zx_vOK zx_mt 4 53 1 4 52 := ⟨"IntervalPacker$BitSink", zt_Snk, 6, _, rfl, rfl, by decide, wd_2_50, Or.inl ⟨rfl, ⟨by decide, by decide⟩, (by decide +kernel), wd_2_47, wd_2_49, ws_8, wd_0_9⟩⟩
theorem wd_2_51 : (Jvm.Cond.methodLink "IntervalPacker$BitSink" (57 : Nat) ({ cls := "IntervalPacker$BitSink", name := "learn", desc := "(II)V" } : Jvm.MethodName)) ∈ zx_WS := zx_r2 (List.mem_of_getElem? (i := 51) rfl) rfl
theorem wd_2_52 : (Jvm.Cond.sameMethod "IntervalPacker$BitSink" "IntervalPacker$BitLine" "learn" "(II)V") ∈ zx_WS := zx_r2 (List.mem_of_getElem? (i := 52) rfl) rfl
theorem wd_2_54 : (Jvm.Cond.selects "IntervalPacker$BitSink" ({ cls := "IntervalPacker$BitSink", name := "learn", desc := "(II)V" } : Jvm.MethodName) ({ cls := "IntervalPacker$BitLine", name := "learn", desc := "(II)V" } : Jvm.MethodName)) ∈ zx_WS := zx_r2 (List.mem_of_getElem? (i := 54) rfl) rfl
theorem vo_4_57_4 : zx_vOK zx_mt 4 57 2 4 180 := ⟨"IntervalPacker$BitSink", zt_Snk, 6, _, rfl, rfl, by decide, wd_2_56, Or.inr ⟨"IntervalPacker$BitLine", ⟨"IntervalPacker$BitSink", "learn", "(II)V"⟩, ⟨by decide, by decide⟩, (by decide +kernel), wd_2_51, wd_2_52, wd_2_54, wd_2_55, wd_0_3, Or.inl rfl⟩⟩
theorem wd_2_32 : (Jvm.Cond.methodLink "IntervalPacker$Model" (45 : Nat) ({ cls := "IntervalPacker$Model", name := "codeKind", desc := "(I)I" } : Jvm.MethodName)) ∈ zx_WS := zx_r2 (List.mem_of_getElem? (i := 32) rfl) rfl
theorem wd_2_35 : (Jvm.Cond.code ({ cls := "IntervalPacker$Model", name := "codeKind", desc := "(I)I" } : Jvm.MethodName) prog_6_method_8_code (3 : Nat) (Option.some Jvm.ClassFile.FieldType.int)) ∈ zx_WS := zx_r2 (List.mem_of_getElem? (i := 35) rfl) rfl
theorem ws_6 : Cond.selects "IntervalPacker$Model" ⟨"IntervalPacker$Model", "codeKind", "(I)I"⟩ ⟨"IntervalPacker$Model", "codeKind", "(I)I"⟩ ∈ zx_WS := zx_rs (q := (⟨"IntervalPacker$Model", "codeKind", "(I)I"⟩, 11)) (List.mem_of_getElem? (i := 6) rfl)
theorem wd_2_34 : (Jvm.Cond.instanceMethod ({ cls := "IntervalPacker$Model", name := "codeKind", desc := "(I)I" } : Jvm.MethodName)) ∈ zx_WS := zx_r2 (List.mem_of_getElem? (i := 34) rfl) rfl
theorem wd_0_5 : (Jvm.Cond.initialized "IntervalPacker$Model") ∈ zx_WS := zx_r0 (List.mem_of_getElem? (i := 5) rfl) rfl
theorem vo_5_45_5 : zx_vOK zx_mt 5 45 1 5 62 := ⟨"IntervalPacker$Model", zt_Mdl, 11, _, rfl, rfl, by decide, wd_2_35, Or.inl ⟨rfl, ⟨by decide, by decide⟩, (by decide +kernel), wd_2_32, wd_2_34, ws_6, wd_0_5⟩⟩
theorem wd_2_72 : (Jvm.Cond.methodLink "IntervalPacker$Model" (52 : Nat) ({ cls := "IntervalPacker$Model", name := "codeLiteral", desc := "(II)I" } : Jvm.MethodName)) ∈ zx_WS := zx_r2 (List.mem_of_getElem? (i := 72) rfl) rfl
theorem wd_2_75 : (Jvm.Cond.code ({ cls := "IntervalPacker$Model", name := "codeLiteral", desc := "(II)I" } : Jvm.MethodName) prog_6_method_9_code (9 : Nat) (Option.some Jvm.ClassFile.FieldType.int)) ∈ zx_WS := zx_r2 (List.mem_of_getElem? (i := 75) rfl) rfl
theorem ws_11 : Cond.selects "IntervalPacker$Model" ⟨"IntervalPacker$Model", "codeLiteral", "(II)I"⟩ ⟨"IntervalPacker$Model", "codeLiteral", "(II)I"⟩ ∈ zx_WS := zx_rs (q := (⟨"IntervalPacker$Model", "codeLiteral", "(II)I"⟩, 11)) (List.mem_of_getElem? (i := 11) rfl)
theorem wd_2_74 : (Jvm.Cond.instanceMethod ({ cls := "IntervalPacker$Model", name := "codeLiteral", desc := "(II)I" } : Jvm.MethodName)) ∈ zx_WS := zx_r2 (List.mem_of_getElem? (i := 74) rfl) rfl
theorem vo_5_52_5 : zx_vOK zx_mt 5 52 2 5 63 := ⟨"IntervalPacker$Model", zt_Mdl, 11, _, rfl, rfl, by decide, wd_2_75, Or.inl ⟨rfl, ⟨by decide, by decide⟩, (by decide +kernel), wd_2_72, wd_2_74, ws_11, wd_0_5⟩⟩
theorem wd_2_76 : (Jvm.Cond.methodLink "IntervalPacker$Model" (62 : Nat) ({ cls := "IntervalPacker$Model", name := "codeLength", desc := "(II)I" } : Jvm.MethodName)) ∈ zx_WS := zx_r2 (List.mem_of_getElem? (i := 76) rfl) rfl
theorem wd_2_79 : (Jvm.Cond.code ({ cls := "IntervalPacker$Model", name := "codeLength", desc := "(II)I" } : Jvm.MethodName) prog_6_method_10_code (3 : Nat) (Option.some Jvm.ClassFile.FieldType.int)) ∈ zx_WS := zx_r2 (List.mem_of_getElem? (i := 79) rfl) rfl
theorem ws_12 : Cond.selects "IntervalPacker$Model" ⟨"IntervalPacker$Model", "codeLength", "(II)I"⟩ ⟨"IntervalPacker$Model", "codeLength", "(II)I"⟩ ∈ zx_WS := zx_rs (q := (⟨"IntervalPacker$Model", "codeLength", "(II)I"⟩, 11)) (List.mem_of_getElem? (i := 12) rfl)
theorem wd_2_78 : (Jvm.Cond.instanceMethod ({ cls := "IntervalPacker$Model", name := "codeLength", desc := "(II)I" } : Jvm.MethodName)) ∈ zx_WS := zx_r2 (List.mem_of_getElem? (i := 78) rfl) rfl
theorem vo_5_62_5 : zx_vOK zx_mt 5 62 2 5 64 := ⟨"IntervalPacker$Model", zt_Mdl, 11, _, rfl, rfl, by decide, wd_2_79, Or.inl ⟨rfl, ⟨by decide, by decide⟩, (by decide +kernel), wd_2_76, wd_2_78, ws_12, wd_0_5⟩⟩
theorem wd_2_84 : (Jvm.Cond.methodLink "IntervalPacker$Model" (65 : Nat) ({ cls := "IntervalPacker$Model", name := "codeDistance", desc := "()J" } : Jvm.MethodName)) ∈ zx_WS := zx_r2 (List.mem_of_getElem? (i := 84) rfl) rfl
theorem wd_2_87 : (Jvm.Cond.code ({ cls := "IntervalPacker$Model", name := "codeDistance", desc := "()J" } : Jvm.MethodName) prog_6_method_11_code (10 : Nat) (Option.some Jvm.ClassFile.FieldType.long)) ∈ zx_WS := zx_r2 (List.mem_of_getElem? (i := 87) rfl) rfl
theorem ws_14 : Cond.selects "IntervalPacker$Model" ⟨"IntervalPacker$Model", "codeDistance", "()J"⟩ ⟨"IntervalPacker$Model", "codeDistance", "()J"⟩ ∈ zx_WS := zx_rs (q := (⟨"IntervalPacker$Model", "codeDistance", "()J"⟩, 11)) (List.mem_of_getElem? (i := 14) rfl)
theorem wd_2_86 : (Jvm.Cond.instanceMethod ({ cls := "IntervalPacker$Model", name := "codeDistance", desc := "()J" } : Jvm.MethodName)) ∈ zx_WS := zx_r2 (List.mem_of_getElem? (i := 86) rfl) rfl
theorem vo_5_65_5 : zx_vOK zx_mt 5 65 0 5 65 := ⟨"IntervalPacker$Model", zt_Mdl, 11, _, rfl, rfl, by decide, wd_2_87, Or.inl ⟨rfl, ⟨by decide, by decide⟩, (by decide +kernel), wd_2_84, wd_2_86, ws_14, wd_0_5⟩⟩
theorem wd_2_115 : (Jvm.Cond.methodLink "IntervalPacker$Model" (73 : Nat) ({ cls := "IntervalPacker$Model", name := "bringForward", desc := "(IJ)V" } : Jvm.MethodName)) ∈ zx_WS := zx_r2 (List.mem_of_getElem? (i := 115) rfl) rfl
theorem wd_2_118 : (Jvm.Cond.code ({ cls := "IntervalPacker$Model", name := "bringForward", desc := "(IJ)V" } : Jvm.MethodName) prog_6_method_7_code (5 : Nat) (Option.none : Option Jvm.ClassFile.FieldType)) ∈ zx_WS := zx_r2 (List.mem_of_getElem? (i := 118) rfl) rfl
theorem ws_16 : Cond.selects "IntervalPacker$Model" ⟨"IntervalPacker$Model", "bringForward", "(IJ)V"⟩ ⟨"IntervalPacker$Model", "bringForward", "(IJ)V"⟩ ∈ zx_WS := zx_rs (q := (⟨"IntervalPacker$Model", "bringForward", "(IJ)V"⟩, 11)) (List.mem_of_getElem? (i := 16) rfl)
theorem wd_2_117 : (Jvm.Cond.instanceMethod ({ cls := "IntervalPacker$Model", name := "bringForward", desc := "(IJ)V" } : Jvm.MethodName)) ∈ zx_WS := zx_r2 (List.mem_of_getElem? (i := 117) rfl) rfl
theorem vo_5_73_5 : zx_vOK zx_mt 5 73 2 5 61 := ⟨"IntervalPacker$Model", zt_Mdl, 11, _, rfl, rfl, by decide, wd_2_118, Or.inl ⟨rfl, ⟨by decide, by decide⟩, (by decide +kernel), wd_2_115, wd_2_117, ws_16, wd_0_5⟩⟩
theorem wd_2_36 : (Jvm.Cond.methodLink "IntervalPacker$Model" (77 : Nat) ({ cls := "IntervalPacker$BitLine", name := "codeBit", desc := "(II)I" } : Jvm.MethodName)) ∈ zx_WS := zx_r2 (List.mem_of_getElem? (i := 36) rfl) rfl
theorem wd_2_59 : (Jvm.Cond.code ({ cls := "IntervalPacker$BitSource", name := "codeBit", desc := "(II)I" } : Jvm.MethodName) prog_4_method_5_code (6 : Nat) (Option.some Jvm.ClassFile.FieldType.int)) ∈ zx_WS := zx_r2 (List.mem_of_getElem? (i := 59) rfl) rfl
theorem wd_2_38 : (Jvm.Cond.sameMethod "IntervalPacker$BitLine" "IntervalPacker$BitLine" "codeBit" "(II)I") ∈ zx_WS := zx_r2 (List.mem_of_getElem? (i := 38) rfl) rfl
theorem wd_2_57 : (Jvm.Cond.selects "IntervalPacker$BitSource" ({ cls := "IntervalPacker$BitLine", name := "codeBit", desc := "(II)I" } : Jvm.MethodName) ({ cls := "IntervalPacker$BitSource", name := "codeBit", desc := "(II)I" } : Jvm.MethodName)) ∈ zx_WS := zx_r2 (List.mem_of_getElem? (i := 57) rfl) rfl
theorem wd_2_58 : (Jvm.Cond.instanceMethod ({ cls := "IntervalPacker$BitSource", name := "codeBit", desc := "(II)I" } : Jvm.MethodName)) ∈ zx_WS := zx_r2 (List.mem_of_getElem? (i := 58) rfl) rfl
theorem vo_5_77_3 : zx_vOK zx_mt 5 77 2 3 46 := ⟨"IntervalPacker$BitSource", zt_Src, 12, _, rfl, rfl, by decide, wd_2_59, Or.inr ⟨"IntervalPacker$BitLine", ⟨"IntervalPacker$BitLine", "codeBit", "(II)I"⟩, ⟨by decide, by decide⟩, (by decide +kernel), wd_2_36, wd_2_38, wd_2_57, wd_2_58, wd_0_4, Or.inr zn_10⟩⟩
theorem wd_2_41 : (Jvm.Cond.code ({ cls := "IntervalPacker$BitSink", name := "codeBit", desc := "(II)I" } : Jvm.MethodName) prog_3_method_5_code (5 : Nat) (Option.some Jvm.ClassFile.FieldType.int)) ∈ zx_WS := zx_r2 (List.mem_of_getElem? (i := 41) rfl) rfl
theorem wd_2_39 : (Jvm.Cond.selects "IntervalPacker$BitSink" ({ cls := "IntervalPacker$BitLine", name := "codeBit", desc := "(II)I" } : Jvm.MethodName) ({ cls := "IntervalPacker$BitSink", name := "codeBit", desc := "(II)I" } : Jvm.MethodName)) ∈ zx_WS := zx_r2 (List.mem_of_getElem? (i := 39) rfl) rfl
theorem wd_2_40 : (Jvm.Cond.instanceMethod ({ cls := "IntervalPacker$BitSink", name := "codeBit", desc := "(II)I" } : Jvm.MethodName)) ∈ zx_WS := zx_r2 (List.mem_of_getElem? (i := 40) rfl) rfl
theorem vo_5_77_4 : zx_vOK zx_mt 5 77 2 4 53 := ⟨"IntervalPacker$BitSink", zt_Snk, 6, _, rfl, rfl, by decide, wd_2_41, Or.inr ⟨"IntervalPacker$BitLine", ⟨"IntervalPacker$BitLine", "codeBit", "(II)I"⟩, ⟨by decide, by decide⟩, (by decide +kernel), wd_2_36, wd_2_38, wd_2_39, wd_2_40, wd_0_9, Or.inr zn_10⟩⟩
theorem wd_2_80 : (Jvm.Cond.methodLink "IntervalPacker$Model" (82 : Nat) ({ cls := "IntervalPacker$Model", name := "codeTree", desc := "(III)I" } : Jvm.MethodName)) ∈ zx_WS := zx_r2 (List.mem_of_getElem? (i := 80) rfl) rfl
theorem wd_2_83 : (Jvm.Cond.code ({ cls := "IntervalPacker$Model", name := "codeTree", desc := "(III)I" } : Jvm.MethodName) prog_6_method_13_code (6 : Nat) (Option.some Jvm.ClassFile.FieldType.int)) ∈ zx_WS := zx_r2 (List.mem_of_getElem? (i := 83) rfl) rfl
theorem ws_13 : Cond.selects "IntervalPacker$Model" ⟨"IntervalPacker$Model", "codeTree", "(III)I"⟩ ⟨"IntervalPacker$Model", "codeTree", "(III)I"⟩ ∈ zx_WS := zx_rs (q := (⟨"IntervalPacker$Model", "codeTree", "(III)I"⟩, 11)) (List.mem_of_getElem? (i := 13) rfl)
theorem wd_2_82 : (Jvm.Cond.instanceMethod ({ cls := "IntervalPacker$Model", name := "codeTree", desc := "(III)I" } : Jvm.MethodName)) ∈ zx_WS := zx_r2 (List.mem_of_getElem? (i := 82) rfl) rfl
theorem vo_5_82_5 : zx_vOK zx_mt 5 82 3 5 67 := ⟨"IntervalPacker$Model", zt_Mdl, 11, _, rfl, rfl, by decide, wd_2_83, Or.inl ⟨rfl, ⟨by decide, by decide⟩, (by decide +kernel), wd_2_80, wd_2_82, ws_13, wd_0_5⟩⟩
theorem wd_2_101 : (Jvm.Cond.methodLink "IntervalPacker$Model" (97 : Nat) ({ cls := "IntervalPacker$Model", name := "codeTreeBackwards", desc := "(III)I" } : Jvm.MethodName)) ∈ zx_WS := zx_r2 (List.mem_of_getElem? (i := 101) rfl) rfl
theorem wd_2_104 : (Jvm.Cond.code ({ cls := "IntervalPacker$Model", name := "codeTreeBackwards", desc := "(III)I" } : Jvm.MethodName) prog_6_method_14_code (8 : Nat) (Option.some Jvm.ClassFile.FieldType.int)) ∈ zx_WS := zx_r2 (List.mem_of_getElem? (i := 104) rfl) rfl
theorem ws_15 : Cond.selects "IntervalPacker$Model" ⟨"IntervalPacker$Model", "codeTreeBackwards", "(III)I"⟩ ⟨"IntervalPacker$Model", "codeTreeBackwards", "(III)I"⟩ ∈ zx_WS := zx_rs (q := (⟨"IntervalPacker$Model", "codeTreeBackwards", "(III)I"⟩, 11)) (List.mem_of_getElem? (i := 15) rfl)
theorem wd_2_103 : (Jvm.Cond.instanceMethod ({ cls := "IntervalPacker$Model", name := "codeTreeBackwards", desc := "(III)I" } : Jvm.MethodName)) ∈ zx_WS := zx_r2 (List.mem_of_getElem? (i := 103) rfl) rfl
theorem vo_5_97_5 : zx_vOK zx_mt 5 97 3 5 68 := ⟨"IntervalPacker$Model", zt_Mdl, 11, _, rfl, rfl, by decide, wd_2_104, Or.inl ⟨rfl, ⟨by decide, by decide⟩, (by decide +kernel), wd_2_101, wd_2_103, ws_15, wd_0_5⟩⟩
theorem wd_2_105 : (Jvm.Cond.methodLink "IntervalPacker$Model" (100 : Nat) ({ cls := "IntervalPacker$BitLine", name := "codeEvenBit", desc := "(I)I" } : Jvm.MethodName)) ∈ zx_WS := zx_r2 (List.mem_of_getElem? (i := 105) rfl) rfl
theorem wd_2_113 : (Jvm.Cond.code ({ cls := "IntervalPacker$BitSource", name := "codeEvenBit", desc := "(I)I" } : Jvm.MethodName) prog_4_method_6_code (3 : Nat) (Option.some Jvm.ClassFile.FieldType.int)) ∈ zx_WS := zx_r2 (List.mem_of_getElem? (i := 113) rfl) rfl
theorem wd_2_107 : (Jvm.Cond.sameMethod "IntervalPacker$BitLine" "IntervalPacker$BitLine" "codeEvenBit" "(I)I") ∈ zx_WS := zx_r2 (List.mem_of_getElem? (i := 107) rfl) rfl
theorem wd_2_111 : (Jvm.Cond.selects "IntervalPacker$BitSource" ({ cls := "IntervalPacker$BitLine", name := "codeEvenBit", desc := "(I)I" } : Jvm.MethodName) ({ cls := "IntervalPacker$BitSource", name := "codeEvenBit", desc := "(I)I" } : Jvm.MethodName)) ∈ zx_WS := zx_r2 (List.mem_of_getElem? (i := 111) rfl) rfl
theorem wd_2_112 : (Jvm.Cond.instanceMethod ({ cls := "IntervalPacker$BitSource", name := "codeEvenBit", desc := "(I)I" } : Jvm.MethodName)) ∈ zx_WS := zx_r2 (List.mem_of_getElem? (i := 112) rfl) rfl
theorem vo_5_100_3 : zx_vOK zx_mt 5 100 1 3 47 := ⟨"IntervalPacker$BitSource", zt_Src, 12, _, rfl, rfl, by decide, wd_2_113, Or.inr ⟨"IntervalPacker$BitLine", ⟨"IntervalPacker$BitLine", "codeEvenBit", "(I)I"⟩, ⟨by decide, by decide⟩, (by decide +kernel), wd_2_105, wd_2_107, wd_2_111, wd_2_112, wd_0_4, Or.inr zn_11⟩⟩
theorem wd_2_110 : (Jvm.Cond.code ({ cls := "IntervalPacker$BitSink", name := "codeEvenBit", desc := "(I)I" } : Jvm.MethodName) prog_3_method_6_code (2 : Nat) (Option.some Jvm.ClassFile.FieldType.int)) ∈ zx_WS := zx_r2 (List.mem_of_getElem? (i := 110) rfl) rfl
theorem wd_2_108 : (Jvm.Cond.selects "IntervalPacker$BitSink" ({ cls := "IntervalPacker$BitLine", name := "codeEvenBit", desc := "(I)I" } : Jvm.MethodName) ({ cls := "IntervalPacker$BitSink", name := "codeEvenBit", desc := "(I)I" } : Jvm.MethodName)) ∈ zx_WS := zx_r2 (List.mem_of_getElem? (i := 108) rfl) rfl
theorem wd_2_109 : (Jvm.Cond.instanceMethod ({ cls := "IntervalPacker$BitSink", name := "codeEvenBit", desc := "(I)I" } : Jvm.MethodName)) ∈ zx_WS := zx_r2 (List.mem_of_getElem? (i := 109) rfl) rfl
theorem vo_5_100_4 : zx_vOK zx_mt 5 100 1 4 54 := ⟨"IntervalPacker$BitSink", zt_Snk, 6, _, rfl, rfl, by decide, wd_2_110, Or.inr ⟨"IntervalPacker$BitLine", ⟨"IntervalPacker$BitLine", "codeEvenBit", "(I)I"⟩, ⟨by decide, by decide⟩, (by decide +kernel), wd_2_105, wd_2_107, wd_2_108, wd_2_109, wd_0_9, Or.inr zn_11⟩⟩
theorem wd_2_184 : (Jvm.Cond.methodLink "IntervalPacker$Unpacking" (46 : Nat) ({ cls := "IntervalPacker$Cursor", name := "begin", desc := "(LIntervalPacker$Row;)V" } : Jvm.MethodName)) ∈ zx_WS := zx_r2 (List.mem_of_getElem? (i := 184) rfl) rfl
theorem wd_2_187 : (Jvm.Cond.code ({ cls := "IntervalPacker$Cursor", name := "begin", desc := "(LIntervalPacker$Row;)V" } : Jvm.MethodName) prog_5_method_2_code (2 : Nat) (Option.none : Option Jvm.ClassFile.FieldType)) ∈ zx_WS := zx_r2 (List.mem_of_getElem? (i := 187) rfl) rfl
theorem wd_2_186 : (Jvm.Cond.selects "IntervalPacker$Cursor" ({ cls := "IntervalPacker$Cursor", name := "begin", desc := "(LIntervalPacker$Row;)V" } : Jvm.MethodName) ({ cls := "IntervalPacker$Cursor", name := "begin", desc := "(LIntervalPacker$Row;)V" } : Jvm.MethodName)) ∈ zx_WS := zx_r2 (List.mem_of_getElem? (i := 186) rfl) rfl
theorem wd_2_185 : (Jvm.Cond.instanceMethod ({ cls := "IntervalPacker$Cursor", name := "begin", desc := "(LIntervalPacker$Row;)V" } : Jvm.MethodName)) ∈ zx_WS := zx_r2 (List.mem_of_getElem? (i := 185) rfl) rfl
theorem vo_6_46_2 : zx_vOK zx_mt 6 46 1 2 29 := ⟨"IntervalPacker$Cursor", zt_Cur, 6, _, rfl, rfl, by decide, wd_2_187, Or.inl ⟨rfl, ⟨by decide, by decide⟩, (by decide +kernel), wd_2_184, wd_2_185, wd_2_186, wd_0_7⟩⟩
theorem wd_2_188 : (Jvm.Cond.methodLink "IntervalPacker$Unpacking" (50 : Nat) ({ cls := "IntervalPacker$Row", name := "clear", desc := "()V" } : Jvm.MethodName)) ∈ zx_WS := zx_r2 (List.mem_of_getElem? (i := 188) rfl) rfl
theorem wd_1_181 : (Jvm.Cond.code ({ cls := "IntervalPacker$Row", name := "clear", desc := "()V" } : Jvm.MethodName) prog_8_method_2_code (1 : Nat) (Option.none : Option Jvm.ClassFile.FieldType)) ∈ zx_WS := zx_r1 (List.mem_of_getElem? (i := 181) rfl) rfl
theorem wd_1_180 : (Jvm.Cond.selects "IntervalPacker$Row" ({ cls := "IntervalPacker$Row", name := "clear", desc := "()V" } : Jvm.MethodName) ({ cls := "IntervalPacker$Row", name := "clear", desc := "()V" } : Jvm.MethodName)) ∈ zx_WS := zx_r1 (List.mem_of_getElem? (i := 180) rfl) rfl
theorem wd_1_179 : (Jvm.Cond.instanceMethod ({ cls := "IntervalPacker$Row", name := "clear", desc := "()V" } : Jvm.MethodName)) ∈ zx_WS := zx_r1 (List.mem_of_getElem? (i := 179) rfl) rfl
theorem vo_6_50_1 : zx_vOK zx_mt 6 50 0 1 20 := ⟨"IntervalPacker$Row", zt_Row, 3, _, rfl, rfl, by decide, wd_1_181, Or.inl ⟨rfl, ⟨by decide, by decide⟩, (by decide +kernel), wd_2_188, wd_1_179, wd_1_180, wd_0_2⟩⟩
theorem wd_2_190 : (Jvm.Cond.methodLink "IntervalPacker$Unpacking" (59 : Nat) ({ cls := "IntervalPacker$BitSource", name := "forget", desc := "()V" } : Jvm.MethodName)) ∈ zx_WS := zx_r2 (List.mem_of_getElem? (i := 190) rfl) rfl
theorem wd_2_193 : (Jvm.Cond.code ({ cls := "IntervalPacker$BitSource", name := "forget", desc := "()V" } : Jvm.MethodName) prog_4_method_2_code (1 : Nat) (Option.none : Option Jvm.ClassFile.FieldType)) ∈ zx_WS := zx_r2 (List.mem_of_getElem? (i := 193) rfl) rfl
theorem wd_2_192 : (Jvm.Cond.selects "IntervalPacker$BitSource" ({ cls := "IntervalPacker$BitSource", name := "forget", desc := "()V" } : Jvm.MethodName) ({ cls := "IntervalPacker$BitSource", name := "forget", desc := "()V" } : Jvm.MethodName)) ∈ zx_WS := zx_r2 (List.mem_of_getElem? (i := 192) rfl) rfl
theorem wd_2_191 : (Jvm.Cond.instanceMethod ({ cls := "IntervalPacker$BitSource", name := "forget", desc := "()V" } : Jvm.MethodName)) ∈ zx_WS := zx_r2 (List.mem_of_getElem? (i := 191) rfl) rfl
theorem vo_6_59_3 : zx_vOK zx_mt 6 59 0 3 43 := ⟨"IntervalPacker$BitSource", zt_Src, 12, _, rfl, rfl, by decide, wd_2_193, Or.inl ⟨rfl, ⟨by decide, by decide⟩, (by decide +kernel), wd_2_190, wd_2_191, wd_2_192, wd_0_4⟩⟩
theorem wd_2_199 : (Jvm.Cond.methodLink "IntervalPacker$Unpacking" (67 : Nat) ({ cls := "IntervalPacker$Cursor", name := "has", desc := "(I)Z" } : Jvm.MethodName)) ∈ zx_WS := zx_r2 (List.mem_of_getElem? (i := 199) rfl) rfl
theorem vo_6_67_2 : zx_vOK zx_mt 6 67 1 2 34 := ⟨"IntervalPacker$Cursor", zt_Cur, 6, _, rfl, rfl, by decide, wd_2_202, Or.inl ⟨rfl, ⟨by decide, by decide⟩, (by decide +kernel), wd_2_199, wd_2_200, wd_2_201, wd_0_7⟩⟩
theorem wd_2_207 : (Jvm.Cond.methodLink "IntervalPacker$Unpacking" (74 : Nat) ({ cls := "IntervalPacker$Cursor", name := "fail", desc := "(II)V" } : Jvm.MethodName)) ∈ zx_WS := zx_r2 (List.mem_of_getElem? (i := 207) rfl) rfl
theorem vo_6_74_2 : zx_vOK zx_mt 6 74 2 2 31 := ⟨"IntervalPacker$Cursor", zt_Cur, 6, _, rfl, rfl, by decide, wd_2_206, Or.inl ⟨rfl, ⟨by decide, by decide⟩, (by decide +kernel), wd_2_207, wd_2_204, wd_2_205, wd_0_7⟩⟩
theorem wd_2_210 : (Jvm.Cond.methodLink "IntervalPacker$Unpacking" (92 : Nat) ({ cls := "IntervalPacker$Cursor", name := "expectSum", desc := "(IJ)V" } : Jvm.MethodName)) ∈ zx_WS := zx_r2 (List.mem_of_getElem? (i := 210) rfl) rfl
theorem wd_2_213 : (Jvm.Cond.code ({ cls := "IntervalPacker$Cursor", name := "expectSum", desc := "(IJ)V" } : Jvm.MethodName) prog_5_method_12_code (4 : Nat) (Option.none : Option Jvm.ClassFile.FieldType)) ∈ zx_WS := zx_r2 (List.mem_of_getElem? (i := 213) rfl) rfl
theorem wd_2_212 : (Jvm.Cond.selects "IntervalPacker$Cursor" ({ cls := "IntervalPacker$Cursor", name := "expectSum", desc := "(IJ)V" } : Jvm.MethodName) ({ cls := "IntervalPacker$Cursor", name := "expectSum", desc := "(IJ)V" } : Jvm.MethodName)) ∈ zx_WS := zx_r2 (List.mem_of_getElem? (i := 212) rfl) rfl
theorem wd_2_211 : (Jvm.Cond.instanceMethod ({ cls := "IntervalPacker$Cursor", name := "expectSum", desc := "(IJ)V" } : Jvm.MethodName)) ∈ zx_WS := zx_r2 (List.mem_of_getElem? (i := 211) rfl) rfl
theorem vo_6_92_2 : zx_vOK zx_mt 6 92 2 2 39 := ⟨"IntervalPacker$Cursor", zt_Cur, 6, _, rfl, rfl, by decide, wd_2_213, Or.inl ⟨rfl, ⟨by decide, by decide⟩, (by decide +kernel), wd_2_210, wd_2_211, wd_2_212, wd_0_7⟩⟩
theorem wd_2_227 : (Jvm.Cond.methodLink "IntervalPacker$Unpacking" (112 : Nat) ({ cls := "IntervalPacker$Unpacking", name := "readHead", desc := "()V" } : Jvm.MethodName)) ∈ zx_WS := zx_r2 (List.mem_of_getElem? (i := 227) rfl) rfl
theorem wd_2_230 : (Jvm.Cond.code ({ cls := "IntervalPacker$Unpacking", name := "readHead", desc := "()V" } : Jvm.MethodName) prog_9_method_6_code (4 : Nat) (Option.none : Option Jvm.ClassFile.FieldType)) ∈ zx_WS := zx_r2 (List.mem_of_getElem? (i := 230) rfl) rfl
theorem ws_22 : Cond.selects "IntervalPacker$Unpacking" ⟨"IntervalPacker$Unpacking", "readHead", "()V"⟩ ⟨"IntervalPacker$Unpacking", "readHead", "()V"⟩ ∈ zx_WS := zx_rs (q := (⟨"IntervalPacker$Unpacking", "readHead", "()V"⟩, 19)) (List.mem_of_getElem? (i := 22) rfl)
theorem wd_2_229 : (Jvm.Cond.instanceMethod ({ cls := "IntervalPacker$Unpacking", name := "readHead", desc := "()V" } : Jvm.MethodName)) ∈ zx_WS := zx_r2 (List.mem_of_getElem? (i := 229) rfl) rfl
theorem vo_6_112_6 : zx_vOK zx_mt 6 112 0 6 73 := ⟨"IntervalPacker$Unpacking", zt_Unp, 19, _, rfl, rfl, by decide, wd_2_230, Or.inl ⟨rfl, ⟨by decide, by decide⟩, (by decide +kernel), wd_2_227, wd_2_229, ws_22, wd_0_6⟩⟩
theorem wd_3_20 : (Jvm.Cond.methodLink "IntervalPacker$Unpacking" (115 : Nat) ({ cls := "IntervalPacker$Cursor", name := "isSound", desc := "()Z" } : Jvm.MethodName)) ∈ zx_WS := zx_r3 (List.mem_of_getElem? (i := 20) rfl) rfl
theorem vo_6_115_2 : zx_vOK zx_mt 6 115 0 2 30 := ⟨"IntervalPacker$Cursor", zt_Cur, 6, _, rfl, rfl, by decide, wd_3_23, Or.inl ⟨rfl, ⟨by decide, by decide⟩, (by decide +kernel), wd_3_20, wd_3_21, wd_3_22, wd_0_7⟩⟩
theorem wd_3_24 : (Jvm.Cond.methodLink "IntervalPacker$Unpacking" (119 : Nat) ({ cls := "IntervalPacker$Unpacking", name := "readChunkHead", desc := "()V" } : Jvm.MethodName)) ∈ zx_WS := zx_r3 (List.mem_of_getElem? (i := 24) rfl) rfl
theorem wd_3_27 : (Jvm.Cond.code ({ cls := "IntervalPacker$Unpacking", name := "readChunkHead", desc := "()V" } : Jvm.MethodName) prog_9_method_8_code (1 : Nat) (Option.none : Option Jvm.ClassFile.FieldType)) ∈ zx_WS := zx_r3 (List.mem_of_getElem? (i := 27) rfl) rfl
theorem ws_24 : Cond.selects "IntervalPacker$Unpacking" ⟨"IntervalPacker$Unpacking", "readChunkHead", "()V"⟩ ⟨"IntervalPacker$Unpacking", "readChunkHead", "()V"⟩ ∈ zx_WS := zx_rs (q := (⟨"IntervalPacker$Unpacking", "readChunkHead", "()V"⟩, 19)) (List.mem_of_getElem? (i := 24) rfl)
theorem wd_3_26 : (Jvm.Cond.instanceMethod ({ cls := "IntervalPacker$Unpacking", name := "readChunkHead", desc := "()V" } : Jvm.MethodName)) ∈ zx_WS := zx_r3 (List.mem_of_getElem? (i := 26) rfl) rfl
theorem vo_6_119_6 : zx_vOK zx_mt 6 119 0 6 75 := ⟨"IntervalPacker$Unpacking", zt_Unp, 19, _, rfl, rfl, by decide, wd_3_27, Or.inl ⟨rfl, ⟨by decide, by decide⟩, (by decide +kernel), wd_3_24, wd_3_26, ws_24, wd_0_6⟩⟩
theorem wd_3_47 : (Jvm.Cond.methodLink "IntervalPacker$Unpacking" (125 : Nat) ({ cls := "IntervalPacker$Unpacking", name := "giveCoded", desc := "()V" } : Jvm.MethodName)) ∈ zx_WS := zx_r3 (List.mem_of_getElem? (i := 47) rfl) rfl
theorem wd_3_50 : (Jvm.Cond.code ({ cls := "IntervalPacker$Unpacking", name := "giveCoded", desc := "()V" } : Jvm.MethodName) prog_9_method_14_code (5 : Nat) (Option.none : Option Jvm.ClassFile.FieldType)) ∈ zx_WS := zx_r3 (List.mem_of_getElem? (i := 50) rfl) rfl
theorem ws_28 : Cond.selects "IntervalPacker$Unpacking" ⟨"IntervalPacker$Unpacking", "giveCoded", "()V"⟩ ⟨"IntervalPacker$Unpacking", "giveCoded", "()V"⟩ ∈ zx_WS := zx_rs (q := (⟨"IntervalPacker$Unpacking", "giveCoded", "()V"⟩, 19)) (List.mem_of_getElem? (i := 28) rfl)
theorem wd_3_49 : (Jvm.Cond.instanceMethod ({ cls := "IntervalPacker$Unpacking", name := "giveCoded", desc := "()V" } : Jvm.MethodName)) ∈ zx_WS := zx_r3 (List.mem_of_getElem? (i := 49) rfl) rfl
theorem vo_6_125_6 : zx_vOK zx_mt 6 125 0 6 81 := ⟨"IntervalPacker$Unpacking", zt_Unp, 19, _, rfl, rfl, by decide, wd_3_50, Or.inl ⟨rfl, ⟨by decide, by decide⟩, (by decide +kernel), wd_3_47, wd_3_49, ws_28, wd_0_6⟩⟩
theorem wd_3_75 : (Jvm.Cond.methodLink "IntervalPacker$Unpacking" (128 : Nat) ({ cls := "IntervalPacker$Unpacking", name := "givePlain", desc := "()V" } : Jvm.MethodName)) ∈ zx_WS := zx_r3 (List.mem_of_getElem? (i := 75) rfl) rfl
theorem wd_3_78 : (Jvm.Cond.code ({ cls := "IntervalPacker$Unpacking", name := "givePlain", desc := "()V" } : Jvm.MethodName) prog_9_method_13_code (1 : Nat) (Option.none : Option Jvm.ClassFile.FieldType)) ∈ zx_WS := zx_r3 (List.mem_of_getElem? (i := 78) rfl) rfl
theorem ws_31 : Cond.selects "IntervalPacker$Unpacking" ⟨"IntervalPacker$Unpacking", "givePlain", "()V"⟩ ⟨"IntervalPacker$Unpacking", "givePlain", "()V"⟩ ∈ zx_WS := zx_rs (q := (⟨"IntervalPacker$Unpacking", "givePlain", "()V"⟩, 19)) (List.mem_of_getElem? (i := 31) rfl)
theorem wd_3_77 : (Jvm.Cond.instanceMethod ({ cls := "IntervalPacker$Unpacking", name := "givePlain", desc := "()V" } : Jvm.MethodName)) ∈ zx_WS := zx_r3 (List.mem_of_getElem? (i := 77) rfl) rfl
theorem vo_6_128_6 : zx_vOK zx_mt 6 128 0 6 80 := ⟨"IntervalPacker$Unpacking", zt_Unp, 19, _, rfl, rfl, by decide, wd_3_78, Or.inl ⟨rfl, ⟨by decide, by decide⟩, (by decide +kernel), wd_3_75, wd_3_77, ws_31, wd_0_6⟩⟩
theorem wd_3_80 : (Jvm.Cond.methodLink "IntervalPacker$Unpacking" (131 : Nat) ({ cls := "IntervalPacker$Unpacking", name := "closeBlock", desc := "(I)V" } : Jvm.MethodName)) ∈ zx_WS := zx_r3 (List.mem_of_getElem? (i := 80) rfl) rfl
theorem wd_3_83 : (Jvm.Cond.code ({ cls := "IntervalPacker$Unpacking", name := "closeBlock", desc := "(I)V" } : Jvm.MethodName) prog_9_method_16_code (7 : Nat) (Option.none : Option Jvm.ClassFile.FieldType)) ∈ zx_WS := zx_r3 (List.mem_of_getElem? (i := 83) rfl) rfl
theorem ws_32 : Cond.selects "IntervalPacker$Unpacking" ⟨"IntervalPacker$Unpacking", "closeBlock", "(I)V"⟩ ⟨"IntervalPacker$Unpacking", "closeBlock", "(I)V"⟩ ∈ zx_WS := zx_rs (q := (⟨"IntervalPacker$Unpacking", "closeBlock", "(I)V"⟩, 19)) (List.mem_of_getElem? (i := 32) rfl)
theorem wd_3_82 : (Jvm.Cond.instanceMethod ({ cls := "IntervalPacker$Unpacking", name := "closeBlock", desc := "(I)V" } : Jvm.MethodName)) ∈ zx_WS := zx_r3 (List.mem_of_getElem? (i := 82) rfl) rfl
theorem vo_6_131_6 : zx_vOK zx_mt 6 131 1 6 83 := ⟨"IntervalPacker$Unpacking", zt_Unp, 19, _, rfl, rfl, by decide, wd_3_83, Or.inl ⟨rfl, ⟨by decide, by decide⟩, (by decide +kernel), wd_3_80, wd_3_82, ws_32, wd_0_6⟩⟩
theorem wd_2_231 : (Jvm.Cond.methodLink "IntervalPacker$Unpacking" (134 : Nat) ({ cls := "IntervalPacker$Cursor", name := "lowFirst", desc := "(II)J" } : Jvm.MethodName)) ∈ zx_WS := zx_r2 (List.mem_of_getElem? (i := 231) rfl) rfl
theorem vo_6_134_2 : zx_vOK zx_mt 6 134 2 2 38 := ⟨"IntervalPacker$Cursor", zt_Cur, 6, _, rfl, rfl, by decide, wd_2_218, Or.inl ⟨rfl, ⟨by decide, by decide⟩, (by decide +kernel), wd_2_231, wd_2_216, wd_2_217, wd_0_7⟩⟩
theorem wd_2_232 : (Jvm.Cond.methodLink "IntervalPacker$Unpacking" (138 : Nat) ({ cls := "IntervalPacker$Cursor", name := "narrow", desc := "(I)V" } : Jvm.MethodName)) ∈ zx_WS := zx_r2 (List.mem_of_getElem? (i := 232) rfl) rfl
theorem wd_2_235 : (Jvm.Cond.code ({ cls := "IntervalPacker$Cursor", name := "narrow", desc := "(I)V" } : Jvm.MethodName) prog_5_method_5_code (2 : Nat) (Option.none : Option Jvm.ClassFile.FieldType)) ∈ zx_WS := zx_r2 (List.mem_of_getElem? (i := 235) rfl) rfl
theorem wd_2_234 : (Jvm.Cond.selects "IntervalPacker$Cursor" ({ cls := "IntervalPacker$Cursor", name := "narrow", desc := "(I)V" } : Jvm.MethodName) ({ cls := "IntervalPacker$Cursor", name := "narrow", desc := "(I)V" } : Jvm.MethodName)) ∈ zx_WS := zx_r2 (List.mem_of_getElem? (i := 234) rfl) rfl
theorem wd_2_233 : (Jvm.Cond.instanceMethod ({ cls := "IntervalPacker$Cursor", name := "narrow", desc := "(I)V" } : Jvm.MethodName)) ∈ zx_WS := zx_r2 (List.mem_of_getElem? (i := 233) rfl) rfl
theorem vo_6_138_2 : zx_vOK zx_mt 6 138 1 2 32 := ⟨"IntervalPacker$Cursor", zt_Cur, 6, _, rfl, rfl, by decide, wd_2_235, Or.inl ⟨rfl, ⟨by decide, by decide⟩, (by decide +kernel), wd_2_232, wd_2_233, wd_2_234, wd_0_7⟩⟩
theorem wd_2_237 : (Jvm.Cond.methodLink "IntervalPacker$Unpacking" (141 : Nat) ({ cls := "IntervalPacker$Unpacking", name := "readHeadNumbers", desc := "()V" } : Jvm.MethodName)) ∈ zx_WS := zx_r2 (List.mem_of_getElem? (i := 237) rfl) rfl
theorem wd_3_0 : (Jvm.Cond.code ({ cls := "IntervalPacker$Unpacking", name := "readHeadNumbers", desc := "()V" } : Jvm.MethodName) prog_9_method_7_code (3 : Nat) (Option.none : Option Jvm.ClassFile.FieldType)) ∈ zx_WS := zx_r3 (List.mem_of_getElem? (i := 0) rfl) rfl
theorem ws_23 : Cond.selects "IntervalPacker$Unpacking" ⟨"IntervalPacker$Unpacking", "readHeadNumbers", "()V"⟩ ⟨"IntervalPacker$Unpacking", "readHeadNumbers", "()V"⟩ ∈ zx_WS := zx_rs (q := (⟨"IntervalPacker$Unpacking", "readHeadNumbers", "()V"⟩, 19)) (List.mem_of_getElem? (i := 23) rfl)
theorem wd_2_239 : (Jvm.Cond.instanceMethod ({ cls := "IntervalPacker$Unpacking", name := "readHeadNumbers", desc := "()V" } : Jvm.MethodName)) ∈ zx_WS := zx_r2 (List.mem_of_getElem? (i := 239) rfl) rfl
theorem vo_6_141_6 : zx_vOK zx_mt 6 141 0 6 74 := ⟨"IntervalPacker$Unpacking", zt_Unp, 19, _, rfl, rfl, by decide, wd_3_0, Or.inl ⟨rfl, ⟨by decide, by decide⟩, (by decide +kernel), wd_2_237, wd_2_239, ws_23, wd_0_6⟩⟩
theorem wd_3_7 : (Jvm.Cond.methodLink "IntervalPacker$Unpacking" (144 : Nat) ({ cls := "IntervalPacker$Cursor", name := "expectByte", desc := "(I)V" } : Jvm.MethodName)) ∈ zx_WS := zx_r3 (List.mem_of_getElem? (i := 7) rfl) rfl
theorem vo_6_144_2 : zx_vOK zx_mt 6 144 1 2 35 := ⟨"IntervalPacker$Cursor", zt_Cur, 6, _, rfl, rfl, by decide, wd_3_10, Or.inl ⟨rfl, ⟨by decide, by decide⟩, (by decide +kernel), wd_3_7, wd_3_8, wd_3_9, wd_0_7⟩⟩
theorem wd_3_15 : (Jvm.Cond.methodLink "IntervalPacker$Unpacking" (147 : Nat) ({ cls := "IntervalPacker$Cursor", name := "expectWithin", desc := "(II)V" } : Jvm.MethodName)) ∈ zx_WS := zx_r3 (List.mem_of_getElem? (i := 15) rfl) rfl
theorem vo_6_147_2 : zx_vOK zx_mt 6 147 2 2 36 := ⟨"IntervalPacker$Cursor", zt_Cur, 6, _, rfl, rfl, by decide, wd_3_14, Or.inl ⟨rfl, ⟨by decide, by decide⟩, (by decide +kernel), wd_3_15, wd_3_12, wd_3_13, wd_0_7⟩⟩
theorem wd_3_16 : (Jvm.Cond.methodLink "IntervalPacker$Unpacking" (150 : Nat) ({ cls := "IntervalPacker$Cursor", name := "widen", desc := "()V" } : Jvm.MethodName)) ∈ zx_WS := zx_r3 (List.mem_of_getElem? (i := 16) rfl) rfl
theorem wd_3_19 : (Jvm.Cond.code ({ cls := "IntervalPacker$Cursor", name := "widen", desc := "()V" } : Jvm.MethodName) prog_5_method_6_code (1 : Nat) (Option.none : Option Jvm.ClassFile.FieldType)) ∈ zx_WS := zx_r3 (List.mem_of_getElem? (i := 19) rfl) rfl
theorem wd_3_18 : (Jvm.Cond.selects "IntervalPacker$Cursor" ({ cls := "IntervalPacker$Cursor", name := "widen", desc := "()V" } : Jvm.MethodName) ({ cls := "IntervalPacker$Cursor", name := "widen", desc := "()V" } : Jvm.MethodName)) ∈ zx_WS := zx_r3 (List.mem_of_getElem? (i := 18) rfl) rfl
theorem wd_3_17 : (Jvm.Cond.instanceMethod ({ cls := "IntervalPacker$Cursor", name := "widen", desc := "()V" } : Jvm.MethodName)) ∈ zx_WS := zx_r3 (List.mem_of_getElem? (i := 17) rfl) rfl
theorem vo_6_150_2 : zx_vOK zx_mt 6 150 0 2 33 := ⟨"IntervalPacker$Cursor", zt_Cur, 6, _, rfl, rfl, by decide, wd_3_19, Or.inl ⟨rfl, ⟨by decide, by decide⟩, (by decide +kernel), wd_3_16, wd_3_17, wd_3_18, wd_0_7⟩⟩
theorem wd_3_2 : (Jvm.Cond.methodLink "IntervalPacker$Unpacking" (162 : Nat) ({ cls := "IntervalPacker$Cursor", name := "readNumber", desc := "()J" } : Jvm.MethodName)) ∈ zx_WS := zx_r3 (List.mem_of_getElem? (i := 2) rfl) rfl
theorem vo_6_162_2 : zx_vOK zx_mt 6 162 0 2 41 := ⟨"IntervalPacker$Cursor", zt_Cur, 6, _, rfl, rfl, by decide, wd_3_5, Or.inl ⟨rfl, ⟨by decide, by decide⟩, (by decide +kernel), wd_3_2, wd_3_3, wd_3_4, wd_0_7⟩⟩
theorem wd_3_28 : (Jvm.Cond.methodLink "IntervalPacker$Unpacking" (166 : Nat) ({ cls := "IntervalPacker$Unpacking", name := "isAllowed", desc := "()Z" } : Jvm.MethodName)) ∈ zx_WS := zx_r3 (List.mem_of_getElem? (i := 28) rfl) rfl
theorem wd_3_31 : (Jvm.Cond.code ({ cls := "IntervalPacker$Unpacking", name := "isAllowed", desc := "()Z" } : Jvm.MethodName) prog_9_method_10_code (1 : Nat) (Option.some Jvm.ClassFile.FieldType.boolean)) ∈ zx_WS := zx_r3 (List.mem_of_getElem? (i := 31) rfl) rfl
theorem ws_25 : Cond.selects "IntervalPacker$Unpacking" ⟨"IntervalPacker$Unpacking", "isAllowed", "()Z"⟩ ⟨"IntervalPacker$Unpacking", "isAllowed", "()Z"⟩ ∈ zx_WS := zx_rs (q := (⟨"IntervalPacker$Unpacking", "isAllowed", "()Z"⟩, 19)) (List.mem_of_getElem? (i := 25) rfl)
theorem wd_3_30 : (Jvm.Cond.instanceMethod ({ cls := "IntervalPacker$Unpacking", name := "isAllowed", desc := "()Z" } : Jvm.MethodName)) ∈ zx_WS := zx_r3 (List.mem_of_getElem? (i := 30) rfl) rfl
theorem vo_6_166_6 : zx_vOK zx_mt 6 166 0 6 77 := ⟨"IntervalPacker$Unpacking", zt_Unp, 19, _, rfl, rfl, by decide, wd_3_31, Or.inl ⟨rfl, ⟨by decide, by decide⟩, (by decide +kernel), wd_3_28, wd_3_30, ws_25, wd_0_6⟩⟩
theorem wd_3_32 : (Jvm.Cond.methodLink "IntervalPacker$Unpacking" (169 : Nat) ({ cls := "IntervalPacker$Unpacking", name := "empties", desc := "()Z" } : Jvm.MethodName)) ∈ zx_WS := zx_r3 (List.mem_of_getElem? (i := 32) rfl) rfl
theorem wd_3_35 : (Jvm.Cond.code ({ cls := "IntervalPacker$Unpacking", name := "empties", desc := "()Z" } : Jvm.MethodName) prog_9_method_9_code (1 : Nat) (Option.some Jvm.ClassFile.FieldType.boolean)) ∈ zx_WS := zx_r3 (List.mem_of_getElem? (i := 35) rfl) rfl
theorem ws_26 : Cond.selects "IntervalPacker$Unpacking" ⟨"IntervalPacker$Unpacking", "empties", "()Z"⟩ ⟨"IntervalPacker$Unpacking", "empties", "()Z"⟩ ∈ zx_WS := zx_rs (q := (⟨"IntervalPacker$Unpacking", "empties", "()Z"⟩, 19)) (List.mem_of_getElem? (i := 26) rfl)
theorem wd_3_34 : (Jvm.Cond.instanceMethod ({ cls := "IntervalPacker$Unpacking", name := "empties", desc := "()Z" } : Jvm.MethodName)) ∈ zx_WS := zx_r3 (List.mem_of_getElem? (i := 34) rfl) rfl
theorem vo_6_169_6 : zx_vOK zx_mt 6 169 0 6 76 := ⟨"IntervalPacker$Unpacking", zt_Unp, 19, _, rfl, rfl, by decide, wd_3_35, Or.inl ⟨rfl, ⟨by decide, by decide⟩, (by decide +kernel), wd_3_32, wd_3_34, ws_26, wd_0_6⟩⟩
theorem wd_3_36 : (Jvm.Cond.methodLink "IntervalPacker$Unpacking" (175 : Nat) ({ cls := "IntervalPacker$Cursor", name := "readTwo", desc := "()I" } : Jvm.MethodName)) ∈ zx_WS := zx_r3 (List.mem_of_getElem? (i := 36) rfl) rfl
theorem wd_3_39 : (Jvm.Cond.code ({ cls := "IntervalPacker$Cursor", name := "readTwo", desc := "()I" } : Jvm.MethodName) prog_5_method_13_code (1 : Nat) (Option.some Jvm.ClassFile.FieldType.int)) ∈ zx_WS := zx_r3 (List.mem_of_getElem? (i := 39) rfl) rfl
theorem wd_3_38 : (Jvm.Cond.selects "IntervalPacker$Cursor" ({ cls := "IntervalPacker$Cursor", name := "readTwo", desc := "()I" } : Jvm.MethodName) ({ cls := "IntervalPacker$Cursor", name := "readTwo", desc := "()I" } : Jvm.MethodName)) ∈ zx_WS := zx_r3 (List.mem_of_getElem? (i := 38) rfl) rfl
theorem wd_3_37 : (Jvm.Cond.instanceMethod ({ cls := "IntervalPacker$Cursor", name := "readTwo", desc := "()I" } : Jvm.MethodName)) ∈ zx_WS := zx_r3 (List.mem_of_getElem? (i := 37) rfl) rfl
theorem vo_6_175_2 : zx_vOK zx_mt 6 175 0 2 40 := ⟨"IntervalPacker$Cursor", zt_Cur, 6, _, rfl, rfl, by decide, wd_3_39, Or.inl ⟨rfl, ⟨by decide, by decide⟩, (by decide +kernel), wd_3_36, wd_3_37, wd_3_38, wd_0_7⟩⟩
theorem wd_3_40 : (Jvm.Cond.methodLink "IntervalPacker$Unpacking" (185 : Nat) ({ cls := "IntervalPacker$Unpacking", name := "readProperties", desc := "()V" } : Jvm.MethodName)) ∈ zx_WS := zx_r3 (List.mem_of_getElem? (i := 40) rfl) rfl
theorem wd_3_43 : (Jvm.Cond.code ({ cls := "IntervalPacker$Unpacking", name := "readProperties", desc := "()V" } : Jvm.MethodName) prog_9_method_11_code (2 : Nat) (Option.none : Option Jvm.ClassFile.FieldType)) ∈ zx_WS := zx_r3 (List.mem_of_getElem? (i := 43) rfl) rfl
theorem ws_27 : Cond.selects "IntervalPacker$Unpacking" ⟨"IntervalPacker$Unpacking", "readProperties", "()V"⟩ ⟨"IntervalPacker$Unpacking", "readProperties", "()V"⟩ ∈ zx_WS := zx_rs (q := (⟨"IntervalPacker$Unpacking", "readProperties", "()V"⟩, 19)) (List.mem_of_getElem? (i := 27) rfl)
theorem wd_3_42 : (Jvm.Cond.instanceMethod ({ cls := "IntervalPacker$Unpacking", name := "readProperties", desc := "()V" } : Jvm.MethodName)) ∈ zx_WS := zx_r3 (List.mem_of_getElem? (i := 42) rfl) rfl
theorem vo_6_185_6 : zx_vOK zx_mt 6 185 0 6 78 := ⟨"IntervalPacker$Unpacking", zt_Unp, 19, _, rfl, rfl, by decide, wd_3_43, Or.inl ⟨rfl, ⟨by decide, by decide⟩, (by decide +kernel), wd_3_40, wd_3_42, ws_27, wd_0_6⟩⟩
theorem wd_3_45 : (Jvm.Cond.methodLink "IntervalPacker$Unpacking" (191 : Nat) ({ cls := "IntervalPacker$Model", name := "setProperties", desc := "(I)V" } : Jvm.MethodName)) ∈ zx_WS := zx_r3 (List.mem_of_getElem? (i := 45) rfl) rfl
theorem wd_1_228 : (Jvm.Cond.code ({ cls := "IntervalPacker$Model", name := "setProperties", desc := "(I)V" } : Jvm.MethodName) prog_6_method_2_code (2 : Nat) (Option.none : Option Jvm.ClassFile.FieldType)) ∈ zx_WS := zx_r1 (List.mem_of_getElem? (i := 228) rfl) rfl
theorem wd_1_227 : (Jvm.Cond.selects "IntervalPacker$Model" ({ cls := "IntervalPacker$Model", name := "setProperties", desc := "(I)V" } : Jvm.MethodName) ({ cls := "IntervalPacker$Model", name := "setProperties", desc := "(I)V" } : Jvm.MethodName)) ∈ zx_WS := zx_r1 (List.mem_of_getElem? (i := 227) rfl) rfl
theorem wd_1_226 : (Jvm.Cond.instanceMethod ({ cls := "IntervalPacker$Model", name := "setProperties", desc := "(I)V" } : Jvm.MethodName)) ∈ zx_WS := zx_r1 (List.mem_of_getElem? (i := 226) rfl) rfl
theorem vo_6_191_5 : zx_vOK zx_mt 6 191 1 5 56 := ⟨"IntervalPacker$Model", zt_Mdl, 11, _, rfl, rfl, by decide, wd_1_228, Or.inl ⟨rfl, ⟨by decide, by decide⟩, (by decide +kernel), wd_3_45, wd_1_226, wd_1_227, wd_0_5⟩⟩
theorem wd_3_46 : (Jvm.Cond.methodLink "IntervalPacker$Unpacking" (196 : Nat) ({ cls := "IntervalPacker$Model", name := "beginAnew", desc := "()V" } : Jvm.MethodName)) ∈ zx_WS := zx_r3 (List.mem_of_getElem? (i := 46) rfl) rfl
theorem wd_1_232 : (Jvm.Cond.code ({ cls := "IntervalPacker$Model", name := "beginAnew", desc := "()V" } : Jvm.MethodName) prog_6_method_3_code (1 : Nat) (Option.none : Option Jvm.ClassFile.FieldType)) ∈ zx_WS := zx_r1 (List.mem_of_getElem? (i := 232) rfl) rfl
theorem wd_1_231 : (Jvm.Cond.selects "IntervalPacker$Model" ({ cls := "IntervalPacker$Model", name := "beginAnew", desc := "()V" } : Jvm.MethodName) ({ cls := "IntervalPacker$Model", name := "beginAnew", desc := "()V" } : Jvm.MethodName)) ∈ zx_WS := zx_r1 (List.mem_of_getElem? (i := 231) rfl) rfl
theorem wd_1_230 : (Jvm.Cond.instanceMethod ({ cls := "IntervalPacker$Model", name := "beginAnew", desc := "()V" } : Jvm.MethodName)) ∈ zx_WS := zx_r1 (List.mem_of_getElem? (i := 230) rfl) rfl
theorem vo_6_196_5 : zx_vOK zx_mt 6 196 0 5 57 := ⟨"IntervalPacker$Model", zt_Mdl, 11, _, rfl, rfl, by decide, wd_1_232, Or.inl ⟨rfl, ⟨by decide, by decide⟩, (by decide +kernel), wd_3_46, wd_1_230, wd_1_231, wd_0_5⟩⟩
theorem wd_3_55 : (Jvm.Cond.methodLink "IntervalPacker$Unpacking" (199 : Nat) ({ cls := "IntervalPacker$Row", name := "hasRoom", desc := "(I)Z" } : Jvm.MethodName)) ∈ zx_WS := zx_r3 (List.mem_of_getElem? (i := 55) rfl) rfl
theorem vo_6_199_1 : zx_vOK zx_mt 6 199 1 1 21 := ⟨"IntervalPacker$Row", zt_Row, 3, _, rfl, rfl, by decide, wd_1_130, Or.inl ⟨rfl, ⟨by decide, by decide⟩, (by decide +kernel), wd_3_55, wd_1_128, wd_1_129, wd_0_2⟩⟩
theorem wd_3_51 : (Jvm.Cond.methodLink "IntervalPacker$Unpacking" (202 : Nat) ({ cls := "IntervalPacker$Unpacking", name := "hasBytesAndRoom", desc := "(I)Z" } : Jvm.MethodName)) ∈ zx_WS := zx_r3 (List.mem_of_getElem? (i := 51) rfl) rfl
theorem wd_3_54 : (Jvm.Cond.code ({ cls := "IntervalPacker$Unpacking", name := "hasBytesAndRoom", desc := "(I)Z" } : Jvm.MethodName) prog_9_method_12_code (2 : Nat) (Option.some Jvm.ClassFile.FieldType.boolean)) ∈ zx_WS := zx_r3 (List.mem_of_getElem? (i := 54) rfl) rfl
theorem ws_29 : Cond.selects "IntervalPacker$Unpacking" ⟨"IntervalPacker$Unpacking", "hasBytesAndRoom", "(I)Z"⟩ ⟨"IntervalPacker$Unpacking", "hasBytesAndRoom", "(I)Z"⟩ ∈ zx_WS := zx_rs (q := (⟨"IntervalPacker$Unpacking", "hasBytesAndRoom", "(I)Z"⟩, 19)) (List.mem_of_getElem? (i := 29) rfl)
theorem wd_3_53 : (Jvm.Cond.instanceMethod ({ cls := "IntervalPacker$Unpacking", name := "hasBytesAndRoom", desc := "(I)Z" } : Jvm.MethodName)) ∈ zx_WS := zx_r3 (List.mem_of_getElem? (i := 53) rfl) rfl
theorem vo_6_202_6 : zx_vOK zx_mt 6 202 1 6 79 := ⟨"IntervalPacker$Unpacking", zt_Unp, 19, _, rfl, rfl, by decide, wd_3_54, Or.inl ⟨rfl, ⟨by decide, by decide⟩, (by decide +kernel), wd_3_51, wd_3_53, ws_29, wd_0_6⟩⟩
theorem wd_3_79 : (Jvm.Cond.methodLink "IntervalPacker$Unpacking" (205 : Nat) ({ cls := "IntervalPacker$Row", name := "appendAll", desc := "([III)V" } : Jvm.MethodName)) ∈ zx_WS := zx_r3 (List.mem_of_getElem? (i := 79) rfl) rfl
theorem wd_1_187 : (Jvm.Cond.code ({ cls := "IntervalPacker$Row", name := "appendAll", desc := "([III)V" } : Jvm.MethodName) prog_8_method_5_code (5 : Nat) (Option.none : Option Jvm.ClassFile.FieldType)) ∈ zx_WS := zx_r1 (List.mem_of_getElem? (i := 187) rfl) rfl
theorem wd_1_186 : (Jvm.Cond.selects "IntervalPacker$Row" ({ cls := "IntervalPacker$Row", name := "appendAll", desc := "([III)V" } : Jvm.MethodName) ({ cls := "IntervalPacker$Row", name := "appendAll", desc := "([III)V" } : Jvm.MethodName)) ∈ zx_WS := zx_r1 (List.mem_of_getElem? (i := 186) rfl) rfl
theorem wd_1_185 : (Jvm.Cond.instanceMethod ({ cls := "IntervalPacker$Row", name := "appendAll", desc := "([III)V" } : Jvm.MethodName)) ∈ zx_WS := zx_r1 (List.mem_of_getElem? (i := 185) rfl) rfl
theorem vo_6_205_1 : zx_vOK zx_mt 6 205 3 1 23 := ⟨"IntervalPacker$Row", zt_Row, 3, _, rfl, rfl, by decide, wd_1_187, Or.inl ⟨rfl, ⟨by decide, by decide⟩, (by decide +kernel), wd_3_79, wd_1_185, wd_1_186, wd_0_2⟩⟩
theorem wd_3_56 : (Jvm.Cond.methodLink "IntervalPacker$Unpacking" (209 : Nat) ({ cls := "IntervalPacker$BitSource", name := "begin", desc := "([III)V" } : Jvm.MethodName)) ∈ zx_WS := zx_r3 (List.mem_of_getElem? (i := 56) rfl) rfl
theorem wd_3_59 : (Jvm.Cond.code ({ cls := "IntervalPacker$BitSource", name := "begin", desc := "([III)V" } : Jvm.MethodName) prog_4_method_3_code (5 : Nat) (Option.none : Option Jvm.ClassFile.FieldType)) ∈ zx_WS := zx_r3 (List.mem_of_getElem? (i := 59) rfl) rfl
theorem wd_3_58 : (Jvm.Cond.selects "IntervalPacker$BitSource" ({ cls := "IntervalPacker$BitSource", name := "begin", desc := "([III)V" } : Jvm.MethodName) ({ cls := "IntervalPacker$BitSource", name := "begin", desc := "([III)V" } : Jvm.MethodName)) ∈ zx_WS := zx_r3 (List.mem_of_getElem? (i := 58) rfl) rfl
theorem wd_3_57 : (Jvm.Cond.instanceMethod ({ cls := "IntervalPacker$BitSource", name := "begin", desc := "([III)V" } : Jvm.MethodName)) ∈ zx_WS := zx_r3 (List.mem_of_getElem? (i := 57) rfl) rfl
theorem vo_6_209_3 : zx_vOK zx_mt 6 209 3 3 44 := ⟨"IntervalPacker$BitSource", zt_Src, 12, _, rfl, rfl, by decide, wd_3_59, Or.inl ⟨rfl, ⟨by decide, by decide⟩, (by decide +kernel), wd_3_56, wd_3_57, wd_3_58, wd_0_4⟩⟩
theorem wd_3_61 : (Jvm.Cond.methodLink "IntervalPacker$Unpacking" (211 : Nat) ({ cls := "IntervalPacker$Model", name := "useLine", desc := "(LIntervalPacker$BitLine;)V" } : Jvm.MethodName)) ∈ zx_WS := zx_r3 (List.mem_of_getElem? (i := 61) rfl) rfl
theorem wd_2_5 : (Jvm.Cond.code ({ cls := "IntervalPacker$Model", name := "useLine", desc := "(LIntervalPacker$BitLine;)V" } : Jvm.MethodName) prog_6_method_4_code (2 : Nat) (Option.none : Option Jvm.ClassFile.FieldType)) ∈ zx_WS := zx_r2 (List.mem_of_getElem? (i := 5) rfl) rfl
theorem wd_2_4 : (Jvm.Cond.selects "IntervalPacker$Model" ({ cls := "IntervalPacker$Model", name := "useLine", desc := "(LIntervalPacker$BitLine;)V" } : Jvm.MethodName) ({ cls := "IntervalPacker$Model", name := "useLine", desc := "(LIntervalPacker$BitLine;)V" } : Jvm.MethodName)) ∈ zx_WS := zx_r2 (List.mem_of_getElem? (i := 4) rfl) rfl
theorem wd_2_3 : (Jvm.Cond.instanceMethod ({ cls := "IntervalPacker$Model", name := "useLine", desc := "(LIntervalPacker$BitLine;)V" } : Jvm.MethodName)) ∈ zx_WS := zx_r2 (List.mem_of_getElem? (i := 3) rfl) rfl
theorem vo_6_211_5 : zx_vOK zx_mt 6 211 1 5 58 := ⟨"IntervalPacker$Model", zt_Mdl, 11, _, rfl, rfl, by decide, wd_2_5, Or.inl ⟨rfl, ⟨by decide, by decide⟩, (by decide +kernel), wd_3_61, wd_2_3, wd_2_4, wd_0_5⟩⟩
theorem wd_3_62 : (Jvm.Cond.methodLink "IntervalPacker$Unpacking" (215 : Nat) ({ cls := "IntervalPacker$Row", name := "byteBack", desc := "(IJ)I" } : Jvm.MethodName)) ∈ zx_WS := zx_r3 (List.mem_of_getElem? (i := 62) rfl) rfl
theorem vo_6_215_1 : zx_vOK zx_mt 6 215 2 1 27 := ⟨"IntervalPacker$Row", zt_Row, 3, _, rfl, rfl, by decide, wd_1_146, Or.inl ⟨rfl, ⟨by decide, by decide⟩, (by decide +kernel), wd_3_62, wd_1_144, wd_1_145, wd_0_2⟩⟩
theorem wd_3_63 : (Jvm.Cond.methodLink "IntervalPacker$Unpacking" (219 : Nat) ({ cls := "IntervalPacker$Model", name := "distanceOf", desc := "(I)J" } : Jvm.MethodName)) ∈ zx_WS := zx_r3 (List.mem_of_getElem? (i := 63) rfl) rfl
theorem wd_2_26 : (Jvm.Cond.code ({ cls := "IntervalPacker$Model", name := "distanceOf", desc := "(I)J" } : Jvm.MethodName) prog_6_method_5_code (2 : Nat) (Option.some Jvm.ClassFile.FieldType.long)) ∈ zx_WS := zx_r2 (List.mem_of_getElem? (i := 26) rfl) rfl
theorem wd_2_25 : (Jvm.Cond.selects "IntervalPacker$Model" ({ cls := "IntervalPacker$Model", name := "distanceOf", desc := "(I)J" } : Jvm.MethodName) ({ cls := "IntervalPacker$Model", name := "distanceOf", desc := "(I)J" } : Jvm.MethodName)) ∈ zx_WS := zx_r2 (List.mem_of_getElem? (i := 25) rfl) rfl
theorem wd_2_24 : (Jvm.Cond.instanceMethod ({ cls := "IntervalPacker$Model", name := "distanceOf", desc := "(I)J" } : Jvm.MethodName)) ∈ zx_WS := zx_r2 (List.mem_of_getElem? (i := 24) rfl) rfl
theorem vo_6_219_5 : zx_vOK zx_mt 6 219 1 5 59 := ⟨"IntervalPacker$Model", zt_Mdl, 11, _, rfl, rfl, by decide, wd_2_26, Or.inl ⟨rfl, ⟨by decide, by decide⟩, (by decide +kernel), wd_3_63, wd_2_24, wd_2_25, wd_0_5⟩⟩
theorem wd_3_64 : (Jvm.Cond.methodLink "IntervalPacker$Unpacking" (223 : Nat) ({ cls := "IntervalPacker$Model", name := "step", desc := "(III)V" } : Jvm.MethodName)) ∈ zx_WS := zx_r3 (List.mem_of_getElem? (i := 64) rfl) rfl
theorem wd_2_31 : (Jvm.Cond.code ({ cls := "IntervalPacker$Model", name := "step", desc := "(III)V" } : Jvm.MethodName) prog_6_method_6_code (6 : Nat) (Option.none : Option Jvm.ClassFile.FieldType)) ∈ zx_WS := zx_r2 (List.mem_of_getElem? (i := 31) rfl) rfl
theorem wd_2_30 : (Jvm.Cond.selects "IntervalPacker$Model" ({ cls := "IntervalPacker$Model", name := "step", desc := "(III)V" } : Jvm.MethodName) ({ cls := "IntervalPacker$Model", name := "step", desc := "(III)V" } : Jvm.MethodName)) ∈ zx_WS := zx_r2 (List.mem_of_getElem? (i := 30) rfl) rfl
theorem wd_2_29 : (Jvm.Cond.instanceMethod ({ cls := "IntervalPacker$Model", name := "step", desc := "(III)V" } : Jvm.MethodName)) ∈ zx_WS := zx_r2 (List.mem_of_getElem? (i := 29) rfl) rfl
theorem vo_6_223_5 : zx_vOK zx_mt 6 223 3 5 60 := ⟨"IntervalPacker$Model", zt_Mdl, 11, _, rfl, rfl, by decide, wd_2_31, Or.inl ⟨rfl, ⟨by decide, by decide⟩, (by decide +kernel), wd_3_64, wd_2_29, wd_2_30, wd_0_5⟩⟩
theorem wd_3_65 : (Jvm.Cond.methodLink "IntervalPacker$Unpacking" (230 : Nat) ({ cls := "IntervalPacker$Unpacking", name := "giveStep", desc := "(II)Z" } : Jvm.MethodName)) ∈ zx_WS := zx_r3 (List.mem_of_getElem? (i := 65) rfl) rfl
theorem wd_3_68 : (Jvm.Cond.code ({ cls := "IntervalPacker$Unpacking", name := "giveStep", desc := "(II)Z" } : Jvm.MethodName) prog_9_method_15_code (3 : Nat) (Option.some Jvm.ClassFile.FieldType.boolean)) ∈ zx_WS := zx_r3 (List.mem_of_getElem? (i := 68) rfl) rfl
theorem ws_30 : Cond.selects "IntervalPacker$Unpacking" ⟨"IntervalPacker$Unpacking", "giveStep", "(II)Z"⟩ ⟨"IntervalPacker$Unpacking", "giveStep", "(II)Z"⟩ ∈ zx_WS := zx_rs (q := (⟨"IntervalPacker$Unpacking", "giveStep", "(II)Z"⟩, 19)) (List.mem_of_getElem? (i := 30) rfl)
theorem wd_3_67 : (Jvm.Cond.instanceMethod ({ cls := "IntervalPacker$Unpacking", name := "giveStep", desc := "(II)Z" } : Jvm.MethodName)) ∈ zx_WS := zx_r3 (List.mem_of_getElem? (i := 67) rfl) rfl
theorem vo_6_230_6 : zx_vOK zx_mt 6 230 2 6 82 := ⟨"IntervalPacker$Unpacking", zt_Unp, 19, _, rfl, rfl, by decide, wd_3_68, Or.inl ⟨rfl, ⟨by decide, by decide⟩, (by decide +kernel), wd_3_65, wd_3_67, ws_30, wd_0_6⟩⟩
theorem wd_3_71 : (Jvm.Cond.methodLink "IntervalPacker$Unpacking" (237 : Nat) ({ cls := "IntervalPacker$BitSource", name := "endsWell", desc := "()Z" } : Jvm.MethodName)) ∈ zx_WS := zx_r3 (List.mem_of_getElem? (i := 71) rfl) rfl
theorem wd_3_74 : (Jvm.Cond.code ({ cls := "IntervalPacker$BitSource", name := "endsWell", desc := "()Z" } : Jvm.MethodName) prog_4_method_8_code (1 : Nat) (Option.some Jvm.ClassFile.FieldType.boolean)) ∈ zx_WS := zx_r3 (List.mem_of_getElem? (i := 74) rfl) rfl
theorem wd_3_73 : (Jvm.Cond.selects "IntervalPacker$BitSource" ({ cls := "IntervalPacker$BitSource", name := "endsWell", desc := "()Z" } : Jvm.MethodName) ({ cls := "IntervalPacker$BitSource", name := "endsWell", desc := "()Z" } : Jvm.MethodName)) ∈ zx_WS := zx_r3 (List.mem_of_getElem? (i := 73) rfl) rfl
theorem wd_3_72 : (Jvm.Cond.instanceMethod ({ cls := "IntervalPacker$BitSource", name := "endsWell", desc := "()Z" } : Jvm.MethodName)) ∈ zx_WS := zx_r3 (List.mem_of_getElem? (i := 72) rfl) rfl
theorem vo_6_237_3 : zx_vOK zx_mt 6 237 0 3 49 := ⟨"IntervalPacker$BitSource", zt_Src, 12, _, rfl, rfl, by decide, wd_3_74, Or.inl ⟨rfl, ⟨by decide, by decide⟩, (by decide +kernel), wd_3_71, wd_3_72, wd_3_73, wd_0_4⟩⟩
theorem wd_3_69 : (Jvm.Cond.methodLink "IntervalPacker$Unpacking" (243 : Nat) ({ cls := "IntervalPacker$Row", name := "append", desc := "(I)V" } : Jvm.MethodName)) ∈ zx_WS := zx_r3 (List.mem_of_getElem? (i := 69) rfl) rfl
theorem vo_6_243_1 : zx_vOK zx_mt 6 243 1 1 22 := ⟨"IntervalPacker$Row", zt_Row, 3, _, rfl, rfl, by decide, wd_1_134, Or.inl ⟨rfl, ⟨by decide, by decide⟩, (by decide +kernel), wd_3_69, wd_1_132, wd_1_133, wd_0_2⟩⟩
theorem wd_3_70 : (Jvm.Cond.methodLink "IntervalPacker$Unpacking" (249 : Nat) ({ cls := "IntervalPacker$Row", name := "repeat", desc := "(JI)V" } : Jvm.MethodName)) ∈ zx_WS := zx_r3 (List.mem_of_getElem? (i := 70) rfl) rfl
theorem vo_6_249_1 : zx_vOK zx_mt 6 249 2 1 25 := ⟨"IntervalPacker$Row", zt_Row, 3, _, rfl, rfl, by decide, wd_1_142, Or.inl ⟨rfl, ⟨by decide, by decide⟩, (by decide +kernel), wd_3_70, wd_1_140, wd_1_141, wd_0_2⟩⟩
theorem wd_3_85 : (Jvm.Cond.methodLink "IntervalPacker$Unpacking" (257 : Nat) ({ cls := "IntervalPacker$Cursor", name := "expectFilling", desc := "(I)V" } : Jvm.MethodName)) ∈ zx_WS := zx_r3 (List.mem_of_getElem? (i := 85) rfl) rfl
theorem wd_3_88 : (Jvm.Cond.code ({ cls := "IntervalPacker$Cursor", name := "expectFilling", desc := "(I)V" } : Jvm.MethodName) prog_5_method_10_code (3 : Nat) (Option.none : Option Jvm.ClassFile.FieldType)) ∈ zx_WS := zx_r3 (List.mem_of_getElem? (i := 88) rfl) rfl
theorem wd_3_87 : (Jvm.Cond.selects "IntervalPacker$Cursor" ({ cls := "IntervalPacker$Cursor", name := "expectFilling", desc := "(I)V" } : Jvm.MethodName) ({ cls := "IntervalPacker$Cursor", name := "expectFilling", desc := "(I)V" } : Jvm.MethodName)) ∈ zx_WS := zx_r3 (List.mem_of_getElem? (i := 87) rfl) rfl
theorem wd_3_86 : (Jvm.Cond.instanceMethod ({ cls := "IntervalPacker$Cursor", name := "expectFilling", desc := "(I)V" } : Jvm.MethodName)) ∈ zx_WS := zx_r3 (List.mem_of_getElem? (i := 86) rfl) rfl
theorem vo_6_257_2 : zx_vOK zx_mt 6 257 1 2 37 := ⟨"IntervalPacker$Cursor", zt_Cur, 6, _, rfl, rfl, by decide, wd_3_88, Or.inl ⟨rfl, ⟨by decide, by decide⟩, (by decide +kernel), wd_3_85, wd_3_86, wd_3_87, wd_0_7⟩⟩
theorem wd_3_95 : (Jvm.Cond.methodLink "IntervalPacker$Unpacking" (264 : Nat) ({ cls := "IntervalPacker$Cursor", name := "expectNumber", desc := "(J)V" } : Jvm.MethodName)) ∈ zx_WS := zx_r3 (List.mem_of_getElem? (i := 95) rfl) rfl
theorem wd_3_98 : (Jvm.Cond.code ({ cls := "IntervalPacker$Cursor", name := "expectNumber", desc := "(J)V" } : Jvm.MethodName) prog_5_method_15_code (4 : Nat) (Option.none : Option Jvm.ClassFile.FieldType)) ∈ zx_WS := zx_r3 (List.mem_of_getElem? (i := 98) rfl) rfl
theorem wd_3_97 : (Jvm.Cond.selects "IntervalPacker$Cursor" ({ cls := "IntervalPacker$Cursor", name := "expectNumber", desc := "(J)V" } : Jvm.MethodName) ({ cls := "IntervalPacker$Cursor", name := "expectNumber", desc := "(J)V" } : Jvm.MethodName)) ∈ zx_WS := zx_r3 (List.mem_of_getElem? (i := 97) rfl) rfl
theorem wd_3_96 : (Jvm.Cond.instanceMethod ({ cls := "IntervalPacker$Cursor", name := "expectNumber", desc := "(J)V" } : Jvm.MethodName)) ∈ zx_WS := zx_r3 (List.mem_of_getElem? (i := 96) rfl) rfl
theorem vo_6_264_2 : zx_vOK zx_mt 6 264 1 2 42 := ⟨"IntervalPacker$Cursor", zt_Cur, 6, _, rfl, rfl, by decide, wd_3_98, Or.inl ⟨rfl, ⟨by decide, by decide⟩, (by decide +kernel), wd_3_95, wd_3_96, wd_3_97, wd_0_7⟩⟩
theorem wd_1_178 : (Jvm.Cond.methodLink "IntervalPacker$Packing" (42 : Nat) ({ cls := "IntervalPacker$Row", name := "clear", desc := "()V" } : Jvm.MethodName)) ∈ zx_WS := zx_r1 (List.mem_of_getElem? (i := 178) rfl) rfl
theorem vo_7_42_1 : zx_vOK zx_mt 7 42 0 1 20 := ⟨"IntervalPacker$Row", zt_Row, 3, _, rfl, rfl, by decide, wd_1_181, Or.inl ⟨rfl, ⟨by decide, by decide⟩, (by decide +kernel), wd_1_178, wd_1_179, wd_1_180, wd_0_2⟩⟩
theorem wd_1_184 : (Jvm.Cond.methodLink "IntervalPacker$Packing" (48 : Nat) ({ cls := "IntervalPacker$Row", name := "appendAll", desc := "([III)V" } : Jvm.MethodName)) ∈ zx_WS := zx_r1 (List.mem_of_getElem? (i := 184) rfl) rfl
theorem vo_7_48_1 : zx_vOK zx_mt 7 48 3 1 23 := ⟨"IntervalPacker$Row", zt_Row, 3, _, rfl, rfl, by decide, wd_1_187, Or.inl ⟨rfl, ⟨by decide, by decide⟩, (by decide +kernel), wd_1_184, wd_1_185, wd_1_186, wd_0_2⟩⟩
theorem wd_1_188 : (Jvm.Cond.methodLink "IntervalPacker$Packing" (52 : Nat) ({ cls := "IntervalPacker$Row", name := "append", desc := "(I)V" } : Jvm.MethodName)) ∈ zx_WS := zx_r1 (List.mem_of_getElem? (i := 188) rfl) rfl
theorem vo_7_52_1 : zx_vOK zx_mt 7 52 1 1 22 := ⟨"IntervalPacker$Row", zt_Row, 3, _, rfl, rfl, by decide, wd_1_134, Or.inl ⟨rfl, ⟨by decide, by decide⟩, (by decide +kernel), wd_1_188, wd_1_132, wd_1_133, wd_0_2⟩⟩
theorem wd_1_197 : (Jvm.Cond.methodLink "IntervalPacker$Packing" (62 : Nat) ({ cls := "IntervalPacker$Row", name := "appendLowFirst", desc := "(JI)V" } : Jvm.MethodName)) ∈ zx_WS := zx_r1 (List.mem_of_getElem? (i := 197) rfl) rfl
theorem wd_1_200 : (Jvm.Cond.code ({ cls := "IntervalPacker$Row", name := "appendLowFirst", desc := "(JI)V" } : Jvm.MethodName) prog_8_method_6_code (5 : Nat) (Option.none : Option Jvm.ClassFile.FieldType)) ∈ zx_WS := zx_r1 (List.mem_of_getElem? (i := 200) rfl) rfl
theorem wd_1_199 : (Jvm.Cond.selects "IntervalPacker$Row" ({ cls := "IntervalPacker$Row", name := "appendLowFirst", desc := "(JI)V" } : Jvm.MethodName) ({ cls := "IntervalPacker$Row", name := "appendLowFirst", desc := "(JI)V" } : Jvm.MethodName)) ∈ zx_WS := zx_r1 (List.mem_of_getElem? (i := 199) rfl) rfl
theorem wd_1_198 : (Jvm.Cond.instanceMethod ({ cls := "IntervalPacker$Row", name := "appendLowFirst", desc := "(JI)V" } : Jvm.MethodName)) ∈ zx_WS := zx_r1 (List.mem_of_getElem? (i := 198) rfl) rfl
theorem vo_7_62_1 : zx_vOK zx_mt 7 62 2 1 24 := ⟨"IntervalPacker$Row", zt_Row, 3, _, rfl, rfl, by decide, wd_1_200, Or.inl ⟨rfl, ⟨by decide, by decide⟩, (by decide +kernel), wd_1_197, wd_1_198, wd_1_199, wd_0_2⟩⟩
theorem wd_1_212 : (Jvm.Cond.methodLink "IntervalPacker$Packing" (85 : Nat) ({ cls := "IntervalPacker$Packing", name := "encode", desc := "(II)Z" } : Jvm.MethodName)) ∈ zx_WS := zx_r1 (List.mem_of_getElem? (i := 212) rfl) rfl
theorem wd_1_215 : (Jvm.Cond.code ({ cls := "IntervalPacker$Packing", name := "encode", desc := "(II)Z" } : Jvm.MethodName) prog_7_method_8_code (5 : Nat) (Option.some Jvm.ClassFile.FieldType.boolean)) ∈ zx_WS := zx_r1 (List.mem_of_getElem? (i := 215) rfl) rfl
theorem ws_1 : Cond.selects "IntervalPacker$Packing" ⟨"IntervalPacker$Packing", "encode", "(II)Z"⟩ ⟨"IntervalPacker$Packing", "encode", "(II)Z"⟩ ∈ zx_WS := zx_rs (q := (⟨"IntervalPacker$Packing", "encode", "(II)Z"⟩, 17)) (List.mem_of_getElem? (i := 1) rfl)
theorem wd_1_214 : (Jvm.Cond.instanceMethod ({ cls := "IntervalPacker$Packing", name := "encode", desc := "(II)Z" } : Jvm.MethodName)) ∈ zx_WS := zx_r1 (List.mem_of_getElem? (i := 214) rfl) rfl
theorem vo_7_85_7 : zx_vOK zx_mt 7 85 2 7 92 := ⟨"IntervalPacker$Packing", zt_Pkg, 17, _, rfl, rfl, by decide, wd_1_215, Or.inl ⟨rfl, ⟨by decide, by decide⟩, (by decide +kernel), wd_1_212, wd_1_214, ws_1, wd_0_8⟩⟩
theorem wd_2_126 : (Jvm.Cond.methodLink "IntervalPacker$Packing" (89 : Nat) ({ cls := "IntervalPacker$Packing", name := "writeCoded", desc := "(I)V" } : Jvm.MethodName)) ∈ zx_WS := zx_r2 (List.mem_of_getElem? (i := 126) rfl) rfl
theorem wd_2_129 : (Jvm.Cond.code ({ cls := "IntervalPacker$Packing", name := "writeCoded", desc := "(I)V" } : Jvm.MethodName) prog_7_method_6_code (3 : Nat) (Option.none : Option Jvm.ClassFile.FieldType)) ∈ zx_WS := zx_r2 (List.mem_of_getElem? (i := 129) rfl) rfl
theorem ws_17 : Cond.selects "IntervalPacker$Packing" ⟨"IntervalPacker$Packing", "writeCoded", "(I)V"⟩ ⟨"IntervalPacker$Packing", "writeCoded", "(I)V"⟩ ∈ zx_WS := zx_rs (q := (⟨"IntervalPacker$Packing", "writeCoded", "(I)V"⟩, 17)) (List.mem_of_getElem? (i := 17) rfl)
theorem wd_2_128 : (Jvm.Cond.instanceMethod ({ cls := "IntervalPacker$Packing", name := "writeCoded", desc := "(I)V" } : Jvm.MethodName)) ∈ zx_WS := zx_r2 (List.mem_of_getElem? (i := 128) rfl) rfl
theorem vo_7_89_7 : zx_vOK zx_mt 7 89 1 7 90 := ⟨"IntervalPacker$Packing", zt_Pkg, 17, _, rfl, rfl, by decide, wd_2_129, Or.inl ⟨rfl, ⟨by decide, by decide⟩, (by decide +kernel), wd_2_126, wd_2_128, ws_17, wd_0_8⟩⟩
theorem wd_2_134 : (Jvm.Cond.methodLink "IntervalPacker$Packing" (92 : Nat) ({ cls := "IntervalPacker$Packing", name := "writePlain", desc := "(II)V" } : Jvm.MethodName)) ∈ zx_WS := zx_r2 (List.mem_of_getElem? (i := 134) rfl) rfl
theorem wd_2_137 : (Jvm.Cond.code ({ cls := "IntervalPacker$Packing", name := "writePlain", desc := "(II)V" } : Jvm.MethodName) prog_7_method_5_code (3 : Nat) (Option.none : Option Jvm.ClassFile.FieldType)) ∈ zx_WS := zx_r2 (List.mem_of_getElem? (i := 137) rfl) rfl
theorem ws_19 : Cond.selects "IntervalPacker$Packing" ⟨"IntervalPacker$Packing", "writePlain", "(II)V"⟩ ⟨"IntervalPacker$Packing", "writePlain", "(II)V"⟩ ∈ zx_WS := zx_rs (q := (⟨"IntervalPacker$Packing", "writePlain", "(II)V"⟩, 17)) (List.mem_of_getElem? (i := 19) rfl)
theorem wd_2_136 : (Jvm.Cond.instanceMethod ({ cls := "IntervalPacker$Packing", name := "writePlain", desc := "(II)V" } : Jvm.MethodName)) ∈ zx_WS := zx_r2 (List.mem_of_getElem? (i := 136) rfl) rfl
theorem vo_7_92_7 : zx_vOK zx_mt 7 92 2 7 89 := ⟨"IntervalPacker$Packing", zt_Pkg, 17, _, rfl, rfl, by decide, wd_2_137, Or.inl ⟨rfl, ⟨by decide, by decide⟩, (by decide +kernel), wd_2_134, wd_2_136, ws_19, wd_0_8⟩⟩
theorem wd_2_130 : (Jvm.Cond.methodLink "IntervalPacker$Packing" (96 : Nat) ({ cls := "IntervalPacker$Packing", name := "appendTwo", desc := "(I)V" } : Jvm.MethodName)) ∈ zx_WS := zx_r2 (List.mem_of_getElem? (i := 130) rfl) rfl
theorem wd_2_133 : (Jvm.Cond.code ({ cls := "IntervalPacker$Packing", name := "appendTwo", desc := "(I)V" } : Jvm.MethodName) prog_7_method_7_code (2 : Nat) (Option.none : Option Jvm.ClassFile.FieldType)) ∈ zx_WS := zx_r2 (List.mem_of_getElem? (i := 133) rfl) rfl
theorem ws_18 : Cond.selects "IntervalPacker$Packing" ⟨"IntervalPacker$Packing", "appendTwo", "(I)V"⟩ ⟨"IntervalPacker$Packing", "appendTwo", "(I)V"⟩ ∈ zx_WS := zx_rs (q := (⟨"IntervalPacker$Packing", "appendTwo", "(I)V"⟩, 17)) (List.mem_of_getElem? (i := 18) rfl)
theorem wd_2_132 : (Jvm.Cond.instanceMethod ({ cls := "IntervalPacker$Packing", name := "appendTwo", desc := "(I)V" } : Jvm.MethodName)) ∈ zx_WS := zx_r2 (List.mem_of_getElem? (i := 132) rfl) rfl
theorem vo_7_96_7 : zx_vOK zx_mt 7 96 1 7 91 := ⟨"IntervalPacker$Packing", zt_Pkg, 17, _, rfl, rfl, by decide, wd_2_133, Or.inl ⟨rfl, ⟨by decide, by decide⟩, (by decide +kernel), wd_2_130, wd_2_132, ws_18, wd_0_8⟩⟩
theorem wd_1_216 : (Jvm.Cond.methodLink "IntervalPacker$Packing" (105 : Nat) ({ cls := "IntervalPacker$BitSink", name := "begin", desc := "(I)V" } : Jvm.MethodName)) ∈ zx_WS := zx_r1 (List.mem_of_getElem? (i := 216) rfl) rfl
theorem wd_1_219 : (Jvm.Cond.code ({ cls := "IntervalPacker$BitSink", name := "begin", desc := "(I)V" } : Jvm.MethodName) prog_3_method_2_code (2 : Nat) (Option.none : Option Jvm.ClassFile.FieldType)) ∈ zx_WS := zx_r1 (List.mem_of_getElem? (i := 219) rfl) rfl
theorem wd_1_218 : (Jvm.Cond.selects "IntervalPacker$BitSink" ({ cls := "IntervalPacker$BitSink", name := "begin", desc := "(I)V" } : Jvm.MethodName) ({ cls := "IntervalPacker$BitSink", name := "begin", desc := "(I)V" } : Jvm.MethodName)) ∈ zx_WS := zx_r1 (List.mem_of_getElem? (i := 218) rfl) rfl
theorem wd_1_217 : (Jvm.Cond.instanceMethod ({ cls := "IntervalPacker$BitSink", name := "begin", desc := "(I)V" } : Jvm.MethodName)) ∈ zx_WS := zx_r1 (List.mem_of_getElem? (i := 217) rfl) rfl
theorem vo_7_105_4 : zx_vOK zx_mt 7 105 1 4 50 := ⟨"IntervalPacker$BitSink", zt_Snk, 6, _, rfl, rfl, by decide, wd_1_219, Or.inl ⟨rfl, ⟨by decide, by decide⟩, (by decide +kernel), wd_1_216, wd_1_217, wd_1_218, wd_0_9⟩⟩
theorem wd_1_225 : (Jvm.Cond.methodLink "IntervalPacker$Packing" (111 : Nat) ({ cls := "IntervalPacker$Model", name := "setProperties", desc := "(I)V" } : Jvm.MethodName)) ∈ zx_WS := zx_r1 (List.mem_of_getElem? (i := 225) rfl) rfl
theorem vo_7_111_5 : zx_vOK zx_mt 7 111 1 5 56 := ⟨"IntervalPacker$Model", zt_Mdl, 11, _, rfl, rfl, by decide, wd_1_228, Or.inl ⟨rfl, ⟨by decide, by decide⟩, (by decide +kernel), wd_1_225, wd_1_226, wd_1_227, wd_0_5⟩⟩
theorem wd_1_229 : (Jvm.Cond.methodLink "IntervalPacker$Packing" (116 : Nat) ({ cls := "IntervalPacker$Model", name := "beginAnew", desc := "()V" } : Jvm.MethodName)) ∈ zx_WS := zx_r1 (List.mem_of_getElem? (i := 229) rfl) rfl
theorem vo_7_116_5 : zx_vOK zx_mt 7 116 0 5 57 := ⟨"IntervalPacker$Model", zt_Mdl, 11, _, rfl, rfl, by decide, wd_1_232, Or.inl ⟨rfl, ⟨by decide, by decide⟩, (by decide +kernel), wd_1_229, wd_1_230, wd_1_231, wd_0_5⟩⟩
theorem wd_2_2 : (Jvm.Cond.methodLink "IntervalPacker$Packing" (119 : Nat) ({ cls := "IntervalPacker$Model", name := "useLine", desc := "(LIntervalPacker$BitLine;)V" } : Jvm.MethodName)) ∈ zx_WS := zx_r2 (List.mem_of_getElem? (i := 2) rfl) rfl
theorem vo_7_119_5 : zx_vOK zx_mt 7 119 1 5 58 := ⟨"IntervalPacker$Model", zt_Mdl, 11, _, rfl, rfl, by decide, wd_2_5, Or.inl ⟨rfl, ⟨by decide, by decide⟩, (by decide +kernel), wd_2_2, wd_2_3, wd_2_4, wd_0_5⟩⟩
theorem wd_2_7 : (Jvm.Cond.methodLink "IntervalPacker$Packing" (129 : Nat) ({ cls := "IntervalPacker$Packing", name := "choose", desc := "(II)V" } : Jvm.MethodName)) ∈ zx_WS := zx_r2 (List.mem_of_getElem? (i := 7) rfl) rfl
theorem wd_2_10 : (Jvm.Cond.code ({ cls := "IntervalPacker$Packing", name := "choose", desc := "(II)V" } : Jvm.MethodName) prog_7_method_9_code (3 : Nat) (Option.none : Option Jvm.ClassFile.FieldType)) ∈ zx_WS := zx_r2 (List.mem_of_getElem? (i := 10) rfl) rfl
theorem ws_2 : Cond.selects "IntervalPacker$Packing" ⟨"IntervalPacker$Packing", "choose", "(II)V"⟩ ⟨"IntervalPacker$Packing", "choose", "(II)V"⟩ ∈ zx_WS := zx_rs (q := (⟨"IntervalPacker$Packing", "choose", "(II)V"⟩, 17)) (List.mem_of_getElem? (i := 2) rfl)
theorem wd_2_9 : (Jvm.Cond.instanceMethod ({ cls := "IntervalPacker$Packing", name := "choose", desc := "(II)V" } : Jvm.MethodName)) ∈ zx_WS := zx_r2 (List.mem_of_getElem? (i := 9) rfl) rfl
theorem vo_7_129_7 : zx_vOK zx_mt 7 129 2 7 93 := ⟨"IntervalPacker$Packing", zt_Pkg, 17, _, rfl, rfl, by decide, wd_2_10, Or.inl ⟨rfl, ⟨by decide, by decide⟩, (by decide +kernel), wd_2_7, wd_2_9, ws_2, wd_0_8⟩⟩
theorem wd_2_23 : (Jvm.Cond.methodLink "IntervalPacker$Packing" (132 : Nat) ({ cls := "IntervalPacker$Model", name := "distanceOf", desc := "(I)J" } : Jvm.MethodName)) ∈ zx_WS := zx_r2 (List.mem_of_getElem? (i := 23) rfl) rfl
theorem vo_7_132_5 : zx_vOK zx_mt 7 132 1 5 59 := ⟨"IntervalPacker$Model", zt_Mdl, 11, _, rfl, rfl, by decide, wd_2_26, Or.inl ⟨rfl, ⟨by decide, by decide⟩, (by decide +kernel), wd_2_23, wd_2_24, wd_2_25, wd_0_5⟩⟩
theorem wd_2_27 : (Jvm.Cond.methodLink "IntervalPacker$Packing" (136 : Nat) ({ cls := "IntervalPacker$Row", name := "byteBack", desc := "(IJ)I" } : Jvm.MethodName)) ∈ zx_WS := zx_r2 (List.mem_of_getElem? (i := 27) rfl) rfl
theorem vo_7_136_1 : zx_vOK zx_mt 7 136 2 1 27 := ⟨"IntervalPacker$Row", zt_Row, 3, _, rfl, rfl, by decide, wd_1_146, Or.inl ⟨rfl, ⟨by decide, by decide⟩, (by decide +kernel), wd_2_27, wd_1_144, wd_1_145, wd_0_2⟩⟩
theorem wd_2_28 : (Jvm.Cond.methodLink "IntervalPacker$Packing" (140 : Nat) ({ cls := "IntervalPacker$Model", name := "step", desc := "(III)V" } : Jvm.MethodName)) ∈ zx_WS := zx_r2 (List.mem_of_getElem? (i := 28) rfl) rfl
theorem vo_7_140_5 : zx_vOK zx_mt 7 140 3 5 60 := ⟨"IntervalPacker$Model", zt_Mdl, 11, _, rfl, rfl, by decide, wd_2_31, Or.inl ⟨rfl, ⟨by decide, by decide⟩, (by decide +kernel), wd_2_28, wd_2_29, wd_2_30, wd_0_5⟩⟩
theorem wd_2_122 : (Jvm.Cond.methodLink "IntervalPacker$Packing" (150 : Nat) ({ cls := "IntervalPacker$BitSink", name := "finish", desc := "()V" } : Jvm.MethodName)) ∈ zx_WS := zx_r2 (List.mem_of_getElem? (i := 122) rfl) rfl
theorem wd_2_125 : (Jvm.Cond.code ({ cls := "IntervalPacker$BitSink", name := "finish", desc := "()V" } : Jvm.MethodName) prog_3_method_7_code (1 : Nat) (Option.none : Option Jvm.ClassFile.FieldType)) ∈ zx_WS := zx_r2 (List.mem_of_getElem? (i := 125) rfl) rfl
theorem wd_2_124 : (Jvm.Cond.selects "IntervalPacker$BitSink" ({ cls := "IntervalPacker$BitSink", name := "finish", desc := "()V" } : Jvm.MethodName) ({ cls := "IntervalPacker$BitSink", name := "finish", desc := "()V" } : Jvm.MethodName)) ∈ zx_WS := zx_r2 (List.mem_of_getElem? (i := 124) rfl) rfl
theorem wd_2_123 : (Jvm.Cond.instanceMethod ({ cls := "IntervalPacker$BitSink", name := "finish", desc := "()V" } : Jvm.MethodName)) ∈ zx_WS := zx_r2 (List.mem_of_getElem? (i := 123) rfl) rfl
theorem vo_7_150_4 : zx_vOK zx_mt 7 150 0 4 55 := ⟨"IntervalPacker$BitSink", zt_Snk, 6, _, rfl, rfl, by decide, wd_2_125, Or.inl ⟨rfl, ⟨by decide, by decide⟩, (by decide +kernel), wd_2_122, wd_2_123, wd_2_124, wd_0_9⟩⟩
theorem wd_2_11 : (Jvm.Cond.methodLink "IntervalPacker$Packing" (153 : Nat) ({ cls := "IntervalPacker$Packing", name := "searchMatch", desc := "(II)V" } : Jvm.MethodName)) ∈ zx_WS := zx_r2 (List.mem_of_getElem? (i := 11) rfl) rfl
theorem wd_2_14 : (Jvm.Cond.code ({ cls := "IntervalPacker$Packing", name := "searchMatch", desc := "(II)V" } : Jvm.MethodName) prog_7_method_10_code (5 : Nat) (Option.none : Option Jvm.ClassFile.FieldType)) ∈ zx_WS := zx_r2 (List.mem_of_getElem? (i := 14) rfl) rfl
theorem ws_3 : Cond.selects "IntervalPacker$Packing" ⟨"IntervalPacker$Packing", "searchMatch", "(II)V"⟩ ⟨"IntervalPacker$Packing", "searchMatch", "(II)V"⟩ ∈ zx_WS := zx_rs (q := (⟨"IntervalPacker$Packing", "searchMatch", "(II)V"⟩, 17)) (List.mem_of_getElem? (i := 3) rfl)
theorem wd_2_13 : (Jvm.Cond.instanceMethod ({ cls := "IntervalPacker$Packing", name := "searchMatch", desc := "(II)V" } : Jvm.MethodName)) ∈ zx_WS := zx_r2 (List.mem_of_getElem? (i := 13) rfl) rfl
theorem vo_7_153_7 : zx_vOK zx_mt 7 153 2 7 94 := ⟨"IntervalPacker$Packing", zt_Pkg, 17, _, rfl, rfl, by decide, wd_2_14, Or.inl ⟨rfl, ⟨by decide, by decide⟩, (by decide +kernel), wd_2_11, wd_2_13, ws_3, wd_0_8⟩⟩
theorem wd_2_19 : (Jvm.Cond.methodLink "IntervalPacker$Packing" (156 : Nat) ({ cls := "IntervalPacker$Packing", name := "searchAgain", desc := "(II)V" } : Jvm.MethodName)) ∈ zx_WS := zx_r2 (List.mem_of_getElem? (i := 19) rfl) rfl
theorem wd_2_22 : (Jvm.Cond.code ({ cls := "IntervalPacker$Packing", name := "searchAgain", desc := "(II)V" } : Jvm.MethodName) prog_7_method_11_code (5 : Nat) (Option.none : Option Jvm.ClassFile.FieldType)) ∈ zx_WS := zx_r2 (List.mem_of_getElem? (i := 22) rfl) rfl
theorem ws_5 : Cond.selects "IntervalPacker$Packing" ⟨"IntervalPacker$Packing", "searchAgain", "(II)V"⟩ ⟨"IntervalPacker$Packing", "searchAgain", "(II)V"⟩ ∈ zx_WS := zx_rs (q := (⟨"IntervalPacker$Packing", "searchAgain", "(II)V"⟩, 17)) (List.mem_of_getElem? (i := 5) rfl)
theorem wd_2_21 : (Jvm.Cond.instanceMethod ({ cls := "IntervalPacker$Packing", name := "searchAgain", desc := "(II)V" } : Jvm.MethodName)) ∈ zx_WS := zx_r2 (List.mem_of_getElem? (i := 21) rfl) rfl
theorem vo_7_156_7 : zx_vOK zx_mt 7 156 2 7 95 := ⟨"IntervalPacker$Packing", zt_Pkg, 17, _, rfl, rfl, by decide, wd_2_22, Or.inl ⟨rfl, ⟨by decide, by decide⟩, (by decide +kernel), wd_2_19, wd_2_21, ws_5, wd_0_8⟩⟩
theorem wd_2_15 : (Jvm.Cond.methodLink "IntervalPacker$Packing" (181 : Nat) ({ cls := "IntervalPacker$Packing", name := "sameBytes", desc := "(IJI)I" } : Jvm.MethodName)) ∈ zx_WS := zx_r2 (List.mem_of_getElem? (i := 15) rfl) rfl
theorem wd_2_18 : (Jvm.Cond.code ({ cls := "IntervalPacker$Packing", name := "sameBytes", desc := "(IJI)I" } : Jvm.MethodName) prog_7_method_12_code (8 : Nat) (Option.some Jvm.ClassFile.FieldType.int)) ∈ zx_WS := zx_r2 (List.mem_of_getElem? (i := 18) rfl) rfl
theorem ws_4 : Cond.selects "IntervalPacker$Packing" ⟨"IntervalPacker$Packing", "sameBytes", "(IJI)I"⟩ ⟨"IntervalPacker$Packing", "sameBytes", "(IJI)I"⟩ ∈ zx_WS := zx_rs (q := (⟨"IntervalPacker$Packing", "sameBytes", "(IJI)I"⟩, 17)) (List.mem_of_getElem? (i := 4) rfl)
theorem wd_2_17 : (Jvm.Cond.instanceMethod ({ cls := "IntervalPacker$Packing", name := "sameBytes", desc := "(IJI)I" } : Jvm.MethodName)) ∈ zx_WS := zx_r2 (List.mem_of_getElem? (i := 17) rfl) rfl
theorem vo_7_181_7 : zx_vOK zx_mt 7 181 3 7 96 := ⟨"IntervalPacker$Packing", zt_Pkg, 17, _, rfl, rfl, by decide, wd_2_18, Or.inl ⟨rfl, ⟨by decide, by decide⟩, (by decide +kernel), wd_2_15, wd_2_17, ws_4, wd_0_8⟩⟩
theorem wd_2_145 : (Jvm.Cond.methodLink "IntervalPacker$Packing" (192 : Nat) ({ cls := "IntervalPacker$Packing", name := "fillUp", desc := "(I)V" } : Jvm.MethodName)) ∈ zx_WS := zx_r2 (List.mem_of_getElem? (i := 145) rfl) rfl
theorem wd_2_148 : (Jvm.Cond.code ({ cls := "IntervalPacker$Packing", name := "fillUp", desc := "(I)V" } : Jvm.MethodName) prog_7_method_14_code (3 : Nat) (Option.none : Option Jvm.ClassFile.FieldType)) ∈ zx_WS := zx_r2 (List.mem_of_getElem? (i := 148) rfl) rfl
theorem ws_20 : Cond.selects "IntervalPacker$Packing" ⟨"IntervalPacker$Packing", "fillUp", "(I)V"⟩ ⟨"IntervalPacker$Packing", "fillUp", "(I)V"⟩ ∈ zx_WS := zx_rs (q := (⟨"IntervalPacker$Packing", "fillUp", "(I)V"⟩, 17)) (List.mem_of_getElem? (i := 20) rfl)
theorem wd_2_147 : (Jvm.Cond.instanceMethod ({ cls := "IntervalPacker$Packing", name := "fillUp", desc := "(I)V" } : Jvm.MethodName)) ∈ zx_WS := zx_r2 (List.mem_of_getElem? (i := 147) rfl) rfl
theorem vo_7_192_7 : zx_vOK zx_mt 7 192 1 7 98 := ⟨"IntervalPacker$Packing", zt_Pkg, 17, _, rfl, rfl, by decide, wd_2_148, Or.inl ⟨rfl, ⟨by decide, by decide⟩, (by decide +kernel), wd_2_145, wd_2_147, ws_20, wd_0_8⟩⟩
theorem wd_2_158 : (Jvm.Cond.methodLink "IntervalPacker$Packing" (202 : Nat) ({ cls := "IntervalPacker$Packing", name := "appendNumber", desc := "(J)V" } : Jvm.MethodName)) ∈ zx_WS := zx_r2 (List.mem_of_getElem? (i := 158) rfl) rfl
theorem wd_2_161 : (Jvm.Cond.code ({ cls := "IntervalPacker$Packing", name := "appendNumber", desc := "(J)V" } : Jvm.MethodName) prog_7_method_15_code (6 : Nat) (Option.none : Option Jvm.ClassFile.FieldType)) ∈ zx_WS := zx_r2 (List.mem_of_getElem? (i := 161) rfl) rfl
theorem ws_21 : Cond.selects "IntervalPacker$Packing" ⟨"IntervalPacker$Packing", "appendNumber", "(J)V"⟩ ⟨"IntervalPacker$Packing", "appendNumber", "(J)V"⟩ ∈ zx_WS := zx_rs (q := (⟨"IntervalPacker$Packing", "appendNumber", "(J)V"⟩, 17)) (List.mem_of_getElem? (i := 21) rfl)
theorem wd_2_160 : (Jvm.Cond.instanceMethod ({ cls := "IntervalPacker$Packing", name := "appendNumber", desc := "(J)V" } : Jvm.MethodName)) ∈ zx_WS := zx_r2 (List.mem_of_getElem? (i := 160) rfl) rfl
theorem vo_7_202_7 : zx_vOK zx_mt 7 202 1 7 99 := ⟨"IntervalPacker$Packing", zt_Pkg, 17, _, rfl, rfl, by decide, wd_2_161, Or.inl ⟨rfl, ⟨by decide, by decide⟩, (by decide +kernel), wd_2_158, wd_2_160, ws_21, wd_0_8⟩⟩
theorem wd_4_71 : (Jvm.Cond.methodLink "IntervalPackerModel" (80 : Nat) ({ cls := "IntervalPackerModel", name := "fail", desc := "(II)V" } : Jvm.MethodName)) ∈ zx_WS := zx_r4 (List.mem_of_getElem? (i := 71) rfl) rfl
theorem wd_4_74 : (Jvm.Cond.code ({ cls := "IntervalPackerModel", name := "fail", desc := "(II)V" } : Jvm.MethodName) prog_11_method_13_code (3 : Nat) (Option.none : Option Jvm.ClassFile.FieldType)) ∈ zx_WS := zx_r4 (List.mem_of_getElem? (i := 74) rfl) rfl
theorem ws_35 : Cond.selects "IntervalPackerModel" ⟨"IntervalPackerModel", "fail", "(II)V"⟩ ⟨"IntervalPackerModel", "fail", "(II)V"⟩ ∈ zx_WS := zx_rs (q := (⟨"IntervalPackerModel", "fail", "(II)V"⟩, 42)) (List.mem_of_getElem? (i := 35) rfl)
theorem wd_4_73 : (Jvm.Cond.instanceMethod ({ cls := "IntervalPackerModel", name := "fail", desc := "(II)V" } : Jvm.MethodName)) ∈ zx_WS := zx_r4 (List.mem_of_getElem? (i := 73) rfl) rfl
theorem wd_0_10 : (Jvm.Cond.initialized "IntervalPackerModel") ∈ zx_WS := zx_r0 (List.mem_of_getElem? (i := 10) rfl) rfl
theorem vo_8_80_8 : zx_vOK zx_mt 8 80 2 8 113 := ⟨"IntervalPackerModel", zt_R, 42, _, rfl, rfl, by decide, wd_4_74, Or.inl ⟨rfl, ⟨by decide, by decide⟩, (by decide +kernel), wd_4_71, wd_4_73, ws_35, wd_0_10⟩⟩
theorem wd_4_67 : (Jvm.Cond.methodLink "IntervalPackerModel" (84 : Nat) ({ cls := "IntervalPackerModel", name := "has", desc := "(I)Z" } : Jvm.MethodName)) ∈ zx_WS := zx_r4 (List.mem_of_getElem? (i := 67) rfl) rfl
theorem wd_4_70 : (Jvm.Cond.code ({ cls := "IntervalPackerModel", name := "has", desc := "(I)Z" } : Jvm.MethodName) prog_11_method_14_code (2 : Nat) (Option.some Jvm.ClassFile.FieldType.boolean)) ∈ zx_WS := zx_r4 (List.mem_of_getElem? (i := 70) rfl) rfl
theorem ws_34 : Cond.selects "IntervalPackerModel" ⟨"IntervalPackerModel", "has", "(I)Z"⟩ ⟨"IntervalPackerModel", "has", "(I)Z"⟩ ∈ zx_WS := zx_rs (q := (⟨"IntervalPackerModel", "has", "(I)Z"⟩, 42)) (List.mem_of_getElem? (i := 34) rfl)
theorem wd_4_69 : (Jvm.Cond.instanceMethod ({ cls := "IntervalPackerModel", name := "has", desc := "(I)Z" } : Jvm.MethodName)) ∈ zx_WS := zx_r4 (List.mem_of_getElem? (i := 69) rfl) rfl
theorem vo_8_84_8 : zx_vOK zx_mt 8 84 1 8 114 := ⟨"IntervalPackerModel", zt_R, 42, _, rfl, rfl, by decide, wd_4_70, Or.inl ⟨rfl, ⟨by decide, by decide⟩, (by decide +kernel), wd_4_67, wd_4_69, ws_34, wd_0_10⟩⟩
theorem wd_4_85 : (Jvm.Cond.methodLink "IntervalPackerModel" (88 : Nat) ({ cls := "IntervalPackerModel", name := "number", desc := "(II)J" } : Jvm.MethodName)) ∈ zx_WS := zx_r4 (List.mem_of_getElem? (i := 85) rfl) rfl
theorem wd_4_88 : (Jvm.Cond.code ({ cls := "IntervalPackerModel", name := "number", desc := "(II)J" } : Jvm.MethodName) prog_11_method_15_code (6 : Nat) (Option.some Jvm.ClassFile.FieldType.long)) ∈ zx_WS := zx_r4 (List.mem_of_getElem? (i := 88) rfl) rfl
theorem ws_37 : Cond.selects "IntervalPackerModel" ⟨"IntervalPackerModel", "number", "(II)J"⟩ ⟨"IntervalPackerModel", "number", "(II)J"⟩ ∈ zx_WS := zx_rs (q := (⟨"IntervalPackerModel", "number", "(II)J"⟩, 42)) (List.mem_of_getElem? (i := 37) rfl)
theorem wd_4_87 : (Jvm.Cond.instanceMethod ({ cls := "IntervalPackerModel", name := "number", desc := "(II)J" } : Jvm.MethodName)) ∈ zx_WS := zx_r4 (List.mem_of_getElem? (i := 87) rfl) rfl
theorem vo_8_88_8 : zx_vOK zx_mt 8 88 2 8 115 := ⟨"IntervalPackerModel", zt_R, 42, _, rfl, rfl, by decide, wd_4_88, Or.inl ⟨rfl, ⟨by decide, by decide⟩, (by decide +kernel), wd_4_85, wd_4_87, ws_37, wd_0_10⟩⟩
theorem wd_4_89 : (Jvm.Cond.methodLink "IntervalPackerModel" (92 : Nat) ({ cls := "IntervalPackerModel", name := "fourOfPacked", desc := "(II)J" } : Jvm.MethodName)) ∈ zx_WS := zx_r4 (List.mem_of_getElem? (i := 89) rfl) rfl
theorem wd_4_92 : (Jvm.Cond.code ({ cls := "IntervalPackerModel", name := "fourOfPacked", desc := "(II)J" } : Jvm.MethodName) prog_11_method_9_code (6 : Nat) (Option.some Jvm.ClassFile.FieldType.long)) ∈ zx_WS := zx_r4 (List.mem_of_getElem? (i := 92) rfl) rfl
theorem ws_38 : Cond.selects "IntervalPackerModel" ⟨"IntervalPackerModel", "fourOfPacked", "(II)J"⟩ ⟨"IntervalPackerModel", "fourOfPacked", "(II)J"⟩ ∈ zx_WS := zx_rs (q := (⟨"IntervalPackerModel", "fourOfPacked", "(II)J"⟩, 42)) (List.mem_of_getElem? (i := 38) rfl)
theorem wd_4_91 : (Jvm.Cond.instanceMethod ({ cls := "IntervalPackerModel", name := "fourOfPacked", desc := "(II)J" } : Jvm.MethodName)) ∈ zx_WS := zx_r4 (List.mem_of_getElem? (i := 91) rfl) rfl
theorem vo_8_92_8 : zx_vOK zx_mt 8 92 2 8 109 := ⟨"IntervalPackerModel", zt_R, 42, _, rfl, rfl, by decide, wd_4_92, Or.inl ⟨rfl, ⟨by decide, by decide⟩, (by decide +kernel), wd_4_89, wd_4_91, ws_38, wd_0_10⟩⟩
theorem wd_4_81 : (Jvm.Cond.methodLink "IntervalPackerModel" (105 : Nat) ({ cls := "IntervalPackerModel", name := "sumOf", desc := "(I)V" } : Jvm.MethodName)) ∈ zx_WS := zx_r4 (List.mem_of_getElem? (i := 81) rfl) rfl
theorem wd_4_84 : (Jvm.Cond.code ({ cls := "IntervalPackerModel", name := "sumOf", desc := "(I)V" } : Jvm.MethodName) prog_11_method_16_code (2 : Nat) (Option.none : Option Jvm.ClassFile.FieldType)) ∈ zx_WS := zx_r4 (List.mem_of_getElem? (i := 84) rfl) rfl
theorem ws_36 : Cond.selects "IntervalPackerModel" ⟨"IntervalPackerModel", "sumOf", "(I)V"⟩ ⟨"IntervalPackerModel", "sumOf", "(I)V"⟩ ∈ zx_WS := zx_rs (q := (⟨"IntervalPackerModel", "sumOf", "(I)V"⟩, 42)) (List.mem_of_getElem? (i := 36) rfl)
theorem wd_4_83 : (Jvm.Cond.instanceMethod ({ cls := "IntervalPackerModel", name := "sumOf", desc := "(I)V" } : Jvm.MethodName)) ∈ zx_WS := zx_r4 (List.mem_of_getElem? (i := 83) rfl) rfl
theorem vo_8_105_8 : zx_vOK zx_mt 8 105 1 8 116 := ⟨"IntervalPackerModel", zt_R, 42, _, rfl, rfl, by decide, wd_4_84, Or.inl ⟨rfl, ⟨by decide, by decide⟩, (by decide +kernel), wd_4_81, wd_4_83, ws_36, wd_0_10⟩⟩
theorem wd_4_97 : (Jvm.Cond.methodLink "IntervalPackerModel" (109 : Nat) ({ cls := "IntervalPackerModel", name := "vli", desc := "(II)J" } : Jvm.MethodName)) ∈ zx_WS := zx_r4 (List.mem_of_getElem? (i := 97) rfl) rfl
theorem wd_4_100 : (Jvm.Cond.code ({ cls := "IntervalPackerModel", name := "vli", desc := "(II)J" } : Jvm.MethodName) prog_11_method_17_code (8 : Nat) (Option.some Jvm.ClassFile.FieldType.long)) ∈ zx_WS := zx_r4 (List.mem_of_getElem? (i := 100) rfl) rfl
theorem ws_40 : Cond.selects "IntervalPackerModel" ⟨"IntervalPackerModel", "vli", "(II)J"⟩ ⟨"IntervalPackerModel", "vli", "(II)J"⟩ ∈ zx_WS := zx_rs (q := (⟨"IntervalPackerModel", "vli", "(II)J"⟩, 42)) (List.mem_of_getElem? (i := 40) rfl)
theorem wd_4_99 : (Jvm.Cond.instanceMethod ({ cls := "IntervalPackerModel", name := "vli", desc := "(II)J" } : Jvm.MethodName)) ∈ zx_WS := zx_r4 (List.mem_of_getElem? (i := 99) rfl) rfl
theorem vo_8_109_8 : zx_vOK zx_mt 8 109 2 8 117 := ⟨"IntervalPackerModel", zt_R, 42, _, rfl, rfl, by decide, wd_4_100, Or.inl ⟨rfl, ⟨by decide, by decide⟩, (by decide +kernel), wd_4_97, wd_4_99, ws_40, wd_0_10⟩⟩
theorem wd_4_101 : (Jvm.Cond.methodLink "IntervalPackerModel" (112 : Nat) ({ cls := "IntervalPackerModel", name := "headByte", desc := "(I)I" } : Jvm.MethodName)) ∈ zx_WS := zx_r4 (List.mem_of_getElem? (i := 101) rfl) rfl
theorem wd_4_104 : (Jvm.Cond.code ({ cls := "IntervalPackerModel", name := "headByte", desc := "(I)I" } : Jvm.MethodName) prog_11_method_22_code (2 : Nat) (Option.some Jvm.ClassFile.FieldType.int)) ∈ zx_WS := zx_r4 (List.mem_of_getElem? (i := 104) rfl) rfl
theorem ws_41 : Cond.selects "IntervalPackerModel" ⟨"IntervalPackerModel", "headByte", "(I)I"⟩ ⟨"IntervalPackerModel", "headByte", "(I)I"⟩ ∈ zx_WS := zx_rs (q := (⟨"IntervalPackerModel", "headByte", "(I)I"⟩, 42)) (List.mem_of_getElem? (i := 41) rfl)
theorem wd_4_103 : (Jvm.Cond.instanceMethod ({ cls := "IntervalPackerModel", name := "headByte", desc := "(I)I" } : Jvm.MethodName)) ∈ zx_WS := zx_r4 (List.mem_of_getElem? (i := 103) rfl) rfl
theorem vo_8_112_8 : zx_vOK zx_mt 8 112 1 8 122 := ⟨"IntervalPackerModel", zt_R, 42, _, rfl, rfl, by decide, wd_4_104, Or.inl ⟨rfl, ⟨by decide, by decide⟩, (by decide +kernel), wd_4_101, wd_4_103, ws_41, wd_0_10⟩⟩
theorem wd_4_105 : (Jvm.Cond.methodLink "IntervalPackerModel" (122 : Nat) ({ cls := "IntervalPackerModel", name := "chunk", desc := "()Z" } : Jvm.MethodName)) ∈ zx_WS := zx_r4 (List.mem_of_getElem? (i := 105) rfl) rfl
theorem wd_4_108 : (Jvm.Cond.code ({ cls := "IntervalPackerModel", name := "chunk", desc := "()Z" } : Jvm.MethodName) prog_11_method_24_code (5 : Nat) (Option.some Jvm.ClassFile.FieldType.boolean)) ∈ zx_WS := zx_r4 (List.mem_of_getElem? (i := 108) rfl) rfl
theorem ws_42 : Cond.selects "IntervalPackerModel" ⟨"IntervalPackerModel", "chunk", "()Z"⟩ ⟨"IntervalPackerModel", "chunk", "()Z"⟩ ∈ zx_WS := zx_rs (q := (⟨"IntervalPackerModel", "chunk", "()Z"⟩, 42)) (List.mem_of_getElem? (i := 42) rfl)
theorem wd_4_107 : (Jvm.Cond.instanceMethod ({ cls := "IntervalPackerModel", name := "chunk", desc := "()Z" } : Jvm.MethodName)) ∈ zx_WS := zx_r4 (List.mem_of_getElem? (i := 107) rfl) rfl
theorem vo_8_122_8 : zx_vOK zx_mt 8 122 0 8 124 := ⟨"IntervalPackerModel", zt_R, 42, _, rfl, rfl, by decide, wd_4_108, Or.inl ⟨rfl, ⟨by decide, by decide⟩, (by decide +kernel), wd_4_105, wd_4_107, ws_42, wd_0_10⟩⟩
theorem wd_4_213 : (Jvm.Cond.methodLink "IntervalPackerModel" (126 : Nat) ({ cls := "IntervalPackerModel", name := "zeros", desc := "(I)V" } : Jvm.MethodName)) ∈ zx_WS := zx_r4 (List.mem_of_getElem? (i := 213) rfl) rfl
theorem wd_4_216 : (Jvm.Cond.code ({ cls := "IntervalPackerModel", name := "zeros", desc := "(I)V" } : Jvm.MethodName) prog_11_method_18_code (2 : Nat) (Option.none : Option Jvm.ClassFile.FieldType)) ∈ zx_WS := zx_r4 (List.mem_of_getElem? (i := 216) rfl) rfl
theorem ws_66 : Cond.selects "IntervalPackerModel" ⟨"IntervalPackerModel", "zeros", "(I)V"⟩ ⟨"IntervalPackerModel", "zeros", "(I)V"⟩ ∈ zx_WS := zx_rs (q := (⟨"IntervalPackerModel", "zeros", "(I)V"⟩, 42)) (List.mem_of_getElem? (i := 66) rfl)
theorem wd_4_215 : (Jvm.Cond.instanceMethod ({ cls := "IntervalPackerModel", name := "zeros", desc := "(I)V" } : Jvm.MethodName)) ∈ zx_WS := zx_r4 (List.mem_of_getElem? (i := 215) rfl) rfl
theorem vo_8_126_8 : zx_vOK zx_mt 8 126 1 8 118 := ⟨"IntervalPackerModel", zt_R, 42, _, rfl, rfl, by decide, wd_4_216, Or.inl ⟨rfl, ⟨by decide, by decide⟩, (by decide +kernel), wd_4_213, wd_4_215, ws_66, wd_0_10⟩⟩
theorem wd_4_217 : (Jvm.Cond.methodLink "IntervalPackerModel" (129 : Nat) ({ cls := "IntervalPackerModel", name := "fourOfMade", desc := "(I)J" } : Jvm.MethodName)) ∈ zx_WS := zx_r4 (List.mem_of_getElem? (i := 217) rfl) rfl
theorem wd_4_220 : (Jvm.Cond.code ({ cls := "IntervalPackerModel", name := "fourOfMade", desc := "(I)J" } : Jvm.MethodName) prog_11_method_10_code (5 : Nat) (Option.some Jvm.ClassFile.FieldType.long)) ∈ zx_WS := zx_r4 (List.mem_of_getElem? (i := 220) rfl) rfl
theorem ws_67 : Cond.selects "IntervalPackerModel" ⟨"IntervalPackerModel", "fourOfMade", "(I)J"⟩ ⟨"IntervalPackerModel", "fourOfMade", "(I)J"⟩ ∈ zx_WS := zx_rs (q := (⟨"IntervalPackerModel", "fourOfMade", "(I)J"⟩, 42)) (List.mem_of_getElem? (i := 67) rfl)
theorem wd_4_219 : (Jvm.Cond.instanceMethod ({ cls := "IntervalPackerModel", name := "fourOfMade", desc := "(I)J" } : Jvm.MethodName)) ∈ zx_WS := zx_r4 (List.mem_of_getElem? (i := 219) rfl) rfl
theorem vo_8_129_8 : zx_vOK zx_mt 8 129 1 8 110 := ⟨"IntervalPackerModel", zt_R, 42, _, rfl, rfl, by decide, wd_4_220, Or.inl ⟨rfl, ⟨by decide, by decide⟩, (by decide +kernel), wd_4_217, wd_4_219, ws_67, wd_0_10⟩⟩
theorem wd_4_221 : (Jvm.Cond.methodLink "IntervalPackerModel" (133 : Nat) ({ cls := "IntervalPackerModel", name := "eightOfMade", desc := "(I)J" } : Jvm.MethodName)) ∈ zx_WS := zx_r4 (List.mem_of_getElem? (i := 221) rfl) rfl
theorem wd_4_224 : (Jvm.Cond.code ({ cls := "IntervalPackerModel", name := "eightOfMade", desc := "(I)J" } : Jvm.MethodName) prog_11_method_11_code (5 : Nat) (Option.some Jvm.ClassFile.FieldType.long)) ∈ zx_WS := zx_r4 (List.mem_of_getElem? (i := 224) rfl) rfl
theorem ws_68 : Cond.selects "IntervalPackerModel" ⟨"IntervalPackerModel", "eightOfMade", "(I)J"⟩ ⟨"IntervalPackerModel", "eightOfMade", "(I)J"⟩ ∈ zx_WS := zx_rs (q := (⟨"IntervalPackerModel", "eightOfMade", "(I)J"⟩, 42)) (List.mem_of_getElem? (i := 68) rfl)
theorem wd_4_223 : (Jvm.Cond.instanceMethod ({ cls := "IntervalPackerModel", name := "eightOfMade", desc := "(I)J" } : Jvm.MethodName)) ∈ zx_WS := zx_r4 (List.mem_of_getElem? (i := 223) rfl) rfl
theorem vo_8_133_8 : zx_vOK zx_mt 8 133 1 8 111 := ⟨"IntervalPackerModel", zt_R, 42, _, rfl, rfl, by decide, wd_4_224, Or.inl ⟨rfl, ⟨by decide, by decide⟩, (by decide +kernel), wd_4_221, wd_4_223, ws_68, wd_0_10⟩⟩
theorem wd_4_109 : (Jvm.Cond.methodLink "IntervalPackerModel" (139 : Nat) ({ cls := "IntervalPackerModel", name := "length", desc := "(I)I" } : Jvm.MethodName)) ∈ zx_WS := zx_r4 (List.mem_of_getElem? (i := 109) rfl) rfl
theorem wd_4_112 : (Jvm.Cond.code ({ cls := "IntervalPackerModel", name := "length", desc := "(I)I" } : Jvm.MethodName) prog_11_method_25_code (2 : Nat) (Option.some Jvm.ClassFile.FieldType.int)) ∈ zx_WS := zx_r4 (List.mem_of_getElem? (i := 112) rfl) rfl
theorem ws_43 : Cond.selects "IntervalPackerModel" ⟨"IntervalPackerModel", "length", "(I)I"⟩ ⟨"IntervalPackerModel", "length", "(I)I"⟩ ∈ zx_WS := zx_rs (q := (⟨"IntervalPackerModel", "length", "(I)I"⟩, 42)) (List.mem_of_getElem? (i := 43) rfl)
theorem wd_4_111 : (Jvm.Cond.instanceMethod ({ cls := "IntervalPackerModel", name := "length", desc := "(I)I" } : Jvm.MethodName)) ∈ zx_WS := zx_r4 (List.mem_of_getElem? (i := 111) rfl) rfl
theorem vo_8_139_8 : zx_vOK zx_mt 8 139 1 8 125 := ⟨"IntervalPackerModel", zt_R, 42, _, rfl, rfl, by decide, wd_4_112, Or.inl ⟨rfl, ⟨by decide, by decide⟩, (by decide +kernel), wd_4_109, wd_4_111, ws_43, wd_0_10⟩⟩
theorem wd_4_113 : (Jvm.Cond.methodLink "IntervalPackerModel" (142 : Nat) ({ cls := "IntervalPackerModel", name := "plainChunk", desc := "(IZ)V" } : Jvm.MethodName)) ∈ zx_WS := zx_r4 (List.mem_of_getElem? (i := 113) rfl) rfl
theorem wd_4_116 : (Jvm.Cond.code ({ cls := "IntervalPackerModel", name := "plainChunk", desc := "(IZ)V" } : Jvm.MethodName) prog_11_method_28_code (4 : Nat) (Option.none : Option Jvm.ClassFile.FieldType)) ∈ zx_WS := zx_r4 (List.mem_of_getElem? (i := 116) rfl) rfl
theorem ws_44 : Cond.selects "IntervalPackerModel" ⟨"IntervalPackerModel", "plainChunk", "(IZ)V"⟩ ⟨"IntervalPackerModel", "plainChunk", "(IZ)V"⟩ ∈ zx_WS := zx_rs (q := (⟨"IntervalPackerModel", "plainChunk", "(IZ)V"⟩, 42)) (List.mem_of_getElem? (i := 44) rfl)
theorem wd_4_115 : (Jvm.Cond.instanceMethod ({ cls := "IntervalPackerModel", name := "plainChunk", desc := "(IZ)V" } : Jvm.MethodName)) ∈ zx_WS := zx_r4 (List.mem_of_getElem? (i := 115) rfl) rfl
theorem vo_8_142_8 : zx_vOK zx_mt 8 142 2 8 128 := ⟨"IntervalPackerModel", zt_R, 42, _, rfl, rfl, by decide, wd_4_116, Or.inl ⟨rfl, ⟨by decide, by decide⟩, (by decide +kernel), wd_4_113, wd_4_115, ws_44, wd_0_10⟩⟩
theorem wd_4_117 : (Jvm.Cond.methodLink "IntervalPackerModel" (146 : Nat) ({ cls := "IntervalPackerModel", name := "properties", desc := "(I)V" } : Jvm.MethodName)) ∈ zx_WS := zx_r4 (List.mem_of_getElem? (i := 117) rfl) rfl
theorem wd_4_120 : (Jvm.Cond.code ({ cls := "IntervalPackerModel", name := "properties", desc := "(I)V" } : Jvm.MethodName) prog_11_method_27_code (2 : Nat) (Option.none : Option Jvm.ClassFile.FieldType)) ∈ zx_WS := zx_r4 (List.mem_of_getElem? (i := 120) rfl) rfl
theorem ws_45 : Cond.selects "IntervalPackerModel" ⟨"IntervalPackerModel", "properties", "(I)V"⟩ ⟨"IntervalPackerModel", "properties", "(I)V"⟩ ∈ zx_WS := zx_rs (q := (⟨"IntervalPackerModel", "properties", "(I)V"⟩, 42)) (List.mem_of_getElem? (i := 45) rfl)
theorem wd_4_119 : (Jvm.Cond.instanceMethod ({ cls := "IntervalPackerModel", name := "properties", desc := "(I)V" } : Jvm.MethodName)) ∈ zx_WS := zx_r4 (List.mem_of_getElem? (i := 119) rfl) rfl
theorem vo_8_146_8 : zx_vOK zx_mt 8 146 1 8 127 := ⟨"IntervalPackerModel", zt_R, 42, _, rfl, rfl, by decide, wd_4_120, Or.inl ⟨rfl, ⟨by decide, by decide⟩, (by decide +kernel), wd_4_117, wd_4_119, ws_45, wd_0_10⟩⟩
theorem wd_4_124 : (Jvm.Cond.methodLink "IntervalPackerModel" (149 : Nat) ({ cls := "IntervalPackerModel", name := "coded", desc := "(III)V" } : Jvm.MethodName)) ∈ zx_WS := zx_r4 (List.mem_of_getElem? (i := 124) rfl) rfl
theorem wd_4_127 : (Jvm.Cond.code ({ cls := "IntervalPackerModel", name := "coded", desc := "(III)V" } : Jvm.MethodName) prog_11_method_29_code (4 : Nat) (Option.none : Option Jvm.ClassFile.FieldType)) ∈ zx_WS := zx_r4 (List.mem_of_getElem? (i := 127) rfl) rfl
theorem ws_46 : Cond.selects "IntervalPackerModel" ⟨"IntervalPackerModel", "coded", "(III)V"⟩ ⟨"IntervalPackerModel", "coded", "(III)V"⟩ ∈ zx_WS := zx_rs (q := (⟨"IntervalPackerModel", "coded", "(III)V"⟩, 42)) (List.mem_of_getElem? (i := 46) rfl)
theorem wd_4_126 : (Jvm.Cond.instanceMethod ({ cls := "IntervalPackerModel", name := "coded", desc := "(III)V" } : Jvm.MethodName)) ∈ zx_WS := zx_r4 (List.mem_of_getElem? (i := 126) rfl) rfl
theorem vo_8_149_8 : zx_vOK zx_mt 8 149 3 8 129 := ⟨"IntervalPackerModel", zt_R, 42, _, rfl, rfl, by decide, wd_4_127, Or.inl ⟨rfl, ⟨by decide, by decide⟩, (by decide +kernel), wd_4_124, wd_4_126, ws_46, wd_0_10⟩⟩
theorem wd_4_128 : (Jvm.Cond.methodLink "IntervalPackerModel" (168 : Nat) ({ cls := "IntervalPackerModel", name := "anew", desc := "()V" } : Jvm.MethodName)) ∈ zx_WS := zx_r4 (List.mem_of_getElem? (i := 128) rfl) rfl
theorem wd_4_131 : (Jvm.Cond.code ({ cls := "IntervalPackerModel", name := "anew", desc := "()V" } : Jvm.MethodName) prog_11_method_38_code (2 : Nat) (Option.none : Option Jvm.ClassFile.FieldType)) ∈ zx_WS := zx_r4 (List.mem_of_getElem? (i := 131) rfl) rfl
theorem ws_47 : Cond.selects "IntervalPackerModel" ⟨"IntervalPackerModel", "anew", "()V"⟩ ⟨"IntervalPackerModel", "anew", "()V"⟩ ∈ zx_WS := zx_rs (q := (⟨"IntervalPackerModel", "anew", "()V"⟩, 42)) (List.mem_of_getElem? (i := 47) rfl)
theorem wd_4_130 : (Jvm.Cond.instanceMethod ({ cls := "IntervalPackerModel", name := "anew", desc := "()V" } : Jvm.MethodName)) ∈ zx_WS := zx_r4 (List.mem_of_getElem? (i := 130) rfl) rfl
theorem vo_8_168_8 : zx_vOK zx_mt 8 168 0 8 138 := ⟨"IntervalPackerModel", zt_R, 42, _, rfl, rfl, by decide, wd_4_131, Or.inl ⟨rfl, ⟨by decide, by decide⟩, (by decide +kernel), wd_4_128, wd_4_130, ws_47, wd_0_10⟩⟩
theorem wd_4_132 : (Jvm.Cond.methodLink "IntervalPackerModel" (189 : Nat) ({ cls := "IntervalPackerModel", name := "token", desc := "()V" } : Jvm.MethodName)) ∈ zx_WS := zx_r4 (List.mem_of_getElem? (i := 132) rfl) rfl
theorem wd_4_135 : (Jvm.Cond.code ({ cls := "IntervalPackerModel", name := "token", desc := "()V" } : Jvm.MethodName) prog_11_method_49_code (3 : Nat) (Option.none : Option Jvm.ClassFile.FieldType)) ∈ zx_WS := zx_r4 (List.mem_of_getElem? (i := 135) rfl) rfl
theorem ws_48 : Cond.selects "IntervalPackerModel" ⟨"IntervalPackerModel", "token", "()V"⟩ ⟨"IntervalPackerModel", "token", "()V"⟩ ∈ zx_WS := zx_rs (q := (⟨"IntervalPackerModel", "token", "()V"⟩, 42)) (List.mem_of_getElem? (i := 48) rfl)
theorem wd_4_134 : (Jvm.Cond.instanceMethod ({ cls := "IntervalPackerModel", name := "token", desc := "()V" } : Jvm.MethodName)) ∈ zx_WS := zx_r4 (List.mem_of_getElem? (i := 134) rfl) rfl
theorem vo_8_189_8 : zx_vOK zx_mt 8 189 0 8 149 := ⟨"IntervalPackerModel", zt_R, 42, _, rfl, rfl, by decide, wd_4_135, Or.inl ⟨rfl, ⟨by decide, by decide⟩, (by decide +kernel), wd_4_132, wd_4_134, ws_48, wd_0_10⟩⟩
theorem wd_4_148 : (Jvm.Cond.methodLink "IntervalPackerModel" (192 : Nat) ({ cls := "IntervalPackerModel", name := "shift", desc := "()V" } : Jvm.MethodName)) ∈ zx_WS := zx_r4 (List.mem_of_getElem? (i := 148) rfl) rfl
theorem wd_4_151 : (Jvm.Cond.code ({ cls := "IntervalPackerModel", name := "shift", desc := "()V" } : Jvm.MethodName) prog_11_method_39_code (1 : Nat) (Option.none : Option Jvm.ClassFile.FieldType)) ∈ zx_WS := zx_r4 (List.mem_of_getElem? (i := 151) rfl) rfl
theorem ws_52 : Cond.selects "IntervalPackerModel" ⟨"IntervalPackerModel", "shift", "()V"⟩ ⟨"IntervalPackerModel", "shift", "()V"⟩ ∈ zx_WS := zx_rs (q := (⟨"IntervalPackerModel", "shift", "()V"⟩, 42)) (List.mem_of_getElem? (i := 52) rfl)
theorem wd_4_150 : (Jvm.Cond.instanceMethod ({ cls := "IntervalPackerModel", name := "shift", desc := "()V" } : Jvm.MethodName)) ∈ zx_WS := zx_r4 (List.mem_of_getElem? (i := 150) rfl) rfl
theorem vo_8_192_8 : zx_vOK zx_mt 8 192 0 8 139 := ⟨"IntervalPackerModel", zt_R, 42, _, rfl, rfl, by decide, wd_4_151, Or.inl ⟨rfl, ⟨by decide, by decide⟩, (by decide +kernel), wd_4_148, wd_4_150, ws_52, wd_0_10⟩⟩
theorem wd_4_229 : (Jvm.Cond.methodLink "IntervalPackerModel" (195 : Nat) ({ cls := "IntervalPackerModel", name := "expect", desc := "(I)V" } : Jvm.MethodName)) ∈ zx_WS := zx_r4 (List.mem_of_getElem? (i := 229) rfl) rfl
theorem wd_4_232 : (Jvm.Cond.code ({ cls := "IntervalPackerModel", name := "expect", desc := "(I)V" } : Jvm.MethodName) prog_11_method_31_code (3 : Nat) (Option.none : Option Jvm.ClassFile.FieldType)) ∈ zx_WS := zx_r4 (List.mem_of_getElem? (i := 232) rfl) rfl
theorem ws_70 : Cond.selects "IntervalPackerModel" ⟨"IntervalPackerModel", "expect", "(I)V"⟩ ⟨"IntervalPackerModel", "expect", "(I)V"⟩ ∈ zx_WS := zx_rs (q := (⟨"IntervalPackerModel", "expect", "(I)V"⟩, 42)) (List.mem_of_getElem? (i := 70) rfl)
theorem wd_4_231 : (Jvm.Cond.instanceMethod ({ cls := "IntervalPackerModel", name := "expect", desc := "(I)V" } : Jvm.MethodName)) ∈ zx_WS := zx_r4 (List.mem_of_getElem? (i := 231) rfl) rfl
theorem vo_8_195_8 : zx_vOK zx_mt 8 195 1 8 131 := ⟨"IntervalPackerModel", zt_R, 42, _, rfl, rfl, by decide, wd_4_232, Or.inl ⟨rfl, ⟨by decide, by decide⟩, (by decide +kernel), wd_4_229, wd_4_231, ws_70, wd_0_10⟩⟩
theorem wd_4_63 : (Jvm.Cond.methodLink "IntervalPackerModel" (204 : Nat) ({ cls := "IntervalPackerModel", name := "begin", desc := "()V" } : Jvm.MethodName)) ∈ zx_WS := zx_r4 (List.mem_of_getElem? (i := 63) rfl) rfl
theorem wd_4_66 : (Jvm.Cond.code ({ cls := "IntervalPackerModel", name := "begin", desc := "()V" } : Jvm.MethodName) prog_11_method_21_code (2 : Nat) (Option.none : Option Jvm.ClassFile.FieldType)) ∈ zx_WS := zx_r4 (List.mem_of_getElem? (i := 66) rfl) rfl
theorem ws_33 : Cond.selects "IntervalPackerModel" ⟨"IntervalPackerModel", "begin", "()V"⟩ ⟨"IntervalPackerModel", "begin", "()V"⟩ ∈ zx_WS := zx_rs (q := (⟨"IntervalPackerModel", "begin", "()V"⟩, 42)) (List.mem_of_getElem? (i := 33) rfl)
theorem wd_4_65 : (Jvm.Cond.instanceMethod ({ cls := "IntervalPackerModel", name := "begin", desc := "()V" } : Jvm.MethodName)) ∈ zx_WS := zx_r4 (List.mem_of_getElem? (i := 65) rfl) rfl
theorem vo_8_204_8 : zx_vOK zx_mt 8 204 0 8 121 := ⟨"IntervalPackerModel", zt_R, 42, _, rfl, rfl, by decide, wd_4_66, Or.inl ⟨rfl, ⟨by decide, by decide⟩, (by decide +kernel), wd_4_63, wd_4_65, ws_33, wd_0_10⟩⟩
theorem wd_4_93 : (Jvm.Cond.methodLink "IntervalPackerModel" (207 : Nat) ({ cls := "IntervalPackerModel", name := "block", desc := "()V" } : Jvm.MethodName)) ∈ zx_WS := zx_r4 (List.mem_of_getElem? (i := 93) rfl) rfl
theorem wd_4_96 : (Jvm.Cond.code ({ cls := "IntervalPackerModel", name := "block", desc := "()V" } : Jvm.MethodName) prog_11_method_23_code (14 : Nat) (Option.none : Option Jvm.ClassFile.FieldType)) ∈ zx_WS := zx_r4 (List.mem_of_getElem? (i := 96) rfl) rfl
theorem ws_39 : Cond.selects "IntervalPackerModel" ⟨"IntervalPackerModel", "block", "()V"⟩ ⟨"IntervalPackerModel", "block", "()V"⟩ ∈ zx_WS := zx_rs (q := (⟨"IntervalPackerModel", "block", "()V"⟩, 42)) (List.mem_of_getElem? (i := 39) rfl)
theorem wd_4_95 : (Jvm.Cond.instanceMethod ({ cls := "IntervalPackerModel", name := "block", desc := "()V" } : Jvm.MethodName)) ∈ zx_WS := zx_r4 (List.mem_of_getElem? (i := 95) rfl) rfl
theorem vo_8_207_8 : zx_vOK zx_mt 8 207 0 8 123 := ⟨"IntervalPackerModel", zt_R, 42, _, rfl, rfl, by decide, wd_4_96, Or.inl ⟨rfl, ⟨by decide, by decide⟩, (by decide +kernel), wd_4_93, wd_4_95, ws_39, wd_0_10⟩⟩
theorem wd_4_225 : (Jvm.Cond.methodLink "IntervalPackerModel" (210 : Nat) ({ cls := "IntervalPackerModel", name := "index", desc := "()V" } : Jvm.MethodName)) ∈ zx_WS := zx_r4 (List.mem_of_getElem? (i := 225) rfl) rfl
theorem wd_4_228 : (Jvm.Cond.code ({ cls := "IntervalPackerModel", name := "index", desc := "()V" } : Jvm.MethodName) prog_11_method_30_code (3 : Nat) (Option.none : Option Jvm.ClassFile.FieldType)) ∈ zx_WS := zx_r4 (List.mem_of_getElem? (i := 228) rfl) rfl
theorem ws_69 : Cond.selects "IntervalPackerModel" ⟨"IntervalPackerModel", "index", "()V"⟩ ⟨"IntervalPackerModel", "index", "()V"⟩ ∈ zx_WS := zx_rs (q := (⟨"IntervalPackerModel", "index", "()V"⟩, 42)) (List.mem_of_getElem? (i := 69) rfl)
theorem wd_4_227 : (Jvm.Cond.instanceMethod ({ cls := "IntervalPackerModel", name := "index", desc := "()V" } : Jvm.MethodName)) ∈ zx_WS := zx_r4 (List.mem_of_getElem? (i := 227) rfl) rfl
theorem vo_8_210_8 : zx_vOK zx_mt 8 210 0 8 130 := ⟨"IntervalPackerModel", zt_R, 42, _, rfl, rfl, by decide, wd_4_228, Or.inl ⟨rfl, ⟨by decide, by decide⟩, (by decide +kernel), wd_4_225, wd_4_227, ws_69, wd_0_10⟩⟩
theorem wd_4_155 : (Jvm.Cond.methodLink "IntervalPackerModel" (234 : Nat) ({ cls := "IntervalPackerModel", name := "learn", desc := "(IZ)V" } : Jvm.MethodName)) ∈ zx_WS := zx_r4 (List.mem_of_getElem? (i := 155) rfl) rfl
theorem wd_4_158 : (Jvm.Cond.code ({ cls := "IntervalPackerModel", name := "learn", desc := "(IZ)V" } : Jvm.MethodName) prog_11_method_42_code (4 : Nat) (Option.none : Option Jvm.ClassFile.FieldType)) ∈ zx_WS := zx_r4 (List.mem_of_getElem? (i := 158) rfl) rfl
theorem ws_53 : Cond.selects "IntervalPackerModel" ⟨"IntervalPackerModel", "learn", "(IZ)V"⟩ ⟨"IntervalPackerModel", "learn", "(IZ)V"⟩ ∈ zx_WS := zx_rs (q := (⟨"IntervalPackerModel", "learn", "(IZ)V"⟩, 42)) (List.mem_of_getElem? (i := 53) rfl)
theorem wd_4_157 : (Jvm.Cond.instanceMethod ({ cls := "IntervalPackerModel", name := "learn", desc := "(IZ)V" } : Jvm.MethodName)) ∈ zx_WS := zx_r4 (List.mem_of_getElem? (i := 157) rfl) rfl
theorem vo_8_234_8 : zx_vOK zx_mt 8 234 2 8 142 := ⟨"IntervalPackerModel", zt_R, 42, _, rfl, rfl, by decide, wd_4_158, Or.inl ⟨rfl, ⟨by decide, by decide⟩, (by decide +kernel), wd_4_155, wd_4_157, ws_53, wd_0_10⟩⟩
theorem wd_4_159 : (Jvm.Cond.methodLink "IntervalPackerModel" (237 : Nat) ({ cls := "IntervalPackerModel", name := "told", desc := "()V" } : Jvm.MethodName)) ∈ zx_WS := zx_r4 (List.mem_of_getElem? (i := 159) rfl) rfl
theorem wd_4_162 : (Jvm.Cond.code ({ cls := "IntervalPackerModel", name := "told", desc := "()V" } : Jvm.MethodName) prog_11_method_40_code (1 : Nat) (Option.none : Option Jvm.ClassFile.FieldType)) ∈ zx_WS := zx_r4 (List.mem_of_getElem? (i := 162) rfl) rfl
theorem ws_54 : Cond.selects "IntervalPackerModel" ⟨"IntervalPackerModel", "told", "()V"⟩ ⟨"IntervalPackerModel", "told", "()V"⟩ ∈ zx_WS := zx_rs (q := (⟨"IntervalPackerModel", "told", "()V"⟩, 42)) (List.mem_of_getElem? (i := 54) rfl)
theorem wd_4_161 : (Jvm.Cond.instanceMethod ({ cls := "IntervalPackerModel", name := "told", desc := "()V" } : Jvm.MethodName)) ∈ zx_WS := zx_r4 (List.mem_of_getElem? (i := 161) rfl) rfl
theorem vo_8_237_8 : zx_vOK zx_mt 8 237 0 8 140 := ⟨"IntervalPackerModel", zt_R, 42, _, rfl, rfl, by decide, wd_4_162, Or.inl ⟨rfl, ⟨by decide, by decide⟩, (by decide +kernel), wd_4_159, wd_4_161, ws_54, wd_0_10⟩⟩
theorem wd_4_144 : (Jvm.Cond.methodLink "IntervalPackerModel" (242 : Nat) ({ cls := "IntervalPackerModel", name := "bit", desc := "(I)I" } : Jvm.MethodName)) ∈ zx_WS := zx_r4 (List.mem_of_getElem? (i := 144) rfl) rfl
theorem wd_4_147 : (Jvm.Cond.code ({ cls := "IntervalPackerModel", name := "bit", desc := "(I)I" } : Jvm.MethodName) prog_11_method_41_code (5 : Nat) (Option.some Jvm.ClassFile.FieldType.int)) ∈ zx_WS := zx_r4 (List.mem_of_getElem? (i := 147) rfl) rfl
theorem ws_51 : Cond.selects "IntervalPackerModel" ⟨"IntervalPackerModel", "bit", "(I)I"⟩ ⟨"IntervalPackerModel", "bit", "(I)I"⟩ ∈ zx_WS := zx_rs (q := (⟨"IntervalPackerModel", "bit", "(I)I"⟩, 42)) (List.mem_of_getElem? (i := 51) rfl)
theorem wd_4_146 : (Jvm.Cond.instanceMethod ({ cls := "IntervalPackerModel", name := "bit", desc := "(I)I" } : Jvm.MethodName)) ∈ zx_WS := zx_r4 (List.mem_of_getElem? (i := 146) rfl) rfl
theorem vo_8_242_8 : zx_vOK zx_mt 8 242 1 8 141 := ⟨"IntervalPackerModel", zt_R, 42, _, rfl, rfl, by decide, wd_4_147, Or.inl ⟨rfl, ⟨by decide, by decide⟩, (by decide +kernel), wd_4_144, wd_4_146, ws_51, wd_0_10⟩⟩
theorem wd_4_136 : (Jvm.Cond.methodLink "IntervalPackerModel" (245 : Nat) ({ cls := "IntervalPackerModel", name := "bytes", desc := "()I" } : Jvm.MethodName)) ∈ zx_WS := zx_r4 (List.mem_of_getElem? (i := 136) rfl) rfl
theorem wd_4_139 : (Jvm.Cond.code ({ cls := "IntervalPackerModel", name := "bytes", desc := "()I" } : Jvm.MethodName) prog_11_method_46_code (1 : Nat) (Option.some Jvm.ClassFile.FieldType.int)) ∈ zx_WS := zx_r4 (List.mem_of_getElem? (i := 139) rfl) rfl
theorem ws_49 : Cond.selects "IntervalPackerModel" ⟨"IntervalPackerModel", "bytes", "()I"⟩ ⟨"IntervalPackerModel", "bytes", "()I"⟩ ∈ zx_WS := zx_rs (q := (⟨"IntervalPackerModel", "bytes", "()I"⟩, 42)) (List.mem_of_getElem? (i := 49) rfl)
theorem wd_4_138 : (Jvm.Cond.instanceMethod ({ cls := "IntervalPackerModel", name := "bytes", desc := "()I" } : Jvm.MethodName)) ∈ zx_WS := zx_r4 (List.mem_of_getElem? (i := 138) rfl) rfl
theorem vo_8_245_8 : zx_vOK zx_mt 8 245 0 8 146 := ⟨"IntervalPackerModel", zt_R, 42, _, rfl, rfl, by decide, wd_4_139, Or.inl ⟨rfl, ⟨by decide, by decide⟩, (by decide +kernel), wd_4_136, wd_4_138, ws_49, wd_0_10⟩⟩
theorem wd_4_140 : (Jvm.Cond.methodLink "IntervalPackerModel" (249 : Nat) ({ cls := "IntervalPackerModel", name := "low4", desc := "(I)I" } : Jvm.MethodName)) ∈ zx_WS := zx_r4 (List.mem_of_getElem? (i := 140) rfl) rfl
theorem wd_4_143 : (Jvm.Cond.code ({ cls := "IntervalPackerModel", name := "low4", desc := "(I)I" } : Jvm.MethodName) prog_11_method_47_code (2 : Nat) (Option.some Jvm.ClassFile.FieldType.int)) ∈ zx_WS := zx_r4 (List.mem_of_getElem? (i := 143) rfl) rfl
theorem ws_50 : Cond.selects "IntervalPackerModel" ⟨"IntervalPackerModel", "low4", "(I)I"⟩ ⟨"IntervalPackerModel", "low4", "(I)I"⟩ ∈ zx_WS := zx_rs (q := (⟨"IntervalPackerModel", "low4", "(I)I"⟩, 42)) (List.mem_of_getElem? (i := 50) rfl)
theorem wd_4_142 : (Jvm.Cond.instanceMethod ({ cls := "IntervalPackerModel", name := "low4", desc := "(I)I" } : Jvm.MethodName)) ∈ zx_WS := zx_r4 (List.mem_of_getElem? (i := 142) rfl) rfl
theorem vo_8_249_8 : zx_vOK zx_mt 8 249 1 8 147 := ⟨"IntervalPackerModel", zt_R, 42, _, rfl, rfl, by decide, wd_4_143, Or.inl ⟨rfl, ⟨by decide, by decide⟩, (by decide +kernel), wd_4_140, wd_4_142, ws_50, wd_0_10⟩⟩
theorem wd_4_163 : (Jvm.Cond.methodLink "IntervalPackerModel" (252 : Nat) ({ cls := "IntervalPackerModel", name := "literal", desc := "()V" } : Jvm.MethodName)) ∈ zx_WS := zx_r4 (List.mem_of_getElem? (i := 163) rfl) rfl
theorem wd_4_166 : (Jvm.Cond.code ({ cls := "IntervalPackerModel", name := "literal", desc := "()V" } : Jvm.MethodName) prog_11_method_57_code (9 : Nat) (Option.none : Option Jvm.ClassFile.FieldType)) ∈ zx_WS := zx_r4 (List.mem_of_getElem? (i := 166) rfl) rfl
theorem ws_55 : Cond.selects "IntervalPackerModel" ⟨"IntervalPackerModel", "literal", "()V"⟩ ⟨"IntervalPackerModel", "literal", "()V"⟩ ∈ zx_WS := zx_rs (q := (⟨"IntervalPackerModel", "literal", "()V"⟩, 42)) (List.mem_of_getElem? (i := 55) rfl)
theorem wd_4_165 : (Jvm.Cond.instanceMethod ({ cls := "IntervalPackerModel", name := "literal", desc := "()V" } : Jvm.MethodName)) ∈ zx_WS := zx_r4 (List.mem_of_getElem? (i := 165) rfl) rfl
theorem vo_8_252_8 : zx_vOK zx_mt 8 252 0 8 157 := ⟨"IntervalPackerModel", zt_R, 42, _, rfl, rfl, by decide, wd_4_166, Or.inl ⟨rfl, ⟨by decide, by decide⟩, (by decide +kernel), wd_4_163, wd_4_165, ws_55, wd_0_10⟩⟩
theorem wd_4_178 : (Jvm.Cond.methodLink "IntervalPackerModel" (255 : Nat) ({ cls := "IntervalPackerModel", name := "lengthTaken", desc := "(II)I" } : Jvm.MethodName)) ∈ zx_WS := zx_r4 (List.mem_of_getElem? (i := 178) rfl) rfl
theorem wd_4_181 : (Jvm.Cond.code ({ cls := "IntervalPackerModel", name := "lengthTaken", desc := "(II)I" } : Jvm.MethodName) prog_11_method_53_code (3 : Nat) (Option.some Jvm.ClassFile.FieldType.int)) ∈ zx_WS := zx_r4 (List.mem_of_getElem? (i := 181) rfl) rfl
theorem ws_58 : Cond.selects "IntervalPackerModel" ⟨"IntervalPackerModel", "lengthTaken", "(II)I"⟩ ⟨"IntervalPackerModel", "lengthTaken", "(II)I"⟩ ∈ zx_WS := zx_rs (q := (⟨"IntervalPackerModel", "lengthTaken", "(II)I"⟩, 42)) (List.mem_of_getElem? (i := 58) rfl)
theorem wd_4_180 : (Jvm.Cond.instanceMethod ({ cls := "IntervalPackerModel", name := "lengthTaken", desc := "(II)I" } : Jvm.MethodName)) ∈ zx_WS := zx_r4 (List.mem_of_getElem? (i := 180) rfl) rfl
theorem vo_8_255_8 : zx_vOK zx_mt 8 255 2 8 153 := ⟨"IntervalPackerModel", zt_R, 42, _, rfl, rfl, by decide, wd_4_181, Or.inl ⟨rfl, ⟨by decide, by decide⟩, (by decide +kernel), wd_4_178, wd_4_180, ws_58, wd_0_10⟩⟩
theorem wd_4_186 : (Jvm.Cond.methodLink "IntervalPackerModel" (259 : Nat) ({ cls := "IntervalPackerModel", name := "distance", desc := "(I)J" } : Jvm.MethodName)) ∈ zx_WS := zx_r4 (List.mem_of_getElem? (i := 186) rfl) rfl
theorem wd_4_189 : (Jvm.Cond.code ({ cls := "IntervalPackerModel", name := "distance", desc := "(I)J" } : Jvm.MethodName) prog_11_method_54_code (9 : Nat) (Option.some Jvm.ClassFile.FieldType.long)) ∈ zx_WS := zx_r4 (List.mem_of_getElem? (i := 189) rfl) rfl
theorem ws_60 : Cond.selects "IntervalPackerModel" ⟨"IntervalPackerModel", "distance", "(I)J"⟩ ⟨"IntervalPackerModel", "distance", "(I)J"⟩ ∈ zx_WS := zx_rs (q := (⟨"IntervalPackerModel", "distance", "(I)J"⟩, 42)) (List.mem_of_getElem? (i := 60) rfl)
theorem wd_4_188 : (Jvm.Cond.instanceMethod ({ cls := "IntervalPackerModel", name := "distance", desc := "(I)J" } : Jvm.MethodName)) ∈ zx_WS := zx_r4 (List.mem_of_getElem? (i := 188) rfl) rfl
theorem vo_8_259_8 : zx_vOK zx_mt 8 259 1 8 154 := ⟨"IntervalPackerModel", zt_R, 42, _, rfl, rfl, by decide, wd_4_189, Or.inl ⟨rfl, ⟨by decide, by decide⟩, (by decide +kernel), wd_4_186, wd_4_188, ws_60, wd_0_10⟩⟩
theorem wd_4_201 : (Jvm.Cond.methodLink "IntervalPackerModel" (262 : Nat) ({ cls := "IntervalPackerModel", name := "back", desc := "(II)V" } : Jvm.MethodName)) ∈ zx_WS := zx_r4 (List.mem_of_getElem? (i := 201) rfl) rfl
theorem wd_4_204 : (Jvm.Cond.code ({ cls := "IntervalPackerModel", name := "back", desc := "(II)V" } : Jvm.MethodName) prog_11_method_52_code (4 : Nat) (Option.none : Option Jvm.ClassFile.FieldType)) ∈ zx_WS := zx_r4 (List.mem_of_getElem? (i := 204) rfl) rfl
theorem ws_63 : Cond.selects "IntervalPackerModel" ⟨"IntervalPackerModel", "back", "(II)V"⟩ ⟨"IntervalPackerModel", "back", "(II)V"⟩ ∈ zx_WS := zx_rs (q := (⟨"IntervalPackerModel", "back", "(II)V"⟩, 42)) (List.mem_of_getElem? (i := 63) rfl)
theorem wd_4_203 : (Jvm.Cond.instanceMethod ({ cls := "IntervalPackerModel", name := "back", desc := "(II)V" } : Jvm.MethodName)) ∈ zx_WS := zx_r4 (List.mem_of_getElem? (i := 203) rfl) rfl
theorem vo_8_262_8 : zx_vOK zx_mt 8 262 2 8 152 := ⟨"IntervalPackerModel", zt_R, 42, _, rfl, rfl, by decide, wd_4_204, Or.inl ⟨rfl, ⟨by decide, by decide⟩, (by decide +kernel), wd_4_201, wd_4_203, ws_63, wd_0_10⟩⟩
theorem wd_4_205 : (Jvm.Cond.methodLink "IntervalPackerModel" (265 : Nat) ({ cls := "IntervalPackerModel", name := "repeated", desc := "(II)V" } : Jvm.MethodName)) ∈ zx_WS := zx_r4 (List.mem_of_getElem? (i := 205) rfl) rfl
theorem wd_4_208 : (Jvm.Cond.code ({ cls := "IntervalPackerModel", name := "repeated", desc := "(II)V" } : Jvm.MethodName) prog_11_method_50_code (4 : Nat) (Option.none : Option Jvm.ClassFile.FieldType)) ∈ zx_WS := zx_r4 (List.mem_of_getElem? (i := 208) rfl) rfl
theorem ws_64 : Cond.selects "IntervalPackerModel" ⟨"IntervalPackerModel", "repeated", "(II)V"⟩ ⟨"IntervalPackerModel", "repeated", "(II)V"⟩ ∈ zx_WS := zx_rs (q := (⟨"IntervalPackerModel", "repeated", "(II)V"⟩, 42)) (List.mem_of_getElem? (i := 64) rfl)
theorem wd_4_207 : (Jvm.Cond.instanceMethod ({ cls := "IntervalPackerModel", name := "repeated", desc := "(II)V" } : Jvm.MethodName)) ∈ zx_WS := zx_r4 (List.mem_of_getElem? (i := 207) rfl) rfl
theorem vo_8_265_8 : zx_vOK zx_mt 8 265 2 8 150 := ⟨"IntervalPackerModel", zt_R, 42, _, rfl, rfl, by decide, wd_4_208, Or.inl ⟨rfl, ⟨by decide, by decide⟩, (by decide +kernel), wd_4_205, wd_4_207, ws_64, wd_0_10⟩⟩
theorem wd_4_209 : (Jvm.Cond.methodLink "IntervalPackerModel" (268 : Nat) ({ cls := "IntervalPackerModel", name := "turn", desc := "(I)V" } : Jvm.MethodName)) ∈ zx_WS := zx_r4 (List.mem_of_getElem? (i := 209) rfl) rfl
theorem wd_4_212 : (Jvm.Cond.code ({ cls := "IntervalPackerModel", name := "turn", desc := "(I)V" } : Jvm.MethodName) prog_11_method_51_code (4 : Nat) (Option.none : Option Jvm.ClassFile.FieldType)) ∈ zx_WS := zx_r4 (List.mem_of_getElem? (i := 212) rfl) rfl
theorem ws_65 : Cond.selects "IntervalPackerModel" ⟨"IntervalPackerModel", "turn", "(I)V"⟩ ⟨"IntervalPackerModel", "turn", "(I)V"⟩ ∈ zx_WS := zx_rs (q := (⟨"IntervalPackerModel", "turn", "(I)V"⟩, 42)) (List.mem_of_getElem? (i := 65) rfl)
theorem wd_4_211 : (Jvm.Cond.instanceMethod ({ cls := "IntervalPackerModel", name := "turn", desc := "(I)V" } : Jvm.MethodName)) ∈ zx_WS := zx_r4 (List.mem_of_getElem? (i := 211) rfl) rfl
theorem vo_8_268_8 : zx_vOK zx_mt 8 268 1 8 151 := ⟨"IntervalPackerModel", zt_R, 42, _, rfl, rfl, by decide, wd_4_212, Or.inl ⟨rfl, ⟨by decide, by decide⟩, (by decide +kernel), wd_4_209, wd_4_211, ws_65, wd_0_10⟩⟩
theorem wd_4_171 : (Jvm.Cond.methodLink "IntervalPackerModel" (271 : Nat) ({ cls := "IntervalPackerModel", name := "give", desc := "(I)V" } : Jvm.MethodName)) ∈ zx_WS := zx_r4 (List.mem_of_getElem? (i := 171) rfl) rfl
theorem wd_4_174 : (Jvm.Cond.code ({ cls := "IntervalPackerModel", name := "give", desc := "(I)V" } : Jvm.MethodName) prog_11_method_48_code (2 : Nat) (Option.none : Option Jvm.ClassFile.FieldType)) ∈ zx_WS := zx_r4 (List.mem_of_getElem? (i := 174) rfl) rfl
theorem ws_57 : Cond.selects "IntervalPackerModel" ⟨"IntervalPackerModel", "give", "(I)V"⟩ ⟨"IntervalPackerModel", "give", "(I)V"⟩ ∈ zx_WS := zx_rs (q := (⟨"IntervalPackerModel", "give", "(I)V"⟩, 42)) (List.mem_of_getElem? (i := 57) rfl)
theorem wd_4_173 : (Jvm.Cond.instanceMethod ({ cls := "IntervalPackerModel", name := "give", desc := "(I)V" } : Jvm.MethodName)) ∈ zx_WS := zx_r4 (List.mem_of_getElem? (i := 173) rfl) rfl
theorem vo_8_271_8 : zx_vOK zx_mt 8 271 1 8 148 := ⟨"IntervalPackerModel", zt_R, 42, _, rfl, rfl, by decide, wd_4_174, Or.inl ⟨rfl, ⟨by decide, by decide⟩, (by decide +kernel), wd_4_171, wd_4_173, ws_57, wd_0_10⟩⟩
theorem wd_4_182 : (Jvm.Cond.methodLink "IntervalPackerModel" (274 : Nat) ({ cls := "IntervalPackerModel", name := "tree", desc := "(II)I" } : Jvm.MethodName)) ∈ zx_WS := zx_r4 (List.mem_of_getElem? (i := 182) rfl) rfl
theorem wd_4_185 : (Jvm.Cond.code ({ cls := "IntervalPackerModel", name := "tree", desc := "(II)I" } : Jvm.MethodName) prog_11_method_44_code (5 : Nat) (Option.some Jvm.ClassFile.FieldType.int)) ∈ zx_WS := zx_r4 (List.mem_of_getElem? (i := 185) rfl) rfl
theorem ws_59 : Cond.selects "IntervalPackerModel" ⟨"IntervalPackerModel", "tree", "(II)I"⟩ ⟨"IntervalPackerModel", "tree", "(II)I"⟩ ∈ zx_WS := zx_rs (q := (⟨"IntervalPackerModel", "tree", "(II)I"⟩, 42)) (List.mem_of_getElem? (i := 59) rfl)
theorem wd_4_184 : (Jvm.Cond.instanceMethod ({ cls := "IntervalPackerModel", name := "tree", desc := "(II)I" } : Jvm.MethodName)) ∈ zx_WS := zx_r4 (List.mem_of_getElem? (i := 184) rfl) rfl
theorem vo_8_274_8 : zx_vOK zx_mt 8 274 2 8 144 := ⟨"IntervalPackerModel", zt_R, 42, _, rfl, rfl, by decide, wd_4_185, Or.inl ⟨rfl, ⟨by decide, by decide⟩, (by decide +kernel), wd_4_182, wd_4_184, ws_59, wd_0_10⟩⟩
theorem wd_4_192 : (Jvm.Cond.methodLink "IntervalPackerModel" (279 : Nat) ({ cls := "IntervalPackerModel", name := "backwards", desc := "(II)I" } : Jvm.MethodName)) ∈ zx_WS := zx_r4 (List.mem_of_getElem? (i := 192) rfl) rfl
theorem wd_4_195 : (Jvm.Cond.code ({ cls := "IntervalPackerModel", name := "backwards", desc := "(II)I" } : Jvm.MethodName) prog_11_method_45_code (7 : Nat) (Option.some Jvm.ClassFile.FieldType.int)) ∈ zx_WS := zx_r4 (List.mem_of_getElem? (i := 195) rfl) rfl
theorem ws_61 : Cond.selects "IntervalPackerModel" ⟨"IntervalPackerModel", "backwards", "(II)I"⟩ ⟨"IntervalPackerModel", "backwards", "(II)I"⟩ ∈ zx_WS := zx_rs (q := (⟨"IntervalPackerModel", "backwards", "(II)I"⟩, 42)) (List.mem_of_getElem? (i := 61) rfl)
theorem wd_4_194 : (Jvm.Cond.instanceMethod ({ cls := "IntervalPackerModel", name := "backwards", desc := "(II)I" } : Jvm.MethodName)) ∈ zx_WS := zx_r4 (List.mem_of_getElem? (i := 194) rfl) rfl
theorem vo_8_279_8 : zx_vOK zx_mt 8 279 2 8 145 := ⟨"IntervalPackerModel", zt_R, 42, _, rfl, rfl, by decide, wd_4_195, Or.inl ⟨rfl, ⟨by decide, by decide⟩, (by decide +kernel), wd_4_192, wd_4_194, ws_61, wd_0_10⟩⟩
theorem wd_4_196 : (Jvm.Cond.methodLink "IntervalPackerModel" (282 : Nat) ({ cls := "IntervalPackerModel", name := "even", desc := "()I" } : Jvm.MethodName)) ∈ zx_WS := zx_r4 (List.mem_of_getElem? (i := 196) rfl) rfl
theorem wd_4_199 : (Jvm.Cond.code ({ cls := "IntervalPackerModel", name := "even", desc := "()I" } : Jvm.MethodName) prog_11_method_43_code (2 : Nat) (Option.some Jvm.ClassFile.FieldType.int)) ∈ zx_WS := zx_r4 (List.mem_of_getElem? (i := 199) rfl) rfl
theorem ws_62 : Cond.selects "IntervalPackerModel" ⟨"IntervalPackerModel", "even", "()I"⟩ ⟨"IntervalPackerModel", "even", "()I"⟩ ∈ zx_WS := zx_rs (q := (⟨"IntervalPackerModel", "even", "()I"⟩, 42)) (List.mem_of_getElem? (i := 62) rfl)
theorem wd_4_198 : (Jvm.Cond.instanceMethod ({ cls := "IntervalPackerModel", name := "even", desc := "()I" } : Jvm.MethodName)) ∈ zx_WS := zx_r4 (List.mem_of_getElem? (i := 198) rfl) rfl
theorem vo_8_282_8 : zx_vOK zx_mt 8 282 0 8 143 := ⟨"IntervalPackerModel", zt_R, 42, _, rfl, rfl, by decide, wd_4_199, Or.inl ⟨rfl, ⟨by decide, by decide⟩, (by decide +kernel), wd_4_196, wd_4_198, ws_62, wd_0_10⟩⟩
theorem wd_4_167 : (Jvm.Cond.methodLink "IntervalPackerModel" (287 : Nat) ({ cls := "IntervalPackerModel", name := "context", desc := "(II)I" } : Jvm.MethodName)) ∈ zx_WS := zx_r4 (List.mem_of_getElem? (i := 167) rfl) rfl
theorem wd_4_170 : (Jvm.Cond.code ({ cls := "IntervalPackerModel", name := "context", desc := "(II)I" } : Jvm.MethodName) prog_11_method_55_code (3 : Nat) (Option.some Jvm.ClassFile.FieldType.int)) ∈ zx_WS := zx_r4 (List.mem_of_getElem? (i := 170) rfl) rfl
theorem ws_56 : Cond.selects "IntervalPackerModel" ⟨"IntervalPackerModel", "context", "(II)I"⟩ ⟨"IntervalPackerModel", "context", "(II)I"⟩ ∈ zx_WS := zx_rs (q := (⟨"IntervalPackerModel", "context", "(II)I"⟩, 42)) (List.mem_of_getElem? (i := 56) rfl)
theorem wd_4_169 : (Jvm.Cond.instanceMethod ({ cls := "IntervalPackerModel", name := "context", desc := "(II)I" } : Jvm.MethodName)) ∈ zx_WS := zx_r4 (List.mem_of_getElem? (i := 169) rfl) rfl
theorem vo_8_287_8 : zx_vOK zx_mt 8 287 2 8 155 := ⟨"IntervalPackerModel", zt_R, 42, _, rfl, rfl, by decide, wd_4_170, Or.inl ⟨rfl, ⟨by decide, by decide⟩, (by decide +kernel), wd_4_167, wd_4_169, ws_56, wd_0_10⟩⟩
theorem wd_5_61 : (Jvm.Cond.methodLink "IntervalPackerModel" (302 : Nat) ({ cls := "IntervalPackerModel", name := "shiftOut", desc := "()V" } : Jvm.MethodName)) ∈ zx_WS := zx_r5 (List.mem_of_getElem? (i := 61) rfl) rfl
theorem wd_5_64 : (Jvm.Cond.code ({ cls := "IntervalPackerModel", name := "shiftOut", desc := "()V" } : Jvm.MethodName) prog_11_method_58_code (1 : Nat) (Option.none : Option Jvm.ClassFile.FieldType)) ∈ zx_WS := zx_r5 (List.mem_of_getElem? (i := 64) rfl) rfl
theorem ws_82 : Cond.selects "IntervalPackerModel" ⟨"IntervalPackerModel", "shiftOut", "()V"⟩ ⟨"IntervalPackerModel", "shiftOut", "()V"⟩ ∈ zx_WS := zx_rs (q := (⟨"IntervalPackerModel", "shiftOut", "()V"⟩, 42)) (List.mem_of_getElem? (i := 82) rfl)
theorem wd_5_63 : (Jvm.Cond.instanceMethod ({ cls := "IntervalPackerModel", name := "shiftOut", desc := "()V" } : Jvm.MethodName)) ∈ zx_WS := zx_r5 (List.mem_of_getElem? (i := 63) rfl) rfl
theorem vo_8_302_8 : zx_vOK zx_mt 8 302 0 8 158 := ⟨"IntervalPackerModel", zt_R, 42, _, rfl, rfl, by decide, wd_5_64, Or.inl ⟨rfl, ⟨by decide, by decide⟩, (by decide +kernel), wd_5_61, wd_5_63, ws_82, wd_0_10⟩⟩
theorem wd_5_65 : (Jvm.Cond.methodLink "IntervalPackerModel" (305 : Nat) ({ cls := "IntervalPackerModel", name := "grow", desc := "(J)V" } : Jvm.MethodName)) ∈ zx_WS := zx_r5 (List.mem_of_getElem? (i := 65) rfl) rfl
theorem wd_5_68 : (Jvm.Cond.code ({ cls := "IntervalPackerModel", name := "grow", desc := "(J)V" } : Jvm.MethodName) prog_11_method_59_code (6 : Nat) (Option.none : Option Jvm.ClassFile.FieldType)) ∈ zx_WS := zx_r5 (List.mem_of_getElem? (i := 68) rfl) rfl
theorem ws_83 : Cond.selects "IntervalPackerModel" ⟨"IntervalPackerModel", "grow", "(J)V"⟩ ⟨"IntervalPackerModel", "grow", "(J)V"⟩ ∈ zx_WS := zx_rs (q := (⟨"IntervalPackerModel", "grow", "(J)V"⟩, 42)) (List.mem_of_getElem? (i := 83) rfl)
theorem wd_5_67 : (Jvm.Cond.instanceMethod ({ cls := "IntervalPackerModel", name := "grow", desc := "(J)V" } : Jvm.MethodName)) ∈ zx_WS := zx_r5 (List.mem_of_getElem? (i := 67) rfl) rfl
theorem vo_8_305_8 : zx_vOK zx_mt 8 305 1 8 159 := ⟨"IntervalPackerModel", zt_R, 42, _, rfl, rfl, by decide, wd_5_68, Or.inl ⟨rfl, ⟨by decide, by decide⟩, (by decide +kernel), wd_5_65, wd_5_67, ws_83, wd_0_10⟩⟩
theorem wd_5_57 : (Jvm.Cond.methodLink "IntervalPackerModel" (309 : Nat) ({ cls := "IntervalPackerModel", name := "put", desc := "(II)V" } : Jvm.MethodName)) ∈ zx_WS := zx_r5 (List.mem_of_getElem? (i := 57) rfl) rfl
theorem wd_5_60 : (Jvm.Cond.code ({ cls := "IntervalPackerModel", name := "put", desc := "(II)V" } : Jvm.MethodName) prog_11_method_60_code (5 : Nat) (Option.none : Option Jvm.ClassFile.FieldType)) ∈ zx_WS := zx_r5 (List.mem_of_getElem? (i := 60) rfl) rfl
theorem ws_81 : Cond.selects "IntervalPackerModel" ⟨"IntervalPackerModel", "put", "(II)V"⟩ ⟨"IntervalPackerModel", "put", "(II)V"⟩ ∈ zx_WS := zx_rs (q := (⟨"IntervalPackerModel", "put", "(II)V"⟩, 42)) (List.mem_of_getElem? (i := 81) rfl)
theorem wd_5_59 : (Jvm.Cond.instanceMethod ({ cls := "IntervalPackerModel", name := "put", desc := "(II)V" } : Jvm.MethodName)) ∈ zx_WS := zx_r5 (List.mem_of_getElem? (i := 59) rfl) rfl
theorem vo_8_309_8 : zx_vOK zx_mt 8 309 2 8 160 := ⟨"IntervalPackerModel", zt_R, 42, _, rfl, rfl, by decide, wd_5_60, Or.inl ⟨rfl, ⟨by decide, by decide⟩, (by decide +kernel), wd_5_57, wd_5_59, ws_81, wd_0_10⟩⟩
theorem wd_5_45 : (Jvm.Cond.methodLink "IntervalPackerModel" (312 : Nat) ({ cls := "IntervalPackerModel", name := "alike", desc := "(IJI)I" } : Jvm.MethodName)) ∈ zx_WS := zx_r5 (List.mem_of_getElem? (i := 45) rfl) rfl
theorem wd_5_48 : (Jvm.Cond.code ({ cls := "IntervalPackerModel", name := "alike", desc := "(IJI)I" } : Jvm.MethodName) prog_11_method_64_code (6 : Nat) (Option.some Jvm.ClassFile.FieldType.int)) ∈ zx_WS := zx_r5 (List.mem_of_getElem? (i := 48) rfl) rfl
theorem ws_78 : Cond.selects "IntervalPackerModel" ⟨"IntervalPackerModel", "alike", "(IJI)I"⟩ ⟨"IntervalPackerModel", "alike", "(IJI)I"⟩ ∈ zx_WS := zx_rs (q := (⟨"IntervalPackerModel", "alike", "(IJI)I"⟩, 42)) (List.mem_of_getElem? (i := 78) rfl)
theorem wd_5_47 : (Jvm.Cond.instanceMethod ({ cls := "IntervalPackerModel", name := "alike", desc := "(IJI)I" } : Jvm.MethodName)) ∈ zx_WS := zx_r5 (List.mem_of_getElem? (i := 47) rfl) rfl
theorem vo_8_312_8 : zx_vOK zx_mt 8 312 3 8 164 := ⟨"IntervalPackerModel", zt_R, 42, _, rfl, rfl, by decide, wd_5_48, Or.inl ⟨rfl, ⟨by decide, by decide⟩, (by decide +kernel), wd_5_45, wd_5_47, ws_78, wd_0_10⟩⟩
theorem wd_5_49 : (Jvm.Cond.methodLink "IntervalPackerModel" (316 : Nat) ({ cls := "IntervalPackerModel", name := "distanceOf", desc := "(I)J" } : Jvm.MethodName)) ∈ zx_WS := zx_r5 (List.mem_of_getElem? (i := 49) rfl) rfl
theorem wd_5_52 : (Jvm.Cond.code ({ cls := "IntervalPackerModel", name := "distanceOf", desc := "(I)J" } : Jvm.MethodName) prog_11_method_65_code (2 : Nat) (Option.some Jvm.ClassFile.FieldType.long)) ∈ zx_WS := zx_r5 (List.mem_of_getElem? (i := 52) rfl) rfl
theorem ws_79 : Cond.selects "IntervalPackerModel" ⟨"IntervalPackerModel", "distanceOf", "(I)J"⟩ ⟨"IntervalPackerModel", "distanceOf", "(I)J"⟩ ∈ zx_WS := zx_rs (q := (⟨"IntervalPackerModel", "distanceOf", "(I)J"⟩, 42)) (List.mem_of_getElem? (i := 79) rfl)
theorem wd_5_51 : (Jvm.Cond.instanceMethod ({ cls := "IntervalPackerModel", name := "distanceOf", desc := "(I)J" } : Jvm.MethodName)) ∈ zx_WS := zx_r5 (List.mem_of_getElem? (i := 51) rfl) rfl
theorem vo_8_316_8 : zx_vOK zx_mt 8 316 1 8 165 := ⟨"IntervalPackerModel", zt_R, 42, _, rfl, rfl, by decide, wd_5_52, Or.inl ⟨rfl, ⟨by decide, by decide⟩, (by decide +kernel), wd_5_49, wd_5_51, ws_79, wd_0_10⟩⟩
theorem wd_5_53 : (Jvm.Cond.methodLink "IntervalPackerModel" (319 : Nat) ({ cls := "IntervalPackerModel", name := "putRepeated", desc := "(III)V" } : Jvm.MethodName)) ∈ zx_WS := zx_r5 (List.mem_of_getElem? (i := 53) rfl) rfl
theorem wd_5_56 : (Jvm.Cond.code ({ cls := "IntervalPackerModel", name := "putRepeated", desc := "(III)V" } : Jvm.MethodName) prog_11_method_67_code (4 : Nat) (Option.none : Option Jvm.ClassFile.FieldType)) ∈ zx_WS := zx_r5 (List.mem_of_getElem? (i := 56) rfl) rfl
theorem ws_80 : Cond.selects "IntervalPackerModel" ⟨"IntervalPackerModel", "putRepeated", "(III)V"⟩ ⟨"IntervalPackerModel", "putRepeated", "(III)V"⟩ ∈ zx_WS := zx_rs (q := (⟨"IntervalPackerModel", "putRepeated", "(III)V"⟩, 42)) (List.mem_of_getElem? (i := 80) rfl)
theorem wd_5_55 : (Jvm.Cond.instanceMethod ({ cls := "IntervalPackerModel", name := "putRepeated", desc := "(III)V" } : Jvm.MethodName)) ∈ zx_WS := zx_r5 (List.mem_of_getElem? (i := 55) rfl) rfl
theorem vo_8_319_8 : zx_vOK zx_mt 8 319 3 8 167 := ⟨"IntervalPackerModel", zt_R, 42, _, rfl, rfl, by decide, wd_5_56, Or.inl ⟨rfl, ⟨by decide, by decide⟩, (by decide +kernel), wd_5_53, wd_5_55, ws_80, wd_0_10⟩⟩
theorem wd_5_77 : (Jvm.Cond.methodLink "IntervalPackerModel" (322 : Nat) ({ cls := "IntervalPackerModel", name := "putCopy", desc := "(III)V" } : Jvm.MethodName)) ∈ zx_WS := zx_r5 (List.mem_of_getElem? (i := 77) rfl) rfl
theorem wd_5_80 : (Jvm.Cond.code ({ cls := "IntervalPackerModel", name := "putCopy", desc := "(III)V" } : Jvm.MethodName) prog_11_method_68_code (9 : Nat) (Option.none : Option Jvm.ClassFile.FieldType)) ∈ zx_WS := zx_r5 (List.mem_of_getElem? (i := 80) rfl) rfl
theorem ws_86 : Cond.selects "IntervalPackerModel" ⟨"IntervalPackerModel", "putCopy", "(III)V"⟩ ⟨"IntervalPackerModel", "putCopy", "(III)V"⟩ ∈ zx_WS := zx_rs (q := (⟨"IntervalPackerModel", "putCopy", "(III)V"⟩, 42)) (List.mem_of_getElem? (i := 86) rfl)
theorem wd_5_79 : (Jvm.Cond.instanceMethod ({ cls := "IntervalPackerModel", name := "putCopy", desc := "(III)V" } : Jvm.MethodName)) ∈ zx_WS := zx_r5 (List.mem_of_getElem? (i := 79) rfl) rfl
theorem vo_8_322_8 : zx_vOK zx_mt 8 322 3 8 168 := ⟨"IntervalPackerModel", zt_R, 42, _, rfl, rfl, by decide, wd_5_80, Or.inl ⟨rfl, ⟨by decide, by decide⟩, (by decide +kernel), wd_5_77, wd_5_79, ws_86, wd_0_10⟩⟩
theorem wd_5_89 : (Jvm.Cond.methodLink "IntervalPackerModel" (325 : Nat) ({ cls := "IntervalPackerModel", name := "putLiteral", desc := "(II)V" } : Jvm.MethodName)) ∈ zx_WS := zx_r5 (List.mem_of_getElem? (i := 89) rfl) rfl
theorem wd_5_92 : (Jvm.Cond.code ({ cls := "IntervalPackerModel", name := "putLiteral", desc := "(II)V" } : Jvm.MethodName) prog_11_method_70_code (11 : Nat) (Option.none : Option Jvm.ClassFile.FieldType)) ∈ zx_WS := zx_r5 (List.mem_of_getElem? (i := 92) rfl) rfl
theorem ws_89 : Cond.selects "IntervalPackerModel" ⟨"IntervalPackerModel", "putLiteral", "(II)V"⟩ ⟨"IntervalPackerModel", "putLiteral", "(II)V"⟩ ∈ zx_WS := zx_rs (q := (⟨"IntervalPackerModel", "putLiteral", "(II)V"⟩, 42)) (List.mem_of_getElem? (i := 89) rfl)
theorem wd_5_91 : (Jvm.Cond.instanceMethod ({ cls := "IntervalPackerModel", name := "putLiteral", desc := "(II)V" } : Jvm.MethodName)) ∈ zx_WS := zx_r5 (List.mem_of_getElem? (i := 91) rfl) rfl
theorem vo_8_325_8 : zx_vOK zx_mt 8 325 2 8 170 := ⟨"IntervalPackerModel", zt_R, 42, _, rfl, rfl, by decide, wd_5_92, Or.inl ⟨rfl, ⟨by decide, by decide⟩, (by decide +kernel), wd_5_89, wd_5_91, ws_89, wd_0_10⟩⟩
theorem wd_5_69 : (Jvm.Cond.methodLink "IntervalPackerModel" (328 : Nat) ({ cls := "IntervalPackerModel", name := "putLength", desc := "(III)V" } : Jvm.MethodName)) ∈ zx_WS := zx_r5 (List.mem_of_getElem? (i := 69) rfl) rfl
theorem wd_5_72 : (Jvm.Cond.code ({ cls := "IntervalPackerModel", name := "putLength", desc := "(III)V" } : Jvm.MethodName) prog_11_method_69_code (4 : Nat) (Option.none : Option Jvm.ClassFile.FieldType)) ∈ zx_WS := zx_r5 (List.mem_of_getElem? (i := 72) rfl) rfl
theorem ws_84 : Cond.selects "IntervalPackerModel" ⟨"IntervalPackerModel", "putLength", "(III)V"⟩ ⟨"IntervalPackerModel", "putLength", "(III)V"⟩ ∈ zx_WS := zx_rs (q := (⟨"IntervalPackerModel", "putLength", "(III)V"⟩, 42)) (List.mem_of_getElem? (i := 84) rfl)
theorem wd_5_71 : (Jvm.Cond.instanceMethod ({ cls := "IntervalPackerModel", name := "putLength", desc := "(III)V" } : Jvm.MethodName)) ∈ zx_WS := zx_r5 (List.mem_of_getElem? (i := 71) rfl) rfl
theorem vo_8_328_8 : zx_vOK zx_mt 8 328 3 8 169 := ⟨"IntervalPackerModel", zt_R, 42, _, rfl, rfl, by decide, wd_5_72, Or.inl ⟨rfl, ⟨by decide, by decide⟩, (by decide +kernel), wd_5_69, wd_5_71, ws_84, wd_0_10⟩⟩
theorem wd_5_73 : (Jvm.Cond.methodLink "IntervalPackerModel" (331 : Nat) ({ cls := "IntervalPackerModel", name := "putTree", desc := "(III)V" } : Jvm.MethodName)) ∈ zx_WS := zx_r5 (List.mem_of_getElem? (i := 73) rfl) rfl
theorem wd_5_76 : (Jvm.Cond.code ({ cls := "IntervalPackerModel", name := "putTree", desc := "(III)V" } : Jvm.MethodName) prog_11_method_62_code (6 : Nat) (Option.none : Option Jvm.ClassFile.FieldType)) ∈ zx_WS := zx_r5 (List.mem_of_getElem? (i := 76) rfl) rfl
theorem ws_85 : Cond.selects "IntervalPackerModel" ⟨"IntervalPackerModel", "putTree", "(III)V"⟩ ⟨"IntervalPackerModel", "putTree", "(III)V"⟩ ∈ zx_WS := zx_rs (q := (⟨"IntervalPackerModel", "putTree", "(III)V"⟩, 42)) (List.mem_of_getElem? (i := 85) rfl)
theorem wd_5_75 : (Jvm.Cond.instanceMethod ({ cls := "IntervalPackerModel", name := "putTree", desc := "(III)V" } : Jvm.MethodName)) ∈ zx_WS := zx_r5 (List.mem_of_getElem? (i := 75) rfl) rfl
theorem vo_8_331_8 : zx_vOK zx_mt 8 331 3 8 162 := ⟨"IntervalPackerModel", zt_R, 42, _, rfl, rfl, by decide, wd_5_76, Or.inl ⟨rfl, ⟨by decide, by decide⟩, (by decide +kernel), wd_5_73, wd_5_75, ws_85, wd_0_10⟩⟩
theorem wd_5_81 : (Jvm.Cond.methodLink "IntervalPackerModel" (334 : Nat) ({ cls := "IntervalPackerModel", name := "putBackwards", desc := "(III)V" } : Jvm.MethodName)) ∈ zx_WS := zx_r5 (List.mem_of_getElem? (i := 81) rfl) rfl
theorem wd_5_84 : (Jvm.Cond.code ({ cls := "IntervalPackerModel", name := "putBackwards", desc := "(III)V" } : Jvm.MethodName) prog_11_method_63_code (6 : Nat) (Option.none : Option Jvm.ClassFile.FieldType)) ∈ zx_WS := zx_r5 (List.mem_of_getElem? (i := 84) rfl) rfl
theorem ws_87 : Cond.selects "IntervalPackerModel" ⟨"IntervalPackerModel", "putBackwards", "(III)V"⟩ ⟨"IntervalPackerModel", "putBackwards", "(III)V"⟩ ∈ zx_WS := zx_rs (q := (⟨"IntervalPackerModel", "putBackwards", "(III)V"⟩, 42)) (List.mem_of_getElem? (i := 87) rfl)
theorem wd_5_83 : (Jvm.Cond.instanceMethod ({ cls := "IntervalPackerModel", name := "putBackwards", desc := "(III)V" } : Jvm.MethodName)) ∈ zx_WS := zx_r5 (List.mem_of_getElem? (i := 83) rfl) rfl
theorem vo_8_334_8 : zx_vOK zx_mt 8 334 3 8 163 := ⟨"IntervalPackerModel", zt_R, 42, _, rfl, rfl, by decide, wd_5_84, Or.inl ⟨rfl, ⟨by decide, by decide⟩, (by decide +kernel), wd_5_81, wd_5_83, ws_87, wd_0_10⟩⟩
theorem wd_5_85 : (Jvm.Cond.methodLink "IntervalPackerModel" (337 : Nat) ({ cls := "IntervalPackerModel", name := "putEven", desc := "(I)V" } : Jvm.MethodName)) ∈ zx_WS := zx_r5 (List.mem_of_getElem? (i := 85) rfl) rfl
theorem wd_5_88 : (Jvm.Cond.code ({ cls := "IntervalPackerModel", name := "putEven", desc := "(I)V" } : Jvm.MethodName) prog_11_method_61_code (2 : Nat) (Option.none : Option Jvm.ClassFile.FieldType)) ∈ zx_WS := zx_r5 (List.mem_of_getElem? (i := 88) rfl) rfl
theorem ws_88 : Cond.selects "IntervalPackerModel" ⟨"IntervalPackerModel", "putEven", "(I)V"⟩ ⟨"IntervalPackerModel", "putEven", "(I)V"⟩ ∈ zx_WS := zx_rs (q := (⟨"IntervalPackerModel", "putEven", "(I)V"⟩, 42)) (List.mem_of_getElem? (i := 88) rfl)
theorem wd_5_87 : (Jvm.Cond.instanceMethod ({ cls := "IntervalPackerModel", name := "putEven", desc := "(I)V" } : Jvm.MethodName)) ∈ zx_WS := zx_r5 (List.mem_of_getElem? (i := 87) rfl) rfl
theorem vo_8_337_8 : zx_vOK zx_mt 8 337 1 8 161 := ⟨"IntervalPackerModel", zt_R, 42, _, rfl, rfl, by decide, wd_5_88, Or.inl ⟨rfl, ⟨by decide, by decide⟩, (by decide +kernel), wd_5_85, wd_5_87, ws_88, wd_0_10⟩⟩
theorem wd_5_17 : (Jvm.Cond.methodLink "IntervalPackerModel" (343 : Nat) ({ cls := "IntervalPackerModel", name := "write", desc := "(I)V" } : Jvm.MethodName)) ∈ zx_WS := zx_r5 (List.mem_of_getElem? (i := 17) rfl) rfl
theorem wd_5_20 : (Jvm.Cond.code ({ cls := "IntervalPackerModel", name := "write", desc := "(I)V" } : Jvm.MethodName) prog_11_method_71_code (2 : Nat) (Option.none : Option Jvm.ClassFile.FieldType)) ∈ zx_WS := zx_r5 (List.mem_of_getElem? (i := 20) rfl) rfl
theorem ws_71 : Cond.selects "IntervalPackerModel" ⟨"IntervalPackerModel", "write", "(I)V"⟩ ⟨"IntervalPackerModel", "write", "(I)V"⟩ ∈ zx_WS := zx_rs (q := (⟨"IntervalPackerModel", "write", "(I)V"⟩, 42)) (List.mem_of_getElem? (i := 71) rfl)
theorem wd_5_19 : (Jvm.Cond.instanceMethod ({ cls := "IntervalPackerModel", name := "write", desc := "(I)V" } : Jvm.MethodName)) ∈ zx_WS := zx_r5 (List.mem_of_getElem? (i := 19) rfl) rfl
theorem vo_8_343_8 : zx_vOK zx_mt 8 343 1 8 171 := ⟨"IntervalPackerModel", zt_R, 42, _, rfl, rfl, by decide, wd_5_20, Or.inl ⟨rfl, ⟨by decide, by decide⟩, (by decide +kernel), wd_5_17, wd_5_19, ws_71, wd_0_10⟩⟩
theorem wd_5_25 : (Jvm.Cond.methodLink "IntervalPackerModel" (346 : Nat) ({ cls := "IntervalPackerModel", name := "writeNumber", desc := "(JI)V" } : Jvm.MethodName)) ∈ zx_WS := zx_r5 (List.mem_of_getElem? (i := 25) rfl) rfl
theorem wd_5_28 : (Jvm.Cond.code ({ cls := "IntervalPackerModel", name := "writeNumber", desc := "(JI)V" } : Jvm.MethodName) prog_11_method_72_code (5 : Nat) (Option.none : Option Jvm.ClassFile.FieldType)) ∈ zx_WS := zx_r5 (List.mem_of_getElem? (i := 28) rfl) rfl
theorem ws_73 : Cond.selects "IntervalPackerModel" ⟨"IntervalPackerModel", "writeNumber", "(JI)V"⟩ ⟨"IntervalPackerModel", "writeNumber", "(JI)V"⟩ ∈ zx_WS := zx_rs (q := (⟨"IntervalPackerModel", "writeNumber", "(JI)V"⟩, 42)) (List.mem_of_getElem? (i := 73) rfl)
theorem wd_5_27 : (Jvm.Cond.instanceMethod ({ cls := "IntervalPackerModel", name := "writeNumber", desc := "(JI)V" } : Jvm.MethodName)) ∈ zx_WS := zx_r5 (List.mem_of_getElem? (i := 27) rfl) rfl
theorem vo_8_346_8 : zx_vOK zx_mt 8 346 2 8 172 := ⟨"IntervalPackerModel", zt_R, 42, _, rfl, rfl, by decide, wd_5_28, Or.inl ⟨rfl, ⟨by decide, by decide⟩, (by decide +kernel), wd_5_25, wd_5_27, ws_73, wd_0_10⟩⟩
theorem wd_5_41 : (Jvm.Cond.methodLink "IntervalPackerModel" (350 : Nat) ({ cls := "IntervalPackerModel", name := "putToken", desc := "(II)I" } : Jvm.MethodName)) ∈ zx_WS := zx_r5 (List.mem_of_getElem? (i := 41) rfl) rfl
theorem wd_5_44 : (Jvm.Cond.code ({ cls := "IntervalPackerModel", name := "putToken", desc := "(II)I" } : Jvm.MethodName) prog_11_method_66_code (9 : Nat) (Option.some Jvm.ClassFile.FieldType.int)) ∈ zx_WS := zx_r5 (List.mem_of_getElem? (i := 44) rfl) rfl
theorem ws_77 : Cond.selects "IntervalPackerModel" ⟨"IntervalPackerModel", "putToken", "(II)I"⟩ ⟨"IntervalPackerModel", "putToken", "(II)I"⟩ ∈ zx_WS := zx_rs (q := (⟨"IntervalPackerModel", "putToken", "(II)I"⟩, 42)) (List.mem_of_getElem? (i := 77) rfl)
theorem wd_5_43 : (Jvm.Cond.instanceMethod ({ cls := "IntervalPackerModel", name := "putToken", desc := "(II)I" } : Jvm.MethodName)) ∈ zx_WS := zx_r5 (List.mem_of_getElem? (i := 43) rfl) rfl
theorem vo_8_350_8 : zx_vOK zx_mt 8 350 2 8 166 := ⟨"IntervalPackerModel", zt_R, 42, _, rfl, rfl, by decide, wd_5_44, Or.inl ⟨rfl, ⟨by decide, by decide⟩, (by decide +kernel), wd_5_41, wd_5_43, ws_77, wd_0_10⟩⟩
theorem wd_5_37 : (Jvm.Cond.methodLink "IntervalPackerModel" (353 : Nat) ({ cls := "IntervalPackerModel", name := "squeeze", desc := "(II)Z" } : Jvm.MethodName)) ∈ zx_WS := zx_r5 (List.mem_of_getElem? (i := 37) rfl) rfl
theorem wd_5_40 : (Jvm.Cond.code ({ cls := "IntervalPackerModel", name := "squeeze", desc := "(II)Z" } : Jvm.MethodName) prog_11_method_76_code (4 : Nat) (Option.some Jvm.ClassFile.FieldType.boolean)) ∈ zx_WS := zx_r5 (List.mem_of_getElem? (i := 40) rfl) rfl
theorem ws_76 : Cond.selects "IntervalPackerModel" ⟨"IntervalPackerModel", "squeeze", "(II)Z"⟩ ⟨"IntervalPackerModel", "squeeze", "(II)Z"⟩ ∈ zx_WS := zx_rs (q := (⟨"IntervalPackerModel", "squeeze", "(II)Z"⟩, 42)) (List.mem_of_getElem? (i := 76) rfl)
theorem wd_5_39 : (Jvm.Cond.instanceMethod ({ cls := "IntervalPackerModel", name := "squeeze", desc := "(II)Z" } : Jvm.MethodName)) ∈ zx_WS := zx_r5 (List.mem_of_getElem? (i := 39) rfl) rfl
theorem vo_8_353_8 : zx_vOK zx_mt 8 353 2 8 176 := ⟨"IntervalPackerModel", zt_R, 42, _, rfl, rfl, by decide, wd_5_40, Or.inl ⟨rfl, ⟨by decide, by decide⟩, (by decide +kernel), wd_5_37, wd_5_39, ws_76, wd_0_10⟩⟩
theorem wd_5_21 : (Jvm.Cond.methodLink "IntervalPackerModel" (357 : Nat) ({ cls := "IntervalPackerModel", name := "writeSum", desc := "(I)V" } : Jvm.MethodName)) ∈ zx_WS := zx_r5 (List.mem_of_getElem? (i := 21) rfl) rfl
theorem wd_5_24 : (Jvm.Cond.code ({ cls := "IntervalPackerModel", name := "writeSum", desc := "(I)V" } : Jvm.MethodName) prog_11_method_73_code (5 : Nat) (Option.none : Option Jvm.ClassFile.FieldType)) ∈ zx_WS := zx_r5 (List.mem_of_getElem? (i := 24) rfl) rfl
theorem ws_72 : Cond.selects "IntervalPackerModel" ⟨"IntervalPackerModel", "writeSum", "(I)V"⟩ ⟨"IntervalPackerModel", "writeSum", "(I)V"⟩ ∈ zx_WS := zx_rs (q := (⟨"IntervalPackerModel", "writeSum", "(I)V"⟩, 42)) (List.mem_of_getElem? (i := 72) rfl)
theorem wd_5_23 : (Jvm.Cond.instanceMethod ({ cls := "IntervalPackerModel", name := "writeSum", desc := "(I)V" } : Jvm.MethodName)) ∈ zx_WS := zx_r5 (List.mem_of_getElem? (i := 23) rfl) rfl
theorem vo_8_357_8 : zx_vOK zx_mt 8 357 1 8 173 := ⟨"IntervalPackerModel", zt_R, 42, _, rfl, rfl, by decide, wd_5_24, Or.inl ⟨rfl, ⟨by decide, by decide⟩, (by decide +kernel), wd_5_21, wd_5_23, ws_72, wd_0_10⟩⟩
theorem wd_5_33 : (Jvm.Cond.methodLink "IntervalPackerModel" (360 : Nat) ({ cls := "IntervalPackerModel", name := "writeChunks", desc := "(II)V" } : Jvm.MethodName)) ∈ zx_WS := zx_r5 (List.mem_of_getElem? (i := 33) rfl) rfl
theorem wd_5_36 : (Jvm.Cond.code ({ cls := "IntervalPackerModel", name := "writeChunks", desc := "(II)V" } : Jvm.MethodName) prog_11_method_77_code (7 : Nat) (Option.none : Option Jvm.ClassFile.FieldType)) ∈ zx_WS := zx_r5 (List.mem_of_getElem? (i := 36) rfl) rfl
theorem ws_75 : Cond.selects "IntervalPackerModel" ⟨"IntervalPackerModel", "writeChunks", "(II)V"⟩ ⟨"IntervalPackerModel", "writeChunks", "(II)V"⟩ ∈ zx_WS := zx_rs (q := (⟨"IntervalPackerModel", "writeChunks", "(II)V"⟩, 42)) (List.mem_of_getElem? (i := 75) rfl)
theorem wd_5_35 : (Jvm.Cond.instanceMethod ({ cls := "IntervalPackerModel", name := "writeChunks", desc := "(II)V" } : Jvm.MethodName)) ∈ zx_WS := zx_r5 (List.mem_of_getElem? (i := 35) rfl) rfl
theorem vo_8_360_8 : zx_vOK zx_mt 8 360 2 8 177 := ⟨"IntervalPackerModel", zt_R, 42, _, rfl, rfl, by decide, wd_5_36, Or.inl ⟨rfl, ⟨by decide, by decide⟩, (by decide +kernel), wd_5_33, wd_5_35, ws_75, wd_0_10⟩⟩
theorem wd_5_93 : (Jvm.Cond.methodLink "IntervalPackerModel" (363 : Nat) ({ cls := "IntervalPackerModel", name := "writeZeros", desc := "(I)V" } : Jvm.MethodName)) ∈ zx_WS := zx_r5 (List.mem_of_getElem? (i := 93) rfl) rfl
theorem wd_5_96 : (Jvm.Cond.code ({ cls := "IntervalPackerModel", name := "writeZeros", desc := "(I)V" } : Jvm.MethodName) prog_11_method_75_code (2 : Nat) (Option.none : Option Jvm.ClassFile.FieldType)) ∈ zx_WS := zx_r5 (List.mem_of_getElem? (i := 96) rfl) rfl
theorem ws_90 : Cond.selects "IntervalPackerModel" ⟨"IntervalPackerModel", "writeZeros", "(I)V"⟩ ⟨"IntervalPackerModel", "writeZeros", "(I)V"⟩ ∈ zx_WS := zx_rs (q := (⟨"IntervalPackerModel", "writeZeros", "(I)V"⟩, 42)) (List.mem_of_getElem? (i := 90) rfl)
theorem wd_5_95 : (Jvm.Cond.instanceMethod ({ cls := "IntervalPackerModel", name := "writeZeros", desc := "(I)V" } : Jvm.MethodName)) ∈ zx_WS := zx_r5 (List.mem_of_getElem? (i := 95) rfl) rfl
theorem vo_8_363_8 : zx_vOK zx_mt 8 363 1 8 175 := ⟨"IntervalPackerModel", zt_R, 42, _, rfl, rfl, by decide, wd_5_96, Or.inl ⟨rfl, ⟨by decide, by decide⟩, (by decide +kernel), wd_5_93, wd_5_95, ws_90, wd_0_10⟩⟩
theorem wd_5_97 : (Jvm.Cond.methodLink "IntervalPackerModel" (366 : Nat) ({ cls := "IntervalPackerModel", name := "sum", desc := "(Z)J" } : Jvm.MethodName)) ∈ zx_WS := zx_r5 (List.mem_of_getElem? (i := 97) rfl) rfl
theorem wd_4_49 : (Jvm.Cond.code ({ cls := "IntervalPackerModel", name := "sum", desc := "(Z)J" } : Jvm.MethodName) prog_11_method_12_code (5 : Nat) (Option.some Jvm.ClassFile.FieldType.long)) ∈ zx_WS := zx_r4 (List.mem_of_getElem? (i := 49) rfl) rfl
theorem wd_4_48 : (Jvm.Cond.selects "IntervalPackerModel" ({ cls := "IntervalPackerModel", name := "sum", desc := "(Z)J" } : Jvm.MethodName) ({ cls := "IntervalPackerModel", name := "sum", desc := "(Z)J" } : Jvm.MethodName)) ∈ zx_WS := zx_r4 (List.mem_of_getElem? (i := 48) rfl) rfl
theorem wd_4_47 : (Jvm.Cond.instanceMethod ({ cls := "IntervalPackerModel", name := "sum", desc := "(Z)J" } : Jvm.MethodName)) ∈ zx_WS := zx_r4 (List.mem_of_getElem? (i := 47) rfl) rfl
theorem vo_8_366_8 : zx_vOK zx_mt 8 366 1 8 112 := ⟨"IntervalPackerModel", zt_R, 42, _, rfl, rfl, by decide, wd_4_49, Or.inl ⟨rfl, ⟨by decide, by decide⟩, (by decide +kernel), wd_5_97, wd_4_47, wd_4_48, wd_0_10⟩⟩
theorem wd_5_29 : (Jvm.Cond.methodLink "IntervalPackerModel" (370 : Nat) ({ cls := "IntervalPackerModel", name := "writeBlock", desc := "(III)I" } : Jvm.MethodName)) ∈ zx_WS := zx_r5 (List.mem_of_getElem? (i := 29) rfl) rfl
theorem wd_5_32 : (Jvm.Cond.code ({ cls := "IntervalPackerModel", name := "writeBlock", desc := "(III)I" } : Jvm.MethodName) prog_11_method_78_code (7 : Nat) (Option.some Jvm.ClassFile.FieldType.int)) ∈ zx_WS := zx_r5 (List.mem_of_getElem? (i := 32) rfl) rfl
theorem ws_74 : Cond.selects "IntervalPackerModel" ⟨"IntervalPackerModel", "writeBlock", "(III)I"⟩ ⟨"IntervalPackerModel", "writeBlock", "(III)I"⟩ ∈ zx_WS := zx_rs (q := (⟨"IntervalPackerModel", "writeBlock", "(III)I"⟩, 42)) (List.mem_of_getElem? (i := 74) rfl)
theorem wd_5_31 : (Jvm.Cond.instanceMethod ({ cls := "IntervalPackerModel", name := "writeBlock", desc := "(III)I" } : Jvm.MethodName)) ∈ zx_WS := zx_r5 (List.mem_of_getElem? (i := 31) rfl) rfl
theorem vo_8_370_8 : zx_vOK zx_mt 8 370 3 8 178 := ⟨"IntervalPackerModel", zt_R, 42, _, rfl, rfl, by decide, wd_5_32, Or.inl ⟨rfl, ⟨by decide, by decide⟩, (by decide +kernel), wd_5_29, wd_5_31, ws_74, wd_0_10⟩⟩
theorem wd_5_98 : (Jvm.Cond.methodLink "IntervalPackerModel" (374 : Nat) ({ cls := "IntervalPackerModel", name := "writeVli", desc := "(I)V" } : Jvm.MethodName)) ∈ zx_WS := zx_r5 (List.mem_of_getElem? (i := 98) rfl) rfl
theorem wd_5_101 : (Jvm.Cond.code ({ cls := "IntervalPackerModel", name := "writeVli", desc := "(I)V" } : Jvm.MethodName) prog_11_method_74_code (3 : Nat) (Option.none : Option Jvm.ClassFile.FieldType)) ∈ zx_WS := zx_r5 (List.mem_of_getElem? (i := 101) rfl) rfl
theorem ws_91 : Cond.selects "IntervalPackerModel" ⟨"IntervalPackerModel", "writeVli", "(I)V"⟩ ⟨"IntervalPackerModel", "writeVli", "(I)V"⟩ ∈ zx_WS := zx_rs (q := (⟨"IntervalPackerModel", "writeVli", "(I)V"⟩, 42)) (List.mem_of_getElem? (i := 91) rfl)
theorem wd_5_100 : (Jvm.Cond.instanceMethod ({ cls := "IntervalPackerModel", name := "writeVli", desc := "(I)V" } : Jvm.MethodName)) ∈ zx_WS := zx_r5 (List.mem_of_getElem? (i := 100) rfl) rfl
theorem vo_8_374_8 : zx_vOK zx_mt 8 374 1 8 174 := ⟨"IntervalPackerModel", zt_R, 42, _, rfl, rfl, by decide, wd_5_101, Or.inl ⟨rfl, ⟨by decide, by decide⟩, (by decide +kernel), wd_5_98, wd_5_100, ws_91, wd_0_10⟩⟩
theorem zx_vtab_g0 : ∀ q ∈ ([(0, 56, 1, 0, 13), (0, 60, 1, 1, 21), (0, 64, 1, 1, 22), (0, 71, 2, 1, 25), (0, 75, 1, 1, 26), (0, 89, 3, 7, 86), (0, 93, 0, 7, 87), (0, 102, 2, 7, 88), (0, 106, 0, 7, 97), (0, 109, 0, 7, 100), (0, 112, 0, 7, 101), (0, 122, 1, 1, 28), (0, 126, 1, 6, 69), (0, 128, 0, 6, 70), (0, 131, 0, 6, 71), (0, 135, 0, 6, 72)] : List (Nat × Nat × Nat × Nat × Nat)), zx_vOK zx_mt q.1 q.2.1 q.2.2.1 q.2.2.2.1 q.2.2.2.2 := List.forall_mem_cons.mpr ⟨vo_0_56_0, List.forall_mem_cons.mpr ⟨vo_0_60_1, List.forall_mem_cons.mpr ⟨vo_0_64_1, List.forall_mem_cons.mpr ⟨vo_0_71_1, List.forall_mem_cons.mpr ⟨vo_0_75_1, List.forall_mem_cons.mpr ⟨vo_0_89_7, List.forall_mem_cons.mpr ⟨vo_0_93_7, List.forall_mem_cons.mpr ⟨vo_0_102_7, List.forall_mem_cons.mpr ⟨vo_0_106_7, List.forall_mem_cons.mpr ⟨vo_0_109_7, List.forall_mem_cons.mpr ⟨vo_0_112_7, List.forall_mem_cons.mpr ⟨vo_0_122_1, List.forall_mem_cons.mpr ⟨vo_0_126_6, List.forall_mem_cons.mpr ⟨vo_0_128_6, List.forall_mem_cons.mpr ⟨vo_0_131_6, List.forall_mem_cons.mpr ⟨vo_0_135_6, fun _ h => absurd h List.not_mem_nil⟩⟩⟩⟩⟩⟩⟩⟩⟩⟩⟩⟩⟩⟩⟩⟩
theorem zx_vtab_g1 : ∀ q ∈ ([(0, 138, 0, 6, 84), (0, 141, 0, 6, 85), (0, 148, 0, 2, 30), (1, 23, 1, 1, 22), (1, 27, 2, 1, 27), (2, 41, 2, 2, 31), (2, 45, 2, 2, 36), (2, 48, 1, 2, 34), (2, 52, 1, 2, 35), (2, 56, 2, 2, 38), (2, 62, 0, 2, 41), (3, 51, 0, 3, 45), (3, 58, 2, 3, 180), (3, 62, 0, 3, 48), (4, 46, 0, 4, 51), (4, 53, 1, 4, 52)] : List (Nat × Nat × Nat × Nat × Nat)), zx_vOK zx_mt q.1 q.2.1 q.2.2.1 q.2.2.2.1 q.2.2.2.2 := List.forall_mem_cons.mpr ⟨vo_0_138_6, List.forall_mem_cons.mpr ⟨vo_0_141_6, List.forall_mem_cons.mpr ⟨vo_0_148_2, List.forall_mem_cons.mpr ⟨vo_1_23_1, List.forall_mem_cons.mpr ⟨vo_1_27_1, List.forall_mem_cons.mpr ⟨vo_2_41_2, List.forall_mem_cons.mpr ⟨vo_2_45_2, List.forall_mem_cons.mpr ⟨vo_2_48_2, List.forall_mem_cons.mpr ⟨vo_2_52_2, List.forall_mem_cons.mpr ⟨vo_2_56_2, List.forall_mem_cons.mpr ⟨vo_2_62_2, List.forall_mem_cons.mpr ⟨vo_3_51_3, List.forall_mem_cons.mpr ⟨vo_3_58_3, List.forall_mem_cons.mpr ⟨vo_3_62_3, List.forall_mem_cons.mpr ⟨vo_4_46_4, List.forall_mem_cons.mpr ⟨vo_4_53_4, fun _ h => absurd h List.not_mem_nil⟩⟩⟩⟩⟩⟩⟩⟩⟩⟩⟩⟩⟩⟩⟩⟩
theorem zx_vtab_g2 : ∀ q ∈ ([(4, 57, 2, 4, 180), (5, 45, 1, 5, 62), (5, 52, 2, 5, 63), (5, 62, 2, 5, 64), (5, 65, 0, 5, 65), (5, 73, 2, 5, 61), (5, 77, 2, 3, 46), (5, 77, 2, 4, 53), (5, 82, 3, 5, 67), (5, 97, 3, 5, 68), (5, 100, 1, 3, 47), (5, 100, 1, 4, 54), (6, 46, 1, 2, 29), (6, 50, 0, 1, 20), (6, 59, 0, 3, 43), (6, 67, 1, 2, 34)] : List (Nat × Nat × Nat × Nat × Nat)), zx_vOK zx_mt q.1 q.2.1 q.2.2.1 q.2.2.2.1 q.2.2.2.2 := List.forall_mem_cons.mpr ⟨vo_4_57_4, List.forall_mem_cons.mpr ⟨vo_5_45_5, List.forall_mem_cons.mpr ⟨vo_5_52_5, List.forall_mem_cons.mpr ⟨vo_5_62_5, List.forall_mem_cons.mpr ⟨vo_5_65_5, List.forall_mem_cons.mpr ⟨vo_5_73_5, List.forall_mem_cons.mpr ⟨vo_5_77_3, List.forall_mem_cons.mpr ⟨vo_5_77_4, List.forall_mem_cons.mpr ⟨vo_5_82_5, List.forall_mem_cons.mpr ⟨vo_5_97_5, List.forall_mem_cons.mpr ⟨vo_5_100_3, List.forall_mem_cons.mpr ⟨vo_5_100_4, List.forall_mem_cons.mpr ⟨vo_6_46_2, List.forall_mem_cons.mpr ⟨vo_6_50_1, List.forall_mem_cons.mpr ⟨vo_6_59_3, List.forall_mem_cons.mpr ⟨vo_6_67_2, fun _ h => absurd h List.not_mem_nil⟩⟩⟩⟩⟩⟩⟩⟩⟩⟩⟩⟩⟩⟩⟩⟩
theorem zx_vtab_g3 : ∀ q ∈ ([(6, 74, 2, 2, 31), (6, 92, 2, 2, 39), (6, 112, 0, 6, 73), (6, 115, 0, 2, 30), (6, 119, 0, 6, 75), (6, 125, 0, 6, 81), (6, 128, 0, 6, 80), (6, 131, 1, 6, 83), (6, 134, 2, 2, 38), (6, 138, 1, 2, 32), (6, 141, 0, 6, 74), (6, 144, 1, 2, 35), (6, 147, 2, 2, 36), (6, 150, 0, 2, 33), (6, 162, 0, 2, 41), (6, 166, 0, 6, 77)] : List (Nat × Nat × Nat × Nat × Nat)), zx_vOK zx_mt q.1 q.2.1 q.2.2.1 q.2.2.2.1 q.2.2.2.2 := List.forall_mem_cons.mpr ⟨vo_6_74_2, List.forall_mem_cons.mpr ⟨vo_6_92_2, List.forall_mem_cons.mpr ⟨vo_6_112_6, List.forall_mem_cons.mpr ⟨vo_6_115_2, List.forall_mem_cons.mpr ⟨vo_6_119_6, List.forall_mem_cons.mpr ⟨vo_6_125_6, List.forall_mem_cons.mpr ⟨vo_6_128_6, List.forall_mem_cons.mpr ⟨vo_6_131_6, List.forall_mem_cons.mpr ⟨vo_6_134_2, List.forall_mem_cons.mpr ⟨vo_6_138_2, List.forall_mem_cons.mpr ⟨vo_6_141_6, List.forall_mem_cons.mpr ⟨vo_6_144_2, List.forall_mem_cons.mpr ⟨vo_6_147_2, List.forall_mem_cons.mpr ⟨vo_6_150_2, List.forall_mem_cons.mpr ⟨vo_6_162_2, List.forall_mem_cons.mpr ⟨vo_6_166_6, fun _ h => absurd h List.not_mem_nil⟩⟩⟩⟩⟩⟩⟩⟩⟩⟩⟩⟩⟩⟩⟩⟩
theorem zx_vtab_g4 : ∀ q ∈ ([(6, 169, 0, 6, 76), (6, 175, 0, 2, 40), (6, 185, 0, 6, 78), (6, 191, 1, 5, 56), (6, 196, 0, 5, 57), (6, 199, 1, 1, 21), (6, 202, 1, 6, 79), (6, 205, 3, 1, 23), (6, 209, 3, 3, 44), (6, 211, 1, 5, 58), (6, 215, 2, 1, 27), (6, 219, 1, 5, 59), (6, 223, 3, 5, 60), (6, 230, 2, 6, 82), (6, 237, 0, 3, 49), (6, 243, 1, 1, 22)] : List (Nat × Nat × Nat × Nat × Nat)), zx_vOK zx_mt q.1 q.2.1 q.2.2.1 q.2.2.2.1 q.2.2.2.2 := List.forall_mem_cons.mpr ⟨vo_6_169_6, List.forall_mem_cons.mpr ⟨vo_6_175_2, List.forall_mem_cons.mpr ⟨vo_6_185_6, List.forall_mem_cons.mpr ⟨vo_6_191_5, List.forall_mem_cons.mpr ⟨vo_6_196_5, List.forall_mem_cons.mpr ⟨vo_6_199_1, List.forall_mem_cons.mpr ⟨vo_6_202_6, List.forall_mem_cons.mpr ⟨vo_6_205_1, List.forall_mem_cons.mpr ⟨vo_6_209_3, List.forall_mem_cons.mpr ⟨vo_6_211_5, List.forall_mem_cons.mpr ⟨vo_6_215_1, List.forall_mem_cons.mpr ⟨vo_6_219_5, List.forall_mem_cons.mpr ⟨vo_6_223_5, List.forall_mem_cons.mpr ⟨vo_6_230_6, List.forall_mem_cons.mpr ⟨vo_6_237_3, List.forall_mem_cons.mpr ⟨vo_6_243_1, fun _ h => absurd h List.not_mem_nil⟩⟩⟩⟩⟩⟩⟩⟩⟩⟩⟩⟩⟩⟩⟩⟩
theorem zx_vtab_g5 : ∀ q ∈ ([(6, 249, 2, 1, 25), (6, 257, 1, 2, 37), (6, 264, 1, 2, 42), (7, 42, 0, 1, 20), (7, 48, 3, 1, 23), (7, 52, 1, 1, 22), (7, 62, 2, 1, 24), (7, 85, 2, 7, 92), (7, 89, 1, 7, 90), (7, 92, 2, 7, 89), (7, 96, 1, 7, 91), (7, 105, 1, 4, 50), (7, 111, 1, 5, 56), (7, 116, 0, 5, 57), (7, 119, 1, 5, 58), (7, 129, 2, 7, 93)] : List (Nat × Nat × Nat × Nat × Nat)), zx_vOK zx_mt q.1 q.2.1 q.2.2.1 q.2.2.2.1 q.2.2.2.2 := List.forall_mem_cons.mpr ⟨vo_6_249_1, List.forall_mem_cons.mpr ⟨vo_6_257_2, List.forall_mem_cons.mpr ⟨vo_6_264_2, List.forall_mem_cons.mpr ⟨vo_7_42_1, List.forall_mem_cons.mpr ⟨vo_7_48_1, List.forall_mem_cons.mpr ⟨vo_7_52_1, List.forall_mem_cons.mpr ⟨vo_7_62_1, List.forall_mem_cons.mpr ⟨vo_7_85_7, List.forall_mem_cons.mpr ⟨vo_7_89_7, List.forall_mem_cons.mpr ⟨vo_7_92_7, List.forall_mem_cons.mpr ⟨vo_7_96_7, List.forall_mem_cons.mpr ⟨vo_7_105_4, List.forall_mem_cons.mpr ⟨vo_7_111_5, List.forall_mem_cons.mpr ⟨vo_7_116_5, List.forall_mem_cons.mpr ⟨vo_7_119_5, List.forall_mem_cons.mpr ⟨vo_7_129_7, fun _ h => absurd h List.not_mem_nil⟩⟩⟩⟩⟩⟩⟩⟩⟩⟩⟩⟩⟩⟩⟩⟩
theorem zx_vtab_g6 : ∀ q ∈ ([(7, 132, 1, 5, 59), (7, 136, 2, 1, 27), (7, 140, 3, 5, 60), (7, 150, 0, 4, 55), (7, 153, 2, 7, 94), (7, 156, 2, 7, 95), (7, 181, 3, 7, 96), (7, 192, 1, 7, 98), (7, 202, 1, 7, 99), (8, 80, 2, 8, 113), (8, 84, 1, 8, 114), (8, 88, 2, 8, 115), (8, 92, 2, 8, 109), (8, 105, 1, 8, 116), (8, 109, 2, 8, 117), (8, 112, 1, 8, 122)] : List (Nat × Nat × Nat × Nat × Nat)), zx_vOK zx_mt q.1 q.2.1 q.2.2.1 q.2.2.2.1 q.2.2.2.2 := List.forall_mem_cons.mpr ⟨vo_7_132_5, List.forall_mem_cons.mpr ⟨vo_7_136_1, List.forall_mem_cons.mpr ⟨vo_7_140_5, List.forall_mem_cons.mpr ⟨vo_7_150_4, List.forall_mem_cons.mpr ⟨vo_7_153_7, List.forall_mem_cons.mpr ⟨vo_7_156_7, List.forall_mem_cons.mpr ⟨vo_7_181_7, List.forall_mem_cons.mpr ⟨vo_7_192_7, List.forall_mem_cons.mpr ⟨vo_7_202_7, List.forall_mem_cons.mpr ⟨vo_8_80_8, List.forall_mem_cons.mpr ⟨vo_8_84_8, List.forall_mem_cons.mpr ⟨vo_8_88_8, List.forall_mem_cons.mpr ⟨vo_8_92_8, List.forall_mem_cons.mpr ⟨vo_8_105_8, List.forall_mem_cons.mpr ⟨vo_8_109_8, List.forall_mem_cons.mpr ⟨vo_8_112_8, fun _ h => absurd h List.not_mem_nil⟩⟩⟩⟩⟩⟩⟩⟩⟩⟩⟩⟩⟩⟩⟩⟩
theorem zx_vtab_g7 : ∀ q ∈ ([(8, 122, 0, 8, 124), (8, 126, 1, 8, 118), (8, 129, 1, 8, 110), (8, 133, 1, 8, 111), (8, 139, 1, 8, 125), (8, 142, 2, 8, 128), (8, 146, 1, 8, 127), (8, 149, 3, 8, 129), (8, 168, 0, 8, 138), (8, 189, 0, 8, 149), (8, 192, 0, 8, 139), (8, 195, 1, 8, 131), (8, 204, 0, 8, 121), (8, 207, 0, 8, 123), (8, 210, 0, 8, 130), (8, 234, 2, 8, 142)] : List (Nat × Nat × Nat × Nat × Nat)), zx_vOK zx_mt q.1 q.2.1 q.2.2.1 q.2.2.2.1 q.2.2.2.2 := List.forall_mem_cons.mpr ⟨vo_8_122_8, List.forall_mem_cons.mpr ⟨vo_8_126_8, List.forall_mem_cons.mpr ⟨vo_8_129_8, List.forall_mem_cons.mpr ⟨vo_8_133_8, List.forall_mem_cons.mpr ⟨vo_8_139_8, List.forall_mem_cons.mpr ⟨vo_8_142_8, List.forall_mem_cons.mpr ⟨vo_8_146_8, List.forall_mem_cons.mpr ⟨vo_8_149_8, List.forall_mem_cons.mpr ⟨vo_8_168_8, List.forall_mem_cons.mpr ⟨vo_8_189_8, List.forall_mem_cons.mpr ⟨vo_8_192_8, List.forall_mem_cons.mpr ⟨vo_8_195_8, List.forall_mem_cons.mpr ⟨vo_8_204_8, List.forall_mem_cons.mpr ⟨vo_8_207_8, List.forall_mem_cons.mpr ⟨vo_8_210_8, List.forall_mem_cons.mpr ⟨vo_8_234_8, fun _ h => absurd h List.not_mem_nil⟩⟩⟩⟩⟩⟩⟩⟩⟩⟩⟩⟩⟩⟩⟩⟩
theorem zx_vtab_g8 : ∀ q ∈ ([(8, 237, 0, 8, 140), (8, 242, 1, 8, 141), (8, 245, 0, 8, 146), (8, 249, 1, 8, 147), (8, 252, 0, 8, 157), (8, 255, 2, 8, 153), (8, 259, 1, 8, 154), (8, 262, 2, 8, 152), (8, 265, 2, 8, 150), (8, 268, 1, 8, 151), (8, 271, 1, 8, 148), (8, 274, 2, 8, 144), (8, 279, 2, 8, 145), (8, 282, 0, 8, 143), (8, 287, 2, 8, 155), (8, 302, 0, 8, 158)] : List (Nat × Nat × Nat × Nat × Nat)), zx_vOK zx_mt q.1 q.2.1 q.2.2.1 q.2.2.2.1 q.2.2.2.2 := List.forall_mem_cons.mpr ⟨vo_8_237_8, List.forall_mem_cons.mpr ⟨vo_8_242_8, List.forall_mem_cons.mpr ⟨vo_8_245_8, List.forall_mem_cons.mpr ⟨vo_8_249_8, List.forall_mem_cons.mpr ⟨vo_8_252_8, List.forall_mem_cons.mpr ⟨vo_8_255_8, List.forall_mem_cons.mpr ⟨vo_8_259_8, List.forall_mem_cons.mpr ⟨vo_8_262_8, List.forall_mem_cons.mpr ⟨vo_8_265_8, List.forall_mem_cons.mpr ⟨vo_8_268_8, List.forall_mem_cons.mpr ⟨vo_8_271_8, List.forall_mem_cons.mpr ⟨vo_8_274_8, List.forall_mem_cons.mpr ⟨vo_8_279_8, List.forall_mem_cons.mpr ⟨vo_8_282_8, List.forall_mem_cons.mpr ⟨vo_8_287_8, List.forall_mem_cons.mpr ⟨vo_8_302_8, fun _ h => absurd h List.not_mem_nil⟩⟩⟩⟩⟩⟩⟩⟩⟩⟩⟩⟩⟩⟩⟩⟩
theorem zx_vtab_g9 : ∀ q ∈ ([(8, 305, 1, 8, 159), (8, 309, 2, 8, 160), (8, 312, 3, 8, 164), (8, 316, 1, 8, 165), (8, 319, 3, 8, 167), (8, 322, 3, 8, 168), (8, 325, 2, 8, 170), (8, 328, 3, 8, 169), (8, 331, 3, 8, 162), (8, 334, 3, 8, 163), (8, 337, 1, 8, 161), (8, 343, 1, 8, 171), (8, 346, 2, 8, 172), (8, 350, 2, 8, 166), (8, 353, 2, 8, 176), (8, 357, 1, 8, 173)] : List (Nat × Nat × Nat × Nat × Nat)), zx_vOK zx_mt q.1 q.2.1 q.2.2.1 q.2.2.2.1 q.2.2.2.2 := List.forall_mem_cons.mpr ⟨vo_8_305_8, List.forall_mem_cons.mpr ⟨vo_8_309_8, List.forall_mem_cons.mpr ⟨vo_8_312_8, List.forall_mem_cons.mpr ⟨vo_8_316_8, List.forall_mem_cons.mpr ⟨vo_8_319_8, List.forall_mem_cons.mpr ⟨vo_8_322_8, List.forall_mem_cons.mpr ⟨vo_8_325_8, List.forall_mem_cons.mpr ⟨vo_8_328_8, List.forall_mem_cons.mpr ⟨vo_8_331_8, List.forall_mem_cons.mpr ⟨vo_8_334_8, List.forall_mem_cons.mpr ⟨vo_8_337_8, List.forall_mem_cons.mpr ⟨vo_8_343_8, List.forall_mem_cons.mpr ⟨vo_8_346_8, List.forall_mem_cons.mpr ⟨vo_8_350_8, List.forall_mem_cons.mpr ⟨vo_8_353_8, List.forall_mem_cons.mpr ⟨vo_8_357_8, fun _ h => absurd h List.not_mem_nil⟩⟩⟩⟩⟩⟩⟩⟩⟩⟩⟩⟩⟩⟩⟩⟩
theorem zx_vtab_g10 : ∀ q ∈ ([(8, 360, 2, 8, 177), (8, 363, 1, 8, 175), (8, 366, 1, 8, 112), (8, 370, 3, 8, 178), (8, 374, 1, 8, 174)] : List (Nat × Nat × Nat × Nat × Nat)), zx_vOK zx_mt q.1 q.2.1 q.2.2.1 q.2.2.2.1 q.2.2.2.2 := List.forall_mem_cons.mpr ⟨vo_8_360_8, List.forall_mem_cons.mpr ⟨vo_8_363_8, List.forall_mem_cons.mpr ⟨vo_8_366_8, List.forall_mem_cons.mpr ⟨vo_8_370_8, List.forall_mem_cons.mpr ⟨vo_8_374_8, fun _ h => absurd h List.not_mem_nil⟩⟩⟩⟩⟩
theorem zx_vtab_ok : ∀ q ∈ zx_vtab, zx_vOK zx_mt q.1 q.2.1 q.2.2.1 q.2.2.2.1 q.2.2.2.2 := List.forall_mem_append.mpr ⟨zx_vtab_g0, List.forall_mem_append.mpr ⟨zx_vtab_g1, List.forall_mem_append.mpr ⟨zx_vtab_g2, List.forall_mem_append.mpr ⟨zx_vtab_g3, List.forall_mem_append.mpr ⟨zx_vtab_g4, List.forall_mem_append.mpr ⟨zx_vtab_g5, List.forall_mem_append.mpr ⟨zx_vtab_g6, List.forall_mem_append.mpr ⟨zx_vtab_g7, List.forall_mem_append.mpr ⟨zx_vtab_g8, List.forall_mem_append.mpr ⟨zx_vtab_g9, zx_vtab_g10⟩⟩⟩⟩⟩⟩⟩⟩⟩⟩
theorem wd_1_170 : (Jvm.Cond.code ({ cls := "IntervalPacker", name := "isSort", desc := "(I)Z" } : Jvm.MethodName) prog_1_method_16_code (1 : Nat) (Option.some Jvm.ClassFile.FieldType.boolean)) ∈ zx_WS := zx_r1 (List.mem_of_getElem? (i := 170) rfl) rfl
theorem wd_1_169 : (Jvm.Cond.static ({ cls := "IntervalPacker", name := "isSort", desc := "(I)Z" } : Jvm.MethodName)) ∈ zx_WS := zx_r1 (List.mem_of_getElem? (i := 169) rfl) rfl
theorem wd_1_168 : (Jvm.Cond.methodLink "IntervalPacker" (83 : Nat) ({ cls := "IntervalPacker", name := "isSort", desc := "(I)Z" } : Jvm.MethodName)) ∈ zx_WS := zx_r1 (List.mem_of_getElem? (i := 168) rfl) rfl
theorem so_0_83 : zx_sOK zx_mt 0 83 1 14 := ⟨_, rfl, by decide, wd_1_170, ⟨by decide, by decide⟩, (by decide +kernel), wd_1_169, wd_0_1, Or.inl wd_1_168⟩
theorem wd_1_173 : (Jvm.Cond.code ({ cls := "IntervalPacker", name := "areProperties", desc := "(I)Z" } : Jvm.MethodName) prog_1_method_18_code (1 : Nat) (Option.some Jvm.ClassFile.FieldType.boolean)) ∈ zx_WS := zx_r1 (List.mem_of_getElem? (i := 173) rfl) rfl
theorem wd_1_172 : (Jvm.Cond.static ({ cls := "IntervalPacker", name := "areProperties", desc := "(I)Z" } : Jvm.MethodName)) ∈ zx_WS := zx_r1 (List.mem_of_getElem? (i := 172) rfl) rfl
theorem wd_1_171 : (Jvm.Cond.methodLink "IntervalPacker" (86 : Nat) ({ cls := "IntervalPacker", name := "areProperties", desc := "(I)Z" } : Jvm.MethodName)) ∈ zx_WS := zx_r1 (List.mem_of_getElem? (i := 171) rfl) rfl
theorem so_0_86 : zx_sOK zx_mt 0 86 1 16 := ⟨_, rfl, by decide, wd_1_173, ⟨by decide, by decide⟩, (by decide +kernel), wd_1_172, wd_0_1, Or.inl wd_1_171⟩
theorem wd_2_151 : (Jvm.Cond.code ({ cls := "IntervalPacker", name := "sumEight", desc := "([III)J" } : Jvm.MethodName) prog_1_method_20_code (3 : Nat) (Option.some Jvm.ClassFile.FieldType.long)) ∈ zx_WS := zx_r2 (List.mem_of_getElem? (i := 151) rfl) rfl
theorem wd_2_150 : (Jvm.Cond.static ({ cls := "IntervalPacker", name := "sumEight", desc := "([III)J" } : Jvm.MethodName)) ∈ zx_WS := zx_r2 (List.mem_of_getElem? (i := 150) rfl) rfl
theorem wd_3_129 : (Jvm.Cond.methodLink "IntervalPacker" (178 : Nat) ({ cls := "IntervalPacker", name := "sumEight", desc := "([III)J" } : Jvm.MethodName)) ∈ zx_WS := zx_r3 (List.mem_of_getElem? (i := 129) rfl) rfl
theorem so_0_178 : zx_sOK zx_mt 0 178 3 18 := ⟨_, rfl, by decide, wd_2_151, ⟨by decide, by decide⟩, (by decide +kernel), wd_2_150, wd_0_1, Or.inl wd_3_129⟩
theorem wd_1_191 : (Jvm.Cond.code ({ cls := "IntervalPacker", name := "sumFour", desc := "([III)J" } : Jvm.MethodName) prog_1_method_19_code (3 : Nat) (Option.some Jvm.ClassFile.FieldType.long)) ∈ zx_WS := zx_r1 (List.mem_of_getElem? (i := 191) rfl) rfl
theorem wd_1_190 : (Jvm.Cond.static ({ cls := "IntervalPacker", name := "sumFour", desc := "([III)J" } : Jvm.MethodName)) ∈ zx_WS := zx_r1 (List.mem_of_getElem? (i := 190) rfl) rfl
theorem wd_3_130 : (Jvm.Cond.methodLink "IntervalPacker" (182 : Nat) ({ cls := "IntervalPacker", name := "sumFour", desc := "([III)J" } : Jvm.MethodName)) ∈ zx_WS := zx_r3 (List.mem_of_getElem? (i := 130) rfl) rfl
theorem so_0_182 : zx_sOK zx_mt 0 182 3 17 := ⟨_, rfl, by decide, wd_1_191, ⟨by decide, by decide⟩, (by decide +kernel), wd_1_190, wd_0_1, Or.inl wd_3_130⟩
theorem wd_1_196 : (Jvm.Cond.code ({ cls := "IntervalPacker", name := "sumBy", desc := "([IIIJJ)J" } : Jvm.MethodName) prog_1_method_21_code (11 : Nat) (Option.some Jvm.ClassFile.FieldType.long)) ∈ zx_WS := zx_r1 (List.mem_of_getElem? (i := 196) rfl) rfl
theorem wd_1_195 : (Jvm.Cond.static ({ cls := "IntervalPacker", name := "sumBy", desc := "([IIIJJ)J" } : Jvm.MethodName)) ∈ zx_WS := zx_r1 (List.mem_of_getElem? (i := 195) rfl) rfl
theorem wd_1_194 : (Jvm.Cond.methodLink "IntervalPacker" (189 : Nat) ({ cls := "IntervalPacker", name := "sumBy", desc := "([IIIJJ)J" } : Jvm.MethodName)) ∈ zx_WS := zx_r1 (List.mem_of_getElem? (i := 194) rfl) rfl
theorem so_0_189 : zx_sOK zx_mt 0 189 5 19 := ⟨_, rfl, by decide, wd_1_196, ⟨by decide, by decide⟩, (by decide +kernel), wd_1_195, wd_0_1, Or.inl wd_1_194⟩
theorem wd_1_224 : (Jvm.Cond.code ({ cls := "java/util/Arrays", name := "fill", desc := "([II)V" } : Jvm.MethodName) prog_16_method_103_code (4 : Nat) (Option.none : Option Jvm.ClassFile.FieldType)) ∈ zx_WS := zx_r1 (List.mem_of_getElem? (i := 224) rfl) rfl
theorem wd_1_223 : (Jvm.Cond.static ({ cls := "java/util/Arrays", name := "fill", desc := "([II)V" } : Jvm.MethodName)) ∈ zx_WS := zx_r1 (List.mem_of_getElem? (i := 223) rfl) rfl
theorem wd_0_12 : (Jvm.Cond.initialized "java/util/Arrays") ∈ zx_WS := zx_r0 (List.mem_of_getElem? (i := 12) rfl) rfl
theorem wd_1_222 : (Jvm.Cond.methodLink "IntervalPacker$BitSink" (38 : Nat) ({ cls := "java/util/Arrays", name := "fill", desc := "([II)V" } : Jvm.MethodName)) ∈ zx_WS := zx_r1 (List.mem_of_getElem? (i := 222) rfl) rfl
theorem so_4_38 : zx_sOK zx_mt 4 38 2 183 := ⟨_, rfl, by decide, wd_1_224, ⟨by decide, by decide⟩, (by decide +kernel), wd_1_223, wd_0_12, Or.inl wd_1_222⟩
theorem wd_1_235 : (Jvm.Cond.code ({ cls := "java/util/Arrays", name := "fill", desc := "([IIII)V" } : Jvm.MethodName) prog_16_method_104_code (5 : Nat) (Option.none : Option Jvm.ClassFile.FieldType)) ∈ zx_WS := zx_r1 (List.mem_of_getElem? (i := 235) rfl) rfl
theorem wd_1_234 : (Jvm.Cond.static ({ cls := "java/util/Arrays", name := "fill", desc := "([IIII)V" } : Jvm.MethodName)) ∈ zx_WS := zx_r1 (List.mem_of_getElem? (i := 234) rfl) rfl
theorem wd_1_233 : (Jvm.Cond.methodLink "IntervalPacker$Model" (33 : Nat) ({ cls := "java/util/Arrays", name := "fill", desc := "([IIII)V" } : Jvm.MethodName)) ∈ zx_WS := zx_r1 (List.mem_of_getElem? (i := 233) rfl) rfl
theorem so_5_33 : zx_sOK zx_mt 5 33 4 184 := ⟨_, rfl, by decide, wd_1_235, ⟨by decide, by decide⟩, (by decide +kernel), wd_1_234, wd_0_12, Or.inl wd_1_233⟩
theorem wd_2_1 : (Jvm.Cond.code ({ cls := "java/util/Arrays", name := "fill", desc := "([JJ)V" } : Jvm.MethodName) prog_16_method_101_code (5 : Nat) (Option.none : Option Jvm.ClassFile.FieldType)) ∈ zx_WS := zx_r2 (List.mem_of_getElem? (i := 1) rfl) rfl
theorem wd_2_0 : (Jvm.Cond.static ({ cls := "java/util/Arrays", name := "fill", desc := "([JJ)V" } : Jvm.MethodName)) ∈ zx_WS := zx_r2 (List.mem_of_getElem? (i := 0) rfl) rfl
theorem wd_1_239 : (Jvm.Cond.methodLink "IntervalPacker$Model" (39 : Nat) ({ cls := "java/util/Arrays", name := "fill", desc := "([JJ)V" } : Jvm.MethodName)) ∈ zx_WS := zx_r1 (List.mem_of_getElem? (i := 239) rfl) rfl
theorem so_5_39 : zx_sOK zx_mt 5 39 2 182 := ⟨_, rfl, by decide, wd_2_1, ⟨by decide, by decide⟩, (by decide +kernel), wd_2_0, wd_0_12, Or.inl wd_1_239⟩
theorem wd_2_91 : (Jvm.Cond.code ({ cls := "IntervalPacker$Model", name := "slotOf", desc := "(J)I" } : Jvm.MethodName) prog_6_method_12_code (5 : Nat) (Option.some Jvm.ClassFile.FieldType.int)) ∈ zx_WS := zx_r2 (List.mem_of_getElem? (i := 91) rfl) rfl
theorem wd_2_90 : (Jvm.Cond.static ({ cls := "IntervalPacker$Model", name := "slotOf", desc := "(J)I" } : Jvm.MethodName)) ∈ zx_WS := zx_r2 (List.mem_of_getElem? (i := 90) rfl) rfl
theorem wd_2_89 : (Jvm.Cond.methodLink "IntervalPacker$Model" (91 : Nat) ({ cls := "IntervalPacker$Model", name := "slotOf", desc := "(J)I" } : Jvm.MethodName)) ∈ zx_WS := zx_r2 (List.mem_of_getElem? (i := 89) rfl) rfl
theorem so_5_91 : zx_sOK zx_mt 5 91 1 66 := ⟨_, rfl, by decide, wd_2_91, ⟨by decide, by decide⟩, (by decide +kernel), wd_2_90, wd_0_5, Or.inl wd_2_89⟩
theorem wd_2_95 : (Jvm.Cond.code ({ cls := "java/lang/Long", name := "numberOfLeadingZeros", desc := "(J)I" } : Jvm.MethodName) prog_13_method_48_code (3 : Nat) (Option.some Jvm.ClassFile.FieldType.int)) ∈ zx_WS := zx_r2 (List.mem_of_getElem? (i := 95) rfl) rfl
theorem wd_2_94 : (Jvm.Cond.static ({ cls := "java/lang/Long", name := "numberOfLeadingZeros", desc := "(J)I" } : Jvm.MethodName)) ∈ zx_WS := zx_r2 (List.mem_of_getElem? (i := 94) rfl) rfl
theorem wd_0_13 : (Jvm.Cond.initialized "java/lang/Long") ∈ zx_WS := zx_r0 (List.mem_of_getElem? (i := 13) rfl) rfl
theorem wd_2_93 : (Jvm.Cond.methodLink "IntervalPacker$Model" (107 : Nat) ({ cls := "java/lang/Long", name := "numberOfLeadingZeros", desc := "(J)I" } : Jvm.MethodName)) ∈ zx_WS := zx_r2 (List.mem_of_getElem? (i := 93) rfl) rfl
theorem so_5_107 : zx_sOK zx_mt 5 107 1 185 := ⟨_, rfl, by decide, wd_2_95, ⟨by decide, by decide⟩, (by decide +kernel), wd_2_94, wd_0_13, Or.inl wd_2_93⟩
theorem wd_2_189 : (Jvm.Cond.methodLink "IntervalPacker$Unpacking" (53 : Nat) ({ cls := "java/util/Arrays", name := "fill", desc := "([II)V" } : Jvm.MethodName)) ∈ zx_WS := zx_r2 (List.mem_of_getElem? (i := 189) rfl) rfl
theorem so_6_53 : zx_sOK zx_mt 6 53 2 183 := ⟨_, rfl, by decide, wd_1_224, ⟨by decide, by decide⟩, (by decide +kernel), wd_1_223, wd_0_12, Or.inl wd_2_189⟩
theorem so_6_85 : zx_sOK zx_mt 6 85 1 14 := ⟨_, rfl, by decide, wd_1_170, ⟨by decide, by decide⟩, (by decide +kernel), wd_1_169, wd_0_1, Or.inr ⟨_, zn_5⟩⟩
theorem so_6_88 : zx_sOK zx_mt 6 88 3 17 := ⟨_, rfl, by decide, wd_1_191, ⟨by decide, by decide⟩, (by decide +kernel), wd_1_190, wd_0_1, Or.inr ⟨_, zn_6⟩⟩
theorem so_6_188 : zx_sOK zx_mt 6 188 1 16 := ⟨_, rfl, by decide, wd_1_173, ⟨by decide, by decide⟩, (by decide +kernel), wd_1_172, wd_0_1, Or.inr ⟨_, zn_7⟩⟩
theorem wd_2_144 : (Jvm.Cond.code ({ cls := "IntervalPacker", name := "checkSize", desc := "(I)I" } : Jvm.MethodName) prog_1_method_17_code (1 : Nat) (Option.some Jvm.ClassFile.FieldType.int)) ∈ zx_WS := zx_r2 (List.mem_of_getElem? (i := 144) rfl) rfl
theorem wd_2_143 : (Jvm.Cond.static ({ cls := "IntervalPacker", name := "checkSize", desc := "(I)I" } : Jvm.MethodName)) ∈ zx_WS := zx_r2 (List.mem_of_getElem? (i := 143) rfl) rfl
theorem so_6_253 : zx_sOK zx_mt 6 253 1 15 := ⟨_, rfl, by decide, wd_2_144, ⟨by decide, by decide⟩, (by decide +kernel), wd_2_143, wd_0_1, Or.inr ⟨_, zn_8⟩⟩
theorem so_6_261 : zx_sOK zx_mt 6 261 3 18 := ⟨_, rfl, by decide, wd_2_151, ⟨by decide, by decide⟩, (by decide +kernel), wd_2_150, wd_0_1, Or.inr ⟨_, zn_9⟩⟩
theorem so_7_58 : zx_sOK zx_mt 7 58 3 17 := ⟨_, rfl, by decide, wd_1_191, ⟨by decide, by decide⟩, (by decide +kernel), wd_1_190, wd_0_1, Or.inr ⟨_, zn_2⟩⟩
theorem so_7_185 : zx_sOK zx_mt 7 185 1 15 := ⟨_, rfl, by decide, wd_2_144, ⟨by decide, by decide⟩, (by decide +kernel), wd_2_143, wd_0_1, Or.inr ⟨_, zn_3⟩⟩
theorem so_7_195 : zx_sOK zx_mt 7 195 3 18 := ⟨_, rfl, by decide, wd_2_151, ⟨by decide, by decide⟩, (by decide +kernel), wd_2_150, wd_0_1, Or.inr ⟨_, zn_4⟩⟩
theorem wd_4_57 : (Jvm.Cond.code ({ cls := "IntervalPackerModel", name := "four", desc := "(JI)J" } : Jvm.MethodName) prog_11_method_7_code (6 : Nat) (Option.some Jvm.ClassFile.FieldType.long)) ∈ zx_WS := zx_r4 (List.mem_of_getElem? (i := 57) rfl) rfl
theorem wd_4_56 : (Jvm.Cond.static ({ cls := "IntervalPackerModel", name := "four", desc := "(JI)J" } : Jvm.MethodName)) ∈ zx_WS := zx_r4 (List.mem_of_getElem? (i := 56) rfl) rfl
theorem wd_4_55 : (Jvm.Cond.methodLink "IntervalPackerModel" (64 : Nat) ({ cls := "IntervalPackerModel", name := "four", desc := "(JI)J" } : Jvm.MethodName)) ∈ zx_WS := zx_r4 (List.mem_of_getElem? (i := 55) rfl) rfl
theorem so_8_64 : zx_sOK zx_mt 8 64 2 107 := ⟨_, rfl, by decide, wd_4_57, ⟨by decide, by decide⟩, (by decide +kernel), wd_4_56, wd_0_10, Or.inl wd_4_55⟩
theorem wd_4_53 : (Jvm.Cond.code ({ cls := "IntervalPackerModel", name := "eight", desc := "(JI)J" } : Jvm.MethodName) prog_11_method_8_code (6 : Nat) (Option.some Jvm.ClassFile.FieldType.long)) ∈ zx_WS := zx_r4 (List.mem_of_getElem? (i := 53) rfl) rfl
theorem wd_4_52 : (Jvm.Cond.static ({ cls := "IntervalPackerModel", name := "eight", desc := "(JI)J" } : Jvm.MethodName)) ∈ zx_WS := zx_r4 (List.mem_of_getElem? (i := 52) rfl) rfl
theorem wd_4_51 : (Jvm.Cond.methodLink "IntervalPackerModel" (71 : Nat) ({ cls := "IntervalPackerModel", name := "eight", desc := "(JI)J" } : Jvm.MethodName)) ∈ zx_WS := zx_r4 (List.mem_of_getElem? (i := 51) rfl) rfl
theorem so_8_71 : zx_sOK zx_mt 8 71 2 108 := ⟨_, rfl, by decide, wd_4_53, ⟨by decide, by decide⟩, (by decide +kernel), wd_4_52, wd_0_10, Or.inl wd_4_51⟩
theorem wd_4_77 : (Jvm.Cond.code ({ cls := "IntervalPackerModel", name := "magic", desc := "(I)I" } : Jvm.MethodName) prog_11_method_19_code (1 : Nat) (Option.some Jvm.ClassFile.FieldType.int)) ∈ zx_WS := zx_r4 (List.mem_of_getElem? (i := 77) rfl) rfl
theorem wd_4_76 : (Jvm.Cond.static ({ cls := "IntervalPackerModel", name := "magic", desc := "(I)I" } : Jvm.MethodName)) ∈ zx_WS := zx_r4 (List.mem_of_getElem? (i := 76) rfl) rfl
theorem wd_4_75 : (Jvm.Cond.methodLink "IntervalPackerModel" (95 : Nat) ({ cls := "IntervalPackerModel", name := "magic", desc := "(I)I" } : Jvm.MethodName)) ∈ zx_WS := zx_r4 (List.mem_of_getElem? (i := 75) rfl) rfl
theorem so_8_95 : zx_sOK zx_mt 8 95 1 119 := ⟨_, rfl, by decide, wd_4_77, ⟨by decide, by decide⟩, (by decide +kernel), wd_4_76, wd_0_10, Or.inl wd_4_75⟩
theorem wd_4_80 : (Jvm.Cond.code ({ cls := "IntervalPackerModel", name := "isSort", desc := "(I)Z" } : Jvm.MethodName) prog_11_method_20_code (1 : Nat) (Option.some Jvm.ClassFile.FieldType.boolean)) ∈ zx_WS := zx_r4 (List.mem_of_getElem? (i := 80) rfl) rfl
theorem wd_4_79 : (Jvm.Cond.static ({ cls := "IntervalPackerModel", name := "isSort", desc := "(I)Z" } : Jvm.MethodName)) ∈ zx_WS := zx_r4 (List.mem_of_getElem? (i := 79) rfl) rfl
theorem wd_4_78 : (Jvm.Cond.methodLink "IntervalPackerModel" (102 : Nat) ({ cls := "IntervalPackerModel", name := "isSort", desc := "(I)Z" } : Jvm.MethodName)) ∈ zx_WS := zx_r4 (List.mem_of_getElem? (i := 78) rfl) rfl
theorem so_8_102 : zx_sOK zx_mt 8 102 1 120 := ⟨_, rfl, by decide, wd_4_80, ⟨by decide, by decide⟩, (by decide +kernel), wd_4_79, wd_0_10, Or.inl wd_4_78⟩
theorem wd_4_123 : (Jvm.Cond.code ({ cls := "IntervalPackerModel", name := "isProperties", desc := "(I)Z" } : Jvm.MethodName) prog_11_method_26_code (1 : Nat) (Option.some Jvm.ClassFile.FieldType.boolean)) ∈ zx_WS := zx_r4 (List.mem_of_getElem? (i := 123) rfl) rfl
theorem wd_4_122 : (Jvm.Cond.static ({ cls := "IntervalPackerModel", name := "isProperties", desc := "(I)Z" } : Jvm.MethodName)) ∈ zx_WS := zx_r4 (List.mem_of_getElem? (i := 122) rfl) rfl
theorem wd_4_121 : (Jvm.Cond.methodLink "IntervalPackerModel" (153 : Nat) ({ cls := "IntervalPackerModel", name := "isProperties", desc := "(I)Z" } : Jvm.MethodName)) ∈ zx_WS := zx_r4 (List.mem_of_getElem? (i := 121) rfl) rfl
theorem so_8_153 : zx_sOK zx_mt 8 153 1 126 := ⟨_, rfl, by decide, wd_4_123, ⟨by decide, by decide⟩, (by decide +kernel), wd_4_122, wd_0_10, Or.inl wd_4_121⟩
theorem wd_4_177 : (Jvm.Cond.code ({ cls := "IntervalPackerModel", name := "after", desc := "(I)I" } : Jvm.MethodName) prog_11_method_56_code (1 : Nat) (Option.some Jvm.ClassFile.FieldType.int)) ∈ zx_WS := zx_r4 (List.mem_of_getElem? (i := 177) rfl) rfl
theorem wd_4_176 : (Jvm.Cond.static ({ cls := "IntervalPackerModel", name := "after", desc := "(I)I" } : Jvm.MethodName)) ∈ zx_WS := zx_r4 (List.mem_of_getElem? (i := 176) rfl) rfl
theorem wd_4_175 : (Jvm.Cond.methodLink "IntervalPackerModel" (290 : Nat) ({ cls := "IntervalPackerModel", name := "after", desc := "(I)I" } : Jvm.MethodName)) ∈ zx_WS := zx_r4 (List.mem_of_getElem? (i := 175) rfl) rfl
theorem so_8_290 : zx_sOK zx_mt 8 290 1 156 := ⟨_, rfl, by decide, wd_4_177, ⟨by decide, by decide⟩, (by decide +kernel), wd_4_176, wd_0_10, Or.inl wd_4_175⟩
theorem wd_1_238 : (Jvm.Cond.code ({ cls := "java/util/Arrays", name := "rangeCheck", desc := "(III)V" } : Jvm.MethodName) prog_16_method_30_code (3 : Nat) (Option.none : Option Jvm.ClassFile.FieldType)) ∈ zx_WS := zx_r1 (List.mem_of_getElem? (i := 238) rfl) rfl
theorem wd_1_237 : (Jvm.Cond.static ({ cls := "java/util/Arrays", name := "rangeCheck", desc := "(III)V" } : Jvm.MethodName)) ∈ zx_WS := zx_r1 (List.mem_of_getElem? (i := 237) rfl) rfl
theorem wd_1_236 : (Jvm.Cond.methodLink "java/util/Arrays" (13 : Nat) ({ cls := "java/util/Arrays", name := "rangeCheck", desc := "(III)V" } : Jvm.MethodName)) ∈ zx_WS := zx_r1 (List.mem_of_getElem? (i := 236) rfl) rfl
theorem so_10_13 : zx_sOK zx_mt 10 13 3 181 := ⟨_, rfl, by decide, wd_1_238, ⟨by decide, by decide⟩, (by decide +kernel), wd_1_237, wd_0_12, Or.inl wd_1_236⟩
theorem wd_2_98 : (Jvm.Cond.code ({ cls := "java/lang/Integer", name := "numberOfLeadingZeros", desc := "(I)I" } : Jvm.MethodName) prog_12_method_47_code (2 : Nat) (Option.some Jvm.ClassFile.FieldType.int)) ∈ zx_WS := zx_r2 (List.mem_of_getElem? (i := 98) rfl) rfl
theorem wd_2_97 : (Jvm.Cond.static ({ cls := "java/lang/Integer", name := "numberOfLeadingZeros", desc := "(I)I" } : Jvm.MethodName)) ∈ zx_WS := zx_r2 (List.mem_of_getElem? (i := 97) rfl) rfl
theorem wd_0_14 : (Jvm.Cond.initialized "java/lang/Integer") ∈ zx_WS := zx_r0 (List.mem_of_getElem? (i := 14) rfl) rfl
theorem wd_2_96 : (Jvm.Cond.methodLink "java/lang/Long" (308 : Nat) ({ cls := "java/lang/Integer", name := "numberOfLeadingZeros", desc := "(I)I" } : Jvm.MethodName)) ∈ zx_WS := zx_r2 (List.mem_of_getElem? (i := 96) rfl) rfl
theorem so_11_308 : zx_sOK zx_mt 11 308 1 186 := ⟨_, rfl, by decide, wd_2_98, ⟨by decide, by decide⟩, (by decide +kernel), wd_2_97, wd_0_14, Or.inl wd_2_96⟩
theorem zx_stab2_g0 : ∀ q ∈ ([(0, 83, 1, 0, 14), (0, 86, 1, 0, 16), (0, 178, 3, 0, 18), (0, 182, 3, 0, 17), (0, 189, 5, 0, 19), (4, 38, 2, 0, 183), (5, 33, 4, 0, 184), (5, 39, 2, 0, 182), (5, 91, 1, 0, 66), (5, 107, 1, 0, 185), (6, 53, 2, 0, 183), (6, 85, 1, 0, 14), (6, 88, 3, 0, 17), (6, 188, 1, 0, 16), (6, 253, 1, 0, 15), (6, 261, 3, 0, 18)] : List (Nat × Nat × Nat × Nat × Nat)), zx_sOK zx_mt q.1 q.2.1 q.2.2.1 q.2.2.2.2 := List.forall_mem_cons.mpr ⟨so_0_83, List.forall_mem_cons.mpr ⟨so_0_86, List.forall_mem_cons.mpr ⟨so_0_178, List.forall_mem_cons.mpr ⟨so_0_182, List.forall_mem_cons.mpr ⟨so_0_189, List.forall_mem_cons.mpr ⟨so_4_38, List.forall_mem_cons.mpr ⟨so_5_33, List.forall_mem_cons.mpr ⟨so_5_39, List.forall_mem_cons.mpr ⟨so_5_91, List.forall_mem_cons.mpr ⟨so_5_107, List.forall_mem_cons.mpr ⟨so_6_53, List.forall_mem_cons.mpr ⟨so_6_85, List.forall_mem_cons.mpr ⟨so_6_88, List.forall_mem_cons.mpr ⟨so_6_188, List.forall_mem_cons.mpr ⟨so_6_253, List.forall_mem_cons.mpr ⟨so_6_261, fun _ h => absurd h List.not_mem_nil⟩⟩⟩⟩⟩⟩⟩⟩⟩⟩⟩⟩⟩⟩⟩⟩
theorem zx_stab2_g1 : ∀ q ∈ ([(7, 58, 3, 0, 17), (7, 185, 1, 0, 15), (7, 195, 3, 0, 18), (8, 64, 2, 0, 107), (8, 71, 2, 0, 108), (8, 95, 1, 0, 119), (8, 102, 1, 0, 120), (8, 153, 1, 0, 126), (8, 290, 1, 0, 156), (10, 13, 3, 0, 181), (11, 308, 1, 0, 186)] : List (Nat × Nat × Nat × Nat × Nat)), zx_sOK zx_mt q.1 q.2.1 q.2.2.1 q.2.2.2.2 := List.forall_mem_cons.mpr ⟨so_7_58, List.forall_mem_cons.mpr ⟨so_7_185, List.forall_mem_cons.mpr ⟨so_7_195, List.forall_mem_cons.mpr ⟨so_8_64, List.forall_mem_cons.mpr ⟨so_8_71, List.forall_mem_cons.mpr ⟨so_8_95, List.forall_mem_cons.mpr ⟨so_8_102, List.forall_mem_cons.mpr ⟨so_8_153, List.forall_mem_cons.mpr ⟨so_8_290, List.forall_mem_cons.mpr ⟨so_10_13, List.forall_mem_cons.mpr ⟨so_11_308, fun _ h => absurd h List.not_mem_nil⟩⟩⟩⟩⟩⟩⟩⟩⟩⟩⟩
theorem zx_stab2_ok : ∀ q ∈ zx_stab2, zx_sOK zx_mt q.1 q.2.1 q.2.2.1 q.2.2.2.2 := List.forall_mem_append.mpr ⟨zx_stab2_g0, zx_stab2_g1⟩
def zx_LC : List zx_C := [(.inl (0, [101, 103, 105, 109, 117])), (.inl (1, [102, 0, 3])), (.inr (400, false)), (.inl (1, [104, 0, 3])), (.inr (640, false)), (.inl (3, [106, 1, 3, 51, 0, 0, 1, 3, 0, 0, 1, 1])), (.inr (8196, false)), (.inl (5, [106, 108, 0, 0, 0, 0, 52, 0, 0, 0, 1])), (.inr (4, true)), (.inl (6, [110, 112, 114, 107, 105, 115, 116, 0, 0, 0, 1, 1, 0, 3, 3, 0, 0, 0, 0])), (.inl (1, [111, 0, 3])), (.inr (400, false)), (.inl (2, [50, 0, 0, 0, 0, 0])), (.inr (0, false)), (.inr (11, false)), (.inr (40, true)), (.inr (40, true)), (.inl (7, [118, 107, 120, 122, 53, 0, 0, 0, 1, 0, 3, 3, 3, 0, 0, 0, 0])), (.inl (1, [119, 0, 3])), (.inr (640, false)), (.inl (4, [106, 1, 3, 121, 0, 0])), (.inr (400, false)), (.inr (6, false))]
def zx_LR : List zx_C := [(.inl (8, [101, 0, 102, 0, 103, 0, 104, 0, 105, 0, 0, 0, 0, 1, 1, 1, 1, 1, 1, 0, 0, 0, 3, 0, 106, 0, 0, 3, 0, 0, 0, 0, 0, 107, 108, 3, 3, 0, 0, 1, 1, 109])), (.inr (400, false)), (.inr (640, false)), (.inr (400, false)), (.inr (640, false)), (.inr (8328, false)), (.inr (400, false)), (.inr (48, false)), (.inr (48, false)), (.inr (11, false))]
def ro_f (j : Nat) : Int32 := ([253, 55, 122, 88, 90, 0] : List Int32).getD j 0
def zx_ro : Nat × (Nat → Int32) := (6, ro_f)
end
section
/-! The methods' code, as the pure machine has it, and that it is the bytes' (written by a program out of the Statement) -/
def ck_P_feed_0 : List (Nat × Nat × zx_I) := [(0, 1, (1, 0, 2, (.int 0), [])), (1, 2, (1, 4, 0, (.int 0), [])), (3, 3, (30, 56, 1, (.int 0), [(0, 13)])), (6, 2, (2, 5, 2, (.int 0), [])), (8, 1, (1, 3, 0, (.int 0), [])), (9, 1, (0, 0, 0, (.int 1), [])), (10, 3, (20, 28, 2, (.int 0), [])), (13, 1, (1, 3, 0, (.int 0), [])), (14, 2, (0, 0, 1, (.int 8), [])), (16, 3, (20, 28, 4, (.int 0), [])), (19, 2, (1, 5, 2, (.int 0), [])), (21, 1, (1, 3, 0, (.int 0), [])), (22, 3, (30, 60, 1, (.int 0), [(1, 21)])), (25, 3, (21, 30, 1, (.int 0), [])), (28, 1, (0, 0, 0, (.int (-1)), [])), (29, 1, (40, 0, 1, (.int 0), [])), (30, 1, (1, 3, 0, (.int 0), [])), (31, 1, (0, 0, 0, (.int 1), [])), (32, 1, (4, 0, 1, (.int 0), [])), (33, 2, (2, 6, 0, (.int 0), [])), (35, 2, (1, 6, 0, (.int 0), [])), (37, 3, (21, 63, 2, (.int 0), [])), (40, 2, (1, 5, 2, (.int 0), [])), (42, 1, (1, 1, 1, (.int 0), []))]
def ck_P_feed_1 : List (Nat × Nat × zx_I) := [(43, 2, (0, 0, 1, (.int 8), [])), (45, 2, (1, 6, 0, (.int 0), [])), (47, 1, (4, 0, 2, (.int 0), [])), (48, 1, (4, 0, 19, (.int 0), [])), (49, 1, (5, 0, 1, (.int 0), [])), (50, 3, (0, 0, 2, (.int 255), [])), (53, 1, (4, 0, 5, (.int 0), [])), (54, 3, (30, 64, 1, (.int 0), [(1, 22)])), (57, 3, (3, 6, 0, (.int (-1)), [])), (60, 3, (6, 35, 0, (.int 0), [])), (63, 2, (1, 5, 2, (.int 0), [])), (65, 3, (7, 67, 0, (.int 0), [(1, 1)])), (68, 1, (40, 0, 1, (.int 0), []))]
abbrev ck_P_feed : zx_K := [(43, ck_P_feed_0), (69, ck_P_feed_1)]
def ck_P_copy_0 : List (Nat × Nat × zx_I) := [(0, 1, (1, 2, 0, (.int 0), [])), (1, 1, (0, 0, 0, (.int 1), [])), (2, 3, (20, 39, 2, (.int 0), [])), (5, 1, (1, 2, 0, (.int 0), [])), (6, 3, (0, 0, 2, (.int 300), [])), (9, 3, (20, 39, 4, (.int 0), [])), (12, 1, (1, 1, 0, (.int 0), [])), (13, 1, (0, 0, 0, (.int 1), [])), (14, 3, (20, 39, 2, (.int 0), [])), (17, 1, (1, 1, 0, (.int 0), [])), (18, 1, (1, 0, 2, (.int 0), [])), (19, 3, (7, 14, 0, (.int 0), [(0, 0)])), (22, 3, (7, 67, 0, (.int 0), [(1, 1)])), (25, 3, (20, 39, 4, (.int 0), [])), (28, 1, (1, 0, 2, (.int 0), [])), (29, 3, (7, 14, 0, (.int 0), [(0, 0)])), (32, 1, (1, 2, 0, (.int 0), [])), (33, 3, (30, 60, 1, (.int 0), [(1, 21)])), (36, 3, (21, 41, 1, (.int 0), [])), (39, 1, (0, 0, 0, (.int (-1)), [])), (40, 1, (40, 0, 1, (.int 0), [])), (41, 1, (1, 0, 2, (.int 0), [])), (42, 3, (7, 14, 0, (.int 0), [(0, 0)])), (45, 1, (1, 1, 0, (.int 0), []))]
def ck_P_copy_1 : List (Nat × Nat × zx_I) := [(46, 1, (5, 0, 0, (.int 0), [])), (47, 1, (1, 2, 0, (.int 0), [])), (48, 3, (30, 71, 2, (.int 0), [(1, 25)])), (51, 1, (1, 0, 2, (.int 0), [])), (52, 3, (7, 14, 0, (.int 0), [(0, 0)])), (55, 3, (7, 67, 0, (.int 0), [(1, 1)])), (58, 1, (40, 0, 1, (.int 0), []))]
abbrev ck_P_copy : zx_K := [(46, ck_P_copy_0), (59, ck_P_copy_1)]
def ck_P_cut_0 : List (Nat × Nat × zx_I) := [(0, 1, (1, 0, 2, (.int 0), [])), (1, 1, (1, 2, 0, (.int 0), [])), (2, 3, (30, 56, 1, (.int 0), [(0, 13)])), (5, 1, (2, 3, 2, (.int 0), [])), (6, 1, (1, 1, 0, (.int 0), [])), (7, 3, (21, 18, 2, (.int 0), [])), (10, 1, (1, 1, 0, (.int 0), [])), (11, 1, (1, 3, 2, (.int 0), [])), (12, 3, (7, 67, 0, (.int 0), [(1, 1)])), (15, 3, (20, 20, 5, (.int 0), [])), (18, 1, (0, 0, 0, (.int (-1)), [])), (19, 1, (40, 0, 1, (.int 0), [])), (20, 1, (1, 3, 2, (.int 0), [])), (21, 3, (7, 67, 0, (.int 0), [(1, 1)])), (24, 1, (1, 1, 0, (.int 0), [])), (25, 1, (4, 0, 1, (.int 0), [])), (26, 2, (2, 4, 0, (.int 0), [])), (28, 1, (1, 3, 2, (.int 0), [])), (29, 1, (1, 1, 0, (.int 0), [])), (30, 3, (8, 67, 0, (.int 0), [(1, 1)])), (33, 2, (1, 4, 0, (.int 0), [])), (35, 1, (40, 0, 1, (.int 0), []))]
abbrev ck_P_cut : zx_K := [(36, ck_P_cut_0)]
def ck_P_change_0 : List (Nat × Nat × zx_I) := [(0, 1, (1, 0, 2, (.int 0), [])), (1, 3, (7, 18, 0, (.int 0), [(0, 1)])), (4, 1, (1, 1, 0, (.int 0), [])), (5, 3, (30, 75, 1, (.int 0), [(1, 26)])), (8, 1, (2, 3, 0, (.int 0), [])), (9, 1, (1, 3, 0, (.int 0), [])), (10, 1, (0, 0, 0, (.int (-1)), [])), (11, 3, (20, 25, 0, (.int 0), [])), (14, 1, (1, 2, 0, (.int 0), [])), (15, 3, (21, 25, 2, (.int 0), [])), (18, 1, (1, 2, 0, (.int 0), [])), (19, 3, (0, 0, 2, (.int 255), [])), (22, 3, (20, 27, 5, (.int 0), [])), (25, 1, (0, 0, 0, (.int (-1)), [])), (26, 1, (40, 0, 1, (.int 0), [])), (27, 1, (1, 0, 2, (.int 0), [])), (28, 3, (7, 18, 0, (.int 0), [(0, 1)])), (31, 3, (7, 79, 0, (.int 0), [(1, 0)])), (34, 1, (1, 1, 0, (.int 0), [])), (35, 1, (1, 2, 0, (.int 0), [])), (36, 1, (10, 0, 0, (.int 0), [])), (37, 1, (1, 3, 0, (.int 0), [])), (38, 1, (40, 0, 1, (.int 0), []))]
abbrev ck_P_change : zx_K := [(39, ck_P_change_0)]
def ck_P_at_0 : List (Nat × Nat × zx_I) := [(0, 1, (1, 0, 2, (.int 0), [])), (1, 1, (1, 2, 0, (.int 0), [])), (2, 3, (30, 56, 1, (.int 0), [(0, 13)])), (5, 1, (1, 1, 0, (.int 0), [])), (6, 3, (30, 75, 1, (.int 0), [(1, 26)])), (9, 1, (40, 0, 1, (.int 0), []))]
abbrev ck_P_at : zx_K := [(10, ck_P_at_0)]
def ck_P_pack_0 : List (Nat × Nat × zx_I) := [(0, 1, (1, 1, 0, (.int 0), [])), (1, 3, (31, 83, 1, (.int 0), [(0, 14)])), (4, 3, (21, 26, 0, (.int 0), [])), (7, 1, (1, 2, 0, (.int 0), [])), (8, 3, (31, 86, 1, (.int 0), [(0, 16)])), (11, 3, (21, 26, 0, (.int 0), [])), (14, 1, (1, 3, 0, (.int 0), [])), (15, 1, (0, 0, 0, (.int 1), [])), (16, 3, (20, 26, 2, (.int 0), [])), (19, 1, (1, 3, 0, (.int 0), [])), (20, 3, (0, 0, 2, (.int 400), [])), (23, 3, (20, 29, 5, (.int 0), [])), (26, 2, (0, 0, 1, (.int (-3)), [])), (28, 1, (40, 0, 1, (.int 0), [])), (29, 1, (1, 0, 2, (.int 0), [])), (30, 3, (7, 52, 0, (.int 0), [(0, 4)])), (33, 1, (1, 0, 2, (.int 0), [])), (34, 3, (7, 14, 0, (.int 0), [(0, 0)])), (37, 1, (1, 1, 0, (.int 0), [])), (38, 1, (1, 2, 0, (.int 0), [])), (39, 3, (30, 89, 3, (.int 0), [(7, 86)])), (42, 1, (1, 0, 2, (.int 0), [])), (43, 3, (7, 14, 0, (.int 0), [(0, 0)])), (46, 3, (7, 67, 0, (.int 0), [(1, 1)]))]
def ck_P_pack_1 : List (Nat × Nat × zx_I) := [(49, 3, (21, 113, 5, (.int 0), [])), (52, 1, (1, 0, 2, (.int 0), [])), (53, 3, (7, 52, 0, (.int 0), [(0, 4)])), (56, 3, (30, 93, 0, (.int 0), [(7, 87)])), (59, 1, (0, 0, 0, (.int 0), [])), (60, 2, (2, 4, 0, (.int 0), [])), (62, 2, (1, 4, 0, (.int 0), [])), (64, 1, (1, 0, 2, (.int 0), [])), (65, 3, (7, 14, 0, (.int 0), [(0, 0)])), (68, 3, (7, 67, 0, (.int 0), [(1, 1)])), (71, 3, (20, 106, 3, (.int 0), [])), (74, 1, (1, 0, 2, (.int 0), [])), (75, 3, (7, 52, 0, (.int 0), [(0, 4)])), (78, 2, (1, 4, 0, (.int 0), [])), (80, 2, (1, 4, 0, (.int 0), [])), (82, 1, (1, 3, 0, (.int 0), [])), (83, 1, (4, 0, 0, (.int 0), [])), (84, 1, (1, 0, 2, (.int 0), [])), (85, 3, (7, 14, 0, (.int 0), [(0, 0)])), (88, 3, (7, 67, 0, (.int 0), [(1, 1)])), (91, 3, (15, 96, 0, (.int 0), [])), (94, 3, (30, 102, 2, (.int 0), [(7, 88)])), (97, 2, (1, 4, 0, (.int 0), [])), (99, 1, (1, 3, 0, (.int 0), []))]
def ck_P_pack_2 : List (Nat × Nat × zx_I) := [(100, 1, (4, 0, 0, (.int 0), [])), (101, 2, (2, 4, 0, (.int 0), [])), (103, 3, (6, 62, 0, (.int 0), [])), (106, 1, (1, 0, 2, (.int 0), [])), (107, 3, (7, 52, 0, (.int 0), [(0, 4)])), (110, 3, (30, 106, 0, (.int 0), [(7, 97)])), (113, 1, (1, 0, 2, (.int 0), [])), (114, 3, (7, 52, 0, (.int 0), [(0, 4)])), (117, 3, (30, 109, 0, (.int 0), [(7, 100)])), (120, 1, (1, 0, 2, (.int 0), [])), (121, 3, (7, 52, 0, (.int 0), [(0, 4)])), (124, 3, (30, 112, 0, (.int 0), [(7, 101)])), (127, 1, (1, 0, 2, (.int 0), [])), (128, 3, (7, 52, 0, (.int 0), [(0, 4)])), (131, 3, (7, 115, 0, (.int 0), [(7, 0)])), (134, 3, (7, 118, 0, (.int 0), [(1, 2)])), (137, 3, (21, 143, 0, (.int 0), [])), (140, 2, (0, 0, 1, (.int (-5)), [])), (142, 1, (40, 0, 1, (.int 0), [])), (143, 1, (1, 0, 2, (.int 0), [])), (144, 3, (7, 18, 0, (.int 0), [(0, 1)])), (147, 1, (1, 0, 2, (.int 0), [])), (148, 3, (7, 52, 0, (.int 0), [(0, 4)])), (151, 3, (7, 115, 0, (.int 0), [(7, 0)]))]
def ck_P_pack_3 : List (Nat × Nat × zx_I) := [(154, 3, (30, 122, 1, (.int 0), [(1, 28)])), (157, 1, (1, 0, 2, (.int 0), [])), (158, 3, (7, 18, 0, (.int 0), [(0, 1)])), (161, 3, (7, 67, 0, (.int 0), [(1, 1)])), (164, 1, (40, 0, 1, (.int 0), []))]
abbrev ck_P_pack : zx_K := [(47, ck_P_pack_0), (100, ck_P_pack_1), (152, ck_P_pack_2), (165, ck_P_pack_3)]
def ck_P_unpack_0 : List (Nat × Nat × zx_I) := [(0, 1, (1, 0, 2, (.int 0), [])), (1, 3, (7, 40, 0, (.int 0), [(0, 3)])), (4, 1, (1, 0, 2, (.int 0), [])), (5, 3, (7, 18, 0, (.int 0), [(0, 1)])), (8, 3, (30, 126, 1, (.int 0), [(6, 69)])), (11, 1, (1, 0, 2, (.int 0), [])), (12, 3, (7, 40, 0, (.int 0), [(0, 3)])), (15, 3, (30, 128, 0, (.int 0), [(6, 70)])), (18, 1, (0, 0, 0, (.int 0), [])), (19, 1, (2, 1, 0, (.int 0), [])), (20, 1, (1, 1, 0, (.int 0), [])), (21, 3, (0, 0, 2, (.int 640), [])), (24, 3, (20, 50, 3, (.int 0), [])), (27, 1, (1, 0, 2, (.int 0), [])), (28, 3, (7, 40, 0, (.int 0), [(0, 3)])), (31, 3, (30, 131, 0, (.int 0), [(6, 71)])), (34, 3, (21, 50, 0, (.int 0), [])), (37, 1, (1, 0, 2, (.int 0), [])), (38, 3, (7, 40, 0, (.int 0), [(0, 3)])), (41, 3, (30, 135, 0, (.int 0), [(6, 72)])), (44, 3, (3, 1, 0, (.int 1), [])), (47, 3, (6, 20, 0, (.int 0), [])), (50, 1, (1, 0, 2, (.int 0), [])), (51, 3, (7, 40, 0, (.int 0), [(0, 3)]))]
def ck_P_unpack_1 : List (Nat × Nat × zx_I) := [(54, 3, (30, 138, 0, (.int 0), [(6, 84)])), (57, 1, (1, 0, 2, (.int 0), [])), (58, 3, (7, 40, 0, (.int 0), [(0, 3)])), (61, 3, (30, 141, 0, (.int 0), [(6, 85)])), (64, 1, (1, 0, 2, (.int 0), [])), (65, 3, (7, 40, 0, (.int 0), [(0, 3)])), (68, 3, (7, 144, 0, (.int 0), [(6, 1)])), (71, 3, (30, 148, 0, (.int 0), [(2, 30)])), (74, 3, (21, 88, 1, (.int 0), [])), (77, 1, (1, 0, 2, (.int 0), [])), (78, 3, (7, 40, 0, (.int 0), [(0, 3)])), (81, 3, (7, 144, 0, (.int 0), [(6, 1)])), (84, 3, (7, 153, 0, (.int 0), [(2, 4)])), (87, 1, (40, 0, 1, (.int 0), [])), (88, 1, (1, 0, 2, (.int 0), [])), (89, 3, (7, 14, 0, (.int 0), [(0, 0)])), (92, 1, (1, 0, 2, (.int 0), [])), (93, 3, (7, 40, 0, (.int 0), [(0, 3)])), (96, 3, (7, 156, 0, (.int 0), [(6, 0)])), (99, 3, (30, 122, 1, (.int 0), [(1, 28)])), (102, 1, (1, 0, 2, (.int 0), [])), (103, 3, (7, 14, 0, (.int 0), [(0, 0)])), (106, 3, (7, 67, 0, (.int 0), [(1, 1)])), (109, 1, (40, 0, 1, (.int 0), []))]
abbrev ck_P_unpack : zx_K := [(52, ck_P_unpack_0), (110, ck_P_unpack_1)]
def ck_P_where_0 : List (Nat × Nat × zx_I) := [(0, 1, (1, 0, 2, (.int 0), [])), (1, 3, (7, 40, 0, (.int 0), [(0, 3)])), (4, 3, (7, 144, 0, (.int 0), [(6, 1)])), (7, 3, (7, 159, 0, (.int 0), [(2, 5)])), (10, 1, (40, 0, 1, (.int 0), []))]
abbrev ck_P_where : zx_K := [(11, ck_P_where_0)]
def ck_P_watch_0 : List (Nat × Nat × zx_I) := [(0, 1, (1, 1, 0, (.int 0), [])), (1, 1, (0, 0, 0, (.int 1), [])), (2, 3, (20, 7, 3, (.int 0), [])), (5, 1, (0, 0, 0, (.int 0), [])), (6, 1, (40, 0, 4, (.int 0), [])), (7, 1, (1, 0, 2, (.int 0), [])), (8, 3, (7, 26, 0, (.int 0), [(0, 2)])), (11, 1, (1, 1, 0, (.int 0), [])), (12, 3, (8, 162, 0, (.int 0), [(3, 9)])), (15, 1, (0, 0, 0, (.int 1), [])), (16, 1, (40, 0, 4, (.int 0), []))]
abbrev ck_P_watch : zx_K := [(17, ck_P_watch_0)]
def ck_P_range_0 : List (Nat × Nat × zx_I) := [(0, 1, (1, 0, 2, (.int 0), [])), (1, 3, (7, 26, 0, (.int 0), [(0, 2)])), (4, 3, (7, 165, 0, (.int 0), [(3, 10)])), (7, 1, (40, 0, 2, (.int 0), []))]
abbrev ck_P_range : zx_K := [(8, ck_P_range_0)]
def ck_P_code_0 : List (Nat × Nat × zx_I) := [(0, 1, (1, 0, 2, (.int 0), [])), (1, 3, (7, 26, 0, (.int 0), [(0, 2)])), (4, 3, (7, 169, 0, (.int 0), [(3, 11)])), (7, 1, (40, 0, 2, (.int 0), []))]
abbrev ck_P_code : zx_K := [(8, ck_P_code_0)]
def ck_P_count_0 : List (Nat × Nat × zx_I) := [(0, 1, (1, 1, 0, (.int 0), [])), (1, 3, (21, 10, 2, (.int 0), [])), (4, 1, (1, 1, 0, (.int 0), [])), (5, 2, (0, 0, 1, (.int 11), [])), (7, 3, (20, 12, 2, (.int 0), [])), (10, 1, (0, 0, 0, (.int (-1)), [])), (11, 1, (40, 0, 1, (.int 0), [])), (12, 1, (1, 1, 0, (.int 0), [])), (13, 3, (21, 26, 1, (.int 0), [])), (16, 1, (1, 0, 2, (.int 0), [])), (17, 3, (7, 26, 0, (.int 0), [(0, 2)])), (20, 3, (7, 172, 0, (.int 0), [(3, 8)])), (23, 3, (6, 35, 0, (.int 0), [])), (26, 1, (1, 0, 2, (.int 0), [])), (27, 3, (7, 40, 0, (.int 0), [(0, 3)])), (30, 3, (7, 175, 0, (.int 0), [(6, 2)])), (33, 1, (1, 1, 0, (.int 0), [])), (34, 1, (9, 0, 0, (.int 0), [])), (35, 1, (40, 0, 1, (.int 0), []))]
abbrev ck_P_count : zx_K := [(36, ck_P_count_0)]
def ck_P_sum_0 : List (Nat × Nat × zx_I) := [(0, 1, (1, 1, 0, (.int 0), [])), (1, 3, (21, 25, 0, (.int 0), [])), (4, 1, (1, 0, 2, (.int 0), [])), (5, 3, (7, 14, 0, (.int 0), [(0, 0)])), (8, 3, (7, 79, 0, (.int 0), [(1, 0)])), (11, 1, (0, 0, 0, (.int 0), [])), (12, 1, (1, 0, 2, (.int 0), [])), (13, 3, (7, 14, 0, (.int 0), [(0, 0)])), (16, 3, (7, 67, 0, (.int 0), [(1, 1)])), (19, 3, (31, 178, 3, (.int 0), [(0, 18)])), (22, 3, (6, 43, 0, (.int 0), [])), (25, 1, (1, 0, 2, (.int 0), [])), (26, 3, (7, 14, 0, (.int 0), [(0, 0)])), (29, 3, (7, 79, 0, (.int 0), [(1, 0)])), (32, 1, (0, 0, 0, (.int 0), [])), (33, 1, (1, 0, 2, (.int 0), [])), (34, 3, (7, 14, 0, (.int 0), [(0, 0)])), (37, 3, (7, 67, 0, (.int 0), [(1, 1)])), (40, 3, (31, 182, 3, (.int 0), [(0, 17)])), (43, 1, (40, 0, 2, (.int 0), []))]
abbrev ck_P_sum : zx_K := [(44, ck_P_sum_0)]
def ck_P_rowOf_0 : List (Nat × Nat × zx_I) := [(0, 1, (1, 1, 0, (.int 0), [])), (1, 3, (21, 11, 0, (.int 0), [])), (4, 1, (1, 0, 2, (.int 0), [])), (5, 3, (7, 18, 0, (.int 0), [(0, 1)])), (8, 3, (6, 15, 0, (.int 0), [])), (11, 1, (1, 0, 2, (.int 0), [])), (12, 3, (7, 14, 0, (.int 0), [(0, 0)])), (15, 1, (40, 0, 3, (.int 0), []))]
abbrev ck_P_rowOf : zx_K := [(16, ck_P_rowOf_0)]
def ck_P_isSort_0 : List (Nat × Nat × zx_I) := [(0, 1, (1, 0, 0, (.int 0), [])), (1, 3, (21, 14, 0, (.int 0), [])), (4, 1, (1, 0, 0, (.int 0), [])), (5, 1, (0, 0, 0, (.int 1), [])), (6, 3, (20, 14, 0, (.int 0), [])), (9, 1, (1, 0, 0, (.int 0), [])), (10, 1, (0, 0, 0, (.int 4), [])), (11, 3, (20, 18, 1, (.int 0), [])), (14, 1, (0, 0, 0, (.int 1), [])), (15, 3, (6, 19, 0, (.int 0), [])), (18, 1, (0, 0, 0, (.int 0), [])), (19, 1, (40, 0, 4, (.int 0), []))]
abbrev ck_P_isSort : zx_K := [(20, ck_P_isSort_0)]
def ck_P_checkSize_0 : List (Nat × Nat × zx_I) := [(0, 1, (1, 0, 0, (.int 0), [])), (1, 1, (0, 0, 0, (.int 4), [])), (2, 3, (20, 10, 1, (.int 0), [])), (5, 2, (0, 0, 1, (.int 8), [])), (7, 3, (6, 20, 0, (.int 0), [])), (10, 1, (1, 0, 0, (.int 0), [])), (11, 1, (0, 0, 0, (.int 1), [])), (12, 3, (20, 19, 1, (.int 0), [])), (15, 1, (0, 0, 0, (.int 4), [])), (16, 3, (6, 20, 0, (.int 0), [])), (19, 1, (0, 0, 0, (.int 0), [])), (20, 1, (40, 0, 1, (.int 0), []))]
abbrev ck_P_checkSize : zx_K := [(21, ck_P_checkSize_0)]
def ck_P_areProperties_0 : List (Nat × Nat × zx_I) := [(0, 1, (1, 0, 0, (.int 0), [])), (1, 3, (21, 11, 2, (.int 0), [])), (4, 1, (1, 0, 0, (.int 0), [])), (5, 3, (0, 0, 2, (.int 225), [])), (8, 3, (20, 13, 2, (.int 0), [])), (11, 1, (0, 0, 0, (.int 0), [])), (12, 1, (40, 0, 4, (.int 0), [])), (13, 1, (1, 0, 0, (.int 0), [])), (14, 2, (0, 0, 1, (.int 9), [])), (16, 1, (4, 0, 4, (.int 0), [])), (17, 1, (1, 0, 0, (.int 0), [])), (18, 2, (0, 0, 1, (.int 9), [])), (20, 1, (4, 0, 3, (.int 0), [])), (21, 1, (0, 0, 0, (.int 5), [])), (22, 1, (4, 0, 4, (.int 0), [])), (23, 1, (4, 0, 0, (.int 0), [])), (24, 1, (0, 0, 0, (.int 3), [])), (25, 3, (20, 32, 4, (.int 0), [])), (28, 1, (0, 0, 0, (.int 1), [])), (29, 3, (6, 33, 0, (.int 0), [])), (32, 1, (0, 0, 0, (.int 0), [])), (33, 1, (40, 0, 4, (.int 0), []))]
abbrev ck_P_areProperties : zx_K := [(34, ck_P_areProperties_0)]
def ck_P_sumFour_0 : List (Nat × Nat × zx_I) := [(0, 1, (1, 0, 2, (.int 0), [])), (1, 1, (1, 1, 0, (.int 0), [])), (2, 1, (1, 2, 0, (.int 0), [])), (3, 3, (0, 185, 5, (.long 4294967295), [])), (6, 3, (0, 187, 5, (.long 3988292384), [])), (9, 3, (31, 189, 5, (.int 0), [(0, 19)])), (12, 1, (40, 0, 2, (.int 0), []))]
abbrev ck_P_sumFour : zx_K := [(13, ck_P_sumFour_0)]
def ck_P_sumEight_0 : List (Nat × Nat × zx_I) := [(0, 1, (1, 0, 2, (.int 0), [])), (1, 1, (1, 1, 0, (.int 0), [])), (2, 1, (1, 2, 0, (.int 0), [])), (3, 3, (0, 193, 5, (.long (-1)), [])), (6, 3, (0, 195, 5, (.long (-3932672073523589310)), [])), (9, 3, (31, 189, 5, (.int 0), [(0, 19)])), (12, 1, (40, 0, 2, (.int 0), []))]
abbrev ck_P_sumEight : zx_K := [(13, ck_P_sumEight_0)]
def ck_P_sumBy_0 : List (Nat × Nat × zx_I) := [(0, 1, (1, 3, 1, (.int 0), [])), (1, 2, (2, 7, 1, (.int 0), [])), (3, 1, (1, 1, 0, (.int 0), [])), (4, 2, (2, 9, 0, (.int 0), [])), (6, 2, (1, 9, 0, (.int 0), [])), (8, 1, (1, 2, 0, (.int 0), [])), (9, 3, (20, 69, 3, (.int 0), [])), (12, 2, (1, 7, 1, (.int 0), [])), (14, 1, (1, 0, 2, (.int 0), [])), (15, 2, (1, 9, 0, (.int 0), [])), (17, 1, (9, 0, 0, (.int 0), [])), (18, 1, (5, 0, 0, (.int 0), [])), (19, 1, (4, 0, 16, (.int 0), [])), (20, 2, (2, 7, 1, (.int 0), [])), (22, 1, (0, 0, 0, (.int 0), [])), (23, 2, (2, 10, 0, (.int 0), [])), (25, 2, (1, 10, 0, (.int 0), [])), (27, 2, (0, 0, 1, (.int 8), [])), (29, 3, (20, 63, 3, (.int 0), [])), (32, 2, (1, 7, 1, (.int 0), [])), (34, 1, (0, 0, 4, (.long 1), [])), (35, 1, (4, 0, 14, (.int 0), [])), (36, 1, (0, 0, 4, (.long 1), [])), (37, 4, (22, 51, 1, (.int 0), []))]
def ck_P_sumBy_1 : List (Nat × Nat × zx_I) := [(41, 2, (1, 7, 1, (.int 0), [])), (43, 1, (0, 0, 0, (.int 1), [])), (44, 1, (4, 0, 19, (.int 0), [])), (45, 2, (1, 5, 1, (.int 0), [])), (47, 1, (4, 0, 16, (.int 0), [])), (48, 3, (6, 55, 0, (.int 0), [])), (51, 2, (1, 7, 1, (.int 0), [])), (53, 1, (0, 0, 0, (.int 1), [])), (54, 1, (4, 0, 19, (.int 0), [])), (55, 2, (2, 7, 1, (.int 0), [])), (57, 3, (3, 10, 0, (.int 1), [])), (60, 3, (6, 25, 0, (.int 0), [])), (63, 3, (3, 9, 0, (.int 1), [])), (66, 3, (6, 6, 0, (.int 0), [])), (69, 2, (1, 7, 1, (.int 0), [])), (71, 1, (1, 3, 1, (.int 0), [])), (72, 1, (4, 0, 16, (.int 0), [])), (73, 1, (40, 0, 2, (.int 0), []))]
abbrev ck_P_sumBy : zx_K := [(38, ck_P_sumBy_0), (74, ck_P_sumBy_1)]
def ck_Row_clear_0 : List (Nat × Nat × zx_I) := [(0, 1, (1, 0, 2, (.int 0), [])), (1, 1, (0, 0, 0, (.int 0), [])), (2, 3, (8, 15, 0, (.int 0), [(1, 1)])), (5, 1, (1, 0, 2, (.int 0), [])), (6, 1, (0, 0, 0, (.int 0), [])), (7, 3, (8, 19, 0, (.int 0), [(1, 2)])), (10, 1, (40, 0, 0, (.int 0), []))]
abbrev ck_Row_clear : zx_K := [(11, ck_Row_clear_0)]
def ck_Row_hasRoom_0 : List (Nat × Nat × zx_I) := [(0, 1, (1, 1, 0, (.int 0), [])), (1, 1, (1, 0, 2, (.int 0), [])), (2, 3, (7, 9, 0, (.int 0), [(1, 0)])), (5, 1, (11, 0, 0, (.int 0), [])), (6, 1, (1, 0, 2, (.int 0), [])), (7, 3, (7, 15, 0, (.int 0), [(1, 1)])), (10, 1, (4, 0, 1, (.int 0), [])), (11, 3, (20, 18, 4, (.int 0), [])), (14, 1, (0, 0, 0, (.int 1), [])), (15, 3, (6, 19, 0, (.int 0), [])), (18, 1, (0, 0, 0, (.int 0), [])), (19, 1, (40, 0, 4, (.int 0), []))]
abbrev ck_Row_hasRoom : zx_K := [(20, ck_Row_hasRoom_0)]
def ck_Row_append_0 : List (Nat × Nat × zx_I) := [(0, 1, (1, 0, 2, (.int 0), [])), (1, 3, (7, 15, 0, (.int 0), [(1, 1)])), (4, 1, (1, 0, 2, (.int 0), [])), (5, 3, (7, 9, 0, (.int 0), [(1, 0)])), (8, 1, (11, 0, 0, (.int 0), [])), (9, 3, (20, 18, 2, (.int 0), [])), (12, 1, (1, 0, 2, (.int 0), [])), (13, 1, (0, 0, 0, (.int 1), [])), (14, 3, (8, 19, 0, (.int 0), [(1, 2)])), (17, 1, (40, 0, 0, (.int 0), [])), (18, 1, (1, 0, 2, (.int 0), [])), (19, 3, (7, 9, 0, (.int 0), [(1, 0)])), (22, 1, (1, 0, 2, (.int 0), [])), (23, 3, (7, 15, 0, (.int 0), [(1, 1)])), (26, 1, (1, 1, 0, (.int 0), [])), (27, 1, (10, 0, 0, (.int 0), [])), (28, 1, (1, 0, 2, (.int 0), [])), (29, 1, (12, 0, 0, (.int 0), [])), (30, 3, (7, 15, 0, (.int 0), [(1, 1)])), (33, 1, (0, 0, 0, (.int 1), [])), (34, 1, (4, 0, 0, (.int 0), [])), (35, 3, (8, 15, 0, (.int 0), [(1, 1)])), (38, 1, (40, 0, 0, (.int 0), []))]
abbrev ck_Row_append : zx_K := [(39, ck_Row_append_0)]
def ck_Row_appendAll_0 : List (Nat × Nat × zx_I) := [(0, 1, (1, 2, 0, (.int 0), [])), (1, 2, (2, 4, 0, (.int 0), [])), (3, 2, (1, 4, 0, (.int 0), [])), (5, 1, (1, 2, 0, (.int 0), [])), (6, 1, (1, 3, 0, (.int 0), [])), (7, 1, (4, 0, 0, (.int 0), [])), (8, 3, (20, 25, 3, (.int 0), [])), (11, 1, (1, 0, 2, (.int 0), [])), (12, 1, (1, 1, 2, (.int 0), [])), (13, 2, (1, 4, 0, (.int 0), [])), (15, 1, (9, 0, 0, (.int 0), [])), (16, 3, (30, 23, 1, (.int 0), [(1, 22)])), (19, 3, (3, 4, 0, (.int 1), [])), (22, 3, (6, 3, 0, (.int 0), [])), (25, 1, (40, 0, 0, (.int 0), []))]
abbrev ck_Row_appendAll : zx_K := [(26, ck_Row_appendAll_0)]
def ck_Row_appendLowFirst_0 : List (Nat × Nat × zx_I) := [(0, 1, (0, 0, 0, (.int 0), [])), (1, 2, (2, 4, 0, (.int 0), [])), (3, 2, (1, 4, 0, (.int 0), [])), (5, 1, (1, 3, 0, (.int 0), [])), (6, 3, (20, 31, 3, (.int 0), [])), (9, 1, (1, 0, 2, (.int 0), [])), (10, 1, (1, 1, 1, (.int 0), [])), (11, 2, (0, 0, 1, (.int 8), [])), (13, 2, (1, 4, 0, (.int 0), [])), (15, 1, (4, 0, 2, (.int 0), [])), (16, 1, (4, 0, 19, (.int 0), [])), (17, 1, (5, 0, 1, (.int 0), [])), (18, 3, (0, 0, 2, (.int 255), [])), (21, 1, (4, 0, 5, (.int 0), [])), (22, 3, (30, 23, 1, (.int 0), [(1, 22)])), (25, 3, (3, 4, 0, (.int 1), [])), (28, 3, (6, 3, 0, (.int 0), [])), (31, 1, (40, 0, 0, (.int 0), []))]
abbrev ck_Row_appendLowFirst : zx_K := [(32, ck_Row_appendLowFirst_0)]
def ck_Row_repeat_0 : List (Nat × Nat × zx_I) := [(0, 1, (0, 0, 0, (.int 0), [])), (1, 2, (2, 4, 0, (.int 0), [])), (3, 2, (1, 4, 0, (.int 0), [])), (5, 1, (1, 3, 0, (.int 0), [])), (6, 3, (20, 28, 3, (.int 0), [])), (9, 1, (1, 0, 2, (.int 0), [])), (10, 1, (1, 0, 2, (.int 0), [])), (11, 1, (1, 0, 2, (.int 0), [])), (12, 3, (7, 15, 0, (.int 0), [(1, 1)])), (15, 1, (1, 1, 1, (.int 0), [])), (16, 3, (30, 27, 2, (.int 0), [(1, 27)])), (19, 3, (30, 23, 1, (.int 0), [(1, 22)])), (22, 3, (3, 4, 0, (.int 1), [])), (25, 3, (6, 3, 0, (.int 0), [])), (28, 1, (40, 0, 0, (.int 0), []))]
abbrev ck_Row_repeat : zx_K := [(29, ck_Row_repeat_0)]
def ck_Row_byteAt_0 : List (Nat × Nat × zx_I) := [(0, 1, (1, 1, 0, (.int 0), [])), (1, 3, (21, 21, 2, (.int 0), [])), (4, 1, (1, 1, 0, (.int 0), [])), (5, 1, (1, 0, 2, (.int 0), [])), (6, 3, (7, 15, 0, (.int 0), [(1, 1)])), (9, 3, (20, 21, 3, (.int 0), [])), (12, 1, (1, 0, 2, (.int 0), [])), (13, 3, (7, 9, 0, (.int 0), [(1, 0)])), (16, 1, (1, 1, 0, (.int 0), [])), (17, 1, (9, 0, 0, (.int 0), [])), (18, 3, (6, 22, 0, (.int 0), [])), (21, 1, (0, 0, 0, (.int (-1)), [])), (22, 1, (40, 0, 1, (.int 0), []))]
abbrev ck_Row_byteAt : zx_K := [(23, ck_Row_byteAt_0)]
def ck_Row_byteBack_0 : List (Nat × Nat × zx_I) := [(0, 1, (1, 2, 1, (.int 0), [])), (1, 1, (0, 0, 4, (.long 1), [])), (2, 4, (22, 22, 2, (.int 0), [])), (6, 1, (1, 2, 1, (.int 0), [])), (7, 1, (1, 1, 0, (.int 0), [])), (8, 1, (5, 0, 0, (.int 0), [])), (9, 4, (22, 22, 4, (.int 0), [])), (13, 1, (1, 1, 0, (.int 0), [])), (14, 1, (1, 0, 2, (.int 0), [])), (15, 3, (7, 9, 0, (.int 0), [(1, 0)])), (18, 1, (11, 0, 0, (.int 0), [])), (19, 3, (20, 24, 5, (.int 0), [])), (22, 1, (0, 0, 0, (.int 0), [])), (23, 1, (40, 0, 1, (.int 0), [])), (24, 1, (1, 0, 2, (.int 0), [])), (25, 3, (7, 9, 0, (.int 0), [(1, 0)])), (28, 1, (1, 1, 0, (.int 0), [])), (29, 1, (1, 2, 1, (.int 0), [])), (30, 1, (5, 0, 1, (.int 0), [])), (31, 1, (4, 0, 1, (.int 0), [])), (32, 1, (9, 0, 0, (.int 0), [])), (33, 1, (40, 0, 1, (.int 0), []))]
abbrev ck_Row_byteBack : zx_K := [(34, ck_Row_byteBack_0)]
def ck_Row_become_0 : List (Nat × Nat × zx_I) := [(0, 1, (1, 0, 2, (.int 0), [])), (1, 1, (1, 1, 2, (.int 0), [])), (2, 3, (7, 15, 0, (.int 0), [(1, 1)])), (5, 1, (1, 0, 2, (.int 0), [])), (6, 3, (7, 9, 0, (.int 0), [(1, 0)])), (9, 1, (11, 0, 0, (.int 0), [])), (10, 3, (15, 31, 0, (.int 0), [])), (13, 3, (8, 15, 0, (.int 0), [(1, 1)])), (16, 1, (1, 1, 2, (.int 0), [])), (17, 3, (7, 9, 0, (.int 0), [(1, 0)])), (20, 1, (0, 0, 0, (.int 0), [])), (21, 1, (1, 0, 2, (.int 0), [])), (22, 3, (7, 9, 0, (.int 0), [(1, 0)])), (25, 1, (0, 0, 0, (.int 0), [])), (26, 1, (1, 0, 2, (.int 0), [])), (27, 3, (7, 15, 0, (.int 0), [(1, 1)])), (30, 3, (16, 37, 0, (.int 0), [])), (33, 1, (40, 0, 0, (.int 0), []))]
abbrev ck_Row_become : zx_K := [(34, ck_Row_become_0)]
def ck_Cur_begin_0 : List (Nat × Nat × zx_I) := [(0, 1, (1, 0, 2, (.int 0), [])), (1, 1, (1, 1, 2, (.int 0), [])), (2, 3, (7, 19, 0, (.int 0), [(1, 0)])), (5, 3, (8, 9, 0, (.int 0), [(2, 0)])), (8, 1, (1, 0, 2, (.int 0), [])), (9, 1, (1, 1, 2, (.int 0), [])), (10, 3, (7, 22, 0, (.int 0), [(1, 1)])), (13, 3, (8, 25, 0, (.int 0), [(2, 1)])), (16, 1, (1, 0, 2, (.int 0), [])), (17, 1, (1, 0, 2, (.int 0), [])), (18, 3, (7, 25, 0, (.int 0), [(2, 1)])), (21, 3, (8, 26, 0, (.int 0), [(2, 2)])), (24, 1, (1, 0, 2, (.int 0), [])), (25, 1, (0, 0, 0, (.int 0), [])), (26, 3, (8, 29, 0, (.int 0), [(2, 3)])), (29, 1, (1, 0, 2, (.int 0), [])), (30, 1, (0, 0, 0, (.int 0), [])), (31, 3, (8, 32, 0, (.int 0), [(2, 4)])), (34, 1, (1, 0, 2, (.int 0), [])), (35, 1, (0, 0, 0, (.int (-1)), [])), (36, 3, (8, 15, 0, (.int 0), [(2, 5)])), (39, 1, (40, 0, 0, (.int 0), []))]
abbrev ck_Cur_begin : zx_K := [(40, ck_Cur_begin_0)]
def ck_Cur_isSound_0 : List (Nat × Nat × zx_I) := [(0, 1, (1, 0, 2, (.int 0), [])), (1, 3, (7, 32, 0, (.int 0), [(2, 4)])), (4, 3, (21, 11, 1, (.int 0), [])), (7, 1, (0, 0, 0, (.int 1), [])), (8, 3, (6, 12, 0, (.int 0), [])), (11, 1, (0, 0, 0, (.int 0), [])), (12, 1, (40, 0, 4, (.int 0), []))]
abbrev ck_Cur_isSound : zx_K := [(13, ck_Cur_isSound_0)]
def ck_Cur_fail_0 : List (Nat × Nat × zx_I) := [(0, 1, (1, 0, 2, (.int 0), [])), (1, 3, (7, 32, 0, (.int 0), [(2, 4)])), (4, 3, (21, 17, 1, (.int 0), [])), (7, 1, (1, 0, 2, (.int 0), [])), (8, 1, (1, 1, 0, (.int 0), [])), (9, 3, (8, 32, 0, (.int 0), [(2, 4)])), (12, 1, (1, 0, 2, (.int 0), [])), (13, 1, (1, 2, 0, (.int 0), [])), (14, 3, (8, 15, 0, (.int 0), [(2, 5)])), (17, 1, (40, 0, 0, (.int 0), []))]
abbrev ck_Cur_fail : zx_K := [(18, ck_Cur_fail_0)]
def ck_Cur_narrow_0 : List (Nat × Nat × zx_I) := [(0, 1, (1, 0, 2, (.int 0), [])), (1, 1, (1, 1, 0, (.int 0), [])), (2, 1, (1, 0, 2, (.int 0), [])), (3, 3, (7, 25, 0, (.int 0), [(2, 1)])), (6, 3, (15, 35, 0, (.int 0), [])), (9, 3, (8, 26, 0, (.int 0), [(2, 2)])), (12, 1, (40, 0, 0, (.int 0), []))]
abbrev ck_Cur_narrow : zx_K := [(13, ck_Cur_narrow_0)]
def ck_Cur_widen_0 : List (Nat × Nat × zx_I) := [(0, 1, (1, 0, 2, (.int 0), [])), (1, 1, (1, 0, 2, (.int 0), [])), (2, 3, (7, 25, 0, (.int 0), [(2, 1)])), (5, 3, (8, 26, 0, (.int 0), [(2, 2)])), (8, 1, (40, 0, 0, (.int 0), []))]
abbrev ck_Cur_widen : zx_K := [(9, ck_Cur_widen_0)]
def ck_Cur_has_0 : List (Nat × Nat × zx_I) := [(0, 1, (1, 0, 2, (.int 0), [])), (1, 3, (7, 32, 0, (.int 0), [(2, 4)])), (4, 3, (21, 46, 1, (.int 0), [])), (7, 1, (1, 0, 2, (.int 0), [])), (8, 3, (7, 26, 0, (.int 0), [(2, 2)])), (11, 1, (1, 0, 2, (.int 0), [])), (12, 3, (7, 29, 0, (.int 0), [(2, 3)])), (15, 1, (4, 0, 1, (.int 0), [])), (16, 1, (1, 1, 0, (.int 0), [])), (17, 3, (20, 46, 3, (.int 0), [])), (20, 1, (1, 0, 2, (.int 0), [])), (21, 1, (1, 0, 2, (.int 0), [])), (22, 3, (7, 26, 0, (.int 0), [(2, 2)])), (25, 1, (1, 0, 2, (.int 0), [])), (26, 3, (7, 25, 0, (.int 0), [(2, 1)])), (29, 3, (20, 37, 1, (.int 0), [])), (32, 2, (0, 0, 1, (.int (-2)), [])), (34, 3, (6, 39, 0, (.int 0), [])), (37, 2, (0, 0, 1, (.int (-3)), [])), (39, 1, (1, 0, 2, (.int 0), [])), (40, 3, (7, 29, 0, (.int 0), [(2, 3)])), (43, 3, (30, 41, 2, (.int 0), [(2, 31)])), (46, 1, (1, 0, 2, (.int 0), [])), (47, 3, (7, 32, 0, (.int 0), [(2, 4)]))]
def ck_Cur_has_1 : List (Nat × Nat × zx_I) := [(50, 3, (21, 57, 1, (.int 0), [])), (53, 1, (0, 0, 0, (.int 1), [])), (54, 3, (6, 58, 0, (.int 0), [])), (57, 1, (0, 0, 0, (.int 0), [])), (58, 1, (40, 0, 4, (.int 0), []))]
abbrev ck_Cur_has : zx_K := [(48, ck_Cur_has_0), (59, ck_Cur_has_1)]
def ck_Cur_expectByte_0 : List (Nat × Nat × zx_I) := [(0, 1, (1, 0, 2, (.int 0), [])), (1, 1, (1, 1, 0, (.int 0), [])), (2, 1, (1, 1, 0, (.int 0), [])), (3, 3, (30, 45, 2, (.int 0), [(2, 36)])), (6, 1, (40, 0, 0, (.int 0), []))]
abbrev ck_Cur_expectByte : zx_K := [(7, ck_Cur_expectByte_0)]
def ck_Cur_expectWithin_0 : List (Nat × Nat × zx_I) := [(0, 1, (1, 0, 2, (.int 0), [])), (1, 1, (0, 0, 0, (.int 1), [])), (2, 3, (30, 48, 1, (.int 0), [(2, 34)])), (5, 3, (21, 9, 1, (.int 0), [])), (8, 1, (40, 0, 0, (.int 0), [])), (9, 1, (1, 0, 2, (.int 0), [])), (10, 3, (7, 9, 0, (.int 0), [(2, 0)])), (13, 1, (1, 0, 2, (.int 0), [])), (14, 3, (7, 29, 0, (.int 0), [(2, 3)])), (17, 1, (9, 0, 0, (.int 0), [])), (18, 1, (1, 1, 0, (.int 0), [])), (19, 3, (20, 35, 2, (.int 0), [])), (22, 1, (1, 0, 2, (.int 0), [])), (23, 3, (7, 9, 0, (.int 0), [(2, 0)])), (26, 1, (1, 0, 2, (.int 0), [])), (27, 3, (7, 29, 0, (.int 0), [(2, 3)])), (30, 1, (9, 0, 0, (.int 0), [])), (31, 1, (1, 2, 0, (.int 0), [])), (32, 3, (20, 46, 5, (.int 0), [])), (35, 1, (1, 0, 2, (.int 0), [])), (36, 2, (0, 0, 1, (.int (-3)), [])), (38, 1, (1, 0, 2, (.int 0), [])), (39, 3, (7, 29, 0, (.int 0), [(2, 3)])), (42, 3, (30, 41, 2, (.int 0), [(2, 31)]))]
def ck_Cur_expectWithin_1 : List (Nat × Nat × zx_I) := [(45, 1, (40, 0, 0, (.int 0), [])), (46, 1, (1, 0, 2, (.int 0), [])), (47, 1, (12, 0, 0, (.int 0), [])), (48, 3, (7, 29, 0, (.int 0), [(2, 3)])), (51, 1, (0, 0, 0, (.int 1), [])), (52, 1, (4, 0, 0, (.int 0), [])), (53, 3, (8, 29, 0, (.int 0), [(2, 3)])), (56, 1, (40, 0, 0, (.int 0), []))]
abbrev ck_Cur_expectWithin : zx_K := [(43, ck_Cur_expectWithin_0), (57, ck_Cur_expectWithin_1)]
def ck_Cur_expectFilling_0 : List (Nat × Nat × zx_I) := [(0, 1, (0, 0, 0, (.int 0), [])), (1, 1, (2, 2, 0, (.int 0), [])), (2, 1, (1, 2, 0, (.int 0), [])), (3, 1, (0, 0, 0, (.int 3), [])), (4, 3, (20, 29, 3, (.int 0), [])), (7, 1, (1, 0, 2, (.int 0), [])), (8, 3, (7, 29, 0, (.int 0), [(2, 3)])), (11, 1, (1, 1, 0, (.int 0), [])), (12, 1, (4, 0, 1, (.int 0), [])), (13, 1, (0, 0, 0, (.int 4), [])), (14, 1, (4, 0, 4, (.int 0), [])), (15, 3, (21, 29, 0, (.int 0), [])), (18, 1, (1, 0, 2, (.int 0), [])), (19, 1, (0, 0, 0, (.int 0), [])), (20, 3, (30, 52, 1, (.int 0), [(2, 35)])), (23, 3, (3, 2, 0, (.int 1), [])), (26, 3, (6, 2, 0, (.int 0), [])), (29, 1, (40, 0, 0, (.int 0), []))]
abbrev ck_Cur_expectFilling : zx_K := [(30, ck_Cur_expectFilling_0)]
def ck_Cur_lowFirst_0 : List (Nat × Nat × zx_I) := [(0, 1, (0, 0, 3, (.long 0), [])), (1, 1, (2, 3, 1, (.int 0), [])), (2, 1, (1, 2, 0, (.int 0), [])), (3, 1, (0, 0, 0, (.int 1), [])), (4, 1, (4, 0, 1, (.int 0), [])), (5, 2, (2, 5, 0, (.int 0), [])), (7, 2, (1, 5, 0, (.int 0), [])), (9, 3, (21, 34, 2, (.int 0), [])), (12, 1, (1, 3, 1, (.int 0), [])), (13, 2, (0, 0, 1, (.int 8), [])), (15, 1, (4, 0, 17, (.int 0), [])), (16, 1, (1, 0, 2, (.int 0), [])), (17, 3, (7, 9, 0, (.int 0), [(2, 0)])), (20, 1, (1, 1, 0, (.int 0), [])), (21, 2, (1, 5, 0, (.int 0), [])), (23, 1, (4, 0, 0, (.int 0), [])), (24, 1, (9, 0, 0, (.int 0), [])), (25, 1, (5, 0, 0, (.int 0), [])), (26, 1, (4, 0, 10, (.int 0), [])), (27, 1, (2, 3, 1, (.int 0), [])), (28, 3, (3, 5, 0, (.int (-1)), [])), (31, 3, (6, 7, 0, (.int 0), [])), (34, 1, (1, 3, 1, (.int 0), [])), (35, 1, (40, 0, 2, (.int 0), []))]
abbrev ck_Cur_lowFirst : zx_K := [(36, ck_Cur_lowFirst_0)]
def ck_Cur_expectSum_0 : List (Nat × Nat × zx_I) := [(0, 1, (1, 0, 2, (.int 0), [])), (1, 1, (1, 1, 0, (.int 0), [])), (2, 3, (30, 48, 1, (.int 0), [(2, 34)])), (5, 3, (21, 9, 1, (.int 0), [])), (8, 1, (40, 0, 0, (.int 0), [])), (9, 1, (1, 0, 2, (.int 0), [])), (10, 1, (1, 0, 2, (.int 0), [])), (11, 3, (7, 29, 0, (.int 0), [(2, 3)])), (14, 1, (1, 1, 0, (.int 0), [])), (15, 3, (30, 56, 2, (.int 0), [(2, 38)])), (18, 1, (1, 2, 1, (.int 0), [])), (19, 4, (22, 34, 0, (.int 0), [])), (23, 1, (1, 0, 2, (.int 0), [])), (24, 2, (0, 0, 1, (.int (-4)), [])), (26, 1, (1, 0, 2, (.int 0), [])), (27, 3, (7, 29, 0, (.int 0), [(2, 3)])), (30, 3, (30, 41, 2, (.int 0), [(2, 31)])), (33, 1, (40, 0, 0, (.int 0), [])), (34, 1, (1, 0, 2, (.int 0), [])), (35, 1, (12, 0, 0, (.int 0), [])), (36, 3, (7, 29, 0, (.int 0), [(2, 3)])), (39, 1, (1, 1, 0, (.int 0), [])), (40, 1, (4, 0, 0, (.int 0), [])), (41, 3, (8, 29, 0, (.int 0), [(2, 3)]))]
def ck_Cur_expectSum_1 : List (Nat × Nat × zx_I) := [(44, 1, (40, 0, 0, (.int 0), []))]
abbrev ck_Cur_expectSum : zx_K := [(42, ck_Cur_expectSum_0), (45, ck_Cur_expectSum_1)]
def ck_Cur_readTwo_0 : List (Nat × Nat × zx_I) := [(0, 1, (1, 0, 2, (.int 0), [])), (1, 1, (0, 0, 0, (.int 2), [])), (2, 3, (30, 48, 1, (.int 0), [(2, 34)])), (5, 3, (21, 10, 1, (.int 0), [])), (8, 1, (0, 0, 0, (.int 0), [])), (9, 1, (40, 0, 1, (.int 0), [])), (10, 1, (1, 0, 2, (.int 0), [])), (11, 1, (12, 0, 0, (.int 0), [])), (12, 3, (7, 29, 0, (.int 0), [(2, 3)])), (15, 1, (0, 0, 0, (.int 2), [])), (16, 1, (4, 0, 0, (.int 0), [])), (17, 3, (8, 29, 0, (.int 0), [(2, 3)])), (20, 1, (1, 0, 2, (.int 0), [])), (21, 3, (7, 9, 0, (.int 0), [(2, 0)])), (24, 1, (1, 0, 2, (.int 0), [])), (25, 3, (7, 29, 0, (.int 0), [(2, 3)])), (28, 1, (0, 0, 0, (.int 2), [])), (29, 1, (4, 0, 1, (.int 0), [])), (30, 1, (9, 0, 0, (.int 0), [])), (31, 3, (0, 0, 2, (.int 256), [])), (34, 1, (4, 0, 2, (.int 0), [])), (35, 1, (1, 0, 2, (.int 0), [])), (36, 3, (7, 9, 0, (.int 0), [(2, 0)])), (39, 1, (1, 0, 2, (.int 0), []))]
def ck_Cur_readTwo_1 : List (Nat × Nat × zx_I) := [(40, 3, (7, 29, 0, (.int 0), [(2, 3)])), (43, 1, (0, 0, 0, (.int 1), [])), (44, 1, (4, 0, 1, (.int 0), [])), (45, 1, (9, 0, 0, (.int 0), [])), (46, 1, (4, 0, 0, (.int 0), [])), (47, 1, (40, 0, 1, (.int 0), []))]
abbrev ck_Cur_readTwo : zx_K := [(40, ck_Cur_readTwo_0), (48, ck_Cur_readTwo_1)]
def ck_Cur_readNumber_0 : List (Nat × Nat × zx_I) := [(0, 1, (0, 0, 3, (.long 0), [])), (1, 1, (2, 1, 1, (.int 0), [])), (2, 1, (0, 0, 0, (.int 0), [])), (3, 1, (2, 3, 0, (.int 0), [])), (4, 1, (1, 3, 0, (.int 0), [])), (5, 2, (0, 0, 1, (.int 9), [])), (7, 3, (20, 87, 3, (.int 0), [])), (10, 1, (1, 0, 2, (.int 0), [])), (11, 1, (1, 3, 0, (.int 0), [])), (12, 1, (0, 0, 0, (.int 1), [])), (13, 1, (4, 0, 0, (.int 0), [])), (14, 3, (30, 48, 1, (.int 0), [(2, 34)])), (17, 3, (21, 87, 0, (.int 0), [])), (20, 1, (1, 0, 2, (.int 0), [])), (21, 3, (7, 9, 0, (.int 0), [(2, 0)])), (24, 1, (1, 0, 2, (.int 0), [])), (25, 3, (7, 29, 0, (.int 0), [(2, 3)])), (28, 1, (1, 3, 0, (.int 0), [])), (29, 1, (4, 0, 0, (.int 0), [])), (30, 1, (9, 0, 0, (.int 0), [])), (31, 2, (2, 4, 0, (.int 0), [])), (33, 1, (1, 1, 1, (.int 0), [])), (34, 2, (1, 4, 0, (.int 0), [])), (36, 2, (0, 0, 1, (.int 127), []))]
def ck_Cur_readNumber_1 : List (Nat × Nat × zx_I) := [(38, 1, (4, 0, 5, (.int 0), [])), (39, 1, (5, 0, 0, (.int 0), [])), (40, 2, (0, 0, 1, (.int 7), [])), (42, 1, (1, 3, 0, (.int 0), [])), (43, 1, (4, 0, 2, (.int 0), [])), (44, 1, (4, 0, 17, (.int 0), [])), (45, 1, (4, 0, 15, (.int 0), [])), (46, 1, (2, 1, 1, (.int 0), [])), (47, 2, (1, 4, 0, (.int 0), [])), (49, 3, (21, 59, 1, (.int 0), [])), (52, 1, (1, 3, 0, (.int 0), [])), (53, 3, (21, 59, 5, (.int 0), [])), (56, 3, (6, 87, 0, (.int 0), [])), (59, 2, (1, 4, 0, (.int 0), [])), (61, 3, (0, 0, 2, (.int 128), [])), (64, 3, (20, 81, 3, (.int 0), [])), (67, 1, (1, 0, 2, (.int 0), [])), (68, 1, (12, 0, 0, (.int 0), [])), (69, 3, (7, 29, 0, (.int 0), [(2, 3)])), (72, 1, (1, 3, 0, (.int 0), [])), (73, 1, (0, 0, 0, (.int 1), [])), (74, 1, (4, 0, 0, (.int 0), [])), (75, 1, (4, 0, 0, (.int 0), [])), (76, 3, (8, 29, 0, (.int 0), [(2, 3)]))]
def ck_Cur_readNumber_2 : List (Nat × Nat × zx_I) := [(79, 1, (1, 1, 1, (.int 0), [])), (80, 1, (40, 0, 2, (.int 0), [])), (81, 3, (3, 3, 0, (.int 1), [])), (84, 3, (6, 4, 0, (.int 0), [])), (87, 1, (1, 0, 2, (.int 0), [])), (88, 2, (0, 0, 1, (.int (-3)), [])), (90, 1, (1, 0, 2, (.int 0), [])), (91, 3, (7, 29, 0, (.int 0), [(2, 3)])), (94, 3, (30, 41, 2, (.int 0), [(2, 31)])), (97, 3, (0, 60, 5, (.long (-1)), [])), (100, 1, (40, 0, 2, (.int 0), []))]
abbrev ck_Cur_readNumber : zx_K := [(37, ck_Cur_readNumber_0), (77, ck_Cur_readNumber_1), (101, ck_Cur_readNumber_2)]
def ck_Cur_expectNumber_0 : List (Nat × Nat × zx_I) := [(0, 1, (1, 0, 2, (.int 0), [])), (1, 3, (7, 29, 0, (.int 0), [(2, 3)])), (4, 1, (2, 3, 0, (.int 0), [])), (5, 1, (1, 0, 2, (.int 0), [])), (6, 3, (30, 62, 0, (.int 0), [(2, 41)])), (9, 1, (1, 1, 1, (.int 0), [])), (10, 4, (22, 21, 0, (.int 0), [])), (14, 1, (1, 0, 2, (.int 0), [])), (15, 2, (0, 0, 1, (.int (-3)), [])), (17, 1, (1, 3, 0, (.int 0), [])), (18, 3, (30, 41, 2, (.int 0), [(2, 31)])), (21, 1, (40, 0, 0, (.int 0), []))]
abbrev ck_Cur_expectNumber : zx_K := [(22, ck_Cur_expectNumber_0)]
def ck_Src_forget_0 : List (Nat × Nat × zx_I) := [(0, 1, (1, 0, 2, (.int 0), [])), (1, 1, (0, 0, 0, (.int 0), [])), (2, 3, (8, 24, 0, (.int 0), [(3, 8)])), (5, 1, (1, 0, 2, (.int 0), [])), (6, 3, (0, 9, 5, (.long (-1)), [])), (9, 3, (8, 11, 0, (.int 0), [(3, 10)])), (12, 1, (1, 0, 2, (.int 0), [])), (13, 3, (0, 9, 5, (.long (-1)), [])), (16, 3, (8, 17, 0, (.int 0), [(3, 11)])), (19, 1, (40, 0, 0, (.int 0), []))]
abbrev ck_Src_forget : zx_K := [(20, ck_Src_forget_0)]
def ck_Src_begin_0 : List (Nat × Nat × zx_I) := [(0, 1, (1, 0, 2, (.int 0), [])), (1, 1, (1, 1, 2, (.int 0), [])), (2, 3, (8, 20, 0, (.int 0), [(3, 3)])), (5, 1, (1, 0, 2, (.int 0), [])), (6, 1, (1, 2, 0, (.int 0), [])), (7, 1, (0, 0, 0, (.int 5), [])), (8, 1, (4, 0, 0, (.int 0), [])), (9, 3, (8, 28, 0, (.int 0), [(3, 4)])), (12, 1, (1, 0, 2, (.int 0), [])), (13, 1, (1, 3, 0, (.int 0), [])), (14, 3, (8, 31, 0, (.int 0), [(3, 5)])), (17, 1, (1, 0, 2, (.int 0), [])), (18, 3, (0, 34, 5, (.long 4294967295), [])), (21, 3, (8, 36, 0, (.int 0), [(3, 1)])), (24, 1, (1, 0, 2, (.int 0), [])), (25, 1, (0, 0, 3, (.long 0), [])), (26, 3, (8, 39, 0, (.int 0), [(3, 6)])), (29, 1, (1, 0, 2, (.int 0), [])), (30, 1, (1, 3, 0, (.int 0), [])), (31, 1, (1, 2, 0, (.int 0), [])), (32, 1, (4, 0, 1, (.int 0), [])), (33, 1, (0, 0, 0, (.int 5), [])), (34, 3, (20, 43, 2, (.int 0), [])), (37, 1, (1, 1, 2, (.int 0), []))]
def ck_Src_begin_1 : List (Nat × Nat × zx_I) := [(38, 1, (1, 2, 0, (.int 0), [])), (39, 1, (9, 0, 0, (.int 0), [])), (40, 3, (21, 47, 0, (.int 0), [])), (43, 1, (0, 0, 0, (.int 1), [])), (44, 3, (6, 48, 0, (.int 0), [])), (47, 1, (0, 0, 0, (.int 0), [])), (48, 3, (8, 42, 0, (.int 0), [(3, 2)])), (51, 1, (0, 0, 0, (.int 1), [])), (52, 2, (2, 4, 0, (.int 0), [])), (54, 2, (1, 4, 0, (.int 0), [])), (56, 1, (0, 0, 0, (.int 5), [])), (57, 3, (20, 92, 3, (.int 0), [])), (60, 1, (1, 0, 2, (.int 0), [])), (61, 3, (7, 42, 0, (.int 0), [(3, 2)])), (64, 3, (21, 92, 1, (.int 0), [])), (67, 1, (1, 0, 2, (.int 0), [])), (68, 1, (1, 0, 2, (.int 0), [])), (69, 3, (7, 39, 0, (.int 0), [(3, 6)])), (72, 2, (0, 0, 1, (.int 8), [])), (74, 1, (4, 0, 17, (.int 0), [])), (75, 1, (1, 1, 2, (.int 0), [])), (76, 1, (1, 2, 0, (.int 0), [])), (77, 2, (1, 4, 0, (.int 0), [])), (79, 1, (4, 0, 0, (.int 0), []))]
def ck_Src_begin_2 : List (Nat × Nat × zx_I) := [(80, 1, (9, 0, 0, (.int 0), [])), (81, 1, (5, 0, 0, (.int 0), [])), (82, 1, (4, 0, 10, (.int 0), [])), (83, 3, (8, 39, 0, (.int 0), [(3, 6)])), (86, 3, (3, 4, 0, (.int 1), [])), (89, 3, (6, 54, 0, (.int 0), [])), (92, 1, (1, 0, 2, (.int 0), [])), (93, 1, (1, 0, 2, (.int 0), [])), (94, 3, (7, 39, 0, (.int 0), [(3, 6)])), (97, 1, (1, 0, 2, (.int 0), [])), (98, 3, (7, 36, 0, (.int 0), [(3, 1)])), (101, 4, (22, 109, 2, (.int 0), [])), (105, 1, (0, 0, 0, (.int 1), [])), (106, 3, (6, 110, 0, (.int 0), [])), (109, 1, (0, 0, 0, (.int 0), [])), (110, 3, (8, 46, 0, (.int 0), [(3, 7)])), (113, 1, (40, 0, 0, (.int 0), []))]
abbrev ck_Src_begin : zx_K := [(38, ck_Src_begin_0), (80, ck_Src_begin_1), (114, ck_Src_begin_2)]
def ck_Src_shift_0 : List (Nat × Nat × zx_I) := [(0, 1, (1, 0, 2, (.int 0), [])), (1, 3, (7, 42, 0, (.int 0), [(3, 2)])), (4, 3, (21, 18, 1, (.int 0), [])), (7, 1, (1, 0, 2, (.int 0), [])), (8, 3, (7, 36, 0, (.int 0), [(3, 1)])), (11, 3, (0, 49, 5, (.long 16777216), [])), (14, 4, (22, 19, 2, (.int 0), [])), (18, 1, (40, 0, 0, (.int 0), [])), (19, 1, (1, 0, 2, (.int 0), [])), (20, 3, (7, 28, 0, (.int 0), [(3, 4)])), (23, 1, (1, 0, 2, (.int 0), [])), (24, 3, (7, 31, 0, (.int 0), [(3, 5)])), (27, 3, (20, 36, 2, (.int 0), [])), (30, 1, (1, 0, 2, (.int 0), [])), (31, 1, (0, 0, 0, (.int 1), [])), (32, 3, (8, 42, 0, (.int 0), [(3, 2)])), (35, 1, (40, 0, 0, (.int 0), [])), (36, 1, (1, 0, 2, (.int 0), [])), (37, 1, (12, 0, 0, (.int 0), [])), (38, 3, (7, 36, 0, (.int 0), [(3, 1)])), (41, 2, (0, 0, 1, (.int 8), [])), (43, 1, (4, 0, 17, (.int 0), [])), (44, 3, (8, 36, 0, (.int 0), [(3, 1)])), (47, 1, (1, 0, 2, (.int 0), []))]
def ck_Src_shift_1 : List (Nat × Nat × zx_I) := [(48, 1, (1, 0, 2, (.int 0), [])), (49, 3, (7, 39, 0, (.int 0), [(3, 6)])), (52, 2, (0, 0, 1, (.int 8), [])), (54, 1, (4, 0, 17, (.int 0), [])), (55, 1, (1, 0, 2, (.int 0), [])), (56, 3, (7, 20, 0, (.int 0), [(3, 3)])), (59, 1, (1, 0, 2, (.int 0), [])), (60, 3, (7, 28, 0, (.int 0), [(3, 4)])), (63, 1, (9, 0, 0, (.int 0), [])), (64, 1, (5, 0, 0, (.int 0), [])), (65, 1, (4, 0, 10, (.int 0), [])), (66, 3, (8, 39, 0, (.int 0), [(3, 6)])), (69, 1, (1, 0, 2, (.int 0), [])), (70, 1, (12, 0, 0, (.int 0), [])), (71, 3, (7, 28, 0, (.int 0), [(3, 4)])), (74, 1, (0, 0, 0, (.int 1), [])), (75, 1, (4, 0, 0, (.int 0), [])), (76, 3, (8, 28, 0, (.int 0), [(3, 4)])), (79, 1, (40, 0, 0, (.int 0), []))]
abbrev ck_Src_shift : zx_K := [(48, ck_Src_shift_0), (80, ck_Src_shift_1)]
def ck_Src_codeBit_0 : List (Nat × Nat × zx_I) := [(0, 1, (1, 0, 2, (.int 0), [])), (1, 3, (30, 51, 0, (.int 0), [(3, 45)])), (4, 1, (1, 0, 2, (.int 0), [])), (5, 3, (7, 42, 0, (.int 0), [(3, 2)])), (8, 3, (21, 13, 0, (.int 0), [])), (11, 1, (0, 0, 0, (.int 0), [])), (12, 1, (40, 0, 1, (.int 0), [])), (13, 1, (1, 0, 2, (.int 0), [])), (14, 3, (7, 36, 0, (.int 0), [(3, 1)])), (17, 2, (0, 0, 1, (.int 11), [])), (19, 1, (4, 0, 19, (.int 0), [])), (20, 1, (1, 0, 2, (.int 0), [])), (21, 3, (7, 55, 0, (.int 0), [(3, 0)])), (24, 1, (1, 1, 0, (.int 0), [])), (25, 1, (9, 0, 0, (.int 0), [])), (26, 1, (5, 0, 0, (.int 0), [])), (27, 1, (4, 0, 12, (.int 0), [])), (28, 1, (2, 3, 1, (.int 0), [])), (29, 1, (1, 0, 2, (.int 0), [])), (30, 3, (7, 46, 0, (.int 0), [(3, 7)])), (33, 3, (21, 45, 1, (.int 0), [])), (36, 1, (1, 0, 2, (.int 0), [])), (37, 3, (7, 39, 0, (.int 0), [(3, 6)])), (40, 1, (1, 3, 1, (.int 0), []))]
def ck_Src_codeBit_1 : List (Nat × Nat × zx_I) := [(41, 4, (22, 49, 2, (.int 0), [])), (45, 1, (0, 0, 0, (.int 1), [])), (46, 3, (6, 50, 0, (.int 0), [])), (49, 1, (0, 0, 0, (.int 0), [])), (50, 2, (2, 5, 0, (.int 0), [])), (52, 2, (1, 5, 0, (.int 0), [])), (54, 3, (21, 65, 1, (.int 0), [])), (57, 1, (1, 0, 2, (.int 0), [])), (58, 1, (1, 3, 1, (.int 0), [])), (59, 3, (8, 36, 0, (.int 0), [(3, 1)])), (62, 3, (6, 85, 0, (.int 0), [])), (65, 1, (1, 0, 2, (.int 0), [])), (66, 1, (12, 0, 0, (.int 0), [])), (67, 3, (7, 36, 0, (.int 0), [(3, 1)])), (70, 1, (1, 3, 1, (.int 0), [])), (71, 1, (4, 0, 11, (.int 0), [])), (72, 3, (8, 36, 0, (.int 0), [(3, 1)])), (75, 1, (1, 0, 2, (.int 0), [])), (76, 1, (12, 0, 0, (.int 0), [])), (77, 3, (7, 39, 0, (.int 0), [(3, 6)])), (80, 1, (1, 3, 1, (.int 0), [])), (81, 1, (4, 0, 11, (.int 0), [])), (82, 3, (8, 39, 0, (.int 0), [(3, 6)])), (85, 1, (1, 0, 2, (.int 0), []))]
def ck_Src_codeBit_2 : List (Nat × Nat × zx_I) := [(86, 1, (1, 1, 0, (.int 0), [])), (87, 2, (1, 5, 0, (.int 0), [])), (89, 3, (30, 58, 2, (.int 0), [(3, 180)])), (92, 1, (1, 0, 2, (.int 0), [])), (93, 3, (30, 62, 0, (.int 0), [(3, 48)])), (96, 2, (1, 5, 0, (.int 0), [])), (98, 1, (40, 0, 1, (.int 0), []))]
abbrev ck_Src_codeBit : zx_K := [(41, ck_Src_codeBit_0), (86, ck_Src_codeBit_1), (99, ck_Src_codeBit_2)]
def ck_Src_codeEvenBit_0 : List (Nat × Nat × zx_I) := [(0, 1, (1, 0, 2, (.int 0), [])), (1, 3, (30, 51, 0, (.int 0), [(3, 45)])), (4, 1, (1, 0, 2, (.int 0), [])), (5, 3, (7, 42, 0, (.int 0), [(3, 2)])), (8, 3, (21, 13, 0, (.int 0), [])), (11, 1, (0, 0, 0, (.int 0), [])), (12, 1, (40, 0, 1, (.int 0), [])), (13, 1, (1, 0, 2, (.int 0), [])), (14, 1, (12, 0, 0, (.int 0), [])), (15, 3, (7, 36, 0, (.int 0), [(3, 1)])), (18, 1, (0, 0, 0, (.int 1), [])), (19, 1, (4, 0, 19, (.int 0), [])), (20, 3, (8, 36, 0, (.int 0), [(3, 1)])), (23, 1, (1, 0, 2, (.int 0), [])), (24, 3, (7, 46, 0, (.int 0), [(3, 7)])), (27, 3, (21, 42, 1, (.int 0), [])), (30, 1, (1, 0, 2, (.int 0), [])), (31, 3, (7, 39, 0, (.int 0), [(3, 6)])), (34, 1, (1, 0, 2, (.int 0), [])), (35, 3, (7, 36, 0, (.int 0), [(3, 1)])), (38, 4, (22, 46, 2, (.int 0), [])), (42, 1, (0, 0, 0, (.int 1), [])), (43, 3, (6, 47, 0, (.int 0), [])), (46, 1, (0, 0, 0, (.int 0), []))]
def ck_Src_codeEvenBit_1 : List (Nat × Nat × zx_I) := [(47, 1, (2, 2, 0, (.int 0), [])), (48, 1, (1, 2, 0, (.int 0), [])), (49, 1, (0, 0, 0, (.int 1), [])), (50, 3, (20, 66, 1, (.int 0), [])), (53, 1, (1, 0, 2, (.int 0), [])), (54, 1, (12, 0, 0, (.int 0), [])), (55, 3, (7, 39, 0, (.int 0), [(3, 6)])), (58, 1, (1, 0, 2, (.int 0), [])), (59, 3, (7, 36, 0, (.int 0), [(3, 1)])), (62, 1, (4, 0, 11, (.int 0), [])), (63, 3, (8, 39, 0, (.int 0), [(3, 6)])), (66, 1, (1, 0, 2, (.int 0), [])), (67, 1, (1, 0, 2, (.int 0), [])), (68, 3, (7, 46, 0, (.int 0), [(3, 7)])), (71, 3, (21, 86, 1, (.int 0), [])), (74, 1, (1, 0, 2, (.int 0), [])), (75, 3, (7, 39, 0, (.int 0), [(3, 6)])), (78, 1, (1, 0, 2, (.int 0), [])), (79, 3, (7, 36, 0, (.int 0), [(3, 1)])), (82, 4, (22, 90, 2, (.int 0), [])), (86, 1, (0, 0, 0, (.int 1), [])), (87, 3, (6, 91, 0, (.int 0), [])), (90, 1, (0, 0, 0, (.int 0), [])), (91, 3, (8, 46, 0, (.int 0), [(3, 7)]))]
def ck_Src_codeEvenBit_2 : List (Nat × Nat × zx_I) := [(94, 1, (1, 0, 2, (.int 0), [])), (95, 3, (30, 62, 0, (.int 0), [(3, 48)])), (98, 1, (1, 2, 0, (.int 0), [])), (99, 1, (40, 0, 1, (.int 0), []))]
abbrev ck_Src_codeEvenBit : zx_K := [(47, ck_Src_codeEvenBit_0), (92, ck_Src_codeEvenBit_1), (100, ck_Src_codeEvenBit_2)]
def ck_Src_keep_0 : List (Nat × Nat × zx_I) := [(0, 1, (1, 0, 2, (.int 0), [])), (1, 1, (12, 0, 0, (.int 0), [])), (2, 3, (7, 24, 0, (.int 0), [(3, 8)])), (5, 1, (0, 0, 0, (.int 1), [])), (6, 1, (4, 0, 0, (.int 0), [])), (7, 3, (8, 24, 0, (.int 0), [(3, 8)])), (10, 1, (1, 0, 2, (.int 0), [])), (11, 3, (7, 24, 0, (.int 0), [(3, 8)])), (14, 1, (1, 0, 2, (.int 0), [])), (15, 3, (7, 65, 0, (.int 0), [(3, 9)])), (18, 3, (20, 37, 1, (.int 0), [])), (21, 1, (1, 0, 2, (.int 0), [])), (22, 1, (1, 0, 2, (.int 0), [])), (23, 3, (7, 36, 0, (.int 0), [(3, 1)])), (26, 3, (8, 11, 0, (.int 0), [(3, 10)])), (29, 1, (1, 0, 2, (.int 0), [])), (30, 1, (1, 0, 2, (.int 0), [])), (31, 3, (7, 39, 0, (.int 0), [(3, 6)])), (34, 3, (8, 17, 0, (.int 0), [(3, 11)])), (37, 1, (40, 0, 0, (.int 0), []))]
abbrev ck_Src_keep : zx_K := [(38, ck_Src_keep_0)]
def ck_Src_endsWell_0 : List (Nat × Nat × zx_I) := [(0, 1, (1, 0, 2, (.int 0), [])), (1, 3, (30, 51, 0, (.int 0), [(3, 45)])), (4, 1, (1, 0, 2, (.int 0), [])), (5, 3, (7, 42, 0, (.int 0), [(3, 2)])), (8, 3, (21, 42, 1, (.int 0), [])), (11, 1, (1, 0, 2, (.int 0), [])), (12, 3, (7, 46, 0, (.int 0), [(3, 7)])), (15, 3, (21, 42, 1, (.int 0), [])), (18, 1, (1, 0, 2, (.int 0), [])), (19, 3, (7, 39, 0, (.int 0), [(3, 6)])), (22, 1, (0, 0, 3, (.long 0), [])), (23, 4, (22, 42, 1, (.int 0), [])), (27, 1, (1, 0, 2, (.int 0), [])), (28, 3, (7, 28, 0, (.int 0), [(3, 4)])), (31, 1, (1, 0, 2, (.int 0), [])), (32, 3, (7, 31, 0, (.int 0), [(3, 5)])), (35, 3, (20, 42, 1, (.int 0), [])), (38, 1, (0, 0, 0, (.int 1), [])), (39, 3, (6, 43, 0, (.int 0), [])), (42, 1, (0, 0, 0, (.int 0), [])), (43, 1, (40, 0, 4, (.int 0), []))]
abbrev ck_Src_endsWell : zx_K := [(44, ck_Src_endsWell_0)]
def ck_Snk_begin_0 : List (Nat × Nat × zx_I) := [(0, 1, (1, 0, 2, (.int 0), [])), (1, 1, (1, 1, 0, (.int 0), [])), (2, 1, (1, 0, 2, (.int 0), [])), (3, 3, (7, 9, 0, (.int 0), [(4, 3)])), (6, 1, (11, 0, 0, (.int 0), [])), (7, 3, (15, 15, 0, (.int 0), [])), (10, 3, (8, 21, 0, (.int 0), [(4, 5)])), (13, 1, (1, 0, 2, (.int 0), [])), (14, 1, (1, 0, 2, (.int 0), [])), (15, 3, (7, 21, 0, (.int 0), [(4, 5)])), (18, 1, (0, 0, 0, (.int 5), [])), (19, 3, (20, 26, 3, (.int 0), [])), (22, 1, (0, 0, 0, (.int 1), [])), (23, 3, (6, 27, 0, (.int 0), [])), (26, 1, (0, 0, 0, (.int 0), [])), (27, 3, (8, 25, 0, (.int 0), [(4, 2)])), (30, 1, (1, 0, 2, (.int 0), [])), (31, 1, (0, 0, 0, (.int 5), [])), (32, 3, (8, 29, 0, (.int 0), [(4, 4)])), (35, 1, (1, 0, 2, (.int 0), [])), (36, 3, (0, 32, 5, (.long 4294967295), [])), (39, 3, (8, 34, 0, (.int 0), [(4, 1)])), (42, 1, (1, 0, 2, (.int 0), [])), (43, 3, (7, 9, 0, (.int 0), [(4, 3)]))]
def ck_Snk_begin_1 : List (Nat × Nat × zx_I) := [(46, 1, (0, 0, 0, (.int 0), [])), (47, 3, (31, 38, 2, (.int 0), [(0, 183)])), (50, 1, (40, 0, 0, (.int 0), []))]
abbrev ck_Snk_begin : zx_K := [(44, ck_Snk_begin_0), (51, ck_Snk_begin_1)]
def ck_Snk_shift_0 : List (Nat × Nat × zx_I) := [(0, 1, (1, 0, 2, (.int 0), [])), (1, 3, (7, 25, 0, (.int 0), [(4, 2)])), (4, 3, (21, 18, 1, (.int 0), [])), (7, 1, (1, 0, 2, (.int 0), [])), (8, 3, (7, 34, 0, (.int 0), [(4, 1)])), (11, 3, (0, 44, 5, (.long 16777216), [])), (14, 4, (22, 19, 2, (.int 0), [])), (18, 1, (40, 0, 0, (.int 0), [])), (19, 1, (1, 0, 2, (.int 0), [])), (20, 3, (7, 29, 0, (.int 0), [(4, 4)])), (23, 1, (1, 0, 2, (.int 0), [])), (24, 3, (7, 21, 0, (.int 0), [(4, 5)])), (27, 3, (20, 36, 2, (.int 0), [])), (30, 1, (1, 0, 2, (.int 0), [])), (31, 1, (0, 0, 0, (.int 1), [])), (32, 3, (8, 25, 0, (.int 0), [(4, 2)])), (35, 1, (40, 0, 0, (.int 0), [])), (36, 1, (1, 0, 2, (.int 0), [])), (37, 1, (12, 0, 0, (.int 0), [])), (38, 3, (7, 34, 0, (.int 0), [(4, 1)])), (41, 2, (0, 0, 1, (.int 8), [])), (43, 1, (4, 0, 17, (.int 0), [])), (44, 3, (8, 34, 0, (.int 0), [(4, 1)])), (47, 1, (1, 0, 2, (.int 0), []))]
def ck_Snk_shift_1 : List (Nat × Nat × zx_I) := [(48, 1, (12, 0, 0, (.int 0), [])), (49, 3, (7, 29, 0, (.int 0), [(4, 4)])), (52, 1, (0, 0, 0, (.int 1), [])), (53, 1, (4, 0, 0, (.int 0), [])), (54, 3, (8, 29, 0, (.int 0), [(4, 4)])), (57, 1, (40, 0, 0, (.int 0), []))]
abbrev ck_Snk_shift : zx_K := [(48, ck_Snk_shift_0), (58, ck_Snk_shift_1)]
def ck_Snk_raise_0 : List (Nat × Nat × zx_I) := [(0, 1, (1, 1, 1, (.int 0), [])), (1, 1, (2, 3, 1, (.int 0), [])), (2, 1, (1, 0, 2, (.int 0), [])), (3, 3, (7, 29, 0, (.int 0), [(4, 4)])), (6, 1, (0, 0, 0, (.int 1), [])), (7, 1, (4, 0, 1, (.int 0), [])), (8, 2, (2, 5, 0, (.int 0), [])), (10, 2, (1, 5, 0, (.int 0), [])), (12, 3, (21, 56, 2, (.int 0), [])), (15, 1, (1, 3, 1, (.int 0), [])), (16, 1, (0, 0, 3, (.long 0), [])), (17, 4, (22, 56, 0, (.int 0), [])), (21, 1, (1, 3, 1, (.int 0), [])), (22, 1, (1, 0, 2, (.int 0), [])), (23, 3, (7, 9, 0, (.int 0), [(4, 3)])), (26, 2, (1, 5, 0, (.int 0), [])), (28, 1, (9, 0, 0, (.int 0), [])), (29, 1, (5, 0, 0, (.int 0), [])), (30, 1, (4, 0, 10, (.int 0), [])), (31, 1, (2, 3, 1, (.int 0), [])), (32, 1, (1, 0, 2, (.int 0), [])), (33, 3, (7, 9, 0, (.int 0), [(4, 3)])), (36, 2, (1, 5, 0, (.int 0), [])), (38, 1, (1, 3, 1, (.int 0), []))]
def ck_Snk_raise_1 : List (Nat × Nat × zx_I) := [(39, 1, (5, 0, 1, (.int 0), [])), (40, 3, (0, 0, 2, (.int 255), [])), (43, 1, (4, 0, 5, (.int 0), [])), (44, 1, (10, 0, 0, (.int 0), [])), (45, 1, (1, 3, 1, (.int 0), [])), (46, 2, (0, 0, 1, (.int 8), [])), (48, 1, (4, 0, 19, (.int 0), [])), (49, 1, (2, 3, 1, (.int 0), [])), (50, 3, (3, 5, 0, (.int (-1)), [])), (53, 3, (6, 10, 0, (.int 0), [])), (56, 1, (40, 0, 0, (.int 0), []))]
abbrev ck_Snk_raise : zx_K := [(39, ck_Snk_raise_0), (57, ck_Snk_raise_1)]
def ck_Snk_codeBit_0 : List (Nat × Nat × zx_I) := [(0, 1, (1, 0, 2, (.int 0), [])), (1, 3, (30, 46, 0, (.int 0), [(4, 51)])), (4, 1, (1, 0, 2, (.int 0), [])), (5, 3, (7, 25, 0, (.int 0), [(4, 2)])), (8, 3, (21, 13, 0, (.int 0), [])), (11, 1, (1, 2, 0, (.int 0), [])), (12, 1, (40, 0, 1, (.int 0), [])), (13, 1, (1, 0, 2, (.int 0), [])), (14, 3, (7, 34, 0, (.int 0), [(4, 1)])), (17, 2, (0, 0, 1, (.int 11), [])), (19, 1, (4, 0, 19, (.int 0), [])), (20, 1, (1, 0, 2, (.int 0), [])), (21, 3, (7, 50, 0, (.int 0), [(4, 0)])), (24, 1, (1, 1, 0, (.int 0), [])), (25, 1, (9, 0, 0, (.int 0), [])), (26, 1, (5, 0, 0, (.int 0), [])), (27, 1, (4, 0, 12, (.int 0), [])), (28, 1, (2, 3, 1, (.int 0), [])), (29, 1, (1, 2, 0, (.int 0), [])), (30, 3, (21, 41, 1, (.int 0), [])), (33, 1, (1, 0, 2, (.int 0), [])), (34, 1, (1, 3, 1, (.int 0), [])), (35, 3, (8, 34, 0, (.int 0), [(4, 1)])), (38, 3, (6, 56, 0, (.int 0), []))]
def ck_Snk_codeBit_1 : List (Nat × Nat × zx_I) := [(41, 1, (1, 0, 2, (.int 0), [])), (42, 1, (1, 3, 1, (.int 0), [])), (43, 3, (30, 53, 1, (.int 0), [(4, 52)])), (46, 1, (1, 0, 2, (.int 0), [])), (47, 1, (12, 0, 0, (.int 0), [])), (48, 3, (7, 34, 0, (.int 0), [(4, 1)])), (51, 1, (1, 3, 1, (.int 0), [])), (52, 1, (4, 0, 11, (.int 0), [])), (53, 3, (8, 34, 0, (.int 0), [(4, 1)])), (56, 1, (1, 0, 2, (.int 0), [])), (57, 1, (1, 1, 0, (.int 0), [])), (58, 1, (1, 2, 0, (.int 0), [])), (59, 3, (30, 57, 2, (.int 0), [(4, 180)])), (62, 1, (1, 2, 0, (.int 0), [])), (63, 1, (40, 0, 1, (.int 0), []))]
abbrev ck_Snk_codeBit : zx_K := [(39, ck_Snk_codeBit_0), (64, ck_Snk_codeBit_1)]
def ck_Snk_codeEvenBit_0 : List (Nat × Nat × zx_I) := [(0, 1, (1, 0, 2, (.int 0), [])), (1, 3, (30, 46, 0, (.int 0), [(4, 51)])), (4, 1, (1, 0, 2, (.int 0), [])), (5, 3, (7, 25, 0, (.int 0), [(4, 2)])), (8, 3, (21, 13, 0, (.int 0), [])), (11, 1, (1, 1, 0, (.int 0), [])), (12, 1, (40, 0, 1, (.int 0), [])), (13, 1, (1, 0, 2, (.int 0), [])), (14, 1, (12, 0, 0, (.int 0), [])), (15, 3, (7, 34, 0, (.int 0), [(4, 1)])), (18, 1, (0, 0, 0, (.int 1), [])), (19, 1, (4, 0, 19, (.int 0), [])), (20, 3, (8, 34, 0, (.int 0), [(4, 1)])), (23, 1, (1, 1, 0, (.int 0), [])), (24, 1, (0, 0, 0, (.int 1), [])), (25, 3, (20, 36, 1, (.int 0), [])), (28, 1, (1, 0, 2, (.int 0), [])), (29, 1, (1, 0, 2, (.int 0), [])), (30, 3, (7, 34, 0, (.int 0), [(4, 1)])), (33, 3, (30, 53, 1, (.int 0), [(4, 52)])), (36, 1, (1, 1, 0, (.int 0), [])), (37, 1, (40, 0, 1, (.int 0), []))]
abbrev ck_Snk_codeEvenBit : zx_K := [(38, ck_Snk_codeEvenBit_0)]
def ck_Snk_finish_0 : List (Nat × Nat × zx_I) := [(0, 1, (1, 0, 2, (.int 0), [])), (1, 3, (30, 46, 0, (.int 0), [(4, 51)])), (4, 1, (40, 0, 0, (.int 0), []))]
abbrev ck_Snk_finish : zx_K := [(5, ck_Snk_finish_0)]
def ck_Mdl_setProperties_0 : List (Nat × Nat × zx_I) := [(0, 1, (1, 0, 2, (.int 0), [])), (1, 1, (1, 1, 0, (.int 0), [])), (2, 2, (0, 0, 1, (.int 9), [])), (4, 1, (4, 0, 4, (.int 0), [])), (5, 3, (8, 23, 0, (.int 0), [(5, 3)])), (8, 1, (1, 0, 2, (.int 0), [])), (9, 1, (1, 1, 0, (.int 0), [])), (10, 2, (0, 0, 1, (.int 9), [])), (12, 1, (4, 0, 3, (.int 0), [])), (13, 1, (0, 0, 0, (.int 5), [])), (14, 1, (4, 0, 4, (.int 0), [])), (15, 3, (8, 27, 0, (.int 0), [(5, 4)])), (18, 1, (1, 0, 2, (.int 0), [])), (19, 1, (1, 1, 0, (.int 0), [])), (20, 2, (0, 0, 1, (.int 45), [])), (22, 1, (4, 0, 3, (.int 0), [])), (23, 3, (8, 30, 0, (.int 0), [(5, 5)])), (26, 1, (40, 0, 0, (.int 0), []))]
abbrev ck_Mdl_setProperties : zx_K := [(27, ck_Mdl_setProperties_0)]
def ck_Mdl_beginAnew_0 : List (Nat × Nat × zx_I) := [(0, 1, (1, 0, 2, (.int 0), [])), (1, 3, (7, 15, 0, (.int 0), [(5, 0)])), (4, 1, (0, 0, 0, (.int 0), [])), (5, 3, (0, 0, 2, (.int 2052), [])), (8, 3, (0, 0, 2, (.int 768), [])), (11, 1, (1, 0, 2, (.int 0), [])), (12, 3, (7, 23, 0, (.int 0), [(5, 3)])), (15, 1, (1, 0, 2, (.int 0), [])), (16, 3, (7, 27, 0, (.int 0), [(5, 4)])), (19, 1, (4, 0, 0, (.int 0), [])), (20, 1, (4, 0, 7, (.int 0), [])), (21, 1, (4, 0, 0, (.int 0), [])), (22, 3, (0, 0, 2, (.int 1024), [])), (25, 3, (31, 33, 4, (.int 0), [(0, 184)])), (28, 1, (1, 0, 2, (.int 0), [])), (29, 3, (7, 9, 0, (.int 0), [(5, 1)])), (32, 1, (0, 0, 4, (.long 1), [])), (33, 3, (31, 39, 2, (.int 0), [(0, 182)])), (36, 1, (1, 0, 2, (.int 0), [])), (37, 1, (0, 0, 0, (.int 0), [])), (38, 3, (8, 42, 0, (.int 0), [(5, 2)])), (41, 1, (40, 0, 0, (.int 0), []))]
abbrev ck_Mdl_beginAnew : zx_K := [(42, ck_Mdl_beginAnew_0)]
def ck_Mdl_useLine_0 : List (Nat × Nat × zx_I) := [(0, 1, (1, 0, 2, (.int 0), [])), (1, 1, (1, 1, 2, (.int 0), [])), (2, 3, (8, 19, 0, (.int 0), [(5, 6)])), (5, 1, (40, 0, 0, (.int 0), []))]
abbrev ck_Mdl_useLine : zx_K := [(6, ck_Mdl_useLine_0)]
def ck_Mdl_distanceOf_0 : List (Nat × Nat × zx_I) := [(0, 1, (1, 0, 2, (.int 0), [])), (1, 3, (7, 9, 0, (.int 0), [(5, 1)])), (4, 1, (1, 1, 0, (.int 0), [])), (5, 1, (9, 0, 1, (.int 0), [])), (6, 1, (40, 0, 2, (.int 0), []))]
abbrev ck_Mdl_distanceOf : zx_K := [(7, ck_Mdl_distanceOf_0)]
def ck_Mdl_step_0 : List (Nat × Nat × zx_I) := [(0, 1, (1, 1, 0, (.int 0), [])), (1, 1, (0, 0, 0, (.int 1), [])), (2, 1, (1, 0, 2, (.int 0), [])), (3, 3, (7, 30, 0, (.int 0), [(5, 5)])), (6, 1, (4, 0, 7, (.int 0), [])), (7, 1, (0, 0, 0, (.int 1), [])), (8, 1, (4, 0, 1, (.int 0), [])), (9, 1, (4, 0, 5, (.int 0), [])), (10, 2, (2, 4, 0, (.int 0), [])), (12, 1, (1, 0, 2, (.int 0), [])), (13, 1, (1, 0, 2, (.int 0), [])), (14, 2, (1, 4, 0, (.int 0), [])), (16, 3, (30, 45, 1, (.int 0), [(5, 62)])), (19, 3, (8, 49, 0, (.int 0), [(5, 7)])), (22, 1, (1, 0, 2, (.int 0), [])), (23, 3, (7, 49, 0, (.int 0), [(5, 7)])), (26, 1, (0, 0, 0, (.int 1), [])), (27, 3, (20, 125, 1, (.int 0), [])), (30, 1, (1, 1, 0, (.int 0), [])), (31, 1, (0, 0, 0, (.int 1), [])), (32, 1, (1, 0, 2, (.int 0), [])), (33, 3, (7, 27, 0, (.int 0), [(5, 4)])), (36, 1, (4, 0, 7, (.int 0), [])), (37, 1, (0, 0, 0, (.int 1), []))]
def ck_Mdl_step_1 : List (Nat × Nat × zx_I) := [(38, 1, (4, 0, 1, (.int 0), [])), (39, 1, (4, 0, 5, (.int 0), [])), (40, 1, (1, 0, 2, (.int 0), [])), (41, 3, (7, 23, 0, (.int 0), [(5, 3)])), (44, 1, (4, 0, 7, (.int 0), [])), (45, 1, (1, 2, 0, (.int 0), [])), (46, 2, (0, 0, 1, (.int 8), [])), (48, 1, (1, 0, 2, (.int 0), [])), (49, 3, (7, 23, 0, (.int 0), [(5, 3)])), (52, 1, (4, 0, 1, (.int 0), [])), (53, 1, (4, 0, 9, (.int 0), [])), (54, 1, (4, 0, 0, (.int 0), [])), (55, 2, (2, 5, 0, (.int 0), [])), (57, 1, (1, 0, 2, (.int 0), [])), (58, 1, (1, 0, 2, (.int 0), [])), (59, 3, (0, 0, 2, (.int 2052), [])), (62, 3, (0, 0, 2, (.int 768), [])), (65, 2, (1, 5, 0, (.int 0), [])), (67, 1, (4, 0, 2, (.int 0), [])), (68, 1, (4, 0, 0, (.int 0), [])), (69, 1, (1, 3, 0, (.int 0), [])), (70, 3, (30, 52, 2, (.int 0), [(5, 63)])), (73, 3, (8, 56, 0, (.int 0), [(5, 8)])), (76, 1, (1, 0, 2, (.int 0), []))]
def ck_Mdl_step_2 : List (Nat × Nat × zx_I) := [(77, 1, (0, 0, 0, (.int 1), [])), (78, 3, (8, 59, 0, (.int 0), [(5, 9)])), (81, 1, (1, 0, 2, (.int 0), [])), (82, 1, (1, 0, 2, (.int 0), [])), (83, 3, (7, 42, 0, (.int 0), [(5, 2)])), (86, 1, (0, 0, 0, (.int 4), [])), (87, 3, (20, 94, 3, (.int 0), [])), (90, 1, (0, 0, 0, (.int 0), [])), (91, 3, (6, 119, 0, (.int 0), [])), (94, 1, (1, 0, 2, (.int 0), [])), (95, 3, (7, 42, 0, (.int 0), [(5, 2)])), (98, 2, (0, 0, 1, (.int 10), [])), (100, 3, (20, 112, 3, (.int 0), [])), (103, 1, (1, 0, 2, (.int 0), [])), (104, 3, (7, 42, 0, (.int 0), [(5, 2)])), (107, 1, (0, 0, 0, (.int 3), [])), (108, 1, (4, 0, 1, (.int 0), [])), (109, 3, (6, 119, 0, (.int 0), [])), (112, 1, (1, 0, 2, (.int 0), [])), (113, 3, (7, 42, 0, (.int 0), [(5, 2)])), (116, 2, (0, 0, 1, (.int 6), [])), (118, 1, (4, 0, 1, (.int 0), [])), (119, 3, (8, 42, 0, (.int 0), [(5, 2)])), (122, 3, (6, 276, 0, (.int 0), []))]
def ck_Mdl_step_3 : List (Nat × Nat × zx_I) := [(125, 1, (1, 0, 2, (.int 0), [])), (126, 3, (7, 49, 0, (.int 0), [(5, 7)])), (129, 1, (0, 0, 0, (.int 2), [])), (130, 3, (20, 186, 1, (.int 0), [])), (133, 1, (1, 0, 2, (.int 0), [])), (134, 1, (1, 0, 2, (.int 0), [])), (135, 3, (0, 0, 2, (.int 432), [])), (138, 2, (1, 4, 0, (.int 0), [])), (140, 3, (30, 62, 2, (.int 0), [(5, 64)])), (143, 3, (8, 59, 0, (.int 0), [(5, 9)])), (146, 1, (1, 0, 2, (.int 0), [])), (147, 1, (1, 0, 2, (.int 0), [])), (148, 3, (30, 65, 0, (.int 0), [(5, 65)])), (151, 3, (8, 69, 0, (.int 0), [(5, 10)])), (154, 1, (1, 0, 2, (.int 0), [])), (155, 1, (0, 0, 0, (.int 3), [])), (156, 1, (1, 0, 2, (.int 0), [])), (157, 3, (7, 69, 0, (.int 0), [(5, 10)])), (160, 3, (30, 73, 2, (.int 0), [(5, 61)])), (163, 1, (1, 0, 2, (.int 0), [])), (164, 1, (1, 0, 2, (.int 0), [])), (165, 3, (7, 42, 0, (.int 0), [(5, 2)])), (168, 2, (0, 0, 1, (.int 7), [])), (170, 3, (20, 178, 3, (.int 0), []))]
def ck_Mdl_step_4 : List (Nat × Nat × zx_I) := [(173, 2, (0, 0, 1, (.int 7), [])), (175, 3, (6, 180, 0, (.int 0), [])), (178, 2, (0, 0, 1, (.int 10), [])), (180, 3, (8, 42, 0, (.int 0), [(5, 2)])), (183, 3, (6, 276, 0, (.int 0), [])), (186, 1, (1, 0, 2, (.int 0), [])), (187, 3, (7, 49, 0, (.int 0), [(5, 7)])), (190, 1, (0, 0, 0, (.int 3), [])), (191, 3, (20, 222, 1, (.int 0), [])), (194, 1, (1, 0, 2, (.int 0), [])), (195, 1, (0, 0, 0, (.int 1), [])), (196, 3, (8, 59, 0, (.int 0), [(5, 9)])), (199, 1, (1, 0, 2, (.int 0), [])), (200, 1, (1, 0, 2, (.int 0), [])), (201, 3, (7, 42, 0, (.int 0), [(5, 2)])), (204, 2, (0, 0, 1, (.int 7), [])), (206, 3, (20, 214, 3, (.int 0), [])), (209, 2, (0, 0, 1, (.int 9), [])), (211, 3, (6, 216, 0, (.int 0), [])), (214, 2, (0, 0, 1, (.int 11), [])), (216, 3, (8, 42, 0, (.int 0), [(5, 2)])), (219, 3, (6, 276, 0, (.int 0), [])), (222, 1, (1, 0, 2, (.int 0), [])), (223, 1, (1, 0, 2, (.int 0), []))]
def ck_Mdl_step_5 : List (Nat × Nat × zx_I) := [(224, 3, (7, 49, 0, (.int 0), [(5, 7)])), (227, 1, (0, 0, 0, (.int 4), [])), (228, 1, (4, 0, 1, (.int 0), [])), (229, 1, (1, 0, 2, (.int 0), [])), (230, 3, (7, 9, 0, (.int 0), [(5, 1)])), (233, 1, (1, 0, 2, (.int 0), [])), (234, 3, (7, 49, 0, (.int 0), [(5, 7)])), (237, 1, (0, 0, 0, (.int 4), [])), (238, 1, (4, 0, 1, (.int 0), [])), (239, 1, (9, 0, 1, (.int 0), [])), (240, 3, (30, 73, 2, (.int 0), [(5, 61)])), (243, 1, (1, 0, 2, (.int 0), [])), (244, 1, (1, 0, 2, (.int 0), [])), (245, 3, (0, 0, 2, (.int 946), [])), (248, 2, (1, 4, 0, (.int 0), [])), (250, 3, (30, 62, 2, (.int 0), [(5, 64)])), (253, 3, (8, 59, 0, (.int 0), [(5, 9)])), (256, 1, (1, 0, 2, (.int 0), [])), (257, 1, (1, 0, 2, (.int 0), [])), (258, 3, (7, 42, 0, (.int 0), [(5, 2)])), (261, 2, (0, 0, 1, (.int 7), [])), (263, 3, (20, 271, 3, (.int 0), [])), (266, 2, (0, 0, 1, (.int 8), [])), (268, 3, (6, 273, 0, (.int 0), []))]
def ck_Mdl_step_6 : List (Nat × Nat × zx_I) := [(271, 2, (0, 0, 1, (.int 11), [])), (273, 3, (8, 42, 0, (.int 0), [(5, 2)])), (276, 1, (40, 0, 0, (.int 0), []))]
abbrev ck_Mdl_step : zx_K := [(38, ck_Mdl_step_0), (77, ck_Mdl_step_1), (123, ck_Mdl_step_2), (171, ck_Mdl_step_3), (224, ck_Mdl_step_4), (269, ck_Mdl_step_5), (277, ck_Mdl_step_6)]
def ck_Mdl_bringForward_0 : List (Nat × Nat × zx_I) := [(0, 1, (1, 1, 0, (.int 0), [])), (1, 2, (2, 4, 0, (.int 0), [])), (3, 2, (1, 4, 0, (.int 0), [])), (5, 3, (21, 30, 5, (.int 0), [])), (8, 1, (1, 0, 2, (.int 0), [])), (9, 3, (7, 9, 0, (.int 0), [(5, 1)])), (12, 2, (1, 4, 0, (.int 0), [])), (14, 1, (1, 0, 2, (.int 0), [])), (15, 3, (7, 9, 0, (.int 0), [(5, 1)])), (18, 2, (1, 4, 0, (.int 0), [])), (20, 1, (0, 0, 0, (.int 1), [])), (21, 1, (4, 0, 1, (.int 0), [])), (22, 1, (9, 0, 1, (.int 0), [])), (23, 1, (10, 0, 1, (.int 0), [])), (24, 3, (3, 4, 0, (.int (-1)), [])), (27, 3, (6, 3, 0, (.int 0), [])), (30, 1, (1, 0, 2, (.int 0), [])), (31, 3, (7, 9, 0, (.int 0), [(5, 1)])), (34, 1, (0, 0, 0, (.int 0), [])), (35, 1, (1, 2, 1, (.int 0), [])), (36, 1, (10, 0, 1, (.int 0), [])), (37, 1, (40, 0, 0, (.int 0), []))]
abbrev ck_Mdl_bringForward : zx_K := [(38, ck_Mdl_bringForward_0)]
def ck_Mdl_codeKind_0 : List (Nat × Nat × zx_I) := [(0, 1, (1, 0, 2, (.int 0), [])), (1, 3, (7, 19, 0, (.int 0), [(5, 6)])), (4, 1, (0, 0, 0, (.int 0), [])), (5, 1, (1, 0, 2, (.int 0), [])), (6, 3, (7, 42, 0, (.int 0), [(5, 2)])), (9, 2, (0, 0, 1, (.int 16), [])), (11, 1, (4, 0, 2, (.int 0), [])), (12, 1, (4, 0, 0, (.int 0), [])), (13, 1, (1, 1, 0, (.int 0), [])), (14, 1, (4, 0, 0, (.int 0), [])), (15, 1, (1, 0, 2, (.int 0), [])), (16, 3, (7, 49, 0, (.int 0), [(5, 7)])), (19, 1, (0, 0, 0, (.int 1), [])), (20, 3, (20, 27, 1, (.int 0), [])), (23, 1, (0, 0, 0, (.int 0), [])), (24, 3, (6, 28, 0, (.int 0), [])), (27, 1, (0, 0, 0, (.int 1), [])), (28, 3, (30, 77, 2, (.int 0), [(3, 46), (4, 53)])), (31, 3, (21, 36, 1, (.int 0), [])), (34, 1, (0, 0, 0, (.int 1), [])), (35, 1, (40, 0, 1, (.int 0), [])), (36, 1, (1, 0, 2, (.int 0), [])), (37, 3, (7, 19, 0, (.int 0), [(5, 6)])), (40, 3, (0, 0, 2, (.int 384), []))]
def ck_Mdl_codeKind_1 : List (Nat × Nat × zx_I) := [(43, 1, (1, 0, 2, (.int 0), [])), (44, 3, (7, 42, 0, (.int 0), [(5, 2)])), (47, 1, (4, 0, 0, (.int 0), [])), (48, 1, (1, 0, 2, (.int 0), [])), (49, 3, (7, 49, 0, (.int 0), [(5, 7)])), (52, 1, (0, 0, 0, (.int 2), [])), (53, 3, (20, 60, 1, (.int 0), [])), (56, 1, (0, 0, 0, (.int 0), [])), (57, 3, (6, 61, 0, (.int 0), [])), (60, 1, (0, 0, 0, (.int 1), [])), (61, 3, (30, 77, 2, (.int 0), [(3, 46), (4, 53)])), (64, 3, (21, 69, 1, (.int 0), [])), (67, 1, (0, 0, 0, (.int 2), [])), (68, 1, (40, 0, 1, (.int 0), [])), (69, 1, (1, 0, 2, (.int 0), [])), (70, 3, (7, 19, 0, (.int 0), [(5, 6)])), (73, 3, (0, 0, 2, (.int 396), [])), (76, 1, (1, 0, 2, (.int 0), [])), (77, 3, (7, 42, 0, (.int 0), [(5, 2)])), (80, 1, (4, 0, 0, (.int 0), [])), (81, 1, (1, 0, 2, (.int 0), [])), (82, 3, (7, 49, 0, (.int 0), [(5, 7)])), (85, 1, (0, 0, 0, (.int 4), [])), (86, 3, (20, 93, 5, (.int 0), []))]
def ck_Mdl_codeKind_2 : List (Nat × Nat × zx_I) := [(89, 1, (0, 0, 0, (.int 1), [])), (90, 3, (6, 94, 0, (.int 0), [])), (93, 1, (0, 0, 0, (.int 0), [])), (94, 3, (30, 77, 2, (.int 0), [(3, 46), (4, 53)])), (97, 3, (21, 144, 1, (.int 0), [])), (100, 1, (1, 0, 2, (.int 0), [])), (101, 3, (7, 19, 0, (.int 0), [(5, 6)])), (104, 3, (0, 0, 2, (.int 192), [])), (107, 1, (1, 0, 2, (.int 0), [])), (108, 3, (7, 42, 0, (.int 0), [(5, 2)])), (111, 2, (0, 0, 1, (.int 16), [])), (113, 1, (4, 0, 2, (.int 0), [])), (114, 1, (4, 0, 0, (.int 0), [])), (115, 1, (1, 1, 0, (.int 0), [])), (116, 1, (4, 0, 0, (.int 0), [])), (117, 1, (1, 0, 2, (.int 0), [])), (118, 3, (7, 49, 0, (.int 0), [(5, 7)])), (121, 1, (0, 0, 0, (.int 4), [])), (122, 3, (20, 129, 1, (.int 0), [])), (125, 1, (0, 0, 0, (.int 1), [])), (126, 3, (6, 130, 0, (.int 0), [])), (129, 1, (0, 0, 0, (.int 0), [])), (130, 3, (30, 77, 2, (.int 0), [(3, 46), (4, 53)])), (133, 1, (2, 2, 0, (.int 0), []))]
def ck_Mdl_codeKind_3 : List (Nat × Nat × zx_I) := [(134, 1, (1, 2, 0, (.int 0), [])), (135, 3, (21, 142, 1, (.int 0), [])), (138, 1, (0, 0, 0, (.int 3), [])), (139, 3, (6, 143, 0, (.int 0), [])), (142, 1, (0, 0, 0, (.int 4), [])), (143, 1, (40, 0, 1, (.int 0), [])), (144, 1, (1, 0, 2, (.int 0), [])), (145, 3, (7, 19, 0, (.int 0), [(5, 6)])), (148, 3, (0, 0, 2, (.int 408), [])), (151, 1, (1, 0, 2, (.int 0), [])), (152, 3, (7, 42, 0, (.int 0), [(5, 2)])), (155, 1, (4, 0, 0, (.int 0), [])), (156, 1, (1, 0, 2, (.int 0), [])), (157, 3, (7, 49, 0, (.int 0), [(5, 7)])), (160, 1, (0, 0, 0, (.int 5), [])), (161, 3, (20, 168, 5, (.int 0), [])), (164, 1, (0, 0, 0, (.int 1), [])), (165, 3, (6, 169, 0, (.int 0), [])), (168, 1, (0, 0, 0, (.int 0), [])), (169, 3, (30, 77, 2, (.int 0), [(3, 46), (4, 53)])), (172, 3, (21, 177, 1, (.int 0), [])), (175, 1, (0, 0, 0, (.int 5), [])), (176, 1, (40, 0, 1, (.int 0), [])), (177, 2, (0, 0, 1, (.int 6), []))]
def ck_Mdl_codeKind_4 : List (Nat × Nat × zx_I) := [(179, 1, (1, 0, 2, (.int 0), [])), (180, 3, (7, 19, 0, (.int 0), [(5, 6)])), (183, 3, (0, 0, 2, (.int 420), [])), (186, 1, (1, 0, 2, (.int 0), [])), (187, 3, (7, 42, 0, (.int 0), [(5, 2)])), (190, 1, (4, 0, 0, (.int 0), [])), (191, 1, (1, 0, 2, (.int 0), [])), (192, 3, (7, 49, 0, (.int 0), [(5, 7)])), (195, 2, (0, 0, 1, (.int 6), [])), (197, 3, (20, 204, 5, (.int 0), [])), (200, 1, (0, 0, 0, (.int 1), [])), (201, 3, (6, 205, 0, (.int 0), [])), (204, 1, (0, 0, 0, (.int 0), [])), (205, 3, (30, 77, 2, (.int 0), [(3, 46), (4, 53)])), (208, 1, (4, 0, 0, (.int 0), [])), (209, 1, (40, 0, 1, (.int 0), []))]
abbrev ck_Mdl_codeKind : zx_K := [(41, ck_Mdl_codeKind_0), (87, ck_Mdl_codeKind_1), (134, ck_Mdl_codeKind_2), (178, ck_Mdl_codeKind_3), (210, ck_Mdl_codeKind_4)]
def ck_Mdl_codeLiteral_0 : List (Nat × Nat × zx_I) := [(0, 1, (1, 0, 2, (.int 0), [])), (1, 3, (7, 42, 0, (.int 0), [(5, 2)])), (4, 2, (0, 0, 1, (.int 7), [])), (6, 3, (20, 13, 2, (.int 0), [])), (9, 1, (0, 0, 0, (.int 1), [])), (10, 3, (6, 14, 0, (.int 0), [])), (13, 1, (0, 0, 0, (.int 0), [])), (14, 1, (2, 3, 0, (.int 0), [])), (15, 1, (0, 0, 0, (.int 1), [])), (16, 2, (2, 4, 0, (.int 0), [])), (18, 2, (0, 0, 1, (.int 7), [])), (20, 2, (2, 5, 0, (.int 0), [])), (22, 2, (1, 5, 0, (.int 0), [])), (24, 3, (21, 110, 2, (.int 0), [])), (27, 1, (1, 2, 0, (.int 0), [])), (28, 2, (1, 5, 0, (.int 0), [])), (30, 1, (4, 0, 9, (.int 0), [])), (31, 1, (0, 0, 0, (.int 1), [])), (32, 1, (4, 0, 5, (.int 0), [])), (33, 2, (2, 6, 0, (.int 0), [])), (35, 1, (1, 3, 0, (.int 0), [])), (36, 3, (21, 46, 0, (.int 0), [])), (39, 1, (0, 0, 0, (.int 1), [])), (40, 2, (1, 6, 0, (.int 0), []))]
def ck_Mdl_codeLiteral_1 : List (Nat × Nat × zx_I) := [(42, 1, (4, 0, 0, (.int 0), [])), (43, 3, (6, 47, 0, (.int 0), [])), (46, 1, (0, 0, 0, (.int 0), [])), (47, 2, (2, 7, 0, (.int 0), [])), (49, 1, (1, 0, 2, (.int 0), [])), (50, 3, (7, 19, 0, (.int 0), [(5, 6)])), (53, 1, (1, 1, 0, (.int 0), [])), (54, 2, (1, 7, 0, (.int 0), [])), (56, 3, (0, 0, 2, (.int 256), [])), (59, 1, (4, 0, 2, (.int 0), [])), (60, 1, (4, 0, 0, (.int 0), [])), (61, 2, (1, 4, 0, (.int 0), [])), (63, 1, (4, 0, 0, (.int 0), [])), (64, 1, (1, 0, 2, (.int 0), [])), (65, 3, (7, 56, 0, (.int 0), [(5, 8)])), (68, 2, (1, 5, 0, (.int 0), [])), (70, 1, (4, 0, 9, (.int 0), [])), (71, 1, (0, 0, 0, (.int 1), [])), (72, 1, (4, 0, 5, (.int 0), [])), (73, 3, (30, 77, 2, (.int 0), [(3, 46), (4, 53)])), (76, 2, (2, 8, 0, (.int 0), [])), (78, 1, (1, 3, 0, (.int 0), [])), (79, 3, (21, 93, 0, (.int 0), [])), (82, 2, (1, 8, 0, (.int 0), []))]
def ck_Mdl_codeLiteral_2 : List (Nat × Nat × zx_I) := [(84, 2, (1, 6, 0, (.int 0), [])), (86, 3, (20, 93, 1, (.int 0), [])), (89, 1, (0, 0, 0, (.int 1), [])), (90, 3, (6, 94, 0, (.int 0), [])), (93, 1, (0, 0, 0, (.int 0), [])), (94, 1, (2, 3, 0, (.int 0), [])), (95, 1, (0, 0, 0, (.int 2), [])), (96, 2, (1, 4, 0, (.int 0), [])), (98, 1, (4, 0, 2, (.int 0), [])), (99, 2, (1, 8, 0, (.int 0), [])), (101, 1, (4, 0, 0, (.int 0), [])), (102, 2, (2, 4, 0, (.int 0), [])), (104, 3, (3, 5, 0, (.int (-1)), [])), (107, 3, (6, 22, 0, (.int 0), [])), (110, 2, (1, 4, 0, (.int 0), [])), (112, 3, (0, 0, 2, (.int 256), [])), (115, 1, (4, 0, 1, (.int 0), [])), (116, 1, (40, 0, 1, (.int 0), []))]
abbrev ck_Mdl_codeLiteral : zx_K := [(41, ck_Mdl_codeLiteral_0), (83, ck_Mdl_codeLiteral_1), (117, ck_Mdl_codeLiteral_2)]
def ck_Mdl_codeLength_0 : List (Nat × Nat × zx_I) := [(0, 1, (1, 0, 2, (.int 0), [])), (1, 3, (7, 19, 0, (.int 0), [(5, 6)])), (4, 1, (1, 1, 0, (.int 0), [])), (5, 1, (1, 0, 2, (.int 0), [])), (6, 3, (7, 59, 0, (.int 0), [(5, 9)])), (9, 2, (0, 0, 1, (.int 10), [])), (11, 3, (20, 18, 3, (.int 0), [])), (14, 1, (0, 0, 0, (.int 0), [])), (15, 3, (6, 19, 0, (.int 0), [])), (18, 1, (0, 0, 0, (.int 1), [])), (19, 3, (30, 77, 2, (.int 0), [(3, 46), (4, 53)])), (22, 3, (21, 47, 1, (.int 0), [])), (25, 1, (0, 0, 0, (.int 2), [])), (26, 1, (1, 0, 2, (.int 0), [])), (27, 1, (1, 1, 0, (.int 0), [])), (28, 1, (0, 0, 0, (.int 2), [])), (29, 1, (4, 0, 0, (.int 0), [])), (30, 2, (0, 0, 1, (.int 8), [])), (32, 1, (1, 2, 0, (.int 0), [])), (33, 1, (4, 0, 2, (.int 0), [])), (34, 1, (4, 0, 0, (.int 0), [])), (35, 1, (0, 0, 0, (.int 3), [])), (36, 1, (1, 0, 2, (.int 0), [])), (37, 3, (7, 59, 0, (.int 0), [(5, 9)]))]
def ck_Mdl_codeLength_1 : List (Nat × Nat × zx_I) := [(40, 1, (0, 0, 0, (.int 2), [])), (41, 1, (4, 0, 1, (.int 0), [])), (42, 3, (30, 82, 3, (.int 0), [(5, 67)])), (45, 1, (4, 0, 0, (.int 0), [])), (46, 1, (40, 0, 1, (.int 0), [])), (47, 1, (1, 0, 2, (.int 0), [])), (48, 3, (7, 19, 0, (.int 0), [(5, 6)])), (51, 1, (1, 1, 0, (.int 0), [])), (52, 1, (0, 0, 0, (.int 1), [])), (53, 1, (4, 0, 0, (.int 0), [])), (54, 1, (1, 0, 2, (.int 0), [])), (55, 3, (7, 59, 0, (.int 0), [(5, 9)])), (58, 2, (0, 0, 1, (.int 18), [])), (60, 3, (20, 67, 3, (.int 0), [])), (63, 1, (0, 0, 0, (.int 0), [])), (64, 3, (6, 68, 0, (.int 0), [])), (67, 1, (0, 0, 0, (.int 1), [])), (68, 3, (30, 77, 2, (.int 0), [(3, 46), (4, 53)])), (71, 3, (21, 100, 1, (.int 0), [])), (74, 2, (0, 0, 1, (.int 10), [])), (76, 1, (1, 0, 2, (.int 0), [])), (77, 1, (1, 1, 0, (.int 0), [])), (78, 3, (0, 0, 2, (.int 130), [])), (81, 1, (4, 0, 0, (.int 0), []))]
def ck_Mdl_codeLength_2 : List (Nat × Nat × zx_I) := [(82, 2, (0, 0, 1, (.int 8), [])), (84, 1, (1, 2, 0, (.int 0), [])), (85, 1, (4, 0, 2, (.int 0), [])), (86, 1, (4, 0, 0, (.int 0), [])), (87, 1, (0, 0, 0, (.int 3), [])), (88, 1, (1, 0, 2, (.int 0), [])), (89, 3, (7, 59, 0, (.int 0), [(5, 9)])), (92, 2, (0, 0, 1, (.int 10), [])), (94, 1, (4, 0, 1, (.int 0), [])), (95, 3, (30, 82, 3, (.int 0), [(5, 67)])), (98, 1, (4, 0, 0, (.int 0), [])), (99, 1, (40, 0, 1, (.int 0), [])), (100, 2, (0, 0, 1, (.int 18), [])), (102, 1, (1, 0, 2, (.int 0), [])), (103, 1, (1, 1, 0, (.int 0), [])), (104, 3, (0, 0, 2, (.int 258), [])), (107, 1, (4, 0, 0, (.int 0), [])), (108, 2, (0, 0, 1, (.int 8), [])), (110, 1, (1, 0, 2, (.int 0), [])), (111, 3, (7, 59, 0, (.int 0), [(5, 9)])), (114, 2, (0, 0, 1, (.int 18), [])), (116, 1, (4, 0, 1, (.int 0), [])), (117, 3, (30, 82, 3, (.int 0), [(5, 67)])), (120, 1, (4, 0, 0, (.int 0), []))]
def ck_Mdl_codeLength_3 : List (Nat × Nat × zx_I) := [(121, 1, (40, 0, 1, (.int 0), []))]
abbrev ck_Mdl_codeLength : zx_K := [(38, ck_Mdl_codeLength_0), (82, ck_Mdl_codeLength_1), (121, ck_Mdl_codeLength_2), (122, ck_Mdl_codeLength_3)]
def ck_Mdl_codeDistance_0 : List (Nat × Nat × zx_I) := [(0, 1, (1, 0, 2, (.int 0), [])), (1, 3, (0, 0, 2, (.int 1460), [])), (4, 2, (0, 0, 1, (.int 64), [])), (6, 1, (1, 0, 2, (.int 0), [])), (7, 3, (7, 59, 0, (.int 0), [(5, 9)])), (10, 1, (0, 0, 0, (.int 2), [])), (11, 1, (4, 0, 1, (.int 0), [])), (12, 1, (0, 0, 0, (.int 3), [])), (13, 3, (15, 86, 0, (.int 0), [])), (16, 1, (4, 0, 2, (.int 0), [])), (17, 1, (4, 0, 0, (.int 0), [])), (18, 2, (0, 0, 1, (.int 6), [])), (20, 1, (1, 0, 2, (.int 0), [])), (21, 3, (7, 69, 0, (.int 0), [(5, 10)])), (24, 3, (31, 91, 1, (.int 0), [(0, 66)])), (27, 3, (30, 82, 3, (.int 0), [(5, 67)])), (30, 1, (2, 1, 0, (.int 0), [])), (31, 1, (1, 1, 0, (.int 0), [])), (32, 1, (0, 0, 0, (.int 4), [])), (33, 3, (20, 41, 3, (.int 0), [])), (36, 1, (1, 1, 0, (.int 0), [])), (37, 1, (0, 0, 0, (.int 1), [])), (38, 1, (4, 0, 0, (.int 0), [])), (39, 1, (5, 0, 0, (.int 0), []))]
def ck_Mdl_codeDistance_1 : List (Nat × Nat × zx_I) := [(40, 1, (40, 0, 2, (.int 0), [])), (41, 1, (1, 1, 0, (.int 0), [])), (42, 1, (0, 0, 0, (.int 2), [])), (43, 1, (4, 0, 3, (.int 0), [])), (44, 1, (0, 0, 0, (.int 1), [])), (45, 1, (4, 0, 1, (.int 0), [])), (46, 1, (2, 2, 0, (.int 0), [])), (47, 3, (0, 95, 5, (.long 2), [])), (50, 1, (1, 1, 0, (.int 0), [])), (51, 1, (0, 0, 0, (.int 2), [])), (52, 1, (4, 0, 4, (.int 0), [])), (53, 1, (5, 0, 0, (.int 0), [])), (54, 1, (4, 0, 10, (.int 0), [])), (55, 1, (1, 2, 0, (.int 0), [])), (56, 1, (4, 0, 17, (.int 0), [])), (57, 1, (2, 3, 1, (.int 0), [])), (58, 1, (1, 0, 2, (.int 0), [])), (59, 3, (7, 69, 0, (.int 0), [(5, 10)])), (62, 1, (0, 0, 4, (.long 1), [])), (63, 1, (4, 0, 11, (.int 0), [])), (64, 1, (1, 3, 1, (.int 0), [])), (65, 1, (4, 0, 11, (.int 0), [])), (66, 2, (2, 5, 1, (.int 0), [])), (68, 1, (1, 1, 0, (.int 0), []))]
def ck_Mdl_codeDistance_2 : List (Nat × Nat × zx_I) := [(69, 2, (0, 0, 1, (.int 14), [])), (71, 3, (20, 98, 3, (.int 0), [])), (74, 1, (1, 3, 1, (.int 0), [])), (75, 1, (0, 0, 4, (.long 1), [])), (76, 1, (4, 0, 10, (.int 0), [])), (77, 1, (1, 0, 2, (.int 0), [])), (78, 3, (0, 0, 2, (.int 1716), [])), (81, 2, (0, 0, 1, (.int 32), [])), (83, 1, (1, 1, 0, (.int 0), [])), (84, 1, (0, 0, 0, (.int 4), [])), (85, 1, (4, 0, 1, (.int 0), [])), (86, 1, (4, 0, 2, (.int 0), [])), (87, 1, (4, 0, 0, (.int 0), [])), (88, 1, (1, 2, 0, (.int 0), [])), (89, 2, (1, 5, 1, (.int 0), [])), (91, 1, (5, 0, 1, (.int 0), [])), (92, 3, (30, 97, 3, (.int 0), [(5, 68)])), (95, 1, (5, 0, 0, (.int 0), [])), (96, 1, (4, 0, 10, (.int 0), [])), (97, 1, (40, 0, 2, (.int 0), [])), (98, 1, (0, 0, 3, (.long 0), [])), (99, 2, (2, 7, 1, (.int 0), [])), (101, 1, (1, 2, 0, (.int 0), [])), (102, 1, (0, 0, 0, (.int 1), []))]
def ck_Mdl_codeDistance_3 : List (Nat × Nat × zx_I) := [(103, 1, (4, 0, 1, (.int 0), [])), (104, 2, (2, 9, 0, (.int 0), [])), (106, 2, (1, 9, 0, (.int 0), [])), (108, 1, (0, 0, 0, (.int 4), [])), (109, 3, (20, 143, 2, (.int 0), [])), (112, 3, (0, 95, 5, (.long 2), [])), (115, 2, (1, 7, 1, (.int 0), [])), (117, 1, (4, 0, 12, (.int 0), [])), (118, 1, (1, 0, 2, (.int 0), [])), (119, 3, (7, 19, 0, (.int 0), [(5, 6)])), (122, 2, (1, 5, 1, (.int 0), [])), (124, 2, (1, 9, 0, (.int 0), [])), (126, 1, (4, 0, 19, (.int 0), [])), (127, 1, (5, 0, 1, (.int 0), [])), (128, 1, (0, 0, 0, (.int 1), [])), (129, 1, (4, 0, 5, (.int 0), [])), (130, 3, (30, 100, 1, (.int 0), [(3, 47), (4, 54)])), (133, 1, (5, 0, 0, (.int 0), [])), (134, 1, (4, 0, 10, (.int 0), [])), (135, 2, (2, 7, 1, (.int 0), [])), (137, 3, (3, 9, 0, (.int (-1)), [])), (140, 3, (6, 106, 0, (.int 0), [])), (143, 1, (1, 3, 1, (.int 0), [])), (144, 1, (0, 0, 4, (.long 1), []))]
def ck_Mdl_codeDistance_4 : List (Nat × Nat × zx_I) := [(145, 1, (4, 0, 10, (.int 0), [])), (146, 3, (0, 103, 5, (.long 16), [])), (149, 2, (1, 7, 1, (.int 0), [])), (151, 1, (4, 0, 12, (.int 0), [])), (152, 1, (4, 0, 10, (.int 0), [])), (153, 1, (1, 0, 2, (.int 0), [])), (154, 3, (0, 0, 2, (.int 2036), [])), (157, 1, (0, 0, 0, (.int 4), [])), (158, 2, (1, 5, 1, (.int 0), [])), (160, 1, (5, 0, 1, (.int 0), [])), (161, 3, (30, 97, 3, (.int 0), [(5, 68)])), (164, 1, (5, 0, 0, (.int 0), [])), (165, 1, (4, 0, 10, (.int 0), [])), (166, 1, (40, 0, 2, (.int 0), []))]
abbrev ck_Mdl_codeDistance : zx_K := [(40, ck_Mdl_codeDistance_0), (69, ck_Mdl_codeDistance_1), (103, ck_Mdl_codeDistance_2), (145, ck_Mdl_codeDistance_3), (167, ck_Mdl_codeDistance_4)]
def ck_Mdl_slotOf_0 : List (Nat × Nat × zx_I) := [(0, 1, (1, 0, 1, (.int 0), [])), (1, 1, (0, 0, 4, (.long 1), [])), (2, 1, (4, 0, 11, (.int 0), [])), (3, 1, (2, 2, 1, (.int 0), [])), (4, 1, (1, 2, 1, (.int 0), [])), (5, 3, (0, 105, 5, (.long 4), [])), (8, 4, (22, 15, 3, (.int 0), [])), (12, 1, (1, 2, 1, (.int 0), [])), (13, 1, (5, 0, 1, (.int 0), [])), (14, 1, (40, 0, 1, (.int 0), [])), (15, 2, (0, 0, 1, (.int 63), [])), (17, 1, (1, 2, 1, (.int 0), [])), (18, 3, (31, 107, 1, (.int 0), [(0, 185)])), (21, 1, (4, 0, 1, (.int 0), [])), (22, 2, (2, 4, 0, (.int 0), [])), (24, 1, (0, 0, 0, (.int 2), [])), (25, 2, (1, 4, 0, (.int 0), [])), (27, 1, (4, 0, 2, (.int 0), [])), (28, 1, (1, 2, 1, (.int 0), [])), (29, 2, (1, 4, 0, (.int 0), [])), (31, 1, (0, 0, 0, (.int 1), [])), (32, 1, (4, 0, 1, (.int 0), [])), (33, 1, (4, 0, 19, (.int 0), [])), (34, 1, (5, 0, 1, (.int 0), []))]
def ck_Mdl_slotOf_1 : List (Nat × Nat × zx_I) := [(35, 1, (0, 0, 0, (.int 1), [])), (36, 1, (4, 0, 5, (.int 0), [])), (37, 1, (4, 0, 0, (.int 0), [])), (38, 1, (40, 0, 1, (.int 0), []))]
abbrev ck_Mdl_slotOf : zx_K := [(35, ck_Mdl_slotOf_0), (39, ck_Mdl_slotOf_1)]
def ck_Mdl_codeTree_0 : List (Nat × Nat × zx_I) := [(0, 1, (0, 0, 0, (.int 1), [])), (1, 2, (2, 4, 0, (.int 0), [])), (3, 1, (1, 2, 0, (.int 0), [])), (4, 1, (0, 0, 0, (.int 1), [])), (5, 1, (4, 0, 1, (.int 0), [])), (6, 2, (2, 5, 0, (.int 0), [])), (8, 2, (1, 5, 0, (.int 0), [])), (10, 3, (21, 43, 2, (.int 0), [])), (13, 1, (0, 0, 0, (.int 2), [])), (14, 2, (1, 4, 0, (.int 0), [])), (16, 1, (4, 0, 2, (.int 0), [])), (17, 1, (1, 0, 2, (.int 0), [])), (18, 3, (7, 19, 0, (.int 0), [(5, 6)])), (21, 1, (1, 1, 0, (.int 0), [])), (22, 2, (1, 4, 0, (.int 0), [])), (24, 1, (4, 0, 0, (.int 0), [])), (25, 1, (1, 3, 0, (.int 0), [])), (26, 2, (1, 5, 0, (.int 0), [])), (28, 1, (4, 0, 9, (.int 0), [])), (29, 1, (0, 0, 0, (.int 1), [])), (30, 1, (4, 0, 5, (.int 0), [])), (31, 3, (30, 77, 2, (.int 0), [(3, 46), (4, 53)])), (34, 1, (4, 0, 0, (.int 0), [])), (35, 2, (2, 4, 0, (.int 0), []))]
def ck_Mdl_codeTree_1 : List (Nat × Nat × zx_I) := [(37, 3, (3, 5, 0, (.int (-1)), [])), (40, 3, (6, 8, 0, (.int 0), [])), (43, 2, (1, 4, 0, (.int 0), [])), (45, 1, (0, 0, 0, (.int 1), [])), (46, 1, (1, 2, 0, (.int 0), [])), (47, 1, (4, 0, 7, (.int 0), [])), (48, 1, (4, 0, 1, (.int 0), [])), (49, 1, (40, 0, 1, (.int 0), []))]
abbrev ck_Mdl_codeTree : zx_K := [(36, ck_Mdl_codeTree_0), (50, ck_Mdl_codeTree_1)]
def ck_Mdl_codeTreeBackwards_0 : List (Nat × Nat × zx_I) := [(0, 1, (0, 0, 0, (.int 1), [])), (1, 2, (2, 4, 0, (.int 0), [])), (3, 1, (0, 0, 0, (.int 0), [])), (4, 2, (2, 5, 0, (.int 0), [])), (6, 1, (0, 0, 0, (.int 0), [])), (7, 2, (2, 6, 0, (.int 0), [])), (9, 2, (1, 6, 0, (.int 0), [])), (11, 1, (1, 2, 0, (.int 0), [])), (12, 3, (20, 59, 3, (.int 0), [])), (15, 1, (1, 0, 2, (.int 0), [])), (16, 3, (7, 19, 0, (.int 0), [(5, 6)])), (19, 1, (1, 1, 0, (.int 0), [])), (20, 2, (1, 4, 0, (.int 0), [])), (22, 1, (4, 0, 0, (.int 0), [])), (23, 1, (1, 3, 0, (.int 0), [])), (24, 2, (1, 6, 0, (.int 0), [])), (26, 1, (4, 0, 9, (.int 0), [])), (27, 1, (0, 0, 0, (.int 1), [])), (28, 1, (4, 0, 5, (.int 0), [])), (29, 3, (30, 77, 2, (.int 0), [(3, 46), (4, 53)])), (32, 2, (2, 7, 0, (.int 0), [])), (34, 1, (0, 0, 0, (.int 2), [])), (35, 2, (1, 4, 0, (.int 0), [])), (37, 1, (4, 0, 2, (.int 0), []))]
def ck_Mdl_codeTreeBackwards_1 : List (Nat × Nat × zx_I) := [(38, 2, (1, 7, 0, (.int 0), [])), (40, 1, (4, 0, 0, (.int 0), [])), (41, 2, (2, 4, 0, (.int 0), [])), (43, 2, (1, 5, 0, (.int 0), [])), (45, 2, (1, 7, 0, (.int 0), [])), (47, 2, (1, 6, 0, (.int 0), [])), (49, 1, (4, 0, 7, (.int 0), [])), (50, 1, (4, 0, 0, (.int 0), [])), (51, 2, (2, 5, 0, (.int 0), [])), (53, 3, (3, 6, 0, (.int 1), [])), (56, 3, (6, 9, 0, (.int 0), [])), (59, 2, (1, 5, 0, (.int 0), [])), (61, 1, (40, 0, 1, (.int 0), []))]
abbrev ck_Mdl_codeTreeBackwards : zx_K := [(38, ck_Mdl_codeTreeBackwards_0), (62, ck_Mdl_codeTreeBackwards_1)]
def ck_Unp_begin_0 : List (Nat × Nat × zx_I) := [(0, 1, (1, 0, 2, (.int 0), [])), (1, 3, (7, 23, 0, (.int 0), [(6, 1)])), (4, 1, (1, 1, 2, (.int 0), [])), (5, 3, (30, 46, 1, (.int 0), [(2, 29)])), (8, 1, (1, 0, 2, (.int 0), [])), (9, 3, (7, 14, 0, (.int 0), [(6, 0)])), (12, 3, (30, 50, 0, (.int 0), [(1, 20)])), (15, 1, (1, 0, 2, (.int 0), [])), (16, 3, (7, 27, 0, (.int 0), [(6, 2)])), (19, 1, (0, 0, 0, (.int 0), [])), (20, 3, (31, 53, 2, (.int 0), [(0, 183)])), (23, 1, (1, 0, 2, (.int 0), [])), (24, 3, (7, 42, 0, (.int 0), [(6, 4)])), (27, 3, (30, 59, 0, (.int 0), [(3, 43)])), (30, 1, (40, 0, 0, (.int 0), []))]
abbrev ck_Unp_begin : zx_K := [(31, ck_Unp_begin_0)]
def ck_Unp_readStart_0 : List (Nat × Nat × zx_I) := [(0, 1, (1, 0, 2, (.int 0), [])), (1, 3, (7, 23, 0, (.int 0), [(6, 1)])), (4, 3, (14, 64, 0, (.int 0), [])), (7, 1, (11, 0, 0, (.int 0), [])), (8, 3, (30, 67, 1, (.int 0), [(2, 34)])), (11, 3, (21, 15, 1, (.int 0), [])), (14, 1, (40, 0, 0, (.int 0), [])), (15, 1, (0, 0, 0, (.int 0), [])), (16, 1, (2, 1, 0, (.int 0), [])), (17, 1, (1, 1, 0, (.int 0), [])), (18, 3, (14, 64, 0, (.int 0), [])), (21, 1, (11, 0, 0, (.int 0), [])), (22, 3, (20, 59, 3, (.int 0), [])), (25, 1, (1, 0, 2, (.int 0), [])), (26, 3, (7, 23, 0, (.int 0), [(6, 1)])), (29, 3, (7, 71, 0, (.int 0), [(2, 0)])), (32, 1, (1, 1, 0, (.int 0), [])), (33, 1, (9, 0, 0, (.int 0), [])), (34, 3, (14, 64, 0, (.int 0), [])), (37, 1, (1, 1, 0, (.int 0), [])), (38, 1, (9, 0, 0, (.int 0), [])), (39, 3, (20, 53, 0, (.int 0), [])), (42, 1, (1, 0, 2, (.int 0), [])), (43, 3, (7, 23, 0, (.int 0), [(6, 1)]))]
def ck_Unp_readStart_1 : List (Nat × Nat × zx_I) := [(46, 2, (0, 0, 1, (.int (-3)), [])), (48, 1, (0, 0, 0, (.int 0), [])), (49, 3, (30, 74, 2, (.int 0), [(2, 31)])), (52, 1, (40, 0, 0, (.int 0), [])), (53, 3, (3, 1, 0, (.int 1), [])), (56, 3, (6, 17, 0, (.int 0), [])), (59, 1, (1, 0, 2, (.int 0), [])), (60, 3, (7, 23, 0, (.int 0), [(6, 1)])), (63, 2, (0, 0, 1, (.int 6), [])), (65, 3, (8, 78, 0, (.int 0), [(2, 3)])), (68, 1, (1, 0, 2, (.int 0), [])), (69, 3, (7, 23, 0, (.int 0), [(6, 1)])), (72, 1, (0, 0, 0, (.int 2), [])), (73, 3, (30, 67, 1, (.int 0), [(2, 34)])), (76, 3, (21, 80, 1, (.int 0), [])), (79, 1, (40, 0, 0, (.int 0), [])), (80, 1, (1, 0, 2, (.int 0), [])), (81, 1, (1, 0, 2, (.int 0), [])), (82, 3, (7, 23, 0, (.int 0), [(6, 1)])), (85, 3, (7, 71, 0, (.int 0), [(2, 0)])), (88, 2, (0, 0, 1, (.int 7), [])), (90, 1, (9, 0, 0, (.int 0), [])), (91, 3, (8, 82, 0, (.int 0), [(6, 7)])), (94, 1, (1, 0, 2, (.int 0), []))]
def ck_Unp_readStart_2 : List (Nat × Nat × zx_I) := [(95, 3, (7, 23, 0, (.int 0), [(6, 1)])), (98, 3, (7, 71, 0, (.int 0), [(2, 0)])), (101, 2, (0, 0, 1, (.int 6), [])), (103, 1, (9, 0, 0, (.int 0), [])), (104, 3, (21, 117, 1, (.int 0), [])), (107, 1, (1, 0, 2, (.int 0), [])), (108, 3, (7, 82, 0, (.int 0), [(6, 7)])), (111, 3, (31, 85, 1, (.int 0), [(0, 14)])), (114, 3, (21, 129, 1, (.int 0), [])), (117, 1, (1, 0, 2, (.int 0), [])), (118, 3, (7, 23, 0, (.int 0), [(6, 1)])), (121, 2, (0, 0, 1, (.int (-3)), [])), (123, 2, (0, 0, 1, (.int 6), [])), (125, 3, (30, 74, 2, (.int 0), [(2, 31)])), (128, 1, (40, 0, 0, (.int 0), [])), (129, 1, (1, 0, 2, (.int 0), [])), (130, 3, (7, 23, 0, (.int 0), [(6, 1)])), (133, 1, (12, 0, 0, (.int 0), [])), (134, 3, (7, 78, 0, (.int 0), [(2, 3)])), (137, 1, (0, 0, 0, (.int 2), [])), (138, 1, (4, 0, 0, (.int 0), [])), (139, 3, (8, 78, 0, (.int 0), [(2, 3)])), (142, 1, (1, 0, 2, (.int 0), [])), (143, 3, (7, 23, 0, (.int 0), [(6, 1)]))]
def ck_Unp_readStart_3 : List (Nat × Nat × zx_I) := [(146, 1, (0, 0, 0, (.int 4), [])), (147, 1, (1, 0, 2, (.int 0), [])), (148, 3, (7, 23, 0, (.int 0), [(6, 1)])), (151, 3, (7, 71, 0, (.int 0), [(2, 0)])), (154, 2, (0, 0, 1, (.int 6), [])), (156, 2, (0, 0, 1, (.int 8), [])), (158, 3, (31, 88, 3, (.int 0), [(0, 17)])), (161, 3, (30, 92, 2, (.int 0), [(2, 39)])), (164, 1, (40, 0, 0, (.int 0), []))]
abbrev ck_Unp_readStart : zx_K := [(44, ck_Unp_readStart_0), (95, ck_Unp_readStart_1), (144, ck_Unp_readStart_2), (165, ck_Unp_readStart_3)]
def ck_Unp_comesBlock_0 : List (Nat × Nat × zx_I) := [(0, 1, (1, 0, 2, (.int 0), [])), (1, 3, (7, 23, 0, (.int 0), [(6, 1)])), (4, 1, (0, 0, 0, (.int 1), [])), (5, 3, (30, 67, 1, (.int 0), [(2, 34)])), (8, 3, (21, 33, 0, (.int 0), [])), (11, 1, (1, 0, 2, (.int 0), [])), (12, 3, (7, 23, 0, (.int 0), [(6, 1)])), (15, 3, (7, 71, 0, (.int 0), [(2, 0)])), (18, 1, (1, 0, 2, (.int 0), [])), (19, 3, (7, 23, 0, (.int 0), [(6, 1)])), (22, 3, (7, 78, 0, (.int 0), [(2, 3)])), (25, 1, (9, 0, 0, (.int 0), [])), (26, 3, (21, 33, 0, (.int 0), [])), (29, 1, (0, 0, 0, (.int 1), [])), (30, 3, (6, 34, 0, (.int 0), [])), (33, 1, (0, 0, 0, (.int 0), [])), (34, 1, (40, 0, 4, (.int 0), []))]
abbrev ck_Unp_comesBlock : zx_K := [(35, ck_Unp_comesBlock_0)]
def ck_Unp_readBlock_0 : List (Nat × Nat × zx_I) := [(0, 1, (1, 0, 2, (.int 0), [])), (1, 1, (1, 0, 2, (.int 0), [])), (2, 3, (7, 23, 0, (.int 0), [(6, 1)])), (5, 3, (7, 78, 0, (.int 0), [(2, 3)])), (8, 3, (8, 96, 0, (.int 0), [(6, 8)])), (11, 1, (1, 0, 2, (.int 0), [])), (12, 1, (1, 0, 2, (.int 0), [])), (13, 3, (7, 14, 0, (.int 0), [(6, 0)])), (16, 3, (7, 99, 0, (.int 0), [(1, 1)])), (19, 3, (8, 102, 0, (.int 0), [(6, 9)])), (22, 1, (1, 0, 2, (.int 0), [])), (23, 1, (0, 0, 0, (.int 1), [])), (24, 3, (8, 105, 0, (.int 0), [(6, 13)])), (27, 1, (1, 0, 2, (.int 0), [])), (28, 1, (0, 0, 0, (.int 1), [])), (29, 3, (8, 109, 0, (.int 0), [(6, 14)])), (32, 1, (1, 0, 2, (.int 0), [])), (33, 3, (30, 112, 0, (.int 0), [(6, 73)])), (36, 1, (1, 0, 2, (.int 0), [])), (37, 3, (7, 23, 0, (.int 0), [(6, 1)])), (40, 3, (7, 78, 0, (.int 0), [(2, 3)])), (43, 1, (2, 1, 0, (.int 0), [])), (44, 1, (0, 0, 0, (.int 0), [])), (45, 1, (2, 2, 0, (.int 0), []))]
def ck_Unp_readBlock_1 : List (Nat × Nat × zx_I) := [(46, 1, (1, 2, 0, (.int 0), [])), (47, 3, (0, 0, 2, (.int 640), [])), (50, 3, (20, 114, 3, (.int 0), [])), (53, 1, (1, 0, 2, (.int 0), [])), (54, 3, (7, 23, 0, (.int 0), [(6, 1)])), (57, 3, (30, 115, 0, (.int 0), [(2, 30)])), (60, 3, (21, 114, 0, (.int 0), [])), (63, 1, (1, 0, 2, (.int 0), [])), (64, 3, (30, 119, 0, (.int 0), [(6, 75)])), (67, 1, (1, 0, 2, (.int 0), [])), (68, 3, (7, 122, 0, (.int 0), [(6, 15)])), (71, 3, (21, 114, 0, (.int 0), [])), (74, 1, (1, 0, 2, (.int 0), [])), (75, 3, (7, 23, 0, (.int 0), [(6, 1)])), (78, 3, (30, 115, 0, (.int 0), [(2, 30)])), (81, 3, (21, 87, 1, (.int 0), [])), (84, 3, (6, 114, 0, (.int 0), [])), (87, 1, (1, 0, 2, (.int 0), [])), (88, 3, (7, 122, 0, (.int 0), [(6, 15)])), (91, 3, (0, 0, 2, (.int 128), [])), (94, 3, (20, 104, 2, (.int 0), [])), (97, 1, (1, 0, 2, (.int 0), [])), (98, 3, (30, 125, 0, (.int 0), [(6, 81)])), (101, 3, (6, 108, 0, (.int 0), []))]
def ck_Unp_readBlock_2 : List (Nat × Nat × zx_I) := [(104, 1, (1, 0, 2, (.int 0), [])), (105, 3, (30, 128, 0, (.int 0), [(6, 80)])), (108, 3, (3, 2, 0, (.int 1), [])), (111, 3, (6, 46, 0, (.int 0), [])), (114, 1, (1, 0, 2, (.int 0), [])), (115, 1, (1, 1, 0, (.int 0), [])), (116, 3, (30, 131, 1, (.int 0), [(6, 83)])), (119, 1, (40, 0, 0, (.int 0), []))]
abbrev ck_Unp_readBlock : zx_K := [(46, ck_Unp_readBlock_0), (102, ck_Unp_readBlock_1), (120, ck_Unp_readBlock_2)]
def ck_Unp_readHead_0 : List (Nat × Nat × zx_I) := [(0, 1, (0, 0, 0, (.int 4), [])), (1, 1, (1, 0, 2, (.int 0), [])), (2, 3, (7, 23, 0, (.int 0), [(6, 1)])), (5, 3, (7, 71, 0, (.int 0), [(2, 0)])), (8, 1, (1, 0, 2, (.int 0), [])), (9, 3, (7, 96, 0, (.int 0), [(6, 8)])), (12, 1, (9, 0, 0, (.int 0), [])), (13, 1, (0, 0, 0, (.int 1), [])), (14, 1, (4, 0, 0, (.int 0), [])), (15, 1, (4, 0, 2, (.int 0), [])), (16, 1, (2, 1, 0, (.int 0), [])), (17, 1, (1, 0, 2, (.int 0), [])), (18, 3, (7, 23, 0, (.int 0), [(6, 1)])), (21, 1, (1, 1, 0, (.int 0), [])), (22, 3, (30, 67, 1, (.int 0), [(2, 34)])), (25, 3, (21, 29, 1, (.int 0), [])), (28, 1, (40, 0, 0, (.int 0), [])), (29, 1, (1, 0, 2, (.int 0), [])), (30, 3, (7, 96, 0, (.int 0), [(6, 8)])), (33, 1, (1, 1, 0, (.int 0), [])), (34, 1, (4, 0, 0, (.int 0), [])), (35, 1, (0, 0, 0, (.int 4), [])), (36, 1, (4, 0, 1, (.int 0), [])), (37, 1, (2, 2, 0, (.int 0), []))]
def ck_Unp_readHead_1 : List (Nat × Nat × zx_I) := [(38, 1, (1, 0, 2, (.int 0), [])), (39, 3, (7, 23, 0, (.int 0), [(6, 1)])), (42, 1, (1, 2, 0, (.int 0), [])), (43, 1, (0, 0, 0, (.int 4), [])), (44, 3, (30, 134, 2, (.int 0), [(2, 38)])), (47, 1, (1, 0, 2, (.int 0), [])), (48, 3, (7, 23, 0, (.int 0), [(6, 1)])), (51, 3, (7, 71, 0, (.int 0), [(2, 0)])), (54, 1, (1, 0, 2, (.int 0), [])), (55, 3, (7, 96, 0, (.int 0), [(6, 8)])), (58, 1, (1, 2, 0, (.int 0), [])), (59, 3, (31, 88, 3, (.int 0), [(0, 17)])), (62, 4, (22, 77, 0, (.int 0), [])), (66, 1, (1, 0, 2, (.int 0), [])), (67, 3, (7, 23, 0, (.int 0), [(6, 1)])), (70, 2, (0, 0, 1, (.int (-4)), [])), (72, 1, (1, 2, 0, (.int 0), [])), (73, 3, (30, 74, 2, (.int 0), [(2, 31)])), (76, 1, (40, 0, 0, (.int 0), [])), (77, 1, (1, 0, 2, (.int 0), [])), (78, 3, (7, 23, 0, (.int 0), [(6, 1)])), (81, 1, (1, 2, 0, (.int 0), [])), (82, 3, (30, 138, 1, (.int 0), [(2, 32)])), (85, 1, (1, 0, 2, (.int 0), []))]
def ck_Unp_readHead_2 : List (Nat × Nat × zx_I) := [(86, 3, (7, 23, 0, (.int 0), [(6, 1)])), (89, 1, (12, 0, 0, (.int 0), [])), (90, 3, (7, 78, 0, (.int 0), [(2, 3)])), (93, 1, (0, 0, 0, (.int 1), [])), (94, 1, (4, 0, 0, (.int 0), [])), (95, 3, (8, 78, 0, (.int 0), [(2, 3)])), (98, 1, (1, 0, 2, (.int 0), [])), (99, 3, (30, 141, 0, (.int 0), [(6, 74)])), (102, 1, (1, 0, 2, (.int 0), [])), (103, 3, (7, 23, 0, (.int 0), [(6, 1)])), (106, 2, (0, 0, 1, (.int 33), [])), (108, 3, (30, 144, 1, (.int 0), [(2, 35)])), (111, 1, (1, 0, 2, (.int 0), [])), (112, 3, (7, 23, 0, (.int 0), [(6, 1)])), (115, 1, (0, 0, 0, (.int 1), [])), (116, 3, (30, 144, 1, (.int 0), [(2, 35)])), (119, 1, (1, 0, 2, (.int 0), [])), (120, 3, (7, 23, 0, (.int 0), [(6, 1)])), (123, 1, (0, 0, 0, (.int 0), [])), (124, 2, (0, 0, 1, (.int 40), [])), (126, 3, (30, 147, 2, (.int 0), [(2, 36)])), (129, 1, (1, 0, 2, (.int 0), [])), (130, 3, (7, 23, 0, (.int 0), [(6, 1)])), (133, 3, (7, 78, 0, (.int 0), [(2, 3)]))]
def ck_Unp_readHead_3 : List (Nat × Nat × zx_I) := [(136, 1, (2, 3, 0, (.int 0), [])), (137, 1, (1, 3, 0, (.int 0), [])), (138, 1, (1, 2, 0, (.int 0), [])), (139, 3, (20, 156, 3, (.int 0), [])), (142, 1, (1, 0, 2, (.int 0), [])), (143, 3, (7, 23, 0, (.int 0), [(6, 1)])), (146, 1, (0, 0, 0, (.int 0), [])), (147, 3, (30, 144, 1, (.int 0), [(2, 35)])), (150, 3, (3, 3, 0, (.int 1), [])), (153, 3, (6, 137, 0, (.int 0), [])), (156, 1, (1, 0, 2, (.int 0), [])), (157, 3, (7, 23, 0, (.int 0), [(6, 1)])), (160, 3, (30, 150, 0, (.int 0), [(2, 33)])), (163, 1, (1, 0, 2, (.int 0), [])), (164, 3, (7, 23, 0, (.int 0), [(6, 1)])), (167, 1, (1, 2, 0, (.int 0), [])), (168, 1, (0, 0, 0, (.int 4), [])), (169, 1, (4, 0, 0, (.int 0), [])), (170, 3, (8, 78, 0, (.int 0), [(2, 3)])), (173, 1, (40, 0, 0, (.int 0), []))]
abbrev ck_Unp_readHead : zx_K := [(38, ck_Unp_readHead_0), (86, ck_Unp_readHead_1), (134, ck_Unp_readHead_2), (174, ck_Unp_readHead_3)]
def ck_Unp_readHeadNumbers_0 : List (Nat × Nat × zx_I) := [(0, 1, (1, 0, 2, (.int 0), [])), (1, 3, (0, 153, 5, (.long (-1)), [])), (4, 3, (8, 155, 0, (.int 0), [(6, 10)])), (7, 1, (1, 0, 2, (.int 0), [])), (8, 3, (0, 153, 5, (.long (-1)), [])), (11, 3, (8, 159, 0, (.int 0), [(6, 11)])), (14, 1, (1, 0, 2, (.int 0), [])), (15, 3, (7, 23, 0, (.int 0), [(6, 1)])), (18, 1, (0, 0, 0, (.int 1), [])), (19, 3, (30, 67, 1, (.int 0), [(2, 34)])), (22, 3, (21, 43, 0, (.int 0), [])), (25, 1, (1, 0, 2, (.int 0), [])), (26, 3, (7, 23, 0, (.int 0), [(6, 1)])), (29, 3, (7, 71, 0, (.int 0), [(2, 0)])), (32, 1, (1, 0, 2, (.int 0), [])), (33, 3, (7, 23, 0, (.int 0), [(6, 1)])), (36, 3, (7, 78, 0, (.int 0), [(2, 3)])), (39, 1, (9, 0, 0, (.int 0), [])), (40, 3, (6, 44, 0, (.int 0), [])), (43, 1, (0, 0, 0, (.int 0), [])), (44, 1, (2, 1, 0, (.int 0), [])), (45, 1, (1, 1, 0, (.int 0), [])), (46, 2, (0, 0, 1, (.int 64), [])), (48, 1, (4, 0, 4, (.int 0), []))]
def ck_Unp_readHeadNumbers_1 : List (Nat × Nat × zx_I) := [(49, 3, (21, 69, 0, (.int 0), [])), (52, 1, (1, 0, 2, (.int 0), [])), (53, 3, (7, 23, 0, (.int 0), [(6, 1)])), (56, 2, (0, 0, 1, (.int (-3)), [])), (58, 1, (1, 0, 2, (.int 0), [])), (59, 3, (7, 23, 0, (.int 0), [(6, 1)])), (62, 3, (7, 78, 0, (.int 0), [(2, 3)])), (65, 3, (30, 74, 2, (.int 0), [(2, 31)])), (68, 1, (40, 0, 0, (.int 0), [])), (69, 1, (1, 0, 2, (.int 0), [])), (70, 3, (7, 23, 0, (.int 0), [(6, 1)])), (73, 1, (12, 0, 0, (.int 0), [])), (74, 3, (7, 78, 0, (.int 0), [(2, 3)])), (77, 1, (0, 0, 0, (.int 1), [])), (78, 1, (4, 0, 0, (.int 0), [])), (79, 3, (8, 78, 0, (.int 0), [(2, 3)])), (82, 1, (1, 0, 2, (.int 0), [])), (83, 3, (7, 23, 0, (.int 0), [(6, 1)])), (86, 3, (7, 78, 0, (.int 0), [(2, 3)])), (89, 1, (2, 2, 0, (.int 0), [])), (90, 1, (1, 1, 0, (.int 0), [])), (91, 2, (0, 0, 1, (.int 64), [])), (93, 1, (4, 0, 5, (.int 0), [])), (94, 3, (21, 108, 0, (.int 0), []))]
def ck_Unp_readHeadNumbers_2 : List (Nat × Nat × zx_I) := [(97, 1, (1, 0, 2, (.int 0), [])), (98, 1, (1, 0, 2, (.int 0), [])), (99, 3, (7, 23, 0, (.int 0), [(6, 1)])), (102, 3, (30, 162, 0, (.int 0), [(2, 41)])), (105, 3, (8, 155, 0, (.int 0), [(6, 10)])), (108, 1, (1, 0, 2, (.int 0), [])), (109, 3, (7, 155, 0, (.int 0), [(6, 10)])), (112, 1, (0, 0, 3, (.long 0), [])), (113, 4, (22, 127, 1, (.int 0), [])), (117, 1, (1, 0, 2, (.int 0), [])), (118, 3, (7, 23, 0, (.int 0), [(6, 1)])), (121, 2, (0, 0, 1, (.int (-3)), [])), (123, 1, (1, 2, 0, (.int 0), [])), (124, 3, (30, 74, 2, (.int 0), [(2, 31)])), (127, 1, (1, 1, 0, (.int 0), [])), (128, 3, (0, 0, 2, (.int 128), [])), (131, 1, (4, 0, 5, (.int 0), [])), (132, 3, (21, 146, 0, (.int 0), [])), (135, 1, (1, 0, 2, (.int 0), [])), (136, 1, (1, 0, 2, (.int 0), [])), (137, 3, (7, 23, 0, (.int 0), [(6, 1)])), (140, 3, (30, 162, 0, (.int 0), [(2, 41)])), (143, 3, (8, 159, 0, (.int 0), [(6, 11)])), (146, 1, (40, 0, 0, (.int 0), []))]
abbrev ck_Unp_readHeadNumbers : zx_K := [(49, ck_Unp_readHeadNumbers_0), (95, ck_Unp_readHeadNumbers_1), (147, ck_Unp_readHeadNumbers_2)]
def ck_Unp_readChunkHead_0 : List (Nat × Nat × zx_I) := [(0, 1, (1, 0, 2, (.int 0), [])), (1, 3, (7, 23, 0, (.int 0), [(6, 1)])), (4, 1, (0, 0, 0, (.int 1), [])), (5, 3, (30, 67, 1, (.int 0), [(2, 34)])), (8, 3, (21, 12, 1, (.int 0), [])), (11, 1, (40, 0, 0, (.int 0), [])), (12, 1, (1, 0, 2, (.int 0), [])), (13, 1, (1, 0, 2, (.int 0), [])), (14, 3, (7, 23, 0, (.int 0), [(6, 1)])), (17, 3, (7, 71, 0, (.int 0), [(2, 0)])), (20, 1, (1, 0, 2, (.int 0), [])), (21, 3, (7, 23, 0, (.int 0), [(6, 1)])), (24, 3, (7, 78, 0, (.int 0), [(2, 3)])), (27, 1, (9, 0, 0, (.int 0), [])), (28, 3, (8, 122, 0, (.int 0), [(6, 15)])), (31, 1, (1, 0, 2, (.int 0), [])), (32, 3, (30, 166, 0, (.int 0), [(6, 77)])), (35, 3, (21, 55, 1, (.int 0), [])), (38, 1, (1, 0, 2, (.int 0), [])), (39, 3, (7, 23, 0, (.int 0), [(6, 1)])), (42, 2, (0, 0, 1, (.int (-3)), [])), (44, 1, (1, 0, 2, (.int 0), [])), (45, 3, (7, 23, 0, (.int 0), [(6, 1)])), (48, 3, (7, 78, 0, (.int 0), [(2, 3)]))]
def ck_Unp_readChunkHead_1 : List (Nat × Nat × zx_I) := [(51, 3, (30, 74, 2, (.int 0), [(2, 31)])), (54, 1, (40, 0, 0, (.int 0), [])), (55, 1, (1, 0, 2, (.int 0), [])), (56, 3, (7, 23, 0, (.int 0), [(6, 1)])), (59, 1, (12, 0, 0, (.int 0), [])), (60, 3, (7, 78, 0, (.int 0), [(2, 3)])), (63, 1, (0, 0, 0, (.int 1), [])), (64, 1, (4, 0, 0, (.int 0), [])), (65, 3, (8, 78, 0, (.int 0), [(2, 3)])), (68, 1, (1, 0, 2, (.int 0), [])), (69, 3, (7, 122, 0, (.int 0), [(6, 15)])), (72, 3, (21, 76, 1, (.int 0), [])), (75, 1, (40, 0, 0, (.int 0), [])), (76, 1, (1, 0, 2, (.int 0), [])), (77, 1, (0, 0, 0, (.int 0), [])), (78, 3, (8, 105, 0, (.int 0), [(6, 13)])), (81, 1, (1, 0, 2, (.int 0), [])), (82, 3, (30, 169, 0, (.int 0), [(6, 76)])), (85, 3, (21, 104, 0, (.int 0), [])), (88, 1, (1, 0, 2, (.int 0), [])), (89, 1, (1, 0, 2, (.int 0), [])), (90, 3, (7, 14, 0, (.int 0), [(6, 0)])), (93, 3, (7, 99, 0, (.int 0), [(1, 1)])), (96, 3, (8, 172, 0, (.int 0), [(6, 12)]))]
def ck_Unp_readChunkHead_2 : List (Nat × Nat × zx_I) := [(99, 1, (1, 0, 2, (.int 0), [])), (100, 1, (0, 0, 0, (.int 1), [])), (101, 3, (8, 109, 0, (.int 0), [(6, 14)])), (104, 1, (1, 0, 2, (.int 0), [])), (105, 1, (1, 0, 2, (.int 0), [])), (106, 3, (7, 23, 0, (.int 0), [(6, 1)])), (109, 3, (30, 175, 0, (.int 0), [(2, 40)])), (112, 1, (0, 0, 0, (.int 1), [])), (113, 1, (4, 0, 0, (.int 0), [])), (114, 3, (8, 179, 0, (.int 0), [(6, 16)])), (117, 1, (1, 0, 2, (.int 0), [])), (118, 3, (7, 122, 0, (.int 0), [(6, 15)])), (121, 3, (0, 0, 2, (.int 128), [])), (124, 3, (20, 163, 2, (.int 0), [])), (127, 1, (1, 0, 2, (.int 0), [])), (128, 1, (12, 0, 0, (.int 0), [])), (129, 3, (7, 179, 0, (.int 0), [(6, 16)])), (132, 1, (1, 0, 2, (.int 0), [])), (133, 3, (7, 122, 0, (.int 0), [(6, 15)])), (136, 2, (0, 0, 1, (.int 31), [])), (138, 1, (4, 0, 5, (.int 0), [])), (139, 2, (0, 0, 1, (.int 16), [])), (141, 1, (4, 0, 7, (.int 0), [])), (142, 1, (4, 0, 0, (.int 0), []))]
def ck_Unp_readChunkHead_3 : List (Nat × Nat × zx_I) := [(143, 3, (8, 179, 0, (.int 0), [(6, 16)])), (146, 1, (1, 0, 2, (.int 0), [])), (147, 1, (1, 0, 2, (.int 0), [])), (148, 3, (7, 23, 0, (.int 0), [(6, 1)])), (151, 3, (30, 175, 0, (.int 0), [(2, 40)])), (154, 1, (0, 0, 0, (.int 1), [])), (155, 1, (4, 0, 0, (.int 0), [])), (156, 3, (8, 182, 0, (.int 0), [(6, 17)])), (159, 1, (1, 0, 2, (.int 0), [])), (160, 3, (30, 185, 0, (.int 0), [(6, 78)])), (163, 1, (40, 0, 0, (.int 0), []))]
abbrev ck_Unp_readChunkHead : zx_K := [(49, ck_Unp_readChunkHead_0), (97, ck_Unp_readChunkHead_1), (143, ck_Unp_readChunkHead_2), (164, ck_Unp_readChunkHead_3)]
def ck_Unp_empties_0 : List (Nat × Nat × zx_I) := [(0, 1, (1, 0, 2, (.int 0), [])), (1, 3, (7, 122, 0, (.int 0), [(6, 15)])), (4, 1, (0, 0, 0, (.int 1), [])), (5, 3, (20, 18, 0, (.int 0), [])), (8, 1, (1, 0, 2, (.int 0), [])), (9, 3, (7, 122, 0, (.int 0), [(6, 15)])), (12, 3, (0, 0, 2, (.int 224), [])), (15, 3, (20, 22, 2, (.int 0), [])), (18, 1, (0, 0, 0, (.int 1), [])), (19, 3, (6, 23, 0, (.int 0), [])), (22, 1, (0, 0, 0, (.int 0), [])), (23, 1, (40, 0, 4, (.int 0), []))]
abbrev ck_Unp_empties : zx_K := [(24, ck_Unp_empties_0)]
def ck_Unp_isAllowed_0 : List (Nat × Nat × zx_I) := [(0, 1, (1, 0, 2, (.int 0), [])), (1, 3, (7, 122, 0, (.int 0), [(6, 15)])), (4, 3, (21, 9, 1, (.int 0), [])), (7, 1, (0, 0, 0, (.int 1), [])), (8, 1, (40, 0, 4, (.int 0), [])), (9, 1, (1, 0, 2, (.int 0), [])), (10, 3, (7, 122, 0, (.int 0), [(6, 15)])), (13, 1, (0, 0, 0, (.int 2), [])), (14, 3, (20, 27, 5, (.int 0), [])), (17, 1, (1, 0, 2, (.int 0), [])), (18, 3, (7, 122, 0, (.int 0), [(6, 15)])), (21, 3, (0, 0, 2, (.int 128), [])), (24, 3, (20, 41, 2, (.int 0), [])), (27, 1, (1, 0, 2, (.int 0), [])), (28, 3, (7, 105, 0, (.int 0), [(6, 13)])), (31, 3, (21, 43, 0, (.int 0), [])), (34, 1, (1, 0, 2, (.int 0), [])), (35, 3, (30, 169, 0, (.int 0), [(6, 76)])), (38, 3, (21, 43, 1, (.int 0), [])), (41, 1, (0, 0, 0, (.int 0), [])), (42, 1, (40, 0, 4, (.int 0), [])), (43, 1, (1, 0, 2, (.int 0), [])), (44, 3, (7, 122, 0, (.int 0), [(6, 15)])), (47, 3, (0, 0, 2, (.int 128), []))]
def ck_Unp_isAllowed_1 : List (Nat × Nat × zx_I) := [(50, 3, (20, 70, 2, (.int 0), [])), (53, 1, (1, 0, 2, (.int 0), [])), (54, 3, (7, 122, 0, (.int 0), [(6, 15)])), (57, 3, (0, 0, 2, (.int 192), [])), (60, 3, (20, 70, 3, (.int 0), [])), (63, 1, (1, 0, 2, (.int 0), [])), (64, 3, (7, 109, 0, (.int 0), [(6, 14)])), (67, 3, (21, 74, 1, (.int 0), [])), (70, 1, (0, 0, 0, (.int 1), [])), (71, 3, (6, 75, 0, (.int 0), [])), (74, 1, (0, 0, 0, (.int 0), [])), (75, 1, (40, 0, 4, (.int 0), []))]
abbrev ck_Unp_isAllowed : zx_K := [(48, ck_Unp_isAllowed_0), (76, ck_Unp_isAllowed_1)]
def ck_Unp_readProperties_0 : List (Nat × Nat × zx_I) := [(0, 1, (1, 0, 2, (.int 0), [])), (1, 3, (7, 122, 0, (.int 0), [(6, 15)])), (4, 3, (0, 0, 2, (.int 192), [])), (7, 3, (20, 87, 2, (.int 0), [])), (10, 1, (1, 0, 2, (.int 0), [])), (11, 3, (7, 23, 0, (.int 0), [(6, 1)])), (14, 1, (0, 0, 0, (.int 1), [])), (15, 3, (30, 67, 1, (.int 0), [(2, 34)])), (18, 3, (21, 87, 0, (.int 0), [])), (21, 1, (1, 0, 2, (.int 0), [])), (22, 3, (7, 23, 0, (.int 0), [(6, 1)])), (25, 3, (7, 71, 0, (.int 0), [(2, 0)])), (28, 1, (1, 0, 2, (.int 0), [])), (29, 3, (7, 23, 0, (.int 0), [(6, 1)])), (32, 3, (7, 78, 0, (.int 0), [(2, 3)])), (35, 1, (9, 0, 0, (.int 0), [])), (36, 1, (2, 1, 0, (.int 0), [])), (37, 1, (1, 1, 0, (.int 0), [])), (38, 3, (31, 188, 1, (.int 0), [(0, 16)])), (41, 3, (21, 61, 1, (.int 0), [])), (44, 1, (1, 0, 2, (.int 0), [])), (45, 3, (7, 23, 0, (.int 0), [(6, 1)])), (48, 2, (0, 0, 1, (.int (-3)), [])), (50, 1, (1, 0, 2, (.int 0), []))]
def ck_Unp_readProperties_1 : List (Nat × Nat × zx_I) := [(51, 3, (7, 23, 0, (.int 0), [(6, 1)])), (54, 3, (7, 78, 0, (.int 0), [(2, 3)])), (57, 3, (30, 74, 2, (.int 0), [(2, 31)])), (60, 1, (40, 0, 0, (.int 0), [])), (61, 1, (1, 0, 2, (.int 0), [])), (62, 3, (7, 23, 0, (.int 0), [(6, 1)])), (65, 1, (12, 0, 0, (.int 0), [])), (66, 3, (7, 78, 0, (.int 0), [(2, 3)])), (69, 1, (0, 0, 0, (.int 1), [])), (70, 1, (4, 0, 0, (.int 0), [])), (71, 3, (8, 78, 0, (.int 0), [(2, 3)])), (74, 1, (1, 0, 2, (.int 0), [])), (75, 1, (0, 0, 0, (.int 0), [])), (76, 3, (8, 109, 0, (.int 0), [(6, 14)])), (79, 1, (1, 0, 2, (.int 0), [])), (80, 3, (7, 38, 0, (.int 0), [(6, 3)])), (83, 1, (1, 1, 0, (.int 0), [])), (84, 3, (30, 191, 1, (.int 0), [(5, 56)])), (87, 1, (1, 0, 2, (.int 0), [])), (88, 3, (7, 122, 0, (.int 0), [(6, 15)])), (91, 3, (0, 0, 2, (.int 160), [])), (94, 3, (20, 114, 2, (.int 0), [])), (97, 1, (1, 0, 2, (.int 0), [])), (98, 3, (7, 23, 0, (.int 0), [(6, 1)]))]
def ck_Unp_readProperties_2 : List (Nat × Nat × zx_I) := [(101, 3, (30, 115, 0, (.int 0), [(2, 30)])), (104, 3, (21, 114, 0, (.int 0), [])), (107, 1, (1, 0, 2, (.int 0), [])), (108, 3, (7, 38, 0, (.int 0), [(6, 3)])), (111, 3, (30, 196, 0, (.int 0), [(5, 57)])), (114, 1, (40, 0, 0, (.int 0), []))]
abbrev ck_Unp_readProperties : zx_K := [(51, ck_Unp_readProperties_0), (99, ck_Unp_readProperties_1), (115, ck_Unp_readProperties_2)]
def ck_Unp_hasBytesAndRoom_0 : List (Nat × Nat × zx_I) := [(0, 1, (1, 0, 2, (.int 0), [])), (1, 3, (7, 23, 0, (.int 0), [(6, 1)])), (4, 1, (1, 1, 0, (.int 0), [])), (5, 3, (30, 67, 1, (.int 0), [(2, 34)])), (8, 3, (21, 41, 0, (.int 0), [])), (11, 1, (1, 0, 2, (.int 0), [])), (12, 3, (7, 14, 0, (.int 0), [(6, 0)])), (15, 1, (1, 0, 2, (.int 0), [])), (16, 3, (7, 179, 0, (.int 0), [(6, 16)])), (19, 3, (30, 199, 1, (.int 0), [(1, 21)])), (22, 3, (21, 41, 1, (.int 0), [])), (25, 1, (1, 0, 2, (.int 0), [])), (26, 3, (7, 23, 0, (.int 0), [(6, 1)])), (29, 2, (0, 0, 1, (.int (-5)), [])), (31, 1, (1, 0, 2, (.int 0), [])), (32, 3, (7, 23, 0, (.int 0), [(6, 1)])), (35, 3, (7, 78, 0, (.int 0), [(2, 3)])), (38, 3, (30, 74, 2, (.int 0), [(2, 31)])), (41, 1, (1, 0, 2, (.int 0), [])), (42, 3, (7, 23, 0, (.int 0), [(6, 1)])), (45, 3, (30, 115, 0, (.int 0), [(2, 30)])), (48, 1, (40, 0, 4, (.int 0), []))]
abbrev ck_Unp_hasBytesAndRoom : zx_K := [(49, ck_Unp_hasBytesAndRoom_0)]
def ck_Unp_givePlain_0 : List (Nat × Nat × zx_I) := [(0, 1, (1, 0, 2, (.int 0), [])), (1, 1, (1, 0, 2, (.int 0), [])), (2, 3, (7, 179, 0, (.int 0), [(6, 16)])), (5, 3, (30, 202, 1, (.int 0), [(6, 79)])), (8, 3, (21, 12, 1, (.int 0), [])), (11, 1, (40, 0, 0, (.int 0), [])), (12, 1, (1, 0, 2, (.int 0), [])), (13, 3, (7, 14, 0, (.int 0), [(6, 0)])), (16, 1, (1, 0, 2, (.int 0), [])), (17, 3, (7, 23, 0, (.int 0), [(6, 1)])), (20, 3, (7, 71, 0, (.int 0), [(2, 0)])), (23, 1, (1, 0, 2, (.int 0), [])), (24, 3, (7, 23, 0, (.int 0), [(6, 1)])), (27, 3, (7, 78, 0, (.int 0), [(2, 3)])), (30, 1, (1, 0, 2, (.int 0), [])), (31, 3, (7, 179, 0, (.int 0), [(6, 16)])), (34, 3, (30, 205, 3, (.int 0), [(1, 23)])), (37, 1, (1, 0, 2, (.int 0), [])), (38, 3, (7, 23, 0, (.int 0), [(6, 1)])), (41, 1, (12, 0, 0, (.int 0), [])), (42, 3, (7, 78, 0, (.int 0), [(2, 3)])), (45, 1, (1, 0, 2, (.int 0), [])), (46, 3, (7, 179, 0, (.int 0), [(6, 16)])), (49, 1, (4, 0, 0, (.int 0), []))]
def ck_Unp_givePlain_1 : List (Nat × Nat × zx_I) := [(50, 3, (8, 78, 0, (.int 0), [(2, 3)])), (53, 1, (1, 0, 2, (.int 0), [])), (54, 3, (7, 27, 0, (.int 0), [(6, 2)])), (57, 2, (0, 0, 1, (.int 9), [])), (59, 1, (13, 0, 0, (.int 0), [])), (60, 1, (9, 0, 0, (.int 0), [])), (61, 1, (0, 0, 0, (.int 1), [])), (62, 1, (4, 0, 0, (.int 0), [])), (63, 1, (10, 0, 0, (.int 0), [])), (64, 1, (40, 0, 0, (.int 0), []))]
abbrev ck_Unp_givePlain : zx_K := [(50, ck_Unp_givePlain_0), (65, ck_Unp_givePlain_1)]
def ck_Unp_giveCoded_0 : List (Nat × Nat × zx_I) := [(0, 1, (1, 0, 2, (.int 0), [])), (1, 1, (1, 0, 2, (.int 0), [])), (2, 3, (7, 182, 0, (.int 0), [(6, 17)])), (5, 3, (30, 202, 1, (.int 0), [(6, 79)])), (8, 3, (21, 12, 1, (.int 0), [])), (11, 1, (40, 0, 0, (.int 0), [])), (12, 1, (1, 0, 2, (.int 0), [])), (13, 3, (7, 14, 0, (.int 0), [(6, 0)])), (16, 3, (7, 99, 0, (.int 0), [(1, 1)])), (19, 1, (1, 0, 2, (.int 0), [])), (20, 3, (7, 179, 0, (.int 0), [(6, 16)])), (23, 1, (4, 0, 0, (.int 0), [])), (24, 1, (2, 1, 0, (.int 0), [])), (25, 1, (1, 0, 2, (.int 0), [])), (26, 3, (7, 42, 0, (.int 0), [(6, 4)])), (29, 1, (1, 0, 2, (.int 0), [])), (30, 3, (7, 23, 0, (.int 0), [(6, 1)])), (33, 3, (7, 71, 0, (.int 0), [(2, 0)])), (36, 1, (1, 0, 2, (.int 0), [])), (37, 3, (7, 23, 0, (.int 0), [(6, 1)])), (40, 3, (7, 78, 0, (.int 0), [(2, 3)])), (43, 1, (1, 0, 2, (.int 0), [])), (44, 3, (7, 23, 0, (.int 0), [(6, 1)])), (47, 3, (7, 78, 0, (.int 0), [(2, 3)]))]
def ck_Unp_giveCoded_1 : List (Nat × Nat × zx_I) := [(50, 1, (1, 0, 2, (.int 0), [])), (51, 3, (7, 182, 0, (.int 0), [(6, 17)])), (54, 1, (4, 0, 0, (.int 0), [])), (55, 3, (30, 209, 3, (.int 0), [(3, 44)])), (58, 1, (1, 0, 2, (.int 0), [])), (59, 3, (7, 38, 0, (.int 0), [(6, 3)])), (62, 1, (1, 0, 2, (.int 0), [])), (63, 3, (7, 42, 0, (.int 0), [(6, 4)])), (66, 3, (30, 211, 1, (.int 0), [(5, 58)])), (69, 1, (0, 0, 0, (.int 0), [])), (70, 1, (2, 2, 0, (.int 0), [])), (71, 1, (1, 2, 0, (.int 0), [])), (72, 1, (1, 0, 2, (.int 0), [])), (73, 3, (7, 179, 0, (.int 0), [(6, 16)])), (76, 3, (20, 218, 3, (.int 0), [])), (79, 1, (1, 0, 2, (.int 0), [])), (80, 3, (7, 14, 0, (.int 0), [(6, 0)])), (83, 3, (7, 99, 0, (.int 0), [(1, 1)])), (86, 1, (1, 1, 0, (.int 0), [])), (87, 3, (20, 218, 3, (.int 0), [])), (90, 1, (1, 0, 2, (.int 0), [])), (91, 3, (7, 14, 0, (.int 0), [(6, 0)])), (94, 3, (7, 99, 0, (.int 0), [(1, 1)])), (97, 1, (1, 0, 2, (.int 0), []))]
def ck_Unp_giveCoded_2 : List (Nat × Nat × zx_I) := [(98, 3, (7, 172, 0, (.int 0), [(6, 12)])), (101, 1, (4, 0, 1, (.int 0), [])), (102, 1, (2, 3, 0, (.int 0), [])), (103, 1, (1, 3, 0, (.int 0), [])), (104, 3, (21, 125, 5, (.int 0), [])), (107, 1, (1, 0, 2, (.int 0), [])), (108, 3, (7, 14, 0, (.int 0), [(6, 0)])), (111, 1, (1, 0, 2, (.int 0), [])), (112, 3, (7, 14, 0, (.int 0), [(6, 0)])), (115, 3, (7, 99, 0, (.int 0), [(1, 1)])), (118, 1, (0, 0, 4, (.long 1), [])), (119, 3, (30, 215, 2, (.int 0), [(1, 27)])), (122, 3, (6, 126, 0, (.int 0), [])), (125, 1, (0, 0, 0, (.int 0), [])), (126, 2, (2, 4, 0, (.int 0), [])), (128, 1, (1, 0, 2, (.int 0), [])), (129, 3, (7, 38, 0, (.int 0), [(6, 3)])), (132, 1, (1, 3, 0, (.int 0), [])), (133, 2, (1, 4, 0, (.int 0), [])), (135, 1, (1, 0, 2, (.int 0), [])), (136, 3, (7, 14, 0, (.int 0), [(6, 0)])), (139, 1, (1, 0, 2, (.int 0), [])), (140, 3, (7, 14, 0, (.int 0), [(6, 0)])), (143, 3, (7, 99, 0, (.int 0), [(1, 1)]))]
def ck_Unp_giveCoded_3 : List (Nat × Nat × zx_I) := [(146, 1, (1, 0, 2, (.int 0), [])), (147, 3, (7, 38, 0, (.int 0), [(6, 3)])), (150, 1, (0, 0, 0, (.int 0), [])), (151, 3, (30, 219, 1, (.int 0), [(5, 59)])), (154, 3, (30, 215, 2, (.int 0), [(1, 27)])), (157, 3, (30, 223, 3, (.int 0), [(5, 60)])), (160, 1, (1, 0, 2, (.int 0), [])), (161, 3, (7, 42, 0, (.int 0), [(6, 4)])), (164, 3, (7, 227, 0, (.int 0), [(3, 2)])), (167, 3, (21, 179, 1, (.int 0), [])), (170, 1, (1, 0, 2, (.int 0), [])), (171, 1, (1, 3, 0, (.int 0), [])), (172, 1, (1, 1, 0, (.int 0), [])), (173, 3, (30, 230, 2, (.int 0), [(6, 82)])), (176, 3, (21, 196, 1, (.int 0), [])), (179, 1, (1, 0, 2, (.int 0), [])), (180, 3, (7, 23, 0, (.int 0), [(6, 1)])), (183, 2, (0, 0, 1, (.int (-6)), [])), (185, 1, (1, 0, 2, (.int 0), [])), (186, 3, (7, 23, 0, (.int 0), [(6, 1)])), (189, 3, (7, 78, 0, (.int 0), [(2, 3)])), (192, 3, (30, 74, 2, (.int 0), [(2, 31)])), (195, 1, (40, 0, 0, (.int 0), [])), (196, 1, (1, 0, 2, (.int 0), []))]
def ck_Unp_giveCoded_4 : List (Nat × Nat × zx_I) := [(197, 3, (7, 27, 0, (.int 0), [(6, 2)])), (200, 1, (1, 0, 2, (.int 0), [])), (201, 3, (7, 38, 0, (.int 0), [(6, 3)])), (204, 3, (7, 234, 0, (.int 0), [(5, 7)])), (207, 1, (13, 0, 0, (.int 0), [])), (208, 1, (9, 0, 0, (.int 0), [])), (209, 1, (0, 0, 0, (.int 1), [])), (210, 1, (4, 0, 0, (.int 0), [])), (211, 1, (10, 0, 0, (.int 0), [])), (212, 3, (3, 2, 0, (.int 1), [])), (215, 3, (6, 71, 0, (.int 0), [])), (218, 1, (1, 0, 2, (.int 0), [])), (219, 3, (7, 42, 0, (.int 0), [(6, 4)])), (222, 3, (30, 237, 0, (.int 0), [(3, 49)])), (225, 3, (21, 245, 1, (.int 0), [])), (228, 1, (1, 0, 2, (.int 0), [])), (229, 3, (7, 23, 0, (.int 0), [(6, 1)])), (232, 2, (0, 0, 1, (.int (-6)), [])), (234, 1, (1, 0, 2, (.int 0), [])), (235, 3, (7, 23, 0, (.int 0), [(6, 1)])), (238, 3, (7, 78, 0, (.int 0), [(2, 3)])), (241, 3, (30, 74, 2, (.int 0), [(2, 31)])), (244, 1, (40, 0, 0, (.int 0), [])), (245, 1, (1, 0, 2, (.int 0), []))]
def ck_Unp_giveCoded_5 : List (Nat × Nat × zx_I) := [(246, 3, (7, 23, 0, (.int 0), [(6, 1)])), (249, 1, (12, 0, 0, (.int 0), [])), (250, 3, (7, 78, 0, (.int 0), [(2, 3)])), (253, 1, (1, 0, 2, (.int 0), [])), (254, 3, (7, 182, 0, (.int 0), [(6, 17)])), (257, 1, (4, 0, 0, (.int 0), [])), (258, 3, (8, 78, 0, (.int 0), [(2, 3)])), (261, 1, (1, 0, 2, (.int 0), [])), (262, 3, (7, 27, 0, (.int 0), [(6, 2)])), (265, 2, (0, 0, 1, (.int 8), [])), (267, 1, (13, 0, 0, (.int 0), [])), (268, 1, (9, 0, 0, (.int 0), [])), (269, 1, (0, 0, 0, (.int 1), [])), (270, 1, (4, 0, 0, (.int 0), [])), (271, 1, (10, 0, 0, (.int 0), [])), (272, 1, (40, 0, 0, (.int 0), []))]
abbrev ck_Unp_giveCoded : zx_K := [(48, ck_Unp_giveCoded_0), (98, ck_Unp_giveCoded_1), (144, ck_Unp_giveCoded_2), (197, ck_Unp_giveCoded_3), (246, ck_Unp_giveCoded_4), (273, ck_Unp_giveCoded_5)]
def ck_Unp_giveStep_0 : List (Nat × Nat × zx_I) := [(0, 1, (1, 0, 2, (.int 0), [])), (1, 3, (7, 38, 0, (.int 0), [(6, 3)])), (4, 3, (7, 234, 0, (.int 0), [(5, 7)])), (7, 1, (0, 0, 0, (.int 1), [])), (8, 3, (20, 27, 1, (.int 0), [])), (11, 1, (1, 0, 2, (.int 0), [])), (12, 3, (7, 14, 0, (.int 0), [(6, 0)])), (15, 1, (1, 0, 2, (.int 0), [])), (16, 3, (7, 38, 0, (.int 0), [(6, 3)])), (19, 3, (7, 240, 0, (.int 0), [(5, 8)])), (22, 3, (30, 243, 1, (.int 0), [(1, 22)])), (25, 1, (0, 0, 0, (.int 1), [])), (26, 1, (40, 0, 4, (.int 0), [])), (27, 1, (1, 0, 2, (.int 0), [])), (28, 3, (7, 38, 0, (.int 0), [(6, 3)])), (31, 1, (0, 0, 0, (.int 0), [])), (32, 3, (30, 219, 1, (.int 0), [(5, 59)])), (35, 1, (1, 1, 0, (.int 0), [])), (36, 1, (5, 0, 0, (.int 0), [])), (37, 4, (22, 60, 4, (.int 0), [])), (41, 1, (1, 0, 2, (.int 0), [])), (42, 3, (7, 38, 0, (.int 0), [(6, 3)])), (45, 3, (7, 246, 0, (.int 0), [(5, 9)])), (48, 1, (1, 2, 0, (.int 0), []))]
def ck_Unp_giveStep_1 : List (Nat × Nat × zx_I) := [(49, 1, (1, 0, 2, (.int 0), [])), (50, 3, (7, 14, 0, (.int 0), [(6, 0)])), (53, 3, (7, 99, 0, (.int 0), [(1, 1)])), (56, 1, (4, 0, 1, (.int 0), [])), (57, 3, (20, 62, 5, (.int 0), [])), (60, 1, (0, 0, 0, (.int 0), [])), (61, 1, (40, 0, 4, (.int 0), [])), (62, 1, (1, 0, 2, (.int 0), [])), (63, 3, (7, 14, 0, (.int 0), [(6, 0)])), (66, 1, (1, 0, 2, (.int 0), [])), (67, 3, (7, 38, 0, (.int 0), [(6, 3)])), (70, 1, (0, 0, 0, (.int 0), [])), (71, 3, (30, 219, 1, (.int 0), [(5, 59)])), (74, 1, (1, 0, 2, (.int 0), [])), (75, 3, (7, 38, 0, (.int 0), [(6, 3)])), (78, 3, (7, 246, 0, (.int 0), [(5, 9)])), (81, 3, (30, 249, 2, (.int 0), [(1, 25)])), (84, 1, (0, 0, 0, (.int 1), [])), (85, 1, (40, 0, 4, (.int 0), []))]
abbrev ck_Unp_giveStep : zx_K := [(49, ck_Unp_giveStep_0), (86, ck_Unp_giveStep_1)]
def ck_Unp_closeBlock_0 : List (Nat × Nat × zx_I) := [(0, 1, (1, 0, 2, (.int 0), [])), (1, 3, (7, 23, 0, (.int 0), [(6, 1)])), (4, 3, (30, 115, 0, (.int 0), [(2, 30)])), (7, 3, (21, 11, 1, (.int 0), [])), (10, 1, (40, 0, 0, (.int 0), [])), (11, 1, (1, 0, 2, (.int 0), [])), (12, 3, (7, 23, 0, (.int 0), [(6, 1)])), (15, 3, (7, 78, 0, (.int 0), [(2, 3)])), (18, 1, (1, 1, 0, (.int 0), [])), (19, 1, (4, 0, 1, (.int 0), [])), (20, 1, (2, 2, 0, (.int 0), [])), (21, 1, (1, 0, 2, (.int 0), [])), (22, 3, (7, 14, 0, (.int 0), [(6, 0)])), (25, 3, (7, 99, 0, (.int 0), [(1, 1)])), (28, 1, (1, 0, 2, (.int 0), [])), (29, 3, (7, 102, 0, (.int 0), [(6, 9)])), (32, 1, (4, 0, 1, (.int 0), [])), (33, 1, (2, 3, 0, (.int 0), [])), (34, 1, (1, 0, 2, (.int 0), [])), (35, 3, (7, 155, 0, (.int 0), [(6, 10)])), (38, 3, (0, 153, 5, (.long (-1)), [])), (41, 4, (22, 55, 0, (.int 0), [])), (45, 1, (1, 0, 2, (.int 0), [])), (46, 3, (7, 155, 0, (.int 0), [(6, 10)]))]
def ck_Unp_closeBlock_1 : List (Nat × Nat × zx_I) := [(49, 1, (1, 2, 0, (.int 0), [])), (50, 1, (5, 0, 0, (.int 0), [])), (51, 4, (22, 76, 1, (.int 0), [])), (55, 1, (1, 0, 2, (.int 0), [])), (56, 3, (7, 159, 0, (.int 0), [(6, 11)])), (59, 3, (0, 153, 5, (.long (-1)), [])), (62, 4, (22, 90, 0, (.int 0), [])), (66, 1, (1, 0, 2, (.int 0), [])), (67, 3, (7, 159, 0, (.int 0), [(6, 11)])), (70, 1, (1, 3, 0, (.int 0), [])), (71, 1, (5, 0, 0, (.int 0), [])), (72, 4, (22, 90, 0, (.int 0), [])), (76, 1, (1, 0, 2, (.int 0), [])), (77, 3, (7, 23, 0, (.int 0), [(6, 1)])), (80, 2, (0, 0, 1, (.int (-6)), [])), (82, 1, (1, 0, 2, (.int 0), [])), (83, 3, (7, 96, 0, (.int 0), [(6, 8)])), (86, 3, (30, 74, 2, (.int 0), [(2, 31)])), (89, 1, (40, 0, 0, (.int 0), [])), (90, 1, (1, 0, 2, (.int 0), [])), (91, 3, (7, 23, 0, (.int 0), [(6, 1)])), (94, 3, (7, 78, 0, (.int 0), [(2, 3)])), (97, 1, (1, 0, 2, (.int 0), [])), (98, 3, (7, 96, 0, (.int 0), [(6, 8)]))]
def ck_Unp_closeBlock_2 : List (Nat × Nat × zx_I) := [(101, 1, (4, 0, 1, (.int 0), [])), (102, 1, (1, 0, 2, (.int 0), [])), (103, 3, (7, 82, 0, (.int 0), [(6, 7)])), (106, 3, (31, 253, 1, (.int 0), [(0, 15)])), (109, 1, (4, 0, 0, (.int 0), [])), (110, 1, (5, 0, 0, (.int 0), [])), (111, 2, (2, 4, 1, (.int 0), [])), (113, 1, (1, 0, 2, (.int 0), [])), (114, 3, (7, 23, 0, (.int 0), [(6, 1)])), (117, 1, (1, 0, 2, (.int 0), [])), (118, 3, (7, 96, 0, (.int 0), [(6, 8)])), (121, 3, (30, 257, 1, (.int 0), [(2, 37)])), (124, 1, (1, 0, 2, (.int 0), [])), (125, 3, (7, 82, 0, (.int 0), [(6, 7)])), (128, 1, (0, 0, 0, (.int 1), [])), (129, 3, (20, 164, 1, (.int 0), [])), (132, 1, (1, 0, 2, (.int 0), [])), (133, 3, (7, 23, 0, (.int 0), [(6, 1)])), (136, 1, (0, 0, 0, (.int 4), [])), (137, 1, (1, 0, 2, (.int 0), [])), (138, 3, (7, 14, 0, (.int 0), [(6, 0)])), (141, 3, (7, 260, 0, (.int 0), [(1, 0)])), (144, 1, (1, 0, 2, (.int 0), [])), (145, 3, (7, 102, 0, (.int 0), [(6, 9)]))]
def ck_Unp_closeBlock_3 : List (Nat × Nat × zx_I) := [(148, 1, (1, 0, 2, (.int 0), [])), (149, 3, (7, 14, 0, (.int 0), [(6, 0)])), (152, 3, (7, 99, 0, (.int 0), [(1, 1)])), (155, 3, (31, 88, 3, (.int 0), [(0, 17)])), (158, 3, (30, 92, 2, (.int 0), [(2, 39)])), (161, 3, (6, 202, 0, (.int 0), [])), (164, 1, (1, 0, 2, (.int 0), [])), (165, 3, (7, 82, 0, (.int 0), [(6, 7)])), (168, 1, (0, 0, 0, (.int 4), [])), (169, 3, (20, 202, 1, (.int 0), [])), (172, 1, (1, 0, 2, (.int 0), [])), (173, 3, (7, 23, 0, (.int 0), [(6, 1)])), (176, 2, (0, 0, 1, (.int 8), [])), (178, 1, (1, 0, 2, (.int 0), [])), (179, 3, (7, 14, 0, (.int 0), [(6, 0)])), (182, 3, (7, 260, 0, (.int 0), [(1, 0)])), (185, 1, (1, 0, 2, (.int 0), [])), (186, 3, (7, 102, 0, (.int 0), [(6, 9)])), (189, 1, (1, 0, 2, (.int 0), [])), (190, 3, (7, 14, 0, (.int 0), [(6, 0)])), (193, 3, (7, 99, 0, (.int 0), [(1, 1)])), (196, 3, (31, 261, 3, (.int 0), [(0, 18)])), (199, 3, (30, 92, 2, (.int 0), [(2, 39)])), (202, 1, (1, 0, 2, (.int 0), []))]
def ck_Unp_closeBlock_4 : List (Nat × Nat × zx_I) := [(203, 3, (7, 27, 0, (.int 0), [(6, 2)])), (206, 2, (0, 0, 1, (.int 10), [])), (208, 1, (9, 0, 0, (.int 0), [])), (209, 2, (2, 6, 0, (.int 0), [])), (211, 1, (1, 0, 2, (.int 0), [])), (212, 3, (7, 23, 0, (.int 0), [(6, 1)])), (215, 3, (30, 115, 0, (.int 0), [(2, 30)])), (218, 3, (21, 257, 0, (.int 0), [])), (221, 2, (1, 6, 0, (.int 0), [])), (223, 2, (0, 0, 1, (.int 40), [])), (225, 3, (20, 257, 3, (.int 0), [])), (228, 1, (1, 0, 2, (.int 0), [])), (229, 3, (7, 31, 0, (.int 0), [(6, 5)])), (232, 2, (1, 6, 0, (.int 0), [])), (234, 2, (1, 4, 1, (.int 0), [])), (236, 1, (10, 0, 1, (.int 0), [])), (237, 1, (1, 0, 2, (.int 0), [])), (238, 3, (7, 35, 0, (.int 0), [(6, 6)])), (241, 2, (1, 6, 0, (.int 0), [])), (243, 1, (1, 3, 0, (.int 0), [])), (244, 1, (5, 0, 0, (.int 0), [])), (245, 1, (10, 0, 1, (.int 0), [])), (246, 1, (1, 0, 2, (.int 0), [])), (247, 3, (7, 27, 0, (.int 0), [(6, 2)]))]
def ck_Unp_closeBlock_5 : List (Nat × Nat × zx_I) := [(250, 2, (0, 0, 1, (.int 10), [])), (252, 1, (13, 0, 0, (.int 0), [])), (253, 1, (9, 0, 0, (.int 0), [])), (254, 1, (0, 0, 0, (.int 1), [])), (255, 1, (4, 0, 0, (.int 0), [])), (256, 1, (10, 0, 0, (.int 0), [])), (257, 1, (40, 0, 0, (.int 0), []))]
abbrev ck_Unp_closeBlock : zx_K := [(47, ck_Unp_closeBlock_0), (99, ck_Unp_closeBlock_1), (146, ck_Unp_closeBlock_2), (203, ck_Unp_closeBlock_3), (248, ck_Unp_closeBlock_4), (258, ck_Unp_closeBlock_5)]
def ck_Unp_readIndex_0 : List (Nat × Nat × zx_I) := [(0, 1, (1, 0, 2, (.int 0), [])), (1, 3, (7, 23, 0, (.int 0), [(6, 1)])), (4, 3, (30, 115, 0, (.int 0), [(2, 30)])), (7, 3, (21, 11, 1, (.int 0), [])), (10, 1, (40, 0, 0, (.int 0), [])), (11, 1, (1, 0, 2, (.int 0), [])), (12, 3, (7, 23, 0, (.int 0), [(6, 1)])), (15, 3, (7, 78, 0, (.int 0), [(2, 3)])), (18, 1, (2, 1, 0, (.int 0), [])), (19, 1, (1, 0, 2, (.int 0), [])), (20, 3, (7, 23, 0, (.int 0), [(6, 1)])), (23, 1, (0, 0, 0, (.int 0), [])), (24, 3, (30, 144, 1, (.int 0), [(2, 35)])), (27, 1, (1, 0, 2, (.int 0), [])), (28, 3, (7, 23, 0, (.int 0), [(6, 1)])), (31, 1, (1, 0, 2, (.int 0), [])), (32, 3, (7, 27, 0, (.int 0), [(6, 2)])), (35, 2, (0, 0, 1, (.int 10), [])), (37, 1, (9, 0, 0, (.int 0), [])), (38, 1, (5, 0, 0, (.int 0), [])), (39, 3, (30, 264, 1, (.int 0), [(2, 42)])), (42, 1, (0, 0, 0, (.int 0), [])), (43, 1, (2, 2, 0, (.int 0), [])), (44, 1, (1, 2, 0, (.int 0), []))]
def ck_Unp_readIndex_1 : List (Nat × Nat × zx_I) := [(45, 1, (1, 0, 2, (.int 0), [])), (46, 3, (7, 27, 0, (.int 0), [(6, 2)])), (49, 2, (0, 0, 1, (.int 10), [])), (51, 1, (9, 0, 0, (.int 0), [])), (52, 3, (20, 97, 3, (.int 0), [])), (55, 1, (1, 0, 2, (.int 0), [])), (56, 3, (7, 23, 0, (.int 0), [(6, 1)])), (59, 3, (30, 115, 0, (.int 0), [(2, 30)])), (62, 3, (21, 97, 0, (.int 0), [])), (65, 1, (1, 0, 2, (.int 0), [])), (66, 3, (7, 23, 0, (.int 0), [(6, 1)])), (69, 1, (1, 0, 2, (.int 0), [])), (70, 3, (7, 31, 0, (.int 0), [(6, 5)])), (73, 1, (1, 2, 0, (.int 0), [])), (74, 1, (9, 0, 1, (.int 0), [])), (75, 3, (30, 264, 1, (.int 0), [(2, 42)])), (78, 1, (1, 0, 2, (.int 0), [])), (79, 3, (7, 23, 0, (.int 0), [(6, 1)])), (82, 1, (1, 0, 2, (.int 0), [])), (83, 3, (7, 35, 0, (.int 0), [(6, 6)])), (86, 1, (1, 2, 0, (.int 0), [])), (87, 1, (9, 0, 1, (.int 0), [])), (88, 3, (30, 264, 1, (.int 0), [(2, 42)])), (91, 3, (3, 2, 0, (.int 1), []))]
def ck_Unp_readIndex_2 : List (Nat × Nat × zx_I) := [(94, 3, (6, 44, 0, (.int 0), [])), (97, 1, (1, 0, 2, (.int 0), [])), (98, 3, (7, 23, 0, (.int 0), [(6, 1)])), (101, 1, (1, 1, 0, (.int 0), [])), (102, 3, (30, 257, 1, (.int 0), [(2, 37)])), (105, 1, (1, 0, 2, (.int 0), [])), (106, 3, (7, 23, 0, (.int 0), [(6, 1)])), (109, 1, (0, 0, 0, (.int 4), [])), (110, 1, (1, 0, 2, (.int 0), [])), (111, 3, (7, 23, 0, (.int 0), [(6, 1)])), (114, 3, (7, 71, 0, (.int 0), [(2, 0)])), (117, 1, (1, 1, 0, (.int 0), [])), (118, 1, (1, 0, 2, (.int 0), [])), (119, 3, (7, 23, 0, (.int 0), [(6, 1)])), (122, 3, (7, 78, 0, (.int 0), [(2, 3)])), (125, 3, (31, 88, 3, (.int 0), [(0, 17)])), (128, 3, (30, 92, 2, (.int 0), [(2, 39)])), (131, 1, (1, 0, 2, (.int 0), [])), (132, 1, (1, 0, 2, (.int 0), [])), (133, 3, (7, 23, 0, (.int 0), [(6, 1)])), (136, 3, (7, 78, 0, (.int 0), [(2, 3)])), (139, 1, (1, 1, 0, (.int 0), [])), (140, 1, (4, 0, 1, (.int 0), [])), (141, 3, (8, 268, 0, (.int 0), [(6, 18)]))]
def ck_Unp_readIndex_3 : List (Nat × Nat × zx_I) := [(144, 1, (40, 0, 0, (.int 0), []))]
abbrev ck_Unp_readIndex : zx_K := [(45, ck_Unp_readIndex_0), (92, ck_Unp_readIndex_1), (142, ck_Unp_readIndex_2), (145, ck_Unp_readIndex_3)]
def ck_Unp_readEnd_0 : List (Nat × Nat × zx_I) := [(0, 1, (1, 0, 2, (.int 0), [])), (1, 3, (7, 23, 0, (.int 0), [(6, 1)])), (4, 2, (0, 0, 1, (.int 12), [])), (6, 3, (30, 67, 1, (.int 0), [(2, 34)])), (9, 3, (21, 13, 1, (.int 0), [])), (12, 1, (40, 0, 0, (.int 0), [])), (13, 1, (1, 0, 2, (.int 0), [])), (14, 3, (7, 23, 0, (.int 0), [(6, 1)])), (17, 3, (7, 78, 0, (.int 0), [(2, 3)])), (20, 1, (2, 1, 0, (.int 0), [])), (21, 1, (1, 0, 2, (.int 0), [])), (22, 3, (7, 23, 0, (.int 0), [(6, 1)])), (25, 1, (1, 1, 0, (.int 0), [])), (26, 1, (0, 0, 0, (.int 4), [])), (27, 3, (30, 134, 2, (.int 0), [(2, 38)])), (30, 1, (1, 0, 2, (.int 0), [])), (31, 3, (7, 23, 0, (.int 0), [(6, 1)])), (34, 3, (7, 71, 0, (.int 0), [(2, 0)])), (37, 1, (1, 1, 0, (.int 0), [])), (38, 1, (0, 0, 0, (.int 4), [])), (39, 1, (4, 0, 0, (.int 0), [])), (40, 1, (1, 1, 0, (.int 0), [])), (41, 2, (0, 0, 1, (.int 10), [])), (43, 1, (4, 0, 0, (.int 0), []))]
def ck_Unp_readEnd_1 : List (Nat × Nat × zx_I) := [(44, 3, (31, 88, 3, (.int 0), [(0, 17)])), (47, 4, (22, 62, 0, (.int 0), [])), (51, 1, (1, 0, 2, (.int 0), [])), (52, 3, (7, 23, 0, (.int 0), [(6, 1)])), (55, 2, (0, 0, 1, (.int (-4)), [])), (57, 1, (1, 1, 0, (.int 0), [])), (58, 3, (30, 74, 2, (.int 0), [(2, 31)])), (61, 1, (40, 0, 0, (.int 0), [])), (62, 1, (1, 0, 2, (.int 0), [])), (63, 3, (7, 23, 0, (.int 0), [(6, 1)])), (66, 1, (1, 1, 0, (.int 0), [])), (67, 1, (0, 0, 0, (.int 4), [])), (68, 1, (4, 0, 0, (.int 0), [])), (69, 1, (0, 0, 0, (.int 4), [])), (70, 3, (30, 134, 2, (.int 0), [(2, 38)])), (73, 1, (1, 0, 2, (.int 0), [])), (74, 3, (7, 268, 0, (.int 0), [(6, 18)])), (77, 1, (0, 0, 0, (.int 4), [])), (78, 1, (4, 0, 3, (.int 0), [])), (79, 1, (0, 0, 0, (.int 1), [])), (80, 1, (4, 0, 1, (.int 0), [])), (81, 1, (5, 0, 0, (.int 0), [])), (82, 4, (22, 124, 1, (.int 0), [])), (86, 1, (1, 0, 2, (.int 0), []))]
def ck_Unp_readEnd_2 : List (Nat × Nat × zx_I) := [(87, 3, (7, 23, 0, (.int 0), [(6, 1)])), (90, 3, (7, 71, 0, (.int 0), [(2, 0)])), (93, 1, (1, 1, 0, (.int 0), [])), (94, 2, (0, 0, 1, (.int 8), [])), (96, 1, (4, 0, 0, (.int 0), [])), (97, 1, (9, 0, 0, (.int 0), [])), (98, 3, (21, 124, 1, (.int 0), [])), (101, 1, (1, 0, 2, (.int 0), [])), (102, 3, (7, 23, 0, (.int 0), [(6, 1)])), (105, 3, (7, 71, 0, (.int 0), [(2, 0)])), (108, 1, (1, 1, 0, (.int 0), [])), (109, 2, (0, 0, 1, (.int 9), [])), (111, 1, (4, 0, 0, (.int 0), [])), (112, 1, (9, 0, 0, (.int 0), [])), (113, 1, (1, 0, 2, (.int 0), [])), (114, 3, (7, 82, 0, (.int 0), [(6, 7)])), (117, 3, (20, 124, 1, (.int 0), [])), (120, 1, (0, 0, 0, (.int 1), [])), (121, 3, (6, 125, 0, (.int 0), [])), (124, 1, (0, 0, 0, (.int 0), [])), (125, 1, (2, 2, 0, (.int 0), [])), (126, 1, (1, 2, 0, (.int 0), [])), (127, 3, (21, 164, 0, (.int 0), [])), (130, 1, (1, 0, 2, (.int 0), []))]
def ck_Unp_readEnd_3 : List (Nat × Nat × zx_I) := [(131, 3, (7, 23, 0, (.int 0), [(6, 1)])), (134, 3, (7, 71, 0, (.int 0), [(2, 0)])), (137, 1, (1, 1, 0, (.int 0), [])), (138, 2, (0, 0, 1, (.int 10), [])), (140, 1, (4, 0, 0, (.int 0), [])), (141, 1, (9, 0, 0, (.int 0), [])), (142, 2, (0, 0, 1, (.int 89), [])), (144, 3, (20, 164, 1, (.int 0), [])), (147, 1, (1, 0, 2, (.int 0), [])), (148, 3, (7, 23, 0, (.int 0), [(6, 1)])), (151, 3, (7, 71, 0, (.int 0), [(2, 0)])), (154, 1, (1, 1, 0, (.int 0), [])), (155, 2, (0, 0, 1, (.int 11), [])), (157, 1, (4, 0, 0, (.int 0), [])), (158, 1, (9, 0, 0, (.int 0), [])), (159, 2, (0, 0, 1, (.int 90), [])), (161, 3, (20, 175, 0, (.int 0), [])), (164, 1, (1, 0, 2, (.int 0), [])), (165, 3, (7, 23, 0, (.int 0), [(6, 1)])), (168, 2, (0, 0, 1, (.int (-3)), [])), (170, 1, (1, 1, 0, (.int 0), [])), (171, 3, (30, 74, 2, (.int 0), [(2, 31)])), (174, 1, (40, 0, 0, (.int 0), [])), (175, 1, (1, 0, 2, (.int 0), []))]
def ck_Unp_readEnd_4 : List (Nat × Nat × zx_I) := [(176, 3, (7, 23, 0, (.int 0), [(6, 1)])), (179, 1, (12, 0, 0, (.int 0), [])), (180, 3, (7, 78, 0, (.int 0), [(2, 3)])), (183, 2, (0, 0, 1, (.int 12), [])), (185, 1, (4, 0, 0, (.int 0), [])), (186, 3, (8, 78, 0, (.int 0), [(2, 3)])), (189, 1, (1, 0, 2, (.int 0), [])), (190, 3, (7, 23, 0, (.int 0), [(6, 1)])), (193, 3, (7, 78, 0, (.int 0), [(2, 3)])), (196, 1, (1, 0, 2, (.int 0), [])), (197, 3, (7, 23, 0, (.int 0), [(6, 1)])), (200, 3, (7, 271, 0, (.int 0), [(2, 1)])), (203, 3, (20, 222, 3, (.int 0), [])), (206, 1, (1, 0, 2, (.int 0), [])), (207, 3, (7, 23, 0, (.int 0), [(6, 1)])), (210, 2, (0, 0, 1, (.int (-3)), [])), (212, 1, (1, 0, 2, (.int 0), [])), (213, 3, (7, 23, 0, (.int 0), [(6, 1)])), (216, 3, (7, 78, 0, (.int 0), [(2, 3)])), (219, 3, (30, 74, 2, (.int 0), [(2, 31)])), (222, 1, (40, 0, 0, (.int 0), []))]
abbrev ck_Unp_readEnd : zx_K := [(44, ck_Unp_readEnd_0), (87, ck_Unp_readEnd_1), (131, ck_Unp_readEnd_2), (176, ck_Unp_readEnd_3), (223, ck_Unp_readEnd_4)]
def ck_Pkg_begin_0 : List (Nat × Nat × zx_I) := [(0, 1, (1, 0, 2, (.int 0), [])), (1, 1, (1, 1, 2, (.int 0), [])), (2, 3, (8, 32, 0, (.int 0), [(7, 4)])), (5, 1, (1, 0, 2, (.int 0), [])), (6, 1, (1, 2, 0, (.int 0), [])), (7, 3, (8, 35, 0, (.int 0), [(7, 5)])), (10, 1, (1, 0, 2, (.int 0), [])), (11, 1, (1, 3, 0, (.int 0), [])), (12, 3, (8, 39, 0, (.int 0), [(7, 6)])), (15, 1, (1, 0, 2, (.int 0), [])), (16, 3, (7, 14, 0, (.int 0), [(7, 0)])), (19, 3, (30, 42, 0, (.int 0), [(1, 20)])), (22, 1, (1, 0, 2, (.int 0), [])), (23, 3, (7, 14, 0, (.int 0), [(7, 0)])), (26, 3, (14, 45, 0, (.int 0), [])), (29, 1, (0, 0, 0, (.int 0), [])), (30, 3, (14, 45, 0, (.int 0), [])), (33, 1, (11, 0, 0, (.int 0), [])), (34, 3, (30, 48, 3, (.int 0), [(1, 23)])), (37, 1, (1, 0, 2, (.int 0), [])), (38, 3, (7, 14, 0, (.int 0), [(7, 0)])), (41, 1, (0, 0, 0, (.int 0), [])), (42, 3, (30, 52, 1, (.int 0), [(1, 22)])), (45, 1, (1, 0, 2, (.int 0), []))]
def ck_Pkg_begin_1 : List (Nat × Nat × zx_I) := [(46, 3, (7, 14, 0, (.int 0), [(7, 0)])), (49, 1, (1, 0, 2, (.int 0), [])), (50, 3, (7, 35, 0, (.int 0), [(7, 5)])), (53, 3, (30, 52, 1, (.int 0), [(1, 22)])), (56, 1, (1, 0, 2, (.int 0), [])), (57, 3, (7, 14, 0, (.int 0), [(7, 0)])), (60, 1, (1, 0, 2, (.int 0), [])), (61, 3, (7, 14, 0, (.int 0), [(7, 0)])), (64, 3, (7, 55, 0, (.int 0), [(1, 0)])), (67, 2, (0, 0, 1, (.int 6), [])), (69, 2, (0, 0, 1, (.int 8), [])), (71, 3, (31, 58, 3, (.int 0), [(0, 17)])), (74, 1, (0, 0, 0, (.int 4), [])), (75, 3, (30, 62, 2, (.int 0), [(1, 24)])), (78, 1, (40, 0, 0, (.int 0), []))]
abbrev ck_Pkg_begin : zx_K := [(46, ck_Pkg_begin_0), (79, ck_Pkg_begin_1)]
def ck_Pkg_writeHead_0 : List (Nat × Nat × zx_I) := [(0, 1, (1, 0, 2, (.int 0), [])), (1, 1, (1, 0, 2, (.int 0), [])), (2, 3, (7, 14, 0, (.int 0), [(7, 0)])), (5, 3, (7, 66, 0, (.int 0), [(1, 1)])), (8, 3, (8, 69, 0, (.int 0), [(7, 7)])), (11, 1, (1, 0, 2, (.int 0), [])), (12, 1, (0, 0, 0, (.int 1), [])), (13, 3, (8, 72, 0, (.int 0), [(7, 10)])), (16, 1, (1, 0, 2, (.int 0), [])), (17, 1, (0, 0, 0, (.int 1), [])), (18, 3, (8, 76, 0, (.int 0), [(7, 11)])), (21, 1, (1, 0, 2, (.int 0), [])), (22, 1, (0, 0, 0, (.int 1), [])), (23, 3, (8, 79, 0, (.int 0), [(7, 12)])), (26, 1, (1, 0, 2, (.int 0), [])), (27, 3, (7, 14, 0, (.int 0), [(7, 0)])), (30, 1, (0, 0, 0, (.int 2), [])), (31, 3, (30, 52, 1, (.int 0), [(1, 22)])), (34, 1, (1, 0, 2, (.int 0), [])), (35, 3, (7, 14, 0, (.int 0), [(7, 0)])), (38, 1, (0, 0, 0, (.int 0), [])), (39, 3, (30, 52, 1, (.int 0), [(1, 22)])), (42, 1, (1, 0, 2, (.int 0), [])), (43, 3, (7, 14, 0, (.int 0), [(7, 0)]))]
def ck_Pkg_writeHead_1 : List (Nat × Nat × zx_I) := [(46, 2, (0, 0, 1, (.int 33), [])), (48, 3, (30, 52, 1, (.int 0), [(1, 22)])), (51, 1, (1, 0, 2, (.int 0), [])), (52, 3, (7, 14, 0, (.int 0), [(7, 0)])), (55, 1, (0, 0, 0, (.int 1), [])), (56, 3, (30, 52, 1, (.int 0), [(1, 22)])), (59, 1, (1, 0, 2, (.int 0), [])), (60, 3, (7, 14, 0, (.int 0), [(7, 0)])), (63, 1, (0, 0, 3, (.long 0), [])), (64, 1, (0, 0, 0, (.int 4), [])), (65, 3, (30, 62, 2, (.int 0), [(1, 24)])), (68, 1, (1, 0, 2, (.int 0), [])), (69, 3, (7, 14, 0, (.int 0), [(7, 0)])), (72, 1, (1, 0, 2, (.int 0), [])), (73, 3, (7, 14, 0, (.int 0), [(7, 0)])), (76, 3, (7, 55, 0, (.int 0), [(1, 0)])), (79, 1, (1, 0, 2, (.int 0), [])), (80, 3, (7, 69, 0, (.int 0), [(7, 7)])), (83, 1, (1, 0, 2, (.int 0), [])), (84, 3, (7, 14, 0, (.int 0), [(7, 0)])), (87, 3, (7, 66, 0, (.int 0), [(1, 1)])), (90, 3, (31, 58, 3, (.int 0), [(0, 17)])), (93, 1, (0, 0, 0, (.int 4), [])), (94, 3, (30, 62, 2, (.int 0), [(1, 24)]))]
def ck_Pkg_writeHead_2 : List (Nat × Nat × zx_I) := [(97, 1, (40, 0, 0, (.int 0), []))]
abbrev ck_Pkg_writeHead : zx_K := [(44, ck_Pkg_writeHead_0), (95, ck_Pkg_writeHead_1), (98, ck_Pkg_writeHead_2)]
def ck_Pkg_writePiece_0 : List (Nat × Nat × zx_I) := [(0, 1, (1, 0, 2, (.int 0), [])), (1, 3, (7, 14, 0, (.int 0), [(7, 0)])), (4, 3, (7, 82, 0, (.int 0), [(1, 2)])), (7, 3, (21, 11, 0, (.int 0), [])), (10, 1, (40, 0, 0, (.int 0), [])), (11, 1, (1, 0, 2, (.int 0), [])), (12, 1, (1, 1, 0, (.int 0), [])), (13, 1, (1, 2, 0, (.int 0), [])), (14, 3, (30, 85, 2, (.int 0), [(7, 92)])), (17, 3, (21, 30, 0, (.int 0), [])), (20, 1, (1, 0, 2, (.int 0), [])), (21, 1, (1, 2, 0, (.int 0), [])), (22, 1, (1, 1, 0, (.int 0), [])), (23, 1, (4, 0, 1, (.int 0), [])), (24, 3, (30, 89, 1, (.int 0), [(7, 90)])), (27, 3, (6, 38, 0, (.int 0), [])), (30, 1, (1, 0, 2, (.int 0), [])), (31, 1, (1, 1, 0, (.int 0), [])), (32, 1, (1, 2, 0, (.int 0), [])), (33, 1, (1, 1, 0, (.int 0), [])), (34, 1, (4, 0, 1, (.int 0), [])), (35, 3, (30, 92, 2, (.int 0), [(7, 89)])), (38, 1, (1, 0, 2, (.int 0), [])), (39, 1, (0, 0, 0, (.int 0), []))]
def ck_Pkg_writePiece_1 : List (Nat × Nat × zx_I) := [(40, 3, (8, 72, 0, (.int 0), [(7, 10)])), (43, 1, (40, 0, 0, (.int 0), []))]
abbrev ck_Pkg_writePiece : zx_K := [(40, ck_Pkg_writePiece_0), (44, ck_Pkg_writePiece_1)]
def ck_Pkg_writePlain_0 : List (Nat × Nat × zx_I) := [(0, 1, (1, 0, 2, (.int 0), [])), (1, 3, (7, 14, 0, (.int 0), [(7, 0)])), (4, 1, (1, 0, 2, (.int 0), [])), (5, 3, (7, 72, 0, (.int 0), [(7, 10)])), (8, 3, (21, 15, 0, (.int 0), [])), (11, 1, (0, 0, 0, (.int 1), [])), (12, 3, (6, 16, 0, (.int 0), [])), (15, 1, (0, 0, 0, (.int 2), [])), (16, 3, (30, 52, 1, (.int 0), [(1, 22)])), (19, 1, (1, 0, 2, (.int 0), [])), (20, 1, (1, 2, 0, (.int 0), [])), (21, 1, (0, 0, 0, (.int 1), [])), (22, 1, (4, 0, 1, (.int 0), [])), (23, 3, (30, 96, 1, (.int 0), [(7, 91)])), (26, 1, (1, 0, 2, (.int 0), [])), (27, 3, (7, 14, 0, (.int 0), [(7, 0)])), (30, 1, (1, 0, 2, (.int 0), [])), (31, 3, (7, 32, 0, (.int 0), [(7, 4)])), (34, 3, (7, 55, 0, (.int 0), [(1, 0)])), (37, 1, (1, 1, 0, (.int 0), [])), (38, 1, (1, 2, 0, (.int 0), [])), (39, 3, (30, 48, 3, (.int 0), [(1, 23)])), (42, 1, (1, 0, 2, (.int 0), [])), (43, 1, (0, 0, 0, (.int 1), []))]
def ck_Pkg_writePlain_1 : List (Nat × Nat × zx_I) := [(44, 3, (8, 79, 0, (.int 0), [(7, 12)])), (47, 1, (40, 0, 0, (.int 0), []))]
abbrev ck_Pkg_writePlain : zx_K := [(44, ck_Pkg_writePlain_0), (48, ck_Pkg_writePlain_1)]
def ck_Pkg_writeCoded_0 : List (Nat × Nat × zx_I) := [(0, 1, (1, 0, 2, (.int 0), [])), (1, 3, (7, 72, 0, (.int 0), [(7, 10)])), (4, 3, (21, 13, 0, (.int 0), [])), (7, 3, (0, 0, 2, (.int 224), [])), (10, 3, (6, 42, 0, (.int 0), [])), (13, 1, (1, 0, 2, (.int 0), [])), (14, 3, (7, 76, 0, (.int 0), [(7, 11)])), (17, 3, (21, 26, 0, (.int 0), [])), (20, 3, (0, 0, 2, (.int 192), [])), (23, 3, (6, 42, 0, (.int 0), [])), (26, 1, (1, 0, 2, (.int 0), [])), (27, 3, (7, 79, 0, (.int 0), [(7, 12)])), (30, 3, (21, 39, 0, (.int 0), [])), (33, 3, (0, 0, 2, (.int 160), [])), (36, 3, (6, 42, 0, (.int 0), [])), (39, 3, (0, 0, 2, (.int 128), [])), (42, 1, (2, 2, 0, (.int 0), [])), (43, 1, (1, 0, 2, (.int 0), [])), (44, 3, (7, 14, 0, (.int 0), [(7, 0)])), (47, 1, (1, 2, 0, (.int 0), [])), (48, 3, (30, 52, 1, (.int 0), [(1, 22)])), (51, 1, (1, 0, 2, (.int 0), [])), (52, 1, (1, 1, 0, (.int 0), [])), (53, 1, (0, 0, 0, (.int 1), []))]
def ck_Pkg_writeCoded_1 : List (Nat × Nat × zx_I) := [(54, 1, (4, 0, 1, (.int 0), [])), (55, 3, (30, 96, 1, (.int 0), [(7, 91)])), (58, 1, (1, 0, 2, (.int 0), [])), (59, 1, (1, 0, 2, (.int 0), [])), (60, 3, (7, 28, 0, (.int 0), [(7, 2)])), (63, 3, (7, 99, 0, (.int 0), [(4, 4)])), (66, 1, (0, 0, 0, (.int 1), [])), (67, 1, (4, 0, 1, (.int 0), [])), (68, 3, (30, 96, 1, (.int 0), [(7, 91)])), (71, 1, (1, 2, 0, (.int 0), [])), (72, 3, (0, 0, 2, (.int 192), [])), (75, 3, (20, 89, 2, (.int 0), [])), (78, 1, (1, 0, 2, (.int 0), [])), (79, 3, (7, 14, 0, (.int 0), [(7, 0)])), (82, 1, (1, 0, 2, (.int 0), [])), (83, 3, (7, 39, 0, (.int 0), [(7, 6)])), (86, 3, (30, 52, 1, (.int 0), [(1, 22)])), (89, 1, (1, 0, 2, (.int 0), [])), (90, 3, (7, 14, 0, (.int 0), [(7, 0)])), (93, 1, (1, 0, 2, (.int 0), [])), (94, 3, (7, 28, 0, (.int 0), [(7, 2)])), (97, 3, (7, 102, 0, (.int 0), [(4, 3)])), (100, 1, (0, 0, 0, (.int 0), [])), (101, 1, (1, 0, 2, (.int 0), []))]
def ck_Pkg_writeCoded_2 : List (Nat × Nat × zx_I) := [(102, 3, (7, 28, 0, (.int 0), [(7, 2)])), (105, 3, (7, 99, 0, (.int 0), [(4, 4)])), (108, 3, (30, 48, 3, (.int 0), [(1, 23)])), (111, 1, (1, 0, 2, (.int 0), [])), (112, 1, (0, 0, 0, (.int 0), [])), (113, 3, (8, 76, 0, (.int 0), [(7, 11)])), (116, 1, (1, 0, 2, (.int 0), [])), (117, 1, (0, 0, 0, (.int 0), [])), (118, 3, (8, 79, 0, (.int 0), [(7, 12)])), (121, 1, (40, 0, 0, (.int 0), []))]
abbrev ck_Pkg_writeCoded : zx_K := [(54, ck_Pkg_writeCoded_0), (102, ck_Pkg_writeCoded_1), (122, ck_Pkg_writeCoded_2)]
def ck_Pkg_appendTwo_0 : List (Nat × Nat × zx_I) := [(0, 1, (1, 0, 2, (.int 0), [])), (1, 3, (7, 14, 0, (.int 0), [(7, 0)])), (4, 1, (1, 1, 0, (.int 0), [])), (5, 2, (0, 0, 1, (.int 8), [])), (7, 1, (4, 0, 9, (.int 0), [])), (8, 3, (30, 52, 1, (.int 0), [(1, 22)])), (11, 1, (1, 0, 2, (.int 0), [])), (12, 3, (7, 14, 0, (.int 0), [(7, 0)])), (15, 1, (1, 1, 0, (.int 0), [])), (16, 3, (0, 0, 2, (.int 255), [])), (19, 1, (4, 0, 5, (.int 0), [])), (20, 3, (30, 52, 1, (.int 0), [(1, 22)])), (23, 1, (40, 0, 0, (.int 0), []))]
abbrev ck_Pkg_appendTwo : zx_K := [(24, ck_Pkg_appendTwo_0)]
def ck_Pkg_encode_0 : List (Nat × Nat × zx_I) := [(0, 1, (1, 0, 2, (.int 0), [])), (1, 3, (7, 28, 0, (.int 0), [(7, 2)])), (4, 1, (1, 2, 0, (.int 0), [])), (5, 1, (1, 1, 0, (.int 0), [])), (6, 1, (4, 0, 1, (.int 0), [])), (7, 1, (0, 0, 0, (.int 1), [])), (8, 1, (4, 0, 1, (.int 0), [])), (9, 3, (30, 105, 1, (.int 0), [(4, 50)])), (12, 1, (1, 0, 2, (.int 0), [])), (13, 3, (7, 28, 0, (.int 0), [(7, 2)])), (16, 3, (7, 108, 0, (.int 0), [(4, 2)])), (19, 3, (21, 24, 0, (.int 0), [])), (22, 1, (0, 0, 0, (.int 0), [])), (23, 1, (40, 0, 4, (.int 0), [])), (24, 1, (1, 0, 2, (.int 0), [])), (25, 3, (7, 79, 0, (.int 0), [(7, 12)])), (28, 3, (21, 49, 0, (.int 0), [])), (31, 1, (1, 0, 2, (.int 0), [])), (32, 3, (7, 24, 0, (.int 0), [(7, 1)])), (35, 1, (1, 0, 2, (.int 0), [])), (36, 3, (7, 39, 0, (.int 0), [(7, 6)])), (39, 3, (30, 111, 1, (.int 0), [(5, 56)])), (42, 1, (1, 0, 2, (.int 0), [])), (43, 3, (7, 24, 0, (.int 0), [(7, 1)]))]
def ck_Pkg_encode_1 : List (Nat × Nat × zx_I) := [(46, 3, (30, 116, 0, (.int 0), [(5, 57)])), (49, 1, (1, 0, 2, (.int 0), [])), (50, 3, (7, 24, 0, (.int 0), [(7, 1)])), (53, 1, (1, 0, 2, (.int 0), [])), (54, 3, (7, 28, 0, (.int 0), [(7, 2)])), (57, 3, (30, 119, 1, (.int 0), [(5, 58)])), (60, 1, (1, 1, 0, (.int 0), [])), (61, 1, (2, 3, 0, (.int 0), [])), (62, 1, (1, 3, 0, (.int 0), [])), (63, 1, (1, 2, 0, (.int 0), [])), (64, 3, (20, 145, 3, (.int 0), [])), (67, 1, (1, 0, 2, (.int 0), [])), (68, 3, (7, 28, 0, (.int 0), [(7, 2)])), (71, 3, (7, 108, 0, (.int 0), [(4, 2)])), (74, 3, (21, 145, 1, (.int 0), [])), (77, 1, (1, 0, 2, (.int 0), [])), (78, 1, (1, 3, 0, (.int 0), [])), (79, 1, (1, 2, 0, (.int 0), [])), (80, 1, (1, 3, 0, (.int 0), [])), (81, 1, (4, 0, 1, (.int 0), [])), (82, 3, (0, 0, 2, (.int 273), [])), (85, 3, (15, 123, 0, (.int 0), [])), (88, 3, (30, 129, 2, (.int 0), [(7, 93)])), (91, 1, (1, 0, 2, (.int 0), []))]
def ck_Pkg_encode_2 : List (Nat × Nat × zx_I) := [(92, 3, (7, 32, 0, (.int 0), [(7, 4)])), (95, 1, (1, 3, 0, (.int 0), [])), (96, 1, (1, 0, 2, (.int 0), [])), (97, 3, (7, 24, 0, (.int 0), [(7, 1)])), (100, 1, (0, 0, 0, (.int 0), [])), (101, 3, (30, 132, 1, (.int 0), [(5, 59)])), (104, 3, (30, 136, 2, (.int 0), [(1, 27)])), (107, 2, (2, 4, 0, (.int 0), [])), (109, 1, (1, 0, 2, (.int 0), [])), (110, 3, (7, 24, 0, (.int 0), [(7, 1)])), (113, 1, (1, 3, 0, (.int 0), [])), (114, 1, (1, 0, 2, (.int 0), [])), (115, 3, (7, 32, 0, (.int 0), [(7, 4)])), (118, 1, (1, 3, 0, (.int 0), [])), (119, 1, (0, 0, 4, (.long 1), [])), (120, 3, (30, 136, 2, (.int 0), [(1, 27)])), (123, 2, (1, 4, 0, (.int 0), [])), (125, 3, (30, 140, 3, (.int 0), [(5, 60)])), (128, 1, (1, 3, 0, (.int 0), [])), (129, 1, (0, 0, 0, (.int 1), [])), (130, 1, (1, 0, 2, (.int 0), [])), (131, 3, (7, 24, 0, (.int 0), [(7, 1)])), (134, 3, (7, 144, 0, (.int 0), [(5, 9)])), (137, 3, (15, 147, 1, (.int 0), []))]
def ck_Pkg_encode_3 : List (Nat × Nat × zx_I) := [(140, 1, (4, 0, 0, (.int 0), [])), (141, 1, (2, 3, 0, (.int 0), [])), (142, 3, (6, 62, 0, (.int 0), [])), (145, 1, (1, 0, 2, (.int 0), [])), (146, 3, (7, 28, 0, (.int 0), [(7, 2)])), (149, 3, (30, 150, 0, (.int 0), [(4, 55)])), (152, 1, (1, 0, 2, (.int 0), [])), (153, 3, (7, 28, 0, (.int 0), [(7, 2)])), (156, 3, (7, 108, 0, (.int 0), [(4, 2)])), (159, 3, (21, 166, 1, (.int 0), [])), (162, 1, (0, 0, 0, (.int 1), [])), (163, 3, (6, 167, 0, (.int 0), [])), (166, 1, (0, 0, 0, (.int 0), [])), (167, 1, (40, 0, 4, (.int 0), []))]
abbrev ck_Pkg_encode : zx_K := [(44, ck_Pkg_encode_0), (92, ck_Pkg_encode_1), (138, ck_Pkg_encode_2), (168, ck_Pkg_encode_3)]
def ck_Pkg_choose_0 : List (Nat × Nat × zx_I) := [(0, 1, (1, 0, 2, (.int 0), [])), (1, 1, (1, 1, 0, (.int 0), [])), (2, 1, (1, 2, 0, (.int 0), [])), (3, 3, (30, 153, 2, (.int 0), [(7, 94)])), (6, 1, (1, 0, 2, (.int 0), [])), (7, 1, (1, 1, 0, (.int 0), [])), (8, 1, (1, 2, 0, (.int 0), [])), (9, 3, (30, 156, 2, (.int 0), [(7, 95)])), (12, 1, (1, 0, 2, (.int 0), [])), (13, 3, (7, 24, 0, (.int 0), [(7, 1)])), (16, 1, (1, 0, 2, (.int 0), [])), (17, 3, (7, 32, 0, (.int 0), [(7, 4)])), (20, 3, (7, 55, 0, (.int 0), [(1, 0)])), (23, 1, (1, 1, 0, (.int 0), [])), (24, 1, (9, 0, 0, (.int 0), [])), (25, 3, (8, 159, 0, (.int 0), [(5, 8)])), (28, 1, (1, 0, 2, (.int 0), [])), (29, 3, (7, 162, 0, (.int 0), [(7, 15)])), (32, 1, (0, 0, 0, (.int 2), [])), (33, 3, (20, 76, 2, (.int 0), [])), (36, 1, (1, 0, 2, (.int 0), [])), (37, 3, (7, 162, 0, (.int 0), [(7, 15)])), (40, 1, (0, 0, 0, (.int 1), [])), (41, 1, (4, 0, 0, (.int 0), []))]
def ck_Pkg_choose_1 : List (Nat × Nat × zx_I) := [(42, 1, (1, 0, 2, (.int 0), [])), (43, 3, (7, 165, 0, (.int 0), [(7, 13)])), (46, 3, (20, 76, 2, (.int 0), [])), (49, 1, (1, 0, 2, (.int 0), [])), (50, 3, (7, 24, 0, (.int 0), [(7, 1)])), (53, 1, (0, 0, 0, (.int 4), [])), (54, 1, (1, 0, 2, (.int 0), [])), (55, 3, (7, 168, 0, (.int 0), [(7, 16)])), (58, 1, (4, 0, 0, (.int 0), [])), (59, 3, (8, 171, 0, (.int 0), [(5, 7)])), (62, 1, (1, 0, 2, (.int 0), [])), (63, 3, (7, 24, 0, (.int 0), [(7, 1)])), (66, 1, (1, 0, 2, (.int 0), [])), (67, 3, (7, 162, 0, (.int 0), [(7, 15)])), (70, 3, (8, 144, 0, (.int 0), [(5, 9)])), (73, 3, (6, 166, 0, (.int 0), [])), (76, 1, (1, 0, 2, (.int 0), [])), (77, 3, (7, 165, 0, (.int 0), [(7, 13)])), (80, 1, (0, 0, 0, (.int 3), [])), (81, 3, (20, 102, 3, (.int 0), [])), (84, 1, (1, 0, 2, (.int 0), [])), (85, 3, (7, 165, 0, (.int 0), [(7, 13)])), (88, 1, (0, 0, 0, (.int 2), [])), (89, 3, (20, 136, 1, (.int 0), []))]
def ck_Pkg_choose_2 : List (Nat × Nat × zx_I) := [(92, 1, (1, 0, 2, (.int 0), [])), (93, 3, (7, 174, 0, (.int 0), [(7, 14)])), (96, 3, (0, 0, 2, (.int 128), [])), (99, 3, (20, 136, 4, (.int 0), [])), (102, 1, (1, 0, 2, (.int 0), [])), (103, 3, (7, 24, 0, (.int 0), [(7, 1)])), (106, 1, (0, 0, 0, (.int 2), [])), (107, 3, (8, 171, 0, (.int 0), [(5, 7)])), (110, 1, (1, 0, 2, (.int 0), [])), (111, 3, (7, 24, 0, (.int 0), [(7, 1)])), (114, 1, (1, 0, 2, (.int 0), [])), (115, 3, (7, 165, 0, (.int 0), [(7, 13)])), (118, 3, (8, 144, 0, (.int 0), [(5, 9)])), (121, 1, (1, 0, 2, (.int 0), [])), (122, 3, (7, 24, 0, (.int 0), [(7, 1)])), (125, 1, (1, 0, 2, (.int 0), [])), (126, 3, (7, 174, 0, (.int 0), [(7, 14)])), (129, 1, (5, 0, 0, (.int 0), [])), (130, 3, (8, 177, 0, (.int 0), [(5, 10)])), (133, 3, (6, 166, 0, (.int 0), [])), (136, 1, (1, 0, 2, (.int 0), [])), (137, 3, (7, 24, 0, (.int 0), [(7, 1)])), (140, 1, (1, 0, 2, (.int 0), [])), (141, 1, (1, 1, 0, (.int 0), []))]
def ck_Pkg_choose_3 : List (Nat × Nat × zx_I) := [(142, 1, (1, 0, 2, (.int 0), [])), (143, 3, (7, 24, 0, (.int 0), [(7, 1)])), (146, 1, (0, 0, 0, (.int 0), [])), (147, 3, (30, 132, 1, (.int 0), [(5, 59)])), (150, 1, (1, 2, 0, (.int 0), [])), (151, 3, (30, 181, 3, (.int 0), [(7, 96)])), (154, 1, (0, 0, 0, (.int 1), [])), (155, 3, (20, 162, 1, (.int 0), [])), (158, 1, (0, 0, 0, (.int 3), [])), (159, 3, (6, 163, 0, (.int 0), [])), (162, 1, (0, 0, 0, (.int 1), [])), (163, 3, (8, 171, 0, (.int 0), [(5, 7)])), (166, 1, (40, 0, 0, (.int 0), []))]
abbrev ck_Pkg_choose : zx_K := [(42, ck_Pkg_choose_0), (90, ck_Pkg_choose_1), (142, ck_Pkg_choose_2), (167, ck_Pkg_choose_3)]
def ck_Pkg_searchMatch_0 : List (Nat × Nat × zx_I) := [(0, 1, (1, 0, 2, (.int 0), [])), (1, 1, (0, 0, 0, (.int 0), [])), (2, 3, (8, 165, 0, (.int 0), [(7, 13)])), (5, 1, (0, 0, 0, (.int 1), [])), (6, 1, (2, 3, 0, (.int 0), [])), (7, 1, (1, 3, 0, (.int 0), [])), (8, 1, (1, 1, 0, (.int 0), [])), (9, 3, (20, 56, 4, (.int 0), [])), (12, 1, (1, 0, 2, (.int 0), [])), (13, 3, (7, 165, 0, (.int 0), [(7, 13)])), (16, 1, (1, 2, 0, (.int 0), [])), (17, 3, (20, 56, 3, (.int 0), [])), (20, 1, (1, 0, 2, (.int 0), [])), (21, 1, (1, 1, 0, (.int 0), [])), (22, 1, (1, 3, 0, (.int 0), [])), (23, 1, (5, 0, 0, (.int 0), [])), (24, 1, (1, 2, 0, (.int 0), [])), (25, 3, (30, 181, 3, (.int 0), [(7, 96)])), (28, 2, (2, 4, 0, (.int 0), [])), (30, 2, (1, 4, 0, (.int 0), [])), (32, 1, (1, 0, 2, (.int 0), [])), (33, 3, (7, 165, 0, (.int 0), [(7, 13)])), (36, 3, (20, 50, 5, (.int 0), [])), (39, 1, (1, 0, 2, (.int 0), []))]
def ck_Pkg_searchMatch_1 : List (Nat × Nat × zx_I) := [(40, 2, (1, 4, 0, (.int 0), [])), (42, 3, (8, 165, 0, (.int 0), [(7, 13)])), (45, 1, (1, 0, 2, (.int 0), [])), (46, 1, (1, 3, 0, (.int 0), [])), (47, 3, (8, 174, 0, (.int 0), [(7, 14)])), (50, 3, (3, 3, 0, (.int 1), [])), (53, 3, (6, 7, 0, (.int 0), [])), (56, 1, (40, 0, 0, (.int 0), []))]
abbrev ck_Pkg_searchMatch : zx_K := [(40, ck_Pkg_searchMatch_0), (57, ck_Pkg_searchMatch_1)]
def ck_Pkg_searchAgain_0 : List (Nat × Nat × zx_I) := [(0, 1, (1, 0, 2, (.int 0), [])), (1, 1, (0, 0, 0, (.int 0), [])), (2, 3, (8, 168, 0, (.int 0), [(7, 16)])), (5, 1, (1, 0, 2, (.int 0), [])), (6, 1, (0, 0, 0, (.int 0), [])), (7, 3, (8, 162, 0, (.int 0), [(7, 15)])), (10, 1, (0, 0, 0, (.int 0), [])), (11, 1, (2, 3, 0, (.int 0), [])), (12, 1, (1, 3, 0, (.int 0), [])), (13, 1, (0, 0, 0, (.int 4), [])), (14, 3, (20, 59, 3, (.int 0), [])), (17, 1, (1, 0, 2, (.int 0), [])), (18, 1, (1, 1, 0, (.int 0), [])), (19, 1, (1, 0, 2, (.int 0), [])), (20, 3, (7, 24, 0, (.int 0), [(7, 1)])), (23, 1, (1, 3, 0, (.int 0), [])), (24, 3, (30, 132, 1, (.int 0), [(5, 59)])), (27, 1, (1, 2, 0, (.int 0), [])), (28, 3, (30, 181, 3, (.int 0), [(7, 96)])), (31, 2, (2, 4, 0, (.int 0), [])), (33, 2, (1, 4, 0, (.int 0), [])), (35, 1, (1, 0, 2, (.int 0), [])), (36, 3, (7, 162, 0, (.int 0), [(7, 15)])), (39, 3, (20, 53, 5, (.int 0), []))]
def ck_Pkg_searchAgain_1 : List (Nat × Nat × zx_I) := [(42, 1, (1, 0, 2, (.int 0), [])), (43, 2, (1, 4, 0, (.int 0), [])), (45, 3, (8, 162, 0, (.int 0), [(7, 15)])), (48, 1, (1, 0, 2, (.int 0), [])), (49, 1, (1, 3, 0, (.int 0), [])), (50, 3, (8, 168, 0, (.int 0), [(7, 16)])), (53, 3, (3, 3, 0, (.int 1), [])), (56, 3, (6, 12, 0, (.int 0), [])), (59, 1, (40, 0, 0, (.int 0), []))]
abbrev ck_Pkg_searchAgain : zx_K := [(40, ck_Pkg_searchAgain_0), (60, ck_Pkg_searchAgain_1)]
def ck_Pkg_sameBytes_0 : List (Nat × Nat × zx_I) := [(0, 1, (1, 2, 1, (.int 0), [])), (1, 1, (1, 1, 0, (.int 0), [])), (2, 1, (5, 0, 0, (.int 0), [])), (3, 4, (22, 9, 5, (.int 0), [])), (7, 1, (0, 0, 0, (.int 0), [])), (8, 1, (40, 0, 1, (.int 0), [])), (9, 1, (1, 1, 0, (.int 0), [])), (10, 1, (1, 2, 1, (.int 0), [])), (11, 1, (5, 0, 1, (.int 0), [])), (12, 1, (4, 0, 1, (.int 0), [])), (13, 2, (2, 5, 0, (.int 0), [])), (15, 1, (0, 0, 0, (.int 0), [])), (16, 2, (2, 6, 0, (.int 0), [])), (18, 1, (0, 0, 0, (.int 0), [])), (19, 2, (2, 7, 0, (.int 0), [])), (21, 2, (1, 7, 0, (.int 0), [])), (23, 2, (1, 4, 0, (.int 0), [])), (25, 3, (20, 65, 3, (.int 0), [])), (28, 1, (1, 0, 2, (.int 0), [])), (29, 3, (7, 32, 0, (.int 0), [(7, 4)])), (32, 3, (7, 55, 0, (.int 0), [(1, 0)])), (35, 2, (1, 5, 0, (.int 0), [])), (37, 2, (1, 7, 0, (.int 0), [])), (39, 1, (4, 0, 0, (.int 0), []))]
def ck_Pkg_sameBytes_1 : List (Nat × Nat × zx_I) := [(40, 1, (9, 0, 0, (.int 0), [])), (41, 1, (1, 0, 2, (.int 0), [])), (42, 3, (7, 32, 0, (.int 0), [(7, 4)])), (45, 3, (7, 55, 0, (.int 0), [(1, 0)])), (48, 1, (1, 1, 0, (.int 0), [])), (49, 2, (1, 7, 0, (.int 0), [])), (51, 1, (4, 0, 0, (.int 0), [])), (52, 1, (9, 0, 0, (.int 0), [])), (53, 3, (20, 65, 1, (.int 0), [])), (56, 3, (3, 6, 0, (.int 1), [])), (59, 3, (3, 7, 0, (.int 1), [])), (62, 3, (6, 21, 0, (.int 0), [])), (65, 2, (1, 6, 0, (.int 0), [])), (67, 1, (40, 0, 1, (.int 0), []))]
abbrev ck_Pkg_sameBytes : zx_K := [(40, ck_Pkg_sameBytes_0), (68, ck_Pkg_sameBytes_1)]
def ck_Pkg_closeBlock_0 : List (Nat × Nat × zx_I) := [(0, 1, (1, 0, 2, (.int 0), [])), (1, 3, (7, 14, 0, (.int 0), [(7, 0)])), (4, 1, (0, 0, 0, (.int 0), [])), (5, 3, (30, 52, 1, (.int 0), [(1, 22)])), (8, 1, (1, 0, 2, (.int 0), [])), (9, 1, (1, 0, 2, (.int 0), [])), (10, 3, (7, 14, 0, (.int 0), [(7, 0)])), (13, 3, (7, 66, 0, (.int 0), [(1, 1)])), (16, 1, (1, 0, 2, (.int 0), [])), (17, 3, (7, 69, 0, (.int 0), [(7, 7)])), (20, 1, (4, 0, 1, (.int 0), [])), (21, 1, (1, 0, 2, (.int 0), [])), (22, 3, (7, 35, 0, (.int 0), [(7, 5)])), (25, 3, (31, 185, 1, (.int 0), [(0, 15)])), (28, 1, (4, 0, 0, (.int 0), [])), (29, 1, (5, 0, 0, (.int 0), [])), (30, 3, (8, 189, 0, (.int 0), [(7, 8)])), (33, 1, (1, 0, 2, (.int 0), [])), (34, 1, (1, 0, 2, (.int 0), [])), (35, 3, (7, 69, 0, (.int 0), [(7, 7)])), (38, 3, (30, 192, 1, (.int 0), [(7, 98)])), (41, 1, (1, 0, 2, (.int 0), [])), (42, 3, (7, 35, 0, (.int 0), [(7, 5)])), (45, 1, (0, 0, 0, (.int 1), []))]
def ck_Pkg_closeBlock_1 : List (Nat × Nat × zx_I) := [(46, 3, (20, 78, 1, (.int 0), [])), (49, 1, (1, 0, 2, (.int 0), [])), (50, 3, (7, 14, 0, (.int 0), [(7, 0)])), (53, 1, (1, 0, 2, (.int 0), [])), (54, 3, (7, 32, 0, (.int 0), [(7, 4)])), (57, 3, (7, 55, 0, (.int 0), [(1, 0)])), (60, 1, (0, 0, 0, (.int 0), [])), (61, 1, (1, 0, 2, (.int 0), [])), (62, 3, (7, 32, 0, (.int 0), [(7, 4)])), (65, 3, (7, 66, 0, (.int 0), [(1, 1)])), (68, 3, (31, 58, 3, (.int 0), [(0, 17)])), (71, 1, (0, 0, 0, (.int 4), [])), (72, 3, (30, 62, 2, (.int 0), [(1, 24)])), (75, 3, (6, 113, 0, (.int 0), [])), (78, 1, (1, 0, 2, (.int 0), [])), (79, 3, (7, 35, 0, (.int 0), [(7, 5)])), (82, 1, (0, 0, 0, (.int 4), [])), (83, 3, (20, 113, 1, (.int 0), [])), (86, 1, (1, 0, 2, (.int 0), [])), (87, 3, (7, 14, 0, (.int 0), [(7, 0)])), (90, 1, (1, 0, 2, (.int 0), [])), (91, 3, (7, 32, 0, (.int 0), [(7, 4)])), (94, 3, (7, 55, 0, (.int 0), [(1, 0)])), (97, 1, (0, 0, 0, (.int 0), []))]
def ck_Pkg_closeBlock_2 : List (Nat × Nat × zx_I) := [(98, 1, (1, 0, 2, (.int 0), [])), (99, 3, (7, 32, 0, (.int 0), [(7, 4)])), (102, 3, (7, 66, 0, (.int 0), [(1, 1)])), (105, 3, (31, 195, 3, (.int 0), [(0, 18)])), (108, 2, (0, 0, 1, (.int 8), [])), (110, 3, (30, 62, 2, (.int 0), [(1, 24)])), (113, 1, (40, 0, 0, (.int 0), []))]
abbrev ck_Pkg_closeBlock : zx_K := [(46, ck_Pkg_closeBlock_0), (98, ck_Pkg_closeBlock_1), (114, ck_Pkg_closeBlock_2)]
def ck_Pkg_fillUp_0 : List (Nat × Nat × zx_I) := [(0, 1, (0, 0, 0, (.int 0), [])), (1, 1, (2, 2, 0, (.int 0), [])), (2, 1, (1, 2, 0, (.int 0), [])), (3, 1, (0, 0, 0, (.int 3), [])), (4, 3, (20, 35, 3, (.int 0), [])), (7, 1, (1, 0, 2, (.int 0), [])), (8, 3, (7, 14, 0, (.int 0), [(7, 0)])), (11, 3, (7, 66, 0, (.int 0), [(1, 1)])), (14, 1, (1, 1, 0, (.int 0), [])), (15, 1, (4, 0, 1, (.int 0), [])), (16, 1, (0, 0, 0, (.int 4), [])), (17, 1, (4, 0, 4, (.int 0), [])), (18, 3, (21, 35, 0, (.int 0), [])), (21, 1, (1, 0, 2, (.int 0), [])), (22, 3, (7, 14, 0, (.int 0), [(7, 0)])), (25, 1, (0, 0, 0, (.int 0), [])), (26, 3, (30, 52, 1, (.int 0), [(1, 22)])), (29, 3, (3, 2, 0, (.int 1), [])), (32, 3, (6, 2, 0, (.int 0), [])), (35, 1, (40, 0, 0, (.int 0), []))]
abbrev ck_Pkg_fillUp : zx_K := [(36, ck_Pkg_fillUp_0)]
def ck_Pkg_appendNumber_0 : List (Nat × Nat × zx_I) := [(0, 1, (1, 1, 1, (.int 0), [])), (1, 1, (2, 3, 1, (.int 0), [])), (2, 1, (0, 0, 0, (.int 0), [])), (3, 2, (2, 5, 0, (.int 0), [])), (5, 2, (1, 5, 0, (.int 0), [])), (7, 2, (0, 0, 1, (.int 8), [])), (9, 3, (20, 48, 3, (.int 0), [])), (12, 1, (1, 3, 1, (.int 0), [])), (13, 3, (0, 198, 5, (.long 128), [])), (16, 4, (22, 48, 2, (.int 0), [])), (20, 1, (1, 0, 2, (.int 0), [])), (21, 3, (7, 14, 0, (.int 0), [(7, 0)])), (24, 1, (1, 3, 1, (.int 0), [])), (25, 3, (0, 200, 5, (.long 127), [])), (28, 1, (4, 0, 14, (.int 0), [])), (29, 1, (5, 0, 1, (.int 0), [])), (30, 3, (0, 0, 2, (.int 128), [])), (33, 1, (4, 0, 0, (.int 0), [])), (34, 3, (30, 52, 1, (.int 0), [(1, 22)])), (37, 1, (1, 3, 1, (.int 0), [])), (38, 2, (0, 0, 1, (.int 7), [])), (40, 1, (4, 0, 19, (.int 0), [])), (41, 1, (2, 3, 1, (.int 0), [])), (42, 3, (3, 5, 0, (.int 1), []))]
def ck_Pkg_appendNumber_1 : List (Nat × Nat × zx_I) := [(45, 3, (6, 5, 0, (.int 0), [])), (48, 1, (1, 0, 2, (.int 0), [])), (49, 3, (7, 14, 0, (.int 0), [(7, 0)])), (52, 1, (1, 3, 1, (.int 0), [])), (53, 1, (5, 0, 1, (.int 0), [])), (54, 3, (30, 52, 1, (.int 0), [(1, 22)])), (57, 1, (40, 0, 0, (.int 0), []))]
abbrev ck_Pkg_appendNumber : zx_K := [(43, ck_Pkg_appendNumber_0), (58, ck_Pkg_appendNumber_1)]
def ck_Pkg_writeIndex_0 : List (Nat × Nat × zx_I) := [(0, 1, (1, 0, 2, (.int 0), [])), (1, 3, (7, 14, 0, (.int 0), [(7, 0)])), (4, 3, (7, 66, 0, (.int 0), [(1, 1)])), (7, 1, (2, 1, 0, (.int 0), [])), (8, 1, (1, 0, 2, (.int 0), [])), (9, 3, (7, 14, 0, (.int 0), [(7, 0)])), (12, 1, (0, 0, 0, (.int 0), [])), (13, 3, (30, 52, 1, (.int 0), [(1, 22)])), (16, 1, (1, 0, 2, (.int 0), [])), (17, 3, (7, 32, 0, (.int 0), [(7, 4)])), (20, 3, (7, 66, 0, (.int 0), [(1, 1)])), (23, 3, (21, 54, 5, (.int 0), [])), (26, 1, (1, 0, 2, (.int 0), [])), (27, 1, (0, 0, 4, (.long 1), [])), (28, 3, (30, 202, 1, (.int 0), [(7, 99)])), (31, 1, (1, 0, 2, (.int 0), [])), (32, 1, (1, 0, 2, (.int 0), [])), (33, 3, (7, 189, 0, (.int 0), [(7, 8)])), (36, 3, (30, 202, 1, (.int 0), [(7, 99)])), (39, 1, (1, 0, 2, (.int 0), [])), (40, 1, (1, 0, 2, (.int 0), [])), (41, 3, (7, 32, 0, (.int 0), [(7, 4)])), (44, 3, (7, 66, 0, (.int 0), [(1, 1)])), (47, 1, (5, 0, 0, (.int 0), []))]
def ck_Pkg_writeIndex_1 : List (Nat × Nat × zx_I) := [(48, 3, (30, 202, 1, (.int 0), [(7, 99)])), (51, 3, (6, 59, 0, (.int 0), [])), (54, 1, (1, 0, 2, (.int 0), [])), (55, 1, (0, 0, 3, (.long 0), [])), (56, 3, (30, 202, 1, (.int 0), [(7, 99)])), (59, 1, (1, 0, 2, (.int 0), [])), (60, 1, (1, 1, 0, (.int 0), [])), (61, 3, (30, 192, 1, (.int 0), [(7, 98)])), (64, 1, (1, 0, 2, (.int 0), [])), (65, 3, (7, 14, 0, (.int 0), [(7, 0)])), (68, 1, (1, 0, 2, (.int 0), [])), (69, 3, (7, 14, 0, (.int 0), [(7, 0)])), (72, 3, (7, 55, 0, (.int 0), [(1, 0)])), (75, 1, (1, 1, 0, (.int 0), [])), (76, 1, (1, 0, 2, (.int 0), [])), (77, 3, (7, 14, 0, (.int 0), [(7, 0)])), (80, 3, (7, 66, 0, (.int 0), [(1, 1)])), (83, 3, (31, 58, 3, (.int 0), [(0, 17)])), (86, 1, (0, 0, 0, (.int 4), [])), (87, 3, (30, 62, 2, (.int 0), [(1, 24)])), (90, 1, (1, 0, 2, (.int 0), [])), (91, 1, (1, 0, 2, (.int 0), [])), (92, 3, (7, 14, 0, (.int 0), [(7, 0)])), (95, 3, (7, 66, 0, (.int 0), [(1, 1)]))]
def ck_Pkg_writeIndex_2 : List (Nat × Nat × zx_I) := [(98, 1, (1, 1, 0, (.int 0), [])), (99, 1, (4, 0, 1, (.int 0), [])), (100, 3, (8, 206, 0, (.int 0), [(7, 9)])), (103, 1, (40, 0, 0, (.int 0), []))]
abbrev ck_Pkg_writeIndex : zx_K := [(48, ck_Pkg_writeIndex_0), (96, ck_Pkg_writeIndex_1), (104, ck_Pkg_writeIndex_2)]
def ck_Pkg_writeEnd_0 : List (Nat × Nat × zx_I) := [(0, 1, (1, 0, 2, (.int 0), [])), (1, 3, (7, 20, 0, (.int 0), [(7, 3)])), (4, 1, (0, 0, 0, (.int 0), [])), (5, 1, (1, 0, 2, (.int 0), [])), (6, 3, (7, 206, 0, (.int 0), [(7, 9)])), (9, 1, (0, 0, 0, (.int 4), [])), (10, 1, (4, 0, 3, (.int 0), [])), (11, 1, (0, 0, 0, (.int 1), [])), (12, 1, (4, 0, 1, (.int 0), [])), (13, 1, (10, 0, 0, (.int 0), [])), (14, 1, (1, 0, 2, (.int 0), [])), (15, 3, (7, 20, 0, (.int 0), [(7, 3)])), (18, 1, (0, 0, 0, (.int 5), [])), (19, 1, (1, 0, 2, (.int 0), [])), (20, 3, (7, 35, 0, (.int 0), [(7, 5)])), (23, 1, (10, 0, 0, (.int 0), [])), (24, 1, (1, 0, 2, (.int 0), [])), (25, 3, (7, 14, 0, (.int 0), [(7, 0)])), (28, 1, (1, 0, 2, (.int 0), [])), (29, 3, (7, 20, 0, (.int 0), [(7, 3)])), (32, 1, (0, 0, 0, (.int 0), [])), (33, 1, (1, 0, 2, (.int 0), [])), (34, 3, (7, 20, 0, (.int 0), [(7, 3)])), (37, 1, (11, 0, 0, (.int 0), []))]
def ck_Pkg_writeEnd_1 : List (Nat × Nat × zx_I) := [(38, 3, (31, 58, 3, (.int 0), [(0, 17)])), (41, 1, (0, 0, 0, (.int 4), [])), (42, 3, (30, 62, 2, (.int 0), [(1, 24)])), (45, 1, (1, 0, 2, (.int 0), [])), (46, 3, (7, 14, 0, (.int 0), [(7, 0)])), (49, 1, (1, 0, 2, (.int 0), [])), (50, 3, (7, 20, 0, (.int 0), [(7, 3)])), (53, 1, (0, 0, 0, (.int 0), [])), (54, 1, (1, 0, 2, (.int 0), [])), (55, 3, (7, 20, 0, (.int 0), [(7, 3)])), (58, 1, (11, 0, 0, (.int 0), [])), (59, 3, (30, 48, 3, (.int 0), [(1, 23)])), (62, 1, (1, 0, 2, (.int 0), [])), (63, 3, (7, 14, 0, (.int 0), [(7, 0)])), (66, 2, (0, 0, 1, (.int 89), [])), (68, 3, (30, 52, 1, (.int 0), [(1, 22)])), (71, 1, (1, 0, 2, (.int 0), [])), (72, 3, (7, 14, 0, (.int 0), [(7, 0)])), (75, 2, (0, 0, 1, (.int 90), [])), (77, 3, (30, 52, 1, (.int 0), [(1, 22)])), (80, 1, (40, 0, 0, (.int 0), []))]
abbrev ck_Pkg_writeEnd : zx_K := [(38, ck_Pkg_writeEnd_0), (81, ck_Pkg_writeEnd_1)]
def ck_R_feed_0 : List (Nat × Nat × zx_I) := [(0, 2, (1, 4, 0, (.int 0), [])), (2, 3, (21, 12, 0, (.int 0), [])), (5, 1, (1, 0, 2, (.int 0), [])), (6, 3, (7, 50, 0, (.int 0), [(8, 3)])), (9, 3, (6, 16, 0, (.int 0), [])), (12, 1, (1, 0, 2, (.int 0), [])), (13, 3, (7, 53, 0, (.int 0), [(8, 1)])), (16, 2, (2, 5, 0, (.int 0), [])), (18, 1, (1, 3, 0, (.int 0), [])), (19, 1, (0, 0, 0, (.int 1), [])), (20, 3, (20, 50, 2, (.int 0), [])), (23, 1, (1, 3, 0, (.int 0), [])), (24, 2, (0, 0, 1, (.int 8), [])), (26, 3, (20, 50, 4, (.int 0), [])), (29, 2, (1, 5, 0, (.int 0), [])), (31, 1, (1, 3, 0, (.int 0), [])), (32, 1, (4, 0, 0, (.int 0), [])), (33, 2, (1, 4, 0, (.int 0), [])), (35, 3, (21, 44, 0, (.int 0), [])), (38, 3, (0, 0, 2, (.int 640), [])), (41, 3, (6, 47, 0, (.int 0), [])), (44, 3, (0, 0, 2, (.int 400), [])), (47, 3, (20, 52, 5, (.int 0), [])), (50, 1, (0, 0, 0, (.int (-1)), []))]
def ck_R_feed_1 : List (Nat × Nat × zx_I) := [(51, 1, (40, 0, 1, (.int 0), [])), (52, 1, (1, 3, 0, (.int 0), [])), (53, 1, (0, 0, 0, (.int 1), [])), (54, 1, (4, 0, 1, (.int 0), [])), (55, 2, (2, 6, 0, (.int 0), [])), (57, 2, (1, 6, 0, (.int 0), [])), (59, 3, (21, 132, 2, (.int 0), [])), (62, 1, (1, 1, 1, (.int 0), [])), (63, 2, (0, 0, 1, (.int 8), [])), (65, 2, (1, 6, 0, (.int 0), [])), (67, 1, (4, 0, 2, (.int 0), [])), (68, 1, (4, 0, 18, (.int 0), [])), (69, 3, (0, 56, 5, (.long 255), [])), (72, 1, (4, 0, 14, (.int 0), [])), (73, 1, (5, 0, 1, (.int 0), [])), (74, 2, (2, 7, 0, (.int 0), [])), (76, 2, (1, 4, 0, (.int 0), [])), (78, 3, (21, 105, 0, (.int 0), [])), (81, 1, (1, 0, 2, (.int 0), [])), (82, 3, (7, 13, 0, (.int 0), [(8, 2)])), (85, 1, (1, 0, 2, (.int 0), [])), (86, 3, (7, 50, 0, (.int 0), [(8, 3)])), (89, 2, (1, 7, 0, (.int 0), [])), (91, 1, (10, 0, 0, (.int 0), []))]
def ck_R_feed_2 : List (Nat × Nat × zx_I) := [(92, 1, (1, 0, 2, (.int 0), [])), (93, 1, (12, 0, 0, (.int 0), [])), (94, 3, (7, 50, 0, (.int 0), [(8, 3)])), (97, 1, (0, 0, 0, (.int 1), [])), (98, 1, (4, 0, 0, (.int 0), [])), (99, 3, (8, 50, 0, (.int 0), [(8, 3)])), (102, 3, (6, 126, 0, (.int 0), [])), (105, 1, (1, 0, 2, (.int 0), [])), (106, 3, (7, 7, 0, (.int 0), [(8, 0)])), (109, 1, (1, 0, 2, (.int 0), [])), (110, 3, (7, 53, 0, (.int 0), [(8, 1)])), (113, 2, (1, 7, 0, (.int 0), [])), (115, 1, (10, 0, 0, (.int 0), [])), (116, 1, (1, 0, 2, (.int 0), [])), (117, 1, (12, 0, 0, (.int 0), [])), (118, 3, (7, 53, 0, (.int 0), [(8, 1)])), (121, 1, (0, 0, 0, (.int 1), [])), (122, 1, (4, 0, 0, (.int 0), [])), (123, 3, (8, 53, 0, (.int 0), [(8, 1)])), (126, 3, (3, 6, 0, (.int (-1)), [])), (129, 3, (6, 57, 0, (.int 0), [])), (132, 2, (1, 5, 0, (.int 0), [])), (134, 1, (1, 3, 0, (.int 0), [])), (135, 1, (4, 0, 0, (.int 0), []))]
def ck_R_feed_3 : List (Nat × Nat × zx_I) := [(136, 1, (40, 0, 1, (.int 0), []))]
abbrev ck_R_feed : zx_K := [(51, ck_R_feed_0), (92, ck_R_feed_1), (136, ck_R_feed_2), (137, ck_R_feed_3)]
def ck_R_copy_0 : List (Nat × Nat × zx_I) := [(0, 1, (1, 2, 0, (.int 0), [])), (1, 1, (0, 0, 0, (.int 1), [])), (2, 3, (20, 37, 2, (.int 0), [])), (5, 1, (1, 2, 0, (.int 0), [])), (6, 3, (0, 0, 2, (.int 300), [])), (9, 3, (20, 37, 4, (.int 0), [])), (12, 1, (1, 1, 0, (.int 0), [])), (13, 1, (0, 0, 0, (.int 1), [])), (14, 3, (20, 37, 2, (.int 0), [])), (17, 1, (1, 1, 0, (.int 0), [])), (18, 1, (1, 0, 2, (.int 0), [])), (19, 3, (7, 53, 0, (.int 0), [(8, 1)])), (22, 3, (20, 37, 4, (.int 0), [])), (25, 1, (1, 0, 2, (.int 0), [])), (26, 3, (7, 53, 0, (.int 0), [(8, 1)])), (29, 1, (1, 2, 0, (.int 0), [])), (30, 1, (4, 0, 0, (.int 0), [])), (31, 3, (0, 0, 2, (.int 400), [])), (34, 3, (20, 39, 5, (.int 0), [])), (37, 1, (0, 0, 0, (.int (-1)), [])), (38, 1, (40, 0, 1, (.int 0), [])), (39, 1, (0, 0, 0, (.int 0), [])), (40, 1, (2, 3, 0, (.int 0), [])), (41, 1, (1, 3, 0, (.int 0), []))]
def ck_R_copy_1 : List (Nat × Nat × zx_I) := [(42, 1, (1, 2, 0, (.int 0), [])), (43, 3, (20, 82, 3, (.int 0), [])), (46, 1, (1, 0, 2, (.int 0), [])), (47, 3, (7, 7, 0, (.int 0), [(8, 0)])), (50, 1, (1, 0, 2, (.int 0), [])), (51, 3, (7, 53, 0, (.int 0), [(8, 1)])), (54, 1, (1, 0, 2, (.int 0), [])), (55, 3, (7, 7, 0, (.int 0), [(8, 0)])), (58, 1, (1, 0, 2, (.int 0), [])), (59, 3, (7, 53, 0, (.int 0), [(8, 1)])), (62, 1, (1, 1, 0, (.int 0), [])), (63, 1, (4, 0, 1, (.int 0), [])), (64, 1, (9, 0, 0, (.int 0), [])), (65, 1, (10, 0, 0, (.int 0), [])), (66, 1, (1, 0, 2, (.int 0), [])), (67, 1, (12, 0, 0, (.int 0), [])), (68, 3, (7, 53, 0, (.int 0), [(8, 1)])), (71, 1, (0, 0, 0, (.int 1), [])), (72, 1, (4, 0, 0, (.int 0), [])), (73, 3, (8, 53, 0, (.int 0), [(8, 1)])), (76, 3, (3, 3, 0, (.int 1), [])), (79, 3, (6, 41, 0, (.int 0), [])), (82, 1, (1, 0, 2, (.int 0), [])), (83, 3, (7, 53, 0, (.int 0), [(8, 1)]))]
def ck_R_copy_2 : List (Nat × Nat × zx_I) := [(86, 1, (40, 0, 1, (.int 0), []))]
abbrev ck_R_copy : zx_K := [(42, ck_R_copy_0), (84, ck_R_copy_1), (87, ck_R_copy_2)]
def ck_R_cut_0 : List (Nat × Nat × zx_I) := [(0, 1, (1, 2, 0, (.int 0), [])), (1, 3, (21, 11, 0, (.int 0), [])), (4, 1, (1, 0, 2, (.int 0), [])), (5, 3, (7, 50, 0, (.int 0), [(8, 3)])), (8, 3, (6, 15, 0, (.int 0), [])), (11, 1, (1, 0, 2, (.int 0), [])), (12, 3, (7, 53, 0, (.int 0), [(8, 1)])), (15, 1, (2, 3, 0, (.int 0), [])), (16, 1, (1, 1, 0, (.int 0), [])), (17, 3, (21, 25, 2, (.int 0), [])), (20, 1, (1, 1, 0, (.int 0), [])), (21, 1, (1, 3, 0, (.int 0), [])), (22, 3, (20, 27, 5, (.int 0), [])), (25, 1, (0, 0, 0, (.int (-1)), [])), (26, 1, (40, 0, 1, (.int 0), [])), (27, 1, (1, 0, 2, (.int 0), [])), (28, 1, (1, 2, 0, (.int 0), [])), (29, 3, (21, 36, 0, (.int 0), [])), (32, 1, (1, 1, 0, (.int 0), [])), (33, 3, (6, 40, 0, (.int 0), [])), (36, 1, (1, 0, 2, (.int 0), [])), (37, 3, (7, 50, 0, (.int 0), [(8, 3)])), (40, 3, (8, 50, 0, (.int 0), [(8, 3)])), (43, 1, (1, 0, 2, (.int 0), []))]
def ck_R_cut_1 : List (Nat × Nat × zx_I) := [(44, 1, (1, 2, 0, (.int 0), [])), (45, 3, (21, 55, 0, (.int 0), [])), (48, 1, (1, 0, 2, (.int 0), [])), (49, 3, (7, 53, 0, (.int 0), [(8, 1)])), (52, 3, (6, 56, 0, (.int 0), [])), (55, 1, (1, 1, 0, (.int 0), [])), (56, 3, (8, 53, 0, (.int 0), [(8, 1)])), (59, 1, (1, 3, 0, (.int 0), [])), (60, 1, (1, 1, 0, (.int 0), [])), (61, 1, (4, 0, 1, (.int 0), [])), (62, 1, (40, 0, 1, (.int 0), []))]
abbrev ck_R_cut : zx_K := [(44, ck_R_cut_0), (63, ck_R_cut_1)]
def ck_R_change_0 : List (Nat × Nat × zx_I) := [(0, 1, (1, 1, 0, (.int 0), [])), (1, 3, (21, 23, 2, (.int 0), [])), (4, 1, (1, 1, 0, (.int 0), [])), (5, 1, (1, 0, 2, (.int 0), [])), (6, 3, (7, 50, 0, (.int 0), [(8, 3)])), (9, 3, (20, 23, 3, (.int 0), [])), (12, 1, (1, 2, 0, (.int 0), [])), (13, 3, (21, 23, 2, (.int 0), [])), (16, 1, (1, 2, 0, (.int 0), [])), (17, 3, (0, 0, 2, (.int 255), [])), (20, 3, (20, 25, 5, (.int 0), [])), (23, 1, (0, 0, 0, (.int (-1)), [])), (24, 1, (40, 0, 1, (.int 0), [])), (25, 1, (1, 0, 2, (.int 0), [])), (26, 3, (7, 13, 0, (.int 0), [(8, 2)])), (29, 1, (1, 1, 0, (.int 0), [])), (30, 1, (9, 0, 0, (.int 0), [])), (31, 1, (2, 3, 0, (.int 0), [])), (32, 1, (1, 0, 2, (.int 0), [])), (33, 3, (7, 13, 0, (.int 0), [(8, 2)])), (36, 1, (1, 1, 0, (.int 0), [])), (37, 1, (1, 2, 0, (.int 0), [])), (38, 1, (10, 0, 0, (.int 0), [])), (39, 1, (1, 3, 0, (.int 0), []))]
def ck_R_change_1 : List (Nat × Nat × zx_I) := [(40, 1, (40, 0, 1, (.int 0), []))]
abbrev ck_R_change : zx_K := [(40, ck_R_change_0), (41, ck_R_change_1)]
def ck_R_at_0 : List (Nat × Nat × zx_I) := [(0, 1, (1, 1, 0, (.int 0), [])), (1, 3, (21, 23, 2, (.int 0), [])), (4, 1, (1, 1, 0, (.int 0), [])), (5, 1, (1, 2, 0, (.int 0), [])), (6, 3, (21, 16, 0, (.int 0), [])), (9, 1, (1, 0, 2, (.int 0), [])), (10, 3, (7, 50, 0, (.int 0), [(8, 3)])), (13, 3, (6, 20, 0, (.int 0), [])), (16, 1, (1, 0, 2, (.int 0), [])), (17, 3, (7, 53, 0, (.int 0), [(8, 1)])), (20, 3, (20, 25, 2, (.int 0), [])), (23, 1, (0, 0, 0, (.int (-1)), [])), (24, 1, (40, 0, 1, (.int 0), [])), (25, 1, (1, 2, 0, (.int 0), [])), (26, 3, (21, 38, 0, (.int 0), [])), (29, 1, (1, 0, 2, (.int 0), [])), (30, 3, (7, 13, 0, (.int 0), [(8, 2)])), (33, 1, (1, 1, 0, (.int 0), [])), (34, 1, (9, 0, 0, (.int 0), [])), (35, 3, (6, 44, 0, (.int 0), [])), (38, 1, (1, 0, 2, (.int 0), [])), (39, 3, (7, 7, 0, (.int 0), [(8, 0)])), (42, 1, (1, 1, 0, (.int 0), [])), (43, 1, (9, 0, 0, (.int 0), []))]
def ck_R_at_1 : List (Nat × Nat × zx_I) := [(44, 1, (40, 0, 1, (.int 0), []))]
abbrev ck_R_at : zx_K := [(44, ck_R_at_0), (45, ck_R_at_1)]
def ck_R_four_0 : List (Nat × Nat × zx_I) := [(0, 1, (1, 0, 1, (.int 0), [])), (1, 1, (1, 2, 0, (.int 0), [])), (2, 1, (5, 0, 0, (.int 0), [])), (3, 1, (4, 0, 16, (.int 0), [])), (4, 1, (2, 3, 1, (.int 0), [])), (5, 1, (0, 0, 0, (.int 0), [])), (6, 2, (2, 5, 0, (.int 0), [])), (8, 2, (1, 5, 0, (.int 0), [])), (10, 2, (0, 0, 1, (.int 8), [])), (12, 3, (20, 43, 3, (.int 0), [])), (15, 1, (1, 3, 1, (.int 0), [])), (16, 1, (0, 0, 4, (.long 1), [])), (17, 1, (4, 0, 14, (.int 0), [])), (18, 1, (0, 0, 4, (.long 1), [])), (19, 4, (22, 33, 1, (.int 0), [])), (23, 1, (1, 3, 1, (.int 0), [])), (24, 1, (0, 0, 0, (.int 1), [])), (25, 1, (4, 0, 18, (.int 0), [])), (26, 3, (0, 58, 5, (.long 3988292384), [])), (29, 1, (4, 0, 16, (.int 0), [])), (30, 3, (6, 36, 0, (.int 0), [])), (33, 1, (1, 3, 1, (.int 0), [])), (34, 1, (0, 0, 0, (.int 1), [])), (35, 1, (4, 0, 18, (.int 0), []))]
def ck_R_four_1 : List (Nat × Nat × zx_I) := [(36, 1, (2, 3, 1, (.int 0), [])), (37, 3, (3, 5, 0, (.int 1), [])), (40, 3, (6, 8, 0, (.int 0), [])), (43, 1, (1, 3, 1, (.int 0), [])), (44, 1, (40, 0, 2, (.int 0), []))]
abbrev ck_R_four : zx_K := [(36, ck_R_four_0), (45, ck_R_four_1)]
def ck_R_eight_0 : List (Nat × Nat × zx_I) := [(0, 1, (1, 0, 1, (.int 0), [])), (1, 1, (1, 2, 0, (.int 0), [])), (2, 1, (5, 0, 0, (.int 0), [])), (3, 1, (4, 0, 16, (.int 0), [])), (4, 1, (2, 3, 1, (.int 0), [])), (5, 1, (0, 0, 0, (.int 0), [])), (6, 2, (2, 5, 0, (.int 0), [])), (8, 2, (1, 5, 0, (.int 0), [])), (10, 2, (0, 0, 1, (.int 8), [])), (12, 3, (20, 43, 3, (.int 0), [])), (15, 1, (1, 3, 1, (.int 0), [])), (16, 1, (0, 0, 4, (.long 1), [])), (17, 1, (4, 0, 14, (.int 0), [])), (18, 1, (0, 0, 4, (.long 1), [])), (19, 4, (22, 33, 1, (.int 0), [])), (23, 1, (1, 3, 1, (.int 0), [])), (24, 1, (0, 0, 0, (.int 1), [])), (25, 1, (4, 0, 19, (.int 0), [])), (26, 3, (0, 60, 5, (.long (-3932672073523589310)), [])), (29, 1, (4, 0, 16, (.int 0), [])), (30, 3, (6, 36, 0, (.int 0), [])), (33, 1, (1, 3, 1, (.int 0), [])), (34, 1, (0, 0, 0, (.int 1), [])), (35, 1, (4, 0, 19, (.int 0), []))]
def ck_R_eight_1 : List (Nat × Nat × zx_I) := [(36, 1, (2, 3, 1, (.int 0), [])), (37, 3, (3, 5, 0, (.int 1), [])), (40, 3, (6, 8, 0, (.int 0), [])), (43, 1, (1, 3, 1, (.int 0), [])), (44, 1, (40, 0, 2, (.int 0), []))]
abbrev ck_R_eight : zx_K := [(36, ck_R_eight_0), (45, ck_R_eight_1)]
def ck_R_fourOfPacked_0 : List (Nat × Nat × zx_I) := [(0, 3, (0, 62, 5, (.long 4294967295), [])), (3, 1, (2, 3, 1, (.int 0), [])), (4, 1, (1, 1, 0, (.int 0), [])), (5, 2, (2, 5, 0, (.int 0), [])), (7, 2, (1, 5, 0, (.int 0), [])), (9, 1, (1, 2, 0, (.int 0), [])), (10, 3, (20, 31, 3, (.int 0), [])), (13, 1, (1, 3, 1, (.int 0), [])), (14, 1, (1, 0, 2, (.int 0), [])), (15, 3, (7, 13, 0, (.int 0), [(8, 2)])), (18, 2, (1, 5, 0, (.int 0), [])), (20, 1, (9, 0, 0, (.int 0), [])), (21, 3, (31, 64, 2, (.int 0), [(0, 107)])), (24, 1, (2, 3, 1, (.int 0), [])), (25, 3, (3, 5, 0, (.int 1), [])), (28, 3, (6, 7, 0, (.int 0), [])), (31, 1, (1, 3, 1, (.int 0), [])), (32, 3, (0, 62, 5, (.long 4294967295), [])), (35, 1, (4, 0, 16, (.int 0), [])), (36, 1, (40, 0, 2, (.int 0), []))]
abbrev ck_R_fourOfPacked : zx_K := [(37, ck_R_fourOfPacked_0)]
def ck_R_fourOfMade_0 : List (Nat × Nat × zx_I) := [(0, 3, (0, 62, 5, (.long 4294967295), [])), (3, 1, (2, 2, 1, (.int 0), [])), (4, 1, (1, 1, 0, (.int 0), [])), (5, 2, (2, 4, 0, (.int 0), [])), (7, 2, (1, 4, 0, (.int 0), [])), (9, 1, (1, 0, 2, (.int 0), [])), (10, 3, (7, 68, 0, (.int 0), [(8, 5)])), (13, 3, (20, 34, 3, (.int 0), [])), (16, 1, (1, 2, 1, (.int 0), [])), (17, 1, (1, 0, 2, (.int 0), [])), (18, 3, (7, 16, 0, (.int 0), [(8, 4)])), (21, 2, (1, 4, 0, (.int 0), [])), (23, 1, (9, 0, 0, (.int 0), [])), (24, 3, (31, 64, 2, (.int 0), [(0, 107)])), (27, 1, (2, 2, 1, (.int 0), [])), (28, 3, (3, 4, 0, (.int 1), [])), (31, 3, (6, 7, 0, (.int 0), [])), (34, 1, (1, 2, 1, (.int 0), [])), (35, 3, (0, 62, 5, (.long 4294967295), [])), (38, 1, (4, 0, 16, (.int 0), [])), (39, 1, (40, 0, 2, (.int 0), []))]
abbrev ck_R_fourOfMade : zx_K := [(40, ck_R_fourOfMade_0)]
def ck_R_eightOfMade_0 : List (Nat × Nat × zx_I) := [(0, 3, (0, 38, 5, (.long (-1)), [])), (3, 1, (2, 2, 1, (.int 0), [])), (4, 1, (1, 1, 0, (.int 0), [])), (5, 2, (2, 4, 0, (.int 0), [])), (7, 2, (1, 4, 0, (.int 0), [])), (9, 1, (1, 0, 2, (.int 0), [])), (10, 3, (7, 68, 0, (.int 0), [(8, 5)])), (13, 3, (20, 34, 3, (.int 0), [])), (16, 1, (1, 2, 1, (.int 0), [])), (17, 1, (1, 0, 2, (.int 0), [])), (18, 3, (7, 16, 0, (.int 0), [(8, 4)])), (21, 2, (1, 4, 0, (.int 0), [])), (23, 1, (9, 0, 0, (.int 0), [])), (24, 3, (31, 71, 2, (.int 0), [(0, 108)])), (27, 1, (2, 2, 1, (.int 0), [])), (28, 3, (3, 4, 0, (.int 1), [])), (31, 3, (6, 7, 0, (.int 0), [])), (34, 1, (1, 2, 1, (.int 0), [])), (35, 3, (0, 38, 5, (.long (-1)), [])), (38, 1, (4, 0, 16, (.int 0), [])), (39, 1, (40, 0, 2, (.int 0), []))]
abbrev ck_R_eightOfMade : zx_K := [(40, ck_R_eightOfMade_0)]
def ck_R_sum_0 : List (Nat × Nat × zx_I) := [(0, 1, (1, 1, 0, (.int 0), [])), (1, 3, (21, 10, 0, (.int 0), [])), (4, 3, (0, 38, 5, (.long (-1)), [])), (7, 3, (6, 13, 0, (.int 0), [])), (10, 3, (0, 62, 5, (.long 4294967295), [])), (13, 1, (2, 2, 1, (.int 0), [])), (14, 1, (0, 0, 0, (.int 0), [])), (15, 2, (2, 4, 0, (.int 0), [])), (17, 2, (1, 4, 0, (.int 0), [])), (19, 1, (1, 0, 2, (.int 0), [])), (20, 3, (7, 53, 0, (.int 0), [(8, 1)])), (23, 3, (20, 62, 3, (.int 0), [])), (26, 1, (1, 1, 0, (.int 0), [])), (27, 3, (21, 44, 0, (.int 0), [])), (30, 1, (1, 2, 1, (.int 0), [])), (31, 1, (1, 0, 2, (.int 0), [])), (32, 3, (7, 7, 0, (.int 0), [(8, 0)])), (35, 2, (1, 4, 0, (.int 0), [])), (37, 1, (9, 0, 0, (.int 0), [])), (38, 3, (31, 71, 2, (.int 0), [(0, 108)])), (41, 3, (6, 55, 0, (.int 0), [])), (44, 1, (1, 2, 1, (.int 0), [])), (45, 1, (1, 0, 2, (.int 0), [])), (46, 3, (7, 7, 0, (.int 0), [(8, 0)]))]
def ck_R_sum_1 : List (Nat × Nat × zx_I) := [(49, 2, (1, 4, 0, (.int 0), [])), (51, 1, (9, 0, 0, (.int 0), [])), (52, 3, (31, 64, 2, (.int 0), [(0, 107)])), (55, 1, (2, 2, 1, (.int 0), [])), (56, 3, (3, 4, 0, (.int 1), [])), (59, 3, (6, 17, 0, (.int 0), [])), (62, 1, (1, 1, 0, (.int 0), [])), (63, 3, (21, 74, 0, (.int 0), [])), (66, 1, (1, 2, 1, (.int 0), [])), (67, 3, (0, 38, 5, (.long (-1)), [])), (70, 1, (4, 0, 16, (.int 0), [])), (71, 3, (6, 79, 0, (.int 0), [])), (74, 1, (1, 2, 1, (.int 0), [])), (75, 3, (0, 62, 5, (.long 4294967295), [])), (78, 1, (4, 0, 16, (.int 0), [])), (79, 1, (40, 0, 2, (.int 0), []))]
abbrev ck_R_sum : zx_K := [(47, ck_R_sum_0), (80, ck_R_sum_1)]
def ck_R_fail_0 : List (Nat × Nat × zx_I) := [(0, 1, (1, 0, 2, (.int 0), [])), (1, 1, (1, 0, 2, (.int 0), [])), (2, 3, (7, 74, 0, (.int 0), [(8, 29)])), (5, 3, (21, 12, 1, (.int 0), [])), (8, 1, (1, 2, 0, (.int 0), [])), (9, 3, (6, 16, 0, (.int 0), [])), (12, 1, (1, 0, 2, (.int 0), [])), (13, 3, (7, 28, 0, (.int 0), [(8, 30)])), (16, 3, (8, 28, 0, (.int 0), [(8, 30)])), (19, 1, (1, 0, 2, (.int 0), [])), (20, 1, (1, 0, 2, (.int 0), [])), (21, 3, (7, 74, 0, (.int 0), [(8, 29)])), (24, 3, (21, 31, 1, (.int 0), [])), (27, 1, (1, 1, 0, (.int 0), [])), (28, 3, (6, 35, 0, (.int 0), [])), (31, 1, (1, 0, 2, (.int 0), [])), (32, 3, (7, 74, 0, (.int 0), [(8, 29)])), (35, 3, (8, 74, 0, (.int 0), [(8, 29)])), (38, 1, (40, 0, 0, (.int 0), []))]
abbrev ck_R_fail : zx_K := [(39, ck_R_fail_0)]
def ck_R_has_0 : List (Nat × Nat × zx_I) := [(0, 1, (1, 1, 0, (.int 0), [])), (1, 1, (1, 0, 2, (.int 0), [])), (2, 3, (7, 50, 0, (.int 0), [(8, 3)])), (5, 1, (1, 0, 2, (.int 0), [])), (6, 3, (7, 77, 0, (.int 0), [(8, 28)])), (9, 1, (4, 0, 1, (.int 0), [])), (10, 3, (20, 23, 5, (.int 0), [])), (13, 1, (1, 0, 2, (.int 0), [])), (14, 2, (0, 0, 1, (.int (-2)), [])), (16, 1, (1, 0, 2, (.int 0), [])), (17, 3, (7, 77, 0, (.int 0), [(8, 28)])), (20, 3, (30, 80, 2, (.int 0), [(8, 113)])), (23, 1, (1, 0, 2, (.int 0), [])), (24, 3, (7, 74, 0, (.int 0), [(8, 29)])), (27, 3, (21, 34, 1, (.int 0), [])), (30, 1, (0, 0, 0, (.int 1), [])), (31, 3, (6, 35, 0, (.int 0), [])), (34, 1, (0, 0, 0, (.int 0), [])), (35, 1, (40, 0, 4, (.int 0), []))]
abbrev ck_R_has : zx_K := [(36, ck_R_has_0)]
def ck_R_number_0 : List (Nat × Nat × zx_I) := [(0, 1, (0, 0, 3, (.long 0), [])), (1, 1, (2, 3, 1, (.int 0), [])), (2, 1, (1, 2, 0, (.int 0), [])), (3, 1, (0, 0, 0, (.int 1), [])), (4, 1, (4, 0, 1, (.int 0), [])), (5, 2, (2, 5, 0, (.int 0), [])), (7, 2, (1, 5, 0, (.int 0), [])), (9, 3, (21, 34, 2, (.int 0), [])), (12, 1, (1, 3, 1, (.int 0), [])), (13, 2, (0, 0, 1, (.int 8), [])), (15, 1, (4, 0, 17, (.int 0), [])), (16, 1, (1, 0, 2, (.int 0), [])), (17, 3, (7, 13, 0, (.int 0), [(8, 2)])), (20, 1, (1, 1, 0, (.int 0), [])), (21, 2, (1, 5, 0, (.int 0), [])), (23, 1, (4, 0, 0, (.int 0), [])), (24, 1, (9, 0, 0, (.int 0), [])), (25, 1, (5, 0, 0, (.int 0), [])), (26, 1, (4, 0, 15, (.int 0), [])), (27, 1, (2, 3, 1, (.int 0), [])), (28, 3, (3, 5, 0, (.int (-1)), [])), (31, 3, (6, 7, 0, (.int 0), [])), (34, 1, (1, 3, 1, (.int 0), [])), (35, 1, (40, 0, 2, (.int 0), []))]
abbrev ck_R_number : zx_K := [(36, ck_R_number_0)]
def ck_R_sumOf_0 : List (Nat × Nat × zx_I) := [(0, 1, (1, 0, 2, (.int 0), [])), (1, 1, (0, 0, 0, (.int 4), [])), (2, 3, (30, 84, 1, (.int 0), [(8, 114)])), (5, 3, (21, 50, 0, (.int 0), [])), (8, 1, (1, 0, 2, (.int 0), [])), (9, 1, (1, 0, 2, (.int 0), [])), (10, 3, (7, 77, 0, (.int 0), [(8, 28)])), (13, 1, (0, 0, 0, (.int 4), [])), (14, 3, (30, 88, 2, (.int 0), [(8, 115)])), (17, 1, (1, 0, 2, (.int 0), [])), (18, 1, (1, 1, 0, (.int 0), [])), (19, 1, (1, 0, 2, (.int 0), [])), (20, 3, (7, 77, 0, (.int 0), [(8, 28)])), (23, 3, (30, 92, 2, (.int 0), [(8, 109)])), (26, 4, (22, 40, 0, (.int 0), [])), (30, 1, (1, 0, 2, (.int 0), [])), (31, 2, (0, 0, 1, (.int (-4)), [])), (33, 1, (1, 0, 2, (.int 0), [])), (34, 3, (7, 77, 0, (.int 0), [(8, 28)])), (37, 3, (30, 80, 2, (.int 0), [(8, 113)])), (40, 1, (1, 0, 2, (.int 0), [])), (41, 1, (1, 0, 2, (.int 0), [])), (42, 3, (7, 77, 0, (.int 0), [(8, 28)])), (45, 1, (0, 0, 0, (.int 4), []))]
def ck_R_sumOf_1 : List (Nat × Nat × zx_I) := [(46, 1, (4, 0, 0, (.int 0), [])), (47, 3, (8, 77, 0, (.int 0), [(8, 28)])), (50, 1, (40, 0, 0, (.int 0), []))]
abbrev ck_R_sumOf : zx_K := [(46, ck_R_sumOf_0), (51, ck_R_sumOf_1)]
def ck_R_vli_0 : List (Nat × Nat × zx_I) := [(0, 1, (1, 0, 2, (.int 0), [])), (1, 3, (7, 77, 0, (.int 0), [(8, 28)])), (4, 1, (2, 3, 0, (.int 0), [])), (5, 1, (0, 0, 3, (.long 0), [])), (6, 2, (2, 4, 1, (.int 0), [])), (8, 1, (0, 0, 0, (.int 0), [])), (9, 2, (2, 6, 0, (.int 0), [])), (11, 2, (1, 6, 0, (.int 0), [])), (13, 2, (0, 0, 1, (.int 9), [])), (15, 3, (20, 113, 3, (.int 0), [])), (18, 1, (1, 0, 2, (.int 0), [])), (19, 3, (7, 74, 0, (.int 0), [(8, 29)])), (22, 3, (21, 113, 1, (.int 0), [])), (25, 1, (1, 0, 2, (.int 0), [])), (26, 3, (7, 77, 0, (.int 0), [(8, 28)])), (29, 1, (1, 1, 0, (.int 0), [])), (30, 3, (20, 41, 2, (.int 0), [])), (33, 1, (1, 0, 2, (.int 0), [])), (34, 1, (1, 2, 0, (.int 0), [])), (35, 1, (1, 3, 0, (.int 0), [])), (36, 3, (30, 80, 2, (.int 0), [(8, 113)])), (39, 1, (0, 0, 3, (.long 0), [])), (40, 1, (40, 0, 2, (.int 0), [])), (41, 1, (1, 0, 2, (.int 0), []))]
def ck_R_vli_1 : List (Nat × Nat × zx_I) := [(42, 3, (7, 13, 0, (.int 0), [(8, 2)])), (45, 1, (1, 0, 2, (.int 0), [])), (46, 3, (7, 77, 0, (.int 0), [(8, 28)])), (49, 1, (9, 0, 0, (.int 0), [])), (50, 2, (2, 7, 0, (.int 0), [])), (52, 1, (1, 0, 2, (.int 0), [])), (53, 1, (12, 0, 0, (.int 0), [])), (54, 3, (7, 77, 0, (.int 0), [(8, 28)])), (57, 1, (0, 0, 0, (.int 1), [])), (58, 1, (4, 0, 0, (.int 0), [])), (59, 3, (8, 77, 0, (.int 0), [(8, 28)])), (62, 2, (1, 4, 1, (.int 0), [])), (64, 2, (1, 7, 0, (.int 0), [])), (66, 2, (0, 0, 1, (.int 127), [])), (68, 1, (4, 0, 5, (.int 0), [])), (69, 1, (5, 0, 0, (.int 0), [])), (70, 2, (0, 0, 1, (.int 7), [])), (72, 2, (1, 6, 0, (.int 0), [])), (74, 1, (4, 0, 2, (.int 0), [])), (75, 1, (4, 0, 17, (.int 0), [])), (76, 1, (4, 0, 15, (.int 0), [])), (77, 2, (2, 4, 1, (.int 0), [])), (79, 2, (1, 7, 0, (.int 0), [])), (81, 3, (0, 0, 2, (.int 128), []))]
def ck_R_vli_2 : List (Nat × Nat × zx_I) := [(84, 3, (20, 107, 3, (.int 0), [])), (87, 2, (1, 7, 0, (.int 0), [])), (89, 3, (21, 104, 1, (.int 0), [])), (92, 2, (1, 6, 0, (.int 0), [])), (94, 3, (21, 104, 5, (.int 0), [])), (97, 1, (1, 0, 2, (.int 0), [])), (98, 2, (0, 0, 1, (.int (-3)), [])), (100, 1, (1, 3, 0, (.int 0), [])), (101, 3, (30, 80, 2, (.int 0), [(8, 113)])), (104, 2, (1, 4, 1, (.int 0), [])), (106, 1, (40, 0, 2, (.int 0), [])), (107, 3, (3, 6, 0, (.int 1), [])), (110, 3, (6, 11, 0, (.int 0), [])), (113, 1, (1, 0, 2, (.int 0), [])), (114, 2, (0, 0, 1, (.int (-3)), [])), (116, 1, (1, 3, 0, (.int 0), [])), (117, 3, (30, 80, 2, (.int 0), [(8, 113)])), (120, 1, (0, 0, 3, (.long 0), [])), (121, 1, (40, 0, 2, (.int 0), []))]
abbrev ck_R_vli : zx_K := [(42, ck_R_vli_0), (82, ck_R_vli_1), (122, ck_R_vli_2)]
def ck_R_zeros_0 : List (Nat × Nat × zx_I) := [(0, 1, (1, 0, 2, (.int 0), [])), (1, 3, (7, 74, 0, (.int 0), [(8, 29)])), (4, 3, (21, 61, 1, (.int 0), [])), (7, 1, (1, 0, 2, (.int 0), [])), (8, 3, (7, 77, 0, (.int 0), [(8, 28)])), (11, 1, (1, 1, 0, (.int 0), [])), (12, 1, (4, 0, 1, (.int 0), [])), (13, 1, (0, 0, 0, (.int 4), [])), (14, 1, (4, 0, 4, (.int 0), [])), (15, 3, (21, 61, 0, (.int 0), [])), (18, 1, (1, 0, 2, (.int 0), [])), (19, 1, (0, 0, 0, (.int 1), [])), (20, 3, (30, 84, 1, (.int 0), [(8, 114)])), (23, 3, (21, 61, 0, (.int 0), [])), (26, 1, (1, 0, 2, (.int 0), [])), (27, 3, (7, 13, 0, (.int 0), [(8, 2)])), (30, 1, (1, 0, 2, (.int 0), [])), (31, 3, (7, 77, 0, (.int 0), [(8, 28)])), (34, 1, (9, 0, 0, (.int 0), [])), (35, 3, (21, 48, 0, (.int 0), [])), (38, 1, (1, 0, 2, (.int 0), [])), (39, 2, (0, 0, 1, (.int (-3)), [])), (41, 1, (1, 0, 2, (.int 0), [])), (42, 3, (7, 77, 0, (.int 0), [(8, 28)]))]
def ck_R_zeros_1 : List (Nat × Nat × zx_I) := [(45, 3, (30, 80, 2, (.int 0), [(8, 113)])), (48, 1, (1, 0, 2, (.int 0), [])), (49, 1, (12, 0, 0, (.int 0), [])), (50, 3, (7, 77, 0, (.int 0), [(8, 28)])), (53, 1, (0, 0, 0, (.int 1), [])), (54, 1, (4, 0, 0, (.int 0), [])), (55, 3, (8, 77, 0, (.int 0), [(8, 28)])), (58, 3, (6, 0, 0, (.int 0), [])), (61, 1, (40, 0, 0, (.int 0), []))]
abbrev ck_R_zeros : zx_K := [(43, ck_R_zeros_0), (62, ck_R_zeros_1)]
def ck_R_magic_0 : List (Nat × Nat × zx_I) := [(0, 1, (1, 0, 0, (.int 0), [])), (1, 3, (21, 10, 1, (.int 0), [])), (4, 3, (0, 0, 2, (.int 253), [])), (7, 3, (6, 51, 0, (.int 0), [])), (10, 1, (1, 0, 0, (.int 0), [])), (11, 1, (0, 0, 0, (.int 1), [])), (12, 3, (20, 20, 1, (.int 0), [])), (15, 2, (0, 0, 1, (.int 55), [])), (17, 3, (6, 51, 0, (.int 0), [])), (20, 1, (1, 0, 0, (.int 0), [])), (21, 1, (0, 0, 0, (.int 2), [])), (22, 3, (20, 30, 1, (.int 0), [])), (25, 2, (0, 0, 1, (.int 122), [])), (27, 3, (6, 51, 0, (.int 0), [])), (30, 1, (1, 0, 0, (.int 0), [])), (31, 1, (0, 0, 0, (.int 3), [])), (32, 3, (20, 40, 1, (.int 0), [])), (35, 2, (0, 0, 1, (.int 88), [])), (37, 3, (6, 51, 0, (.int 0), [])), (40, 1, (1, 0, 0, (.int 0), [])), (41, 1, (0, 0, 0, (.int 4), [])), (42, 3, (20, 50, 1, (.int 0), [])), (45, 2, (0, 0, 1, (.int 90), [])), (47, 3, (6, 51, 0, (.int 0), []))]
def ck_R_magic_1 : List (Nat × Nat × zx_I) := [(50, 1, (0, 0, 0, (.int 0), [])), (51, 1, (40, 0, 1, (.int 0), []))]
abbrev ck_R_magic : zx_K := [(48, ck_R_magic_0), (52, ck_R_magic_1)]
def ck_R_isSort_0 : List (Nat × Nat × zx_I) := [(0, 1, (1, 0, 0, (.int 0), [])), (1, 3, (21, 14, 0, (.int 0), [])), (4, 1, (1, 0, 0, (.int 0), [])), (5, 1, (0, 0, 0, (.int 1), [])), (6, 3, (20, 14, 0, (.int 0), [])), (9, 1, (1, 0, 0, (.int 0), [])), (10, 1, (0, 0, 0, (.int 4), [])), (11, 3, (20, 18, 1, (.int 0), [])), (14, 1, (0, 0, 0, (.int 1), [])), (15, 3, (6, 19, 0, (.int 0), [])), (18, 1, (0, 0, 0, (.int 0), [])), (19, 1, (40, 0, 4, (.int 0), []))]
abbrev ck_R_isSort : zx_K := [(20, ck_R_isSort_0)]
def ck_R_begin_0 : List (Nat × Nat × zx_I) := [(0, 1, (1, 0, 2, (.int 0), [])), (1, 1, (0, 0, 0, (.int 0), [])), (2, 3, (8, 77, 0, (.int 0), [(8, 28)])), (5, 1, (1, 0, 2, (.int 0), [])), (6, 2, (0, 0, 1, (.int 6), [])), (8, 3, (30, 84, 1, (.int 0), [(8, 114)])), (11, 3, (21, 15, 1, (.int 0), [])), (14, 1, (40, 0, 0, (.int 0), [])), (15, 1, (0, 0, 0, (.int 0), [])), (16, 1, (2, 1, 0, (.int 0), [])), (17, 1, (1, 1, 0, (.int 0), [])), (18, 2, (0, 0, 1, (.int 6), [])), (20, 3, (20, 49, 3, (.int 0), [])), (23, 1, (1, 0, 2, (.int 0), [])), (24, 3, (7, 13, 0, (.int 0), [(8, 2)])), (27, 1, (1, 1, 0, (.int 0), [])), (28, 1, (9, 0, 0, (.int 0), [])), (29, 1, (1, 1, 0, (.int 0), [])), (30, 3, (31, 95, 1, (.int 0), [(0, 119)])), (33, 3, (20, 43, 0, (.int 0), [])), (36, 1, (1, 0, 2, (.int 0), [])), (37, 2, (0, 0, 1, (.int (-3)), [])), (39, 1, (0, 0, 0, (.int 0), [])), (40, 3, (30, 80, 2, (.int 0), [(8, 113)]))]
def ck_R_begin_1 : List (Nat × Nat × zx_I) := [(43, 3, (3, 1, 0, (.int 1), [])), (46, 3, (6, 17, 0, (.int 0), [])), (49, 1, (1, 0, 2, (.int 0), [])), (50, 2, (0, 0, 1, (.int 6), [])), (52, 3, (8, 77, 0, (.int 0), [(8, 28)])), (55, 1, (1, 0, 2, (.int 0), [])), (56, 1, (0, 0, 0, (.int 2), [])), (57, 3, (30, 84, 1, (.int 0), [(8, 114)])), (60, 3, (21, 64, 1, (.int 0), [])), (63, 1, (40, 0, 0, (.int 0), [])), (64, 1, (1, 0, 2, (.int 0), [])), (65, 1, (1, 0, 2, (.int 0), [])), (66, 3, (7, 13, 0, (.int 0), [(8, 2)])), (69, 2, (0, 0, 1, (.int 7), [])), (71, 1, (9, 0, 0, (.int 0), [])), (72, 3, (8, 99, 0, (.int 0), [(8, 31)])), (75, 1, (1, 0, 2, (.int 0), [])), (76, 3, (7, 13, 0, (.int 0), [(8, 2)])), (79, 2, (0, 0, 1, (.int 6), [])), (81, 1, (9, 0, 0, (.int 0), [])), (82, 3, (21, 95, 1, (.int 0), [])), (85, 1, (1, 0, 2, (.int 0), [])), (86, 3, (7, 99, 0, (.int 0), [(8, 31)])), (89, 3, (31, 102, 1, (.int 0), [(0, 120)]))]
def ck_R_begin_2 : List (Nat × Nat × zx_I) := [(92, 3, (21, 103, 1, (.int 0), [])), (95, 1, (1, 0, 2, (.int 0), [])), (96, 2, (0, 0, 1, (.int (-3)), [])), (98, 2, (0, 0, 1, (.int 6), [])), (100, 3, (30, 80, 2, (.int 0), [(8, 113)])), (103, 1, (1, 0, 2, (.int 0), [])), (104, 2, (0, 0, 1, (.int 8), [])), (106, 3, (8, 77, 0, (.int 0), [(8, 28)])), (109, 1, (1, 0, 2, (.int 0), [])), (110, 3, (7, 74, 0, (.int 0), [(8, 29)])), (113, 3, (21, 122, 1, (.int 0), [])), (116, 1, (1, 0, 2, (.int 0), [])), (117, 2, (0, 0, 1, (.int 6), [])), (119, 3, (30, 105, 1, (.int 0), [(8, 116)])), (122, 1, (40, 0, 0, (.int 0), []))]
abbrev ck_R_begin : zx_K := [(41, ck_R_begin_0), (90, ck_R_begin_1), (123, ck_R_begin_2)]
def ck_R_headByte_0 : List (Nat × Nat × zx_I) := [(0, 1, (1, 0, 2, (.int 0), [])), (1, 3, (7, 74, 0, (.int 0), [(8, 29)])), (4, 3, (21, 9, 0, (.int 0), [])), (7, 1, (0, 0, 0, (.int 0), [])), (8, 1, (40, 0, 1, (.int 0), [])), (9, 1, (1, 0, 2, (.int 0), [])), (10, 3, (7, 77, 0, (.int 0), [(8, 28)])), (13, 1, (1, 1, 0, (.int 0), [])), (14, 3, (20, 29, 2, (.int 0), [])), (17, 1, (1, 0, 2, (.int 0), [])), (18, 2, (0, 0, 1, (.int (-3)), [])), (20, 1, (1, 0, 2, (.int 0), [])), (21, 3, (7, 77, 0, (.int 0), [(8, 28)])), (24, 3, (30, 80, 2, (.int 0), [(8, 113)])), (27, 1, (0, 0, 0, (.int 0), [])), (28, 1, (40, 0, 1, (.int 0), [])), (29, 1, (1, 0, 2, (.int 0), [])), (30, 1, (12, 0, 0, (.int 0), [])), (31, 3, (7, 77, 0, (.int 0), [(8, 28)])), (34, 1, (0, 0, 0, (.int 1), [])), (35, 1, (4, 0, 0, (.int 0), [])), (36, 3, (8, 77, 0, (.int 0), [(8, 28)])), (39, 1, (1, 0, 2, (.int 0), [])), (40, 3, (7, 13, 0, (.int 0), [(8, 2)]))]
def ck_R_headByte_1 : List (Nat × Nat × zx_I) := [(43, 1, (1, 0, 2, (.int 0), [])), (44, 3, (7, 77, 0, (.int 0), [(8, 28)])), (47, 1, (0, 0, 0, (.int 1), [])), (48, 1, (4, 0, 1, (.int 0), [])), (49, 1, (9, 0, 0, (.int 0), [])), (50, 1, (40, 0, 1, (.int 0), []))]
abbrev ck_R_headByte : zx_K := [(41, ck_R_headByte_0), (51, ck_R_headByte_1)]
def ck_R_block_0 : List (Nat × Nat × zx_I) := [(0, 1, (1, 0, 2, (.int 0), [])), (1, 3, (7, 77, 0, (.int 0), [(8, 28)])), (4, 1, (2, 1, 0, (.int 0), [])), (5, 1, (1, 0, 2, (.int 0), [])), (6, 3, (7, 13, 0, (.int 0), [(8, 2)])), (9, 1, (1, 0, 2, (.int 0), [])), (10, 3, (7, 77, 0, (.int 0), [(8, 28)])), (13, 1, (9, 0, 0, (.int 0), [])), (14, 1, (2, 2, 0, (.int 0), [])), (15, 1, (1, 1, 0, (.int 0), [])), (16, 1, (0, 0, 0, (.int 4), [])), (17, 1, (1, 2, 0, (.int 0), [])), (18, 1, (4, 0, 2, (.int 0), [])), (19, 1, (4, 0, 0, (.int 0), [])), (20, 1, (2, 3, 0, (.int 0), [])), (21, 1, (1, 0, 2, (.int 0), [])), (22, 1, (0, 0, 0, (.int 4), [])), (23, 1, (1, 2, 0, (.int 0), [])), (24, 1, (0, 0, 0, (.int 1), [])), (25, 1, (4, 0, 0, (.int 0), [])), (26, 1, (4, 0, 2, (.int 0), [])), (27, 3, (30, 84, 1, (.int 0), [(8, 114)])), (30, 3, (21, 34, 1, (.int 0), [])), (33, 1, (40, 0, 0, (.int 0), []))]
def ck_R_block_1 : List (Nat × Nat × zx_I) := [(34, 1, (1, 0, 2, (.int 0), [])), (35, 1, (1, 3, 0, (.int 0), [])), (36, 1, (0, 0, 0, (.int 4), [])), (37, 3, (30, 88, 2, (.int 0), [(8, 115)])), (40, 1, (1, 0, 2, (.int 0), [])), (41, 1, (1, 1, 0, (.int 0), [])), (42, 1, (1, 3, 0, (.int 0), [])), (43, 3, (30, 92, 2, (.int 0), [(8, 109)])), (46, 4, (22, 58, 0, (.int 0), [])), (50, 1, (1, 0, 2, (.int 0), [])), (51, 2, (0, 0, 1, (.int (-4)), [])), (53, 1, (1, 3, 0, (.int 0), [])), (54, 3, (30, 80, 2, (.int 0), [(8, 113)])), (57, 1, (40, 0, 0, (.int 0), [])), (58, 1, (1, 0, 2, (.int 0), [])), (59, 1, (1, 1, 0, (.int 0), [])), (60, 1, (0, 0, 0, (.int 1), [])), (61, 1, (4, 0, 0, (.int 0), [])), (62, 3, (8, 77, 0, (.int 0), [(8, 28)])), (65, 1, (1, 0, 2, (.int 0), [])), (66, 3, (7, 13, 0, (.int 0), [(8, 2)])), (69, 1, (1, 0, 2, (.int 0), [])), (70, 3, (7, 77, 0, (.int 0), [(8, 28)])), (73, 1, (9, 0, 0, (.int 0), []))]
def ck_R_block_2 : List (Nat × Nat × zx_I) := [(74, 2, (2, 4, 0, (.int 0), [])), (76, 2, (1, 4, 0, (.int 0), [])), (78, 2, (0, 0, 1, (.int 63), [])), (80, 1, (4, 0, 5, (.int 0), [])), (81, 3, (21, 95, 0, (.int 0), [])), (84, 1, (1, 0, 2, (.int 0), [])), (85, 2, (0, 0, 1, (.int (-3)), [])), (87, 1, (1, 0, 2, (.int 0), [])), (88, 3, (7, 77, 0, (.int 0), [(8, 28)])), (91, 3, (30, 80, 2, (.int 0), [(8, 113)])), (94, 1, (40, 0, 0, (.int 0), [])), (95, 1, (1, 0, 2, (.int 0), [])), (96, 1, (12, 0, 0, (.int 0), [])), (97, 3, (7, 77, 0, (.int 0), [(8, 28)])), (100, 1, (0, 0, 0, (.int 1), [])), (101, 1, (4, 0, 0, (.int 0), [])), (102, 3, (8, 77, 0, (.int 0), [(8, 28)])), (105, 3, (0, 38, 5, (.long (-1)), [])), (108, 2, (2, 5, 1, (.int 0), [])), (110, 3, (0, 38, 5, (.long (-1)), [])), (113, 2, (2, 7, 1, (.int 0), [])), (115, 2, (1, 4, 0, (.int 0), [])), (117, 2, (0, 0, 1, (.int 64), [])), (119, 1, (4, 0, 5, (.int 0), []))]
def ck_R_block_3 : List (Nat × Nat × zx_I) := [(120, 3, (21, 153, 0, (.int 0), [])), (123, 1, (1, 0, 2, (.int 0), [])), (124, 3, (7, 77, 0, (.int 0), [(8, 28)])), (127, 2, (2, 9, 0, (.int 0), [])), (129, 1, (1, 0, 2, (.int 0), [])), (130, 1, (1, 3, 0, (.int 0), [])), (131, 2, (0, 0, 1, (.int (-3)), [])), (133, 3, (30, 109, 2, (.int 0), [(8, 117)])), (136, 2, (2, 5, 1, (.int 0), [])), (138, 2, (1, 5, 1, (.int 0), [])), (140, 1, (0, 0, 3, (.long 0), [])), (141, 4, (22, 153, 1, (.int 0), [])), (145, 1, (1, 0, 2, (.int 0), [])), (146, 2, (0, 0, 1, (.int (-3)), [])), (148, 2, (1, 9, 0, (.int 0), [])), (150, 3, (30, 80, 2, (.int 0), [(8, 113)])), (153, 2, (1, 4, 0, (.int 0), [])), (155, 3, (0, 0, 2, (.int 128), [])), (158, 1, (4, 0, 5, (.int 0), [])), (159, 3, (21, 178, 0, (.int 0), [])), (162, 1, (1, 0, 2, (.int 0), [])), (163, 3, (7, 74, 0, (.int 0), [(8, 29)])), (166, 3, (21, 178, 1, (.int 0), [])), (169, 1, (1, 0, 2, (.int 0), []))]
def ck_R_block_4 : List (Nat × Nat × zx_I) := [(170, 1, (1, 3, 0, (.int 0), [])), (171, 2, (0, 0, 1, (.int (-3)), [])), (173, 3, (30, 109, 2, (.int 0), [(8, 117)])), (176, 2, (2, 7, 1, (.int 0), [])), (178, 1, (1, 0, 2, (.int 0), [])), (179, 1, (1, 3, 0, (.int 0), [])), (180, 3, (30, 112, 1, (.int 0), [(8, 122)])), (183, 2, (0, 0, 1, (.int 33), [])), (185, 3, (20, 200, 0, (.int 0), [])), (188, 1, (1, 0, 2, (.int 0), [])), (189, 2, (0, 0, 1, (.int (-3)), [])), (191, 1, (1, 0, 2, (.int 0), [])), (192, 3, (7, 77, 0, (.int 0), [(8, 28)])), (195, 1, (0, 0, 0, (.int 1), [])), (196, 1, (4, 0, 1, (.int 0), [])), (197, 3, (30, 80, 2, (.int 0), [(8, 113)])), (200, 1, (1, 0, 2, (.int 0), [])), (201, 1, (1, 3, 0, (.int 0), [])), (202, 3, (30, 112, 1, (.int 0), [(8, 122)])), (205, 1, (0, 0, 0, (.int 1), [])), (206, 3, (20, 221, 0, (.int 0), [])), (209, 1, (1, 0, 2, (.int 0), [])), (210, 2, (0, 0, 1, (.int (-3)), [])), (212, 1, (1, 0, 2, (.int 0), []))]
def ck_R_block_5 : List (Nat × Nat × zx_I) := [(213, 3, (7, 77, 0, (.int 0), [(8, 28)])), (216, 1, (0, 0, 0, (.int 1), [])), (217, 1, (4, 0, 1, (.int 0), [])), (218, 3, (30, 80, 2, (.int 0), [(8, 113)])), (221, 1, (1, 0, 2, (.int 0), [])), (222, 1, (1, 3, 0, (.int 0), [])), (223, 3, (30, 112, 1, (.int 0), [(8, 122)])), (226, 2, (0, 0, 1, (.int 40), [])), (228, 3, (20, 243, 5, (.int 0), [])), (231, 1, (1, 0, 2, (.int 0), [])), (232, 2, (0, 0, 1, (.int (-3)), [])), (234, 1, (1, 0, 2, (.int 0), [])), (235, 3, (7, 77, 0, (.int 0), [(8, 28)])), (238, 1, (0, 0, 0, (.int 1), [])), (239, 1, (4, 0, 1, (.int 0), [])), (240, 3, (30, 80, 2, (.int 0), [(8, 113)])), (243, 1, (1, 0, 2, (.int 0), [])), (244, 3, (7, 74, 0, (.int 0), [(8, 29)])), (247, 3, (21, 281, 1, (.int 0), [])), (250, 1, (1, 0, 2, (.int 0), [])), (251, 3, (7, 77, 0, (.int 0), [(8, 28)])), (254, 1, (1, 3, 0, (.int 0), [])), (255, 3, (20, 281, 3, (.int 0), [])), (258, 1, (1, 0, 2, (.int 0), []))]
def ck_R_block_6 : List (Nat × Nat × zx_I) := [(259, 1, (1, 3, 0, (.int 0), [])), (260, 3, (30, 112, 1, (.int 0), [(8, 122)])), (263, 3, (21, 243, 0, (.int 0), [])), (266, 1, (1, 0, 2, (.int 0), [])), (267, 2, (0, 0, 1, (.int (-3)), [])), (269, 1, (1, 0, 2, (.int 0), [])), (270, 3, (7, 77, 0, (.int 0), [(8, 28)])), (273, 1, (0, 0, 0, (.int 1), [])), (274, 1, (4, 0, 1, (.int 0), [])), (275, 3, (30, 80, 2, (.int 0), [(8, 113)])), (278, 3, (6, 243, 0, (.int 0), [])), (281, 1, (1, 0, 2, (.int 0), [])), (282, 1, (1, 3, 0, (.int 0), [])), (283, 1, (0, 0, 0, (.int 4), [])), (284, 1, (4, 0, 0, (.int 0), [])), (285, 3, (8, 77, 0, (.int 0), [(8, 28)])), (288, 1, (1, 0, 2, (.int 0), [])), (289, 3, (7, 77, 0, (.int 0), [(8, 28)])), (292, 2, (2, 9, 0, (.int 0), [])), (294, 1, (1, 0, 2, (.int 0), [])), (295, 3, (7, 68, 0, (.int 0), [(8, 5)])), (298, 2, (2, 10, 0, (.int 0), [])), (300, 1, (1, 0, 2, (.int 0), [])), (301, 1, (0, 0, 0, (.int 0), []))]
def ck_R_block_7 : List (Nat × Nat × zx_I) := [(302, 3, (8, 115, 0, (.int 0), [(8, 35)])), (305, 1, (1, 0, 2, (.int 0), [])), (306, 1, (0, 0, 0, (.int 1), [])), (307, 3, (8, 119, 0, (.int 0), [(8, 36)])), (310, 1, (1, 0, 2, (.int 0), [])), (311, 3, (7, 74, 0, (.int 0), [(8, 29)])), (314, 3, (21, 321, 1, (.int 0), [])), (317, 1, (0, 0, 0, (.int 1), [])), (318, 3, (6, 322, 0, (.int 0), [])), (321, 1, (0, 0, 0, (.int 0), [])), (322, 2, (2, 11, 0, (.int 0), [])), (324, 2, (1, 11, 0, (.int 0), [])), (326, 3, (21, 353, 0, (.int 0), [])), (329, 1, (1, 0, 2, (.int 0), [])), (330, 3, (30, 122, 0, (.int 0), [(8, 124)])), (333, 3, (21, 347, 0, (.int 0), [])), (336, 1, (1, 0, 2, (.int 0), [])), (337, 3, (7, 74, 0, (.int 0), [(8, 29)])), (340, 3, (21, 347, 1, (.int 0), [])), (343, 1, (0, 0, 0, (.int 1), [])), (344, 3, (6, 348, 0, (.int 0), [])), (347, 1, (0, 0, 0, (.int 0), [])), (348, 2, (2, 11, 0, (.int 0), [])), (350, 3, (6, 324, 0, (.int 0), []))]
def ck_R_block_8 : List (Nat × Nat × zx_I) := [(353, 2, (1, 5, 1, (.int 0), [])), (355, 1, (0, 0, 3, (.long 0), [])), (356, 4, (22, 374, 2, (.int 0), [])), (360, 2, (1, 5, 1, (.int 0), [])), (362, 1, (1, 0, 2, (.int 0), [])), (363, 3, (7, 77, 0, (.int 0), [(8, 28)])), (366, 2, (1, 9, 0, (.int 0), [])), (368, 1, (4, 0, 1, (.int 0), [])), (369, 1, (5, 0, 0, (.int 0), [])), (370, 4, (22, 395, 1, (.int 0), [])), (374, 2, (1, 7, 1, (.int 0), [])), (376, 1, (0, 0, 3, (.long 0), [])), (377, 4, (22, 402, 2, (.int 0), [])), (381, 2, (1, 7, 1, (.int 0), [])), (383, 1, (1, 0, 2, (.int 0), [])), (384, 3, (7, 68, 0, (.int 0), [(8, 5)])), (387, 2, (1, 10, 0, (.int 0), [])), (389, 1, (4, 0, 1, (.int 0), [])), (390, 1, (5, 0, 0, (.int 0), [])), (391, 4, (22, 402, 0, (.int 0), [])), (395, 1, (1, 0, 2, (.int 0), [])), (396, 2, (0, 0, 1, (.int (-6)), [])), (398, 1, (1, 1, 0, (.int 0), [])), (399, 3, (30, 80, 2, (.int 0), [(8, 113)]))]
def ck_R_block_9 : List (Nat × Nat × zx_I) := [(402, 1, (1, 0, 2, (.int 0), [])), (403, 3, (7, 77, 0, (.int 0), [(8, 28)])), (406, 1, (1, 1, 0, (.int 0), [])), (407, 1, (4, 0, 1, (.int 0), [])), (408, 2, (2, 12, 0, (.int 0), [])), (410, 1, (1, 0, 2, (.int 0), [])), (411, 3, (7, 74, 0, (.int 0), [(8, 29)])), (414, 3, (21, 422, 1, (.int 0), [])), (417, 1, (1, 0, 2, (.int 0), [])), (418, 1, (1, 1, 0, (.int 0), [])), (419, 3, (30, 126, 1, (.int 0), [(8, 118)])), (422, 1, (1, 0, 2, (.int 0), [])), (423, 3, (7, 99, 0, (.int 0), [(8, 31)])), (426, 3, (21, 433, 1, (.int 0), [])), (429, 1, (0, 0, 0, (.int 0), [])), (430, 3, (6, 447, 0, (.int 0), [])), (433, 1, (1, 0, 2, (.int 0), [])), (434, 3, (7, 99, 0, (.int 0), [(8, 31)])), (437, 1, (0, 0, 0, (.int 1), [])), (438, 3, (20, 445, 1, (.int 0), [])), (441, 1, (0, 0, 0, (.int 4), [])), (442, 3, (6, 447, 0, (.int 0), [])), (445, 2, (0, 0, 1, (.int 8), [])), (447, 2, (2, 13, 0, (.int 0), []))]
def ck_R_block_10 : List (Nat × Nat × zx_I) := [(449, 1, (1, 0, 2, (.int 0), [])), (450, 3, (7, 74, 0, (.int 0), [(8, 29)])), (453, 3, (21, 465, 1, (.int 0), [])), (456, 1, (1, 0, 2, (.int 0), [])), (457, 2, (1, 13, 0, (.int 0), [])), (459, 3, (30, 84, 1, (.int 0), [(8, 114)])), (462, 3, (21, 466, 1, (.int 0), [])), (465, 1, (40, 0, 0, (.int 0), [])), (466, 1, (1, 0, 2, (.int 0), [])), (467, 3, (7, 99, 0, (.int 0), [(8, 31)])), (470, 1, (0, 0, 0, (.int 1), [])), (471, 3, (20, 493, 1, (.int 0), [])), (474, 1, (1, 0, 2, (.int 0), [])), (475, 1, (1, 0, 2, (.int 0), [])), (476, 3, (7, 77, 0, (.int 0), [(8, 28)])), (479, 1, (0, 0, 0, (.int 4), [])), (480, 3, (30, 88, 2, (.int 0), [(8, 115)])), (483, 1, (1, 0, 2, (.int 0), [])), (484, 2, (1, 10, 0, (.int 0), [])), (486, 3, (30, 129, 1, (.int 0), [(8, 110)])), (489, 4, (22, 521, 1, (.int 0), [])), (493, 1, (1, 0, 2, (.int 0), [])), (494, 3, (7, 99, 0, (.int 0), [(8, 31)])), (497, 1, (0, 0, 0, (.int 4), []))]
def ck_R_block_11 : List (Nat × Nat × zx_I) := [(498, 3, (20, 532, 1, (.int 0), [])), (501, 1, (1, 0, 2, (.int 0), [])), (502, 1, (1, 0, 2, (.int 0), [])), (503, 3, (7, 77, 0, (.int 0), [(8, 28)])), (506, 2, (0, 0, 1, (.int 8), [])), (508, 3, (30, 88, 2, (.int 0), [(8, 115)])), (511, 1, (1, 0, 2, (.int 0), [])), (512, 2, (1, 10, 0, (.int 0), [])), (514, 3, (30, 133, 1, (.int 0), [(8, 111)])), (517, 4, (22, 532, 0, (.int 0), [])), (521, 1, (1, 0, 2, (.int 0), [])), (522, 2, (0, 0, 1, (.int (-4)), [])), (524, 1, (1, 0, 2, (.int 0), [])), (525, 3, (7, 77, 0, (.int 0), [(8, 28)])), (528, 3, (30, 80, 2, (.int 0), [(8, 113)])), (531, 1, (40, 0, 0, (.int 0), [])), (532, 1, (1, 0, 2, (.int 0), [])), (533, 1, (1, 0, 2, (.int 0), [])), (534, 3, (7, 77, 0, (.int 0), [(8, 28)])), (537, 2, (1, 13, 0, (.int 0), [])), (539, 1, (4, 0, 0, (.int 0), [])), (540, 3, (8, 77, 0, (.int 0), [(8, 28)])), (543, 1, (1, 0, 2, (.int 0), [])), (544, 3, (7, 32, 0, (.int 0), [(8, 33)]))]
def ck_R_block_12 : List (Nat × Nat × zx_I) := [(547, 1, (1, 0, 2, (.int 0), [])), (548, 3, (7, 136, 0, (.int 0), [(8, 32)])), (551, 2, (1, 12, 0, (.int 0), [])), (553, 2, (1, 13, 0, (.int 0), [])), (555, 1, (4, 0, 0, (.int 0), [])), (556, 1, (10, 0, 0, (.int 0), [])), (557, 1, (1, 0, 2, (.int 0), [])), (558, 3, (7, 35, 0, (.int 0), [(8, 34)])), (561, 1, (1, 0, 2, (.int 0), [])), (562, 3, (7, 136, 0, (.int 0), [(8, 32)])), (565, 1, (1, 0, 2, (.int 0), [])), (566, 3, (7, 68, 0, (.int 0), [(8, 5)])), (569, 2, (1, 10, 0, (.int 0), [])), (571, 1, (4, 0, 1, (.int 0), [])), (572, 1, (10, 0, 0, (.int 0), [])), (573, 1, (1, 0, 2, (.int 0), [])), (574, 1, (12, 0, 0, (.int 0), [])), (575, 3, (7, 136, 0, (.int 0), [(8, 32)])), (578, 1, (0, 0, 0, (.int 1), [])), (579, 1, (4, 0, 0, (.int 0), [])), (580, 3, (8, 136, 0, (.int 0), [(8, 32)])), (583, 1, (1, 0, 2, (.int 0), [])), (584, 3, (7, 47, 0, (.int 0), [(8, 41)])), (587, 2, (0, 0, 1, (.int 10), []))]
def ck_R_block_13 : List (Nat × Nat × zx_I) := [(589, 1, (13, 0, 0, (.int 0), [])), (590, 1, (9, 0, 0, (.int 0), [])), (591, 1, (0, 0, 0, (.int 1), [])), (592, 1, (4, 0, 0, (.int 0), [])), (593, 1, (10, 0, 0, (.int 0), [])), (594, 1, (40, 0, 0, (.int 0), []))]
abbrev ck_R_block : zx_K := [(34, ck_R_block_0), (74, ck_R_block_1), (120, ck_R_block_2), (170, ck_R_block_3), (213, ck_R_block_4), (259, ck_R_block_5), (302, ck_R_block_6), (351, ck_R_block_7), (400, ck_R_block_8), (448, ck_R_block_9), (498, ck_R_block_10), (545, ck_R_block_11), (588, ck_R_block_12), (595, ck_R_block_13)]
def ck_R_chunk_0 : List (Nat × Nat × zx_I) := [(0, 1, (1, 0, 2, (.int 0), [])), (1, 1, (0, 0, 0, (.int 1), [])), (2, 3, (30, 84, 1, (.int 0), [(8, 114)])), (5, 3, (21, 10, 1, (.int 0), [])), (8, 1, (0, 0, 0, (.int 0), [])), (9, 1, (40, 0, 4, (.int 0), [])), (10, 1, (1, 0, 2, (.int 0), [])), (11, 3, (7, 13, 0, (.int 0), [(8, 2)])), (14, 1, (1, 0, 2, (.int 0), [])), (15, 3, (7, 77, 0, (.int 0), [(8, 28)])), (18, 1, (9, 0, 0, (.int 0), [])), (19, 1, (2, 1, 0, (.int 0), [])), (20, 1, (1, 1, 0, (.int 0), [])), (21, 1, (0, 0, 0, (.int 1), [])), (22, 3, (20, 32, 0, (.int 0), [])), (25, 1, (1, 1, 0, (.int 0), [])), (26, 3, (0, 0, 2, (.int 224), [])), (29, 3, (20, 36, 2, (.int 0), [])), (32, 1, (0, 0, 0, (.int 1), [])), (33, 3, (6, 37, 0, (.int 0), [])), (36, 1, (0, 0, 0, (.int 0), [])), (37, 1, (2, 2, 0, (.int 0), [])), (38, 1, (1, 1, 0, (.int 0), [])), (39, 1, (0, 0, 0, (.int 2), []))]
def ck_R_chunk_1 : List (Nat × Nat × zx_I) := [(40, 3, (20, 50, 5, (.int 0), [])), (43, 1, (1, 1, 0, (.int 0), [])), (44, 3, (0, 0, 2, (.int 128), [])), (47, 3, (20, 86, 2, (.int 0), [])), (50, 1, (1, 1, 0, (.int 0), [])), (51, 3, (21, 65, 5, (.int 0), [])), (54, 1, (1, 0, 2, (.int 0), [])), (55, 3, (7, 115, 0, (.int 0), [(8, 35)])), (58, 3, (21, 65, 1, (.int 0), [])), (61, 1, (1, 2, 0, (.int 0), [])), (62, 3, (21, 86, 0, (.int 0), [])), (65, 1, (1, 1, 0, (.int 0), [])), (66, 3, (0, 0, 2, (.int 128), [])), (69, 3, (20, 98, 2, (.int 0), [])), (72, 1, (1, 1, 0, (.int 0), [])), (73, 3, (0, 0, 2, (.int 192), [])), (76, 3, (20, 98, 3, (.int 0), [])), (79, 1, (1, 0, 2, (.int 0), [])), (80, 3, (7, 119, 0, (.int 0), [(8, 36)])), (83, 3, (21, 98, 0, (.int 0), [])), (86, 1, (1, 0, 2, (.int 0), [])), (87, 2, (0, 0, 1, (.int (-3)), [])), (89, 1, (1, 0, 2, (.int 0), [])), (90, 3, (7, 77, 0, (.int 0), [(8, 28)]))]
def ck_R_chunk_2 : List (Nat × Nat × zx_I) := [(93, 3, (30, 80, 2, (.int 0), [(8, 113)])), (96, 1, (0, 0, 0, (.int 0), [])), (97, 1, (40, 0, 4, (.int 0), [])), (98, 1, (1, 0, 2, (.int 0), [])), (99, 1, (12, 0, 0, (.int 0), [])), (100, 3, (7, 77, 0, (.int 0), [(8, 28)])), (103, 1, (0, 0, 0, (.int 1), [])), (104, 1, (4, 0, 0, (.int 0), [])), (105, 3, (8, 77, 0, (.int 0), [(8, 28)])), (108, 1, (1, 1, 0, (.int 0), [])), (109, 3, (21, 114, 1, (.int 0), [])), (112, 1, (0, 0, 0, (.int 0), [])), (113, 1, (40, 0, 4, (.int 0), [])), (114, 1, (1, 0, 2, (.int 0), [])), (115, 1, (1, 1, 0, (.int 0), [])), (116, 3, (0, 0, 2, (.int 128), [])), (119, 3, (20, 126, 3, (.int 0), [])), (122, 1, (0, 0, 0, (.int 0), [])), (123, 3, (6, 130, 0, (.int 0), [])), (126, 1, (1, 1, 0, (.int 0), [])), (127, 2, (0, 0, 1, (.int 31), [])), (129, 1, (4, 0, 5, (.int 0), [])), (130, 3, (30, 139, 1, (.int 0), [(8, 125)])), (133, 1, (2, 3, 0, (.int 0), []))]
def ck_R_chunk_3 : List (Nat × Nat × zx_I) := [(134, 1, (1, 1, 0, (.int 0), [])), (135, 3, (0, 0, 2, (.int 128), [])), (138, 3, (20, 164, 3, (.int 0), [])), (141, 1, (1, 0, 2, (.int 0), [])), (142, 3, (7, 74, 0, (.int 0), [(8, 29)])), (145, 3, (21, 162, 1, (.int 0), [])), (148, 1, (1, 0, 2, (.int 0), [])), (149, 1, (1, 3, 0, (.int 0), [])), (150, 3, (30, 84, 1, (.int 0), [(8, 114)])), (153, 3, (21, 162, 0, (.int 0), [])), (156, 1, (1, 0, 2, (.int 0), [])), (157, 1, (1, 3, 0, (.int 0), [])), (158, 1, (1, 2, 0, (.int 0), [])), (159, 3, (30, 142, 2, (.int 0), [(8, 128)])), (162, 1, (0, 0, 0, (.int 1), [])), (163, 1, (40, 0, 4, (.int 0), [])), (164, 1, (1, 0, 2, (.int 0), [])), (165, 1, (0, 0, 0, (.int 0), [])), (166, 3, (30, 139, 1, (.int 0), [(8, 125)])), (169, 2, (2, 4, 0, (.int 0), [])), (171, 1, (1, 1, 0, (.int 0), [])), (172, 3, (0, 0, 2, (.int 192), [])), (175, 3, (20, 216, 2, (.int 0), [])), (178, 1, (1, 0, 2, (.int 0), []))]
def ck_R_chunk_4 : List (Nat × Nat × zx_I) := [(179, 3, (7, 74, 0, (.int 0), [(8, 29)])), (182, 3, (21, 216, 1, (.int 0), [])), (185, 1, (1, 0, 2, (.int 0), [])), (186, 1, (0, 0, 0, (.int 1), [])), (187, 3, (30, 84, 1, (.int 0), [(8, 114)])), (190, 3, (21, 216, 0, (.int 0), [])), (193, 1, (1, 0, 2, (.int 0), [])), (194, 1, (1, 0, 2, (.int 0), [])), (195, 3, (7, 13, 0, (.int 0), [(8, 2)])), (198, 1, (1, 0, 2, (.int 0), [])), (199, 3, (7, 77, 0, (.int 0), [(8, 28)])), (202, 1, (9, 0, 0, (.int 0), [])), (203, 3, (30, 146, 1, (.int 0), [(8, 127)])), (206, 1, (1, 0, 2, (.int 0), [])), (207, 1, (12, 0, 0, (.int 0), [])), (208, 3, (7, 77, 0, (.int 0), [(8, 28)])), (211, 1, (0, 0, 0, (.int 1), [])), (212, 1, (4, 0, 0, (.int 0), [])), (213, 3, (8, 77, 0, (.int 0), [(8, 28)])), (216, 1, (1, 0, 2, (.int 0), [])), (217, 3, (7, 74, 0, (.int 0), [(8, 29)])), (220, 3, (21, 240, 1, (.int 0), [])), (223, 1, (1, 0, 2, (.int 0), [])), (224, 2, (1, 4, 0, (.int 0), []))]
def ck_R_chunk_5 : List (Nat × Nat × zx_I) := [(226, 3, (30, 84, 1, (.int 0), [(8, 114)])), (229, 3, (21, 240, 0, (.int 0), [])), (232, 1, (1, 0, 2, (.int 0), [])), (233, 1, (1, 3, 0, (.int 0), [])), (234, 2, (1, 4, 0, (.int 0), [])), (236, 1, (1, 1, 0, (.int 0), [])), (237, 3, (30, 149, 3, (.int 0), [(8, 129)])), (240, 1, (0, 0, 0, (.int 1), [])), (241, 1, (40, 0, 4, (.int 0), []))]
abbrev ck_R_chunk : zx_K := [(40, ck_R_chunk_0), (91, ck_R_chunk_1), (134, ck_R_chunk_2), (179, ck_R_chunk_3), (225, ck_R_chunk_4), (242, ck_R_chunk_5)]
def ck_R_length_0 : List (Nat × Nat × zx_I) := [(0, 1, (1, 0, 2, (.int 0), [])), (1, 3, (7, 74, 0, (.int 0), [(8, 29)])), (4, 3, (21, 15, 1, (.int 0), [])), (7, 1, (1, 0, 2, (.int 0), [])), (8, 1, (0, 0, 0, (.int 2), [])), (9, 3, (30, 84, 1, (.int 0), [(8, 114)])), (12, 3, (21, 17, 1, (.int 0), [])), (15, 1, (0, 0, 0, (.int 0), [])), (16, 1, (40, 0, 1, (.int 0), [])), (17, 1, (1, 0, 2, (.int 0), [])), (18, 1, (1, 0, 2, (.int 0), [])), (19, 3, (7, 77, 0, (.int 0), [(8, 28)])), (22, 1, (0, 0, 0, (.int 2), [])), (23, 1, (4, 0, 0, (.int 0), [])), (24, 3, (8, 77, 0, (.int 0), [(8, 28)])), (27, 1, (1, 1, 0, (.int 0), [])), (28, 2, (0, 0, 1, (.int 16), [])), (30, 1, (4, 0, 7, (.int 0), [])), (31, 1, (1, 0, 2, (.int 0), [])), (32, 3, (7, 13, 0, (.int 0), [(8, 2)])), (35, 1, (1, 0, 2, (.int 0), [])), (36, 3, (7, 77, 0, (.int 0), [(8, 28)])), (39, 1, (0, 0, 0, (.int 2), [])), (40, 1, (4, 0, 1, (.int 0), []))]
def ck_R_length_1 : List (Nat × Nat × zx_I) := [(41, 1, (9, 0, 0, (.int 0), [])), (42, 2, (0, 0, 1, (.int 8), [])), (44, 1, (4, 0, 7, (.int 0), [])), (45, 1, (4, 0, 6, (.int 0), [])), (46, 1, (1, 0, 2, (.int 0), [])), (47, 3, (7, 13, 0, (.int 0), [(8, 2)])), (50, 1, (1, 0, 2, (.int 0), [])), (51, 3, (7, 77, 0, (.int 0), [(8, 28)])), (54, 1, (0, 0, 0, (.int 1), [])), (55, 1, (4, 0, 1, (.int 0), [])), (56, 1, (9, 0, 0, (.int 0), [])), (57, 1, (4, 0, 6, (.int 0), [])), (58, 1, (0, 0, 0, (.int 1), [])), (59, 1, (4, 0, 0, (.int 0), [])), (60, 1, (40, 0, 1, (.int 0), []))]
abbrev ck_R_length : zx_K := [(41, ck_R_length_0), (61, ck_R_length_1)]
def ck_R_isProperties_0 : List (Nat × Nat × zx_I) := [(0, 1, (1, 0, 0, (.int 0), [])), (1, 3, (21, 30, 2, (.int 0), [])), (4, 1, (1, 0, 0, (.int 0), [])), (5, 3, (0, 0, 2, (.int 225), [])), (8, 3, (20, 30, 3, (.int 0), [])), (11, 1, (1, 0, 0, (.int 0), [])), (12, 2, (0, 0, 1, (.int 9), [])), (14, 1, (4, 0, 4, (.int 0), [])), (15, 1, (1, 0, 0, (.int 0), [])), (16, 2, (0, 0, 1, (.int 9), [])), (18, 1, (4, 0, 3, (.int 0), [])), (19, 1, (0, 0, 0, (.int 5), [])), (20, 1, (4, 0, 4, (.int 0), [])), (21, 1, (4, 0, 0, (.int 0), [])), (22, 1, (0, 0, 0, (.int 4), [])), (23, 3, (20, 30, 3, (.int 0), [])), (26, 1, (0, 0, 0, (.int 1), [])), (27, 3, (6, 31, 0, (.int 0), [])), (30, 1, (0, 0, 0, (.int 0), [])), (31, 1, (40, 0, 4, (.int 0), []))]
abbrev ck_R_isProperties : zx_K := [(32, ck_R_isProperties_0)]
def ck_R_properties_0 : List (Nat × Nat × zx_I) := [(0, 1, (1, 1, 0, (.int 0), [])), (1, 3, (31, 153, 1, (.int 0), [(0, 126)])), (4, 3, (21, 17, 1, (.int 0), [])), (7, 1, (1, 0, 2, (.int 0), [])), (8, 2, (0, 0, 1, (.int (-3)), [])), (10, 1, (1, 0, 2, (.int 0), [])), (11, 3, (7, 77, 0, (.int 0), [(8, 28)])), (14, 3, (30, 80, 2, (.int 0), [(8, 113)])), (17, 1, (1, 0, 2, (.int 0), [])), (18, 1, (1, 1, 0, (.int 0), [])), (19, 2, (0, 0, 1, (.int 9), [])), (21, 1, (4, 0, 4, (.int 0), [])), (22, 3, (8, 156, 0, (.int 0), [(8, 9)])), (25, 1, (1, 0, 2, (.int 0), [])), (26, 1, (1, 1, 0, (.int 0), [])), (27, 2, (0, 0, 1, (.int 9), [])), (29, 1, (4, 0, 3, (.int 0), [])), (30, 1, (0, 0, 0, (.int 5), [])), (31, 1, (4, 0, 4, (.int 0), [])), (32, 3, (8, 159, 0, (.int 0), [(8, 10)])), (35, 1, (1, 0, 2, (.int 0), [])), (36, 1, (1, 1, 0, (.int 0), [])), (37, 2, (0, 0, 1, (.int 45), [])), (39, 1, (4, 0, 3, (.int 0), []))]
def ck_R_properties_1 : List (Nat × Nat × zx_I) := [(40, 3, (8, 162, 0, (.int 0), [(8, 11)])), (43, 1, (40, 0, 0, (.int 0), []))]
abbrev ck_R_properties : zx_K := [(40, ck_R_properties_0), (44, ck_R_properties_1)]
def ck_R_plainChunk_0 : List (Nat × Nat × zx_I) := [(0, 1, (1, 0, 2, (.int 0), [])), (1, 3, (7, 68, 0, (.int 0), [(8, 5)])), (4, 1, (1, 1, 0, (.int 0), [])), (5, 1, (4, 0, 0, (.int 0), [])), (6, 3, (0, 0, 2, (.int 400), [])), (9, 3, (20, 23, 5, (.int 0), [])), (12, 1, (1, 0, 2, (.int 0), [])), (13, 2, (0, 0, 1, (.int (-5)), [])), (15, 1, (1, 0, 2, (.int 0), [])), (16, 3, (7, 77, 0, (.int 0), [(8, 28)])), (19, 3, (30, 80, 2, (.int 0), [(8, 113)])), (22, 1, (40, 0, 0, (.int 0), [])), (23, 1, (1, 2, 0, (.int 0), [])), (24, 3, (21, 45, 0, (.int 0), [])), (27, 1, (1, 0, 2, (.int 0), [])), (28, 1, (0, 0, 0, (.int 1), [])), (29, 3, (8, 115, 0, (.int 0), [(8, 35)])), (32, 1, (1, 0, 2, (.int 0), [])), (33, 1, (0, 0, 0, (.int 1), [])), (34, 3, (8, 119, 0, (.int 0), [(8, 36)])), (37, 1, (1, 0, 2, (.int 0), [])), (38, 1, (1, 0, 2, (.int 0), [])), (39, 3, (7, 68, 0, (.int 0), [(8, 5)])), (42, 3, (8, 165, 0, (.int 0), [(8, 23)]))]
def ck_R_plainChunk_1 : List (Nat × Nat × zx_I) := [(45, 1, (0, 0, 0, (.int 0), [])), (46, 1, (2, 3, 0, (.int 0), [])), (47, 1, (1, 3, 0, (.int 0), [])), (48, 1, (1, 1, 0, (.int 0), [])), (49, 3, (20, 96, 3, (.int 0), [])), (52, 1, (1, 0, 2, (.int 0), [])), (53, 3, (7, 16, 0, (.int 0), [(8, 4)])), (56, 1, (1, 0, 2, (.int 0), [])), (57, 3, (7, 68, 0, (.int 0), [(8, 5)])), (60, 1, (1, 0, 2, (.int 0), [])), (61, 3, (7, 13, 0, (.int 0), [(8, 2)])), (64, 1, (1, 0, 2, (.int 0), [])), (65, 3, (7, 77, 0, (.int 0), [(8, 28)])), (68, 1, (9, 0, 0, (.int 0), [])), (69, 1, (10, 0, 0, (.int 0), [])), (70, 1, (1, 0, 2, (.int 0), [])), (71, 1, (12, 0, 0, (.int 0), [])), (72, 3, (7, 68, 0, (.int 0), [(8, 5)])), (75, 1, (0, 0, 0, (.int 1), [])), (76, 1, (4, 0, 0, (.int 0), [])), (77, 3, (8, 68, 0, (.int 0), [(8, 5)])), (80, 1, (1, 0, 2, (.int 0), [])), (81, 1, (12, 0, 0, (.int 0), [])), (82, 3, (7, 77, 0, (.int 0), [(8, 28)]))]
def ck_R_plainChunk_2 : List (Nat × Nat × zx_I) := [(85, 1, (0, 0, 0, (.int 1), [])), (86, 1, (4, 0, 0, (.int 0), [])), (87, 3, (8, 77, 0, (.int 0), [(8, 28)])), (90, 3, (3, 3, 0, (.int 1), [])), (93, 3, (6, 47, 0, (.int 0), [])), (96, 1, (1, 0, 2, (.int 0), [])), (97, 3, (7, 47, 0, (.int 0), [(8, 41)])), (100, 2, (0, 0, 1, (.int 9), [])), (102, 1, (13, 0, 0, (.int 0), [])), (103, 1, (9, 0, 0, (.int 0), [])), (104, 1, (0, 0, 0, (.int 1), [])), (105, 1, (4, 0, 0, (.int 0), [])), (106, 1, (10, 0, 0, (.int 0), [])), (107, 1, (40, 0, 0, (.int 0), []))]
abbrev ck_R_plainChunk : zx_K := [(43, ck_R_plainChunk_0), (83, ck_R_plainChunk_1), (108, ck_R_plainChunk_2)]
def ck_R_coded_0 : List (Nat × Nat × zx_I) := [(0, 1, (1, 0, 2, (.int 0), [])), (1, 3, (7, 68, 0, (.int 0), [(8, 5)])), (4, 1, (1, 1, 0, (.int 0), [])), (5, 1, (4, 0, 0, (.int 0), [])), (6, 3, (0, 0, 2, (.int 400), [])), (9, 3, (20, 23, 5, (.int 0), [])), (12, 1, (1, 0, 2, (.int 0), [])), (13, 2, (0, 0, 1, (.int (-5)), [])), (15, 1, (1, 0, 2, (.int 0), [])), (16, 3, (7, 77, 0, (.int 0), [(8, 28)])), (19, 3, (30, 80, 2, (.int 0), [(8, 113)])), (22, 1, (40, 0, 0, (.int 0), [])), (23, 1, (1, 3, 0, (.int 0), [])), (24, 3, (0, 0, 2, (.int 224), [])), (27, 3, (20, 43, 2, (.int 0), [])), (30, 1, (1, 0, 2, (.int 0), [])), (31, 1, (0, 0, 0, (.int 1), [])), (32, 3, (8, 115, 0, (.int 0), [(8, 35)])), (35, 1, (1, 0, 2, (.int 0), [])), (36, 1, (1, 0, 2, (.int 0), [])), (37, 3, (7, 68, 0, (.int 0), [(8, 5)])), (40, 3, (8, 165, 0, (.int 0), [(8, 23)])), (43, 1, (1, 0, 2, (.int 0), [])), (44, 1, (1, 0, 2, (.int 0), []))]
def ck_R_coded_1 : List (Nat × Nat × zx_I) := [(45, 3, (7, 119, 0, (.int 0), [(8, 36)])), (48, 3, (21, 62, 0, (.int 0), [])), (51, 1, (1, 3, 0, (.int 0), [])), (52, 3, (0, 0, 2, (.int 192), [])), (55, 3, (20, 62, 3, (.int 0), [])), (58, 1, (0, 0, 0, (.int 1), [])), (59, 3, (6, 63, 0, (.int 0), [])), (62, 1, (0, 0, 0, (.int 0), [])), (63, 3, (8, 119, 0, (.int 0), [(8, 36)])), (66, 1, (1, 3, 0, (.int 0), [])), (67, 3, (0, 0, 2, (.int 160), [])), (70, 3, (20, 77, 2, (.int 0), [])), (73, 1, (1, 0, 2, (.int 0), [])), (74, 3, (30, 168, 0, (.int 0), [(8, 138)])), (77, 1, (1, 2, 0, (.int 0), [])), (78, 1, (0, 0, 0, (.int 5), [])), (79, 3, (20, 94, 2, (.int 0), [])), (82, 1, (1, 0, 2, (.int 0), [])), (83, 3, (7, 13, 0, (.int 0), [(8, 2)])), (86, 1, (1, 0, 2, (.int 0), [])), (87, 3, (7, 77, 0, (.int 0), [(8, 28)])), (90, 1, (9, 0, 0, (.int 0), [])), (91, 3, (21, 105, 0, (.int 0), [])), (94, 1, (1, 0, 2, (.int 0), []))]
def ck_R_coded_2 : List (Nat × Nat × zx_I) := [(95, 2, (0, 0, 1, (.int (-6)), [])), (97, 1, (1, 0, 2, (.int 0), [])), (98, 3, (7, 77, 0, (.int 0), [(8, 28)])), (101, 3, (30, 80, 2, (.int 0), [(8, 113)])), (104, 1, (40, 0, 0, (.int 0), [])), (105, 1, (1, 0, 2, (.int 0), [])), (106, 3, (0, 62, 5, (.long 4294967295), [])), (109, 3, (8, 171, 0, (.int 0), [(8, 17)])), (112, 1, (1, 0, 2, (.int 0), [])), (113, 1, (1, 0, 2, (.int 0), [])), (114, 3, (7, 13, 0, (.int 0), [(8, 2)])), (117, 1, (1, 0, 2, (.int 0), [])), (118, 3, (7, 77, 0, (.int 0), [(8, 28)])), (121, 1, (0, 0, 0, (.int 1), [])), (122, 1, (4, 0, 0, (.int 0), [])), (123, 1, (9, 0, 0, (.int 0), [])), (124, 1, (5, 0, 0, (.int 0), [])), (125, 2, (0, 0, 1, (.int 24), [])), (127, 1, (4, 0, 17, (.int 0), [])), (128, 1, (1, 0, 2, (.int 0), [])), (129, 3, (7, 13, 0, (.int 0), [(8, 2)])), (132, 1, (1, 0, 2, (.int 0), [])), (133, 3, (7, 77, 0, (.int 0), [(8, 28)])), (136, 1, (0, 0, 0, (.int 2), []))]
def ck_R_coded_3 : List (Nat × Nat × zx_I) := [(137, 1, (4, 0, 0, (.int 0), [])), (138, 1, (9, 0, 0, (.int 0), [])), (139, 2, (0, 0, 1, (.int 16), [])), (141, 1, (4, 0, 7, (.int 0), [])), (142, 1, (5, 0, 0, (.int 0), [])), (143, 1, (4, 0, 15, (.int 0), [])), (144, 1, (1, 0, 2, (.int 0), [])), (145, 3, (7, 13, 0, (.int 0), [(8, 2)])), (148, 1, (1, 0, 2, (.int 0), [])), (149, 3, (7, 77, 0, (.int 0), [(8, 28)])), (152, 1, (0, 0, 0, (.int 3), [])), (153, 1, (4, 0, 0, (.int 0), [])), (154, 1, (9, 0, 0, (.int 0), [])), (155, 2, (0, 0, 1, (.int 8), [])), (157, 1, (4, 0, 7, (.int 0), [])), (158, 1, (5, 0, 0, (.int 0), [])), (159, 1, (4, 0, 15, (.int 0), [])), (160, 1, (1, 0, 2, (.int 0), [])), (161, 3, (7, 13, 0, (.int 0), [(8, 2)])), (164, 1, (1, 0, 2, (.int 0), [])), (165, 3, (7, 77, 0, (.int 0), [(8, 28)])), (168, 1, (0, 0, 0, (.int 4), [])), (169, 1, (4, 0, 0, (.int 0), [])), (170, 1, (9, 0, 0, (.int 0), []))]
def ck_R_coded_4 : List (Nat × Nat × zx_I) := [(171, 1, (5, 0, 0, (.int 0), [])), (172, 1, (4, 0, 15, (.int 0), [])), (173, 3, (8, 174, 0, (.int 0), [(8, 18)])), (176, 1, (1, 0, 2, (.int 0), [])), (177, 1, (1, 0, 2, (.int 0), [])), (178, 3, (7, 77, 0, (.int 0), [(8, 28)])), (181, 1, (0, 0, 0, (.int 5), [])), (182, 1, (4, 0, 0, (.int 0), [])), (183, 3, (8, 177, 0, (.int 0), [(8, 19)])), (186, 1, (1, 0, 2, (.int 0), [])), (187, 1, (1, 0, 2, (.int 0), [])), (188, 3, (7, 77, 0, (.int 0), [(8, 28)])), (191, 1, (1, 2, 0, (.int 0), [])), (192, 1, (4, 0, 0, (.int 0), [])), (193, 3, (8, 180, 0, (.int 0), [(8, 20)])), (196, 1, (1, 0, 2, (.int 0), [])), (197, 1, (1, 1, 0, (.int 0), [])), (198, 3, (8, 183, 0, (.int 0), [(8, 21)])), (201, 1, (1, 0, 2, (.int 0), [])), (202, 1, (0, 0, 0, (.int 0), [])), (203, 3, (8, 186, 0, (.int 0), [(8, 22)])), (206, 1, (1, 0, 2, (.int 0), [])), (207, 3, (7, 183, 0, (.int 0), [(8, 21)])), (210, 3, (21, 227, 5, (.int 0), []))]
def ck_R_coded_5 : List (Nat × Nat × zx_I) := [(213, 1, (1, 0, 2, (.int 0), [])), (214, 3, (7, 186, 0, (.int 0), [(8, 22)])), (217, 3, (21, 227, 1, (.int 0), [])), (220, 1, (1, 0, 2, (.int 0), [])), (221, 3, (30, 189, 0, (.int 0), [(8, 149)])), (224, 3, (6, 206, 0, (.int 0), [])), (227, 1, (1, 0, 2, (.int 0), [])), (228, 3, (7, 186, 0, (.int 0), [(8, 22)])), (231, 3, (21, 238, 1, (.int 0), [])), (234, 1, (1, 0, 2, (.int 0), [])), (235, 3, (30, 192, 0, (.int 0), [(8, 139)])), (238, 1, (1, 0, 2, (.int 0), [])), (239, 3, (7, 186, 0, (.int 0), [(8, 22)])), (242, 3, (21, 265, 1, (.int 0), [])), (245, 1, (1, 0, 2, (.int 0), [])), (246, 3, (7, 174, 0, (.int 0), [(8, 18)])), (249, 1, (0, 0, 3, (.long 0), [])), (250, 4, (22, 265, 1, (.int 0), [])), (254, 1, (1, 0, 2, (.int 0), [])), (255, 3, (7, 177, 0, (.int 0), [(8, 19)])), (258, 1, (1, 0, 2, (.int 0), [])), (259, 3, (7, 180, 0, (.int 0), [(8, 20)])), (262, 3, (20, 276, 0, (.int 0), [])), (265, 1, (1, 0, 2, (.int 0), []))]
def ck_R_coded_6 : List (Nat × Nat × zx_I) := [(266, 2, (0, 0, 1, (.int (-6)), [])), (268, 1, (1, 0, 2, (.int 0), [])), (269, 3, (7, 77, 0, (.int 0), [(8, 28)])), (272, 3, (30, 80, 2, (.int 0), [(8, 113)])), (275, 1, (40, 0, 0, (.int 0), [])), (276, 1, (1, 0, 2, (.int 0), [])), (277, 1, (1, 0, 2, (.int 0), [])), (278, 3, (7, 180, 0, (.int 0), [(8, 20)])), (281, 3, (8, 77, 0, (.int 0), [(8, 28)])), (284, 1, (1, 0, 2, (.int 0), [])), (285, 3, (7, 47, 0, (.int 0), [(8, 41)])), (288, 2, (0, 0, 1, (.int 8), [])), (290, 1, (13, 0, 0, (.int 0), [])), (291, 1, (9, 0, 0, (.int 0), [])), (292, 1, (0, 0, 0, (.int 1), [])), (293, 1, (4, 0, 0, (.int 0), [])), (294, 1, (10, 0, 0, (.int 0), [])), (295, 1, (40, 0, 0, (.int 0), []))]
abbrev ck_R_coded : zx_K := [(45, ck_R_coded_0), (95, ck_R_coded_1), (137, ck_R_coded_2), (171, ck_R_coded_3), (211, ck_R_coded_4), (266, ck_R_coded_5), (296, ck_R_coded_6)]
def ck_R_index_0 : List (Nat × Nat × zx_I) := [(0, 1, (1, 0, 2, (.int 0), [])), (1, 3, (7, 77, 0, (.int 0), [(8, 28)])), (4, 1, (2, 1, 0, (.int 0), [])), (5, 1, (1, 0, 2, (.int 0), [])), (6, 1, (0, 0, 0, (.int 1), [])), (7, 3, (30, 84, 1, (.int 0), [(8, 114)])), (10, 3, (21, 14, 1, (.int 0), [])), (13, 1, (40, 0, 0, (.int 0), [])), (14, 1, (1, 0, 2, (.int 0), [])), (15, 1, (12, 0, 0, (.int 0), [])), (16, 3, (7, 77, 0, (.int 0), [(8, 28)])), (19, 1, (0, 0, 0, (.int 1), [])), (20, 1, (4, 0, 0, (.int 0), [])), (21, 3, (8, 77, 0, (.int 0), [(8, 28)])), (24, 1, (1, 0, 2, (.int 0), [])), (25, 1, (1, 0, 2, (.int 0), [])), (26, 3, (7, 136, 0, (.int 0), [(8, 32)])), (29, 3, (30, 195, 1, (.int 0), [(8, 131)])), (32, 1, (0, 0, 0, (.int 0), [])), (33, 1, (2, 2, 0, (.int 0), [])), (34, 1, (1, 2, 0, (.int 0), [])), (35, 1, (1, 0, 2, (.int 0), [])), (36, 3, (7, 136, 0, (.int 0), [(8, 32)])), (39, 3, (20, 75, 3, (.int 0), []))]
def ck_R_index_1 : List (Nat × Nat × zx_I) := [(42, 1, (1, 0, 2, (.int 0), [])), (43, 3, (7, 74, 0, (.int 0), [(8, 29)])), (46, 3, (21, 75, 1, (.int 0), [])), (49, 1, (1, 0, 2, (.int 0), [])), (50, 1, (1, 0, 2, (.int 0), [])), (51, 3, (7, 32, 0, (.int 0), [(8, 33)])), (54, 1, (1, 2, 0, (.int 0), [])), (55, 1, (9, 0, 0, (.int 0), [])), (56, 3, (30, 195, 1, (.int 0), [(8, 131)])), (59, 1, (1, 0, 2, (.int 0), [])), (60, 1, (1, 0, 2, (.int 0), [])), (61, 3, (7, 35, 0, (.int 0), [(8, 34)])), (64, 1, (1, 2, 0, (.int 0), [])), (65, 1, (9, 0, 0, (.int 0), [])), (66, 3, (30, 195, 1, (.int 0), [(8, 131)])), (69, 3, (3, 2, 0, (.int 1), [])), (72, 3, (6, 34, 0, (.int 0), [])), (75, 1, (1, 0, 2, (.int 0), [])), (76, 3, (7, 74, 0, (.int 0), [(8, 29)])), (79, 3, (21, 87, 1, (.int 0), [])), (82, 1, (1, 0, 2, (.int 0), [])), (83, 1, (1, 1, 0, (.int 0), [])), (84, 3, (30, 126, 1, (.int 0), [(8, 118)])), (87, 1, (1, 0, 2, (.int 0), []))]
def ck_R_index_2 : List (Nat × Nat × zx_I) := [(88, 3, (7, 74, 0, (.int 0), [(8, 29)])), (91, 3, (21, 99, 1, (.int 0), [])), (94, 1, (1, 0, 2, (.int 0), [])), (95, 1, (1, 1, 0, (.int 0), [])), (96, 3, (30, 105, 1, (.int 0), [(8, 116)])), (99, 1, (1, 0, 2, (.int 0), [])), (100, 3, (7, 77, 0, (.int 0), [(8, 28)])), (103, 1, (1, 1, 0, (.int 0), [])), (104, 1, (4, 0, 1, (.int 0), [])), (105, 1, (0, 0, 0, (.int 4), [])), (106, 1, (4, 0, 3, (.int 0), [])), (107, 1, (0, 0, 0, (.int 1), [])), (108, 1, (4, 0, 1, (.int 0), [])), (109, 1, (2, 2, 0, (.int 0), [])), (110, 1, (1, 0, 2, (.int 0), [])), (111, 3, (7, 74, 0, (.int 0), [(8, 29)])), (114, 3, (21, 126, 1, (.int 0), [])), (117, 1, (1, 0, 2, (.int 0), [])), (118, 2, (0, 0, 1, (.int 12), [])), (120, 3, (30, 84, 1, (.int 0), [(8, 114)])), (123, 3, (21, 127, 1, (.int 0), [])), (126, 1, (40, 0, 0, (.int 0), [])), (127, 1, (1, 0, 2, (.int 0), [])), (128, 1, (1, 0, 2, (.int 0), []))]
def ck_R_index_3 : List (Nat × Nat × zx_I) := [(129, 3, (7, 77, 0, (.int 0), [(8, 28)])), (132, 1, (0, 0, 0, (.int 4), [])), (133, 3, (30, 88, 2, (.int 0), [(8, 115)])), (136, 1, (1, 0, 2, (.int 0), [])), (137, 1, (1, 0, 2, (.int 0), [])), (138, 3, (7, 77, 0, (.int 0), [(8, 28)])), (141, 1, (0, 0, 0, (.int 4), [])), (142, 1, (4, 0, 0, (.int 0), [])), (143, 1, (1, 0, 2, (.int 0), [])), (144, 3, (7, 77, 0, (.int 0), [(8, 28)])), (147, 2, (0, 0, 1, (.int 10), [])), (149, 1, (4, 0, 0, (.int 0), [])), (150, 3, (30, 92, 2, (.int 0), [(8, 109)])), (153, 4, (22, 170, 0, (.int 0), [])), (157, 1, (1, 0, 2, (.int 0), [])), (158, 2, (0, 0, 1, (.int (-4)), [])), (160, 1, (1, 0, 2, (.int 0), [])), (161, 3, (7, 77, 0, (.int 0), [(8, 28)])), (164, 3, (30, 80, 2, (.int 0), [(8, 113)])), (167, 3, (6, 265, 0, (.int 0), [])), (170, 1, (1, 0, 2, (.int 0), [])), (171, 1, (1, 0, 2, (.int 0), [])), (172, 3, (7, 77, 0, (.int 0), [(8, 28)])), (175, 1, (0, 0, 0, (.int 4), []))]
def ck_R_index_4 : List (Nat × Nat × zx_I) := [(176, 1, (4, 0, 0, (.int 0), [])), (177, 1, (0, 0, 0, (.int 4), [])), (178, 3, (30, 88, 2, (.int 0), [(8, 115)])), (181, 1, (1, 2, 0, (.int 0), [])), (182, 1, (5, 0, 0, (.int 0), [])), (183, 4, (22, 255, 1, (.int 0), [])), (187, 1, (1, 0, 2, (.int 0), [])), (188, 3, (7, 13, 0, (.int 0), [(8, 2)])), (191, 1, (1, 0, 2, (.int 0), [])), (192, 3, (7, 77, 0, (.int 0), [(8, 28)])), (195, 2, (0, 0, 1, (.int 8), [])), (197, 1, (4, 0, 0, (.int 0), [])), (198, 1, (9, 0, 0, (.int 0), [])), (199, 3, (21, 255, 1, (.int 0), [])), (202, 1, (1, 0, 2, (.int 0), [])), (203, 3, (7, 13, 0, (.int 0), [(8, 2)])), (206, 1, (1, 0, 2, (.int 0), [])), (207, 3, (7, 77, 0, (.int 0), [(8, 28)])), (210, 2, (0, 0, 1, (.int 9), [])), (212, 1, (4, 0, 0, (.int 0), [])), (213, 1, (9, 0, 0, (.int 0), [])), (214, 1, (1, 0, 2, (.int 0), [])), (215, 3, (7, 99, 0, (.int 0), [(8, 31)])), (218, 3, (20, 255, 1, (.int 0), []))]
def ck_R_index_5 : List (Nat × Nat × zx_I) := [(221, 1, (1, 0, 2, (.int 0), [])), (222, 3, (7, 13, 0, (.int 0), [(8, 2)])), (225, 1, (1, 0, 2, (.int 0), [])), (226, 3, (7, 77, 0, (.int 0), [(8, 28)])), (229, 2, (0, 0, 1, (.int 10), [])), (231, 1, (4, 0, 0, (.int 0), [])), (232, 1, (9, 0, 0, (.int 0), [])), (233, 2, (0, 0, 1, (.int 89), [])), (235, 3, (20, 255, 1, (.int 0), [])), (238, 1, (1, 0, 2, (.int 0), [])), (239, 3, (7, 13, 0, (.int 0), [(8, 2)])), (242, 1, (1, 0, 2, (.int 0), [])), (243, 3, (7, 77, 0, (.int 0), [(8, 28)])), (246, 2, (0, 0, 1, (.int 11), [])), (248, 1, (4, 0, 0, (.int 0), [])), (249, 1, (9, 0, 0, (.int 0), [])), (250, 2, (0, 0, 1, (.int 90), [])), (252, 3, (20, 265, 0, (.int 0), [])), (255, 1, (1, 0, 2, (.int 0), [])), (256, 2, (0, 0, 1, (.int (-3)), [])), (258, 1, (1, 0, 2, (.int 0), [])), (259, 3, (7, 77, 0, (.int 0), [(8, 28)])), (262, 3, (30, 80, 2, (.int 0), [(8, 113)])), (265, 1, (1, 0, 2, (.int 0), []))]
def ck_R_index_6 : List (Nat × Nat × zx_I) := [(266, 1, (1, 0, 2, (.int 0), [])), (267, 3, (7, 77, 0, (.int 0), [(8, 28)])), (270, 2, (0, 0, 1, (.int 12), [])), (272, 1, (4, 0, 0, (.int 0), [])), (273, 3, (8, 77, 0, (.int 0), [(8, 28)])), (276, 1, (1, 0, 2, (.int 0), [])), (277, 3, (7, 77, 0, (.int 0), [(8, 28)])), (280, 1, (1, 0, 2, (.int 0), [])), (281, 3, (7, 50, 0, (.int 0), [(8, 3)])), (284, 3, (20, 297, 3, (.int 0), [])), (287, 1, (1, 0, 2, (.int 0), [])), (288, 2, (0, 0, 1, (.int (-3)), [])), (290, 1, (1, 0, 2, (.int 0), [])), (291, 3, (7, 77, 0, (.int 0), [(8, 28)])), (294, 3, (30, 80, 2, (.int 0), [(8, 113)])), (297, 1, (40, 0, 0, (.int 0), []))]
abbrev ck_R_index : zx_K := [(40, ck_R_index_0), (88, ck_R_index_1), (129, ck_R_index_2), (176, ck_R_index_3), (219, ck_R_index_4), (266, ck_R_index_5), (298, ck_R_index_6)]
def ck_R_expect_0 : List (Nat × Nat × zx_I) := [(0, 1, (1, 0, 2, (.int 0), [])), (1, 3, (7, 77, 0, (.int 0), [(8, 28)])), (4, 1, (2, 2, 0, (.int 0), [])), (5, 1, (1, 0, 2, (.int 0), [])), (6, 3, (7, 74, 0, (.int 0), [(8, 29)])), (9, 3, (21, 35, 1, (.int 0), [])), (12, 1, (1, 0, 2, (.int 0), [])), (13, 1, (1, 0, 2, (.int 0), [])), (14, 3, (7, 50, 0, (.int 0), [(8, 3)])), (17, 2, (0, 0, 1, (.int (-2)), [])), (19, 3, (30, 109, 2, (.int 0), [(8, 117)])), (22, 1, (1, 1, 0, (.int 0), [])), (23, 1, (5, 0, 0, (.int 0), [])), (24, 4, (22, 35, 0, (.int 0), [])), (28, 1, (1, 0, 2, (.int 0), [])), (29, 2, (0, 0, 1, (.int (-3)), [])), (31, 1, (1, 2, 0, (.int 0), [])), (32, 3, (30, 80, 2, (.int 0), [(8, 113)])), (35, 1, (40, 0, 0, (.int 0), []))]
abbrev ck_R_expect : zx_K := [(36, ck_R_expect_0)]
def ck_R_unpack_0 : List (Nat × Nat × zx_I) := [(0, 1, (0, 0, 0, (.int 0), [])), (1, 1, (2, 1, 0, (.int 0), [])), (2, 1, (1, 1, 0, (.int 0), [])), (3, 2, (0, 0, 1, (.int 11), [])), (5, 3, (20, 21, 3, (.int 0), [])), (8, 1, (1, 0, 2, (.int 0), [])), (9, 3, (7, 47, 0, (.int 0), [(8, 41)])), (12, 1, (1, 1, 0, (.int 0), [])), (13, 1, (0, 0, 0, (.int 0), [])), (14, 1, (10, 0, 0, (.int 0), [])), (15, 3, (3, 1, 0, (.int 1), [])), (18, 3, (6, 2, 0, (.int 0), [])), (21, 1, (1, 0, 2, (.int 0), [])), (22, 1, (1, 0, 2, (.int 0), [])), (23, 3, (7, 198, 0, (.int 0), [(8, 37)])), (26, 3, (8, 201, 0, (.int 0), [(8, 38)])), (29, 1, (1, 0, 2, (.int 0), [])), (30, 3, (0, 38, 5, (.long (-1)), [])), (33, 3, (8, 40, 0, (.int 0), [(8, 39)])), (36, 1, (1, 0, 2, (.int 0), [])), (37, 3, (0, 38, 5, (.long (-1)), [])), (40, 3, (8, 44, 0, (.int 0), [(8, 40)])), (43, 1, (1, 0, 2, (.int 0), [])), (44, 1, (0, 0, 0, (.int 0), []))]
def ck_R_unpack_1 : List (Nat × Nat × zx_I) := [(45, 3, (8, 68, 0, (.int 0), [(8, 5)])), (48, 1, (1, 0, 2, (.int 0), [])), (49, 1, (0, 0, 0, (.int 0), [])), (50, 3, (8, 74, 0, (.int 0), [(8, 29)])), (53, 1, (1, 0, 2, (.int 0), [])), (54, 1, (0, 0, 0, (.int (-1)), [])), (55, 3, (8, 28, 0, (.int 0), [(8, 30)])), (58, 1, (1, 0, 2, (.int 0), [])), (59, 1, (0, 0, 0, (.int 0), [])), (60, 3, (8, 136, 0, (.int 0), [(8, 32)])), (63, 1, (1, 0, 2, (.int 0), [])), (64, 3, (30, 204, 0, (.int 0), [(8, 121)])), (67, 1, (1, 0, 2, (.int 0), [])), (68, 3, (7, 74, 0, (.int 0), [(8, 29)])), (71, 3, (21, 104, 1, (.int 0), [])), (74, 1, (1, 0, 2, (.int 0), [])), (75, 3, (7, 77, 0, (.int 0), [(8, 28)])), (78, 1, (1, 0, 2, (.int 0), [])), (79, 3, (7, 50, 0, (.int 0), [(8, 3)])), (82, 3, (20, 104, 3, (.int 0), [])), (85, 1, (1, 0, 2, (.int 0), [])), (86, 3, (7, 13, 0, (.int 0), [(8, 2)])), (89, 1, (1, 0, 2, (.int 0), [])), (90, 3, (7, 77, 0, (.int 0), [(8, 28)]))]
def ck_R_unpack_2 : List (Nat × Nat × zx_I) := [(93, 1, (9, 0, 0, (.int 0), [])), (94, 3, (21, 104, 0, (.int 0), [])), (97, 1, (1, 0, 2, (.int 0), [])), (98, 3, (30, 207, 0, (.int 0), [(8, 123)])), (101, 3, (6, 67, 0, (.int 0), [])), (104, 1, (1, 0, 2, (.int 0), [])), (105, 3, (7, 74, 0, (.int 0), [(8, 29)])), (108, 3, (21, 115, 1, (.int 0), [])), (111, 1, (1, 0, 2, (.int 0), [])), (112, 3, (30, 210, 0, (.int 0), [(8, 130)])), (115, 1, (1, 0, 2, (.int 0), [])), (116, 3, (7, 74, 0, (.int 0), [(8, 29)])), (119, 3, (21, 127, 0, (.int 0), [])), (122, 1, (1, 0, 2, (.int 0), [])), (123, 3, (7, 74, 0, (.int 0), [(8, 29)])), (126, 1, (40, 0, 1, (.int 0), [])), (127, 1, (1, 0, 2, (.int 0), [])), (128, 1, (1, 0, 2, (.int 0), [])), (129, 3, (7, 68, 0, (.int 0), [(8, 5)])), (132, 3, (8, 53, 0, (.int 0), [(8, 1)])), (135, 1, (0, 0, 0, (.int 0), [])), (136, 1, (2, 1, 0, (.int 0), [])), (137, 1, (1, 1, 0, (.int 0), [])), (138, 1, (1, 0, 2, (.int 0), []))]
def ck_R_unpack_3 : List (Nat × Nat × zx_I) := [(139, 3, (7, 68, 0, (.int 0), [(8, 5)])), (142, 3, (20, 163, 3, (.int 0), [])), (145, 1, (1, 0, 2, (.int 0), [])), (146, 3, (7, 7, 0, (.int 0), [(8, 0)])), (149, 1, (1, 1, 0, (.int 0), [])), (150, 1, (1, 0, 2, (.int 0), [])), (151, 3, (7, 16, 0, (.int 0), [(8, 4)])), (154, 1, (1, 1, 0, (.int 0), [])), (155, 1, (9, 0, 0, (.int 0), [])), (156, 1, (10, 0, 0, (.int 0), [])), (157, 3, (3, 1, 0, (.int 1), [])), (160, 3, (6, 137, 0, (.int 0), [])), (163, 1, (1, 0, 2, (.int 0), [])), (164, 3, (7, 53, 0, (.int 0), [(8, 1)])), (167, 1, (40, 0, 1, (.int 0), []))]
abbrev ck_R_unpack : zx_K := [(45, ck_R_unpack_0), (91, ck_R_unpack_1), (139, ck_R_unpack_2), (168, ck_R_unpack_3)]
def ck_R_where_0 : List (Nat × Nat × zx_I) := [(0, 1, (1, 0, 2, (.int 0), [])), (1, 3, (7, 28, 0, (.int 0), [(8, 30)])), (4, 1, (40, 0, 1, (.int 0), []))]
abbrev ck_R_where : zx_K := [(5, ck_R_where_0)]
def ck_R_watch_0 : List (Nat × Nat × zx_I) := [(0, 1, (1, 0, 2, (.int 0), [])), (1, 1, (1, 1, 0, (.int 0), [])), (2, 1, (0, 0, 0, (.int 1), [])), (3, 3, (20, 13, 3, (.int 0), [])), (6, 1, (1, 0, 2, (.int 0), [])), (7, 3, (7, 198, 0, (.int 0), [(8, 37)])), (10, 3, (6, 14, 0, (.int 0), [])), (13, 1, (1, 1, 0, (.int 0), [])), (14, 3, (8, 198, 0, (.int 0), [(8, 37)])), (17, 1, (1, 1, 0, (.int 0), [])), (18, 1, (0, 0, 0, (.int 1), [])), (19, 3, (20, 26, 2, (.int 0), [])), (22, 1, (0, 0, 0, (.int 1), [])), (23, 3, (6, 27, 0, (.int 0), [])), (26, 1, (0, 0, 0, (.int 0), [])), (27, 1, (40, 0, 4, (.int 0), []))]
abbrev ck_R_watch : zx_K := [(28, ck_R_watch_0)]
def ck_R_range_0 : List (Nat × Nat × zx_I) := [(0, 1, (1, 0, 2, (.int 0), [])), (1, 3, (7, 40, 0, (.int 0), [(8, 39)])), (4, 1, (40, 0, 2, (.int 0), []))]
abbrev ck_R_range : zx_K := [(5, ck_R_range_0)]
def ck_R_code_0 : List (Nat × Nat × zx_I) := [(0, 1, (1, 0, 2, (.int 0), [])), (1, 3, (7, 44, 0, (.int 0), [(8, 40)])), (4, 1, (40, 0, 2, (.int 0), []))]
abbrev ck_R_code : zx_K := [(5, ck_R_code_0)]
def ck_R_count_0 : List (Nat × Nat × zx_I) := [(0, 1, (1, 1, 0, (.int 0), [])), (1, 3, (21, 10, 2, (.int 0), [])), (4, 1, (1, 1, 0, (.int 0), [])), (5, 2, (0, 0, 1, (.int 10), [])), (7, 3, (20, 14, 5, (.int 0), [])), (10, 1, (0, 0, 0, (.int (-1)), [])), (11, 3, (6, 20, 0, (.int 0), [])), (14, 1, (1, 0, 2, (.int 0), [])), (15, 3, (7, 47, 0, (.int 0), [(8, 41)])), (18, 1, (1, 1, 0, (.int 0), [])), (19, 1, (9, 0, 0, (.int 0), [])), (20, 1, (40, 0, 1, (.int 0), []))]
abbrev ck_R_count : zx_K := [(21, ck_R_count_0)]
def ck_R_anew_0 : List (Nat × Nat × zx_I) := [(0, 1, (0, 0, 0, (.int 0), [])), (1, 1, (2, 1, 0, (.int 0), [])), (2, 1, (1, 1, 0, (.int 0), [])), (3, 3, (0, 0, 2, (.int 8328), [])), (6, 3, (20, 24, 3, (.int 0), [])), (9, 1, (1, 0, 2, (.int 0), [])), (10, 3, (7, 22, 0, (.int 0), [(8, 8)])), (13, 1, (1, 1, 0, (.int 0), [])), (14, 3, (0, 0, 2, (.int 1024), [])), (17, 1, (10, 0, 0, (.int 0), [])), (18, 3, (3, 1, 0, (.int 1), [])), (21, 3, (6, 2, 0, (.int 0), [])), (24, 1, (1, 0, 2, (.int 0), [])), (25, 1, (0, 0, 0, (.int 0), [])), (26, 3, (8, 213, 0, (.int 0), [(8, 12)])), (29, 1, (1, 0, 2, (.int 0), [])), (30, 1, (0, 0, 4, (.long 1), [])), (31, 3, (8, 216, 0, (.int 0), [(8, 13)])), (34, 1, (1, 0, 2, (.int 0), [])), (35, 1, (0, 0, 4, (.long 1), [])), (36, 3, (8, 219, 0, (.int 0), [(8, 14)])), (39, 1, (1, 0, 2, (.int 0), [])), (40, 1, (0, 0, 4, (.long 1), [])), (41, 3, (8, 222, 0, (.int 0), [(8, 15)]))]
def ck_R_anew_1 : List (Nat × Nat × zx_I) := [(44, 1, (1, 0, 2, (.int 0), [])), (45, 1, (0, 0, 4, (.long 1), [])), (46, 3, (8, 225, 0, (.int 0), [(8, 16)])), (49, 1, (40, 0, 0, (.int 0), []))]
abbrev ck_R_anew : zx_K := [(42, ck_R_anew_0), (50, ck_R_anew_1)]
def ck_R_shift_0 : List (Nat × Nat × zx_I) := [(0, 1, (1, 0, 2, (.int 0), [])), (1, 3, (7, 186, 0, (.int 0), [(8, 22)])), (4, 3, (21, 18, 1, (.int 0), [])), (7, 1, (1, 0, 2, (.int 0), [])), (8, 3, (7, 171, 0, (.int 0), [(8, 17)])), (11, 3, (0, 228, 5, (.long 16777216), [])), (14, 4, (22, 19, 2, (.int 0), [])), (18, 1, (40, 0, 0, (.int 0), [])), (19, 1, (1, 0, 2, (.int 0), [])), (20, 3, (7, 177, 0, (.int 0), [(8, 19)])), (23, 1, (1, 0, 2, (.int 0), [])), (24, 3, (7, 180, 0, (.int 0), [(8, 20)])), (27, 3, (20, 36, 2, (.int 0), [])), (30, 1, (1, 0, 2, (.int 0), [])), (31, 1, (0, 0, 0, (.int 1), [])), (32, 3, (8, 186, 0, (.int 0), [(8, 22)])), (35, 1, (40, 0, 0, (.int 0), [])), (36, 1, (1, 0, 2, (.int 0), [])), (37, 1, (1, 0, 2, (.int 0), [])), (38, 3, (7, 171, 0, (.int 0), [(8, 17)])), (41, 3, (0, 230, 5, (.long 256), [])), (44, 1, (4, 0, 12, (.int 0), [])), (45, 3, (8, 171, 0, (.int 0), [(8, 17)])), (48, 1, (1, 0, 2, (.int 0), []))]
def ck_R_shift_1 : List (Nat × Nat × zx_I) := [(49, 1, (1, 0, 2, (.int 0), [])), (50, 3, (7, 174, 0, (.int 0), [(8, 18)])), (53, 3, (0, 230, 5, (.long 256), [])), (56, 1, (4, 0, 12, (.int 0), [])), (57, 1, (1, 0, 2, (.int 0), [])), (58, 3, (7, 13, 0, (.int 0), [(8, 2)])), (61, 1, (1, 0, 2, (.int 0), [])), (62, 3, (7, 177, 0, (.int 0), [(8, 19)])), (65, 1, (9, 0, 0, (.int 0), [])), (66, 1, (5, 0, 0, (.int 0), [])), (67, 1, (4, 0, 10, (.int 0), [])), (68, 3, (8, 174, 0, (.int 0), [(8, 18)])), (71, 1, (1, 0, 2, (.int 0), [])), (72, 1, (12, 0, 0, (.int 0), [])), (73, 3, (7, 177, 0, (.int 0), [(8, 19)])), (76, 1, (0, 0, 0, (.int 1), [])), (77, 1, (4, 0, 0, (.int 0), [])), (78, 3, (8, 177, 0, (.int 0), [(8, 19)])), (81, 1, (40, 0, 0, (.int 0), []))]
abbrev ck_R_shift : zx_K := [(49, ck_R_shift_0), (82, ck_R_shift_1)]
def ck_R_told_0 : List (Nat × Nat × zx_I) := [(0, 1, (1, 0, 2, (.int 0), [])), (1, 3, (7, 47, 0, (.int 0), [(8, 41)])), (4, 1, (0, 0, 0, (.int 0), [])), (5, 1, (13, 0, 0, (.int 0), [])), (6, 1, (9, 0, 0, (.int 0), [])), (7, 1, (0, 0, 0, (.int 1), [])), (8, 1, (4, 0, 0, (.int 0), [])), (9, 1, (10, 0, 0, (.int 0), [])), (10, 1, (1, 0, 2, (.int 0), [])), (11, 3, (7, 47, 0, (.int 0), [(8, 41)])), (14, 1, (0, 0, 0, (.int 0), [])), (15, 1, (9, 0, 0, (.int 0), [])), (16, 1, (1, 0, 2, (.int 0), [])), (17, 3, (7, 201, 0, (.int 0), [(8, 38)])), (20, 3, (20, 39, 1, (.int 0), [])), (23, 1, (1, 0, 2, (.int 0), [])), (24, 1, (1, 0, 2, (.int 0), [])), (25, 3, (7, 171, 0, (.int 0), [(8, 17)])), (28, 3, (8, 40, 0, (.int 0), [(8, 39)])), (31, 1, (1, 0, 2, (.int 0), [])), (32, 1, (1, 0, 2, (.int 0), [])), (33, 3, (7, 174, 0, (.int 0), [(8, 18)])), (36, 3, (8, 44, 0, (.int 0), [(8, 40)])), (39, 1, (40, 0, 0, (.int 0), []))]
abbrev ck_R_told : zx_K := [(40, ck_R_told_0)]
def ck_R_bit_0 : List (Nat × Nat × zx_I) := [(0, 1, (1, 0, 2, (.int 0), [])), (1, 3, (30, 192, 0, (.int 0), [(8, 139)])), (4, 1, (1, 0, 2, (.int 0), [])), (5, 3, (7, 186, 0, (.int 0), [(8, 22)])), (8, 3, (21, 13, 0, (.int 0), [])), (11, 1, (0, 0, 0, (.int 0), [])), (12, 1, (40, 0, 1, (.int 0), [])), (13, 1, (1, 0, 2, (.int 0), [])), (14, 3, (7, 171, 0, (.int 0), [(8, 17)])), (17, 3, (0, 232, 5, (.long 2048), [])), (20, 1, (4, 0, 13, (.int 0), [])), (21, 1, (1, 0, 2, (.int 0), [])), (22, 3, (7, 22, 0, (.int 0), [(8, 8)])), (25, 1, (1, 1, 0, (.int 0), [])), (26, 1, (9, 0, 0, (.int 0), [])), (27, 1, (5, 0, 0, (.int 0), [])), (28, 1, (4, 0, 12, (.int 0), [])), (29, 1, (2, 2, 1, (.int 0), [])), (30, 1, (1, 0, 2, (.int 0), [])), (31, 3, (7, 174, 0, (.int 0), [(8, 18)])), (34, 1, (1, 2, 1, (.int 0), [])), (35, 4, (22, 43, 2, (.int 0), [])), (39, 1, (0, 0, 0, (.int 1), [])), (40, 3, (6, 44, 0, (.int 0), []))]
def ck_R_bit_1 : List (Nat × Nat × zx_I) := [(43, 1, (0, 0, 0, (.int 0), [])), (44, 2, (2, 4, 0, (.int 0), [])), (46, 1, (1, 0, 2, (.int 0), [])), (47, 1, (1, 1, 0, (.int 0), [])), (48, 2, (1, 4, 0, (.int 0), [])), (50, 3, (30, 234, 2, (.int 0), [(8, 142)])), (53, 1, (1, 0, 2, (.int 0), [])), (54, 2, (1, 4, 0, (.int 0), [])), (56, 3, (21, 68, 0, (.int 0), [])), (59, 1, (1, 0, 2, (.int 0), [])), (60, 3, (7, 171, 0, (.int 0), [(8, 17)])), (63, 1, (1, 2, 1, (.int 0), [])), (64, 1, (4, 0, 11, (.int 0), [])), (65, 3, (6, 69, 0, (.int 0), [])), (68, 1, (1, 2, 1, (.int 0), [])), (69, 3, (8, 171, 0, (.int 0), [(8, 17)])), (72, 1, (1, 0, 2, (.int 0), [])), (73, 2, (1, 4, 0, (.int 0), [])), (75, 3, (21, 87, 0, (.int 0), [])), (78, 1, (1, 0, 2, (.int 0), [])), (79, 3, (7, 174, 0, (.int 0), [(8, 18)])), (82, 1, (1, 2, 1, (.int 0), [])), (83, 1, (4, 0, 11, (.int 0), [])), (84, 3, (6, 91, 0, (.int 0), []))]
def ck_R_bit_2 : List (Nat × Nat × zx_I) := [(87, 1, (1, 0, 2, (.int 0), [])), (88, 3, (7, 174, 0, (.int 0), [(8, 18)])), (91, 3, (8, 174, 0, (.int 0), [(8, 18)])), (94, 1, (1, 0, 2, (.int 0), [])), (95, 3, (30, 237, 0, (.int 0), [(8, 140)])), (98, 2, (1, 4, 0, (.int 0), [])), (100, 3, (21, 107, 0, (.int 0), [])), (103, 1, (0, 0, 0, (.int 1), [])), (104, 3, (6, 108, 0, (.int 0), [])), (107, 1, (0, 0, 0, (.int 0), [])), (108, 1, (40, 0, 1, (.int 0), []))]
abbrev ck_R_bit : zx_K := [(41, ck_R_bit_0), (85, ck_R_bit_1), (109, ck_R_bit_2)]
def ck_R_learn_0 : List (Nat × Nat × zx_I) := [(0, 1, (1, 0, 2, (.int 0), [])), (1, 3, (7, 22, 0, (.int 0), [(8, 8)])), (4, 1, (1, 1, 0, (.int 0), [])), (5, 1, (9, 0, 0, (.int 0), [])), (6, 1, (2, 3, 0, (.int 0), [])), (7, 1, (1, 0, 2, (.int 0), [])), (8, 3, (7, 22, 0, (.int 0), [(8, 8)])), (11, 1, (1, 1, 0, (.int 0), [])), (12, 1, (1, 2, 0, (.int 0), [])), (13, 3, (21, 25, 0, (.int 0), [])), (16, 1, (1, 3, 0, (.int 0), [])), (17, 1, (1, 3, 0, (.int 0), [])), (18, 2, (0, 0, 1, (.int 32), [])), (20, 1, (4, 0, 3, (.int 0), [])), (21, 1, (4, 0, 1, (.int 0), [])), (22, 3, (6, 35, 0, (.int 0), [])), (25, 1, (1, 3, 0, (.int 0), [])), (26, 3, (0, 0, 2, (.int 2048), [])), (29, 1, (1, 3, 0, (.int 0), [])), (30, 1, (4, 0, 1, (.int 0), [])), (31, 2, (0, 0, 1, (.int 32), [])), (33, 1, (4, 0, 3, (.int 0), [])), (34, 1, (4, 0, 0, (.int 0), [])), (35, 1, (10, 0, 0, (.int 0), []))]
def ck_R_learn_1 : List (Nat × Nat × zx_I) := [(36, 1, (40, 0, 0, (.int 0), []))]
abbrev ck_R_learn : zx_K := [(36, ck_R_learn_0), (37, ck_R_learn_1)]
def ck_R_even_0 : List (Nat × Nat × zx_I) := [(0, 1, (1, 0, 2, (.int 0), [])), (1, 3, (30, 192, 0, (.int 0), [(8, 139)])), (4, 1, (1, 0, 2, (.int 0), [])), (5, 3, (7, 186, 0, (.int 0), [(8, 22)])), (8, 3, (21, 13, 0, (.int 0), [])), (11, 1, (0, 0, 0, (.int 0), [])), (12, 1, (40, 0, 1, (.int 0), [])), (13, 1, (1, 0, 2, (.int 0), [])), (14, 1, (1, 0, 2, (.int 0), [])), (15, 3, (7, 171, 0, (.int 0), [(8, 17)])), (18, 3, (0, 240, 5, (.long 2), [])), (21, 1, (4, 0, 13, (.int 0), [])), (22, 3, (8, 171, 0, (.int 0), [(8, 17)])), (25, 1, (1, 0, 2, (.int 0), [])), (26, 3, (7, 174, 0, (.int 0), [(8, 18)])), (29, 1, (1, 0, 2, (.int 0), [])), (30, 3, (7, 171, 0, (.int 0), [(8, 17)])), (33, 4, (22, 41, 2, (.int 0), [])), (37, 1, (0, 0, 0, (.int 1), [])), (38, 3, (6, 42, 0, (.int 0), [])), (41, 1, (0, 0, 0, (.int 0), [])), (42, 1, (2, 1, 0, (.int 0), [])), (43, 1, (1, 0, 2, (.int 0), [])), (44, 1, (1, 1, 0, (.int 0), []))]
def ck_R_even_1 : List (Nat × Nat × zx_I) := [(45, 3, (21, 60, 0, (.int 0), [])), (48, 1, (1, 0, 2, (.int 0), [])), (49, 3, (7, 174, 0, (.int 0), [(8, 18)])), (52, 1, (1, 0, 2, (.int 0), [])), (53, 3, (7, 171, 0, (.int 0), [(8, 17)])), (56, 1, (4, 0, 11, (.int 0), [])), (57, 3, (6, 64, 0, (.int 0), [])), (60, 1, (1, 0, 2, (.int 0), [])), (61, 3, (7, 174, 0, (.int 0), [(8, 18)])), (64, 3, (8, 174, 0, (.int 0), [(8, 18)])), (67, 1, (1, 0, 2, (.int 0), [])), (68, 3, (30, 237, 0, (.int 0), [(8, 140)])), (71, 1, (1, 1, 0, (.int 0), [])), (72, 3, (21, 79, 0, (.int 0), [])), (75, 1, (0, 0, 0, (.int 1), [])), (76, 3, (6, 80, 0, (.int 0), [])), (79, 1, (0, 0, 0, (.int 0), [])), (80, 1, (40, 0, 1, (.int 0), []))]
abbrev ck_R_even : zx_K := [(45, ck_R_even_0), (81, ck_R_even_1)]
def ck_R_tree_0 : List (Nat × Nat × zx_I) := [(0, 1, (0, 0, 0, (.int 1), [])), (1, 1, (2, 3, 0, (.int 0), [])), (2, 1, (0, 0, 0, (.int 0), [])), (3, 2, (2, 4, 0, (.int 0), [])), (5, 2, (1, 4, 0, (.int 0), [])), (7, 1, (1, 2, 0, (.int 0), [])), (8, 3, (20, 29, 3, (.int 0), [])), (11, 1, (0, 0, 0, (.int 2), [])), (12, 1, (1, 3, 0, (.int 0), [])), (13, 1, (4, 0, 2, (.int 0), [])), (14, 1, (1, 0, 2, (.int 0), [])), (15, 1, (1, 1, 0, (.int 0), [])), (16, 1, (1, 3, 0, (.int 0), [])), (17, 1, (4, 0, 0, (.int 0), [])), (18, 3, (30, 242, 1, (.int 0), [(8, 141)])), (21, 1, (4, 0, 0, (.int 0), [])), (22, 1, (2, 3, 0, (.int 0), [])), (23, 3, (3, 4, 0, (.int 1), [])), (26, 3, (6, 5, 0, (.int 0), [])), (29, 1, (1, 3, 0, (.int 0), [])), (30, 1, (0, 0, 0, (.int 1), [])), (31, 1, (1, 2, 0, (.int 0), [])), (32, 1, (4, 0, 7, (.int 0), [])), (33, 1, (4, 0, 1, (.int 0), []))]
def ck_R_tree_1 : List (Nat × Nat × zx_I) := [(34, 1, (40, 0, 1, (.int 0), []))]
abbrev ck_R_tree : zx_K := [(34, ck_R_tree_0), (35, ck_R_tree_1)]
def ck_R_backwards_0 : List (Nat × Nat × zx_I) := [(0, 1, (0, 0, 0, (.int 1), [])), (1, 1, (2, 3, 0, (.int 0), [])), (2, 1, (0, 0, 0, (.int 0), [])), (3, 2, (2, 4, 0, (.int 0), [])), (5, 1, (0, 0, 0, (.int 0), [])), (6, 2, (2, 5, 0, (.int 0), [])), (8, 2, (1, 5, 0, (.int 0), [])), (10, 1, (1, 2, 0, (.int 0), [])), (11, 3, (20, 46, 3, (.int 0), [])), (14, 1, (1, 0, 2, (.int 0), [])), (15, 1, (1, 1, 0, (.int 0), [])), (16, 1, (1, 3, 0, (.int 0), [])), (17, 1, (4, 0, 0, (.int 0), [])), (18, 3, (30, 242, 1, (.int 0), [(8, 141)])), (21, 2, (2, 6, 0, (.int 0), [])), (23, 1, (0, 0, 0, (.int 2), [])), (24, 1, (1, 3, 0, (.int 0), [])), (25, 1, (4, 0, 2, (.int 0), [])), (26, 2, (1, 6, 0, (.int 0), [])), (28, 1, (4, 0, 0, (.int 0), [])), (29, 1, (2, 3, 0, (.int 0), [])), (30, 2, (1, 4, 0, (.int 0), [])), (32, 2, (1, 6, 0, (.int 0), [])), (34, 2, (1, 5, 0, (.int 0), []))]
def ck_R_backwards_1 : List (Nat × Nat × zx_I) := [(36, 1, (4, 0, 7, (.int 0), [])), (37, 1, (4, 0, 6, (.int 0), [])), (38, 2, (2, 4, 0, (.int 0), [])), (40, 3, (3, 5, 0, (.int 1), [])), (43, 3, (6, 8, 0, (.int 0), [])), (46, 2, (1, 4, 0, (.int 0), [])), (48, 1, (40, 0, 1, (.int 0), []))]
abbrev ck_R_backwards : zx_K := [(35, ck_R_backwards_0), (49, ck_R_backwards_1)]
def ck_R_bytes_0 : List (Nat × Nat × zx_I) := [(0, 1, (1, 0, 2, (.int 0), [])), (1, 3, (7, 68, 0, (.int 0), [(8, 5)])), (4, 1, (1, 0, 2, (.int 0), [])), (5, 3, (7, 165, 0, (.int 0), [(8, 23)])), (8, 1, (4, 0, 1, (.int 0), [])), (9, 1, (40, 0, 1, (.int 0), []))]
abbrev ck_R_bytes : zx_K := [(10, ck_R_bytes_0)]
def ck_R_low4_0 : List (Nat × Nat × zx_I) := [(0, 1, (1, 1, 0, (.int 0), [])), (1, 1, (0, 0, 0, (.int 1), [])), (2, 1, (1, 0, 2, (.int 0), [])), (3, 3, (7, 162, 0, (.int 0), [(8, 11)])), (6, 1, (4, 0, 7, (.int 0), [])), (7, 1, (0, 0, 0, (.int 1), [])), (8, 1, (4, 0, 1, (.int 0), [])), (9, 1, (4, 0, 5, (.int 0), [])), (10, 1, (40, 0, 1, (.int 0), []))]
abbrev ck_R_low4 : zx_K := [(11, ck_R_low4_0)]
def ck_R_give_0 : List (Nat × Nat × zx_I) := [(0, 1, (1, 0, 2, (.int 0), [])), (1, 3, (7, 16, 0, (.int 0), [(8, 4)])), (4, 1, (1, 0, 2, (.int 0), [])), (5, 3, (7, 68, 0, (.int 0), [(8, 5)])), (8, 1, (1, 1, 0, (.int 0), [])), (9, 1, (10, 0, 0, (.int 0), [])), (10, 1, (1, 0, 2, (.int 0), [])), (11, 1, (12, 0, 0, (.int 0), [])), (12, 3, (7, 68, 0, (.int 0), [(8, 5)])), (15, 1, (0, 0, 0, (.int 1), [])), (16, 1, (4, 0, 0, (.int 0), [])), (17, 3, (8, 68, 0, (.int 0), [(8, 5)])), (20, 1, (1, 0, 2, (.int 0), [])), (21, 1, (12, 0, 0, (.int 0), [])), (22, 3, (7, 183, 0, (.int 0), [(8, 21)])), (25, 1, (0, 0, 0, (.int 1), [])), (26, 1, (4, 0, 1, (.int 0), [])), (27, 3, (8, 183, 0, (.int 0), [(8, 21)])), (30, 1, (40, 0, 0, (.int 0), []))]
abbrev ck_R_give : zx_K := [(31, ck_R_give_0)]
def ck_R_token_0 : List (Nat × Nat × zx_I) := [(0, 1, (1, 0, 2, (.int 0), [])), (1, 1, (1, 0, 2, (.int 0), [])), (2, 3, (30, 245, 0, (.int 0), [(8, 146)])), (5, 3, (30, 249, 1, (.int 0), [(8, 147)])), (8, 1, (2, 1, 0, (.int 0), [])), (9, 1, (1, 0, 2, (.int 0), [])), (10, 3, (0, 0, 2, (.int 6144), [])), (13, 2, (0, 0, 1, (.int 16), [])), (15, 1, (1, 0, 2, (.int 0), [])), (16, 3, (7, 213, 0, (.int 0), [(8, 12)])), (19, 1, (4, 0, 2, (.int 0), [])), (20, 1, (4, 0, 0, (.int 0), [])), (21, 1, (1, 1, 0, (.int 0), [])), (22, 1, (4, 0, 0, (.int 0), [])), (23, 3, (30, 242, 1, (.int 0), [(8, 141)])), (26, 3, (21, 34, 1, (.int 0), [])), (29, 1, (1, 0, 2, (.int 0), [])), (30, 3, (30, 252, 0, (.int 0), [(8, 157)])), (33, 1, (40, 0, 0, (.int 0), [])), (34, 1, (1, 0, 2, (.int 0), [])), (35, 3, (0, 0, 2, (.int 6528), [])), (38, 1, (1, 0, 2, (.int 0), [])), (39, 3, (7, 213, 0, (.int 0), [(8, 12)])), (42, 1, (4, 0, 0, (.int 0), []))]
def ck_R_token_1 : List (Nat × Nat × zx_I) := [(43, 3, (30, 242, 1, (.int 0), [(8, 141)])), (46, 3, (21, 118, 1, (.int 0), [])), (49, 1, (1, 0, 2, (.int 0), [])), (50, 1, (1, 0, 2, (.int 0), [])), (51, 3, (7, 222, 0, (.int 0), [(8, 15)])), (54, 3, (8, 225, 0, (.int 0), [(8, 16)])), (57, 1, (1, 0, 2, (.int 0), [])), (58, 1, (1, 0, 2, (.int 0), [])), (59, 3, (7, 219, 0, (.int 0), [(8, 14)])), (62, 3, (8, 222, 0, (.int 0), [(8, 15)])), (65, 1, (1, 0, 2, (.int 0), [])), (66, 1, (1, 0, 2, (.int 0), [])), (67, 3, (7, 216, 0, (.int 0), [(8, 13)])), (70, 3, (8, 219, 0, (.int 0), [(8, 14)])), (73, 1, (1, 0, 2, (.int 0), [])), (74, 3, (0, 0, 2, (.int 6576), [])), (77, 1, (1, 1, 0, (.int 0), [])), (78, 3, (30, 255, 2, (.int 0), [(8, 153)])), (81, 1, (2, 2, 0, (.int 0), [])), (82, 1, (1, 0, 2, (.int 0), [])), (83, 1, (1, 0, 2, (.int 0), [])), (84, 1, (1, 2, 0, (.int 0), [])), (85, 3, (30, 259, 1, (.int 0), [(8, 154)])), (88, 3, (8, 216, 0, (.int 0), [(8, 13)]))]
def ck_R_token_2 : List (Nat × Nat × zx_I) := [(91, 1, (1, 0, 2, (.int 0), [])), (92, 1, (1, 0, 2, (.int 0), [])), (93, 3, (7, 213, 0, (.int 0), [(8, 12)])), (96, 2, (0, 0, 1, (.int 7), [])), (98, 3, (20, 106, 3, (.int 0), [])), (101, 2, (0, 0, 1, (.int 7), [])), (103, 3, (6, 108, 0, (.int 0), [])), (106, 2, (0, 0, 1, (.int 10), [])), (108, 3, (8, 213, 0, (.int 0), [(8, 12)])), (111, 1, (1, 0, 2, (.int 0), [])), (112, 1, (1, 2, 0, (.int 0), [])), (113, 1, (0, 0, 0, (.int 2), [])), (114, 3, (30, 262, 2, (.int 0), [(8, 152)])), (117, 1, (40, 0, 0, (.int 0), [])), (118, 1, (1, 0, 2, (.int 0), [])), (119, 3, (0, 0, 2, (.int 6540), [])), (122, 1, (1, 0, 2, (.int 0), [])), (123, 3, (7, 213, 0, (.int 0), [(8, 12)])), (126, 1, (4, 0, 0, (.int 0), [])), (127, 3, (30, 242, 1, (.int 0), [(8, 141)])), (130, 3, (21, 187, 1, (.int 0), [])), (133, 1, (1, 0, 2, (.int 0), [])), (134, 3, (0, 0, 2, (.int 6336), [])), (137, 2, (0, 0, 1, (.int 16), []))]
def ck_R_token_3 : List (Nat × Nat × zx_I) := [(139, 1, (1, 0, 2, (.int 0), [])), (140, 3, (7, 213, 0, (.int 0), [(8, 12)])), (143, 1, (4, 0, 2, (.int 0), [])), (144, 1, (4, 0, 0, (.int 0), [])), (145, 1, (1, 1, 0, (.int 0), [])), (146, 1, (4, 0, 0, (.int 0), [])), (147, 3, (30, 242, 1, (.int 0), [(8, 141)])), (150, 3, (21, 180, 1, (.int 0), [])), (153, 1, (1, 0, 2, (.int 0), [])), (154, 1, (1, 0, 2, (.int 0), [])), (155, 3, (7, 213, 0, (.int 0), [(8, 12)])), (158, 2, (0, 0, 1, (.int 7), [])), (160, 3, (20, 168, 3, (.int 0), [])), (163, 2, (0, 0, 1, (.int 9), [])), (165, 3, (6, 170, 0, (.int 0), [])), (168, 2, (0, 0, 1, (.int 11), [])), (170, 3, (8, 213, 0, (.int 0), [(8, 12)])), (173, 1, (1, 0, 2, (.int 0), [])), (174, 1, (0, 0, 0, (.int 1), [])), (175, 1, (0, 0, 0, (.int 3), [])), (176, 3, (30, 262, 2, (.int 0), [(8, 152)])), (179, 1, (40, 0, 0, (.int 0), [])), (180, 1, (1, 0, 2, (.int 0), [])), (181, 1, (0, 0, 0, (.int 0), []))]
def ck_R_token_4 : List (Nat × Nat × zx_I) := [(182, 1, (1, 1, 0, (.int 0), [])), (183, 3, (30, 265, 2, (.int 0), [(8, 150)])), (186, 1, (40, 0, 0, (.int 0), [])), (187, 1, (1, 0, 2, (.int 0), [])), (188, 3, (0, 0, 2, (.int 6552), [])), (191, 1, (1, 0, 2, (.int 0), [])), (192, 3, (7, 213, 0, (.int 0), [(8, 12)])), (195, 1, (4, 0, 0, (.int 0), [])), (196, 3, (30, 242, 1, (.int 0), [(8, 141)])), (199, 3, (21, 209, 1, (.int 0), [])), (202, 1, (1, 0, 2, (.int 0), [])), (203, 1, (0, 0, 0, (.int 1), [])), (204, 1, (1, 1, 0, (.int 0), [])), (205, 3, (30, 265, 2, (.int 0), [(8, 150)])), (208, 1, (40, 0, 0, (.int 0), [])), (209, 1, (1, 0, 2, (.int 0), [])), (210, 1, (1, 0, 2, (.int 0), [])), (211, 3, (0, 0, 2, (.int 6564), [])), (214, 1, (1, 0, 2, (.int 0), [])), (215, 3, (7, 213, 0, (.int 0), [(8, 12)])), (218, 1, (4, 0, 0, (.int 0), [])), (219, 3, (30, 242, 1, (.int 0), [(8, 141)])), (222, 3, (21, 229, 1, (.int 0), [])), (225, 1, (0, 0, 0, (.int 2), []))]
def ck_R_token_5 : List (Nat × Nat × zx_I) := [(226, 3, (6, 230, 0, (.int 0), [])), (229, 1, (0, 0, 0, (.int 3), [])), (230, 1, (1, 1, 0, (.int 0), [])), (231, 3, (30, 265, 2, (.int 0), [(8, 150)])), (234, 1, (40, 0, 0, (.int 0), []))]
abbrev ck_R_token : zx_K := [(43, ck_R_token_0), (89, ck_R_token_1), (138, ck_R_token_2), (182, ck_R_token_3), (226, ck_R_token_4), (235, ck_R_token_5)]
def ck_R_repeated_0 : List (Nat × Nat × zx_I) := [(0, 1, (1, 0, 2, (.int 0), [])), (1, 1, (1, 1, 0, (.int 0), [])), (2, 3, (30, 268, 1, (.int 0), [(8, 151)])), (5, 1, (1, 0, 2, (.int 0), [])), (6, 3, (0, 0, 2, (.int 7092), [])), (9, 1, (1, 2, 0, (.int 0), [])), (10, 3, (30, 255, 2, (.int 0), [(8, 153)])), (13, 1, (2, 3, 0, (.int 0), [])), (14, 1, (1, 0, 2, (.int 0), [])), (15, 1, (1, 0, 2, (.int 0), [])), (16, 3, (7, 213, 0, (.int 0), [(8, 12)])), (19, 2, (0, 0, 1, (.int 7), [])), (21, 3, (20, 29, 3, (.int 0), [])), (24, 2, (0, 0, 1, (.int 8), [])), (26, 3, (6, 31, 0, (.int 0), [])), (29, 2, (0, 0, 1, (.int 11), [])), (31, 3, (8, 213, 0, (.int 0), [(8, 12)])), (34, 1, (1, 0, 2, (.int 0), [])), (35, 1, (1, 3, 0, (.int 0), [])), (36, 1, (0, 0, 0, (.int 4), [])), (37, 1, (1, 1, 0, (.int 0), [])), (38, 1, (4, 0, 0, (.int 0), [])), (39, 3, (30, 262, 2, (.int 0), [(8, 152)])), (42, 1, (40, 0, 0, (.int 0), []))]
abbrev ck_R_repeated : zx_K := [(43, ck_R_repeated_0)]
def ck_R_turn_0 : List (Nat × Nat × zx_I) := [(0, 1, (1, 1, 0, (.int 0), [])), (1, 3, (21, 11, 1, (.int 0), [])), (4, 1, (1, 0, 2, (.int 0), [])), (5, 3, (7, 216, 0, (.int 0), [(8, 13)])), (8, 3, (6, 39, 0, (.int 0), [])), (11, 1, (1, 1, 0, (.int 0), [])), (12, 1, (0, 0, 0, (.int 1), [])), (13, 3, (20, 23, 1, (.int 0), [])), (16, 1, (1, 0, 2, (.int 0), [])), (17, 3, (7, 219, 0, (.int 0), [(8, 14)])), (20, 3, (6, 39, 0, (.int 0), [])), (23, 1, (1, 1, 0, (.int 0), [])), (24, 1, (0, 0, 0, (.int 2), [])), (25, 3, (20, 35, 1, (.int 0), [])), (28, 1, (1, 0, 2, (.int 0), [])), (29, 3, (7, 222, 0, (.int 0), [(8, 15)])), (32, 3, (6, 39, 0, (.int 0), [])), (35, 1, (1, 0, 2, (.int 0), [])), (36, 3, (7, 225, 0, (.int 0), [(8, 16)])), (39, 1, (2, 2, 1, (.int 0), [])), (40, 1, (1, 0, 2, (.int 0), [])), (41, 1, (1, 1, 0, (.int 0), [])), (42, 1, (0, 0, 0, (.int 2), [])), (43, 3, (20, 53, 5, (.int 0), []))]
def ck_R_turn_1 : List (Nat × Nat × zx_I) := [(46, 1, (1, 0, 2, (.int 0), [])), (47, 3, (7, 222, 0, (.int 0), [(8, 15)])), (50, 3, (6, 57, 0, (.int 0), [])), (53, 1, (1, 0, 2, (.int 0), [])), (54, 3, (7, 225, 0, (.int 0), [(8, 16)])), (57, 3, (8, 225, 0, (.int 0), [(8, 16)])), (60, 1, (1, 0, 2, (.int 0), [])), (61, 1, (1, 1, 0, (.int 0), [])), (62, 1, (0, 0, 0, (.int 1), [])), (63, 3, (20, 73, 5, (.int 0), [])), (66, 1, (1, 0, 2, (.int 0), [])), (67, 3, (7, 219, 0, (.int 0), [(8, 14)])), (70, 3, (6, 77, 0, (.int 0), [])), (73, 1, (1, 0, 2, (.int 0), [])), (74, 3, (7, 222, 0, (.int 0), [(8, 15)])), (77, 3, (8, 222, 0, (.int 0), [(8, 15)])), (80, 1, (1, 0, 2, (.int 0), [])), (81, 1, (1, 1, 0, (.int 0), [])), (82, 3, (21, 92, 5, (.int 0), [])), (85, 1, (1, 0, 2, (.int 0), [])), (86, 3, (7, 216, 0, (.int 0), [(8, 13)])), (89, 3, (6, 96, 0, (.int 0), [])), (92, 1, (1, 0, 2, (.int 0), [])), (93, 3, (7, 219, 0, (.int 0), [(8, 14)]))]
def ck_R_turn_2 : List (Nat × Nat × zx_I) := [(96, 3, (8, 219, 0, (.int 0), [(8, 14)])), (99, 1, (1, 0, 2, (.int 0), [])), (100, 1, (1, 2, 1, (.int 0), [])), (101, 3, (8, 216, 0, (.int 0), [(8, 13)])), (104, 1, (40, 0, 0, (.int 0), []))]
abbrev ck_R_turn : zx_K := [(44, ck_R_turn_0), (94, ck_R_turn_1), (105, ck_R_turn_2)]
def ck_R_back_0 : List (Nat × Nat × zx_I) := [(0, 1, (1, 0, 2, (.int 0), [])), (1, 1, (1, 0, 2, (.int 0), [])), (2, 3, (7, 186, 0, (.int 0), [(8, 22)])), (5, 3, (21, 29, 1, (.int 0), [])), (8, 1, (1, 0, 2, (.int 0), [])), (9, 3, (7, 216, 0, (.int 0), [(8, 13)])), (12, 1, (1, 0, 2, (.int 0), [])), (13, 3, (30, 245, 0, (.int 0), [(8, 146)])), (16, 1, (5, 0, 0, (.int 0), [])), (17, 4, (22, 29, 4, (.int 0), [])), (21, 1, (1, 1, 0, (.int 0), [])), (22, 1, (1, 0, 2, (.int 0), [])), (23, 3, (7, 183, 0, (.int 0), [(8, 21)])), (26, 3, (20, 33, 5, (.int 0), [])), (29, 1, (0, 0, 0, (.int 1), [])), (30, 3, (6, 34, 0, (.int 0), [])), (33, 1, (0, 0, 0, (.int 0), [])), (34, 3, (8, 186, 0, (.int 0), [(8, 22)])), (37, 1, (0, 0, 0, (.int 0), [])), (38, 1, (2, 3, 0, (.int 0), [])), (39, 1, (1, 3, 0, (.int 0), [])), (40, 1, (1, 1, 0, (.int 0), [])), (41, 3, (20, 76, 3, (.int 0), [])), (44, 1, (1, 0, 2, (.int 0), []))]
def ck_R_back_1 : List (Nat × Nat × zx_I) := [(45, 3, (7, 186, 0, (.int 0), [(8, 22)])), (48, 3, (21, 76, 1, (.int 0), [])), (51, 1, (1, 0, 2, (.int 0), [])), (52, 1, (1, 0, 2, (.int 0), [])), (53, 3, (7, 16, 0, (.int 0), [(8, 4)])), (56, 1, (1, 0, 2, (.int 0), [])), (57, 3, (7, 68, 0, (.int 0), [(8, 5)])), (60, 1, (1, 0, 2, (.int 0), [])), (61, 3, (7, 216, 0, (.int 0), [(8, 13)])), (64, 1, (5, 0, 1, (.int 0), [])), (65, 1, (4, 0, 1, (.int 0), [])), (66, 1, (9, 0, 0, (.int 0), [])), (67, 3, (30, 271, 1, (.int 0), [(8, 148)])), (70, 3, (3, 3, 0, (.int 1), [])), (73, 3, (6, 39, 0, (.int 0), [])), (76, 1, (1, 0, 2, (.int 0), [])), (77, 3, (7, 47, 0, (.int 0), [(8, 41)])), (80, 1, (1, 2, 0, (.int 0), [])), (81, 1, (1, 0, 2, (.int 0), [])), (82, 3, (7, 186, 0, (.int 0), [(8, 22)])), (85, 3, (21, 97, 0, (.int 0), [])), (88, 1, (1, 0, 2, (.int 0), [])), (89, 3, (7, 47, 0, (.int 0), [(8, 41)])), (92, 1, (1, 2, 0, (.int 0), []))]
def ck_R_back_2 : List (Nat × Nat × zx_I) := [(93, 1, (9, 0, 0, (.int 0), [])), (94, 3, (6, 105, 0, (.int 0), [])), (97, 1, (1, 0, 2, (.int 0), [])), (98, 3, (7, 47, 0, (.int 0), [(8, 41)])), (101, 1, (1, 2, 0, (.int 0), [])), (102, 1, (9, 0, 0, (.int 0), [])), (103, 1, (0, 0, 0, (.int 1), [])), (104, 1, (4, 0, 0, (.int 0), [])), (105, 1, (10, 0, 0, (.int 0), [])), (106, 1, (40, 0, 0, (.int 0), []))]
abbrev ck_R_back : zx_K := [(45, ck_R_back_0), (93, ck_R_back_1), (107, ck_R_back_2)]
def ck_R_lengthTaken_0 : List (Nat × Nat × zx_I) := [(0, 1, (1, 0, 2, (.int 0), [])), (1, 1, (1, 1, 0, (.int 0), [])), (2, 3, (30, 242, 1, (.int 0), [(8, 141)])), (5, 3, (21, 24, 1, (.int 0), [])), (8, 1, (0, 0, 0, (.int 2), [])), (9, 1, (1, 0, 2, (.int 0), [])), (10, 1, (1, 1, 0, (.int 0), [])), (11, 1, (0, 0, 0, (.int 2), [])), (12, 1, (4, 0, 0, (.int 0), [])), (13, 2, (0, 0, 1, (.int 8), [])), (15, 1, (1, 2, 0, (.int 0), [])), (16, 1, (4, 0, 2, (.int 0), [])), (17, 1, (4, 0, 0, (.int 0), [])), (18, 1, (0, 0, 0, (.int 3), [])), (19, 3, (30, 274, 2, (.int 0), [(8, 144)])), (22, 1, (4, 0, 0, (.int 0), [])), (23, 1, (40, 0, 1, (.int 0), [])), (24, 1, (1, 0, 2, (.int 0), [])), (25, 1, (1, 1, 0, (.int 0), [])), (26, 1, (0, 0, 0, (.int 1), [])), (27, 1, (4, 0, 0, (.int 0), [])), (28, 3, (30, 242, 1, (.int 0), [(8, 141)])), (31, 3, (21, 53, 1, (.int 0), [])), (34, 2, (0, 0, 1, (.int 10), []))]
def ck_R_lengthTaken_1 : List (Nat × Nat × zx_I) := [(36, 1, (1, 0, 2, (.int 0), [])), (37, 1, (1, 1, 0, (.int 0), [])), (38, 3, (0, 0, 2, (.int 130), [])), (41, 1, (4, 0, 0, (.int 0), [])), (42, 2, (0, 0, 1, (.int 8), [])), (44, 1, (1, 2, 0, (.int 0), [])), (45, 1, (4, 0, 2, (.int 0), [])), (46, 1, (4, 0, 0, (.int 0), [])), (47, 1, (0, 0, 0, (.int 3), [])), (48, 3, (30, 274, 2, (.int 0), [(8, 144)])), (51, 1, (4, 0, 0, (.int 0), [])), (52, 1, (40, 0, 1, (.int 0), [])), (53, 2, (0, 0, 1, (.int 18), [])), (55, 1, (1, 0, 2, (.int 0), [])), (56, 1, (1, 1, 0, (.int 0), [])), (57, 3, (0, 0, 2, (.int 258), [])), (60, 1, (4, 0, 0, (.int 0), [])), (61, 2, (0, 0, 1, (.int 8), [])), (63, 3, (30, 274, 2, (.int 0), [(8, 144)])), (66, 1, (4, 0, 0, (.int 0), [])), (67, 1, (40, 0, 1, (.int 0), []))]
abbrev ck_R_lengthTaken : zx_K := [(35, ck_R_lengthTaken_0), (68, ck_R_lengthTaken_1)]
def ck_R_distance_0 : List (Nat × Nat × zx_I) := [(0, 1, (1, 0, 2, (.int 0), [])), (1, 3, (0, 0, 2, (.int 7608), [])), (4, 2, (0, 0, 1, (.int 64), [])), (6, 1, (1, 1, 0, (.int 0), [])), (7, 1, (0, 0, 0, (.int 5), [])), (8, 3, (20, 17, 3, (.int 0), [])), (11, 1, (1, 1, 0, (.int 0), [])), (12, 1, (0, 0, 0, (.int 2), [])), (13, 1, (4, 0, 1, (.int 0), [])), (14, 3, (6, 18, 0, (.int 0), [])), (17, 1, (0, 0, 0, (.int 3), [])), (18, 1, (4, 0, 2, (.int 0), [])), (19, 1, (4, 0, 0, (.int 0), [])), (20, 2, (0, 0, 1, (.int 6), [])), (22, 3, (30, 274, 2, (.int 0), [(8, 144)])), (25, 1, (2, 2, 0, (.int 0), [])), (26, 1, (1, 2, 0, (.int 0), [])), (27, 1, (0, 0, 0, (.int 4), [])), (28, 3, (20, 36, 3, (.int 0), [])), (31, 1, (1, 2, 0, (.int 0), [])), (32, 1, (5, 0, 0, (.int 0), [])), (33, 1, (0, 0, 4, (.long 1), [])), (34, 1, (4, 0, 10, (.int 0), [])), (35, 1, (40, 0, 2, (.int 0), []))]
def ck_R_distance_1 : List (Nat × Nat × zx_I) := [(36, 1, (1, 2, 0, (.int 0), [])), (37, 1, (0, 0, 0, (.int 2), [])), (38, 1, (4, 0, 3, (.int 0), [])), (39, 1, (0, 0, 0, (.int 1), [])), (40, 1, (4, 0, 1, (.int 0), [])), (41, 1, (2, 3, 0, (.int 0), [])), (42, 1, (1, 2, 0, (.int 0), [])), (43, 1, (0, 0, 0, (.int 2), [])), (44, 1, (4, 0, 4, (.int 0), [])), (45, 3, (21, 54, 1, (.int 0), [])), (48, 3, (0, 240, 5, (.long 2), [])), (51, 3, (6, 57, 0, (.int 0), [])), (54, 3, (0, 277, 5, (.long 3), [])), (57, 1, (1, 3, 0, (.int 0), [])), (58, 1, (4, 0, 17, (.int 0), [])), (59, 2, (2, 4, 1, (.int 0), [])), (61, 1, (1, 2, 0, (.int 0), [])), (62, 2, (0, 0, 1, (.int 14), [])), (64, 3, (20, 91, 3, (.int 0), [])), (67, 2, (1, 4, 1, (.int 0), [])), (69, 1, (0, 0, 4, (.long 1), [])), (70, 1, (4, 0, 10, (.int 0), [])), (71, 1, (1, 0, 2, (.int 0), [])), (72, 3, (0, 0, 2, (.int 7864), []))]
def ck_R_distance_2 : List (Nat × Nat × zx_I) := [(75, 2, (0, 0, 1, (.int 32), [])), (77, 1, (1, 2, 0, (.int 0), [])), (78, 1, (4, 0, 2, (.int 0), [])), (79, 1, (4, 0, 0, (.int 0), [])), (80, 3, (0, 0, 2, (.int 128), [])), (83, 1, (4, 0, 1, (.int 0), [])), (84, 1, (1, 3, 0, (.int 0), [])), (85, 3, (30, 279, 2, (.int 0), [(8, 145)])), (88, 1, (5, 0, 0, (.int 0), [])), (89, 1, (4, 0, 10, (.int 0), [])), (90, 1, (40, 0, 2, (.int 0), [])), (91, 1, (0, 0, 3, (.long 0), [])), (92, 2, (2, 6, 1, (.int 0), [])), (94, 1, (0, 0, 0, (.int 4), [])), (95, 2, (2, 8, 0, (.int 0), [])), (97, 2, (1, 8, 0, (.int 0), [])), (99, 1, (1, 3, 0, (.int 0), [])), (100, 3, (20, 123, 3, (.int 0), [])), (103, 3, (0, 240, 5, (.long 2), [])), (106, 2, (1, 6, 1, (.int 0), [])), (108, 1, (4, 0, 12, (.int 0), [])), (109, 1, (1, 0, 2, (.int 0), [])), (110, 3, (30, 282, 0, (.int 0), [(8, 143)])), (113, 1, (5, 0, 0, (.int 0), []))]
def ck_R_distance_3 : List (Nat × Nat × zx_I) := [(114, 1, (4, 0, 10, (.int 0), [])), (115, 2, (2, 6, 1, (.int 0), [])), (117, 3, (3, 8, 0, (.int 1), [])), (120, 3, (6, 97, 0, (.int 0), [])), (123, 2, (1, 4, 1, (.int 0), [])), (125, 1, (0, 0, 4, (.long 1), [])), (126, 1, (4, 0, 10, (.int 0), [])), (127, 3, (0, 285, 5, (.long 16), [])), (130, 2, (1, 6, 1, (.int 0), [])), (132, 1, (4, 0, 12, (.int 0), [])), (133, 1, (4, 0, 10, (.int 0), [])), (134, 1, (1, 0, 2, (.int 0), [])), (135, 3, (0, 0, 2, (.int 8312), [])), (138, 1, (0, 0, 0, (.int 4), [])), (139, 3, (30, 279, 2, (.int 0), [(8, 145)])), (142, 1, (5, 0, 0, (.int 0), [])), (143, 1, (4, 0, 10, (.int 0), [])), (144, 1, (40, 0, 2, (.int 0), []))]
abbrev ck_R_distance : zx_K := [(36, ck_R_distance_0), (73, ck_R_distance_1), (114, ck_R_distance_2), (145, ck_R_distance_3)]
def ck_R_context_0 : List (Nat × Nat × zx_I) := [(0, 1, (0, 0, 0, (.int 0), [])), (1, 3, (0, 0, 2, (.int 768), [])), (4, 1, (1, 1, 0, (.int 0), [])), (5, 1, (0, 0, 0, (.int 1), [])), (6, 1, (1, 0, 2, (.int 0), [])), (7, 3, (7, 159, 0, (.int 0), [(8, 10)])), (10, 1, (4, 0, 7, (.int 0), [])), (11, 1, (0, 0, 0, (.int 1), [])), (12, 1, (4, 0, 1, (.int 0), [])), (13, 1, (4, 0, 5, (.int 0), [])), (14, 1, (1, 0, 2, (.int 0), [])), (15, 3, (7, 156, 0, (.int 0), [(8, 9)])), (18, 1, (4, 0, 7, (.int 0), [])), (19, 1, (1, 2, 0, (.int 0), [])), (20, 2, (0, 0, 1, (.int 8), [])), (22, 1, (1, 0, 2, (.int 0), [])), (23, 3, (7, 156, 0, (.int 0), [(8, 9)])), (26, 1, (4, 0, 1, (.int 0), [])), (27, 1, (4, 0, 8, (.int 0), [])), (28, 1, (4, 0, 0, (.int 0), [])), (29, 1, (4, 0, 2, (.int 0), [])), (30, 1, (4, 0, 0, (.int 0), [])), (31, 1, (40, 0, 1, (.int 0), []))]
abbrev ck_R_context : zx_K := [(32, ck_R_context_0)]
def ck_R_after_0 : List (Nat × Nat × zx_I) := [(0, 1, (1, 0, 0, (.int 0), [])), (1, 1, (0, 0, 0, (.int 4), [])), (2, 3, (20, 9, 3, (.int 0), [])), (5, 1, (0, 0, 0, (.int 0), [])), (6, 3, (6, 25, 0, (.int 0), [])), (9, 1, (1, 0, 0, (.int 0), [])), (10, 2, (0, 0, 1, (.int 10), [])), (12, 3, (20, 21, 3, (.int 0), [])), (15, 1, (1, 0, 0, (.int 0), [])), (16, 1, (0, 0, 0, (.int 3), [])), (17, 1, (4, 0, 1, (.int 0), [])), (18, 3, (6, 25, 0, (.int 0), [])), (21, 1, (1, 0, 0, (.int 0), [])), (22, 2, (0, 0, 1, (.int 6), [])), (24, 1, (4, 0, 1, (.int 0), [])), (25, 1, (40, 0, 1, (.int 0), []))]
abbrev ck_R_after : zx_K := [(26, ck_R_after_0)]
def ck_R_literal_0 : List (Nat × Nat × zx_I) := [(0, 1, (1, 0, 2, (.int 0), [])), (1, 3, (30, 245, 0, (.int 0), [(8, 146)])), (4, 1, (2, 1, 0, (.int 0), [])), (5, 1, (1, 0, 2, (.int 0), [])), (6, 1, (1, 1, 0, (.int 0), [])), (7, 1, (1, 1, 0, (.int 0), [])), (8, 3, (21, 15, 1, (.int 0), [])), (11, 1, (0, 0, 0, (.int 0), [])), (12, 3, (6, 26, 0, (.int 0), [])), (15, 1, (1, 0, 2, (.int 0), [])), (16, 3, (7, 16, 0, (.int 0), [(8, 4)])), (19, 1, (1, 0, 2, (.int 0), [])), (20, 3, (7, 68, 0, (.int 0), [(8, 5)])), (23, 1, (0, 0, 0, (.int 1), [])), (24, 1, (4, 0, 1, (.int 0), [])), (25, 1, (9, 0, 0, (.int 0), [])), (26, 3, (30, 287, 2, (.int 0), [(8, 155)])), (29, 1, (2, 2, 0, (.int 0), [])), (30, 1, (1, 0, 2, (.int 0), [])), (31, 3, (7, 213, 0, (.int 0), [(8, 12)])), (34, 2, (0, 0, 1, (.int 6), [])), (36, 3, (20, 50, 5, (.int 0), [])), (39, 1, (1, 0, 2, (.int 0), [])), (40, 3, (7, 186, 0, (.int 0), [(8, 22)]))]
def ck_R_literal_1 : List (Nat × Nat × zx_I) := [(43, 3, (21, 50, 1, (.int 0), [])), (46, 1, (0, 0, 0, (.int 1), [])), (47, 3, (6, 51, 0, (.int 0), [])), (50, 1, (0, 0, 0, (.int 0), [])), (51, 1, (2, 3, 0, (.int 0), [])), (52, 1, (1, 3, 0, (.int 0), [])), (53, 3, (21, 74, 0, (.int 0), [])), (56, 1, (1, 0, 2, (.int 0), [])), (57, 3, (7, 16, 0, (.int 0), [(8, 4)])), (60, 1, (1, 0, 2, (.int 0), [])), (61, 3, (7, 68, 0, (.int 0), [(8, 5)])), (64, 1, (1, 0, 2, (.int 0), [])), (65, 3, (7, 216, 0, (.int 0), [(8, 13)])), (68, 1, (5, 0, 1, (.int 0), [])), (69, 1, (4, 0, 1, (.int 0), [])), (70, 1, (9, 0, 0, (.int 0), [])), (71, 3, (6, 75, 0, (.int 0), [])), (74, 1, (0, 0, 0, (.int 0), [])), (75, 2, (2, 4, 0, (.int 0), [])), (77, 1, (0, 0, 0, (.int 1), [])), (78, 2, (2, 5, 0, (.int 0), [])), (80, 2, (0, 0, 1, (.int 7), [])), (82, 2, (2, 6, 0, (.int 0), [])), (84, 2, (1, 6, 0, (.int 0), []))]
def ck_R_literal_2 : List (Nat × Nat × zx_I) := [(86, 3, (21, 162, 2, (.int 0), [])), (89, 2, (1, 4, 0, (.int 0), [])), (91, 2, (1, 6, 0, (.int 0), [])), (93, 1, (4, 0, 8, (.int 0), [])), (94, 1, (0, 0, 0, (.int 1), [])), (95, 1, (4, 0, 5, (.int 0), [])), (96, 2, (2, 7, 0, (.int 0), [])), (98, 1, (1, 0, 2, (.int 0), [])), (99, 1, (1, 3, 0, (.int 0), [])), (100, 3, (21, 121, 0, (.int 0), [])), (103, 1, (1, 2, 0, (.int 0), [])), (104, 3, (0, 0, 2, (.int 256), [])), (107, 1, (4, 0, 0, (.int 0), [])), (108, 3, (0, 0, 2, (.int 256), [])), (111, 2, (1, 7, 0, (.int 0), [])), (113, 1, (4, 0, 2, (.int 0), [])), (114, 1, (4, 0, 0, (.int 0), [])), (115, 2, (1, 5, 0, (.int 0), [])), (117, 1, (4, 0, 0, (.int 0), [])), (118, 3, (6, 125, 0, (.int 0), [])), (121, 1, (1, 2, 0, (.int 0), [])), (122, 2, (1, 5, 0, (.int 0), [])), (124, 1, (4, 0, 0, (.int 0), [])), (125, 3, (30, 242, 1, (.int 0), [(8, 141)]))]
def ck_R_literal_3 : List (Nat × Nat × zx_I) := [(128, 2, (2, 8, 0, (.int 0), [])), (130, 1, (0, 0, 0, (.int 2), [])), (131, 2, (1, 5, 0, (.int 0), [])), (133, 1, (4, 0, 2, (.int 0), [])), (134, 2, (1, 8, 0, (.int 0), [])), (136, 1, (4, 0, 0, (.int 0), [])), (137, 2, (2, 5, 0, (.int 0), [])), (139, 1, (1, 3, 0, (.int 0), [])), (140, 3, (21, 154, 0, (.int 0), [])), (143, 2, (1, 8, 0, (.int 0), [])), (145, 2, (1, 7, 0, (.int 0), [])), (147, 3, (20, 154, 1, (.int 0), [])), (150, 1, (0, 0, 0, (.int 1), [])), (151, 3, (6, 155, 0, (.int 0), [])), (154, 1, (0, 0, 0, (.int 0), [])), (155, 1, (2, 3, 0, (.int 0), [])), (156, 3, (3, 6, 0, (.int (-1)), [])), (159, 3, (6, 84, 0, (.int 0), [])), (162, 1, (1, 0, 2, (.int 0), [])), (163, 3, (7, 186, 0, (.int 0), [(8, 22)])), (166, 3, (21, 200, 1, (.int 0), [])), (169, 1, (1, 0, 2, (.int 0), [])), (170, 2, (1, 5, 0, (.int 0), [])), (172, 3, (0, 0, 2, (.int 255), []))]
def ck_R_literal_4 : List (Nat × Nat × zx_I) := [(175, 1, (4, 0, 5, (.int 0), [])), (176, 3, (30, 271, 1, (.int 0), [(8, 148)])), (179, 1, (1, 0, 2, (.int 0), [])), (180, 1, (1, 0, 2, (.int 0), [])), (181, 3, (7, 213, 0, (.int 0), [(8, 12)])), (184, 3, (31, 290, 1, (.int 0), [(0, 156)])), (187, 3, (8, 213, 0, (.int 0), [(8, 12)])), (190, 1, (1, 0, 2, (.int 0), [])), (191, 3, (7, 47, 0, (.int 0), [(8, 41)])), (194, 1, (0, 0, 0, (.int 1), [])), (195, 1, (13, 0, 0, (.int 0), [])), (196, 1, (9, 0, 0, (.int 0), [])), (197, 1, (0, 0, 0, (.int 1), [])), (198, 1, (4, 0, 0, (.int 0), [])), (199, 1, (10, 0, 0, (.int 0), [])), (200, 1, (40, 0, 0, (.int 0), []))]
abbrev ck_R_literal : zx_K := [(41, ck_R_literal_0), (85, ck_R_literal_1), (126, ck_R_literal_2), (173, ck_R_literal_3), (201, ck_R_literal_4)]
def ck_R_shiftOut_0 : List (Nat × Nat × zx_I) := [(0, 1, (1, 0, 2, (.int 0), [])), (1, 3, (7, 171, 0, (.int 0), [(8, 17)])), (4, 3, (0, 228, 5, (.long 16777216), [])), (7, 4, (22, 12, 2, (.int 0), [])), (11, 1, (40, 0, 0, (.int 0), [])), (12, 1, (1, 0, 2, (.int 0), [])), (13, 1, (1, 0, 2, (.int 0), [])), (14, 3, (7, 171, 0, (.int 0), [(8, 17)])), (17, 3, (0, 230, 5, (.long 256), [])), (20, 1, (4, 0, 12, (.int 0), [])), (21, 3, (8, 171, 0, (.int 0), [(8, 17)])), (24, 1, (1, 0, 2, (.int 0), [])), (25, 1, (1, 0, 2, (.int 0), [])), (26, 3, (7, 293, 0, (.int 0), [(8, 27)])), (29, 3, (21, 45, 1, (.int 0), [])), (32, 1, (1, 0, 2, (.int 0), [])), (33, 3, (7, 296, 0, (.int 0), [(8, 25)])), (36, 1, (0, 0, 0, (.int 1), [])), (37, 1, (4, 0, 0, (.int 0), [])), (38, 1, (1, 0, 2, (.int 0), [])), (39, 3, (7, 299, 0, (.int 0), [(8, 26)])), (42, 3, (20, 49, 2, (.int 0), [])), (45, 1, (0, 0, 0, (.int 1), [])), (46, 3, (6, 50, 0, (.int 0), []))]
def ck_R_shiftOut_1 : List (Nat × Nat × zx_I) := [(49, 1, (0, 0, 0, (.int 0), [])), (50, 3, (8, 293, 0, (.int 0), [(8, 27)])), (53, 1, (1, 0, 2, (.int 0), [])), (54, 3, (7, 293, 0, (.int 0), [(8, 27)])), (57, 3, (21, 80, 1, (.int 0), [])), (60, 1, (1, 0, 2, (.int 0), [])), (61, 3, (7, 25, 0, (.int 0), [(8, 24)])), (64, 1, (1, 0, 2, (.int 0), [])), (65, 3, (7, 296, 0, (.int 0), [(8, 25)])), (68, 1, (0, 0, 0, (.int 0), [])), (69, 1, (10, 0, 0, (.int 0), [])), (70, 1, (1, 0, 2, (.int 0), [])), (71, 1, (12, 0, 0, (.int 0), [])), (72, 3, (7, 296, 0, (.int 0), [(8, 25)])), (75, 1, (0, 0, 0, (.int 1), [])), (76, 1, (4, 0, 0, (.int 0), [])), (77, 3, (8, 296, 0, (.int 0), [(8, 25)])), (80, 1, (40, 0, 0, (.int 0), []))]
abbrev ck_R_shiftOut : zx_K := [(47, ck_R_shiftOut_0), (81, ck_R_shiftOut_1)]
def ck_R_grow_0 : List (Nat × Nat × zx_I) := [(0, 1, (1, 1, 1, (.int 0), [])), (1, 1, (2, 3, 1, (.int 0), [])), (2, 1, (1, 0, 2, (.int 0), [])), (3, 3, (7, 296, 0, (.int 0), [(8, 25)])), (6, 1, (0, 0, 0, (.int 1), [])), (7, 1, (4, 0, 1, (.int 0), [])), (8, 2, (2, 5, 0, (.int 0), [])), (10, 2, (1, 5, 0, (.int 0), [])), (12, 3, (21, 63, 2, (.int 0), [])), (15, 1, (1, 3, 1, (.int 0), [])), (16, 1, (0, 0, 3, (.long 0), [])), (17, 4, (22, 63, 5, (.int 0), [])), (21, 1, (1, 0, 2, (.int 0), [])), (22, 3, (7, 293, 0, (.int 0), [(8, 27)])), (25, 3, (21, 63, 1, (.int 0), [])), (28, 1, (1, 3, 1, (.int 0), [])), (29, 1, (1, 0, 2, (.int 0), [])), (30, 3, (7, 25, 0, (.int 0), [(8, 24)])), (33, 2, (1, 5, 0, (.int 0), [])), (35, 1, (9, 0, 0, (.int 0), [])), (36, 1, (5, 0, 0, (.int 0), [])), (37, 1, (4, 0, 10, (.int 0), [])), (38, 1, (2, 3, 1, (.int 0), [])), (39, 1, (1, 0, 2, (.int 0), []))]
def ck_R_grow_1 : List (Nat × Nat × zx_I) := [(40, 3, (7, 25, 0, (.int 0), [(8, 24)])), (43, 2, (1, 5, 0, (.int 0), [])), (45, 1, (1, 3, 1, (.int 0), [])), (46, 3, (0, 56, 5, (.long 255), [])), (49, 1, (4, 0, 14, (.int 0), [])), (50, 1, (5, 0, 1, (.int 0), [])), (51, 1, (10, 0, 0, (.int 0), [])), (52, 1, (1, 3, 1, (.int 0), [])), (53, 2, (0, 0, 1, (.int 8), [])), (55, 1, (4, 0, 18, (.int 0), [])), (56, 1, (2, 3, 1, (.int 0), [])), (57, 3, (3, 5, 0, (.int (-1)), [])), (60, 3, (6, 10, 0, (.int 0), [])), (63, 1, (40, 0, 0, (.int 0), []))]
abbrev ck_R_grow : zx_K := [(40, ck_R_grow_0), (64, ck_R_grow_1)]
def ck_R_put_0 : List (Nat × Nat × zx_I) := [(0, 1, (1, 0, 2, (.int 0), [])), (1, 3, (30, 302, 0, (.int 0), [(8, 158)])), (4, 1, (1, 0, 2, (.int 0), [])), (5, 3, (7, 171, 0, (.int 0), [(8, 17)])), (8, 3, (0, 232, 5, (.long 2048), [])), (11, 1, (4, 0, 13, (.int 0), [])), (12, 1, (1, 0, 2, (.int 0), [])), (13, 3, (7, 22, 0, (.int 0), [(8, 8)])), (16, 1, (1, 1, 0, (.int 0), [])), (17, 1, (9, 0, 0, (.int 0), [])), (18, 1, (5, 0, 0, (.int 0), [])), (19, 1, (4, 0, 12, (.int 0), [])), (20, 1, (2, 3, 1, (.int 0), [])), (21, 1, (1, 0, 2, (.int 0), [])), (22, 1, (1, 1, 0, (.int 0), [])), (23, 1, (1, 2, 0, (.int 0), [])), (24, 1, (0, 0, 0, (.int 1), [])), (25, 3, (20, 32, 1, (.int 0), [])), (28, 1, (0, 0, 0, (.int 1), [])), (29, 3, (6, 33, 0, (.int 0), [])), (32, 1, (0, 0, 0, (.int 0), [])), (33, 3, (30, 234, 2, (.int 0), [(8, 142)])), (36, 1, (1, 2, 0, (.int 0), [])), (37, 1, (0, 0, 0, (.int 1), []))]
def ck_R_put_1 : List (Nat × Nat × zx_I) := [(38, 3, (20, 46, 1, (.int 0), [])), (41, 1, (1, 0, 2, (.int 0), [])), (42, 1, (1, 3, 1, (.int 0), [])), (43, 3, (30, 305, 1, (.int 0), [(8, 159)])), (46, 1, (1, 0, 2, (.int 0), [])), (47, 1, (1, 2, 0, (.int 0), [])), (48, 1, (0, 0, 0, (.int 1), [])), (49, 3, (20, 61, 1, (.int 0), [])), (52, 1, (1, 0, 2, (.int 0), [])), (53, 3, (7, 171, 0, (.int 0), [(8, 17)])), (56, 1, (1, 3, 1, (.int 0), [])), (57, 1, (4, 0, 11, (.int 0), [])), (58, 3, (6, 62, 0, (.int 0), [])), (61, 1, (1, 3, 1, (.int 0), [])), (62, 3, (8, 171, 0, (.int 0), [(8, 17)])), (65, 1, (40, 0, 0, (.int 0), []))]
abbrev ck_R_put : zx_K := [(38, ck_R_put_0), (66, ck_R_put_1)]
def ck_R_putEven_0 : List (Nat × Nat × zx_I) := [(0, 1, (1, 0, 2, (.int 0), [])), (1, 3, (30, 302, 0, (.int 0), [(8, 158)])), (4, 1, (1, 0, 2, (.int 0), [])), (5, 1, (1, 0, 2, (.int 0), [])), (6, 3, (7, 171, 0, (.int 0), [(8, 17)])), (9, 3, (0, 240, 5, (.long 2), [])), (12, 1, (4, 0, 13, (.int 0), [])), (13, 3, (8, 171, 0, (.int 0), [(8, 17)])), (16, 1, (1, 1, 0, (.int 0), [])), (17, 1, (0, 0, 0, (.int 1), [])), (18, 3, (20, 29, 1, (.int 0), [])), (21, 1, (1, 0, 2, (.int 0), [])), (22, 1, (1, 0, 2, (.int 0), [])), (23, 3, (7, 171, 0, (.int 0), [(8, 17)])), (26, 3, (30, 305, 1, (.int 0), [(8, 159)])), (29, 1, (40, 0, 0, (.int 0), []))]
abbrev ck_R_putEven : zx_K := [(30, ck_R_putEven_0)]
def ck_R_putTree_0 : List (Nat × Nat × zx_I) := [(0, 1, (0, 0, 0, (.int 1), [])), (1, 2, (2, 4, 0, (.int 0), [])), (3, 1, (1, 2, 0, (.int 0), [])), (4, 1, (0, 0, 0, (.int 1), [])), (5, 1, (4, 0, 1, (.int 0), [])), (6, 2, (2, 5, 0, (.int 0), [])), (8, 2, (1, 5, 0, (.int 0), [])), (10, 3, (21, 46, 2, (.int 0), [])), (13, 1, (1, 0, 2, (.int 0), [])), (14, 1, (1, 1, 0, (.int 0), [])), (15, 2, (1, 4, 0, (.int 0), [])), (17, 1, (4, 0, 0, (.int 0), [])), (18, 1, (1, 3, 0, (.int 0), [])), (19, 2, (1, 5, 0, (.int 0), [])), (21, 1, (4, 0, 8, (.int 0), [])), (22, 1, (0, 0, 0, (.int 1), [])), (23, 1, (4, 0, 5, (.int 0), [])), (24, 3, (30, 309, 2, (.int 0), [(8, 160)])), (27, 1, (0, 0, 0, (.int 2), [])), (28, 2, (1, 4, 0, (.int 0), [])), (30, 1, (4, 0, 2, (.int 0), [])), (31, 1, (1, 3, 0, (.int 0), [])), (32, 2, (1, 5, 0, (.int 0), [])), (34, 1, (4, 0, 8, (.int 0), []))]
def ck_R_putTree_1 : List (Nat × Nat × zx_I) := [(35, 1, (0, 0, 0, (.int 1), [])), (36, 1, (4, 0, 5, (.int 0), [])), (37, 1, (4, 0, 0, (.int 0), [])), (38, 2, (2, 4, 0, (.int 0), [])), (40, 3, (3, 5, 0, (.int (-1)), [])), (43, 3, (6, 8, 0, (.int 0), [])), (46, 1, (40, 0, 0, (.int 0), []))]
abbrev ck_R_putTree : zx_K := [(35, ck_R_putTree_0), (47, ck_R_putTree_1)]
def ck_R_putBackwards_0 : List (Nat × Nat × zx_I) := [(0, 1, (0, 0, 0, (.int 1), [])), (1, 2, (2, 4, 0, (.int 0), [])), (3, 1, (0, 0, 0, (.int 0), [])), (4, 2, (2, 5, 0, (.int 0), [])), (6, 2, (1, 5, 0, (.int 0), [])), (8, 1, (1, 2, 0, (.int 0), [])), (9, 3, (20, 45, 3, (.int 0), [])), (12, 1, (1, 0, 2, (.int 0), [])), (13, 1, (1, 1, 0, (.int 0), [])), (14, 2, (1, 4, 0, (.int 0), [])), (16, 1, (4, 0, 0, (.int 0), [])), (17, 1, (1, 3, 0, (.int 0), [])), (18, 2, (1, 5, 0, (.int 0), [])), (20, 1, (4, 0, 8, (.int 0), [])), (21, 1, (0, 0, 0, (.int 1), [])), (22, 1, (4, 0, 5, (.int 0), [])), (23, 3, (30, 309, 2, (.int 0), [(8, 160)])), (26, 1, (0, 0, 0, (.int 2), [])), (27, 2, (1, 4, 0, (.int 0), [])), (29, 1, (4, 0, 2, (.int 0), [])), (30, 1, (1, 3, 0, (.int 0), [])), (31, 2, (1, 5, 0, (.int 0), [])), (33, 1, (4, 0, 8, (.int 0), [])), (34, 1, (0, 0, 0, (.int 1), []))]
def ck_R_putBackwards_1 : List (Nat × Nat × zx_I) := [(35, 1, (4, 0, 5, (.int 0), [])), (36, 1, (4, 0, 0, (.int 0), [])), (37, 2, (2, 4, 0, (.int 0), [])), (39, 3, (3, 5, 0, (.int 1), [])), (42, 3, (6, 6, 0, (.int 0), [])), (45, 1, (40, 0, 0, (.int 0), []))]
abbrev ck_R_putBackwards : zx_K := [(35, ck_R_putBackwards_0), (46, ck_R_putBackwards_1)]
def ck_R_alike_0 : List (Nat × Nat × zx_I) := [(0, 1, (0, 0, 0, (.int 0), [])), (1, 2, (2, 5, 0, (.int 0), [])), (3, 1, (1, 2, 1, (.int 0), [])), (4, 1, (1, 1, 0, (.int 0), [])), (5, 1, (5, 0, 0, (.int 0), [])), (6, 4, (22, 47, 4, (.int 0), [])), (10, 2, (1, 5, 0, (.int 0), [])), (12, 2, (1, 4, 0, (.int 0), [])), (14, 3, (20, 47, 3, (.int 0), [])), (17, 1, (1, 0, 2, (.int 0), [])), (18, 3, (7, 7, 0, (.int 0), [(8, 0)])), (21, 1, (1, 1, 0, (.int 0), [])), (22, 2, (1, 5, 0, (.int 0), [])), (24, 1, (4, 0, 0, (.int 0), [])), (25, 1, (9, 0, 0, (.int 0), [])), (26, 1, (1, 0, 2, (.int 0), [])), (27, 3, (7, 7, 0, (.int 0), [(8, 0)])), (30, 1, (1, 1, 0, (.int 0), [])), (31, 2, (1, 5, 0, (.int 0), [])), (33, 1, (4, 0, 0, (.int 0), [])), (34, 1, (1, 2, 1, (.int 0), [])), (35, 1, (5, 0, 1, (.int 0), [])), (36, 1, (4, 0, 1, (.int 0), [])), (37, 1, (9, 0, 0, (.int 0), []))]
def ck_R_alike_1 : List (Nat × Nat × zx_I) := [(38, 3, (20, 47, 1, (.int 0), [])), (41, 3, (3, 5, 0, (.int 1), [])), (44, 3, (6, 3, 0, (.int 0), [])), (47, 2, (1, 5, 0, (.int 0), [])), (49, 1, (40, 0, 1, (.int 0), []))]
abbrev ck_R_alike : zx_K := [(38, ck_R_alike_0), (50, ck_R_alike_1)]
def ck_R_distanceOf_0 : List (Nat × Nat × zx_I) := [(0, 1, (1, 1, 0, (.int 0), [])), (1, 3, (21, 11, 1, (.int 0), [])), (4, 1, (1, 0, 2, (.int 0), [])), (5, 3, (7, 216, 0, (.int 0), [(8, 13)])), (8, 3, (6, 39, 0, (.int 0), [])), (11, 1, (1, 1, 0, (.int 0), [])), (12, 1, (0, 0, 0, (.int 1), [])), (13, 3, (20, 23, 1, (.int 0), [])), (16, 1, (1, 0, 2, (.int 0), [])), (17, 3, (7, 219, 0, (.int 0), [(8, 14)])), (20, 3, (6, 39, 0, (.int 0), [])), (23, 1, (1, 1, 0, (.int 0), [])), (24, 1, (0, 0, 0, (.int 2), [])), (25, 3, (20, 35, 1, (.int 0), [])), (28, 1, (1, 0, 2, (.int 0), [])), (29, 3, (7, 222, 0, (.int 0), [(8, 15)])), (32, 3, (6, 39, 0, (.int 0), [])), (35, 1, (1, 0, 2, (.int 0), [])), (36, 3, (7, 225, 0, (.int 0), [(8, 16)])), (39, 1, (40, 0, 2, (.int 0), []))]
abbrev ck_R_distanceOf : zx_K := [(40, ck_R_distanceOf_0)]
def ck_R_putToken_0 : List (Nat × Nat × zx_I) := [(0, 1, (1, 2, 0, (.int 0), [])), (1, 3, (0, 0, 2, (.int 273), [])), (4, 3, (20, 11, 3, (.int 0), [])), (7, 1, (1, 2, 0, (.int 0), [])), (8, 3, (6, 14, 0, (.int 0), [])), (11, 3, (0, 0, 2, (.int 273), [])), (14, 1, (2, 3, 0, (.int 0), [])), (15, 1, (0, 0, 0, (.int 0), [])), (16, 2, (2, 4, 0, (.int 0), [])), (18, 1, (0, 0, 0, (.int 0), [])), (19, 2, (2, 5, 0, (.int 0), [])), (21, 1, (0, 0, 0, (.int 1), [])), (22, 2, (2, 6, 0, (.int 0), [])), (24, 2, (1, 6, 0, (.int 0), [])), (26, 1, (1, 1, 0, (.int 0), [])), (27, 3, (20, 79, 4, (.int 0), [])), (30, 1, (1, 0, 2, (.int 0), [])), (31, 1, (1, 1, 0, (.int 0), [])), (32, 2, (1, 6, 0, (.int 0), [])), (34, 1, (5, 0, 0, (.int 0), [])), (35, 1, (1, 3, 0, (.int 0), [])), (36, 3, (30, 312, 3, (.int 0), [(8, 164)])), (39, 2, (2, 7, 0, (.int 0), [])), (41, 2, (1, 7, 0, (.int 0), []))]
def ck_R_putToken_1 : List (Nat × Nat × zx_I) := [(43, 2, (1, 4, 0, (.int 0), [])), (45, 3, (20, 53, 5, (.int 0), [])), (48, 2, (1, 6, 0, (.int 0), [])), (50, 3, (6, 55, 0, (.int 0), [])), (53, 2, (1, 5, 0, (.int 0), [])), (55, 2, (2, 5, 0, (.int 0), [])), (57, 2, (1, 7, 0, (.int 0), [])), (59, 2, (1, 4, 0, (.int 0), [])), (61, 3, (20, 69, 5, (.int 0), [])), (64, 2, (1, 7, 0, (.int 0), [])), (66, 3, (6, 71, 0, (.int 0), [])), (69, 2, (1, 4, 0, (.int 0), [])), (71, 2, (2, 4, 0, (.int 0), [])), (73, 3, (3, 6, 0, (.int 1), [])), (76, 3, (6, 24, 0, (.int 0), [])), (79, 1, (0, 0, 0, (.int 0), [])), (80, 2, (2, 6, 0, (.int 0), [])), (82, 1, (0, 0, 0, (.int 1), [])), (83, 2, (2, 7, 0, (.int 0), [])), (85, 2, (1, 7, 0, (.int 0), [])), (87, 1, (0, 0, 0, (.int 4), [])), (88, 3, (20, 133, 3, (.int 0), [])), (91, 1, (1, 0, 2, (.int 0), [])), (92, 1, (1, 1, 0, (.int 0), []))]
def ck_R_putToken_2 : List (Nat × Nat × zx_I) := [(93, 1, (1, 0, 2, (.int 0), [])), (94, 2, (1, 7, 0, (.int 0), [])), (96, 3, (30, 316, 1, (.int 0), [(8, 165)])), (99, 1, (1, 3, 0, (.int 0), [])), (100, 3, (30, 312, 3, (.int 0), [(8, 164)])), (103, 1, (1, 0, 2, (.int 0), [])), (104, 1, (1, 1, 0, (.int 0), [])), (105, 1, (1, 0, 2, (.int 0), [])), (106, 2, (1, 6, 0, (.int 0), [])), (108, 3, (30, 316, 1, (.int 0), [(8, 165)])), (111, 1, (1, 3, 0, (.int 0), [])), (112, 3, (30, 312, 3, (.int 0), [(8, 164)])), (115, 3, (20, 123, 5, (.int 0), [])), (118, 2, (1, 7, 0, (.int 0), [])), (120, 3, (6, 125, 0, (.int 0), [])), (123, 2, (1, 6, 0, (.int 0), [])), (125, 2, (2, 6, 0, (.int 0), [])), (127, 3, (3, 7, 0, (.int 1), [])), (130, 3, (6, 85, 0, (.int 0), [])), (133, 1, (1, 0, 2, (.int 0), [])), (134, 1, (1, 1, 0, (.int 0), [])), (135, 1, (1, 0, 2, (.int 0), [])), (136, 2, (1, 6, 0, (.int 0), [])), (138, 3, (30, 316, 1, (.int 0), [(8, 165)]))]
def ck_R_putToken_3 : List (Nat × Nat × zx_I) := [(141, 1, (1, 3, 0, (.int 0), [])), (142, 3, (30, 312, 3, (.int 0), [(8, 164)])), (145, 2, (2, 7, 0, (.int 0), [])), (147, 1, (1, 0, 2, (.int 0), [])), (148, 1, (1, 1, 0, (.int 0), [])), (149, 3, (30, 249, 1, (.int 0), [(8, 147)])), (152, 2, (2, 8, 0, (.int 0), [])), (154, 2, (1, 7, 0, (.int 0), [])), (156, 1, (0, 0, 0, (.int 1), [])), (157, 3, (20, 182, 5, (.int 0), [])), (160, 2, (1, 7, 0, (.int 0), [])), (162, 1, (0, 0, 0, (.int 1), [])), (163, 1, (4, 0, 0, (.int 0), [])), (164, 2, (1, 4, 0, (.int 0), [])), (166, 3, (20, 182, 2, (.int 0), [])), (169, 1, (1, 0, 2, (.int 0), [])), (170, 2, (1, 6, 0, (.int 0), [])), (172, 2, (1, 7, 0, (.int 0), [])), (174, 2, (1, 8, 0, (.int 0), [])), (176, 3, (30, 319, 3, (.int 0), [(8, 167)])), (179, 2, (1, 7, 0, (.int 0), [])), (181, 1, (40, 0, 1, (.int 0), [])), (182, 2, (1, 4, 0, (.int 0), [])), (184, 1, (0, 0, 0, (.int 2), []))]
def ck_R_putToken_4 : List (Nat × Nat × zx_I) := [(185, 3, (20, 202, 4, (.int 0), [])), (188, 2, (1, 4, 0, (.int 0), [])), (190, 1, (0, 0, 0, (.int 2), [])), (191, 3, (20, 215, 1, (.int 0), [])), (194, 2, (1, 5, 0, (.int 0), [])), (196, 3, (0, 0, 2, (.int 128), [])), (199, 3, (20, 215, 4, (.int 0), [])), (202, 1, (1, 0, 2, (.int 0), [])), (203, 2, (1, 5, 0, (.int 0), [])), (205, 2, (1, 4, 0, (.int 0), [])), (207, 2, (1, 8, 0, (.int 0), [])), (209, 3, (30, 322, 3, (.int 0), [(8, 168)])), (212, 2, (1, 4, 0, (.int 0), [])), (214, 1, (40, 0, 1, (.int 0), [])), (215, 1, (1, 0, 2, (.int 0), [])), (216, 1, (1, 1, 0, (.int 0), [])), (217, 1, (1, 0, 2, (.int 0), [])), (218, 3, (7, 216, 0, (.int 0), [(8, 13)])), (221, 1, (1, 3, 0, (.int 0), [])), (222, 3, (30, 312, 3, (.int 0), [(8, 164)])), (225, 1, (0, 0, 0, (.int 1), [])), (226, 3, (20, 315, 1, (.int 0), [])), (229, 1, (1, 0, 2, (.int 0), [])), (230, 3, (0, 0, 2, (.int 6144), []))]
def ck_R_putToken_5 : List (Nat × Nat × zx_I) := [(233, 2, (0, 0, 1, (.int 16), [])), (235, 1, (1, 0, 2, (.int 0), [])), (236, 3, (7, 213, 0, (.int 0), [(8, 12)])), (239, 1, (4, 0, 2, (.int 0), [])), (240, 1, (4, 0, 0, (.int 0), [])), (241, 2, (1, 8, 0, (.int 0), [])), (243, 1, (4, 0, 0, (.int 0), [])), (244, 1, (0, 0, 0, (.int 1), [])), (245, 3, (30, 309, 2, (.int 0), [(8, 160)])), (248, 1, (1, 0, 2, (.int 0), [])), (249, 3, (0, 0, 2, (.int 6528), [])), (252, 1, (1, 0, 2, (.int 0), [])), (253, 3, (7, 213, 0, (.int 0), [(8, 12)])), (256, 1, (4, 0, 0, (.int 0), [])), (257, 1, (0, 0, 0, (.int 1), [])), (258, 3, (30, 309, 2, (.int 0), [(8, 160)])), (261, 1, (1, 0, 2, (.int 0), [])), (262, 3, (0, 0, 2, (.int 6540), [])), (265, 1, (1, 0, 2, (.int 0), [])), (266, 3, (7, 213, 0, (.int 0), [(8, 12)])), (269, 1, (4, 0, 0, (.int 0), [])), (270, 1, (0, 0, 0, (.int 0), [])), (271, 3, (30, 309, 2, (.int 0), [(8, 160)])), (274, 1, (1, 0, 2, (.int 0), []))]
def ck_R_putToken_6 : List (Nat × Nat × zx_I) := [(275, 3, (0, 0, 2, (.int 6336), [])), (278, 2, (0, 0, 1, (.int 16), [])), (280, 1, (1, 0, 2, (.int 0), [])), (281, 3, (7, 213, 0, (.int 0), [(8, 12)])), (284, 1, (4, 0, 2, (.int 0), [])), (285, 1, (4, 0, 0, (.int 0), [])), (286, 2, (1, 8, 0, (.int 0), [])), (288, 1, (4, 0, 0, (.int 0), [])), (289, 1, (0, 0, 0, (.int 0), [])), (290, 3, (30, 309, 2, (.int 0), [(8, 160)])), (293, 1, (1, 0, 2, (.int 0), [])), (294, 1, (1, 0, 2, (.int 0), [])), (295, 3, (7, 213, 0, (.int 0), [(8, 12)])), (298, 2, (0, 0, 1, (.int 7), [])), (300, 3, (20, 308, 3, (.int 0), [])), (303, 2, (0, 0, 1, (.int 9), [])), (305, 3, (6, 310, 0, (.int 0), [])), (308, 2, (0, 0, 1, (.int 11), [])), (310, 3, (8, 213, 0, (.int 0), [(8, 12)])), (313, 1, (0, 0, 0, (.int 1), [])), (314, 1, (40, 0, 1, (.int 0), [])), (315, 1, (1, 0, 2, (.int 0), [])), (316, 1, (1, 1, 0, (.int 0), [])), (317, 2, (1, 8, 0, (.int 0), []))]
def ck_R_putToken_7 : List (Nat × Nat × zx_I) := [(319, 3, (30, 325, 2, (.int 0), [(8, 170)])), (322, 1, (0, 0, 0, (.int 1), [])), (323, 1, (40, 0, 1, (.int 0), []))]
abbrev ck_R_putToken : zx_K := [(42, ck_R_putToken_0), (93, ck_R_putToken_1), (139, ck_R_putToken_2), (185, ck_R_putToken_3), (231, ck_R_putToken_4), (275, ck_R_putToken_5), (318, ck_R_putToken_6), (324, ck_R_putToken_7)]
def ck_R_putRepeated_0 : List (Nat × Nat × zx_I) := [(0, 1, (1, 0, 2, (.int 0), [])), (1, 3, (0, 0, 2, (.int 6144), [])), (4, 2, (0, 0, 1, (.int 16), [])), (6, 1, (1, 0, 2, (.int 0), [])), (7, 3, (7, 213, 0, (.int 0), [(8, 12)])), (10, 1, (4, 0, 2, (.int 0), [])), (11, 1, (4, 0, 0, (.int 0), [])), (12, 1, (1, 3, 0, (.int 0), [])), (13, 1, (4, 0, 0, (.int 0), [])), (14, 1, (0, 0, 0, (.int 1), [])), (15, 3, (30, 309, 2, (.int 0), [(8, 160)])), (18, 1, (1, 0, 2, (.int 0), [])), (19, 3, (0, 0, 2, (.int 6528), [])), (22, 1, (1, 0, 2, (.int 0), [])), (23, 3, (7, 213, 0, (.int 0), [(8, 12)])), (26, 1, (4, 0, 0, (.int 0), [])), (27, 1, (0, 0, 0, (.int 1), [])), (28, 3, (30, 309, 2, (.int 0), [(8, 160)])), (31, 1, (1, 0, 2, (.int 0), [])), (32, 3, (0, 0, 2, (.int 6540), [])), (35, 1, (1, 0, 2, (.int 0), [])), (36, 3, (7, 213, 0, (.int 0), [(8, 12)])), (39, 1, (4, 0, 0, (.int 0), [])), (40, 1, (1, 1, 0, (.int 0), []))]
def ck_R_putRepeated_1 : List (Nat × Nat × zx_I) := [(41, 3, (21, 48, 1, (.int 0), [])), (44, 1, (0, 0, 0, (.int 0), [])), (45, 3, (6, 49, 0, (.int 0), [])), (48, 1, (0, 0, 0, (.int 1), [])), (49, 3, (30, 309, 2, (.int 0), [(8, 160)])), (52, 1, (1, 1, 0, (.int 0), [])), (53, 3, (21, 77, 1, (.int 0), [])), (56, 1, (1, 0, 2, (.int 0), [])), (57, 3, (0, 0, 2, (.int 6336), [])), (60, 2, (0, 0, 1, (.int 16), [])), (62, 1, (1, 0, 2, (.int 0), [])), (63, 3, (7, 213, 0, (.int 0), [(8, 12)])), (66, 1, (4, 0, 2, (.int 0), [])), (67, 1, (4, 0, 0, (.int 0), [])), (68, 1, (1, 3, 0, (.int 0), [])), (69, 1, (4, 0, 0, (.int 0), [])), (70, 1, (0, 0, 0, (.int 1), [])), (71, 3, (30, 309, 2, (.int 0), [(8, 160)])), (74, 3, (6, 119, 0, (.int 0), [])), (77, 1, (1, 0, 2, (.int 0), [])), (78, 3, (0, 0, 2, (.int 6552), [])), (81, 1, (1, 0, 2, (.int 0), [])), (82, 3, (7, 213, 0, (.int 0), [(8, 12)])), (85, 1, (4, 0, 0, (.int 0), []))]
def ck_R_putRepeated_2 : List (Nat × Nat × zx_I) := [(86, 1, (1, 1, 0, (.int 0), [])), (87, 1, (0, 0, 0, (.int 1), [])), (88, 3, (20, 95, 1, (.int 0), [])), (91, 1, (0, 0, 0, (.int 0), [])), (92, 3, (6, 96, 0, (.int 0), [])), (95, 1, (0, 0, 0, (.int 1), [])), (96, 3, (30, 309, 2, (.int 0), [(8, 160)])), (99, 1, (1, 1, 0, (.int 0), [])), (100, 1, (0, 0, 0, (.int 1), [])), (101, 3, (20, 119, 5, (.int 0), [])), (104, 1, (1, 0, 2, (.int 0), [])), (105, 3, (0, 0, 2, (.int 6564), [])), (108, 1, (1, 0, 2, (.int 0), [])), (109, 3, (7, 213, 0, (.int 0), [(8, 12)])), (112, 1, (4, 0, 0, (.int 0), [])), (113, 1, (1, 1, 0, (.int 0), [])), (114, 1, (0, 0, 0, (.int 2), [])), (115, 1, (4, 0, 1, (.int 0), [])), (116, 3, (30, 309, 2, (.int 0), [(8, 160)])), (119, 1, (1, 0, 2, (.int 0), [])), (120, 1, (1, 1, 0, (.int 0), [])), (121, 3, (30, 268, 1, (.int 0), [(8, 151)])), (124, 1, (1, 0, 2, (.int 0), [])), (125, 3, (0, 0, 2, (.int 7092), []))]
def ck_R_putRepeated_3 : List (Nat × Nat × zx_I) := [(128, 1, (1, 2, 0, (.int 0), [])), (129, 1, (1, 3, 0, (.int 0), [])), (130, 3, (30, 328, 3, (.int 0), [(8, 169)])), (133, 1, (1, 0, 2, (.int 0), [])), (134, 1, (1, 0, 2, (.int 0), [])), (135, 3, (7, 213, 0, (.int 0), [(8, 12)])), (138, 2, (0, 0, 1, (.int 7), [])), (140, 3, (20, 148, 3, (.int 0), [])), (143, 2, (0, 0, 1, (.int 8), [])), (145, 3, (6, 150, 0, (.int 0), [])), (148, 2, (0, 0, 1, (.int 11), [])), (150, 3, (8, 213, 0, (.int 0), [(8, 12)])), (153, 1, (40, 0, 0, (.int 0), []))]
abbrev ck_R_putRepeated : zx_K := [(41, ck_R_putRepeated_0), (86, ck_R_putRepeated_1), (126, ck_R_putRepeated_2), (154, ck_R_putRepeated_3)]
def ck_R_putCopy_0 : List (Nat × Nat × zx_I) := [(0, 1, (1, 0, 2, (.int 0), [])), (1, 3, (0, 0, 2, (.int 6144), [])), (4, 2, (0, 0, 1, (.int 16), [])), (6, 1, (1, 0, 2, (.int 0), [])), (7, 3, (7, 213, 0, (.int 0), [(8, 12)])), (10, 1, (4, 0, 2, (.int 0), [])), (11, 1, (4, 0, 0, (.int 0), [])), (12, 1, (1, 3, 0, (.int 0), [])), (13, 1, (4, 0, 0, (.int 0), [])), (14, 1, (0, 0, 0, (.int 1), [])), (15, 3, (30, 309, 2, (.int 0), [(8, 160)])), (18, 1, (1, 0, 2, (.int 0), [])), (19, 3, (0, 0, 2, (.int 6528), [])), (22, 1, (1, 0, 2, (.int 0), [])), (23, 3, (7, 213, 0, (.int 0), [(8, 12)])), (26, 1, (4, 0, 0, (.int 0), [])), (27, 1, (0, 0, 0, (.int 0), [])), (28, 3, (30, 309, 2, (.int 0), [(8, 160)])), (31, 1, (1, 0, 2, (.int 0), [])), (32, 1, (1, 0, 2, (.int 0), [])), (33, 3, (7, 222, 0, (.int 0), [(8, 15)])), (36, 3, (8, 225, 0, (.int 0), [(8, 16)])), (39, 1, (1, 0, 2, (.int 0), [])), (40, 1, (1, 0, 2, (.int 0), []))]
def ck_R_putCopy_1 : List (Nat × Nat × zx_I) := [(41, 3, (7, 219, 0, (.int 0), [(8, 14)])), (44, 3, (8, 222, 0, (.int 0), [(8, 15)])), (47, 1, (1, 0, 2, (.int 0), [])), (48, 1, (1, 0, 2, (.int 0), [])), (49, 3, (7, 216, 0, (.int 0), [(8, 13)])), (52, 3, (8, 219, 0, (.int 0), [(8, 14)])), (55, 1, (1, 0, 2, (.int 0), [])), (56, 1, (1, 1, 0, (.int 0), [])), (57, 1, (5, 0, 0, (.int 0), [])), (58, 3, (8, 216, 0, (.int 0), [(8, 13)])), (61, 1, (1, 0, 2, (.int 0), [])), (62, 3, (0, 0, 2, (.int 6576), [])), (65, 1, (1, 2, 0, (.int 0), [])), (66, 1, (1, 3, 0, (.int 0), [])), (67, 3, (30, 328, 3, (.int 0), [(8, 169)])), (70, 1, (1, 1, 0, (.int 0), [])), (71, 1, (0, 0, 0, (.int 1), [])), (72, 1, (4, 0, 1, (.int 0), [])), (73, 2, (2, 4, 0, (.int 0), [])), (75, 1, (0, 0, 0, (.int 0), [])), (76, 2, (2, 5, 0, (.int 0), [])), (78, 2, (1, 4, 0, (.int 0), [])), (80, 2, (1, 5, 0, (.int 0), [])), (82, 1, (4, 0, 8, (.int 0), []))]
def ck_R_putCopy_2 : List (Nat × Nat × zx_I) := [(83, 1, (0, 0, 0, (.int 1), [])), (84, 3, (20, 93, 5, (.int 0), [])), (87, 3, (3, 5, 0, (.int 1), [])), (90, 3, (6, 78, 0, (.int 0), [])), (93, 2, (1, 4, 0, (.int 0), [])), (95, 1, (0, 0, 0, (.int 4), [])), (96, 3, (20, 104, 3, (.int 0), [])), (99, 2, (1, 4, 0, (.int 0), [])), (101, 3, (6, 118, 0, (.int 0), [])), (104, 1, (0, 0, 0, (.int 2), [])), (105, 2, (1, 5, 0, (.int 0), [])), (107, 1, (4, 0, 2, (.int 0), [])), (108, 2, (1, 4, 0, (.int 0), [])), (110, 2, (1, 5, 0, (.int 0), [])), (112, 1, (0, 0, 0, (.int 1), [])), (113, 1, (4, 0, 1, (.int 0), [])), (114, 1, (4, 0, 8, (.int 0), [])), (115, 1, (0, 0, 0, (.int 1), [])), (116, 1, (4, 0, 5, (.int 0), [])), (117, 1, (4, 0, 0, (.int 0), [])), (118, 2, (2, 6, 0, (.int 0), [])), (120, 1, (1, 0, 2, (.int 0), [])), (121, 3, (0, 0, 2, (.int 7608), [])), (124, 2, (0, 0, 1, (.int 64), []))]
def ck_R_putCopy_3 : List (Nat × Nat × zx_I) := [(126, 1, (1, 2, 0, (.int 0), [])), (127, 1, (0, 0, 0, (.int 5), [])), (128, 3, (20, 137, 3, (.int 0), [])), (131, 1, (1, 2, 0, (.int 0), [])), (132, 1, (0, 0, 0, (.int 2), [])), (133, 1, (4, 0, 1, (.int 0), [])), (134, 3, (6, 138, 0, (.int 0), [])), (137, 1, (0, 0, 0, (.int 3), [])), (138, 1, (4, 0, 2, (.int 0), [])), (139, 1, (4, 0, 0, (.int 0), [])), (140, 2, (0, 0, 1, (.int 6), [])), (142, 2, (1, 6, 0, (.int 0), [])), (144, 3, (30, 331, 3, (.int 0), [(8, 162)])), (147, 2, (1, 4, 0, (.int 0), [])), (149, 1, (0, 0, 0, (.int 4), [])), (150, 3, (20, 157, 3, (.int 0), [])), (153, 1, (0, 0, 0, (.int 0), [])), (154, 3, (6, 168, 0, (.int 0), [])), (157, 2, (1, 4, 0, (.int 0), [])), (159, 1, (0, 0, 0, (.int 1), [])), (160, 2, (1, 5, 0, (.int 0), [])), (162, 1, (0, 0, 0, (.int 1), [])), (163, 1, (4, 0, 1, (.int 0), [])), (164, 1, (4, 0, 7, (.int 0), []))]
def ck_R_putCopy_4 : List (Nat × Nat × zx_I) := [(165, 1, (0, 0, 0, (.int 1), [])), (166, 1, (4, 0, 1, (.int 0), [])), (167, 1, (4, 0, 5, (.int 0), [])), (168, 2, (2, 7, 0, (.int 0), [])), (170, 2, (1, 6, 0, (.int 0), [])), (172, 1, (0, 0, 0, (.int 3), [])), (173, 3, (20, 206, 5, (.int 0), [])), (176, 2, (1, 6, 0, (.int 0), [])), (178, 2, (0, 0, 1, (.int 14), [])), (180, 3, (20, 206, 3, (.int 0), [])), (183, 1, (1, 0, 2, (.int 0), [])), (184, 3, (0, 0, 2, (.int 7864), [])), (187, 2, (0, 0, 1, (.int 32), [])), (189, 2, (1, 6, 0, (.int 0), [])), (191, 1, (4, 0, 2, (.int 0), [])), (192, 1, (4, 0, 0, (.int 0), [])), (193, 3, (0, 0, 2, (.int 128), [])), (196, 1, (4, 0, 1, (.int 0), [])), (197, 2, (1, 5, 0, (.int 0), [])), (199, 1, (0, 0, 0, (.int 1), [])), (200, 1, (4, 0, 1, (.int 0), [])), (201, 2, (1, 7, 0, (.int 0), [])), (203, 3, (30, 334, 3, (.int 0), [(8, 163)])), (206, 2, (1, 6, 0, (.int 0), []))]
def ck_R_putCopy_5 : List (Nat × Nat × zx_I) := [(208, 2, (0, 0, 1, (.int 13), [])), (210, 3, (20, 255, 5, (.int 0), [])), (213, 2, (1, 5, 0, (.int 0), [])), (215, 1, (0, 0, 0, (.int 2), [])), (216, 1, (4, 0, 1, (.int 0), [])), (217, 2, (2, 8, 0, (.int 0), [])), (219, 2, (1, 8, 0, (.int 0), [])), (221, 1, (0, 0, 0, (.int 3), [])), (222, 3, (20, 242, 5, (.int 0), [])), (225, 1, (1, 0, 2, (.int 0), [])), (226, 2, (1, 7, 0, (.int 0), [])), (228, 2, (1, 8, 0, (.int 0), [])), (230, 1, (4, 0, 8, (.int 0), [])), (231, 1, (0, 0, 0, (.int 1), [])), (232, 1, (4, 0, 5, (.int 0), [])), (233, 3, (30, 337, 1, (.int 0), [(8, 161)])), (236, 3, (3, 8, 0, (.int (-1)), [])), (239, 3, (6, 219, 0, (.int 0), [])), (242, 1, (1, 0, 2, (.int 0), [])), (243, 3, (0, 0, 2, (.int 8312), [])), (246, 1, (0, 0, 0, (.int 4), [])), (247, 2, (1, 7, 0, (.int 0), [])), (249, 2, (0, 0, 1, (.int 15), [])), (251, 1, (4, 0, 5, (.int 0), []))]
def ck_R_putCopy_6 : List (Nat × Nat × zx_I) := [(252, 3, (30, 334, 3, (.int 0), [(8, 163)])), (255, 1, (1, 0, 2, (.int 0), [])), (256, 1, (1, 0, 2, (.int 0), [])), (257, 3, (7, 213, 0, (.int 0), [(8, 12)])), (260, 2, (0, 0, 1, (.int 7), [])), (262, 3, (20, 270, 3, (.int 0), [])), (265, 2, (0, 0, 1, (.int 7), [])), (267, 3, (6, 272, 0, (.int 0), [])), (270, 2, (0, 0, 1, (.int 10), [])), (272, 3, (8, 213, 0, (.int 0), [(8, 12)])), (275, 1, (40, 0, 0, (.int 0), []))]
abbrev ck_R_putCopy : zx_K := [(41, ck_R_putCopy_0), (83, ck_R_putCopy_1), (125, ck_R_putCopy_2), (165, ck_R_putCopy_3), (207, ck_R_putCopy_4), (252, ck_R_putCopy_5), (276, ck_R_putCopy_6)]
def ck_R_putLength_0 : List (Nat × Nat × zx_I) := [(0, 1, (1, 0, 2, (.int 0), [])), (1, 1, (1, 1, 0, (.int 0), [])), (2, 1, (1, 2, 0, (.int 0), [])), (3, 2, (0, 0, 1, (.int 10), [])), (5, 3, (20, 12, 3, (.int 0), [])), (8, 1, (0, 0, 0, (.int 0), [])), (9, 3, (6, 13, 0, (.int 0), [])), (12, 1, (0, 0, 0, (.int 1), [])), (13, 3, (30, 309, 2, (.int 0), [(8, 160)])), (16, 1, (1, 2, 0, (.int 0), [])), (17, 2, (0, 0, 1, (.int 10), [])), (19, 3, (20, 39, 3, (.int 0), [])), (22, 1, (1, 0, 2, (.int 0), [])), (23, 1, (1, 1, 0, (.int 0), [])), (24, 1, (0, 0, 0, (.int 2), [])), (25, 1, (4, 0, 0, (.int 0), [])), (26, 2, (0, 0, 1, (.int 8), [])), (28, 1, (1, 3, 0, (.int 0), [])), (29, 1, (4, 0, 2, (.int 0), [])), (30, 1, (4, 0, 0, (.int 0), [])), (31, 1, (0, 0, 0, (.int 3), [])), (32, 1, (1, 2, 0, (.int 0), [])), (33, 1, (0, 0, 0, (.int 2), [])), (34, 1, (4, 0, 1, (.int 0), []))]
def ck_R_putLength_1 : List (Nat × Nat × zx_I) := [(35, 3, (30, 331, 3, (.int 0), [(8, 162)])), (38, 1, (40, 0, 0, (.int 0), [])), (39, 1, (1, 0, 2, (.int 0), [])), (40, 1, (1, 1, 0, (.int 0), [])), (41, 1, (0, 0, 0, (.int 1), [])), (42, 1, (4, 0, 0, (.int 0), [])), (43, 1, (1, 2, 0, (.int 0), [])), (44, 2, (0, 0, 1, (.int 18), [])), (46, 3, (20, 53, 3, (.int 0), [])), (49, 1, (0, 0, 0, (.int 0), [])), (50, 3, (6, 54, 0, (.int 0), [])), (53, 1, (0, 0, 0, (.int 1), [])), (54, 3, (30, 309, 2, (.int 0), [(8, 160)])), (57, 1, (1, 2, 0, (.int 0), [])), (58, 2, (0, 0, 1, (.int 18), [])), (60, 3, (20, 85, 3, (.int 0), [])), (63, 1, (1, 0, 2, (.int 0), [])), (64, 1, (1, 1, 0, (.int 0), [])), (65, 3, (0, 0, 2, (.int 130), [])), (68, 1, (4, 0, 0, (.int 0), [])), (69, 2, (0, 0, 1, (.int 8), [])), (71, 1, (1, 3, 0, (.int 0), [])), (72, 1, (4, 0, 2, (.int 0), [])), (73, 1, (4, 0, 0, (.int 0), []))]
def ck_R_putLength_2 : List (Nat × Nat × zx_I) := [(74, 1, (0, 0, 0, (.int 3), [])), (75, 1, (1, 2, 0, (.int 0), [])), (76, 2, (0, 0, 1, (.int 10), [])), (78, 1, (4, 0, 1, (.int 0), [])), (79, 3, (30, 331, 3, (.int 0), [(8, 162)])), (82, 3, (6, 100, 0, (.int 0), [])), (85, 1, (1, 0, 2, (.int 0), [])), (86, 1, (1, 1, 0, (.int 0), [])), (87, 3, (0, 0, 2, (.int 258), [])), (90, 1, (4, 0, 0, (.int 0), [])), (91, 2, (0, 0, 1, (.int 8), [])), (93, 1, (1, 2, 0, (.int 0), [])), (94, 2, (0, 0, 1, (.int 18), [])), (96, 1, (4, 0, 1, (.int 0), [])), (97, 3, (30, 331, 3, (.int 0), [(8, 162)])), (100, 1, (40, 0, 0, (.int 0), []))]
abbrev ck_R_putLength : zx_K := [(35, ck_R_putLength_0), (74, ck_R_putLength_1), (101, ck_R_putLength_2)]
def ck_R_putLiteral_0 : List (Nat × Nat × zx_I) := [(0, 1, (1, 0, 2, (.int 0), [])), (1, 3, (0, 0, 2, (.int 6144), [])), (4, 2, (0, 0, 1, (.int 16), [])), (6, 1, (1, 0, 2, (.int 0), [])), (7, 3, (7, 213, 0, (.int 0), [(8, 12)])), (10, 1, (4, 0, 2, (.int 0), [])), (11, 1, (4, 0, 0, (.int 0), [])), (12, 1, (1, 2, 0, (.int 0), [])), (13, 1, (4, 0, 0, (.int 0), [])), (14, 1, (0, 0, 0, (.int 0), [])), (15, 3, (30, 309, 2, (.int 0), [(8, 160)])), (18, 1, (1, 0, 2, (.int 0), [])), (19, 1, (1, 1, 0, (.int 0), [])), (20, 1, (1, 1, 0, (.int 0), [])), (21, 3, (21, 28, 1, (.int 0), [])), (24, 1, (0, 0, 0, (.int 0), [])), (25, 3, (6, 36, 0, (.int 0), [])), (28, 1, (1, 0, 2, (.int 0), [])), (29, 3, (7, 7, 0, (.int 0), [(8, 0)])), (32, 1, (1, 1, 0, (.int 0), [])), (33, 1, (0, 0, 0, (.int 1), [])), (34, 1, (4, 0, 1, (.int 0), [])), (35, 1, (9, 0, 0, (.int 0), [])), (36, 3, (30, 287, 2, (.int 0), [(8, 155)]))]
def ck_R_putLiteral_1 : List (Nat × Nat × zx_I) := [(39, 1, (2, 3, 0, (.int 0), [])), (40, 1, (1, 0, 2, (.int 0), [])), (41, 3, (7, 213, 0, (.int 0), [(8, 12)])), (44, 2, (0, 0, 1, (.int 6), [])), (46, 3, (20, 53, 5, (.int 0), [])), (49, 1, (0, 0, 0, (.int 1), [])), (50, 3, (6, 54, 0, (.int 0), [])), (53, 1, (0, 0, 0, (.int 0), [])), (54, 2, (2, 4, 0, (.int 0), [])), (56, 2, (1, 4, 0, (.int 0), [])), (58, 3, (21, 76, 0, (.int 0), [])), (61, 1, (1, 0, 2, (.int 0), [])), (62, 3, (7, 7, 0, (.int 0), [(8, 0)])), (65, 1, (1, 1, 0, (.int 0), [])), (66, 1, (1, 0, 2, (.int 0), [])), (67, 3, (7, 216, 0, (.int 0), [(8, 13)])), (70, 1, (5, 0, 1, (.int 0), [])), (71, 1, (4, 0, 1, (.int 0), [])), (72, 1, (9, 0, 0, (.int 0), [])), (73, 3, (6, 77, 0, (.int 0), [])), (76, 1, (0, 0, 0, (.int 0), [])), (77, 2, (2, 5, 0, (.int 0), [])), (79, 1, (1, 0, 2, (.int 0), [])), (80, 3, (7, 7, 0, (.int 0), [(8, 0)]))]
def ck_R_putLiteral_2 : List (Nat × Nat × zx_I) := [(83, 1, (1, 1, 0, (.int 0), [])), (84, 1, (9, 0, 0, (.int 0), [])), (85, 2, (2, 6, 0, (.int 0), [])), (87, 1, (0, 0, 0, (.int 1), [])), (88, 2, (2, 7, 0, (.int 0), [])), (90, 2, (0, 0, 1, (.int 7), [])), (92, 2, (2, 8, 0, (.int 0), [])), (94, 2, (1, 8, 0, (.int 0), [])), (96, 3, (21, 184, 2, (.int 0), [])), (99, 2, (1, 5, 0, (.int 0), [])), (101, 2, (1, 8, 0, (.int 0), [])), (103, 1, (4, 0, 8, (.int 0), [])), (104, 1, (0, 0, 0, (.int 1), [])), (105, 1, (4, 0, 5, (.int 0), [])), (106, 2, (2, 9, 0, (.int 0), [])), (108, 2, (1, 6, 0, (.int 0), [])), (110, 2, (1, 8, 0, (.int 0), [])), (112, 1, (4, 0, 8, (.int 0), [])), (113, 1, (0, 0, 0, (.int 1), [])), (114, 1, (4, 0, 5, (.int 0), [])), (115, 2, (2, 10, 0, (.int 0), [])), (117, 1, (1, 0, 2, (.int 0), [])), (118, 2, (1, 4, 0, (.int 0), [])), (120, 3, (21, 141, 0, (.int 0), []))]
def ck_R_putLiteral_3 : List (Nat × Nat × zx_I) := [(123, 1, (1, 3, 0, (.int 0), [])), (124, 3, (0, 0, 2, (.int 256), [])), (127, 1, (4, 0, 0, (.int 0), [])), (128, 3, (0, 0, 2, (.int 256), [])), (131, 2, (1, 9, 0, (.int 0), [])), (133, 1, (4, 0, 2, (.int 0), [])), (134, 1, (4, 0, 0, (.int 0), [])), (135, 2, (1, 7, 0, (.int 0), [])), (137, 1, (4, 0, 0, (.int 0), [])), (138, 3, (6, 145, 0, (.int 0), [])), (141, 1, (1, 3, 0, (.int 0), [])), (142, 2, (1, 7, 0, (.int 0), [])), (144, 1, (4, 0, 0, (.int 0), [])), (145, 2, (1, 10, 0, (.int 0), [])), (147, 3, (30, 309, 2, (.int 0), [(8, 160)])), (150, 1, (0, 0, 0, (.int 2), [])), (151, 2, (1, 7, 0, (.int 0), [])), (153, 1, (4, 0, 2, (.int 0), [])), (154, 2, (1, 10, 0, (.int 0), [])), (156, 1, (4, 0, 0, (.int 0), [])), (157, 2, (2, 7, 0, (.int 0), [])), (159, 2, (1, 4, 0, (.int 0), [])), (161, 3, (21, 175, 0, (.int 0), [])), (164, 2, (1, 10, 0, (.int 0), []))]
def ck_R_putLiteral_4 : List (Nat × Nat × zx_I) := [(166, 2, (1, 9, 0, (.int 0), [])), (168, 3, (20, 175, 1, (.int 0), [])), (171, 1, (0, 0, 0, (.int 1), [])), (172, 3, (6, 176, 0, (.int 0), [])), (175, 1, (0, 0, 0, (.int 0), [])), (176, 2, (2, 4, 0, (.int 0), [])), (178, 3, (3, 8, 0, (.int (-1)), [])), (181, 3, (6, 94, 0, (.int 0), [])), (184, 1, (1, 0, 2, (.int 0), [])), (185, 1, (1, 0, 2, (.int 0), [])), (186, 3, (7, 213, 0, (.int 0), [(8, 12)])), (189, 3, (31, 290, 1, (.int 0), [(0, 156)])), (192, 3, (8, 213, 0, (.int 0), [(8, 12)])), (195, 1, (40, 0, 0, (.int 0), []))]
abbrev ck_R_putLiteral : zx_K := [(37, ck_R_putLiteral_0), (81, ck_R_putLiteral_1), (121, ck_R_putLiteral_2), (165, ck_R_putLiteral_3), (196, ck_R_putLiteral_4)]
def ck_R_write_0 : List (Nat × Nat × zx_I) := [(0, 1, (1, 0, 2, (.int 0), [])), (1, 3, (7, 340, 0, (.int 0), [(8, 7)])), (4, 3, (0, 0, 2, (.int 640), [])), (7, 3, (20, 20, 3, (.int 0), [])), (10, 1, (1, 0, 2, (.int 0), [])), (11, 3, (7, 19, 0, (.int 0), [(8, 6)])), (14, 1, (1, 0, 2, (.int 0), [])), (15, 3, (7, 340, 0, (.int 0), [(8, 7)])), (18, 1, (1, 1, 0, (.int 0), [])), (19, 1, (10, 0, 0, (.int 0), [])), (20, 1, (1, 0, 2, (.int 0), [])), (21, 1, (12, 0, 0, (.int 0), [])), (22, 3, (7, 340, 0, (.int 0), [(8, 7)])), (25, 1, (0, 0, 0, (.int 1), [])), (26, 1, (4, 0, 0, (.int 0), [])), (27, 3, (8, 340, 0, (.int 0), [(8, 7)])), (30, 1, (40, 0, 0, (.int 0), []))]
abbrev ck_R_write : zx_K := [(31, ck_R_write_0)]
def ck_R_writeNumber_0 : List (Nat × Nat × zx_I) := [(0, 1, (0, 0, 0, (.int 0), [])), (1, 2, (2, 4, 0, (.int 0), [])), (3, 2, (1, 4, 0, (.int 0), [])), (5, 1, (1, 3, 0, (.int 0), [])), (6, 3, (20, 31, 3, (.int 0), [])), (9, 1, (1, 0, 2, (.int 0), [])), (10, 1, (1, 1, 1, (.int 0), [])), (11, 2, (0, 0, 1, (.int 8), [])), (13, 2, (1, 4, 0, (.int 0), [])), (15, 1, (4, 0, 2, (.int 0), [])), (16, 1, (4, 0, 18, (.int 0), [])), (17, 3, (0, 56, 5, (.long 255), [])), (20, 1, (4, 0, 14, (.int 0), [])), (21, 1, (5, 0, 1, (.int 0), [])), (22, 3, (30, 343, 1, (.int 0), [(8, 171)])), (25, 3, (3, 4, 0, (.int 1), [])), (28, 3, (6, 3, 0, (.int 0), [])), (31, 1, (40, 0, 0, (.int 0), []))]
abbrev ck_R_writeNumber : zx_K := [(32, ck_R_writeNumber_0)]
def ck_R_writeSum_0 : List (Nat × Nat × zx_I) := [(0, 3, (0, 62, 5, (.long 4294967295), [])), (3, 1, (2, 2, 1, (.int 0), [])), (4, 1, (1, 1, 0, (.int 0), [])), (5, 2, (2, 4, 0, (.int 0), [])), (7, 2, (1, 4, 0, (.int 0), [])), (9, 1, (1, 0, 2, (.int 0), [])), (10, 3, (7, 340, 0, (.int 0), [(8, 7)])), (13, 3, (20, 42, 3, (.int 0), [])), (16, 2, (1, 4, 0, (.int 0), [])), (18, 3, (0, 0, 2, (.int 640), [])), (21, 3, (20, 42, 3, (.int 0), [])), (24, 1, (1, 2, 1, (.int 0), [])), (25, 1, (1, 0, 2, (.int 0), [])), (26, 3, (7, 19, 0, (.int 0), [(8, 6)])), (29, 2, (1, 4, 0, (.int 0), [])), (31, 1, (9, 0, 0, (.int 0), [])), (32, 3, (31, 64, 2, (.int 0), [(0, 107)])), (35, 1, (2, 2, 1, (.int 0), [])), (36, 3, (3, 4, 0, (.int 1), [])), (39, 3, (6, 7, 0, (.int 0), [])), (42, 1, (1, 0, 2, (.int 0), [])), (43, 1, (1, 2, 1, (.int 0), [])), (44, 3, (0, 62, 5, (.long 4294967295), [])), (47, 1, (4, 0, 16, (.int 0), []))]
def ck_R_writeSum_1 : List (Nat × Nat × zx_I) := [(48, 1, (0, 0, 0, (.int 4), [])), (49, 3, (30, 346, 2, (.int 0), [(8, 172)])), (52, 1, (40, 0, 0, (.int 0), []))]
abbrev ck_R_writeSum : zx_K := [(48, ck_R_writeSum_0), (53, ck_R_writeSum_1)]
def ck_R_writeVli_0 : List (Nat × Nat × zx_I) := [(0, 1, (1, 1, 0, (.int 0), [])), (1, 1, (2, 2, 0, (.int 0), [])), (2, 1, (1, 2, 0, (.int 0), [])), (3, 2, (0, 0, 1, (.int 127), [])), (5, 3, (20, 28, 5, (.int 0), [])), (8, 1, (1, 0, 2, (.int 0), [])), (9, 1, (1, 2, 0, (.int 0), [])), (10, 2, (0, 0, 1, (.int 127), [])), (12, 1, (4, 0, 5, (.int 0), [])), (13, 3, (0, 0, 2, (.int 128), [])), (16, 1, (4, 0, 6, (.int 0), [])), (17, 3, (30, 343, 1, (.int 0), [(8, 171)])), (20, 1, (1, 2, 0, (.int 0), [])), (21, 2, (0, 0, 1, (.int 7), [])), (23, 1, (4, 0, 8, (.int 0), [])), (24, 1, (2, 2, 0, (.int 0), [])), (25, 3, (6, 2, 0, (.int 0), [])), (28, 1, (1, 0, 2, (.int 0), [])), (29, 1, (1, 2, 0, (.int 0), [])), (30, 3, (30, 343, 1, (.int 0), [(8, 171)])), (33, 1, (40, 0, 0, (.int 0), []))]
abbrev ck_R_writeVli : zx_K := [(34, ck_R_writeVli_0)]
def ck_R_writeZeros_0 : List (Nat × Nat × zx_I) := [(0, 1, (1, 0, 2, (.int 0), [])), (1, 3, (7, 340, 0, (.int 0), [(8, 7)])), (4, 1, (1, 1, 0, (.int 0), [])), (5, 1, (4, 0, 1, (.int 0), [])), (6, 1, (0, 0, 0, (.int 4), [])), (7, 1, (4, 0, 4, (.int 0), [])), (8, 3, (21, 19, 0, (.int 0), [])), (11, 1, (1, 0, 2, (.int 0), [])), (12, 1, (0, 0, 0, (.int 0), [])), (13, 3, (30, 343, 1, (.int 0), [(8, 171)])), (16, 3, (6, 0, 0, (.int 0), [])), (19, 1, (40, 0, 0, (.int 0), []))]
abbrev ck_R_writeZeros : zx_K := [(20, ck_R_writeZeros_0)]
def ck_R_squeeze_0 : List (Nat × Nat × zx_I) := [(0, 1, (1, 0, 2, (.int 0), [])), (1, 3, (0, 62, 5, (.long 4294967295), [])), (4, 3, (8, 171, 0, (.int 0), [(8, 17)])), (7, 1, (1, 0, 2, (.int 0), [])), (8, 1, (0, 0, 0, (.int 0), [])), (9, 3, (8, 296, 0, (.int 0), [(8, 25)])), (12, 1, (1, 0, 2, (.int 0), [])), (13, 1, (1, 2, 0, (.int 0), [])), (14, 3, (8, 299, 0, (.int 0), [(8, 26)])), (17, 1, (1, 0, 2, (.int 0), [])), (18, 1, (1, 2, 0, (.int 0), [])), (19, 2, (0, 0, 1, (.int 6), [])), (21, 3, (20, 28, 3, (.int 0), [])), (24, 1, (0, 0, 0, (.int 1), [])), (25, 3, (6, 29, 0, (.int 0), [])), (28, 1, (0, 0, 0, (.int 0), [])), (29, 3, (8, 293, 0, (.int 0), [(8, 27)])), (32, 1, (0, 0, 0, (.int 0), [])), (33, 1, (2, 3, 0, (.int 0), [])), (34, 1, (1, 3, 0, (.int 0), [])), (35, 1, (0, 0, 0, (.int 5), [])), (36, 3, (20, 69, 3, (.int 0), [])), (39, 1, (1, 0, 2, (.int 0), [])), (40, 3, (7, 293, 0, (.int 0), [(8, 27)]))]
def ck_R_squeeze_1 : List (Nat × Nat × zx_I) := [(43, 3, (21, 69, 1, (.int 0), [])), (46, 1, (1, 0, 2, (.int 0), [])), (47, 3, (7, 25, 0, (.int 0), [(8, 24)])), (50, 1, (1, 3, 0, (.int 0), [])), (51, 1, (0, 0, 0, (.int 0), [])), (52, 1, (10, 0, 0, (.int 0), [])), (53, 1, (1, 0, 2, (.int 0), [])), (54, 1, (12, 0, 0, (.int 0), [])), (55, 3, (7, 296, 0, (.int 0), [(8, 25)])), (58, 1, (0, 0, 0, (.int 1), [])), (59, 1, (4, 0, 0, (.int 0), [])), (60, 3, (8, 296, 0, (.int 0), [(8, 25)])), (63, 3, (3, 3, 0, (.int 1), [])), (66, 3, (6, 34, 0, (.int 0), [])), (69, 1, (0, 0, 0, (.int 0), [])), (70, 1, (2, 3, 0, (.int 0), [])), (71, 1, (1, 3, 0, (.int 0), [])), (72, 1, (1, 2, 0, (.int 0), [])), (73, 3, (20, 99, 3, (.int 0), [])), (76, 1, (1, 0, 2, (.int 0), [])), (77, 3, (7, 293, 0, (.int 0), [(8, 27)])), (80, 3, (21, 99, 1, (.int 0), [])), (83, 1, (1, 3, 0, (.int 0), [])), (84, 1, (1, 0, 2, (.int 0), []))]
def ck_R_squeeze_2 : List (Nat × Nat × zx_I) := [(85, 1, (1, 1, 0, (.int 0), [])), (86, 1, (1, 3, 0, (.int 0), [])), (87, 1, (4, 0, 0, (.int 0), [])), (88, 1, (1, 2, 0, (.int 0), [])), (89, 1, (1, 3, 0, (.int 0), [])), (90, 1, (4, 0, 1, (.int 0), [])), (91, 3, (30, 350, 2, (.int 0), [(8, 166)])), (94, 1, (4, 0, 0, (.int 0), [])), (95, 1, (2, 3, 0, (.int 0), [])), (96, 3, (6, 71, 0, (.int 0), [])), (99, 1, (1, 0, 2, (.int 0), [])), (100, 3, (7, 293, 0, (.int 0), [(8, 27)])), (103, 3, (21, 110, 1, (.int 0), [])), (106, 1, (1, 0, 2, (.int 0), [])), (107, 3, (30, 302, 0, (.int 0), [(8, 158)])), (110, 1, (1, 0, 2, (.int 0), [])), (111, 3, (7, 293, 0, (.int 0), [(8, 27)])), (114, 3, (21, 121, 1, (.int 0), [])), (117, 1, (0, 0, 0, (.int 1), [])), (118, 3, (6, 122, 0, (.int 0), [])), (121, 1, (0, 0, 0, (.int 0), [])), (122, 1, (40, 0, 4, (.int 0), []))]
abbrev ck_R_squeeze : zx_K := [(41, ck_R_squeeze_0), (85, ck_R_squeeze_1), (123, ck_R_squeeze_2)]
def ck_R_writeChunks_0 : List (Nat × Nat × zx_I) := [(0, 1, (0, 0, 0, (.int 0), [])), (1, 1, (2, 3, 0, (.int 0), [])), (2, 1, (1, 0, 2, (.int 0), [])), (3, 1, (1, 1, 0, (.int 0), [])), (4, 2, (0, 0, 1, (.int 9), [])), (6, 1, (4, 0, 4, (.int 0), [])), (7, 3, (8, 156, 0, (.int 0), [(8, 9)])), (10, 1, (1, 0, 2, (.int 0), [])), (11, 1, (1, 1, 0, (.int 0), [])), (12, 2, (0, 0, 1, (.int 9), [])), (14, 1, (4, 0, 3, (.int 0), [])), (15, 1, (0, 0, 0, (.int 5), [])), (16, 1, (4, 0, 4, (.int 0), [])), (17, 3, (8, 159, 0, (.int 0), [(8, 10)])), (20, 1, (1, 0, 2, (.int 0), [])), (21, 1, (1, 1, 0, (.int 0), [])), (22, 2, (0, 0, 1, (.int 45), [])), (24, 1, (4, 0, 3, (.int 0), [])), (25, 3, (8, 162, 0, (.int 0), [(8, 11)])), (28, 1, (0, 0, 0, (.int 0), [])), (29, 2, (2, 4, 0, (.int 0), [])), (31, 2, (1, 4, 0, (.int 0), [])), (33, 1, (1, 0, 2, (.int 0), [])), (34, 3, (7, 53, 0, (.int 0), [(8, 1)]))]
def ck_R_writeChunks_1 : List (Nat × Nat × zx_I) := [(37, 3, (20, 302, 3, (.int 0), [])), (40, 1, (1, 0, 2, (.int 0), [])), (41, 3, (7, 53, 0, (.int 0), [(8, 1)])), (44, 2, (1, 4, 0, (.int 0), [])), (46, 1, (4, 0, 1, (.int 0), [])), (47, 1, (1, 2, 0, (.int 0), [])), (48, 3, (20, 61, 3, (.int 0), [])), (51, 1, (1, 0, 2, (.int 0), [])), (52, 3, (7, 53, 0, (.int 0), [(8, 1)])), (55, 2, (1, 4, 0, (.int 0), [])), (57, 1, (4, 0, 1, (.int 0), [])), (58, 3, (6, 62, 0, (.int 0), [])), (61, 1, (1, 2, 0, (.int 0), [])), (62, 2, (2, 5, 0, (.int 0), [])), (64, 1, (1, 3, 0, (.int 0), [])), (65, 1, (0, 0, 0, (.int 1), [])), (66, 3, (20, 73, 0, (.int 0), [])), (69, 1, (1, 0, 2, (.int 0), [])), (70, 3, (30, 168, 0, (.int 0), [(8, 138)])), (73, 1, (1, 0, 2, (.int 0), [])), (74, 2, (1, 4, 0, (.int 0), [])), (76, 2, (1, 5, 0, (.int 0), [])), (78, 3, (30, 353, 2, (.int 0), [(8, 176)])), (81, 3, (21, 216, 0, (.int 0), []))]
def ck_R_writeChunks_2 : List (Nat × Nat × zx_I) := [(84, 1, (1, 0, 2, (.int 0), [])), (85, 2, (1, 4, 0, (.int 0), [])), (87, 3, (21, 96, 1, (.int 0), [])), (90, 3, (0, 0, 2, (.int 224), [])), (93, 3, (6, 120, 0, (.int 0), [])), (96, 1, (1, 3, 0, (.int 0), [])), (97, 3, (21, 106, 1, (.int 0), [])), (100, 3, (0, 0, 2, (.int 192), [])), (103, 3, (6, 120, 0, (.int 0), [])), (106, 1, (1, 3, 0, (.int 0), [])), (107, 1, (0, 0, 0, (.int 1), [])), (108, 3, (20, 117, 1, (.int 0), [])), (111, 3, (0, 0, 2, (.int 128), [])), (114, 3, (6, 120, 0, (.int 0), [])), (117, 3, (0, 0, 2, (.int 160), [])), (120, 3, (30, 343, 1, (.int 0), [(8, 171)])), (123, 1, (1, 0, 2, (.int 0), [])), (124, 2, (1, 5, 0, (.int 0), [])), (126, 1, (0, 0, 0, (.int 1), [])), (127, 1, (4, 0, 1, (.int 0), [])), (128, 2, (0, 0, 1, (.int 8), [])), (130, 1, (4, 0, 8, (.int 0), [])), (131, 3, (30, 343, 1, (.int 0), [(8, 171)])), (134, 1, (1, 0, 2, (.int 0), []))]
def ck_R_writeChunks_3 : List (Nat × Nat × zx_I) := [(135, 2, (1, 5, 0, (.int 0), [])), (137, 1, (0, 0, 0, (.int 1), [])), (138, 1, (4, 0, 1, (.int 0), [])), (139, 3, (0, 0, 2, (.int 255), [])), (142, 1, (4, 0, 5, (.int 0), [])), (143, 3, (30, 343, 1, (.int 0), [(8, 171)])), (146, 1, (1, 0, 2, (.int 0), [])), (147, 1, (1, 0, 2, (.int 0), [])), (148, 3, (7, 296, 0, (.int 0), [(8, 25)])), (151, 1, (0, 0, 0, (.int 1), [])), (152, 1, (4, 0, 1, (.int 0), [])), (153, 2, (0, 0, 1, (.int 8), [])), (155, 1, (4, 0, 8, (.int 0), [])), (156, 3, (30, 343, 1, (.int 0), [(8, 171)])), (159, 1, (1, 0, 2, (.int 0), [])), (160, 1, (1, 0, 2, (.int 0), [])), (161, 3, (7, 296, 0, (.int 0), [(8, 25)])), (164, 1, (0, 0, 0, (.int 1), [])), (165, 1, (4, 0, 1, (.int 0), [])), (166, 3, (0, 0, 2, (.int 255), [])), (169, 1, (4, 0, 5, (.int 0), [])), (170, 3, (30, 343, 1, (.int 0), [(8, 171)])), (173, 1, (1, 3, 0, (.int 0), [])), (174, 3, (21, 182, 1, (.int 0), []))]
def ck_R_writeChunks_4 : List (Nat × Nat × zx_I) := [(177, 1, (1, 0, 2, (.int 0), [])), (178, 1, (1, 1, 0, (.int 0), [])), (179, 3, (30, 343, 1, (.int 0), [(8, 171)])), (182, 1, (0, 0, 0, (.int 0), [])), (183, 2, (2, 6, 0, (.int 0), [])), (185, 2, (1, 6, 0, (.int 0), [])), (187, 1, (1, 0, 2, (.int 0), [])), (188, 3, (7, 296, 0, (.int 0), [(8, 25)])), (191, 3, (20, 211, 3, (.int 0), [])), (194, 1, (1, 0, 2, (.int 0), [])), (195, 1, (1, 0, 2, (.int 0), [])), (196, 3, (7, 25, 0, (.int 0), [(8, 24)])), (199, 2, (1, 6, 0, (.int 0), [])), (201, 1, (9, 0, 0, (.int 0), [])), (202, 3, (30, 343, 1, (.int 0), [(8, 171)])), (205, 3, (3, 6, 0, (.int 1), [])), (208, 3, (6, 185, 0, (.int 0), [])), (211, 1, (0, 0, 0, (.int 1), [])), (212, 1, (2, 3, 0, (.int 0), [])), (213, 3, (6, 293, 0, (.int 0), [])), (216, 1, (1, 0, 2, (.int 0), [])), (217, 2, (1, 4, 0, (.int 0), [])), (219, 3, (21, 226, 1, (.int 0), [])), (222, 1, (0, 0, 0, (.int 1), []))]
def ck_R_writeChunks_5 : List (Nat × Nat × zx_I) := [(223, 3, (6, 227, 0, (.int 0), [])), (226, 1, (0, 0, 0, (.int 2), [])), (227, 3, (30, 343, 1, (.int 0), [(8, 171)])), (230, 1, (1, 0, 2, (.int 0), [])), (231, 2, (1, 5, 0, (.int 0), [])), (233, 1, (0, 0, 0, (.int 1), [])), (234, 1, (4, 0, 1, (.int 0), [])), (235, 2, (0, 0, 1, (.int 8), [])), (237, 1, (4, 0, 8, (.int 0), [])), (238, 3, (30, 343, 1, (.int 0), [(8, 171)])), (241, 1, (1, 0, 2, (.int 0), [])), (242, 2, (1, 5, 0, (.int 0), [])), (244, 1, (0, 0, 0, (.int 1), [])), (245, 1, (4, 0, 1, (.int 0), [])), (246, 3, (0, 0, 2, (.int 255), [])), (249, 1, (4, 0, 5, (.int 0), [])), (250, 3, (30, 343, 1, (.int 0), [(8, 171)])), (253, 1, (0, 0, 0, (.int 0), [])), (254, 2, (2, 6, 0, (.int 0), [])), (256, 2, (1, 6, 0, (.int 0), [])), (258, 2, (1, 5, 0, (.int 0), [])), (260, 3, (20, 283, 3, (.int 0), [])), (263, 1, (1, 0, 2, (.int 0), [])), (264, 1, (1, 0, 2, (.int 0), []))]
def ck_R_writeChunks_6 : List (Nat × Nat × zx_I) := [(265, 3, (7, 7, 0, (.int 0), [(8, 0)])), (268, 2, (1, 4, 0, (.int 0), [])), (270, 2, (1, 6, 0, (.int 0), [])), (272, 1, (4, 0, 0, (.int 0), [])), (273, 1, (9, 0, 0, (.int 0), [])), (274, 3, (30, 343, 1, (.int 0), [(8, 171)])), (277, 3, (3, 6, 0, (.int 1), [])), (280, 3, (6, 256, 0, (.int 0), [])), (283, 1, (1, 3, 0, (.int 0), [])), (284, 3, (21, 291, 1, (.int 0), [])), (287, 1, (0, 0, 0, (.int 0), [])), (288, 3, (6, 292, 0, (.int 0), [])), (291, 1, (0, 0, 0, (.int 2), [])), (292, 1, (2, 3, 0, (.int 0), [])), (293, 2, (1, 4, 0, (.int 0), [])), (295, 1, (1, 2, 0, (.int 0), [])), (296, 1, (4, 0, 0, (.int 0), [])), (297, 2, (2, 4, 0, (.int 0), [])), (299, 3, (6, 31, 0, (.int 0), [])), (302, 1, (1, 0, 2, (.int 0), [])), (303, 1, (0, 0, 0, (.int 0), [])), (304, 3, (30, 343, 1, (.int 0), [(8, 171)])), (307, 1, (40, 0, 0, (.int 0), []))]
abbrev ck_R_writeChunks : zx_K := [(35, ck_R_writeChunks_0), (82, ck_R_writeChunks_1), (135, ck_R_writeChunks_2), (175, ck_R_writeChunks_3), (223, ck_R_writeChunks_4), (265, ck_R_writeChunks_5), (308, ck_R_writeChunks_6)]
def ck_R_writeBlock_0 : List (Nat × Nat × zx_I) := [(0, 1, (1, 0, 2, (.int 0), [])), (1, 3, (7, 340, 0, (.int 0), [(8, 7)])), (4, 2, (2, 4, 0, (.int 0), [])), (6, 1, (1, 0, 2, (.int 0), [])), (7, 1, (0, 0, 0, (.int 2), [])), (8, 3, (30, 343, 1, (.int 0), [(8, 171)])), (11, 1, (1, 0, 2, (.int 0), [])), (12, 1, (0, 0, 0, (.int 0), [])), (13, 3, (30, 343, 1, (.int 0), [(8, 171)])), (16, 1, (1, 0, 2, (.int 0), [])), (17, 2, (0, 0, 1, (.int 33), [])), (19, 3, (30, 343, 1, (.int 0), [(8, 171)])), (22, 1, (1, 0, 2, (.int 0), [])), (23, 1, (0, 0, 0, (.int 1), [])), (24, 3, (30, 343, 1, (.int 0), [(8, 171)])), (27, 1, (0, 0, 0, (.int 0), [])), (28, 2, (2, 5, 0, (.int 0), [])), (30, 2, (1, 5, 0, (.int 0), [])), (32, 1, (0, 0, 0, (.int 4), [])), (33, 3, (20, 47, 3, (.int 0), [])), (36, 1, (1, 0, 2, (.int 0), [])), (37, 1, (0, 0, 0, (.int 0), [])), (38, 3, (30, 343, 1, (.int 0), [(8, 171)])), (41, 3, (3, 5, 0, (.int 1), []))]
def ck_R_writeBlock_1 : List (Nat × Nat × zx_I) := [(44, 3, (6, 30, 0, (.int 0), [])), (47, 1, (1, 0, 2, (.int 0), [])), (48, 2, (1, 4, 0, (.int 0), [])), (50, 3, (30, 357, 1, (.int 0), [(8, 173)])), (53, 1, (1, 0, 2, (.int 0), [])), (54, 1, (1, 2, 0, (.int 0), [])), (55, 1, (1, 3, 0, (.int 0), [])), (56, 3, (30, 360, 2, (.int 0), [(8, 177)])), (59, 1, (1, 0, 2, (.int 0), [])), (60, 3, (7, 340, 0, (.int 0), [(8, 7)])), (63, 2, (1, 4, 0, (.int 0), [])), (65, 1, (4, 0, 1, (.int 0), [])), (66, 2, (2, 5, 0, (.int 0), [])), (68, 1, (1, 0, 2, (.int 0), [])), (69, 2, (1, 4, 0, (.int 0), [])), (71, 3, (30, 363, 1, (.int 0), [(8, 175)])), (74, 1, (1, 1, 0, (.int 0), [])), (75, 3, (21, 82, 1, (.int 0), [])), (78, 1, (0, 0, 0, (.int 0), [])), (79, 3, (6, 93, 0, (.int 0), [])), (82, 1, (1, 1, 0, (.int 0), [])), (83, 1, (0, 0, 0, (.int 1), [])), (84, 3, (20, 91, 1, (.int 0), [])), (87, 1, (0, 0, 0, (.int 4), []))]
def ck_R_writeBlock_2 : List (Nat × Nat × zx_I) := [(88, 3, (6, 93, 0, (.int 0), [])), (91, 2, (0, 0, 1, (.int 8), [])), (93, 2, (2, 6, 0, (.int 0), [])), (95, 1, (1, 0, 2, (.int 0), [])), (96, 1, (1, 1, 0, (.int 0), [])), (97, 3, (21, 104, 1, (.int 0), [])), (100, 1, (0, 0, 3, (.long 0), [])), (101, 3, (6, 118, 0, (.int 0), [])), (104, 1, (1, 0, 2, (.int 0), [])), (105, 1, (1, 1, 0, (.int 0), [])), (106, 1, (0, 0, 0, (.int 4), [])), (107, 3, (20, 114, 1, (.int 0), [])), (110, 1, (0, 0, 0, (.int 1), [])), (111, 3, (6, 115, 0, (.int 0), [])), (114, 1, (0, 0, 0, (.int 0), [])), (115, 3, (30, 366, 1, (.int 0), [(8, 112)])), (118, 2, (1, 6, 0, (.int 0), [])), (120, 3, (30, 346, 2, (.int 0), [(8, 172)])), (123, 2, (1, 5, 0, (.int 0), [])), (125, 2, (1, 6, 0, (.int 0), [])), (127, 1, (4, 0, 0, (.int 0), [])), (128, 1, (40, 0, 1, (.int 0), []))]
abbrev ck_R_writeBlock : zx_K := [(42, ck_R_writeBlock_0), (88, ck_R_writeBlock_1), (129, ck_R_writeBlock_2)]
def ck_R_pack_0 : List (Nat × Nat × zx_I) := [(0, 1, (1, 1, 0, (.int 0), [])), (1, 3, (31, 102, 1, (.int 0), [(0, 120)])), (4, 3, (21, 26, 0, (.int 0), [])), (7, 1, (1, 2, 0, (.int 0), [])), (8, 3, (31, 153, 1, (.int 0), [(0, 126)])), (11, 3, (21, 26, 0, (.int 0), [])), (14, 1, (1, 3, 0, (.int 0), [])), (15, 1, (0, 0, 0, (.int 1), [])), (16, 3, (20, 26, 2, (.int 0), [])), (19, 1, (1, 3, 0, (.int 0), [])), (20, 3, (0, 0, 2, (.int 400), [])), (23, 3, (20, 29, 5, (.int 0), [])), (26, 2, (0, 0, 1, (.int (-3)), [])), (28, 1, (40, 0, 1, (.int 0), [])), (29, 1, (1, 0, 2, (.int 0), [])), (30, 1, (0, 0, 0, (.int 0), [])), (31, 3, (8, 340, 0, (.int 0), [(8, 7)])), (34, 1, (0, 0, 0, (.int 0), [])), (35, 2, (2, 4, 0, (.int 0), [])), (37, 2, (1, 4, 0, (.int 0), [])), (39, 2, (0, 0, 1, (.int 6), [])), (41, 3, (20, 59, 3, (.int 0), [])), (44, 1, (1, 0, 2, (.int 0), [])), (45, 2, (1, 4, 0, (.int 0), []))]
def ck_R_pack_1 : List (Nat × Nat × zx_I) := [(47, 3, (31, 95, 1, (.int 0), [(0, 119)])), (50, 3, (30, 343, 1, (.int 0), [(8, 171)])), (53, 3, (3, 4, 0, (.int 1), [])), (56, 3, (6, 37, 0, (.int 0), [])), (59, 1, (1, 0, 2, (.int 0), [])), (60, 1, (0, 0, 0, (.int 0), [])), (61, 3, (30, 343, 1, (.int 0), [(8, 171)])), (64, 1, (1, 0, 2, (.int 0), [])), (65, 1, (1, 1, 0, (.int 0), [])), (66, 3, (30, 343, 1, (.int 0), [(8, 171)])), (69, 1, (1, 0, 2, (.int 0), [])), (70, 2, (0, 0, 1, (.int 6), [])), (72, 3, (30, 357, 1, (.int 0), [(8, 173)])), (75, 1, (1, 0, 2, (.int 0), [])), (76, 3, (7, 53, 0, (.int 0), [(8, 1)])), (79, 3, (21, 92, 5, (.int 0), [])), (82, 1, (1, 0, 2, (.int 0), [])), (83, 1, (1, 1, 0, (.int 0), [])), (84, 1, (1, 2, 0, (.int 0), [])), (85, 1, (1, 3, 0, (.int 0), [])), (86, 3, (30, 370, 3, (.int 0), [(8, 178)])), (89, 3, (6, 93, 0, (.int 0), [])), (92, 1, (0, 0, 0, (.int 0), [])), (93, 2, (2, 4, 0, (.int 0), []))]
def ck_R_pack_2 : List (Nat × Nat × zx_I) := [(95, 1, (1, 0, 2, (.int 0), [])), (96, 3, (7, 340, 0, (.int 0), [(8, 7)])), (99, 2, (2, 5, 0, (.int 0), [])), (101, 1, (1, 0, 2, (.int 0), [])), (102, 1, (0, 0, 0, (.int 0), [])), (103, 3, (30, 343, 1, (.int 0), [(8, 171)])), (106, 1, (1, 0, 2, (.int 0), [])), (107, 1, (1, 0, 2, (.int 0), [])), (108, 3, (7, 53, 0, (.int 0), [(8, 1)])), (111, 3, (21, 118, 5, (.int 0), [])), (114, 1, (0, 0, 0, (.int 1), [])), (115, 3, (6, 119, 0, (.int 0), [])), (118, 1, (0, 0, 0, (.int 0), [])), (119, 3, (30, 374, 1, (.int 0), [(8, 174)])), (122, 1, (1, 0, 2, (.int 0), [])), (123, 3, (7, 53, 0, (.int 0), [(8, 1)])), (126, 3, (21, 143, 5, (.int 0), [])), (129, 1, (1, 0, 2, (.int 0), [])), (130, 2, (1, 4, 0, (.int 0), [])), (132, 3, (30, 374, 1, (.int 0), [(8, 174)])), (135, 1, (1, 0, 2, (.int 0), [])), (136, 1, (1, 0, 2, (.int 0), [])), (137, 3, (7, 53, 0, (.int 0), [(8, 1)])), (140, 3, (30, 374, 1, (.int 0), [(8, 174)]))]
def ck_R_pack_3 : List (Nat × Nat × zx_I) := [(143, 1, (1, 0, 2, (.int 0), [])), (144, 2, (1, 5, 0, (.int 0), [])), (146, 3, (30, 363, 1, (.int 0), [(8, 175)])), (149, 1, (1, 0, 2, (.int 0), [])), (150, 2, (1, 5, 0, (.int 0), [])), (152, 3, (30, 357, 1, (.int 0), [(8, 173)])), (155, 1, (1, 0, 2, (.int 0), [])), (156, 3, (7, 340, 0, (.int 0), [(8, 7)])), (159, 2, (1, 5, 0, (.int 0), [])), (161, 1, (4, 0, 1, (.int 0), [])), (162, 1, (0, 0, 0, (.int 4), [])), (163, 1, (4, 0, 3, (.int 0), [])), (164, 1, (0, 0, 0, (.int 1), [])), (165, 1, (4, 0, 1, (.int 0), [])), (166, 2, (2, 6, 0, (.int 0), [])), (168, 3, (0, 62, 5, (.long 4294967295), [])), (171, 2, (2, 7, 1, (.int 0), [])), (173, 1, (0, 0, 0, (.int 0), [])), (174, 2, (2, 9, 0, (.int 0), [])), (176, 2, (1, 9, 0, (.int 0), [])), (178, 2, (0, 0, 1, (.int 6), [])), (180, 3, (20, 228, 3, (.int 0), [])), (183, 2, (1, 7, 1, (.int 0), [])), (185, 2, (1, 9, 0, (.int 0), []))]
def ck_R_pack_4 : List (Nat × Nat × zx_I) := [(187, 1, (0, 0, 0, (.int 4), [])), (188, 3, (20, 206, 3, (.int 0), [])), (191, 2, (1, 6, 0, (.int 0), [])), (193, 2, (0, 0, 1, (.int 8), [])), (195, 2, (1, 9, 0, (.int 0), [])), (197, 1, (4, 0, 2, (.int 0), [])), (198, 1, (4, 0, 8, (.int 0), [])), (199, 3, (0, 0, 2, (.int 255), [])), (202, 1, (4, 0, 5, (.int 0), [])), (203, 3, (6, 217, 0, (.int 0), [])), (206, 2, (1, 9, 0, (.int 0), [])), (208, 1, (0, 0, 0, (.int 4), [])), (209, 3, (20, 216, 1, (.int 0), [])), (212, 1, (0, 0, 0, (.int 0), [])), (213, 3, (6, 217, 0, (.int 0), [])), (216, 1, (1, 1, 0, (.int 0), [])), (217, 3, (31, 64, 2, (.int 0), [(0, 107)])), (220, 2, (2, 7, 1, (.int 0), [])), (222, 3, (3, 9, 0, (.int 1), [])), (225, 3, (6, 176, 0, (.int 0), [])), (228, 1, (1, 0, 2, (.int 0), [])), (229, 2, (1, 7, 1, (.int 0), [])), (231, 3, (0, 62, 5, (.long 4294967295), [])), (234, 1, (4, 0, 16, (.int 0), []))]
def ck_R_pack_5 : List (Nat × Nat × zx_I) := [(235, 1, (0, 0, 0, (.int 4), [])), (236, 3, (30, 346, 2, (.int 0), [(8, 172)])), (239, 1, (1, 0, 2, (.int 0), [])), (240, 2, (1, 6, 0, (.int 0), [])), (242, 1, (5, 0, 0, (.int 0), [])), (243, 1, (0, 0, 0, (.int 4), [])), (244, 3, (30, 346, 2, (.int 0), [(8, 172)])), (247, 1, (1, 0, 2, (.int 0), [])), (248, 1, (0, 0, 0, (.int 0), [])), (249, 3, (30, 343, 1, (.int 0), [(8, 171)])), (252, 1, (1, 0, 2, (.int 0), [])), (253, 1, (1, 1, 0, (.int 0), [])), (254, 3, (30, 343, 1, (.int 0), [(8, 171)])), (257, 1, (1, 0, 2, (.int 0), [])), (258, 2, (0, 0, 1, (.int 89), [])), (260, 3, (30, 343, 1, (.int 0), [(8, 171)])), (263, 1, (1, 0, 2, (.int 0), [])), (264, 2, (0, 0, 1, (.int 90), [])), (266, 3, (30, 343, 1, (.int 0), [(8, 171)])), (269, 1, (1, 0, 2, (.int 0), [])), (270, 3, (7, 340, 0, (.int 0), [(8, 7)])), (273, 3, (0, 0, 2, (.int 640), [])), (276, 3, (20, 282, 5, (.int 0), [])), (279, 2, (0, 0, 1, (.int (-5)), []))]
def ck_R_pack_6 : List (Nat × Nat × zx_I) := [(281, 1, (40, 0, 1, (.int 0), [])), (282, 1, (1, 0, 2, (.int 0), [])), (283, 1, (1, 0, 2, (.int 0), [])), (284, 3, (7, 340, 0, (.int 0), [(8, 7)])), (287, 3, (8, 50, 0, (.int 0), [(8, 3)])), (290, 1, (0, 0, 0, (.int 0), [])), (291, 2, (2, 9, 0, (.int 0), [])), (293, 2, (1, 9, 0, (.int 0), [])), (295, 1, (1, 0, 2, (.int 0), [])), (296, 3, (7, 340, 0, (.int 0), [(8, 7)])), (299, 3, (20, 322, 3, (.int 0), [])), (302, 1, (1, 0, 2, (.int 0), [])), (303, 3, (7, 13, 0, (.int 0), [(8, 2)])), (306, 2, (1, 9, 0, (.int 0), [])), (308, 1, (1, 0, 2, (.int 0), [])), (309, 3, (7, 19, 0, (.int 0), [(8, 6)])), (312, 2, (1, 9, 0, (.int 0), [])), (314, 1, (9, 0, 0, (.int 0), [])), (315, 1, (10, 0, 0, (.int 0), [])), (316, 3, (3, 9, 0, (.int 1), [])), (319, 3, (6, 293, 0, (.int 0), [])), (322, 1, (1, 0, 2, (.int 0), [])), (323, 3, (7, 50, 0, (.int 0), [(8, 3)])), (326, 1, (40, 0, 1, (.int 0), []))]
abbrev ck_R_pack : zx_K := [(46, ck_R_pack_0), (94, ck_R_pack_1), (141, ck_R_pack_2), (186, ck_R_pack_3), (235, ck_R_pack_4), (280, ck_R_pack_5), (327, ck_R_pack_6)]
def ck_Lin_learn_0 : List (Nat × Nat × zx_I) := [(0, 1, (1, 0, 2, (.int 0), [])), (1, 3, (7, 9, 0, (.int 0), [(3, 0), (4, 0)])), (4, 1, (1, 1, 0, (.int 0), [])), (5, 1, (9, 0, 0, (.int 0), [])), (6, 1, (2, 3, 0, (.int 0), [])), (7, 1, (1, 0, 2, (.int 0), [])), (8, 3, (7, 9, 0, (.int 0), [(3, 0), (4, 0)])), (11, 1, (1, 1, 0, (.int 0), [])), (12, 1, (1, 2, 0, (.int 0), [])), (13, 3, (21, 28, 1, (.int 0), [])), (16, 1, (1, 3, 0, (.int 0), [])), (17, 3, (0, 0, 2, (.int 2048), [])), (20, 1, (1, 3, 0, (.int 0), [])), (21, 1, (4, 0, 1, (.int 0), [])), (22, 1, (0, 0, 0, (.int 5), [])), (23, 1, (4, 0, 8, (.int 0), [])), (24, 1, (4, 0, 0, (.int 0), [])), (25, 3, (6, 33, 0, (.int 0), [])), (28, 1, (1, 3, 0, (.int 0), [])), (29, 1, (1, 3, 0, (.int 0), [])), (30, 1, (0, 0, 0, (.int 5), [])), (31, 1, (4, 0, 8, (.int 0), [])), (32, 1, (4, 0, 1, (.int 0), [])), (33, 1, (10, 0, 0, (.int 0), []))]
def ck_Lin_learn_1 : List (Nat × Nat × zx_I) := [(34, 1, (40, 0, 0, (.int 0), []))]
abbrev ck_Lin_learn : zx_K := [(34, ck_Lin_learn_0), (35, ck_Lin_learn_1)]
def ck_Arr_rangeCheck_0 : List (Nat × Nat × zx_I) := [(0, 1, (1, 1, 0, (.int 0), [])), (1, 1, (1, 2, 0, (.int 0), [])), (2, 3, (20, 46, 5, (.int 0), [])), (8, 1, (12, 0, 0, (.int 0), [])), (12, 1, (12, 0, 0, (.int 0), [])), (21, 1, (1, 1, 0, (.int 0), [])), (30, 1, (1, 2, 0, (.int 0), [])), (46, 1, (1, 1, 0, (.int 0), [])), (47, 3, (21, 59, 3, (.int 0), [])), (53, 1, (12, 0, 0, (.int 0), [])), (54, 1, (1, 1, 0, (.int 0), [])), (59, 1, (1, 2, 0, (.int 0), [])), (60, 1, (1, 0, 0, (.int 0), [])), (61, 3, (20, 73, 5, (.int 0), [])), (67, 1, (12, 0, 0, (.int 0), [])), (68, 1, (1, 2, 0, (.int 0), [])), (73, 1, (40, 0, 0, (.int 0), []))]
abbrev ck_Arr_rangeCheck : zx_K := [(74, ck_Arr_rangeCheck_0)]
def ck_Arr_fill_0 : List (Nat × Nat × zx_I) := [(0, 1, (0, 0, 0, (.int 0), [])), (1, 1, (2, 3, 0, (.int 0), [])), (2, 1, (1, 0, 2, (.int 0), [])), (3, 1, (11, 0, 0, (.int 0), [])), (4, 2, (2, 4, 0, (.int 0), [])), (6, 1, (1, 3, 0, (.int 0), [])), (7, 2, (1, 4, 0, (.int 0), [])), (9, 3, (20, 22, 3, (.int 0), [])), (12, 1, (1, 0, 2, (.int 0), [])), (13, 1, (1, 3, 0, (.int 0), [])), (14, 1, (1, 1, 1, (.int 0), [])), (15, 1, (10, 0, 1, (.int 0), [])), (16, 3, (3, 3, 0, (.int 1), [])), (19, 3, (6, 6, 0, (.int 0), [])), (22, 1, (40, 0, 0, (.int 0), []))]
abbrev ck_Arr_fill : zx_K := [(23, ck_Arr_fill_0)]
def ck_Arr_fill2_0 : List (Nat × Nat × zx_I) := [(0, 1, (0, 0, 0, (.int 0), [])), (1, 1, (2, 2, 0, (.int 0), [])), (2, 1, (1, 0, 2, (.int 0), [])), (3, 1, (11, 0, 0, (.int 0), [])), (4, 1, (2, 3, 0, (.int 0), [])), (5, 1, (1, 2, 0, (.int 0), [])), (6, 1, (1, 3, 0, (.int 0), [])), (7, 3, (20, 20, 3, (.int 0), [])), (10, 1, (1, 0, 2, (.int 0), [])), (11, 1, (1, 2, 0, (.int 0), [])), (12, 1, (1, 1, 0, (.int 0), [])), (13, 1, (10, 0, 0, (.int 0), [])), (14, 3, (3, 2, 0, (.int 1), [])), (17, 3, (6, 5, 0, (.int 0), [])), (20, 1, (40, 0, 0, (.int 0), []))]
abbrev ck_Arr_fill2 : zx_K := [(21, ck_Arr_fill2_0)]
def ck_Arr_fill3_0 : List (Nat × Nat × zx_I) := [(0, 1, (1, 0, 2, (.int 0), [])), (1, 1, (11, 0, 0, (.int 0), [])), (2, 1, (1, 1, 0, (.int 0), [])), (3, 1, (1, 2, 0, (.int 0), [])), (4, 3, (31, 13, 3, (.int 0), [(0, 181)])), (7, 1, (1, 1, 0, (.int 0), [])), (8, 2, (2, 4, 0, (.int 0), [])), (10, 2, (1, 4, 0, (.int 0), [])), (12, 1, (1, 2, 0, (.int 0), [])), (13, 3, (20, 27, 3, (.int 0), [])), (16, 1, (1, 0, 2, (.int 0), [])), (17, 2, (1, 4, 0, (.int 0), [])), (19, 1, (1, 3, 0, (.int 0), [])), (20, 1, (10, 0, 0, (.int 0), [])), (21, 3, (3, 4, 0, (.int 1), [])), (24, 3, (6, 10, 0, (.int 0), [])), (27, 1, (40, 0, 0, (.int 0), []))]
abbrev ck_Arr_fill3 : zx_K := [(28, ck_Arr_fill3_0)]
def ck_Lng_numberOfLeadingZeros_0 : List (Nat × Nat × zx_I) := [(0, 1, (1, 0, 1, (.int 0), [])), (1, 2, (0, 0, 1, (.int 32), [])), (3, 1, (4, 0, 19, (.int 0), [])), (4, 1, (5, 0, 1, (.int 0), [])), (5, 1, (2, 2, 0, (.int 0), [])), (6, 1, (1, 2, 0, (.int 0), [])), (7, 3, (21, 21, 1, (.int 0), [])), (10, 2, (0, 0, 1, (.int 32), [])), (12, 1, (1, 0, 1, (.int 0), [])), (13, 1, (5, 0, 1, (.int 0), [])), (14, 3, (31, 308, 1, (.int 0), [(0, 186)])), (17, 1, (4, 0, 0, (.int 0), [])), (18, 3, (6, 25, 0, (.int 0), [])), (21, 1, (1, 2, 0, (.int 0), [])), (22, 3, (31, 308, 1, (.int 0), [(0, 186)])), (25, 1, (40, 0, 1, (.int 0), []))]
abbrev ck_Lng_numberOfLeadingZeros : zx_K := [(26, ck_Lng_numberOfLeadingZeros_0)]
def ck_Itg_numberOfLeadingZeros_0 : List (Nat × Nat × zx_I) := [(0, 1, (1, 0, 0, (.int 0), [])), (1, 3, (21, 15, 4, (.int 0), [])), (4, 1, (1, 0, 0, (.int 0), [])), (5, 3, (21, 13, 1, (.int 0), [])), (8, 2, (0, 0, 1, (.int 32), [])), (10, 3, (6, 14, 0, (.int 0), [])), (13, 1, (0, 0, 0, (.int 0), [])), (14, 1, (40, 0, 1, (.int 0), [])), (15, 2, (0, 0, 1, (.int 31), [])), (17, 1, (2, 1, 0, (.int 0), [])), (18, 1, (1, 0, 0, (.int 0), [])), (19, 3, (0, 264, 6, (.int 65536), [])), (22, 3, (20, 33, 2, (.int 0), [])), (25, 3, (3, 1, 0, (.int (-16)), [])), (28, 1, (1, 0, 0, (.int 0), [])), (29, 2, (0, 0, 1, (.int 16), [])), (31, 1, (4, 0, 9, (.int 0), [])), (32, 1, (2, 0, 0, (.int 0), [])), (33, 1, (1, 0, 0, (.int 0), [])), (34, 3, (0, 0, 2, (.int 256), [])), (37, 3, (20, 48, 2, (.int 0), [])), (40, 3, (3, 1, 0, (.int (-8)), [])), (43, 1, (1, 0, 0, (.int 0), [])), (44, 2, (0, 0, 1, (.int 8), []))]
def ck_Itg_numberOfLeadingZeros_1 : List (Nat × Nat × zx_I) := [(46, 1, (4, 0, 9, (.int 0), [])), (47, 1, (2, 0, 0, (.int 0), [])), (48, 1, (1, 0, 0, (.int 0), [])), (49, 2, (0, 0, 1, (.int 16), [])), (51, 3, (20, 61, 2, (.int 0), [])), (54, 3, (3, 1, 0, (.int (-4)), [])), (57, 1, (1, 0, 0, (.int 0), [])), (58, 1, (0, 0, 0, (.int 4), [])), (59, 1, (4, 0, 9, (.int 0), [])), (60, 1, (2, 0, 0, (.int 0), [])), (61, 1, (1, 0, 0, (.int 0), [])), (62, 1, (0, 0, 0, (.int 4), [])), (63, 3, (20, 73, 2, (.int 0), [])), (66, 3, (3, 1, 0, (.int (-2)), [])), (69, 1, (1, 0, 0, (.int 0), [])), (70, 1, (0, 0, 0, (.int 2), [])), (71, 1, (4, 0, 9, (.int 0), [])), (72, 1, (2, 0, 0, (.int 0), [])), (73, 1, (1, 1, 0, (.int 0), [])), (74, 1, (1, 0, 0, (.int 0), [])), (75, 1, (0, 0, 0, (.int 1), [])), (76, 1, (4, 0, 9, (.int 0), [])), (77, 1, (4, 0, 1, (.int 0), [])), (78, 1, (40, 0, 1, (.int 0), []))]
abbrev ck_Itg_numberOfLeadingZeros : zx_K := [(45, ck_Itg_numberOfLeadingZeros_0), (79, ck_Itg_numberOfLeadingZeros_1)]
end
section
theorem ok_P_feed_0 : zx_okK 0 (some Jvm.ClassFile.FieldType.int) prog_1_method_2_code ck_P_feed_0 = true := by decide +kernel
theorem ok_P_feed_1 : zx_okK 0 (some Jvm.ClassFile.FieldType.int) prog_1_method_2_code ck_P_feed_1 = true := by decide +kernel
theorem ok_P_feed : ∀ g ∈ ck_P_feed, zx_okK 0 (some Jvm.ClassFile.FieldType.int) prog_1_method_2_code g.2 = true := List.forall_mem_cons.mpr ⟨ok_P_feed_0, List.forall_mem_cons.mpr ⟨ok_P_feed_1, fun _ h => absurd h List.not_mem_nil⟩⟩
theorem ok_P_copy_0 : zx_okK 0 (some Jvm.ClassFile.FieldType.int) prog_1_method_3_code ck_P_copy_0 = true := by decide +kernel
theorem ok_P_copy_1 : zx_okK 0 (some Jvm.ClassFile.FieldType.int) prog_1_method_3_code ck_P_copy_1 = true := by decide +kernel
theorem ok_P_copy : ∀ g ∈ ck_P_copy, zx_okK 0 (some Jvm.ClassFile.FieldType.int) prog_1_method_3_code g.2 = true := List.forall_mem_cons.mpr ⟨ok_P_copy_0, List.forall_mem_cons.mpr ⟨ok_P_copy_1, fun _ h => absurd h List.not_mem_nil⟩⟩
theorem ok_P_cut_0 : zx_okK 0 (some Jvm.ClassFile.FieldType.int) prog_1_method_4_code ck_P_cut_0 = true := by decide +kernel
theorem ok_P_cut : ∀ g ∈ ck_P_cut, zx_okK 0 (some Jvm.ClassFile.FieldType.int) prog_1_method_4_code g.2 = true := List.forall_mem_cons.mpr ⟨ok_P_cut_0, fun _ h => absurd h List.not_mem_nil⟩
theorem ok_P_change_0 : zx_okK 0 (some Jvm.ClassFile.FieldType.int) prog_1_method_5_code ck_P_change_0 = true := by decide +kernel
theorem ok_P_change : ∀ g ∈ ck_P_change, zx_okK 0 (some Jvm.ClassFile.FieldType.int) prog_1_method_5_code g.2 = true := List.forall_mem_cons.mpr ⟨ok_P_change_0, fun _ h => absurd h List.not_mem_nil⟩
theorem ok_P_at_0 : zx_okK 0 (some Jvm.ClassFile.FieldType.int) prog_1_method_6_code ck_P_at_0 = true := by decide +kernel
theorem ok_P_at : ∀ g ∈ ck_P_at, zx_okK 0 (some Jvm.ClassFile.FieldType.int) prog_1_method_6_code g.2 = true := List.forall_mem_cons.mpr ⟨ok_P_at_0, fun _ h => absurd h List.not_mem_nil⟩
theorem ok_P_pack_0 : zx_okK 0 (some Jvm.ClassFile.FieldType.int) prog_1_method_7_code ck_P_pack_0 = true := by decide +kernel
theorem ok_P_pack_1 : zx_okK 0 (some Jvm.ClassFile.FieldType.int) prog_1_method_7_code ck_P_pack_1 = true := by decide +kernel
theorem ok_P_pack_2 : zx_okK 0 (some Jvm.ClassFile.FieldType.int) prog_1_method_7_code ck_P_pack_2 = true := by decide +kernel
theorem ok_P_pack_3 : zx_okK 0 (some Jvm.ClassFile.FieldType.int) prog_1_method_7_code ck_P_pack_3 = true := by decide +kernel
theorem ok_P_pack : ∀ g ∈ ck_P_pack, zx_okK 0 (some Jvm.ClassFile.FieldType.int) prog_1_method_7_code g.2 = true := List.forall_mem_cons.mpr ⟨ok_P_pack_0, List.forall_mem_cons.mpr ⟨ok_P_pack_1, List.forall_mem_cons.mpr ⟨ok_P_pack_2, List.forall_mem_cons.mpr ⟨ok_P_pack_3, fun _ h => absurd h List.not_mem_nil⟩⟩⟩⟩
theorem ok_P_unpack_0 : zx_okK 0 (some Jvm.ClassFile.FieldType.int) prog_1_method_8_code ck_P_unpack_0 = true := by decide +kernel
theorem ok_P_unpack_1 : zx_okK 0 (some Jvm.ClassFile.FieldType.int) prog_1_method_8_code ck_P_unpack_1 = true := by decide +kernel
theorem ok_P_unpack : ∀ g ∈ ck_P_unpack, zx_okK 0 (some Jvm.ClassFile.FieldType.int) prog_1_method_8_code g.2 = true := List.forall_mem_cons.mpr ⟨ok_P_unpack_0, List.forall_mem_cons.mpr ⟨ok_P_unpack_1, fun _ h => absurd h List.not_mem_nil⟩⟩
theorem ok_P_where_0 : zx_okK 0 (some Jvm.ClassFile.FieldType.int) prog_1_method_9_code ck_P_where_0 = true := by decide +kernel
theorem ok_P_where : ∀ g ∈ ck_P_where, zx_okK 0 (some Jvm.ClassFile.FieldType.int) prog_1_method_9_code g.2 = true := List.forall_mem_cons.mpr ⟨ok_P_where_0, fun _ h => absurd h List.not_mem_nil⟩
theorem ok_P_watch_0 : zx_okK 0 (some Jvm.ClassFile.FieldType.boolean) prog_1_method_10_code ck_P_watch_0 = true := by decide +kernel
theorem ok_P_watch : ∀ g ∈ ck_P_watch, zx_okK 0 (some Jvm.ClassFile.FieldType.boolean) prog_1_method_10_code g.2 = true := List.forall_mem_cons.mpr ⟨ok_P_watch_0, fun _ h => absurd h List.not_mem_nil⟩
theorem ok_P_range_0 : zx_okK 0 (some Jvm.ClassFile.FieldType.long) prog_1_method_11_code ck_P_range_0 = true := by decide +kernel
theorem ok_P_range : ∀ g ∈ ck_P_range, zx_okK 0 (some Jvm.ClassFile.FieldType.long) prog_1_method_11_code g.2 = true := List.forall_mem_cons.mpr ⟨ok_P_range_0, fun _ h => absurd h List.not_mem_nil⟩
theorem ok_P_code_0 : zx_okK 0 (some Jvm.ClassFile.FieldType.long) prog_1_method_12_code ck_P_code_0 = true := by decide +kernel
theorem ok_P_code : ∀ g ∈ ck_P_code, zx_okK 0 (some Jvm.ClassFile.FieldType.long) prog_1_method_12_code g.2 = true := List.forall_mem_cons.mpr ⟨ok_P_code_0, fun _ h => absurd h List.not_mem_nil⟩
theorem ok_P_count_0 : zx_okK 0 (some Jvm.ClassFile.FieldType.int) prog_1_method_13_code ck_P_count_0 = true := by decide +kernel
theorem ok_P_count : ∀ g ∈ ck_P_count, zx_okK 0 (some Jvm.ClassFile.FieldType.int) prog_1_method_13_code g.2 = true := List.forall_mem_cons.mpr ⟨ok_P_count_0, fun _ h => absurd h List.not_mem_nil⟩
theorem ok_P_sum_0 : zx_okK 0 (some Jvm.ClassFile.FieldType.long) prog_1_method_14_code ck_P_sum_0 = true := by decide +kernel
theorem ok_P_sum : ∀ g ∈ ck_P_sum, zx_okK 0 (some Jvm.ClassFile.FieldType.long) prog_1_method_14_code g.2 = true := List.forall_mem_cons.mpr ⟨ok_P_sum_0, fun _ h => absurd h List.not_mem_nil⟩
theorem ok_P_rowOf_0 : zx_okK 0 (some (Jvm.ClassFile.FieldType.object "IntervalPacker$Row")) prog_1_method_15_code ck_P_rowOf_0 = true := by decide +kernel
theorem ok_P_rowOf : ∀ g ∈ ck_P_rowOf, zx_okK 0 (some (Jvm.ClassFile.FieldType.object "IntervalPacker$Row")) prog_1_method_15_code g.2 = true := List.forall_mem_cons.mpr ⟨ok_P_rowOf_0, fun _ h => absurd h List.not_mem_nil⟩
theorem ok_P_isSort_0 : zx_okK 0 (some Jvm.ClassFile.FieldType.boolean) prog_1_method_16_code ck_P_isSort_0 = true := by decide +kernel
theorem ok_P_isSort : ∀ g ∈ ck_P_isSort, zx_okK 0 (some Jvm.ClassFile.FieldType.boolean) prog_1_method_16_code g.2 = true := List.forall_mem_cons.mpr ⟨ok_P_isSort_0, fun _ h => absurd h List.not_mem_nil⟩
theorem ok_P_checkSize_0 : zx_okK 0 (some Jvm.ClassFile.FieldType.int) prog_1_method_17_code ck_P_checkSize_0 = true := by decide +kernel
theorem ok_P_checkSize : ∀ g ∈ ck_P_checkSize, zx_okK 0 (some Jvm.ClassFile.FieldType.int) prog_1_method_17_code g.2 = true := List.forall_mem_cons.mpr ⟨ok_P_checkSize_0, fun _ h => absurd h List.not_mem_nil⟩
theorem ok_P_areProperties_0 : zx_okK 0 (some Jvm.ClassFile.FieldType.boolean) prog_1_method_18_code ck_P_areProperties_0 = true := by decide +kernel
theorem ok_P_areProperties : ∀ g ∈ ck_P_areProperties, zx_okK 0 (some Jvm.ClassFile.FieldType.boolean) prog_1_method_18_code g.2 = true := List.forall_mem_cons.mpr ⟨ok_P_areProperties_0, fun _ h => absurd h List.not_mem_nil⟩
theorem ok_P_sumFour_0 : zx_okK 0 (some Jvm.ClassFile.FieldType.long) prog_1_method_19_code ck_P_sumFour_0 = true := by decide +kernel
theorem ok_P_sumFour : ∀ g ∈ ck_P_sumFour, zx_okK 0 (some Jvm.ClassFile.FieldType.long) prog_1_method_19_code g.2 = true := List.forall_mem_cons.mpr ⟨ok_P_sumFour_0, fun _ h => absurd h List.not_mem_nil⟩
theorem ok_P_sumEight_0 : zx_okK 0 (some Jvm.ClassFile.FieldType.long) prog_1_method_20_code ck_P_sumEight_0 = true := by decide +kernel
theorem ok_P_sumEight : ∀ g ∈ ck_P_sumEight, zx_okK 0 (some Jvm.ClassFile.FieldType.long) prog_1_method_20_code g.2 = true := List.forall_mem_cons.mpr ⟨ok_P_sumEight_0, fun _ h => absurd h List.not_mem_nil⟩
theorem ok_P_sumBy_0 : zx_okK 0 (some Jvm.ClassFile.FieldType.long) prog_1_method_21_code ck_P_sumBy_0 = true := by decide +kernel
theorem ok_P_sumBy_1 : zx_okK 0 (some Jvm.ClassFile.FieldType.long) prog_1_method_21_code ck_P_sumBy_1 = true := by decide +kernel
theorem ok_P_sumBy : ∀ g ∈ ck_P_sumBy, zx_okK 0 (some Jvm.ClassFile.FieldType.long) prog_1_method_21_code g.2 = true := List.forall_mem_cons.mpr ⟨ok_P_sumBy_0, List.forall_mem_cons.mpr ⟨ok_P_sumBy_1, fun _ h => absurd h List.not_mem_nil⟩⟩
theorem ok_Row_clear_0 : zx_okK 1 none prog_8_method_2_code ck_Row_clear_0 = true := by decide +kernel
theorem ok_Row_clear : ∀ g ∈ ck_Row_clear, zx_okK 1 none prog_8_method_2_code g.2 = true := List.forall_mem_cons.mpr ⟨ok_Row_clear_0, fun _ h => absurd h List.not_mem_nil⟩
theorem ok_Row_hasRoom_0 : zx_okK 1 (some Jvm.ClassFile.FieldType.boolean) prog_8_method_3_code ck_Row_hasRoom_0 = true := by decide +kernel
theorem ok_Row_hasRoom : ∀ g ∈ ck_Row_hasRoom, zx_okK 1 (some Jvm.ClassFile.FieldType.boolean) prog_8_method_3_code g.2 = true := List.forall_mem_cons.mpr ⟨ok_Row_hasRoom_0, fun _ h => absurd h List.not_mem_nil⟩
theorem ok_Row_append_0 : zx_okK 1 none prog_8_method_4_code ck_Row_append_0 = true := by decide +kernel
theorem ok_Row_append : ∀ g ∈ ck_Row_append, zx_okK 1 none prog_8_method_4_code g.2 = true := List.forall_mem_cons.mpr ⟨ok_Row_append_0, fun _ h => absurd h List.not_mem_nil⟩
theorem ok_Row_appendAll_0 : zx_okK 1 none prog_8_method_5_code ck_Row_appendAll_0 = true := by decide +kernel
theorem ok_Row_appendAll : ∀ g ∈ ck_Row_appendAll, zx_okK 1 none prog_8_method_5_code g.2 = true := List.forall_mem_cons.mpr ⟨ok_Row_appendAll_0, fun _ h => absurd h List.not_mem_nil⟩
theorem ok_Row_appendLowFirst_0 : zx_okK 1 none prog_8_method_6_code ck_Row_appendLowFirst_0 = true := by decide +kernel
theorem ok_Row_appendLowFirst : ∀ g ∈ ck_Row_appendLowFirst, zx_okK 1 none prog_8_method_6_code g.2 = true := List.forall_mem_cons.mpr ⟨ok_Row_appendLowFirst_0, fun _ h => absurd h List.not_mem_nil⟩
theorem ok_Row_repeat_0 : zx_okK 1 none prog_8_method_7_code ck_Row_repeat_0 = true := by decide +kernel
theorem ok_Row_repeat : ∀ g ∈ ck_Row_repeat, zx_okK 1 none prog_8_method_7_code g.2 = true := List.forall_mem_cons.mpr ⟨ok_Row_repeat_0, fun _ h => absurd h List.not_mem_nil⟩
theorem ok_Row_byteAt_0 : zx_okK 1 (some Jvm.ClassFile.FieldType.int) prog_8_method_8_code ck_Row_byteAt_0 = true := by decide +kernel
theorem ok_Row_byteAt : ∀ g ∈ ck_Row_byteAt, zx_okK 1 (some Jvm.ClassFile.FieldType.int) prog_8_method_8_code g.2 = true := List.forall_mem_cons.mpr ⟨ok_Row_byteAt_0, fun _ h => absurd h List.not_mem_nil⟩
theorem ok_Row_byteBack_0 : zx_okK 1 (some Jvm.ClassFile.FieldType.int) prog_8_method_9_code ck_Row_byteBack_0 = true := by decide +kernel
theorem ok_Row_byteBack : ∀ g ∈ ck_Row_byteBack, zx_okK 1 (some Jvm.ClassFile.FieldType.int) prog_8_method_9_code g.2 = true := List.forall_mem_cons.mpr ⟨ok_Row_byteBack_0, fun _ h => absurd h List.not_mem_nil⟩
theorem ok_Row_become_0 : zx_okK 1 none prog_8_method_10_code ck_Row_become_0 = true := by decide +kernel
theorem ok_Row_become : ∀ g ∈ ck_Row_become, zx_okK 1 none prog_8_method_10_code g.2 = true := List.forall_mem_cons.mpr ⟨ok_Row_become_0, fun _ h => absurd h List.not_mem_nil⟩
theorem ok_Cur_begin_0 : zx_okK 2 none prog_5_method_2_code ck_Cur_begin_0 = true := by decide +kernel
theorem ok_Cur_begin : ∀ g ∈ ck_Cur_begin, zx_okK 2 none prog_5_method_2_code g.2 = true := List.forall_mem_cons.mpr ⟨ok_Cur_begin_0, fun _ h => absurd h List.not_mem_nil⟩
theorem ok_Cur_isSound_0 : zx_okK 2 (some Jvm.ClassFile.FieldType.boolean) prog_5_method_3_code ck_Cur_isSound_0 = true := by decide +kernel
theorem ok_Cur_isSound : ∀ g ∈ ck_Cur_isSound, zx_okK 2 (some Jvm.ClassFile.FieldType.boolean) prog_5_method_3_code g.2 = true := List.forall_mem_cons.mpr ⟨ok_Cur_isSound_0, fun _ h => absurd h List.not_mem_nil⟩
theorem ok_Cur_fail_0 : zx_okK 2 none prog_5_method_4_code ck_Cur_fail_0 = true := by decide +kernel
theorem ok_Cur_fail : ∀ g ∈ ck_Cur_fail, zx_okK 2 none prog_5_method_4_code g.2 = true := List.forall_mem_cons.mpr ⟨ok_Cur_fail_0, fun _ h => absurd h List.not_mem_nil⟩
theorem ok_Cur_narrow_0 : zx_okK 2 none prog_5_method_5_code ck_Cur_narrow_0 = true := by decide +kernel
theorem ok_Cur_narrow : ∀ g ∈ ck_Cur_narrow, zx_okK 2 none prog_5_method_5_code g.2 = true := List.forall_mem_cons.mpr ⟨ok_Cur_narrow_0, fun _ h => absurd h List.not_mem_nil⟩
theorem ok_Cur_widen_0 : zx_okK 2 none prog_5_method_6_code ck_Cur_widen_0 = true := by decide +kernel
theorem ok_Cur_widen : ∀ g ∈ ck_Cur_widen, zx_okK 2 none prog_5_method_6_code g.2 = true := List.forall_mem_cons.mpr ⟨ok_Cur_widen_0, fun _ h => absurd h List.not_mem_nil⟩
theorem ok_Cur_has_0 : zx_okK 2 (some Jvm.ClassFile.FieldType.boolean) prog_5_method_7_code ck_Cur_has_0 = true := by decide +kernel
theorem ok_Cur_has_1 : zx_okK 2 (some Jvm.ClassFile.FieldType.boolean) prog_5_method_7_code ck_Cur_has_1 = true := by decide +kernel
theorem ok_Cur_has : ∀ g ∈ ck_Cur_has, zx_okK 2 (some Jvm.ClassFile.FieldType.boolean) prog_5_method_7_code g.2 = true := List.forall_mem_cons.mpr ⟨ok_Cur_has_0, List.forall_mem_cons.mpr ⟨ok_Cur_has_1, fun _ h => absurd h List.not_mem_nil⟩⟩
theorem ok_Cur_expectByte_0 : zx_okK 2 none prog_5_method_8_code ck_Cur_expectByte_0 = true := by decide +kernel
theorem ok_Cur_expectByte : ∀ g ∈ ck_Cur_expectByte, zx_okK 2 none prog_5_method_8_code g.2 = true := List.forall_mem_cons.mpr ⟨ok_Cur_expectByte_0, fun _ h => absurd h List.not_mem_nil⟩
theorem ok_Cur_expectWithin_0 : zx_okK 2 none prog_5_method_9_code ck_Cur_expectWithin_0 = true := by decide +kernel
theorem ok_Cur_expectWithin_1 : zx_okK 2 none prog_5_method_9_code ck_Cur_expectWithin_1 = true := by decide +kernel
theorem ok_Cur_expectWithin : ∀ g ∈ ck_Cur_expectWithin, zx_okK 2 none prog_5_method_9_code g.2 = true := List.forall_mem_cons.mpr ⟨ok_Cur_expectWithin_0, List.forall_mem_cons.mpr ⟨ok_Cur_expectWithin_1, fun _ h => absurd h List.not_mem_nil⟩⟩
theorem ok_Cur_expectFilling_0 : zx_okK 2 none prog_5_method_10_code ck_Cur_expectFilling_0 = true := by decide +kernel
theorem ok_Cur_expectFilling : ∀ g ∈ ck_Cur_expectFilling, zx_okK 2 none prog_5_method_10_code g.2 = true := List.forall_mem_cons.mpr ⟨ok_Cur_expectFilling_0, fun _ h => absurd h List.not_mem_nil⟩
theorem ok_Cur_lowFirst_0 : zx_okK 2 (some Jvm.ClassFile.FieldType.long) prog_5_method_11_code ck_Cur_lowFirst_0 = true := by decide +kernel
theorem ok_Cur_lowFirst : ∀ g ∈ ck_Cur_lowFirst, zx_okK 2 (some Jvm.ClassFile.FieldType.long) prog_5_method_11_code g.2 = true := List.forall_mem_cons.mpr ⟨ok_Cur_lowFirst_0, fun _ h => absurd h List.not_mem_nil⟩
theorem ok_Cur_expectSum_0 : zx_okK 2 none prog_5_method_12_code ck_Cur_expectSum_0 = true := by decide +kernel
theorem ok_Cur_expectSum_1 : zx_okK 2 none prog_5_method_12_code ck_Cur_expectSum_1 = true := by decide +kernel
theorem ok_Cur_expectSum : ∀ g ∈ ck_Cur_expectSum, zx_okK 2 none prog_5_method_12_code g.2 = true := List.forall_mem_cons.mpr ⟨ok_Cur_expectSum_0, List.forall_mem_cons.mpr ⟨ok_Cur_expectSum_1, fun _ h => absurd h List.not_mem_nil⟩⟩
theorem ok_Cur_readTwo_0 : zx_okK 2 (some Jvm.ClassFile.FieldType.int) prog_5_method_13_code ck_Cur_readTwo_0 = true := by decide +kernel
theorem ok_Cur_readTwo_1 : zx_okK 2 (some Jvm.ClassFile.FieldType.int) prog_5_method_13_code ck_Cur_readTwo_1 = true := by decide +kernel
theorem ok_Cur_readTwo : ∀ g ∈ ck_Cur_readTwo, zx_okK 2 (some Jvm.ClassFile.FieldType.int) prog_5_method_13_code g.2 = true := List.forall_mem_cons.mpr ⟨ok_Cur_readTwo_0, List.forall_mem_cons.mpr ⟨ok_Cur_readTwo_1, fun _ h => absurd h List.not_mem_nil⟩⟩
theorem ok_Cur_readNumber_0 : zx_okK 2 (some Jvm.ClassFile.FieldType.long) prog_5_method_14_code ck_Cur_readNumber_0 = true := by decide +kernel
theorem ok_Cur_readNumber_1 : zx_okK 2 (some Jvm.ClassFile.FieldType.long) prog_5_method_14_code ck_Cur_readNumber_1 = true := by decide +kernel
theorem ok_Cur_readNumber_2 : zx_okK 2 (some Jvm.ClassFile.FieldType.long) prog_5_method_14_code ck_Cur_readNumber_2 = true := by decide +kernel
theorem ok_Cur_readNumber : ∀ g ∈ ck_Cur_readNumber, zx_okK 2 (some Jvm.ClassFile.FieldType.long) prog_5_method_14_code g.2 = true := List.forall_mem_cons.mpr ⟨ok_Cur_readNumber_0, List.forall_mem_cons.mpr ⟨ok_Cur_readNumber_1, List.forall_mem_cons.mpr ⟨ok_Cur_readNumber_2, fun _ h => absurd h List.not_mem_nil⟩⟩⟩
theorem ok_Cur_expectNumber_0 : zx_okK 2 none prog_5_method_15_code ck_Cur_expectNumber_0 = true := by decide +kernel
theorem ok_Cur_expectNumber : ∀ g ∈ ck_Cur_expectNumber, zx_okK 2 none prog_5_method_15_code g.2 = true := List.forall_mem_cons.mpr ⟨ok_Cur_expectNumber_0, fun _ h => absurd h List.not_mem_nil⟩
theorem ok_Src_forget_0 : zx_okK 3 none prog_4_method_2_code ck_Src_forget_0 = true := by decide +kernel
theorem ok_Src_forget : ∀ g ∈ ck_Src_forget, zx_okK 3 none prog_4_method_2_code g.2 = true := List.forall_mem_cons.mpr ⟨ok_Src_forget_0, fun _ h => absurd h List.not_mem_nil⟩
theorem ok_Src_begin_0 : zx_okK 3 none prog_4_method_3_code ck_Src_begin_0 = true := by decide +kernel
theorem ok_Src_begin_1 : zx_okK 3 none prog_4_method_3_code ck_Src_begin_1 = true := by decide +kernel
theorem ok_Src_begin_2 : zx_okK 3 none prog_4_method_3_code ck_Src_begin_2 = true := by decide +kernel
theorem ok_Src_begin : ∀ g ∈ ck_Src_begin, zx_okK 3 none prog_4_method_3_code g.2 = true := List.forall_mem_cons.mpr ⟨ok_Src_begin_0, List.forall_mem_cons.mpr ⟨ok_Src_begin_1, List.forall_mem_cons.mpr ⟨ok_Src_begin_2, fun _ h => absurd h List.not_mem_nil⟩⟩⟩
theorem ok_Src_shift_0 : zx_okK 3 none prog_4_method_4_code ck_Src_shift_0 = true := by decide +kernel
theorem ok_Src_shift_1 : zx_okK 3 none prog_4_method_4_code ck_Src_shift_1 = true := by decide +kernel
theorem ok_Src_shift : ∀ g ∈ ck_Src_shift, zx_okK 3 none prog_4_method_4_code g.2 = true := List.forall_mem_cons.mpr ⟨ok_Src_shift_0, List.forall_mem_cons.mpr ⟨ok_Src_shift_1, fun _ h => absurd h List.not_mem_nil⟩⟩
theorem ok_Src_codeBit_0 : zx_okK 3 (some Jvm.ClassFile.FieldType.int) prog_4_method_5_code ck_Src_codeBit_0 = true := by decide +kernel
theorem ok_Src_codeBit_1 : zx_okK 3 (some Jvm.ClassFile.FieldType.int) prog_4_method_5_code ck_Src_codeBit_1 = true := by decide +kernel
theorem ok_Src_codeBit_2 : zx_okK 3 (some Jvm.ClassFile.FieldType.int) prog_4_method_5_code ck_Src_codeBit_2 = true := by decide +kernel
theorem ok_Src_codeBit : ∀ g ∈ ck_Src_codeBit, zx_okK 3 (some Jvm.ClassFile.FieldType.int) prog_4_method_5_code g.2 = true := List.forall_mem_cons.mpr ⟨ok_Src_codeBit_0, List.forall_mem_cons.mpr ⟨ok_Src_codeBit_1, List.forall_mem_cons.mpr ⟨ok_Src_codeBit_2, fun _ h => absurd h List.not_mem_nil⟩⟩⟩
theorem ok_Src_codeEvenBit_0 : zx_okK 3 (some Jvm.ClassFile.FieldType.int) prog_4_method_6_code ck_Src_codeEvenBit_0 = true := by decide +kernel
theorem ok_Src_codeEvenBit_1 : zx_okK 3 (some Jvm.ClassFile.FieldType.int) prog_4_method_6_code ck_Src_codeEvenBit_1 = true := by decide +kernel
theorem ok_Src_codeEvenBit_2 : zx_okK 3 (some Jvm.ClassFile.FieldType.int) prog_4_method_6_code ck_Src_codeEvenBit_2 = true := by decide +kernel
theorem ok_Src_codeEvenBit : ∀ g ∈ ck_Src_codeEvenBit, zx_okK 3 (some Jvm.ClassFile.FieldType.int) prog_4_method_6_code g.2 = true := List.forall_mem_cons.mpr ⟨ok_Src_codeEvenBit_0, List.forall_mem_cons.mpr ⟨ok_Src_codeEvenBit_1, List.forall_mem_cons.mpr ⟨ok_Src_codeEvenBit_2, fun _ h => absurd h List.not_mem_nil⟩⟩⟩
theorem ok_Src_keep_0 : zx_okK 3 none prog_4_method_7_code ck_Src_keep_0 = true := by decide +kernel
theorem ok_Src_keep : ∀ g ∈ ck_Src_keep, zx_okK 3 none prog_4_method_7_code g.2 = true := List.forall_mem_cons.mpr ⟨ok_Src_keep_0, fun _ h => absurd h List.not_mem_nil⟩
theorem ok_Src_endsWell_0 : zx_okK 3 (some Jvm.ClassFile.FieldType.boolean) prog_4_method_8_code ck_Src_endsWell_0 = true := by decide +kernel
theorem ok_Src_endsWell : ∀ g ∈ ck_Src_endsWell, zx_okK 3 (some Jvm.ClassFile.FieldType.boolean) prog_4_method_8_code g.2 = true := List.forall_mem_cons.mpr ⟨ok_Src_endsWell_0, fun _ h => absurd h List.not_mem_nil⟩
theorem ok_Snk_begin_0 : zx_okK 4 none prog_3_method_2_code ck_Snk_begin_0 = true := by decide +kernel
theorem ok_Snk_begin_1 : zx_okK 4 none prog_3_method_2_code ck_Snk_begin_1 = true := by decide +kernel
theorem ok_Snk_begin : ∀ g ∈ ck_Snk_begin, zx_okK 4 none prog_3_method_2_code g.2 = true := List.forall_mem_cons.mpr ⟨ok_Snk_begin_0, List.forall_mem_cons.mpr ⟨ok_Snk_begin_1, fun _ h => absurd h List.not_mem_nil⟩⟩
theorem ok_Snk_shift_0 : zx_okK 4 none prog_3_method_3_code ck_Snk_shift_0 = true := by decide +kernel
theorem ok_Snk_shift_1 : zx_okK 4 none prog_3_method_3_code ck_Snk_shift_1 = true := by decide +kernel
theorem ok_Snk_shift : ∀ g ∈ ck_Snk_shift, zx_okK 4 none prog_3_method_3_code g.2 = true := List.forall_mem_cons.mpr ⟨ok_Snk_shift_0, List.forall_mem_cons.mpr ⟨ok_Snk_shift_1, fun _ h => absurd h List.not_mem_nil⟩⟩
theorem ok_Snk_raise_0 : zx_okK 4 none prog_3_method_4_code ck_Snk_raise_0 = true := by decide +kernel
theorem ok_Snk_raise_1 : zx_okK 4 none prog_3_method_4_code ck_Snk_raise_1 = true := by decide +kernel
theorem ok_Snk_raise : ∀ g ∈ ck_Snk_raise, zx_okK 4 none prog_3_method_4_code g.2 = true := List.forall_mem_cons.mpr ⟨ok_Snk_raise_0, List.forall_mem_cons.mpr ⟨ok_Snk_raise_1, fun _ h => absurd h List.not_mem_nil⟩⟩
theorem ok_Snk_codeBit_0 : zx_okK 4 (some Jvm.ClassFile.FieldType.int) prog_3_method_5_code ck_Snk_codeBit_0 = true := by decide +kernel
theorem ok_Snk_codeBit_1 : zx_okK 4 (some Jvm.ClassFile.FieldType.int) prog_3_method_5_code ck_Snk_codeBit_1 = true := by decide +kernel
theorem ok_Snk_codeBit : ∀ g ∈ ck_Snk_codeBit, zx_okK 4 (some Jvm.ClassFile.FieldType.int) prog_3_method_5_code g.2 = true := List.forall_mem_cons.mpr ⟨ok_Snk_codeBit_0, List.forall_mem_cons.mpr ⟨ok_Snk_codeBit_1, fun _ h => absurd h List.not_mem_nil⟩⟩
theorem ok_Snk_codeEvenBit_0 : zx_okK 4 (some Jvm.ClassFile.FieldType.int) prog_3_method_6_code ck_Snk_codeEvenBit_0 = true := by decide +kernel
theorem ok_Snk_codeEvenBit : ∀ g ∈ ck_Snk_codeEvenBit, zx_okK 4 (some Jvm.ClassFile.FieldType.int) prog_3_method_6_code g.2 = true := List.forall_mem_cons.mpr ⟨ok_Snk_codeEvenBit_0, fun _ h => absurd h List.not_mem_nil⟩
theorem ok_Snk_finish_0 : zx_okK 4 none prog_3_method_7_code ck_Snk_finish_0 = true := by decide +kernel
theorem ok_Snk_finish : ∀ g ∈ ck_Snk_finish, zx_okK 4 none prog_3_method_7_code g.2 = true := List.forall_mem_cons.mpr ⟨ok_Snk_finish_0, fun _ h => absurd h List.not_mem_nil⟩
theorem ok_Mdl_setProperties_0 : zx_okK 5 none prog_6_method_2_code ck_Mdl_setProperties_0 = true := by decide +kernel
theorem ok_Mdl_setProperties : ∀ g ∈ ck_Mdl_setProperties, zx_okK 5 none prog_6_method_2_code g.2 = true := List.forall_mem_cons.mpr ⟨ok_Mdl_setProperties_0, fun _ h => absurd h List.not_mem_nil⟩
theorem ok_Mdl_beginAnew_0 : zx_okK 5 none prog_6_method_3_code ck_Mdl_beginAnew_0 = true := by decide +kernel
theorem ok_Mdl_beginAnew : ∀ g ∈ ck_Mdl_beginAnew, zx_okK 5 none prog_6_method_3_code g.2 = true := List.forall_mem_cons.mpr ⟨ok_Mdl_beginAnew_0, fun _ h => absurd h List.not_mem_nil⟩
theorem ok_Mdl_useLine_0 : zx_okK 5 none prog_6_method_4_code ck_Mdl_useLine_0 = true := by decide +kernel
theorem ok_Mdl_useLine : ∀ g ∈ ck_Mdl_useLine, zx_okK 5 none prog_6_method_4_code g.2 = true := List.forall_mem_cons.mpr ⟨ok_Mdl_useLine_0, fun _ h => absurd h List.not_mem_nil⟩
theorem ok_Mdl_distanceOf_0 : zx_okK 5 (some Jvm.ClassFile.FieldType.long) prog_6_method_5_code ck_Mdl_distanceOf_0 = true := by decide +kernel
theorem ok_Mdl_distanceOf : ∀ g ∈ ck_Mdl_distanceOf, zx_okK 5 (some Jvm.ClassFile.FieldType.long) prog_6_method_5_code g.2 = true := List.forall_mem_cons.mpr ⟨ok_Mdl_distanceOf_0, fun _ h => absurd h List.not_mem_nil⟩
theorem ok_Mdl_step_0 : zx_okK 5 none prog_6_method_6_code ck_Mdl_step_0 = true := by decide +kernel
theorem ok_Mdl_step_1 : zx_okK 5 none prog_6_method_6_code ck_Mdl_step_1 = true := by decide +kernel
theorem ok_Mdl_step_2 : zx_okK 5 none prog_6_method_6_code ck_Mdl_step_2 = true := by decide +kernel
theorem ok_Mdl_step_3 : zx_okK 5 none prog_6_method_6_code ck_Mdl_step_3 = true := by decide +kernel
theorem ok_Mdl_step_4 : zx_okK 5 none prog_6_method_6_code ck_Mdl_step_4 = true := by decide +kernel
theorem ok_Mdl_step_5 : zx_okK 5 none prog_6_method_6_code ck_Mdl_step_5 = true := by decide +kernel
theorem ok_Mdl_step_6 : zx_okK 5 none prog_6_method_6_code ck_Mdl_step_6 = true := by decide +kernel
theorem ok_Mdl_step : ∀ g ∈ ck_Mdl_step, zx_okK 5 none prog_6_method_6_code g.2 = true := List.forall_mem_cons.mpr ⟨ok_Mdl_step_0, List.forall_mem_cons.mpr ⟨ok_Mdl_step_1, List.forall_mem_cons.mpr ⟨ok_Mdl_step_2, List.forall_mem_cons.mpr ⟨ok_Mdl_step_3, List.forall_mem_cons.mpr ⟨ok_Mdl_step_4, List.forall_mem_cons.mpr ⟨ok_Mdl_step_5, List.forall_mem_cons.mpr ⟨ok_Mdl_step_6, fun _ h => absurd h List.not_mem_nil⟩⟩⟩⟩⟩⟩⟩
theorem ok_Mdl_bringForward_0 : zx_okK 5 none prog_6_method_7_code ck_Mdl_bringForward_0 = true := by decide +kernel
theorem ok_Mdl_bringForward : ∀ g ∈ ck_Mdl_bringForward, zx_okK 5 none prog_6_method_7_code g.2 = true := List.forall_mem_cons.mpr ⟨ok_Mdl_bringForward_0, fun _ h => absurd h List.not_mem_nil⟩
theorem ok_Mdl_codeKind_0 : zx_okK 5 (some Jvm.ClassFile.FieldType.int) prog_6_method_8_code ck_Mdl_codeKind_0 = true := by decide +kernel
theorem ok_Mdl_codeKind_1 : zx_okK 5 (some Jvm.ClassFile.FieldType.int) prog_6_method_8_code ck_Mdl_codeKind_1 = true := by decide +kernel
theorem ok_Mdl_codeKind_2 : zx_okK 5 (some Jvm.ClassFile.FieldType.int) prog_6_method_8_code ck_Mdl_codeKind_2 = true := by decide +kernel
theorem ok_Mdl_codeKind_3 : zx_okK 5 (some Jvm.ClassFile.FieldType.int) prog_6_method_8_code ck_Mdl_codeKind_3 = true := by decide +kernel
theorem ok_Mdl_codeKind_4 : zx_okK 5 (some Jvm.ClassFile.FieldType.int) prog_6_method_8_code ck_Mdl_codeKind_4 = true := by decide +kernel
theorem ok_Mdl_codeKind : ∀ g ∈ ck_Mdl_codeKind, zx_okK 5 (some Jvm.ClassFile.FieldType.int) prog_6_method_8_code g.2 = true := List.forall_mem_cons.mpr ⟨ok_Mdl_codeKind_0, List.forall_mem_cons.mpr ⟨ok_Mdl_codeKind_1, List.forall_mem_cons.mpr ⟨ok_Mdl_codeKind_2, List.forall_mem_cons.mpr ⟨ok_Mdl_codeKind_3, List.forall_mem_cons.mpr ⟨ok_Mdl_codeKind_4, fun _ h => absurd h List.not_mem_nil⟩⟩⟩⟩⟩
theorem ok_Mdl_codeLiteral_0 : zx_okK 5 (some Jvm.ClassFile.FieldType.int) prog_6_method_9_code ck_Mdl_codeLiteral_0 = true := by decide +kernel
theorem ok_Mdl_codeLiteral_1 : zx_okK 5 (some Jvm.ClassFile.FieldType.int) prog_6_method_9_code ck_Mdl_codeLiteral_1 = true := by decide +kernel
theorem ok_Mdl_codeLiteral_2 : zx_okK 5 (some Jvm.ClassFile.FieldType.int) prog_6_method_9_code ck_Mdl_codeLiteral_2 = true := by decide +kernel
theorem ok_Mdl_codeLiteral : ∀ g ∈ ck_Mdl_codeLiteral, zx_okK 5 (some Jvm.ClassFile.FieldType.int) prog_6_method_9_code g.2 = true := List.forall_mem_cons.mpr ⟨ok_Mdl_codeLiteral_0, List.forall_mem_cons.mpr ⟨ok_Mdl_codeLiteral_1, List.forall_mem_cons.mpr ⟨ok_Mdl_codeLiteral_2, fun _ h => absurd h List.not_mem_nil⟩⟩⟩
theorem ok_Mdl_codeLength_0 : zx_okK 5 (some Jvm.ClassFile.FieldType.int) prog_6_method_10_code ck_Mdl_codeLength_0 = true := by decide +kernel
theorem ok_Mdl_codeLength_1 : zx_okK 5 (some Jvm.ClassFile.FieldType.int) prog_6_method_10_code ck_Mdl_codeLength_1 = true := by decide +kernel
theorem ok_Mdl_codeLength_2 : zx_okK 5 (some Jvm.ClassFile.FieldType.int) prog_6_method_10_code ck_Mdl_codeLength_2 = true := by decide +kernel
theorem ok_Mdl_codeLength_3 : zx_okK 5 (some Jvm.ClassFile.FieldType.int) prog_6_method_10_code ck_Mdl_codeLength_3 = true := by decide +kernel
theorem ok_Mdl_codeLength : ∀ g ∈ ck_Mdl_codeLength, zx_okK 5 (some Jvm.ClassFile.FieldType.int) prog_6_method_10_code g.2 = true := List.forall_mem_cons.mpr ⟨ok_Mdl_codeLength_0, List.forall_mem_cons.mpr ⟨ok_Mdl_codeLength_1, List.forall_mem_cons.mpr ⟨ok_Mdl_codeLength_2, List.forall_mem_cons.mpr ⟨ok_Mdl_codeLength_3, fun _ h => absurd h List.not_mem_nil⟩⟩⟩⟩
theorem ok_Mdl_codeDistance_0 : zx_okK 5 (some Jvm.ClassFile.FieldType.long) prog_6_method_11_code ck_Mdl_codeDistance_0 = true := by decide +kernel
theorem ok_Mdl_codeDistance_1 : zx_okK 5 (some Jvm.ClassFile.FieldType.long) prog_6_method_11_code ck_Mdl_codeDistance_1 = true := by decide +kernel
theorem ok_Mdl_codeDistance_2 : zx_okK 5 (some Jvm.ClassFile.FieldType.long) prog_6_method_11_code ck_Mdl_codeDistance_2 = true := by decide +kernel
theorem ok_Mdl_codeDistance_3 : zx_okK 5 (some Jvm.ClassFile.FieldType.long) prog_6_method_11_code ck_Mdl_codeDistance_3 = true := by decide +kernel
theorem ok_Mdl_codeDistance_4 : zx_okK 5 (some Jvm.ClassFile.FieldType.long) prog_6_method_11_code ck_Mdl_codeDistance_4 = true := by decide +kernel
theorem ok_Mdl_codeDistance : ∀ g ∈ ck_Mdl_codeDistance, zx_okK 5 (some Jvm.ClassFile.FieldType.long) prog_6_method_11_code g.2 = true := List.forall_mem_cons.mpr ⟨ok_Mdl_codeDistance_0, List.forall_mem_cons.mpr ⟨ok_Mdl_codeDistance_1, List.forall_mem_cons.mpr ⟨ok_Mdl_codeDistance_2, List.forall_mem_cons.mpr ⟨ok_Mdl_codeDistance_3, List.forall_mem_cons.mpr ⟨ok_Mdl_codeDistance_4, fun _ h => absurd h List.not_mem_nil⟩⟩⟩⟩⟩
theorem ok_Mdl_slotOf_0 : zx_okK 5 (some Jvm.ClassFile.FieldType.int) prog_6_method_12_code ck_Mdl_slotOf_0 = true := by decide +kernel
theorem ok_Mdl_slotOf_1 : zx_okK 5 (some Jvm.ClassFile.FieldType.int) prog_6_method_12_code ck_Mdl_slotOf_1 = true := by decide +kernel
theorem ok_Mdl_slotOf : ∀ g ∈ ck_Mdl_slotOf, zx_okK 5 (some Jvm.ClassFile.FieldType.int) prog_6_method_12_code g.2 = true := List.forall_mem_cons.mpr ⟨ok_Mdl_slotOf_0, List.forall_mem_cons.mpr ⟨ok_Mdl_slotOf_1, fun _ h => absurd h List.not_mem_nil⟩⟩
theorem ok_Mdl_codeTree_0 : zx_okK 5 (some Jvm.ClassFile.FieldType.int) prog_6_method_13_code ck_Mdl_codeTree_0 = true := by decide +kernel
theorem ok_Mdl_codeTree_1 : zx_okK 5 (some Jvm.ClassFile.FieldType.int) prog_6_method_13_code ck_Mdl_codeTree_1 = true := by decide +kernel
theorem ok_Mdl_codeTree : ∀ g ∈ ck_Mdl_codeTree, zx_okK 5 (some Jvm.ClassFile.FieldType.int) prog_6_method_13_code g.2 = true := List.forall_mem_cons.mpr ⟨ok_Mdl_codeTree_0, List.forall_mem_cons.mpr ⟨ok_Mdl_codeTree_1, fun _ h => absurd h List.not_mem_nil⟩⟩
theorem ok_Mdl_codeTreeBackwards_0 : zx_okK 5 (some Jvm.ClassFile.FieldType.int) prog_6_method_14_code ck_Mdl_codeTreeBackwards_0 = true := by decide +kernel
theorem ok_Mdl_codeTreeBackwards_1 : zx_okK 5 (some Jvm.ClassFile.FieldType.int) prog_6_method_14_code ck_Mdl_codeTreeBackwards_1 = true := by decide +kernel
theorem ok_Mdl_codeTreeBackwards : ∀ g ∈ ck_Mdl_codeTreeBackwards, zx_okK 5 (some Jvm.ClassFile.FieldType.int) prog_6_method_14_code g.2 = true := List.forall_mem_cons.mpr ⟨ok_Mdl_codeTreeBackwards_0, List.forall_mem_cons.mpr ⟨ok_Mdl_codeTreeBackwards_1, fun _ h => absurd h List.not_mem_nil⟩⟩
theorem ok_Unp_begin_0 : zx_okK 6 none prog_9_method_2_code ck_Unp_begin_0 = true := by decide +kernel
theorem ok_Unp_begin : ∀ g ∈ ck_Unp_begin, zx_okK 6 none prog_9_method_2_code g.2 = true := List.forall_mem_cons.mpr ⟨ok_Unp_begin_0, fun _ h => absurd h List.not_mem_nil⟩
theorem ok_Unp_readStart_0 : zx_okK 6 none prog_9_method_3_code ck_Unp_readStart_0 = true := by decide +kernel
theorem ok_Unp_readStart_1 : zx_okK 6 none prog_9_method_3_code ck_Unp_readStart_1 = true := by decide +kernel
theorem ok_Unp_readStart_2 : zx_okK 6 none prog_9_method_3_code ck_Unp_readStart_2 = true := by decide +kernel
theorem ok_Unp_readStart_3 : zx_okK 6 none prog_9_method_3_code ck_Unp_readStart_3 = true := by decide +kernel
theorem ok_Unp_readStart : ∀ g ∈ ck_Unp_readStart, zx_okK 6 none prog_9_method_3_code g.2 = true := List.forall_mem_cons.mpr ⟨ok_Unp_readStart_0, List.forall_mem_cons.mpr ⟨ok_Unp_readStart_1, List.forall_mem_cons.mpr ⟨ok_Unp_readStart_2, List.forall_mem_cons.mpr ⟨ok_Unp_readStart_3, fun _ h => absurd h List.not_mem_nil⟩⟩⟩⟩
theorem ok_Unp_comesBlock_0 : zx_okK 6 (some Jvm.ClassFile.FieldType.boolean) prog_9_method_4_code ck_Unp_comesBlock_0 = true := by decide +kernel
theorem ok_Unp_comesBlock : ∀ g ∈ ck_Unp_comesBlock, zx_okK 6 (some Jvm.ClassFile.FieldType.boolean) prog_9_method_4_code g.2 = true := List.forall_mem_cons.mpr ⟨ok_Unp_comesBlock_0, fun _ h => absurd h List.not_mem_nil⟩
theorem ok_Unp_readBlock_0 : zx_okK 6 none prog_9_method_5_code ck_Unp_readBlock_0 = true := by decide +kernel
theorem ok_Unp_readBlock_1 : zx_okK 6 none prog_9_method_5_code ck_Unp_readBlock_1 = true := by decide +kernel
theorem ok_Unp_readBlock_2 : zx_okK 6 none prog_9_method_5_code ck_Unp_readBlock_2 = true := by decide +kernel
theorem ok_Unp_readBlock : ∀ g ∈ ck_Unp_readBlock, zx_okK 6 none prog_9_method_5_code g.2 = true := List.forall_mem_cons.mpr ⟨ok_Unp_readBlock_0, List.forall_mem_cons.mpr ⟨ok_Unp_readBlock_1, List.forall_mem_cons.mpr ⟨ok_Unp_readBlock_2, fun _ h => absurd h List.not_mem_nil⟩⟩⟩
theorem ok_Unp_readHead_0 : zx_okK 6 none prog_9_method_6_code ck_Unp_readHead_0 = true := by decide +kernel
theorem ok_Unp_readHead_1 : zx_okK 6 none prog_9_method_6_code ck_Unp_readHead_1 = true := by decide +kernel
theorem ok_Unp_readHead_2 : zx_okK 6 none prog_9_method_6_code ck_Unp_readHead_2 = true := by decide +kernel
theorem ok_Unp_readHead_3 : zx_okK 6 none prog_9_method_6_code ck_Unp_readHead_3 = true := by decide +kernel
theorem ok_Unp_readHead : ∀ g ∈ ck_Unp_readHead, zx_okK 6 none prog_9_method_6_code g.2 = true := List.forall_mem_cons.mpr ⟨ok_Unp_readHead_0, List.forall_mem_cons.mpr ⟨ok_Unp_readHead_1, List.forall_mem_cons.mpr ⟨ok_Unp_readHead_2, List.forall_mem_cons.mpr ⟨ok_Unp_readHead_3, fun _ h => absurd h List.not_mem_nil⟩⟩⟩⟩
theorem ok_Unp_readHeadNumbers_0 : zx_okK 6 none prog_9_method_7_code ck_Unp_readHeadNumbers_0 = true := by decide +kernel
theorem ok_Unp_readHeadNumbers_1 : zx_okK 6 none prog_9_method_7_code ck_Unp_readHeadNumbers_1 = true := by decide +kernel
theorem ok_Unp_readHeadNumbers_2 : zx_okK 6 none prog_9_method_7_code ck_Unp_readHeadNumbers_2 = true := by decide +kernel
theorem ok_Unp_readHeadNumbers : ∀ g ∈ ck_Unp_readHeadNumbers, zx_okK 6 none prog_9_method_7_code g.2 = true := List.forall_mem_cons.mpr ⟨ok_Unp_readHeadNumbers_0, List.forall_mem_cons.mpr ⟨ok_Unp_readHeadNumbers_1, List.forall_mem_cons.mpr ⟨ok_Unp_readHeadNumbers_2, fun _ h => absurd h List.not_mem_nil⟩⟩⟩
theorem ok_Unp_readChunkHead_0 : zx_okK 6 none prog_9_method_8_code ck_Unp_readChunkHead_0 = true := by decide +kernel
theorem ok_Unp_readChunkHead_1 : zx_okK 6 none prog_9_method_8_code ck_Unp_readChunkHead_1 = true := by decide +kernel
theorem ok_Unp_readChunkHead_2 : zx_okK 6 none prog_9_method_8_code ck_Unp_readChunkHead_2 = true := by decide +kernel
theorem ok_Unp_readChunkHead_3 : zx_okK 6 none prog_9_method_8_code ck_Unp_readChunkHead_3 = true := by decide +kernel
theorem ok_Unp_readChunkHead : ∀ g ∈ ck_Unp_readChunkHead, zx_okK 6 none prog_9_method_8_code g.2 = true := List.forall_mem_cons.mpr ⟨ok_Unp_readChunkHead_0, List.forall_mem_cons.mpr ⟨ok_Unp_readChunkHead_1, List.forall_mem_cons.mpr ⟨ok_Unp_readChunkHead_2, List.forall_mem_cons.mpr ⟨ok_Unp_readChunkHead_3, fun _ h => absurd h List.not_mem_nil⟩⟩⟩⟩
theorem ok_Unp_empties_0 : zx_okK 6 (some Jvm.ClassFile.FieldType.boolean) prog_9_method_9_code ck_Unp_empties_0 = true := by decide +kernel
theorem ok_Unp_empties : ∀ g ∈ ck_Unp_empties, zx_okK 6 (some Jvm.ClassFile.FieldType.boolean) prog_9_method_9_code g.2 = true := List.forall_mem_cons.mpr ⟨ok_Unp_empties_0, fun _ h => absurd h List.not_mem_nil⟩
theorem ok_Unp_isAllowed_0 : zx_okK 6 (some Jvm.ClassFile.FieldType.boolean) prog_9_method_10_code ck_Unp_isAllowed_0 = true := by decide +kernel
theorem ok_Unp_isAllowed_1 : zx_okK 6 (some Jvm.ClassFile.FieldType.boolean) prog_9_method_10_code ck_Unp_isAllowed_1 = true := by decide +kernel
theorem ok_Unp_isAllowed : ∀ g ∈ ck_Unp_isAllowed, zx_okK 6 (some Jvm.ClassFile.FieldType.boolean) prog_9_method_10_code g.2 = true := List.forall_mem_cons.mpr ⟨ok_Unp_isAllowed_0, List.forall_mem_cons.mpr ⟨ok_Unp_isAllowed_1, fun _ h => absurd h List.not_mem_nil⟩⟩
theorem ok_Unp_readProperties_0 : zx_okK 6 none prog_9_method_11_code ck_Unp_readProperties_0 = true := by decide +kernel
theorem ok_Unp_readProperties_1 : zx_okK 6 none prog_9_method_11_code ck_Unp_readProperties_1 = true := by decide +kernel
theorem ok_Unp_readProperties_2 : zx_okK 6 none prog_9_method_11_code ck_Unp_readProperties_2 = true := by decide +kernel
theorem ok_Unp_readProperties : ∀ g ∈ ck_Unp_readProperties, zx_okK 6 none prog_9_method_11_code g.2 = true := List.forall_mem_cons.mpr ⟨ok_Unp_readProperties_0, List.forall_mem_cons.mpr ⟨ok_Unp_readProperties_1, List.forall_mem_cons.mpr ⟨ok_Unp_readProperties_2, fun _ h => absurd h List.not_mem_nil⟩⟩⟩
theorem ok_Unp_hasBytesAndRoom_0 : zx_okK 6 (some Jvm.ClassFile.FieldType.boolean) prog_9_method_12_code ck_Unp_hasBytesAndRoom_0 = true := by decide +kernel
theorem ok_Unp_hasBytesAndRoom : ∀ g ∈ ck_Unp_hasBytesAndRoom, zx_okK 6 (some Jvm.ClassFile.FieldType.boolean) prog_9_method_12_code g.2 = true := List.forall_mem_cons.mpr ⟨ok_Unp_hasBytesAndRoom_0, fun _ h => absurd h List.not_mem_nil⟩
theorem ok_Unp_givePlain_0 : zx_okK 6 none prog_9_method_13_code ck_Unp_givePlain_0 = true := by decide +kernel
theorem ok_Unp_givePlain_1 : zx_okK 6 none prog_9_method_13_code ck_Unp_givePlain_1 = true := by decide +kernel
theorem ok_Unp_givePlain : ∀ g ∈ ck_Unp_givePlain, zx_okK 6 none prog_9_method_13_code g.2 = true := List.forall_mem_cons.mpr ⟨ok_Unp_givePlain_0, List.forall_mem_cons.mpr ⟨ok_Unp_givePlain_1, fun _ h => absurd h List.not_mem_nil⟩⟩
theorem ok_Unp_giveCoded_0 : zx_okK 6 none prog_9_method_14_code ck_Unp_giveCoded_0 = true := by decide +kernel
theorem ok_Unp_giveCoded_1 : zx_okK 6 none prog_9_method_14_code ck_Unp_giveCoded_1 = true := by decide +kernel
theorem ok_Unp_giveCoded_2 : zx_okK 6 none prog_9_method_14_code ck_Unp_giveCoded_2 = true := by decide +kernel
theorem ok_Unp_giveCoded_3 : zx_okK 6 none prog_9_method_14_code ck_Unp_giveCoded_3 = true := by decide +kernel
theorem ok_Unp_giveCoded_4 : zx_okK 6 none prog_9_method_14_code ck_Unp_giveCoded_4 = true := by decide +kernel
theorem ok_Unp_giveCoded_5 : zx_okK 6 none prog_9_method_14_code ck_Unp_giveCoded_5 = true := by decide +kernel
theorem ok_Unp_giveCoded : ∀ g ∈ ck_Unp_giveCoded, zx_okK 6 none prog_9_method_14_code g.2 = true := List.forall_mem_cons.mpr ⟨ok_Unp_giveCoded_0, List.forall_mem_cons.mpr ⟨ok_Unp_giveCoded_1, List.forall_mem_cons.mpr ⟨ok_Unp_giveCoded_2, List.forall_mem_cons.mpr ⟨ok_Unp_giveCoded_3, List.forall_mem_cons.mpr ⟨ok_Unp_giveCoded_4, List.forall_mem_cons.mpr ⟨ok_Unp_giveCoded_5, fun _ h => absurd h List.not_mem_nil⟩⟩⟩⟩⟩⟩
theorem ok_Unp_giveStep_0 : zx_okK 6 (some Jvm.ClassFile.FieldType.boolean) prog_9_method_15_code ck_Unp_giveStep_0 = true := by decide +kernel
theorem ok_Unp_giveStep_1 : zx_okK 6 (some Jvm.ClassFile.FieldType.boolean) prog_9_method_15_code ck_Unp_giveStep_1 = true := by decide +kernel
theorem ok_Unp_giveStep : ∀ g ∈ ck_Unp_giveStep, zx_okK 6 (some Jvm.ClassFile.FieldType.boolean) prog_9_method_15_code g.2 = true := List.forall_mem_cons.mpr ⟨ok_Unp_giveStep_0, List.forall_mem_cons.mpr ⟨ok_Unp_giveStep_1, fun _ h => absurd h List.not_mem_nil⟩⟩
theorem ok_Unp_closeBlock_0 : zx_okK 6 none prog_9_method_16_code ck_Unp_closeBlock_0 = true := by decide +kernel
theorem ok_Unp_closeBlock_1 : zx_okK 6 none prog_9_method_16_code ck_Unp_closeBlock_1 = true := by decide +kernel
theorem ok_Unp_closeBlock_2 : zx_okK 6 none prog_9_method_16_code ck_Unp_closeBlock_2 = true := by decide +kernel
theorem ok_Unp_closeBlock_3 : zx_okK 6 none prog_9_method_16_code ck_Unp_closeBlock_3 = true := by decide +kernel
theorem ok_Unp_closeBlock_4 : zx_okK 6 none prog_9_method_16_code ck_Unp_closeBlock_4 = true := by decide +kernel
theorem ok_Unp_closeBlock_5 : zx_okK 6 none prog_9_method_16_code ck_Unp_closeBlock_5 = true := by decide +kernel
theorem ok_Unp_closeBlock : ∀ g ∈ ck_Unp_closeBlock, zx_okK 6 none prog_9_method_16_code g.2 = true := List.forall_mem_cons.mpr ⟨ok_Unp_closeBlock_0, List.forall_mem_cons.mpr ⟨ok_Unp_closeBlock_1, List.forall_mem_cons.mpr ⟨ok_Unp_closeBlock_2, List.forall_mem_cons.mpr ⟨ok_Unp_closeBlock_3, List.forall_mem_cons.mpr ⟨ok_Unp_closeBlock_4, List.forall_mem_cons.mpr ⟨ok_Unp_closeBlock_5, fun _ h => absurd h List.not_mem_nil⟩⟩⟩⟩⟩⟩
theorem ok_Unp_readIndex_0 : zx_okK 6 none prog_9_method_17_code ck_Unp_readIndex_0 = true := by decide +kernel
theorem ok_Unp_readIndex_1 : zx_okK 6 none prog_9_method_17_code ck_Unp_readIndex_1 = true := by decide +kernel
theorem ok_Unp_readIndex_2 : zx_okK 6 none prog_9_method_17_code ck_Unp_readIndex_2 = true := by decide +kernel
theorem ok_Unp_readIndex_3 : zx_okK 6 none prog_9_method_17_code ck_Unp_readIndex_3 = true := by decide +kernel
theorem ok_Unp_readIndex : ∀ g ∈ ck_Unp_readIndex, zx_okK 6 none prog_9_method_17_code g.2 = true := List.forall_mem_cons.mpr ⟨ok_Unp_readIndex_0, List.forall_mem_cons.mpr ⟨ok_Unp_readIndex_1, List.forall_mem_cons.mpr ⟨ok_Unp_readIndex_2, List.forall_mem_cons.mpr ⟨ok_Unp_readIndex_3, fun _ h => absurd h List.not_mem_nil⟩⟩⟩⟩
theorem ok_Unp_readEnd_0 : zx_okK 6 none prog_9_method_18_code ck_Unp_readEnd_0 = true := by decide +kernel
theorem ok_Unp_readEnd_1 : zx_okK 6 none prog_9_method_18_code ck_Unp_readEnd_1 = true := by decide +kernel
theorem ok_Unp_readEnd_2 : zx_okK 6 none prog_9_method_18_code ck_Unp_readEnd_2 = true := by decide +kernel
theorem ok_Unp_readEnd_3 : zx_okK 6 none prog_9_method_18_code ck_Unp_readEnd_3 = true := by decide +kernel
theorem ok_Unp_readEnd_4 : zx_okK 6 none prog_9_method_18_code ck_Unp_readEnd_4 = true := by decide +kernel
theorem ok_Unp_readEnd : ∀ g ∈ ck_Unp_readEnd, zx_okK 6 none prog_9_method_18_code g.2 = true := List.forall_mem_cons.mpr ⟨ok_Unp_readEnd_0, List.forall_mem_cons.mpr ⟨ok_Unp_readEnd_1, List.forall_mem_cons.mpr ⟨ok_Unp_readEnd_2, List.forall_mem_cons.mpr ⟨ok_Unp_readEnd_3, List.forall_mem_cons.mpr ⟨ok_Unp_readEnd_4, fun _ h => absurd h List.not_mem_nil⟩⟩⟩⟩⟩
theorem ok_Pkg_begin_0 : zx_okK 7 none prog_7_method_2_code ck_Pkg_begin_0 = true := by decide +kernel
theorem ok_Pkg_begin_1 : zx_okK 7 none prog_7_method_2_code ck_Pkg_begin_1 = true := by decide +kernel
theorem ok_Pkg_begin : ∀ g ∈ ck_Pkg_begin, zx_okK 7 none prog_7_method_2_code g.2 = true := List.forall_mem_cons.mpr ⟨ok_Pkg_begin_0, List.forall_mem_cons.mpr ⟨ok_Pkg_begin_1, fun _ h => absurd h List.not_mem_nil⟩⟩
theorem ok_Pkg_writeHead_0 : zx_okK 7 none prog_7_method_3_code ck_Pkg_writeHead_0 = true := by decide +kernel
theorem ok_Pkg_writeHead_1 : zx_okK 7 none prog_7_method_3_code ck_Pkg_writeHead_1 = true := by decide +kernel
theorem ok_Pkg_writeHead_2 : zx_okK 7 none prog_7_method_3_code ck_Pkg_writeHead_2 = true := by decide +kernel
theorem ok_Pkg_writeHead : ∀ g ∈ ck_Pkg_writeHead, zx_okK 7 none prog_7_method_3_code g.2 = true := List.forall_mem_cons.mpr ⟨ok_Pkg_writeHead_0, List.forall_mem_cons.mpr ⟨ok_Pkg_writeHead_1, List.forall_mem_cons.mpr ⟨ok_Pkg_writeHead_2, fun _ h => absurd h List.not_mem_nil⟩⟩⟩
theorem ok_Pkg_writePiece_0 : zx_okK 7 none prog_7_method_4_code ck_Pkg_writePiece_0 = true := by decide +kernel
theorem ok_Pkg_writePiece_1 : zx_okK 7 none prog_7_method_4_code ck_Pkg_writePiece_1 = true := by decide +kernel
theorem ok_Pkg_writePiece : ∀ g ∈ ck_Pkg_writePiece, zx_okK 7 none prog_7_method_4_code g.2 = true := List.forall_mem_cons.mpr ⟨ok_Pkg_writePiece_0, List.forall_mem_cons.mpr ⟨ok_Pkg_writePiece_1, fun _ h => absurd h List.not_mem_nil⟩⟩
theorem ok_Pkg_writePlain_0 : zx_okK 7 none prog_7_method_5_code ck_Pkg_writePlain_0 = true := by decide +kernel
theorem ok_Pkg_writePlain_1 : zx_okK 7 none prog_7_method_5_code ck_Pkg_writePlain_1 = true := by decide +kernel
theorem ok_Pkg_writePlain : ∀ g ∈ ck_Pkg_writePlain, zx_okK 7 none prog_7_method_5_code g.2 = true := List.forall_mem_cons.mpr ⟨ok_Pkg_writePlain_0, List.forall_mem_cons.mpr ⟨ok_Pkg_writePlain_1, fun _ h => absurd h List.not_mem_nil⟩⟩
theorem ok_Pkg_writeCoded_0 : zx_okK 7 none prog_7_method_6_code ck_Pkg_writeCoded_0 = true := by decide +kernel
theorem ok_Pkg_writeCoded_1 : zx_okK 7 none prog_7_method_6_code ck_Pkg_writeCoded_1 = true := by decide +kernel
theorem ok_Pkg_writeCoded_2 : zx_okK 7 none prog_7_method_6_code ck_Pkg_writeCoded_2 = true := by decide +kernel
theorem ok_Pkg_writeCoded : ∀ g ∈ ck_Pkg_writeCoded, zx_okK 7 none prog_7_method_6_code g.2 = true := List.forall_mem_cons.mpr ⟨ok_Pkg_writeCoded_0, List.forall_mem_cons.mpr ⟨ok_Pkg_writeCoded_1, List.forall_mem_cons.mpr ⟨ok_Pkg_writeCoded_2, fun _ h => absurd h List.not_mem_nil⟩⟩⟩
theorem ok_Pkg_appendTwo_0 : zx_okK 7 none prog_7_method_7_code ck_Pkg_appendTwo_0 = true := by decide +kernel
theorem ok_Pkg_appendTwo : ∀ g ∈ ck_Pkg_appendTwo, zx_okK 7 none prog_7_method_7_code g.2 = true := List.forall_mem_cons.mpr ⟨ok_Pkg_appendTwo_0, fun _ h => absurd h List.not_mem_nil⟩
theorem ok_Pkg_encode_0 : zx_okK 7 (some Jvm.ClassFile.FieldType.boolean) prog_7_method_8_code ck_Pkg_encode_0 = true := by decide +kernel
theorem ok_Pkg_encode_1 : zx_okK 7 (some Jvm.ClassFile.FieldType.boolean) prog_7_method_8_code ck_Pkg_encode_1 = true := by decide +kernel
theorem ok_Pkg_encode_2 : zx_okK 7 (some Jvm.ClassFile.FieldType.boolean) prog_7_method_8_code ck_Pkg_encode_2 = true := by decide +kernel
theorem ok_Pkg_encode_3 : zx_okK 7 (some Jvm.ClassFile.FieldType.boolean) prog_7_method_8_code ck_Pkg_encode_3 = true := by decide +kernel
theorem ok_Pkg_encode : ∀ g ∈ ck_Pkg_encode, zx_okK 7 (some Jvm.ClassFile.FieldType.boolean) prog_7_method_8_code g.2 = true := List.forall_mem_cons.mpr ⟨ok_Pkg_encode_0, List.forall_mem_cons.mpr ⟨ok_Pkg_encode_1, List.forall_mem_cons.mpr ⟨ok_Pkg_encode_2, List.forall_mem_cons.mpr ⟨ok_Pkg_encode_3, fun _ h => absurd h List.not_mem_nil⟩⟩⟩⟩
theorem ok_Pkg_choose_0 : zx_okK 7 none prog_7_method_9_code ck_Pkg_choose_0 = true := by decide +kernel
theorem ok_Pkg_choose_1 : zx_okK 7 none prog_7_method_9_code ck_Pkg_choose_1 = true := by decide +kernel
theorem ok_Pkg_choose_2 : zx_okK 7 none prog_7_method_9_code ck_Pkg_choose_2 = true := by decide +kernel
theorem ok_Pkg_choose_3 : zx_okK 7 none prog_7_method_9_code ck_Pkg_choose_3 = true := by decide +kernel
theorem ok_Pkg_choose : ∀ g ∈ ck_Pkg_choose, zx_okK 7 none prog_7_method_9_code g.2 = true := List.forall_mem_cons.mpr ⟨ok_Pkg_choose_0, List.forall_mem_cons.mpr ⟨ok_Pkg_choose_1, List.forall_mem_cons.mpr ⟨ok_Pkg_choose_2, List.forall_mem_cons.mpr ⟨ok_Pkg_choose_3, fun _ h => absurd h List.not_mem_nil⟩⟩⟩⟩
theorem ok_Pkg_searchMatch_0 : zx_okK 7 none prog_7_method_10_code ck_Pkg_searchMatch_0 = true := by decide +kernel
theorem ok_Pkg_searchMatch_1 : zx_okK 7 none prog_7_method_10_code ck_Pkg_searchMatch_1 = true := by decide +kernel
theorem ok_Pkg_searchMatch : ∀ g ∈ ck_Pkg_searchMatch, zx_okK 7 none prog_7_method_10_code g.2 = true := List.forall_mem_cons.mpr ⟨ok_Pkg_searchMatch_0, List.forall_mem_cons.mpr ⟨ok_Pkg_searchMatch_1, fun _ h => absurd h List.not_mem_nil⟩⟩
theorem ok_Pkg_searchAgain_0 : zx_okK 7 none prog_7_method_11_code ck_Pkg_searchAgain_0 = true := by decide +kernel
theorem ok_Pkg_searchAgain_1 : zx_okK 7 none prog_7_method_11_code ck_Pkg_searchAgain_1 = true := by decide +kernel
theorem ok_Pkg_searchAgain : ∀ g ∈ ck_Pkg_searchAgain, zx_okK 7 none prog_7_method_11_code g.2 = true := List.forall_mem_cons.mpr ⟨ok_Pkg_searchAgain_0, List.forall_mem_cons.mpr ⟨ok_Pkg_searchAgain_1, fun _ h => absurd h List.not_mem_nil⟩⟩
theorem ok_Pkg_sameBytes_0 : zx_okK 7 (some Jvm.ClassFile.FieldType.int) prog_7_method_12_code ck_Pkg_sameBytes_0 = true := by decide +kernel
theorem ok_Pkg_sameBytes_1 : zx_okK 7 (some Jvm.ClassFile.FieldType.int) prog_7_method_12_code ck_Pkg_sameBytes_1 = true := by decide +kernel
theorem ok_Pkg_sameBytes : ∀ g ∈ ck_Pkg_sameBytes, zx_okK 7 (some Jvm.ClassFile.FieldType.int) prog_7_method_12_code g.2 = true := List.forall_mem_cons.mpr ⟨ok_Pkg_sameBytes_0, List.forall_mem_cons.mpr ⟨ok_Pkg_sameBytes_1, fun _ h => absurd h List.not_mem_nil⟩⟩
theorem ok_Pkg_closeBlock_0 : zx_okK 7 none prog_7_method_13_code ck_Pkg_closeBlock_0 = true := by decide +kernel
theorem ok_Pkg_closeBlock_1 : zx_okK 7 none prog_7_method_13_code ck_Pkg_closeBlock_1 = true := by decide +kernel
theorem ok_Pkg_closeBlock_2 : zx_okK 7 none prog_7_method_13_code ck_Pkg_closeBlock_2 = true := by decide +kernel
theorem ok_Pkg_closeBlock : ∀ g ∈ ck_Pkg_closeBlock, zx_okK 7 none prog_7_method_13_code g.2 = true := List.forall_mem_cons.mpr ⟨ok_Pkg_closeBlock_0, List.forall_mem_cons.mpr ⟨ok_Pkg_closeBlock_1, List.forall_mem_cons.mpr ⟨ok_Pkg_closeBlock_2, fun _ h => absurd h List.not_mem_nil⟩⟩⟩
theorem ok_Pkg_fillUp_0 : zx_okK 7 none prog_7_method_14_code ck_Pkg_fillUp_0 = true := by decide +kernel
theorem ok_Pkg_fillUp : ∀ g ∈ ck_Pkg_fillUp, zx_okK 7 none prog_7_method_14_code g.2 = true := List.forall_mem_cons.mpr ⟨ok_Pkg_fillUp_0, fun _ h => absurd h List.not_mem_nil⟩
theorem ok_Pkg_appendNumber_0 : zx_okK 7 none prog_7_method_15_code ck_Pkg_appendNumber_0 = true := by decide +kernel
theorem ok_Pkg_appendNumber_1 : zx_okK 7 none prog_7_method_15_code ck_Pkg_appendNumber_1 = true := by decide +kernel
theorem ok_Pkg_appendNumber : ∀ g ∈ ck_Pkg_appendNumber, zx_okK 7 none prog_7_method_15_code g.2 = true := List.forall_mem_cons.mpr ⟨ok_Pkg_appendNumber_0, List.forall_mem_cons.mpr ⟨ok_Pkg_appendNumber_1, fun _ h => absurd h List.not_mem_nil⟩⟩
theorem ok_Pkg_writeIndex_0 : zx_okK 7 none prog_7_method_16_code ck_Pkg_writeIndex_0 = true := by decide +kernel
theorem ok_Pkg_writeIndex_1 : zx_okK 7 none prog_7_method_16_code ck_Pkg_writeIndex_1 = true := by decide +kernel
theorem ok_Pkg_writeIndex_2 : zx_okK 7 none prog_7_method_16_code ck_Pkg_writeIndex_2 = true := by decide +kernel
theorem ok_Pkg_writeIndex : ∀ g ∈ ck_Pkg_writeIndex, zx_okK 7 none prog_7_method_16_code g.2 = true := List.forall_mem_cons.mpr ⟨ok_Pkg_writeIndex_0, List.forall_mem_cons.mpr ⟨ok_Pkg_writeIndex_1, List.forall_mem_cons.mpr ⟨ok_Pkg_writeIndex_2, fun _ h => absurd h List.not_mem_nil⟩⟩⟩
theorem ok_Pkg_writeEnd_0 : zx_okK 7 none prog_7_method_17_code ck_Pkg_writeEnd_0 = true := by decide +kernel
theorem ok_Pkg_writeEnd_1 : zx_okK 7 none prog_7_method_17_code ck_Pkg_writeEnd_1 = true := by decide +kernel
theorem ok_Pkg_writeEnd : ∀ g ∈ ck_Pkg_writeEnd, zx_okK 7 none prog_7_method_17_code g.2 = true := List.forall_mem_cons.mpr ⟨ok_Pkg_writeEnd_0, List.forall_mem_cons.mpr ⟨ok_Pkg_writeEnd_1, fun _ h => absurd h List.not_mem_nil⟩⟩
theorem ok_R_feed_0 : zx_okK 8 (some Jvm.ClassFile.FieldType.int) prog_11_method_2_code ck_R_feed_0 = true := by decide +kernel
theorem ok_R_feed_1 : zx_okK 8 (some Jvm.ClassFile.FieldType.int) prog_11_method_2_code ck_R_feed_1 = true := by decide +kernel
theorem ok_R_feed_2 : zx_okK 8 (some Jvm.ClassFile.FieldType.int) prog_11_method_2_code ck_R_feed_2 = true := by decide +kernel
theorem ok_R_feed_3 : zx_okK 8 (some Jvm.ClassFile.FieldType.int) prog_11_method_2_code ck_R_feed_3 = true := by decide +kernel
theorem ok_R_feed : ∀ g ∈ ck_R_feed, zx_okK 8 (some Jvm.ClassFile.FieldType.int) prog_11_method_2_code g.2 = true := List.forall_mem_cons.mpr ⟨ok_R_feed_0, List.forall_mem_cons.mpr ⟨ok_R_feed_1, List.forall_mem_cons.mpr ⟨ok_R_feed_2, List.forall_mem_cons.mpr ⟨ok_R_feed_3, fun _ h => absurd h List.not_mem_nil⟩⟩⟩⟩
theorem ok_R_copy_0 : zx_okK 8 (some Jvm.ClassFile.FieldType.int) prog_11_method_3_code ck_R_copy_0 = true := by decide +kernel
theorem ok_R_copy_1 : zx_okK 8 (some Jvm.ClassFile.FieldType.int) prog_11_method_3_code ck_R_copy_1 = true := by decide +kernel
theorem ok_R_copy_2 : zx_okK 8 (some Jvm.ClassFile.FieldType.int) prog_11_method_3_code ck_R_copy_2 = true := by decide +kernel
theorem ok_R_copy : ∀ g ∈ ck_R_copy, zx_okK 8 (some Jvm.ClassFile.FieldType.int) prog_11_method_3_code g.2 = true := List.forall_mem_cons.mpr ⟨ok_R_copy_0, List.forall_mem_cons.mpr ⟨ok_R_copy_1, List.forall_mem_cons.mpr ⟨ok_R_copy_2, fun _ h => absurd h List.not_mem_nil⟩⟩⟩
theorem ok_R_cut_0 : zx_okK 8 (some Jvm.ClassFile.FieldType.int) prog_11_method_4_code ck_R_cut_0 = true := by decide +kernel
theorem ok_R_cut_1 : zx_okK 8 (some Jvm.ClassFile.FieldType.int) prog_11_method_4_code ck_R_cut_1 = true := by decide +kernel
theorem ok_R_cut : ∀ g ∈ ck_R_cut, zx_okK 8 (some Jvm.ClassFile.FieldType.int) prog_11_method_4_code g.2 = true := List.forall_mem_cons.mpr ⟨ok_R_cut_0, List.forall_mem_cons.mpr ⟨ok_R_cut_1, fun _ h => absurd h List.not_mem_nil⟩⟩
theorem ok_R_change_0 : zx_okK 8 (some Jvm.ClassFile.FieldType.int) prog_11_method_5_code ck_R_change_0 = true := by decide +kernel
theorem ok_R_change_1 : zx_okK 8 (some Jvm.ClassFile.FieldType.int) prog_11_method_5_code ck_R_change_1 = true := by decide +kernel
theorem ok_R_change : ∀ g ∈ ck_R_change, zx_okK 8 (some Jvm.ClassFile.FieldType.int) prog_11_method_5_code g.2 = true := List.forall_mem_cons.mpr ⟨ok_R_change_0, List.forall_mem_cons.mpr ⟨ok_R_change_1, fun _ h => absurd h List.not_mem_nil⟩⟩
theorem ok_R_at_0 : zx_okK 8 (some Jvm.ClassFile.FieldType.int) prog_11_method_6_code ck_R_at_0 = true := by decide +kernel
theorem ok_R_at_1 : zx_okK 8 (some Jvm.ClassFile.FieldType.int) prog_11_method_6_code ck_R_at_1 = true := by decide +kernel
theorem ok_R_at : ∀ g ∈ ck_R_at, zx_okK 8 (some Jvm.ClassFile.FieldType.int) prog_11_method_6_code g.2 = true := List.forall_mem_cons.mpr ⟨ok_R_at_0, List.forall_mem_cons.mpr ⟨ok_R_at_1, fun _ h => absurd h List.not_mem_nil⟩⟩
theorem ok_R_four_0 : zx_okK 8 (some Jvm.ClassFile.FieldType.long) prog_11_method_7_code ck_R_four_0 = true := by decide +kernel
theorem ok_R_four_1 : zx_okK 8 (some Jvm.ClassFile.FieldType.long) prog_11_method_7_code ck_R_four_1 = true := by decide +kernel
theorem ok_R_four : ∀ g ∈ ck_R_four, zx_okK 8 (some Jvm.ClassFile.FieldType.long) prog_11_method_7_code g.2 = true := List.forall_mem_cons.mpr ⟨ok_R_four_0, List.forall_mem_cons.mpr ⟨ok_R_four_1, fun _ h => absurd h List.not_mem_nil⟩⟩
theorem ok_R_eight_0 : zx_okK 8 (some Jvm.ClassFile.FieldType.long) prog_11_method_8_code ck_R_eight_0 = true := by decide +kernel
theorem ok_R_eight_1 : zx_okK 8 (some Jvm.ClassFile.FieldType.long) prog_11_method_8_code ck_R_eight_1 = true := by decide +kernel
theorem ok_R_eight : ∀ g ∈ ck_R_eight, zx_okK 8 (some Jvm.ClassFile.FieldType.long) prog_11_method_8_code g.2 = true := List.forall_mem_cons.mpr ⟨ok_R_eight_0, List.forall_mem_cons.mpr ⟨ok_R_eight_1, fun _ h => absurd h List.not_mem_nil⟩⟩
theorem ok_R_fourOfPacked_0 : zx_okK 8 (some Jvm.ClassFile.FieldType.long) prog_11_method_9_code ck_R_fourOfPacked_0 = true := by decide +kernel
theorem ok_R_fourOfPacked : ∀ g ∈ ck_R_fourOfPacked, zx_okK 8 (some Jvm.ClassFile.FieldType.long) prog_11_method_9_code g.2 = true := List.forall_mem_cons.mpr ⟨ok_R_fourOfPacked_0, fun _ h => absurd h List.not_mem_nil⟩
theorem ok_R_fourOfMade_0 : zx_okK 8 (some Jvm.ClassFile.FieldType.long) prog_11_method_10_code ck_R_fourOfMade_0 = true := by decide +kernel
theorem ok_R_fourOfMade : ∀ g ∈ ck_R_fourOfMade, zx_okK 8 (some Jvm.ClassFile.FieldType.long) prog_11_method_10_code g.2 = true := List.forall_mem_cons.mpr ⟨ok_R_fourOfMade_0, fun _ h => absurd h List.not_mem_nil⟩
theorem ok_R_eightOfMade_0 : zx_okK 8 (some Jvm.ClassFile.FieldType.long) prog_11_method_11_code ck_R_eightOfMade_0 = true := by decide +kernel
theorem ok_R_eightOfMade : ∀ g ∈ ck_R_eightOfMade, zx_okK 8 (some Jvm.ClassFile.FieldType.long) prog_11_method_11_code g.2 = true := List.forall_mem_cons.mpr ⟨ok_R_eightOfMade_0, fun _ h => absurd h List.not_mem_nil⟩
theorem ok_R_sum_0 : zx_okK 8 (some Jvm.ClassFile.FieldType.long) prog_11_method_12_code ck_R_sum_0 = true := by decide +kernel
theorem ok_R_sum_1 : zx_okK 8 (some Jvm.ClassFile.FieldType.long) prog_11_method_12_code ck_R_sum_1 = true := by decide +kernel
theorem ok_R_sum : ∀ g ∈ ck_R_sum, zx_okK 8 (some Jvm.ClassFile.FieldType.long) prog_11_method_12_code g.2 = true := List.forall_mem_cons.mpr ⟨ok_R_sum_0, List.forall_mem_cons.mpr ⟨ok_R_sum_1, fun _ h => absurd h List.not_mem_nil⟩⟩
theorem ok_R_fail_0 : zx_okK 8 none prog_11_method_13_code ck_R_fail_0 = true := by decide +kernel
theorem ok_R_fail : ∀ g ∈ ck_R_fail, zx_okK 8 none prog_11_method_13_code g.2 = true := List.forall_mem_cons.mpr ⟨ok_R_fail_0, fun _ h => absurd h List.not_mem_nil⟩
theorem ok_R_has_0 : zx_okK 8 (some Jvm.ClassFile.FieldType.boolean) prog_11_method_14_code ck_R_has_0 = true := by decide +kernel
theorem ok_R_has : ∀ g ∈ ck_R_has, zx_okK 8 (some Jvm.ClassFile.FieldType.boolean) prog_11_method_14_code g.2 = true := List.forall_mem_cons.mpr ⟨ok_R_has_0, fun _ h => absurd h List.not_mem_nil⟩
theorem ok_R_number_0 : zx_okK 8 (some Jvm.ClassFile.FieldType.long) prog_11_method_15_code ck_R_number_0 = true := by decide +kernel
theorem ok_R_number : ∀ g ∈ ck_R_number, zx_okK 8 (some Jvm.ClassFile.FieldType.long) prog_11_method_15_code g.2 = true := List.forall_mem_cons.mpr ⟨ok_R_number_0, fun _ h => absurd h List.not_mem_nil⟩
theorem ok_R_sumOf_0 : zx_okK 8 none prog_11_method_16_code ck_R_sumOf_0 = true := by decide +kernel
theorem ok_R_sumOf_1 : zx_okK 8 none prog_11_method_16_code ck_R_sumOf_1 = true := by decide +kernel
theorem ok_R_sumOf : ∀ g ∈ ck_R_sumOf, zx_okK 8 none prog_11_method_16_code g.2 = true := List.forall_mem_cons.mpr ⟨ok_R_sumOf_0, List.forall_mem_cons.mpr ⟨ok_R_sumOf_1, fun _ h => absurd h List.not_mem_nil⟩⟩
theorem ok_R_vli_0 : zx_okK 8 (some Jvm.ClassFile.FieldType.long) prog_11_method_17_code ck_R_vli_0 = true := by decide +kernel
theorem ok_R_vli_1 : zx_okK 8 (some Jvm.ClassFile.FieldType.long) prog_11_method_17_code ck_R_vli_1 = true := by decide +kernel
theorem ok_R_vli_2 : zx_okK 8 (some Jvm.ClassFile.FieldType.long) prog_11_method_17_code ck_R_vli_2 = true := by decide +kernel
theorem ok_R_vli : ∀ g ∈ ck_R_vli, zx_okK 8 (some Jvm.ClassFile.FieldType.long) prog_11_method_17_code g.2 = true := List.forall_mem_cons.mpr ⟨ok_R_vli_0, List.forall_mem_cons.mpr ⟨ok_R_vli_1, List.forall_mem_cons.mpr ⟨ok_R_vli_2, fun _ h => absurd h List.not_mem_nil⟩⟩⟩
theorem ok_R_zeros_0 : zx_okK 8 none prog_11_method_18_code ck_R_zeros_0 = true := by decide +kernel
theorem ok_R_zeros_1 : zx_okK 8 none prog_11_method_18_code ck_R_zeros_1 = true := by decide +kernel
theorem ok_R_zeros : ∀ g ∈ ck_R_zeros, zx_okK 8 none prog_11_method_18_code g.2 = true := List.forall_mem_cons.mpr ⟨ok_R_zeros_0, List.forall_mem_cons.mpr ⟨ok_R_zeros_1, fun _ h => absurd h List.not_mem_nil⟩⟩
theorem ok_R_magic_0 : zx_okK 8 (some Jvm.ClassFile.FieldType.int) prog_11_method_19_code ck_R_magic_0 = true := by decide +kernel
theorem ok_R_magic_1 : zx_okK 8 (some Jvm.ClassFile.FieldType.int) prog_11_method_19_code ck_R_magic_1 = true := by decide +kernel
theorem ok_R_magic : ∀ g ∈ ck_R_magic, zx_okK 8 (some Jvm.ClassFile.FieldType.int) prog_11_method_19_code g.2 = true := List.forall_mem_cons.mpr ⟨ok_R_magic_0, List.forall_mem_cons.mpr ⟨ok_R_magic_1, fun _ h => absurd h List.not_mem_nil⟩⟩
theorem ok_R_isSort_0 : zx_okK 8 (some Jvm.ClassFile.FieldType.boolean) prog_11_method_20_code ck_R_isSort_0 = true := by decide +kernel
theorem ok_R_isSort : ∀ g ∈ ck_R_isSort, zx_okK 8 (some Jvm.ClassFile.FieldType.boolean) prog_11_method_20_code g.2 = true := List.forall_mem_cons.mpr ⟨ok_R_isSort_0, fun _ h => absurd h List.not_mem_nil⟩
theorem ok_R_begin_0 : zx_okK 8 none prog_11_method_21_code ck_R_begin_0 = true := by decide +kernel
theorem ok_R_begin_1 : zx_okK 8 none prog_11_method_21_code ck_R_begin_1 = true := by decide +kernel
theorem ok_R_begin_2 : zx_okK 8 none prog_11_method_21_code ck_R_begin_2 = true := by decide +kernel
theorem ok_R_begin : ∀ g ∈ ck_R_begin, zx_okK 8 none prog_11_method_21_code g.2 = true := List.forall_mem_cons.mpr ⟨ok_R_begin_0, List.forall_mem_cons.mpr ⟨ok_R_begin_1, List.forall_mem_cons.mpr ⟨ok_R_begin_2, fun _ h => absurd h List.not_mem_nil⟩⟩⟩
theorem ok_R_headByte_0 : zx_okK 8 (some Jvm.ClassFile.FieldType.int) prog_11_method_22_code ck_R_headByte_0 = true := by decide +kernel
theorem ok_R_headByte_1 : zx_okK 8 (some Jvm.ClassFile.FieldType.int) prog_11_method_22_code ck_R_headByte_1 = true := by decide +kernel
theorem ok_R_headByte : ∀ g ∈ ck_R_headByte, zx_okK 8 (some Jvm.ClassFile.FieldType.int) prog_11_method_22_code g.2 = true := List.forall_mem_cons.mpr ⟨ok_R_headByte_0, List.forall_mem_cons.mpr ⟨ok_R_headByte_1, fun _ h => absurd h List.not_mem_nil⟩⟩
theorem ok_R_block_0 : zx_okK 8 none prog_11_method_23_code ck_R_block_0 = true := by decide +kernel
theorem ok_R_block_1 : zx_okK 8 none prog_11_method_23_code ck_R_block_1 = true := by decide +kernel
theorem ok_R_block_2 : zx_okK 8 none prog_11_method_23_code ck_R_block_2 = true := by decide +kernel
theorem ok_R_block_3 : zx_okK 8 none prog_11_method_23_code ck_R_block_3 = true := by decide +kernel
theorem ok_R_block_4 : zx_okK 8 none prog_11_method_23_code ck_R_block_4 = true := by decide +kernel
theorem ok_R_block_5 : zx_okK 8 none prog_11_method_23_code ck_R_block_5 = true := by decide +kernel
theorem ok_R_block_6 : zx_okK 8 none prog_11_method_23_code ck_R_block_6 = true := by decide +kernel
theorem ok_R_block_7 : zx_okK 8 none prog_11_method_23_code ck_R_block_7 = true := by decide +kernel
theorem ok_R_block_8 : zx_okK 8 none prog_11_method_23_code ck_R_block_8 = true := by decide +kernel
theorem ok_R_block_9 : zx_okK 8 none prog_11_method_23_code ck_R_block_9 = true := by decide +kernel
theorem ok_R_block_10 : zx_okK 8 none prog_11_method_23_code ck_R_block_10 = true := by decide +kernel
theorem ok_R_block_11 : zx_okK 8 none prog_11_method_23_code ck_R_block_11 = true := by decide +kernel
theorem ok_R_block_12 : zx_okK 8 none prog_11_method_23_code ck_R_block_12 = true := by decide +kernel
theorem ok_R_block_13 : zx_okK 8 none prog_11_method_23_code ck_R_block_13 = true := by decide +kernel
theorem ok_R_block : ∀ g ∈ ck_R_block, zx_okK 8 none prog_11_method_23_code g.2 = true := List.forall_mem_cons.mpr ⟨ok_R_block_0, List.forall_mem_cons.mpr ⟨ok_R_block_1, List.forall_mem_cons.mpr ⟨ok_R_block_2, List.forall_mem_cons.mpr ⟨ok_R_block_3, List.forall_mem_cons.mpr ⟨ok_R_block_4, List.forall_mem_cons.mpr ⟨ok_R_block_5, List.forall_mem_cons.mpr ⟨ok_R_block_6, List.forall_mem_cons.mpr ⟨ok_R_block_7, List.forall_mem_cons.mpr ⟨ok_R_block_8, List.forall_mem_cons.mpr ⟨ok_R_block_9, List.forall_mem_cons.mpr ⟨ok_R_block_10, List.forall_mem_cons.mpr ⟨ok_R_block_11, List.forall_mem_cons.mpr ⟨ok_R_block_12, List.forall_mem_cons.mpr ⟨ok_R_block_13, fun _ h => absurd h List.not_mem_nil⟩⟩⟩⟩⟩⟩⟩⟩⟩⟩⟩⟩⟩⟩
theorem ok_R_chunk_0 : zx_okK 8 (some Jvm.ClassFile.FieldType.boolean) prog_11_method_24_code ck_R_chunk_0 = true := by decide +kernel
theorem ok_R_chunk_1 : zx_okK 8 (some Jvm.ClassFile.FieldType.boolean) prog_11_method_24_code ck_R_chunk_1 = true := by decide +kernel
theorem ok_R_chunk_2 : zx_okK 8 (some Jvm.ClassFile.FieldType.boolean) prog_11_method_24_code ck_R_chunk_2 = true := by decide +kernel
theorem ok_R_chunk_3 : zx_okK 8 (some Jvm.ClassFile.FieldType.boolean) prog_11_method_24_code ck_R_chunk_3 = true := by decide +kernel
theorem ok_R_chunk_4 : zx_okK 8 (some Jvm.ClassFile.FieldType.boolean) prog_11_method_24_code ck_R_chunk_4 = true := by decide +kernel
theorem ok_R_chunk_5 : zx_okK 8 (some Jvm.ClassFile.FieldType.boolean) prog_11_method_24_code ck_R_chunk_5 = true := by decide +kernel
theorem ok_R_chunk : ∀ g ∈ ck_R_chunk, zx_okK 8 (some Jvm.ClassFile.FieldType.boolean) prog_11_method_24_code g.2 = true := List.forall_mem_cons.mpr ⟨ok_R_chunk_0, List.forall_mem_cons.mpr ⟨ok_R_chunk_1, List.forall_mem_cons.mpr ⟨ok_R_chunk_2, List.forall_mem_cons.mpr ⟨ok_R_chunk_3, List.forall_mem_cons.mpr ⟨ok_R_chunk_4, List.forall_mem_cons.mpr ⟨ok_R_chunk_5, fun _ h => absurd h List.not_mem_nil⟩⟩⟩⟩⟩⟩
theorem ok_R_length_0 : zx_okK 8 (some Jvm.ClassFile.FieldType.int) prog_11_method_25_code ck_R_length_0 = true := by decide +kernel
theorem ok_R_length_1 : zx_okK 8 (some Jvm.ClassFile.FieldType.int) prog_11_method_25_code ck_R_length_1 = true := by decide +kernel
theorem ok_R_length : ∀ g ∈ ck_R_length, zx_okK 8 (some Jvm.ClassFile.FieldType.int) prog_11_method_25_code g.2 = true := List.forall_mem_cons.mpr ⟨ok_R_length_0, List.forall_mem_cons.mpr ⟨ok_R_length_1, fun _ h => absurd h List.not_mem_nil⟩⟩
theorem ok_R_isProperties_0 : zx_okK 8 (some Jvm.ClassFile.FieldType.boolean) prog_11_method_26_code ck_R_isProperties_0 = true := by decide +kernel
theorem ok_R_isProperties : ∀ g ∈ ck_R_isProperties, zx_okK 8 (some Jvm.ClassFile.FieldType.boolean) prog_11_method_26_code g.2 = true := List.forall_mem_cons.mpr ⟨ok_R_isProperties_0, fun _ h => absurd h List.not_mem_nil⟩
theorem ok_R_properties_0 : zx_okK 8 none prog_11_method_27_code ck_R_properties_0 = true := by decide +kernel
theorem ok_R_properties_1 : zx_okK 8 none prog_11_method_27_code ck_R_properties_1 = true := by decide +kernel
theorem ok_R_properties : ∀ g ∈ ck_R_properties, zx_okK 8 none prog_11_method_27_code g.2 = true := List.forall_mem_cons.mpr ⟨ok_R_properties_0, List.forall_mem_cons.mpr ⟨ok_R_properties_1, fun _ h => absurd h List.not_mem_nil⟩⟩
theorem ok_R_plainChunk_0 : zx_okK 8 none prog_11_method_28_code ck_R_plainChunk_0 = true := by decide +kernel
theorem ok_R_plainChunk_1 : zx_okK 8 none prog_11_method_28_code ck_R_plainChunk_1 = true := by decide +kernel
theorem ok_R_plainChunk_2 : zx_okK 8 none prog_11_method_28_code ck_R_plainChunk_2 = true := by decide +kernel
theorem ok_R_plainChunk : ∀ g ∈ ck_R_plainChunk, zx_okK 8 none prog_11_method_28_code g.2 = true := List.forall_mem_cons.mpr ⟨ok_R_plainChunk_0, List.forall_mem_cons.mpr ⟨ok_R_plainChunk_1, List.forall_mem_cons.mpr ⟨ok_R_plainChunk_2, fun _ h => absurd h List.not_mem_nil⟩⟩⟩
theorem ok_R_coded_0 : zx_okK 8 none prog_11_method_29_code ck_R_coded_0 = true := by decide +kernel
theorem ok_R_coded_1 : zx_okK 8 none prog_11_method_29_code ck_R_coded_1 = true := by decide +kernel
theorem ok_R_coded_2 : zx_okK 8 none prog_11_method_29_code ck_R_coded_2 = true := by decide +kernel
theorem ok_R_coded_3 : zx_okK 8 none prog_11_method_29_code ck_R_coded_3 = true := by decide +kernel
theorem ok_R_coded_4 : zx_okK 8 none prog_11_method_29_code ck_R_coded_4 = true := by decide +kernel
theorem ok_R_coded_5 : zx_okK 8 none prog_11_method_29_code ck_R_coded_5 = true := by decide +kernel
theorem ok_R_coded_6 : zx_okK 8 none prog_11_method_29_code ck_R_coded_6 = true := by decide +kernel
theorem ok_R_coded : ∀ g ∈ ck_R_coded, zx_okK 8 none prog_11_method_29_code g.2 = true := List.forall_mem_cons.mpr ⟨ok_R_coded_0, List.forall_mem_cons.mpr ⟨ok_R_coded_1, List.forall_mem_cons.mpr ⟨ok_R_coded_2, List.forall_mem_cons.mpr ⟨ok_R_coded_3, List.forall_mem_cons.mpr ⟨ok_R_coded_4, List.forall_mem_cons.mpr ⟨ok_R_coded_5, List.forall_mem_cons.mpr ⟨ok_R_coded_6, fun _ h => absurd h List.not_mem_nil⟩⟩⟩⟩⟩⟩⟩
theorem ok_R_index_0 : zx_okK 8 none prog_11_method_30_code ck_R_index_0 = true := by decide +kernel
theorem ok_R_index_1 : zx_okK 8 none prog_11_method_30_code ck_R_index_1 = true := by decide +kernel
theorem ok_R_index_2 : zx_okK 8 none prog_11_method_30_code ck_R_index_2 = true := by decide +kernel
theorem ok_R_index_3 : zx_okK 8 none prog_11_method_30_code ck_R_index_3 = true := by decide +kernel
theorem ok_R_index_4 : zx_okK 8 none prog_11_method_30_code ck_R_index_4 = true := by decide +kernel
theorem ok_R_index_5 : zx_okK 8 none prog_11_method_30_code ck_R_index_5 = true := by decide +kernel
theorem ok_R_index_6 : zx_okK 8 none prog_11_method_30_code ck_R_index_6 = true := by decide +kernel
theorem ok_R_index : ∀ g ∈ ck_R_index, zx_okK 8 none prog_11_method_30_code g.2 = true := List.forall_mem_cons.mpr ⟨ok_R_index_0, List.forall_mem_cons.mpr ⟨ok_R_index_1, List.forall_mem_cons.mpr ⟨ok_R_index_2, List.forall_mem_cons.mpr ⟨ok_R_index_3, List.forall_mem_cons.mpr ⟨ok_R_index_4, List.forall_mem_cons.mpr ⟨ok_R_index_5, List.forall_mem_cons.mpr ⟨ok_R_index_6, fun _ h => absurd h List.not_mem_nil⟩⟩⟩⟩⟩⟩⟩
theorem ok_R_expect_0 : zx_okK 8 none prog_11_method_31_code ck_R_expect_0 = true := by decide +kernel
theorem ok_R_expect : ∀ g ∈ ck_R_expect, zx_okK 8 none prog_11_method_31_code g.2 = true := List.forall_mem_cons.mpr ⟨ok_R_expect_0, fun _ h => absurd h List.not_mem_nil⟩
theorem ok_R_unpack_0 : zx_okK 8 (some Jvm.ClassFile.FieldType.int) prog_11_method_32_code ck_R_unpack_0 = true := by decide +kernel
theorem ok_R_unpack_1 : zx_okK 8 (some Jvm.ClassFile.FieldType.int) prog_11_method_32_code ck_R_unpack_1 = true := by decide +kernel
theorem ok_R_unpack_2 : zx_okK 8 (some Jvm.ClassFile.FieldType.int) prog_11_method_32_code ck_R_unpack_2 = true := by decide +kernel
theorem ok_R_unpack_3 : zx_okK 8 (some Jvm.ClassFile.FieldType.int) prog_11_method_32_code ck_R_unpack_3 = true := by decide +kernel
theorem ok_R_unpack : ∀ g ∈ ck_R_unpack, zx_okK 8 (some Jvm.ClassFile.FieldType.int) prog_11_method_32_code g.2 = true := List.forall_mem_cons.mpr ⟨ok_R_unpack_0, List.forall_mem_cons.mpr ⟨ok_R_unpack_1, List.forall_mem_cons.mpr ⟨ok_R_unpack_2, List.forall_mem_cons.mpr ⟨ok_R_unpack_3, fun _ h => absurd h List.not_mem_nil⟩⟩⟩⟩
theorem ok_R_where_0 : zx_okK 8 (some Jvm.ClassFile.FieldType.int) prog_11_method_33_code ck_R_where_0 = true := by decide +kernel
theorem ok_R_where : ∀ g ∈ ck_R_where, zx_okK 8 (some Jvm.ClassFile.FieldType.int) prog_11_method_33_code g.2 = true := List.forall_mem_cons.mpr ⟨ok_R_where_0, fun _ h => absurd h List.not_mem_nil⟩
theorem ok_R_watch_0 : zx_okK 8 (some Jvm.ClassFile.FieldType.boolean) prog_11_method_34_code ck_R_watch_0 = true := by decide +kernel
theorem ok_R_watch : ∀ g ∈ ck_R_watch, zx_okK 8 (some Jvm.ClassFile.FieldType.boolean) prog_11_method_34_code g.2 = true := List.forall_mem_cons.mpr ⟨ok_R_watch_0, fun _ h => absurd h List.not_mem_nil⟩
theorem ok_R_range_0 : zx_okK 8 (some Jvm.ClassFile.FieldType.long) prog_11_method_35_code ck_R_range_0 = true := by decide +kernel
theorem ok_R_range : ∀ g ∈ ck_R_range, zx_okK 8 (some Jvm.ClassFile.FieldType.long) prog_11_method_35_code g.2 = true := List.forall_mem_cons.mpr ⟨ok_R_range_0, fun _ h => absurd h List.not_mem_nil⟩
theorem ok_R_code_0 : zx_okK 8 (some Jvm.ClassFile.FieldType.long) prog_11_method_36_code ck_R_code_0 = true := by decide +kernel
theorem ok_R_code : ∀ g ∈ ck_R_code, zx_okK 8 (some Jvm.ClassFile.FieldType.long) prog_11_method_36_code g.2 = true := List.forall_mem_cons.mpr ⟨ok_R_code_0, fun _ h => absurd h List.not_mem_nil⟩
theorem ok_R_count_0 : zx_okK 8 (some Jvm.ClassFile.FieldType.int) prog_11_method_37_code ck_R_count_0 = true := by decide +kernel
theorem ok_R_count : ∀ g ∈ ck_R_count, zx_okK 8 (some Jvm.ClassFile.FieldType.int) prog_11_method_37_code g.2 = true := List.forall_mem_cons.mpr ⟨ok_R_count_0, fun _ h => absurd h List.not_mem_nil⟩
theorem ok_R_anew_0 : zx_okK 8 none prog_11_method_38_code ck_R_anew_0 = true := by decide +kernel
theorem ok_R_anew_1 : zx_okK 8 none prog_11_method_38_code ck_R_anew_1 = true := by decide +kernel
theorem ok_R_anew : ∀ g ∈ ck_R_anew, zx_okK 8 none prog_11_method_38_code g.2 = true := List.forall_mem_cons.mpr ⟨ok_R_anew_0, List.forall_mem_cons.mpr ⟨ok_R_anew_1, fun _ h => absurd h List.not_mem_nil⟩⟩
theorem ok_R_shift_0 : zx_okK 8 none prog_11_method_39_code ck_R_shift_0 = true := by decide +kernel
theorem ok_R_shift_1 : zx_okK 8 none prog_11_method_39_code ck_R_shift_1 = true := by decide +kernel
theorem ok_R_shift : ∀ g ∈ ck_R_shift, zx_okK 8 none prog_11_method_39_code g.2 = true := List.forall_mem_cons.mpr ⟨ok_R_shift_0, List.forall_mem_cons.mpr ⟨ok_R_shift_1, fun _ h => absurd h List.not_mem_nil⟩⟩
theorem ok_R_told_0 : zx_okK 8 none prog_11_method_40_code ck_R_told_0 = true := by decide +kernel
theorem ok_R_told : ∀ g ∈ ck_R_told, zx_okK 8 none prog_11_method_40_code g.2 = true := List.forall_mem_cons.mpr ⟨ok_R_told_0, fun _ h => absurd h List.not_mem_nil⟩
theorem ok_R_bit_0 : zx_okK 8 (some Jvm.ClassFile.FieldType.int) prog_11_method_41_code ck_R_bit_0 = true := by decide +kernel
theorem ok_R_bit_1 : zx_okK 8 (some Jvm.ClassFile.FieldType.int) prog_11_method_41_code ck_R_bit_1 = true := by decide +kernel
theorem ok_R_bit_2 : zx_okK 8 (some Jvm.ClassFile.FieldType.int) prog_11_method_41_code ck_R_bit_2 = true := by decide +kernel
theorem ok_R_bit : ∀ g ∈ ck_R_bit, zx_okK 8 (some Jvm.ClassFile.FieldType.int) prog_11_method_41_code g.2 = true := List.forall_mem_cons.mpr ⟨ok_R_bit_0, List.forall_mem_cons.mpr ⟨ok_R_bit_1, List.forall_mem_cons.mpr ⟨ok_R_bit_2, fun _ h => absurd h List.not_mem_nil⟩⟩⟩
theorem ok_R_learn_0 : zx_okK 8 none prog_11_method_42_code ck_R_learn_0 = true := by decide +kernel
theorem ok_R_learn_1 : zx_okK 8 none prog_11_method_42_code ck_R_learn_1 = true := by decide +kernel
theorem ok_R_learn : ∀ g ∈ ck_R_learn, zx_okK 8 none prog_11_method_42_code g.2 = true := List.forall_mem_cons.mpr ⟨ok_R_learn_0, List.forall_mem_cons.mpr ⟨ok_R_learn_1, fun _ h => absurd h List.not_mem_nil⟩⟩
theorem ok_R_even_0 : zx_okK 8 (some Jvm.ClassFile.FieldType.int) prog_11_method_43_code ck_R_even_0 = true := by decide +kernel
theorem ok_R_even_1 : zx_okK 8 (some Jvm.ClassFile.FieldType.int) prog_11_method_43_code ck_R_even_1 = true := by decide +kernel
theorem ok_R_even : ∀ g ∈ ck_R_even, zx_okK 8 (some Jvm.ClassFile.FieldType.int) prog_11_method_43_code g.2 = true := List.forall_mem_cons.mpr ⟨ok_R_even_0, List.forall_mem_cons.mpr ⟨ok_R_even_1, fun _ h => absurd h List.not_mem_nil⟩⟩
theorem ok_R_tree_0 : zx_okK 8 (some Jvm.ClassFile.FieldType.int) prog_11_method_44_code ck_R_tree_0 = true := by decide +kernel
theorem ok_R_tree_1 : zx_okK 8 (some Jvm.ClassFile.FieldType.int) prog_11_method_44_code ck_R_tree_1 = true := by decide +kernel
theorem ok_R_tree : ∀ g ∈ ck_R_tree, zx_okK 8 (some Jvm.ClassFile.FieldType.int) prog_11_method_44_code g.2 = true := List.forall_mem_cons.mpr ⟨ok_R_tree_0, List.forall_mem_cons.mpr ⟨ok_R_tree_1, fun _ h => absurd h List.not_mem_nil⟩⟩
theorem ok_R_backwards_0 : zx_okK 8 (some Jvm.ClassFile.FieldType.int) prog_11_method_45_code ck_R_backwards_0 = true := by decide +kernel
theorem ok_R_backwards_1 : zx_okK 8 (some Jvm.ClassFile.FieldType.int) prog_11_method_45_code ck_R_backwards_1 = true := by decide +kernel
theorem ok_R_backwards : ∀ g ∈ ck_R_backwards, zx_okK 8 (some Jvm.ClassFile.FieldType.int) prog_11_method_45_code g.2 = true := List.forall_mem_cons.mpr ⟨ok_R_backwards_0, List.forall_mem_cons.mpr ⟨ok_R_backwards_1, fun _ h => absurd h List.not_mem_nil⟩⟩
theorem ok_R_bytes_0 : zx_okK 8 (some Jvm.ClassFile.FieldType.int) prog_11_method_46_code ck_R_bytes_0 = true := by decide +kernel
theorem ok_R_bytes : ∀ g ∈ ck_R_bytes, zx_okK 8 (some Jvm.ClassFile.FieldType.int) prog_11_method_46_code g.2 = true := List.forall_mem_cons.mpr ⟨ok_R_bytes_0, fun _ h => absurd h List.not_mem_nil⟩
theorem ok_R_low4_0 : zx_okK 8 (some Jvm.ClassFile.FieldType.int) prog_11_method_47_code ck_R_low4_0 = true := by decide +kernel
theorem ok_R_low4 : ∀ g ∈ ck_R_low4, zx_okK 8 (some Jvm.ClassFile.FieldType.int) prog_11_method_47_code g.2 = true := List.forall_mem_cons.mpr ⟨ok_R_low4_0, fun _ h => absurd h List.not_mem_nil⟩
theorem ok_R_give_0 : zx_okK 8 none prog_11_method_48_code ck_R_give_0 = true := by decide +kernel
theorem ok_R_give : ∀ g ∈ ck_R_give, zx_okK 8 none prog_11_method_48_code g.2 = true := List.forall_mem_cons.mpr ⟨ok_R_give_0, fun _ h => absurd h List.not_mem_nil⟩
theorem ok_R_token_0 : zx_okK 8 none prog_11_method_49_code ck_R_token_0 = true := by decide +kernel
theorem ok_R_token_1 : zx_okK 8 none prog_11_method_49_code ck_R_token_1 = true := by decide +kernel
theorem ok_R_token_2 : zx_okK 8 none prog_11_method_49_code ck_R_token_2 = true := by decide +kernel
theorem ok_R_token_3 : zx_okK 8 none prog_11_method_49_code ck_R_token_3 = true := by decide +kernel
theorem ok_R_token_4 : zx_okK 8 none prog_11_method_49_code ck_R_token_4 = true := by decide +kernel
theorem ok_R_token_5 : zx_okK 8 none prog_11_method_49_code ck_R_token_5 = true := by decide +kernel
theorem ok_R_token : ∀ g ∈ ck_R_token, zx_okK 8 none prog_11_method_49_code g.2 = true := List.forall_mem_cons.mpr ⟨ok_R_token_0, List.forall_mem_cons.mpr ⟨ok_R_token_1, List.forall_mem_cons.mpr ⟨ok_R_token_2, List.forall_mem_cons.mpr ⟨ok_R_token_3, List.forall_mem_cons.mpr ⟨ok_R_token_4, List.forall_mem_cons.mpr ⟨ok_R_token_5, fun _ h => absurd h List.not_mem_nil⟩⟩⟩⟩⟩⟩
theorem ok_R_repeated_0 : zx_okK 8 none prog_11_method_50_code ck_R_repeated_0 = true := by decide +kernel
theorem ok_R_repeated : ∀ g ∈ ck_R_repeated, zx_okK 8 none prog_11_method_50_code g.2 = true := List.forall_mem_cons.mpr ⟨ok_R_repeated_0, fun _ h => absurd h List.not_mem_nil⟩
theorem ok_R_turn_0 : zx_okK 8 none prog_11_method_51_code ck_R_turn_0 = true := by decide +kernel
theorem ok_R_turn_1 : zx_okK 8 none prog_11_method_51_code ck_R_turn_1 = true := by decide +kernel
theorem ok_R_turn_2 : zx_okK 8 none prog_11_method_51_code ck_R_turn_2 = true := by decide +kernel
theorem ok_R_turn : ∀ g ∈ ck_R_turn, zx_okK 8 none prog_11_method_51_code g.2 = true := List.forall_mem_cons.mpr ⟨ok_R_turn_0, List.forall_mem_cons.mpr ⟨ok_R_turn_1, List.forall_mem_cons.mpr ⟨ok_R_turn_2, fun _ h => absurd h List.not_mem_nil⟩⟩⟩
theorem ok_R_back_0 : zx_okK 8 none prog_11_method_52_code ck_R_back_0 = true := by decide +kernel
theorem ok_R_back_1 : zx_okK 8 none prog_11_method_52_code ck_R_back_1 = true := by decide +kernel
theorem ok_R_back_2 : zx_okK 8 none prog_11_method_52_code ck_R_back_2 = true := by decide +kernel
theorem ok_R_back : ∀ g ∈ ck_R_back, zx_okK 8 none prog_11_method_52_code g.2 = true := List.forall_mem_cons.mpr ⟨ok_R_back_0, List.forall_mem_cons.mpr ⟨ok_R_back_1, List.forall_mem_cons.mpr ⟨ok_R_back_2, fun _ h => absurd h List.not_mem_nil⟩⟩⟩
theorem ok_R_lengthTaken_0 : zx_okK 8 (some Jvm.ClassFile.FieldType.int) prog_11_method_53_code ck_R_lengthTaken_0 = true := by decide +kernel
theorem ok_R_lengthTaken_1 : zx_okK 8 (some Jvm.ClassFile.FieldType.int) prog_11_method_53_code ck_R_lengthTaken_1 = true := by decide +kernel
theorem ok_R_lengthTaken : ∀ g ∈ ck_R_lengthTaken, zx_okK 8 (some Jvm.ClassFile.FieldType.int) prog_11_method_53_code g.2 = true := List.forall_mem_cons.mpr ⟨ok_R_lengthTaken_0, List.forall_mem_cons.mpr ⟨ok_R_lengthTaken_1, fun _ h => absurd h List.not_mem_nil⟩⟩
theorem ok_R_distance_0 : zx_okK 8 (some Jvm.ClassFile.FieldType.long) prog_11_method_54_code ck_R_distance_0 = true := by decide +kernel
theorem ok_R_distance_1 : zx_okK 8 (some Jvm.ClassFile.FieldType.long) prog_11_method_54_code ck_R_distance_1 = true := by decide +kernel
theorem ok_R_distance_2 : zx_okK 8 (some Jvm.ClassFile.FieldType.long) prog_11_method_54_code ck_R_distance_2 = true := by decide +kernel
theorem ok_R_distance_3 : zx_okK 8 (some Jvm.ClassFile.FieldType.long) prog_11_method_54_code ck_R_distance_3 = true := by decide +kernel
theorem ok_R_distance : ∀ g ∈ ck_R_distance, zx_okK 8 (some Jvm.ClassFile.FieldType.long) prog_11_method_54_code g.2 = true := List.forall_mem_cons.mpr ⟨ok_R_distance_0, List.forall_mem_cons.mpr ⟨ok_R_distance_1, List.forall_mem_cons.mpr ⟨ok_R_distance_2, List.forall_mem_cons.mpr ⟨ok_R_distance_3, fun _ h => absurd h List.not_mem_nil⟩⟩⟩⟩
theorem ok_R_context_0 : zx_okK 8 (some Jvm.ClassFile.FieldType.int) prog_11_method_55_code ck_R_context_0 = true := by decide +kernel
theorem ok_R_context : ∀ g ∈ ck_R_context, zx_okK 8 (some Jvm.ClassFile.FieldType.int) prog_11_method_55_code g.2 = true := List.forall_mem_cons.mpr ⟨ok_R_context_0, fun _ h => absurd h List.not_mem_nil⟩
theorem ok_R_after_0 : zx_okK 8 (some Jvm.ClassFile.FieldType.int) prog_11_method_56_code ck_R_after_0 = true := by decide +kernel
theorem ok_R_after : ∀ g ∈ ck_R_after, zx_okK 8 (some Jvm.ClassFile.FieldType.int) prog_11_method_56_code g.2 = true := List.forall_mem_cons.mpr ⟨ok_R_after_0, fun _ h => absurd h List.not_mem_nil⟩
theorem ok_R_literal_0 : zx_okK 8 none prog_11_method_57_code ck_R_literal_0 = true := by decide +kernel
theorem ok_R_literal_1 : zx_okK 8 none prog_11_method_57_code ck_R_literal_1 = true := by decide +kernel
theorem ok_R_literal_2 : zx_okK 8 none prog_11_method_57_code ck_R_literal_2 = true := by decide +kernel
theorem ok_R_literal_3 : zx_okK 8 none prog_11_method_57_code ck_R_literal_3 = true := by decide +kernel
theorem ok_R_literal_4 : zx_okK 8 none prog_11_method_57_code ck_R_literal_4 = true := by decide +kernel
theorem ok_R_literal : ∀ g ∈ ck_R_literal, zx_okK 8 none prog_11_method_57_code g.2 = true := List.forall_mem_cons.mpr ⟨ok_R_literal_0, List.forall_mem_cons.mpr ⟨ok_R_literal_1, List.forall_mem_cons.mpr ⟨ok_R_literal_2, List.forall_mem_cons.mpr ⟨ok_R_literal_3, List.forall_mem_cons.mpr ⟨ok_R_literal_4, fun _ h => absurd h List.not_mem_nil⟩⟩⟩⟩⟩
theorem ok_R_shiftOut_0 : zx_okK 8 none prog_11_method_58_code ck_R_shiftOut_0 = true := by decide +kernel
theorem ok_R_shiftOut_1 : zx_okK 8 none prog_11_method_58_code ck_R_shiftOut_1 = true := by decide +kernel
theorem ok_R_shiftOut : ∀ g ∈ ck_R_shiftOut, zx_okK 8 none prog_11_method_58_code g.2 = true := List.forall_mem_cons.mpr ⟨ok_R_shiftOut_0, List.forall_mem_cons.mpr ⟨ok_R_shiftOut_1, fun _ h => absurd h List.not_mem_nil⟩⟩
theorem ok_R_grow_0 : zx_okK 8 none prog_11_method_59_code ck_R_grow_0 = true := by decide +kernel
theorem ok_R_grow_1 : zx_okK 8 none prog_11_method_59_code ck_R_grow_1 = true := by decide +kernel
theorem ok_R_grow : ∀ g ∈ ck_R_grow, zx_okK 8 none prog_11_method_59_code g.2 = true := List.forall_mem_cons.mpr ⟨ok_R_grow_0, List.forall_mem_cons.mpr ⟨ok_R_grow_1, fun _ h => absurd h List.not_mem_nil⟩⟩
theorem ok_R_put_0 : zx_okK 8 none prog_11_method_60_code ck_R_put_0 = true := by decide +kernel
theorem ok_R_put_1 : zx_okK 8 none prog_11_method_60_code ck_R_put_1 = true := by decide +kernel
theorem ok_R_put : ∀ g ∈ ck_R_put, zx_okK 8 none prog_11_method_60_code g.2 = true := List.forall_mem_cons.mpr ⟨ok_R_put_0, List.forall_mem_cons.mpr ⟨ok_R_put_1, fun _ h => absurd h List.not_mem_nil⟩⟩
theorem ok_R_putEven_0 : zx_okK 8 none prog_11_method_61_code ck_R_putEven_0 = true := by decide +kernel
theorem ok_R_putEven : ∀ g ∈ ck_R_putEven, zx_okK 8 none prog_11_method_61_code g.2 = true := List.forall_mem_cons.mpr ⟨ok_R_putEven_0, fun _ h => absurd h List.not_mem_nil⟩
theorem ok_R_putTree_0 : zx_okK 8 none prog_11_method_62_code ck_R_putTree_0 = true := by decide +kernel
theorem ok_R_putTree_1 : zx_okK 8 none prog_11_method_62_code ck_R_putTree_1 = true := by decide +kernel
theorem ok_R_putTree : ∀ g ∈ ck_R_putTree, zx_okK 8 none prog_11_method_62_code g.2 = true := List.forall_mem_cons.mpr ⟨ok_R_putTree_0, List.forall_mem_cons.mpr ⟨ok_R_putTree_1, fun _ h => absurd h List.not_mem_nil⟩⟩
theorem ok_R_putBackwards_0 : zx_okK 8 none prog_11_method_63_code ck_R_putBackwards_0 = true := by decide +kernel
theorem ok_R_putBackwards_1 : zx_okK 8 none prog_11_method_63_code ck_R_putBackwards_1 = true := by decide +kernel
theorem ok_R_putBackwards : ∀ g ∈ ck_R_putBackwards, zx_okK 8 none prog_11_method_63_code g.2 = true := List.forall_mem_cons.mpr ⟨ok_R_putBackwards_0, List.forall_mem_cons.mpr ⟨ok_R_putBackwards_1, fun _ h => absurd h List.not_mem_nil⟩⟩
theorem ok_R_alike_0 : zx_okK 8 (some Jvm.ClassFile.FieldType.int) prog_11_method_64_code ck_R_alike_0 = true := by decide +kernel
theorem ok_R_alike_1 : zx_okK 8 (some Jvm.ClassFile.FieldType.int) prog_11_method_64_code ck_R_alike_1 = true := by decide +kernel
theorem ok_R_alike : ∀ g ∈ ck_R_alike, zx_okK 8 (some Jvm.ClassFile.FieldType.int) prog_11_method_64_code g.2 = true := List.forall_mem_cons.mpr ⟨ok_R_alike_0, List.forall_mem_cons.mpr ⟨ok_R_alike_1, fun _ h => absurd h List.not_mem_nil⟩⟩
theorem ok_R_distanceOf_0 : zx_okK 8 (some Jvm.ClassFile.FieldType.long) prog_11_method_65_code ck_R_distanceOf_0 = true := by decide +kernel
theorem ok_R_distanceOf : ∀ g ∈ ck_R_distanceOf, zx_okK 8 (some Jvm.ClassFile.FieldType.long) prog_11_method_65_code g.2 = true := List.forall_mem_cons.mpr ⟨ok_R_distanceOf_0, fun _ h => absurd h List.not_mem_nil⟩
theorem ok_R_putToken_0 : zx_okK 8 (some Jvm.ClassFile.FieldType.int) prog_11_method_66_code ck_R_putToken_0 = true := by decide +kernel
theorem ok_R_putToken_1 : zx_okK 8 (some Jvm.ClassFile.FieldType.int) prog_11_method_66_code ck_R_putToken_1 = true := by decide +kernel
theorem ok_R_putToken_2 : zx_okK 8 (some Jvm.ClassFile.FieldType.int) prog_11_method_66_code ck_R_putToken_2 = true := by decide +kernel
theorem ok_R_putToken_3 : zx_okK 8 (some Jvm.ClassFile.FieldType.int) prog_11_method_66_code ck_R_putToken_3 = true := by decide +kernel
theorem ok_R_putToken_4 : zx_okK 8 (some Jvm.ClassFile.FieldType.int) prog_11_method_66_code ck_R_putToken_4 = true := by decide +kernel
theorem ok_R_putToken_5 : zx_okK 8 (some Jvm.ClassFile.FieldType.int) prog_11_method_66_code ck_R_putToken_5 = true := by decide +kernel
theorem ok_R_putToken_6 : zx_okK 8 (some Jvm.ClassFile.FieldType.int) prog_11_method_66_code ck_R_putToken_6 = true := by decide +kernel
theorem ok_R_putToken_7 : zx_okK 8 (some Jvm.ClassFile.FieldType.int) prog_11_method_66_code ck_R_putToken_7 = true := by decide +kernel
theorem ok_R_putToken : ∀ g ∈ ck_R_putToken, zx_okK 8 (some Jvm.ClassFile.FieldType.int) prog_11_method_66_code g.2 = true := List.forall_mem_cons.mpr ⟨ok_R_putToken_0, List.forall_mem_cons.mpr ⟨ok_R_putToken_1, List.forall_mem_cons.mpr ⟨ok_R_putToken_2, List.forall_mem_cons.mpr ⟨ok_R_putToken_3, List.forall_mem_cons.mpr ⟨ok_R_putToken_4, List.forall_mem_cons.mpr ⟨ok_R_putToken_5, List.forall_mem_cons.mpr ⟨ok_R_putToken_6, List.forall_mem_cons.mpr ⟨ok_R_putToken_7, fun _ h => absurd h List.not_mem_nil⟩⟩⟩⟩⟩⟩⟩⟩
theorem ok_R_putRepeated_0 : zx_okK 8 none prog_11_method_67_code ck_R_putRepeated_0 = true := by decide +kernel
theorem ok_R_putRepeated_1 : zx_okK 8 none prog_11_method_67_code ck_R_putRepeated_1 = true := by decide +kernel
theorem ok_R_putRepeated_2 : zx_okK 8 none prog_11_method_67_code ck_R_putRepeated_2 = true := by decide +kernel
theorem ok_R_putRepeated_3 : zx_okK 8 none prog_11_method_67_code ck_R_putRepeated_3 = true := by decide +kernel
theorem ok_R_putRepeated : ∀ g ∈ ck_R_putRepeated, zx_okK 8 none prog_11_method_67_code g.2 = true := List.forall_mem_cons.mpr ⟨ok_R_putRepeated_0, List.forall_mem_cons.mpr ⟨ok_R_putRepeated_1, List.forall_mem_cons.mpr ⟨ok_R_putRepeated_2, List.forall_mem_cons.mpr ⟨ok_R_putRepeated_3, fun _ h => absurd h List.not_mem_nil⟩⟩⟩⟩
theorem ok_R_putCopy_0 : zx_okK 8 none prog_11_method_68_code ck_R_putCopy_0 = true := by decide +kernel
theorem ok_R_putCopy_1 : zx_okK 8 none prog_11_method_68_code ck_R_putCopy_1 = true := by decide +kernel
theorem ok_R_putCopy_2 : zx_okK 8 none prog_11_method_68_code ck_R_putCopy_2 = true := by decide +kernel
theorem ok_R_putCopy_3 : zx_okK 8 none prog_11_method_68_code ck_R_putCopy_3 = true := by decide +kernel
theorem ok_R_putCopy_4 : zx_okK 8 none prog_11_method_68_code ck_R_putCopy_4 = true := by decide +kernel
theorem ok_R_putCopy_5 : zx_okK 8 none prog_11_method_68_code ck_R_putCopy_5 = true := by decide +kernel
theorem ok_R_putCopy_6 : zx_okK 8 none prog_11_method_68_code ck_R_putCopy_6 = true := by decide +kernel
theorem ok_R_putCopy : ∀ g ∈ ck_R_putCopy, zx_okK 8 none prog_11_method_68_code g.2 = true := List.forall_mem_cons.mpr ⟨ok_R_putCopy_0, List.forall_mem_cons.mpr ⟨ok_R_putCopy_1, List.forall_mem_cons.mpr ⟨ok_R_putCopy_2, List.forall_mem_cons.mpr ⟨ok_R_putCopy_3, List.forall_mem_cons.mpr ⟨ok_R_putCopy_4, List.forall_mem_cons.mpr ⟨ok_R_putCopy_5, List.forall_mem_cons.mpr ⟨ok_R_putCopy_6, fun _ h => absurd h List.not_mem_nil⟩⟩⟩⟩⟩⟩⟩
theorem ok_R_putLength_0 : zx_okK 8 none prog_11_method_69_code ck_R_putLength_0 = true := by decide +kernel
theorem ok_R_putLength_1 : zx_okK 8 none prog_11_method_69_code ck_R_putLength_1 = true := by decide +kernel
theorem ok_R_putLength_2 : zx_okK 8 none prog_11_method_69_code ck_R_putLength_2 = true := by decide +kernel
theorem ok_R_putLength : ∀ g ∈ ck_R_putLength, zx_okK 8 none prog_11_method_69_code g.2 = true := List.forall_mem_cons.mpr ⟨ok_R_putLength_0, List.forall_mem_cons.mpr ⟨ok_R_putLength_1, List.forall_mem_cons.mpr ⟨ok_R_putLength_2, fun _ h => absurd h List.not_mem_nil⟩⟩⟩
theorem ok_R_putLiteral_0 : zx_okK 8 none prog_11_method_70_code ck_R_putLiteral_0 = true := by decide +kernel
theorem ok_R_putLiteral_1 : zx_okK 8 none prog_11_method_70_code ck_R_putLiteral_1 = true := by decide +kernel
theorem ok_R_putLiteral_2 : zx_okK 8 none prog_11_method_70_code ck_R_putLiteral_2 = true := by decide +kernel
theorem ok_R_putLiteral_3 : zx_okK 8 none prog_11_method_70_code ck_R_putLiteral_3 = true := by decide +kernel
theorem ok_R_putLiteral_4 : zx_okK 8 none prog_11_method_70_code ck_R_putLiteral_4 = true := by decide +kernel
theorem ok_R_putLiteral : ∀ g ∈ ck_R_putLiteral, zx_okK 8 none prog_11_method_70_code g.2 = true := List.forall_mem_cons.mpr ⟨ok_R_putLiteral_0, List.forall_mem_cons.mpr ⟨ok_R_putLiteral_1, List.forall_mem_cons.mpr ⟨ok_R_putLiteral_2, List.forall_mem_cons.mpr ⟨ok_R_putLiteral_3, List.forall_mem_cons.mpr ⟨ok_R_putLiteral_4, fun _ h => absurd h List.not_mem_nil⟩⟩⟩⟩⟩
theorem ok_R_write_0 : zx_okK 8 none prog_11_method_71_code ck_R_write_0 = true := by decide +kernel
theorem ok_R_write : ∀ g ∈ ck_R_write, zx_okK 8 none prog_11_method_71_code g.2 = true := List.forall_mem_cons.mpr ⟨ok_R_write_0, fun _ h => absurd h List.not_mem_nil⟩
theorem ok_R_writeNumber_0 : zx_okK 8 none prog_11_method_72_code ck_R_writeNumber_0 = true := by decide +kernel
theorem ok_R_writeNumber : ∀ g ∈ ck_R_writeNumber, zx_okK 8 none prog_11_method_72_code g.2 = true := List.forall_mem_cons.mpr ⟨ok_R_writeNumber_0, fun _ h => absurd h List.not_mem_nil⟩
theorem ok_R_writeSum_0 : zx_okK 8 none prog_11_method_73_code ck_R_writeSum_0 = true := by decide +kernel
theorem ok_R_writeSum_1 : zx_okK 8 none prog_11_method_73_code ck_R_writeSum_1 = true := by decide +kernel
theorem ok_R_writeSum : ∀ g ∈ ck_R_writeSum, zx_okK 8 none prog_11_method_73_code g.2 = true := List.forall_mem_cons.mpr ⟨ok_R_writeSum_0, List.forall_mem_cons.mpr ⟨ok_R_writeSum_1, fun _ h => absurd h List.not_mem_nil⟩⟩
theorem ok_R_writeVli_0 : zx_okK 8 none prog_11_method_74_code ck_R_writeVli_0 = true := by decide +kernel
theorem ok_R_writeVli : ∀ g ∈ ck_R_writeVli, zx_okK 8 none prog_11_method_74_code g.2 = true := List.forall_mem_cons.mpr ⟨ok_R_writeVli_0, fun _ h => absurd h List.not_mem_nil⟩
theorem ok_R_writeZeros_0 : zx_okK 8 none prog_11_method_75_code ck_R_writeZeros_0 = true := by decide +kernel
theorem ok_R_writeZeros : ∀ g ∈ ck_R_writeZeros, zx_okK 8 none prog_11_method_75_code g.2 = true := List.forall_mem_cons.mpr ⟨ok_R_writeZeros_0, fun _ h => absurd h List.not_mem_nil⟩
theorem ok_R_squeeze_0 : zx_okK 8 (some Jvm.ClassFile.FieldType.boolean) prog_11_method_76_code ck_R_squeeze_0 = true := by decide +kernel
theorem ok_R_squeeze_1 : zx_okK 8 (some Jvm.ClassFile.FieldType.boolean) prog_11_method_76_code ck_R_squeeze_1 = true := by decide +kernel
theorem ok_R_squeeze_2 : zx_okK 8 (some Jvm.ClassFile.FieldType.boolean) prog_11_method_76_code ck_R_squeeze_2 = true := by decide +kernel
theorem ok_R_squeeze : ∀ g ∈ ck_R_squeeze, zx_okK 8 (some Jvm.ClassFile.FieldType.boolean) prog_11_method_76_code g.2 = true := List.forall_mem_cons.mpr ⟨ok_R_squeeze_0, List.forall_mem_cons.mpr ⟨ok_R_squeeze_1, List.forall_mem_cons.mpr ⟨ok_R_squeeze_2, fun _ h => absurd h List.not_mem_nil⟩⟩⟩
theorem ok_R_writeChunks_0 : zx_okK 8 none prog_11_method_77_code ck_R_writeChunks_0 = true := by decide +kernel
theorem ok_R_writeChunks_1 : zx_okK 8 none prog_11_method_77_code ck_R_writeChunks_1 = true := by decide +kernel
theorem ok_R_writeChunks_2 : zx_okK 8 none prog_11_method_77_code ck_R_writeChunks_2 = true := by decide +kernel
theorem ok_R_writeChunks_3 : zx_okK 8 none prog_11_method_77_code ck_R_writeChunks_3 = true := by decide +kernel
theorem ok_R_writeChunks_4 : zx_okK 8 none prog_11_method_77_code ck_R_writeChunks_4 = true := by decide +kernel
theorem ok_R_writeChunks_5 : zx_okK 8 none prog_11_method_77_code ck_R_writeChunks_5 = true := by decide +kernel
theorem ok_R_writeChunks_6 : zx_okK 8 none prog_11_method_77_code ck_R_writeChunks_6 = true := by decide +kernel
theorem ok_R_writeChunks : ∀ g ∈ ck_R_writeChunks, zx_okK 8 none prog_11_method_77_code g.2 = true := List.forall_mem_cons.mpr ⟨ok_R_writeChunks_0, List.forall_mem_cons.mpr ⟨ok_R_writeChunks_1, List.forall_mem_cons.mpr ⟨ok_R_writeChunks_2, List.forall_mem_cons.mpr ⟨ok_R_writeChunks_3, List.forall_mem_cons.mpr ⟨ok_R_writeChunks_4, List.forall_mem_cons.mpr ⟨ok_R_writeChunks_5, List.forall_mem_cons.mpr ⟨ok_R_writeChunks_6, fun _ h => absurd h List.not_mem_nil⟩⟩⟩⟩⟩⟩⟩
theorem ok_R_writeBlock_0 : zx_okK 8 (some Jvm.ClassFile.FieldType.int) prog_11_method_78_code ck_R_writeBlock_0 = true := by decide +kernel
theorem ok_R_writeBlock_1 : zx_okK 8 (some Jvm.ClassFile.FieldType.int) prog_11_method_78_code ck_R_writeBlock_1 = true := by decide +kernel
theorem ok_R_writeBlock_2 : zx_okK 8 (some Jvm.ClassFile.FieldType.int) prog_11_method_78_code ck_R_writeBlock_2 = true := by decide +kernel
theorem ok_R_writeBlock : ∀ g ∈ ck_R_writeBlock, zx_okK 8 (some Jvm.ClassFile.FieldType.int) prog_11_method_78_code g.2 = true := List.forall_mem_cons.mpr ⟨ok_R_writeBlock_0, List.forall_mem_cons.mpr ⟨ok_R_writeBlock_1, List.forall_mem_cons.mpr ⟨ok_R_writeBlock_2, fun _ h => absurd h List.not_mem_nil⟩⟩⟩
theorem ok_R_pack_0 : zx_okK 8 (some Jvm.ClassFile.FieldType.int) prog_11_method_79_code ck_R_pack_0 = true := by decide +kernel
theorem ok_R_pack_1 : zx_okK 8 (some Jvm.ClassFile.FieldType.int) prog_11_method_79_code ck_R_pack_1 = true := by decide +kernel
theorem ok_R_pack_2 : zx_okK 8 (some Jvm.ClassFile.FieldType.int) prog_11_method_79_code ck_R_pack_2 = true := by decide +kernel
theorem ok_R_pack_3 : zx_okK 8 (some Jvm.ClassFile.FieldType.int) prog_11_method_79_code ck_R_pack_3 = true := by decide +kernel
theorem ok_R_pack_4 : zx_okK 8 (some Jvm.ClassFile.FieldType.int) prog_11_method_79_code ck_R_pack_4 = true := by decide +kernel
theorem ok_R_pack_5 : zx_okK 8 (some Jvm.ClassFile.FieldType.int) prog_11_method_79_code ck_R_pack_5 = true := by decide +kernel
theorem ok_R_pack_6 : zx_okK 8 (some Jvm.ClassFile.FieldType.int) prog_11_method_79_code ck_R_pack_6 = true := by decide +kernel
theorem ok_R_pack : ∀ g ∈ ck_R_pack, zx_okK 8 (some Jvm.ClassFile.FieldType.int) prog_11_method_79_code g.2 = true := List.forall_mem_cons.mpr ⟨ok_R_pack_0, List.forall_mem_cons.mpr ⟨ok_R_pack_1, List.forall_mem_cons.mpr ⟨ok_R_pack_2, List.forall_mem_cons.mpr ⟨ok_R_pack_3, List.forall_mem_cons.mpr ⟨ok_R_pack_4, List.forall_mem_cons.mpr ⟨ok_R_pack_5, List.forall_mem_cons.mpr ⟨ok_R_pack_6, fun _ h => absurd h List.not_mem_nil⟩⟩⟩⟩⟩⟩⟩
theorem ok_Lin_learn_0 : zx_okK 9 none prog_2_method_4_code ck_Lin_learn_0 = true := by decide +kernel
theorem ok_Lin_learn_1 : zx_okK 9 none prog_2_method_4_code ck_Lin_learn_1 = true := by decide +kernel
theorem ok_Lin_learn : ∀ g ∈ ck_Lin_learn, zx_okK 9 none prog_2_method_4_code g.2 = true := List.forall_mem_cons.mpr ⟨ok_Lin_learn_0, List.forall_mem_cons.mpr ⟨ok_Lin_learn_1, fun _ h => absurd h List.not_mem_nil⟩⟩
theorem ok_Arr_rangeCheck_0 : zx_okK 10 none prog_16_method_30_code ck_Arr_rangeCheck_0 = true := by decide +kernel
theorem ok_Arr_rangeCheck : ∀ g ∈ ck_Arr_rangeCheck, zx_okK 10 none prog_16_method_30_code g.2 = true := List.forall_mem_cons.mpr ⟨ok_Arr_rangeCheck_0, fun _ h => absurd h List.not_mem_nil⟩
theorem ok_Arr_fill_0 : zx_okK 10 none prog_16_method_101_code ck_Arr_fill_0 = true := by decide +kernel
theorem ok_Arr_fill : ∀ g ∈ ck_Arr_fill, zx_okK 10 none prog_16_method_101_code g.2 = true := List.forall_mem_cons.mpr ⟨ok_Arr_fill_0, fun _ h => absurd h List.not_mem_nil⟩
theorem ok_Arr_fill2_0 : zx_okK 10 none prog_16_method_103_code ck_Arr_fill2_0 = true := by decide +kernel
theorem ok_Arr_fill2 : ∀ g ∈ ck_Arr_fill2, zx_okK 10 none prog_16_method_103_code g.2 = true := List.forall_mem_cons.mpr ⟨ok_Arr_fill2_0, fun _ h => absurd h List.not_mem_nil⟩
theorem ok_Arr_fill3_0 : zx_okK 10 none prog_16_method_104_code ck_Arr_fill3_0 = true := by decide +kernel
theorem ok_Arr_fill3 : ∀ g ∈ ck_Arr_fill3, zx_okK 10 none prog_16_method_104_code g.2 = true := List.forall_mem_cons.mpr ⟨ok_Arr_fill3_0, fun _ h => absurd h List.not_mem_nil⟩
theorem ok_Lng_numberOfLeadingZeros_0 : zx_okK 11 (some Jvm.ClassFile.FieldType.int) prog_13_method_48_code ck_Lng_numberOfLeadingZeros_0 = true := by decide +kernel
theorem ok_Lng_numberOfLeadingZeros : ∀ g ∈ ck_Lng_numberOfLeadingZeros, zx_okK 11 (some Jvm.ClassFile.FieldType.int) prog_13_method_48_code g.2 = true := List.forall_mem_cons.mpr ⟨ok_Lng_numberOfLeadingZeros_0, fun _ h => absurd h List.not_mem_nil⟩
theorem ok_Itg_numberOfLeadingZeros_0 : zx_okK 12 (some Jvm.ClassFile.FieldType.int) prog_12_method_47_code ck_Itg_numberOfLeadingZeros_0 = true := by decide +kernel
theorem ok_Itg_numberOfLeadingZeros_1 : zx_okK 12 (some Jvm.ClassFile.FieldType.int) prog_12_method_47_code ck_Itg_numberOfLeadingZeros_1 = true := by decide +kernel
theorem ok_Itg_numberOfLeadingZeros : ∀ g ∈ ck_Itg_numberOfLeadingZeros, zx_okK 12 (some Jvm.ClassFile.FieldType.int) prog_12_method_47_code g.2 = true := List.forall_mem_cons.mpr ⟨ok_Itg_numberOfLeadingZeros_0, List.forall_mem_cons.mpr ⟨ok_Itg_numberOfLeadingZeros_1, fun _ h => absurd h List.not_mem_nil⟩⟩
end
section
/-! The two worlds' layouts are sound; contracts of either world -/
def zx_lokB (lay : List zx_C) (loc : Nat → Nat × Nat) : Bool := lay.zipIdx.all (fun q => match q.1 with
  | .inl (ci, ks) => decide (ks.map zx_kt = zx_kd ci) && ks.zipIdx.all (fun z => decide (z.1 < 50) || decide (100 ≤ z.1) || decide ((q.2, z.2) = loc z.1))
  | .inr _ => true)
theorem zx_lok_of {lay : List zx_C} {loc : Nat → Nat × Nat} (h : zx_lokB lay loc = true) : zx_lok lay := by
  have h0 := List.all_eq_true.mp h
  have key : ∀ (p ci : Nat) (ks : List Nat), lay[p]? = some (.inl (ci, ks)) → ks.map zx_kt = zx_kd ci ∧ ∀ i kd, ks[i]? = some kd → 50 ≤ kd → kd < 100 → (p, i) = loc kd := by
    intro p ci ks hp
    have h1 := h0 (.inl (ci, ks), p) (List.mem_zipIdx_iff_getElem?.mpr hp)
    simp only [Bool.and_eq_true, decide_eq_true_eq, List.all_eq_true] at h1
    refine ⟨h1.1, fun i kd hi h5 h6 => ?_⟩
    have h2 := h1.2 (kd, i) (List.mem_zipIdx_iff_getElem?.mpr hi)
    simp only [Bool.or_eq_true, decide_eq_true_eq] at h2
    rcases h2 with (h2 | h2) | h2
    · omega
    · omega
    · exact h2
  refine ⟨fun q ci ks hq => (key q ci ks hq).1, fun p q ci cj ks kt i j kd hp hq hi hj h5 h6 => ?_⟩
  have e1 := (key p ci ks hp).2 i kd hi h5 h6
  have e2 := (key q cj kt hq).2 j kd hj h5 h6
  have e := e1.trans e2.symm
  exact ⟨(Prod.mk.inj e).1, (Prod.mk.inj e).2⟩
def zx_locC (kd : Nat) : Nat × Nat := match kd with
  | 50 => (12, 0)
  | 51 => (5, 3)
  | 52 => (7, 6)
  | _ => (17, 4)
theorem zx_lokC : zx_lok zx_LC := zx_lok_of (loc := zx_locC) (by decide +kernel)
theorem zx_lokR : zx_lok zx_LR := zx_lok_of (loc := zx_locC) (by decide +kernel)
abbrev zx_MC (l : Launch) (E : zx_E) : Nat → Nat → List Value → zx_S → (Option Value → zx_S → Prop) → Prop := zx_Met zx_mt zx_LC zx_ro l E
abbrev zx_MR (l : Launch) (E : zx_E) : Nat → Nat → List Value → zx_S → (Option Value → zx_S → Prop) → Prop := zx_Met zx_mt zx_LR zx_ro l E
abbrev zx_RC (l : Launch) (E : zx_E) : zx_K → Nat → (Option Value → zx_S → Prop) → (zx_X → Prop) → Prop := zx_R zx_mt zx_LC zx_ro l E
abbrev zx_RR (l : Launch) (E : zx_E) : zx_K → Nat → (Option Value → zx_S → Prop) → (zx_X → Prop) → Prop := zx_R zx_mt zx_LR zx_ro l E
theorem zx_ofC {l : Launch} {E : zx_E} {k d : Nat} {av : List Value} {S : zx_S} {Q : Option Value → zx_S → Prop} {y : zx_Y} {K : zx_K} (hk : zx_mt[k]? = some y) (hy : plainName y.1.cls = true) (hon : zx_on y.2.1 = y.1.cls) (hK : ∀ g ∈ K, zx_okK y.2.1 y.2.2.2.2 y.2.2.1 g.2 = true) (hlen : (zx_sl av).length ≤ y.2.2.2.1)
    (h : ∀ Zp : zx_X → Prop, zx_RC l E K d Q Zp → Zp (0, zx_ent y.2.2.2.1 av, [], S)) : zx_MC l E k d av S Q := zx_Met.of zx_vtab_ok zx_stab2_ok zx_lokC hk hy hon hK hlen h
theorem zx_ofR {l : Launch} {E : zx_E} {k d : Nat} {av : List Value} {S : zx_S} {Q : Option Value → zx_S → Prop} {y : zx_Y} {K : zx_K} (hk : zx_mt[k]? = some y) (hy : plainName y.1.cls = true) (hon : zx_on y.2.1 = y.1.cls) (hK : ∀ g ∈ K, zx_okK y.2.1 y.2.2.2.2 y.2.2.1 g.2 = true) (hlen : (zx_sl av).length ≤ y.2.2.2.1)
    (h : ∀ Zp : zx_X → Prop, zx_RR l E K d Q Zp → Zp (0, zx_ent y.2.2.2.1 av, [], S)) : zx_MR l E k d av S Q := zx_Met.of zx_vtab_ok zx_stab2_ok zx_lokR hk hy hon hK hlen h
/-- a contract says more than another -/
theorem zx_Met.mono {mt : List zx_Y} {lay : List zx_C} {ro : Nat × (Nat → Int32)} {l : Launch} {E : zx_E} {k d : Nat} {av : List Value} {S : zx_S} {Q Q' : Option Value → zx_S → Prop} (h : zx_Met mt lay ro l E k d av S Q) (hq : ∀ v S', Q v S' → Q' v S') : zx_Met mt lay ro l E k d av S Q' := by
  obtain ⟨y, hy, hM⟩ := h
  refine ⟨y, hy, ?_⟩
  intro p e ha hc hk s m args below hf happ hP hK
  obtain ⟨k, o, h1, h2, h3, ⟨⟨r, S', e1, e2, e3⟩, h5⟩, h6⟩ := hM p e ha hc hk s m args below hf happ hP hK
  exact ⟨k, o, h1, h2, h3, ⟨⟨r, S', e1, hq _ _ e2, e3⟩, h5⟩, h6⟩
end
section
/-! Rows of bytes -/
theorem zi_le {x y : Int32} : x ≤ y ↔ x.toInt ≤ y.toInt := Int32.le_iff_toInt_le
theorem zi_lt {x y : Int32} : x < y ↔ x.toInt < y.toInt := Int32.lt_iff_toInt_lt
theorem zin {x k : Int32} {n : Nat} (h0 : 0 ≤ x) (h1 : x < k) (hk : k.toInt = n) : vp_in x n := vp_in_iff.mpr ⟨zi_le.mp h0, by rw [← hk]; exact zi_lt.mp h1⟩
theorem zn_nI {n : Nat} (h : n < 2 ^ 31) : zn (nI n) = n := nI_clamp h
theorem zi_m1 (x : Int32) : x + -1 = x - 1 := (Int32.sub_eq_add_neg x 1).symm
theorem zg_pi (D : zx_D) (p k q j : Nat) (x : Int32) : zg_i (zp_i D p k x) q j = if q = p ∧ j = k then x else zg_i D q j := by
  unfold zg_i zp_i va_up
  by_cases h : q = p
  · subst h
    by_cases h2 : j = k <;> simp [h2]
  · simp [h]
theorem zg_pl (D : zx_D) (p k q j : Nat) (x : Int64) : zg_l (zp_l D p k x) q j = if q = p ∧ j = k then x else zg_l D q j := by
  unfold zg_l zp_l va_up
  by_cases h : q = p
  · subst h
    by_cases h2 : j = k <;> simp [h2]
  · simp [h]
theorem zg_il (D : zx_D) (p k q j : Nat) (x : Int64) : zg_i (zp_l D p k x) q j = zg_i D q j := rfl
theorem zg_li (D : zx_D) (p k q j : Nat) (x : Int32) : zg_l (zp_i D p k x) q j = zg_l D q j := rfl
theorem zp_i1 (D : zx_D) (p k q : Nat) (x : Int32) (h : q ≠ p) : (zp_i D p k x).1 q = D.1 q := zx_up_ne h
theorem zp_l1 (D : zx_D) (p k : Nat) (x : Int64) : (zp_l D p k x).1 = D.1 := rfl
def fr_app (r a : Nat) (n b : Int32) (D : zx_D) : zx_D := if zg_i D r 1 < n then zp_i (zp_i D a (zn (zg_i D r 1)) b) r 1 (zg_i D r 1 + 1) else zp_i D r 2 1
def fr_all (r a : Nat) (n : Int32) (g : Nat → Int32) : Nat → Nat → zx_D → zx_D
  | 0, _, D => D
  | k + 1, j, D => fr_all r a n g k (j + 1) (fr_app r a n (g j) D)
theorem fr_app_1 {r a q : Nat} {n b : Int32} {D : zx_D} (h1 : q ≠ r) (h2 : q ≠ a) : (fr_app r a n b D).1 q = D.1 q := by
  unfold fr_app
  split
  · rw [zp_i1 _ _ _ _ _ h1, zp_i1 _ _ _ _ _ h2]
  · rw [zp_i1 _ _ _ _ _ h1]
theorem fr_app_2 {r a : Nat} {n b : Int32} {D : zx_D} : (fr_app r a n b D).2 = D.2 := by
  unfold fr_app
  split <;> rfl
theorem fr_app_sz {r a : Nat} {n b : Int32} {D : zx_D} (hra : r ≠ a) (h0 : 0 ≤ zg_i D r 1) (hn : n.toInt < 2 ^ 30) : 0 ≤ zg_i (fr_app r a n b D) r 1 := by
  unfold fr_app
  split
  · rename_i h
    rw [zg_pi, if_pos ⟨rfl, rfl⟩]
    rw [zi_le] at h0 ⊢
    rw [zi_lt] at h
    rw [Int32.toInt_add]
    simp only [Int32.toInt_ofNat', Int32.toInt_zero] at *
    have e1 : (1 : Int32).toInt = 1 := rfl
    rw [e1, Int.bmod_eq_of_le (by omega) (by omega)]
    omega
  · rw [zg_pi, if_neg (fun e => by have := e.2; omega)]
    exact h0
set_option maxRecDepth 100000 in
set_option maxHeartbeats 4000000 in
theorem t_app_1 {l : Launch} {E : zx_E} {d : Nat} {rf : List Nat} (b : Int32) (D : zx_D) (h0 : 0 ≤ zg_i D 1 1) : zx_MC l E 22 d [.ref 1, .int b] (rf, D) (fun v S => v = none ∧ S = (rf, fr_app 1 2 400 b D)) := by
  refine zx_ofC (K := ck_Row_append) rfl (by decide +kernel) rfl ok_Row_append (Nat.le_of_ble_eq_true rfl) (fun Zp hr => ?_)
  show Zp (0, [some (.ref 1), some (.int b)], [], rf, D)
  refine hr.1 5 True _ _ (9, [some (.ref 1), some (.int b)], [.int 400, .int (zg_i D 1 1)], rf, D) rfl trivial ?_
  refine hr.2.1 _ (zg_i D 1 1 < 400) _ _ rfl (fun h9 => ?_) (fun h9 => ?_)
  · skip
    refine hr.1 12 True _ _ (38, [some (.ref 1), some (.int b)], [], rf, zp_i (zp_i D 2 (zn (zg_i D 1 1)) b) 1 1 ((zg_i D 1 1) + 1)) rfl ⟨trivial, (zin h0 h9 rfl)⟩ ?_
    exact hr.2.2.2 _ _ _ rfl trivial ⟨rfl, by simp only [fr_app, h9, if_true, if_false]⟩
  · skip
    refine hr.1 3 True _ _ (17, [some (.ref 1), some (.int b)], [], rf, zp_i D 1 2 1) rfl ⟨trivial, Or.inr rfl⟩ ?_
    exact hr.2.2.2 _ _ _ rfl trivial ⟨rfl, by simp only [fr_app, h9, if_true, if_false]⟩
set_option maxRecDepth 100000 in
set_option maxHeartbeats 4000000 in
theorem t_app_3 {l : Launch} {E : zx_E} {d : Nat} {rf : List Nat} (b : Int32) (D : zx_D) (h0 : 0 ≤ zg_i D 3 1) : zx_MC l E 22 d [.ref 3, .int b] (rf, D) (fun v S => v = none ∧ S = (rf, fr_app 3 4 640 b D)) := by
  refine zx_ofC (K := ck_Row_append) rfl (by decide +kernel) rfl ok_Row_append (Nat.le_of_ble_eq_true rfl) (fun Zp hr => ?_)
  show Zp (0, [some (.ref 3), some (.int b)], [], rf, D)
  refine hr.1 5 True _ _ (9, [some (.ref 3), some (.int b)], [.int 640, .int (zg_i D 3 1)], rf, D) rfl trivial ?_
  refine hr.2.1 _ (zg_i D 3 1 < 640) _ _ rfl (fun h9 => ?_) (fun h9 => ?_)
  · skip
    refine hr.1 12 True _ _ (38, [some (.ref 3), some (.int b)], [], rf, zp_i (zp_i D 4 (zn (zg_i D 3 1)) b) 3 1 ((zg_i D 3 1) + 1)) rfl ⟨trivial, (zin h0 h9 rfl)⟩ ?_
    exact hr.2.2.2 _ _ _ rfl trivial ⟨rfl, by simp only [fr_app, h9, if_true, if_false]⟩
  · skip
    refine hr.1 3 True _ _ (17, [some (.ref 3), some (.int b)], [], rf, zp_i D 3 2 1) rfl ⟨trivial, Or.inr rfl⟩ ?_
    exact hr.2.2.2 _ _ _ rfl trivial ⟨rfl, by simp only [fr_app, h9, if_true, if_false]⟩
set_option maxRecDepth 100000 in
set_option maxHeartbeats 4000000 in
theorem t_app_10 {l : Launch} {E : zx_E} {d : Nat} {rf : List Nat} (b : Int32) (D : zx_D) (h0 : 0 ≤ zg_i D 10 1) : zx_MC l E 22 d [.ref 10, .int b] (rf, D) (fun v S => v = none ∧ S = (rf, fr_app 10 11 400 b D)) := by
  refine zx_ofC (K := ck_Row_append) rfl (by decide +kernel) rfl ok_Row_append (Nat.le_of_ble_eq_true rfl) (fun Zp hr => ?_)
  show Zp (0, [some (.ref 10), some (.int b)], [], rf, D)
  refine hr.1 5 True _ _ (9, [some (.ref 10), some (.int b)], [.int 400, .int (zg_i D 10 1)], rf, D) rfl trivial ?_
  refine hr.2.1 _ (zg_i D 10 1 < 400) _ _ rfl (fun h9 => ?_) (fun h9 => ?_)
  · skip
    refine hr.1 12 True _ _ (38, [some (.ref 10), some (.int b)], [], rf, zp_i (zp_i D 11 (zn (zg_i D 10 1)) b) 10 1 ((zg_i D 10 1) + 1)) rfl ⟨trivial, (zin h0 h9 rfl)⟩ ?_
    exact hr.2.2.2 _ _ _ rfl trivial ⟨rfl, by simp only [fr_app, h9, if_true, if_false]⟩
  · skip
    refine hr.1 3 True _ _ (17, [some (.ref 10), some (.int b)], [], rf, zp_i D 10 2 1) rfl ⟨trivial, Or.inr rfl⟩ ?_
    exact hr.2.2.2 _ _ _ rfl trivial ⟨rfl, by simp only [fr_app, h9, if_true, if_false]⟩
set_option maxRecDepth 100000 in
set_option maxHeartbeats 4000000 in
theorem t_app_18 {l : Launch} {E : zx_E} {d : Nat} {rf : List Nat} (b : Int32) (D : zx_D) (h0 : 0 ≤ zg_i D 18 1) : zx_MC l E 22 d [.ref 18, .int b] (rf, D) (fun v S => v = none ∧ S = (rf, fr_app 18 19 640 b D)) := by
  refine zx_ofC (K := ck_Row_append) rfl (by decide +kernel) rfl ok_Row_append (Nat.le_of_ble_eq_true rfl) (fun Zp hr => ?_)
  show Zp (0, [some (.ref 18), some (.int b)], [], rf, D)
  refine hr.1 5 True _ _ (9, [some (.ref 18), some (.int b)], [.int 640, .int (zg_i D 18 1)], rf, D) rfl trivial ?_
  refine hr.2.1 _ (zg_i D 18 1 < 640) _ _ rfl (fun h9 => ?_) (fun h9 => ?_)
  · skip
    refine hr.1 12 True _ _ (38, [some (.ref 18), some (.int b)], [], rf, zp_i (zp_i D 19 (zn (zg_i D 18 1)) b) 18 1 ((zg_i D 18 1) + 1)) rfl ⟨trivial, (zin h0 h9 rfl)⟩ ?_
    exact hr.2.2.2 _ _ _ rfl trivial ⟨rfl, by simp only [fr_app, h9, if_true, if_false]⟩
  · skip
    refine hr.1 3 True _ _ (17, [some (.ref 18), some (.int b)], [], rf, zp_i D 18 2 1) rfl ⟨trivial, Or.inr rfl⟩ ?_
    exact hr.2.2.2 _ _ _ rfl trivial ⟨rfl, by simp only [fr_app, h9, if_true, if_false]⟩
set_option maxRecDepth 100000 in
set_option maxHeartbeats 4000000 in
theorem t_room_1 {l : Launch} {E : zx_E} {d : Nat} {rf : List Nat} (n : Int32) (D : zx_D) : zx_MC l E 21 d [.ref 1, .int n] (rf, D) (fun v S => v = some (.int (if 400 - zg_i D 1 1 < n then 0 else 1)) ∧ S = (rf, D)) := by
  refine zx_ofC (K := ck_Row_hasRoom) rfl (by decide +kernel) rfl ok_Row_hasRoom (Nat.le_of_ble_eq_true rfl) (fun Zp hr => ?_)
  show Zp (0, [some (.ref 1), some (.int n)], [], rf, D)
  refine hr.1 7 True _ _ (11, [some (.ref 1), some (.int n)], [.int (400 - (zg_i D 1 1)), .int n], rf, D) rfl trivial ?_
  refine hr.2.1 _ (400 - (zg_i D 1 1) < n) _ _ rfl (fun h11 => ?_) (fun h11 => ?_)
  · skip
    refine hr.1 1 True _ _ (19, [some (.ref 1), some (.int n)], [.int 0], rf, D) rfl trivial ?_
    exact hr.2.2.2 _ _ _ rfl (Or.inl rfl) ⟨by simp only [h11, if_true, if_false], rfl⟩
  · skip
    refine hr.1 2 True _ _ (19, [some (.ref 1), some (.int n)], [.int 1], rf, D) rfl trivial ?_
    exact hr.2.2.2 _ _ _ rfl (Or.inr rfl) ⟨by simp only [h11, if_true, if_false], rfl⟩
set_option maxRecDepth 100000 in
set_option maxHeartbeats 4000000 in
theorem t_byteAt_1 {l : Launch} {E : zx_E} {d : Nat} {rf : List Nat} (i : Int32) (D : zx_D) (hin : 0 ≤ i → i < zg_i D 1 1 → vp_in i 400) : zx_MC l E 26 d [.ref 1, .int i] (rf, D) (fun v S => v = some (.int (if i < 0 then -1 else if zg_i D 1 1 ≤ i then -1 else zg_i D 2 (zn i))) ∧ S = (rf, D)) := by
  refine zx_ofC (K := ck_Row_byteAt) rfl (by decide +kernel) rfl ok_Row_byteAt (Nat.le_of_ble_eq_true rfl) (fun Zp hr => ?_)
  show Zp (0, [some (.ref 1), some (.int i)], [], rf, D)
  refine hr.1 1 True _ _ (1, [some (.ref 1), some (.int i)], [.int i], rf, D) rfl trivial ?_
  refine hr.2.1 _ (i < 0) _ _ rfl (fun h1 => ?_) (fun h1 => ?_)
  · skip
    refine hr.1 1 True _ _ (22, [some (.ref 1), some (.int i)], [.int (-1)], rf, D) rfl trivial ?_
    exact hr.2.2.2 _ _ _ rfl trivial ⟨by first | rw [if_pos h1] | rw [if_neg h1, if_pos h9] | rw [if_neg h1, if_neg h9], rfl⟩
  · skip
    refine hr.1 3 True _ _ (9, [some (.ref 1), some (.int i)], [.int (zg_i D 1 1), .int i], rf, D) rfl trivial ?_
    refine hr.2.1 _ (zg_i D 1 1 ≤ i) _ _ rfl (fun h9 => ?_) (fun h9 => ?_)
    · skip
      refine hr.1 1 True _ _ (22, [some (.ref 1), some (.int i)], [.int (-1)], rf, D) rfl trivial ?_
      exact hr.2.2.2 _ _ _ rfl trivial ⟨by first | rw [if_pos h1] | rw [if_neg h1, if_pos h9] | rw [if_neg h1, if_neg h9], rfl⟩
    · skip
      refine hr.1 5 True _ _ (22, [some (.ref 1), some (.int i)], [.int (zg_i D 2 (zn i))], rf, D) rfl ⟨trivial, (hin (by rw [zi_le]; rw [zi_lt] at h1; omega) (by rw [zi_lt]; rw [zi_le] at h9; omega))⟩ ?_
      exact hr.2.2.2 _ _ _ rfl trivial ⟨by first | rw [if_pos h1] | rw [if_neg h1, if_pos h9] | rw [if_neg h1, if_neg h9], rfl⟩
set_option maxRecDepth 100000 in
set_option maxHeartbeats 4000000 in
theorem t_room_3 {l : Launch} {E : zx_E} {d : Nat} {rf : List Nat} (n : Int32) (D : zx_D) : zx_MC l E 21 d [.ref 3, .int n] (rf, D) (fun v S => v = some (.int (if 640 - zg_i D 3 1 < n then 0 else 1)) ∧ S = (rf, D)) := by
  refine zx_ofC (K := ck_Row_hasRoom) rfl (by decide +kernel) rfl ok_Row_hasRoom (Nat.le_of_ble_eq_true rfl) (fun Zp hr => ?_)
  show Zp (0, [some (.ref 3), some (.int n)], [], rf, D)
  refine hr.1 7 True _ _ (11, [some (.ref 3), some (.int n)], [.int (640 - (zg_i D 3 1)), .int n], rf, D) rfl trivial ?_
  refine hr.2.1 _ (640 - (zg_i D 3 1) < n) _ _ rfl (fun h11 => ?_) (fun h11 => ?_)
  · skip
    refine hr.1 1 True _ _ (19, [some (.ref 3), some (.int n)], [.int 0], rf, D) rfl trivial ?_
    exact hr.2.2.2 _ _ _ rfl (Or.inl rfl) ⟨by simp only [h11, if_true, if_false], rfl⟩
  · skip
    refine hr.1 2 True _ _ (19, [some (.ref 3), some (.int n)], [.int 1], rf, D) rfl trivial ?_
    exact hr.2.2.2 _ _ _ rfl (Or.inr rfl) ⟨by simp only [h11, if_true, if_false], rfl⟩
set_option maxRecDepth 100000 in
set_option maxHeartbeats 4000000 in
theorem t_byteAt_3 {l : Launch} {E : zx_E} {d : Nat} {rf : List Nat} (i : Int32) (D : zx_D) (hin : 0 ≤ i → i < zg_i D 3 1 → vp_in i 640) : zx_MC l E 26 d [.ref 3, .int i] (rf, D) (fun v S => v = some (.int (if i < 0 then -1 else if zg_i D 3 1 ≤ i then -1 else zg_i D 4 (zn i))) ∧ S = (rf, D)) := by
  refine zx_ofC (K := ck_Row_byteAt) rfl (by decide +kernel) rfl ok_Row_byteAt (Nat.le_of_ble_eq_true rfl) (fun Zp hr => ?_)
  show Zp (0, [some (.ref 3), some (.int i)], [], rf, D)
  refine hr.1 1 True _ _ (1, [some (.ref 3), some (.int i)], [.int i], rf, D) rfl trivial ?_
  refine hr.2.1 _ (i < 0) _ _ rfl (fun h1 => ?_) (fun h1 => ?_)
  · skip
    refine hr.1 1 True _ _ (22, [some (.ref 3), some (.int i)], [.int (-1)], rf, D) rfl trivial ?_
    exact hr.2.2.2 _ _ _ rfl trivial ⟨by first | rw [if_pos h1] | rw [if_neg h1, if_pos h9] | rw [if_neg h1, if_neg h9], rfl⟩
  · skip
    refine hr.1 3 True _ _ (9, [some (.ref 3), some (.int i)], [.int (zg_i D 3 1), .int i], rf, D) rfl trivial ?_
    refine hr.2.1 _ (zg_i D 3 1 ≤ i) _ _ rfl (fun h9 => ?_) (fun h9 => ?_)
    · skip
      refine hr.1 1 True _ _ (22, [some (.ref 3), some (.int i)], [.int (-1)], rf, D) rfl trivial ?_
      exact hr.2.2.2 _ _ _ rfl trivial ⟨by first | rw [if_pos h1] | rw [if_neg h1, if_pos h9] | rw [if_neg h1, if_neg h9], rfl⟩
    · skip
      refine hr.1 5 True _ _ (22, [some (.ref 3), some (.int i)], [.int (zg_i D 4 (zn i))], rf, D) rfl ⟨trivial, (hin (by rw [zi_le]; rw [zi_lt] at h1; omega) (by rw [zi_lt]; rw [zi_le] at h9; omega))⟩ ?_
      exact hr.2.2.2 _ _ _ rfl trivial ⟨by first | rw [if_pos h1] | rw [if_neg h1, if_pos h9] | rw [if_neg h1, if_neg h9], rfl⟩
set_option maxRecDepth 100000 in
set_option maxHeartbeats 4000000 in
theorem t_clear_10 {l : Launch} {E : zx_E} {d : Nat} {rf : List Nat} (D : zx_D) : zx_MC l E 20 d [.ref 10] (rf, D) (fun v S => v = none ∧ S = (rf, zp_i (zp_i D 10 1 0) 10 2 0)) := by
  refine zx_ofC (K := ck_Row_clear) rfl (by decide +kernel) rfl ok_Row_clear (Nat.le_of_ble_eq_true rfl) (fun Zp hr => ?_)
  show Zp (0, [some (.ref 10)], [], rf, D)
  refine hr.1 6 True _ _ (10, [some (.ref 10)], [], rf, zp_i (zp_i D 10 1 0) 10 2 0) rfl ⟨trivial, Or.inl rfl⟩ ?_
  exact hr.2.2.2 _ _ _ rfl trivial ⟨rfl, rfl⟩
set_option maxRecDepth 100000 in
set_option maxHeartbeats 4000000 in
theorem t_room_10 {l : Launch} {E : zx_E} {d : Nat} {rf : List Nat} (n : Int32) (D : zx_D) : zx_MC l E 21 d [.ref 10, .int n] (rf, D) (fun v S => v = some (.int (if 400 - zg_i D 10 1 < n then 0 else 1)) ∧ S = (rf, D)) := by
  refine zx_ofC (K := ck_Row_hasRoom) rfl (by decide +kernel) rfl ok_Row_hasRoom (Nat.le_of_ble_eq_true rfl) (fun Zp hr => ?_)
  show Zp (0, [some (.ref 10), some (.int n)], [], rf, D)
  refine hr.1 7 True _ _ (11, [some (.ref 10), some (.int n)], [.int (400 - (zg_i D 10 1)), .int n], rf, D) rfl trivial ?_
  refine hr.2.1 _ (400 - (zg_i D 10 1) < n) _ _ rfl (fun h11 => ?_) (fun h11 => ?_)
  · skip
    refine hr.1 1 True _ _ (19, [some (.ref 10), some (.int n)], [.int 0], rf, D) rfl trivial ?_
    exact hr.2.2.2 _ _ _ rfl (Or.inl rfl) ⟨by simp only [h11, if_true, if_false], rfl⟩
  · skip
    refine hr.1 2 True _ _ (19, [some (.ref 10), some (.int n)], [.int 1], rf, D) rfl trivial ?_
    exact hr.2.2.2 _ _ _ rfl (Or.inr rfl) ⟨by simp only [h11, if_true, if_false], rfl⟩
set_option maxRecDepth 100000 in
set_option maxHeartbeats 4000000 in
theorem t_clear_18 {l : Launch} {E : zx_E} {d : Nat} {rf : List Nat} (D : zx_D) : zx_MC l E 20 d [.ref 18] (rf, D) (fun v S => v = none ∧ S = (rf, zp_i (zp_i D 18 1 0) 18 2 0)) := by
  refine zx_ofC (K := ck_Row_clear) rfl (by decide +kernel) rfl ok_Row_clear (Nat.le_of_ble_eq_true rfl) (fun Zp hr => ?_)
  show Zp (0, [some (.ref 18)], [], rf, D)
  refine hr.1 6 True _ _ (10, [some (.ref 18)], [], rf, zp_i (zp_i D 18 1 0) 18 2 0) rfl ⟨trivial, Or.inl rfl⟩ ?_
  exact hr.2.2.2 _ _ _ rfl trivial ⟨rfl, rfl⟩
set_option maxRecDepth 100000 in
set_option maxHeartbeats 4000000 in
theorem t_all_18_23 {l : Launch} {E : zx_E} {d : Nat} {rf : List Nat} (s c : Nat) (D : zx_D) (h0 : 0 ≤ zg_i D 18 1) (hs : s + c ≤ 6) : zx_MC l E 23 (d + 1) [.ref 18, .ref 23, .int (nI s), .int (nI c)] (rf, D) (fun v S => v = none ∧ S = (rf, fr_all 18 19 640 ro_f c s D)) := by
  refine zx_ofC (K := ck_Row_appendAll) rfl (by decide +kernel) rfl ok_Row_appendAll (Nat.le_of_ble_eq_true rfl) (fun Zp hr => ?_)
  show Zp (0, [some (.ref 18), some (.ref 23), some (.int (nI s)), some (.int (nI c)), none], [], rf, D)
  have loop : ∀ (k j : Nat) (D1 : zx_D), j + k = s + c → 0 ≤ zg_i D1 18 1 → fr_all 18 19 640 ro_f k j D1 = fr_all 18 19 640 ro_f c s D → Zp (3, [some (.ref 18), some (.ref 23), some (.int (nI s)), some (.int (nI c)), some (.int (nI j))], [], rf, D1) := by
    intro k
    induction k with
    | zero =>
      intro j D1 hj h0 hf
      rw [Nat.add_zero] at hj
      refine hr.1 4 True _ _ (8, [some (.ref 18), some (.ref 23), some (.int (nI s)), some (.int (nI c)), some (.int (nI j))], [.int ((nI s) + (nI c)), .int (nI j)], rf, D1) rfl trivial ?_
      refine hr.2.1 _ ((nI s) + (nI c) ≤ nI j) _ _ rfl (fun _ => ?_) (fun h => absurd (by rw [nI_add, hj]; exact nI_le (Nat.le_refl _) (by omega)) h)
      exact hr.2.2.2 _ _ _ rfl trivial ⟨rfl, by rw [← hf]; rfl⟩
    | succ k ih =>
      intro j D1 hj h0 hf
      have hb : ro_f (zn (nI j)) = ro_f j := by rw [zn_nI (by omega)]
      refine hr.1 4 True _ _ (8, [some (.ref 18), some (.ref 23), some (.int (nI s)), some (.int (nI c)), some (.int (nI j))], [.int ((nI s) + (nI c)), .int (nI j)], rf, D1) rfl trivial ?_
      refine hr.2.1 _ ((nI s) + (nI c) ≤ nI j) _ _ rfl (fun h => absurd h (by rw [nI_add, nI_leI (by omega) (by omega)]; omega)) (fun _ => ?_)
      refine hr.1 4 True _ _ (16, [some (.ref 18), some (.ref 23), some (.int (nI s)), some (.int (nI c)), some (.int (nI j))], [.int (ro_f (zn (nI j))), .ref 18], rf, D1) rfl ⟨trivial, (pk_in j 6 (by omega))⟩ ?_
      rw [hb]
      refine hr.2.2.1 _ _ _ _ _ d rfl (by omega) (t_app_18 (ro_f j) D1 h0) (fun v S hq => ?_)
      obtain ⟨rfl, rfl⟩ := hq
      refine hr.1 2 True _ _ (3, [some (.ref 18), some (.ref 23), some (.int (nI s)), some (.int (nI c)), some (.int ((nI j) + 1))], [], rf, fr_app 18 19 640 (ro_f j) D1) rfl trivial ?_
      rw [nI_1]
      exact ih (j + 1) _ (by omega) (fr_app_sz (by decide) h0 (by decide)) hf
  refine hr.1 2 True _ _ (3, [some (.ref 18), some (.ref 23), some (.int (nI s)), some (.int (nI c)), some (.int (nI s))], [], rf, D) rfl trivial ?_
  exact loop c s D rfl h0 rfl
set_option maxRecDepth 100000 in
set_option maxHeartbeats 4000000 in
theorem t_all_18_2 {l : Launch} {E : zx_E} {d : Nat} {rf : List Nat} (s c : Nat) (D : zx_D) (h0 : 0 ≤ zg_i D 18 1) (hs : s + c ≤ 400) : zx_MC l E 23 (d + 1) [.ref 18, .ref 2, .int (nI s), .int (nI c)] (rf, D) (fun v S => v = none ∧ S = (rf, fr_all 18 19 640 (D.1 2) c s D)) := by
  refine zx_ofC (K := ck_Row_appendAll) rfl (by decide +kernel) rfl ok_Row_appendAll (Nat.le_of_ble_eq_true rfl) (fun Zp hr => ?_)
  show Zp (0, [some (.ref 18), some (.ref 2), some (.int (nI s)), some (.int (nI c)), none], [], rf, D)
  have loop : ∀ (k j : Nat) (D1 : zx_D), j + k = s + c → D1.1 2 = D.1 2 → 0 ≤ zg_i D1 18 1 → fr_all 18 19 640 (D.1 2) k j D1 = fr_all 18 19 640 (D.1 2) c s D → Zp (3, [some (.ref 18), some (.ref 2), some (.int (nI s)), some (.int (nI c)), some (.int (nI j))], [], rf, D1) := by
    intro k
    induction k with
    | zero =>
      intro j D1 hj hq h0 hf
      rw [Nat.add_zero] at hj
      refine hr.1 4 True _ _ (8, [some (.ref 18), some (.ref 2), some (.int (nI s)), some (.int (nI c)), some (.int (nI j))], [.int ((nI s) + (nI c)), .int (nI j)], rf, D1) rfl trivial ?_
      refine hr.2.1 _ ((nI s) + (nI c) ≤ nI j) _ _ rfl (fun _ => ?_) (fun h => absurd (by rw [nI_add, hj]; exact nI_le (Nat.le_refl _) (by omega)) h)
      exact hr.2.2.2 _ _ _ rfl trivial ⟨rfl, by rw [← hf]; rfl⟩
    | succ k ih =>
      intro j D1 hj hq h0 hf
      have hb : zg_i D1 2 (zn (nI j)) = D.1 2 j := by rw [zn_nI (by omega)]; exact congrFun hq j
      refine hr.1 4 True _ _ (8, [some (.ref 18), some (.ref 2), some (.int (nI s)), some (.int (nI c)), some (.int (nI j))], [.int ((nI s) + (nI c)), .int (nI j)], rf, D1) rfl trivial ?_
      refine hr.2.1 _ ((nI s) + (nI c) ≤ nI j) _ _ rfl (fun h => absurd h (by rw [nI_add, nI_leI (by omega) (by omega)]; omega)) (fun _ => ?_)
      refine hr.1 4 True _ _ (16, [some (.ref 18), some (.ref 2), some (.int (nI s)), some (.int (nI c)), some (.int (nI j))], [.int (zg_i D1 2 (zn (nI j))), .ref 18], rf, D1) rfl ⟨trivial, (pk_in j 400 (by omega))⟩ ?_
      rw [hb]
      refine hr.2.2.1 _ _ _ _ _ d rfl (by omega) (t_app_18 ((D.1 2) j) D1 h0) (fun v S hq => ?_)
      obtain ⟨rfl, rfl⟩ := hq
      refine hr.1 2 True _ _ (3, [some (.ref 18), some (.ref 2), some (.int (nI s)), some (.int (nI c)), some (.int ((nI j) + 1))], [], rf, fr_app 18 19 640 ((D.1 2) j) D1) rfl trivial ?_
      rw [nI_1]
      exact ih (j + 1) _ (by omega) (by rw [fr_app_1 (by decide) (by decide)]; exact hq) (fr_app_sz (by decide) h0 (by decide)) hf
  refine hr.1 2 True _ _ (3, [some (.ref 18), some (.ref 2), some (.int (nI s)), some (.int (nI c)), some (.int (nI s))], [], rf, D) rfl trivial ?_
  exact loop c s D rfl rfl h0 rfl
set_option maxRecDepth 100000 in
set_option maxHeartbeats 4000000 in
theorem t_all_18_21 {l : Launch} {E : zx_E} {d : Nat} {rf : List Nat} (s c : Nat) (D : zx_D) (h0 : 0 ≤ zg_i D 18 1) (hs : s + c ≤ 400) : zx_MC l E 23 (d + 1) [.ref 18, .ref 21, .int (nI s), .int (nI c)] (rf, D) (fun v S => v = none ∧ S = (rf, fr_all 18 19 640 (D.1 21) c s D)) := by
  refine zx_ofC (K := ck_Row_appendAll) rfl (by decide +kernel) rfl ok_Row_appendAll (Nat.le_of_ble_eq_true rfl) (fun Zp hr => ?_)
  show Zp (0, [some (.ref 18), some (.ref 21), some (.int (nI s)), some (.int (nI c)), none], [], rf, D)
  have loop : ∀ (k j : Nat) (D1 : zx_D), j + k = s + c → D1.1 21 = D.1 21 → 0 ≤ zg_i D1 18 1 → fr_all 18 19 640 (D.1 21) k j D1 = fr_all 18 19 640 (D.1 21) c s D → Zp (3, [some (.ref 18), some (.ref 21), some (.int (nI s)), some (.int (nI c)), some (.int (nI j))], [], rf, D1) := by
    intro k
    induction k with
    | zero =>
      intro j D1 hj hq h0 hf
      rw [Nat.add_zero] at hj
      refine hr.1 4 True _ _ (8, [some (.ref 18), some (.ref 21), some (.int (nI s)), some (.int (nI c)), some (.int (nI j))], [.int ((nI s) + (nI c)), .int (nI j)], rf, D1) rfl trivial ?_
      refine hr.2.1 _ ((nI s) + (nI c) ≤ nI j) _ _ rfl (fun _ => ?_) (fun h => absurd (by rw [nI_add, hj]; exact nI_le (Nat.le_refl _) (by omega)) h)
      exact hr.2.2.2 _ _ _ rfl trivial ⟨rfl, by rw [← hf]; rfl⟩
    | succ k ih =>
      intro j D1 hj hq h0 hf
      have hb : zg_i D1 21 (zn (nI j)) = D.1 21 j := by rw [zn_nI (by omega)]; exact congrFun hq j
      refine hr.1 4 True _ _ (8, [some (.ref 18), some (.ref 21), some (.int (nI s)), some (.int (nI c)), some (.int (nI j))], [.int ((nI s) + (nI c)), .int (nI j)], rf, D1) rfl trivial ?_
      refine hr.2.1 _ ((nI s) + (nI c) ≤ nI j) _ _ rfl (fun h => absurd h (by rw [nI_add, nI_leI (by omega) (by omega)]; omega)) (fun _ => ?_)
      refine hr.1 4 True _ _ (16, [some (.ref 18), some (.ref 21), some (.int (nI s)), some (.int (nI c)), some (.int (nI j))], [.int (zg_i D1 21 (zn (nI j))), .ref 18], rf, D1) rfl ⟨trivial, (pk_in j 400 (by omega))⟩ ?_
      rw [hb]
      refine hr.2.2.1 _ _ _ _ _ d rfl (by omega) (t_app_18 ((D.1 21) j) D1 h0) (fun v S hq => ?_)
      obtain ⟨rfl, rfl⟩ := hq
      refine hr.1 2 True _ _ (3, [some (.ref 18), some (.ref 21), some (.int (nI s)), some (.int (nI c)), some (.int ((nI j) + 1))], [], rf, fr_app 18 19 640 ((D.1 21) j) D1) rfl trivial ?_
      rw [nI_1]
      exact ih (j + 1) _ (by omega) (by rw [fr_app_1 (by decide) (by decide)]; exact hq) (fr_app_sz (by decide) h0 (by decide)) hf
  refine hr.1 2 True _ _ (3, [some (.ref 18), some (.ref 21), some (.int (nI s)), some (.int (nI c)), some (.int (nI s))], [], rf, D) rfl trivial ?_
  exact loop c s D rfl rfl h0 rfl
set_option maxRecDepth 100000 in
set_option maxHeartbeats 4000000 in
theorem t_all_18_22 {l : Launch} {E : zx_E} {d : Nat} {rf : List Nat} (s c : Nat) (D : zx_D) (h0 : 0 ≤ zg_i D 18 1) (hs : s + c ≤ 6) : zx_MC l E 23 (d + 1) [.ref 18, .ref 22, .int (nI s), .int (nI c)] (rf, D) (fun v S => v = none ∧ S = (rf, fr_all 18 19 640 (D.1 22) c s D)) := by
  refine zx_ofC (K := ck_Row_appendAll) rfl (by decide +kernel) rfl ok_Row_appendAll (Nat.le_of_ble_eq_true rfl) (fun Zp hr => ?_)
  show Zp (0, [some (.ref 18), some (.ref 22), some (.int (nI s)), some (.int (nI c)), none], [], rf, D)
  have loop : ∀ (k j : Nat) (D1 : zx_D), j + k = s + c → D1.1 22 = D.1 22 → 0 ≤ zg_i D1 18 1 → fr_all 18 19 640 (D.1 22) k j D1 = fr_all 18 19 640 (D.1 22) c s D → Zp (3, [some (.ref 18), some (.ref 22), some (.int (nI s)), some (.int (nI c)), some (.int (nI j))], [], rf, D1) := by
    intro k
    induction k with
    | zero =>
      intro j D1 hj hq h0 hf
      rw [Nat.add_zero] at hj
      refine hr.1 4 True _ _ (8, [some (.ref 18), some (.ref 22), some (.int (nI s)), some (.int (nI c)), some (.int (nI j))], [.int ((nI s) + (nI c)), .int (nI j)], rf, D1) rfl trivial ?_
      refine hr.2.1 _ ((nI s) + (nI c) ≤ nI j) _ _ rfl (fun _ => ?_) (fun h => absurd (by rw [nI_add, hj]; exact nI_le (Nat.le_refl _) (by omega)) h)
      exact hr.2.2.2 _ _ _ rfl trivial ⟨rfl, by rw [← hf]; rfl⟩
    | succ k ih =>
      intro j D1 hj hq h0 hf
      have hb : zg_i D1 22 (zn (nI j)) = D.1 22 j := by rw [zn_nI (by omega)]; exact congrFun hq j
      refine hr.1 4 True _ _ (8, [some (.ref 18), some (.ref 22), some (.int (nI s)), some (.int (nI c)), some (.int (nI j))], [.int ((nI s) + (nI c)), .int (nI j)], rf, D1) rfl trivial ?_
      refine hr.2.1 _ ((nI s) + (nI c) ≤ nI j) _ _ rfl (fun h => absurd h (by rw [nI_add, nI_leI (by omega) (by omega)]; omega)) (fun _ => ?_)
      refine hr.1 4 True _ _ (16, [some (.ref 18), some (.ref 22), some (.int (nI s)), some (.int (nI c)), some (.int (nI j))], [.int (zg_i D1 22 (zn (nI j))), .ref 18], rf, D1) rfl ⟨trivial, (pk_in j 6 (by omega))⟩ ?_
      rw [hb]
      refine hr.2.2.1 _ _ _ _ _ d rfl (by omega) (t_app_18 ((D.1 22) j) D1 h0) (fun v S hq => ?_)
      obtain ⟨rfl, rfl⟩ := hq
      refine hr.1 2 True _ _ (3, [some (.ref 18), some (.ref 22), some (.int (nI s)), some (.int (nI c)), some (.int ((nI j) + 1))], [], rf, fr_app 18 19 640 ((D.1 22) j) D1) rfl trivial ?_
      rw [nI_1]
      exact ih (j + 1) _ (by omega) (by rw [fr_app_1 (by decide) (by decide)]; exact hq) (fr_app_sz (by decide) h0 (by decide)) hf
  refine hr.1 2 True _ _ (3, [some (.ref 18), some (.ref 22), some (.int (nI s)), some (.int (nI c)), some (.int (nI s))], [], rf, D) rfl trivial ?_
  exact loop c s D rfl rfl h0 rfl
set_option maxRecDepth 100000 in
set_option maxHeartbeats 4000000 in
theorem t_all_10_4 {l : Launch} {E : zx_E} {d : Nat} {rf : List Nat} (s c : Nat) (D : zx_D) (h0 : 0 ≤ zg_i D 10 1) (hs : s + c ≤ 640) : zx_MC l E 23 (d + 1) [.ref 10, .ref 4, .int (nI s), .int (nI c)] (rf, D) (fun v S => v = none ∧ S = (rf, fr_all 10 11 400 (D.1 4) c s D)) := by
  refine zx_ofC (K := ck_Row_appendAll) rfl (by decide +kernel) rfl ok_Row_appendAll (Nat.le_of_ble_eq_true rfl) (fun Zp hr => ?_)
  show Zp (0, [some (.ref 10), some (.ref 4), some (.int (nI s)), some (.int (nI c)), none], [], rf, D)
  have loop : ∀ (k j : Nat) (D1 : zx_D), j + k = s + c → D1.1 4 = D.1 4 → 0 ≤ zg_i D1 10 1 → fr_all 10 11 400 (D.1 4) k j D1 = fr_all 10 11 400 (D.1 4) c s D → Zp (3, [some (.ref 10), some (.ref 4), some (.int (nI s)), some (.int (nI c)), some (.int (nI j))], [], rf, D1) := by
    intro k
    induction k with
    | zero =>
      intro j D1 hj hq h0 hf
      rw [Nat.add_zero] at hj
      refine hr.1 4 True _ _ (8, [some (.ref 10), some (.ref 4), some (.int (nI s)), some (.int (nI c)), some (.int (nI j))], [.int ((nI s) + (nI c)), .int (nI j)], rf, D1) rfl trivial ?_
      refine hr.2.1 _ ((nI s) + (nI c) ≤ nI j) _ _ rfl (fun _ => ?_) (fun h => absurd (by rw [nI_add, hj]; exact nI_le (Nat.le_refl _) (by omega)) h)
      exact hr.2.2.2 _ _ _ rfl trivial ⟨rfl, by rw [← hf]; rfl⟩
    | succ k ih =>
      intro j D1 hj hq h0 hf
      have hb : zg_i D1 4 (zn (nI j)) = D.1 4 j := by rw [zn_nI (by omega)]; exact congrFun hq j
      refine hr.1 4 True _ _ (8, [some (.ref 10), some (.ref 4), some (.int (nI s)), some (.int (nI c)), some (.int (nI j))], [.int ((nI s) + (nI c)), .int (nI j)], rf, D1) rfl trivial ?_
      refine hr.2.1 _ ((nI s) + (nI c) ≤ nI j) _ _ rfl (fun h => absurd h (by rw [nI_add, nI_leI (by omega) (by omega)]; omega)) (fun _ => ?_)
      refine hr.1 4 True _ _ (16, [some (.ref 10), some (.ref 4), some (.int (nI s)), some (.int (nI c)), some (.int (nI j))], [.int (zg_i D1 4 (zn (nI j))), .ref 10], rf, D1) rfl ⟨trivial, (pk_in j 640 (by omega))⟩ ?_
      rw [hb]
      refine hr.2.2.1 _ _ _ _ _ d rfl (by omega) (t_app_10 ((D.1 4) j) D1 h0) (fun v S hq => ?_)
      obtain ⟨rfl, rfl⟩ := hq
      refine hr.1 2 True _ _ (3, [some (.ref 10), some (.ref 4), some (.int (nI s)), some (.int (nI c)), some (.int ((nI j) + 1))], [], rf, fr_app 10 11 400 ((D.1 4) j) D1) rfl trivial ?_
      rw [nI_1]
      exact ih (j + 1) _ (by omega) (by rw [fr_app_1 (by decide) (by decide)]; exact hq) (fr_app_sz (by decide) h0 (by decide)) hf
  refine hr.1 2 True _ _ (3, [some (.ref 10), some (.ref 4), some (.int (nI s)), some (.int (nI c)), some (.int (nI s))], [], rf, D) rfl trivial ?_
  exact loop c s D rfl rfl h0 rfl
end
section
/-! The cursor -/
def fs_cfail (what at_ : Int32) (D : zx_D) : zx_D := if ¬ zg_i D 12 4 = 0 then D else zp_i (zp_i D 12 4 what) 12 5 at_
set_option maxRecDepth 100000 in
set_option maxHeartbeats 4000000 in
theorem t_cfail {l : Launch} {E : zx_E} {d : Nat} {rf : List Nat} (what at_ : Int32) (D : zx_D)  : zx_MC l E 31 d [.ref 12, .int what, .int at_] (rf, D) (fun v S => v = none ∧ S = (rf, fs_cfail what at_ D)) := by
  refine zx_ofC (K := ck_Cur_fail) rfl (by decide +kernel) rfl ok_Cur_fail (Nat.le_of_ble_eq_true rfl) (fun Zp hr => ?_)
  show Zp (0, [some (.ref 12), some (.int what), some (.int at_)], [], rf, D)
  refine hr.1 2 True _ _ (4, [some (.ref 12), some (.int what), some (.int at_)], [.int (zg_i D 12 4)], rf, D) rfl trivial ?_
  refine hr.2.1 _ (¬ zg_i D 12 4 = 0) _ _ rfl (fun h4 => ?_) (fun h4 => ?_)
  · skip
    exact hr.2.2.2 _ _ _ rfl trivial ⟨rfl, (by rw [fs_cfail, if_pos h4])⟩
  · skip
    refine hr.1 6 True _ _ (17, [some (.ref 12), some (.int what), some (.int at_)], [], rf, zp_i (zp_i D 12 4 what) 12 5 at_) rfl trivial ?_
    exact hr.2.2.2 _ _ _ rfl trivial ⟨rfl, (by rw [fs_cfail, if_neg h4])⟩
def fv_csound  (D : zx_D) : Int32 := if ¬ zg_i D 12 4 = 0 then 0 else 1
set_option maxRecDepth 100000 in
set_option maxHeartbeats 4000000 in
theorem t_csound {l : Launch} {E : zx_E} {d : Nat} {rf : List Nat}  (D : zx_D)  : zx_MC l E 30 d [.ref 12] (rf, D) (fun v S => v = some (.int (fv_csound D)) ∧ S = (rf, D)) := by
  refine zx_ofC (K := ck_Cur_isSound) rfl (by decide +kernel) rfl ok_Cur_isSound (Nat.le_of_ble_eq_true rfl) (fun Zp hr => ?_)
  show Zp (0, [some (.ref 12)], [], rf, D)
  refine hr.1 2 True _ _ (4, [some (.ref 12)], [.int (zg_i D 12 4)], rf, D) rfl trivial ?_
  refine hr.2.1 _ (¬ zg_i D 12 4 = 0) _ _ rfl (fun h4 => ?_) (fun h4 => ?_)
  · skip
    refine hr.1 1 True _ _ (12, [some (.ref 12)], [.int 0], rf, D) rfl trivial ?_
    exact hr.2.2.2 _ _ _ rfl (Or.inl rfl) ⟨(by rw [fv_csound, if_pos h4]), rfl⟩
  · skip
    refine hr.1 2 True _ _ (12, [some (.ref 12)], [.int 1], rf, D) rfl trivial ?_
    exact hr.2.2.2 _ _ _ rfl (Or.inr rfl) ⟨(by rw [fv_csound, if_neg h4]), rfl⟩
def fs_cnarrow (limit : Int32) (D : zx_D) : zx_D := zp_i D 12 2 (if zg_i D 12 1 < limit then zg_i D 12 1 else limit)
set_option maxRecDepth 100000 in
set_option maxHeartbeats 4000000 in
theorem t_cnarrow {l : Launch} {E : zx_E} {d : Nat} {rf : List Nat} (limit : Int32) (D : zx_D)  : zx_MC l E 32 d [.ref 12, .int limit] (rf, D) (fun v S => v = none ∧ S = (rf, fs_cnarrow limit D)) := by
  refine zx_ofC (K := ck_Cur_narrow) rfl (by decide +kernel) rfl ok_Cur_narrow (Nat.le_of_ble_eq_true rfl) (fun Zp hr => ?_)
  show Zp (0, [some (.ref 12), some (.int limit)], [], rf, D)
  refine hr.1 6 True _ _ (12, [some (.ref 12), some (.int limit)], [], rf, zp_i D 12 2 (if zg_i D 12 1 < limit then zg_i D 12 1 else limit)) rfl trivial ?_
  exact hr.2.2.2 _ _ _ rfl trivial ⟨rfl, (by rw [fs_cnarrow])⟩
def fs_cwiden  (D : zx_D) : zx_D := zp_i D 12 2 (zg_i D 12 1)
set_option maxRecDepth 100000 in
set_option maxHeartbeats 4000000 in
theorem t_cwiden {l : Launch} {E : zx_E} {d : Nat} {rf : List Nat}  (D : zx_D)  : zx_MC l E 33 d [.ref 12] (rf, D) (fun v S => v = none ∧ S = (rf, fs_cwiden D)) := by
  refine zx_ofC (K := ck_Cur_widen) rfl (by decide +kernel) rfl ok_Cur_widen (Nat.le_of_ble_eq_true rfl) (fun Zp hr => ?_)
  show Zp (0, [some (.ref 12)], [], rf, D)
  refine hr.1 4 True _ _ (8, [some (.ref 12)], [], rf, zp_i D 12 2 (zg_i D 12 1)) rfl trivial ?_
  exact hr.2.2.2 _ _ _ rfl trivial ⟨rfl, (by rw [fs_cwiden])⟩
def fs_cbegin  (D : zx_D) : zx_D := zp_i (zp_i (zp_i (zp_i (zp_i D 12 1 (zg_i D 3 1)) 12 2 (zg_i D 3 1)) 12 3 0) 12 4 0) 12 5 (-1)
set_option maxRecDepth 100000 in
set_option maxHeartbeats 4000000 in
theorem t_cbegin {l : Launch} {E : zx_E} {d : Nat} {cb sd ln pp : Nat}  (D : zx_D)  : zx_MC l E 29 d [.ref 12, .ref 3] ([cb, sd, ln, pp], D) (fun v S => v = none ∧ S = ([4, sd, ln, pp], fs_cbegin D)) := by
  refine zx_ofC (K := ck_Cur_begin) rfl (by decide +kernel) rfl ok_Cur_begin (Nat.le_of_ble_eq_true rfl) (fun Zp hr => ?_)
  show Zp (0, [some (.ref 12), some (.ref 3)], [], [cb, sd, ln, pp], D)
  refine hr.1 21 True _ _ (39, [some (.ref 12), some (.ref 3)], [], [4, sd, ln, pp], zp_i (zp_i (zp_i (zp_i (zp_i D 12 1 (zg_i D 3 1)) 12 2 (zg_i D 3 1)) 12 3 0) 12 4 0) 12 5 (-1)) rfl trivial ?_
  exact hr.2.2.2 _ _ _ rfl trivial ⟨rfl, (by rw [fs_cbegin])⟩
def fv_chas (n : Int32) (D : zx_D) : Int32 := if ¬ zg_i D 12 4 = 0 then 0 else if n ≤ (zg_i D 12 2) - (zg_i D 12 3) then 1 else if ¬ zg_i D 12 2 = zg_i D 12 1 then if ¬ zg_i (fs_cfail (-3) (zg_i D 12 3) D) 12 4 = 0 then 0 else 1 else if ¬ zg_i (fs_cfail (-2) (zg_i D 12 3) D) 12 4 = 0 then 0 else 1
def fs_chas (n : Int32) (D : zx_D) : zx_D := if ¬ zg_i D 12 4 = 0 then D else if n ≤ (zg_i D 12 2) - (zg_i D 12 3) then D else if ¬ zg_i D 12 2 = zg_i D 12 1 then if ¬ zg_i (fs_cfail (-3) (zg_i D 12 3) D) 12 4 = 0 then fs_cfail (-3) (zg_i D 12 3) D else fs_cfail (-3) (zg_i D 12 3) D else if ¬ zg_i (fs_cfail (-2) (zg_i D 12 3) D) 12 4 = 0 then fs_cfail (-2) (zg_i D 12 3) D else fs_cfail (-2) (zg_i D 12 3) D
set_option maxRecDepth 100000 in
set_option maxHeartbeats 4000000 in
theorem t_chas {l : Launch} {E : zx_E} {d : Nat} {rf : List Nat} (n : Int32) (D : zx_D)  : zx_MC l E 34 (d + 1) [.ref 12, .int n] (rf, D) (fun v S => v = some (.int (fv_chas n D)) ∧ S = (rf, fs_chas n D)) := by
  refine zx_ofC (K := ck_Cur_has) rfl (by decide +kernel) rfl ok_Cur_has (Nat.le_of_ble_eq_true rfl) (fun Zp hr => ?_)
  show Zp (0, [some (.ref 12), some (.int n)], [], rf, D)
  refine hr.1 2 True _ _ (4, [some (.ref 12), some (.int n)], [.int (zg_i D 12 4)], rf, D) rfl trivial ?_
  refine hr.2.1 _ (¬ zg_i D 12 4 = 0) _ _ rfl (fun h4 => ?_) (fun h4 => ?_)
  · skip
    refine hr.1 2 True _ _ (50, [some (.ref 12), some (.int n)], [.int (zg_i D 12 4)], rf, D) rfl trivial ?_
    refine hr.2.1 _ (¬ zg_i D 12 4 = 0) _ _ rfl (fun _ => ?_) (fun h => absurd h4 h)
    refine hr.1 1 True _ _ (58, [some (.ref 12), some (.int n)], [.int 0], rf, D) rfl trivial ?_
    exact hr.2.2.2 _ _ _ rfl (Or.inl rfl) ⟨(by rw [fv_chas, if_pos h4]), (by rw [fs_chas, if_pos h4])⟩
  · skip
    refine hr.1 6 True _ _ (17, [some (.ref 12), some (.int n)], [.int n, .int ((zg_i D 12 2) - (zg_i D 12 3))], rf, D) rfl trivial ?_
    refine hr.2.1 _ (n ≤ (zg_i D 12 2) - (zg_i D 12 3)) _ _ rfl (fun h17 => ?_) (fun h17 => ?_)
    · skip
      refine hr.1 2 True _ _ (50, [some (.ref 12), some (.int n)], [.int (zg_i D 12 4)], rf, D) rfl trivial ?_
      refine hr.2.1 _ (¬ zg_i D 12 4 = 0) _ _ rfl (fun h => absurd h h4) (fun _ => ?_)
      refine hr.1 2 True _ _ (58, [some (.ref 12), some (.int n)], [.int 1], rf, D) rfl trivial ?_
      exact hr.2.2.2 _ _ _ rfl (Or.inr rfl) ⟨(by rw [fv_chas, if_neg h4, if_pos h17]), (by rw [fs_chas, if_neg h4, if_pos h17])⟩
    · skip
      refine hr.1 5 True _ _ (29, [some (.ref 12), some (.int n)], [.int (zg_i D 12 1), .int (zg_i D 12 2), .ref 12], rf, D) rfl trivial ?_
      refine hr.2.1 _ (¬ zg_i D 12 2 = zg_i D 12 1) _ _ rfl (fun h29 => ?_) (fun h29 => ?_)
      · skip
        refine hr.1 3 True _ _ (43, [some (.ref 12), some (.int n)], [.int (zg_i D 12 3), .int (-3), .ref 12], rf, D) rfl trivial ?_
        refine hr.2.2.1 _ _ _ _ _ d rfl (by omega) (t_cfail (-3) (zg_i D 12 3) D) (fun v S hq => ?_)
        obtain ⟨rfl, rfl⟩ := hq
        refine hr.1 2 True _ _ (50, [some (.ref 12), some (.int n)], [.int (zg_i (fs_cfail (-3) (zg_i D 12 3) D) 12 4)], rf, fs_cfail (-3) (zg_i D 12 3) D) rfl trivial ?_
        refine hr.2.1 _ (¬ zg_i (fs_cfail (-3) (zg_i D 12 3) D) 12 4 = 0) _ _ rfl (fun h50 => ?_) (fun h50 => ?_)
        · skip
          refine hr.1 1 True _ _ (58, [some (.ref 12), some (.int n)], [.int 0], rf, fs_cfail (-3) (zg_i D 12 3) D) rfl trivial ?_
          exact hr.2.2.2 _ _ _ rfl (Or.inl rfl) ⟨(by rw [fv_chas, if_neg h4, if_neg h17, if_pos h29, if_pos h50]), (by rw [fs_chas, if_neg h4, if_neg h17, if_pos h29, if_pos h50])⟩
        · skip
          refine hr.1 2 True _ _ (58, [some (.ref 12), some (.int n)], [.int 1], rf, fs_cfail (-3) (zg_i D 12 3) D) rfl trivial ?_
          exact hr.2.2.2 _ _ _ rfl (Or.inr rfl) ⟨(by rw [fv_chas, if_neg h4, if_neg h17, if_pos h29, if_neg h50]), (by rw [fs_chas, if_neg h4, if_neg h17, if_pos h29, if_neg h50])⟩
      · skip
        refine hr.1 4 True _ _ (43, [some (.ref 12), some (.int n)], [.int (zg_i D 12 3), .int (-2), .ref 12], rf, D) rfl trivial ?_
        refine hr.2.2.1 _ _ _ _ _ d rfl (by omega) (t_cfail (-2) (zg_i D 12 3) D) (fun v S hq => ?_)
        obtain ⟨rfl, rfl⟩ := hq
        refine hr.1 2 True _ _ (50, [some (.ref 12), some (.int n)], [.int (zg_i (fs_cfail (-2) (zg_i D 12 3) D) 12 4)], rf, fs_cfail (-2) (zg_i D 12 3) D) rfl trivial ?_
        refine hr.2.1 _ (¬ zg_i (fs_cfail (-2) (zg_i D 12 3) D) 12 4 = 0) _ _ rfl (fun h50 => ?_) (fun h50 => ?_)
        · skip
          refine hr.1 1 True _ _ (58, [some (.ref 12), some (.int n)], [.int 0], rf, fs_cfail (-2) (zg_i D 12 3) D) rfl trivial ?_
          exact hr.2.2.2 _ _ _ rfl (Or.inl rfl) ⟨(by rw [fv_chas, if_neg h4, if_neg h17, if_neg h29, if_pos h50]), (by rw [fs_chas, if_neg h4, if_neg h17, if_neg h29, if_pos h50])⟩
        · skip
          refine hr.1 2 True _ _ (58, [some (.ref 12), some (.int n)], [.int 1], rf, fs_cfail (-2) (zg_i D 12 3) D) rfl trivial ?_
          exact hr.2.2.2 _ _ _ rfl (Or.inr rfl) ⟨(by rw [fv_chas, if_neg h4, if_neg h17, if_neg h29, if_neg h50]), (by rw [fs_chas, if_neg h4, if_neg h17, if_neg h29, if_neg h50])⟩
end
section
/-! Small methods of the class -/
def fv_isSort (x : Int32) (D : zx_D) : Int32 := if x = 0 then 1 else if x = 1 then 1 else if ¬ x = 4 then 0 else 1
set_option maxRecDepth 100000 in
set_option maxHeartbeats 4000000 in
theorem t_isSort {l : Launch} {E : zx_E} {d : Nat} {rf : List Nat} (x : Int32) (D : zx_D)  : zx_MC l E 14 d [.int x] (rf, D) (fun v S => v = some (.int (fv_isSort x D)) ∧ S = (rf, D)) := by
  refine zx_ofC (K := ck_P_isSort) rfl (by decide +kernel) rfl ok_P_isSort (Nat.le_of_ble_eq_true rfl) (fun Zp hr => ?_)
  show Zp (0, [some (.int x)], [], rf, D)
  refine hr.1 1 True _ _ (1, [some (.int x)], [.int x], rf, D) rfl trivial ?_
  refine hr.2.1 _ (x = 0) _ _ rfl (fun h1 => ?_) (fun h1 => ?_)
  · skip
    refine hr.1 2 True _ _ (19, [some (.int x)], [.int 1], rf, D) rfl trivial ?_
    exact hr.2.2.2 _ _ _ rfl (Or.inr rfl) ⟨(by rw [fv_isSort, if_pos h1]), rfl⟩
  · skip
    refine hr.1 2 True _ _ (6, [some (.int x)], [.int 1, .int x], rf, D) rfl trivial ?_
    refine hr.2.1 _ (x = 1) _ _ rfl (fun h6 => ?_) (fun h6 => ?_)
    · skip
      refine hr.1 2 True _ _ (19, [some (.int x)], [.int 1], rf, D) rfl trivial ?_
      exact hr.2.2.2 _ _ _ rfl (Or.inr rfl) ⟨(by rw [fv_isSort, if_neg h1, if_pos h6]), rfl⟩
    · skip
      refine hr.1 2 True _ _ (11, [some (.int x)], [.int 4, .int x], rf, D) rfl trivial ?_
      refine hr.2.1 _ (¬ x = 4) _ _ rfl (fun h11 => ?_) (fun h11 => ?_)
      · skip
        refine hr.1 1 True _ _ (19, [some (.int x)], [.int 0], rf, D) rfl trivial ?_
        exact hr.2.2.2 _ _ _ rfl (Or.inl rfl) ⟨(by rw [fv_isSort, if_neg h1, if_neg h6, if_pos h11]), rfl⟩
      · skip
        refine hr.1 2 True _ _ (19, [some (.int x)], [.int 1], rf, D) rfl trivial ?_
        exact hr.2.2.2 _ _ _ rfl (Or.inr rfl) ⟨(by rw [fv_isSort, if_neg h1, if_neg h6, if_neg h11]), rfl⟩
def fv_checkSize (x : Int32) (D : zx_D) : Int32 := if ¬ x = 4 then if ¬ x = 1 then 0 else 4 else 8
set_option maxRecDepth 100000 in
set_option maxHeartbeats 4000000 in
theorem t_checkSize {l : Launch} {E : zx_E} {d : Nat} {rf : List Nat} (x : Int32) (D : zx_D)  : zx_MC l E 15 d [.int x] (rf, D) (fun v S => v = some (.int (fv_checkSize x D)) ∧ S = (rf, D)) := by
  refine zx_ofC (K := ck_P_checkSize) rfl (by decide +kernel) rfl ok_P_checkSize (Nat.le_of_ble_eq_true rfl) (fun Zp hr => ?_)
  show Zp (0, [some (.int x)], [], rf, D)
  refine hr.1 2 True _ _ (2, [some (.int x)], [.int 4, .int x], rf, D) rfl trivial ?_
  refine hr.2.1 _ (¬ x = 4) _ _ rfl (fun h2 => ?_) (fun h2 => ?_)
  · skip
    refine hr.1 2 True _ _ (12, [some (.int x)], [.int 1, .int x], rf, D) rfl trivial ?_
    refine hr.2.1 _ (¬ x = 1) _ _ rfl (fun h12 => ?_) (fun h12 => ?_)
    · skip
      refine hr.1 1 True _ _ (20, [some (.int x)], [.int 0], rf, D) rfl trivial ?_
      exact hr.2.2.2 _ _ _ rfl trivial ⟨(by rw [fv_checkSize, if_pos h2, if_pos h12]), rfl⟩
    · skip
      refine hr.1 2 True _ _ (20, [some (.int x)], [.int 4], rf, D) rfl trivial ?_
      exact hr.2.2.2 _ _ _ rfl trivial ⟨(by rw [fv_checkSize, if_pos h2, if_neg h12]), rfl⟩
  · skip
    refine hr.1 2 True _ _ (20, [some (.int x)], [.int 8], rf, D) rfl trivial ?_
    exact hr.2.2.2 _ _ _ rfl trivial ⟨(by rw [fv_checkSize, if_neg h2]), rfl⟩
def fv_areProps (x : Int32) (D : zx_D) : Int32 := if x < 0 then 0 else if x < 225 then if 3 < (zo_rem x 9) + (zo_rem (x / 9) 5) then 0 else 1 else 0
set_option maxRecDepth 100000 in
set_option maxHeartbeats 4000000 in
theorem t_areProps {l : Launch} {E : zx_E} {d : Nat} {rf : List Nat} (x : Int32) (D : zx_D)  : zx_MC l E 16 d [.int x] (rf, D) (fun v S => v = some (.int (fv_areProps x D)) ∧ S = (rf, D)) := by
  refine zx_ofC (K := ck_P_areProperties) rfl (by decide +kernel) rfl ok_P_areProperties (Nat.le_of_ble_eq_true rfl) (fun Zp hr => ?_)
  show Zp (0, [some (.int x)], [], rf, D)
  refine hr.1 1 True _ _ (1, [some (.int x)], [.int x], rf, D) rfl trivial ?_
  refine hr.2.1 _ (x < 0) _ _ rfl (fun h1 => ?_) (fun h1 => ?_)
  · skip
    refine hr.1 1 True _ _ (12, [some (.int x)], [.int 0], rf, D) rfl trivial ?_
    exact hr.2.2.2 _ _ _ rfl (Or.inl rfl) ⟨(by rw [fv_areProps, if_pos h1]), rfl⟩
  · skip
    refine hr.1 2 True _ _ (8, [some (.int x)], [.int 225, .int x], rf, D) rfl trivial ?_
    refine hr.2.1 _ (x < 225) _ _ rfl (fun h8 => ?_) (fun h8 => ?_)
    · skip
      refine hr.1 10 True _ _ (25, [some (.int x)], [.int 3, .int ((zo_rem x 9) + (zo_rem (x / 9) 5))], rf, D) rfl trivial ?_
      refine hr.2.1 _ (3 < (zo_rem x 9) + (zo_rem (x / 9) 5)) _ _ rfl (fun h25 => ?_) (fun h25 => ?_)
      · skip
        refine hr.1 1 True _ _ (33, [some (.int x)], [.int 0], rf, D) rfl trivial ?_
        exact hr.2.2.2 _ _ _ rfl (Or.inl rfl) ⟨(by rw [fv_areProps, if_neg h1, if_pos h8, if_pos h25]), rfl⟩
      · skip
        refine hr.1 2 True _ _ (33, [some (.int x)], [.int 1], rf, D) rfl trivial ?_
        exact hr.2.2.2 _ _ _ rfl (Or.inr rfl) ⟨(by rw [fv_areProps, if_neg h1, if_pos h8, if_neg h25]), rfl⟩
    · skip
      refine hr.1 1 True _ _ (12, [some (.int x)], [.int 0], rf, D) rfl trivial ?_
      exact hr.2.2.2 _ _ _ rfl (Or.inl rfl) ⟨(by rw [fv_areProps, if_neg h1, if_neg h8]), rfl⟩
def fv_rowOf0  (D : zx_D) : Nat := 1
set_option maxRecDepth 100000 in
set_option maxHeartbeats 4000000 in
theorem t_rowOf0 {l : Launch} {E : zx_E} {d : Nat} {rf : List Nat}  (D : zx_D)  : zx_MC l E 13 d [.ref 0, .int 0] (rf, D) (fun v S => v = some (.ref (fv_rowOf0 D)) ∧ S = (rf, D)) := by
  refine zx_ofC (K := ck_P_rowOf) rfl (by decide +kernel) rfl ok_P_rowOf (Nat.le_of_ble_eq_true rfl) (fun Zp hr => ?_)
  show Zp (0, [some (.ref 0), some (.int 0)], [], rf, D)
  refine hr.1 1 True _ _ (1, [some (.ref 0), some (.int 0)], [.int 0], rf, D) rfl trivial ?_
  refine hr.2.1 _ ((0 : Int32) = 0) _ _ rfl (fun _ => ?_) (fun h => absurd (by decide) h)
  refine hr.1 2 True _ _ (15, [some (.ref 0), some (.int 0)], [.ref 1], rf, D) rfl trivial ?_
  exact hr.2.2.2 _ _ _ rfl trivial ⟨(by rw [fv_rowOf0]), rfl⟩
def fv_rowOf1  (D : zx_D) : Nat := 3
set_option maxRecDepth 100000 in
set_option maxHeartbeats 4000000 in
theorem t_rowOf1 {l : Launch} {E : zx_E} {d : Nat} {rf : List Nat}  (D : zx_D)  : zx_MC l E 13 d [.ref 0, .int 1] (rf, D) (fun v S => v = some (.ref (fv_rowOf1 D)) ∧ S = (rf, D)) := by
  refine zx_ofC (K := ck_P_rowOf) rfl (by decide +kernel) rfl ok_P_rowOf (Nat.le_of_ble_eq_true rfl) (fun Zp hr => ?_)
  show Zp (0, [some (.ref 0), some (.int 1)], [], rf, D)
  refine hr.1 1 True _ _ (1, [some (.ref 0), some (.int 1)], [.int 1], rf, D) rfl trivial ?_
  refine hr.2.1 _ ((1 : Int32) = 0) _ _ rfl (fun h => absurd h (by decide)) (fun _ => ?_)
  refine hr.1 3 True _ _ (15, [some (.ref 0), some (.int 1)], [.ref 3], rf, D) rfl trivial ?_
  exact hr.2.2.2 _ _ _ rfl trivial ⟨(by rw [fv_rowOf1]), rfl⟩
def fv_where  (D : zx_D) : Int32 := zg_i D 12 5
set_option maxRecDepth 100000 in
set_option maxHeartbeats 4000000 in
theorem t_where {l : Launch} {E : zx_E} {d : Nat} {rf : List Nat}  (D : zx_D)  : zx_MC l E 7 d [.ref 0] (rf, D) (fun v S => v = some (.int (fv_where D)) ∧ S = (rf, D)) := by
  refine zx_ofC (K := ck_P_where) rfl (by decide +kernel) rfl ok_P_where (Nat.le_of_ble_eq_true rfl) (fun Zp hr => ?_)
  show Zp (0, [some (.ref 0)], [], rf, D)
  refine hr.1 4 True _ _ (10, [some (.ref 0)], [.int (zg_i D 12 5)], rf, D) rfl trivial ?_
  exact hr.2.2.2 _ _ _ rfl trivial ⟨(by rw [fv_where]), rfl⟩
def fv_range  (D : zx_D) : Int64 := zg_l D 5 10
set_option maxRecDepth 100000 in
set_option maxHeartbeats 4000000 in
theorem t_range {l : Launch} {E : zx_E} {d : Nat} {rf : List Nat}  (D : zx_D)  : zx_MC l E 9 d [.ref 0] (rf, D) (fun v S => v = some (.long (fv_range D)) ∧ S = (rf, D)) := by
  refine zx_ofC (K := ck_P_range) rfl (by decide +kernel) rfl ok_P_range (Nat.le_of_ble_eq_true rfl) (fun Zp hr => ?_)
  show Zp (0, [some (.ref 0)], [], rf, D)
  refine hr.1 3 True _ _ (7, [some (.ref 0)], [.long (zg_l D 5 10)], rf, D) rfl trivial ?_
  exact hr.2.2.2 _ _ _ rfl trivial ⟨(by rw [fv_range]), rfl⟩
def fv_code  (D : zx_D) : Int64 := zg_l D 5 11
set_option maxRecDepth 100000 in
set_option maxHeartbeats 4000000 in
theorem t_code {l : Launch} {E : zx_E} {d : Nat} {rf : List Nat}  (D : zx_D)  : zx_MC l E 10 d [.ref 0] (rf, D) (fun v S => v = some (.long (fv_code D)) ∧ S = (rf, D)) := by
  refine zx_ofC (K := ck_P_code) rfl (by decide +kernel) rfl ok_P_code (Nat.le_of_ble_eq_true rfl) (fun Zp hr => ?_)
  show Zp (0, [some (.ref 0)], [], rf, D)
  refine hr.1 3 True _ _ (7, [some (.ref 0)], [.long (zg_l D 5 11)], rf, D) rfl trivial ?_
  exact hr.2.2.2 _ _ _ rfl trivial ⟨(by rw [fv_code]), rfl⟩
def fv_watch (k : Int32) (D : zx_D) : Int32 := if 1 ≤ k then 1 else 0
def fs_watch (k : Int32) (D : zx_D) : zx_D := if 1 ≤ k then zp_i D 5 9 k else D
set_option maxRecDepth 100000 in
set_option maxHeartbeats 4000000 in
theorem t_watch {l : Launch} {E : zx_E} {d : Nat} {rf : List Nat} (k : Int32) (D : zx_D)  : zx_MC l E 8 d [.ref 0, .int k] (rf, D) (fun v S => v = some (.int (fv_watch k D)) ∧ S = (rf, fs_watch k D)) := by
  refine zx_ofC (K := ck_P_watch) rfl (by decide +kernel) rfl ok_P_watch (Nat.le_of_ble_eq_true rfl) (fun Zp hr => ?_)
  show Zp (0, [some (.ref 0), some (.int k)], [], rf, D)
  refine hr.1 2 True _ _ (2, [some (.ref 0), some (.int k)], [.int 1, .int k], rf, D) rfl trivial ?_
  refine hr.2.1 _ (1 ≤ k) _ _ rfl (fun h2 => ?_) (fun h2 => ?_)
  · skip
    refine hr.1 5 True _ _ (16, [some (.ref 0), some (.int k)], [.int 1], rf, zp_i D 5 9 k) rfl trivial ?_
    exact hr.2.2.2 _ _ _ rfl (Or.inr rfl) ⟨(by rw [fv_watch, if_pos h2]), (by rw [fs_watch, if_pos h2])⟩
  · skip
    refine hr.1 1 True _ _ (6, [some (.ref 0), some (.int k)], [.int 0], rf, D) rfl trivial ?_
    exact hr.2.2.2 _ _ _ rfl (Or.inl rfl) ⟨(by rw [fv_watch, if_neg h2]), (by rw [fs_watch, if_neg h2])⟩
def fv_count (w : Int32) (D : zx_D) : Int32 := if w < 0 then -1 else if w < 11 then if ¬ w = 0 then zg_i D 14 (zn w) else zg_i D 5 8 else -1
set_option maxRecDepth 100000 in
set_option maxHeartbeats 4000000 in
theorem t_count {l : Launch} {E : zx_E} {d : Nat} {rf : List Nat} (w : Int32) (D : zx_D)  : zx_MC l E 11 d [.ref 0, .int w] (rf, D) (fun v S => v = some (.int (fv_count w D)) ∧ S = (rf, D)) := by
  refine zx_ofC (K := ck_P_count) rfl (by decide +kernel) rfl ok_P_count (Nat.le_of_ble_eq_true rfl) (fun Zp hr => ?_)
  show Zp (0, [some (.ref 0), some (.int w)], [], rf, D)
  refine hr.1 1 True _ _ (1, [some (.ref 0), some (.int w)], [.int w], rf, D) rfl trivial ?_
  refine hr.2.1 _ (w < 0) _ _ rfl (fun h1 => ?_) (fun h1 => ?_)
  · skip
    refine hr.1 1 True _ _ (11, [some (.ref 0), some (.int w)], [.int (-1)], rf, D) rfl trivial ?_
    exact hr.2.2.2 _ _ _ rfl trivial ⟨(by rw [fv_count, if_pos h1]), rfl⟩
  · skip
    refine hr.1 2 True _ _ (7, [some (.ref 0), some (.int w)], [.int 11, .int w], rf, D) rfl trivial ?_
    refine hr.2.1 _ (w < 11) _ _ rfl (fun h7 => ?_) (fun h7 => ?_)
    · skip
      refine hr.1 1 True _ _ (13, [some (.ref 0), some (.int w)], [.int w], rf, D) rfl trivial ?_
      refine hr.2.1 _ (¬ w = 0) _ _ rfl (fun h13 => ?_) (fun h13 => ?_)
      · skip
        refine hr.1 5 True _ _ (35, [some (.ref 0), some (.int w)], [.int (zg_i D 14 (zn w))], rf, D) rfl ⟨trivial, (zin (Int32.not_lt.mp h1) h7 rfl)⟩ ?_
        exact hr.2.2.2 _ _ _ rfl trivial ⟨(by rw [fv_count, if_neg h1, if_pos h7, if_pos h13]), rfl⟩
      · skip
        refine hr.1 4 True _ _ (35, [some (.ref 0), some (.int w)], [.int (zg_i D 5 8)], rf, D) rfl trivial ?_
        exact hr.2.2.2 _ _ _ rfl trivial ⟨(by rw [fv_count, if_neg h1, if_pos h7, if_neg h13]), rfl⟩
    · skip
      refine hr.1 1 True _ _ (11, [some (.ref 0), some (.int w)], [.int (-1)], rf, D) rfl trivial ?_
      exact hr.2.2.2 _ _ _ rfl trivial ⟨(by rw [fv_count, if_neg h1, if_neg h7]), rfl⟩
def fv_cut0 (n : Int32) (D : zx_D) : Int32 := if n < 0 then -1 else if n ≤ zg_i D 1 1 then (zg_i D 1 1) - n else -1
def fs_cut0 (n : Int32) (D : zx_D) : zx_D := if n < 0 then D else if n ≤ zg_i D 1 1 then zp_i D 1 1 n else D
set_option maxRecDepth 100000 in
set_option maxHeartbeats 4000000 in
theorem t_cut0 {l : Launch} {E : zx_E} {d : Nat} {rf : List Nat} (n : Int32) (D : zx_D)  : zx_MC l E 2 (d + 1) [.ref 0, .int n, .int 0] (rf, D) (fun v S => v = some (.int (fv_cut0 n D)) ∧ S = (rf, fs_cut0 n D)) := by
  refine zx_ofC (K := ck_P_cut) rfl (by decide +kernel) rfl ok_P_cut (Nat.le_of_ble_eq_true rfl) (fun Zp hr => ?_)
  show Zp (0, [some (.ref 0), some (.int n), some (.int 0), none, none], [], rf, D)
  refine hr.1 2 True _ _ (2, [some (.ref 0), some (.int n), some (.int 0), none, none], [.int 0, .ref 0], rf, D) rfl trivial ?_
  refine hr.2.2.1 _ _ _ _ _ d rfl (by omega) (t_rowOf0 D) (fun v S hq => ?_)
  obtain ⟨rfl, rfl⟩ := hq
  refine hr.1 2 True _ _ (7, [some (.ref 0), some (.int n), some (.int 0), some (.ref 1), none], [.int n], rf, D) rfl trivial ?_
  refine hr.2.1 _ (n < 0) _ _ rfl (fun h7 => ?_) (fun h7 => ?_)
  · skip
    refine hr.1 1 True _ _ (19, [some (.ref 0), some (.int n), some (.int 0), some (.ref 1), none], [.int (-1)], rf, D) rfl trivial ?_
    exact hr.2.2.2 _ _ _ rfl trivial ⟨(by rw [fv_cut0, if_pos h7]), (by rw [fs_cut0, if_pos h7])⟩
  · skip
    refine hr.1 3 True _ _ (15, [some (.ref 0), some (.int n), some (.int 0), some (.ref 1), none], [.int (zg_i D 1 1), .int n], rf, D) rfl trivial ?_
    refine hr.2.1 _ (n ≤ zg_i D 1 1) _ _ rfl (fun h15 => ?_) (fun h15 => ?_)
    · skip
      refine hr.1 9 True _ _ (35, [some (.ref 0), some (.int n), some (.int 0), some (.ref 1), some (.int ((zg_i D 1 1) - n))], [.int ((zg_i D 1 1) - n)], rf, zp_i D 1 1 n) rfl trivial ?_
      exact hr.2.2.2 _ _ _ rfl trivial ⟨(by rw [fv_cut0, if_neg h7, if_pos h15]), (by rw [fs_cut0, if_neg h7, if_pos h15])⟩
    · skip
      refine hr.1 1 True _ _ (19, [some (.ref 0), some (.int n), some (.int 0), some (.ref 1), none], [.int (-1)], rf, D) rfl trivial ?_
      exact hr.2.2.2 _ _ _ rfl trivial ⟨(by rw [fv_cut0, if_neg h7, if_neg h15]), (by rw [fs_cut0, if_neg h7, if_neg h15])⟩
def fv_at0 (i : Int32) (D : zx_D) : Int32 := if i < 0 then -1 else if zg_i D 1 1 ≤ i then -1 else zg_i D 2 (zn i)
set_option maxRecDepth 100000 in
set_option maxHeartbeats 4000000 in
theorem t_at0 {l : Launch} {E : zx_E} {d : Nat} {rf : List Nat} (i : Int32) (D : zx_D) (hin : 0 ≤ i → i < zg_i D 1 1 → vp_in i 400) : zx_MC l E 4 (d + 1) [.ref 0, .int i, .int 0] (rf, D) (fun v S => v = some (.int (fv_at0 i D)) ∧ S = (rf, D)) := by
  refine zx_ofC (K := ck_P_at) rfl (by decide +kernel) rfl ok_P_at (Nat.le_of_ble_eq_true rfl) (fun Zp hr => ?_)
  show Zp (0, [some (.ref 0), some (.int i), some (.int 0)], [], rf, D)
  refine hr.1 2 True _ _ (2, [some (.ref 0), some (.int i), some (.int 0)], [.int 0, .ref 0], rf, D) rfl trivial ?_
  refine hr.2.2.1 _ _ _ _ _ d rfl (by omega) (t_rowOf0 D) (fun v S hq => ?_)
  obtain ⟨rfl, rfl⟩ := hq
  refine hr.1 1 True _ _ (6, [some (.ref 0), some (.int i), some (.int 0)], [.int i, .ref 1], rf, D) rfl trivial ?_
  refine hr.2.2.1 _ _ _ _ _ d rfl (by omega) (t_byteAt_1 i D hin) (fun v S hq => ?_)
  obtain ⟨rfl, rfl⟩ := hq
  exact hr.2.2.2 _ _ _ rfl trivial ⟨(by rw [fv_at0]), rfl⟩
def fv_cut1 (n : Int32) (D : zx_D) : Int32 := if n < 0 then -1 else if n ≤ zg_i D 3 1 then (zg_i D 3 1) - n else -1
def fs_cut1 (n : Int32) (D : zx_D) : zx_D := if n < 0 then D else if n ≤ zg_i D 3 1 then zp_i D 3 1 n else D
set_option maxRecDepth 100000 in
set_option maxHeartbeats 4000000 in
theorem t_cut1 {l : Launch} {E : zx_E} {d : Nat} {rf : List Nat} (n : Int32) (D : zx_D)  : zx_MC l E 2 (d + 1) [.ref 0, .int n, .int 1] (rf, D) (fun v S => v = some (.int (fv_cut1 n D)) ∧ S = (rf, fs_cut1 n D)) := by
  refine zx_ofC (K := ck_P_cut) rfl (by decide +kernel) rfl ok_P_cut (Nat.le_of_ble_eq_true rfl) (fun Zp hr => ?_)
  show Zp (0, [some (.ref 0), some (.int n), some (.int 1), none, none], [], rf, D)
  refine hr.1 2 True _ _ (2, [some (.ref 0), some (.int n), some (.int 1), none, none], [.int 1, .ref 0], rf, D) rfl trivial ?_
  refine hr.2.2.1 _ _ _ _ _ d rfl (by omega) (t_rowOf1 D) (fun v S hq => ?_)
  obtain ⟨rfl, rfl⟩ := hq
  refine hr.1 2 True _ _ (7, [some (.ref 0), some (.int n), some (.int 1), some (.ref 3), none], [.int n], rf, D) rfl trivial ?_
  refine hr.2.1 _ (n < 0) _ _ rfl (fun h7 => ?_) (fun h7 => ?_)
  · skip
    refine hr.1 1 True _ _ (19, [some (.ref 0), some (.int n), some (.int 1), some (.ref 3), none], [.int (-1)], rf, D) rfl trivial ?_
    exact hr.2.2.2 _ _ _ rfl trivial ⟨(by rw [fv_cut1, if_pos h7]), (by rw [fs_cut1, if_pos h7])⟩
  · skip
    refine hr.1 3 True _ _ (15, [some (.ref 0), some (.int n), some (.int 1), some (.ref 3), none], [.int (zg_i D 3 1), .int n], rf, D) rfl trivial ?_
    refine hr.2.1 _ (n ≤ zg_i D 3 1) _ _ rfl (fun h15 => ?_) (fun h15 => ?_)
    · skip
      refine hr.1 9 True _ _ (35, [some (.ref 0), some (.int n), some (.int 1), some (.ref 3), some (.int ((zg_i D 3 1) - n))], [.int ((zg_i D 3 1) - n)], rf, zp_i D 3 1 n) rfl trivial ?_
      exact hr.2.2.2 _ _ _ rfl trivial ⟨(by rw [fv_cut1, if_neg h7, if_pos h15]), (by rw [fs_cut1, if_neg h7, if_pos h15])⟩
    · skip
      refine hr.1 1 True _ _ (19, [some (.ref 0), some (.int n), some (.int 1), some (.ref 3), none], [.int (-1)], rf, D) rfl trivial ?_
      exact hr.2.2.2 _ _ _ rfl trivial ⟨(by rw [fv_cut1, if_neg h7, if_neg h15]), (by rw [fs_cut1, if_neg h7, if_neg h15])⟩
def fv_at1 (i : Int32) (D : zx_D) : Int32 := if i < 0 then -1 else if zg_i D 3 1 ≤ i then -1 else zg_i D 4 (zn i)
set_option maxRecDepth 100000 in
set_option maxHeartbeats 4000000 in
theorem t_at1 {l : Launch} {E : zx_E} {d : Nat} {rf : List Nat} (i : Int32) (D : zx_D) (hin : 0 ≤ i → i < zg_i D 3 1 → vp_in i 640) : zx_MC l E 4 (d + 1) [.ref 0, .int i, .int 1] (rf, D) (fun v S => v = some (.int (fv_at1 i D)) ∧ S = (rf, D)) := by
  refine zx_ofC (K := ck_P_at) rfl (by decide +kernel) rfl ok_P_at (Nat.le_of_ble_eq_true rfl) (fun Zp hr => ?_)
  show Zp (0, [some (.ref 0), some (.int i), some (.int 1)], [], rf, D)
  refine hr.1 2 True _ _ (2, [some (.ref 0), some (.int i), some (.int 1)], [.int 1, .ref 0], rf, D) rfl trivial ?_
  refine hr.2.2.1 _ _ _ _ _ d rfl (by omega) (t_rowOf1 D) (fun v S hq => ?_)
  obtain ⟨rfl, rfl⟩ := hq
  refine hr.1 1 True _ _ (6, [some (.ref 0), some (.int i), some (.int 1)], [.int i, .ref 3], rf, D) rfl trivial ?_
  refine hr.2.2.1 _ _ _ _ _ d rfl (by omega) (t_byteAt_3 i D hin) (fun v S hq => ?_)
  obtain ⟨rfl, rfl⟩ := hq
  exact hr.2.2.2 _ _ _ rfl trivial ⟨(by rw [fv_at1]), rfl⟩
end

section
-- ===== PART A: goes FIRST, ahead of the names: the tables' words, and 'selects' of the private methods out of them =====
/-- a private method of a class that the tables say can be made, by its rows of tables_1 -/
def lw_okq (q : MethodName × Nat) : Prop := (q.1.cls ≠ "java/lang/invoke/MethodHandle" ∧ q.1.cls ≠ "java/lang/invoke/VarHandle") ∧ Cond.instantiable q.1.cls q.2 ∈ tables_1 ∧ Cond.privateMethod q.1 ∈ tables_1 ∧ Cond.instanceMethod q.1 ∈ tables_1
theorem lw_p0 : lw_okq (⟨"MaskedCopies", "tableAt", "(I)LMaskedCopies$Table;"⟩, 13) := ⟨⟨by decide +kernel, by decide +kernel⟩, List.mem_of_getElem? (i := 12) (by decide +kernel), List.mem_of_getElem? (i := 218) (by decide +kernel), List.mem_of_getElem? (i := 219) (by decide +kernel)⟩
theorem lw_p1 : lw_okq (⟨"MaskedCopies", "waitingCellsFit", "(LMaskedCopies$Table;)Z"⟩, 13) := ⟨⟨by decide +kernel, by decide +kernel⟩, List.mem_of_getElem? (i := 12) (by decide +kernel), List.mem_of_getElem? (i := 234) (by decide +kernel), List.mem_of_getElem? (i := 235) (by decide +kernel)⟩
theorem lw_p2 : lw_okq (⟨"MaskedCopies", "rowsWith", "(LMaskedCopies$Copy;III)I"⟩, 13) := ⟨⟨by decide +kernel, by decide +kernel⟩, List.mem_of_getElem? (i := 12) (by decide +kernel), List.mem_of_getElem? (i := 253) (by decide +kernel), List.mem_of_getElem? (i := 254) (by decide +kernel)⟩
theorem lw_p3 : lw_okq (⟨"MaskedCopies", "rowsOf", "(I)I"⟩, 13) := ⟨⟨by decide +kernel, by decide +kernel⟩, List.mem_of_getElem? (i := 12) (by decide +kernel), List.mem_of_getElem? (i := 257) (by decide +kernel), List.mem_of_getElem? (i := 258) (by decide +kernel)⟩
theorem lw_p4 : lw_okq (⟨"MaskedCopies", "columnAt", "(II)LMaskedCopies$Column;"⟩, 13) := ⟨⟨by decide +kernel, by decide +kernel⟩, List.mem_of_getElem? (i := 12) (by decide +kernel), List.mem_of_getElem? (i := 281) (by decide +kernel), List.mem_of_getElem? (i := 282) (by decide +kernel)⟩
theorem lw_p5 : lw_okq (⟨"MaskedCopies", "nextRule", "()LMaskedCopies$Rule;"⟩, 13) := ⟨⟨by decide +kernel, by decide +kernel⟩, List.mem_of_getElem? (i := 12) (by decide +kernel), List.mem_of_getElem? (i := 314) (by decide +kernel), List.mem_of_getElem? (i := 315) (by decide +kernel)⟩
theorem lw_p6 : lw_okq (⟨"MaskedCopies", "addRule", "()I"⟩, 13) := ⟨⟨by decide +kernel, by decide +kernel⟩, List.mem_of_getElem? (i := 12) (by decide +kernel), List.mem_of_getElem? (i := 322) (by decide +kernel), List.mem_of_getElem? (i := 323) (by decide +kernel)⟩
theorem lw_p7 : lw_okq (⟨"MaskedCopies", "copyOf", "(I)LMaskedCopies$Copy;"⟩, 13) := ⟨⟨by decide +kernel, by decide +kernel⟩, List.mem_of_getElem? (i := 12) (by decide +kernel), List.mem_of_getElem? (i := 353) (by decide +kernel), List.mem_of_getElem? (i := 354) (by decide +kernel)⟩
theorem lw_p8 : lw_okq (⟨"MaskedCopies", "firstBroken", "(LMaskedCopies$Copy;)I"⟩, 13) := ⟨⟨by decide +kernel, by decide +kernel⟩, List.mem_of_getElem? (i := 12) (by decide +kernel), List.mem_of_getElem? (i := 357) (by decide +kernel), List.mem_of_getElem? (i := 358) (by decide +kernel)⟩
theorem lw_p9 : lw_okq (⟨"MaskedCopies", "ruleHolds", "(LMaskedCopies$Rule;LMaskedCopies$Copy;)Z"⟩, 13) := ⟨⟨by decide +kernel, by decide +kernel⟩, List.mem_of_getElem? (i := 12) (by decide +kernel), List.mem_of_getElem? (i := 361) (by decide +kernel), List.mem_of_getElem? (i := 362) (by decide +kernel)⟩
theorem lw_p10 : lw_okq (⟨"MaskedCopies", "holdsInRow", "(LMaskedCopies$Rule;LMaskedCopies$Copy;I)Z"⟩, 13) := ⟨⟨by decide +kernel, by decide +kernel⟩, List.mem_of_getElem? (i := 12) (by decide +kernel), List.mem_of_getElem? (i := 365) (by decide +kernel), List.mem_of_getElem? (i := 366) (by decide +kernel)⟩
theorem lw_p11 : lw_okq (⟨"MaskedCopies", "partsOf", "(LMaskedCopies$Rule;LMaskedCopies$Copy;I)I"⟩, 13) := ⟨⟨by decide +kernel, by decide +kernel⟩, List.mem_of_getElem? (i := 12) (by decide +kernel), List.mem_of_getElem? (i := 369) (by decide +kernel), List.mem_of_getElem? (i := 370) (by decide +kernel)⟩
theorem lw_p12 : lw_okq (⟨"MaskedCopies", "draftMasked", "(I)V"⟩, 13) := ⟨⟨by decide +kernel, by decide +kernel⟩, List.mem_of_getElem? (i := 12) (by decide +kernel), List.mem_of_getElem? (i := 377) (by decide +kernel), List.mem_of_getElem? (i := 378) (by decide +kernel)⟩
theorem lw_p13 : lw_okq (⟨"MaskedCopies", "ownerOf", "(II)I"⟩, 13) := ⟨⟨by decide +kernel, by decide +kernel⟩, List.mem_of_getElem? (i := 12) (by decide +kernel), List.mem_of_getElem? (i := 390) (by decide +kernel), List.mem_of_getElem? (i := 391) (by decide +kernel)⟩
theorem lw_p14 : lw_okq (⟨"MaskedCopies", "shiftOf", "(I)I"⟩, 13) := ⟨⟨by decide +kernel, by decide +kernel⟩, List.mem_of_getElem? (i := 12) (by decide +kernel), List.mem_of_getElem? (i := 394) (by decide +kernel), List.mem_of_getElem? (i := 395) (by decide +kernel)⟩
theorem lw_p15 : lw_okq (⟨"MaskedCopies", "narrowRoom", "(II)V"⟩, 13) := ⟨⟨by decide +kernel, by decide +kernel⟩, List.mem_of_getElem? (i := 12) (by decide +kernel), List.mem_of_getElem? (i := 402) (by decide +kernel), List.mem_of_getElem? (i := 403) (by decide +kernel)⟩
def lw_privs_1 : List (MethodName × Nat) := [(⟨"MaskedCopies", "tableAt", "(I)LMaskedCopies$Table;"⟩, 13), (⟨"MaskedCopies", "waitingCellsFit", "(LMaskedCopies$Table;)Z"⟩, 13), (⟨"MaskedCopies", "rowsWith", "(LMaskedCopies$Copy;III)I"⟩, 13), (⟨"MaskedCopies", "rowsOf", "(I)I"⟩, 13), (⟨"MaskedCopies", "columnAt", "(II)LMaskedCopies$Column;"⟩, 13), (⟨"MaskedCopies", "nextRule", "()LMaskedCopies$Rule;"⟩, 13), (⟨"MaskedCopies", "addRule", "()I"⟩, 13), (⟨"MaskedCopies", "copyOf", "(I)LMaskedCopies$Copy;"⟩, 13), (⟨"MaskedCopies", "firstBroken", "(LMaskedCopies$Copy;)I"⟩, 13), (⟨"MaskedCopies", "ruleHolds", "(LMaskedCopies$Rule;LMaskedCopies$Copy;)Z"⟩, 13), (⟨"MaskedCopies", "holdsInRow", "(LMaskedCopies$Rule;LMaskedCopies$Copy;I)Z"⟩, 13), (⟨"MaskedCopies", "partsOf", "(LMaskedCopies$Rule;LMaskedCopies$Copy;I)I"⟩, 13), (⟨"MaskedCopies", "draftMasked", "(I)V"⟩, 13), (⟨"MaskedCopies", "ownerOf", "(II)I"⟩, 13), (⟨"MaskedCopies", "shiftOf", "(I)I"⟩, 13), (⟨"MaskedCopies", "narrowRoom", "(II)V"⟩, 13)]
theorem lw_r1 : ∀ q ∈ lw_privs_1, lw_okq q := List.forall_mem_cons.mpr ⟨lw_p0, List.forall_mem_cons.mpr ⟨lw_p1, List.forall_mem_cons.mpr ⟨lw_p2, List.forall_mem_cons.mpr ⟨lw_p3, List.forall_mem_cons.mpr ⟨lw_p4, List.forall_mem_cons.mpr ⟨lw_p5, List.forall_mem_cons.mpr ⟨lw_p6, List.forall_mem_cons.mpr ⟨lw_p7, List.forall_mem_cons.mpr ⟨lw_p8, List.forall_mem_cons.mpr ⟨lw_p9, List.forall_mem_cons.mpr ⟨lw_p10, List.forall_mem_cons.mpr ⟨lw_p11, List.forall_mem_cons.mpr ⟨lw_p12, List.forall_mem_cons.mpr ⟨lw_p13, List.forall_mem_cons.mpr ⟨lw_p14, List.forall_mem_cons.mpr ⟨lw_p15, fun _ h => absurd h List.not_mem_nil⟩⟩⟩⟩⟩⟩⟩⟩⟩⟩⟩⟩⟩⟩⟩⟩
theorem lw_p16 : lw_okq (⟨"MaskedCopies", "narrowRoomByRow", "(LMaskedCopies$Table;II)V"⟩, 13) := ⟨⟨by decide +kernel, by decide +kernel⟩, List.mem_of_getElem? (i := 12) (by decide +kernel), List.mem_of_getElem? (i := 406) (by decide +kernel), List.mem_of_getElem? (i := 407) (by decide +kernel)⟩
theorem lw_p17 : lw_okq (⟨"MaskedCopies", "maskedCell", "(IIII)I"⟩, 13) := ⟨⟨by decide +kernel, by decide +kernel⟩, List.mem_of_getElem? (i := 12) (by decide +kernel), List.mem_of_getElem? (i := 422) (by decide +kernel), List.mem_of_getElem? (i := 423) (by decide +kernel)⟩
theorem lw_p18 : lw_okq (⟨"MaskedCopies", "dealtCell", "(IIII)I"⟩, 13) := ⟨⟨by decide +kernel, by decide +kernel⟩, List.mem_of_getElem? (i := 12) (by decide +kernel), List.mem_of_getElem? (i := 426) (by decide +kernel), List.mem_of_getElem? (i := 427) (by decide +kernel)⟩
theorem lw_p19 : lw_okq (⟨"MaskedCopies", "turnedRef", "(II)I"⟩, 13) := ⟨⟨by decide +kernel, by decide +kernel⟩, List.mem_of_getElem? (i := 12) (by decide +kernel), List.mem_of_getElem? (i := 430) (by decide +kernel), List.mem_of_getElem? (i := 431) (by decide +kernel)⟩
theorem lw_p20 : lw_okq (⟨"MaskedCopies", "mendDraft", "()V"⟩, 13) := ⟨⟨by decide +kernel, by decide +kernel⟩, List.mem_of_getElem? (i := 12) (by decide +kernel), List.mem_of_getElem? (i := 453) (by decide +kernel), List.mem_of_getElem? (i := 454) (by decide +kernel)⟩
theorem lw_p21 : lw_okq (⟨"MaskedCopies", "mendColumn", "(LMaskedCopies$Rule;)V"⟩, 13) := ⟨⟨by decide +kernel, by decide +kernel⟩, List.mem_of_getElem? (i := 12) (by decide +kernel), List.mem_of_getElem? (i := 457) (by decide +kernel), List.mem_of_getElem? (i := 458) (by decide +kernel)⟩
theorem lw_p22 : lw_okq (⟨"MaskedCopies", "isRow", "(II)Z"⟩, 13) := ⟨⟨by decide +kernel, by decide +kernel⟩, List.mem_of_getElem? (i := 12) (by decide +kernel), List.mem_of_getElem? (i := 465) (by decide +kernel), List.mem_of_getElem? (i := 466) (by decide +kernel)⟩
theorem lw_p23 : lw_okq (⟨"MaskedCopies", "areColumns", "(II)Z"⟩, 13) := ⟨⟨by decide +kernel, by decide +kernel⟩, List.mem_of_getElem? (i := 12) (by decide +kernel), List.mem_of_getElem? (i := 496) (by decide +kernel), List.mem_of_getElem? (i := 497) (by decide +kernel)⟩
theorem lw_p24 : lw_okq (⟨"MaskedCopies", "columnsOf", "(I)I"⟩, 13) := ⟨⟨by decide +kernel, by decide +kernel⟩, List.mem_of_getElem? (i := 12) (by decide +kernel), List.mem_of_getElem? (i := 500) (by decide +kernel), List.mem_of_getElem? (i := 501) (by decide +kernel)⟩
theorem lw_p25 : lw_okq (⟨"MaskedCopies", "couldSet", "(III)I"⟩, 13) := ⟨⟨by decide +kernel, by decide +kernel⟩, List.mem_of_getElem? (i := 12) (by decide +kernel), List.mem_of_getElem? (i := 504) (by decide +kernel), List.mem_of_getElem? (i := 505) (by decide +kernel)⟩
theorem lw_p26 : lw_okq (⟨"MaskedCopies", "looksSame", "(IIII)Z"⟩, 13) := ⟨⟨by decide +kernel, by decide +kernel⟩, List.mem_of_getElem? (i := 12) (by decide +kernel), List.mem_of_getElem? (i := 508) (by decide +kernel), List.mem_of_getElem? (i := 509) (by decide +kernel)⟩
theorem lw_p27 : lw_okq (⟨"MaskedCopies", "isPlain", "(II)Z"⟩, 13) := ⟨⟨by decide +kernel, by decide +kernel⟩, List.mem_of_getElem? (i := 12) (by decide +kernel), List.mem_of_getElem? (i := 515) (by decide +kernel), List.mem_of_getElem? (i := 516) (by decide +kernel)⟩
theorem lw_p28 : lw_okq (⟨"MaskedCopies", "movesSame", "(IIII)Z"⟩, 13) := ⟨⟨by decide +kernel, by decide +kernel⟩, List.mem_of_getElem? (i := 12) (by decide +kernel), List.mem_of_getElem? (i := 519) (by decide +kernel), List.mem_of_getElem? (i := 520) (by decide +kernel)⟩
theorem lw_p29 : lw_okq (⟨"MaskedCopies", "lossBy", "(III)I"⟩, 13) := ⟨⟨by decide +kernel, by decide +kernel⟩, List.mem_of_getElem? (i := 12) (by decide +kernel), List.mem_of_getElem? (i := 542) (by decide +kernel), List.mem_of_getElem? (i := 543) (by decide +kernel)⟩
theorem lw_p30 : lw_okq (⟨"MaskedCopies", "prepareSearch", "(II)V"⟩, 13) := ⟨⟨by decide +kernel, by decide +kernel⟩, List.mem_of_getElem? (i := 12) (by decide +kernel), List.mem_of_getElem? (i := 550) (by decide +kernel), List.mem_of_getElem? (i := 551) (by decide +kernel)⟩
theorem lw_p31 : lw_okq (⟨"MaskedCopies", "offerWidths", "(IIZ)V"⟩, 13) := ⟨⟨by decide +kernel, by decide +kernel⟩, List.mem_of_getElem? (i := 12) (by decide +kernel), List.mem_of_getElem? (i := 559) (by decide +kernel), List.mem_of_getElem? (i := 560) (by decide +kernel)⟩
def lw_privs_2 : List (MethodName × Nat) := [(⟨"MaskedCopies", "narrowRoomByRow", "(LMaskedCopies$Table;II)V"⟩, 13), (⟨"MaskedCopies", "maskedCell", "(IIII)I"⟩, 13), (⟨"MaskedCopies", "dealtCell", "(IIII)I"⟩, 13), (⟨"MaskedCopies", "turnedRef", "(II)I"⟩, 13), (⟨"MaskedCopies", "mendDraft", "()V"⟩, 13), (⟨"MaskedCopies", "mendColumn", "(LMaskedCopies$Rule;)V"⟩, 13), (⟨"MaskedCopies", "isRow", "(II)Z"⟩, 13), (⟨"MaskedCopies", "areColumns", "(II)Z"⟩, 13), (⟨"MaskedCopies", "columnsOf", "(I)I"⟩, 13), (⟨"MaskedCopies", "couldSet", "(III)I"⟩, 13), (⟨"MaskedCopies", "looksSame", "(IIII)Z"⟩, 13), (⟨"MaskedCopies", "isPlain", "(II)Z"⟩, 13), (⟨"MaskedCopies", "movesSame", "(IIII)Z"⟩, 13), (⟨"MaskedCopies", "lossBy", "(III)I"⟩, 13), (⟨"MaskedCopies", "prepareSearch", "(II)V"⟩, 13), (⟨"MaskedCopies", "offerWidths", "(IIZ)V"⟩, 13)]
theorem lw_r2 : ∀ q ∈ lw_privs_2, lw_okq q := List.forall_mem_cons.mpr ⟨lw_p16, List.forall_mem_cons.mpr ⟨lw_p17, List.forall_mem_cons.mpr ⟨lw_p18, List.forall_mem_cons.mpr ⟨lw_p19, List.forall_mem_cons.mpr ⟨lw_p20, List.forall_mem_cons.mpr ⟨lw_p21, List.forall_mem_cons.mpr ⟨lw_p22, List.forall_mem_cons.mpr ⟨lw_p23, List.forall_mem_cons.mpr ⟨lw_p24, List.forall_mem_cons.mpr ⟨lw_p25, List.forall_mem_cons.mpr ⟨lw_p26, List.forall_mem_cons.mpr ⟨lw_p27, List.forall_mem_cons.mpr ⟨lw_p28, List.forall_mem_cons.mpr ⟨lw_p29, List.forall_mem_cons.mpr ⟨lw_p30, List.forall_mem_cons.mpr ⟨lw_p31, fun _ h => absurd h List.not_mem_nil⟩⟩⟩⟩⟩⟩⟩⟩⟩⟩⟩⟩⟩⟩⟩⟩
theorem lw_p32 : lw_okq (⟨"MaskedCopies$WidthSearch", "isChoice", "(II)Z"⟩, 6) := ⟨⟨by decide +kernel, by decide +kernel⟩, List.mem_of_getElem? (i := 48) (by decide +kernel), List.mem_of_getElem? (i := 576) (by decide +kernel), List.mem_of_getElem? (i := 577) (by decide +kernel)⟩
theorem lw_p33 : lw_okq (⟨"MaskedCopies", "sameBy", "(IIII)I"⟩, 13) := ⟨⟨by decide +kernel, by decide +kernel⟩, List.mem_of_getElem? (i := 12) (by decide +kernel), List.mem_of_getElem? (i := 580) (by decide +kernel), List.mem_of_getElem? (i := 581) (by decide +kernel)⟩
theorem lw_p34 : lw_okq (⟨"MaskedCopies$WidthSearch", "isSafe", "(II)Z"⟩, 6) := ⟨⟨by decide +kernel, by decide +kernel⟩, List.mem_of_getElem? (i := 48) (by decide +kernel), List.mem_of_getElem? (i := 607) (by decide +kernel), List.mem_of_getElem? (i := 608) (by decide +kernel)⟩
theorem lw_p35 : lw_okq (⟨"MaskedCopiesModel", "begin", "(III)V"⟩, 31) := ⟨⟨by decide +kernel, by decide +kernel⟩, List.mem_of_getElem? (i := 626) (by decide +kernel), List.mem_of_getElem? (i := 730) (by decide +kernel), List.mem_of_getElem? (i := 731) (by decide +kernel)⟩
theorem lw_p36 : lw_okq (⟨"MaskedCopiesModel", "isTable", "(I)Z"⟩, 31) := ⟨⟨by decide +kernel, by decide +kernel⟩, List.mem_of_getElem? (i := 626) (by decide +kernel), List.mem_of_getElem? (i := 738) (by decide +kernel), List.mem_of_getElem? (i := 739) (by decide +kernel)⟩
theorem lw_p37 : lw_okq (⟨"MaskedCopiesModel", "isColumn", "(II)Z"⟩, 31) := ⟨⟨by decide +kernel, by decide +kernel⟩, List.mem_of_getElem? (i := 626) (by decide +kernel), List.mem_of_getElem? (i := 775) (by decide +kernel), List.mem_of_getElem? (i := 776) (by decide +kernel)⟩
theorem lw_p38 : lw_okq (⟨"MaskedCopiesModel", "rule", "(IIII)I"⟩, 31) := ⟨⟨by decide +kernel, by decide +kernel⟩, List.mem_of_getElem? (i := 626) (by decide +kernel), List.mem_of_getElem? (i := 798) (by decide +kernel), List.mem_of_getElem? (i := 799) (by decide +kernel)⟩
theorem lw_p39 : lw_okq (⟨"MaskedCopiesModel", "see", "(I)V"⟩, 31) := ⟨⟨by decide +kernel, by decide +kernel⟩, List.mem_of_getElem? (i := 626) (by decide +kernel), List.mem_of_getElem? (i := 818) (by decide +kernel), List.mem_of_getElem? (i := 819) (by decide +kernel)⟩
theorem lw_p40 : lw_okq (⟨"MaskedCopiesModel", "firstBroken", "()I"⟩, 31) := ⟨⟨by decide +kernel, by decide +kernel⟩, List.mem_of_getElem? (i := 626) (by decide +kernel), List.mem_of_getElem? (i := 822) (by decide +kernel), List.mem_of_getElem? (i := 823) (by decide +kernel)⟩
theorem lw_p41 : lw_okq (⟨"MaskedCopiesModel", "holdsFor", "(II)Z"⟩, 31) := ⟨⟨by decide +kernel, by decide +kernel⟩, List.mem_of_getElem? (i := 626) (by decide +kernel), List.mem_of_getElem? (i := 826) (by decide +kernel), List.mem_of_getElem? (i := 827) (by decide +kernel)⟩
theorem lw_p42 : lw_okq (⟨"MaskedCopiesModel", "sumFor", "(II)I"⟩, 31) := ⟨⟨by decide +kernel, by decide +kernel⟩, List.mem_of_getElem? (i := 626) (by decide +kernel), List.mem_of_getElem? (i := 830) (by decide +kernel), List.mem_of_getElem? (i := 831) (by decide +kernel)⟩
theorem lw_p43 : lw_okq (⟨"MaskedCopiesModel", "isKeyOf", "(II)Z"⟩, 31) := ⟨⟨by decide +kernel, by decide +kernel⟩, List.mem_of_getElem? (i := 626) (by decide +kernel), List.mem_of_getElem? (i := 834) (by decide +kernel), List.mem_of_getElem? (i := 835) (by decide +kernel)⟩
theorem lw_p44 : lw_okq (⟨"MaskedCopiesModel", "maskTable", "(I)V"⟩, 31) := ⟨⟨by decide +kernel, by decide +kernel⟩, List.mem_of_getElem? (i := 626) (by decide +kernel), List.mem_of_getElem? (i := 842) (by decide +kernel), List.mem_of_getElem? (i := 843) (by decide +kernel)⟩
theorem lw_p45 : lw_okq (⟨"MaskedCopiesModel", "maskedCell", "(III)I"⟩, 31) := ⟨⟨by decide +kernel, by decide +kernel⟩, List.mem_of_getElem? (i := 626) (by decide +kernel), List.mem_of_getElem? (i := 846) (by decide +kernel), List.mem_of_getElem? (i := 847) (by decide +kernel)⟩
theorem lw_p46 : lw_okq (⟨"MaskedCopiesModel", "turnedKey", "(II)I"⟩, 31) := ⟨⟨by decide +kernel, by decide +kernel⟩, List.mem_of_getElem? (i := 626) (by decide +kernel), List.mem_of_getElem? (i := 850) (by decide +kernel), List.mem_of_getElem? (i := 851) (by decide +kernel)⟩
theorem lw_p47 : lw_okq (⟨"MaskedCopiesModel", "turnedName", "(II)I"⟩, 31) := ⟨⟨by decide +kernel, by decide +kernel⟩, List.mem_of_getElem? (i := 626) (by decide +kernel), List.mem_of_getElem? (i := 854) (by decide +kernel), List.mem_of_getElem? (i := 855) (by decide +kernel)⟩
def lw_privs_3 : List (MethodName × Nat) := [(⟨"MaskedCopies$WidthSearch", "isChoice", "(II)Z"⟩, 6), (⟨"MaskedCopies", "sameBy", "(IIII)I"⟩, 13), (⟨"MaskedCopies$WidthSearch", "isSafe", "(II)Z"⟩, 6), (⟨"MaskedCopiesModel", "begin", "(III)V"⟩, 31), (⟨"MaskedCopiesModel", "isTable", "(I)Z"⟩, 31), (⟨"MaskedCopiesModel", "isColumn", "(II)Z"⟩, 31), (⟨"MaskedCopiesModel", "rule", "(IIII)I"⟩, 31), (⟨"MaskedCopiesModel", "see", "(I)V"⟩, 31), (⟨"MaskedCopiesModel", "firstBroken", "()I"⟩, 31), (⟨"MaskedCopiesModel", "holdsFor", "(II)Z"⟩, 31), (⟨"MaskedCopiesModel", "sumFor", "(II)I"⟩, 31), (⟨"MaskedCopiesModel", "isKeyOf", "(II)Z"⟩, 31), (⟨"MaskedCopiesModel", "maskTable", "(I)V"⟩, 31), (⟨"MaskedCopiesModel", "maskedCell", "(III)I"⟩, 31), (⟨"MaskedCopiesModel", "turnedKey", "(II)I"⟩, 31), (⟨"MaskedCopiesModel", "turnedName", "(II)I"⟩, 31)]
theorem lw_r3 : ∀ q ∈ lw_privs_3, lw_okq q := List.forall_mem_cons.mpr ⟨lw_p32, List.forall_mem_cons.mpr ⟨lw_p33, List.forall_mem_cons.mpr ⟨lw_p34, List.forall_mem_cons.mpr ⟨lw_p35, List.forall_mem_cons.mpr ⟨lw_p36, List.forall_mem_cons.mpr ⟨lw_p37, List.forall_mem_cons.mpr ⟨lw_p38, List.forall_mem_cons.mpr ⟨lw_p39, List.forall_mem_cons.mpr ⟨lw_p40, List.forall_mem_cons.mpr ⟨lw_p41, List.forall_mem_cons.mpr ⟨lw_p42, List.forall_mem_cons.mpr ⟨lw_p43, List.forall_mem_cons.mpr ⟨lw_p44, List.forall_mem_cons.mpr ⟨lw_p45, List.forall_mem_cons.mpr ⟨lw_p46, List.forall_mem_cons.mpr ⟨lw_p47, fun _ h => absurd h List.not_mem_nil⟩⟩⟩⟩⟩⟩⟩⟩⟩⟩⟩⟩⟩⟩⟩⟩
theorem lw_p48 : lw_okq (⟨"MaskedCopiesModel", "ownerOf", "(II)I"⟩, 31) := ⟨⟨by decide +kernel, by decide +kernel⟩, List.mem_of_getElem? (i := 626) (by decide +kernel), List.mem_of_getElem? (i := 858) (by decide +kernel), List.mem_of_getElem? (i := 859) (by decide +kernel)⟩
theorem lw_p49 : lw_okq (⟨"MaskedCopiesModel", "shiftOf", "(I)I"⟩, 31) := ⟨⟨by decide +kernel, by decide +kernel⟩, List.mem_of_getElem? (i := 626) (by decide +kernel), List.mem_of_getElem? (i := 862) (by decide +kernel), List.mem_of_getElem? (i := 863) (by decide +kernel)⟩
theorem lw_p50 : lw_okq (⟨"MaskedCopiesModel", "stays", "(II)Z"⟩, 31) := ⟨⟨by decide +kernel, by decide +kernel⟩, List.mem_of_getElem? (i := 626) (by decide +kernel), List.mem_of_getElem? (i := 866) (by decide +kernel), List.mem_of_getElem? (i := 867) (by decide +kernel)⟩
theorem lw_p51 : lw_okq (⟨"MaskedCopiesModel", "isRow", "(II)Z"⟩, 31) := ⟨⟨by decide +kernel, by decide +kernel⟩, List.mem_of_getElem? (i := 626) (by decide +kernel), List.mem_of_getElem? (i := 877) (by decide +kernel), List.mem_of_getElem? (i := 878) (by decide +kernel)⟩
theorem lw_p52 : lw_okq (⟨"MaskedCopiesModel", "isKnown", "(II)Z"⟩, 31) := ⟨⟨by decide +kernel, by decide +kernel⟩, List.mem_of_getElem? (i := 626) (by decide +kernel), List.mem_of_getElem? (i := 905) (by decide +kernel), List.mem_of_getElem? (i := 906) (by decide +kernel)⟩
theorem lw_p53 : lw_okq (⟨"MaskedCopiesModel", "couldOf", "(III)I"⟩, 31) := ⟨⟨by decide +kernel, by decide +kernel⟩, List.mem_of_getElem? (i := 626) (by decide +kernel), List.mem_of_getElem? (i := 909) (by decide +kernel), List.mem_of_getElem? (i := 910) (by decide +kernel)⟩
theorem lw_p54 : lw_okq (⟨"MaskedCopiesModel", "couldBe", "(IIII)Z"⟩, 31) := ⟨⟨by decide +kernel, by decide +kernel⟩, List.mem_of_getElem? (i := 626) (by decide +kernel), List.mem_of_getElem? (i := 913) (by decide +kernel), List.mem_of_getElem? (i := 914) (by decide +kernel)⟩
theorem lw_p55 : lw_okq (⟨"MaskedCopiesModel", "isPlain", "(II)Z"⟩, 31) := ⟨⟨by decide +kernel, by decide +kernel⟩, List.mem_of_getElem? (i := 626) (by decide +kernel), List.mem_of_getElem? (i := 917) (by decide +kernel), List.mem_of_getElem? (i := 918) (by decide +kernel)⟩
theorem lw_p56 : lw_okq (⟨"MaskedCopiesModel", "alikeOf", "(II)I"⟩, 31) := ⟨⟨by decide +kernel, by decide +kernel⟩, List.mem_of_getElem? (i := 626) (by decide +kernel), List.mem_of_getElem? (i := 925) (by decide +kernel), List.mem_of_getElem? (i := 926) (by decide +kernel)⟩
theorem lw_p57 : lw_okq (⟨"MaskedCopiesModel", "lossOf", "(II)I"⟩, 31) := ⟨⟨by decide +kernel, by decide +kernel⟩, List.mem_of_getElem? (i := 626) (by decide +kernel), List.mem_of_getElem? (i := 937) (by decide +kernel), List.mem_of_getElem? (i := 938) (by decide +kernel)⟩
theorem lw_p58 : lw_okq (⟨"MaskedCopiesModel", "gives", "(III)I"⟩, 31) := ⟨⟨by decide +kernel, by decide +kernel⟩, List.mem_of_getElem? (i := 626) (by decide +kernel), List.mem_of_getElem? (i := 945) (by decide +kernel), List.mem_of_getElem? (i := 946) (by decide +kernel)⟩
def lw_privs_4 : List (MethodName × Nat) := [(⟨"MaskedCopiesModel", "ownerOf", "(II)I"⟩, 31), (⟨"MaskedCopiesModel", "shiftOf", "(I)I"⟩, 31), (⟨"MaskedCopiesModel", "stays", "(II)Z"⟩, 31), (⟨"MaskedCopiesModel", "isRow", "(II)Z"⟩, 31), (⟨"MaskedCopiesModel", "isKnown", "(II)Z"⟩, 31), (⟨"MaskedCopiesModel", "couldOf", "(III)I"⟩, 31), (⟨"MaskedCopiesModel", "couldBe", "(IIII)Z"⟩, 31), (⟨"MaskedCopiesModel", "isPlain", "(II)Z"⟩, 31), (⟨"MaskedCopiesModel", "alikeOf", "(II)I"⟩, 31), (⟨"MaskedCopiesModel", "lossOf", "(II)I"⟩, 31), (⟨"MaskedCopiesModel", "gives", "(III)I"⟩, 31)]
theorem lw_r4 : ∀ q ∈ lw_privs_4, lw_okq q := List.forall_mem_cons.mpr ⟨lw_p48, List.forall_mem_cons.mpr ⟨lw_p49, List.forall_mem_cons.mpr ⟨lw_p50, List.forall_mem_cons.mpr ⟨lw_p51, List.forall_mem_cons.mpr ⟨lw_p52, List.forall_mem_cons.mpr ⟨lw_p53, List.forall_mem_cons.mpr ⟨lw_p54, List.forall_mem_cons.mpr ⟨lw_p55, List.forall_mem_cons.mpr ⟨lw_p56, List.forall_mem_cons.mpr ⟨lw_p57, List.forall_mem_cons.mpr ⟨lw_p58, fun _ h => absurd h List.not_mem_nil⟩⟩⟩⟩⟩⟩⟩⟩⟩⟩⟩
def lw_privs : List (MethodName × Nat) := lw_privs_1 ++ (lw_privs_2 ++ (lw_privs_3 ++ (lw_privs_4)))
def lw_tbl : List Cond := k2_sels lw_privs ++ tables_1
theorem lw_privs_ok : ∀ q ∈ lw_privs, lw_okq q := by
  show ∀ q ∈ lw_privs_1 ++ (lw_privs_2 ++ (lw_privs_3 ++ (lw_privs_4))), lw_okq q
  exact List.forall_mem_append.mpr ⟨lw_r1, List.forall_mem_append.mpr ⟨lw_r2, List.forall_mem_append.mpr ⟨lw_r3, lw_r4⟩⟩⟩
end
section
def RX0 : String := "MaskedCopies$Column"
def TX0 : u_T := fun k => match k with
  | 0 => ("MaskedCopies$Column", "kind", "I", false)
  | 1 => ("MaskedCopies$Column", "to", "I", false)
  | 2 => ("MaskedCopies$Column", "how", "I", false)
  | 3 => ("MaskedCopies$Column", "number", "I", false)
  | 4 => ("MaskedCopies$Column", "factor", "I", false)
  | _ => ("MaskedCopies$Column", "addend", "I", false)
def tyX0 : Nat → FieldType := fun k => match k with
  | 0 => .int
  | 1 => .int
  | 2 => .int
  | 3 => .int
  | 4 => .int
  | _ => .int
abbrev wsX00 : List Cond := u_ws RX0 TX0 6
theorem nmX0 : ∀ a, a < 6 → ∀ b, b < 6 → a ≠ b → (TX0 a).2.1 ≠ (TX0 b).2.1 := by decide +kernel
theorem tyX0_ok : ∀ k, k < 6 → parseFieldDescriptor (TX0 k).2.2.1 = some (tyX0 k) := by decide +kernel
abbrev cX0_init : ByteArray := prog_2_method_1_code
def yX0_init : MethodName := ⟨RX0, "<init>", "()V"⟩
abbrev cX0_turnName : ByteArray := prog_2_method_2_code
def yX0_turnName : MethodName := ⟨RX0, "turnName", "(I)I"⟩
def RX1 : String := "MaskedCopies$Copy"
def TX1 : u_T := fun k => match k with
  | _ => ("MaskedCopies$Copy", "cells", "[I", true)
def tyX1 : Nat → FieldType := fun k => match k with
  | _ => .array .int
abbrev wsX10 : List Cond := u_ws RX1 TX1 1
theorem nmX1 : ∀ a, a < 1 → ∀ b, b < 1 → a ≠ b → (TX1 a).2.1 ≠ (TX1 b).2.1 := by decide +kernel
theorem tyX1_ok : ∀ k, k < 1 → parseFieldDescriptor (TX1 k).2.2.1 = some (tyX1 k) := by decide +kernel
abbrev cX1_init : ByteArray := prog_3_method_1_code
def yX1_init : MethodName := ⟨RX1, "<init>", "()V"⟩
abbrev cX1_placeOf : ByteArray := prog_3_method_2_code
def yX1_placeOf : MethodName := ⟨RX1, "placeOf", "(III)I"⟩
abbrev cX1_read : ByteArray := prog_3_method_3_code
def yX1_read : MethodName := ⟨RX1, "read", "(III)I"⟩
abbrev cX1_write : ByteArray := prog_3_method_4_code
def yX1_write : MethodName := ⟨RX1, "write", "(IIII)V"⟩
def RX2 : String := "MaskedCopies$DayRoom"
def TX2 : u_T := fun k => match k with
  | 0 => ("MaskedCopies$DayRoom", "down", "I", false)
  | _ => ("MaskedCopies$DayRoom", "up", "I", false)
def tyX2 : Nat → FieldType := fun k => match k with
  | 0 => .int
  | _ => .int
abbrev wsX20 : List Cond := u_ws RX2 TX2 2
theorem nmX2 : ∀ a, a < 2 → ∀ b, b < 2 → a ≠ b → (TX2 a).2.1 ≠ (TX2 b).2.1 := by decide +kernel
theorem tyX2_ok : ∀ k, k < 2 → parseFieldDescriptor (TX2 k).2.2.1 = some (tyX2 k) := by decide +kernel
abbrev cX2_init : ByteArray := prog_4_method_1_code
def yX2_init : MethodName := ⟨RX2, "<init>", "()V"⟩
abbrev cX2_open : ByteArray := prog_4_method_2_code
def yX2_open : MethodName := ⟨RX2, "open", "()V"⟩
abbrev cX2_narrow : ByteArray := prog_4_method_3_code
def yX2_narrow : MethodName := ⟨RX2, "narrow", "(I)V"⟩
abbrev cX2_lets : ByteArray := prog_4_method_4_code
def yX2_lets : MethodName := ⟨RX2, "lets", "(I)Z"⟩
def RX3 : String := "MaskedCopies$Rule"
def TX3 : u_T := fun k => match k with
  | 0 => ("MaskedCopies$Rule", "kind", "I", false)
  | 1 => ("MaskedCopies$Rule", "table", "I", false)
  | 2 => ("MaskedCopies$Rule", "column", "I", false)
  | 3 => ("MaskedCopies$Rule", "second", "I", false)
  | 4 => ("MaskedCopies$Rule", "partTable", "I", false)
  | 5 => ("MaskedCopies$Rule", "ref", "I", false)
  | _ => ("MaskedCopies$Rule", "mended", "Z", false)
def tyX3 : Nat → FieldType := fun k => match k with
  | 0 => .int
  | 1 => .int
  | 2 => .int
  | 3 => .int
  | 4 => .int
  | 5 => .int
  | _ => .boolean
abbrev wsX30 : List Cond := u_ws RX3 TX3 7
theorem nmX3 : ∀ a, a < 7 → ∀ b, b < 7 → a ≠ b → (TX3 a).2.1 ≠ (TX3 b).2.1 := by decide +kernel
theorem tyX3_ok : ∀ k, k < 7 → parseFieldDescriptor (TX3 k).2.2.1 = some (tyX3 k) := by decide +kernel
abbrev cX3_init : ByteArray := prog_5_method_1_code
def yX3_init : MethodName := ⟨RX3, "<init>", "()V"⟩
abbrev cX3_setOrder : ByteArray := prog_5_method_2_code
def yX3_setOrder : MethodName := ⟨RX3, "setOrder", "(III)V"⟩
abbrev cX3_setAgree : ByteArray := prog_5_method_3_code
def yX3_setAgree : MethodName := ⟨RX3, "setAgree", "(IIIIIZ)V"⟩
abbrev cX3_setFound : ByteArray := prog_5_method_4_code
def yX3_setFound : MethodName := ⟨RX3, "setFound", "(II)V"⟩
def RX4 : String := "MaskedCopies$Table"
def TX4 : u_T := fun k => match k with
  | 0 => ("MaskedCopies$Table", "columns", "[LMaskedCopies$Column;", true)
  | 1 => ("MaskedCopies$Table", "factors", "[I", true)
  | 2 => ("MaskedCopies$Table", "addends", "[I", true)
  | 3 => ("MaskedCopies$Table", "columnCount", "I", false)
  | 4 => ("MaskedCopies$Table", "rowCount", "I", false)
  | _ => ("MaskedCopies$Table", "ownerColumn", "I", false)
def tyX4 : Nat → FieldType := fun k => match k with
  | 0 => .array (.object "MaskedCopies$Column")
  | 1 => .array .int
  | 2 => .array .int
  | 3 => .int
  | 4 => .int
  | _ => .int
abbrev wsX40 : List Cond := u_ws RX4 TX4 6
theorem nmX4 : ∀ a, a < 6 → ∀ b, b < 6 → a ≠ b → (TX4 a).2.1 ≠ (TX4 b).2.1 := by decide +kernel
theorem tyX4_ok : ∀ k, k < 6 → parseFieldDescriptor (TX4 k).2.2.1 = some (tyX4 k) := by decide +kernel
abbrev cX4_init : ByteArray := prog_6_method_1_code
def yX4_init : MethodName := ⟨RX4, "<init>", "()V"⟩
abbrev cX4_columnNumbered : ByteArray := prog_6_method_2_code
def yX4_columnNumbered : MethodName := ⟨RX4, "columnNumbered", "(I)LMaskedCopies$Column;"⟩
abbrev cX4_addColumn : ByteArray := prog_6_method_3_code
def yX4_addColumn : MethodName := ⟨RX4, "addColumn", "(II)I"⟩
abbrev cX4_isShifted : ByteArray := prog_6_method_4_code
def yX4_isShifted : MethodName := ⟨RX4, "isShifted", "(I)Z"⟩
abbrev cX4_hasShift : ByteArray := prog_6_method_5_code
def yX4_hasShift : MethodName := ⟨RX4, "hasShift", "()Z"⟩
abbrev cX4_turnsKeys : ByteArray := prog_6_method_6_code
def yX4_turnsKeys : MethodName := ⟨RX4, "turnsKeys", "()Z"⟩
abbrev cX4_setDigit : ByteArray := prog_6_method_7_code
def yX4_setDigit : MethodName := ⟨RX4, "setDigit", "(III)V"⟩
abbrev cX4_turnKey : ByteArray := prog_6_method_8_code
def yX4_turnKey : MethodName := ⟨RX4, "turnKey", "(I)I"⟩
def RX5 : String := "MaskedCopies$WidthSearch"
def TX5 : u_T := fun k => match k with
  | 0 => ("MaskedCopies$WidthSearch", "numbers", "[I", true)
  | 1 => ("MaskedCopies$WidthSearch", "losses", "[I", true)
  | 2 => ("MaskedCopies$WidthSearch", "same", "[I", true)
  | 3 => ("MaskedCopies$WidthSearch", "others", "[I", true)
  | 4 => ("MaskedCopies$WidthSearch", "columnCount", "I", false)
  | _ => ("MaskedCopies$WidthSearch", "rowCount", "I", false)
def tyX5 : Nat → FieldType := fun k => match k with
  | 0 => .array .int
  | 1 => .array .int
  | 2 => .array .int
  | 3 => .array .int
  | 4 => .int
  | _ => .int
abbrev wsX50 : List Cond := u_ws RX5 TX5 6
theorem nmX5 : ∀ a, a < 6 → ∀ b, b < 6 → a ≠ b → (TX5 a).2.1 ≠ (TX5 b).2.1 := by decide +kernel
theorem tyX5_ok : ∀ k, k < 6 → parseFieldDescriptor (TX5 k).2.2.1 = some (tyX5 k) := by decide +kernel
abbrev cX5_init : ByteArray := prog_7_method_1_code
def yX5_init : MethodName := ⟨RX5, "<init>", "()V"⟩
abbrev cX5_widthAt : ByteArray := prog_7_method_2_code
def yX5_widthAt : MethodName := ⟨RX5, "widthAt", "(I)I"⟩
abbrev cX5_begin : ByteArray := prog_7_method_3_code
def yX5_begin : MethodName := ⟨RX5, "begin", "(I)V"⟩
abbrev cX5_addColumn : ByteArray := prog_7_method_4_code
def yX5_addColumn : MethodName := ⟨RX5, "addColumn", "(I)I"⟩
abbrev cX5_columnNumber : ByteArray := prog_7_method_5_code
def yX5_columnNumber : MethodName := ⟨RX5, "columnNumber", "(I)I"⟩
abbrev cX5_setLoss : ByteArray := prog_7_method_6_code
def yX5_setLoss : MethodName := ⟨RX5, "setLoss", "(III)V"⟩
abbrev cX5_setSame : ByteArray := prog_7_method_7_code
def yX5_setSame : MethodName := ⟨RX5, "setSame", "(IIII)V"⟩
abbrev cX5_setOthers : ByteArray := prog_7_method_8_code
def yX5_setOthers : MethodName := ⟨RX5, "setOthers", "(II)V"⟩
abbrev cX5_isChoice : ByteArray := prog_7_method_9_code
def yX5_isChoice : MethodName := ⟨RX5, "isChoice", "(II)Z"⟩
abbrev cX5_choiceOf : ByteArray := prog_7_method_10_code
def yX5_choiceOf : MethodName := ⟨RX5, "choiceOf", "(II)I"⟩
abbrev cX5_lossOf : ByteArray := prog_7_method_11_code
def yX5_lossOf : MethodName := ⟨RX5, "lossOf", "(I)I"⟩
abbrev cX5_isSafe : ByteArray := prog_7_method_12_code
def yX5_isSafe : MethodName := ⟨RX5, "isSafe", "(II)Z"⟩
abbrev cX5_leastWay : ByteArray := prog_7_method_13_code
def yX5_leastWay : MethodName := ⟨RX5, "leastWay", "(I)I"⟩
def RX6 : String := "MaskedCopies"
def TX6 : u_T := fun k => match k with
  | 0 => ("MaskedCopies", "tables", "[LMaskedCopies$Table;", true)
  | 1 => ("MaskedCopies", "rules", "[LMaskedCopies$Rule;", true)
  | 2 => ("MaskedCopies", "waiting", "[I", true)
  | 3 => ("MaskedCopies", "truth", "LMaskedCopies$Copy;", true)
  | 4 => ("MaskedCopies", "room", "LMaskedCopies$DayRoom;", true)
  | 5 => ("MaskedCopies", "search", "LMaskedCopies$WidthSearch;", true)
  | 6 => ("MaskedCopies", "made", "LMaskedCopies$Copy;", false)
  | 7 => ("MaskedCopies", "draft", "LMaskedCopies$Copy;", false)
  | 8 => ("MaskedCopies", "tableCount", "I", false)
  | 9 => ("MaskedCopies", "ruleCount", "I", false)
  | 10 => ("MaskedCopies", "waitingCount", "I", false)
  | 11 => ("MaskedCopies", "seedNow", "I", false)
  | _ => ("MaskedCopies", "hasMade", "Z", false)
def tyX6 : Nat → FieldType := fun k => match k with
  | 0 => .array (.object "MaskedCopies$Table")
  | 1 => .array (.object "MaskedCopies$Rule")
  | 2 => .array .int
  | 3 => .object "MaskedCopies$Copy"
  | 4 => .object "MaskedCopies$DayRoom"
  | 5 => .object "MaskedCopies$WidthSearch"
  | 6 => .object "MaskedCopies$Copy"
  | 7 => .object "MaskedCopies$Copy"
  | 8 => .int
  | 9 => .int
  | 10 => .int
  | 11 => .int
  | _ => .boolean
abbrev wsX60 : List Cond := u_ws RX6 TX6 13
theorem nmX6 : ∀ a, a < 13 → ∀ b, b < 13 → a ≠ b → (TX6 a).2.1 ≠ (TX6 b).2.1 := by decide +kernel
theorem tyX6_ok : ∀ k, k < 13 → parseFieldDescriptor (TX6 k).2.2.1 = some (tyX6 k) := by decide +kernel
abbrev cX6_init : ByteArray := prog_1_method_1_code
def yX6_init : MethodName := ⟨RX6, "<init>", "()V"⟩
abbrev cX6_table : ByteArray := prog_1_method_2_code
def yX6_table : MethodName := ⟨RX6, "table", "()I"⟩
abbrev cX6_column : ByteArray := prog_1_method_3_code
def yX6_column : MethodName := ⟨RX6, "column", "(III)I"⟩
abbrev cX6_cell : ByteArray := prog_1_method_4_code
def yX6_cell : MethodName := ⟨RX6, "cell", "(I)I"⟩
abbrev cX6_row : ByteArray := prog_1_method_5_code
def yX6_row : MethodName := ⟨RX6, "row", "(I)I"⟩
abbrev cX6_wipe : ByteArray := prog_1_method_6_code
def yX6_wipe : MethodName := ⟨RX6, "wipe", "()I"⟩
abbrev cX6_owner : ByteArray := prog_1_method_7_code
def yX6_owner : MethodName := ⟨RX6, "owner", "(II)I"⟩
abbrev cX6_mask : ByteArray := prog_1_method_8_code
def yX6_mask : MethodName := ⟨RX6, "mask", "(IIII)I"⟩
abbrev cX6_dial : ByteArray := prog_1_method_9_code
def yX6_dial : MethodName := ⟨RX6, "dial", "(IIIII)I"⟩
abbrev cX6_seed : ByteArray := prog_1_method_10_code
def yX6_seed : MethodName := ⟨RX6, "seed", "(I)I"⟩
abbrev cX6_order : ByteArray := prog_1_method_11_code
def yX6_order : MethodName := ⟨RX6, "order", "(III)I"⟩
abbrev cX6_agree : ByteArray := prog_1_method_12_code
def yX6_agree : MethodName := ⟨RX6, "agree", "(IIIIII)I"⟩
abbrev cX6_found : ByteArray := prog_1_method_13_code
def yX6_found : MethodName := ⟨RX6, "found", "(II)I"⟩
abbrev cX6_unrule : ByteArray := prog_1_method_14_code
def yX6_unrule : MethodName := ⟨RX6, "unrule", "()I"⟩
abbrev cX6_broken : ByteArray := prog_1_method_15_code
def yX6_broken : MethodName := ⟨RX6, "broken", "(I)I"⟩
abbrev cX6_make : ByteArray := prog_1_method_16_code
def yX6_make : MethodName := ⟨RX6, "make", "()I"⟩
abbrev cX6_at : ByteArray := prog_1_method_17_code
def yX6_at : MethodName := ⟨RX6, "at", "(IIII)I"⟩
abbrev cX6_turned : ByteArray := prog_1_method_18_code
def yX6_turned : MethodName := ⟨RX6, "turned", "(III)I"⟩
abbrev cX6_shift : ByteArray := prog_1_method_19_code
def yX6_shift : MethodName := ⟨RX6, "shift", "(I)I"⟩
abbrev cX6_count : ByteArray := prog_1_method_20_code
def yX6_count : MethodName := ⟨RX6, "count", "(IIII)I"⟩
abbrev cX6_joins : ByteArray := prog_1_method_21_code
def yX6_joins : MethodName := ⟨RX6, "joins", "(III)I"⟩
abbrev cX6_miss : ByteArray := prog_1_method_22_code
def yX6_miss : MethodName := ⟨RX6, "miss", "(II)I"⟩
abbrev cX6_could : ByteArray := prog_1_method_23_code
def yX6_could : MethodName := ⟨RX6, "could", "(III)I"⟩
abbrev cX6_alike : ByteArray := prog_1_method_24_code
def yX6_alike : MethodName := ⟨RX6, "alike", "(II)I"⟩
abbrev cX6_sure : ByteArray := prog_1_method_25_code
def yX6_sure : MethodName := ⟨RX6, "sure", "(IIII)I"⟩
abbrev cX6_loss : ByteArray := prog_1_method_26_code
def yX6_loss : MethodName := ⟨RX6, "loss", "(II)I"⟩
abbrev cX6_best : ByteArray := prog_1_method_27_code
def yX6_best : MethodName := ⟨RX6, "best", "(III)I"⟩
abbrev cX6_about : ByteArray := prog_1_method_28_code
def yX6_about : MethodName := ⟨RX6, "about", "(III)I"⟩
abbrev cX6_all : ByteArray := prog_1_method_29_code
def yX6_all : MethodName := ⟨RX6, "all", "(I)I"⟩
abbrev cX6_tableAt : ByteArray := prog_1_method_30_code
def yX6_tableAt : MethodName := ⟨RX6, "tableAt", "(I)LMaskedCopies$Table;"⟩
abbrev cX6_columnAt : ByteArray := prog_1_method_31_code
def yX6_columnAt : MethodName := ⟨RX6, "columnAt", "(II)LMaskedCopies$Column;"⟩
abbrev cX6_rowsOf : ByteArray := prog_1_method_32_code
def yX6_rowsOf : MethodName := ⟨RX6, "rowsOf", "(I)I"⟩
abbrev cX6_columnsOf : ByteArray := prog_1_method_33_code
def yX6_columnsOf : MethodName := ⟨RX6, "columnsOf", "(I)I"⟩
abbrev cX6_isRow : ByteArray := prog_1_method_34_code
def yX6_isRow : MethodName := ⟨RX6, "isRow", "(II)Z"⟩
abbrev cX6_copyOf : ByteArray := prog_1_method_35_code
def yX6_copyOf : MethodName := ⟨RX6, "copyOf", "(I)LMaskedCopies$Copy;"⟩
abbrev cX6_areColumns : ByteArray := prog_1_method_36_code
def yX6_areColumns : MethodName := ⟨RX6, "areColumns", "(II)Z"⟩
abbrev cX6_rowsWith : ByteArray := prog_1_method_37_code
def yX6_rowsWith : MethodName := ⟨RX6, "rowsWith", "(LMaskedCopies$Copy;III)I"⟩
abbrev cX6_isBit : ByteArray := prog_1_method_38_code
def yX6_isBit : MethodName := ⟨RX6, "isBit", "(I)Z"⟩
abbrev cX6_hasBit : ByteArray := prog_1_method_39_code
def yX6_hasBit : MethodName := ⟨RX6, "hasBit", "(II)Z"⟩
abbrev cX6_rightFigure : ByteArray := prog_1_method_40_code
def yX6_rightFigure : MethodName := ⟨RX6, "rightFigure", "(I)I"⟩
abbrev cX6_isKeyNumber : ByteArray := prog_1_method_41_code
def yX6_isKeyNumber : MethodName := ⟨RX6, "isKeyNumber", "(I)Z"⟩
abbrev cX6_isNumberOfKind : ByteArray := prog_1_method_42_code
def yX6_isNumberOfKind : MethodName := ⟨RX6, "isNumberOfKind", "(II)Z"⟩
abbrev cX6_waitingCellsFit : ByteArray := prog_1_method_43_code
def yX6_waitingCellsFit : MethodName := ⟨RX6, "waitingCellsFit", "(LMaskedCopies$Table;)Z"⟩
abbrev cX6_isMaskOf : ByteArray := prog_1_method_44_code
def yX6_isMaskOf : MethodName := ⟨RX6, "isMaskOf", "(II)Z"⟩
abbrev cX6_isNumberOf : ByteArray := prog_1_method_45_code
def yX6_isNumberOf : MethodName := ⟨RX6, "isNumberOf", "(II)Z"⟩
abbrev cX6_dialDigit : ByteArray := prog_1_method_46_code
def yX6_dialDigit : MethodName := ⟨RX6, "dialDigit", "(LMaskedCopies$Table;III)I"⟩
abbrev cX6_draftMasked : ByteArray := prog_1_method_47_code
def yX6_draftMasked : MethodName := ⟨RX6, "draftMasked", "(I)V"⟩
abbrev cX6_maskedCell : ByteArray := prog_1_method_48_code
def yX6_maskedCell : MethodName := ⟨RX6, "maskedCell", "(IIII)I"⟩
abbrev cX6_turnedRef : ByteArray := prog_1_method_49_code
def yX6_turnedRef : MethodName := ⟨RX6, "turnedRef", "(II)I"⟩
abbrev cX6_dealtCell : ByteArray := prog_1_method_50_code
def yX6_dealtCell : MethodName := ⟨RX6, "dealtCell", "(IIII)I"⟩
abbrev cX6_tooFine : ByteArray := prog_1_method_51_code
def yX6_tooFine : MethodName := ⟨RX6, "tooFine", "(II)I"⟩
abbrev cX6_lossBy : ByteArray := prog_1_method_52_code
def yX6_lossBy : MethodName := ⟨RX6, "lossBy", "(III)I"⟩
abbrev cX6_ownerOf : ByteArray := prog_1_method_53_code
def yX6_ownerOf : MethodName := ⟨RX6, "ownerOf", "(II)I"⟩
abbrev cX6_shiftOf : ByteArray := prog_1_method_54_code
def yX6_shiftOf : MethodName := ⟨RX6, "shiftOf", "(I)I"⟩
abbrev cX6_narrowRoom : ByteArray := prog_1_method_55_code
def yX6_narrowRoom : MethodName := ⟨RX6, "narrowRoom", "(II)V"⟩
abbrev cX6_narrowRoomByRow : ByteArray := prog_1_method_56_code
def yX6_narrowRoomByRow : MethodName := ⟨RX6, "narrowRoomByRow", "(LMaskedCopies$Table;II)V"⟩
abbrev cX6_nextRule : ByteArray := prog_1_method_57_code
def yX6_nextRule : MethodName := ⟨RX6, "nextRule", "()LMaskedCopies$Rule;"⟩
abbrev cX6_addRule : ByteArray := prog_1_method_58_code
def yX6_addRule : MethodName := ⟨RX6, "addRule", "()I"⟩
abbrev cX6_firstBroken : ByteArray := prog_1_method_59_code
def yX6_firstBroken : MethodName := ⟨RX6, "firstBroken", "(LMaskedCopies$Copy;)I"⟩
abbrev cX6_ruleHolds : ByteArray := prog_1_method_60_code
def yX6_ruleHolds : MethodName := ⟨RX6, "ruleHolds", "(LMaskedCopies$Rule;LMaskedCopies$Copy;)Z"⟩
abbrev cX6_holdsInRow : ByteArray := prog_1_method_61_code
def yX6_holdsInRow : MethodName := ⟨RX6, "holdsInRow", "(LMaskedCopies$Rule;LMaskedCopies$Copy;I)Z"⟩
abbrev cX6_partsOf : ByteArray := prog_1_method_62_code
def yX6_partsOf : MethodName := ⟨RX6, "partsOf", "(LMaskedCopies$Rule;LMaskedCopies$Copy;I)I"⟩
abbrev cX6_mendDraft : ByteArray := prog_1_method_63_code
def yX6_mendDraft : MethodName := ⟨RX6, "mendDraft", "()V"⟩
abbrev cX6_mendColumn : ByteArray := prog_1_method_64_code
def yX6_mendColumn : MethodName := ⟨RX6, "mendColumn", "(LMaskedCopies$Rule;)V"⟩
abbrev cX6_couldSet : ByteArray := prog_1_method_65_code
def yX6_couldSet : MethodName := ⟨RX6, "couldSet", "(III)I"⟩
abbrev cX6_looksSame : ByteArray := prog_1_method_66_code
def yX6_looksSame : MethodName := ⟨RX6, "looksSame", "(IIII)Z"⟩
abbrev cX6_isPlain : ByteArray := prog_1_method_67_code
def yX6_isPlain : MethodName := ⟨RX6, "isPlain", "(II)Z"⟩
abbrev cX6_movesSame : ByteArray := prog_1_method_68_code
def yX6_movesSame : MethodName := ⟨RX6, "movesSame", "(IIII)Z"⟩
abbrev cX6_prepareSearch : ByteArray := prog_1_method_69_code
def yX6_prepareSearch : MethodName := ⟨RX6, "prepareSearch", "(II)V"⟩
abbrev cX6_offerWidths : ByteArray := prog_1_method_70_code
def yX6_offerWidths : MethodName := ⟨RX6, "offerWidths", "(IIZ)V"⟩
abbrev cX6_sameBy : ByteArray := prog_1_method_71_code
def yX6_sameBy : MethodName := ⟨RX6, "sameBy", "(IIII)I"⟩
abbrev cX6_coarseOrMissing : ByteArray := prog_1_method_72_code
def yX6_coarseOrMissing : MethodName := ⟨RX6, "coarseOrMissing", "(II)I"⟩
def RX7 : String := "MaskedCopiesModel"
def TX7 : u_T := fun k => match k with
  | 0 => ("MaskedCopiesModel", "thrown", "I", false)
  | 1 => ("MaskedCopiesModel", "tables", "I", false)
  | 2 => ("MaskedCopiesModel", "columns", "[I", true)
  | 3 => ("MaskedCopiesModel", "rows", "[I", true)
  | 4 => ("MaskedCopiesModel", "owner", "[I", true)
  | 5 => ("MaskedCopiesModel", "kind", "[I", true)
  | 6 => ("MaskedCopiesModel", "to", "[I", true)
  | 7 => ("MaskedCopiesModel", "mask", "[I", true)
  | 8 => ("MaskedCopiesModel", "number", "[I", true)
  | 9 => ("MaskedCopiesModel", "nameA", "[I", true)
  | 10 => ("MaskedCopiesModel", "nameB", "[I", true)
  | 11 => ("MaskedCopiesModel", "digitA", "[I", true)
  | 12 => ("MaskedCopiesModel", "digitB", "[I", true)
  | 13 => ("MaskedCopiesModel", "seed", "I", false)
  | 14 => ("MaskedCopiesModel", "cells", "[I", true)
  | 15 => ("MaskedCopiesModel", "made", "[I", true)
  | 16 => ("MaskedCopiesModel", "isMade", "Z", false)
  | 17 => ("MaskedCopiesModel", "masked", "[I", true)
  | 18 => ("MaskedCopiesModel", "waits", "[I", true)
  | 19 => ("MaskedCopiesModel", "waiting", "I", false)
  | 20 => ("MaskedCopiesModel", "rules", "I", false)
  | 21 => ("MaskedCopiesModel", "sort", "[I", true)
  | 22 => ("MaskedCopiesModel", "ruleT", "[I", true)
  | 23 => ("MaskedCopiesModel", "ruleA", "[I", true)
  | 24 => ("MaskedCopiesModel", "ruleB", "[I", true)
  | 25 => ("MaskedCopiesModel", "ruleU", "[I", true)
  | 26 => ("MaskedCopiesModel", "ruleE", "[I", true)
  | 27 => ("MaskedCopiesModel", "mends", "[Z", true)
  | 28 => ("MaskedCopiesModel", "seen", "[I", true)
  | 29 => ("MaskedCopiesModel", "own", "[I", true)
  | _ => ("MaskedCopiesModel", "bestWidths", "[I", true)
def tyX7 : Nat → FieldType := fun k => match k with
  | 0 => .int
  | 1 => .int
  | 2 => .array .int
  | 3 => .array .int
  | 4 => .array .int
  | 5 => .array .int
  | 6 => .array .int
  | 7 => .array .int
  | 8 => .array .int
  | 9 => .array .int
  | 10 => .array .int
  | 11 => .array .int
  | 12 => .array .int
  | 13 => .int
  | 14 => .array .int
  | 15 => .array .int
  | 16 => .boolean
  | 17 => .array .int
  | 18 => .array .int
  | 19 => .int
  | 20 => .int
  | 21 => .array .int
  | 22 => .array .int
  | 23 => .array .int
  | 24 => .array .int
  | 25 => .array .int
  | 26 => .array .int
  | 27 => .array .boolean
  | 28 => .array .int
  | 29 => .array .int
  | _ => .array .int
abbrev wsX70 : List Cond := u_ws RX7 TX7 31
theorem nmX7 : ∀ a, a < 31 → ∀ b, b < 31 → a ≠ b → (TX7 a).2.1 ≠ (TX7 b).2.1 := by decide +kernel
theorem tyX7_ok : ∀ k, k < 31 → parseFieldDescriptor (TX7 k).2.2.1 = some (tyX7 k) := by decide +kernel
abbrev cX7_init : ByteArray := prog_9_method_1_code
def yX7_init : MethodName := ⟨RX7, "<init>", "()V"⟩
abbrev cX7_in : ByteArray := prog_9_method_3_code
def yX7_in : MethodName := ⟨RX7, "in", "(III)Z"⟩
abbrev cX7_isTable : ByteArray := prog_9_method_4_code
def yX7_isTable : MethodName := ⟨RX7, "isTable", "(I)Z"⟩
abbrev cX7_isColumn : ByteArray := prog_9_method_5_code
def yX7_isColumn : MethodName := ⟨RX7, "isColumn", "(II)Z"⟩
abbrev cX7_isRow : ByteArray := prog_9_method_6_code
def yX7_isRow : MethodName := ⟨RX7, "isRow", "(II)Z"⟩
abbrev cX7_cell : ByteArray := prog_9_method_7_code
def yX7_cell : MethodName := ⟨RX7, "cell", "(III)I"⟩
abbrev cX7_figure : ByteArray := prog_9_method_8_code
def yX7_figure : MethodName := ⟨RX7, "figure", "(I)I"⟩
abbrev cX7_isKey : ByteArray := prog_9_method_9_code
def yX7_isKey : MethodName := ⟨RX7, "isKey", "(I)Z"⟩
abbrev cX7_table : ByteArray := prog_9_method_10_code
def yX7_table : MethodName := ⟨RX7, "table", "()I"⟩
abbrev cX7_begin : ByteArray := prog_9_method_11_code
def yX7_begin : MethodName := ⟨RX7, "begin", "(III)V"⟩
abbrev cX7_column : ByteArray := prog_9_method_12_code
def yX7_column : MethodName := ⟨RX7, "column", "(III)I"⟩
abbrev cX7_cell_ : ByteArray := prog_9_method_13_code
def yX7_cell_ : MethodName := ⟨RX7, "cell", "(I)I"⟩
abbrev cX7_wipe : ByteArray := prog_9_method_14_code
def yX7_wipe : MethodName := ⟨RX7, "wipe", "()I"⟩
abbrev cX7_isOf : ByteArray := prog_9_method_15_code
def yX7_isOf : MethodName := ⟨RX7, "isOf", "(II)Z"⟩
abbrev cX7_row : ByteArray := prog_9_method_16_code
def yX7_row : MethodName := ⟨RX7, "row", "(I)I"⟩
abbrev cX7_owner : ByteArray := prog_9_method_17_code
def yX7_owner : MethodName := ⟨RX7, "owner", "(II)I"⟩
abbrev cX7_fits : ByteArray := prog_9_method_18_code
def yX7_fits : MethodName := ⟨RX7, "fits", "(III)Z"⟩
abbrev cX7_mask : ByteArray := prog_9_method_19_code
def yX7_mask : MethodName := ⟨RX7, "mask", "(IIII)I"⟩
abbrev cX7_dial : ByteArray := prog_9_method_20_code
def yX7_dial : MethodName := ⟨RX7, "dial", "(IIIII)I"⟩
abbrev cX7_seed : ByteArray := prog_9_method_21_code
def yX7_seed : MethodName := ⟨RX7, "seed", "(I)I"⟩
abbrev cX7_turnedKey : ByteArray := prog_9_method_22_code
def yX7_turnedKey : MethodName := ⟨RX7, "turnedKey", "(II)I"⟩
abbrev cX7_turnedName : ByteArray := prog_9_method_23_code
def yX7_turnedName : MethodName := ⟨RX7, "turnedName", "(II)I"⟩
abbrev cX7_ownerOf : ByteArray := prog_9_method_24_code
def yX7_ownerOf : MethodName := ⟨RX7, "ownerOf", "(II)I"⟩
abbrev cX7_shiftOf : ByteArray := prog_9_method_25_code
def yX7_shiftOf : MethodName := ⟨RX7, "shiftOf", "(I)I"⟩
abbrev cX7_stays : ByteArray := prog_9_method_26_code
def yX7_stays : MethodName := ⟨RX7, "stays", "(II)Z"⟩
abbrev cX7_coarse : ByteArray := prog_9_method_27_code
def yX7_coarse : MethodName := ⟨RX7, "coarse", "(II)I"⟩
abbrev cX7_maskedCell : ByteArray := prog_9_method_28_code
def yX7_maskedCell : MethodName := ⟨RX7, "maskedCell", "(III)I"⟩
abbrev cX7_maskTable : ByteArray := prog_9_method_29_code
def yX7_maskTable : MethodName := ⟨RX7, "maskTable", "(I)V"⟩
abbrev cX7_rule : ByteArray := prog_9_method_30_code
def yX7_rule : MethodName := ⟨RX7, "rule", "(IIII)I"⟩
abbrev cX7_order : ByteArray := prog_9_method_31_code
def yX7_order : MethodName := ⟨RX7, "order", "(III)I"⟩
abbrev cX7_agree : ByteArray := prog_9_method_32_code
def yX7_agree : MethodName := ⟨RX7, "agree", "(IIIIII)I"⟩
abbrev cX7_found : ByteArray := prog_9_method_33_code
def yX7_found : MethodName := ⟨RX7, "found", "(II)I"⟩
abbrev cX7_unrule : ByteArray := prog_9_method_34_code
def yX7_unrule : MethodName := ⟨RX7, "unrule", "()I"⟩
abbrev cX7_sumFor : ByteArray := prog_9_method_35_code
def yX7_sumFor : MethodName := ⟨RX7, "sumFor", "(II)I"⟩
abbrev cX7_isKeyOf : ByteArray := prog_9_method_36_code
def yX7_isKeyOf : MethodName := ⟨RX7, "isKeyOf", "(II)Z"⟩
abbrev cX7_holdsFor : ByteArray := prog_9_method_37_code
def yX7_holdsFor : MethodName := ⟨RX7, "holdsFor", "(II)Z"⟩
abbrev cX7_firstBroken : ByteArray := prog_9_method_38_code
def yX7_firstBroken : MethodName := ⟨RX7, "firstBroken", "()I"⟩
abbrev cX7_see : ByteArray := prog_9_method_39_code
def yX7_see : MethodName := ⟨RX7, "see", "(I)V"⟩
abbrev cX7_broken : ByteArray := prog_9_method_40_code
def yX7_broken : MethodName := ⟨RX7, "broken", "(I)I"⟩
abbrev cX7_make : ByteArray := prog_9_method_41_code
def yX7_make : MethodName := ⟨RX7, "make", "()I"⟩
abbrev cX7_at : ByteArray := prog_9_method_42_code
def yX7_at : MethodName := ⟨RX7, "at", "(IIII)I"⟩
abbrev cX7_turned : ByteArray := prog_9_method_43_code
def yX7_turned : MethodName := ⟨RX7, "turned", "(III)I"⟩
abbrev cX7_shift : ByteArray := prog_9_method_44_code
def yX7_shift : MethodName := ⟨RX7, "shift", "(I)I"⟩
abbrev cX7_count : ByteArray := prog_9_method_45_code
def yX7_count : MethodName := ⟨RX7, "count", "(IIII)I"⟩
abbrev cX7_joins : ByteArray := prog_9_method_46_code
def yX7_joins : MethodName := ⟨RX7, "joins", "(III)I"⟩
abbrev cX7_miss : ByteArray := prog_9_method_47_code
def yX7_miss : MethodName := ⟨RX7, "miss", "(II)I"⟩
abbrev cX7_isKnown : ByteArray := prog_9_method_48_code
def yX7_isKnown : MethodName := ⟨RX7, "isKnown", "(II)Z"⟩
abbrev cX7_isPlain : ByteArray := prog_9_method_49_code
def yX7_isPlain : MethodName := ⟨RX7, "isPlain", "(II)Z"⟩
abbrev cX7_couldBe : ByteArray := prog_9_method_50_code
def yX7_couldBe : MethodName := ⟨RX7, "couldBe", "(IIII)Z"⟩
abbrev cX7_couldOf : ByteArray := prog_9_method_51_code
def yX7_couldOf : MethodName := ⟨RX7, "couldOf", "(III)I"⟩
abbrev cX7_could : ByteArray := prog_9_method_52_code
def yX7_could : MethodName := ⟨RX7, "could", "(III)I"⟩
abbrev cX7_alikeOf : ByteArray := prog_9_method_53_code
def yX7_alikeOf : MethodName := ⟨RX7, "alikeOf", "(II)I"⟩
abbrev cX7_alike : ByteArray := prog_9_method_54_code
def yX7_alike : MethodName := ⟨RX7, "alike", "(II)I"⟩
abbrev cX7_sure : ByteArray := prog_9_method_55_code
def yX7_sure : MethodName := ⟨RX7, "sure", "(IIII)I"⟩
abbrev cX7_lossOf : ByteArray := prog_9_method_56_code
def yX7_lossOf : MethodName := ⟨RX7, "lossOf", "(II)I"⟩
abbrev cX7_loss : ByteArray := prog_9_method_57_code
def yX7_loss : MethodName := ⟨RX7, "loss", "(II)I"⟩
abbrev cX7_width : ByteArray := prog_9_method_58_code
def yX7_width : MethodName := ⟨RX7, "width", "(I)I"⟩
abbrev cX7_gives : ByteArray := prog_9_method_59_code
def yX7_gives : MethodName := ⟨RX7, "gives", "(III)I"⟩
abbrev cX7_best : ByteArray := prog_9_method_60_code
def yX7_best : MethodName := ⟨RX7, "best", "(III)I"⟩
abbrev cX7_about : ByteArray := prog_9_method_61_code
def yX7_about : MethodName := ⟨RX7, "about", "(III)I"⟩
abbrev cX7_all : ByteArray := prog_9_method_62_code
def yX7_all : MethodName := ⟨RX7, "all", "(I)I"⟩
def RJ6 : String := "java/lang/Integer"
def TJ6 : u_T := fun k => match k with
  | _ => ("", "", "", false)
def tyJ6 : Nat → FieldType := fun k => match k with
  | _ => .int
abbrev cJ6_bitCount_0f7a4 : ByteArray := prog_10_method_49_code
def yJ6_bitCount_0f7a4 : MethodName := ⟨RJ6, "bitCount", "(I)I"⟩
def RJ9 : String := "java/lang/Math"
def TJ9 : u_T := fun k => match k with
  | _ => ("", "", "", false)
def tyJ9 : Nat → FieldType := fun k => match k with
  | _ => .int
abbrev cJ9_floorMod_7cf53 : ByteArray := prog_11_method_50_code
def yJ9_floorMod_7cf53 : MethodName := ⟨RJ9, "floorMod", "(II)I"⟩
abbrev cJ9_abs_0f7a4 : ByteArray := prog_11_method_59_code
def yJ9_abs_0f7a4 : MethodName := ⟨RJ9, "abs", "(I)I"⟩
abbrev cJ9_min_7cf53 : ByteArray := prog_11_method_69_code
def yJ9_min_7cf53 : MethodName := ⟨RJ9, "min", "(II)I"⟩
def RL : String := "MaskedCopiesLaw"
abbrev cL_law : ByteArray := code
def yL_law : MethodName := ⟨RL, "law", "([I)Z"⟩
abbrev vwCl : List vw_C := [(RX0, TX0, 6), (RX1, TX1, 1), (RX2, TX2, 2), (RX3, TX3, 7), (RX4, TX4, 6), (RX5, TX5, 6), (RX6, TX6, 13), (RX7, TX7, 31)]
end
section
/-! ===== the small machine: cells by number, ints and references apart; what it reaches, the machine reaches ===== -/
/- a cell's shape: an object of a class (its number in vwCl), or an array (0 int, 1 boolean, 2 Column, 3 Table, 4 Rule) and its length -/
def m_tbl : List Cond := lw_tbl.filter goodWord
theorem m_mem {w : Cond} (i : Nat) (h : lw_tbl[i]? = some w) (hg : goodWord w = true) : w ∈ m_tbl := List.mem_filter.mpr ⟨List.mem_of_getElem? h, hg⟩
abbrev mSh : Type := Nat ⊕ (Nat × Nat)
/-- shapes, ints, references (by cell number) -/
abbrev mH : Type := List mSh × (Nat → Nat → Int32) × (Nat → Nat → Option Nat)
/-- launch, class numbers and slots, array classes, the first cell's address, the script's, the widths' -/
abbrev mG : Type := Launch × va_G × (Nat → ClassId) × Nat × Nat × Nat
/-- a method: name, bytes, locals, return type -/
abbrev mM : Type := MethodName × ByteArray × Nat × Option FieldType
def m_ad (G : mG) (k : Nat) : Nat := if k = 1000000 then G.2.2.2.2.1 else if k = 1000001 then G.2.2.2.2.2 else G.2.2.2.1 + k
def m_rv (G : mG) (v : Value) : Value := match v with
  | .int x => .int x
  | .ref a => .ref (m_ad G a)
  | _ => .null
def m_A (G : mG) : Nat → Prop := fun q => G.2.2.2.1 ≤ q
def m_ty (ci : Nat) : Nat → FieldType := match ci with
  | 0 => tyX0
  | 1 => tyX1
  | 2 => tyX2
  | 3 => tyX3
  | 4 => tyX4
  | 5 => tyX5
  | 6 => tyX6
  | _ => tyX7
def m_nF (ci : Nat) : Nat := match ci with
  | 0 => 6
  | 1 => 1
  | 2 => 2
  | 3 => 7
  | 4 => 6
  | 5 => 6
  | 6 => 13
  | _ => 31
def m_at_ty (ti : Nat) : FieldType := match ti with
  | 0 => .int
  | 1 => .boolean
  | 2 => .object RX0
  | 3 => .object RX4
  | _ => .object RX3
def m_fv (G : mG) (ci : Nat) (f : Nat → Int32) (r : Nat → Option Nat) (k : Nat) : Value := if (m_ty ci k).isReference = true then va_rf ((r k).map (m_ad G)) else .int (f k)
def m_av (G : mG) (ti : Nat) (f : Nat → Int32) (r : Nat → Option Nat) (j : Nat) : Value := if ti < 2 then .int (f j) else va_rf ((r j).map (m_ad G))
def m_at (G : mG) (sh : mSh) (f : Nat → Int32) (r : Nat → Option Nat) (a : Nat) (H : Heap) : Prop := match sh with
  | .inl ci => ci < 8 ∧ t_OB (m_ad G a) (G.2.1.1 ci) (m_nF ci) (G.2.1.2 ci) H (m_fv G ci f r)
  | .inr (ti, n) => ti < 5 ∧ H[m_ad G a]? = some (arrV (G.2.2.1 ti) n (m_av G ti f r))
def m_P (G : mG) (h : mH) (H : Heap) : Prop := (∀ (a : Nat) (sh : mSh), h.1[a]? = some sh → m_at G sh (h.2.1 a) (h.2.2 a) a H) ∧ H.size = G.2.2.2.1 + h.1.length ∧ h.1.length ≤ 1000
def m_tys (G : mG) : List (ClassId × FieldType) := [(G.2.2.1 0, .int), (G.2.2.1 1, .boolean), (G.2.2.1 2, .object RX0), (G.2.2.1 3, .object RX4), (G.2.2.1 4, .object RX3)]
def m_wid (j : Nat) : Int32 := match j with
  | 0 => 1
  | 1 => 10
  | 2 => 100
  | _ => 1000
/-- the static row of widths: nobody writes it -/
def m_St (G : mG) (U : State) (H : Heap) : Prop := va_Z "MaskedCopies$WidthSearch" "WIDTHS" "[I" (.ref G.2.2.2.2.2) (m_A G) U H ∧ va_T .int G.2.2.2.2.2 4 (fun j => .int (m_wid j)) (m_A G) U H
/-- the nest's links, and array classes: words that a call carries along -/
def m_nst : List (String × Nat × MethodName × String) := [(RX6, 29, yX1_init, RX6), (RX6, 36, yX2_init, RX6), (RX6, 43, yX5_init, RX6), (RX6, 72, yX3_init, RX6), (RX4, 34, yX0_init, RX6), (RX4, 52, yX6_rightFigure, RX6)]
def m_N (U : State) : Prop := (∀ q ∈ m_nst, va_Nw (.methodLinkNest q.1 q.2.1 q.2.2.1 q.2.2.2) U) ∧ ∀ C ∈ [RX0, RX3, RX4], va_AO C U
theorem m_N.warm {s U : State} (hW : s.WarmedH U.vm) (h : m_N s) : m_N U := ⟨fun q hq => va_Nw.warmM hW (h.1 q hq), fun C hC => va_AO.moved hW.alike (h.2 C hC)⟩
theorem m_N.same {s U : State} (hv : s.vm = U.vm) (h : m_N s) : m_N U := ⟨fun q hq => va_Nw.same rfl hv (h.1 q hq), fun C hC => va_AO.moved (by rw [hv]; exact Vm.Alike.refl _) (h.2 C hC)⟩
/-- locals by their places; .retAddr: nothing is known -/
def m_lv (G : mG) : Nat → List Value → List (Nat × Value)
  | _, [] => []
  | n, v :: L => match v with
    | .retAddr _ => m_lv G (n + 1) L
    | v => (n, m_rv G v) :: m_lv G (n + 1) L
def m_Cx (G : mG) (M : mM) (d : Nat) (p : Program) (R : Room) (s : State) (m : MethodId) (args : Array Value) (meth : Method) (c : Code) : Prop :=
  p.tables.exec = Jvm.exec ∧ c.code = M.2.1 ∧ c.maxLocals = M.2.2.1 ∧ s.vm.findClass M.1.cls = some m.cls ∧ (∀ w ∈ m_tbl, w.before args s = true) ∧ va_K G.2.1 vwCl (m_tys G) s ∧ (m_St G s s.heap ∧ m_N s) ∧ G.2.2.2.1 ≤ s.heap.size ∧ d ≤ R.frames ∧ 39 * d ≤ R.locals ∧ meth.name = M.1.name
def m_retI (ret : Option FieldType) : Instr := match ret with
  | none => .return_
  | some t => if t.isReference = true then .areturn else .ireturn
/-- the small machine at pc, with locals L, stack st, heap h, comes to its return with r and h' (d frames, rc cells and rs slots are left) -/
def MW (G : mG) (M : mM) (d rc rs pc : Nat) (L st : List Value) (h : mH) (r : Option Value) (h' : mH) : Prop :=
  ∀ (p : Program) (e : Env) (R : Room) (s : State) (m : MethodId) (args : Array Value) (below : List Frame) (meth : Method) (c : Code) (H : Heap) (locs : List Loc) (cells slots : Nat) (Q : State → Prop) (ls : Array Slot),
    m_Cx G M d p R s m args meth c → m_P G h H → va_S (m_A G) s.heap H locs → lv_has ls M.2.2.1 (m_lv G 0 L) → cells + rc ≤ R.cells → slots + rs ≤ R.slots →
    (∀ (pc' : Nat) (ls' : Array Slot) (H' : Heap) (locs' : List Loc) (cells' slots' : Nat), decode M.2.1 pc' = .ok (m_retI M.2.2.2, 1) → m_P G h' H' → va_S (m_A G) s.heap H' locs' → cells' ≤ cells + rc → slots' ≤ slots + rs →
      W p G.1 e R s m args below meth c H' locs' cells' slots' Q (F0 m pc' ls' (r.toList.map (m_rv G)))) →
    W p G.1 e R s m args below meth c H locs cells slots Q (F0 m pc ls (st.map (m_rv G)))
/-- a method's contract -/
def MC (G : mG) (M : mM) (d mc ms : Nat) (av : List Value) (h : mH) (r : Option Value) (h' : mH) : Prop :=
  Met G.1 M.1 (Cond.code M.1 M.2.1 M.2.2.1 M.2.2.2 :: m_tbl) { frames := d, cells := mc, slots := ms, locals := 39 * d }
    (va_Pc (av.map (m_rv G)) (fun U => va_K G.2.1 vwCl (m_tys G) U ∧ (m_St G U U.heap ∧ m_N U) ∧ m_P G h U.heap))
    (fun _ st oc t => oc = .returned (r.map (m_rv G)) ∧ m_P G h' t.heap ∧ va_F (m_A G) st t) mc ms (m_A G)
theorem m_lv_mem {G : mG} : ∀ (L : List Value) (n : Nat) (q : Nat × Value), q ∈ m_lv G n L → ∃ (i : Nat) (v : Value), L[i]? = some v ∧ (∀ z, v ≠ .retAddr z) ∧ q = (n + i, m_rv G v)
  | [], n, q, h => by simp [m_lv] at h
  | v :: L, n, q, h => by
    have key : q = (n, m_rv G v) ∧ (∀ z, v ≠ .retAddr z) ∨ q ∈ m_lv G (n + 1) L := by
      cases v with
      | retAddr z => exact Or.inr h
      | _ =>
        rcases List.mem_cons.mp h with h | h
        · exact Or.inl ⟨h, fun z e => by cases e⟩
        · exact Or.inr h
    rcases key with ⟨h1, h2⟩ | h1
    · exact ⟨0, v, rfl, h2, by rw [h1]; rfl⟩
    · obtain ⟨i, w, e1, e2, e3⟩ := m_lv_mem L (n + 1) q h1
      exact ⟨i + 1, w, by rw [List.getElem?_cons_succ]; exact e1, e2, by rw [e3, show n + 1 + i = n + (i + 1) by omega]⟩
theorem m_lv_in {G : mG} : ∀ (L : List Value) (n i : Nat) (v : Value), L[i]? = some v → (∀ z, v ≠ .retAddr z) → (n + i, m_rv G v) ∈ m_lv G n L
  | [], n, i, v, h, _ => by simp at h
  | w :: L, n, 0, v, h, hz => by
    rw [List.getElem?_cons_zero] at h
    have h := Option.some.inj h
    subst h
    cases w with
    | retAddr z => exact absurd rfl (hz z)
    | _ => exact List.mem_cons_self
  | w :: L, n, i + 1, v, h, hz => by
    rw [List.getElem?_cons_succ] at h
    have h1 := m_lv_in (G := G) L (n + 1) i v h hz
    rw [show n + 1 + i = n + (i + 1) by omega] at h1
    cases w with
    | retAddr z => exact h1
    | _ => exact List.mem_cons_of_mem _ h1
theorem m_rv_c1 (G : mG) (v : Value) : (m_rv G v).category = 1 := by cases v <;> rfl
theorem m_get {G : mG} {ls : Array Slot} {n : Nat} {L : List Value} (hl : lv_has ls n (m_lv G 0 L)) {i : Nat} {v : Value} (hi : L[i]? = some v) (hv : ∀ z, v ≠ .retAddr z) : ls[i]? = some (.val (m_rv G v)) := by
  have h := hl.2.2 _ (m_lv_in L 0 i v hi hv)
  rw [Nat.zero_add] at h
  exact h
/-- behind a store -/
theorem m_stored {G : mG} {ls : Array Slot} {n i : Nat} {L : List Value} {v : Value} (h : lv_has ls n ((i, m_rv G v) :: (m_lv G 0 L).filter (fun q => !(q.1 == i) && !(q.1 + 1 == i && q.2.category == 2)))) : lv_has ls n (m_lv G 0 (L.set i v)) := by
  refine ⟨h.1, h.2.1, fun q hq => ?_⟩
  obtain ⟨j, w, e1, e2, rfl⟩ := m_lv_mem _ _ _ hq
  rw [Nat.zero_add]
  by_cases hji : j = i
  · subst hji
    have hlt : j < L.length := by
      have := (List.getElem?_eq_some_iff.mp e1).1
      rwa [List.length_set] at this
    rw [List.getElem?_set_self hlt] at e1
    cases e1
    exact h.2.2 (j, m_rv G v) List.mem_cons_self
  · rw [List.getElem?_set_ne (Ne.symm hji)] at e1
    refine h.2.2 (j, m_rv G w) (List.mem_cons_of_mem _ (List.mem_filter.mpr ⟨?_, ?_⟩))
    · have := m_lv_in (G := G) L 0 j w e1 e2
      rwa [Nat.zero_add] at this
    · rw [show ((j, m_rv G w) : Nat × Value).2.category = 1 from m_rv_c1 G w]
      simp [hji]
theorem m_A_ad {G : mG} {k : Nat} (h : k < 1000) : m_ad G k = G.2.2.2.1 + k := by
  unfold m_ad
  rw [if_neg (by omega), if_neg (by omega)]
end
section
/-! ===== rows of the small machine: stack, locals, numbers, branches (written by wip/whole/mkrules.py) ===== -/
theorem r_iconst {G : mG} {M : mM} {d rc rs pc : Nat} {L st : List Value} {h h' : mH} {r : Option Value} {n : Int} {x : Int32} (hd : decode M.2.1 pc = .ok (.iconst n, 1)) (hv : Int32.ofInt n = x) (k : MW G M d rc rs (pc + 1) L (.int x :: st) h r h') : MW G M d rc rs pc L (st) h r h' := by
  intro p e R s m args below meth c H locs cells slots Q ls cx hP hS hl hc1 hc2 fin
  exact lv_iconst cx.1 cx.2.1 hd hv (k p e R s m args below meth c H locs cells slots Q ls cx hP hS hl hc1 hc2 fin)
theorem r_bipush {G : mG} {M : mM} {d rc rs pc : Nat} {L st : List Value} {h h' : mH} {r : Option Value} {n : Int} {x : Int32} (hd : decode M.2.1 pc = .ok (.bipush n, 2)) (hv : (Int8.ofInt n).toInt32 = x) (k : MW G M d rc rs (pc + 2) L (.int x :: st) h r h') : MW G M d rc rs pc L (st) h r h' := by
  intro p e R s m args below meth c H locs cells slots Q ls cx hP hS hl hc1 hc2 fin
  exact lv_bipush cx.1 cx.2.1 hd hv (k p e R s m args below meth c H locs cells slots Q ls cx hP hS hl hc1 hc2 fin)
theorem r_sipush {G : mG} {M : mM} {d rc rs pc : Nat} {L st : List Value} {h h' : mH} {r : Option Value} {n : Int} {x : Int32} (hd : decode M.2.1 pc = .ok (.sipush n, 3)) (hv : (Int16.ofInt n).toInt32 = x) (k : MW G M d rc rs (pc + 3) L (.int x :: st) h r h') : MW G M d rc rs pc L (st) h r h' := by
  intro p e R s m args below meth c H locs cells slots Q ls cx hP hS hl hc1 hc2 fin
  exact lv_sipush cx.1 cx.2.1 hd hv (k p e R s m args below meth c H locs cells slots Q ls cx hP hS hl hc1 hc2 fin)
theorem r_null {G : mG} {M : mM} {d rc rs pc : Nat} {L st : List Value} {h h' : mH} {r : Option Value} (hd : decode M.2.1 pc = .ok (.aconst_null, 1)) (k : MW G M d rc rs (pc + 1) L (.null :: st) h r h') : MW G M d rc rs pc L (st) h r h' := by
  intro p e R s m args below meth c H locs cells slots Q ls cx hP hS hl hc1 hc2 fin
  exact lv_null cx.1 cx.2.1 hd (k p e R s m args below meth c H locs cells slots Q ls cx hP hS hl hc1 hc2 fin)
theorem r_ldc {G : mG} {M : mM} {d rc rs pc : Nat} {L st : List Value} {h h' : mH} {r : Option Value} {i : Nat} {x : Int32} (hd : decode M.2.1 pc = .ok (.ldc i, 2)) (hw : Cond.constant M.1.cls i x ∈ m_tbl) (k : MW G M d rc rs (pc + 2) L (.int x :: st) h r h') : MW G M d rc rs pc L (st) h r h' := by
  intro p e R s m args below meth c H locs cells slots Q ls cx hP hS hl hc1 hc2 fin
  exact lv_ldc cx.1 cx.2.1 cx.2.2.2.1 (cx.2.2.2.2.1 _ hw) hd (k p e R s m args below meth c H locs cells slots Q ls cx hP hS hl hc1 hc2 fin)
theorem r_iload {G : mG} {M : mM} {d rc rs pc : Nat} {L st : List Value} {h h' : mH} {r : Option Value} {i : Nat} {x : Int32} (hd : decode M.2.1 pc = .ok (.iload i, 2)) (hi : L[i]? = some (.int x)) (k : MW G M d rc rs (pc + 2) L (.int x :: st) h r h') : MW G M d rc rs pc L (st) h r h' := by
  intro p e R s m args below meth c H locs cells slots Q ls cx hP hS hl hc1 hc2 fin
  exact lv_iload cx.1 cx.2.1 hd (m_get hl hi (fun _ h => by cases h)) (k p e R s m args below meth c H locs cells slots Q ls cx hP hS hl hc1 hc2 fin)
theorem r_iload_n {G : mG} {M : mM} {d rc rs pc : Nat} {L st : List Value} {h h' : mH} {r : Option Value} {j : Fin 4} {i : Nat} {x : Int32} (hd : decode M.2.1 pc = .ok (.iload_n j, 1)) (hj : (j : Nat) = i) (hi : L[i]? = some (.int x)) (k : MW G M d rc rs (pc + 1) L (.int x :: st) h r h') : MW G M d rc rs pc L (st) h r h' := by
  intro p e R s m args below meth c H locs cells slots Q ls cx hP hS hl hc1 hc2 fin
  exact lv_iload_n cx.1 cx.2.1 hd hj (m_get hl hi (fun _ h => by cases h)) (k p e R s m args below meth c H locs cells slots Q ls cx hP hS hl hc1 hc2 fin)
theorem r_aload {G : mG} {M : mM} {d rc rs pc : Nat} {L st : List Value} {h h' : mH} {r : Option Value} {i a : Nat} (hd : decode M.2.1 pc = .ok (.aload i, 2)) (hi : L[i]? = some (.ref a)) (k : MW G M d rc rs (pc + 2) L (.ref a :: st) h r h') : MW G M d rc rs pc L (st) h r h' := by
  intro p e R s m args below meth c H locs cells slots Q ls cx hP hS hl hc1 hc2 fin
  exact lv_aload cx.1 cx.2.1 hd (m_get hl hi (fun _ h => by cases h)) (k p e R s m args below meth c H locs cells slots Q ls cx hP hS hl hc1 hc2 fin)
theorem r_aload_n {G : mG} {M : mM} {d rc rs pc : Nat} {L st : List Value} {h h' : mH} {r : Option Value} {j : Fin 4} {i a : Nat} (hd : decode M.2.1 pc = .ok (.aload_n j, 1)) (hj : (j : Nat) = i) (hi : L[i]? = some (.ref a)) (k : MW G M d rc rs (pc + 1) L (.ref a :: st) h r h') : MW G M d rc rs pc L (st) h r h' := by
  intro p e R s m args below meth c H locs cells slots Q ls cx hP hS hl hc1 hc2 fin
  exact lv_aload_n cx.1 cx.2.1 hd hj (m_get hl hi (fun _ h => by cases h)) (k p e R s m args below meth c H locs cells slots Q ls cx hP hS hl hc1 hc2 fin)
theorem r_aloadN {G : mG} {M : mM} {d rc rs pc : Nat} {L st : List Value} {h h' : mH} {r : Option Value} {i : Nat} (hd : decode M.2.1 pc = .ok (.aload i, 2)) (hi : L[i]? = some .null) (k : MW G M d rc rs (pc + 2) L (.null :: st) h r h') : MW G M d rc rs pc L (st) h r h' := by
  intro p e R s m args below meth c H locs cells slots Q ls cx hP hS hl hc1 hc2 fin
  exact lv_aloadN cx.1 cx.2.1 hd (m_get hl hi (fun _ h => by cases h)) (k p e R s m args below meth c H locs cells slots Q ls cx hP hS hl hc1 hc2 fin)
theorem r_aload_nN {G : mG} {M : mM} {d rc rs pc : Nat} {L st : List Value} {h h' : mH} {r : Option Value} {j : Fin 4} {i : Nat} (hd : decode M.2.1 pc = .ok (.aload_n j, 1)) (hj : (j : Nat) = i) (hi : L[i]? = some .null) (k : MW G M d rc rs (pc + 1) L (.null :: st) h r h') : MW G M d rc rs pc L (st) h r h' := by
  intro p e R s m args below meth c H locs cells slots Q ls cx hP hS hl hc1 hc2 fin
  exact lv_aload_nN cx.1 cx.2.1 hd hj (m_get hl hi (fun _ h => by cases h)) (k p e R s m args below meth c H locs cells slots Q ls cx hP hS hl hc1 hc2 fin)
theorem r_istore {G : mG} {M : mM} {d rc rs pc : Nat} {L st : List Value} {h h' : mH} {r : Option Value} {i : Nat} {x : Int32} {L' : List Value} (hd : decode M.2.1 pc = .ok (.istore i, 2)) (hn : i < M.2.2.1) (hL : L.set i (.int x) = L') (k : MW G M d rc rs (pc + 2) L' st h r h') : MW G M d rc rs pc L (.int x :: st) h r h' := by
  subst hL
  intro p e R s m args below meth c H locs cells slots Q ls cx hP hS hl hc1 hc2 fin
  exact lv_istore cx.1 cx.2.1 hd hl hn rfl (fun ls hl => k p e R s m args below meth c H locs cells slots Q ls cx hP hS (m_stored hl) hc1 hc2 fin)
theorem r_astore {G : mG} {M : mM} {d rc rs pc : Nat} {L st : List Value} {h h' : mH} {r : Option Value} {i : Nat} {x : Nat} {L' : List Value} (hd : decode M.2.1 pc = .ok (.astore i, 2)) (hn : i < M.2.2.1) (hL : L.set i (.ref x) = L') (k : MW G M d rc rs (pc + 2) L' st h r h') : MW G M d rc rs pc L (.ref x :: st) h r h' := by
  subst hL
  intro p e R s m args below meth c H locs cells slots Q ls cx hP hS hl hc1 hc2 fin
  exact lv_astore cx.1 cx.2.1 hd hl hn rfl (fun ls hl => k p e R s m args below meth c H locs cells slots Q ls cx hP hS (m_stored hl) hc1 hc2 fin)
theorem r_astoreN {G : mG} {M : mM} {d rc rs pc : Nat} {L st : List Value} {h h' : mH} {r : Option Value} {i : Nat} {L' : List Value} (hd : decode M.2.1 pc = .ok (.astore i, 2)) (hn : i < M.2.2.1) (hL : L.set i (.null) = L') (k : MW G M d rc rs (pc + 2) L' st h r h') : MW G M d rc rs pc L (.null :: st) h r h' := by
  subst hL
  intro p e R s m args below meth c H locs cells slots Q ls cx hP hS hl hc1 hc2 fin
  exact lv_astoreN cx.1 cx.2.1 hd hl hn rfl (fun ls hl => k p e R s m args below meth c H locs cells slots Q ls cx hP hS (m_stored hl) hc1 hc2 fin)
theorem r_istore_n {G : mG} {M : mM} {d rc rs pc : Nat} {L st : List Value} {h h' : mH} {r : Option Value} {j : Fin 4} {i : Nat} {x : Int32} {L' : List Value} (hd : decode M.2.1 pc = .ok (.istore_n j, 1)) (hj : (j : Nat) = i) (hn : i < M.2.2.1) (hL : L.set i (.int x) = L') (k : MW G M d rc rs (pc + 1) L' st h r h') : MW G M d rc rs pc L (.int x :: st) h r h' := by
  subst hL
  intro p e R s m args below meth c H locs cells slots Q ls cx hP hS hl hc1 hc2 fin
  exact lv_istore_n cx.1 cx.2.1 hd hj hl hn rfl (fun ls hl => k p e R s m args below meth c H locs cells slots Q ls cx hP hS (m_stored hl) hc1 hc2 fin)
theorem r_astore_n {G : mG} {M : mM} {d rc rs pc : Nat} {L st : List Value} {h h' : mH} {r : Option Value} {j : Fin 4} {i : Nat} {x : Nat} {L' : List Value} (hd : decode M.2.1 pc = .ok (.astore_n j, 1)) (hj : (j : Nat) = i) (hn : i < M.2.2.1) (hL : L.set i (.ref x) = L') (k : MW G M d rc rs (pc + 1) L' st h r h') : MW G M d rc rs pc L (.ref x :: st) h r h' := by
  subst hL
  intro p e R s m args below meth c H locs cells slots Q ls cx hP hS hl hc1 hc2 fin
  exact lv_astore_n cx.1 cx.2.1 hd hj hl hn rfl (fun ls hl => k p e R s m args below meth c H locs cells slots Q ls cx hP hS (m_stored hl) hc1 hc2 fin)
theorem r_astore_nN {G : mG} {M : mM} {d rc rs pc : Nat} {L st : List Value} {h h' : mH} {r : Option Value} {j : Fin 4} {i : Nat} {L' : List Value} (hd : decode M.2.1 pc = .ok (.astore_n j, 1)) (hj : (j : Nat) = i) (hn : i < M.2.2.1) (hL : L.set i (.null) = L') (k : MW G M d rc rs (pc + 1) L' st h r h') : MW G M d rc rs pc L (.null :: st) h r h' := by
  subst hL
  intro p e R s m args below meth c H locs cells slots Q ls cx hP hS hl hc1 hc2 fin
  exact lv_astore_nN cx.1 cx.2.1 hd hj hl hn rfl (fun ls hl => k p e R s m args below meth c H locs cells slots Q ls cx hP hS (m_stored hl) hc1 hc2 fin)
theorem r_iadd {G : mG} {M : mM} {d rc rs pc : Nat} {L st : List Value} {h h' : mH} {r : Option Value} {x y : Int32} (hd : decode M.2.1 pc = .ok (.iadd, 1)) (k : MW G M d rc rs (pc + 1) L (.int (x + y) :: st) h r h') : MW G M d rc rs pc L (.int y :: .int x :: st) h r h' := by
  intro p e R s m args below meth c H locs cells slots Q ls cx hP hS hl hc1 hc2 fin
  exact lv_iadd cx.1 cx.2.1 hd (k p e R s m args below meth c H locs cells slots Q ls cx hP hS hl hc1 hc2 fin)
theorem r_isub {G : mG} {M : mM} {d rc rs pc : Nat} {L st : List Value} {h h' : mH} {r : Option Value} {x y : Int32} (hd : decode M.2.1 pc = .ok (.isub, 1)) (k : MW G M d rc rs (pc + 1) L (.int (x - y) :: st) h r h') : MW G M d rc rs pc L (.int y :: .int x :: st) h r h' := by
  intro p e R s m args below meth c H locs cells slots Q ls cx hP hS hl hc1 hc2 fin
  exact lv_isub cx.1 cx.2.1 hd (k p e R s m args below meth c H locs cells slots Q ls cx hP hS hl hc1 hc2 fin)
theorem r_imul {G : mG} {M : mM} {d rc rs pc : Nat} {L st : List Value} {h h' : mH} {r : Option Value} {x y : Int32} (hd : decode M.2.1 pc = .ok (.imul, 1)) (k : MW G M d rc rs (pc + 1) L (.int (x * y) :: st) h r h') : MW G M d rc rs pc L (.int y :: .int x :: st) h r h' := by
  intro p e R s m args below meth c H locs cells slots Q ls cx hP hS hl hc1 hc2 fin
  exact lv_imul cx.1 cx.2.1 hd (k p e R s m args below meth c H locs cells slots Q ls cx hP hS hl hc1 hc2 fin)
theorem r_iand {G : mG} {M : mM} {d rc rs pc : Nat} {L st : List Value} {h h' : mH} {r : Option Value} {x y : Int32} (hd : decode M.2.1 pc = .ok (.iand, 1)) (k : MW G M d rc rs (pc + 1) L (.int (x &&& y) :: st) h r h') : MW G M d rc rs pc L (.int y :: .int x :: st) h r h' := by
  intro p e R s m args below meth c H locs cells slots Q ls cx hP hS hl hc1 hc2 fin
  exact lv_iand cx.1 cx.2.1 hd (k p e R s m args below meth c H locs cells slots Q ls cx hP hS hl hc1 hc2 fin)
theorem r_ior {G : mG} {M : mM} {d rc rs pc : Nat} {L st : List Value} {h h' : mH} {r : Option Value} {x y : Int32} (hd : decode M.2.1 pc = .ok (.ior, 1)) (k : MW G M d rc rs (pc + 1) L (.int (x ||| y) :: st) h r h') : MW G M d rc rs pc L (.int y :: .int x :: st) h r h' := by
  intro p e R s m args below meth c H locs cells slots Q ls cx hP hS hl hc1 hc2 fin
  exact lv_ior cx.1 cx.2.1 hd (k p e R s m args below meth c H locs cells slots Q ls cx hP hS hl hc1 hc2 fin)
theorem r_ixor {G : mG} {M : mM} {d rc rs pc : Nat} {L st : List Value} {h h' : mH} {r : Option Value} {x y : Int32} (hd : decode M.2.1 pc = .ok (.ixor, 1)) (k : MW G M d rc rs (pc + 1) L (.int (x ^^^ y) :: st) h r h') : MW G M d rc rs pc L (.int y :: .int x :: st) h r h' := by
  intro p e R s m args below meth c H locs cells slots Q ls cx hP hS hl hc1 hc2 fin
  exact lv_ixor cx.1 cx.2.1 hd (k p e R s m args below meth c H locs cells slots Q ls cx hP hS hl hc1 hc2 fin)
theorem r_ishl {G : mG} {M : mM} {d rc rs pc : Nat} {L st : List Value} {h h' : mH} {r : Option Value} {x y : Int32} (hd : decode M.2.1 pc = .ok (.ishl, 1)) (k : MW G M d rc rs (pc + 1) L (.int (x <<< (y &&& 31)) :: st) h r h') : MW G M d rc rs pc L (.int y :: .int x :: st) h r h' := by
  intro p e R s m args below meth c H locs cells slots Q ls cx hP hS hl hc1 hc2 fin
  exact lv_ishl cx.1 cx.2.1 hd (k p e R s m args below meth c H locs cells slots Q ls cx hP hS hl hc1 hc2 fin)
theorem r_ishr {G : mG} {M : mM} {d rc rs pc : Nat} {L st : List Value} {h h' : mH} {r : Option Value} {x y : Int32} (hd : decode M.2.1 pc = .ok (.ishr, 1)) (k : MW G M d rc rs (pc + 1) L (.int (x >>> (y &&& 31)) :: st) h r h') : MW G M d rc rs pc L (.int y :: .int x :: st) h r h' := by
  intro p e R s m args below meth c H locs cells slots Q ls cx hP hS hl hc1 hc2 fin
  exact lv_ishr cx.1 cx.2.1 hd (k p e R s m args below meth c H locs cells slots Q ls cx hP hS hl hc1 hc2 fin)
theorem r_idiv {G : mG} {M : mM} {d rc rs pc : Nat} {L st : List Value} {h h' : mH} {r : Option Value} {x y : Int32} (hd : decode M.2.1 pc = .ok (.idiv, 1)) (hne : ¬ y = 0) (k : MW G M d rc rs (pc + 1) L (.int (x / y) :: st) h r h') : MW G M d rc rs pc L (.int y :: .int x :: st) h r h' := by
  intro p e R s m args below meth c H locs cells slots Q ls cx hP hS hl hc1 hc2 fin
  exact lv_idiv cx.1 cx.2.1 hd hne (k p e R s m args below meth c H locs cells slots Q ls cx hP hS hl hc1 hc2 fin)
theorem r_irem {G : mG} {M : mM} {d rc rs pc : Nat} {L st : List Value} {h h' : mH} {r : Option Value} {x y : Int32} (hd : decode M.2.1 pc = .ok (.irem, 1)) (hne : ¬ y = 0) (k : MW G M d rc rs (pc + 1) L (.int (x - x / y * y) :: st) h r h') : MW G M d rc rs pc L (.int y :: .int x :: st) h r h' := by
  intro p e R s m args below meth c H locs cells slots Q ls cx hP hS hl hc1 hc2 fin
  exact lv_irem cx.1 cx.2.1 hd hne (k p e R s m args below meth c H locs cells slots Q ls cx hP hS hl hc1 hc2 fin)
theorem r_ineg {G : mG} {M : mM} {d rc rs pc : Nat} {L st : List Value} {h h' : mH} {r : Option Value} {x : Int32} (hd : decode M.2.1 pc = .ok (.ineg, 1)) (k : MW G M d rc rs (pc + 1) L (.int (-x) :: st) h r h') : MW G M d rc rs pc L (.int x :: st) h r h' := by
  intro p e R s m args below meth c H locs cells slots Q ls cx hP hS hl hc1 hc2 fin
  exact lv_ineg cx.1 cx.2.1 hd (k p e R s m args below meth c H locs cells slots Q ls cx hP hS hl hc1 hc2 fin)
theorem r_dup {G : mG} {M : mM} {d rc rs pc : Nat} {L st : List Value} {h h' : mH} {r : Option Value} {v : Value} (hd : decode M.2.1 pc = .ok (.dup, 1)) (k : MW G M d rc rs (pc + 1) L (v :: v :: st) h r h') : MW G M d rc rs pc L (v :: st) h r h' := by
  intro p e R s m args below meth c H locs cells slots Q ls cx hP hS hl hc1 hc2 fin
  exact lv_dup cx.1 cx.2.1 hd (m_rv_c1 G v) (k p e R s m args below meth c H locs cells slots Q ls cx hP hS hl hc1 hc2 fin)
theorem r_dup2 {G : mG} {M : mM} {d rc rs pc : Nat} {L st : List Value} {h h' : mH} {r : Option Value} {v w : Value} (hd : decode M.2.1 pc = .ok (.dup2, 1)) (k : MW G M d rc rs (pc + 1) L (v :: w :: v :: w :: st) h r h') : MW G M d rc rs pc L (v :: w :: st) h r h' := by
  intro p e R s m args below meth c H locs cells slots Q ls cx hP hS hl hc1 hc2 fin
  exact lv_dup2_11 cx.1 cx.2.1 hd (m_rv_c1 G v) (m_rv_c1 G w) (k p e R s m args below meth c H locs cells slots Q ls cx hP hS hl hc1 hc2 fin)
theorem r_goto {G : mG} {M : mM} {d rc rs pc : Nat} {L st : List Value} {h h' : mH} {r : Option Value} {off : Int} {tgt : Nat} (hd : decode M.2.1 pc = .ok (.goto off, 3)) (ht : (pc : Int) + off = (tgt : Int)) (k : MW G M d rc rs tgt L (st) h r h') : MW G M d rc rs pc L (st) h r h' := by
  intro p e R s m args below meth c H locs cells slots Q ls cx hP hS hl hc1 hc2 fin
  exact lv_goto cx.1 cx.2.1 hd ht (k p e R s m args below meth c H locs cells slots Q ls cx hP hS hl hc1 hc2 fin)
theorem r_iinc {G : mG} {M : mM} {d rc rs pc : Nat} {L st : List Value} {h h' : mH} {r : Option Value} {i : Nat} {n : Int} {x y : Int32} {L' : List Value} (hd : decode M.2.1 pc = .ok (.iinc i n, 3)) (hi : L[i]? = some (.int x)) (hv : Int32.ofInt n = y) (hn : i < M.2.2.1) (hL : L.set i (.int (x + y)) = L') (k : MW G M d rc rs (pc + 3) L' st h r h') : MW G M d rc rs pc L st h r h' := by
  subst hL
  intro p e R s m args below meth c H locs cells slots Q ls cx hP hS hl hc1 hc2 fin
  have hm := m_lv_in (G := G) L 0 i _ hi (fun _ h => by cases h)
  obtain ⟨q, hq⟩ := List.getElem?_of_mem hm
  rw [Nat.zero_add] at hq
  exact lv_iinc (k := q) cx.1 cx.2.1 hd hl hq (by rw [hv]) hn rfl (fun ls hl => k p e R s m args below meth c H locs cells slots Q ls cx hP hS (m_stored (v := .int (x + y)) hl) hc1 hc2 fin)
theorem r_icmp_eq {G : mG} {M : mM} {d rc rs pc : Nat} {L st : List Value} {h h' : mH} {r : Option Value} {x y : Int32} {off : Int} {tgt : Nat} (hd : decode M.2.1 pc = .ok (.if_icmp .eq off, 3)) (ht : (pc : Int) + off = (tgt : Int)) (kt : x = y → MW G M d rc rs tgt L st h r h') (kf : ¬ x = y → MW G M d rc rs (pc + 3) L st h r h') : MW G M d rc rs pc L (.int y :: .int x :: st) h r h' := by
  intro p e R s m args below meth c H locs cells slots Q ls cx hP hS hl hc1 hc2 fin
  exact lv_icmp_eq cx.1 cx.2.1 hd ht (fun q => kt q p e R s m args below meth c H locs cells slots Q ls cx hP hS hl hc1 hc2 fin) (fun q => kf q p e R s m args below meth c H locs cells slots Q ls cx hP hS hl hc1 hc2 fin)
theorem r_if_eq {G : mG} {M : mM} {d rc rs pc : Nat} {L st : List Value} {h h' : mH} {r : Option Value} {x : Int32} {off : Int} {tgt : Nat} (hd : decode M.2.1 pc = .ok (.ifCond .eq off, 3)) (ht : (pc : Int) + off = (tgt : Int)) (kt : x = 0 → MW G M d rc rs tgt L st h r h') (kf : ¬ x = 0 → MW G M d rc rs (pc + 3) L st h r h') : MW G M d rc rs pc L (.int x :: st) h r h' := by
  intro p e R s m args below meth c H locs cells slots Q ls cx hP hS hl hc1 hc2 fin
  exact lv_if_eq cx.1 cx.2.1 hd ht (fun q => kt q p e R s m args below meth c H locs cells slots Q ls cx hP hS hl hc1 hc2 fin) (fun q => kf q p e R s m args below meth c H locs cells slots Q ls cx hP hS hl hc1 hc2 fin)
theorem r_icmp_ne {G : mG} {M : mM} {d rc rs pc : Nat} {L st : List Value} {h h' : mH} {r : Option Value} {x y : Int32} {off : Int} {tgt : Nat} (hd : decode M.2.1 pc = .ok (.if_icmp .ne off, 3)) (ht : (pc : Int) + off = (tgt : Int)) (kt : ¬ x = y → MW G M d rc rs tgt L st h r h') (kf : x = y → MW G M d rc rs (pc + 3) L st h r h') : MW G M d rc rs pc L (.int y :: .int x :: st) h r h' := by
  intro p e R s m args below meth c H locs cells slots Q ls cx hP hS hl hc1 hc2 fin
  exact lv_icmp_ne cx.1 cx.2.1 hd ht (fun q => kt q p e R s m args below meth c H locs cells slots Q ls cx hP hS hl hc1 hc2 fin) (fun q => kf q p e R s m args below meth c H locs cells slots Q ls cx hP hS hl hc1 hc2 fin)
theorem r_if_ne {G : mG} {M : mM} {d rc rs pc : Nat} {L st : List Value} {h h' : mH} {r : Option Value} {x : Int32} {off : Int} {tgt : Nat} (hd : decode M.2.1 pc = .ok (.ifCond .ne off, 3)) (ht : (pc : Int) + off = (tgt : Int)) (kt : ¬ x = 0 → MW G M d rc rs tgt L st h r h') (kf : x = 0 → MW G M d rc rs (pc + 3) L st h r h') : MW G M d rc rs pc L (.int x :: st) h r h' := by
  intro p e R s m args below meth c H locs cells slots Q ls cx hP hS hl hc1 hc2 fin
  exact lv_if_ne cx.1 cx.2.1 hd ht (fun q => kt q p e R s m args below meth c H locs cells slots Q ls cx hP hS hl hc1 hc2 fin) (fun q => kf q p e R s m args below meth c H locs cells slots Q ls cx hP hS hl hc1 hc2 fin)
theorem r_icmp_lt {G : mG} {M : mM} {d rc rs pc : Nat} {L st : List Value} {h h' : mH} {r : Option Value} {x y : Int32} {off : Int} {tgt : Nat} (hd : decode M.2.1 pc = .ok (.if_icmp .lt off, 3)) (ht : (pc : Int) + off = (tgt : Int)) (kt : x < y → MW G M d rc rs tgt L st h r h') (kf : ¬ x < y → MW G M d rc rs (pc + 3) L st h r h') : MW G M d rc rs pc L (.int y :: .int x :: st) h r h' := by
  intro p e R s m args below meth c H locs cells slots Q ls cx hP hS hl hc1 hc2 fin
  exact lv_icmp_lt cx.1 cx.2.1 hd ht (fun q => kt q p e R s m args below meth c H locs cells slots Q ls cx hP hS hl hc1 hc2 fin) (fun q => kf q p e R s m args below meth c H locs cells slots Q ls cx hP hS hl hc1 hc2 fin)
theorem r_if_lt {G : mG} {M : mM} {d rc rs pc : Nat} {L st : List Value} {h h' : mH} {r : Option Value} {x : Int32} {off : Int} {tgt : Nat} (hd : decode M.2.1 pc = .ok (.ifCond .lt off, 3)) (ht : (pc : Int) + off = (tgt : Int)) (kt : x < 0 → MW G M d rc rs tgt L st h r h') (kf : ¬ x < 0 → MW G M d rc rs (pc + 3) L st h r h') : MW G M d rc rs pc L (.int x :: st) h r h' := by
  intro p e R s m args below meth c H locs cells slots Q ls cx hP hS hl hc1 hc2 fin
  exact lv_if_lt cx.1 cx.2.1 hd ht (fun q => kt q p e R s m args below meth c H locs cells slots Q ls cx hP hS hl hc1 hc2 fin) (fun q => kf q p e R s m args below meth c H locs cells slots Q ls cx hP hS hl hc1 hc2 fin)
theorem r_icmp_ge {G : mG} {M : mM} {d rc rs pc : Nat} {L st : List Value} {h h' : mH} {r : Option Value} {x y : Int32} {off : Int} {tgt : Nat} (hd : decode M.2.1 pc = .ok (.if_icmp .ge off, 3)) (ht : (pc : Int) + off = (tgt : Int)) (kt : y ≤ x → MW G M d rc rs tgt L st h r h') (kf : ¬ y ≤ x → MW G M d rc rs (pc + 3) L st h r h') : MW G M d rc rs pc L (.int y :: .int x :: st) h r h' := by
  intro p e R s m args below meth c H locs cells slots Q ls cx hP hS hl hc1 hc2 fin
  exact lv_icmp_ge cx.1 cx.2.1 hd ht (fun q => kt q p e R s m args below meth c H locs cells slots Q ls cx hP hS hl hc1 hc2 fin) (fun q => kf q p e R s m args below meth c H locs cells slots Q ls cx hP hS hl hc1 hc2 fin)
theorem r_if_ge {G : mG} {M : mM} {d rc rs pc : Nat} {L st : List Value} {h h' : mH} {r : Option Value} {x : Int32} {off : Int} {tgt : Nat} (hd : decode M.2.1 pc = .ok (.ifCond .ge off, 3)) (ht : (pc : Int) + off = (tgt : Int)) (kt : 0 ≤ x → MW G M d rc rs tgt L st h r h') (kf : ¬ 0 ≤ x → MW G M d rc rs (pc + 3) L st h r h') : MW G M d rc rs pc L (.int x :: st) h r h' := by
  intro p e R s m args below meth c H locs cells slots Q ls cx hP hS hl hc1 hc2 fin
  exact lv_if_ge cx.1 cx.2.1 hd ht (fun q => kt q p e R s m args below meth c H locs cells slots Q ls cx hP hS hl hc1 hc2 fin) (fun q => kf q p e R s m args below meth c H locs cells slots Q ls cx hP hS hl hc1 hc2 fin)
theorem r_icmp_gt {G : mG} {M : mM} {d rc rs pc : Nat} {L st : List Value} {h h' : mH} {r : Option Value} {x y : Int32} {off : Int} {tgt : Nat} (hd : decode M.2.1 pc = .ok (.if_icmp .gt off, 3)) (ht : (pc : Int) + off = (tgt : Int)) (kt : y < x → MW G M d rc rs tgt L st h r h') (kf : ¬ y < x → MW G M d rc rs (pc + 3) L st h r h') : MW G M d rc rs pc L (.int y :: .int x :: st) h r h' := by
  intro p e R s m args below meth c H locs cells slots Q ls cx hP hS hl hc1 hc2 fin
  exact lv_icmp_gt cx.1 cx.2.1 hd ht (fun q => kt q p e R s m args below meth c H locs cells slots Q ls cx hP hS hl hc1 hc2 fin) (fun q => kf q p e R s m args below meth c H locs cells slots Q ls cx hP hS hl hc1 hc2 fin)
theorem r_if_gt {G : mG} {M : mM} {d rc rs pc : Nat} {L st : List Value} {h h' : mH} {r : Option Value} {x : Int32} {off : Int} {tgt : Nat} (hd : decode M.2.1 pc = .ok (.ifCond .gt off, 3)) (ht : (pc : Int) + off = (tgt : Int)) (kt : 0 < x → MW G M d rc rs tgt L st h r h') (kf : ¬ 0 < x → MW G M d rc rs (pc + 3) L st h r h') : MW G M d rc rs pc L (.int x :: st) h r h' := by
  intro p e R s m args below meth c H locs cells slots Q ls cx hP hS hl hc1 hc2 fin
  exact lv_if_gt cx.1 cx.2.1 hd ht (fun q => kt q p e R s m args below meth c H locs cells slots Q ls cx hP hS hl hc1 hc2 fin) (fun q => kf q p e R s m args below meth c H locs cells slots Q ls cx hP hS hl hc1 hc2 fin)
theorem r_icmp_le {G : mG} {M : mM} {d rc rs pc : Nat} {L st : List Value} {h h' : mH} {r : Option Value} {x y : Int32} {off : Int} {tgt : Nat} (hd : decode M.2.1 pc = .ok (.if_icmp .le off, 3)) (ht : (pc : Int) + off = (tgt : Int)) (kt : x ≤ y → MW G M d rc rs tgt L st h r h') (kf : ¬ x ≤ y → MW G M d rc rs (pc + 3) L st h r h') : MW G M d rc rs pc L (.int y :: .int x :: st) h r h' := by
  intro p e R s m args below meth c H locs cells slots Q ls cx hP hS hl hc1 hc2 fin
  exact lv_icmp_le cx.1 cx.2.1 hd ht (fun q => kt q p e R s m args below meth c H locs cells slots Q ls cx hP hS hl hc1 hc2 fin) (fun q => kf q p e R s m args below meth c H locs cells slots Q ls cx hP hS hl hc1 hc2 fin)
theorem r_if_le {G : mG} {M : mM} {d rc rs pc : Nat} {L st : List Value} {h h' : mH} {r : Option Value} {x : Int32} {off : Int} {tgt : Nat} (hd : decode M.2.1 pc = .ok (.ifCond .le off, 3)) (ht : (pc : Int) + off = (tgt : Int)) (kt : x ≤ 0 → MW G M d rc rs tgt L st h r h') (kf : ¬ x ≤ 0 → MW G M d rc rs (pc + 3) L st h r h') : MW G M d rc rs pc L (.int x :: st) h r h' := by
  intro p e R s m args below meth c H locs cells slots Q ls cx hP hS hl hc1 hc2 fin
  exact lv_if_le cx.1 cx.2.1 hd ht (fun q => kt q p e R s m args below meth c H locs cells slots Q ls cx hP hS hl hc1 hc2 fin) (fun q => kf q p e R s m args below meth c H locs cells slots Q ls cx hP hS hl hc1 hc2 fin)
theorem r_ifnull {G : mG} {M : mM} {d rc rs pc : Nat} {L st : List Value} {h h' : mH} {r : Option Value} {a : Nat} {off : Int} {tgt : Nat} (hd : decode M.2.1 pc = .ok (.ifnull off, 3)) (ht : (pc : Int) + off = (tgt : Int)) (k : MW G M d rc rs (pc + 3) L st h r h') : MW G M d rc rs pc L (.ref a :: st) h r h' := by
  intro p e R s m args below meth c H locs cells slots Q ls cx hP hS hl hc1 hc2 fin
  exact lv_ifnull cx.1 cx.2.1 hd (k p e R s m args below meth c H locs cells slots Q ls cx hP hS hl hc1 hc2 fin)
theorem r_ifnullN {G : mG} {M : mM} {d rc rs pc : Nat} {L st : List Value} {h h' : mH} {r : Option Value} {off : Int} {tgt : Nat} (hd : decode M.2.1 pc = .ok (.ifnull off, 3)) (ht : (pc : Int) + off = (tgt : Int)) (k : MW G M d rc rs tgt L st h r h') : MW G M d rc rs pc L (.null :: st) h r h' := by
  intro p e R s m args below meth c H locs cells slots Q ls cx hP hS hl hc1 hc2 fin
  exact lv_ifnullN cx.1 cx.2.1 hd ht (k p e R s m args below meth c H locs cells slots Q ls cx hP hS hl hc1 hc2 fin)
theorem r_ifnonnull {G : mG} {M : mM} {d rc rs pc : Nat} {L st : List Value} {h h' : mH} {r : Option Value} {a : Nat} {off : Int} {tgt : Nat} (hd : decode M.2.1 pc = .ok (.ifnonnull off, 3)) (ht : (pc : Int) + off = (tgt : Int)) (k : MW G M d rc rs tgt L st h r h') : MW G M d rc rs pc L (.ref a :: st) h r h' := by
  intro p e R s m args below meth c H locs cells slots Q ls cx hP hS hl hc1 hc2 fin
  exact lv_ifnonnull cx.1 cx.2.1 hd ht (k p e R s m args below meth c H locs cells slots Q ls cx hP hS hl hc1 hc2 fin)
theorem r_ifnonnullN {G : mG} {M : mM} {d rc rs pc : Nat} {L st : List Value} {h h' : mH} {r : Option Value} {off : Int} {tgt : Nat} (hd : decode M.2.1 pc = .ok (.ifnonnull off, 3)) (ht : (pc : Int) + off = (tgt : Int)) (k : MW G M d rc rs (pc + 3) L st h r h') : MW G M d rc rs pc L (.null :: st) h r h' := by
  intro p e R s m args below meth c H locs cells slots Q ls cx hP hS hl hc1 hc2 fin
  exact lv_ifnonnullN cx.1 cx.2.1 hd (k p e R s m args below meth c H locs cells slots Q ls cx hP hS hl hc1 hc2 fin)
theorem r_tabIn {G : mG} {M : mM} {d rc rs pc : Nat} {L st : List Value} {h h' : mH} {r : Option Value} {dflt lo hi : Int} {offs : Array Int} {len : Nat} {x : Int32} {off : Int} {tgt : Nat} (hd : decode M.2.1 pc = .ok (.tableswitch dflt lo hi offs, len)) (h1 : ¬ x.toInt < lo) (h2 : ¬ hi < x.toInt) (ho : offs[(x.toInt - lo).toNat]? = some off) (ht : (pc : Int) + off = (tgt : Int)) (k : MW G M d rc rs tgt L st h r h') : MW G M d rc rs pc L (.int x :: st) h r h' := by
  intro p e R s m args below meth c H locs cells slots Q ls cx hP hS hl hc1 hc2 fin
  exact lv_tableIn cx.1 cx.2.1 hd h1 h2 ho ht (k p e R s m args below meth c H locs cells slots Q ls cx hP hS hl hc1 hc2 fin)
theorem r_tabOut {G : mG} {M : mM} {d rc rs pc : Nat} {L st : List Value} {h h' : mH} {r : Option Value} {dflt lo hi : Int} {offs : Array Int} {len : Nat} {x : Int32} {tgt : Nat} (hd : decode M.2.1 pc = .ok (.tableswitch dflt lo hi offs, len)) (ho : x.toInt < lo ∨ hi < x.toInt) (ht : (pc : Int) + dflt = (tgt : Int)) (k : MW G M d rc rs tgt L st h r h') : MW G M d rc rs pc L (.int x :: st) h r h' := by
  intro p e R s m args below meth c H locs cells slots Q ls cx hP hS hl hc1 hc2 fin
  exact lv_tableOut cx.1 cx.2.1 hd ho ht (k p e R s m args below meth c H locs cells slots Q ls cx hP hS hl hc1 hc2 fin)
theorem r_look {G : mG} {M : mM} {d rc rs pc : Nat} {L st : List Value} {h h' : mH} {r : Option Value} {dflt : Int} {ps : Array (Int × Int)} {len : Nat} {x : Int32} {off : Int} {tgt : Nat} (hd : decode M.2.1 pc = .ok (.lookupswitch dflt ps, len)) (hp : (ps.toList.zip (ps.toList.drop 1)).all (fun (a, next) => a.1 < next.1) = true) (ho : Op.lookupswitch.offset ps.toList dflt x.toInt = off) (ht : (pc : Int) + off = (tgt : Int)) (k : MW G M d rc rs tgt L st h r h') : MW G M d rc rs pc L (.int x :: st) h r h' := by
  intro p e R s m args below meth c H locs cells slots Q ls cx hP hS hl hc1 hc2 fin
  exact lv_lookup cx.1 cx.2.1 hd hp ho ht (k p e R s m args below meth c H locs cells slots Q ls cx hP hS hl hc1 hc2 fin)
theorem r_ret {G : mG} {M : mM} {d rc rs pc : Nat} {L st : List Value} {h h' : mH} {r : Option Value} (hd : decode M.2.1 pc = .ok (m_retI M.2.2.2, 1)) (hr : r.toList = st) (hh : h = h') : MW G M d rc rs pc L st h r h' := by
  subst hh
  subst hr
  intro p e R s m args below meth c H locs cells slots Q ls cx hP hS hl hc1 hc2 fin
  exact fin pc ls H locs cells slots hd hP hS (by omega) (by omega)
end
section
/-! ===== rows of the small machine: fields, arrays, new cells ===== -/
def m_T (ci : Nat) : u_T := match ci with
  | 0 => TX0
  | 1 => TX1
  | 2 => TX2
  | 3 => TX3
  | 4 => TX4
  | 5 => TX5
  | 6 => TX6
  | _ => TX7
def m_R (ci : Nat) : String := match ci with
  | 0 => RX0
  | 1 => RX1
  | 2 => RX2
  | 3 => RX3
  | 4 => RX4
  | 5 => RX5
  | 6 => RX6
  | _ => RX7
def m_inAll (ci : Nat) : Bool := (u_ws (m_R ci) (m_T ci) (m_nF ci)).all (fun w => decide (w ∈ m_tbl))
theorem m_in_0 : m_inAll 0 = true := by decide +kernel
theorem m_in_1 : m_inAll 1 = true := by decide +kernel
theorem m_in_2 : m_inAll 2 = true := by decide +kernel
theorem m_in_3 : m_inAll 3 = true := by decide +kernel
theorem m_in_4 : m_inAll 4 = true := by decide +kernel
theorem m_in_5 : m_inAll 5 = true := by decide +kernel
theorem m_in_6 : m_inAll 6 = true := by decide +kernel
theorem m_in_7 : m_inAll 7 = true := by decide +kernel
theorem m_cl {ci : Nat} (h : ci < 8) : vwCl[ci]? = some (m_R ci, m_T ci, m_nF ci) ∧ (∀ w ∈ u_ws (m_R ci) (m_T ci) (m_nF ci), w ∈ m_tbl) ∧ (∀ k, k < m_nF ci → parseFieldDescriptor (m_T ci k).2.2.1 = some (m_ty ci k)) ∧ (∀ a, a < m_nF ci → ∀ b, b < m_nF ci → a ≠ b → (m_T ci a).2.1 ≠ (m_T ci b).2.1) := by
  have hin : ∀ {ci : Nat}, m_inAll ci = true → ∀ w ∈ u_ws (m_R ci) (m_T ci) (m_nF ci), w ∈ m_tbl := fun h w hw => of_decide_eq_true (List.all_eq_true.mp h w hw)
  match ci, h with
  | 0, _ => exact ⟨rfl, hin m_in_0, tyX0_ok, nmX0⟩
  | 1, _ => exact ⟨rfl, hin m_in_1, tyX1_ok, nmX1⟩
  | 2, _ => exact ⟨rfl, hin m_in_2, tyX2_ok, nmX2⟩
  | 3, _ => exact ⟨rfl, hin m_in_3, tyX3_ok, nmX3⟩
  | 4, _ => exact ⟨rfl, hin m_in_4, tyX4_ok, nmX4⟩
  | 5, _ => exact ⟨rfl, hin m_in_5, tyX5_ok, nmX5⟩
  | 6, _ => exact ⟨rfl, hin m_in_6, tyX6_ok, nmX6⟩
  | 7, _ => exact ⟨rfl, hin m_in_7, tyX7_ok, nmX7⟩
/-- a field's link: class, field -/
def m_FL (own : String) (idx ci k : Nat) : Prop := ci < 8 ∧ k < m_nF ci ∧ Cond.fieldLink own idx (m_T ci k).1 (m_T ci k).2.1 (m_T ci k).2.2.1 ∈ m_tbl
def m_up {α : Type} (g : Nat → Nat → α) (a k : Nat) (x : α) : Nat → Nat → α := fun a' => if a' = a then va_up (g a) k x else g a'
theorem m_up_same {α : Type} (g : Nat → Nat → α) (a k : Nat) (x : α) : m_up g a k x a = va_up (g a) k x := if_pos rfl
theorem m_up_ne {α : Type} (g : Nat → Nat → α) {a a' : Nat} (k : Nat) (x : α) (h : a' ≠ a) : m_up g a k x a' = g a' := if_neg h
theorem m_at.kept {G : mG} {sh : mSh} {f : Nat → Int32} {r : Nat → Option Nat} {a : Nat} {H H1 : Heap} (h : m_at G sh f r a H) (hq : H1[m_ad G a]? = H[m_ad G a]?) : m_at G sh f r a H1 := by
  match sh, h with
  | .inl ci, h => exact ⟨h.1, h.2.kept hq⟩
  | .inr (ti, n), h => exact ⟨h.1, hq.trans h.2⟩
theorem m_P.lt {G : mG} {h : mH} {H : Heap} (hP : m_P G h H) {a : Nat} {sh : mSh} (hs : h.1[a]? = some sh) : a < h.1.length ∧ a < 1000 ∧ m_ad G a = G.2.2.2.1 + a := by
  have h1 := (List.getElem?_eq_some_iff.mp hs).1
  have h2 := hP.2.2
  exact ⟨h1, by omega, m_A_ad (by omega)⟩
theorem m_P.set {G : mG} {h h1 : mH} {H H1 : Heap} {a : Nat} {sh : mSh} (hP : m_P G h H) (e1 : h1.1 = h.1) (ho : ∀ a', a' ≠ a → h1.2.1 a' = h.2.1 a' ∧ h1.2.2 a' = h.2.2 a') (hs : h.1[a]? = some sh) (hat : m_at G sh (h1.2.1 a) (h1.2.2 a) a H1) (z : H1.size = H.size) (oq : ∀ q, q ≠ m_ad G a → H1[q]? = H[q]?) : m_P G h1 H1 := by
  refine ⟨fun a' sh' hs' => ?_, by rw [z, e1]; exact hP.2.1, by rw [e1]; exact hP.2.2⟩
  rw [e1] at hs'
  by_cases ha : a' = a
  · subst ha
    cases hs.symm.trans hs'
    exact hat
  · rw [(ho a' ha).1, (ho a' ha).2]
    refine (hP.1 a' sh' hs').kept (oq _ ?_)
    rw [(hP.lt hs).2.2, (hP.lt hs').2.2]
    omega
theorem m_fv_i {G : mG} {ci k : Nat} {f : Nat → Int32} {r : Nat → Option Nat} (ht : (m_ty ci k).isReference = false) : m_fv G ci f r k = .int (f k) := by
  unfold m_fv; rw [if_neg (by rw [ht]; decide)]
theorem m_fv_r {G : mG} {ci k : Nat} {f : Nat → Int32} {r : Nat → Option Nat} (ht : (m_ty ci k).isReference = true) : m_fv G ci f r k = va_rf ((r k).map (m_ad G)) := by
  unfold m_fv; rw [if_pos ht]
theorem m_rf_rv (G : mG) (o : Option Nat) : va_rf (o.map (m_ad G)) = m_rv G (va_rf o) := by cases o <;> rfl
section RMEM
variable {G : mG} {M : mM} {d rc rs pc : Nat} {L st : List Value} {h h' : mH} {r : Option Value}
/-- what a getfield gives, in the machine -/
theorem m_getf {idx ci k a : Nat} {v : Value} (hd : decode M.2.1 pc = .ok (.getfield idx, 3)) (hf : m_FL M.1.cls idx ci k) (hs : h.1[a]? = some (.inl ci)) (hv : m_fv G ci (h.2.1 a) (h.2.2 a) k = m_rv G v) (kk : MW G M d rc rs (pc + 3) L (v :: st) h r h') : MW G M d rc rs pc L (.ref a :: st) h r h' := by
  intro p e R s m args below meth c H locs cells slots Q ls cx hP hS hl hc1 hc2 fin
  obtain ⟨hci, hk, hw⟩ := hf
  obtain ⟨hc, hin, hty, hnm⟩ := m_cl hci
  obtain ⟨-, cell, q1, q2, q3, q4⟩ := hP.1 a _ hs
  obtain ⟨hS1, hfc, kC, hkC, hkind⟩ := cx.2.2.2.2.2.1.1 ci _ hc
  obtain ⟨cf, kf, fi, f, hi, hsl⟩ := hS1 k hk
  have hst := (u_facts hfc hkC (u_lays cx.2.2.2.2.1 hin hk) hi).1
  refine W.getf (v := m_rv G v) cx.1 cx.2.1 cx.2.2.2.1 (cx.2.2.2.2.1 _ hw) hi hst q1 (by rw [q3]; intro h9; cases h9) (by rw [hsl, ← hv]; exact q4 k hk) rfl rfl hd ?_
  exact kk p e R s m args below meth c H locs cells slots Q ls cx hP hS hl hc1 hc2 fin
theorem r_geti {idx ci k a : Nat} (hd : decode M.2.1 pc = .ok (.getfield idx, 3)) (hf : m_FL M.1.cls idx ci k) (ht : (m_ty ci k).isReference = false) (hs : h.1[a]? = some (.inl ci)) (kk : MW G M d rc rs (pc + 3) L (.int (h.2.1 a k) :: st) h r h') : MW G M d rc rs pc L (.ref a :: st) h r h' :=
  m_getf hd hf hs (m_fv_i ht) kk
theorem r_getr {idx ci k a b : Nat} (hd : decode M.2.1 pc = .ok (.getfield idx, 3)) (hf : m_FL M.1.cls idx ci k) (ht : (m_ty ci k).isReference = true) (hs : h.1[a]? = some (.inl ci)) (hb : h.2.2 a k = some b) (kk : MW G M d rc rs (pc + 3) L (.ref b :: st) h r h') : MW G M d rc rs pc L (.ref a :: st) h r h' :=
  m_getf (v := .ref b) hd hf hs (by rw [m_fv_r ht, hb]; rfl) kk
theorem m_put {idx ci k a : Nat} {v : Value} {h1 : mH} (hd : decode M.2.1 pc = .ok (.putfield idx, 3)) (hf : m_FL M.1.cls idx ci k) (hfin : (m_T ci k).2.2.2 = false ∨ ((m_T ci k).1 = M.1.cls ∧ M.1.name = "<init>")) (hn : narrow (m_ty ci k) (m_rv G v) = m_rv G v) (hfit : fits (m_ty ci k) (m_rv G v) = true) (hs : h.1[a]? = some (.inl ci))
    (e1 : h1.1 = h.1) (ho : ∀ a', a' ≠ a → h1.2.1 a' = h.2.1 a' ∧ h1.2.2 a' = h.2.2 a') (hv : ∀ j, j < m_nF ci → updV (m_fv G ci (h.2.1 a) (h.2.2 a)) k (m_rv G v) j = m_fv G ci (h1.2.1 a) (h1.2.2 a) j) (kk : MW G M d rc rs (pc + 3) L st h1 r h') : MW G M d rc rs pc L (v :: .ref a :: st) h r h' := by
  intro p e R s m args below meth c H locs cells slots Q ls cx hP hS hl hc1 hc2 fin
  obtain ⟨hci, hk, hw⟩ := hf
  obtain ⟨hc, hin, hty, hnm⟩ := m_cl hci
  obtain ⟨-, cell, q1, q2, q3, q4⟩ := hP.1 a _ hs
  have hts := cx.2.2.2.2.1
  have hKn := cx.2.2.2.2.2.1.1 ci _ hc
  obtain ⟨hS1, hfc, kC, hkC, hkind⟩ := hKn
  obtain ⟨cf, kf, fi, f, hi, hsl⟩ := hS1 k hk
  have hlay := u_lays hts hin hk
  have hst := (u_facts hfc hkC hlay hi).1
  have hap := va_apart (own := M.1.cls) hts hin (m_ty ci) hty hnm cx.2.2.2.2.2.1 hc
  have hA : m_A G (m_ad G a) := by rw [(hP.lt hs).2.2]; exact Nat.le_add_right _ _
  have hgo : ∀ H' : Heap, H'[m_ad G a]? = some (cell.setSlot f.slot (m_rv G v)) → H'.size = H.size → (∀ q, q ≠ m_ad G a → H'[q]? = H[q]?) → W p G.1 e R s m args below meth c H' (locs ++ [⟨m_ad G a, f.slot⟩]) cells slots Q { (F0 m pc ls (m_rv G v :: .ref (m_ad G a) :: st.map (m_rv G))) with pc := pc + 3, stack := st.map (m_rv G) } := by
    intro H' x1 x2 x3
    refine kk p e R s m args below meth c H' _ cells slots Q ls cx ?_ (hS.put x2 x3 hA) hl hc1 hc2 fin
    refine hP.set e1 ho hs ⟨hci, ?_⟩ x2 x3
    rw [hsl] at x1
    exact t_OB.to (V := updV (m_fv G ci (h.2.1 a) (h.2.2 a)) k (m_rv G v)) ⟨_, x1, q2, q3, t_set q4 hap hk (m_rv G v)⟩ hv
  by_cases hfl : (m_T ci k).2.2.2 = true
  · have hi2 : M.1.name = "<init>" := by
      rcases hfin with h9 | h9
      · rw [h9] at hfl; cases hfl
      · exact h9.2
    have hdecl : (m_T ci k).1 = M.1.cls := by
      rcases hfin with h9 | h9
      · rw [h9] at hfl; cases hfl
      · exact h9.1
    have h6 := u_fits hfc hkC hkind hlay hi (hty k hk) hn hfit
    have hlay2 := hts _ (hin _ (u_in_lay hk))
    unfold u_lay at hlay2
    rw [if_pos hfl] at hlay2
    have hcf : m.cls = cf := by
      obtain ⟨_, _, c', _, _, _, -, -, hf', -, -, -, hown2, -⟩ := Cond.laysFinal_spec hlay2
      have e9 : c' = cf := by have h9 := hi.symm.trans hf'; simp at h9; exact h9.1.symm
      rw [hdecl] at hown2
      rw [← e9]; exact Option.some.inj (cx.2.2.2.1.symm.trans hown2)
    exact W.putFinK cx.1 cx.2.1 cx.2.2.2.1 (hts _ hw) hi hst hcf (cx.2.2.2.2.2.2.2.2.2.2.trans hi2) (by rw [q2]; exact h6) q1 q3 (by rw [hsl]; exact k2_hasslot (q4 k hk)) rfl rfl hd hgo
  · have hlay2 := hts _ (hin _ (u_in_lay hk))
    unfold u_lay at hlay2
    rw [if_neg hfl] at hlay2
    have h6 := u_store hfc hkC hkind hlay2 hi (hty k hk) hn hfit
    exact W.putK cx.1 cx.2.1 (f := f) ⟨cx.2.2.2.1, hts _ hw, ⟨_, _, _, hi⟩, hst⟩ (by rw [q2]; exact h6) q1 q3 (by rw [hsl]; exact k2_hasslot (q4 k hk)) rfl rfl hd hgo
theorem m_updV_i {G : mG} {ci k : Nat} {f : Nat → Int32} {r : Nat → Option Nat} {x : Int32} (ht : (m_ty ci k).isReference = false) (j : Nat) : updV (m_fv G ci f r) k (.int x) j = m_fv G ci (va_up f k x) r j := by
  unfold updV
  by_cases hj : j = k
  · subst hj
    rw [if_pos rfl, m_fv_i ht]
    simp [va_up]
  · rw [if_neg hj]
    unfold m_fv
    simp [va_up, hj]
theorem m_updV_r {G : mG} {ci k : Nat} {f : Nat → Int32} {r : Nat → Option Nat} {b : Nat} (ht : (m_ty ci k).isReference = true) (j : Nat) : updV (m_fv G ci f r) k (.ref (m_ad G b)) j = m_fv G ci f (va_up r k (some b)) j := by
  unfold updV
  by_cases hj : j = k
  · subst hj
    rw [if_pos rfl, m_fv_r ht]
    simp [va_up, va_rf]
  · rw [if_neg hj]
    unfold m_fv
    simp [va_up, hj]
theorem m_up_ho {α : Type} {g : Nat → Nat → α} {a k : Nat} {x : α} (a' : Nat) (h : a' ≠ a) : m_up g a k x a' = g a' := m_up_ne g k x h
/-- an int, or a boolean that is 0 or 1 -/
def m_okI (t : FieldType) (x : Int32) : Prop := t = .int ∨ (t = .boolean ∧ (x = 0 ∨ x = 1))
theorem m_okI.n {t : FieldType} {x : Int32} (h : m_okI t x) : narrow t (.int x) = .int x ∧ fits t (.int x) = true ∧ t.isReference = false := by
  rcases h with rfl | ⟨rfl, rfl | rfl⟩
  · exact ⟨rfl, rfl, rfl⟩
  · exact ⟨rfl, rfl, rfl⟩
  · exact ⟨rfl, rfl, rfl⟩
theorem r_puti {idx ci k a : Nat} {x : Int32} (hd : decode M.2.1 pc = .ok (.putfield idx, 3)) (hf : m_FL M.1.cls idx ci k) (hfin : (m_T ci k).2.2.2 = false ∨ ((m_T ci k).1 = M.1.cls ∧ M.1.name = "<init>")) (ht : m_okI (m_ty ci k) x) (hs : h.1[a]? = some (.inl ci)) (kk : MW G M d rc rs (pc + 3) L st (h.1, m_up h.2.1 a k x, h.2.2) r h') : MW G M d rc rs pc L (.int x :: .ref a :: st) h r h' :=
  m_put (h1 := (h.1, m_up h.2.1 a k x, h.2.2)) (v := .int x) hd hf hfin ht.n.1 ht.n.2.1 hs rfl (fun a' ha => ⟨m_up_ne _ _ _ ha, rfl⟩) (fun j _ => by show _ = m_fv G ci (m_up h.2.1 a k x a) (h.2.2 a) j; rw [m_up_same]; exact m_updV_i ht.n.2.2 j) kk
theorem r_putr {idx ci k a b : Nat} (hd : decode M.2.1 pc = .ok (.putfield idx, 3)) (hf : m_FL M.1.cls idx ci k) (hfin : (m_T ci k).2.2.2 = false ∨ ((m_T ci k).1 = M.1.cls ∧ M.1.name = "<init>")) (ht : (m_ty ci k).isReference = true) (hs : h.1[a]? = some (.inl ci)) (kk : MW G M d rc rs (pc + 3) L st (h.1, h.2.1, m_up h.2.2 a k (some b)) r h') : MW G M d rc rs pc L (.ref b :: .ref a :: st) h r h' :=
  m_put (h1 := (h.1, h.2.1, m_up h.2.2 a k (some b))) (v := .ref b) hd hf hfin (by generalize m_ty ci k = t at ht; cases t <;> first | rfl | (cases ht)) (by generalize m_ty ci k = t at ht; cases t <;> first | rfl | (cases ht)) hs rfl (fun a' ha => ⟨rfl, m_up_ne _ _ _ ha⟩) (fun j _ => by show _ = m_fv G ci (h.2.1 a) (m_up h.2.2 a k (some b) a) j; rw [m_up_same]; exact m_updV_r ht j) kk
/-- an index within -/
theorem r_iald {a n : Nat} {i : Int32} (hd : decode M.2.1 pc = .ok (.iaload, 1)) (hs : h.1[a]? = some (.inr (0, n))) (hin : vp_in i n) (kk : MW G M d rc rs (pc + 1) L (.int (h.2.1 a i.toNatClampNeg) :: st) h r h') : MW G M d rc rs pc L (.int i :: .ref a :: st) h r h' := by
  intro p e R s m args below meth c H locs cells slots Q ls cx hP hS hl hc1 hc2 fin
  obtain ⟨-, q1⟩ := hP.1 a _ hs
  have hlt : i.toNatClampNeg < n := Nat.not_le.mp fun q => hin (Or.inr q)
  refine W.iald (v := .int (h.2.1 a i.toNatClampNeg)) cx.1 cx.2.1 q1 ((cx.2.2.2.2.2.1.2 0 _ rfl).1 n _) (fun q => by cases q) (by rw [arrV_size]; exact hin) (by rw [arrV_read _ _ hlt]; rfl) rfl rfl hd ?_
  exact kk p e R s m args below meth c H locs cells slots Q ls cx hP hS hl hc1 hc2 fin
theorem r_zald {a n : Nat} {i : Int32} (hd : decode M.2.1 pc = .ok (.baload, 1)) (hs : h.1[a]? = some (.inr (1, n))) (hin : vp_in i n) (kk : MW G M d rc rs (pc + 1) L (.int (h.2.1 a i.toNatClampNeg) :: st) h r h') : MW G M d rc rs pc L (.int i :: .ref a :: st) h r h' := by
  intro p e R s m args below meth c H locs cells slots Q ls cx hP hS hl hc1 hc2 fin
  obtain ⟨-, q1⟩ := hP.1 a _ hs
  have hlt : i.toNatClampNeg < n := Nat.not_le.mp fun q => hin (Or.inr q)
  refine W.zald (v := .int (h.2.1 a i.toNatClampNeg)) cx.1 cx.2.1 q1 ((cx.2.2.2.2.2.1.2 1 _ rfl).1 n _) (fun q => by cases q) (by rw [arrV_size]; exact hin) (by rw [arrV_read _ _ hlt]; rfl) rfl rfl hd ?_
  exact kk p e R s m args below meth c H locs cells slots Q ls cx hP hS hl hc1 hc2 fin
theorem m_av_i {G : mG} {ti k : Nat} {f : Nat → Int32} {r : Nat → Option Nat} {x : Int32} (h : ti < 2) : updV (m_av G ti f r) k (.int x) = m_av G ti (va_up f k x) r := by
  funext j
  unfold updV m_av
  rw [if_pos h, if_pos h]
  by_cases hj : j = k
  · subst hj; simp [va_up]
  · simp [va_up, hj]
theorem m_av_r {G : mG} {ti k b : Nat} {f : Nat → Int32} {r : Nat → Option Nat} (h : ¬ ti < 2) : updV (m_av G ti f r) k (.ref (m_ad G b)) = m_av G ti f (va_up r k (some b)) := by
  funext j
  unfold updV m_av
  rw [if_neg h, if_neg h]
  by_cases hj : j = k
  · subst hj; simp [va_up, va_rf]
  · simp [va_up, hj]
theorem m_Aa {G : mG} {h : mH} {H : Heap} (hP : m_P G h H) {a : Nat} {sh : mSh} (hs : h.1[a]? = some sh) : m_A G (m_ad G a) := by rw [(hP.lt hs).2.2]; exact Nat.le_add_right _ _
theorem r_iast {a n : Nat} {i x : Int32} (hd : decode M.2.1 pc = .ok (.iastore, 1)) (hs : h.1[a]? = some (.inr (0, n))) (hin : vp_in i n) (kk : MW G M d rc rs (pc + 1) L st (h.1, m_up h.2.1 a i.toNatClampNeg x, h.2.2) r h') : MW G M d rc rs pc L (.int x :: .int i :: .ref a :: st) h r h' := by
  intro p e R s m args below meth c H locs cells slots Q ls cx hP hS hl hc1 hc2 fin
  obtain ⟨-, q1⟩ := hP.1 a _ hs
  refine W.iast cx.1 cx.2.1 q1 ((cx.2.2.2.2.2.1.2 0 _ rfl).1 n _) (fun q => by cases q) (by rw [arrV_size]; exact hin) rfl rfl hd fun H1 x1 x2 x3 => ?_
  refine kk p e R s m args below meth c H1 _ cells slots Q ls cx ?_ (hS.put x2 x3 (m_Aa hP hs)) hl hc1 hc2 fin
  refine hP.set rfl (fun a' ha => ⟨m_up_ne _ _ _ ha, rfl⟩) hs ⟨by decide, ?_⟩ x2 x3
  rw [x1, arrV_store, m_av_i (by decide)]
  rw [show (h.1, m_up h.2.1 a i.toNatClampNeg x, h.2.2).2.1 a = va_up (h.2.1 a) i.toNatClampNeg x from m_up_same _ _ _ _]
theorem r_zast {a n : Nat} {i x : Int32} (hd : decode M.2.1 pc = .ok (.bastore, 1)) (hs : h.1[a]? = some (.inr (1, n))) (hin : vp_in i n) (hx : x = 0 ∨ x = 1) (kk : MW G M d rc rs (pc + 1) L st (h.1, m_up h.2.1 a i.toNatClampNeg x, h.2.2) r h') : MW G M d rc rs pc L (.int x :: .int i :: .ref a :: st) h r h' := by
  intro p e R s m args below meth c H locs cells slots Q ls cx hP hS hl hc1 hc2 fin
  obtain ⟨-, q1⟩ := hP.1 a _ hs
  have hnar : narrow .boolean (.int x) = .int x := by rcases hx with rfl | rfl <;> rfl
  refine W.zast cx.1 cx.2.1 q1 ((cx.2.2.2.2.2.1.2 1 _ rfl).1 n _) (fun q => by cases q) (by rw [arrV_size]; exact hin) rfl rfl hd fun H1 x1 x2 x3 => ?_
  refine kk p e R s m args below meth c H1 _ cells slots Q ls cx ?_ (hS.put x2 x3 (m_Aa hP hs)) hl hc1 hc2 fin
  refine hP.set rfl (fun a' ha => ⟨m_up_ne _ _ _ ha, rfl⟩) hs ⟨by decide, ?_⟩ x2 x3
  rw [x1, hnar, arrV_store, m_av_i (by decide)]
  rw [show (h.1, m_up h.2.1 a i.toNatClampNeg x, h.2.2).2.1 a = va_up (h.2.1 a) i.toNatClampNeg x from m_up_same _ _ _ _]
theorem m_ty_ti {ti : Nat} (h : ¬ ti < 2) (h5 : ti < 5) : (m_tys G)[ti]? = some (G.2.2.1 ti, m_at_ty ti) ∧ ∃ C, m_at_ty ti = .object C := by
  match ti, h, h5 with
  | 2, _, _ => exact ⟨rfl, _, rfl⟩
  | 3, _, _ => exact ⟨rfl, _, rfl⟩
  | 4, _, _ => exact ⟨rfl, _, rfl⟩
  | 0, h, _ => exact absurd (by decide) h
  | 1, h, _ => exact absurd (by decide) h
theorem r_aald {a n ti b : Nat} {i : Int32} (hd : decode M.2.1 pc = .ok (.aaload, 1)) (hti : ¬ ti < 2) (hs : h.1[a]? = some (.inr (ti, n))) (hin : vp_in i n) (hb : h.2.2 a i.toNatClampNeg = some b) (kk : MW G M d rc rs (pc + 1) L (.ref b :: st) h r h') : MW G M d rc rs pc L (.int i :: .ref a :: st) h r h' := by
  intro p e R s m args below meth c H locs cells slots Q ls cx hP hS hl hc1 hc2 fin
  obtain ⟨h5, q1⟩ := hP.1 a _ hs
  have hlt : i.toNatClampNeg < n := Nat.not_le.mp fun q => hin (Or.inr q)
  obtain ⟨t1, C, t2⟩ := m_ty_ti (G := G) hti h5
  refine W.aald (v := .ref (m_ad G b)) (ty := m_at_ty ti) cx.1 cx.2.1 q1 ((cx.2.2.2.2.2.1.2 ti _ t1).1 n _) (by rw [t2]; rfl) (fun q => by cases q) (by rw [arrV_size]; exact hin) (by rw [arrV_read _ _ hlt]; unfold m_av; rw [if_neg hti, hb]; rfl) rfl rfl hd ?_
  exact kk p e R s m args below meth c H locs cells slots Q ls cx hP hS hl hc1 hc2 fin
theorem r_aast {a n ti b ci : Nat} {i : Int32} (hd : decode M.2.1 pc = .ok (.aastore, 1)) (hti : ¬ ti < 2) (hs : h.1[a]? = some (.inr (ti, n))) (hb : h.1[b]? = some (.inl ci)) (htc : m_at_ty ti = .object (m_R ci)) (hin : vp_in i n) (kk : MW G M d rc rs (pc + 1) L st (h.1, h.2.1, m_up h.2.2 a i.toNatClampNeg (some b)) r h') : MW G M d rc rs pc L (.ref b :: .int i :: .ref a :: st) h r h' := by
  intro p e R s m args below meth c H locs cells slots Q ls cx hP hS hl hc1 hc2 fin
  obtain ⟨h5, q1⟩ := hP.1 a _ hs
  have hlt : i.toNatClampNeg < n := Nat.not_le.mp fun q => hin (Or.inr q)
  have h0 : ¬ i < 0 := fun q => hin (Or.inl q)
  obtain ⟨t1, -⟩ := m_ty_ti (G := G) hti h5
  obtain ⟨hci, cellV, g1, g2, g3, -⟩ := hP.1 b _ hb
  have hcls := (cx.2.2.2.2.2.1.1 ci _ (m_cl hci).1).2
  have hRA := (cx.2.2.2.2.2.1.2 ti _ t1).2
  rw [htc] at hRA
  obtain ⟨kA, comp, k1, k2, k3, -⟩ := hRA
  have hcomp : comp = G.2.1.1 ci := Option.some.inj (k3.symm.trans hcls.1)
  subst hcomp
  obtain ⟨kC, hkC, -⟩ := id hcls.2
  refine W.aast cx.1 cx.2.1 q1 (fun q h9 => by cases h9) (fun h9 => by cases h9) k1 k2 rfl hkC ⟨h0, by rw [arrV_size]; exact hlt⟩ g1 (fun q h9 => by rw [g3] at h9; cases h9) (by rw [g2]; exact hkC) (by rw [g2]; exact va_assign hcls) rfl rfl hd fun H1 x1 x2 x3 => ?_
  refine kk p e R s m args below meth c H1 _ cells slots Q ls cx ?_ (hS.put x2 x3 (m_Aa hP hs)) hl hc1 hc2 fin
  refine hP.set rfl (fun a' ha => ⟨rfl, m_up_ne _ _ _ ha⟩) hs ⟨h5, ?_⟩ x2 x3
  rw [x1, arrV_store, m_av_r hti]
  rw [show (h.1, h.2.1, m_up h.2.2 a i.toNatClampNeg (some b)).2.2 a = va_up (h.2.2 a) i.toNatClampNeg (some b) from m_up_same _ _ _ _]
end RMEM
end
section
/-! ===== rows of the small machine: new cells, calls, a contract out of a walk ===== -/
theorem m_good : m_tbl.all goodWord = true := List.all_eq_true.mpr fun _ h => (List.mem_filter.mp h).2
theorem m_goodIn {w : Cond} (hw : w ∈ m_tbl) : GoodIn m_tbl (w :: m_tbl) := by
  intro x hx
  have hx' : x ∈ m_tbl := by
    rcases List.mem_cons.mp hx with rfl | h
    · exact hw
    · exact h
  exact ⟨hx', good_of_word (List.all_eq_true.mp m_good x hx')⟩
/-- a method's own words, and how many parameters it has -/
def m_ML (M : mM) (n : Nat) : Prop := Cond.code M.1 M.2.1 M.2.2.1 M.2.2.2 ∈ m_tbl ∧ Cond.initialized M.1.cls ∈ m_tbl ∧ (M.1.cls ≠ "java/lang/invoke/MethodHandle" ∧ M.1.cls ≠ "java/lang/invoke/VarHandle" ∧ (parseMethodDescriptor M.1.desc).map (fun d => d.parameters.length) = some n) ∧ M.2.2.1 ≤ 20 ∧ plainFor M.1 = true
/-- a virtual call's link -/
def m_LV (own : String) (idx : Nat) (M : mM) (n : Nat) : Prop := m_ML M n ∧ Cond.methodLink own idx M.1 ∈ m_tbl ∧ Cond.instanceMethod M.1 ∈ m_tbl ∧ Cond.selects M.1.cls M.1 M.1 ∈ m_tbl
/-- a static call's link -/
def m_LS (own : String) (idx : Nat) (M : mM) (n : Nat) : Prop := m_ML M n ∧ Cond.static M.1 ∈ m_tbl ∧ (Cond.methodLink own idx M.1 ∈ m_tbl ∨ ∃ host, (own, idx, M.1, host) ∈ m_nst)
/-- a constructor call's link -/
def m_LI (own : String) (idx : Nat) (M : mM) (n : Nat) : Prop := m_ML M n ∧ M.1.name = "<init>" ∧ M.2.2.2 = none ∧ Cond.instanceMethod M.1 ∈ m_tbl ∧ (Cond.methodLink own idx M.1 ∈ m_tbl ∨ ∃ host, (own, idx, M.1, host) ∈ m_nst)
theorem m_sum (G : mG) : ∀ l : List Value, ((l.map (m_rv G)).map fun v => v.category).sum = l.length
  | [] => rfl
  | v :: l => by
    show (m_rv G v).category + ((l.map (m_rv G)).map fun v => v.category).sum = l.length + 1
    rw [m_sum G l, m_rv_c1]
    omega
theorem m_St.moved {G : mG} {u U : State} {H : Heap} (hvm : u.vm.Alike U.vm) (h : m_St G u H) : m_St G U H := ⟨h.1.moved hvm, h.2.moved hvm⟩
theorem m_St.kept {G : mG} {U : State} {H H1 : Heap} (h : m_St G U H) (hq : ∀ a : Nat, a < H.size → ¬ m_A G a → H1[a]? = H[a]?) : m_St G U H1 := ⟨h.1.kept hq, h.2.kept hq⟩
section RCALL
variable {G : mG} {M : mM} {d rc rs pc : Nat} {L st : List Value} {h h' : mH} {r : Option Value}
def m_Pc (G : mG) (av : List Value) (h : mH) : Array Value → State → Prop := va_Pc (av.map (m_rv G)) (fun U => va_K G.2.1 vwCl (m_tys G) U ∧ (m_St G U U.heap ∧ m_N U) ∧ m_P G h U.heap)
theorem m_blind (G : mG) (av : List Value) (h : mH) : FrameBlind (m_Pc G av h) := by
  intro a U g mk q
  obtain ⟨q0, qK, qS, qP⟩ := q
  exact ⟨q0, va_K.moved (u := U) (U := U.calling g mk a) (Vm.Alike.refl U.vm) qK, ⟨m_St.moved (u := U) (U := U.calling g mk a) (Vm.Alike.refl U.vm) qS.1, m_N.same (s := U) (U := U.calling g mk a) rfl qS.2⟩, qP⟩
theorem m_pre {p : Program} {R : Room} {s : State} {m : MethodId} {args : Array Value} {meth : Method} {c : Code} {H : Heap} {locs : List Loc} (cx : m_Cx G M d p R s m args meth c) (hP : m_P G h H) (hS : va_S (m_A G) s.heap H locs) (av : List Value) : ∀ U : State, U.heap = H → s.WarmedH U.vm → m_Pc G av h (av.map (m_rv G)).toArray U := by
  intro U hU hW
  refine ⟨rfl, va_K.moved hW.alike cx.2.2.2.2.2.1, ?_, by rw [hU]; exact hP⟩
  rw [hU]
  exact ⟨(cx.2.2.2.2.2.2.1.1.kept (fun a h1 h2 => hS.2.1 a h1 h2)).moved hW.alike, cx.2.2.2.2.2.2.1.2.warm hW⟩
theorem m_go {p : Program} {e : Env} {R : Room} {s : State} {m : MethodId} {args : Array Value} {below : List Frame} {meth : Method} {c : Code} {H : Heap} {locs : List Loc} {cells slots mc ms : Nat} {Q : State → Prop} {ls : Array Slot} {st0 rest : List Value} {r1 : Option Value} {h1 : mH}
    (hr : va_Run p G.1 e R s m args below meth c H locs cells slots mc ms (F0 m pc ls st0) (rest.map (m_rv G)) (fun st oc t => oc = .returned (r1.map (m_rv G)) ∧ m_P G h1 t.heap ∧ va_F (m_A G) st t) (m_A G)) (hS : va_S (m_A G) s.heap H locs)
    (kk : ∀ (H1 : Heap) (locs1 : List Loc), m_P G h1 H1 → va_S (m_A G) s.heap H1 locs1 → W p G.1 e R s m args below meth c H1 locs1 (cells + mc) (slots + ms) Q (F0 m (pc + 3) ls ((r1.toList ++ rest).map (m_rv G)))) : W p G.1 e R s m args below meth c H locs cells slots Q (F0 m pc ls st0) := by
  intro T hT X
  obtain ⟨v, st₀, t, T', L, h0, X', hL, e1, e2, ⟨hv, hP1, hz, hk⟩, st⟩ := hr T hT X
  have hv := Outcome.returned.inj hv
  subst hv
  rw [h0] at hz hk
  have hS1 : va_S (m_A G) s.heap T'.heap (locs ++ L) := ⟨Nat.le_trans hS.1 (by rw [e1]; exact hz), fun q h1 h2 => by rw [e1, hk q (Nat.lt_of_lt_of_le h1 hS.1) h2]; exact hS.2.1 q h1 h2, fun q hq => by
      rcases List.mem_append.mp hq with h | h
      · exact hS.2.2 q h
      · exact hL q h⟩
  obtain ⟨t2, a1, b1⟩ := kk T'.heap (locs ++ L) (by rw [e1]; exact hP1) hS1 T' rfl X'
  refine ⟨t2, st t2 ?_, b1⟩
  have e9 : (r1.map (m_rv G)).toList ++ rest.map (m_rv G) = (r1.toList ++ rest).map (m_rv G) := by cases r1 <;> rfl
  rw [← e9] at a1
  exact a1
theorem r_callV {M' : mM} {d' mc ms idx n ci b : Nat} {As rest : List Value} {r1 : Option Value} {h1 : mH} (hC : MC G M' d' mc ms (.ref b :: As) h r1 h1) (hd : decode M.2.1 pc = .ok (.invokevirtual idx, 3)) (hl : m_LV M.1.cls idx M' n) (hs : h.1[b]? = some (.inl ci)) (hcl : m_R ci = M'.1.cls) (hn : As.length = n) (hst : As.reverse ++ .ref b :: rest = st) (hr : rest.length ≤ 8) (hdd : d' + 1 ≤ d) (hrc : mc ≤ rc) (hrs : ms ≤ rs)
    (kk : MW G M d (rc - mc) (rs - ms) (pc + 3) L (r1.toList ++ rest) h1 r h') : MW G M d rc rs pc L st h r h' := by
  subst hst
  intro p e R s m args below meth c H locs cells slots Q ls cx hP hS hlv hc1 hc2 fin
  obtain ⟨⟨hcode, hini, hy, hmL, hpl⟩, hlk, hins, hsel⟩ := hl
  have hts := cx.2.2.2.2.1
  obtain ⟨hci, cellB, g1, g2, g3, -⟩ := hP.1 b _ hs
  have hcls := (cx.2.2.2.2.2.1.1 ci _ (m_cl hci).1).2
  have hfr : d ≤ R.frames := cx.2.2.2.2.2.2.2.2.1
  have hlo : 39 * d ≤ R.locals := cx.2.2.2.2.2.2.2.2.2.1
  have cw : CallW R s args M.1.cls M'.1.cls idx M'.1 M'.2.1 M'.2.2.1 M'.2.2.2 (Cond.code M'.1 M'.2.1 M'.2.2.1 M'.2.2.2 :: m_tbl) { frames := d', cells := mc, slots := ms, locals := 39 * d' } mc ms n :=
    ⟨callB_of n hts (m_goodIn hcode) rfl rfl rfl (hts _ hini) (hts _ hlk) hy ⟨by show d' + 1 ≤ R.frames; omega, by show 8 + (M'.2.2.1 + 11) + 39 * d' ≤ R.locals; omega⟩, hts _ hins, hts _ hsel⟩
  refine m_go (mc := mc) (ms := ms) (rest := rest) (r1 := r1) (h1 := h1) (va_runV (As := As.map (m_rv G)) (b := m_ad G b) ⟨cx.1, cx.2.1, cx.2.2.1, cx.2.2.2.1, hts⟩ hC cw ⟨m_blind G _ _, ⟨cellB, g1, by rw [g3]; rfl, by rw [← hcl, g2]; exact hcls.1⟩, m_pre cx hP hS (.ref b :: As)⟩ rfl (by rw [List.length_map]; exact hn) hlv.1 (by show List.map _ _ = _; rw [List.map_append, List.map_reverse]; rfl) (lv_room (by rw [m_sum]; exact hr)) hd ⟨by omega, by omega⟩) hS ?_
  intro H1 locs1 hP1 hS1
  exact kk p e R s m args below meth c H1 locs1 (cells + mc) (slots + ms) Q ls cx hP1 hS1 hlv (by omega) (by omega) (fun pc' ls' H' locs' cells' slots' f1 f2 f3 f4 f5 => fin pc' ls' H' locs' cells' slots' f1 f2 f3 (by omega) (by omega))
theorem r_callS {M' : mM} {d' mc ms idx n : Nat} {As rest : List Value} {r1 : Option Value} {h1 : mH} (hC : MC G M' d' mc ms As h r1 h1) (hd : decode M.2.1 pc = .ok (.invokestatic idx, 3)) (hl : m_LS M.1.cls idx M' n) (hn : As.length = n) (hst : As.reverse ++ rest = st) (hr : rest.length ≤ 8) (hdd : d' + 1 ≤ d) (hrc : mc ≤ rc) (hrs : ms ≤ rs)
    (kk : MW G M d (rc - mc) (rs - ms) (pc + 3) L (r1.toList ++ rest) h1 r h') : MW G M d rc rs pc L st h r h' := by
  subst hst
  intro p e R s m args below meth c H locs cells slots Q ls cx hP hS hlv hc1 hc2 fin
  obtain ⟨⟨hcode, hini, hy, hmL, hpl⟩, hsta, hlk⟩ := hl
  have hts := cx.2.2.2.2.1
  have hfr : d ≤ R.frames := cx.2.2.2.2.2.2.2.2.1
  have hlo : 39 * d ≤ R.locals := cx.2.2.2.2.2.2.2.2.2.1
  have hRm : ({ frames := d', cells := mc, slots := ms, locals := 39 * d' } : Room).frames + 1 ≤ R.frames ∧ 8 + (M'.2.2.1 + 11) + ({ frames := d', cells := mc, slots := ms, locals := 39 * d' } : Room).locals ≤ R.locals := ⟨by show d' + 1 ≤ R.frames; omega, by show 8 + (M'.2.2.1 + 11) + 39 * d' ≤ R.locals; omega⟩
  have hrun : va_Run p G.1 e R s m args below meth c H locs cells slots mc ms (F0 m pc ls ((As.reverse ++ rest).map (m_rv G))) (rest.map (m_rv G)) (fun st oc t => oc = .returned (r1.map (m_rv G)) ∧ m_P G h1 t.heap ∧ va_F (m_A G) st t) (m_A G) := by
    rcases hlk with hlk | ⟨host, hlk⟩
    · exact va_runS (As := As.map (m_rv G)) ⟨cx.1, cx.2.1, cx.2.2.1, cx.2.2.2.1, hts⟩ hC ⟨callB_of n hts (m_goodIn hcode) rfl rfl rfl (hts _ hini) (hts _ hlk) hy hRm, hts _ hsta⟩ ⟨m_blind G _ _, m_pre cx hP hS As⟩ rfl (by rw [List.length_map]; exact hn) hlv.1 (by show List.map _ _ = _; rw [List.map_append, List.map_reverse]) (lv_room (by rw [m_sum]; exact hr)) hd ⟨by omega, by omega⟩
    · exact va_runSN (As := As.map (m_rv G)) ⟨cx.1, cx.2.1, cx.2.2.1, cx.2.2.2.1, hts⟩ hC ⟨va_cnB n hts (m_goodIn hcode) rfl rfl rfl (cx.2.2.2.2.2.2.1.2.1 _ hlk) (hts _ hini) hy hRm, hts _ hsta, trivial⟩ ⟨m_blind G _ _, m_pre cx hP hS As⟩ rfl (by rw [List.length_map]; exact hn) hlv.1 (by show List.map _ _ = _; rw [List.map_append, List.map_reverse]) (lv_room (by rw [m_sum]; exact hr)) hd ⟨by omega, by omega⟩
  refine m_go (mc := mc) (ms := ms) (rest := rest) (r1 := r1) (h1 := h1) hrun hS ?_
  intro H1 locs1 hP1 hS1
  exact kk p e R s m args below meth c H1 locs1 (cells + mc) (slots + ms) Q ls cx hP1 hS1 hlv (by omega) (by omega) (fun pc' ls' H' locs' cells' slots' f1 f2 f3 f4 f5 => fin pc' ls' H' locs' cells' slots' f1 f2 f3 (by omega) (by omega))
theorem r_callI {M' : mM} {d' mc ms idx n b : Nat} {As rest : List Value} {r1 : Option Value} {h1 : mH} (hC : MC G M' d' mc ms (.ref b :: As) h r1 h1) (hd : decode M.2.1 pc = .ok (.invokespecial idx, 3)) (hl : m_LI M.1.cls idx M' n) (hn : As.length = n) (hst : As.reverse ++ .ref b :: rest = st) (hr : rest.length ≤ 8) (hdd : d' + 1 ≤ d) (hrc : mc ≤ rc) (hrs : ms ≤ rs)
    (kk : MW G M d (rc - mc) (rs - ms) (pc + 3) L (r1.toList ++ rest) h1 r h') : MW G M d rc rs pc L st h r h' := by
  subst hst
  intro p e R s m args below meth c H locs cells slots Q ls cx hP hS hlv hc1 hc2 fin
  obtain ⟨⟨hcode, hini, hy, hmL, hpl⟩, hnm, hret, hins, hlk⟩ := hl
  have hts := cx.2.2.2.2.1
  have hfr : d ≤ R.frames := cx.2.2.2.2.2.2.2.2.1
  have hlo : 39 * d ≤ R.locals := cx.2.2.2.2.2.2.2.2.2.1
  rw [hret] at hcode
  unfold MC at hC
  rw [hret] at hC
  have hRm : ({ frames := d', cells := mc, slots := ms, locals := 39 * d' } : Room).frames + 1 ≤ R.frames ∧ 8 + (M'.2.2.1 + 11) + ({ frames := d', cells := mc, slots := ms, locals := 39 * d' } : Room).locals ≤ R.locals := ⟨by show d' + 1 ≤ R.frames; omega, by show 8 + (M'.2.2.1 + 11) + 39 * d' ≤ R.locals; omega⟩
  have hrun : va_Run p G.1 e R s m args below meth c H locs cells slots mc ms (F0 m pc ls ((As.reverse ++ .ref b :: rest).map (m_rv G))) (rest.map (m_rv G)) (fun st oc t => oc = .returned (r1.map (m_rv G)) ∧ m_P G h1 t.heap ∧ va_F (m_A G) st t) (m_A G) := by
    rcases hlk with hlk | ⟨host, hlk⟩
    · exact va_runI (As := As.map (m_rv G)) (b := m_ad G b) ⟨cx.1, cx.2.1, cx.2.2.1, cx.2.2.2.1, hts⟩ hC (cwI n hts (m_goodIn hcode) rfl rfl rfl (hts _ hini) (hts _ hlk) (hts _ hins) hnm hy hRm) ⟨m_blind G _ _, m_pre cx hP hS (.ref b :: As)⟩ rfl (by rw [List.length_map]; exact hn) hlv.1 (by show List.map _ _ = _; rw [List.map_append, List.map_reverse]; rfl) (lv_room (by rw [m_sum]; exact hr)) hd ⟨by omega, by omega⟩
    · exact va_runIN (As := As.map (m_rv G)) (b := m_ad G b) ⟨cx.1, cx.2.1, cx.2.2.1, cx.2.2.2.1, hts⟩ hC ⟨va_cnB n hts (m_goodIn hcode) rfl rfl rfl (cx.2.2.2.2.2.2.1.2.1 _ hlk) (hts _ hini) hy hRm, hnm, hts _ hins⟩ ⟨m_blind G _ _, m_pre cx hP hS (.ref b :: As)⟩ rfl (by rw [List.length_map]; exact hn) hlv.1 (by show List.map _ _ = _; rw [List.map_append, List.map_reverse]; rfl) (lv_room (by rw [m_sum]; exact hr)) hd ⟨by omega, by omega⟩
  refine m_go (mc := mc) (ms := ms) (rest := rest) (r1 := r1) (h1 := h1) hrun hS ?_
  intro H1 locs1 hP1 hS1
  exact kk p e R s m args below meth c H1 locs1 (cells + mc) (slots + ms) Q ls cx hP1 hS1 hlv (by omega) (by omega) (fun pc' ls' H' locs' cells' slots' f1 f2 f3 f4 f5 => fin pc' ls' H' locs' cells' slots' f1 f2 f3 (by omega) (by omega))
/-- Object.<init> -/
theorem r_obj {idx a : Nat} (hd : decode M.2.1 pc = .ok (.invokespecial idx, 3)) (h1 : Cond.methodLink M.1.cls idx Lib.objectInit ∈ m_tbl) (h2 : Cond.instanceMethod Lib.objectInit ∈ m_tbl) (h3 : Cond.code Lib.objectInit ⟨#[0xb1]⟩ 1 none ∈ m_tbl) (hr : st.length ≤ 8) (hdd : 1 ≤ d) (kk : MW G M d rc rs (pc + 3) L st h r h') : MW G M d rc rs pc L (.ref a :: st) h r h' := by
  intro p e R s m args below meth c H locs cells slots Q ls cx hP hS hlv hc1 hc2 fin
  have hts := cx.2.2.2.2.1
  have hfr : d ≤ R.frames := cx.2.2.2.2.2.2.2.2.1
  have hlo : 39 * d ≤ R.locals := cx.2.2.2.2.2.2.2.2.2.1
  refine W.objInit cx.1 cx.2.1 cx.2.2.2.1 (hts _ h1) (hts _ h2) (hts _ h3) rfl (hlv.1.trans cx.2.2.1.symm) rfl hd (by omega) (by show 2 * 0 + _ + 12 ≤ _; rw [m_sum]; omega) ?_
  exact kk p e R s m args below meth c H locs cells slots Q ls cx hP hS hlv hc1 hc2 fin
theorem r_min {idx : Nat} {x y : Int32} (hd : decode M.2.1 pc = .ok (.invokestatic idx, 3)) (h1 : Cond.methodLink M.1.cls idx Lib.Math.min.name ∈ m_tbl) (h2 : Cond.static Lib.Math.min.name ∈ m_tbl) (h3 : Cond.initialized "java/lang/Math" ∈ m_tbl) (h4 : Cond.code Lib.Math.min.name Lib.Math.min.code 2 (some .int) ∈ m_tbl) (hr : st.length ≤ 8) (hdd : 1 ≤ d) (kk : MW G M d rc rs (pc + 3) L (.int (if y < x then y else x) :: st) h r h') : MW G M d rc rs pc L (.int y :: .int x :: st) h r h' := by
  intro p e R s m args below meth c H locs cells slots Q ls cx hP hS hlv hc1 hc2 fin
  have hts := cx.2.2.2.2.1
  have hfr : d ≤ R.frames := cx.2.2.2.2.2.2.2.2.1
  have hlo : 39 * d ≤ R.locals := cx.2.2.2.2.2.2.2.2.2.1
  refine va_mmin cx.1 cx.2.1 (cx.2.2.1.trans hlv.1.symm) cx.2.2.2.1 (hts _ h1) (hts _ h2) (hts _ h3) (hts _ h4) (by omega) (by rw [m_sum]; omega) (by omega) (by omega) hd ?_
  exact kk p e R s m args below meth c H locs cells slots Q ls cx hP hS hlv hc1 hc2 fin
theorem r_abs {idx : Nat} {x : Int32} (hd : decode M.2.1 pc = .ok (.invokestatic idx, 3)) (h1 : Cond.methodLink M.1.cls idx Lib.Math.abs.name ∈ m_tbl) (h2 : Cond.static Lib.Math.abs.name ∈ m_tbl) (h3 : Cond.initialized "java/lang/Math" ∈ m_tbl) (h4 : Cond.code Lib.Math.abs.name Lib.Math.abs.code 1 (some .int) ∈ m_tbl) (hr : st.length ≤ 8) (hdd : 1 ≤ d) (kk : MW G M d rc rs (pc + 3) L (.int (if 0 ≤ x then x else 0 - x) :: st) h r h') : MW G M d rc rs pc L (.int x :: st) h r h' := by
  intro p e R s m args below meth c H locs cells slots Q ls cx hP hS hlv hc1 hc2 fin
  have hts := cx.2.2.2.2.1
  have hfr : d ≤ R.frames := cx.2.2.2.2.2.2.2.2.1
  have hlo : 39 * d ≤ R.locals := cx.2.2.2.2.2.2.2.2.2.1
  refine va_mabs cx.1 cx.2.1 (cx.2.2.1.trans hlv.1.symm) cx.2.2.2.1 (hts _ h1) (hts _ h2) (hts _ h3) (hts _ h4) (by omega) (by rw [m_sum]; omega) (by omega) (by omega) hd ?_
  exact kk p e R s m args below meth c H locs cells slots Q ls cx hP hS hlv hc1 hc2 fin
/-- the static row of widths: it is the cell 1000001 -/
theorem r_gets {idx : Nat} (hd : decode M.2.1 pc = .ok (.getstatic idx, 3)) (hw : Cond.fieldLink M.1.cls idx "MaskedCopies$WidthSearch" "WIDTHS" "[I" ∈ m_tbl) (kk : MW G M d rc rs (pc + 3) L (.ref 1000001 :: st) h r h') : MW G M d rc rs pc L st h r h' := by
  intro p e R s m args below meth c H locs cells slots Q ls cx hP hS hlv hc1 hc2 fin
  refine va_gets cx.1 cx.2.1 cx.2.2.2.2.2.2.1.1.1 hS cx.2.2.2.1 (cx.2.2.2.2.1 _ hw) (fun _ h9 => h9) hd ?_
  exact kk p e R s m args below meth c H locs cells slots Q ls cx hP hS hlv hc1 hc2 fin
theorem r_wald {i : Int32} (hd : decode M.2.1 pc = .ok (.iaload, 1)) (hin : vp_in i 4) (kk : MW G M d rc rs (pc + 1) L (.int (m_wid i.toNatClampNeg) :: st) h r h') : MW G M d rc rs pc L (.int i :: .ref 1000001 :: st) h r h' := by
  intro p e R s m args below meth c H locs cells slots Q ls cx hP hS hlv hc1 hc2 fin
  refine va_ti cx.1 cx.2.1 cx.2.2.2.2.2.2.1.1.2 hS hin rfl hd ?_
  exact kk p e R s m args below meth c H locs cells slots Q ls cx hP hS hlv hc1 hc2 fin
/-- what a method may return -/
def m_okR (ret : Option FieldType) (r : Option Value) : Prop := match ret with
  | none => r = none
  | some .int => ∃ x : Int32, r = some (.int x)
  | some .boolean => r = some (.int 0) ∨ r = some (.int 1)
  | some (.object _) => r = some .null ∨ ∃ a, r = some (.ref a)
  | _ => False
theorem m_args {G : mG} : ∀ (av : List Value) (n k : Nat) (q : Nat × Value), q ∈ m_lv G n (av ++ List.replicate k (.retAddr 0)) → q ∈ lv_args n (av.map (m_rv G))
  | [], n, k, q, h => by
    obtain ⟨i, v, e1, e2, -⟩ := m_lv_mem _ _ _ h
    rw [List.nil_append] at e1
    have := (List.eq_of_mem_replicate (List.mem_of_getElem? e1))
    exact absurd this (e2 0)
  | v :: av, n, k, q, h => by
    have key : q = (n, m_rv G v) ∨ q ∈ m_lv G (n + 1) (av ++ List.replicate k (.retAddr 0)) := by
      cases v with
      | retAddr z => exact Or.inr h
      | _ => exact List.mem_cons.mp h
    show q ∈ (n, m_rv G v) :: lv_args (if (m_rv G v).category = 2 then n + 2 else n + 1) (av.map (m_rv G))
    rw [m_rv_c1, if_neg (by decide)]
    rcases key with h1 | h1
    · rw [h1]; exact List.mem_cons_self
    · exact List.mem_cons_of_mem _ (m_args av (n + 1) k q h1)
theorem m_sl {G : mG} : ∀ (av : List Value), (lg_sl (av.map (m_rv G))).length = av.length
  | [] => rfl
  | v :: av => by
    show ((if (m_rv G v).category = 2 then [Slot.val (m_rv G v), .second] else [.val (m_rv G v)]) ++ lg_sl (av.map (m_rv G))).length = av.length + 1
    rw [m_rv_c1, if_neg (by decide), List.length_append, m_sl av]
    show 1 + _ = _
    omega
/-- a contract out of the walk of the body -/
theorem MC_intro {mc ms n : Nat} {av : List Value} (hM : m_ML M n) (hav : av.length ≤ M.2.2.1) (hr : m_okR M.2.2.2 r) (hL : av ++ List.replicate (M.2.2.1 - av.length) (.retAddr 0) = L) (hB : True) (kk : MW G M d mc ms 0 L [] h r h') : MC G M d mc ms av h r h' := by
  subst hL
  refine va_MetF (cc := M.2.1) (maxL := M.2.2.1) (ret := M.2.2.2) hM.2.2.2.2 rfl ?_
  intro p e s m args below meth c s₁ B hml hv
  obtain ⟨rfl, hK, hSt, hP⟩ := hv
  have hr2 := B.returns
  have hts0 := atoms_spec (ws := Cond.code M.1 M.2.1 M.2.2.1 M.2.2.2 :: m_tbl) B.pre
  have hts : ∀ w ∈ m_tbl, w.before (av.map (m_rv G)).toArray s = true := fun w hw => hts0 w (List.mem_cons_of_mem _ hw)
  have hown : s.vm.findClass M.1.cls = some m.cls := findClass_of_methodNamed B.named
  have hlocks := B.notSynchronized
  have hnm : meth.name = M.1.name := (name_of_methodNamed B.named B.method).1
  have hl := lv_entry (av.map (m_rv G)) (n := M.2.2.1) (by rw [m_sl]; exact hav)
  rw [lg_entry_eq]
  generalize (lg_sl (av.map (m_rv G)) ++ List.replicate (M.2.2.1 - (lg_sl (av.map (m_rv G))).length) Slot.unset).toArray = ls at hl ⊢
  have hl2 : lv_has ls M.2.2.1 (m_lv G 0 (av ++ List.replicate (M.2.2.1 - av.length) (.retAddr 0))) := ⟨hl.1, hl.2.1, fun q hq => hl.2.2 q (m_args av 0 _ q hq)⟩
  have hsz : G.2.2.2.1 ≤ s.heap.size := by rw [hP.2.1]; exact Nat.le_add_right _ _
  refine kk p e _ s m _ below meth c s.heap [] 0 0 _ ls ⟨B.exec, B.bytes, hml, hown, hts, hK, hSt, hsz, Nat.le_refl _, Nat.le_refl _, hnm⟩ hP va_S.rf hl2 (by show 0 + mc ≤ mc; omega) (by show 0 + ms ≤ ms; omega) ?_
  intro pc' ls' H' locs' cells' slots' hd hP' hS' hc hs
  refine W.widen (k := mc) (n := ms) (by omega) (by omega) ?_
  have hq : ∀ t : State, t.heap = H' → s.WarmedH t.vm → (.returned (r.map (m_rv G)) : Outcome) = .returned (r.map (m_rv G)) ∧ m_P G h' t.heap ∧ va_F (m_A G) s t := fun t ht _ => ⟨rfl, by rw [ht]; exact hP', hS'.F ht⟩
  obtain ⟨y, bb, mL, ret⟩ := M
  dsimp only at hr hr2 hd hq ⊢
  match ret, hr, hr2, hd with
  | none, hr, hr2, hd =>
    subst hr
    exact W.vret B.exec B.bytes hr2 hq hS'.2.2 hd
  | some .int, hr, hr2, hd =>
    obtain ⟨x, rfl⟩ := hr
    exact W.iret B.exec B.bytes hr2 hq hS'.2.2 hd
  | some .boolean, hr, hr2, hd =>
    rcases hr with rfl | rfl
    · exact W.zret B.exec B.bytes hr2 rfl hq hS'.2.2 hd
    · exact W.zret B.exec B.bytes hr2 rfl hq hS'.2.2 hd
  | some (.object C), hr, hr2, hd =>
    rcases hr with rfl | ⟨a, rfl⟩
    · exact W.aret B.exec B.bytes hr2 (Or.inl ⟨_, rfl⟩) (Or.inl rfl) hq hS'.2.2 hd
    · exact W.aret B.exec B.bytes hr2 (Or.inl ⟨_, rfl⟩) (Or.inr ⟨_, rfl⟩) hq hS'.2.2 hd
end RCALL
end
section
/-! ===== rows of the small machine: new cells ===== -/
def m_new (h : mH) (sh : mSh) : mH := (h.1 ++ [sh], va_up h.2.1 h.1.length (fun _ => 0), va_up h.2.2 h.1.length (fun _ => none))
def m_okT (ci : Nat) : Bool := (List.range (m_nF ci)).all (fun k => decide (m_ty ci k = .int) || decide (m_ty ci k = .boolean) || (m_ty ci k).isReference)
theorem m_okT_all : (List.range 8).all m_okT = true := by decide +kernel
theorem m_dflt {G : mG} {ci k : Nat} (hci : ci < 8) (hk : k < m_nF ci) : defaultValue (m_ty ci k) = m_fv G ci (fun _ => 0) (fun _ => none) k := by
  have h1 := List.all_eq_true.mp m_okT_all ci (List.mem_range.mpr hci)
  have h2 := List.all_eq_true.mp h1 k (List.mem_range.mpr hk)
  unfold m_fv
  generalize m_ty ci k = t at h2 ⊢
  cases t <;> first | rfl | (exact absurd h2 (by decide))
theorem m_P.push {G : mG} {h : mH} {H H1 : Heap} {sh : mSh} (hP : m_P G h H) (hlen : h.1.length + 1 ≤ 1000) (z : H1.size = H.size + 1) (oq : ∀ q, q < H.size → H1[q]? = H[q]?) (hat : m_at G sh (fun _ => 0) (fun _ => none) h.1.length H1) : m_P G (m_new h sh) H1 := by
  refine ⟨fun a sh' hs' => ?_, ?_, ?_⟩
  · by_cases ha : a < h.1.length
    · have hs2 : h.1[a]? = some sh' := by
        have h9 : (h.1 ++ [sh])[a]? = some sh' := hs'
        rwa [List.getElem?_append_left ha] at h9
      show m_at G sh' (va_up h.2.1 h.1.length (fun _ => 0) a) (va_up h.2.2 h.1.length (fun _ => none) a) a H1
      rw [va_up_ne _ _ (Nat.ne_of_lt ha), va_up_ne _ _ (Nat.ne_of_lt ha)]
      refine (hP.1 a sh' hs2).kept (oq _ ?_)
      rw [(hP.lt hs2).2.2, hP.2.1]
      omega
    · have h9 : (h.1 ++ [sh])[a]? = some sh' := hs'
      rw [List.getElem?_append_right (by omega)] at h9
      have hz : a - h.1.length < 1 := (List.getElem?_eq_some_iff.mp h9).1
      have ha0 : a = h.1.length := by omega
      subst ha0
      rw [Nat.sub_self] at h9
      cases h9
      show m_at G sh (va_up h.2.1 h.1.length (fun _ => 0) h.1.length) (va_up h.2.2 h.1.length (fun _ => none) h.1.length) h.1.length H1
      rw [va_up_self, va_up_self]
      exact hat
  · show H1.size = _ + (h.1 ++ [sh]).length
    rw [z, hP.2.1, List.length_append]
    rfl
  · show (h.1 ++ [sh]).length ≤ 1000
    rw [List.length_append]
    exact hlen
theorem m_P.next {G : mG} {h : mH} {H : Heap} (hP : m_P G h H) (hlen : h.1.length + 1 ≤ 1000) : m_ad G h.1.length = H.size := by rw [m_A_ad (by omega), hP.2.1]
theorem va_S.grow {A : Nat → Prop} {H0 H H1 : Heap} {locs : List Loc} (h : va_S A H0 H locs) (z : H1.size = H.size + 1) (oq : ∀ q, q < H.size → H1[q]? = H[q]?) : va_S A H0 H1 locs :=
  ⟨Nat.le_trans h.1 (by omega), fun q h1 h2 => (oq q (Nat.lt_of_lt_of_le h1 h.1)).trans (h.2.1 q h1 h2), h.2.2⟩
section RNEW
variable {G : mG} {M : mM} {d rc rs pc : Nat} {L st : List Value} {h h' : mH} {r : Option Value}
theorem r_new {idx ci : Nat} (hd : decode M.2.1 pc = .ok (.new idx, 3)) (hci : ci < 8) (h1 : Cond.classLink M.1.cls idx (m_R ci) ∈ m_tbl) (h2 : Cond.instantiable (m_R ci) (m_nF ci) ∈ m_tbl) (h3 : Cond.initialized (m_R ci) ∈ m_tbl) (hlen : h.1.length + 1 ≤ 1000) (hrc : 1 ≤ rc) (hrs : m_nF ci ≤ rs) (kk : MW G M d (rc - 1) (rs - m_nF ci) (pc + 3) L (.ref h.1.length :: st) (m_new h (.inl ci)) r h') : MW G M d rc rs pc L st h r h' := by
  intro p e R s m args below meth c H locs cells slots Q ls cx hP hS hl hc1 hc2 fin
  have hts := cx.2.2.2.2.1
  obtain ⟨hc, hin, hty, hnm⟩ := m_cl hci
  have hKn := cx.2.2.2.2.2.1.1 ci _ hc
  refine W.newcK (n := m_nF ci) cx.1 cx.2.1 cx.2.2.2.1 (hts _ h1) (hts _ h2) (hts _ h3) rfl hd (by omega) (by omega) hKn.2.1 rfl fun H1 kC hkC e1 z1 o1 => ?_
  have hat : m_at G (.inl ci) (fun _ => 0) (fun _ => none) h.1.length H1 := by
    refine ⟨hci, ?_⟩
    rw [hP.next hlen]
    exact (u_born (m_ty ci) hts hin hKn hkC e1 hty).to (fun k hk => m_dflt hci hk)
  have h9 := kk p e R s m args below meth c H1 locs (cells + 1) (slots + m_nF ci) Q ls cx (hP.push hlen z1 o1 hat) (hS.grow z1 o1) hl (by omega) (by omega) (fun pc' ls' H' locs' cells' slots' f1 f2 f3 f4 f5 => fin pc' ls' H' locs' cells' slots' f1 f2 f3 (by omega) (by omega))
  rw [← hP.next hlen]
  exact h9
theorem r_newa {ti N : Nat} {n : Int32} {atype : ArrayType} (hd : decode M.2.1 pc = .ok (.newarray atype, 2)) (hti : ti < 2) (hat0 : newarray.typeOf atype = m_at_ty ti) (h1 : Cond.arrayClass (m_at_ty ti) ∈ m_tbl) (hn : ¬ n < 0) (hN : n.toNatClampNeg = N) (hN2 : N ≤ 1000) (hlen : h.1.length + 1 ≤ 1000) (hrc : 1 ≤ rc) (hrs : N ≤ rs) (kk : MW G M d (rc - 1) (rs - N) (pc + 2) L (.ref h.1.length :: st) (m_new h (.inr (ti, N))) r h') : MW G M d rc rs pc L (.int n :: st) h r h' := by
  intro p e R s m args below meth c H locs cells slots Q ls cx hP hS hl hc1 hc2 fin
  have hts := cx.2.2.2.2.1
  have hb : N * componentBytes (newarray.typeOf atype) ≤ 536870912 := by
    rw [hat0]
    match ti, hti with
    | 0, _ => show N * 4 ≤ _; omega
    | 1, _ => show N * 1 ≤ _; omega
  refine va_newaK cx.1 cx.2.1 (by rw [hat0]; exact hts _ h1) rfl hd rfl hn hN hb (by omega) (by omega) rfl fun H1 cA e1 z1 o1 hAr hNm => ?_
  have hcA : cA = G.2.2.1 ti ∧ (fun _ : Nat => defaultValue (newarray.typeOf atype)) = m_av G ti (fun _ => 0) (fun _ => none) := by
    rw [hat0] at hNm ⊢
    match ti, hti with
    | 0, _ => exact ⟨Option.some.inj (hNm.symm.trans (cx.2.2.2.2.2.1.2 0 _ rfl).2), rfl⟩
    | 1, _ => exact ⟨Option.some.inj (hNm.symm.trans (cx.2.2.2.2.2.1.2 1 _ rfl).2), rfl⟩
  have hat : m_at G (.inr (ti, N)) (fun _ => 0) (fun _ => none) h.1.length H1 := by
    refine ⟨by omega, ?_⟩
    rw [hP.next hlen, ← hcA.2, ← hcA.1]
    exact e1
  have h9 := kk p e R s m args below meth c H1 locs (cells + 1) (slots + N) Q ls cx (hP.push hlen z1 o1 hat) (hS.grow z1 o1) hl (by omega) (by omega) (fun pc' ls' H' locs' cells' slots' f1 f2 f3 f4 f5 => fin pc' ls' H' locs' cells' slots' f1 f2 f3 (by omega) (by omega))
  rw [← hP.next hlen]
  exact h9
theorem r_newq {ti N idx : Nat} {n : Int32} {C : String} (hd : decode M.2.1 pc = .ok (.anewarray idx, 3)) (hti : ¬ ti < 2) (h5 : ti < 5) (hC : m_at_ty ti = .object C) (h1 : Cond.classLink M.1.cls idx C ∈ m_tbl) (h2 : C ∈ [RX0, RX3, RX4]) (hn : ¬ n < 0) (hN : n.toNatClampNeg = N) (hN2 : N ≤ 1000) (hlen : h.1.length + 1 ≤ 1000) (hrc : 1 ≤ rc) (hrs : N ≤ rs) (kk : MW G M d (rc - 1) (rs - N) (pc + 3) L (.ref h.1.length :: st) (m_new h (.inr (ti, N))) r h') : MW G M d rc rs pc L (.int n :: st) h r h' := by
  subst hN
  intro p e R s m args below meth c H locs cells slots Q ls cx hP hS hl hc1 hc2 fin
  have hts := cx.2.2.2.2.1
  refine W.anew cx.1 cx.2.1 cx.2.2.2.1 (hts _ h1) (va_AO.use (cx.2.2.2.2.2.2.1.2.2 C h2)) rfl hd rfl hn (by omega) (by omega) (by omega) fun cA kA comp f1 f2 f3 f4 => ?_
  generalize hH1 : H.push ({ cls := cA, slots := Array.replicate n.toNatClampNeg .null, vm := .none } : Cell) = H1
  have z1 : H1.size = H.size + 1 := by rw [← hH1, Array.size_push]
  have e1 : H1[H.size]? = some (arrV cA n.toNatClampNeg (fun _ => .null)) := by rw [← hH1, Array.getElem?_push_size, ← arrV_new]
  have o1 : ∀ q : Nat, q < H.size → H1[q]? = H[q]? := fun q hq => by rw [← hH1, Array.getElem?_push, if_neg (Nat.ne_of_lt hq)]
  have hRA := (cx.2.2.2.2.2.1.2 ti _ (m_ty_ti (G := G) hti h5).1).2
  rw [hC] at hRA
  obtain ⟨kA', comp', k1, k2, k3, k4⟩ := hRA
  have hcA : cA = G.2.2.1 ti := Option.some.inj (f1.symm.trans k4)
  have hav : (fun _ : Nat => Value.null) = m_av G ti (fun _ => 0) (fun _ => none) := by
    funext j
    unfold m_av
    rw [if_neg hti]
    rfl
  have hat : m_at G (.inr (ti, n.toNatClampNeg)) (fun _ => 0) (fun _ => none) h.1.length H1 := by
    refine ⟨h5, ?_⟩
    rw [hP.next hlen, ← hav, ← hcA]
    exact e1
  have h9 := kk p e R s m args below meth c H1 locs (cells + 1) (slots + n.toNatClampNeg) Q ls cx (hP.push hlen z1 o1 hat) (hS.grow z1 o1) hl (by omega) (by omega) (fun pc' ls' H' locs' cells' slots' f1 f2 f3 f4 f5 => fin pc' ls' H' locs' cells' slots' f1 f2 f3 (by omega) (by omega))
  rw [← hP.next hlen]
  exact h9
end RNEW
end
section
/-! ===== heads, words, links (written by wip/whole/mklinks.py) ===== -/
abbrev mX6_init : mM := (yX6_init, cX6_init, 2, none)
set_option maxRecDepth 100000 in
theorem mlX6_init : m_ML mX6_init 0 := ⟨m_mem 74 rfl rfl, m_mem 60 rfl rfl, by decide +kernel, by decide, by decide +kernel⟩
abbrev mX6_table : mM := (yX6_table, cX6_table, 1, some .int)
set_option maxRecDepth 100000 in
theorem mlX6_table : m_ML mX6_table 0 := ⟨m_mem 271 rfl rfl, m_mem 60 rfl rfl, by decide +kernel, by decide, by decide +kernel⟩
abbrev mX6_column : mM := (yX6_column, cX6_column, 5, some .int)
set_option maxRecDepth 100000 in
theorem mlX6_column : m_ML mX6_column 3 := ⟨m_mem 275 rfl rfl, m_mem 60 rfl rfl, by decide +kernel, by decide, by decide +kernel⟩
abbrev mX6_cell : mM := (yX6_cell, cX6_cell, 2, some .int)
set_option maxRecDepth 100000 in
theorem mlX6_cell : m_ML mX6_cell 1 := ⟨m_mem 287 rfl rfl, m_mem 60 rfl rfl, by decide +kernel, by decide, by decide +kernel⟩
abbrev mX6_row : mM := (yX6_row, cX6_row, 5, some .int)
set_option maxRecDepth 100000 in
theorem mlX6_row : m_ML mX6_row 1 := ⟨m_mem 291 rfl rfl, m_mem 60 rfl rfl, by decide +kernel, by decide, by decide +kernel⟩
abbrev mX6_wipe : mM := (yX6_wipe, cX6_wipe, 2, some .int)
set_option maxRecDepth 100000 in
theorem mlX6_wipe : m_ML mX6_wipe 0 := ⟨m_mem 334 rfl rfl, m_mem 60 rfl rfl, by decide +kernel, by decide, by decide +kernel⟩
abbrev mX6_owner : mM := (yX6_owner, cX6_owner, 6, some .int)
set_option maxRecDepth 100000 in
theorem mlX6_owner : m_ML mX6_owner 2 := ⟨m_mem 338 rfl rfl, m_mem 60 rfl rfl, by decide +kernel, by decide, by decide +kernel⟩
abbrev mX6_mask : mM := (yX6_mask, cX6_mask, 6, some .int)
set_option maxRecDepth 100000 in
theorem mlX6_mask : m_ML mX6_mask 4 := ⟨m_mem 346 rfl rfl, m_mem 60 rfl rfl, by decide +kernel, by decide, by decide +kernel⟩
abbrev mX6_dial : mM := (yX6_dial, cX6_dial, 8, some .int)
set_option maxRecDepth 100000 in
theorem mlX6_dial : m_ML mX6_dial 5 := ⟨m_mem 356 rfl rfl, m_mem 60 rfl rfl, by decide +kernel, by decide, by decide +kernel⟩
abbrev mX6_seed : mM := (yX6_seed, cX6_seed, 3, some .int)
set_option maxRecDepth 100000 in
theorem mlX6_seed : m_ML mX6_seed 1 := ⟨m_mem 367 rfl rfl, m_mem 60 rfl rfl, by decide +kernel, by decide, by decide +kernel⟩
abbrev mX6_order : mM := (yX6_order, cX6_order, 7, some .int)
set_option maxRecDepth 100000 in
theorem mlX6_order : m_ML mX6_order 3 := ⟨m_mem 371 rfl rfl, m_mem 60 rfl rfl, by decide +kernel, by decide, by decide +kernel⟩
abbrev mX6_agree : mM := (yX6_agree, cX6_agree, 11, some .int)
set_option maxRecDepth 100000 in
theorem mlX6_agree : m_ML mX6_agree 6 := ⟨m_mem 387 rfl rfl, m_mem 60 rfl rfl, by decide +kernel, by decide, by decide +kernel⟩
abbrev mX6_found : mM := (yX6_found, cX6_found, 5, some .int)
set_option maxRecDepth 100000 in
theorem mlX6_found : m_ML mX6_found 2 := ⟨m_mem 398 rfl rfl, m_mem 60 rfl rfl, by decide +kernel, by decide, by decide +kernel⟩
abbrev mX6_unrule : mM := (yX6_unrule, cX6_unrule, 2, some .int)
set_option maxRecDepth 100000 in
theorem mlX6_unrule : m_ML mX6_unrule 0 := ⟨m_mem 406 rfl rfl, m_mem 60 rfl rfl, by decide +kernel, by decide, by decide +kernel⟩
abbrev mX6_broken : mM := (yX6_broken, cX6_broken, 3, some .int)
set_option maxRecDepth 100000 in
theorem mlX6_broken : m_ML mX6_broken 1 := ⟨m_mem 410 rfl rfl, m_mem 60 rfl rfl, by decide +kernel, by decide, by decide +kernel⟩
abbrev mX6_make : mM := (yX6_make, cX6_make, 3, some .int)
set_option maxRecDepth 100000 in
theorem mlX6_make : m_ML mX6_make 0 := ⟨m_mem 434 rfl rfl, m_mem 60 rfl rfl, by decide +kernel, by decide, by decide +kernel⟩
abbrev mX6_at : mM := (yX6_at, cX6_at, 6, some .int)
set_option maxRecDepth 100000 in
theorem mlX6_at : m_ML mX6_at 4 := ⟨m_mem 522 rfl rfl, m_mem 60 rfl rfl, by decide +kernel, by decide, by decide +kernel⟩
abbrev mX6_turned : mM := (yX6_turned, cX6_turned, 6, some .int)
set_option maxRecDepth 100000 in
theorem mlX6_turned : m_ML mX6_turned 3 := ⟨m_mem 530 rfl rfl, m_mem 60 rfl rfl, by decide +kernel, by decide, by decide +kernel⟩
abbrev mX6_shift : mM := (yX6_shift, cX6_shift, 2, some .int)
set_option maxRecDepth 100000 in
theorem mlX6_shift : m_ML mX6_shift 1 := ⟨m_mem 534 rfl rfl, m_mem 60 rfl rfl, by decide +kernel, by decide, by decide +kernel⟩
abbrev mX6_count : mM := (yX6_count, cX6_count, 6, some .int)
set_option maxRecDepth 100000 in
theorem mlX6_count : m_ML mX6_count 4 := ⟨m_mem 538 rfl rfl, m_mem 60 rfl rfl, by decide +kernel, by decide, by decide +kernel⟩
abbrev mX6_joins : mM := (yX6_joins, cX6_joins, 8, some .int)
set_option maxRecDepth 100000 in
theorem mlX6_joins : m_ML mX6_joins 3 := ⟨m_mem 542 rfl rfl, m_mem 60 rfl rfl, by decide +kernel, by decide, by decide +kernel⟩
abbrev mX6_miss : mM := (yX6_miss, cX6_miss, 8, some .int)
set_option maxRecDepth 100000 in
theorem mlX6_miss : m_ML mX6_miss 2 := ⟨m_mem 546 rfl rfl, m_mem 60 rfl rfl, by decide +kernel, by decide, by decide +kernel⟩
abbrev mX6_could : mM := (yX6_could, cX6_could, 4, some .int)
set_option maxRecDepth 100000 in
theorem mlX6_could : m_ML mX6_could 3 := ⟨m_mem 553 rfl rfl, m_mem 60 rfl rfl, by decide +kernel, by decide, by decide +kernel⟩
abbrev mX6_alike : mM := (yX6_alike, cX6_alike, 5, some .int)
set_option maxRecDepth 100000 in
theorem mlX6_alike : m_ML mX6_alike 2 := ⟨m_mem 590 rfl rfl, m_mem 60 rfl rfl, by decide +kernel, by decide, by decide +kernel⟩
abbrev mX6_sure : mM := (yX6_sure, cX6_sure, 8, some .int)
set_option maxRecDepth 100000 in
theorem mlX6_sure : m_ML mX6_sure 4 := ⟨m_mem 595 rfl rfl, m_mem 60 rfl rfl, by decide +kernel, by decide, by decide +kernel⟩
abbrev mX6_loss : mM := (yX6_loss, cX6_loss, 4, some .int)
set_option maxRecDepth 100000 in
theorem mlX6_loss : m_ML mX6_loss 2 := ⟨m_mem 599 rfl rfl, m_mem 60 rfl rfl, by decide +kernel, by decide, by decide +kernel⟩
abbrev mX6_best : mM := (yX6_best, cX6_best, 8, some .int)
set_option maxRecDepth 100000 in
theorem mlX6_best : m_ML mX6_best 3 := ⟨m_mem 607 rfl rfl, m_mem 60 rfl rfl, by decide +kernel, by decide, by decide +kernel⟩
abbrev mX6_about : mM := (yX6_about, cX6_about, 6, some .int)
set_option maxRecDepth 100000 in
theorem mlX6_about : m_ML mX6_about 3 := ⟨m_mem 679 rfl rfl, m_mem 60 rfl rfl, by decide +kernel, by decide, by decide +kernel⟩
abbrev mX6_all : mM := (yX6_all, cX6_all, 2, some .int)
set_option maxRecDepth 100000 in
theorem mlX6_all : m_ML mX6_all 1 := ⟨m_mem 683 rfl rfl, m_mem 60 rfl rfl, by decide +kernel, by decide, by decide +kernel⟩
abbrev mX6_tableAt : mM := (yX6_tableAt, cX6_tableAt, 2, some (.object "MaskedCopies$Table"))
set_option maxRecDepth 100000 in
theorem mlX6_tableAt : m_ML mX6_tableAt 1 := ⟨m_mem 279 rfl rfl, m_mem 60 rfl rfl, by decide +kernel, by decide, by decide +kernel⟩
abbrev mX6_columnAt : mM := (yX6_columnAt, cX6_columnAt, 4, some (.object "MaskedCopies$Column"))
set_option maxRecDepth 100000 in
theorem mlX6_columnAt : m_ML mX6_columnAt 2 := ⟨m_mem 342 rfl rfl, m_mem 60 rfl rfl, by decide +kernel, by decide, by decide +kernel⟩
abbrev mX6_rowsOf : mM := (yX6_rowsOf, cX6_rowsOf, 3, some .int)
set_option maxRecDepth 100000 in
theorem mlX6_rowsOf : m_ML mX6_rowsOf 1 := ⟨m_mem 318 rfl rfl, m_mem 60 rfl rfl, by decide +kernel, by decide, by decide +kernel⟩
abbrev mX6_columnsOf : mM := (yX6_columnsOf, cX6_columnsOf, 3, some .int)
set_option maxRecDepth 100000 in
theorem mlX6_columnsOf : m_ML mX6_columnsOf 1 := ⟨m_mem 561 rfl rfl, m_mem 60 rfl rfl, by decide +kernel, by decide, by decide +kernel⟩
abbrev mX6_isRow : mM := (yX6_isRow, cX6_isRow, 3, some .boolean)
set_option maxRecDepth 100000 in
theorem mlX6_isRow : m_ML mX6_isRow 2 := ⟨m_mem 526 rfl rfl, m_mem 60 rfl rfl, by decide +kernel, by decide, by decide +kernel⟩
abbrev mX6_copyOf : mM := (yX6_copyOf, cX6_copyOf, 2, some (.object "MaskedCopies$Copy"))
set_option maxRecDepth 100000 in
theorem mlX6_copyOf : m_ML mX6_copyOf 1 := ⟨m_mem 414 rfl rfl, m_mem 60 rfl rfl, by decide +kernel, by decide, by decide +kernel⟩
abbrev mX6_areColumns : mM := (yX6_areColumns, cX6_areColumns, 3, some .boolean)
set_option maxRecDepth 100000 in
theorem mlX6_areColumns : m_ML mX6_areColumns 2 := ⟨m_mem 557 rfl rfl, m_mem 60 rfl rfl, by decide +kernel, by decide, by decide +kernel⟩
abbrev mX6_rowsWith : mM := (yX6_rowsWith, cX6_rowsWith, 7, some .int)
set_option maxRecDepth 100000 in
theorem mlX6_rowsWith : m_ML mX6_rowsWith 4 := ⟨m_mem 314 rfl rfl, m_mem 60 rfl rfl, by decide +kernel, by decide, by decide +kernel⟩
abbrev mX6_isBit : mM := (yX6_isBit, cX6_isBit, 1, some .boolean)
set_option maxRecDepth 100000 in
theorem mlX6_isBit : m_ML mX6_isBit 1 := ⟨m_mem 390 rfl rfl, m_mem 60 rfl rfl, by decide +kernel, by decide, by decide +kernel⟩
abbrev mX6_hasBit : mM := (yX6_hasBit, cX6_hasBit, 2, some .boolean)
set_option maxRecDepth 100000 in
theorem mlX6_hasBit : m_ML mX6_hasBit 2 := ⟨m_mem 572 rfl rfl, m_mem 60 rfl rfl, by decide +kernel, by decide, by decide +kernel⟩
abbrev mX6_rightFigure : mM := (yX6_rightFigure, cX6_rightFigure, 5, some .int)
set_option maxRecDepth 100000 in
theorem mlX6_rightFigure : m_ML mX6_rightFigure 1 := ⟨m_mem 310 rfl rfl, m_mem 60 rfl rfl, by decide +kernel, by decide, by decide +kernel⟩
abbrev mX6_isKeyNumber : mM := (yX6_isKeyNumber, cX6_isKeyNumber, 1, some .boolean)
set_option maxRecDepth 100000 in
theorem mlX6_isKeyNumber : m_ML mX6_isKeyNumber 1 := ⟨m_mem 306 rfl rfl, m_mem 60 rfl rfl, by decide +kernel, by decide, by decide +kernel⟩
abbrev mX6_isNumberOfKind : mM := (yX6_isNumberOfKind, cX6_isNumberOfKind, 2, some .boolean)
set_option maxRecDepth 100000 in
theorem mlX6_isNumberOfKind : m_ML mX6_isNumberOfKind 2 := ⟨m_mem 303 rfl rfl, m_mem 60 rfl rfl, by decide +kernel, by decide, by decide +kernel⟩
abbrev mX6_waitingCellsFit : mM := (yX6_waitingCellsFit, cX6_waitingCellsFit, 5, some .boolean)
set_option maxRecDepth 100000 in
theorem mlX6_waitingCellsFit : m_ML mX6_waitingCellsFit 1 := ⟨m_mem 295 rfl rfl, m_mem 60 rfl rfl, by decide +kernel, by decide, by decide +kernel⟩
abbrev mX6_isMaskOf : mM := (yX6_isMaskOf, cX6_isMaskOf, 2, some .boolean)
set_option maxRecDepth 100000 in
theorem mlX6_isMaskOf : m_ML mX6_isMaskOf 2 := ⟨m_mem 349 rfl rfl, m_mem 60 rfl rfl, by decide +kernel, by decide, by decide +kernel⟩
abbrev mX6_isNumberOf : mM := (yX6_isNumberOf, cX6_isNumberOf, 2, some .boolean)
set_option maxRecDepth 100000 in
theorem mlX6_isNumberOf : m_ML mX6_isNumberOf 2 := ⟨m_mem 352 rfl rfl, m_mem 60 rfl rfl, by decide +kernel, by decide, by decide +kernel⟩
abbrev mX6_dialDigit : mM := (yX6_dialDigit, cX6_dialDigit, 5, some .int)
set_option maxRecDepth 100000 in
theorem mlX6_dialDigit : m_ML mX6_dialDigit 4 := ⟨m_mem 359 rfl rfl, m_mem 60 rfl rfl, by decide +kernel, by decide, by decide +kernel⟩
abbrev mX6_draftMasked : mM := (yX6_draftMasked, cX6_draftMasked, 7, none)
set_option maxRecDepth 100000 in
theorem mlX6_draftMasked : m_ML mX6_draftMasked 1 := ⟨m_mem 438 rfl rfl, m_mem 60 rfl rfl, by decide +kernel, by decide, by decide +kernel⟩
abbrev mX6_maskedCell : mM := (yX6_maskedCell, cX6_maskedCell, 8, some .int)
set_option maxRecDepth 100000 in
theorem mlX6_maskedCell : m_ML mX6_maskedCell 4 := ⟨m_mem 483 rfl rfl, m_mem 60 rfl rfl, by decide +kernel, by decide, by decide +kernel⟩
abbrev mX6_turnedRef : mM := (yX6_turnedRef, cX6_turnedRef, 4, some .int)
set_option maxRecDepth 100000 in
theorem mlX6_turnedRef : m_ML mX6_turnedRef 2 := ⟨m_mem 491 rfl rfl, m_mem 60 rfl rfl, by decide +kernel, by decide, by decide +kernel⟩
abbrev mX6_dealtCell : mM := (yX6_dealtCell, cX6_dealtCell, 6, some .int)
set_option maxRecDepth 100000 in
theorem mlX6_dealtCell : m_ML mX6_dealtCell 4 := ⟨m_mem 487 rfl rfl, m_mem 60 rfl rfl, by decide +kernel, by decide, by decide +kernel⟩
abbrev mX6_tooFine : mM := (yX6_tooFine, cX6_tooFine, 2, some .int)
set_option maxRecDepth 100000 in
theorem mlX6_tooFine : m_ML mX6_tooFine 2 := ⟨m_mem 507 rfl rfl, m_mem 60 rfl rfl, by decide +kernel, by decide, by decide +kernel⟩
abbrev mX6_lossBy : mM := (yX6_lossBy, cX6_lossBy, 7, some .int)
set_option maxRecDepth 100000 in
theorem mlX6_lossBy : m_ML mX6_lossBy 3 := ⟨m_mem 603 rfl rfl, m_mem 60 rfl rfl, by decide +kernel, by decide, by decide +kernel⟩
abbrev mX6_ownerOf : mM := (yX6_ownerOf, cX6_ownerOf, 4, some .int)
set_option maxRecDepth 100000 in
theorem mlX6_ownerOf : m_ML mX6_ownerOf 2 := ⟨m_mem 451 rfl rfl, m_mem 60 rfl rfl, by decide +kernel, by decide, by decide +kernel⟩
abbrev mX6_shiftOf : mM := (yX6_shiftOf, cX6_shiftOf, 4, some .int)
set_option maxRecDepth 100000 in
theorem mlX6_shiftOf : m_ML mX6_shiftOf 1 := ⟨m_mem 455 rfl rfl, m_mem 60 rfl rfl, by decide +kernel, by decide, by decide +kernel⟩
abbrev mX6_narrowRoom : mM := (yX6_narrowRoom, cX6_narrowRoom, 5, none)
set_option maxRecDepth 100000 in
theorem mlX6_narrowRoom : m_ML mX6_narrowRoom 2 := ⟨m_mem 463 rfl rfl, m_mem 60 rfl rfl, by decide +kernel, by decide, by decide +kernel⟩
abbrev mX6_narrowRoomByRow : mM := (yX6_narrowRoomByRow, cX6_narrowRoomByRow, 6, none)
set_option maxRecDepth 100000 in
theorem mlX6_narrowRoomByRow : m_ML mX6_narrowRoomByRow 3 := ⟨m_mem 467 rfl rfl, m_mem 60 rfl rfl, by decide +kernel, by decide, by decide +kernel⟩
abbrev mX6_nextRule : mM := (yX6_nextRule, cX6_nextRule, 1, some (.object "MaskedCopies$Rule"))
set_option maxRecDepth 100000 in
theorem mlX6_nextRule : m_ML mX6_nextRule 0 := ⟨m_mem 375 rfl rfl, m_mem 60 rfl rfl, by decide +kernel, by decide, by decide +kernel⟩
abbrev mX6_addRule : mM := (yX6_addRule, cX6_addRule, 1, some .int)
set_option maxRecDepth 100000 in
theorem mlX6_addRule : m_ML mX6_addRule 0 := ⟨m_mem 383 rfl rfl, m_mem 60 rfl rfl, by decide +kernel, by decide, by decide +kernel⟩
abbrev mX6_firstBroken : mM := (yX6_firstBroken, cX6_firstBroken, 3, some .int)
set_option maxRecDepth 100000 in
theorem mlX6_firstBroken : m_ML mX6_firstBroken 1 := ⟨m_mem 418 rfl rfl, m_mem 60 rfl rfl, by decide +kernel, by decide, by decide +kernel⟩
abbrev mX6_ruleHolds : mM := (yX6_ruleHolds, cX6_ruleHolds, 4, some .boolean)
set_option maxRecDepth 100000 in
theorem mlX6_ruleHolds : m_ML mX6_ruleHolds 2 := ⟨m_mem 422 rfl rfl, m_mem 60 rfl rfl, by decide +kernel, by decide, by decide +kernel⟩
abbrev mX6_holdsInRow : mM := (yX6_holdsInRow, cX6_holdsInRow, 7, some .boolean)
set_option maxRecDepth 100000 in
theorem mlX6_holdsInRow : m_ML mX6_holdsInRow 3 := ⟨m_mem 426 rfl rfl, m_mem 60 rfl rfl, by decide +kernel, by decide, by decide +kernel⟩
abbrev mX6_partsOf : mM := (yX6_partsOf, cX6_partsOf, 8, some .int)
set_option maxRecDepth 100000 in
theorem mlX6_partsOf : m_ML mX6_partsOf 3 := ⟨m_mem 430 rfl rfl, m_mem 60 rfl rfl, by decide +kernel, by decide, by decide +kernel⟩
abbrev mX6_mendDraft : mM := (yX6_mendDraft, cX6_mendDraft, 2, none)
set_option maxRecDepth 100000 in
theorem mlX6_mendDraft : m_ML mX6_mendDraft 0 := ⟨m_mem 514 rfl rfl, m_mem 60 rfl rfl, by decide +kernel, by decide, by decide +kernel⟩
abbrev mX6_mendColumn : mM := (yX6_mendColumn, cX6_mendColumn, 3, none)
set_option maxRecDepth 100000 in
theorem mlX6_mendColumn : m_ML mX6_mendColumn 1 := ⟨m_mem 518 rfl rfl, m_mem 60 rfl rfl, by decide +kernel, by decide, by decide +kernel⟩
abbrev mX6_couldSet : mM := (yX6_couldSet, cX6_couldSet, 6, some .int)
set_option maxRecDepth 100000 in
theorem mlX6_couldSet : m_ML mX6_couldSet 3 := ⟨m_mem 565 rfl rfl, m_mem 60 rfl rfl, by decide +kernel, by decide, by decide +kernel⟩
abbrev mX6_looksSame : mM := (yX6_looksSame, cX6_looksSame, 6, some .boolean)
set_option maxRecDepth 100000 in
theorem mlX6_looksSame : m_ML mX6_looksSame 4 := ⟨m_mem 569 rfl rfl, m_mem 60 rfl rfl, by decide +kernel, by decide, by decide +kernel⟩
abbrev mX6_isPlain : mM := (yX6_isPlain, cX6_isPlain, 5, some .boolean)
set_option maxRecDepth 100000 in
theorem mlX6_isPlain : m_ML mX6_isPlain 2 := ⟨m_mem 576 rfl rfl, m_mem 60 rfl rfl, by decide +kernel, by decide, by decide +kernel⟩
abbrev mX6_movesSame : mM := (yX6_movesSame, cX6_movesSame, 11, some .boolean)
set_option maxRecDepth 100000 in
theorem mlX6_movesSame : m_ML mX6_movesSame 4 := ⟨m_mem 580 rfl rfl, m_mem 60 rfl rfl, by decide +kernel, by decide, by decide +kernel⟩
abbrev mX6_prepareSearch : mM := (yX6_prepareSearch, cX6_prepareSearch, 6, none)
set_option maxRecDepth 100000 in
theorem mlX6_prepareSearch : m_ML mX6_prepareSearch 2 := ⟨m_mem 611 rfl rfl, m_mem 60 rfl rfl, by decide +kernel, by decide, by decide +kernel⟩
abbrev mX6_offerWidths : mM := (yX6_offerWidths, cX6_offerWidths, 8, none)
set_option maxRecDepth 100000 in
theorem mlX6_offerWidths : m_ML mX6_offerWidths 3 := ⟨m_mem 620 rfl rfl, m_mem 60 rfl rfl, by decide +kernel, by decide, by decide +kernel⟩
abbrev mX6_sameBy : mM := (yX6_sameBy, cX6_sameBy, 8, some .int)
set_option maxRecDepth 100000 in
theorem mlX6_sameBy : m_ML mX6_sameBy 4 := ⟨m_mem 641 rfl rfl, m_mem 60 rfl rfl, by decide +kernel, by decide, by decide +kernel⟩
abbrev mX6_coarseOrMissing : mM := (yX6_coarseOrMissing, cX6_coarseOrMissing, 2, some .int)
set_option maxRecDepth 100000 in
theorem mlX6_coarseOrMissing : m_ML mX6_coarseOrMissing 2 := ⟨m_mem 644 rfl rfl, m_mem 60 rfl rfl, by decide +kernel, by decide, by decide +kernel⟩
abbrev mX7_init : mM := (yX7_init, cX7_init, 1, none)
set_option maxRecDepth 100000 in
theorem mlX7_init : m_ML mX7_init 0 := ⟨m_mem 688 rfl rfl, m_mem 67 rfl rfl, by decide +kernel, by decide, by decide +kernel⟩
abbrev mX7_in : mM := (yX7_in, cX7_in, 3, some .boolean)
set_option maxRecDepth 100000 in
theorem mlX7_in : m_ML mX7_in 3 := ⟨m_mem 802 rfl rfl, m_mem 67 rfl rfl, by decide +kernel, by decide, by decide +kernel⟩
abbrev mX7_isTable : mM := (yX7_isTable, cX7_isTable, 2, some .boolean)
set_option maxRecDepth 100000 in
theorem mlX7_isTable : m_ML mX7_isTable 1 := ⟨m_mem 799 rfl rfl, m_mem 67 rfl rfl, by decide +kernel, by decide, by decide +kernel⟩
abbrev mX7_isColumn : mM := (yX7_isColumn, cX7_isColumn, 3, some .boolean)
set_option maxRecDepth 100000 in
theorem mlX7_isColumn : m_ML mX7_isColumn 2 := ⟨m_mem 836 rfl rfl, m_mem 67 rfl rfl, by decide +kernel, by decide, by decide +kernel⟩
abbrev mX7_isRow : mM := (yX7_isRow, cX7_isRow, 3, some .boolean)
set_option maxRecDepth 100000 in
theorem mlX7_isRow : m_ML mX7_isRow 2 := ⟨m_mem 938 rfl rfl, m_mem 67 rfl rfl, by decide +kernel, by decide, by decide +kernel⟩
abbrev mX7_cell : mM := (yX7_cell, cX7_cell, 3, some .int)
set_option maxRecDepth 100000 in
theorem mlX7_cell : m_ML mX7_cell 3 := ⟨m_mem 828 rfl rfl, m_mem 67 rfl rfl, by decide +kernel, by decide, by decide +kernel⟩
abbrev mX7_figure : mM := (yX7_figure, cX7_figure, 1, some .int)
set_option maxRecDepth 100000 in
theorem mlX7_figure : m_ML mX7_figure 1 := ⟨m_mem 825 rfl rfl, m_mem 67 rfl rfl, by decide +kernel, by decide, by decide +kernel⟩
abbrev mX7_isKey : mM := (yX7_isKey, cX7_isKey, 1, some .boolean)
set_option maxRecDepth 100000 in
theorem mlX7_isKey : m_ML mX7_isKey 1 := ⟨m_mem 821 rfl rfl, m_mem 67 rfl rfl, by decide +kernel, by decide, by decide +kernel⟩
abbrev mX7_table : mM := (yX7_table, cX7_table, 2, some .int)
set_option maxRecDepth 100000 in
theorem mlX7_table : m_ML mX7_table 0 := ⟨m_mem 787 rfl rfl, m_mem 67 rfl rfl, by decide +kernel, by decide, by decide +kernel⟩
abbrev mX7_begin : mM := (yX7_begin, cX7_begin, 4, none)
set_option maxRecDepth 100000 in
theorem mlX7_begin : m_ML mX7_begin 3 := ⟨m_mem 791 rfl rfl, m_mem 67 rfl rfl, by decide +kernel, by decide, by decide +kernel⟩
abbrev mX7_column : mM := (yX7_column, cX7_column, 4, some .int)
set_option maxRecDepth 100000 in
theorem mlX7_column : m_ML mX7_column 3 := ⟨m_mem 795 rfl rfl, m_mem 67 rfl rfl, by decide +kernel, by decide, by decide +kernel⟩
abbrev mX7_cell_ : mM := (yX7_cell_, cX7_cell_, 2, some .int)
set_option maxRecDepth 100000 in
theorem mlX7_cell_ : m_ML mX7_cell_ 1 := ⟨m_mem 806 rfl rfl, m_mem 67 rfl rfl, by decide +kernel, by decide, by decide +kernel⟩
abbrev mX7_wipe : mM := (yX7_wipe, cX7_wipe, 2, some .int)
set_option maxRecDepth 100000 in
theorem mlX7_wipe : m_ML mX7_wipe 0 := ⟨m_mem 810 rfl rfl, m_mem 67 rfl rfl, by decide +kernel, by decide, by decide +kernel⟩
abbrev mX7_isOf : mM := (yX7_isOf, cX7_isOf, 2, some .boolean)
set_option maxRecDepth 100000 in
theorem mlX7_isOf : m_ML mX7_isOf 2 := ⟨m_mem 817 rfl rfl, m_mem 67 rfl rfl, by decide +kernel, by decide, by decide +kernel⟩
abbrev mX7_row : mM := (yX7_row, cX7_row, 3, some .int)
set_option maxRecDepth 100000 in
theorem mlX7_row : m_ML mX7_row 1 := ⟨m_mem 814 rfl rfl, m_mem 67 rfl rfl, by decide +kernel, by decide, by decide +kernel⟩
abbrev mX7_owner : mM := (yX7_owner, cX7_owner, 4, some .int)
set_option maxRecDepth 100000 in
theorem mlX7_owner : m_ML mX7_owner 2 := ⟨m_mem 832 rfl rfl, m_mem 67 rfl rfl, by decide +kernel, by decide, by decide +kernel⟩
abbrev mX7_fits : mM := (yX7_fits, cX7_fits, 3, some .boolean)
set_option maxRecDepth 100000 in
theorem mlX7_fits : m_ML mX7_fits 3 := ⟨m_mem 843 rfl rfl, m_mem 67 rfl rfl, by decide +kernel, by decide, by decide +kernel⟩
abbrev mX7_mask : mM := (yX7_mask, cX7_mask, 5, some .int)
set_option maxRecDepth 100000 in
theorem mlX7_mask : m_ML mX7_mask 4 := ⟨m_mem 840 rfl rfl, m_mem 67 rfl rfl, by decide +kernel, by decide, by decide +kernel⟩
abbrev mX7_dial : mM := (yX7_dial, cX7_dial, 7, some .int)
set_option maxRecDepth 100000 in
theorem mlX7_dial : m_ML mX7_dial 5 := ⟨m_mem 847 rfl rfl, m_mem 67 rfl rfl, by decide +kernel, by decide, by decide +kernel⟩
abbrev mX7_seed : mM := (yX7_seed, cX7_seed, 3, some .int)
set_option maxRecDepth 100000 in
theorem mlX7_seed : m_ML mX7_seed 1 := ⟨m_mem 851 rfl rfl, m_mem 67 rfl rfl, by decide +kernel, by decide, by decide +kernel⟩
abbrev mX7_turnedKey : mM := (yX7_turnedKey, cX7_turnedKey, 7, some .int)
set_option maxRecDepth 100000 in
theorem mlX7_turnedKey : m_ML mX7_turnedKey 2 := ⟨m_mem 911 rfl rfl, m_mem 67 rfl rfl, by decide +kernel, by decide, by decide +kernel⟩
abbrev mX7_turnedName : mM := (yX7_turnedName, cX7_turnedName, 3, some .int)
set_option maxRecDepth 100000 in
theorem mlX7_turnedName : m_ML mX7_turnedName 2 := ⟨m_mem 915 rfl rfl, m_mem 67 rfl rfl, by decide +kernel, by decide, by decide +kernel⟩
abbrev mX7_ownerOf : mM := (yX7_ownerOf, cX7_ownerOf, 3, some .int)
set_option maxRecDepth 100000 in
theorem mlX7_ownerOf : m_ML mX7_ownerOf 2 := ⟨m_mem 919 rfl rfl, m_mem 67 rfl rfl, by decide +kernel, by decide, by decide +kernel⟩
abbrev mX7_shiftOf : mM := (yX7_shiftOf, cX7_shiftOf, 3, some .int)
set_option maxRecDepth 100000 in
theorem mlX7_shiftOf : m_ML mX7_shiftOf 1 := ⟨m_mem 923 rfl rfl, m_mem 67 rfl rfl, by decide +kernel, by decide, by decide +kernel⟩
abbrev mX7_stays : mM := (yX7_stays, cX7_stays, 7, some .boolean)
set_option maxRecDepth 100000 in
theorem mlX7_stays : m_ML mX7_stays 2 := ⟨m_mem 927 rfl rfl, m_mem 67 rfl rfl, by decide +kernel, by decide, by decide +kernel⟩
abbrev mX7_coarse : mM := (yX7_coarse, cX7_coarse, 3, some .int)
set_option maxRecDepth 100000 in
theorem mlX7_coarse : m_ML mX7_coarse 2 := ⟨m_mem 930 rfl rfl, m_mem 67 rfl rfl, by decide +kernel, by decide, by decide +kernel⟩
abbrev mX7_maskedCell : mM := (yX7_maskedCell, cX7_maskedCell, 6, some .int)
set_option maxRecDepth 100000 in
theorem mlX7_maskedCell : m_ML mX7_maskedCell 3 := ⟨m_mem 907 rfl rfl, m_mem 67 rfl rfl, by decide +kernel, by decide, by decide +kernel⟩
abbrev mX7_maskTable : mM := (yX7_maskTable, cX7_maskTable, 4, none)
set_option maxRecDepth 100000 in
theorem mlX7_maskTable : m_ML mX7_maskTable 1 := ⟨m_mem 903 rfl rfl, m_mem 67 rfl rfl, by decide +kernel, by decide, by decide +kernel⟩
abbrev mX7_rule : mM := (yX7_rule, cX7_rule, 5, some .int)
set_option maxRecDepth 100000 in
theorem mlX7_rule : m_ML mX7_rule 4 := ⟨m_mem 859 rfl rfl, m_mem 67 rfl rfl, by decide +kernel, by decide, by decide +kernel⟩
abbrev mX7_order : mM := (yX7_order, cX7_order, 4, some .int)
set_option maxRecDepth 100000 in
theorem mlX7_order : m_ML mX7_order 3 := ⟨m_mem 855 rfl rfl, m_mem 67 rfl rfl, by decide +kernel, by decide, by decide +kernel⟩
abbrev mX7_agree : mM := (yX7_agree, cX7_agree, 8, some .int)
set_option maxRecDepth 100000 in
theorem mlX7_agree : m_ML mX7_agree 6 := ⟨m_mem 863 rfl rfl, m_mem 67 rfl rfl, by decide +kernel, by decide, by decide +kernel⟩
abbrev mX7_found : mM := (yX7_found, cX7_found, 3, some .int)
set_option maxRecDepth 100000 in
theorem mlX7_found : m_ML mX7_found 2 := ⟨m_mem 867 rfl rfl, m_mem 67 rfl rfl, by decide +kernel, by decide, by decide +kernel⟩
abbrev mX7_unrule : mM := (yX7_unrule, cX7_unrule, 2, some .int)
set_option maxRecDepth 100000 in
theorem mlX7_unrule : m_ML mX7_unrule 0 := ⟨m_mem 871 rfl rfl, m_mem 67 rfl rfl, by decide +kernel, by decide, by decide +kernel⟩
abbrev mX7_sumFor : mM := (yX7_sumFor, cX7_sumFor, 7, some .int)
set_option maxRecDepth 100000 in
theorem mlX7_sumFor : m_ML mX7_sumFor 2 := ⟨m_mem 891 rfl rfl, m_mem 67 rfl rfl, by decide +kernel, by decide, by decide +kernel⟩
abbrev mX7_isKeyOf : mM := (yX7_isKeyOf, cX7_isKeyOf, 4, some .boolean)
set_option maxRecDepth 100000 in
theorem mlX7_isKeyOf : m_ML mX7_isKeyOf 2 := ⟨m_mem 895 rfl rfl, m_mem 67 rfl rfl, by decide +kernel, by decide, by decide +kernel⟩
abbrev mX7_holdsFor : mM := (yX7_holdsFor, cX7_holdsFor, 6, some .boolean)
set_option maxRecDepth 100000 in
theorem mlX7_holdsFor : m_ML mX7_holdsFor 2 := ⟨m_mem 887 rfl rfl, m_mem 67 rfl rfl, by decide +kernel, by decide, by decide +kernel⟩
abbrev mX7_firstBroken : mM := (yX7_firstBroken, cX7_firstBroken, 3, some .int)
set_option maxRecDepth 100000 in
theorem mlX7_firstBroken : m_ML mX7_firstBroken 0 := ⟨m_mem 883 rfl rfl, m_mem 67 rfl rfl, by decide +kernel, by decide, by decide +kernel⟩
abbrev mX7_see : mM := (yX7_see, cX7_see, 3, none)
set_option maxRecDepth 100000 in
theorem mlX7_see : m_ML mX7_see 1 := ⟨m_mem 879 rfl rfl, m_mem 67 rfl rfl, by decide +kernel, by decide, by decide +kernel⟩
abbrev mX7_broken : mM := (yX7_broken, cX7_broken, 2, some .int)
set_option maxRecDepth 100000 in
theorem mlX7_broken : m_ML mX7_broken 1 := ⟨m_mem 875 rfl rfl, m_mem 67 rfl rfl, by decide +kernel, by decide, by decide +kernel⟩
abbrev mX7_make : mM := (yX7_make, cX7_make, 4, some .int)
set_option maxRecDepth 100000 in
theorem mlX7_make : m_ML mX7_make 0 := ⟨m_mem 899 rfl rfl, m_mem 67 rfl rfl, by decide +kernel, by decide, by decide +kernel⟩
abbrev mX7_at : mM := (yX7_at, cX7_at, 5, some .int)
set_option maxRecDepth 100000 in
theorem mlX7_at : m_ML mX7_at 4 := ⟨m_mem 934 rfl rfl, m_mem 67 rfl rfl, by decide +kernel, by decide, by decide +kernel⟩
abbrev mX7_turned : mM := (yX7_turned, cX7_turned, 4, some .int)
set_option maxRecDepth 100000 in
theorem mlX7_turned : m_ML mX7_turned 3 := ⟨m_mem 942 rfl rfl, m_mem 67 rfl rfl, by decide +kernel, by decide, by decide +kernel⟩
abbrev mX7_shift : mM := (yX7_shift, cX7_shift, 2, some .int)
set_option maxRecDepth 100000 in
theorem mlX7_shift : m_ML mX7_shift 1 := ⟨m_mem 946 rfl rfl, m_mem 67 rfl rfl, by decide +kernel, by decide, by decide +kernel⟩
abbrev mX7_count : mM := (yX7_count, cX7_count, 7, some .int)
set_option maxRecDepth 100000 in
theorem mlX7_count : m_ML mX7_count 4 := ⟨m_mem 950 rfl rfl, m_mem 67 rfl rfl, by decide +kernel, by decide, by decide +kernel⟩
abbrev mX7_joins : mM := (yX7_joins, cX7_joins, 7, some .int)
set_option maxRecDepth 100000 in
theorem mlX7_joins : m_ML mX7_joins 3 := ⟨m_mem 954 rfl rfl, m_mem 67 rfl rfl, by decide +kernel, by decide, by decide +kernel⟩
abbrev mX7_miss : mM := (yX7_miss, cX7_miss, 7, some .int)
set_option maxRecDepth 100000 in
theorem mlX7_miss : m_ML mX7_miss 2 := ⟨m_mem 958 rfl rfl, m_mem 67 rfl rfl, by decide +kernel, by decide, by decide +kernel⟩
abbrev mX7_isKnown : mM := (yX7_isKnown, cX7_isKnown, 3, some .boolean)
set_option maxRecDepth 100000 in
theorem mlX7_isKnown : m_ML mX7_isKnown 2 := ⟨m_mem 966 rfl rfl, m_mem 67 rfl rfl, by decide +kernel, by decide, by decide +kernel⟩
abbrev mX7_isPlain : mM := (yX7_isPlain, cX7_isPlain, 4, some .boolean)
set_option maxRecDepth 100000 in
theorem mlX7_isPlain : m_ML mX7_isPlain 2 := ⟨m_mem 978 rfl rfl, m_mem 67 rfl rfl, by decide +kernel, by decide, by decide +kernel⟩
abbrev mX7_couldBe : mM := (yX7_couldBe, cX7_couldBe, 9, some .boolean)
set_option maxRecDepth 100000 in
theorem mlX7_couldBe : m_ML mX7_couldBe 4 := ⟨m_mem 974 rfl rfl, m_mem 67 rfl rfl, by decide +kernel, by decide, by decide +kernel⟩
abbrev mX7_couldOf : mM := (yX7_couldOf, cX7_couldOf, 6, some .int)
set_option maxRecDepth 100000 in
theorem mlX7_couldOf : m_ML mX7_couldOf 3 := ⟨m_mem 970 rfl rfl, m_mem 67 rfl rfl, by decide +kernel, by decide, by decide +kernel⟩
abbrev mX7_could : mM := (yX7_could, cX7_could, 4, some .int)
set_option maxRecDepth 100000 in
theorem mlX7_could : m_ML mX7_could 3 := ⟨m_mem 962 rfl rfl, m_mem 67 rfl rfl, by decide +kernel, by decide, by decide +kernel⟩
abbrev mX7_alikeOf : mM := (yX7_alikeOf, cX7_alikeOf, 6, some .int)
set_option maxRecDepth 100000 in
theorem mlX7_alikeOf : m_ML mX7_alikeOf 2 := ⟨m_mem 986 rfl rfl, m_mem 67 rfl rfl, by decide +kernel, by decide, by decide +kernel⟩
abbrev mX7_alike : mM := (yX7_alike, cX7_alike, 3, some .int)
set_option maxRecDepth 100000 in
theorem mlX7_alike : m_ML mX7_alike 2 := ⟨m_mem 982 rfl rfl, m_mem 67 rfl rfl, by decide +kernel, by decide, by decide +kernel⟩
abbrev mX7_sure : mM := (yX7_sure, cX7_sure, 7, some .int)
set_option maxRecDepth 100000 in
theorem mlX7_sure : m_ML mX7_sure 4 := ⟨m_mem 990 rfl rfl, m_mem 67 rfl rfl, by decide +kernel, by decide, by decide +kernel⟩
abbrev mX7_lossOf : mM := (yX7_lossOf, cX7_lossOf, 6, some .int)
set_option maxRecDepth 100000 in
theorem mlX7_lossOf : m_ML mX7_lossOf 2 := ⟨m_mem 998 rfl rfl, m_mem 67 rfl rfl, by decide +kernel, by decide, by decide +kernel⟩
abbrev mX7_loss : mM := (yX7_loss, cX7_loss, 3, some .int)
set_option maxRecDepth 100000 in
theorem mlX7_loss : m_ML mX7_loss 2 := ⟨m_mem 994 rfl rfl, m_mem 67 rfl rfl, by decide +kernel, by decide, by decide +kernel⟩
abbrev mX7_width : mM := (yX7_width, cX7_width, 1, some .int)
set_option maxRecDepth 100000 in
theorem mlX7_width : m_ML mX7_width 1 := ⟨m_mem 1009 rfl rfl, m_mem 67 rfl rfl, by decide +kernel, by decide, by decide +kernel⟩
abbrev mX7_gives : mM := (yX7_gives, cX7_gives, 7, some .int)
set_option maxRecDepth 100000 in
theorem mlX7_gives : m_ML mX7_gives 3 := ⟨m_mem 1006 rfl rfl, m_mem 67 rfl rfl, by decide +kernel, by decide, by decide +kernel⟩
abbrev mX7_best : mM := (yX7_best, cX7_best, 9, some .int)
set_option maxRecDepth 100000 in
theorem mlX7_best : m_ML mX7_best 3 := ⟨m_mem 1002 rfl rfl, m_mem 67 rfl rfl, by decide +kernel, by decide, by decide +kernel⟩
abbrev mX7_about : mM := (yX7_about, cX7_about, 5, some .int)
set_option maxRecDepth 100000 in
theorem mlX7_about : m_ML mX7_about 3 := ⟨m_mem 1013 rfl rfl, m_mem 67 rfl rfl, by decide +kernel, by decide, by decide +kernel⟩
abbrev mX7_all : mM := (yX7_all, cX7_all, 2, some .int)
set_option maxRecDepth 100000 in
theorem mlX7_all : m_ML mX7_all 1 := ⟨m_mem 1017 rfl rfl, m_mem 67 rfl rfl, by decide +kernel, by decide, by decide +kernel⟩
abbrev mX0_init : mM := (yX0_init, cX0_init, 1, none)
set_option maxRecDepth 100000 in
theorem mlX0_init : m_ML mX0_init 0 := ⟨m_mem 142 rfl rfl, m_mem 65 rfl rfl, by decide +kernel, by decide, by decide +kernel⟩
abbrev mX0_turnName : mM := (yX0_turnName, cX0_turnName, 2, some .int)
set_option maxRecDepth 100000 in
theorem mlX0_turnName : m_ML mX0_turnName 1 := ⟨m_mem 504 rfl rfl, m_mem 65 rfl rfl, by decide +kernel, by decide, by decide +kernel⟩
abbrev mX1_init : mM := (yX1_init, cX1_init, 1, none)
set_option maxRecDepth 100000 in
theorem mlX1_init : m_ML mX1_init 0 := ⟨m_mem 86 rfl rfl, m_mem 61 rfl rfl, by decide +kernel, by decide, by decide +kernel⟩
abbrev mX1_placeOf : mM := (yX1_placeOf, cX1_placeOf, 4, some .int)
set_option maxRecDepth 100000 in
theorem mlX1_placeOf : m_ML mX1_placeOf 3 := ⟨m_mem 325 rfl rfl, m_mem 61 rfl rfl, by decide +kernel, by decide, by decide +kernel⟩
abbrev mX1_read : mM := (yX1_read, cX1_read, 5, some .int)
set_option maxRecDepth 100000 in
theorem mlX1_read : m_ML mX1_read 3 := ⟨m_mem 322 rfl rfl, m_mem 61 rfl rfl, by decide +kernel, by decide, by decide +kernel⟩
abbrev mX1_write : mM := (yX1_write, cX1_write, 6, none)
set_option maxRecDepth 100000 in
theorem mlX1_write : m_ML mX1_write 4 := ⟨m_mem 330 rfl rfl, m_mem 61 rfl rfl, by decide +kernel, by decide, by decide +kernel⟩
abbrev mX2_init : mM := (yX2_init, cX2_init, 1, none)
set_option maxRecDepth 100000 in
theorem mlX2_init : m_ML mX2_init 0 := ⟨m_mem 97 rfl rfl, m_mem 62 rfl rfl, by decide +kernel, by decide, by decide +kernel⟩
abbrev mX2_open : mM := (yX2_open, cX2_open, 1, none)
set_option maxRecDepth 100000 in
theorem mlX2_open : m_ML mX2_open 0 := ⟨m_mem 459 rfl rfl, m_mem 62 rfl rfl, by decide +kernel, by decide, by decide +kernel⟩
abbrev mX2_narrow : mM := (yX2_narrow, cX2_narrow, 2, none)
set_option maxRecDepth 100000 in
theorem mlX2_narrow : m_ML mX2_narrow 1 := ⟨m_mem 472 rfl rfl, m_mem 62 rfl rfl, by decide +kernel, by decide, by decide +kernel⟩
abbrev mX2_lets : mM := (yX2_lets, cX2_lets, 2, some .boolean)
set_option maxRecDepth 100000 in
theorem mlX2_lets : m_ML mX2_lets 1 := ⟨m_mem 479 rfl rfl, m_mem 62 rfl rfl, by decide +kernel, by decide, by decide +kernel⟩
abbrev mX3_init : mM := (yX3_init, cX3_init, 1, none)
set_option maxRecDepth 100000 in
theorem mlX3_init : m_ML mX3_init 0 := ⟨m_mem 197 rfl rfl, m_mem 66 rfl rfl, by decide +kernel, by decide, by decide +kernel⟩
abbrev mX3_setOrder : mM := (yX3_setOrder, cX3_setOrder, 4, none)
set_option maxRecDepth 100000 in
theorem mlX3_setOrder : m_ML mX3_setOrder 3 := ⟨m_mem 379 rfl rfl, m_mem 66 rfl rfl, by decide +kernel, by decide, by decide +kernel⟩
abbrev mX3_setAgree : mM := (yX3_setAgree, cX3_setAgree, 7, none)
set_option maxRecDepth 100000 in
theorem mlX3_setAgree : m_ML mX3_setAgree 6 := ⟨m_mem 394 rfl rfl, m_mem 66 rfl rfl, by decide +kernel, by decide, by decide +kernel⟩
abbrev mX3_setFound : mM := (yX3_setFound, cX3_setFound, 3, none)
set_option maxRecDepth 100000 in
theorem mlX3_setFound : m_ML mX3_setFound 2 := ⟨m_mem 402 rfl rfl, m_mem 66 rfl rfl, by decide +kernel, by decide, by decide +kernel⟩
abbrev mX4_init : mM := (yX4_init, cX4_init, 2, none)
set_option maxRecDepth 100000 in
theorem mlX4_init : m_ML mX4_init 0 := ⟨m_mem 135 rfl rfl, m_mem 64 rfl rfl, by decide +kernel, by decide, by decide +kernel⟩
abbrev mX4_columnNumbered : mM := (yX4_columnNumbered, cX4_columnNumbered, 2, some (.object "MaskedCopies$Column"))
set_option maxRecDepth 100000 in
theorem mlX4_columnNumbered : m_ML mX4_columnNumbered 1 := ⟨m_mem 299 rfl rfl, m_mem 64 rfl rfl, by decide +kernel, by decide, by decide +kernel⟩
abbrev mX4_addColumn : mM := (yX4_addColumn, cX4_addColumn, 3, some .int)
set_option maxRecDepth 100000 in
theorem mlX4_addColumn : m_ML mX4_addColumn 2 := ⟨m_mem 283 rfl rfl, m_mem 64 rfl rfl, by decide +kernel, by decide, by decide +kernel⟩
abbrev mX4_isShifted : mM := (yX4_isShifted, cX4_isShifted, 3, some .boolean)
set_option maxRecDepth 100000 in
theorem mlX4_isShifted : m_ML mX4_isShifted 1 := ⟨m_mem 446 rfl rfl, m_mem 64 rfl rfl, by decide +kernel, by decide, by decide +kernel⟩
abbrev mX4_hasShift : mM := (yX4_hasShift, cX4_hasShift, 2, some .boolean)
set_option maxRecDepth 100000 in
theorem mlX4_hasShift : m_ML mX4_hasShift 0 := ⟨m_mem 442 rfl rfl, m_mem 64 rfl rfl, by decide +kernel, by decide, by decide +kernel⟩
abbrev mX4_turnsKeys : mM := (yX4_turnsKeys, cX4_turnsKeys, 1, some .boolean)
set_option maxRecDepth 100000 in
theorem mlX4_turnsKeys : m_ML mX4_turnsKeys 0 := ⟨m_mem 495 rfl rfl, m_mem 64 rfl rfl, by decide +kernel, by decide, by decide +kernel⟩
abbrev mX4_setDigit : mM := (yX4_setDigit, cX4_setDigit, 4, none)
set_option maxRecDepth 100000 in
theorem mlX4_setDigit : m_ML mX4_setDigit 3 := ⟨m_mem 363 rfl rfl, m_mem 64 rfl rfl, by decide +kernel, by decide, by decide +kernel⟩
abbrev mX4_turnKey : mM := (yX4_turnKey, cX4_turnKey, 6, some .int)
set_option maxRecDepth 100000 in
theorem mlX4_turnKey : m_ML mX4_turnKey 1 := ⟨m_mem 499 rfl rfl, m_mem 64 rfl rfl, by decide +kernel, by decide, by decide +kernel⟩
abbrev mX5_init : mM := (yX5_init, cX5_init, 1, none)
set_option maxRecDepth 100000 in
theorem mlX5_init : m_ML mX5_init 0 := ⟨m_mem 110 rfl rfl, m_mem 63 rfl rfl, by decide +kernel, by decide, by decide +kernel⟩
abbrev mX5_widthAt : mM := (yX5_widthAt, cX5_widthAt, 1, some .int)
set_option maxRecDepth 100000 in
theorem mlX5_widthAt : m_ML mX5_widthAt 1 := ⟨m_mem 627 rfl rfl, m_mem 63 rfl rfl, by decide +kernel, by decide, by decide +kernel⟩
abbrev mX5_begin : mM := (yX5_begin, cX5_begin, 2, none)
set_option maxRecDepth 100000 in
theorem mlX5_begin : m_ML mX5_begin 1 := ⟨m_mem 615 rfl rfl, m_mem 63 rfl rfl, by decide +kernel, by decide, by decide +kernel⟩
abbrev mX5_addColumn : mM := (yX5_addColumn, cX5_addColumn, 2, some .int)
set_option maxRecDepth 100000 in
theorem mlX5_addColumn : m_ML mX5_addColumn 1 := ⟨m_mem 624 rfl rfl, m_mem 63 rfl rfl, by decide +kernel, by decide, by decide +kernel⟩
abbrev mX5_columnNumber : mM := (yX5_columnNumber, cX5_columnNumber, 2, some .int)
set_option maxRecDepth 100000 in
theorem mlX5_columnNumber : m_ML mX5_columnNumber 1 := ⟨m_mem 673 rfl rfl, m_mem 63 rfl rfl, by decide +kernel, by decide, by decide +kernel⟩
abbrev mX5_setLoss : mM := (yX5_setLoss, cX5_setLoss, 4, none)
set_option maxRecDepth 100000 in
theorem mlX5_setLoss : m_ML mX5_setLoss 3 := ⟨m_mem 633 rfl rfl, m_mem 63 rfl rfl, by decide +kernel, by decide, by decide +kernel⟩
abbrev mX5_setSame : mM := (yX5_setSame, cX5_setSame, 5, none)
set_option maxRecDepth 100000 in
theorem mlX5_setSame : m_ML mX5_setSame 4 := ⟨m_mem 648 rfl rfl, m_mem 63 rfl rfl, by decide +kernel, by decide, by decide +kernel⟩
abbrev mX5_setOthers : mM := (yX5_setOthers, cX5_setOthers, 3, none)
set_option maxRecDepth 100000 in
theorem mlX5_setOthers : m_ML mX5_setOthers 2 := ⟨m_mem 652 rfl rfl, m_mem 63 rfl rfl, by decide +kernel, by decide, by decide +kernel⟩
abbrev mX5_isChoice : mM := (yX5_isChoice, cX5_isChoice, 3, some .boolean)
set_option maxRecDepth 100000 in
theorem mlX5_isChoice : m_ML mX5_isChoice 2 := ⟨m_mem 637 rfl rfl, m_mem 63 rfl rfl, by decide +kernel, by decide, by decide +kernel⟩
abbrev mX5_choiceOf : mM := (yX5_choiceOf, cX5_choiceOf, 3, some .int)
set_option maxRecDepth 100000 in
theorem mlX5_choiceOf : m_ML mX5_choiceOf 2 := ⟨m_mem 664 rfl rfl, m_mem 63 rfl rfl, by decide +kernel, by decide, by decide +kernel⟩
abbrev mX5_lossOf : mM := (yX5_lossOf, cX5_lossOf, 4, some .int)
set_option maxRecDepth 100000 in
theorem mlX5_lossOf : m_ML mX5_lossOf 1 := ⟨m_mem 660 rfl rfl, m_mem 63 rfl rfl, by decide +kernel, by decide, by decide +kernel⟩
abbrev mX5_isSafe : mM := (yX5_isSafe, cX5_isSafe, 6, some .boolean)
set_option maxRecDepth 100000 in
theorem mlX5_isSafe : m_ML mX5_isSafe 2 := ⟨m_mem 668 rfl rfl, m_mem 63 rfl rfl, by decide +kernel, by decide, by decide +kernel⟩
abbrev mX5_leastWay : mM := (yX5_leastWay, cX5_leastWay, 6, some .int)
set_option maxRecDepth 100000 in
theorem mlX5_leastWay : m_ML mX5_leastWay 1 := ⟨m_mem 656 rfl rfl, m_mem 63 rfl rfl, by decide +kernel, by decide, by decide +kernel⟩
abbrev mJ6_bitCount : mM := (yJ6_bitCount_0f7a4, cJ6_bitCount_0f7a4, 1, some .int)
set_option maxRecDepth 100000 in
theorem mlJ6_bitCount : m_ML mJ6_bitCount 1 := ⟨m_mem 583 rfl rfl, m_mem 69 rfl rfl, by decide +kernel, by decide, by decide +kernel⟩
abbrev mJ9_floorMod : mM := (yJ9_floorMod_7cf53, cJ9_floorMod_7cf53, 3, some .int)
set_option maxRecDepth 100000 in
theorem mlJ9_floorMod : m_ML mJ9_floorMod 2 := ⟨m_mem 510 rfl rfl, m_mem 68 rfl rfl, by decide +kernel, by decide, by decide +kernel⟩
set_option maxRecDepth 100000 in
theorem lkX6_3 : Cond.methodLink RX6 3 Lib.objectInit ∈ m_tbl := m_mem 75 rfl rfl
set_option maxRecDepth 100000 in
theorem flX6_13 : m_FL RX6 13 6 0 := ⟨by decide, by decide, m_mem 228 rfl rfl⟩
set_option maxRecDepth 100000 in
theorem flX6_19 : m_FL RX6 19 6 1 := ⟨by decide, by decide, m_mem 229 rfl rfl⟩
set_option maxRecDepth 100000 in
theorem flX6_23 : m_FL RX6 23 6 2 := ⟨by decide, by decide, m_mem 230 rfl rfl⟩
set_option maxRecDepth 100000 in
theorem lkX6_29 : m_LI RX6 29 mX1_init 0 := ⟨mlX1_init, rfl, rfl, m_mem 85 rfl rfl, Or.inr ⟨_, List.mem_of_getElem? (i := 0) rfl⟩⟩
set_option maxRecDepth 100000 in
theorem flX6_30 : m_FL RX6 30 6 3 := ⟨by decide, by decide, m_mem 231 rfl rfl⟩
set_option maxRecDepth 100000 in
theorem lkX6_36 : m_LI RX6 36 mX2_init 0 := ⟨mlX2_init, rfl, rfl, m_mem 96 rfl rfl, Or.inr ⟨_, List.mem_of_getElem? (i := 1) rfl⟩⟩
set_option maxRecDepth 100000 in
theorem flX6_37 : m_FL RX6 37 6 4 := ⟨by decide, by decide, m_mem 232 rfl rfl⟩
set_option maxRecDepth 100000 in
theorem lkX6_43 : m_LI RX6 43 mX5_init 0 := ⟨mlX5_init, rfl, rfl, m_mem 109 rfl rfl, Or.inr ⟨_, List.mem_of_getElem? (i := 2) rfl⟩⟩
set_option maxRecDepth 100000 in
theorem flX6_44 : m_FL RX6 44 6 5 := ⟨by decide, by decide, m_mem 233 rfl rfl⟩
set_option maxRecDepth 100000 in
theorem flX6_48 : m_FL RX6 48 6 6 := ⟨by decide, by decide, m_mem 234 rfl rfl⟩
set_option maxRecDepth 100000 in
theorem flX6_51 : m_FL RX6 51 6 7 := ⟨by decide, by decide, m_mem 235 rfl rfl⟩
set_option maxRecDepth 100000 in
theorem flX6_54 : m_FL RX6 54 6 8 := ⟨by decide, by decide, m_mem 236 rfl rfl⟩
set_option maxRecDepth 100000 in
theorem flX6_58 : m_FL RX6 58 6 9 := ⟨by decide, by decide, m_mem 237 rfl rfl⟩
set_option maxRecDepth 100000 in
theorem flX6_61 : m_FL RX6 61 6 10 := ⟨by decide, by decide, m_mem 238 rfl rfl⟩
set_option maxRecDepth 100000 in
theorem flX6_64 : m_FL RX6 64 6 11 := ⟨by decide, by decide, m_mem 239 rfl rfl⟩
set_option maxRecDepth 100000 in
theorem flX6_67 : m_FL RX6 67 6 12 := ⟨by decide, by decide, m_mem 240 rfl rfl⟩
set_option maxRecDepth 100000 in
theorem lkX6_71 : m_LI RX6 71 mX4_init 0 := ⟨mlX4_init, rfl, rfl, m_mem 134 rfl rfl, Or.inl (m_mem 133 rfl rfl)⟩
set_option maxRecDepth 100000 in
theorem lkX6_72 : m_LI RX6 72 mX3_init 0 := ⟨mlX3_init, rfl, rfl, m_mem 196 rfl rfl, Or.inr ⟨_, List.mem_of_getElem? (i := 3) rfl⟩⟩
set_option maxRecDepth 100000 in
theorem lkX6_73 : m_LV RX6 73 mX6_tableAt 1 := ⟨mlX6_tableAt, m_mem 276 rfl rfl, m_mem 278 rfl rfl, m_mem 0 rfl rfl⟩
set_option maxRecDepth 100000 in
theorem flX6_77 : m_FL RX6 77 4 4 := ⟨by decide, by decide, m_mem 178 rfl rfl⟩
set_option maxRecDepth 100000 in
theorem flX6_80 : m_FL RX6 80 4 3 := ⟨by decide, by decide, m_mem 176 rfl rfl⟩
set_option maxRecDepth 100000 in
theorem lkX6_83 : m_LV RX6 83 mX4_addColumn 2 := ⟨mlX4_addColumn, m_mem 280 rfl rfl, m_mem 281 rfl rfl, m_mem 282 rfl rfl⟩
set_option maxRecDepth 100000 in
theorem lkX6_87 : m_LV RX6 87 mX6_waitingCellsFit 1 := ⟨mlX6_waitingCellsFit, m_mem 292 rfl rfl, m_mem 294 rfl rfl, m_mem 1 rfl rfl⟩
set_option maxRecDepth 100000 in
theorem lkX6_91 : m_LV RX6 91 mX6_rowsWith 4 := ⟨mlX6_rowsWith, m_mem 311 rfl rfl, m_mem 313 rfl rfl, m_mem 2 rfl rfl⟩
set_option maxRecDepth 100000 in
theorem lkX6_95 : m_LV RX6 95 mX1_write 4 := ⟨mlX1_write, m_mem 327 rfl rfl, m_mem 328 rfl rfl, m_mem 329 rfl rfl⟩
set_option maxRecDepth 100000 in
theorem lkX6_99 : m_LV RX6 99 mX6_columnAt 2 := ⟨mlX6_columnAt, m_mem 339 rfl rfl, m_mem 341 rfl rfl, m_mem 4 rfl rfl⟩
set_option maxRecDepth 100000 in
theorem flX6_103 : m_FL RX6 103 0 0 := ⟨by decide, by decide, m_mem 146 rfl rfl⟩
set_option maxRecDepth 100000 in
theorem flX6_108 : m_FL RX6 108 4 5 := ⟨by decide, by decide, m_mem 180 rfl rfl⟩
set_option maxRecDepth 100000 in
theorem lkX6_111 : m_LS RX6 111 mX6_isMaskOf 2 := ⟨mlX6_isMaskOf, m_mem 348 rfl rfl, Or.inl (m_mem 347 rfl rfl)⟩
set_option maxRecDepth 100000 in
theorem lkX6_115 : m_LS RX6 115 mX6_isNumberOf 2 := ⟨mlX6_isNumberOf, m_mem 351 rfl rfl, Or.inl (m_mem 350 rfl rfl)⟩
set_option maxRecDepth 100000 in
theorem flX6_118 : m_FL RX6 118 0 2 := ⟨by decide, by decide, m_mem 152 rfl rfl⟩
set_option maxRecDepth 100000 in
theorem flX6_121 : m_FL RX6 121 0 3 := ⟨by decide, by decide, m_mem 154 rfl rfl⟩
set_option maxRecDepth 100000 in
theorem lkX6_124 : m_LS RX6 124 mX6_dialDigit 4 := ⟨mlX6_dialDigit, m_mem 358 rfl rfl, Or.inl (m_mem 357 rfl rfl)⟩
set_option maxRecDepth 100000 in
theorem flX6_128 : m_FL RX6 128 0 4 := ⟨by decide, by decide, m_mem 156 rfl rfl⟩
set_option maxRecDepth 100000 in
theorem flX6_131 : m_FL RX6 131 0 5 := ⟨by decide, by decide, m_mem 158 rfl rfl⟩
set_option maxRecDepth 100000 in
theorem lkX6_134 : m_LV RX6 134 mX6_nextRule 0 := ⟨mlX6_nextRule, m_mem 372 rfl rfl, m_mem 374 rfl rfl, m_mem 5 rfl rfl⟩
set_option maxRecDepth 100000 in
theorem lkX6_138 : m_LV RX6 138 mX3_setOrder 3 := ⟨mlX3_setOrder, m_mem 376 rfl rfl, m_mem 377 rfl rfl, m_mem 378 rfl rfl⟩
set_option maxRecDepth 100000 in
theorem lkX6_142 : m_LV RX6 142 mX6_addRule 0 := ⟨mlX6_addRule, m_mem 380 rfl rfl, m_mem 382 rfl rfl, m_mem 6 rfl rfl⟩
set_option maxRecDepth 100000 in
theorem flX6_146 : m_FL RX6 146 0 1 := ⟨by decide, by decide, m_mem 149 rfl rfl⟩
set_option maxRecDepth 100000 in
theorem lkX6_149 : m_LS RX6 149 mX6_isBit 1 := ⟨mlX6_isBit, m_mem 389 rfl rfl, Or.inl (m_mem 388 rfl rfl)⟩
set_option maxRecDepth 100000 in
theorem lkX6_153 : m_LV RX6 153 mX3_setAgree 6 := ⟨mlX3_setAgree, m_mem 391 rfl rfl, m_mem 392 rfl rfl, m_mem 393 rfl rfl⟩
set_option maxRecDepth 100000 in
theorem lkX6_157 : m_LV RX6 157 mX3_setFound 2 := ⟨mlX3_setFound, m_mem 399 rfl rfl, m_mem 400 rfl rfl, m_mem 401 rfl rfl⟩
set_option maxRecDepth 100000 in
theorem lkX6_161 : m_LV RX6 161 mX6_copyOf 1 := ⟨mlX6_copyOf, m_mem 411 rfl rfl, m_mem 413 rfl rfl, m_mem 7 rfl rfl⟩
set_option maxRecDepth 100000 in
theorem lkX6_165 : m_LV RX6 165 mX6_firstBroken 1 := ⟨mlX6_firstBroken, m_mem 415 rfl rfl, m_mem 417 rfl rfl, m_mem 8 rfl rfl⟩
set_option maxRecDepth 100000 in
theorem lkX6_169 : m_LV RX6 169 mX6_draftMasked 1 := ⟨mlX6_draftMasked, m_mem 435 rfl rfl, m_mem 437 rfl rfl, m_mem 12 rfl rfl⟩
set_option maxRecDepth 100000 in
theorem lkX6_173 : m_LV RX6 173 mX6_mendDraft 0 := ⟨mlX6_mendDraft, m_mem 511 rfl rfl, m_mem 513 rfl rfl, m_mem 20 rfl rfl⟩
set_option maxRecDepth 100000 in
theorem lkX6_176 : m_LV RX6 176 mX6_isRow 2 := ⟨mlX6_isRow, m_mem 523 rfl rfl, m_mem 525 rfl rfl, m_mem 22 rfl rfl⟩
set_option maxRecDepth 100000 in
theorem lkX6_180 : m_LV RX6 180 mX1_read 3 := ⟨mlX1_read, m_mem 319 rfl rfl, m_mem 320 rfl rfl, m_mem 321 rfl rfl⟩
set_option maxRecDepth 100000 in
theorem lkX6_184 : m_LS RX6 184 mX6_isNumberOfKind 2 := ⟨mlX6_isNumberOfKind, m_mem 302 rfl rfl, Or.inl (m_mem 301 rfl rfl)⟩
set_option maxRecDepth 100000 in
theorem lkX6_187 : m_LV RX6 187 mX4_turnKey 1 := ⟨mlX4_turnKey, m_mem 496 rfl rfl, m_mem 497 rfl rfl, m_mem 498 rfl rfl⟩
set_option maxRecDepth 100000 in
theorem lkX6_191 : m_LV RX6 191 mX0_turnName 1 := ⟨mlX0_turnName, m_mem 501 rfl rfl, m_mem 502 rfl rfl, m_mem 503 rfl rfl⟩
set_option maxRecDepth 100000 in
theorem lkX6_194 : m_LS RX6 194 mX6_isKeyNumber 1 := ⟨mlX6_isKeyNumber, m_mem 305 rfl rfl, Or.inl (m_mem 304 rfl rfl)⟩
set_option maxRecDepth 100000 in
theorem lkX6_197 : m_LV RX6 197 mX6_shiftOf 1 := ⟨mlX6_shiftOf, m_mem 452 rfl rfl, m_mem 454 rfl rfl, m_mem 14 rfl rfl⟩
set_option maxRecDepth 100000 in
theorem lkX6_200 : m_LV RX6 200 mX6_rowsOf 1 := ⟨mlX6_rowsOf, m_mem 315 rfl rfl, m_mem 317 rfl rfl, m_mem 3 rfl rfl⟩
set_option maxRecDepth 100000 in
theorem lkX6_203 : Cond.methodLink RX6 203 Lib.Math.abs.name ∈ m_tbl := m_mem 547 rfl rfl
set_option maxRecDepth 100000 in
theorem lkX6_208 : m_LV RX6 208 mX6_areColumns 2 := ⟨mlX6_areColumns, m_mem 554 rfl rfl, m_mem 556 rfl rfl, m_mem 23 rfl rfl⟩
set_option maxRecDepth 100000 in
theorem lkX6_211 : m_LV RX6 211 mX6_couldSet 3 := ⟨mlX6_couldSet, m_mem 562 rfl rfl, m_mem 564 rfl rfl, m_mem 25 rfl rfl⟩
set_option maxRecDepth 100000 in
theorem lkX6_214 : m_LS RX6 214 mJ6_bitCount 1 := ⟨mlJ6_bitCount, m_mem 582 rfl rfl, Or.inl (m_mem 581 rfl rfl)⟩
set_option maxRecDepth 100000 in
theorem lkX6_217 : Cond.methodLink RX6 217 Lib.Math.min.name ∈ m_tbl := m_mem 591 rfl rfl
set_option maxRecDepth 100000 in
theorem lkX6_220 : m_LS RX6 220 mX6_hasBit 2 := ⟨mlX6_hasBit, m_mem 571 rfl rfl, Or.inl (m_mem 570 rfl rfl)⟩
set_option maxRecDepth 100000 in
theorem lkX6_223 : m_LV RX6 223 mX6_lossBy 3 := ⟨mlX6_lossBy, m_mem 600 rfl rfl, m_mem 602 rfl rfl, m_mem 29 rfl rfl⟩
set_option maxRecDepth 100000 in
theorem lkX6_226 : m_LV RX6 226 mX6_prepareSearch 2 := ⟨mlX6_prepareSearch, m_mem 608 rfl rfl, m_mem 610 rfl rfl, m_mem 30 rfl rfl⟩
set_option maxRecDepth 100000 in
theorem lkX6_229 : m_LV RX6 229 mX5_leastWay 1 := ⟨mlX5_leastWay, m_mem 653 rfl rfl, m_mem 654 rfl rfl, m_mem 655 rfl rfl⟩
set_option maxRecDepth 100000 in
theorem flX6_232 : m_FL RX6 232 5 4 := ⟨by decide, by decide, m_mem 117 rfl rfl⟩
set_option maxRecDepth 100000 in
theorem lkX6_233 : m_LV RX6 233 mX5_columnNumber 1 := ⟨mlX5_columnNumber, m_mem 670 rfl rfl, m_mem 671 rfl rfl, m_mem 672 rfl rfl⟩
set_option maxRecDepth 100000 in
theorem lkX6_236 : m_LV RX6 236 mX5_choiceOf 2 := ⟨mlX5_choiceOf, m_mem 674 rfl rfl, m_mem 662 rfl rfl, m_mem 663 rfl rfl⟩
set_option maxRecDepth 100000 in
theorem lkX6_239 : m_LS RX6 239 mX5_widthAt 1 := ⟨mlX5_widthAt, m_mem 626 rfl rfl, Or.inl (m_mem 625 rfl rfl)⟩
set_option maxRecDepth 100000 in
theorem lkX6_242 : m_LV RX6 242 mX5_lossOf 1 := ⟨mlX5_lossOf, m_mem 675 rfl rfl, m_mem 658 rfl rfl, m_mem 659 rfl rfl⟩
set_option maxRecDepth 100000 in
theorem lkX6_245 : m_LV RX6 245 mX4_columnNumbered 1 := ⟨mlX4_columnNumbered, m_mem 296 rfl rfl, m_mem 297 rfl rfl, m_mem 298 rfl rfl⟩
set_option maxRecDepth 100000 in
theorem lkX6_249 : m_LV RX6 249 mX6_columnsOf 1 := ⟨mlX6_columnsOf, m_mem 558 rfl rfl, m_mem 560 rfl rfl, m_mem 24 rfl rfl⟩
set_option maxRecDepth 100000 in
theorem lkX6_253 : m_LS RX6 253 mX6_rightFigure 1 := ⟨mlX6_rightFigure, m_mem 309 rfl rfl, Or.inl (m_mem 308 rfl rfl)⟩
set_option maxRecDepth 100000 in
theorem lkX6_256 : m_LV RX6 256 mX4_setDigit 3 := ⟨mlX4_setDigit, m_mem 360 rfl rfl, m_mem 361 rfl rfl, m_mem 362 rfl rfl⟩
set_option maxRecDepth 100000 in
theorem lkX6_259 : m_LV RX6 259 mX4_hasShift 0 := ⟨mlX4_hasShift, m_mem 439 rfl rfl, m_mem 440 rfl rfl, m_mem 441 rfl rfl⟩
set_option maxRecDepth 100000 in
theorem lkX6_263 : m_LV RX6 263 mX6_ownerOf 2 := ⟨mlX6_ownerOf, m_mem 448 rfl rfl, m_mem 450 rfl rfl, m_mem 13 rfl rfl⟩
set_option maxRecDepth 100000 in
theorem lkX6_266 : m_LV RX6 266 mX6_maskedCell 4 := ⟨mlX6_maskedCell, m_mem 480 rfl rfl, m_mem 482 rfl rfl, m_mem 17 rfl rfl⟩
set_option maxRecDepth 100000 in
theorem lkX6_270 : m_LV RX6 270 mX6_dealtCell 4 := ⟨mlX6_dealtCell, m_mem 484 rfl rfl, m_mem 486 rfl rfl, m_mem 18 rfl rfl⟩
set_option maxRecDepth 100000 in
theorem lkX6_273 : m_LV RX6 273 mX6_turnedRef 2 := ⟨mlX6_turnedRef, m_mem 488 rfl rfl, m_mem 490 rfl rfl, m_mem 19 rfl rfl⟩
set_option maxRecDepth 100000 in
theorem lkX6_276 : m_LS RX6 276 mX6_tooFine 2 := ⟨mlX6_tooFine, m_mem 506 rfl rfl, Or.inl (m_mem 505 rfl rfl)⟩
set_option maxRecDepth 100000 in
theorem lkX6_279 : m_LV RX6 279 mX4_turnsKeys 0 := ⟨mlX4_turnsKeys, m_mem 492 rfl rfl, m_mem 493 rfl rfl, m_mem 494 rfl rfl⟩
set_option maxRecDepth 100000 in
theorem lkX6_282 : m_LS RX6 282 mJ9_floorMod 2 := ⟨mlJ9_floorMod, m_mem 509 rfl rfl, Or.inl (m_mem 508 rfl rfl)⟩
set_option maxRecDepth 100000 in
theorem lkX6_285 : m_LV RX6 285 mX2_open 0 := ⟨mlX2_open, m_mem 456 rfl rfl, m_mem 457 rfl rfl, m_mem 458 rfl rfl⟩
set_option maxRecDepth 100000 in
theorem lkX6_288 : m_LV RX6 288 mX6_narrowRoom 2 := ⟨mlX6_narrowRoom, m_mem 460 rfl rfl, m_mem 462 rfl rfl, m_mem 15 rfl rfl⟩
set_option maxRecDepth 100000 in
theorem lkX6_291 : m_LV RX6 291 mX2_lets 1 := ⟨mlX2_lets, m_mem 476 rfl rfl, m_mem 477 rfl rfl, m_mem 478 rfl rfl⟩
set_option maxRecDepth 100000 in
theorem lkX6_294 : m_LV RX6 294 mX6_narrowRoomByRow 3 := ⟨mlX6_narrowRoomByRow, m_mem 464 rfl rfl, m_mem 466 rfl rfl, m_mem 16 rfl rfl⟩
set_option maxRecDepth 100000 in
theorem lkX6_298 : m_LV RX6 298 mX4_isShifted 1 := ⟨mlX4_isShifted, m_mem 468 rfl rfl, m_mem 444 rfl rfl, m_mem 445 rfl rfl⟩
set_option maxRecDepth 100000 in
theorem lkX6_301 : m_LV RX6 301 mX2_narrow 1 := ⟨mlX2_narrow, m_mem 469 rfl rfl, m_mem 470 rfl rfl, m_mem 471 rfl rfl⟩
set_option maxRecDepth 100000 in
theorem lkX6_304 : m_LV RX6 304 mX6_ruleHolds 2 := ⟨mlX6_ruleHolds, m_mem 419 rfl rfl, m_mem 421 rfl rfl, m_mem 9 rfl rfl⟩
set_option maxRecDepth 100000 in
theorem flX6_308 : m_FL RX6 308 3 1 := ⟨by decide, by decide, m_mem 202 rfl rfl⟩
set_option maxRecDepth 100000 in
theorem lkX6_311 : m_LV RX6 311 mX6_holdsInRow 3 := ⟨mlX6_holdsInRow, m_mem 423 rfl rfl, m_mem 425 rfl rfl, m_mem 10 rfl rfl⟩
set_option maxRecDepth 100000 in
theorem flX6_315 : m_FL RX6 315 3 2 := ⟨by decide, by decide, m_mem 204 rfl rfl⟩
set_option maxRecDepth 100000 in
theorem flX6_318 : m_FL RX6 318 3 0 := ⟨by decide, by decide, m_mem 200 rfl rfl⟩
set_option maxRecDepth 100000 in
theorem flX6_319 : m_FL RX6 319 3 3 := ⟨by decide, by decide, m_mem 206 rfl rfl⟩
set_option maxRecDepth 100000 in
theorem lkX6_322 : m_LV RX6 322 mX6_partsOf 3 := ⟨mlX6_partsOf, m_mem 427 rfl rfl, m_mem 429 rfl rfl, m_mem 11 rfl rfl⟩
set_option maxRecDepth 100000 in
theorem flX6_326 : m_FL RX6 326 3 4 := ⟨by decide, by decide, m_mem 208 rfl rfl⟩
set_option maxRecDepth 100000 in
theorem flX6_329 : m_FL RX6 329 3 5 := ⟨by decide, by decide, m_mem 210 rfl rfl⟩
set_option maxRecDepth 100000 in
theorem flX6_332 : m_FL RX6 332 3 6 := ⟨by decide, by decide, m_mem 212 rfl rfl⟩
set_option maxRecDepth 100000 in
theorem lkX6_335 : m_LV RX6 335 mX6_mendColumn 1 := ⟨mlX6_mendColumn, m_mem 515 rfl rfl, m_mem 517 rfl rfl, m_mem 21 rfl rfl⟩
set_option maxRecDepth 100000 in
theorem lkX6_339 : m_LV RX6 339 mX6_looksSame 4 := ⟨mlX6_looksSame, m_mem 566 rfl rfl, m_mem 568 rfl rfl, m_mem 26 rfl rfl⟩
set_option maxRecDepth 100000 in
theorem lkX6_343 : m_LV RX6 343 mX6_movesSame 4 := ⟨mlX6_movesSame, m_mem 577 rfl rfl, m_mem 579 rfl rfl, m_mem 28 rfl rfl⟩
set_option maxRecDepth 100000 in
theorem lkX6_346 : m_LV RX6 346 mX6_isPlain 2 := ⟨mlX6_isPlain, m_mem 573 rfl rfl, m_mem 575 rfl rfl, m_mem 27 rfl rfl⟩
set_option maxRecDepth 100000 in
theorem lkX6_349 : m_LV RX6 349 mX5_begin 1 := ⟨mlX5_begin, m_mem 612 rfl rfl, m_mem 613 rfl rfl, m_mem 614 rfl rfl⟩
set_option maxRecDepth 100000 in
theorem lkX6_352 : m_LV RX6 352 mX6_offerWidths 3 := ⟨mlX6_offerWidths, m_mem 617 rfl rfl, m_mem 619 rfl rfl, m_mem 31 rfl rfl⟩
set_option maxRecDepth 100000 in
theorem lkX6_356 : m_LV RX6 356 mX5_setOthers 2 := ⟨mlX5_setOthers, m_mem 649 rfl rfl, m_mem 650 rfl rfl, m_mem 651 rfl rfl⟩
set_option maxRecDepth 100000 in
theorem lkX6_359 : m_LV RX6 359 mX5_addColumn 1 := ⟨mlX5_addColumn, m_mem 621 rfl rfl, m_mem 622 rfl rfl, m_mem 623 rfl rfl⟩
set_option maxRecDepth 100000 in
theorem lkX6_361 : m_LV RX6 361 mX5_setLoss 3 := ⟨mlX5_setLoss, m_mem 630 rfl rfl, m_mem 631 rfl rfl, m_mem 632 rfl rfl⟩
set_option maxRecDepth 100000 in
theorem lkX6_364 : m_LV RX6 364 mX6_sameBy 4 := ⟨mlX6_sameBy, m_mem 638 rfl rfl, m_mem 640 rfl rfl, m_mem 33 rfl rfl⟩
set_option maxRecDepth 100000 in
theorem lkX6_367 : m_LV RX6 367 mX5_setSame 4 := ⟨mlX5_setSame, m_mem 645 rfl rfl, m_mem 646 rfl rfl, m_mem 647 rfl rfl⟩
set_option maxRecDepth 100000 in
theorem lkX6_370 : m_LS RX6 370 mX6_coarseOrMissing 2 := ⟨mlX6_coarseOrMissing, m_mem 643 rfl rfl, Or.inl (m_mem 642 rfl rfl)⟩
set_option maxRecDepth 100000 in
theorem lkX7_3 : Cond.methodLink RX7 3 Lib.objectInit ∈ m_tbl := m_mem 689 rfl rfl
set_option maxRecDepth 100000 in
theorem flX7_9 : m_FL RX7 9 7 2 := ⟨by decide, by decide, m_mem 691 rfl rfl⟩
set_option maxRecDepth 100000 in
theorem flX7_15 : m_FL RX7 15 7 3 := ⟨by decide, by decide, m_mem 692 rfl rfl⟩
set_option maxRecDepth 100000 in
theorem flX7_18 : m_FL RX7 18 7 4 := ⟨by decide, by decide, m_mem 693 rfl rfl⟩
set_option maxRecDepth 100000 in
theorem flX7_21 : m_FL RX7 21 7 5 := ⟨by decide, by decide, m_mem 694 rfl rfl⟩
set_option maxRecDepth 100000 in
theorem flX7_24 : m_FL RX7 24 7 6 := ⟨by decide, by decide, m_mem 695 rfl rfl⟩
set_option maxRecDepth 100000 in
theorem flX7_27 : m_FL RX7 27 7 7 := ⟨by decide, by decide, m_mem 696 rfl rfl⟩
set_option maxRecDepth 100000 in
theorem flX7_30 : m_FL RX7 30 7 8 := ⟨by decide, by decide, m_mem 697 rfl rfl⟩
set_option maxRecDepth 100000 in
theorem flX7_33 : m_FL RX7 33 7 9 := ⟨by decide, by decide, m_mem 698 rfl rfl⟩
set_option maxRecDepth 100000 in
theorem flX7_36 : m_FL RX7 36 7 10 := ⟨by decide, by decide, m_mem 699 rfl rfl⟩
set_option maxRecDepth 100000 in
theorem flX7_39 : m_FL RX7 39 7 11 := ⟨by decide, by decide, m_mem 700 rfl rfl⟩
set_option maxRecDepth 100000 in
theorem flX7_42 : m_FL RX7 42 7 12 := ⟨by decide, by decide, m_mem 701 rfl rfl⟩
set_option maxRecDepth 100000 in
theorem flX7_45 : m_FL RX7 45 7 14 := ⟨by decide, by decide, m_mem 703 rfl rfl⟩
set_option maxRecDepth 100000 in
theorem flX7_48 : m_FL RX7 48 7 15 := ⟨by decide, by decide, m_mem 704 rfl rfl⟩
set_option maxRecDepth 100000 in
theorem flX7_51 : m_FL RX7 51 7 17 := ⟨by decide, by decide, m_mem 706 rfl rfl⟩
set_option maxRecDepth 100000 in
theorem flX7_54 : m_FL RX7 54 7 18 := ⟨by decide, by decide, m_mem 707 rfl rfl⟩
set_option maxRecDepth 100000 in
theorem flX7_57 : m_FL RX7 57 7 21 := ⟨by decide, by decide, m_mem 710 rfl rfl⟩
set_option maxRecDepth 100000 in
theorem flX7_60 : m_FL RX7 60 7 22 := ⟨by decide, by decide, m_mem 711 rfl rfl⟩
set_option maxRecDepth 100000 in
theorem flX7_63 : m_FL RX7 63 7 23 := ⟨by decide, by decide, m_mem 712 rfl rfl⟩
set_option maxRecDepth 100000 in
theorem flX7_66 : m_FL RX7 66 7 24 := ⟨by decide, by decide, m_mem 713 rfl rfl⟩
set_option maxRecDepth 100000 in
theorem flX7_69 : m_FL RX7 69 7 25 := ⟨by decide, by decide, m_mem 714 rfl rfl⟩
set_option maxRecDepth 100000 in
theorem flX7_72 : m_FL RX7 72 7 26 := ⟨by decide, by decide, m_mem 715 rfl rfl⟩
set_option maxRecDepth 100000 in
theorem flX7_75 : m_FL RX7 75 7 27 := ⟨by decide, by decide, m_mem 716 rfl rfl⟩
set_option maxRecDepth 100000 in
theorem flX7_79 : m_FL RX7 79 7 28 := ⟨by decide, by decide, m_mem 717 rfl rfl⟩
set_option maxRecDepth 100000 in
theorem flX7_82 : m_FL RX7 82 7 29 := ⟨by decide, by decide, m_mem 718 rfl rfl⟩
set_option maxRecDepth 100000 in
theorem flX7_85 : m_FL RX7 85 7 30 := ⟨by decide, by decide, m_mem 719 rfl rfl⟩
set_option maxRecDepth 100000 in
theorem flX7_92 : m_FL RX7 92 7 1 := ⟨by decide, by decide, m_mem 690 rfl rfl⟩
set_option maxRecDepth 100000 in
theorem lkX7_95 : m_LS RX7 95 mX7_in 3 := ⟨mlX7_in, m_mem 801 rfl rfl, Or.inl (m_mem 800 rfl rfl)⟩
set_option maxRecDepth 100000 in
theorem lkX7_99 : m_LV RX7 99 mX7_isTable 1 := ⟨mlX7_isTable, m_mem 796 rfl rfl, m_mem 798 rfl rfl, m_mem 36 rfl rfl⟩
set_option maxRecDepth 100000 in
theorem lkX7_104 : m_LS RX7 104 mX7_figure 1 := ⟨mlX7_figure, m_mem 824 rfl rfl, Or.inl (m_mem 823 rfl rfl)⟩
set_option maxRecDepth 100000 in
theorem lkX7_108 : m_LV RX7 108 mX7_begin 3 := ⟨mlX7_begin, m_mem 788 rfl rfl, m_mem 790 rfl rfl, m_mem 35 rfl rfl⟩
set_option maxRecDepth 100000 in
theorem flX7_112 : m_FL RX7 112 7 16 := ⟨by decide, by decide, m_mem 705 rfl rfl⟩
set_option maxRecDepth 100000 in
theorem flX7_116 : m_FL RX7 116 7 19 := ⟨by decide, by decide, m_mem 708 rfl rfl⟩
set_option maxRecDepth 100000 in
theorem lkX7_120 : m_LS RX7 120 mX7_isKey 1 := ⟨mlX7_isKey, m_mem 820 rfl rfl, Or.inl (m_mem 819 rfl rfl)⟩
set_option maxRecDepth 100000 in
theorem lkX7_123 : m_LS RX7 123 mX7_isOf 2 := ⟨mlX7_isOf, m_mem 816 rfl rfl, Or.inl (m_mem 815 rfl rfl)⟩
set_option maxRecDepth 100000 in
theorem lkX7_127 : m_LS RX7 127 mX7_cell 3 := ⟨mlX7_cell, m_mem 827 rfl rfl, Or.inl (m_mem 826 rfl rfl)⟩
set_option maxRecDepth 100000 in
theorem lkX7_131 : m_LV RX7 131 mX7_isColumn 2 := ⟨mlX7_isColumn, m_mem 833 rfl rfl, m_mem 835 rfl rfl, m_mem 37 rfl rfl⟩
set_option maxRecDepth 100000 in
theorem lkX7_134 : m_LS RX7 134 mX7_fits 3 := ⟨mlX7_fits, m_mem 842 rfl rfl, Or.inl (m_mem 841 rfl rfl)⟩
set_option maxRecDepth 100000 in
theorem flX7_137 : m_FL RX7 137 7 13 := ⟨by decide, by decide, m_mem 702 rfl rfl⟩
set_option maxRecDepth 100000 in
theorem lkX7_140 : m_LV RX7 140 mX7_stays 2 := ⟨mlX7_stays, m_mem 924 rfl rfl, m_mem 926 rfl rfl, m_mem 50 rfl rfl⟩
set_option maxRecDepth 100000 in
theorem lkX7_143 : m_LV RX7 143 mX7_ownerOf 2 := ⟨mlX7_ownerOf, m_mem 916 rfl rfl, m_mem 918 rfl rfl, m_mem 48 rfl rfl⟩
set_option maxRecDepth 100000 in
theorem lkX7_147 : m_LV RX7 147 mX7_turnedKey 2 := ⟨mlX7_turnedKey, m_mem 908 rfl rfl, m_mem 910 rfl rfl, m_mem 46 rfl rfl⟩
set_option maxRecDepth 100000 in
theorem lkX7_150 : m_LV RX7 150 mX7_turnedName 2 := ⟨mlX7_turnedName, m_mem 912 rfl rfl, m_mem 914 rfl rfl, m_mem 47 rfl rfl⟩
set_option maxRecDepth 100000 in
theorem lkX7_153 : m_LV RX7 153 mX7_shiftOf 1 := ⟨mlX7_shiftOf, m_mem 920 rfl rfl, m_mem 922 rfl rfl, m_mem 49 rfl rfl⟩
set_option maxRecDepth 100000 in
theorem lkX7_156 : m_LS RX7 156 mX7_coarse 2 := ⟨mlX7_coarse, m_mem 929 rfl rfl, Or.inl (m_mem 928 rfl rfl)⟩
set_option maxRecDepth 100000 in
theorem lkX7_159 : m_LV RX7 159 mX7_maskedCell 3 := ⟨mlX7_maskedCell, m_mem 904 rfl rfl, m_mem 906 rfl rfl, m_mem 45 rfl rfl⟩
set_option maxRecDepth 100000 in
theorem flX7_162 : m_FL RX7 162 7 20 := ⟨by decide, by decide, m_mem 709 rfl rfl⟩
set_option maxRecDepth 100000 in
theorem lkX7_165 : m_LV RX7 165 mX7_rule 4 := ⟨mlX7_rule, m_mem 856 rfl rfl, m_mem 858 rfl rfl, m_mem 38 rfl rfl⟩
set_option maxRecDepth 100000 in
theorem lkX7_169 : m_LV RX7 169 mX7_sumFor 2 := ⟨mlX7_sumFor, m_mem 888 rfl rfl, m_mem 890 rfl rfl, m_mem 42 rfl rfl⟩
set_option maxRecDepth 100000 in
theorem lkX7_172 : m_LV RX7 172 mX7_isKeyOf 2 := ⟨mlX7_isKeyOf, m_mem 892 rfl rfl, m_mem 894 rfl rfl, m_mem 43 rfl rfl⟩
set_option maxRecDepth 100000 in
theorem lkX7_175 : m_LV RX7 175 mX7_holdsFor 2 := ⟨mlX7_holdsFor, m_mem 884 rfl rfl, m_mem 886 rfl rfl, m_mem 41 rfl rfl⟩
set_option maxRecDepth 100000 in
theorem lkX7_178 : m_LV RX7 178 mX7_see 1 := ⟨mlX7_see, m_mem 876 rfl rfl, m_mem 878 rfl rfl, m_mem 39 rfl rfl⟩
set_option maxRecDepth 100000 in
theorem lkX7_182 : m_LV RX7 182 mX7_firstBroken 0 := ⟨mlX7_firstBroken, m_mem 880 rfl rfl, m_mem 882 rfl rfl, m_mem 40 rfl rfl⟩
set_option maxRecDepth 100000 in
theorem lkX7_186 : m_LV RX7 186 mX7_maskTable 1 := ⟨mlX7_maskTable, m_mem 900 rfl rfl, m_mem 902 rfl rfl, m_mem 44 rfl rfl⟩
set_option maxRecDepth 100000 in
theorem lkX7_189 : m_LV RX7 189 mX7_isRow 2 := ⟨mlX7_isRow, m_mem 935 rfl rfl, m_mem 937 rfl rfl, m_mem 51 rfl rfl⟩
set_option maxRecDepth 100000 in
theorem lkX7_192 : m_LV RX7 192 mX7_isPlain 2 := ⟨mlX7_isPlain, m_mem 975 rfl rfl, m_mem 977 rfl rfl, m_mem 55 rfl rfl⟩
set_option maxRecDepth 100000 in
theorem lkX7_195 : m_LV RX7 195 mX7_couldBe 4 := ⟨mlX7_couldBe, m_mem 971 rfl rfl, m_mem 973 rfl rfl, m_mem 54 rfl rfl⟩
set_option maxRecDepth 100000 in
theorem lkX7_199 : m_LV RX7 199 mX7_isKnown 2 := ⟨mlX7_isKnown, m_mem 963 rfl rfl, m_mem 965 rfl rfl, m_mem 52 rfl rfl⟩
set_option maxRecDepth 100000 in
theorem lkX7_202 : m_LV RX7 202 mX7_couldOf 3 := ⟨mlX7_couldOf, m_mem 967 rfl rfl, m_mem 969 rfl rfl, m_mem 53 rfl rfl⟩
set_option maxRecDepth 100000 in
theorem lkX7_205 : m_LV RX7 205 mX7_alikeOf 2 := ⟨mlX7_alikeOf, m_mem 983 rfl rfl, m_mem 985 rfl rfl, m_mem 56 rfl rfl⟩
set_option maxRecDepth 100000 in
theorem lkX7_208 : m_LV RX7 208 mX7_lossOf 2 := ⟨mlX7_lossOf, m_mem 995 rfl rfl, m_mem 997 rfl rfl, m_mem 57 rfl rfl⟩
set_option maxRecDepth 100000 in
theorem lkX7_211 : m_LS RX7 211 mX7_width 1 := ⟨mlX7_width, m_mem 1008 rfl rfl, Or.inl (m_mem 1007 rfl rfl)⟩
set_option maxRecDepth 100000 in
theorem lkX7_214 : m_LV RX7 214 mX7_gives 3 := ⟨mlX7_gives, m_mem 1003 rfl rfl, m_mem 1005 rfl rfl, m_mem 58 rfl rfl⟩
set_option maxRecDepth 100000 in
theorem lkX0_3 : Cond.methodLink RX0 3 Lib.objectInit ∈ m_tbl := m_mem 143 rfl rfl
set_option maxRecDepth 100000 in
theorem flX0_9 : m_FL RX0 9 0 0 := ⟨by decide, by decide, m_mem 144 rfl rfl⟩
set_option maxRecDepth 100000 in
theorem flX0_15 : m_FL RX0 15 0 1 := ⟨by decide, by decide, m_mem 147 rfl rfl⟩
set_option maxRecDepth 100000 in
theorem flX0_18 : m_FL RX0 18 0 2 := ⟨by decide, by decide, m_mem 150 rfl rfl⟩
set_option maxRecDepth 100000 in
theorem flX0_21 : m_FL RX0 21 0 3 := ⟨by decide, by decide, m_mem 153 rfl rfl⟩
set_option maxRecDepth 100000 in
theorem flX0_24 : m_FL RX0 24 0 4 := ⟨by decide, by decide, m_mem 155 rfl rfl⟩
set_option maxRecDepth 100000 in
theorem flX0_27 : m_FL RX0 27 0 5 := ⟨by decide, by decide, m_mem 157 rfl rfl⟩
set_option maxRecDepth 100000 in
theorem lkX1_3 : Cond.methodLink RX1 3 Lib.objectInit ∈ m_tbl := m_mem 87 rfl rfl
set_option maxRecDepth 100000 in
theorem flX1_9 : m_FL RX1 9 1 0 := ⟨by decide, by decide, m_mem 88 rfl rfl⟩
set_option maxRecDepth 100000 in
theorem lkX1_15 : m_LS RX1 15 mX1_placeOf 3 := ⟨mlX1_placeOf, m_mem 324 rfl rfl, Or.inl (m_mem 323 rfl rfl)⟩
set_option maxRecDepth 100000 in
theorem lkX2_3 : Cond.methodLink RX2 3 Lib.objectInit ∈ m_tbl := m_mem 98 rfl rfl
set_option maxRecDepth 100000 in
theorem flX2_9 : m_FL RX2 9 2 0 := ⟨by decide, by decide, m_mem 99 rfl rfl⟩
set_option maxRecDepth 100000 in
theorem flX2_15 : m_FL RX2 15 2 1 := ⟨by decide, by decide, m_mem 100 rfl rfl⟩
set_option maxRecDepth 100000 in
theorem lkX2_18 : Cond.methodLink RX2 18 Lib.Math.min.name ∈ m_tbl := m_mem 473 rfl rfl
set_option maxRecDepth 100000 in
theorem lkX3_3 : Cond.methodLink RX3 3 Lib.objectInit ∈ m_tbl := m_mem 198 rfl rfl
set_option maxRecDepth 100000 in
theorem flX3_9 : m_FL RX3 9 3 0 := ⟨by decide, by decide, m_mem 199 rfl rfl⟩
set_option maxRecDepth 100000 in
theorem flX3_15 : m_FL RX3 15 3 1 := ⟨by decide, by decide, m_mem 201 rfl rfl⟩
set_option maxRecDepth 100000 in
theorem flX3_18 : m_FL RX3 18 3 2 := ⟨by decide, by decide, m_mem 203 rfl rfl⟩
set_option maxRecDepth 100000 in
theorem flX3_21 : m_FL RX3 21 3 3 := ⟨by decide, by decide, m_mem 205 rfl rfl⟩
set_option maxRecDepth 100000 in
theorem flX3_24 : m_FL RX3 24 3 4 := ⟨by decide, by decide, m_mem 207 rfl rfl⟩
set_option maxRecDepth 100000 in
theorem flX3_27 : m_FL RX3 27 3 5 := ⟨by decide, by decide, m_mem 209 rfl rfl⟩
set_option maxRecDepth 100000 in
theorem flX3_30 : m_FL RX3 30 3 6 := ⟨by decide, by decide, m_mem 211 rfl rfl⟩
set_option maxRecDepth 100000 in
theorem lkX4_3 : Cond.methodLink RX4 3 Lib.objectInit ∈ m_tbl := m_mem 136 rfl rfl
set_option maxRecDepth 100000 in
theorem flX4_11 : m_FL RX4 11 4 0 := ⟨by decide, by decide, m_mem 172 rfl rfl⟩
set_option maxRecDepth 100000 in
theorem flX4_17 : m_FL RX4 17 4 1 := ⟨by decide, by decide, m_mem 173 rfl rfl⟩
set_option maxRecDepth 100000 in
theorem flX4_21 : m_FL RX4 21 4 2 := ⟨by decide, by decide, m_mem 174 rfl rfl⟩
set_option maxRecDepth 100000 in
theorem flX4_24 : m_FL RX4 24 4 3 := ⟨by decide, by decide, m_mem 175 rfl rfl⟩
set_option maxRecDepth 100000 in
theorem flX4_28 : m_FL RX4 28 4 4 := ⟨by decide, by decide, m_mem 177 rfl rfl⟩
set_option maxRecDepth 100000 in
theorem flX4_31 : m_FL RX4 31 4 5 := ⟨by decide, by decide, m_mem 179 rfl rfl⟩
set_option maxRecDepth 100000 in
theorem lkX4_34 : m_LI RX4 34 mX0_init 0 := ⟨mlX0_init, rfl, rfl, m_mem 141 rfl rfl, Or.inr ⟨_, List.mem_of_getElem? (i := 4) rfl⟩⟩
set_option maxRecDepth 100000 in
theorem flX4_35 : m_FL RX4 35 0 0 := ⟨by decide, by decide, m_mem 145 rfl rfl⟩
set_option maxRecDepth 100000 in
theorem flX4_38 : m_FL RX4 38 0 1 := ⟨by decide, by decide, m_mem 148 rfl rfl⟩
set_option maxRecDepth 100000 in
theorem lkX4_41 : m_LV RX4 41 mX4_columnNumbered 1 := ⟨mlX4_columnNumbered, m_mem 447 rfl rfl, m_mem 297 rfl rfl, m_mem 298 rfl rfl⟩
set_option maxRecDepth 100000 in
theorem flX4_45 : m_FL RX4 45 0 2 := ⟨by decide, by decide, m_mem 151 rfl rfl⟩
set_option maxRecDepth 100000 in
theorem lkX4_48 : m_LV RX4 48 mX4_isShifted 1 := ⟨mlX4_isShifted, m_mem 443 rfl rfl, m_mem 444 rfl rfl, m_mem 445 rfl rfl⟩
set_option maxRecDepth 100000 in
theorem lkX4_52 : m_LS RX4 52 mX6_rightFigure 1 := ⟨mlX6_rightFigure, m_mem 309 rfl rfl, Or.inr ⟨_, List.mem_of_getElem? (i := 5) rfl⟩⟩
set_option maxRecDepth 100000 in
theorem lkX5_3 : Cond.methodLink RX5 3 Lib.objectInit ∈ m_tbl := m_mem 111 rfl rfl
set_option maxRecDepth 100000 in
theorem flX5_9 : m_FL RX5 9 5 0 := ⟨by decide, by decide, m_mem 112 rfl rfl⟩
set_option maxRecDepth 100000 in
theorem flX5_15 : m_FL RX5 15 5 1 := ⟨by decide, by decide, m_mem 113 rfl rfl⟩
set_option maxRecDepth 100000 in
theorem flX5_18 : m_FL RX5 18 5 2 := ⟨by decide, by decide, m_mem 114 rfl rfl⟩
set_option maxRecDepth 100000 in
theorem flX5_21 : m_FL RX5 21 5 3 := ⟨by decide, by decide, m_mem 115 rfl rfl⟩
set_option maxRecDepth 100000 in
theorem flX5_24 : m_FL RX5 24 5 4 := ⟨by decide, by decide, m_mem 116 rfl rfl⟩
set_option maxRecDepth 100000 in
theorem flX5_28 : m_FL RX5 28 5 5 := ⟨by decide, by decide, m_mem 118 rfl rfl⟩
set_option maxRecDepth 100000 in
theorem lkX5_34 : Cond.methodLink RX5 34 Lib.Math.min.name ∈ m_tbl := m_mem 616 rfl rfl
set_option maxRecDepth 100000 in
theorem lkX5_40 : m_LV RX5 40 mX5_isChoice 2 := ⟨mlX5_isChoice, m_mem 634 rfl rfl, m_mem 636 rfl rfl, m_mem 32 rfl rfl⟩
set_option maxRecDepth 100000 in
theorem lkX5_44 : m_LV RX5 44 mX5_choiceOf 2 := ⟨mlX5_choiceOf, m_mem 661 rfl rfl, m_mem 662 rfl rfl, m_mem 663 rfl rfl⟩
set_option maxRecDepth 100000 in
theorem lkX5_47 : m_LS RX5 47 mJ6_bitCount 1 := ⟨mlJ6_bitCount, m_mem 582 rfl rfl, Or.inl (m_mem 669 rfl rfl)⟩
set_option maxRecDepth 100000 in
theorem lkX5_53 : m_LV RX5 53 mX5_lossOf 1 := ⟨mlX5_lossOf, m_mem 657 rfl rfl, m_mem 658 rfl rfl, m_mem 659 rfl rfl⟩
set_option maxRecDepth 100000 in
theorem lkX5_56 : m_LV RX5 56 mX5_isSafe 2 := ⟨mlX5_isSafe, m_mem 665 rfl rfl, m_mem 667 rfl rfl, m_mem 34 rfl rfl⟩
set_option maxRecDepth 100000 in
theorem lkL_9 : m_LI RL 9 mX6_init 0 := ⟨mlX6_init, rfl, rfl, m_mem 73 rfl rfl, Or.inl (m_mem 72 rfl rfl)⟩
set_option maxRecDepth 100000 in
theorem lkL_12 : m_LI RL 12 mX7_init 0 := ⟨mlX7_init, rfl, rfl, m_mem 687 rfl rfl, Or.inl (m_mem 686 rfl rfl)⟩
set_option maxRecDepth 100000 in
theorem lkL_13 : m_LV RL 13 mX6_table 0 := ⟨mlX6_table, m_mem 268 rfl rfl, m_mem 269 rfl rfl, m_mem 270 rfl rfl⟩
set_option maxRecDepth 100000 in
theorem lkL_17 : m_LV RL 17 mX7_table 0 := ⟨mlX7_table, m_mem 784 rfl rfl, m_mem 785 rfl rfl, m_mem 786 rfl rfl⟩
set_option maxRecDepth 100000 in
theorem lkL_18 : m_LV RL 18 mX6_column 3 := ⟨mlX6_column, m_mem 272 rfl rfl, m_mem 273 rfl rfl, m_mem 274 rfl rfl⟩
set_option maxRecDepth 100000 in
theorem lkL_22 : m_LV RL 22 mX7_column 3 := ⟨mlX7_column, m_mem 792 rfl rfl, m_mem 793 rfl rfl, m_mem 794 rfl rfl⟩
set_option maxRecDepth 100000 in
theorem lkL_23 : m_LV RL 23 mX6_cell 1 := ⟨mlX6_cell, m_mem 284 rfl rfl, m_mem 285 rfl rfl, m_mem 286 rfl rfl⟩
set_option maxRecDepth 100000 in
theorem lkL_27 : m_LV RL 27 mX7_cell_ 1 := ⟨mlX7_cell_, m_mem 803 rfl rfl, m_mem 804 rfl rfl, m_mem 805 rfl rfl⟩
set_option maxRecDepth 100000 in
theorem lkL_28 : m_LV RL 28 mX6_row 1 := ⟨mlX6_row, m_mem 288 rfl rfl, m_mem 289 rfl rfl, m_mem 290 rfl rfl⟩
set_option maxRecDepth 100000 in
theorem lkL_31 : m_LV RL 31 mX7_row 1 := ⟨mlX7_row, m_mem 811 rfl rfl, m_mem 812 rfl rfl, m_mem 813 rfl rfl⟩
set_option maxRecDepth 100000 in
theorem lkL_32 : m_LV RL 32 mX6_wipe 0 := ⟨mlX6_wipe, m_mem 331 rfl rfl, m_mem 332 rfl rfl, m_mem 333 rfl rfl⟩
set_option maxRecDepth 100000 in
theorem lkL_35 : m_LV RL 35 mX7_wipe 0 := ⟨mlX7_wipe, m_mem 807 rfl rfl, m_mem 808 rfl rfl, m_mem 809 rfl rfl⟩
set_option maxRecDepth 100000 in
theorem lkL_36 : m_LV RL 36 mX6_owner 2 := ⟨mlX6_owner, m_mem 335 rfl rfl, m_mem 336 rfl rfl, m_mem 337 rfl rfl⟩
set_option maxRecDepth 100000 in
theorem lkL_40 : m_LV RL 40 mX7_owner 2 := ⟨mlX7_owner, m_mem 829 rfl rfl, m_mem 830 rfl rfl, m_mem 831 rfl rfl⟩
set_option maxRecDepth 100000 in
theorem lkL_41 : m_LV RL 41 mX6_mask 4 := ⟨mlX6_mask, m_mem 343 rfl rfl, m_mem 344 rfl rfl, m_mem 345 rfl rfl⟩
set_option maxRecDepth 100000 in
theorem lkL_45 : m_LV RL 45 mX7_mask 4 := ⟨mlX7_mask, m_mem 837 rfl rfl, m_mem 838 rfl rfl, m_mem 839 rfl rfl⟩
set_option maxRecDepth 100000 in
theorem lkL_46 : m_LV RL 46 mX6_dial 5 := ⟨mlX6_dial, m_mem 353 rfl rfl, m_mem 354 rfl rfl, m_mem 355 rfl rfl⟩
set_option maxRecDepth 100000 in
theorem lkL_50 : m_LV RL 50 mX7_dial 5 := ⟨mlX7_dial, m_mem 844 rfl rfl, m_mem 845 rfl rfl, m_mem 846 rfl rfl⟩
set_option maxRecDepth 100000 in
theorem lkL_51 : m_LV RL 51 mX6_seed 1 := ⟨mlX6_seed, m_mem 364 rfl rfl, m_mem 365 rfl rfl, m_mem 366 rfl rfl⟩
set_option maxRecDepth 100000 in
theorem lkL_54 : m_LV RL 54 mX7_seed 1 := ⟨mlX7_seed, m_mem 848 rfl rfl, m_mem 849 rfl rfl, m_mem 850 rfl rfl⟩
set_option maxRecDepth 100000 in
theorem lkL_55 : m_LV RL 55 mX6_order 3 := ⟨mlX6_order, m_mem 368 rfl rfl, m_mem 369 rfl rfl, m_mem 370 rfl rfl⟩
set_option maxRecDepth 100000 in
theorem lkL_58 : m_LV RL 58 mX7_order 3 := ⟨mlX7_order, m_mem 852 rfl rfl, m_mem 853 rfl rfl, m_mem 854 rfl rfl⟩
set_option maxRecDepth 100000 in
theorem lkL_59 : m_LV RL 59 mX6_agree 6 := ⟨mlX6_agree, m_mem 384 rfl rfl, m_mem 385 rfl rfl, m_mem 386 rfl rfl⟩
set_option maxRecDepth 100000 in
theorem lkL_63 : m_LV RL 63 mX7_agree 6 := ⟨mlX7_agree, m_mem 860 rfl rfl, m_mem 861 rfl rfl, m_mem 862 rfl rfl⟩
set_option maxRecDepth 100000 in
theorem lkL_64 : m_LV RL 64 mX6_found 2 := ⟨mlX6_found, m_mem 395 rfl rfl, m_mem 396 rfl rfl, m_mem 397 rfl rfl⟩
set_option maxRecDepth 100000 in
theorem lkL_67 : m_LV RL 67 mX7_found 2 := ⟨mlX7_found, m_mem 864 rfl rfl, m_mem 865 rfl rfl, m_mem 866 rfl rfl⟩
set_option maxRecDepth 100000 in
theorem lkL_68 : m_LV RL 68 mX6_unrule 0 := ⟨mlX6_unrule, m_mem 403 rfl rfl, m_mem 404 rfl rfl, m_mem 405 rfl rfl⟩
set_option maxRecDepth 100000 in
theorem lkL_71 : m_LV RL 71 mX7_unrule 0 := ⟨mlX7_unrule, m_mem 868 rfl rfl, m_mem 869 rfl rfl, m_mem 870 rfl rfl⟩
set_option maxRecDepth 100000 in
theorem lkL_72 : m_LV RL 72 mX6_broken 1 := ⟨mlX6_broken, m_mem 407 rfl rfl, m_mem 408 rfl rfl, m_mem 409 rfl rfl⟩
set_option maxRecDepth 100000 in
theorem lkL_75 : m_LV RL 75 mX7_broken 1 := ⟨mlX7_broken, m_mem 872 rfl rfl, m_mem 873 rfl rfl, m_mem 874 rfl rfl⟩
set_option maxRecDepth 100000 in
theorem lkL_76 : m_LV RL 76 mX6_make 0 := ⟨mlX6_make, m_mem 431 rfl rfl, m_mem 432 rfl rfl, m_mem 433 rfl rfl⟩
set_option maxRecDepth 100000 in
theorem lkL_79 : m_LV RL 79 mX7_make 0 := ⟨mlX7_make, m_mem 896 rfl rfl, m_mem 897 rfl rfl, m_mem 898 rfl rfl⟩
set_option maxRecDepth 100000 in
theorem lkL_80 : m_LV RL 80 mX6_at 4 := ⟨mlX6_at, m_mem 519 rfl rfl, m_mem 520 rfl rfl, m_mem 521 rfl rfl⟩
set_option maxRecDepth 100000 in
theorem lkL_83 : m_LV RL 83 mX7_at 4 := ⟨mlX7_at, m_mem 931 rfl rfl, m_mem 932 rfl rfl, m_mem 933 rfl rfl⟩
set_option maxRecDepth 100000 in
theorem lkL_84 : m_LV RL 84 mX6_turned 3 := ⟨mlX6_turned, m_mem 527 rfl rfl, m_mem 528 rfl rfl, m_mem 529 rfl rfl⟩
set_option maxRecDepth 100000 in
theorem lkL_87 : m_LV RL 87 mX7_turned 3 := ⟨mlX7_turned, m_mem 939 rfl rfl, m_mem 940 rfl rfl, m_mem 941 rfl rfl⟩
set_option maxRecDepth 100000 in
theorem lkL_88 : m_LV RL 88 mX6_shift 1 := ⟨mlX6_shift, m_mem 531 rfl rfl, m_mem 532 rfl rfl, m_mem 533 rfl rfl⟩
set_option maxRecDepth 100000 in
theorem lkL_91 : m_LV RL 91 mX7_shift 1 := ⟨mlX7_shift, m_mem 943 rfl rfl, m_mem 944 rfl rfl, m_mem 945 rfl rfl⟩
set_option maxRecDepth 100000 in
theorem lkL_92 : m_LV RL 92 mX6_count 4 := ⟨mlX6_count, m_mem 535 rfl rfl, m_mem 536 rfl rfl, m_mem 537 rfl rfl⟩
set_option maxRecDepth 100000 in
theorem lkL_95 : m_LV RL 95 mX7_count 4 := ⟨mlX7_count, m_mem 947 rfl rfl, m_mem 948 rfl rfl, m_mem 949 rfl rfl⟩
set_option maxRecDepth 100000 in
theorem lkL_96 : m_LV RL 96 mX6_joins 3 := ⟨mlX6_joins, m_mem 539 rfl rfl, m_mem 540 rfl rfl, m_mem 541 rfl rfl⟩
set_option maxRecDepth 100000 in
theorem lkL_99 : m_LV RL 99 mX7_joins 3 := ⟨mlX7_joins, m_mem 951 rfl rfl, m_mem 952 rfl rfl, m_mem 953 rfl rfl⟩
set_option maxRecDepth 100000 in
theorem lkL_100 : m_LV RL 100 mX6_miss 2 := ⟨mlX6_miss, m_mem 543 rfl rfl, m_mem 544 rfl rfl, m_mem 545 rfl rfl⟩
set_option maxRecDepth 100000 in
theorem lkL_103 : m_LV RL 103 mX7_miss 2 := ⟨mlX7_miss, m_mem 955 rfl rfl, m_mem 956 rfl rfl, m_mem 957 rfl rfl⟩
set_option maxRecDepth 100000 in
theorem lkL_104 : m_LV RL 104 mX6_could 3 := ⟨mlX6_could, m_mem 550 rfl rfl, m_mem 551 rfl rfl, m_mem 552 rfl rfl⟩
set_option maxRecDepth 100000 in
theorem lkL_107 : m_LV RL 107 mX7_could 3 := ⟨mlX7_could, m_mem 959 rfl rfl, m_mem 960 rfl rfl, m_mem 961 rfl rfl⟩
set_option maxRecDepth 100000 in
theorem lkL_108 : m_LV RL 108 mX6_alike 2 := ⟨mlX6_alike, m_mem 587 rfl rfl, m_mem 588 rfl rfl, m_mem 589 rfl rfl⟩
set_option maxRecDepth 100000 in
theorem lkL_111 : m_LV RL 111 mX7_alike 2 := ⟨mlX7_alike, m_mem 979 rfl rfl, m_mem 980 rfl rfl, m_mem 981 rfl rfl⟩
set_option maxRecDepth 100000 in
theorem lkL_112 : m_LV RL 112 mX6_sure 4 := ⟨mlX6_sure, m_mem 592 rfl rfl, m_mem 593 rfl rfl, m_mem 594 rfl rfl⟩
set_option maxRecDepth 100000 in
theorem lkL_115 : m_LV RL 115 mX7_sure 4 := ⟨mlX7_sure, m_mem 987 rfl rfl, m_mem 988 rfl rfl, m_mem 989 rfl rfl⟩
set_option maxRecDepth 100000 in
theorem lkL_116 : m_LV RL 116 mX6_loss 2 := ⟨mlX6_loss, m_mem 596 rfl rfl, m_mem 597 rfl rfl, m_mem 598 rfl rfl⟩
set_option maxRecDepth 100000 in
theorem lkL_119 : m_LV RL 119 mX7_loss 2 := ⟨mlX7_loss, m_mem 991 rfl rfl, m_mem 992 rfl rfl, m_mem 993 rfl rfl⟩
set_option maxRecDepth 100000 in
theorem lkL_120 : m_LV RL 120 mX6_best 3 := ⟨mlX6_best, m_mem 604 rfl rfl, m_mem 605 rfl rfl, m_mem 606 rfl rfl⟩
set_option maxRecDepth 100000 in
theorem lkL_123 : m_LV RL 123 mX7_best 3 := ⟨mlX7_best, m_mem 999 rfl rfl, m_mem 1000 rfl rfl, m_mem 1001 rfl rfl⟩
set_option maxRecDepth 100000 in
theorem lkL_124 : m_LV RL 124 mX6_about 3 := ⟨mlX6_about, m_mem 676 rfl rfl, m_mem 677 rfl rfl, m_mem 678 rfl rfl⟩
set_option maxRecDepth 100000 in
theorem lkL_127 : m_LV RL 127 mX7_about 3 := ⟨mlX7_about, m_mem 1010 rfl rfl, m_mem 1011 rfl rfl, m_mem 1012 rfl rfl⟩
set_option maxRecDepth 100000 in
theorem lkL_128 : m_LV RL 128 mX6_all 1 := ⟨mlX6_all, m_mem 680 rfl rfl, m_mem 681 rfl rfl, m_mem 682 rfl rfl⟩
set_option maxRecDepth 100000 in
theorem lkL_131 : m_LV RL 131 mX7_all 1 := ⟨mlX7_all, m_mem 1014 rfl rfl, m_mem 1015 rfl rfl, m_mem 1016 rfl rfl⟩
set_option maxRecDepth 100000 in
theorem wS_min : Cond.static Lib.Math.min.name ∈ m_tbl := m_mem 474 rfl rfl
set_option maxRecDepth 100000 in
theorem wC_min : Cond.code Lib.Math.min.name Lib.Math.min.code 2 (some .int) ∈ m_tbl := m_mem 475 rfl rfl
set_option maxRecDepth 100000 in
theorem wS_abs : Cond.static Lib.Math.abs.name ∈ m_tbl := m_mem 548 rfl rfl
set_option maxRecDepth 100000 in
theorem wC_abs : Cond.code Lib.Math.abs.name Lib.Math.abs.code 1 (some .int) ∈ m_tbl := m_mem 549 rfl rfl
set_option maxRecDepth 100000 in
theorem wI_Math : Cond.initialized "java/lang/Math" ∈ m_tbl := m_mem 68 rfl rfl
set_option maxRecDepth 100000 in
theorem wI_obj : Cond.instanceMethod Lib.objectInit ∈ m_tbl := m_mem 76 rfl rfl
set_option maxRecDepth 100000 in
theorem wC_obj : Cond.code Lib.objectInit ⟨#[0xb1]⟩ 1 none ∈ m_tbl := m_mem 77 rfl rfl
set_option maxRecDepth 100000 in
theorem kcX6_179 : Cond.constant RX6 179 (-2147483648) ∈ m_tbl := m_mem 300 rfl rfl
set_option maxRecDepth 100000 in
theorem kcX6_252 : Cond.constant RX6 252 (99999) ∈ m_tbl := m_mem 307 rfl rfl
set_option maxRecDepth 100000 in
theorem kcX1_19 : Cond.constant RX1 19 (-2147483648) ∈ m_tbl := m_mem 326 rfl rfl
set_option maxRecDepth 100000 in
theorem kcX7_103 : Cond.constant RX7 103 (99999) ∈ m_tbl := m_mem 822 rfl rfl
set_option maxRecDepth 100000 in
theorem kcX7_119 : Cond.constant RX7 119 (-2147483648) ∈ m_tbl := m_mem 818 rfl rfl
set_option maxRecDepth 100000 in
theorem kcJ6_265 : Cond.constant RJ6 265 (1431655765) ∈ m_tbl := m_mem 584 rfl rfl
set_option maxRecDepth 100000 in
theorem kcJ6_266 : Cond.constant RJ6 266 (858993459) ∈ m_tbl := m_mem 585 rfl rfl
set_option maxRecDepth 100000 in
theorem kcJ6_267 : Cond.constant RJ6 267 (252645135) ∈ m_tbl := m_mem 586 rfl rfl
set_option maxRecDepth 100000 in
theorem klX6_11 : Cond.classLink RX6 11 RX4 ∈ m_tbl := m_mem 78 rfl rfl
set_option maxRecDepth 100000 in
theorem klX6_17 : Cond.classLink RX6 17 RX3 ∈ m_tbl := m_mem 80 rfl rfl
set_option maxRecDepth 100000 in
theorem klX6_27 : Cond.classLink RX6 27 RX1 ∈ m_tbl := m_mem 82 rfl rfl
set_option maxRecDepth 100000 in
theorem klX6_34 : Cond.classLink RX6 34 RX2 ∈ m_tbl := m_mem 93 rfl rfl
set_option maxRecDepth 100000 in
theorem klX6_41 : Cond.classLink RX6 41 RX5 ∈ m_tbl := m_mem 106 rfl rfl
set_option maxRecDepth 100000 in
theorem klX4_9 : Cond.classLink RX4 9 RX0 ∈ m_tbl := m_mem 137 rfl rfl
set_option maxRecDepth 100000 in
theorem klL_7 : Cond.classLink RL 7 RX6 ∈ m_tbl := m_mem 70 rfl rfl
set_option maxRecDepth 100000 in
theorem klL_10 : Cond.classLink RL 10 RX7 ∈ m_tbl := m_mem 684 rfl rfl
set_option maxRecDepth 100000 in
theorem kn_0 : Cond.instantiable (m_R 0) (m_nF 0) ∈ m_tbl := m_mem 139 rfl rfl
set_option maxRecDepth 100000 in
theorem ki_0 : Cond.initialized (m_R 0) ∈ m_tbl := m_mem 65 rfl rfl
set_option maxRecDepth 100000 in
theorem kn_1 : Cond.instantiable (m_R 1) (m_nF 1) ∈ m_tbl := m_mem 83 rfl rfl
set_option maxRecDepth 100000 in
theorem ki_1 : Cond.initialized (m_R 1) ∈ m_tbl := m_mem 61 rfl rfl
set_option maxRecDepth 100000 in
theorem kn_2 : Cond.instantiable (m_R 2) (m_nF 2) ∈ m_tbl := m_mem 94 rfl rfl
set_option maxRecDepth 100000 in
theorem ki_2 : Cond.initialized (m_R 2) ∈ m_tbl := m_mem 62 rfl rfl
set_option maxRecDepth 100000 in
theorem kn_3 : Cond.instantiable (m_R 3) (m_nF 3) ∈ m_tbl := m_mem 194 rfl rfl
set_option maxRecDepth 100000 in
theorem ki_3 : Cond.initialized (m_R 3) ∈ m_tbl := m_mem 66 rfl rfl
set_option maxRecDepth 100000 in
theorem kn_4 : Cond.instantiable (m_R 4) (m_nF 4) ∈ m_tbl := m_mem 132 rfl rfl
set_option maxRecDepth 100000 in
theorem ki_4 : Cond.initialized (m_R 4) ∈ m_tbl := m_mem 64 rfl rfl
set_option maxRecDepth 100000 in
theorem kn_5 : Cond.instantiable (m_R 5) (m_nF 5) ∈ m_tbl := m_mem 107 rfl rfl
set_option maxRecDepth 100000 in
theorem ki_5 : Cond.initialized (m_R 5) ∈ m_tbl := m_mem 63 rfl rfl
set_option maxRecDepth 100000 in
theorem kn_6 : Cond.instantiable (m_R 6) (m_nF 6) ∈ m_tbl := m_mem 71 rfl rfl
set_option maxRecDepth 100000 in
theorem ki_6 : Cond.initialized (m_R 6) ∈ m_tbl := m_mem 60 rfl rfl
set_option maxRecDepth 100000 in
theorem kn_7 : Cond.instantiable (m_R 7) (m_nF 7) ∈ m_tbl := m_mem 685 rfl rfl
set_option maxRecDepth 100000 in
theorem ki_7 : Cond.initialized (m_R 7) ∈ m_tbl := m_mem 67 rfl rfl
set_option maxRecDepth 100000 in
theorem ka_0 : Cond.arrayClass (m_at_ty 0) ∈ m_tbl := m_mem 92 rfl rfl
set_option maxRecDepth 100000 in
theorem ka_1 : Cond.arrayClass (m_at_ty 1) ∈ m_tbl := m_mem 783 rfl rfl
set_option maxRecDepth 100000 in
theorem kw_31 : Cond.fieldLink RX5 31 "MaskedCopies$WidthSearch" "WIDTHS" "[I" ∈ m_tbl := m_mem 628 rfl rfl
end

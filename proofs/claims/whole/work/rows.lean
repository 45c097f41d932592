section
-- ===== PART A: goes FIRST, ahead of the names: the tables' words, and 'selects' of the private methods out of them =====
/-- a private method of a class that the tables say can be made, by its rows of tables_1 -/
def lw_okq (q : MethodName × Nat) : Prop := (q.1.cls ≠ "java/lang/invoke/MethodHandle" ∧ q.1.cls ≠ "java/lang/invoke/VarHandle") ∧ Cond.instantiable q.1.cls q.2 ∈ tables_1 ∧ Cond.privateMethod q.1 ∈ tables_1 ∧ Cond.instanceMethod q.1 ∈ tables_1
theorem lw_p0 : lw_okq (⟨"MaskedCopies", "tableAt", "(I)LMaskedCopies$Table;"⟩, 13) := ⟨⟨by decide +kernel, by decide +kernel⟩, List.mem_of_getElem? (i := 12) (by decide +kernel), List.mem_of_getElem? (i := 218) (by decide +kernel), List.mem_of_getElem? (i := 219) (by decide +kernel)⟩
theorem lw_p1 : lw_okq (⟨"MaskedCopies", "waitingCellsFit", "(LMaskedCopies$Table;)Z"⟩, 13) := ⟨⟨by decide +kernel, by decide +kernel⟩, List.mem_of_getElem? (i := 12) (by decide +kernel), List.mem_of_getElem? (i := 234) (by decide +kernel), List.mem_of_getElem? (i := 235) (by decide +kernel)⟩
theorem lw_p2 : lw_okq (⟨"MaskedCopies", "rowsWith", "(LMaskedCopies$Copy;III)I"⟩, 13) := ⟨⟨by decide +kernel, by decide +kernel⟩, List.mem_of_getElem? (i := 12) (by decide +kernel), List.mem_of_getElem? (i := 253) (by decide +kernel), List.mem_of_getElem? (i := 254) (by decide +kernel)⟩
theorem lw_p3 : lw_okq (⟨"MaskedCopies", "rowsOf", "(I)I"⟩, 13) := ⟨⟨by decide +kernel, by decide +kernel⟩, List.mem_of_getElem? (i := 12) (by decide +kernel), List.mem_of_getElem? (i := 257) (by decide +kernel), List.mem_of_getElem? (i := 258) (by decide +kernel)⟩
theorem lw_p4 : lw_okq (⟨"MaskedCopies", "columnAt", "(II)LMaskedCopies$Column;"⟩, 13) := ⟨⟨by decide +kernel, by decide +kernel⟩, List.mem_of_getElem? (i := 12) (by decide +kernel), List.mem_of_getElem? (i := 281) (by decide +kernel), List.mem_of_getElem? (i := 282) (by decide +kernel)⟩
theorem lw_p5 : lw_okq (⟨"MaskedCopies", "nextRule", "()LMaskedCopies$Rule;"⟩, 13) := ⟨⟨by decide +kernel, by decide +kernel⟩, List.mem_of_getElem? (i := 12) (by decide +kernel), List.mem_of_getElem? (i := 314) (by decide +kernel), List.mem_of_getElem? (i := 315) (by decide +kernel)⟩
theorem lw_p6 : lw_okq (⟨"MaskedCopies", "addRule", "()I"⟩, 13) := ⟨⟨by decide +kernel, by decide +kernel⟩, List.mem_of_getElem? (i := 12) (by decide +kernel), List.mem_of_getElem? (i := 322) (by decide +kernel), List.mem_of_getElem? (i := 323) (by decide +kernel)⟩
theorem lw_p7 : lw_okq (⟨"MaskedCopies", "copyOf", "(I)LMaskedCopies$Copy;"⟩, 13) := ⟨⟨by decide +kernel, by decide +kernel⟩, List.mem_of_getElem? (i := 12) (by decide +kernel), List.mem_of_getElem? (i := 353) (by decide +kernel), List.mem_of_getElem? (i := 354) (by decide +kernel)⟩
theorem lw_p8 : lw_okq (⟨"MaskedCopies", "firstBroken", "(LMaskedCopies$Copy;)I"⟩, 13) := ⟨⟨by decide +kernel, by decide +kernel⟩, List.mem_of_getElem? (i := 12) (by decide +kernel), List.mem_of_getElem? (i := 357) (by decide +kernel), List.mem_of_getElem? (i := 358) (by decide +kernel)⟩
theorem lw_p9 : lw_okq (⟨"MaskedCopies", "ruleHolds", "(LMaskedCopies$Rule;LMaskedCopies$Copy;)Z"⟩, 13) := ⟨⟨by decide +kernel, by decide +kernel⟩, List.mem_of_getElem? (i := 12) (by decide +kernel), List.mem_of_getElem? (i := 361) (by decide +kernel), List.mem_of_getElem? (i := 362) (by decide +kernel)⟩
theorem lw_p10 : lw_okq (⟨"MaskedCopies", "holdsInRow", "(LMaskedCopies$Rule;LMaskedCopies$Copy;I)Z"⟩, 13) := ⟨⟨by decide +kernel, by decide +kernel⟩, List.mem_of_getElem? (i := 12) (by decide +kernel), List.mem_of_getElem? (i := 365) (by decide +kernel), List.mem_of_getElem? (i := 366) (by decide +kernel)⟩
theorem lw_p11 : lw_okq (⟨"MaskedCopies", "partsOf", "(LMaskedCopies$Rule;LMaskedCopies$Copy;I)I"⟩, 13) := ⟨⟨by decide +kernel, by decide +kernel⟩, List.mem_of_getElem? (i := 12) (by decide +kernel), List.mem_of_getElem? (i := 369) (by decide +kernel), List.mem_of_getElem? (i := 370) (by decide +kernel)⟩
theorem lw_p12 : lw_okq (⟨"MaskedCopies", "draftMasked", "(I)V"⟩, 13) := ⟨⟨by decide +kernel, by decide +kernel⟩, List.mem_of_getElem? (i := 12) (by decide +kernel), List.mem_of_getElem? (i := 377) (by decide +kernel), List.mem_of_getElem? (i := 378) (by decide +kernel)⟩
theorem lw_p13 : lw_okq (⟨"MaskedCopies", "ownerOf", "(II)I"⟩, 13) := ⟨⟨by decide +kernel, by decide +kernel⟩, List.mem_of_getElem? (i := 12) (by decide +kernel), List.mem_of_getElem? (i := 390) (by decide +kernel), List.mem_of_getElem? (i := 391) (by decide +kernel)⟩
theorem lw_p14 : lw_okq (⟨"MaskedCopies", "shiftOf", "(I)I"⟩, 13) := ⟨⟨by decide +kernel, by decide +kernel⟩, List.mem_of_getElem? (i := 12) (by decide +kernel), List.mem_of_getElem? (i := 394) (by decide +kernel), List.mem_of_getElem? (i := 395) (by decide +kernel)⟩
theorem lw_p15 : lw_okq (⟨"MaskedCopies", "narrowRoom", "(II)V"⟩, 13) := ⟨⟨by decide +kernel, by decide +kernel⟩, List.mem_of_getElem? (i := 12) (by decide +kernel), List.mem_of_getElem? (i := 402) (by decide +kernel), List.mem_of_getElem? (i := 403) (by decide +kernel)⟩
def lw_privs_1 : List (MethodName × Nat) := [(⟨"MaskedCopies", "tableAt", "(I)LMaskedCopies$Table;"⟩, 13), (⟨"MaskedCopies", "waitingCellsFit", "(LMaskedCopies$Table;)Z"⟩, 13), (⟨"MaskedCopies", "rowsWith", "(LMaskedCopies$Copy;III)I"⟩, 13), (⟨"MaskedCopies", "rowsOf", "(I)I"⟩, 13), (⟨"MaskedCopies", "columnAt", "(II)LMaskedCopies$Column;"⟩, 13), (⟨"MaskedCopies", "nextRule", "()LMaskedCopies$Rule;"⟩, 13), (⟨"MaskedCopies", "addRule", "()I"⟩, 13), (⟨"MaskedCopies", "copyOf", "(I)LMaskedCopies$Copy;"⟩, 13), (⟨"MaskedCopies", "firstBroken", "(LMaskedCopies$Copy;)I"⟩, 13), (⟨"MaskedCopies", "ruleHolds", "(LMaskedCopies$Rule;LMaskedCopies$Copy;)Z"⟩, 13), (⟨"MaskedCopies", "holdsInRow", "(LMaskedCopies$Rule;LMaskedCopies$Copy;I)Z"⟩, 13), (⟨"MaskedCopies", "partsOf", "(LMaskedCopies$Rule;LMaskedCopies$Copy;I)I"⟩, 13), (⟨"MaskedCopies", "draftMasked", "(I)V"⟩, 13), (⟨"MaskedCopies", "ownerOf", "(II)I"⟩, 13), (⟨"MaskedCopies", "shiftOf", "(I)I"⟩, 13), (⟨"MaskedCopies", "narrowRoom", "(II)V"⟩, 13)]
theorem lw_r1 : ∀ q ∈ lw_privs_1, lw_okq q := List.forall_mem_cons.mpr ⟨lw_p0, List.forall_mem_cons.mpr ⟨lw_p1, List.forall_mem_cons.mpr ⟨lw_p2, List.forall_mem_cons.mpr ⟨lw_p3, List.forall_mem_cons.mpr ⟨lw_p4, List.forall_mem_cons.mpr ⟨lw_p5, List.forall_mem_cons.mpr ⟨lw_p6, List.forall_mem_cons.mpr ⟨lw_p7, List.forall_mem_cons.mpr ⟨lw_p8, List.forall_mem_cons.mpr ⟨lw_p9, List.forall_mem_cons.mpr ⟨lw_p10, List.forall_mem_cons.mpr ⟨lw_p11, List.forall_mem_cons.mpr ⟨lw_p12, List.forall_mem_cons.mpr ⟨lw_p13, List.forall_mem_cons.mpr ⟨lw_p14, List.forall_mem_cons.mpr ⟨lw_p15, fun _ h => absurd h List.not_mem_nil⟩⟩⟩⟩⟩⟩⟩⟩⟩⟩⟩⟩⟩⟩⟩⟩
theorem lw_p16 : lw_okq (⟨"MaskedCopies", "narrowRoomByRow", "(LMaskedCopies$Table;II)V"⟩, 13) := ⟨⟨by decide +kernel, by decide +kernel⟩, List.mem_of_getElem? (i := 12) (by decide +kernel), List.mem_of_getElem? (i := 406) (by decide +kernel), List.mem_of_getElem? (i := 407) (by decide +kernel)⟩
theorem lw_p17 : lw_okq (⟨"MaskedCopies", "maskedCell", "(IIII)I"⟩, 13) := ⟨⟨by decide +kernel, by decide +kernel⟩, List.mem_of_getElem? (i := 12) (by decide +kernel), List.mem_of_getElem? (i := 422) (by decide +kernel), List.mem_of_getElem? (i := 423) (by decide +kernel)⟩
theorem lw_p18 : lw_okq (⟨"MaskedCopies", "dealtCell", "(IIII)I"⟩, 13) := ⟨⟨by decide +kernel, by decide +kernel⟩, List.mem_of_getElem? (i := 12) (by decide +kernel), List.mem_of_getElem? (i := 426) (by decide +kernel), List.mem_of_getElem? (i := 427) (by decide +kernel)⟩
theorem lw_p19 : lw_okq (⟨"MaskedCopies", "turnedRef", "(II)I"⟩, 13) := ⟨⟨by decide +kernel, by decide +kernel⟩, List.mem_of_getElem? (i := 12) (by decide +kernel), List.mem_of_getElem? (i := 430) (by decide +kernel), List.mem_of_getElem? (i := 431) (by decide +kernel)⟩
theorem lw_p20 : lw_okq (⟨"MaskedCopies", "mendDraft", "()V"⟩, 13) := ⟨⟨by decide +kernel, by decide +kernel⟩, List.mem_of_getElem? (i := 12) (by decide +kernel), List.mem_of_getElem? (i := 453) (by decide +kernel), List.mem_of_getElem? (i := 454) (by decide +kernel)⟩
theorem lw_p21 : lw_okq (⟨"MaskedCopies", "mendColumn", "(LMaskedCopies$Rule;)V"⟩, 13) := ⟨⟨by decide +kernel, by decide +kernel⟩, List.mem_of_getElem? (i := 12) (by decide +kernel), List.mem_of_getElem? (i := 457) (by decide +kernel), List.mem_of_getElem? (i := 458) (by decide +kernel)⟩
theorem lw_p22 : lw_okq (⟨"MaskedCopies", "isRow", "(II)Z"⟩, 13) := ⟨⟨by decide +kernel, by decide +kernel⟩, List.mem_of_getElem? (i := 12) (by decide +kernel), List.mem_of_getElem? (i := 465) (by decide +kernel), List.mem_of_getElem? (i := 466) (by decide +kernel)⟩
theorem lw_p23 : lw_okq (⟨"MaskedCopies", "areColumns", "(II)Z"⟩, 13) := ⟨⟨by decide +kernel, by decide +kernel⟩, List.mem_of_getElem? (i := 12) (by decide +kernel), List.mem_of_getElem? (i := 496) (by decide +kernel), List.mem_of_getElem? (i := 497) (by decide +kernel)⟩
theorem lw_p24 : lw_okq (⟨"MaskedCopies", "columnsOf", "(I)I"⟩, 13) := ⟨⟨by decide +kernel, by decide +kernel⟩, List.mem_of_getElem? (i := 12) (by decide +kernel), List.mem_of_getElem? (i := 500) (by decide +kernel), List.mem_of_getElem? (i := 501) (by decide +kernel)⟩
theorem lw_p25 : lw_okq (⟨"MaskedCopies", "couldSet", "(III)I"⟩, 13) := ⟨⟨by decide +kernel, by decide +kernel⟩, List.mem_of_getElem? (i := 12) (by decide +kernel), List.mem_of_getElem? (i := 504) (by decide +kernel), List.mem_of_getElem? (i := 505) (by decide +kernel)⟩
theorem lw_p26 : lw_okq (⟨"MaskedCopies", "looksSame", "(IIII)Z"⟩, 13) := ⟨⟨by decide +kernel, by decide +kernel⟩, List.mem_of_getElem? (i := 12) (by decide +kernel), List.mem_of_getElem? (i := 508) (by decide +kernel), List.mem_of_getElem? (i := 509) (by decide +kernel)⟩
theorem lw_p27 : lw_okq (⟨"MaskedCopies", "isPlain", "(II)Z"⟩, 13) := ⟨⟨by decide +kernel, by decide +kernel⟩, List.mem_of_getElem? (i := 12) (by decide +kernel), List.mem_of_getElem? (i := 515) (by decide +kernel), List.mem_of_getElem? (i := 516) (by decide +kernel)⟩
theorem lw_p28 : lw_okq (⟨"MaskedCopies", "movesSame", "(IIII)Z"⟩, 13) := ⟨⟨by decide +kernel, by decide +kernel⟩, List.mem_of_getElem? (i := 12) (by decide +kernel), List.mem_of_getElem? (i := 519) (by decide +kernel), List.mem_of_getElem? (i := 520) (by decide +kernel)⟩
theorem lw_p29 : lw_okq (⟨"MaskedCopies", "lossBy", "(III)I"⟩, 13) := ⟨⟨by decide +kernel, by decide +kernel⟩, List.mem_of_getElem? (i := 12) (by decide +kernel), List.mem_of_getElem? (i := 542) (by decide +kernel), List.mem_of_getElem? (i := 543) (by decide +kernel)⟩
theorem lw_p30 : lw_okq (⟨"MaskedCopies", "prepareSearch", "(II)V"⟩, 13) := ⟨⟨by decide +kernel, by decide +kernel⟩, List.mem_of_getElem? (i := 12) (by decide +kernel), List.mem_of_getElem? (i := 550) (by decide +kernel), List.mem_of_getElem? (i := 551) (by decide +kernel)⟩
theorem lw_p31 : lw_okq (⟨"MaskedCopies", "offerWidths", "(IIZ)V"⟩, 13) := ⟨⟨by decide +kernel, by decide +kernel⟩, List.mem_of_getElem? (i := 12) (by decide +kernel), List.mem_of_getElem? (i := 559) (by decide +kernel), List.mem_of_getElem? (i := 560) (by decide +kernel)⟩
def lw_privs_2 : List (MethodName × Nat) := [(⟨"MaskedCopies", "narrowRoomByRow", "(LMaskedCopies$Table;II)V"⟩, 13), (⟨"MaskedCopies", "maskedCell", "(IIII)I"⟩, 13), (⟨"MaskedCopies", "dealtCell", "(IIII)I"⟩, 13), (⟨"MaskedCopies", "turnedRef", "(II)I"⟩, 13), (⟨"MaskedCopies", "mendDraft", "()V"⟩, 13), (⟨"MaskedCopies", "mendColumn", "(LMaskedCopies$Rule;)V"⟩, 13), (⟨"MaskedCopies", "isRow", "(II)Z"⟩, 13), (⟨"MaskedCopies", "areColumns", "(II)Z"⟩, 13), (⟨"MaskedCopies", "columnsOf", "(I)I"⟩, 13), (⟨"MaskedCopies", "couldSet", "(III)I"⟩, 13), (⟨"MaskedCopies", "looksSame", "(IIII)Z"⟩, 13), (⟨"MaskedCopies", "isPlain", "(II)Z"⟩, 13), (⟨"MaskedCopies", "movesSame", "(IIII)Z"⟩, 13), (⟨"MaskedCopies", "lossBy", "(III)I"⟩, 13), (⟨"MaskedCopies", "prepareSearch", "(II)V"⟩, 13), (⟨"MaskedCopies", "offerWidths", "(IIZ)V"⟩, 13)]
theorem lw_r2 : ∀ q ∈ lw_privs_2, lw_okq q := List.forall_mem_cons.mpr ⟨lw_p16, List.forall_mem_cons.mpr ⟨lw_p17, List.forall_mem_cons.mpr ⟨lw_p18, List.forall_mem_cons.mpr ⟨lw_p19, List.forall_mem_cons.mpr ⟨lw_p20, List.forall_mem_cons.mpr ⟨lw_p21, List.forall_mem_cons.mpr ⟨lw_p22, List.forall_mem_cons.mpr ⟨lw_p23, List.forall_mem_cons.mpr ⟨lw_p24, List.forall_mem_cons.mpr ⟨lw_p25, List.forall_mem_cons.mpr ⟨lw_p26, List.forall_mem_cons.mpr ⟨lw_p27, List.forall_mem_cons.mpr ⟨lw_p28, List.forall_mem_cons.mpr ⟨lw_p29, List.forall_mem_cons.mpr ⟨lw_p30, List.forall_mem_cons.mpr ⟨lw_p31, fun _ h => absurd h List.not_mem_nil⟩⟩⟩⟩⟩⟩⟩⟩⟩⟩⟩⟩⟩⟩⟩⟩
theorem lw_p32 : lw_okq (⟨"MaskedCopies$WidthSearch", "isChoice", "(II)Z"⟩, 6) := ⟨⟨by decide +kernel, by decide +kernel⟩, List.mem_of_getElem? (i := 48) (by decide +kernel), List.mem_of_getElem? (i := 576) (by decide +kernel), List.mem_of_getElem? (i := 577) (by decide +kernel)⟩
theorem lw_p33 : lw_okq (⟨"MaskedCopies", "sameBy", "(IIII)I"⟩, 13) := ⟨⟨by decide +kernel, by decide +kernel⟩, List.mem_of_getElem? (i := 12) (by decide +kernel), List.mem_of_getElem? (i := 580) (by decide +kernel), List.mem_of_getElem? (i := 581) (by decide +kernel)⟩
theorem lw_p34 : lw_okq (⟨"MaskedCopies$WidthSearch", "isSafe", "(II)Z"⟩, 6) := ⟨⟨by decide +kernel, by decide +kernel⟩, List.mem_of_getElem? (i := 48) (by decide +kernel), List.mem_of_getElem? (i := 607) (by decide +kernel), List.mem_of_getElem? (i := 608) (by decide +kernel)⟩
theorem lw_p35 : lw_okq (⟨"MaskedCopiesModel", "begin", "(III)V"⟩, 31) := ⟨⟨by decide +kernel, by decide +kernel⟩, List.mem_of_getElem? (i := 626) (by decide +kernel), List.mem_of_getElem? (i := 730) (by decide +kernel), List.mem_of_getElem? (i := 731) (by decide +kernel)⟩
theorem lw_p36 : lw_okq (⟨"MaskedCopiesModel", "isTable", "(I)Z"⟩, 31) := ⟨⟨by decide +kernel, by decide +kernel⟩, List.mem_of_getElem? (i := 626) (by decide +kernel), List.mem_of_getElem? (i := 738) (by decide +kernel), List.mem_of_getElem? (i := 739) (by decide +kernel)⟩
theorem lw_p37 : lw_okq (⟨"MaskedCopiesModel", "isColumn", "(II)Z"⟩, 31) := ⟨⟨by decide +kernel, by decide +kernel⟩, List.mem_of_getElem? (i := 626) (by decide +kernel), List.mem_of_getElem? (i := 775) (by decide +kernel), List.mem_of_getElem? (i := 776) (by decide +kernel)⟩
theorem lw_p38 : lw_okq (⟨"MaskedCopiesModel", "rule", "(IIII)I"⟩, 31) := ⟨⟨by decide +kernel, by decide +kernel⟩, List.mem_of_getElem? (i := 626) (by decide +kernel), List.mem_of_getElem? (i := 798) (by decide +kernel), List.mem_of_getElem? (i := 799) (by decide +kernel)⟩
theorem lw_p39 : lw_okq (⟨"MaskedCopiesModel", "see", "(I)V"⟩, 31) := ⟨⟨by decide +kernel, by decide +kernel⟩, List.mem_of_getElem? (i := 626) (by decide +kernel), List.mem_of_getElem? (i := 818) (by decide +kernel), List.mem_of_getElem? (i := 819) (by decide +kernel)⟩
theorem lw_p40 : lw_okq (⟨"MaskedCopiesModel", "firstBroken", "()I"⟩, 31) := ⟨⟨by decide +kernel, by decide +kernel⟩, List.mem_of_getElem? (i := 626) (by decide +kernel), List.mem_of_getElem? (i := 822) (by decide +kernel), List.mem_of_getElem? (i := 823) (by decide +kernel)⟩
theorem lw_p41 : lw_okq (⟨"MaskedCopiesModel", "holdsFor", "(II)Z"⟩, 31) := ⟨⟨by decide +kernel, by decide +kernel⟩, List.mem_of_getElem? (i := 626) (by decide +kernel), List.mem_of_getElem? (i := 826) (by decide +kernel), List.mem_of_getElem? (i := 827) (by decide +kernel)⟩
theorem lw_p42 : lw_okq (⟨"MaskedCopiesModel", "sumFor", "(II)I"⟩, 31) := ⟨⟨by decide +kernel, by decide +kernel⟩, List.mem_of_getElem? (i := 626) (by decide +kernel), List.mem_of_getElem? (i := 830) (by decide +kernel), List.mem_of_getElem? (i := 831) (by decide +kernel)⟩
theorem lw_p43 : lw_okq (⟨"MaskedCopiesModel", "isKeyOf", "(II)Z"⟩, 31) := ⟨⟨by decide +kernel, by decide +kernel⟩, List.mem_of_getElem? (i := 626) (by decide +kernel), List.mem_of_getElem? (i := 834) (by decide +kernel), List.mem_of_getElem? (i := 835) (by decide +kernel)⟩
theorem lw_p44 : lw_okq (⟨"MaskedCopiesModel", "maskTable", "(I)V"⟩, 31) := ⟨⟨by decide +kernel, by decide +kernel⟩, List.mem_of_getElem? (i := 626) (by decide +kernel), List.mem_of_getElem? (i := 842) (by decide +kernel), List.mem_of_getElem? (i := 843) (by decide +kernel)⟩
theorem lw_p45 : lw_okq (⟨"MaskedCopiesModel", "maskedCell", "(III)I"⟩, 31) := ⟨⟨by decide +kernel, by decide +kernel⟩, List.mem_of_getElem? (i := 626) (by decide +kernel), List.mem_of_getElem? (i := 846) (by decide +kernel), List.mem_of_getElem? (i := 847) (by decide +kernel)⟩
theorem lw_p46 : lw_okq (⟨"MaskedCopiesModel", "turnedKey", "(II)I"⟩, 31) := ⟨⟨by decide +kernel, by decide +kernel⟩, List.mem_of_getElem? (i := 626) (by decide +kernel), List.mem_of_getElem? (i := 850) (by decide +kernel), List.mem_of_getElem? (i := 851) (by decide +kernel)⟩
theorem lw_p47 : lw_okq (⟨"MaskedCopiesModel", "turnedName", "(II)I"⟩, 31) := ⟨⟨by decide +kernel, by decide +kernel⟩, List.mem_of_getElem? (i := 626) (by decide +kernel), List.mem_of_getElem? (i := 854) (by decide +kernel), List.mem_of_getElem? (i := 855) (by decide +kernel)⟩
def lw_privs_3 : List (MethodName × Nat) := [(⟨"MaskedCopies$WidthSearch", "isChoice", "(II)Z"⟩, 6), (⟨"MaskedCopies", "sameBy", "(IIII)I"⟩, 13), (⟨"MaskedCopies$WidthSearch", "isSafe", "(II)Z"⟩, 6), (⟨"MaskedCopiesModel", "begin", "(III)V"⟩, 31), (⟨"MaskedCopiesModel", "isTable", "(I)Z"⟩, 31), (⟨"MaskedCopiesModel", "isColumn", "(II)Z"⟩, 31), (⟨"MaskedCopiesModel", "rule", "(IIII)I"⟩, 31), (⟨"MaskedCopiesModel", "see", "(I)V"⟩, 31), (⟨"MaskedCopiesModel", "firstBroken", "()I"⟩, 31), (⟨"MaskedCopiesModel", "holdsFor", "(II)Z"⟩, 31), (⟨"MaskedCopiesModel", "sumFor", "(II)I"⟩, 31), (⟨"MaskedCopiesModel", "isKeyOf", "(II)Z"⟩, 31), (⟨"MaskedCopiesModel", "maskTable", "(I)V"⟩, 31), (⟨"MaskedCopiesModel", "maskedCell", "(III)I"⟩, 31), (⟨"MaskedCopiesModel", "turnedKey", "(II)I"⟩, 31), (⟨"MaskedCopiesModel", "turnedName", "(II)I"⟩, 31)]
theorem lw_r3 : ∀ q ∈ lw_privs_3, lw_okq q := List.forall_mem_cons.mpr ⟨lw_p32, List.forall_mem_cons.mpr ⟨lw_p33, List.forall_mem_cons.mpr ⟨lw_p34, List.forall_mem_cons.mpr ⟨lw_p35, List.forall_mem_cons.mpr ⟨lw_p36, List.forall_mem_cons.mpr ⟨lw_p37, List.forall_mem_cons.mpr ⟨lw_p38, List.forall_mem_cons.mpr ⟨lw_p39, List.forall_mem_cons.mpr ⟨lw_p40, List.forall_mem_cons.mpr ⟨lw_p41, List.forall_mem_cons.mpr ⟨lw_p42, List.forall_mem_cons.mpr ⟨lw_p43, List.forall_mem_cons.mpr ⟨lw_p44, List.forall_mem_cons.mpr ⟨lw_p45, List.forall_mem_cons.mpr ⟨lw_p46, List.forall_mem_cons.mpr ⟨lw_p47, fun _ h => absurd h List.not_mem_nil⟩⟩⟩⟩⟩⟩⟩⟩⟩⟩⟩⟩⟩⟩⟩⟩
theorem lw_p48 : lw_okq (⟨"MaskedCopiesModel", "ownerOf", "(II)I"⟩, 31) := ⟨⟨by decide +kernel, by decide +kernel⟩, List.mem_of_getElem? (i := 626) (by decide +kernel), List.mem_of_getElem? (i := 858) (by decide +kernel), List.mem_of_getElem? (i := 859) (by decide +kernel)⟩
theorem lw_p49 : lw_okq (⟨"MaskedCopiesModel", "shiftOf", "(I)I"⟩, 31) := ⟨⟨by decide +kernel, by decide +kernel⟩, List.mem_of_getElem? (i := 626) (by decide +kernel), List.mem_of_getElem? (i := 862) (by decide +kernel), List.mem_of_getElem? (i := 863) (by decide +kernel)⟩
theorem lw_p50 : lw_okq (⟨"MaskedCopiesModel", "stays", "(II)Z"⟩, 31) := ⟨⟨by decide +kernel, by decide +kernel⟩, List.mem_of_getElem? (i := 626) (by decide +kernel), List.mem_of_getElem? (i := 866) (by decide +kernel), List.mem_of_getElem? (i := 867) (by decide +kernel)⟩
theorem lw_p51 : lw_okq (⟨"MaskedCopiesModel", "isRow", "(II)Z"⟩, 31) := ⟨⟨by decide +kernel, by decide +kernel⟩, List.mem_of_getElem? (i := 626) (by decide +kernel), List.mem_of_getElem? (i := 877) (by decide +kernel), List.mem_of_getElem? (i := 878) (by decide +kernel)⟩
theorem lw_p52 : lw_okq (⟨"MaskedCopiesModel", "isKnown", "(II)Z"⟩, 31) := ⟨⟨by decide +kernel, by decide +kernel⟩, List.mem_of_getElem? (i := 626) (by decide +kernel), List.mem_of_getElem? (i := 905) (by decide +kernel), List.mem_of_getElem? (i := 906) (by decide +kernel)⟩
theorem lw_p53 : lw_okq (⟨"MaskedCopiesModel", "couldOf", "(III)I"⟩, 31) := ⟨⟨by decide +kernel, by decide +kernel⟩, List.mem_of_getElem? (i := 626) (by decide +kernel), List.mem_of_getElem? (i := 909) (by decide +kernel), List.mem_of_getElem? (i := 910) (by decide +kernel)⟩
theorem lw_p54 : lw_okq (⟨"MaskedCopiesModel", "couldBe", "(IIII)Z"⟩, 31) := ⟨⟨by decide +kernel, by decide +kernel⟩, List.mem_of_getElem? (i := 626) (by decide +kernel), List.mem_of_getElem? (i := 913) (by decide +kernel), List.mem_of_getElem? (i := 914) (by decide +kernel)⟩
theorem lw_p55 : lw_okq (⟨"MaskedCopiesModel", "isPlain", "(II)Z"⟩, 31) := ⟨⟨by decide +kernel, by decide +kernel⟩, List.mem_of_getElem? (i := 626) (by decide +kernel), List.mem_of_getElem? (i := 917) (by decide +kernel), List.mem_of_getElem? (i := 918) (by decide +kernel)⟩
theorem lw_p56 : lw_okq (⟨"MaskedCopiesModel", "alikeOf", "(II)I"⟩, 31) := ⟨⟨by decide +kernel, by decide +kernel⟩, List.mem_of_getElem? (i := 626) (by decide +kernel), List.mem_of_getElem? (i := 925) (by decide +kernel), List.mem_of_getElem? (i := 926) (by decide +kernel)⟩
theorem lw_p57 : lw_okq (⟨"MaskedCopiesModel", "lossOf", "(II)I"⟩, 31) := ⟨⟨by decide +kernel, by decide +kernel⟩, List.mem_of_getElem? (i := 626) (by decide +kernel), List.mem_of_getElem? (i := 937) (by decide +kernel), List.mem_of_getElem? (i := 938) (by decide +kernel)⟩
theorem lw_p58 : lw_okq (⟨"MaskedCopiesModel", "gives", "(III)I"⟩, 31) := ⟨⟨by decide +kernel, by decide +kernel⟩, List.mem_of_getElem? (i := 626) (by decide +kernel), List.mem_of_getElem? (i := 945) (by decide +kernel), List.mem_of_getElem? (i := 946) (by decide +kernel)⟩
def lw_privs_4 : List (MethodName × Nat) := [(⟨"MaskedCopiesModel", "ownerOf", "(II)I"⟩, 31), (⟨"MaskedCopiesModel", "shiftOf", "(I)I"⟩, 31), (⟨"MaskedCopiesModel", "stays", "(II)Z"⟩, 31), (⟨"MaskedCopiesModel", "isRow", "(II)Z"⟩, 31), (⟨"MaskedCopiesModel", "isKnown", "(II)Z"⟩, 31), (⟨"MaskedCopiesModel", "couldOf", "(III)I"⟩, 31), (⟨"MaskedCopiesModel", "couldBe", "(IIII)Z"⟩, 31), (⟨"MaskedCopiesModel", "isPlain", "(II)Z"⟩, 31), (⟨"MaskedCopiesModel", "alikeOf", "(II)I"⟩, 31), (⟨"MaskedCopiesModel", "lossOf", "(II)I"⟩, 31), (⟨"MaskedCopiesModel", "gives", "(III)I"⟩, 31)]
theorem lw_r4 : ∀ q ∈ lw_privs_4, lw_okq q := List.forall_mem_cons.mpr ⟨lw_p48, List.forall_mem_cons.mpr ⟨lw_p49, List.forall_mem_cons.mpr ⟨lw_p50, List.forall_mem_cons.mpr ⟨lw_p51, List.forall_mem_cons.mpr ⟨lw_p52, List.forall_mem_cons.mpr ⟨lw_p53, List.forall_mem_cons.mpr ⟨lw_p54, List.forall_mem_cons.mpr ⟨lw_p55, List.forall_mem_cons.mpr ⟨lw_p56, List.forall_mem_cons.mpr ⟨lw_p57, List.forall_mem_cons.mpr ⟨lw_p58, fun _ h => absurd h List.not_mem_nil⟩⟩⟩⟩⟩⟩⟩⟩⟩⟩⟩
def lw_privs : List (MethodName × Nat) := lw_privs_1 ++ (lw_privs_2 ++ (lw_privs_3 ++ (lw_privs_4)))
def lw_tbl : List Cond := k2_sels lw_privs ++ tables_1
theorem lw_privs_ok : ∀ q ∈ lw_privs, lw_okq q := by
  show ∀ q ∈ lw_privs_1 ++ (lw_privs_2 ++ (lw_privs_3 ++ (lw_privs_4))), lw_okq q
  exact List.forall_mem_append.mpr ⟨lw_r1, List.forall_mem_append.mpr ⟨lw_r2, List.forall_mem_append.mpr ⟨lw_r3, lw_r4⟩⟩⟩
end
section
def RX0 : String := "MaskedCopies$Column"
def TX0 : u_T := fun k => match k with
  | 0 => ("MaskedCopies$Column", "kind", "I", false)
  | 1 => ("MaskedCopies$Column", "to", "I", false)
  | 2 => ("MaskedCopies$Column", "how", "I", false)
  | 3 => ("MaskedCopies$Column", "number", "I", false)
  | 4 => ("MaskedCopies$Column", "factor", "I", false)
  | _ => ("MaskedCopies$Column", "addend", "I", false)
def tyX0 : Nat → FieldType := fun k => match k with
  | 0 => .int
  | 1 => .int
  | 2 => .int
  | 3 => .int
  | 4 => .int
  | _ => .int
abbrev wsX00 : List Cond := u_ws RX0 TX0 6
theorem nmX0 : ∀ a, a < 6 → ∀ b, b < 6 → a ≠ b → (TX0 a).2.1 ≠ (TX0 b).2.1 := by decide +kernel
theorem tyX0_ok : ∀ k, k < 6 → parseFieldDescriptor (TX0 k).2.2.1 = some (tyX0 k) := by decide +kernel
abbrev cX0_init : ByteArray := prog_2_method_1_code
def yX0_init : MethodName := ⟨RX0, "<init>", "()V"⟩
abbrev cX0_turnName : ByteArray := prog_2_method_2_code
def yX0_turnName : MethodName := ⟨RX0, "turnName", "(I)I"⟩
def RX1 : String := "MaskedCopies$Copy"
def TX1 : u_T := fun k => match k with
  | _ => ("MaskedCopies$Copy", "cells", "[I", true)
def tyX1 : Nat → FieldType := fun k => match k with
  | _ => .array .int
abbrev wsX10 : List Cond := u_ws RX1 TX1 1
theorem nmX1 : ∀ a, a < 1 → ∀ b, b < 1 → a ≠ b → (TX1 a).2.1 ≠ (TX1 b).2.1 := by decide +kernel
theorem tyX1_ok : ∀ k, k < 1 → parseFieldDescriptor (TX1 k).2.2.1 = some (tyX1 k) := by decide +kernel
abbrev cX1_init : ByteArray := prog_3_method_1_code
def yX1_init : MethodName := ⟨RX1, "<init>", "()V"⟩
abbrev cX1_placeOf : ByteArray := prog_3_method_2_code
def yX1_placeOf : MethodName := ⟨RX1, "placeOf", "(III)I"⟩
abbrev cX1_read : ByteArray := prog_3_method_3_code
def yX1_read : MethodName := ⟨RX1, "read", "(III)I"⟩
abbrev cX1_write : ByteArray := prog_3_method_4_code
def yX1_write : MethodName := ⟨RX1, "write", "(IIII)V"⟩
def RX2 : String := "MaskedCopies$DayRoom"
def TX2 : u_T := fun k => match k with
  | 0 => ("MaskedCopies$DayRoom", "down", "I", false)
  | _ => ("MaskedCopies$DayRoom", "up", "I", false)
def tyX2 : Nat → FieldType := fun k => match k with
  | 0 => .int
  | _ => .int
abbrev wsX20 : List Cond := u_ws RX2 TX2 2
theorem nmX2 : ∀ a, a < 2 → ∀ b, b < 2 → a ≠ b → (TX2 a).2.1 ≠ (TX2 b).2.1 := by decide +kernel
theorem tyX2_ok : ∀ k, k < 2 → parseFieldDescriptor (TX2 k).2.2.1 = some (tyX2 k) := by decide +kernel
abbrev cX2_init : ByteArray := prog_4_method_1_code
def yX2_init : MethodName := ⟨RX2, "<init>", "()V"⟩
abbrev cX2_open : ByteArray := prog_4_method_2_code
def yX2_open : MethodName := ⟨RX2, "open", "()V"⟩
abbrev cX2_narrow : ByteArray := prog_4_method_3_code
def yX2_narrow : MethodName := ⟨RX2, "narrow", "(I)V"⟩
abbrev cX2_lets : ByteArray := prog_4_method_4_code
def yX2_lets : MethodName := ⟨RX2, "lets", "(I)Z"⟩
def RX3 : String := "MaskedCopies$Rule"
def TX3 : u_T := fun k => match k with
  | 0 => ("MaskedCopies$Rule", "kind", "I", false)
  | 1 => ("MaskedCopies$Rule", "table", "I", false)
  | 2 => ("MaskedCopies$Rule", "column", "I", false)
  | 3 => ("MaskedCopies$Rule", "second", "I", false)
  | 4 => ("MaskedCopies$Rule", "partTable", "I", false)
  | 5 => ("MaskedCopies$Rule", "ref", "I", false)
  | _ => ("MaskedCopies$Rule", "mended", "Z", false)
def tyX3 : Nat → FieldType := fun k => match k with
  | 0 => .int
  | 1 => .int
  | 2 => .int
  | 3 => .int
  | 4 => .int
  | 5 => .int
  | _ => .boolean
abbrev wsX30 : List Cond := u_ws RX3 TX3 7
theorem nmX3 : ∀ a, a < 7 → ∀ b, b < 7 → a ≠ b → (TX3 a).2.1 ≠ (TX3 b).2.1 := by decide +kernel
theorem tyX3_ok : ∀ k, k < 7 → parseFieldDescriptor (TX3 k).2.2.1 = some (tyX3 k) := by decide +kernel
abbrev cX3_init : ByteArray := prog_5_method_1_code
def yX3_init : MethodName := ⟨RX3, "<init>", "()V"⟩
abbrev cX3_setOrder : ByteArray := prog_5_method_2_code
def yX3_setOrder : MethodName := ⟨RX3, "setOrder", "(III)V"⟩
abbrev cX3_setAgree : ByteArray := prog_5_method_3_code
def yX3_setAgree : MethodName := ⟨RX3, "setAgree", "(IIIIIZ)V"⟩
abbrev cX3_setFound : ByteArray := prog_5_method_4_code
def yX3_setFound : MethodName := ⟨RX3, "setFound", "(II)V"⟩
def RX4 : String := "MaskedCopies$Table"
def TX4 : u_T := fun k => match k with
  | 0 => ("MaskedCopies$Table", "columns", "[LMaskedCopies$Column;", true)
  | 1 => ("MaskedCopies$Table", "factors", "[I", true)
  | 2 => ("MaskedCopies$Table", "addends", "[I", true)
  | 3 => ("MaskedCopies$Table", "columnCount", "I", false)
  | 4 => ("MaskedCopies$Table", "rowCount", "I", false)
  | _ => ("MaskedCopies$Table", "ownerColumn", "I", false)
def tyX4 : Nat → FieldType := fun k => match k with
  | 0 => .array (.object "MaskedCopies$Column")
  | 1 => .array .int
  | 2 => .array .int
  | 3 => .int
  | 4 => .int
  | _ => .int
abbrev wsX40 : List Cond := u_ws RX4 TX4 6
theorem nmX4 : ∀ a, a < 6 → ∀ b, b < 6 → a ≠ b → (TX4 a).2.1 ≠ (TX4 b).2.1 := by decide +kernel
theorem tyX4_ok : ∀ k, k < 6 → parseFieldDescriptor (TX4 k).2.2.1 = some (tyX4 k) := by decide +kernel
abbrev cX4_init : ByteArray := prog_6_method_1_code
def yX4_init : MethodName := ⟨RX4, "<init>", "()V"⟩
abbrev cX4_columnNumbered : ByteArray := prog_6_method_2_code
def yX4_columnNumbered : MethodName := ⟨RX4, "columnNumbered", "(I)LMaskedCopies$Column;"⟩
abbrev cX4_addColumn : ByteArray := prog_6_method_3_code
def yX4_addColumn : MethodName := ⟨RX4, "addColumn", "(II)I"⟩
abbrev cX4_isShifted : ByteArray := prog_6_method_4_code
def yX4_isShifted : MethodName := ⟨RX4, "isShifted", "(I)Z"⟩
abbrev cX4_hasShift : ByteArray := prog_6_method_5_code
def yX4_hasShift : MethodName := ⟨RX4, "hasShift", "()Z"⟩
abbrev cX4_turnsKeys : ByteArray := prog_6_method_6_code
def yX4_turnsKeys : MethodName := ⟨RX4, "turnsKeys", "()Z"⟩
abbrev cX4_setDigit : ByteArray := prog_6_method_7_code
def yX4_setDigit : MethodName := ⟨RX4, "setDigit", "(III)V"⟩
abbrev cX4_turnKey : ByteArray := prog_6_method_8_code
def yX4_turnKey : MethodName := ⟨RX4, "turnKey", "(I)I"⟩
def RX5 : String := "MaskedCopies$WidthSearch"
def TX5 : u_T := fun k => match k with
  | 0 => ("MaskedCopies$WidthSearch", "numbers", "[I", true)
  | 1 => ("MaskedCopies$WidthSearch", "losses", "[I", true)
  | 2 => ("MaskedCopies$WidthSearch", "same", "[I", true)
  | 3 => ("MaskedCopies$WidthSearch", "others", "[I", true)
  | 4 => ("MaskedCopies$WidthSearch", "columnCount", "I", false)
  | _ => ("MaskedCopies$WidthSearch", "rowCount", "I", false)
def tyX5 : Nat → FieldType := fun k => match k with
  | 0 => .array .int
  | 1 => .array .int
  | 2 => .array .int
  | 3 => .array .int
  | 4 => .int
  | _ => .int
abbrev wsX50 : List Cond := u_ws RX5 TX5 6
theorem nmX5 : ∀ a, a < 6 → ∀ b, b < 6 → a ≠ b → (TX5 a).2.1 ≠ (TX5 b).2.1 := by decide +kernel
theorem tyX5_ok : ∀ k, k < 6 → parseFieldDescriptor (TX5 k).2.2.1 = some (tyX5 k) := by decide +kernel
abbrev cX5_init : ByteArray := prog_7_method_1_code
def yX5_init : MethodName := ⟨RX5, "<init>", "()V"⟩
abbrev cX5_widthAt : ByteArray := prog_7_method_2_code
def yX5_widthAt : MethodName := ⟨RX5, "widthAt", "(I)I"⟩
abbrev cX5_begin : ByteArray := prog_7_method_3_code
def yX5_begin : MethodName := ⟨RX5, "begin", "(I)V"⟩
abbrev cX5_addColumn : ByteArray := prog_7_method_4_code
def yX5_addColumn : MethodName := ⟨RX5, "addColumn", "(I)I"⟩
abbrev cX5_columnNumber : ByteArray := prog_7_method_5_code
def yX5_columnNumber : MethodName := ⟨RX5, "columnNumber", "(I)I"⟩
abbrev cX5_setLoss : ByteArray := prog_7_method_6_code
def yX5_setLoss : MethodName := ⟨RX5, "setLoss", "(III)V"⟩
abbrev cX5_setSame : ByteArray := prog_7_method_7_code
def yX5_setSame : MethodName := ⟨RX5, "setSame", "(IIII)V"⟩
abbrev cX5_setOthers : ByteArray := prog_7_method_8_code
def yX5_setOthers : MethodName := ⟨RX5, "setOthers", "(II)V"⟩
abbrev cX5_isChoice : ByteArray := prog_7_method_9_code
def yX5_isChoice : MethodName := ⟨RX5, "isChoice", "(II)Z"⟩
abbrev cX5_choiceOf : ByteArray := prog_7_method_10_code
def yX5_choiceOf : MethodName := ⟨RX5, "choiceOf", "(II)I"⟩
abbrev cX5_lossOf : ByteArray := prog_7_method_11_code
def yX5_lossOf : MethodName := ⟨RX5, "lossOf", "(I)I"⟩
abbrev cX5_isSafe : ByteArray := prog_7_method_12_code
def yX5_isSafe : MethodName := ⟨RX5, "isSafe", "(II)Z"⟩
abbrev cX5_leastWay : ByteArray := prog_7_method_13_code
def yX5_leastWay : MethodName := ⟨RX5, "leastWay", "(I)I"⟩
def RX6 : String := "MaskedCopies"
def TX6 : u_T := fun k => match k with
  | 0 => ("MaskedCopies", "tables", "[LMaskedCopies$Table;", true)
  | 1 => ("MaskedCopies", "rules", "[LMaskedCopies$Rule;", true)
  | 2 => ("MaskedCopies", "waiting", "[I", true)
  | 3 => ("MaskedCopies", "truth", "LMaskedCopies$Copy;", true)
  | 4 => ("MaskedCopies", "room", "LMaskedCopies$DayRoom;", true)
  | 5 => ("MaskedCopies", "search", "LMaskedCopies$WidthSearch;", true)
  | 6 => ("MaskedCopies", "made", "LMaskedCopies$Copy;", false)
  | 7 => ("MaskedCopies", "draft", "LMaskedCopies$Copy;", false)
  | 8 => ("MaskedCopies", "tableCount", "I", false)
  | 9 => ("MaskedCopies", "ruleCount", "I", false)
  | 10 => ("MaskedCopies", "waitingCount", "I", false)
  | 11 => ("MaskedCopies", "seedNow", "I", false)
  | _ => ("MaskedCopies", "hasMade", "Z", false)
def tyX6 : Nat → FieldType := fun k => match k with
  | 0 => .array (.object "MaskedCopies$Table")
  | 1 => .array (.object "MaskedCopies$Rule")
  | 2 => .array .int
  | 3 => .object "MaskedCopies$Copy"
  | 4 => .object "MaskedCopies$DayRoom"
  | 5 => .object "MaskedCopies$WidthSearch"
  | 6 => .object "MaskedCopies$Copy"
  | 7 => .object "MaskedCopies$Copy"
  | 8 => .int
  | 9 => .int
  | 10 => .int
  | 11 => .int
  | _ => .boolean
abbrev wsX60 : List Cond := u_ws RX6 TX6 13
theorem nmX6 : ∀ a, a < 13 → ∀ b, b < 13 → a ≠ b → (TX6 a).2.1 ≠ (TX6 b).2.1 := by decide +kernel
theorem tyX6_ok : ∀ k, k < 13 → parseFieldDescriptor (TX6 k).2.2.1 = some (tyX6 k) := by decide +kernel
abbrev cX6_init : ByteArray := prog_1_method_1_code
def yX6_init : MethodName := ⟨RX6, "<init>", "()V"⟩
abbrev cX6_table : ByteArray := prog_1_method_2_code
def yX6_table : MethodName := ⟨RX6, "table", "()I"⟩
abbrev cX6_column : ByteArray := prog_1_method_3_code
def yX6_column : MethodName := ⟨RX6, "column", "(III)I"⟩
abbrev cX6_cell : ByteArray := prog_1_method_4_code
def yX6_cell : MethodName := ⟨RX6, "cell", "(I)I"⟩
abbrev cX6_row : ByteArray := prog_1_method_5_code
def yX6_row : MethodName := ⟨RX6, "row", "(I)I"⟩
abbrev cX6_wipe : ByteArray := prog_1_method_6_code
def yX6_wipe : MethodName := ⟨RX6, "wipe", "()I"⟩
abbrev cX6_owner : ByteArray := prog_1_method_7_code
def yX6_owner : MethodName := ⟨RX6, "owner", "(II)I"⟩
abbrev cX6_mask : ByteArray := prog_1_method_8_code
def yX6_mask : MethodName := ⟨RX6, "mask", "(IIII)I"⟩
abbrev cX6_dial : ByteArray := prog_1_method_9_code
def yX6_dial : MethodName := ⟨RX6, "dial", "(IIIII)I"⟩
abbrev cX6_seed : ByteArray := prog_1_method_10_code
def yX6_seed : MethodName := ⟨RX6, "seed", "(I)I"⟩
abbrev cX6_order : ByteArray := prog_1_method_11_code
def yX6_order : MethodName := ⟨RX6, "order", "(III)I"⟩
abbrev cX6_agree : ByteArray := prog_1_method_12_code
def yX6_agree : MethodName := ⟨RX6, "agree", "(IIIIII)I"⟩
abbrev cX6_found : ByteArray := prog_1_method_13_code
def yX6_found : MethodName := ⟨RX6, "found", "(II)I"⟩
abbrev cX6_unrule : ByteArray := prog_1_method_14_code
def yX6_unrule : MethodName := ⟨RX6, "unrule", "()I"⟩
abbrev cX6_broken : ByteArray := prog_1_method_15_code
def yX6_broken : MethodName := ⟨RX6, "broken", "(I)I"⟩
abbrev cX6_make : ByteArray := prog_1_method_16_code
def yX6_make : MethodName := ⟨RX6, "make", "()I"⟩
abbrev cX6_at : ByteArray := prog_1_method_17_code
def yX6_at : MethodName := ⟨RX6, "at", "(IIII)I"⟩
abbrev cX6_turned : ByteArray := prog_1_method_18_code
def yX6_turned : MethodName := ⟨RX6, "turned", "(III)I"⟩
abbrev cX6_shift : ByteArray := prog_1_method_19_code
def yX6_shift : MethodName := ⟨RX6, "shift", "(I)I"⟩
abbrev cX6_count : ByteArray := prog_1_method_20_code
def yX6_count : MethodName := ⟨RX6, "count", "(IIII)I"⟩
abbrev cX6_joins : ByteArray := prog_1_method_21_code
def yX6_joins : MethodName := ⟨RX6, "joins", "(III)I"⟩
abbrev cX6_miss : ByteArray := prog_1_method_22_code
def yX6_miss : MethodName := ⟨RX6, "miss", "(II)I"⟩
abbrev cX6_could : ByteArray := prog_1_method_23_code
def yX6_could : MethodName := ⟨RX6, "could", "(III)I"⟩
abbrev cX6_alike : ByteArray := prog_1_method_24_code
def yX6_alike : MethodName := ⟨RX6, "alike", "(II)I"⟩
abbrev cX6_sure : ByteArray := prog_1_method_25_code
def yX6_sure : MethodName := ⟨RX6, "sure", "(IIII)I"⟩
abbrev cX6_loss : ByteArray := prog_1_method_26_code
def yX6_loss : MethodName := ⟨RX6, "loss", "(II)I"⟩
abbrev cX6_best : ByteArray := prog_1_method_27_code
def yX6_best : MethodName := ⟨RX6, "best", "(III)I"⟩
abbrev cX6_about : ByteArray := prog_1_method_28_code
def yX6_about : MethodName := ⟨RX6, "about", "(III)I"⟩
abbrev cX6_all : ByteArray := prog_1_method_29_code
def yX6_all : MethodName := ⟨RX6, "all", "(I)I"⟩
abbrev cX6_tableAt : ByteArray := prog_1_method_30_code
def yX6_tableAt : MethodName := ⟨RX6, "tableAt", "(I)LMaskedCopies$Table;"⟩
abbrev cX6_columnAt : ByteArray := prog_1_method_31_code
def yX6_columnAt : MethodName := ⟨RX6, "columnAt", "(II)LMaskedCopies$Column;"⟩
abbrev cX6_rowsOf : ByteArray := prog_1_method_32_code
def yX6_rowsOf : MethodName := ⟨RX6, "rowsOf", "(I)I"⟩
abbrev cX6_columnsOf : ByteArray := prog_1_method_33_code
def yX6_columnsOf : MethodName := ⟨RX6, "columnsOf", "(I)I"⟩
abbrev cX6_isRow : ByteArray := prog_1_method_34_code
def yX6_isRow : MethodName := ⟨RX6, "isRow", "(II)Z"⟩
abbrev cX6_copyOf : ByteArray := prog_1_method_35_code
def yX6_copyOf : MethodName := ⟨RX6, "copyOf", "(I)LMaskedCopies$Copy;"⟩
abbrev cX6_areColumns : ByteArray := prog_1_method_36_code
def yX6_areColumns : MethodName := ⟨RX6, "areColumns", "(II)Z"⟩
abbrev cX6_rowsWith : ByteArray := prog_1_method_37_code
def yX6_rowsWith : MethodName := ⟨RX6, "rowsWith", "(LMaskedCopies$Copy;III)I"⟩
abbrev cX6_isBit : ByteArray := prog_1_method_38_code
def yX6_isBit : MethodName := ⟨RX6, "isBit", "(I)Z"⟩
abbrev cX6_hasBit : ByteArray := prog_1_method_39_code
def yX6_hasBit : MethodName := ⟨RX6, "hasBit", "(II)Z"⟩
abbrev cX6_rightFigure : ByteArray := prog_1_method_40_code
def yX6_rightFigure : MethodName := ⟨RX6, "rightFigure", "(I)I"⟩
abbrev cX6_isKeyNumber : ByteArray := prog_1_method_41_code
def yX6_isKeyNumber : MethodName := ⟨RX6, "isKeyNumber", "(I)Z"⟩
abbrev cX6_isNumberOfKind : ByteArray := prog_1_method_42_code
def yX6_isNumberOfKind : MethodName := ⟨RX6, "isNumberOfKind", "(II)Z"⟩
abbrev cX6_waitingCellsFit : ByteArray := prog_1_method_43_code
def yX6_waitingCellsFit : MethodName := ⟨RX6, "waitingCellsFit", "(LMaskedCopies$Table;)Z"⟩
abbrev cX6_isMaskOf : ByteArray := prog_1_method_44_code
def yX6_isMaskOf : MethodName := ⟨RX6, "isMaskOf", "(II)Z"⟩
abbrev cX6_isNumberOf : ByteArray := prog_1_method_45_code
def yX6_isNumberOf : MethodName := ⟨RX6, "isNumberOf", "(II)Z"⟩
abbrev cX6_dialDigit : ByteArray := prog_1_method_46_code
def yX6_dialDigit : MethodName := ⟨RX6, "dialDigit", "(LMaskedCopies$Table;III)I"⟩
abbrev cX6_draftMasked : ByteArray := prog_1_method_47_code
def yX6_draftMasked : MethodName := ⟨RX6, "draftMasked", "(I)V"⟩
abbrev cX6_maskedCell : ByteArray := prog_1_method_48_code
def yX6_maskedCell : MethodName := ⟨RX6, "maskedCell", "(IIII)I"⟩
abbrev cX6_turnedRef : ByteArray := prog_1_method_49_code
def yX6_turnedRef : MethodName := ⟨RX6, "turnedRef", "(II)I"⟩
abbrev cX6_dealtCell : ByteArray := prog_1_method_50_code
def yX6_dealtCell : MethodName := ⟨RX6, "dealtCell", "(IIII)I"⟩
abbrev cX6_tooFine : ByteArray := prog_1_method_51_code
def yX6_tooFine : MethodName := ⟨RX6, "tooFine", "(II)I"⟩
abbrev cX6_lossBy : ByteArray := prog_1_method_52_code
def yX6_lossBy : MethodName := ⟨RX6, "lossBy", "(III)I"⟩
abbrev cX6_ownerOf : ByteArray := prog_1_method_53_code
def yX6_ownerOf : MethodName := ⟨RX6, "ownerOf", "(II)I"⟩
abbrev cX6_shiftOf : ByteArray := prog_1_method_54_code
def yX6_shiftOf : MethodName := ⟨RX6, "shiftOf", "(I)I"⟩
abbrev cX6_narrowRoom : ByteArray := prog_1_method_55_code
def yX6_narrowRoom : MethodName := ⟨RX6, "narrowRoom", "(II)V"⟩
abbrev cX6_narrowRoomByRow : ByteArray := prog_1_method_56_code
def yX6_narrowRoomByRow : MethodName := ⟨RX6, "narrowRoomByRow", "(LMaskedCopies$Table;II)V"⟩
abbrev cX6_nextRule : ByteArray := prog_1_method_57_code
def yX6_nextRule : MethodName := ⟨RX6, "nextRule", "()LMaskedCopies$Rule;"⟩
abbrev cX6_addRule : ByteArray := prog_1_method_58_code
def yX6_addRule : MethodName := ⟨RX6, "addRule", "()I"⟩
abbrev cX6_firstBroken : ByteArray := prog_1_method_59_code
def yX6_firstBroken : MethodName := ⟨RX6, "firstBroken", "(LMaskedCopies$Copy;)I"⟩
abbrev cX6_ruleHolds : ByteArray := prog_1_method_60_code
def yX6_ruleHolds : MethodName := ⟨RX6, "ruleHolds", "(LMaskedCopies$Rule;LMaskedCopies$Copy;)Z"⟩
abbrev cX6_holdsInRow : ByteArray := prog_1_method_61_code
def yX6_holdsInRow : MethodName := ⟨RX6, "holdsInRow", "(LMaskedCopies$Rule;LMaskedCopies$Copy;I)Z"⟩
abbrev cX6_partsOf : ByteArray := prog_1_method_62_code
def yX6_partsOf : MethodName := ⟨RX6, "partsOf", "(LMaskedCopies$Rule;LMaskedCopies$Copy;I)I"⟩
abbrev cX6_mendDraft : ByteArray := prog_1_method_63_code
def yX6_mendDraft : MethodName := ⟨RX6, "mendDraft", "()V"⟩
abbrev cX6_mendColumn : ByteArray := prog_1_method_64_code
def yX6_mendColumn : MethodName := ⟨RX6, "mendColumn", "(LMaskedCopies$Rule;)V"⟩
abbrev cX6_couldSet : ByteArray := prog_1_method_65_code
def yX6_couldSet : MethodName := ⟨RX6, "couldSet", "(III)I"⟩
abbrev cX6_looksSame : ByteArray := prog_1_method_66_code
def yX6_looksSame : MethodName := ⟨RX6, "looksSame", "(IIII)Z"⟩
abbrev cX6_isPlain : ByteArray := prog_1_method_67_code
def yX6_isPlain : MethodName := ⟨RX6, "isPlain", "(II)Z"⟩
abbrev cX6_movesSame : ByteArray := prog_1_method_68_code
def yX6_movesSame : MethodName := ⟨RX6, "movesSame", "(IIII)Z"⟩
abbrev cX6_prepareSearch : ByteArray := prog_1_method_69_code
def yX6_prepareSearch : MethodName := ⟨RX6, "prepareSearch", "(II)V"⟩
abbrev cX6_offerWidths : ByteArray := prog_1_method_70_code
def yX6_offerWidths : MethodName := ⟨RX6, "offerWidths", "(IIZ)V"⟩
abbrev cX6_sameBy : ByteArray := prog_1_method_71_code
def yX6_sameBy : MethodName := ⟨RX6, "sameBy", "(IIII)I"⟩
abbrev cX6_coarseOrMissing : ByteArray := prog_1_method_72_code
def yX6_coarseOrMissing : MethodName := ⟨RX6, "coarseOrMissing", "(II)I"⟩
def RX7 : String := "MaskedCopiesModel"
def TX7 : u_T := fun k => match k with
  | 0 => ("MaskedCopiesModel", "thrown", "I", false)
  | 1 => ("MaskedCopiesModel", "tables", "I", false)
  | 2 => ("MaskedCopiesModel", "columns", "[I", true)
  | 3 => ("MaskedCopiesModel", "rows", "[I", true)
  | 4 => ("MaskedCopiesModel", "owner", "[I", true)
  | 5 => ("MaskedCopiesModel", "kind", "[I", true)
  | 6 => ("MaskedCopiesModel", "to", "[I", true)
  | 7 => ("MaskedCopiesModel", "mask", "[I", true)
  | 8 => ("MaskedCopiesModel", "number", "[I", true)
  | 9 => ("MaskedCopiesModel", "nameA", "[I", true)
  | 10 => ("MaskedCopiesModel", "nameB", "[I", true)
  | 11 => ("MaskedCopiesModel", "digitA", "[I", true)
  | 12 => ("MaskedCopiesModel", "digitB", "[I", true)
  | 13 => ("MaskedCopiesModel", "seed", "I", false)
  | 14 => ("MaskedCopiesModel", "cells", "[I", true)
  | 15 => ("MaskedCopiesModel", "made", "[I", true)
  | 16 => ("MaskedCopiesModel", "isMade", "Z", false)
  | 17 => ("MaskedCopiesModel", "masked", "[I", true)
  | 18 => ("MaskedCopiesModel", "waits", "[I", true)
  | 19 => ("MaskedCopiesModel", "waiting", "I", false)
  | 20 => ("MaskedCopiesModel", "rules", "I", false)
  | 21 => ("MaskedCopiesModel", "sort", "[I", true)
  | 22 => ("MaskedCopiesModel", "ruleT", "[I", true)
  | 23 => ("MaskedCopiesModel", "ruleA", "[I", true)
  | 24 => ("MaskedCopiesModel", "ruleB", "[I", true)
  | 25 => ("MaskedCopiesModel", "ruleU", "[I", true)
  | 26 => ("MaskedCopiesModel", "ruleE", "[I", true)
  | 27 => ("MaskedCopiesModel", "mends", "[Z", true)
  | 28 => ("MaskedCopiesModel", "seen", "[I", true)
  | 29 => ("MaskedCopiesModel", "own", "[I", true)
  | _ => ("MaskedCopiesModel", "bestWidths", "[I", true)
def tyX7 : Nat → FieldType := fun k => match k with
  | 0 => .int
  | 1 => .int
  | 2 => .array .int
  | 3 => .array .int
  | 4 => .array .int
  | 5 => .array .int
  | 6 => .array .int
  | 7 => .array .int
  | 8 => .array .int
  | 9 => .array .int
  | 10 => .array .int
  | 11 => .array .int
  | 12 => .array .int
  | 13 => .int
  | 14 => .array .int
  | 15 => .array .int
  | 16 => .boolean
  | 17 => .array .int
  | 18 => .array .int
  | 19 => .int
  | 20 => .int
  | 21 => .array .int
  | 22 => .array .int
  | 23 => .array .int
  | 24 => .array .int
  | 25 => .array .int
  | 26 => .array .int
  | 27 => .array .boolean
  | 28 => .array .int
  | 29 => .array .int
  | _ => .array .int
abbrev wsX70 : List Cond := u_ws RX7 TX7 31
theorem nmX7 : ∀ a, a < 31 → ∀ b, b < 31 → a ≠ b → (TX7 a).2.1 ≠ (TX7 b).2.1 := by decide +kernel
theorem tyX7_ok : ∀ k, k < 31 → parseFieldDescriptor (TX7 k).2.2.1 = some (tyX7 k) := by decide +kernel
abbrev cX7_init : ByteArray := prog_9_method_1_code
def yX7_init : MethodName := ⟨RX7, "<init>", "()V"⟩
abbrev cX7_in : ByteArray := prog_9_method_3_code
def yX7_in : MethodName := ⟨RX7, "in", "(III)Z"⟩
abbrev cX7_isTable : ByteArray := prog_9_method_4_code
def yX7_isTable : MethodName := ⟨RX7, "isTable", "(I)Z"⟩
abbrev cX7_isColumn : ByteArray := prog_9_method_5_code
def yX7_isColumn : MethodName := ⟨RX7, "isColumn", "(II)Z"⟩
abbrev cX7_isRow : ByteArray := prog_9_method_6_code
def yX7_isRow : MethodName := ⟨RX7, "isRow", "(II)Z"⟩
abbrev cX7_cell : ByteArray := prog_9_method_7_code
def yX7_cell : MethodName := ⟨RX7, "cell", "(III)I"⟩
abbrev cX7_figure : ByteArray := prog_9_method_8_code
def yX7_figure : MethodName := ⟨RX7, "figure", "(I)I"⟩
abbrev cX7_isKey : ByteArray := prog_9_method_9_code
def yX7_isKey : MethodName := ⟨RX7, "isKey", "(I)Z"⟩
abbrev cX7_table : ByteArray := prog_9_method_10_code
def yX7_table : MethodName := ⟨RX7, "table", "()I"⟩
abbrev cX7_begin : ByteArray := prog_9_method_11_code
def yX7_begin : MethodName := ⟨RX7, "begin", "(III)V"⟩
abbrev cX7_column : ByteArray := prog_9_method_12_code
def yX7_column : MethodName := ⟨RX7, "column", "(III)I"⟩
abbrev cX7_cell_ : ByteArray := prog_9_method_13_code
def yX7_cell_ : MethodName := ⟨RX7, "cell", "(I)I"⟩
abbrev cX7_wipe : ByteArray := prog_9_method_14_code
def yX7_wipe : MethodName := ⟨RX7, "wipe", "()I"⟩
abbrev cX7_isOf : ByteArray := prog_9_method_15_code
def yX7_isOf : MethodName := ⟨RX7, "isOf", "(II)Z"⟩
abbrev cX7_row : ByteArray := prog_9_method_16_code
def yX7_row : MethodName := ⟨RX7, "row", "(I)I"⟩
abbrev cX7_owner : ByteArray := prog_9_method_17_code
def yX7_owner : MethodName := ⟨RX7, "owner", "(II)I"⟩
abbrev cX7_fits : ByteArray := prog_9_method_18_code
def yX7_fits : MethodName := ⟨RX7, "fits", "(III)Z"⟩
abbrev cX7_mask : ByteArray := prog_9_method_19_code
def yX7_mask : MethodName := ⟨RX7, "mask", "(IIII)I"⟩
abbrev cX7_dial : ByteArray := prog_9_method_20_code
def yX7_dial : MethodName := ⟨RX7, "dial", "(IIIII)I"⟩
abbrev cX7_seed : ByteArray := prog_9_method_21_code
def yX7_seed : MethodName := ⟨RX7, "seed", "(I)I"⟩
abbrev cX7_turnedKey : ByteArray := prog_9_method_22_code
def yX7_turnedKey : MethodName := ⟨RX7, "turnedKey", "(II)I"⟩
abbrev cX7_turnedName : ByteArray := prog_9_method_23_code
def yX7_turnedName : MethodName := ⟨RX7, "turnedName", "(II)I"⟩
abbrev cX7_ownerOf : ByteArray := prog_9_method_24_code
def yX7_ownerOf : MethodName := ⟨RX7, "ownerOf", "(II)I"⟩
abbrev cX7_shiftOf : ByteArray := prog_9_method_25_code
def yX7_shiftOf : MethodName := ⟨RX7, "shiftOf", "(I)I"⟩
abbrev cX7_stays : ByteArray := prog_9_method_26_code
def yX7_stays : MethodName := ⟨RX7, "stays", "(II)Z"⟩
abbrev cX7_coarse : ByteArray := prog_9_method_27_code
def yX7_coarse : MethodName := ⟨RX7, "coarse", "(II)I"⟩
abbrev cX7_maskedCell : ByteArray := prog_9_method_28_code
def yX7_maskedCell : MethodName := ⟨RX7, "maskedCell", "(III)I"⟩
abbrev cX7_maskTable : ByteArray := prog_9_method_29_code
def yX7_maskTable : MethodName := ⟨RX7, "maskTable", "(I)V"⟩
abbrev cX7_rule : ByteArray := prog_9_method_30_code
def yX7_rule : MethodName := ⟨RX7, "rule", "(IIII)I"⟩
abbrev cX7_order : ByteArray := prog_9_method_31_code
def yX7_order : MethodName := ⟨RX7, "order", "(III)I"⟩
abbrev cX7_agree : ByteArray := prog_9_method_32_code
def yX7_agree : MethodName := ⟨RX7, "agree", "(IIIIII)I"⟩
abbrev cX7_found : ByteArray := prog_9_method_33_code
def yX7_found : MethodName := ⟨RX7, "found", "(II)I"⟩
abbrev cX7_unrule : ByteArray := prog_9_method_34_code
def yX7_unrule : MethodName := ⟨RX7, "unrule", "()I"⟩
abbrev cX7_sumFor : ByteArray := prog_9_method_35_code
def yX7_sumFor : MethodName := ⟨RX7, "sumFor", "(II)I"⟩
abbrev cX7_isKeyOf : ByteArray := prog_9_method_36_code
def yX7_isKeyOf : MethodName := ⟨RX7, "isKeyOf", "(II)Z"⟩
abbrev cX7_holdsFor : ByteArray := prog_9_method_37_code
def yX7_holdsFor : MethodName := ⟨RX7, "holdsFor", "(II)Z"⟩
abbrev cX7_firstBroken : ByteArray := prog_9_method_38_code
def yX7_firstBroken : MethodName := ⟨RX7, "firstBroken", "()I"⟩
abbrev cX7_see : ByteArray := prog_9_method_39_code
def yX7_see : MethodName := ⟨RX7, "see", "(I)V"⟩
abbrev cX7_broken : ByteArray := prog_9_method_40_code
def yX7_broken : MethodName := ⟨RX7, "broken", "(I)I"⟩
abbrev cX7_make : ByteArray := prog_9_method_41_code
def yX7_make : MethodName := ⟨RX7, "make", "()I"⟩
abbrev cX7_at : ByteArray := prog_9_method_42_code
def yX7_at : MethodName := ⟨RX7, "at", "(IIII)I"⟩
abbrev cX7_turned : ByteArray := prog_9_method_43_code
def yX7_turned : MethodName := ⟨RX7, "turned", "(III)I"⟩
abbrev cX7_shift : ByteArray := prog_9_method_44_code
def yX7_shift : MethodName := ⟨RX7, "shift", "(I)I"⟩
abbrev cX7_count : ByteArray := prog_9_method_45_code
def yX7_count : MethodName := ⟨RX7, "count", "(IIII)I"⟩
abbrev cX7_joins : ByteArray := prog_9_method_46_code
def yX7_joins : MethodName := ⟨RX7, "joins", "(III)I"⟩
abbrev cX7_miss : ByteArray := prog_9_method_47_code
def yX7_miss : MethodName := ⟨RX7, "miss", "(II)I"⟩
abbrev cX7_isKnown : ByteArray := prog_9_method_48_code
def yX7_isKnown : MethodName := ⟨RX7, "isKnown", "(II)Z"⟩
abbrev cX7_isPlain : ByteArray := prog_9_method_49_code
def yX7_isPlain : MethodName := ⟨RX7, "isPlain", "(II)Z"⟩
abbrev cX7_couldBe : ByteArray := prog_9_method_50_code
def yX7_couldBe : MethodName := ⟨RX7, "couldBe", "(IIII)Z"⟩
abbrev cX7_couldOf : ByteArray := prog_9_method_51_code
def yX7_couldOf : MethodName := ⟨RX7, "couldOf", "(III)I"⟩
abbrev cX7_could : ByteArray := prog_9_method_52_code
def yX7_could : MethodName := ⟨RX7, "could", "(III)I"⟩
abbrev cX7_alikeOf : ByteArray := prog_9_method_53_code
def yX7_alikeOf : MethodName := ⟨RX7, "alikeOf", "(II)I"⟩
abbrev cX7_alike : ByteArray := prog_9_method_54_code
def yX7_alike : MethodName := ⟨RX7, "alike", "(II)I"⟩
abbrev cX7_sure : ByteArray := prog_9_method_55_code
def yX7_sure : MethodName := ⟨RX7, "sure", "(IIII)I"⟩
abbrev cX7_lossOf : ByteArray := prog_9_method_56_code
def yX7_lossOf : MethodName := ⟨RX7, "lossOf", "(II)I"⟩
abbrev cX7_loss : ByteArray := prog_9_method_57_code
def yX7_loss : MethodName := ⟨RX7, "loss", "(II)I"⟩
abbrev cX7_width : ByteArray := prog_9_method_58_code
def yX7_width : MethodName := ⟨RX7, "width", "(I)I"⟩
abbrev cX7_gives : ByteArray := prog_9_method_59_code
def yX7_gives : MethodName := ⟨RX7, "gives", "(III)I"⟩
abbrev cX7_best : ByteArray := prog_9_method_60_code
def yX7_best : MethodName := ⟨RX7, "best", "(III)I"⟩
abbrev cX7_about : ByteArray := prog_9_method_61_code
def yX7_about : MethodName := ⟨RX7, "about", "(III)I"⟩
abbrev cX7_all : ByteArray := prog_9_method_62_code
def yX7_all : MethodName := ⟨RX7, "all", "(I)I"⟩
def RJ6 : String := "java/lang/Integer"
def TJ6 : u_T := fun k => match k with
  | _ => ("", "", "", false)
def tyJ6 : Nat → FieldType := fun k => match k with
  | _ => .int
abbrev cJ6_bitCount_0f7a4 : ByteArray := prog_10_method_49_code
def yJ6_bitCount_0f7a4 : MethodName := ⟨RJ6, "bitCount", "(I)I"⟩
def RJ9 : String := "java/lang/Math"
def TJ9 : u_T := fun k => match k with
  | _ => ("", "", "", false)
def tyJ9 : Nat → FieldType := fun k => match k with
  | _ => .int
abbrev cJ9_floorMod_7cf53 : ByteArray := prog_11_method_50_code
def yJ9_floorMod_7cf53 : MethodName := ⟨RJ9, "floorMod", "(II)I"⟩
abbrev cJ9_abs_0f7a4 : ByteArray := prog_11_method_59_code
def yJ9_abs_0f7a4 : MethodName := ⟨RJ9, "abs", "(I)I"⟩
abbrev cJ9_min_7cf53 : ByteArray := prog_11_method_69_code
def yJ9_min_7cf53 : MethodName := ⟨RJ9, "min", "(II)I"⟩
def RL : String := "MaskedCopiesLaw"
abbrev cL_law : ByteArray := code
def yL_law : MethodName := ⟨RL, "law", "([I)Z"⟩
abbrev vwCl : List vw_C := [(RX0, TX0, 6), (RX1, TX1, 1), (RX2, TX2, 2), (RX3, TX3, 7), (RX4, TX4, 6), (RX5, TX5, 6), (RX6, TX6, 13), (RX7, TX7, 31)]
end
section
/-! ===== the small machine: cells by number, ints and references apart; what it reaches, the machine reaches ===== -/
/- a cell's shape: an object of a class (its number in vwCl), or an array (0 int, 1 boolean, 2 Column, 3 Table, 4 Rule) and its length -/
def m_tbl : List Cond := lw_tbl.filter goodWord
theorem m_mem {w : Cond} (i : Nat) (h : lw_tbl[i]? = some w) (hg : goodWord w = true) : w ∈ m_tbl := List.mem_filter.mpr ⟨List.mem_of_getElem? h, hg⟩
abbrev mSh : Type := Nat ⊕ (Nat × Nat)
/-- shapes, ints, references (by cell number) -/
abbrev mH : Type := List mSh × (Nat → Nat → Int32) × (Nat → Nat → Option Nat)
/-- launch, class numbers and slots, array classes, the first cell's address, the script's, the widths' -/
abbrev mG : Type := Launch × va_G × (Nat → ClassId) × Nat × Nat × Nat
/-- a method: name, bytes, locals, return type -/
abbrev mM : Type := MethodName × ByteArray × Nat × Option FieldType
def m_ad (G : mG) (k : Nat) : Nat := if k = 1000000 then G.2.2.2.2.1 else if k = 1000001 then G.2.2.2.2.2 else G.2.2.2.1 + k
def m_rv (G : mG) (v : Value) : Value := match v with
  | .int x => .int x
  | .ref a => .ref (m_ad G a)
  | _ => .null
def m_A (G : mG) : Nat → Prop := fun q => G.2.2.2.1 ≤ q
def m_ty (ci : Nat) : Nat → FieldType := match ci with
  | 0 => tyX0
  | 1 => tyX1
  | 2 => tyX2
  | 3 => tyX3
  | 4 => tyX4
  | 5 => tyX5
  | 6 => tyX6
  | _ => tyX7
def m_nF (ci : Nat) : Nat := match ci with
  | 0 => 6
  | 1 => 1
  | 2 => 2
  | 3 => 7
  | 4 => 6
  | 5 => 6
  | 6 => 13
  | _ => 31
def m_at_ty (ti : Nat) : FieldType := match ti with
  | 0 => .int
  | 1 => .boolean
  | 2 => .object RX0
  | 3 => .object RX4
  | _ => .object RX3
def m_fv (G : mG) (ci : Nat) (f : Nat → Int32) (r : Nat → Option Nat) (k : Nat) : Value := if (m_ty ci k).isReference = true then va_rf ((r k).map (m_ad G)) else .int (f k)
def m_av (G : mG) (ti : Nat) (f : Nat → Int32) (r : Nat → Option Nat) (j : Nat) : Value := if ti < 2 then .int (f j) else va_rf ((r j).map (m_ad G))
def m_at (G : mG) (sh : mSh) (f : Nat → Int32) (r : Nat → Option Nat) (a : Nat) (H : Heap) : Prop := match sh with
  | .inl ci => ci < 8 ∧ t_OB (m_ad G a) (G.2.1.1 ci) (m_nF ci) (G.2.1.2 ci) H (m_fv G ci f r)
  | .inr (ti, n) => ti < 5 ∧ H[m_ad G a]? = some (arrV (G.2.2.1 ti) n (m_av G ti f r))
def m_P (G : mG) (h : mH) (H : Heap) : Prop := (∀ (a : Nat) (sh : mSh), h.1[a]? = some sh → m_at G sh (h.2.1 a) (h.2.2 a) a H) ∧ H.size = G.2.2.2.1 + h.1.length ∧ h.1.length ≤ 1000
def m_tys (G : mG) : List (ClassId × FieldType) := [(G.2.2.1 0, .int), (G.2.2.1 1, .boolean), (G.2.2.1 2, .object RX0), (G.2.2.1 3, .object RX4), (G.2.2.1 4, .object RX3)]
def m_wid (j : Nat) : Int32 := match j with
  | 0 => 1
  | 1 => 10
  | 2 => 100
  | _ => 1000
/-- the static row of widths: nobody writes it -/
def m_St (G : mG) (U : State) (H : Heap) : Prop := va_Z "MaskedCopies$WidthSearch" "WIDTHS" "[I" (.ref G.2.2.2.2.2) (m_A G) U H ∧ va_T .int G.2.2.2.2.2 4 (fun j => .int (m_wid j)) (m_A G) U H
/-- locals by their places; .retAddr: nothing is known -/
def m_lv (G : mG) : Nat → List Value → List (Nat × Value)
  | _, [] => []
  | n, v :: L => match v with
    | .retAddr _ => m_lv G (n + 1) L
    | v => (n, m_rv G v) :: m_lv G (n + 1) L
def m_Cx (G : mG) (M : mM) (d : Nat) (p : Program) (R : Room) (s : State) (m : MethodId) (args : Array Value) (meth : Method) (c : Code) : Prop :=
  p.tables.exec = Jvm.exec ∧ c.code = M.2.1 ∧ c.maxLocals = M.2.2.1 ∧ s.vm.findClass M.1.cls = some m.cls ∧ (∀ w ∈ m_tbl, w.before args s = true) ∧ va_K G.2.1 vwCl (m_tys G) s ∧ m_St G s s.heap ∧ G.2.2.2.1 ≤ s.heap.size ∧ d ≤ R.frames ∧ 39 * d ≤ R.locals ∧ meth.name = M.1.name
def m_retI (ret : Option FieldType) : Instr := match ret with
  | none => .return_
  | some t => if t.isReference = true then .areturn else .ireturn
/-- the small machine at pc, with locals L, stack st, heap h, comes to its return with r and h' (d frames, rc cells and rs slots are left) -/
def MW (G : mG) (M : mM) (d rc rs pc : Nat) (L st : List Value) (h : mH) (r : Option Value) (h' : mH) : Prop :=
  ∀ (p : Program) (e : Env) (R : Room) (s : State) (m : MethodId) (args : Array Value) (below : List Frame) (meth : Method) (c : Code) (H : Heap) (locs : List Loc) (cells slots : Nat) (Q : State → Prop) (ls : Array Slot),
    m_Cx G M d p R s m args meth c → m_P G h H → va_S (m_A G) s.heap H locs → lv_has ls M.2.2.1 (m_lv G 0 L) → cells + rc ≤ R.cells → slots + rs ≤ R.slots →
    (∀ (pc' : Nat) (ls' : Array Slot) (H' : Heap) (locs' : List Loc) (cells' slots' : Nat), decode M.2.1 pc' = .ok (m_retI M.2.2.2, 1) → m_P G h' H' → va_S (m_A G) s.heap H' locs' → cells' ≤ cells + rc → slots' ≤ slots + rs →
      W p G.1 e R s m args below meth c H' locs' cells' slots' Q (F0 m pc' ls' (r.toList.map (m_rv G)))) →
    W p G.1 e R s m args below meth c H locs cells slots Q (F0 m pc ls (st.map (m_rv G)))
/-- a method's contract -/
def MC (G : mG) (M : mM) (d mc ms : Nat) (av : List Value) (h : mH) (r : Option Value) (h' : mH) : Prop :=
  Met G.1 M.1 (Cond.code M.1 M.2.1 M.2.2.1 M.2.2.2 :: m_tbl) { frames := d, cells := mc, slots := ms, locals := 39 * d }
    (va_Pc (av.map (m_rv G)) (fun U => va_K G.2.1 vwCl (m_tys G) U ∧ m_St G U U.heap ∧ m_P G h U.heap))
    (fun _ st oc t => oc = .returned (r.map (m_rv G)) ∧ m_P G h' t.heap ∧ va_F (m_A G) st t) mc ms (m_A G)
theorem m_lv_mem {G : mG} : ∀ (L : List Value) (n : Nat) (q : Nat × Value), q ∈ m_lv G n L → ∃ (i : Nat) (v : Value), L[i]? = some v ∧ (∀ z, v ≠ .retAddr z) ∧ q = (n + i, m_rv G v)
  | [], n, q, h => by simp [m_lv] at h
  | v :: L, n, q, h => by
    have key : q = (n, m_rv G v) ∧ (∀ z, v ≠ .retAddr z) ∨ q ∈ m_lv G (n + 1) L := by
      cases v with
      | retAddr z => exact Or.inr h
      | _ =>
        rcases List.mem_cons.mp h with h | h
        · exact Or.inl ⟨h, fun z e => by cases e⟩
        · exact Or.inr h
    rcases key with ⟨h1, h2⟩ | h1
    · exact ⟨0, v, rfl, h2, by rw [h1]; rfl⟩
    · obtain ⟨i, w, e1, e2, e3⟩ := m_lv_mem L (n + 1) q h1
      exact ⟨i + 1, w, by rw [List.getElem?_cons_succ]; exact e1, e2, by rw [e3, show n + 1 + i = n + (i + 1) by omega]⟩
theorem m_lv_in {G : mG} : ∀ (L : List Value) (n i : Nat) (v : Value), L[i]? = some v → (∀ z, v ≠ .retAddr z) → (n + i, m_rv G v) ∈ m_lv G n L
  | [], n, i, v, h, _ => by simp at h
  | w :: L, n, 0, v, h, hz => by
    rw [List.getElem?_cons_zero] at h
    have h := Option.some.inj h
    subst h
    cases w with
    | retAddr z => exact absurd rfl (hz z)
    | _ => exact List.mem_cons_self
  | w :: L, n, i + 1, v, h, hz => by
    rw [List.getElem?_cons_succ] at h
    have h1 := m_lv_in (G := G) L (n + 1) i v h hz
    rw [show n + 1 + i = n + (i + 1) by omega] at h1
    cases w with
    | retAddr z => exact h1
    | _ => exact List.mem_cons_of_mem _ h1
theorem m_rv_c1 (G : mG) (v : Value) : (m_rv G v).category = 1 := by cases v <;> rfl
theorem m_get {G : mG} {ls : Array Slot} {n : Nat} {L : List Value} (hl : lv_has ls n (m_lv G 0 L)) {i : Nat} {v : Value} (hi : L[i]? = some v) (hv : ∀ z, v ≠ .retAddr z) : ls[i]? = some (.val (m_rv G v)) := by
  have h := hl.2.2 _ (m_lv_in L 0 i v hi hv)
  rw [Nat.zero_add] at h
  exact h
/-- behind a store -/
theorem m_stored {G : mG} {ls : Array Slot} {n i : Nat} {L : List Value} {v : Value} (h : lv_has ls n ((i, m_rv G v) :: (m_lv G 0 L).filter (fun q => !(q.1 == i) && !(q.1 + 1 == i && q.2.category == 2)))) : lv_has ls n (m_lv G 0 (L.set i v)) := by
  refine ⟨h.1, h.2.1, fun q hq => ?_⟩
  obtain ⟨j, w, e1, e2, rfl⟩ := m_lv_mem _ _ _ hq
  rw [Nat.zero_add]
  by_cases hji : j = i
  · subst hji
    have hlt : j < L.length := by
      have := (List.getElem?_eq_some_iff.mp e1).1
      rwa [List.length_set] at this
    rw [List.getElem?_set_self hlt] at e1
    cases e1
    exact h.2.2 (j, m_rv G v) List.mem_cons_self
  · rw [List.getElem?_set_ne (Ne.symm hji)] at e1
    refine h.2.2 (j, m_rv G w) (List.mem_cons_of_mem _ (List.mem_filter.mpr ⟨?_, ?_⟩))
    · have := m_lv_in (G := G) L 0 j w e1 e2
      rwa [Nat.zero_add] at this
    · rw [show ((j, m_rv G w) : Nat × Value).2.category = 1 from m_rv_c1 G w]
      simp [hji]
theorem m_A_ad {G : mG} {k : Nat} (h : k < 1000) : m_ad G k = G.2.2.2.1 + k := by
  unfold m_ad
  rw [if_neg (by omega), if_neg (by omega)]
end
section
/-! ===== rows of the small machine: stack, locals, numbers, branches (written by wip/whole/mkrules.py) ===== -/
theorem r_iconst {G : mG} {M : mM} {d rc rs pc : Nat} {L st : List Value} {h h' : mH} {r : Option Value} {n : Int} {x : Int32} (hd : decode M.2.1 pc = .ok (.iconst n, 1)) (hv : Int32.ofInt n = x) (k : MW G M d rc rs (pc + 1) L (.int x :: st) h r h') : MW G M d rc rs pc L (st) h r h' := by
  intro p e R s m args below meth c H locs cells slots Q ls cx hP hS hl hc1 hc2 fin
  exact lv_iconst cx.1 cx.2.1 hd hv (k p e R s m args below meth c H locs cells slots Q ls cx hP hS hl hc1 hc2 fin)
theorem r_bipush {G : mG} {M : mM} {d rc rs pc : Nat} {L st : List Value} {h h' : mH} {r : Option Value} {n : Int} {x : Int32} (hd : decode M.2.1 pc = .ok (.bipush n, 2)) (hv : (Int8.ofInt n).toInt32 = x) (k : MW G M d rc rs (pc + 2) L (.int x :: st) h r h') : MW G M d rc rs pc L (st) h r h' := by
  intro p e R s m args below meth c H locs cells slots Q ls cx hP hS hl hc1 hc2 fin
  exact lv_bipush cx.1 cx.2.1 hd hv (k p e R s m args below meth c H locs cells slots Q ls cx hP hS hl hc1 hc2 fin)
theorem r_sipush {G : mG} {M : mM} {d rc rs pc : Nat} {L st : List Value} {h h' : mH} {r : Option Value} {n : Int} {x : Int32} (hd : decode M.2.1 pc = .ok (.sipush n, 3)) (hv : (Int16.ofInt n).toInt32 = x) (k : MW G M d rc rs (pc + 3) L (.int x :: st) h r h') : MW G M d rc rs pc L (st) h r h' := by
  intro p e R s m args below meth c H locs cells slots Q ls cx hP hS hl hc1 hc2 fin
  exact lv_sipush cx.1 cx.2.1 hd hv (k p e R s m args below meth c H locs cells slots Q ls cx hP hS hl hc1 hc2 fin)
theorem r_null {G : mG} {M : mM} {d rc rs pc : Nat} {L st : List Value} {h h' : mH} {r : Option Value} (hd : decode M.2.1 pc = .ok (.aconst_null, 1)) (k : MW G M d rc rs (pc + 1) L (.null :: st) h r h') : MW G M d rc rs pc L (st) h r h' := by
  intro p e R s m args below meth c H locs cells slots Q ls cx hP hS hl hc1 hc2 fin
  exact lv_null cx.1 cx.2.1 hd (k p e R s m args below meth c H locs cells slots Q ls cx hP hS hl hc1 hc2 fin)
theorem r_ldc {G : mG} {M : mM} {d rc rs pc : Nat} {L st : List Value} {h h' : mH} {r : Option Value} {i : Nat} {x : Int32} (hd : decode M.2.1 pc = .ok (.ldc i, 2)) (hw : Cond.constant M.1.cls i x ∈ m_tbl) (k : MW G M d rc rs (pc + 2) L (.int x :: st) h r h') : MW G M d rc rs pc L (st) h r h' := by
  intro p e R s m args below meth c H locs cells slots Q ls cx hP hS hl hc1 hc2 fin
  exact lv_ldc cx.1 cx.2.1 cx.2.2.2.1 (cx.2.2.2.2.1 _ hw) hd (k p e R s m args below meth c H locs cells slots Q ls cx hP hS hl hc1 hc2 fin)
theorem r_iload {G : mG} {M : mM} {d rc rs pc : Nat} {L st : List Value} {h h' : mH} {r : Option Value} {i : Nat} {x : Int32} (hd : decode M.2.1 pc = .ok (.iload i, 2)) (hi : L[i]? = some (.int x)) (k : MW G M d rc rs (pc + 2) L (.int x :: st) h r h') : MW G M d rc rs pc L (st) h r h' := by
  intro p e R s m args below meth c H locs cells slots Q ls cx hP hS hl hc1 hc2 fin
  exact lv_iload cx.1 cx.2.1 hd (m_get hl hi (fun _ h => by cases h)) (k p e R s m args below meth c H locs cells slots Q ls cx hP hS hl hc1 hc2 fin)
theorem r_iload_n {G : mG} {M : mM} {d rc rs pc : Nat} {L st : List Value} {h h' : mH} {r : Option Value} {j : Fin 4} {i : Nat} {x : Int32} (hd : decode M.2.1 pc = .ok (.iload_n j, 1)) (hj : (j : Nat) = i) (hi : L[i]? = some (.int x)) (k : MW G M d rc rs (pc + 1) L (.int x :: st) h r h') : MW G M d rc rs pc L (st) h r h' := by
  intro p e R s m args below meth c H locs cells slots Q ls cx hP hS hl hc1 hc2 fin
  exact lv_iload_n cx.1 cx.2.1 hd hj (m_get hl hi (fun _ h => by cases h)) (k p e R s m args below meth c H locs cells slots Q ls cx hP hS hl hc1 hc2 fin)
theorem r_aload {G : mG} {M : mM} {d rc rs pc : Nat} {L st : List Value} {h h' : mH} {r : Option Value} {i a : Nat} (hd : decode M.2.1 pc = .ok (.aload i, 2)) (hi : L[i]? = some (.ref a)) (k : MW G M d rc rs (pc + 2) L (.ref a :: st) h r h') : MW G M d rc rs pc L (st) h r h' := by
  intro p e R s m args below meth c H locs cells slots Q ls cx hP hS hl hc1 hc2 fin
  exact lv_aload cx.1 cx.2.1 hd (m_get hl hi (fun _ h => by cases h)) (k p e R s m args below meth c H locs cells slots Q ls cx hP hS hl hc1 hc2 fin)
theorem r_aload_n {G : mG} {M : mM} {d rc rs pc : Nat} {L st : List Value} {h h' : mH} {r : Option Value} {j : Fin 4} {i a : Nat} (hd : decode M.2.1 pc = .ok (.aload_n j, 1)) (hj : (j : Nat) = i) (hi : L[i]? = some (.ref a)) (k : MW G M d rc rs (pc + 1) L (.ref a :: st) h r h') : MW G M d rc rs pc L (st) h r h' := by
  intro p e R s m args below meth c H locs cells slots Q ls cx hP hS hl hc1 hc2 fin
  exact lv_aload_n cx.1 cx.2.1 hd hj (m_get hl hi (fun _ h => by cases h)) (k p e R s m args below meth c H locs cells slots Q ls cx hP hS hl hc1 hc2 fin)
theorem r_aloadN {G : mG} {M : mM} {d rc rs pc : Nat} {L st : List Value} {h h' : mH} {r : Option Value} {i : Nat} (hd : decode M.2.1 pc = .ok (.aload i, 2)) (hi : L[i]? = some .null) (k : MW G M d rc rs (pc + 2) L (.null :: st) h r h') : MW G M d rc rs pc L (st) h r h' := by
  intro p e R s m args below meth c H locs cells slots Q ls cx hP hS hl hc1 hc2 fin
  exact lv_aloadN cx.1 cx.2.1 hd (m_get hl hi (fun _ h => by cases h)) (k p e R s m args below meth c H locs cells slots Q ls cx hP hS hl hc1 hc2 fin)
theorem r_aload_nN {G : mG} {M : mM} {d rc rs pc : Nat} {L st : List Value} {h h' : mH} {r : Option Value} {j : Fin 4} {i : Nat} (hd : decode M.2.1 pc = .ok (.aload_n j, 1)) (hj : (j : Nat) = i) (hi : L[i]? = some .null) (k : MW G M d rc rs (pc + 1) L (.null :: st) h r h') : MW G M d rc rs pc L (st) h r h' := by
  intro p e R s m args below meth c H locs cells slots Q ls cx hP hS hl hc1 hc2 fin
  exact lv_aload_nN cx.1 cx.2.1 hd hj (m_get hl hi (fun _ h => by cases h)) (k p e R s m args below meth c H locs cells slots Q ls cx hP hS hl hc1 hc2 fin)
theorem r_istore {G : mG} {M : mM} {d rc rs pc : Nat} {L st : List Value} {h h' : mH} {r : Option Value} {i : Nat} {x : Int32} {L' : List Value} (hd : decode M.2.1 pc = .ok (.istore i, 2)) (hn : i < M.2.2.1) (hL : L.set i (.int x) = L') (k : MW G M d rc rs (pc + 2) L' st h r h') : MW G M d rc rs pc L (.int x :: st) h r h' := by
  subst hL
  intro p e R s m args below meth c H locs cells slots Q ls cx hP hS hl hc1 hc2 fin
  exact lv_istore cx.1 cx.2.1 hd hl hn rfl (fun ls hl => k p e R s m args below meth c H locs cells slots Q ls cx hP hS (m_stored hl) hc1 hc2 fin)
theorem r_astore {G : mG} {M : mM} {d rc rs pc : Nat} {L st : List Value} {h h' : mH} {r : Option Value} {i : Nat} {x : Nat} {L' : List Value} (hd : decode M.2.1 pc = .ok (.astore i, 2)) (hn : i < M.2.2.1) (hL : L.set i (.ref x) = L') (k : MW G M d rc rs (pc + 2) L' st h r h') : MW G M d rc rs pc L (.ref x :: st) h r h' := by
  subst hL
  intro p e R s m args below meth c H locs cells slots Q ls cx hP hS hl hc1 hc2 fin
  exact lv_astore cx.1 cx.2.1 hd hl hn rfl (fun ls hl => k p e R s m args below meth c H locs cells slots Q ls cx hP hS (m_stored hl) hc1 hc2 fin)
theorem r_astoreN {G : mG} {M : mM} {d rc rs pc : Nat} {L st : List Value} {h h' : mH} {r : Option Value} {i : Nat} {L' : List Value} (hd : decode M.2.1 pc = .ok (.astore i, 2)) (hn : i < M.2.2.1) (hL : L.set i (.null) = L') (k : MW G M d rc rs (pc + 2) L' st h r h') : MW G M d rc rs pc L (.null :: st) h r h' := by
  subst hL
  intro p e R s m args below meth c H locs cells slots Q ls cx hP hS hl hc1 hc2 fin
  exact lv_astoreN cx.1 cx.2.1 hd hl hn rfl (fun ls hl => k p e R s m args below meth c H locs cells slots Q ls cx hP hS (m_stored hl) hc1 hc2 fin)
theorem r_istore_n {G : mG} {M : mM} {d rc rs pc : Nat} {L st : List Value} {h h' : mH} {r : Option Value} {j : Fin 4} {i : Nat} {x : Int32} {L' : List Value} (hd : decode M.2.1 pc = .ok (.istore_n j, 1)) (hj : (j : Nat) = i) (hn : i < M.2.2.1) (hL : L.set i (.int x) = L') (k : MW G M d rc rs (pc + 1) L' st h r h') : MW G M d rc rs pc L (.int x :: st) h r h' := by
  subst hL
  intro p e R s m args below meth c H locs cells slots Q ls cx hP hS hl hc1 hc2 fin
  exact lv_istore_n cx.1 cx.2.1 hd hj hl hn rfl (fun ls hl => k p e R s m args below meth c H locs cells slots Q ls cx hP hS (m_stored hl) hc1 hc2 fin)
theorem r_astore_n {G : mG} {M : mM} {d rc rs pc : Nat} {L st : List Value} {h h' : mH} {r : Option Value} {j : Fin 4} {i : Nat} {x : Nat} {L' : List Value} (hd : decode M.2.1 pc = .ok (.astore_n j, 1)) (hj : (j : Nat) = i) (hn : i < M.2.2.1) (hL : L.set i (.ref x) = L') (k : MW G M d rc rs (pc + 1) L' st h r h') : MW G M d rc rs pc L (.ref x :: st) h r h' := by
  subst hL
  intro p e R s m args below meth c H locs cells slots Q ls cx hP hS hl hc1 hc2 fin
  exact lv_astore_n cx.1 cx.2.1 hd hj hl hn rfl (fun ls hl => k p e R s m args below meth c H locs cells slots Q ls cx hP hS (m_stored hl) hc1 hc2 fin)
theorem r_astore_nN {G : mG} {M : mM} {d rc rs pc : Nat} {L st : List Value} {h h' : mH} {r : Option Value} {j : Fin 4} {i : Nat} {L' : List Value} (hd : decode M.2.1 pc = .ok (.astore_n j, 1)) (hj : (j : Nat) = i) (hn : i < M.2.2.1) (hL : L.set i (.null) = L') (k : MW G M d rc rs (pc + 1) L' st h r h') : MW G M d rc rs pc L (.null :: st) h r h' := by
  subst hL
  intro p e R s m args below meth c H locs cells slots Q ls cx hP hS hl hc1 hc2 fin
  exact lv_astore_nN cx.1 cx.2.1 hd hj hl hn rfl (fun ls hl => k p e R s m args below meth c H locs cells slots Q ls cx hP hS (m_stored hl) hc1 hc2 fin)
theorem r_iadd {G : mG} {M : mM} {d rc rs pc : Nat} {L st : List Value} {h h' : mH} {r : Option Value} {x y : Int32} (hd : decode M.2.1 pc = .ok (.iadd, 1)) (k : MW G M d rc rs (pc + 1) L (.int (x + y) :: st) h r h') : MW G M d rc rs pc L (.int y :: .int x :: st) h r h' := by
  intro p e R s m args below meth c H locs cells slots Q ls cx hP hS hl hc1 hc2 fin
  exact lv_iadd cx.1 cx.2.1 hd (k p e R s m args below meth c H locs cells slots Q ls cx hP hS hl hc1 hc2 fin)
theorem r_isub {G : mG} {M : mM} {d rc rs pc : Nat} {L st : List Value} {h h' : mH} {r : Option Value} {x y : Int32} (hd : decode M.2.1 pc = .ok (.isub, 1)) (k : MW G M d rc rs (pc + 1) L (.int (x - y) :: st) h r h') : MW G M d rc rs pc L (.int y :: .int x :: st) h r h' := by
  intro p e R s m args below meth c H locs cells slots Q ls cx hP hS hl hc1 hc2 fin
  exact lv_isub cx.1 cx.2.1 hd (k p e R s m args below meth c H locs cells slots Q ls cx hP hS hl hc1 hc2 fin)
theorem r_imul {G : mG} {M : mM} {d rc rs pc : Nat} {L st : List Value} {h h' : mH} {r : Option Value} {x y : Int32} (hd : decode M.2.1 pc = .ok (.imul, 1)) (k : MW G M d rc rs (pc + 1) L (.int (x * y) :: st) h r h') : MW G M d rc rs pc L (.int y :: .int x :: st) h r h' := by
  intro p e R s m args below meth c H locs cells slots Q ls cx hP hS hl hc1 hc2 fin
  exact lv_imul cx.1 cx.2.1 hd (k p e R s m args below meth c H locs cells slots Q ls cx hP hS hl hc1 hc2 fin)
theorem r_iand {G : mG} {M : mM} {d rc rs pc : Nat} {L st : List Value} {h h' : mH} {r : Option Value} {x y : Int32} (hd : decode M.2.1 pc = .ok (.iand, 1)) (k : MW G M d rc rs (pc + 1) L (.int (x &&& y) :: st) h r h') : MW G M d rc rs pc L (.int y :: .int x :: st) h r h' := by
  intro p e R s m args below meth c H locs cells slots Q ls cx hP hS hl hc1 hc2 fin
  exact lv_iand cx.1 cx.2.1 hd (k p e R s m args below meth c H locs cells slots Q ls cx hP hS hl hc1 hc2 fin)
theorem r_ior {G : mG} {M : mM} {d rc rs pc : Nat} {L st : List Value} {h h' : mH} {r : Option Value} {x y : Int32} (hd : decode M.2.1 pc = .ok (.ior, 1)) (k : MW G M d rc rs (pc + 1) L (.int (x ||| y) :: st) h r h') : MW G M d rc rs pc L (.int y :: .int x :: st) h r h' := by
  intro p e R s m args below meth c H locs cells slots Q ls cx hP hS hl hc1 hc2 fin
  exact lv_ior cx.1 cx.2.1 hd (k p e R s m args below meth c H locs cells slots Q ls cx hP hS hl hc1 hc2 fin)
theorem r_ixor {G : mG} {M : mM} {d rc rs pc : Nat} {L st : List Value} {h h' : mH} {r : Option Value} {x y : Int32} (hd : decode M.2.1 pc = .ok (.ixor, 1)) (k : MW G M d rc rs (pc + 1) L (.int (x ^^^ y) :: st) h r h') : MW G M d rc rs pc L (.int y :: .int x :: st) h r h' := by
  intro p e R s m args below meth c H locs cells slots Q ls cx hP hS hl hc1 hc2 fin
  exact lv_ixor cx.1 cx.2.1 hd (k p e R s m args below meth c H locs cells slots Q ls cx hP hS hl hc1 hc2 fin)
theorem r_ishl {G : mG} {M : mM} {d rc rs pc : Nat} {L st : List Value} {h h' : mH} {r : Option Value} {x y : Int32} (hd : decode M.2.1 pc = .ok (.ishl, 1)) (k : MW G M d rc rs (pc + 1) L (.int (x <<< (y &&& 31)) :: st) h r h') : MW G M d rc rs pc L (.int y :: .int x :: st) h r h' := by
  intro p e R s m args below meth c H locs cells slots Q ls cx hP hS hl hc1 hc2 fin
  exact lv_ishl cx.1 cx.2.1 hd (k p e R s m args below meth c H locs cells slots Q ls cx hP hS hl hc1 hc2 fin)
theorem r_ishr {G : mG} {M : mM} {d rc rs pc : Nat} {L st : List Value} {h h' : mH} {r : Option Value} {x y : Int32} (hd : decode M.2.1 pc = .ok (.ishr, 1)) (k : MW G M d rc rs (pc + 1) L (.int (x >>> (y &&& 31)) :: st) h r h') : MW G M d rc rs pc L (.int y :: .int x :: st) h r h' := by
  intro p e R s m args below meth c H locs cells slots Q ls cx hP hS hl hc1 hc2 fin
  exact lv_ishr cx.1 cx.2.1 hd (k p e R s m args below meth c H locs cells slots Q ls cx hP hS hl hc1 hc2 fin)
theorem r_idiv {G : mG} {M : mM} {d rc rs pc : Nat} {L st : List Value} {h h' : mH} {r : Option Value} {x y : Int32} (hd : decode M.2.1 pc = .ok (.idiv, 1)) (hne : ¬ y = 0) (k : MW G M d rc rs (pc + 1) L (.int (x / y) :: st) h r h') : MW G M d rc rs pc L (.int y :: .int x :: st) h r h' := by
  intro p e R s m args below meth c H locs cells slots Q ls cx hP hS hl hc1 hc2 fin
  exact lv_idiv cx.1 cx.2.1 hd hne (k p e R s m args below meth c H locs cells slots Q ls cx hP hS hl hc1 hc2 fin)
theorem r_irem {G : mG} {M : mM} {d rc rs pc : Nat} {L st : List Value} {h h' : mH} {r : Option Value} {x y : Int32} (hd : decode M.2.1 pc = .ok (.irem, 1)) (hne : ¬ y = 0) (k : MW G M d rc rs (pc + 1) L (.int (x - x / y * y) :: st) h r h') : MW G M d rc rs pc L (.int y :: .int x :: st) h r h' := by
  intro p e R s m args below meth c H locs cells slots Q ls cx hP hS hl hc1 hc2 fin
  exact lv_irem cx.1 cx.2.1 hd hne (k p e R s m args below meth c H locs cells slots Q ls cx hP hS hl hc1 hc2 fin)
theorem r_ineg {G : mG} {M : mM} {d rc rs pc : Nat} {L st : List Value} {h h' : mH} {r : Option Value} {x : Int32} (hd : decode M.2.1 pc = .ok (.ineg, 1)) (k : MW G M d rc rs (pc + 1) L (.int (-x) :: st) h r h') : MW G M d rc rs pc L (.int x :: st) h r h' := by
  intro p e R s m args below meth c H locs cells slots Q ls cx hP hS hl hc1 hc2 fin
  exact lv_ineg cx.1 cx.2.1 hd (k p e R s m args below meth c H locs cells slots Q ls cx hP hS hl hc1 hc2 fin)
theorem r_dup {G : mG} {M : mM} {d rc rs pc : Nat} {L st : List Value} {h h' : mH} {r : Option Value} {v : Value} (hd : decode M.2.1 pc = .ok (.dup, 1)) (k : MW G M d rc rs (pc + 1) L (v :: v :: st) h r h') : MW G M d rc rs pc L (v :: st) h r h' := by
  intro p e R s m args below meth c H locs cells slots Q ls cx hP hS hl hc1 hc2 fin
  exact lv_dup cx.1 cx.2.1 hd (m_rv_c1 G v) (k p e R s m args below meth c H locs cells slots Q ls cx hP hS hl hc1 hc2 fin)
theorem r_dup2 {G : mG} {M : mM} {d rc rs pc : Nat} {L st : List Value} {h h' : mH} {r : Option Value} {v w : Value} (hd : decode M.2.1 pc = .ok (.dup2, 1)) (k : MW G M d rc rs (pc + 1) L (v :: w :: v :: w :: st) h r h') : MW G M d rc rs pc L (v :: w :: st) h r h' := by
  intro p e R s m args below meth c H locs cells slots Q ls cx hP hS hl hc1 hc2 fin
  exact lv_dup2_11 cx.1 cx.2.1 hd (m_rv_c1 G v) (m_rv_c1 G w) (k p e R s m args below meth c H locs cells slots Q ls cx hP hS hl hc1 hc2 fin)
theorem r_goto {G : mG} {M : mM} {d rc rs pc : Nat} {L st : List Value} {h h' : mH} {r : Option Value} {off : Int} {tgt : Nat} (hd : decode M.2.1 pc = .ok (.goto off, 3)) (ht : (pc : Int) + off = (tgt : Int)) (k : MW G M d rc rs tgt L (st) h r h') : MW G M d rc rs pc L (st) h r h' := by
  intro p e R s m args below meth c H locs cells slots Q ls cx hP hS hl hc1 hc2 fin
  exact lv_goto cx.1 cx.2.1 hd ht (k p e R s m args below meth c H locs cells slots Q ls cx hP hS hl hc1 hc2 fin)
theorem r_iinc {G : mG} {M : mM} {d rc rs pc : Nat} {L st : List Value} {h h' : mH} {r : Option Value} {i : Nat} {n : Int} {x y : Int32} {L' : List Value} (hd : decode M.2.1 pc = .ok (.iinc i n, 3)) (hi : L[i]? = some (.int x)) (hv : Int32.ofInt n = y) (hn : i < M.2.2.1) (hL : L.set i (.int (x + y)) = L') (k : MW G M d rc rs (pc + 3) L' st h r h') : MW G M d rc rs pc L st h r h' := by
  subst hL
  intro p e R s m args below meth c H locs cells slots Q ls cx hP hS hl hc1 hc2 fin
  have hm := m_lv_in (G := G) L 0 i _ hi (fun _ h => by cases h)
  obtain ⟨q, hq⟩ := List.getElem?_of_mem hm
  rw [Nat.zero_add] at hq
  exact lv_iinc (k := q) cx.1 cx.2.1 hd hl hq (by rw [hv]) hn rfl (fun ls hl => k p e R s m args below meth c H locs cells slots Q ls cx hP hS (m_stored (v := .int (x + y)) hl) hc1 hc2 fin)
theorem r_icmp_eq {G : mG} {M : mM} {d rc rs pc : Nat} {L st : List Value} {h h' : mH} {r : Option Value} {x y : Int32} {off : Int} {tgt : Nat} (hd : decode M.2.1 pc = .ok (.if_icmp .eq off, 3)) (ht : (pc : Int) + off = (tgt : Int)) (kt : x = y → MW G M d rc rs tgt L st h r h') (kf : ¬ x = y → MW G M d rc rs (pc + 3) L st h r h') : MW G M d rc rs pc L (.int y :: .int x :: st) h r h' := by
  intro p e R s m args below meth c H locs cells slots Q ls cx hP hS hl hc1 hc2 fin
  exact lv_icmp_eq cx.1 cx.2.1 hd ht (fun q => kt q p e R s m args below meth c H locs cells slots Q ls cx hP hS hl hc1 hc2 fin) (fun q => kf q p e R s m args below meth c H locs cells slots Q ls cx hP hS hl hc1 hc2 fin)
theorem r_if_eq {G : mG} {M : mM} {d rc rs pc : Nat} {L st : List Value} {h h' : mH} {r : Option Value} {x : Int32} {off : Int} {tgt : Nat} (hd : decode M.2.1 pc = .ok (.ifCond .eq off, 3)) (ht : (pc : Int) + off = (tgt : Int)) (kt : x = 0 → MW G M d rc rs tgt L st h r h') (kf : ¬ x = 0 → MW G M d rc rs (pc + 3) L st h r h') : MW G M d rc rs pc L (.int x :: st) h r h' := by
  intro p e R s m args below meth c H locs cells slots Q ls cx hP hS hl hc1 hc2 fin
  exact lv_if_eq cx.1 cx.2.1 hd ht (fun q => kt q p e R s m args below meth c H locs cells slots Q ls cx hP hS hl hc1 hc2 fin) (fun q => kf q p e R s m args below meth c H locs cells slots Q ls cx hP hS hl hc1 hc2 fin)
theorem r_icmp_ne {G : mG} {M : mM} {d rc rs pc : Nat} {L st : List Value} {h h' : mH} {r : Option Value} {x y : Int32} {off : Int} {tgt : Nat} (hd : decode M.2.1 pc = .ok (.if_icmp .ne off, 3)) (ht : (pc : Int) + off = (tgt : Int)) (kt : ¬ x = y → MW G M d rc rs tgt L st h r h') (kf : x = y → MW G M d rc rs (pc + 3) L st h r h') : MW G M d rc rs pc L (.int y :: .int x :: st) h r h' := by
  intro p e R s m args below meth c H locs cells slots Q ls cx hP hS hl hc1 hc2 fin
  exact lv_icmp_ne cx.1 cx.2.1 hd ht (fun q => kt q p e R s m args below meth c H locs cells slots Q ls cx hP hS hl hc1 hc2 fin) (fun q => kf q p e R s m args below meth c H locs cells slots Q ls cx hP hS hl hc1 hc2 fin)
theorem r_if_ne {G : mG} {M : mM} {d rc rs pc : Nat} {L st : List Value} {h h' : mH} {r : Option Value} {x : Int32} {off : Int} {tgt : Nat} (hd : decode M.2.1 pc = .ok (.ifCond .ne off, 3)) (ht : (pc : Int) + off = (tgt : Int)) (kt : ¬ x = 0 → MW G M d rc rs tgt L st h r h') (kf : x = 0 → MW G M d rc rs (pc + 3) L st h r h') : MW G M d rc rs pc L (.int x :: st) h r h' := by
  intro p e R s m args below meth c H locs cells slots Q ls cx hP hS hl hc1 hc2 fin
  exact lv_if_ne cx.1 cx.2.1 hd ht (fun q => kt q p e R s m args below meth c H locs cells slots Q ls cx hP hS hl hc1 hc2 fin) (fun q => kf q p e R s m args below meth c H locs cells slots Q ls cx hP hS hl hc1 hc2 fin)
theorem r_icmp_lt {G : mG} {M : mM} {d rc rs pc : Nat} {L st : List Value} {h h' : mH} {r : Option Value} {x y : Int32} {off : Int} {tgt : Nat} (hd : decode M.2.1 pc = .ok (.if_icmp .lt off, 3)) (ht : (pc : Int) + off = (tgt : Int)) (kt : x < y → MW G M d rc rs tgt L st h r h') (kf : ¬ x < y → MW G M d rc rs (pc + 3) L st h r h') : MW G M d rc rs pc L (.int y :: .int x :: st) h r h' := by
  intro p e R s m args below meth c H locs cells slots Q ls cx hP hS hl hc1 hc2 fin
  exact lv_icmp_lt cx.1 cx.2.1 hd ht (fun q => kt q p e R s m args below meth c H locs cells slots Q ls cx hP hS hl hc1 hc2 fin) (fun q => kf q p e R s m args below meth c H locs cells slots Q ls cx hP hS hl hc1 hc2 fin)
theorem r_if_lt {G : mG} {M : mM} {d rc rs pc : Nat} {L st : List Value} {h h' : mH} {r : Option Value} {x : Int32} {off : Int} {tgt : Nat} (hd : decode M.2.1 pc = .ok (.ifCond .lt off, 3)) (ht : (pc : Int) + off = (tgt : Int)) (kt : x < 0 → MW G M d rc rs tgt L st h r h') (kf : ¬ x < 0 → MW G M d rc rs (pc + 3) L st h r h') : MW G M d rc rs pc L (.int x :: st) h r h' := by
  intro p e R s m args below meth c H locs cells slots Q ls cx hP hS hl hc1 hc2 fin
  exact lv_if_lt cx.1 cx.2.1 hd ht (fun q => kt q p e R s m args below meth c H locs cells slots Q ls cx hP hS hl hc1 hc2 fin) (fun q => kf q p e R s m args below meth c H locs cells slots Q ls cx hP hS hl hc1 hc2 fin)
theorem r_icmp_ge {G : mG} {M : mM} {d rc rs pc : Nat} {L st : List Value} {h h' : mH} {r : Option Value} {x y : Int32} {off : Int} {tgt : Nat} (hd : decode M.2.1 pc = .ok (.if_icmp .ge off, 3)) (ht : (pc : Int) + off = (tgt : Int)) (kt : y ≤ x → MW G M d rc rs tgt L st h r h') (kf : ¬ y ≤ x → MW G M d rc rs (pc + 3) L st h r h') : MW G M d rc rs pc L (.int y :: .int x :: st) h r h' := by
  intro p e R s m args below meth c H locs cells slots Q ls cx hP hS hl hc1 hc2 fin
  exact lv_icmp_ge cx.1 cx.2.1 hd ht (fun q => kt q p e R s m args below meth c H locs cells slots Q ls cx hP hS hl hc1 hc2 fin) (fun q => kf q p e R s m args below meth c H locs cells slots Q ls cx hP hS hl hc1 hc2 fin)
theorem r_if_ge {G : mG} {M : mM} {d rc rs pc : Nat} {L st : List Value} {h h' : mH} {r : Option Value} {x : Int32} {off : Int} {tgt : Nat} (hd : decode M.2.1 pc = .ok (.ifCond .ge off, 3)) (ht : (pc : Int) + off = (tgt : Int)) (kt : 0 ≤ x → MW G M d rc rs tgt L st h r h') (kf : ¬ 0 ≤ x → MW G M d rc rs (pc + 3) L st h r h') : MW G M d rc rs pc L (.int x :: st) h r h' := by
  intro p e R s m args below meth c H locs cells slots Q ls cx hP hS hl hc1 hc2 fin
  exact lv_if_ge cx.1 cx.2.1 hd ht (fun q => kt q p e R s m args below meth c H locs cells slots Q ls cx hP hS hl hc1 hc2 fin) (fun q => kf q p e R s m args below meth c H locs cells slots Q ls cx hP hS hl hc1 hc2 fin)
theorem r_icmp_gt {G : mG} {M : mM} {d rc rs pc : Nat} {L st : List Value} {h h' : mH} {r : Option Value} {x y : Int32} {off : Int} {tgt : Nat} (hd : decode M.2.1 pc = .ok (.if_icmp .gt off, 3)) (ht : (pc : Int) + off = (tgt : Int)) (kt : y < x → MW G M d rc rs tgt L st h r h') (kf : ¬ y < x → MW G M d rc rs (pc + 3) L st h r h') : MW G M d rc rs pc L (.int y :: .int x :: st) h r h' := by
  intro p e R s m args below meth c H locs cells slots Q ls cx hP hS hl hc1 hc2 fin
  exact lv_icmp_gt cx.1 cx.2.1 hd ht (fun q => kt q p e R s m args below meth c H locs cells slots Q ls cx hP hS hl hc1 hc2 fin) (fun q => kf q p e R s m args below meth c H locs cells slots Q ls cx hP hS hl hc1 hc2 fin)
theorem r_if_gt {G : mG} {M : mM} {d rc rs pc : Nat} {L st : List Value} {h h' : mH} {r : Option Value} {x : Int32} {off : Int} {tgt : Nat} (hd : decode M.2.1 pc = .ok (.ifCond .gt off, 3)) (ht : (pc : Int) + off = (tgt : Int)) (kt : 0 < x → MW G M d rc rs tgt L st h r h') (kf : ¬ 0 < x → MW G M d rc rs (pc + 3) L st h r h') : MW G M d rc rs pc L (.int x :: st) h r h' := by
  intro p e R s m args below meth c H locs cells slots Q ls cx hP hS hl hc1 hc2 fin
  exact lv_if_gt cx.1 cx.2.1 hd ht (fun q => kt q p e R s m args below meth c H locs cells slots Q ls cx hP hS hl hc1 hc2 fin) (fun q => kf q p e R s m args below meth c H locs cells slots Q ls cx hP hS hl hc1 hc2 fin)
theorem r_icmp_le {G : mG} {M : mM} {d rc rs pc : Nat} {L st : List Value} {h h' : mH} {r : Option Value} {x y : Int32} {off : Int} {tgt : Nat} (hd : decode M.2.1 pc = .ok (.if_icmp .le off, 3)) (ht : (pc : Int) + off = (tgt : Int)) (kt : x ≤ y → MW G M d rc rs tgt L st h r h') (kf : ¬ x ≤ y → MW G M d rc rs (pc + 3) L st h r h') : MW G M d rc rs pc L (.int y :: .int x :: st) h r h' := by
  intro p e R s m args below meth c H locs cells slots Q ls cx hP hS hl hc1 hc2 fin
  exact lv_icmp_le cx.1 cx.2.1 hd ht (fun q => kt q p e R s m args below meth c H locs cells slots Q ls cx hP hS hl hc1 hc2 fin) (fun q => kf q p e R s m args below meth c H locs cells slots Q ls cx hP hS hl hc1 hc2 fin)
theorem r_if_le {G : mG} {M : mM} {d rc rs pc : Nat} {L st : List Value} {h h' : mH} {r : Option Value} {x : Int32} {off : Int} {tgt : Nat} (hd : decode M.2.1 pc = .ok (.ifCond .le off, 3)) (ht : (pc : Int) + off = (tgt : Int)) (kt : x ≤ 0 → MW G M d rc rs tgt L st h r h') (kf : ¬ x ≤ 0 → MW G M d rc rs (pc + 3) L st h r h') : MW G M d rc rs pc L (.int x :: st) h r h' := by
  intro p e R s m args below meth c H locs cells slots Q ls cx hP hS hl hc1 hc2 fin
  exact lv_if_le cx.1 cx.2.1 hd ht (fun q => kt q p e R s m args below meth c H locs cells slots Q ls cx hP hS hl hc1 hc2 fin) (fun q => kf q p e R s m args below meth c H locs cells slots Q ls cx hP hS hl hc1 hc2 fin)
theorem r_ifnull {G : mG} {M : mM} {d rc rs pc : Nat} {L st : List Value} {h h' : mH} {r : Option Value} {a : Nat} {off : Int} {tgt : Nat} (hd : decode M.2.1 pc = .ok (.ifnull off, 3)) (ht : (pc : Int) + off = (tgt : Int)) (k : MW G M d rc rs (pc + 3) L st h r h') : MW G M d rc rs pc L (.ref a :: st) h r h' := by
  intro p e R s m args below meth c H locs cells slots Q ls cx hP hS hl hc1 hc2 fin
  exact lv_ifnull cx.1 cx.2.1 hd (k p e R s m args below meth c H locs cells slots Q ls cx hP hS hl hc1 hc2 fin)
theorem r_ifnullN {G : mG} {M : mM} {d rc rs pc : Nat} {L st : List Value} {h h' : mH} {r : Option Value} {off : Int} {tgt : Nat} (hd : decode M.2.1 pc = .ok (.ifnull off, 3)) (ht : (pc : Int) + off = (tgt : Int)) (k : MW G M d rc rs tgt L st h r h') : MW G M d rc rs pc L (.null :: st) h r h' := by
  intro p e R s m args below meth c H locs cells slots Q ls cx hP hS hl hc1 hc2 fin
  exact lv_ifnullN cx.1 cx.2.1 hd ht (k p e R s m args below meth c H locs cells slots Q ls cx hP hS hl hc1 hc2 fin)
theorem r_ifnonnull {G : mG} {M : mM} {d rc rs pc : Nat} {L st : List Value} {h h' : mH} {r : Option Value} {a : Nat} {off : Int} {tgt : Nat} (hd : decode M.2.1 pc = .ok (.ifnonnull off, 3)) (ht : (pc : Int) + off = (tgt : Int)) (k : MW G M d rc rs tgt L st h r h') : MW G M d rc rs pc L (.ref a :: st) h r h' := by
  intro p e R s m args below meth c H locs cells slots Q ls cx hP hS hl hc1 hc2 fin
  exact lv_ifnonnull cx.1 cx.2.1 hd ht (k p e R s m args below meth c H locs cells slots Q ls cx hP hS hl hc1 hc2 fin)
theorem r_ifnonnullN {G : mG} {M : mM} {d rc rs pc : Nat} {L st : List Value} {h h' : mH} {r : Option Value} {off : Int} {tgt : Nat} (hd : decode M.2.1 pc = .ok (.ifnonnull off, 3)) (ht : (pc : Int) + off = (tgt : Int)) (k : MW G M d rc rs (pc + 3) L st h r h') : MW G M d rc rs pc L (.null :: st) h r h' := by
  intro p e R s m args below meth c H locs cells slots Q ls cx hP hS hl hc1 hc2 fin
  exact lv_ifnonnullN cx.1 cx.2.1 hd (k p e R s m args below meth c H locs cells slots Q ls cx hP hS hl hc1 hc2 fin)
theorem r_tabIn {G : mG} {M : mM} {d rc rs pc : Nat} {L st : List Value} {h h' : mH} {r : Option Value} {dflt lo hi : Int} {offs : Array Int} {len : Nat} {x : Int32} {off : Int} {tgt : Nat} (hd : decode M.2.1 pc = .ok (.tableswitch dflt lo hi offs, len)) (h1 : ¬ x.toInt < lo) (h2 : ¬ hi < x.toInt) (ho : offs[(x.toInt - lo).toNat]? = some off) (ht : (pc : Int) + off = (tgt : Int)) (k : MW G M d rc rs tgt L st h r h') : MW G M d rc rs pc L (.int x :: st) h r h' := by
  intro p e R s m args below meth c H locs cells slots Q ls cx hP hS hl hc1 hc2 fin
  exact lv_tableIn cx.1 cx.2.1 hd h1 h2 ho ht (k p e R s m args below meth c H locs cells slots Q ls cx hP hS hl hc1 hc2 fin)
theorem r_tabOut {G : mG} {M : mM} {d rc rs pc : Nat} {L st : List Value} {h h' : mH} {r : Option Value} {dflt lo hi : Int} {offs : Array Int} {len : Nat} {x : Int32} {tgt : Nat} (hd : decode M.2.1 pc = .ok (.tableswitch dflt lo hi offs, len)) (ho : x.toInt < lo ∨ hi < x.toInt) (ht : (pc : Int) + dflt = (tgt : Int)) (k : MW G M d rc rs tgt L st h r h') : MW G M d rc rs pc L (.int x :: st) h r h' := by
  intro p e R s m args below meth c H locs cells slots Q ls cx hP hS hl hc1 hc2 fin
  exact lv_tableOut cx.1 cx.2.1 hd ho ht (k p e R s m args below meth c H locs cells slots Q ls cx hP hS hl hc1 hc2 fin)
theorem r_look {G : mG} {M : mM} {d rc rs pc : Nat} {L st : List Value} {h h' : mH} {r : Option Value} {dflt : Int} {ps : Array (Int × Int)} {len : Nat} {x : Int32} {off : Int} {tgt : Nat} (hd : decode M.2.1 pc = .ok (.lookupswitch dflt ps, len)) (hp : (ps.toList.zip (ps.toList.drop 1)).all (fun (a, next) => a.1 < next.1) = true) (ho : Op.lookupswitch.offset ps.toList dflt x.toInt = off) (ht : (pc : Int) + off = (tgt : Int)) (k : MW G M d rc rs tgt L st h r h') : MW G M d rc rs pc L (.int x :: st) h r h' := by
  intro p e R s m args below meth c H locs cells slots Q ls cx hP hS hl hc1 hc2 fin
  exact lv_lookup cx.1 cx.2.1 hd hp ho ht (k p e R s m args below meth c H locs cells slots Q ls cx hP hS hl hc1 hc2 fin)
theorem r_ret {G : mG} {M : mM} {d rc rs pc : Nat} {L st : List Value} {h h' : mH} {r : Option Value} (hd : decode M.2.1 pc = .ok (m_retI M.2.2.2, 1)) (hr : r.toList = st) (hh : h = h') : MW G M d rc rs pc L st h r h' := by
  subst hh
  subst hr
  intro p e R s m args below meth c H locs cells slots Q ls cx hP hS hl hc1 hc2 fin
  exact fin pc ls H locs cells slots hd hP hS (by omega) (by omega)
end
section
/-! ===== rows of the small machine: fields, arrays, new cells ===== -/
def m_T (ci : Nat) : u_T := match ci with
  | 0 => TX0
  | 1 => TX1
  | 2 => TX2
  | 3 => TX3
  | 4 => TX4
  | 5 => TX5
  | 6 => TX6
  | _ => TX7
def m_R (ci : Nat) : String := match ci with
  | 0 => RX0
  | 1 => RX1
  | 2 => RX2
  | 3 => RX3
  | 4 => RX4
  | 5 => RX5
  | 6 => RX6
  | _ => RX7
def m_inAll (ci : Nat) : Bool := (u_ws (m_R ci) (m_T ci) (m_nF ci)).all (fun w => decide (w ∈ m_tbl))
theorem m_in_0 : m_inAll 0 = true := by decide +kernel
theorem m_in_1 : m_inAll 1 = true := by decide +kernel
theorem m_in_2 : m_inAll 2 = true := by decide +kernel
theorem m_in_3 : m_inAll 3 = true := by decide +kernel
theorem m_in_4 : m_inAll 4 = true := by decide +kernel
theorem m_in_5 : m_inAll 5 = true := by decide +kernel
theorem m_in_6 : m_inAll 6 = true := by decide +kernel
theorem m_in_7 : m_inAll 7 = true := by decide +kernel
theorem m_cl {ci : Nat} (h : ci < 8) : vwCl[ci]? = some (m_R ci, m_T ci, m_nF ci) ∧ (∀ w ∈ u_ws (m_R ci) (m_T ci) (m_nF ci), w ∈ m_tbl) ∧ (∀ k, k < m_nF ci → parseFieldDescriptor (m_T ci k).2.2.1 = some (m_ty ci k)) ∧ (∀ a, a < m_nF ci → ∀ b, b < m_nF ci → a ≠ b → (m_T ci a).2.1 ≠ (m_T ci b).2.1) := by
  have hin : ∀ {ci : Nat}, m_inAll ci = true → ∀ w ∈ u_ws (m_R ci) (m_T ci) (m_nF ci), w ∈ m_tbl := fun h w hw => of_decide_eq_true (List.all_eq_true.mp h w hw)
  match ci, h with
  | 0, _ => exact ⟨rfl, hin m_in_0, tyX0_ok, nmX0⟩
  | 1, _ => exact ⟨rfl, hin m_in_1, tyX1_ok, nmX1⟩
  | 2, _ => exact ⟨rfl, hin m_in_2, tyX2_ok, nmX2⟩
  | 3, _ => exact ⟨rfl, hin m_in_3, tyX3_ok, nmX3⟩
  | 4, _ => exact ⟨rfl, hin m_in_4, tyX4_ok, nmX4⟩
  | 5, _ => exact ⟨rfl, hin m_in_5, tyX5_ok, nmX5⟩
  | 6, _ => exact ⟨rfl, hin m_in_6, tyX6_ok, nmX6⟩
  | 7, _ => exact ⟨rfl, hin m_in_7, tyX7_ok, nmX7⟩
/-- a field's link: class, field -/
def m_FL (own : String) (idx ci k : Nat) : Prop := ci < 8 ∧ k < m_nF ci ∧ Cond.fieldLink own idx (m_T ci k).1 (m_T ci k).2.1 (m_T ci k).2.2.1 ∈ m_tbl
def m_up {α : Type} (g : Nat → Nat → α) (a k : Nat) (x : α) : Nat → Nat → α := fun a' => if a' = a then va_up (g a) k x else g a'
theorem m_up_same {α : Type} (g : Nat → Nat → α) (a k : Nat) (x : α) : m_up g a k x a = va_up (g a) k x := if_pos rfl
theorem m_up_ne {α : Type} (g : Nat → Nat → α) {a a' : Nat} (k : Nat) (x : α) (h : a' ≠ a) : m_up g a k x a' = g a' := if_neg h
theorem m_at.kept {G : mG} {sh : mSh} {f : Nat → Int32} {r : Nat → Option Nat} {a : Nat} {H H1 : Heap} (h : m_at G sh f r a H) (hq : H1[m_ad G a]? = H[m_ad G a]?) : m_at G sh f r a H1 := by
  match sh, h with
  | .inl ci, h => exact ⟨h.1, h.2.kept hq⟩
  | .inr (ti, n), h => exact ⟨h.1, hq.trans h.2⟩
theorem m_P.lt {G : mG} {h : mH} {H : Heap} (hP : m_P G h H) {a : Nat} {sh : mSh} (hs : h.1[a]? = some sh) : a < h.1.length ∧ a < 1000 ∧ m_ad G a = G.2.2.2.1 + a := by
  have h1 := (List.getElem?_eq_some_iff.mp hs).1
  have h2 := hP.2.2
  exact ⟨h1, by omega, m_A_ad (by omega)⟩
theorem m_P.set {G : mG} {h h1 : mH} {H H1 : Heap} {a : Nat} {sh : mSh} (hP : m_P G h H) (e1 : h1.1 = h.1) (ho : ∀ a', a' ≠ a → h1.2.1 a' = h.2.1 a' ∧ h1.2.2 a' = h.2.2 a') (hs : h.1[a]? = some sh) (hat : m_at G sh (h1.2.1 a) (h1.2.2 a) a H1) (z : H1.size = H.size) (oq : ∀ q, q ≠ m_ad G a → H1[q]? = H[q]?) : m_P G h1 H1 := by
  refine ⟨fun a' sh' hs' => ?_, by rw [z, e1]; exact hP.2.1, by rw [e1]; exact hP.2.2⟩
  rw [e1] at hs'
  by_cases ha : a' = a
  · subst ha
    cases hs.symm.trans hs'
    exact hat
  · rw [(ho a' ha).1, (ho a' ha).2]
    refine (hP.1 a' sh' hs').kept (oq _ ?_)
    rw [(hP.lt hs).2.2, (hP.lt hs').2.2]
    omega
theorem m_fv_i {G : mG} {ci k : Nat} {f : Nat → Int32} {r : Nat → Option Nat} (ht : (m_ty ci k).isReference = false) : m_fv G ci f r k = .int (f k) := by
  unfold m_fv; rw [if_neg (by rw [ht]; decide)]
theorem m_fv_r {G : mG} {ci k : Nat} {f : Nat → Int32} {r : Nat → Option Nat} (ht : (m_ty ci k).isReference = true) : m_fv G ci f r k = va_rf ((r k).map (m_ad G)) := by
  unfold m_fv; rw [if_pos ht]
theorem m_rf_rv (G : mG) (o : Option Nat) : va_rf (o.map (m_ad G)) = m_rv G (va_rf o) := by cases o <;> rfl
section RMEM
variable {G : mG} {M : mM} {d rc rs pc : Nat} {L st : List Value} {h h' : mH} {r : Option Value}
/-- what a getfield gives, in the machine -/
theorem m_getf {idx ci k a : Nat} {v : Value} (hd : decode M.2.1 pc = .ok (.getfield idx, 3)) (hf : m_FL M.1.cls idx ci k) (hs : h.1[a]? = some (.inl ci)) (hv : m_fv G ci (h.2.1 a) (h.2.2 a) k = m_rv G v) (kk : MW G M d rc rs (pc + 3) L (v :: st) h r h') : MW G M d rc rs pc L (.ref a :: st) h r h' := by
  intro p e R s m args below meth c H locs cells slots Q ls cx hP hS hl hc1 hc2 fin
  obtain ⟨hci, hk, hw⟩ := hf
  obtain ⟨hc, hin, hty, hnm⟩ := m_cl hci
  obtain ⟨-, cell, q1, q2, q3, q4⟩ := hP.1 a _ hs
  obtain ⟨hS1, hfc, kC, hkC, hkind⟩ := cx.2.2.2.2.2.1.1 ci _ hc
  obtain ⟨cf, kf, fi, f, hi, hsl⟩ := hS1 k hk
  have hst := (u_facts hfc hkC (u_lays cx.2.2.2.2.1 hin hk) hi).1
  refine W.getf (v := m_rv G v) cx.1 cx.2.1 cx.2.2.2.1 (cx.2.2.2.2.1 _ hw) hi hst q1 (by rw [q3]; intro h9; cases h9) (by rw [hsl, ← hv]; exact q4 k hk) rfl rfl hd ?_
  exact kk p e R s m args below meth c H locs cells slots Q ls cx hP hS hl hc1 hc2 fin
theorem r_geti {idx ci k a : Nat} (hd : decode M.2.1 pc = .ok (.getfield idx, 3)) (hf : m_FL M.1.cls idx ci k) (ht : (m_ty ci k).isReference = false) (hs : h.1[a]? = some (.inl ci)) (kk : MW G M d rc rs (pc + 3) L (.int (h.2.1 a k) :: st) h r h') : MW G M d rc rs pc L (.ref a :: st) h r h' :=
  m_getf hd hf hs (m_fv_i ht) kk
theorem r_getr {idx ci k a b : Nat} (hd : decode M.2.1 pc = .ok (.getfield idx, 3)) (hf : m_FL M.1.cls idx ci k) (ht : (m_ty ci k).isReference = true) (hs : h.1[a]? = some (.inl ci)) (hb : h.2.2 a k = some b) (kk : MW G M d rc rs (pc + 3) L (.ref b :: st) h r h') : MW G M d rc rs pc L (.ref a :: st) h r h' :=
  m_getf (v := .ref b) hd hf hs (by rw [m_fv_r ht, hb]; rfl) kk
theorem m_put {idx ci k a : Nat} {v : Value} {h1 : mH} (hd : decode M.2.1 pc = .ok (.putfield idx, 3)) (hf : m_FL M.1.cls idx ci k) (hfin : (m_T ci k).2.2.2 = false ∨ ((m_T ci k).1 = M.1.cls ∧ M.1.name = "<init>")) (hn : narrow (m_ty ci k) (m_rv G v) = m_rv G v) (hfit : fits (m_ty ci k) (m_rv G v) = true) (hs : h.1[a]? = some (.inl ci))
    (e1 : h1.1 = h.1) (ho : ∀ a', a' ≠ a → h1.2.1 a' = h.2.1 a' ∧ h1.2.2 a' = h.2.2 a') (hv : ∀ j, j < m_nF ci → updV (m_fv G ci (h.2.1 a) (h.2.2 a)) k (m_rv G v) j = m_fv G ci (h1.2.1 a) (h1.2.2 a) j) (kk : MW G M d rc rs (pc + 3) L st h1 r h') : MW G M d rc rs pc L (v :: .ref a :: st) h r h' := by
  intro p e R s m args below meth c H locs cells slots Q ls cx hP hS hl hc1 hc2 fin
  obtain ⟨hci, hk, hw⟩ := hf
  obtain ⟨hc, hin, hty, hnm⟩ := m_cl hci
  obtain ⟨-, cell, q1, q2, q3, q4⟩ := hP.1 a _ hs
  have hts := cx.2.2.2.2.1
  have hKn := cx.2.2.2.2.2.1.1 ci _ hc
  obtain ⟨hS1, hfc, kC, hkC, hkind⟩ := hKn
  obtain ⟨cf, kf, fi, f, hi, hsl⟩ := hS1 k hk
  have hlay := u_lays hts hin hk
  have hst := (u_facts hfc hkC hlay hi).1
  have hap := va_apart (own := M.1.cls) hts hin (m_ty ci) hty hnm cx.2.2.2.2.2.1 hc
  have hA : m_A G (m_ad G a) := by rw [(hP.lt hs).2.2]; exact Nat.le_add_right _ _
  have hgo : ∀ H' : Heap, H'[m_ad G a]? = some (cell.setSlot f.slot (m_rv G v)) → H'.size = H.size → (∀ q, q ≠ m_ad G a → H'[q]? = H[q]?) → W p G.1 e R s m args below meth c H' (locs ++ [⟨m_ad G a, f.slot⟩]) cells slots Q { (F0 m pc ls (m_rv G v :: .ref (m_ad G a) :: st.map (m_rv G))) with pc := pc + 3, stack := st.map (m_rv G) } := by
    intro H' x1 x2 x3
    refine kk p e R s m args below meth c H' _ cells slots Q ls cx ?_ (hS.put x2 x3 hA) hl hc1 hc2 fin
    refine hP.set e1 ho hs ⟨hci, ?_⟩ x2 x3
    rw [hsl] at x1
    exact t_OB.to (V := updV (m_fv G ci (h.2.1 a) (h.2.2 a)) k (m_rv G v)) ⟨_, x1, q2, q3, t_set q4 hap hk (m_rv G v)⟩ hv
  by_cases hfl : (m_T ci k).2.2.2 = true
  · have hi2 : M.1.name = "<init>" := by
      rcases hfin with h9 | h9
      · rw [h9] at hfl; cases hfl
      · exact h9.2
    have hdecl : (m_T ci k).1 = M.1.cls := by
      rcases hfin with h9 | h9
      · rw [h9] at hfl; cases hfl
      · exact h9.1
    have h6 := u_fits hfc hkC hkind hlay hi (hty k hk) hn hfit
    have hlay2 := hts _ (hin _ (u_in_lay hk))
    unfold u_lay at hlay2
    rw [if_pos hfl] at hlay2
    have hcf : m.cls = cf := by
      obtain ⟨_, _, c', _, _, _, -, -, hf', -, -, -, hown2, -⟩ := Cond.laysFinal_spec hlay2
      have e9 : c' = cf := by have h9 := hi.symm.trans hf'; simp at h9; exact h9.1.symm
      rw [hdecl] at hown2
      rw [← e9]; exact Option.some.inj (cx.2.2.2.1.symm.trans hown2)
    exact W.putFinK cx.1 cx.2.1 cx.2.2.2.1 (hts _ hw) hi hst hcf (cx.2.2.2.2.2.2.2.2.2.2.trans hi2) (by rw [q2]; exact h6) q1 q3 (by rw [hsl]; exact k2_hasslot (q4 k hk)) rfl rfl hd hgo
  · have hlay2 := hts _ (hin _ (u_in_lay hk))
    unfold u_lay at hlay2
    rw [if_neg hfl] at hlay2
    have h6 := u_store hfc hkC hkind hlay2 hi (hty k hk) hn hfit
    exact W.putK cx.1 cx.2.1 (f := f) ⟨cx.2.2.2.1, hts _ hw, ⟨_, _, _, hi⟩, hst⟩ (by rw [q2]; exact h6) q1 q3 (by rw [hsl]; exact k2_hasslot (q4 k hk)) rfl rfl hd hgo
theorem m_updV_i {G : mG} {ci k : Nat} {f : Nat → Int32} {r : Nat → Option Nat} {x : Int32} (ht : (m_ty ci k).isReference = false) (j : Nat) : updV (m_fv G ci f r) k (.int x) j = m_fv G ci (va_up f k x) r j := by
  unfold updV
  by_cases hj : j = k
  · subst hj
    rw [if_pos rfl, m_fv_i ht]
    simp [va_up]
  · rw [if_neg hj]
    unfold m_fv
    simp [va_up, hj]
theorem m_updV_r {G : mG} {ci k : Nat} {f : Nat → Int32} {r : Nat → Option Nat} {b : Nat} (ht : (m_ty ci k).isReference = true) (j : Nat) : updV (m_fv G ci f r) k (.ref (m_ad G b)) j = m_fv G ci f (va_up r k (some b)) j := by
  unfold updV
  by_cases hj : j = k
  · subst hj
    rw [if_pos rfl, m_fv_r ht]
    simp [va_up, va_rf]
  · rw [if_neg hj]
    unfold m_fv
    simp [va_up, hj]
theorem m_up_ho {α : Type} {g : Nat → Nat → α} {a k : Nat} {x : α} (a' : Nat) (h : a' ≠ a) : m_up g a k x a' = g a' := m_up_ne g k x h
/-- an int, or a boolean that is 0 or 1 -/
def m_okI (t : FieldType) (x : Int32) : Prop := t = .int ∨ (t = .boolean ∧ (x = 0 ∨ x = 1))
theorem m_okI.n {t : FieldType} {x : Int32} (h : m_okI t x) : narrow t (.int x) = .int x ∧ fits t (.int x) = true ∧ t.isReference = false := by
  rcases h with rfl | ⟨rfl, rfl | rfl⟩
  · exact ⟨rfl, rfl, rfl⟩
  · exact ⟨rfl, rfl, rfl⟩
  · exact ⟨rfl, rfl, rfl⟩
theorem r_puti {idx ci k a : Nat} {x : Int32} (hd : decode M.2.1 pc = .ok (.putfield idx, 3)) (hf : m_FL M.1.cls idx ci k) (hfin : (m_T ci k).2.2.2 = false ∨ ((m_T ci k).1 = M.1.cls ∧ M.1.name = "<init>")) (ht : m_okI (m_ty ci k) x) (hs : h.1[a]? = some (.inl ci)) (kk : MW G M d rc rs (pc + 3) L st (h.1, m_up h.2.1 a k x, h.2.2) r h') : MW G M d rc rs pc L (.int x :: .ref a :: st) h r h' :=
  m_put (h1 := (h.1, m_up h.2.1 a k x, h.2.2)) (v := .int x) hd hf hfin ht.n.1 ht.n.2.1 hs rfl (fun a' ha => ⟨m_up_ne _ _ _ ha, rfl⟩) (fun j _ => by show _ = m_fv G ci (m_up h.2.1 a k x a) (h.2.2 a) j; rw [m_up_same]; exact m_updV_i ht.n.2.2 j) kk
theorem r_putr {idx ci k a b : Nat} (hd : decode M.2.1 pc = .ok (.putfield idx, 3)) (hf : m_FL M.1.cls idx ci k) (hfin : (m_T ci k).2.2.2 = false ∨ ((m_T ci k).1 = M.1.cls ∧ M.1.name = "<init>")) (ht : (m_ty ci k).isReference = true) (hs : h.1[a]? = some (.inl ci)) (kk : MW G M d rc rs (pc + 3) L st (h.1, h.2.1, m_up h.2.2 a k (some b)) r h') : MW G M d rc rs pc L (.ref b :: .ref a :: st) h r h' :=
  m_put (h1 := (h.1, h.2.1, m_up h.2.2 a k (some b))) (v := .ref b) hd hf hfin (by generalize m_ty ci k = t at ht; cases t <;> first | rfl | (cases ht)) (by generalize m_ty ci k = t at ht; cases t <;> first | rfl | (cases ht)) hs rfl (fun a' ha => ⟨rfl, m_up_ne _ _ _ ha⟩) (fun j _ => by show _ = m_fv G ci (h.2.1 a) (m_up h.2.2 a k (some b) a) j; rw [m_up_same]; exact m_updV_r ht j) kk
/-- an index within -/
theorem r_iald {a n : Nat} {i : Int32} (hd : decode M.2.1 pc = .ok (.iaload, 1)) (hs : h.1[a]? = some (.inr (0, n))) (hin : vp_in i n) (kk : MW G M d rc rs (pc + 1) L (.int (h.2.1 a i.toNatClampNeg) :: st) h r h') : MW G M d rc rs pc L (.int i :: .ref a :: st) h r h' := by
  intro p e R s m args below meth c H locs cells slots Q ls cx hP hS hl hc1 hc2 fin
  obtain ⟨-, q1⟩ := hP.1 a _ hs
  have hlt : i.toNatClampNeg < n := Nat.not_le.mp fun q => hin (Or.inr q)
  refine W.iald (v := .int (h.2.1 a i.toNatClampNeg)) cx.1 cx.2.1 q1 ((cx.2.2.2.2.2.1.2 0 _ rfl).1 n _) (fun q => by cases q) (by rw [arrV_size]; exact hin) (by rw [arrV_read _ _ hlt]; rfl) rfl rfl hd ?_
  exact kk p e R s m args below meth c H locs cells slots Q ls cx hP hS hl hc1 hc2 fin
theorem r_zald {a n : Nat} {i : Int32} (hd : decode M.2.1 pc = .ok (.baload, 1)) (hs : h.1[a]? = some (.inr (1, n))) (hin : vp_in i n) (kk : MW G M d rc rs (pc + 1) L (.int (h.2.1 a i.toNatClampNeg) :: st) h r h') : MW G M d rc rs pc L (.int i :: .ref a :: st) h r h' := by
  intro p e R s m args below meth c H locs cells slots Q ls cx hP hS hl hc1 hc2 fin
  obtain ⟨-, q1⟩ := hP.1 a _ hs
  have hlt : i.toNatClampNeg < n := Nat.not_le.mp fun q => hin (Or.inr q)
  refine W.zald (v := .int (h.2.1 a i.toNatClampNeg)) cx.1 cx.2.1 q1 ((cx.2.2.2.2.2.1.2 1 _ rfl).1 n _) (fun q => by cases q) (by rw [arrV_size]; exact hin) (by rw [arrV_read _ _ hlt]; rfl) rfl rfl hd ?_
  exact kk p e R s m args below meth c H locs cells slots Q ls cx hP hS hl hc1 hc2 fin
theorem m_av_i {G : mG} {ti k : Nat} {f : Nat → Int32} {r : Nat → Option Nat} {x : Int32} (h : ti < 2) : updV (m_av G ti f r) k (.int x) = m_av G ti (va_up f k x) r := by
  funext j
  unfold updV m_av
  rw [if_pos h, if_pos h]
  by_cases hj : j = k
  · subst hj; simp [va_up]
  · simp [va_up, hj]
theorem m_av_r {G : mG} {ti k b : Nat} {f : Nat → Int32} {r : Nat → Option Nat} (h : ¬ ti < 2) : updV (m_av G ti f r) k (.ref (m_ad G b)) = m_av G ti f (va_up r k (some b)) := by
  funext j
  unfold updV m_av
  rw [if_neg h, if_neg h]
  by_cases hj : j = k
  · subst hj; simp [va_up, va_rf]
  · simp [va_up, hj]
theorem m_Aa {G : mG} {h : mH} {H : Heap} (hP : m_P G h H) {a : Nat} {sh : mSh} (hs : h.1[a]? = some sh) : m_A G (m_ad G a) := by rw [(hP.lt hs).2.2]; exact Nat.le_add_right _ _
theorem r_iast {a n : Nat} {i x : Int32} (hd : decode M.2.1 pc = .ok (.iastore, 1)) (hs : h.1[a]? = some (.inr (0, n))) (hin : vp_in i n) (kk : MW G M d rc rs (pc + 1) L st (h.1, m_up h.2.1 a i.toNatClampNeg x, h.2.2) r h') : MW G M d rc rs pc L (.int x :: .int i :: .ref a :: st) h r h' := by
  intro p e R s m args below meth c H locs cells slots Q ls cx hP hS hl hc1 hc2 fin
  obtain ⟨-, q1⟩ := hP.1 a _ hs
  refine W.iast cx.1 cx.2.1 q1 ((cx.2.2.2.2.2.1.2 0 _ rfl).1 n _) (fun q => by cases q) (by rw [arrV_size]; exact hin) rfl rfl hd fun H1 x1 x2 x3 => ?_
  refine kk p e R s m args below meth c H1 _ cells slots Q ls cx ?_ (hS.put x2 x3 (m_Aa hP hs)) hl hc1 hc2 fin
  refine hP.set rfl (fun a' ha => ⟨m_up_ne _ _ _ ha, rfl⟩) hs ⟨by decide, ?_⟩ x2 x3
  rw [x1, arrV_store, m_av_i (by decide)]
  rw [show (h.1, m_up h.2.1 a i.toNatClampNeg x, h.2.2).2.1 a = va_up (h.2.1 a) i.toNatClampNeg x from m_up_same _ _ _ _]
theorem r_zast {a n : Nat} {i x : Int32} (hd : decode M.2.1 pc = .ok (.bastore, 1)) (hs : h.1[a]? = some (.inr (1, n))) (hin : vp_in i n) (hx : x = 0 ∨ x = 1) (kk : MW G M d rc rs (pc + 1) L st (h.1, m_up h.2.1 a i.toNatClampNeg x, h.2.2) r h') : MW G M d rc rs pc L (.int x :: .int i :: .ref a :: st) h r h' := by
  intro p e R s m args below meth c H locs cells slots Q ls cx hP hS hl hc1 hc2 fin
  obtain ⟨-, q1⟩ := hP.1 a _ hs
  have hnar : narrow .boolean (.int x) = .int x := by rcases hx with rfl | rfl <;> rfl
  refine W.zast cx.1 cx.2.1 q1 ((cx.2.2.2.2.2.1.2 1 _ rfl).1 n _) (fun q => by cases q) (by rw [arrV_size]; exact hin) rfl rfl hd fun H1 x1 x2 x3 => ?_
  refine kk p e R s m args below meth c H1 _ cells slots Q ls cx ?_ (hS.put x2 x3 (m_Aa hP hs)) hl hc1 hc2 fin
  refine hP.set rfl (fun a' ha => ⟨m_up_ne _ _ _ ha, rfl⟩) hs ⟨by decide, ?_⟩ x2 x3
  rw [x1, hnar, arrV_store, m_av_i (by decide)]
  rw [show (h.1, m_up h.2.1 a i.toNatClampNeg x, h.2.2).2.1 a = va_up (h.2.1 a) i.toNatClampNeg x from m_up_same _ _ _ _]
theorem m_ty_ti {ti : Nat} (h : ¬ ti < 2) (h5 : ti < 5) : (m_tys G)[ti]? = some (G.2.2.1 ti, m_at_ty ti) ∧ ∃ C, m_at_ty ti = .object C := by
  match ti, h, h5 with
  | 2, _, _ => exact ⟨rfl, _, rfl⟩
  | 3, _, _ => exact ⟨rfl, _, rfl⟩
  | 4, _, _ => exact ⟨rfl, _, rfl⟩
  | 0, h, _ => exact absurd (by decide) h
  | 1, h, _ => exact absurd (by decide) h
theorem r_aald {a n ti b : Nat} {i : Int32} (hd : decode M.2.1 pc = .ok (.aaload, 1)) (hti : ¬ ti < 2) (hs : h.1[a]? = some (.inr (ti, n))) (hin : vp_in i n) (hb : h.2.2 a i.toNatClampNeg = some b) (kk : MW G M d rc rs (pc + 1) L (.ref b :: st) h r h') : MW G M d rc rs pc L (.int i :: .ref a :: st) h r h' := by
  intro p e R s m args below meth c H locs cells slots Q ls cx hP hS hl hc1 hc2 fin
  obtain ⟨h5, q1⟩ := hP.1 a _ hs
  have hlt : i.toNatClampNeg < n := Nat.not_le.mp fun q => hin (Or.inr q)
  obtain ⟨t1, C, t2⟩ := m_ty_ti (G := G) hti h5
  refine W.aald (v := .ref (m_ad G b)) (ty := m_at_ty ti) cx.1 cx.2.1 q1 ((cx.2.2.2.2.2.1.2 ti _ t1).1 n _) (by rw [t2]; rfl) (fun q => by cases q) (by rw [arrV_size]; exact hin) (by rw [arrV_read _ _ hlt]; unfold m_av; rw [if_neg hti, hb]; rfl) rfl rfl hd ?_
  exact kk p e R s m args below meth c H locs cells slots Q ls cx hP hS hl hc1 hc2 fin
theorem r_aast {a n ti b ci : Nat} {i : Int32} (hd : decode M.2.1 pc = .ok (.aastore, 1)) (hti : ¬ ti < 2) (hs : h.1[a]? = some (.inr (ti, n))) (hb : h.1[b]? = some (.inl ci)) (htc : m_at_ty ti = .object (m_R ci)) (hin : vp_in i n) (kk : MW G M d rc rs (pc + 1) L st (h.1, h.2.1, m_up h.2.2 a i.toNatClampNeg (some b)) r h') : MW G M d rc rs pc L (.ref b :: .int i :: .ref a :: st) h r h' := by
  intro p e R s m args below meth c H locs cells slots Q ls cx hP hS hl hc1 hc2 fin
  obtain ⟨h5, q1⟩ := hP.1 a _ hs
  have hlt : i.toNatClampNeg < n := Nat.not_le.mp fun q => hin (Or.inr q)
  have h0 : ¬ i < 0 := fun q => hin (Or.inl q)
  obtain ⟨t1, -⟩ := m_ty_ti (G := G) hti h5
  obtain ⟨hci, cellV, g1, g2, g3, -⟩ := hP.1 b _ hb
  have hcls := (cx.2.2.2.2.2.1.1 ci _ (m_cl hci).1).2
  have hRA := (cx.2.2.2.2.2.1.2 ti _ t1).2
  rw [htc] at hRA
  obtain ⟨kA, comp, k1, k2, k3, -⟩ := hRA
  have hcomp : comp = G.2.1.1 ci := Option.some.inj (k3.symm.trans hcls.1)
  subst hcomp
  obtain ⟨kC, hkC, -⟩ := id hcls.2
  refine W.aast cx.1 cx.2.1 q1 (fun q h9 => by cases h9) (fun h9 => by cases h9) k1 k2 rfl hkC ⟨h0, by rw [arrV_size]; exact hlt⟩ g1 (fun q h9 => by rw [g3] at h9; cases h9) (by rw [g2]; exact hkC) (by rw [g2]; exact va_assign hcls) rfl rfl hd fun H1 x1 x2 x3 => ?_
  refine kk p e R s m args below meth c H1 _ cells slots Q ls cx ?_ (hS.put x2 x3 (m_Aa hP hs)) hl hc1 hc2 fin
  refine hP.set rfl (fun a' ha => ⟨rfl, m_up_ne _ _ _ ha⟩) hs ⟨h5, ?_⟩ x2 x3
  rw [x1, arrV_store, m_av_r hti]
  rw [show (h.1, h.2.1, m_up h.2.2 a i.toNatClampNeg (some b)).2.2 a = va_up (h.2.2 a) i.toNatClampNeg (some b) from m_up_same _ _ _ _]
end RMEM
end
section
/-! ===== rows of the small machine: new cells, calls, a contract out of a walk ===== -/
theorem m_good : m_tbl.all goodWord = true := List.all_eq_true.mpr fun _ h => (List.mem_filter.mp h).2
theorem m_goodIn {w : Cond} (hw : w ∈ m_tbl) : GoodIn m_tbl (w :: m_tbl) := by
  intro x hx
  have hx' : x ∈ m_tbl := by
    rcases List.mem_cons.mp hx with rfl | h
    · exact hw
    · exact h
  exact ⟨hx', good_of_word (List.all_eq_true.mp m_good x hx')⟩
/-- a method's own words, and how many parameters it has -/
def m_ML (M : mM) (n : Nat) : Prop := Cond.code M.1 M.2.1 M.2.2.1 M.2.2.2 ∈ m_tbl ∧ Cond.initialized M.1.cls ∈ m_tbl ∧ (M.1.cls ≠ "java/lang/invoke/MethodHandle" ∧ M.1.cls ≠ "java/lang/invoke/VarHandle" ∧ (parseMethodDescriptor M.1.desc).map (fun d => d.parameters.length) = some n) ∧ M.2.2.1 ≤ 20 ∧ plainName M.1.cls = true
/-- a virtual call's link -/
def m_LV (own : String) (idx : Nat) (M : mM) (n : Nat) : Prop := m_ML M n ∧ Cond.methodLink own idx M.1 ∈ m_tbl ∧ Cond.instanceMethod M.1 ∈ m_tbl ∧ Cond.selects M.1.cls M.1 M.1 ∈ m_tbl
/-- a static call's link -/
def m_LS (own : String) (idx : Nat) (M : mM) (n : Nat) : Prop := m_ML M n ∧ Cond.static M.1 ∈ m_tbl ∧ (Cond.methodLink own idx M.1 ∈ m_tbl ∨ ∃ host, Cond.methodLinkNest own idx M.1 host ∈ m_tbl)
/-- a constructor call's link -/
def m_LI (own : String) (idx : Nat) (M : mM) (n : Nat) : Prop := m_ML M n ∧ M.1.name = "<init>" ∧ M.2.2.2 = none ∧ Cond.instanceMethod M.1 ∈ m_tbl ∧ (Cond.methodLink own idx M.1 ∈ m_tbl ∨ ∃ host, Cond.methodLinkNest own idx M.1 host ∈ m_tbl)
theorem m_sum (G : mG) : ∀ l : List Value, ((l.map (m_rv G)).map fun v => v.category).sum = l.length
  | [] => rfl
  | v :: l => by
    show (m_rv G v).category + ((l.map (m_rv G)).map fun v => v.category).sum = l.length + 1
    rw [m_sum G l, m_rv_c1]
    omega
theorem m_St.moved {G : mG} {u U : State} {H : Heap} (hvm : u.vm.Alike U.vm) (h : m_St G u H) : m_St G U H := ⟨h.1.moved hvm, h.2.moved hvm⟩
theorem m_St.kept {G : mG} {U : State} {H H1 : Heap} (h : m_St G U H) (hq : ∀ a : Nat, a < H.size → ¬ m_A G a → H1[a]? = H[a]?) : m_St G U H1 := ⟨h.1.kept hq, h.2.kept hq⟩
section RCALL
variable {G : mG} {M : mM} {d rc rs pc : Nat} {L st : List Value} {h h' : mH} {r : Option Value}
def m_Pc (G : mG) (av : List Value) (h : mH) : Array Value → State → Prop := va_Pc (av.map (m_rv G)) (fun U => va_K G.2.1 vwCl (m_tys G) U ∧ m_St G U U.heap ∧ m_P G h U.heap)
theorem m_blind (G : mG) (av : List Value) (h : mH) : FrameBlind (m_Pc G av h) := by
  intro a U g mk q
  obtain ⟨q0, qK, qS, qP⟩ := q
  exact ⟨q0, va_K.moved (u := U) (U := U.calling g mk a) (Vm.Alike.refl U.vm) qK, m_St.moved (u := U) (U := U.calling g mk a) (Vm.Alike.refl U.vm) qS, qP⟩
theorem m_pre {p : Program} {R : Room} {s : State} {m : MethodId} {args : Array Value} {meth : Method} {c : Code} {H : Heap} {locs : List Loc} (cx : m_Cx G M d p R s m args meth c) (hP : m_P G h H) (hS : va_S (m_A G) s.heap H locs) (av : List Value) : ∀ U : State, U.heap = H → s.WarmedH U.vm → m_Pc G av h (av.map (m_rv G)).toArray U := by
  intro U hU hW
  refine ⟨rfl, va_K.moved hW.alike cx.2.2.2.2.2.1, ?_, by rw [hU]; exact hP⟩
  rw [hU]
  exact (cx.2.2.2.2.2.2.1.kept (fun a h1 h2 => hS.2.1 a h1 h2)).moved hW.alike
theorem m_go {p : Program} {e : Env} {R : Room} {s : State} {m : MethodId} {args : Array Value} {below : List Frame} {meth : Method} {c : Code} {H : Heap} {locs : List Loc} {cells slots mc ms : Nat} {Q : State → Prop} {ls : Array Slot} {st0 rest : List Value} {r1 : Option Value} {h1 : mH}
    (hr : va_Run p G.1 e R s m args below meth c H locs cells slots mc ms (F0 m pc ls st0) (rest.map (m_rv G)) (fun st oc t => oc = .returned (r1.map (m_rv G)) ∧ m_P G h1 t.heap ∧ va_F (m_A G) st t) (m_A G)) (hS : va_S (m_A G) s.heap H locs)
    (kk : ∀ (H1 : Heap) (locs1 : List Loc), m_P G h1 H1 → va_S (m_A G) s.heap H1 locs1 → W p G.1 e R s m args below meth c H1 locs1 (cells + mc) (slots + ms) Q (F0 m (pc + 3) ls ((r1.toList ++ rest).map (m_rv G)))) : W p G.1 e R s m args below meth c H locs cells slots Q (F0 m pc ls st0) := by
  intro T hT X
  obtain ⟨v, st₀, t, T', L, h0, X', hL, e1, e2, ⟨hv, hP1, hz, hk⟩, st⟩ := hr T hT X
  have hv := Outcome.returned.inj hv
  subst hv
  rw [h0] at hz hk
  have hS1 : va_S (m_A G) s.heap T'.heap (locs ++ L) := ⟨Nat.le_trans hS.1 (by rw [e1]; exact hz), fun q h1 h2 => by rw [e1, hk q (Nat.lt_of_lt_of_le h1 hS.1) h2]; exact hS.2.1 q h1 h2, fun q hq => by
      rcases List.mem_append.mp hq with h | h
      · exact hS.2.2 q h
      · exact hL q h⟩
  obtain ⟨t2, a1, b1⟩ := kk T'.heap (locs ++ L) (by rw [e1]; exact hP1) hS1 T' rfl X'
  refine ⟨t2, st t2 ?_, b1⟩
  have e9 : (r1.map (m_rv G)).toList ++ rest.map (m_rv G) = (r1.toList ++ rest).map (m_rv G) := by cases r1 <;> rfl
  rw [← e9] at a1
  exact a1
theorem r_callV {M' : mM} {d' mc ms idx n ci b : Nat} {As rest : List Value} {r1 : Option Value} {h1 : mH} (hC : MC G M' d' mc ms (.ref b :: As) h r1 h1) (hd : decode M.2.1 pc = .ok (.invokevirtual idx, 3)) (hl : m_LV M.1.cls idx M' n) (hs : h.1[b]? = some (.inl ci)) (hcl : m_R ci = M'.1.cls) (hn : As.length = n) (hst : As.reverse ++ .ref b :: rest = st) (hr : rest.length ≤ 8) (hdd : d' + 1 ≤ d) (hrc : mc ≤ rc) (hrs : ms ≤ rs)
    (kk : MW G M d (rc - mc) (rs - ms) (pc + 3) L (r1.toList ++ rest) h1 r h') : MW G M d rc rs pc L st h r h' := by
  subst hst
  intro p e R s m args below meth c H locs cells slots Q ls cx hP hS hlv hc1 hc2 fin
  obtain ⟨⟨hcode, hini, hy, hmL, hpl⟩, hlk, hins, hsel⟩ := hl
  have hts := cx.2.2.2.2.1
  obtain ⟨hci, cellB, g1, g2, g3, -⟩ := hP.1 b _ hs
  have hcls := (cx.2.2.2.2.2.1.1 ci _ (m_cl hci).1).2
  have hfr : d ≤ R.frames := cx.2.2.2.2.2.2.2.2.1
  have hlo : 39 * d ≤ R.locals := cx.2.2.2.2.2.2.2.2.2.1
  have cw : CallW R s args M.1.cls M'.1.cls idx M'.1 M'.2.1 M'.2.2.1 M'.2.2.2 (Cond.code M'.1 M'.2.1 M'.2.2.1 M'.2.2.2 :: m_tbl) { frames := d', cells := mc, slots := ms, locals := 39 * d' } mc ms n :=
    ⟨callB_of n hts (m_goodIn hcode) rfl rfl rfl (hts _ hini) (hts _ hlk) hy ⟨by show d' + 1 ≤ R.frames; omega, by show 8 + (M'.2.2.1 + 11) + 39 * d' ≤ R.locals; omega⟩, hts _ hins, hts _ hsel⟩
  refine m_go (mc := mc) (ms := ms) (rest := rest) (r1 := r1) (h1 := h1) (va_runV (As := As.map (m_rv G)) (b := m_ad G b) ⟨cx.1, cx.2.1, cx.2.2.1, cx.2.2.2.1, hts⟩ hC cw ⟨m_blind G _ _, ⟨cellB, g1, by rw [g3]; rfl, by rw [← hcl, g2]; exact hcls.1⟩, m_pre cx hP hS (.ref b :: As)⟩ rfl (by rw [List.length_map]; exact hn) hlv.1 (by show List.map _ _ = _; rw [List.map_append, List.map_reverse]; rfl) (lv_room (by rw [m_sum]; exact hr)) hd ⟨by omega, by omega⟩) hS ?_
  intro H1 locs1 hP1 hS1
  exact kk p e R s m args below meth c H1 locs1 (cells + mc) (slots + ms) Q ls cx hP1 hS1 hlv (by omega) (by omega) (fun pc' ls' H' locs' cells' slots' f1 f2 f3 f4 f5 => fin pc' ls' H' locs' cells' slots' f1 f2 f3 (by omega) (by omega))
theorem r_callS {M' : mM} {d' mc ms idx n : Nat} {As rest : List Value} {r1 : Option Value} {h1 : mH} (hC : MC G M' d' mc ms As h r1 h1) (hd : decode M.2.1 pc = .ok (.invokestatic idx, 3)) (hl : m_LS M.1.cls idx M' n) (hn : As.length = n) (hst : As.reverse ++ rest = st) (hr : rest.length ≤ 8) (hdd : d' + 1 ≤ d) (hrc : mc ≤ rc) (hrs : ms ≤ rs)
    (kk : MW G M d (rc - mc) (rs - ms) (pc + 3) L (r1.toList ++ rest) h1 r h') : MW G M d rc rs pc L st h r h' := by
  subst hst
  intro p e R s m args below meth c H locs cells slots Q ls cx hP hS hlv hc1 hc2 fin
  obtain ⟨⟨hcode, hini, hy, hmL, hpl⟩, hsta, hlk⟩ := hl
  have hts := cx.2.2.2.2.1
  have hfr : d ≤ R.frames := cx.2.2.2.2.2.2.2.2.1
  have hlo : 39 * d ≤ R.locals := cx.2.2.2.2.2.2.2.2.2.1
  have hRm : ({ frames := d', cells := mc, slots := ms, locals := 39 * d' } : Room).frames + 1 ≤ R.frames ∧ 8 + (M'.2.2.1 + 11) + ({ frames := d', cells := mc, slots := ms, locals := 39 * d' } : Room).locals ≤ R.locals := ⟨by show d' + 1 ≤ R.frames; omega, by show 8 + (M'.2.2.1 + 11) + 39 * d' ≤ R.locals; omega⟩
  have hrun : va_Run p G.1 e R s m args below meth c H locs cells slots mc ms (F0 m pc ls ((As.reverse ++ rest).map (m_rv G))) (rest.map (m_rv G)) (fun st oc t => oc = .returned (r1.map (m_rv G)) ∧ m_P G h1 t.heap ∧ va_F (m_A G) st t) (m_A G) := by
    rcases hlk with hlk | ⟨host, hlk⟩
    · exact va_runS (As := As.map (m_rv G)) ⟨cx.1, cx.2.1, cx.2.2.1, cx.2.2.2.1, hts⟩ hC ⟨callB_of n hts (m_goodIn hcode) rfl rfl rfl (hts _ hini) (hts _ hlk) hy hRm, hts _ hsta⟩ ⟨m_blind G _ _, m_pre cx hP hS As⟩ rfl (by rw [List.length_map]; exact hn) hlv.1 (by show List.map _ _ = _; rw [List.map_append, List.map_reverse]) (lv_room (by rw [m_sum]; exact hr)) hd ⟨by omega, by omega⟩
    · exact va_runSN (As := As.map (m_rv G)) ⟨cx.1, cx.2.1, cx.2.2.1, cx.2.2.2.1, hts⟩ hC ⟨va_cnB n hts (m_goodIn hcode) rfl rfl rfl (va_Nw.of rfl (hts _ hlk)) (hts _ hini) hy hRm, hts _ hsta, trivial⟩ ⟨m_blind G _ _, m_pre cx hP hS As⟩ rfl (by rw [List.length_map]; exact hn) hlv.1 (by show List.map _ _ = _; rw [List.map_append, List.map_reverse]) (lv_room (by rw [m_sum]; exact hr)) hd ⟨by omega, by omega⟩
  refine m_go (mc := mc) (ms := ms) (rest := rest) (r1 := r1) (h1 := h1) hrun hS ?_
  intro H1 locs1 hP1 hS1
  exact kk p e R s m args below meth c H1 locs1 (cells + mc) (slots + ms) Q ls cx hP1 hS1 hlv (by omega) (by omega) (fun pc' ls' H' locs' cells' slots' f1 f2 f3 f4 f5 => fin pc' ls' H' locs' cells' slots' f1 f2 f3 (by omega) (by omega))
theorem r_callI {M' : mM} {d' mc ms idx n b : Nat} {As rest : List Value} {r1 : Option Value} {h1 : mH} (hC : MC G M' d' mc ms (.ref b :: As) h r1 h1) (hd : decode M.2.1 pc = .ok (.invokespecial idx, 3)) (hl : m_LI M.1.cls idx M' n) (hn : As.length = n) (hst : As.reverse ++ .ref b :: rest = st) (hr : rest.length ≤ 8) (hdd : d' + 1 ≤ d) (hrc : mc ≤ rc) (hrs : ms ≤ rs)
    (kk : MW G M d (rc - mc) (rs - ms) (pc + 3) L (r1.toList ++ rest) h1 r h') : MW G M d rc rs pc L st h r h' := by
  subst hst
  intro p e R s m args below meth c H locs cells slots Q ls cx hP hS hlv hc1 hc2 fin
  obtain ⟨⟨hcode, hini, hy, hmL, hpl⟩, hnm, hret, hins, hlk⟩ := hl
  have hts := cx.2.2.2.2.1
  have hfr : d ≤ R.frames := cx.2.2.2.2.2.2.2.2.1
  have hlo : 39 * d ≤ R.locals := cx.2.2.2.2.2.2.2.2.2.1
  rw [hret] at hcode
  unfold MC at hC
  rw [hret] at hC
  have hRm : ({ frames := d', cells := mc, slots := ms, locals := 39 * d' } : Room).frames + 1 ≤ R.frames ∧ 8 + (M'.2.2.1 + 11) + ({ frames := d', cells := mc, slots := ms, locals := 39 * d' } : Room).locals ≤ R.locals := ⟨by show d' + 1 ≤ R.frames; omega, by show 8 + (M'.2.2.1 + 11) + 39 * d' ≤ R.locals; omega⟩
  have hrun : va_Run p G.1 e R s m args below meth c H locs cells slots mc ms (F0 m pc ls ((As.reverse ++ .ref b :: rest).map (m_rv G))) (rest.map (m_rv G)) (fun st oc t => oc = .returned (r1.map (m_rv G)) ∧ m_P G h1 t.heap ∧ va_F (m_A G) st t) (m_A G) := by
    rcases hlk with hlk | ⟨host, hlk⟩
    · exact va_runI (As := As.map (m_rv G)) (b := m_ad G b) ⟨cx.1, cx.2.1, cx.2.2.1, cx.2.2.2.1, hts⟩ hC (cwI n hts (m_goodIn hcode) rfl rfl rfl (hts _ hini) (hts _ hlk) (hts _ hins) hnm hy hRm) ⟨m_blind G _ _, m_pre cx hP hS (.ref b :: As)⟩ rfl (by rw [List.length_map]; exact hn) hlv.1 (by show List.map _ _ = _; rw [List.map_append, List.map_reverse]; rfl) (lv_room (by rw [m_sum]; exact hr)) hd ⟨by omega, by omega⟩
    · exact va_runIN (As := As.map (m_rv G)) (b := m_ad G b) ⟨cx.1, cx.2.1, cx.2.2.1, cx.2.2.2.1, hts⟩ hC ⟨va_cnB n hts (m_goodIn hcode) rfl rfl rfl (va_Nw.of rfl (hts _ hlk)) (hts _ hini) hy hRm, hnm, hts _ hins⟩ ⟨m_blind G _ _, m_pre cx hP hS (.ref b :: As)⟩ rfl (by rw [List.length_map]; exact hn) hlv.1 (by show List.map _ _ = _; rw [List.map_append, List.map_reverse]; rfl) (lv_room (by rw [m_sum]; exact hr)) hd ⟨by omega, by omega⟩
  refine m_go (mc := mc) (ms := ms) (rest := rest) (r1 := r1) (h1 := h1) hrun hS ?_
  intro H1 locs1 hP1 hS1
  exact kk p e R s m args below meth c H1 locs1 (cells + mc) (slots + ms) Q ls cx hP1 hS1 hlv (by omega) (by omega) (fun pc' ls' H' locs' cells' slots' f1 f2 f3 f4 f5 => fin pc' ls' H' locs' cells' slots' f1 f2 f3 (by omega) (by omega))
/-- Object.<init> -/
theorem r_obj {idx a : Nat} (hd : decode M.2.1 pc = .ok (.invokespecial idx, 3)) (h1 : Cond.methodLink M.1.cls idx Lib.objectInit ∈ m_tbl) (h2 : Cond.instanceMethod Lib.objectInit ∈ m_tbl) (h3 : Cond.code Lib.objectInit ⟨#[0xb1]⟩ 1 none ∈ m_tbl) (hr : st.length ≤ 8) (hdd : 1 ≤ d) (kk : MW G M d rc rs (pc + 3) L st h r h') : MW G M d rc rs pc L (.ref a :: st) h r h' := by
  intro p e R s m args below meth c H locs cells slots Q ls cx hP hS hlv hc1 hc2 fin
  have hts := cx.2.2.2.2.1
  have hfr : d ≤ R.frames := cx.2.2.2.2.2.2.2.2.1
  have hlo : 39 * d ≤ R.locals := cx.2.2.2.2.2.2.2.2.2.1
  refine W.objInit cx.1 cx.2.1 cx.2.2.2.1 (hts _ h1) (hts _ h2) (hts _ h3) rfl (hlv.1.trans cx.2.2.1.symm) rfl hd (by omega) (by show 2 * 0 + _ + 12 ≤ _; rw [m_sum]; omega) ?_
  exact kk p e R s m args below meth c H locs cells slots Q ls cx hP hS hlv hc1 hc2 fin
theorem r_min {idx : Nat} {x y : Int32} (hd : decode M.2.1 pc = .ok (.invokestatic idx, 3)) (h1 : Cond.methodLink M.1.cls idx Lib.Math.min.name ∈ m_tbl) (h2 : Cond.static Lib.Math.min.name ∈ m_tbl) (h3 : Cond.initialized "java/lang/Math" ∈ m_tbl) (h4 : Cond.code Lib.Math.min.name Lib.Math.min.code 2 (some .int) ∈ m_tbl) (hr : st.length ≤ 8) (hdd : 1 ≤ d) (kk : MW G M d rc rs (pc + 3) L (.int (if y < x then y else x) :: st) h r h') : MW G M d rc rs pc L (.int y :: .int x :: st) h r h' := by
  intro p e R s m args below meth c H locs cells slots Q ls cx hP hS hlv hc1 hc2 fin
  have hts := cx.2.2.2.2.1
  have hfr : d ≤ R.frames := cx.2.2.2.2.2.2.2.2.1
  have hlo : 39 * d ≤ R.locals := cx.2.2.2.2.2.2.2.2.2.1
  refine va_mmin cx.1 cx.2.1 (cx.2.2.1.trans hlv.1.symm) cx.2.2.2.1 (hts _ h1) (hts _ h2) (hts _ h3) (hts _ h4) (by omega) (by rw [m_sum]; omega) (by omega) (by omega) hd ?_
  exact kk p e R s m args below meth c H locs cells slots Q ls cx hP hS hlv hc1 hc2 fin
theorem r_abs {idx : Nat} {x : Int32} (hd : decode M.2.1 pc = .ok (.invokestatic idx, 3)) (h1 : Cond.methodLink M.1.cls idx Lib.Math.abs.name ∈ m_tbl) (h2 : Cond.static Lib.Math.abs.name ∈ m_tbl) (h3 : Cond.initialized "java/lang/Math" ∈ m_tbl) (h4 : Cond.code Lib.Math.abs.name Lib.Math.abs.code 1 (some .int) ∈ m_tbl) (hr : st.length ≤ 8) (hdd : 1 ≤ d) (kk : MW G M d rc rs (pc + 3) L (.int (if 0 ≤ x then x else 0 - x) :: st) h r h') : MW G M d rc rs pc L (.int x :: st) h r h' := by
  intro p e R s m args below meth c H locs cells slots Q ls cx hP hS hlv hc1 hc2 fin
  have hts := cx.2.2.2.2.1
  have hfr : d ≤ R.frames := cx.2.2.2.2.2.2.2.2.1
  have hlo : 39 * d ≤ R.locals := cx.2.2.2.2.2.2.2.2.2.1
  refine va_mabs cx.1 cx.2.1 (cx.2.2.1.trans hlv.1.symm) cx.2.2.2.1 (hts _ h1) (hts _ h2) (hts _ h3) (hts _ h4) (by omega) (by rw [m_sum]; omega) (by omega) (by omega) hd ?_
  exact kk p e R s m args below meth c H locs cells slots Q ls cx hP hS hlv hc1 hc2 fin
/-- the static row of widths: it is the cell 1000001 -/
theorem r_gets {idx : Nat} (hd : decode M.2.1 pc = .ok (.getstatic idx, 3)) (hw : Cond.fieldLink M.1.cls idx "MaskedCopies$WidthSearch" "WIDTHS" "[I" ∈ m_tbl) (kk : MW G M d rc rs (pc + 3) L (.ref 1000001 :: st) h r h') : MW G M d rc rs pc L st h r h' := by
  intro p e R s m args below meth c H locs cells slots Q ls cx hP hS hlv hc1 hc2 fin
  refine va_gets cx.1 cx.2.1 cx.2.2.2.2.2.2.1.1 hS cx.2.2.2.1 (cx.2.2.2.2.1 _ hw) (fun _ h9 => h9) hd ?_
  exact kk p e R s m args below meth c H locs cells slots Q ls cx hP hS hlv hc1 hc2 fin
theorem r_wald {i : Int32} (hd : decode M.2.1 pc = .ok (.iaload, 1)) (hin : vp_in i 4) (kk : MW G M d rc rs (pc + 1) L (.int (m_wid i.toNatClampNeg) :: st) h r h') : MW G M d rc rs pc L (.int i :: .ref 1000001 :: st) h r h' := by
  intro p e R s m args below meth c H locs cells slots Q ls cx hP hS hlv hc1 hc2 fin
  refine va_ti cx.1 cx.2.1 cx.2.2.2.2.2.2.1.2 hS hin rfl hd ?_
  exact kk p e R s m args below meth c H locs cells slots Q ls cx hP hS hlv hc1 hc2 fin
/-- what a method may return -/
def m_okR (ret : Option FieldType) (r : Option Value) : Prop := match ret with
  | none => r = none
  | some .int => ∃ x : Int32, r = some (.int x)
  | some .boolean => r = some (.int 0) ∨ r = some (.int 1)
  | some (.object _) => r = some .null ∨ ∃ a, r = some (.ref a)
  | _ => False
theorem m_args {G : mG} : ∀ (av : List Value) (n k : Nat) (q : Nat × Value), q ∈ m_lv G n (av ++ List.replicate k (.retAddr 0)) → q ∈ lv_args n (av.map (m_rv G))
  | [], n, k, q, h => by
    obtain ⟨i, v, e1, e2, -⟩ := m_lv_mem _ _ _ h
    rw [List.nil_append] at e1
    have := (List.eq_of_mem_replicate (List.mem_of_getElem? e1))
    exact absurd this (e2 0)
  | v :: av, n, k, q, h => by
    have key : q = (n, m_rv G v) ∨ q ∈ m_lv G (n + 1) (av ++ List.replicate k (.retAddr 0)) := by
      cases v with
      | retAddr z => exact Or.inr h
      | _ => exact List.mem_cons.mp h
    show q ∈ (n, m_rv G v) :: lv_args (if (m_rv G v).category = 2 then n + 2 else n + 1) (av.map (m_rv G))
    rw [m_rv_c1, if_neg (by decide)]
    rcases key with h1 | h1
    · rw [h1]; exact List.mem_cons_self
    · exact List.mem_cons_of_mem _ (m_args av (n + 1) k q h1)
theorem m_sl {G : mG} : ∀ (av : List Value), (lg_sl (av.map (m_rv G))).length = av.length
  | [] => rfl
  | v :: av => by
    show ((if (m_rv G v).category = 2 then [Slot.val (m_rv G v), .second] else [.val (m_rv G v)]) ++ lg_sl (av.map (m_rv G))).length = av.length + 1
    rw [m_rv_c1, if_neg (by decide), List.length_append, m_sl av]
    show 1 + _ = _
    omega
/-- a contract out of the walk of the body -/
theorem MC_intro {mc ms n : Nat} {av : List Value} (hM : m_ML M n) (hav : av.length ≤ M.2.2.1) (hr : m_okR M.2.2.2 r) (hL : av ++ List.replicate (M.2.2.1 - av.length) (.retAddr 0) = L) (hB : True) (kk : MW G M d mc ms 0 L [] h r h') : MC G M d mc ms av h r h' := by
  subst hL
  refine Met.ofW (cc := M.2.1) (maxL := M.2.2.1) (ret := M.2.2.2) hM.2.2.2.2 rfl ?_
  intro p e s m args below meth c s₁ B hml hv
  obtain ⟨rfl, hK, hSt, hP⟩ := hv
  have hr2 := B.returns
  have hts0 := atoms_spec (ws := Cond.code M.1 M.2.1 M.2.2.1 M.2.2.2 :: m_tbl) B.pre
  have hts : ∀ w ∈ m_tbl, w.before (av.map (m_rv G)).toArray s = true := fun w hw => hts0 w (List.mem_cons_of_mem _ hw)
  have hown : s.vm.findClass M.1.cls = some m.cls := findClass_of_methodNamed B.named
  have hlocks := B.notSynchronized
  have hnm : meth.name = M.1.name := (name_of_methodNamed B.named B.method).1
  have hl := lv_entry (av.map (m_rv G)) (n := M.2.2.1) (by rw [m_sl]; exact hav)
  rw [lg_entry_eq]
  generalize (lg_sl (av.map (m_rv G)) ++ List.replicate (M.2.2.1 - (lg_sl (av.map (m_rv G))).length) Slot.unset).toArray = ls at hl ⊢
  have hl2 : lv_has ls M.2.2.1 (m_lv G 0 (av ++ List.replicate (M.2.2.1 - av.length) (.retAddr 0))) := ⟨hl.1, hl.2.1, fun q hq => hl.2.2 q (m_args av 0 _ q hq)⟩
  have hsz : G.2.2.2.1 ≤ s.heap.size := by rw [hP.2.1]; exact Nat.le_add_right _ _
  refine kk p e _ s m _ below meth c s.heap [] 0 0 _ ls ⟨B.exec, B.bytes, hml, hown, hts, hK, hSt, hsz, Nat.le_refl _, Nat.le_refl _, hnm⟩ hP va_S.rf hl2 (by show 0 + mc ≤ mc; omega) (by show 0 + ms ≤ ms; omega) ?_
  intro pc' ls' H' locs' cells' slots' hd hP' hS' hc hs
  refine W.widen (k := mc) (n := ms) (by omega) (by omega) ?_
  have hq : ∀ t : State, t.heap = H' → s.WarmedH t.vm → (.returned (r.map (m_rv G)) : Outcome) = .returned (r.map (m_rv G)) ∧ m_P G h' t.heap ∧ va_F (m_A G) s t := fun t ht _ => ⟨rfl, by rw [ht]; exact hP', hS'.F ht⟩
  obtain ⟨y, bb, mL, ret⟩ := M
  dsimp only at hr hr2 hd hq ⊢
  match ret, hr, hr2, hd with
  | none, hr, hr2, hd =>
    subst hr
    exact W.vret B.exec B.bytes hr2 hq hS'.2.2 hd
  | some .int, hr, hr2, hd =>
    obtain ⟨x, rfl⟩ := hr
    exact W.iret B.exec B.bytes hr2 hq hS'.2.2 hd
  | some .boolean, hr, hr2, hd =>
    rcases hr with rfl | rfl
    · exact W.zret B.exec B.bytes hr2 rfl hq hS'.2.2 hd
    · exact W.zret B.exec B.bytes hr2 rfl hq hS'.2.2 hd
  | some (.object C), hr, hr2, hd =>
    rcases hr with rfl | ⟨a, rfl⟩
    · exact W.aret B.exec B.bytes hr2 (Or.inl ⟨_, rfl⟩) (Or.inl rfl) hq hS'.2.2 hd
    · exact W.aret B.exec B.bytes hr2 (Or.inl ⟨_, rfl⟩) (Or.inr ⟨_, rfl⟩) hq hS'.2.2 hd
end RCALL
end
section
/-! ===== rows of the small machine: new cells ===== -/
def m_new (h : mH) (sh : mSh) : mH := (h.1 ++ [sh], va_up h.2.1 h.1.length (fun _ => 0), va_up h.2.2 h.1.length (fun _ => none))
def m_okT (ci : Nat) : Bool := (List.range (m_nF ci)).all (fun k => decide (m_ty ci k = .int) || decide (m_ty ci k = .boolean) || (m_ty ci k).isReference)
theorem m_okT_all : (List.range 8).all m_okT = true := by decide +kernel
theorem m_dflt {G : mG} {ci k : Nat} (hci : ci < 8) (hk : k < m_nF ci) : defaultValue (m_ty ci k) = m_fv G ci (fun _ => 0) (fun _ => none) k := by
  have h1 := List.all_eq_true.mp m_okT_all ci (List.mem_range.mpr hci)
  have h2 := List.all_eq_true.mp h1 k (List.mem_range.mpr hk)
  unfold m_fv
  generalize m_ty ci k = t at h2 ⊢
  cases t <;> first | rfl | (exact absurd h2 (by decide))
theorem m_P.push {G : mG} {h : mH} {H H1 : Heap} {sh : mSh} (hP : m_P G h H) (hlen : h.1.length + 1 ≤ 1000) (z : H1.size = H.size + 1) (oq : ∀ q, q < H.size → H1[q]? = H[q]?) (hat : m_at G sh (fun _ => 0) (fun _ => none) h.1.length H1) : m_P G (m_new h sh) H1 := by
  refine ⟨fun a sh' hs' => ?_, ?_, ?_⟩
  · by_cases ha : a < h.1.length
    · have hs2 : h.1[a]? = some sh' := by
        have h9 : (h.1 ++ [sh])[a]? = some sh' := hs'
        rwa [List.getElem?_append_left ha] at h9
      show m_at G sh' (va_up h.2.1 h.1.length (fun _ => 0) a) (va_up h.2.2 h.1.length (fun _ => none) a) a H1
      rw [va_up_ne _ _ (Nat.ne_of_lt ha), va_up_ne _ _ (Nat.ne_of_lt ha)]
      refine (hP.1 a sh' hs2).kept (oq _ ?_)
      rw [(hP.lt hs2).2.2, hP.2.1]
      omega
    · have h9 : (h.1 ++ [sh])[a]? = some sh' := hs'
      rw [List.getElem?_append_right (by omega)] at h9
      have hz : a - h.1.length < 1 := (List.getElem?_eq_some_iff.mp h9).1
      have ha0 : a = h.1.length := by omega
      subst ha0
      rw [Nat.sub_self] at h9
      cases h9
      show m_at G sh (va_up h.2.1 h.1.length (fun _ => 0) h.1.length) (va_up h.2.2 h.1.length (fun _ => none) h.1.length) h.1.length H1
      rw [va_up_self, va_up_self]
      exact hat
  · show H1.size = _ + (h.1 ++ [sh]).length
    rw [z, hP.2.1, List.length_append]
    rfl
  · show (h.1 ++ [sh]).length ≤ 1000
    rw [List.length_append]
    exact hlen
theorem m_P.next {G : mG} {h : mH} {H : Heap} (hP : m_P G h H) (hlen : h.1.length + 1 ≤ 1000) : m_ad G h.1.length = H.size := by rw [m_A_ad (by omega), hP.2.1]
theorem va_S.grow {A : Nat → Prop} {H0 H H1 : Heap} {locs : List Loc} (h : va_S A H0 H locs) (z : H1.size = H.size + 1) (oq : ∀ q, q < H.size → H1[q]? = H[q]?) : va_S A H0 H1 locs :=
  ⟨Nat.le_trans h.1 (by omega), fun q h1 h2 => (oq q (Nat.lt_of_lt_of_le h1 h.1)).trans (h.2.1 q h1 h2), h.2.2⟩
section RNEW
variable {G : mG} {M : mM} {d rc rs pc : Nat} {L st : List Value} {h h' : mH} {r : Option Value}
theorem r_new {idx ci : Nat} (hd : decode M.2.1 pc = .ok (.new idx, 3)) (hci : ci < 8) (h1 : Cond.classLink M.1.cls idx (m_R ci) ∈ m_tbl) (h2 : Cond.instantiable (m_R ci) (m_nF ci) ∈ m_tbl) (h3 : Cond.initialized (m_R ci) ∈ m_tbl) (hlen : h.1.length + 1 ≤ 1000) (hrc : 1 ≤ rc) (hrs : m_nF ci ≤ rs) (kk : MW G M d (rc - 1) (rs - m_nF ci) (pc + 3) L (.ref h.1.length :: st) (m_new h (.inl ci)) r h') : MW G M d rc rs pc L st h r h' := by
  intro p e R s m args below meth c H locs cells slots Q ls cx hP hS hl hc1 hc2 fin
  have hts := cx.2.2.2.2.1
  obtain ⟨hc, hin, hty, hnm⟩ := m_cl hci
  have hKn := cx.2.2.2.2.2.1.1 ci _ hc
  refine W.newcK (n := m_nF ci) cx.1 cx.2.1 cx.2.2.2.1 (hts _ h1) (hts _ h2) (hts _ h3) rfl hd (by omega) (by omega) hKn.2.1 rfl fun H1 kC hkC e1 z1 o1 => ?_
  have hat : m_at G (.inl ci) (fun _ => 0) (fun _ => none) h.1.length H1 := by
    refine ⟨hci, ?_⟩
    rw [hP.next hlen]
    exact (u_born (m_ty ci) hts hin hKn hkC e1 hty).to (fun k hk => m_dflt hci hk)
  have h9 := kk p e R s m args below meth c H1 locs (cells + 1) (slots + m_nF ci) Q ls cx (hP.push hlen z1 o1 hat) (hS.grow z1 o1) hl (by omega) (by omega) (fun pc' ls' H' locs' cells' slots' f1 f2 f3 f4 f5 => fin pc' ls' H' locs' cells' slots' f1 f2 f3 (by omega) (by omega))
  rw [← hP.next hlen]
  exact h9
theorem r_newa {ti N : Nat} {n : Int32} {atype : ArrayType} (hd : decode M.2.1 pc = .ok (.newarray atype, 2)) (hti : ti < 2) (hat0 : newarray.typeOf atype = m_at_ty ti) (h1 : Cond.arrayClass (m_at_ty ti) ∈ m_tbl) (hn : ¬ n < 0) (hN : n.toNatClampNeg = N) (hN2 : N ≤ 1000) (hlen : h.1.length + 1 ≤ 1000) (hrc : 1 ≤ rc) (hrs : N ≤ rs) (kk : MW G M d (rc - 1) (rs - N) (pc + 2) L (.ref h.1.length :: st) (m_new h (.inr (ti, N))) r h') : MW G M d rc rs pc L (.int n :: st) h r h' := by
  intro p e R s m args below meth c H locs cells slots Q ls cx hP hS hl hc1 hc2 fin
  have hts := cx.2.2.2.2.1
  have hb : N * componentBytes (newarray.typeOf atype) ≤ 536870912 := by
    rw [hat0]
    match ti, hti with
    | 0, _ => show N * 4 ≤ _; omega
    | 1, _ => show N * 1 ≤ _; omega
  refine va_newaK cx.1 cx.2.1 (by rw [hat0]; exact hts _ h1) rfl hd rfl hn hN hb (by omega) (by omega) rfl fun H1 cA e1 z1 o1 hAr hNm => ?_
  have hcA : cA = G.2.2.1 ti ∧ (fun _ : Nat => defaultValue (newarray.typeOf atype)) = m_av G ti (fun _ => 0) (fun _ => none) := by
    rw [hat0] at hNm ⊢
    match ti, hti with
    | 0, _ => exact ⟨Option.some.inj (hNm.symm.trans (cx.2.2.2.2.2.1.2 0 _ rfl).2), rfl⟩
    | 1, _ => exact ⟨Option.some.inj (hNm.symm.trans (cx.2.2.2.2.2.1.2 1 _ rfl).2), rfl⟩
  have hat : m_at G (.inr (ti, N)) (fun _ => 0) (fun _ => none) h.1.length H1 := by
    refine ⟨by omega, ?_⟩
    rw [hP.next hlen, ← hcA.2, ← hcA.1]
    exact e1
  have h9 := kk p e R s m args below meth c H1 locs (cells + 1) (slots + N) Q ls cx (hP.push hlen z1 o1 hat) (hS.grow z1 o1) hl (by omega) (by omega) (fun pc' ls' H' locs' cells' slots' f1 f2 f3 f4 f5 => fin pc' ls' H' locs' cells' slots' f1 f2 f3 (by omega) (by omega))
  rw [← hP.next hlen]
  exact h9
theorem r_newq {ti N idx : Nat} {n : Int32} {C : String} (hd : decode M.2.1 pc = .ok (.anewarray idx, 3)) (hti : ¬ ti < 2) (h5 : ti < 5) (hC : m_at_ty ti = .object C) (h1 : Cond.classLink M.1.cls idx C ∈ m_tbl) (h2 : Cond.arrayOver (.object C) ∈ m_tbl) (hn : ¬ n < 0) (hN : n.toNatClampNeg = N) (hN2 : N ≤ 1000) (hlen : h.1.length + 1 ≤ 1000) (hrc : 1 ≤ rc) (hrs : N ≤ rs) (kk : MW G M d (rc - 1) (rs - N) (pc + 3) L (.ref h.1.length :: st) (m_new h (.inr (ti, N))) r h') : MW G M d rc rs pc L (.int n :: st) h r h' := by
  subst hN
  intro p e R s m args below meth c H locs cells slots Q ls cx hP hS hl hc1 hc2 fin
  have hts := cx.2.2.2.2.1
  refine W.anew cx.1 cx.2.1 cx.2.2.2.1 (hts _ h1) (hts _ h2) rfl hd rfl hn (by omega) (by omega) (by omega) fun cA kA comp f1 f2 f3 f4 => ?_
  generalize hH1 : H.push ({ cls := cA, slots := Array.replicate n.toNatClampNeg .null, vm := .none } : Cell) = H1
  have z1 : H1.size = H.size + 1 := by rw [← hH1, Array.size_push]
  have e1 : H1[H.size]? = some (arrV cA n.toNatClampNeg (fun _ => .null)) := by rw [← hH1, Array.getElem?_push_size, ← arrV_new]
  have o1 : ∀ q : Nat, q < H.size → H1[q]? = H[q]? := fun q hq => by rw [← hH1, Array.getElem?_push, if_neg (Nat.ne_of_lt hq)]
  have hRA := (cx.2.2.2.2.2.1.2 ti _ (m_ty_ti (G := G) hti h5).1).2
  rw [hC] at hRA
  obtain ⟨kA', comp', k1, k2, k3, k4⟩ := hRA
  have hcA : cA = G.2.2.1 ti := Option.some.inj (f1.symm.trans k4)
  have hav : (fun _ : Nat => Value.null) = m_av G ti (fun _ => 0) (fun _ => none) := by
    funext j
    unfold m_av
    rw [if_neg hti]
    rfl
  have hat : m_at G (.inr (ti, n.toNatClampNeg)) (fun _ => 0) (fun _ => none) h.1.length H1 := by
    refine ⟨h5, ?_⟩
    rw [hP.next hlen, ← hav, ← hcA]
    exact e1
  have h9 := kk p e R s m args below meth c H1 locs (cells + 1) (slots + n.toNatClampNeg) Q ls cx (hP.push hlen z1 o1 hat) (hS.grow z1 o1) hl (by omega) (by omega) (fun pc' ls' H' locs' cells' slots' f1 f2 f3 f4 f5 => fin pc' ls' H' locs' cells' slots' f1 f2 f3 (by omega) (by omega))
  rw [← hP.next hlen]
  exact h9
end RNEW
end

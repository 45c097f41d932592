section
-- ===== PART A: goes FIRST, ahead of the names: the tables' words, and 'selects' of the private methods out of them =====
/-- a private method of a class that the tables say can be made, by its rows of tables_1 -/
def lw_okq (q : MethodName × Nat) : Prop := (q.1.cls ≠ "java/lang/invoke/MethodHandle" ∧ q.1.cls ≠ "java/lang/invoke/VarHandle") ∧ Cond.instantiable q.1.cls q.2 ∈ tables_1 ∧ Cond.privateMethod q.1 ∈ tables_1 ∧ Cond.instanceMethod q.1 ∈ tables_1
theorem lw_p0 : lw_okq (⟨"MaskedCopies", "tableAt", "(I)LMaskedCopies$Table;"⟩, 13) := ⟨⟨by decide +kernel, by decide +kernel⟩, List.mem_of_getElem? (i := 12) (by decide +kernel), List.mem_of_getElem? (i := 218) (by decide +kernel), List.mem_of_getElem? (i := 219) (by decide +kernel)⟩
theorem lw_p1 : lw_okq (⟨"MaskedCopies", "waitingCellsFit", "(LMaskedCopies$Table;)Z"⟩, 13) := ⟨⟨by decide +kernel, by decide +kernel⟩, List.mem_of_getElem? (i := 12) (by decide +kernel), List.mem_of_getElem? (i := 234) (by decide +kernel), List.mem_of_getElem? (i := 235) (by decide +kernel)⟩
theorem lw_p2 : lw_okq (⟨"MaskedCopies", "rowsWith", "(LMaskedCopies$Copy;III)I"⟩, 13) := ⟨⟨by decide +kernel, by decide +kernel⟩, List.mem_of_getElem? (i := 12) (by decide +kernel), List.mem_of_getElem? (i := 253) (by decide +kernel), List.mem_of_getElem? (i := 254) (by decide +kernel)⟩
theorem lw_p3 : lw_okq (⟨"MaskedCopies", "rowsOf", "(I)I"⟩, 13) := ⟨⟨by decide +kernel, by decide +kernel⟩, List.mem_of_getElem? (i := 12) (by decide +kernel), List.mem_of_getElem? (i := 257) (by decide +kernel), List.mem_of_getElem? (i := 258) (by decide +kernel)⟩
theorem lw_p4 : lw_okq (⟨"MaskedCopies", "columnAt", "(II)LMaskedCopies$Column;"⟩, 13) := ⟨⟨by decide +kernel, by decide +kernel⟩, List.mem_of_getElem? (i := 12) (by decide +kernel), List.mem_of_getElem? (i := 281) (by decide +kernel), List.mem_of_getElem? (i := 282) (by decide +kernel)⟩
theorem lw_p5 : lw_okq (⟨"MaskedCopies", "nextRule", "()LMaskedCopies$Rule;"⟩, 13) := ⟨⟨by decide +kernel, by decide +kernel⟩, List.mem_of_getElem? (i := 12) (by decide +kernel), List.mem_of_getElem? (i := 314) (by decide +kernel), List.mem_of_getElem? (i := 315) (by decide +kernel)⟩
theorem lw_p6 : lw_okq (⟨"MaskedCopies", "addRule", "()I"⟩, 13) := ⟨⟨by decide +kernel, by decide +kernel⟩, List.mem_of_getElem? (i := 12) (by decide +kernel), List.mem_of_getElem? (i := 322) (by decide +kernel), List.mem_of_getElem? (i := 323) (by decide +kernel)⟩
theorem lw_p7 : lw_okq (⟨"MaskedCopies", "copyOf", "(I)LMaskedCopies$Copy;"⟩, 13) := ⟨⟨by decide +kernel, by decide +kernel⟩, List.mem_of_getElem? (i := 12) (by decide +kernel), List.mem_of_getElem? (i := 353) (by decide +kernel), List.mem_of_getElem? (i := 354) (by decide +kernel)⟩
theorem lw_p8 : lw_okq (⟨"MaskedCopies", "firstBroken", "(LMaskedCopies$Copy;)I"⟩, 13) := ⟨⟨by decide +kernel, by decide +kernel⟩, List.mem_of_getElem? (i := 12) (by decide +kernel), List.mem_of_getElem? (i := 357) (by decide +kernel), List.mem_of_getElem? (i := 358) (by decide +kernel)⟩
theorem lw_p9 : lw_okq (⟨"MaskedCopies", "ruleHolds", "(LMaskedCopies$Rule;LMaskedCopies$Copy;)Z"⟩, 13) := ⟨⟨by decide +kernel, by decide +kernel⟩, List.mem_of_getElem? (i := 12) (by decide +kernel), List.mem_of_getElem? (i := 361) (by decide +kernel), List.mem_of_getElem? (i := 362) (by decide +kernel)⟩
theorem lw_p10 : lw_okq (⟨"MaskedCopies", "holdsInRow", "(LMaskedCopies$Rule;LMaskedCopies$Copy;I)Z"⟩, 13) := ⟨⟨by decide +kernel, by decide +kernel⟩, List.mem_of_getElem? (i := 12) (by decide +kernel), List.mem_of_getElem? (i := 365) (by decide +kernel), List.mem_of_getElem? (i := 366) (by decide +kernel)⟩
theorem lw_p11 : lw_okq (⟨"MaskedCopies", "partsOf", "(LMaskedCopies$Rule;LMaskedCopies$Copy;I)I"⟩, 13) := ⟨⟨by decide +kernel, by decide +kernel⟩, List.mem_of_getElem? (i := 12) (by decide +kernel), List.mem_of_getElem? (i := 369) (by decide +kernel), List.mem_of_getElem? (i := 370) (by decide +kernel)⟩
theorem lw_p12 : lw_okq (⟨"MaskedCopies", "draftMasked", "(I)V"⟩, 13) := ⟨⟨by decide +kernel, by decide +kernel⟩, List.mem_of_getElem? (i := 12) (by decide +kernel), List.mem_of_getElem? (i := 377) (by decide +kernel), List.mem_of_getElem? (i := 378) (by decide +kernel)⟩
theorem lw_p13 : lw_okq (⟨"MaskedCopies", "ownerOf", "(II)I"⟩, 13) := ⟨⟨by decide +kernel, by decide +kernel⟩, List.mem_of_getElem? (i := 12) (by decide +kernel), List.mem_of_getElem? (i := 390) (by decide +kernel), List.mem_of_getElem? (i := 391) (by decide +kernel)⟩
theorem lw_p14 : lw_okq (⟨"MaskedCopies", "shiftOf", "(I)I"⟩, 13) := ⟨⟨by decide +kernel, by decide +kernel⟩, List.mem_of_getElem? (i := 12) (by decide +kernel), List.mem_of_getElem? (i := 394) (by decide +kernel), List.mem_of_getElem? (i := 395) (by decide +kernel)⟩
theorem lw_p15 : lw_okq (⟨"MaskedCopies", "narrowRoom", "(II)V"⟩, 13) := ⟨⟨by decide +kernel, by decide +kernel⟩, List.mem_of_getElem? (i := 12) (by decide +kernel), List.mem_of_getElem? (i := 402) (by decide +kernel), List.mem_of_getElem? (i := 403) (by decide +kernel)⟩
def lw_privs_1 : List (MethodName × Nat) := [(⟨"MaskedCopies", "tableAt", "(I)LMaskedCopies$Table;"⟩, 13), (⟨"MaskedCopies", "waitingCellsFit", "(LMaskedCopies$Table;)Z"⟩, 13), (⟨"MaskedCopies", "rowsWith", "(LMaskedCopies$Copy;III)I"⟩, 13), (⟨"MaskedCopies", "rowsOf", "(I)I"⟩, 13), (⟨"MaskedCopies", "columnAt", "(II)LMaskedCopies$Column;"⟩, 13), (⟨"MaskedCopies", "nextRule", "()LMaskedCopies$Rule;"⟩, 13), (⟨"MaskedCopies", "addRule", "()I"⟩, 13), (⟨"MaskedCopies", "copyOf", "(I)LMaskedCopies$Copy;"⟩, 13), (⟨"MaskedCopies", "firstBroken", "(LMaskedCopies$Copy;)I"⟩, 13), (⟨"MaskedCopies", "ruleHolds", "(LMaskedCopies$Rule;LMaskedCopies$Copy;)Z"⟩, 13), (⟨"MaskedCopies", "holdsInRow", "(LMaskedCopies$Rule;LMaskedCopies$Copy;I)Z"⟩, 13), (⟨"MaskedCopies", "partsOf", "(LMaskedCopies$Rule;LMaskedCopies$Copy;I)I"⟩, 13), (⟨"MaskedCopies", "draftMasked", "(I)V"⟩, 13), (⟨"MaskedCopies", "ownerOf", "(II)I"⟩, 13), (⟨"MaskedCopies", "shiftOf", "(I)I"⟩, 13), (⟨"MaskedCopies", "narrowRoom", "(II)V"⟩, 13)]
theorem lw_r1 : ∀ q ∈ lw_privs_1, lw_okq q := List.forall_mem_cons.mpr ⟨lw_p0, List.forall_mem_cons.mpr ⟨lw_p1, List.forall_mem_cons.mpr ⟨lw_p2, List.forall_mem_cons.mpr ⟨lw_p3, List.forall_mem_cons.mpr ⟨lw_p4, List.forall_mem_cons.mpr ⟨lw_p5, List.forall_mem_cons.mpr ⟨lw_p6, List.forall_mem_cons.mpr ⟨lw_p7, List.forall_mem_cons.mpr ⟨lw_p8, List.forall_mem_cons.mpr ⟨lw_p9, List.forall_mem_cons.mpr ⟨lw_p10, List.forall_mem_cons.mpr ⟨lw_p11, List.forall_mem_cons.mpr ⟨lw_p12, List.forall_mem_cons.mpr ⟨lw_p13, List.forall_mem_cons.mpr ⟨lw_p14, List.forall_mem_cons.mpr ⟨lw_p15, fun _ h => absurd h List.not_mem_nil⟩⟩⟩⟩⟩⟩⟩⟩⟩⟩⟩⟩⟩⟩⟩⟩
theorem lw_p16 : lw_okq (⟨"MaskedCopies", "narrowRoomByRow", "(LMaskedCopies$Table;II)V"⟩, 13) := ⟨⟨by decide +kernel, by decide +kernel⟩, List.mem_of_getElem? (i := 12) (by decide +kernel), List.mem_of_getElem? (i := 406) (by decide +kernel), List.mem_of_getElem? (i := 407) (by decide +kernel)⟩
theorem lw_p17 : lw_okq (⟨"MaskedCopies", "maskedCell", "(IIII)I"⟩, 13) := ⟨⟨by decide +kernel, by decide +kernel⟩, List.mem_of_getElem? (i := 12) (by decide +kernel), List.mem_of_getElem? (i := 422) (by decide +kernel), List.mem_of_getElem? (i := 423) (by decide +kernel)⟩
theorem lw_p18 : lw_okq (⟨"MaskedCopies", "dealtCell", "(IIII)I"⟩, 13) := ⟨⟨by decide +kernel, by decide +kernel⟩, List.mem_of_getElem? (i := 12) (by decide +kernel), List.mem_of_getElem? (i := 426) (by decide +kernel), List.mem_of_getElem? (i := 427) (by decide +kernel)⟩
theorem lw_p19 : lw_okq (⟨"MaskedCopies", "turnedRef", "(II)I"⟩, 13) := ⟨⟨by decide +kernel, by decide +kernel⟩, List.mem_of_getElem? (i := 12) (by decide +kernel), List.mem_of_getElem? (i := 430) (by decide +kernel), List.mem_of_getElem? (i := 431) (by decide +kernel)⟩
theorem lw_p20 : lw_okq (⟨"MaskedCopies", "mendDraft", "()V"⟩, 13) := ⟨⟨by decide +kernel, by decide +kernel⟩, List.mem_of_getElem? (i := 12) (by decide +kernel), List.mem_of_getElem? (i := 453) (by decide +kernel), List.mem_of_getElem? (i := 454) (by decide +kernel)⟩
theorem lw_p21 : lw_okq (⟨"MaskedCopies", "mendColumn", "(LMaskedCopies$Rule;)V"⟩, 13) := ⟨⟨by decide +kernel, by decide +kernel⟩, List.mem_of_getElem? (i := 12) (by decide +kernel), List.mem_of_getElem? (i := 457) (by decide +kernel), List.mem_of_getElem? (i := 458) (by decide +kernel)⟩
theorem lw_p22 : lw_okq (⟨"MaskedCopies", "isRow", "(II)Z"⟩, 13) := ⟨⟨by decide +kernel, by decide +kernel⟩, List.mem_of_getElem? (i := 12) (by decide +kernel), List.mem_of_getElem? (i := 465) (by decide +kernel), List.mem_of_getElem? (i := 466) (by decide +kernel)⟩
theorem lw_p23 : lw_okq (⟨"MaskedCopies", "areColumns", "(II)Z"⟩, 13) := ⟨⟨by decide +kernel, by decide +kernel⟩, List.mem_of_getElem? (i := 12) (by decide +kernel), List.mem_of_getElem? (i := 496) (by decide +kernel), List.mem_of_getElem? (i := 497) (by decide +kernel)⟩
theorem lw_p24 : lw_okq (⟨"MaskedCopies", "columnsOf", "(I)I"⟩, 13) := ⟨⟨by decide +kernel, by decide +kernel⟩, List.mem_of_getElem? (i := 12) (by decide +kernel), List.mem_of_getElem? (i := 500) (by decide +kernel), List.mem_of_getElem? (i := 501) (by decide +kernel)⟩
theorem lw_p25 : lw_okq (⟨"MaskedCopies", "couldSet", "(III)I"⟩, 13) := ⟨⟨by decide +kernel, by decide +kernel⟩, List.mem_of_getElem? (i := 12) (by decide +kernel), List.mem_of_getElem? (i := 504) (by decide +kernel), List.mem_of_getElem? (i := 505) (by decide +kernel)⟩
theorem lw_p26 : lw_okq (⟨"MaskedCopies", "looksSame", "(IIII)Z"⟩, 13) := ⟨⟨by decide +kernel, by decide +kernel⟩, List.mem_of_getElem? (i := 12) (by decide +kernel), List.mem_of_getElem? (i := 508) (by decide +kernel), List.mem_of_getElem? (i := 509) (by decide +kernel)⟩
theorem lw_p27 : lw_okq (⟨"MaskedCopies", "isPlain", "(II)Z"⟩, 13) := ⟨⟨by decide +kernel, by decide +kernel⟩, List.mem_of_getElem? (i := 12) (by decide +kernel), List.mem_of_getElem? (i := 515) (by decide +kernel), List.mem_of_getElem? (i := 516) (by decide +kernel)⟩
theorem lw_p28 : lw_okq (⟨"MaskedCopies", "movesSame", "(IIII)Z"⟩, 13) := ⟨⟨by decide +kernel, by decide +kernel⟩, List.mem_of_getElem? (i := 12) (by decide +kernel), List.mem_of_getElem? (i := 519) (by decide +kernel), List.mem_of_getElem? (i := 520) (by decide +kernel)⟩
theorem lw_p29 : lw_okq (⟨"MaskedCopies", "lossBy", "(III)I"⟩, 13) := ⟨⟨by decide +kernel, by decide +kernel⟩, List.mem_of_getElem? (i := 12) (by decide +kernel), List.mem_of_getElem? (i := 542) (by decide +kernel), List.mem_of_getElem? (i := 543) (by decide +kernel)⟩
theorem lw_p30 : lw_okq (⟨"MaskedCopies", "prepareSearch", "(II)V"⟩, 13) := ⟨⟨by decide +kernel, by decide +kernel⟩, List.mem_of_getElem? (i := 12) (by decide +kernel), List.mem_of_getElem? (i := 550) (by decide +kernel), List.mem_of_getElem? (i := 551) (by decide +kernel)⟩
theorem lw_p31 : lw_okq (⟨"MaskedCopies", "offerWidths", "(IIZ)V"⟩, 13) := ⟨⟨by decide +kernel, by decide +kernel⟩, List.mem_of_getElem? (i := 12) (by decide +kernel), List.mem_of_getElem? (i := 559) (by decide +kernel), List.mem_of_getElem? (i := 560) (by decide +kernel)⟩
def lw_privs_2 : List (MethodName × Nat) := [(⟨"MaskedCopies", "narrowRoomByRow", "(LMaskedCopies$Table;II)V"⟩, 13), (⟨"MaskedCopies", "maskedCell", "(IIII)I"⟩, 13), (⟨"MaskedCopies", "dealtCell", "(IIII)I"⟩, 13), (⟨"MaskedCopies", "turnedRef", "(II)I"⟩, 13), (⟨"MaskedCopies", "mendDraft", "()V"⟩, 13), (⟨"MaskedCopies", "mendColumn", "(LMaskedCopies$Rule;)V"⟩, 13), (⟨"MaskedCopies", "isRow", "(II)Z"⟩, 13), (⟨"MaskedCopies", "areColumns", "(II)Z"⟩, 13), (⟨"MaskedCopies", "columnsOf", "(I)I"⟩, 13), (⟨"MaskedCopies", "couldSet", "(III)I"⟩, 13), (⟨"MaskedCopies", "looksSame", "(IIII)Z"⟩, 13), (⟨"MaskedCopies", "isPlain", "(II)Z"⟩, 13), (⟨"MaskedCopies", "movesSame", "(IIII)Z"⟩, 13), (⟨"MaskedCopies", "lossBy", "(III)I"⟩, 13), (⟨"MaskedCopies", "prepareSearch", "(II)V"⟩, 13), (⟨"MaskedCopies", "offerWidths", "(IIZ)V"⟩, 13)]
theorem lw_r2 : ∀ q ∈ lw_privs_2, lw_okq q := List.forall_mem_cons.mpr ⟨lw_p16, List.forall_mem_cons.mpr ⟨lw_p17, List.forall_mem_cons.mpr ⟨lw_p18, List.forall_mem_cons.mpr ⟨lw_p19, List.forall_mem_cons.mpr ⟨lw_p20, List.forall_mem_cons.mpr ⟨lw_p21, List.forall_mem_cons.mpr ⟨lw_p22, List.forall_mem_cons.mpr ⟨lw_p23, List.forall_mem_cons.mpr ⟨lw_p24, List.forall_mem_cons.mpr ⟨lw_p25, List.forall_mem_cons.mpr ⟨lw_p26, List.forall_mem_cons.mpr ⟨lw_p27, List.forall_mem_cons.mpr ⟨lw_p28, List.forall_mem_cons.mpr ⟨lw_p29, List.forall_mem_cons.mpr ⟨lw_p30, List.forall_mem_cons.mpr ⟨lw_p31, fun _ h => absurd h List.not_mem_nil⟩⟩⟩⟩⟩⟩⟩⟩⟩⟩⟩⟩⟩⟩⟩⟩
theorem lw_p32 : lw_okq (⟨"MaskedCopies$WidthSearch", "isChoice", "(II)Z"⟩, 6) := ⟨⟨by decide +kernel, by decide +kernel⟩, List.mem_of_getElem? (i := 48) (by decide +kernel), List.mem_of_getElem? (i := 576) (by decide +kernel), List.mem_of_getElem? (i := 577) (by decide +kernel)⟩
theorem lw_p33 : lw_okq (⟨"MaskedCopies", "sameBy", "(IIII)I"⟩, 13) := ⟨⟨by decide +kernel, by decide +kernel⟩, List.mem_of_getElem? (i := 12) (by decide +kernel), List.mem_of_getElem? (i := 580) (by decide +kernel), List.mem_of_getElem? (i := 581) (by decide +kernel)⟩
theorem lw_p34 : lw_okq (⟨"MaskedCopies$WidthSearch", "isSafe", "(II)Z"⟩, 6) := ⟨⟨by decide +kernel, by decide +kernel⟩, List.mem_of_getElem? (i := 48) (by decide +kernel), List.mem_of_getElem? (i := 607) (by decide +kernel), List.mem_of_getElem? (i := 608) (by decide +kernel)⟩
theorem lw_p35 : lw_okq (⟨"MaskedCopiesModel", "begin", "(III)V"⟩, 31) := ⟨⟨by decide +kernel, by decide +kernel⟩, List.mem_of_getElem? (i := 626) (by decide +kernel), List.mem_of_getElem? (i := 730) (by decide +kernel), List.mem_of_getElem? (i := 731) (by decide +kernel)⟩
theorem lw_p36 : lw_okq (⟨"MaskedCopiesModel", "isTable", "(I)Z"⟩, 31) := ⟨⟨by decide +kernel, by decide +kernel⟩, List.mem_of_getElem? (i := 626) (by decide +kernel), List.mem_of_getElem? (i := 738) (by decide +kernel), List.mem_of_getElem? (i := 739) (by decide +kernel)⟩
theorem lw_p37 : lw_okq (⟨"MaskedCopiesModel", "isColumn", "(II)Z"⟩, 31) := ⟨⟨by decide +kernel, by decide +kernel⟩, List.mem_of_getElem? (i := 626) (by decide +kernel), List.mem_of_getElem? (i := 775) (by decide +kernel), List.mem_of_getElem? (i := 776) (by decide +kernel)⟩
theorem lw_p38 : lw_okq (⟨"MaskedCopiesModel", "rule", "(IIII)I"⟩, 31) := ⟨⟨by decide +kernel, by decide +kernel⟩, List.mem_of_getElem? (i := 626) (by decide +kernel), List.mem_of_getElem? (i := 798) (by decide +kernel), List.mem_of_getElem? (i := 799) (by decide +kernel)⟩
theorem lw_p39 : lw_okq (⟨"MaskedCopiesModel", "see", "(I)V"⟩, 31) := ⟨⟨by decide +kernel, by decide +kernel⟩, List.mem_of_getElem? (i := 626) (by decide +kernel), List.mem_of_getElem? (i := 818) (by decide +kernel), List.mem_of_getElem? (i := 819) (by decide +kernel)⟩
theorem lw_p40 : lw_okq (⟨"MaskedCopiesModel", "firstBroken", "()I"⟩, 31) := ⟨⟨by decide +kernel, by decide +kernel⟩, List.mem_of_getElem? (i := 626) (by decide +kernel), List.mem_of_getElem? (i := 822) (by decide +kernel), List.mem_of_getElem? (i := 823) (by decide +kernel)⟩
theorem lw_p41 : lw_okq (⟨"MaskedCopiesModel", "holdsFor", "(II)Z"⟩, 31) := ⟨⟨by decide +kernel, by decide +kernel⟩, List.mem_of_getElem? (i := 626) (by decide +kernel), List.mem_of_getElem? (i := 826) (by decide +kernel), List.mem_of_getElem? (i := 827) (by decide +kernel)⟩
theorem lw_p42 : lw_okq (⟨"MaskedCopiesModel", "sumFor", "(II)I"⟩, 31) := ⟨⟨by decide +kernel, by decide +kernel⟩, List.mem_of_getElem? (i := 626) (by decide +kernel), List.mem_of_getElem? (i := 830) (by decide +kernel), List.mem_of_getElem? (i := 831) (by decide +kernel)⟩
theorem lw_p43 : lw_okq (⟨"MaskedCopiesModel", "isKeyOf", "(II)Z"⟩, 31) := ⟨⟨by decide +kernel, by decide +kernel⟩, List.mem_of_getElem? (i := 626) (by decide +kernel), List.mem_of_getElem? (i := 834) (by decide +kernel), List.mem_of_getElem? (i := 835) (by decide +kernel)⟩
theorem lw_p44 : lw_okq (⟨"MaskedCopiesModel", "maskTable", "(I)V"⟩, 31) := ⟨⟨by decide +kernel, by decide +kernel⟩, List.mem_of_getElem? (i := 626) (by decide +kernel), List.mem_of_getElem? (i := 842) (by decide +kernel), List.mem_of_getElem? (i := 843) (by decide +kernel)⟩
theorem lw_p45 : lw_okq (⟨"MaskedCopiesModel", "maskedCell", "(III)I"⟩, 31) := ⟨⟨by decide +kernel, by decide +kernel⟩, List.mem_of_getElem? (i := 626) (by decide +kernel), List.mem_of_getElem? (i := 846) (by decide +kernel), List.mem_of_getElem? (i := 847) (by decide +kernel)⟩
theorem lw_p46 : lw_okq (⟨"MaskedCopiesModel", "turnedKey", "(II)I"⟩, 31) := ⟨⟨by decide +kernel, by decide +kernel⟩, List.mem_of_getElem? (i := 626) (by decide +kernel), List.mem_of_getElem? (i := 850) (by decide +kernel), List.mem_of_getElem? (i := 851) (by decide +kernel)⟩
theorem lw_p47 : lw_okq (⟨"MaskedCopiesModel", "turnedName", "(II)I"⟩, 31) := ⟨⟨by decide +kernel, by decide +kernel⟩, List.mem_of_getElem? (i := 626) (by decide +kernel), List.mem_of_getElem? (i := 854) (by decide +kernel), List.mem_of_getElem? (i := 855) (by decide +kernel)⟩
def lw_privs_3 : List (MethodName × Nat) := [(⟨"MaskedCopies$WidthSearch", "isChoice", "(II)Z"⟩, 6), (⟨"MaskedCopies", "sameBy", "(IIII)I"⟩, 13), (⟨"MaskedCopies$WidthSearch", "isSafe", "(II)Z"⟩, 6), (⟨"MaskedCopiesModel", "begin", "(III)V"⟩, 31), (⟨"MaskedCopiesModel", "isTable", "(I)Z"⟩, 31), (⟨"MaskedCopiesModel", "isColumn", "(II)Z"⟩, 31), (⟨"MaskedCopiesModel", "rule", "(IIII)I"⟩, 31), (⟨"MaskedCopiesModel", "see", "(I)V"⟩, 31), (⟨"MaskedCopiesModel", "firstBroken", "()I"⟩, 31), (⟨"MaskedCopiesModel", "holdsFor", "(II)Z"⟩, 31), (⟨"MaskedCopiesModel", "sumFor", "(II)I"⟩, 31), (⟨"MaskedCopiesModel", "isKeyOf", "(II)Z"⟩, 31), (⟨"MaskedCopiesModel", "maskTable", "(I)V"⟩, 31), (⟨"MaskedCopiesModel", "maskedCell", "(III)I"⟩, 31), (⟨"MaskedCopiesModel", "turnedKey", "(II)I"⟩, 31), (⟨"MaskedCopiesModel", "turnedName", "(II)I"⟩, 31)]
theorem lw_r3 : ∀ q ∈ lw_privs_3, lw_okq q := List.forall_mem_cons.mpr ⟨lw_p32, List.forall_mem_cons.mpr ⟨lw_p33, List.forall_mem_cons.mpr ⟨lw_p34, List.forall_mem_cons.mpr ⟨lw_p35, List.forall_mem_cons.mpr ⟨lw_p36, List.forall_mem_cons.mpr ⟨lw_p37, List.forall_mem_cons.mpr ⟨lw_p38, List.forall_mem_cons.mpr ⟨lw_p39, List.forall_mem_cons.mpr ⟨lw_p40, List.forall_mem_cons.mpr ⟨lw_p41, List.forall_mem_cons.mpr ⟨lw_p42, List.forall_mem_cons.mpr ⟨lw_p43, List.forall_mem_cons.mpr ⟨lw_p44, List.forall_mem_cons.mpr ⟨lw_p45, List.forall_mem_cons.mpr ⟨lw_p46, List.forall_mem_cons.mpr ⟨lw_p47, fun _ h => absurd h List.not_mem_nil⟩⟩⟩⟩⟩⟩⟩⟩⟩⟩⟩⟩⟩⟩⟩⟩
theorem lw_p48 : lw_okq (⟨"MaskedCopiesModel", "ownerOf", "(II)I"⟩, 31) := ⟨⟨by decide +kernel, by decide +kernel⟩, List.mem_of_getElem? (i := 626) (by decide +kernel), List.mem_of_getElem? (i := 858) (by decide +kernel), List.mem_of_getElem? (i := 859) (by decide +kernel)⟩
theorem lw_p49 : lw_okq (⟨"MaskedCopiesModel", "shiftOf", "(I)I"⟩, 31) := ⟨⟨by decide +kernel, by decide +kernel⟩, List.mem_of_getElem? (i := 626) (by decide +kernel), List.mem_of_getElem? (i := 862) (by decide +kernel), List.mem_of_getElem? (i := 863) (by decide +kernel)⟩
theorem lw_p50 : lw_okq (⟨"MaskedCopiesModel", "stays", "(II)Z"⟩, 31) := ⟨⟨by decide +kernel, by decide +kernel⟩, List.mem_of_getElem? (i := 626) (by decide +kernel), List.mem_of_getElem? (i := 866) (by decide +kernel), List.mem_of_getElem? (i := 867) (by decide +kernel)⟩
theorem lw_p51 : lw_okq (⟨"MaskedCopiesModel", "isRow", "(II)Z"⟩, 31) := ⟨⟨by decide +kernel, by decide +kernel⟩, List.mem_of_getElem? (i := 626) (by decide +kernel), List.mem_of_getElem? (i := 877) (by decide +kernel), List.mem_of_getElem? (i := 878) (by decide +kernel)⟩
theorem lw_p52 : lw_okq (⟨"MaskedCopiesModel", "isKnown", "(II)Z"⟩, 31) := ⟨⟨by decide +kernel, by decide +kernel⟩, List.mem_of_getElem? (i := 626) (by decide +kernel), List.mem_of_getElem? (i := 905) (by decide +kernel), List.mem_of_getElem? (i := 906) (by decide +kernel)⟩
theorem lw_p53 : lw_okq (⟨"MaskedCopiesModel", "couldOf", "(III)I"⟩, 31) := ⟨⟨by decide +kernel, by decide +kernel⟩, List.mem_of_getElem? (i := 626) (by decide +kernel), List.mem_of_getElem? (i := 909) (by decide +kernel), List.mem_of_getElem? (i := 910) (by decide +kernel)⟩
theorem lw_p54 : lw_okq (⟨"MaskedCopiesModel", "couldBe", "(IIII)Z"⟩, 31) := ⟨⟨by decide +kernel, by decide +kernel⟩, List.mem_of_getElem? (i := 626) (by decide +kernel), List.mem_of_getElem? (i := 913) (by decide +kernel), List.mem_of_getElem? (i := 914) (by decide +kernel)⟩
theorem lw_p55 : lw_okq (⟨"MaskedCopiesModel", "isPlain", "(II)Z"⟩, 31) := ⟨⟨by decide +kernel, by decide +kernel⟩, List.mem_of_getElem? (i := 626) (by decide +kernel), List.mem_of_getElem? (i := 917) (by decide +kernel), List.mem_of_getElem? (i := 918) (by decide +kernel)⟩
theorem lw_p56 : lw_okq (⟨"MaskedCopiesModel", "alikeOf", "(II)I"⟩, 31) := ⟨⟨by decide +kernel, by decide +kernel⟩, List.mem_of_getElem? (i := 626) (by decide +kernel), List.mem_of_getElem? (i := 925) (by decide +kernel), List.mem_of_getElem? (i := 926) (by decide +kernel)⟩
theorem lw_p57 : lw_okq (⟨"MaskedCopiesModel", "lossOf", "(II)I"⟩, 31) := ⟨⟨by decide +kernel, by decide +kernel⟩, List.mem_of_getElem? (i := 626) (by decide +kernel), List.mem_of_getElem? (i := 937) (by decide +kernel), List.mem_of_getElem? (i := 938) (by decide +kernel)⟩
theorem lw_p58 : lw_okq (⟨"MaskedCopiesModel", "gives", "(III)I"⟩, 31) := ⟨⟨by decide +kernel, by decide +kernel⟩, List.mem_of_getElem? (i := 626) (by decide +kernel), List.mem_of_getElem? (i := 945) (by decide +kernel), List.mem_of_getElem? (i := 946) (by decide +kernel)⟩
def lw_privs_4 : List (MethodName × Nat) := [(⟨"MaskedCopiesModel", "ownerOf", "(II)I"⟩, 31), (⟨"MaskedCopiesModel", "shiftOf", "(I)I"⟩, 31), (⟨"MaskedCopiesModel", "stays", "(II)Z"⟩, 31), (⟨"MaskedCopiesModel", "isRow", "(II)Z"⟩, 31), (⟨"MaskedCopiesModel", "isKnown", "(II)Z"⟩, 31), (⟨"MaskedCopiesModel", "couldOf", "(III)I"⟩, 31), (⟨"MaskedCopiesModel", "couldBe", "(IIII)Z"⟩, 31), (⟨"MaskedCopiesModel", "isPlain", "(II)Z"⟩, 31), (⟨"MaskedCopiesModel", "alikeOf", "(II)I"⟩, 31), (⟨"MaskedCopiesModel", "lossOf", "(II)I"⟩, 31), (⟨"MaskedCopiesModel", "gives", "(III)I"⟩, 31)]
theorem lw_r4 : ∀ q ∈ lw_privs_4, lw_okq q := List.forall_mem_cons.mpr ⟨lw_p48, List.forall_mem_cons.mpr ⟨lw_p49, List.forall_mem_cons.mpr ⟨lw_p50, List.forall_mem_cons.mpr ⟨lw_p51, List.forall_mem_cons.mpr ⟨lw_p52, List.forall_mem_cons.mpr ⟨lw_p53, List.forall_mem_cons.mpr ⟨lw_p54, List.forall_mem_cons.mpr ⟨lw_p55, List.forall_mem_cons.mpr ⟨lw_p56, List.forall_mem_cons.mpr ⟨lw_p57, List.forall_mem_cons.mpr ⟨lw_p58, fun _ h => absurd h List.not_mem_nil⟩⟩⟩⟩⟩⟩⟩⟩⟩⟩⟩
def lw_privs : List (MethodName × Nat) := lw_privs_1 ++ (lw_privs_2 ++ (lw_privs_3 ++ (lw_privs_4)))
def lw_tbl : List Cond := k2_sels lw_privs ++ tables_1
theorem lw_privs_ok : ∀ q ∈ lw_privs, lw_okq q := by
  show ∀ q ∈ lw_privs_1 ++ (lw_privs_2 ++ (lw_privs_3 ++ (lw_privs_4))), lw_okq q
  exact List.forall_mem_append.mpr ⟨lw_r1, List.forall_mem_append.mpr ⟨lw_r2, List.forall_mem_append.mpr ⟨lw_r3, lw_r4⟩⟩⟩
end
section
def RX0 : String := "MaskedCopies$Column"
def TX0 : u_T := fun k => match k with
  | 0 => ("MaskedCopies$Column", "kind", "I", false)
  | 1 => ("MaskedCopies$Column", "to", "I", false)
  | 2 => ("MaskedCopies$Column", "how", "I", false)
  | 3 => ("MaskedCopies$Column", "number", "I", false)
  | 4 => ("MaskedCopies$Column", "factor", "I", false)
  | _ => ("MaskedCopies$Column", "addend", "I", false)
def tyX0 : Nat → FieldType := fun k => match k with
  | 0 => .int
  | 1 => .int
  | 2 => .int
  | 3 => .int
  | 4 => .int
  | _ => .int
abbrev wsX00 : List Cond := u_ws RX0 TX0 6
theorem nmX0 : ∀ a, a < 6 → ∀ b, b < 6 → a ≠ b → (TX0 a).2.1 ≠ (TX0 b).2.1 := by decide +kernel
theorem tyX0_ok : ∀ k, k < 6 → parseFieldDescriptor (TX0 k).2.2.1 = some (tyX0 k) := by decide +kernel
abbrev cX0_init : ByteArray := prog_2_method_1_code
def yX0_init : MethodName := ⟨RX0, "<init>", "()V"⟩
abbrev cX0_turnName : ByteArray := prog_2_method_2_code
def yX0_turnName : MethodName := ⟨RX0, "turnName", "(I)I"⟩
def RX1 : String := "MaskedCopies$Copy"
def TX1 : u_T := fun k => match k with
  | _ => ("MaskedCopies$Copy", "cells", "[I", true)
def tyX1 : Nat → FieldType := fun k => match k with
  | _ => .array .int
abbrev wsX10 : List Cond := u_ws RX1 TX1 1
theorem nmX1 : ∀ a, a < 1 → ∀ b, b < 1 → a ≠ b → (TX1 a).2.1 ≠ (TX1 b).2.1 := by decide +kernel
theorem tyX1_ok : ∀ k, k < 1 → parseFieldDescriptor (TX1 k).2.2.1 = some (tyX1 k) := by decide +kernel
abbrev cX1_init : ByteArray := prog_3_method_1_code
def yX1_init : MethodName := ⟨RX1, "<init>", "()V"⟩
abbrev cX1_placeOf : ByteArray := prog_3_method_2_code
def yX1_placeOf : MethodName := ⟨RX1, "placeOf", "(III)I"⟩
abbrev cX1_read : ByteArray := prog_3_method_3_code
def yX1_read : MethodName := ⟨RX1, "read", "(III)I"⟩
abbrev cX1_write : ByteArray := prog_3_method_4_code
def yX1_write : MethodName := ⟨RX1, "write", "(IIII)V"⟩
def RX2 : String := "MaskedCopies$DayRoom"
def TX2 : u_T := fun k => match k with
  | 0 => ("MaskedCopies$DayRoom", "down", "I", false)
  | _ => ("MaskedCopies$DayRoom", "up", "I", false)
def tyX2 : Nat → FieldType := fun k => match k with
  | 0 => .int
  | _ => .int
abbrev wsX20 : List Cond := u_ws RX2 TX2 2
theorem nmX2 : ∀ a, a < 2 → ∀ b, b < 2 → a ≠ b → (TX2 a).2.1 ≠ (TX2 b).2.1 := by decide +kernel
theorem tyX2_ok : ∀ k, k < 2 → parseFieldDescriptor (TX2 k).2.2.1 = some (tyX2 k) := by decide +kernel
abbrev cX2_init : ByteArray := prog_4_method_1_code
def yX2_init : MethodName := ⟨RX2, "<init>", "()V"⟩
abbrev cX2_open : ByteArray := prog_4_method_2_code
def yX2_open : MethodName := ⟨RX2, "open", "()V"⟩
abbrev cX2_narrow : ByteArray := prog_4_method_3_code
def yX2_narrow : MethodName := ⟨RX2, "narrow", "(I)V"⟩
abbrev cX2_lets : ByteArray := prog_4_method_4_code
def yX2_lets : MethodName := ⟨RX2, "lets", "(I)Z"⟩
def RX3 : String := "MaskedCopies$Rule"
def TX3 : u_T := fun k => match k with
  | 0 => ("MaskedCopies$Rule", "kind", "I", false)
  | 1 => ("MaskedCopies$Rule", "table", "I", false)
  | 2 => ("MaskedCopies$Rule", "column", "I", false)
  | 3 => ("MaskedCopies$Rule", "second", "I", false)
  | 4 => ("MaskedCopies$Rule", "partTable", "I", false)
  | 5 => ("MaskedCopies$Rule", "ref", "I", false)
  | _ => ("MaskedCopies$Rule", "mended", "Z", false)
def tyX3 : Nat → FieldType := fun k => match k with
  | 0 => .int
  | 1 => .int
  | 2 => .int
  | 3 => .int
  | 4 => .int
  | 5 => .int
  | _ => .boolean
abbrev wsX30 : List Cond := u_ws RX3 TX3 7
theorem nmX3 : ∀ a, a < 7 → ∀ b, b < 7 → a ≠ b → (TX3 a).2.1 ≠ (TX3 b).2.1 := by decide +kernel
theorem tyX3_ok : ∀ k, k < 7 → parseFieldDescriptor (TX3 k).2.2.1 = some (tyX3 k) := by decide +kernel
abbrev cX3_init : ByteArray := prog_5_method_1_code
def yX3_init : MethodName := ⟨RX3, "<init>", "()V"⟩
abbrev cX3_setOrder : ByteArray := prog_5_method_2_code
def yX3_setOrder : MethodName := ⟨RX3, "setOrder", "(III)V"⟩
abbrev cX3_setAgree : ByteArray := prog_5_method_3_code
def yX3_setAgree : MethodName := ⟨RX3, "setAgree", "(IIIIIZ)V"⟩
abbrev cX3_setFound : ByteArray := prog_5_method_4_code
def yX3_setFound : MethodName := ⟨RX3, "setFound", "(II)V"⟩
def RX4 : String := "MaskedCopies$Table"
def TX4 : u_T := fun k => match k with
  | 0 => ("MaskedCopies$Table", "columns", "[LMaskedCopies$Column;", true)
  | 1 => ("MaskedCopies$Table", "factors", "[I", true)
  | 2 => ("MaskedCopies$Table", "addends", "[I", true)
  | 3 => ("MaskedCopies$Table", "columnCount", "I", false)
  | 4 => ("MaskedCopies$Table", "rowCount", "I", false)
  | _ => ("MaskedCopies$Table", "ownerColumn", "I", false)
def tyX4 : Nat → FieldType := fun k => match k with
  | 0 => .array (.object "MaskedCopies$Column")
  | 1 => .array .int
  | 2 => .array .int
  | 3 => .int
  | 4 => .int
  | _ => .int
abbrev wsX40 : List Cond := u_ws RX4 TX4 6
theorem nmX4 : ∀ a, a < 6 → ∀ b, b < 6 → a ≠ b → (TX4 a).2.1 ≠ (TX4 b).2.1 := by decide +kernel
theorem tyX4_ok : ∀ k, k < 6 → parseFieldDescriptor (TX4 k).2.2.1 = some (tyX4 k) := by decide +kernel
abbrev cX4_init : ByteArray := prog_6_method_1_code
def yX4_init : MethodName := ⟨RX4, "<init>", "()V"⟩
abbrev cX4_columnNumbered : ByteArray := prog_6_method_2_code
def yX4_columnNumbered : MethodName := ⟨RX4, "columnNumbered", "(I)LMaskedCopies$Column;"⟩
abbrev cX4_addColumn : ByteArray := prog_6_method_3_code
def yX4_addColumn : MethodName := ⟨RX4, "addColumn", "(II)I"⟩
abbrev cX4_isShifted : ByteArray := prog_6_method_4_code
def yX4_isShifted : MethodName := ⟨RX4, "isShifted", "(I)Z"⟩
abbrev cX4_hasShift : ByteArray := prog_6_method_5_code
def yX4_hasShift : MethodName := ⟨RX4, "hasShift", "()Z"⟩
abbrev cX4_turnsKeys : ByteArray := prog_6_method_6_code
def yX4_turnsKeys : MethodName := ⟨RX4, "turnsKeys", "()Z"⟩
abbrev cX4_setDigit : ByteArray := prog_6_method_7_code
def yX4_setDigit : MethodName := ⟨RX4, "setDigit", "(III)V"⟩
abbrev cX4_turnKey : ByteArray := prog_6_method_8_code
def yX4_turnKey : MethodName := ⟨RX4, "turnKey", "(I)I"⟩
def RX5 : String := "MaskedCopies$WidthSearch"
def TX5 : u_T := fun k => match k with
  | 0 => ("MaskedCopies$WidthSearch", "numbers", "[I", true)
  | 1 => ("MaskedCopies$WidthSearch", "losses", "[I", true)
  | 2 => ("MaskedCopies$WidthSearch", "same", "[I", true)
  | 3 => ("MaskedCopies$WidthSearch", "others", "[I", true)
  | 4 => ("MaskedCopies$WidthSearch", "columnCount", "I", false)
  | _ => ("MaskedCopies$WidthSearch", "rowCount", "I", false)
def tyX5 : Nat → FieldType := fun k => match k with
  | 0 => .array .int
  | 1 => .array .int
  | 2 => .array .int
  | 3 => .array .int
  | 4 => .int
  | _ => .int
abbrev wsX50 : List Cond := u_ws RX5 TX5 6
theorem nmX5 : ∀ a, a < 6 → ∀ b, b < 6 → a ≠ b → (TX5 a).2.1 ≠ (TX5 b).2.1 := by decide +kernel
theorem tyX5_ok : ∀ k, k < 6 → parseFieldDescriptor (TX5 k).2.2.1 = some (tyX5 k) := by decide +kernel
abbrev cX5_init : ByteArray := prog_7_method_1_code
def yX5_init : MethodName := ⟨RX5, "<init>", "()V"⟩
abbrev cX5_widthAt : ByteArray := prog_7_method_2_code
def yX5_widthAt : MethodName := ⟨RX5, "widthAt", "(I)I"⟩
abbrev cX5_begin : ByteArray := prog_7_method_3_code
def yX5_begin : MethodName := ⟨RX5, "begin", "(I)V"⟩
abbrev cX5_addColumn : ByteArray := prog_7_method_4_code
def yX5_addColumn : MethodName := ⟨RX5, "addColumn", "(I)I"⟩
abbrev cX5_columnNumber : ByteArray := prog_7_method_5_code
def yX5_columnNumber : MethodName := ⟨RX5, "columnNumber", "(I)I"⟩
abbrev cX5_setLoss : ByteArray := prog_7_method_6_code
def yX5_setLoss : MethodName := ⟨RX5, "setLoss", "(III)V"⟩
abbrev cX5_setSame : ByteArray := prog_7_method_7_code
def yX5_setSame : MethodName := ⟨RX5, "setSame", "(IIII)V"⟩
abbrev cX5_setOthers : ByteArray := prog_7_method_8_code
def yX5_setOthers : MethodName := ⟨RX5, "setOthers", "(II)V"⟩
abbrev cX5_isChoice : ByteArray := prog_7_method_9_code
def yX5_isChoice : MethodName := ⟨RX5, "isChoice", "(II)Z"⟩
abbrev cX5_choiceOf : ByteArray := prog_7_method_10_code
def yX5_choiceOf : MethodName := ⟨RX5, "choiceOf", "(II)I"⟩
abbrev cX5_lossOf : ByteArray := prog_7_method_11_code
def yX5_lossOf : MethodName := ⟨RX5, "lossOf", "(I)I"⟩
abbrev cX5_isSafe : ByteArray := prog_7_method_12_code
def yX5_isSafe : MethodName := ⟨RX5, "isSafe", "(II)Z"⟩
abbrev cX5_leastWay : ByteArray := prog_7_method_13_code
def yX5_leastWay : MethodName := ⟨RX5, "leastWay", "(I)I"⟩
def RX6 : String := "MaskedCopies"
def TX6 : u_T := fun k => match k with
  | 0 => ("MaskedCopies", "tables", "[LMaskedCopies$Table;", true)
  | 1 => ("MaskedCopies", "rules", "[LMaskedCopies$Rule;", true)
  | 2 => ("MaskedCopies", "waiting", "[I", true)
  | 3 => ("MaskedCopies", "truth", "LMaskedCopies$Copy;", true)
  | 4 => ("MaskedCopies", "room", "LMaskedCopies$DayRoom;", true)
  | 5 => ("MaskedCopies", "search", "LMaskedCopies$WidthSearch;", true)
  | 6 => ("MaskedCopies", "made", "LMaskedCopies$Copy;", false)
  | 7 => ("MaskedCopies", "draft", "LMaskedCopies$Copy;", false)
  | 8 => ("MaskedCopies", "tableCount", "I", false)
  | 9 => ("MaskedCopies", "ruleCount", "I", false)
  | 10 => ("MaskedCopies", "waitingCount", "I", false)
  | 11 => ("MaskedCopies", "seedNow", "I", false)
  | _ => ("MaskedCopies", "hasMade", "Z", false)
def tyX6 : Nat → FieldType := fun k => match k with
  | 0 => .array (.object "MaskedCopies$Table")
  | 1 => .array (.object "MaskedCopies$Rule")
  | 2 => .array .int
  | 3 => .object "MaskedCopies$Copy"
  | 4 => .object "MaskedCopies$DayRoom"
  | 5 => .object "MaskedCopies$WidthSearch"
  | 6 => .object "MaskedCopies$Copy"
  | 7 => .object "MaskedCopies$Copy"
  | 8 => .int
  | 9 => .int
  | 10 => .int
  | 11 => .int
  | _ => .boolean
abbrev wsX60 : List Cond := u_ws RX6 TX6 13
theorem nmX6 : ∀ a, a < 13 → ∀ b, b < 13 → a ≠ b → (TX6 a).2.1 ≠ (TX6 b).2.1 := by decide +kernel
theorem tyX6_ok : ∀ k, k < 13 → parseFieldDescriptor (TX6 k).2.2.1 = some (tyX6 k) := by decide +kernel
abbrev cX6_init : ByteArray := prog_1_method_1_code
def yX6_init : MethodName := ⟨RX6, "<init>", "()V"⟩
abbrev cX6_table : ByteArray := prog_1_method_2_code
def yX6_table : MethodName := ⟨RX6, "table", "()I"⟩
abbrev cX6_column : ByteArray := prog_1_method_3_code
def yX6_column : MethodName := ⟨RX6, "column", "(III)I"⟩
abbrev cX6_cell : ByteArray := prog_1_method_4_code
def yX6_cell : MethodName := ⟨RX6, "cell", "(I)I"⟩
abbrev cX6_row : ByteArray := prog_1_method_5_code
def yX6_row : MethodName := ⟨RX6, "row", "(I)I"⟩
abbrev cX6_wipe : ByteArray := prog_1_method_6_code
def yX6_wipe : MethodName := ⟨RX6, "wipe", "()I"⟩
abbrev cX6_owner : ByteArray := prog_1_method_7_code
def yX6_owner : MethodName := ⟨RX6, "owner", "(II)I"⟩
abbrev cX6_mask : ByteArray := prog_1_method_8_code
def yX6_mask : MethodName := ⟨RX6, "mask", "(IIII)I"⟩
abbrev cX6_dial : ByteArray := prog_1_method_9_code
def yX6_dial : MethodName := ⟨RX6, "dial", "(IIIII)I"⟩
abbrev cX6_seed : ByteArray := prog_1_method_10_code
def yX6_seed : MethodName := ⟨RX6, "seed", "(I)I"⟩
abbrev cX6_order : ByteArray := prog_1_method_11_code
def yX6_order : MethodName := ⟨RX6, "order", "(III)I"⟩
abbrev cX6_agree : ByteArray := prog_1_method_12_code
def yX6_agree : MethodName := ⟨RX6, "agree", "(IIIIII)I"⟩
abbrev cX6_found : ByteArray := prog_1_method_13_code
def yX6_found : MethodName := ⟨RX6, "found", "(II)I"⟩
abbrev cX6_unrule : ByteArray := prog_1_method_14_code
def yX6_unrule : MethodName := ⟨RX6, "unrule", "()I"⟩
abbrev cX6_broken : ByteArray := prog_1_method_15_code
def yX6_broken : MethodName := ⟨RX6, "broken", "(I)I"⟩
abbrev cX6_make : ByteArray := prog_1_method_16_code
def yX6_make : MethodName := ⟨RX6, "make", "()I"⟩
abbrev cX6_at : ByteArray := prog_1_method_17_code
def yX6_at : MethodName := ⟨RX6, "at", "(IIII)I"⟩
abbrev cX6_turned : ByteArray := prog_1_method_18_code
def yX6_turned : MethodName := ⟨RX6, "turned", "(III)I"⟩
abbrev cX6_shift : ByteArray := prog_1_method_19_code
def yX6_shift : MethodName := ⟨RX6, "shift", "(I)I"⟩
abbrev cX6_count : ByteArray := prog_1_method_20_code
def yX6_count : MethodName := ⟨RX6, "count", "(IIII)I"⟩
abbrev cX6_joins : ByteArray := prog_1_method_21_code
def yX6_joins : MethodName := ⟨RX6, "joins", "(III)I"⟩
abbrev cX6_miss : ByteArray := prog_1_method_22_code
def yX6_miss : MethodName := ⟨RX6, "miss", "(II)I"⟩
abbrev cX6_could : ByteArray := prog_1_method_23_code
def yX6_could : MethodName := ⟨RX6, "could", "(III)I"⟩
abbrev cX6_alike : ByteArray := prog_1_method_24_code
def yX6_alike : MethodName := ⟨RX6, "alike", "(II)I"⟩
abbrev cX6_sure : ByteArray := prog_1_method_25_code
def yX6_sure : MethodName := ⟨RX6, "sure", "(IIII)I"⟩
abbrev cX6_loss : ByteArray := prog_1_method_26_code
def yX6_loss : MethodName := ⟨RX6, "loss", "(II)I"⟩
abbrev cX6_best : ByteArray := prog_1_method_27_code
def yX6_best : MethodName := ⟨RX6, "best", "(III)I"⟩
abbrev cX6_about : ByteArray := prog_1_method_28_code
def yX6_about : MethodName := ⟨RX6, "about", "(III)I"⟩
abbrev cX6_all : ByteArray := prog_1_method_29_code
def yX6_all : MethodName := ⟨RX6, "all", "(I)I"⟩
abbrev cX6_tableAt : ByteArray := prog_1_method_30_code
def yX6_tableAt : MethodName := ⟨RX6, "tableAt", "(I)LMaskedCopies$Table;"⟩
abbrev cX6_columnAt : ByteArray := prog_1_method_31_code
def yX6_columnAt : MethodName := ⟨RX6, "columnAt", "(II)LMaskedCopies$Column;"⟩
abbrev cX6_rowsOf : ByteArray := prog_1_method_32_code
def yX6_rowsOf : MethodName := ⟨RX6, "rowsOf", "(I)I"⟩
abbrev cX6_columnsOf : ByteArray := prog_1_method_33_code
def yX6_columnsOf : MethodName := ⟨RX6, "columnsOf", "(I)I"⟩
abbrev cX6_isRow : ByteArray := prog_1_method_34_code
def yX6_isRow : MethodName := ⟨RX6, "isRow", "(II)Z"⟩
abbrev cX6_copyOf : ByteArray := prog_1_method_35_code
def yX6_copyOf : MethodName := ⟨RX6, "copyOf", "(I)LMaskedCopies$Copy;"⟩
abbrev cX6_areColumns : ByteArray := prog_1_method_36_code
def yX6_areColumns : MethodName := ⟨RX6, "areColumns", "(II)Z"⟩
abbrev cX6_rowsWith : ByteArray := prog_1_method_37_code
def yX6_rowsWith : MethodName := ⟨RX6, "rowsWith", "(LMaskedCopies$Copy;III)I"⟩
abbrev cX6_isBit : ByteArray := prog_1_method_38_code
def yX6_isBit : MethodName := ⟨RX6, "isBit", "(I)Z"⟩
abbrev cX6_hasBit : ByteArray := prog_1_method_39_code
def yX6_hasBit : MethodName := ⟨RX6, "hasBit", "(II)Z"⟩
abbrev cX6_rightFigure : ByteArray := prog_1_method_40_code
def yX6_rightFigure : MethodName := ⟨RX6, "rightFigure", "(I)I"⟩
abbrev cX6_isKeyNumber : ByteArray := prog_1_method_41_code
def yX6_isKeyNumber : MethodName := ⟨RX6, "isKeyNumber", "(I)Z"⟩
abbrev cX6_isNumberOfKind : ByteArray := prog_1_method_42_code
def yX6_isNumberOfKind : MethodName := ⟨RX6, "isNumberOfKind", "(II)Z"⟩
abbrev cX6_waitingCellsFit : ByteArray := prog_1_method_43_code
def yX6_waitingCellsFit : MethodName := ⟨RX6, "waitingCellsFit", "(LMaskedCopies$Table;)Z"⟩
abbrev cX6_isMaskOf : ByteArray := prog_1_method_44_code
def yX6_isMaskOf : MethodName := ⟨RX6, "isMaskOf", "(II)Z"⟩
abbrev cX6_isNumberOf : ByteArray := prog_1_method_45_code
def yX6_isNumberOf : MethodName := ⟨RX6, "isNumberOf", "(II)Z"⟩
abbrev cX6_dialDigit : ByteArray := prog_1_method_46_code
def yX6_dialDigit : MethodName := ⟨RX6, "dialDigit", "(LMaskedCopies$Table;III)I"⟩
abbrev cX6_draftMasked : ByteArray := prog_1_method_47_code
def yX6_draftMasked : MethodName := ⟨RX6, "draftMasked", "(I)V"⟩
abbrev cX6_maskedCell : ByteArray := prog_1_method_48_code
def yX6_maskedCell : MethodName := ⟨RX6, "maskedCell", "(IIII)I"⟩
abbrev cX6_turnedRef : ByteArray := prog_1_method_49_code
def yX6_turnedRef : MethodName := ⟨RX6, "turnedRef", "(II)I"⟩
abbrev cX6_dealtCell : ByteArray := prog_1_method_50_code
def yX6_dealtCell : MethodName := ⟨RX6, "dealtCell", "(IIII)I"⟩
abbrev cX6_tooFine : ByteArray := prog_1_method_51_code
def yX6_tooFine : MethodName := ⟨RX6, "tooFine", "(II)I"⟩
abbrev cX6_lossBy : ByteArray := prog_1_method_52_code
def yX6_lossBy : MethodName := ⟨RX6, "lossBy", "(III)I"⟩
abbrev cX6_ownerOf : ByteArray := prog_1_method_53_code
def yX6_ownerOf : MethodName := ⟨RX6, "ownerOf", "(II)I"⟩
abbrev cX6_shiftOf : ByteArray := prog_1_method_54_code
def yX6_shiftOf : MethodName := ⟨RX6, "shiftOf", "(I)I"⟩
abbrev cX6_narrowRoom : ByteArray := prog_1_method_55_code
def yX6_narrowRoom : MethodName := ⟨RX6, "narrowRoom", "(II)V"⟩
abbrev cX6_narrowRoomByRow : ByteArray := prog_1_method_56_code
def yX6_narrowRoomByRow : MethodName := ⟨RX6, "narrowRoomByRow", "(LMaskedCopies$Table;II)V"⟩
abbrev cX6_nextRule : ByteArray := prog_1_method_57_code
def yX6_nextRule : MethodName := ⟨RX6, "nextRule", "()LMaskedCopies$Rule;"⟩
abbrev cX6_addRule : ByteArray := prog_1_method_58_code
def yX6_addRule : MethodName := ⟨RX6, "addRule", "()I"⟩
abbrev cX6_firstBroken : ByteArray := prog_1_method_59_code
def yX6_firstBroken : MethodName := ⟨RX6, "firstBroken", "(LMaskedCopies$Copy;)I"⟩
abbrev cX6_ruleHolds : ByteArray := prog_1_method_60_code
def yX6_ruleHolds : MethodName := ⟨RX6, "ruleHolds", "(LMaskedCopies$Rule;LMaskedCopies$Copy;)Z"⟩
abbrev cX6_holdsInRow : ByteArray := prog_1_method_61_code
def yX6_holdsInRow : MethodName := ⟨RX6, "holdsInRow", "(LMaskedCopies$Rule;LMaskedCopies$Copy;I)Z"⟩
abbrev cX6_partsOf : ByteArray := prog_1_method_62_code
def yX6_partsOf : MethodName := ⟨RX6, "partsOf", "(LMaskedCopies$Rule;LMaskedCopies$Copy;I)I"⟩
abbrev cX6_mendDraft : ByteArray := prog_1_method_63_code
def yX6_mendDraft : MethodName := ⟨RX6, "mendDraft", "()V"⟩
abbrev cX6_mendColumn : ByteArray := prog_1_method_64_code
def yX6_mendColumn : MethodName := ⟨RX6, "mendColumn", "(LMaskedCopies$Rule;)V"⟩
abbrev cX6_couldSet : ByteArray := prog_1_method_65_code
def yX6_couldSet : MethodName := ⟨RX6, "couldSet", "(III)I"⟩
abbrev cX6_looksSame : ByteArray := prog_1_method_66_code
def yX6_looksSame : MethodName := ⟨RX6, "looksSame", "(IIII)Z"⟩
abbrev cX6_isPlain : ByteArray := prog_1_method_67_code
def yX6_isPlain : MethodName := ⟨RX6, "isPlain", "(II)Z"⟩
abbrev cX6_movesSame : ByteArray := prog_1_method_68_code
def yX6_movesSame : MethodName := ⟨RX6, "movesSame", "(IIII)Z"⟩
abbrev cX6_prepareSearch : ByteArray := prog_1_method_69_code
def yX6_prepareSearch : MethodName := ⟨RX6, "prepareSearch", "(II)V"⟩
abbrev cX6_offerWidths : ByteArray := prog_1_method_70_code
def yX6_offerWidths : MethodName := ⟨RX6, "offerWidths", "(IIZ)V"⟩
abbrev cX6_sameBy : ByteArray := prog_1_method_71_code
def yX6_sameBy : MethodName := ⟨RX6, "sameBy", "(IIII)I"⟩
abbrev cX6_coarseOrMissing : ByteArray := prog_1_method_72_code
def yX6_coarseOrMissing : MethodName := ⟨RX6, "coarseOrMissing", "(II)I"⟩
def RX7 : String := "MaskedCopiesModel"
def TX7 : u_T := fun k => match k with
  | 0 => ("MaskedCopiesModel", "thrown", "I", false)
  | 1 => ("MaskedCopiesModel", "tables", "I", false)
  | 2 => ("MaskedCopiesModel", "columns", "[I", true)
  | 3 => ("MaskedCopiesModel", "rows", "[I", true)
  | 4 => ("MaskedCopiesModel", "owner", "[I", true)
  | 5 => ("MaskedCopiesModel", "kind", "[I", true)
  | 6 => ("MaskedCopiesModel", "to", "[I", true)
  | 7 => ("MaskedCopiesModel", "mask", "[I", true)
  | 8 => ("MaskedCopiesModel", "number", "[I", true)
  | 9 => ("MaskedCopiesModel", "nameA", "[I", true)
  | 10 => ("MaskedCopiesModel", "nameB", "[I", true)
  | 11 => ("MaskedCopiesModel", "digitA", "[I", true)
  | 12 => ("MaskedCopiesModel", "digitB", "[I", true)
  | 13 => ("MaskedCopiesModel", "seed", "I", false)
  | 14 => ("MaskedCopiesModel", "cells", "[I", true)
  | 15 => ("MaskedCopiesModel", "made", "[I", true)
  | 16 => ("MaskedCopiesModel", "isMade", "Z", false)
  | 17 => ("MaskedCopiesModel", "masked", "[I", true)
  | 18 => ("MaskedCopiesModel", "waits", "[I", true)
  | 19 => ("MaskedCopiesModel", "waiting", "I", false)
  | 20 => ("MaskedCopiesModel", "rules", "I", false)
  | 21 => ("MaskedCopiesModel", "sort", "[I", true)
  | 22 => ("MaskedCopiesModel", "ruleT", "[I", true)
  | 23 => ("MaskedCopiesModel", "ruleA", "[I", true)
  | 24 => ("MaskedCopiesModel", "ruleB", "[I", true)
  | 25 => ("MaskedCopiesModel", "ruleU", "[I", true)
  | 26 => ("MaskedCopiesModel", "ruleE", "[I", true)
  | 27 => ("MaskedCopiesModel", "mends", "[Z", true)
  | 28 => ("MaskedCopiesModel", "seen", "[I", true)
  | 29 => ("MaskedCopiesModel", "own", "[I", true)
  | _ => ("MaskedCopiesModel", "bestWidths", "[I", true)
def tyX7 : Nat → FieldType := fun k => match k with
  | 0 => .int
  | 1 => .int
  | 2 => .array .int
  | 3 => .array .int
  | 4 => .array .int
  | 5 => .array .int
  | 6 => .array .int
  | 7 => .array .int
  | 8 => .array .int
  | 9 => .array .int
  | 10 => .array .int
  | 11 => .array .int
  | 12 => .array .int
  | 13 => .int
  | 14 => .array .int
  | 15 => .array .int
  | 16 => .boolean
  | 17 => .array .int
  | 18 => .array .int
  | 19 => .int
  | 20 => .int
  | 21 => .array .int
  | 22 => .array .int
  | 23 => .array .int
  | 24 => .array .int
  | 25 => .array .int
  | 26 => .array .int
  | 27 => .array .boolean
  | 28 => .array .int
  | 29 => .array .int
  | _ => .array .int
abbrev wsX70 : List Cond := u_ws RX7 TX7 31
theorem nmX7 : ∀ a, a < 31 → ∀ b, b < 31 → a ≠ b → (TX7 a).2.1 ≠ (TX7 b).2.1 := by decide +kernel
theorem tyX7_ok : ∀ k, k < 31 → parseFieldDescriptor (TX7 k).2.2.1 = some (tyX7 k) := by decide +kernel
abbrev cX7_init : ByteArray := prog_9_method_1_code
def yX7_init : MethodName := ⟨RX7, "<init>", "()V"⟩
abbrev cX7_in : ByteArray := prog_9_method_3_code
def yX7_in : MethodName := ⟨RX7, "in", "(III)Z"⟩
abbrev cX7_isTable : ByteArray := prog_9_method_4_code
def yX7_isTable : MethodName := ⟨RX7, "isTable", "(I)Z"⟩
abbrev cX7_isColumn : ByteArray := prog_9_method_5_code
def yX7_isColumn : MethodName := ⟨RX7, "isColumn", "(II)Z"⟩
abbrev cX7_isRow : ByteArray := prog_9_method_6_code
def yX7_isRow : MethodName := ⟨RX7, "isRow", "(II)Z"⟩
abbrev cX7_cell : ByteArray := prog_9_method_7_code
def yX7_cell : MethodName := ⟨RX7, "cell", "(III)I"⟩
abbrev cX7_figure : ByteArray := prog_9_method_8_code
def yX7_figure : MethodName := ⟨RX7, "figure", "(I)I"⟩
abbrev cX7_isKey : ByteArray := prog_9_method_9_code
def yX7_isKey : MethodName := ⟨RX7, "isKey", "(I)Z"⟩
abbrev cX7_table : ByteArray := prog_9_method_10_code
def yX7_table : MethodName := ⟨RX7, "table", "()I"⟩
abbrev cX7_begin : ByteArray := prog_9_method_11_code
def yX7_begin : MethodName := ⟨RX7, "begin", "(III)V"⟩
abbrev cX7_column : ByteArray := prog_9_method_12_code
def yX7_column : MethodName := ⟨RX7, "column", "(III)I"⟩
abbrev cX7_cell_ : ByteArray := prog_9_method_13_code
def yX7_cell_ : MethodName := ⟨RX7, "cell", "(I)I"⟩
abbrev cX7_wipe : ByteArray := prog_9_method_14_code
def yX7_wipe : MethodName := ⟨RX7, "wipe", "()I"⟩
abbrev cX7_isOf : ByteArray := prog_9_method_15_code
def yX7_isOf : MethodName := ⟨RX7, "isOf", "(II)Z"⟩
abbrev cX7_row : ByteArray := prog_9_method_16_code
def yX7_row : MethodName := ⟨RX7, "row", "(I)I"⟩
abbrev cX7_owner : ByteArray := prog_9_method_17_code
def yX7_owner : MethodName := ⟨RX7, "owner", "(II)I"⟩
abbrev cX7_fits : ByteArray := prog_9_method_18_code
def yX7_fits : MethodName := ⟨RX7, "fits", "(III)Z"⟩
abbrev cX7_mask : ByteArray := prog_9_method_19_code
def yX7_mask : MethodName := ⟨RX7, "mask", "(IIII)I"⟩
abbrev cX7_dial : ByteArray := prog_9_method_20_code
def yX7_dial : MethodName := ⟨RX7, "dial", "(IIIII)I"⟩
abbrev cX7_seed : ByteArray := prog_9_method_21_code
def yX7_seed : MethodName := ⟨RX7, "seed", "(I)I"⟩
abbrev cX7_turnedKey : ByteArray := prog_9_method_22_code
def yX7_turnedKey : MethodName := ⟨RX7, "turnedKey", "(II)I"⟩
abbrev cX7_turnedName : ByteArray := prog_9_method_23_code
def yX7_turnedName : MethodName := ⟨RX7, "turnedName", "(II)I"⟩
abbrev cX7_ownerOf : ByteArray := prog_9_method_24_code
def yX7_ownerOf : MethodName := ⟨RX7, "ownerOf", "(II)I"⟩
abbrev cX7_shiftOf : ByteArray := prog_9_method_25_code
def yX7_shiftOf : MethodName := ⟨RX7, "shiftOf", "(I)I"⟩
abbrev cX7_stays : ByteArray := prog_9_method_26_code
def yX7_stays : MethodName := ⟨RX7, "stays", "(II)Z"⟩
abbrev cX7_coarse : ByteArray := prog_9_method_27_code
def yX7_coarse : MethodName := ⟨RX7, "coarse", "(II)I"⟩
abbrev cX7_maskedCell : ByteArray := prog_9_method_28_code
def yX7_maskedCell : MethodName := ⟨RX7, "maskedCell", "(III)I"⟩
abbrev cX7_maskTable : ByteArray := prog_9_method_29_code
def yX7_maskTable : MethodName := ⟨RX7, "maskTable", "(I)V"⟩
abbrev cX7_rule : ByteArray := prog_9_method_30_code
def yX7_rule : MethodName := ⟨RX7, "rule", "(IIII)I"⟩
abbrev cX7_order : ByteArray := prog_9_method_31_code
def yX7_order : MethodName := ⟨RX7, "order", "(III)I"⟩
abbrev cX7_agree : ByteArray := prog_9_method_32_code
def yX7_agree : MethodName := ⟨RX7, "agree", "(IIIIII)I"⟩
abbrev cX7_found : ByteArray := prog_9_method_33_code
def yX7_found : MethodName := ⟨RX7, "found", "(II)I"⟩
abbrev cX7_unrule : ByteArray := prog_9_method_34_code
def yX7_unrule : MethodName := ⟨RX7, "unrule", "()I"⟩
abbrev cX7_sumFor : ByteArray := prog_9_method_35_code
def yX7_sumFor : MethodName := ⟨RX7, "sumFor", "(II)I"⟩
abbrev cX7_isKeyOf : ByteArray := prog_9_method_36_code
def yX7_isKeyOf : MethodName := ⟨RX7, "isKeyOf", "(II)Z"⟩
abbrev cX7_holdsFor : ByteArray := prog_9_method_37_code
def yX7_holdsFor : MethodName := ⟨RX7, "holdsFor", "(II)Z"⟩
abbrev cX7_firstBroken : ByteArray := prog_9_method_38_code
def yX7_firstBroken : MethodName := ⟨RX7, "firstBroken", "()I"⟩
abbrev cX7_see : ByteArray := prog_9_method_39_code
def yX7_see : MethodName := ⟨RX7, "see", "(I)V"⟩
abbrev cX7_broken : ByteArray := prog_9_method_40_code
def yX7_broken : MethodName := ⟨RX7, "broken", "(I)I"⟩
abbrev cX7_make : ByteArray := prog_9_method_41_code
def yX7_make : MethodName := ⟨RX7, "make", "()I"⟩
abbrev cX7_at : ByteArray := prog_9_method_42_code
def yX7_at : MethodName := ⟨RX7, "at", "(IIII)I"⟩
abbrev cX7_turned : ByteArray := prog_9_method_43_code
def yX7_turned : MethodName := ⟨RX7, "turned", "(III)I"⟩
abbrev cX7_shift : ByteArray := prog_9_method_44_code
def yX7_shift : MethodName := ⟨RX7, "shift", "(I)I"⟩
abbrev cX7_count : ByteArray := prog_9_method_45_code
def yX7_count : MethodName := ⟨RX7, "count", "(IIII)I"⟩
abbrev cX7_joins : ByteArray := prog_9_method_46_code
def yX7_joins : MethodName := ⟨RX7, "joins", "(III)I"⟩
abbrev cX7_miss : ByteArray := prog_9_method_47_code
def yX7_miss : MethodName := ⟨RX7, "miss", "(II)I"⟩
abbrev cX7_isKnown : ByteArray := prog_9_method_48_code
def yX7_isKnown : MethodName := ⟨RX7, "isKnown", "(II)Z"⟩
abbrev cX7_isPlain : ByteArray := prog_9_method_49_code
def yX7_isPlain : MethodName := ⟨RX7, "isPlain", "(II)Z"⟩
abbrev cX7_couldBe : ByteArray := prog_9_method_50_code
def yX7_couldBe : MethodName := ⟨RX7, "couldBe", "(IIII)Z"⟩
abbrev cX7_couldOf : ByteArray := prog_9_method_51_code
def yX7_couldOf : MethodName := ⟨RX7, "couldOf", "(III)I"⟩
abbrev cX7_could : ByteArray := prog_9_method_52_code
def yX7_could : MethodName := ⟨RX7, "could", "(III)I"⟩
abbrev cX7_alikeOf : ByteArray := prog_9_method_53_code
def yX7_alikeOf : MethodName := ⟨RX7, "alikeOf", "(II)I"⟩
abbrev cX7_alike : ByteArray := prog_9_method_54_code
def yX7_alike : MethodName := ⟨RX7, "alike", "(II)I"⟩
abbrev cX7_sure : ByteArray := prog_9_method_55_code
def yX7_sure : MethodName := ⟨RX7, "sure", "(IIII)I"⟩
abbrev cX7_lossOf : ByteArray := prog_9_method_56_code
def yX7_lossOf : MethodName := ⟨RX7, "lossOf", "(II)I"⟩
abbrev cX7_loss : ByteArray := prog_9_method_57_code
def yX7_loss : MethodName := ⟨RX7, "loss", "(II)I"⟩
abbrev cX7_width : ByteArray := prog_9_method_58_code
def yX7_width : MethodName := ⟨RX7, "width", "(I)I"⟩
abbrev cX7_gives : ByteArray := prog_9_method_59_code
def yX7_gives : MethodName := ⟨RX7, "gives", "(III)I"⟩
abbrev cX7_best : ByteArray := prog_9_method_60_code
def yX7_best : MethodName := ⟨RX7, "best", "(III)I"⟩
abbrev cX7_about : ByteArray := prog_9_method_61_code
def yX7_about : MethodName := ⟨RX7, "about", "(III)I"⟩
abbrev cX7_all : ByteArray := prog_9_method_62_code
def yX7_all : MethodName := ⟨RX7, "all", "(I)I"⟩
def RJ6 : String := "java/lang/Integer"
def TJ6 : u_T := fun k => match k with
  | _ => ("", "", "", false)
def tyJ6 : Nat → FieldType := fun k => match k with
  | _ => .int
abbrev cJ6_bitCount_0f7a4 : ByteArray := prog_10_method_49_code
def yJ6_bitCount_0f7a4 : MethodName := ⟨RJ6, "bitCount", "(I)I"⟩
def RJ9 : String := "java/lang/Math"
def TJ9 : u_T := fun k => match k with
  | _ => ("", "", "", false)
def tyJ9 : Nat → FieldType := fun k => match k with
  | _ => .int
abbrev cJ9_floorMod_7cf53 : ByteArray := prog_11_method_50_code
def yJ9_floorMod_7cf53 : MethodName := ⟨RJ9, "floorMod", "(II)I"⟩
abbrev cJ9_abs_0f7a4 : ByteArray := prog_11_method_59_code
def yJ9_abs_0f7a4 : MethodName := ⟨RJ9, "abs", "(I)I"⟩
abbrev cJ9_min_7cf53 : ByteArray := prog_11_method_69_code
def yJ9_min_7cf53 : MethodName := ⟨RJ9, "min", "(II)I"⟩
def RL : String := "MaskedCopiesLaw"
abbrev cL_law : ByteArray := code
def yL_law : MethodName := ⟨RL, "law", "([I)Z"⟩
abbrev vwCl : List vw_C := [(RX0, TX0, 6), (RX1, TX1, 1), (RX2, TX2, 2), (RX3, TX3, 7), (RX4, TX4, 6), (RX5, TX5, 6), (RX6, TX6, 13), (RX7, TX7, 31)]
end
section
/-! ===== the small machine: cells by number, ints and references apart; what it reaches, the machine reaches ===== -/
/- a cell's shape: an object of a class (its number in vwCl), or an array (0 int, 1 boolean, 2 Column, 3 Table, 4 Rule) and its length -/
def m_tbl : List Cond := lw_tbl.filter goodWord
theorem m_mem {w : Cond} (i : Nat) (h : lw_tbl[i]? = some w) (hg : goodWord w = true) : w ∈ m_tbl := List.mem_filter.mpr ⟨List.mem_of_getElem? h, hg⟩
abbrev mSh : Type := Nat ⊕ (Nat × Nat)
/-- shapes, ints, references (by cell number) -/
abbrev mH : Type := List mSh × (Nat → Nat → Int32) × (Nat → Nat → Option Nat)
/-- launch, class numbers and slots, array classes, the first cell's address, the script's, the widths' -/
abbrev mG : Type := Launch × va_G × (Nat → ClassId) × Nat × Nat × Nat
/-- a method: name, bytes, locals, return type -/
abbrev mM : Type := MethodName × ByteArray × Nat × Option FieldType
def m_ad (G : mG) (k : Nat) : Nat := if k = 1000000 then G.2.2.2.2.1 else if k = 1000001 then G.2.2.2.2.2 else G.2.2.2.1 + k
def m_rv (G : mG) (v : Value) : Value := match v with
  | .int x => .int x
  | .ref a => .ref (m_ad G a)
  | _ => .null
def m_A (G : mG) : Nat → Prop := fun q => G.2.2.2.1 ≤ q
def m_ty (ci : Nat) : Nat → FieldType := match ci with
  | 0 => tyX0
  | 1 => tyX1
  | 2 => tyX2
  | 3 => tyX3
  | 4 => tyX4
  | 5 => tyX5
  | 6 => tyX6
  | _ => tyX7
def m_nF (ci : Nat) : Nat := match ci with
  | 0 => 6
  | 1 => 1
  | 2 => 2
  | 3 => 7
  | 4 => 6
  | 5 => 6
  | 6 => 13
  | _ => 31
def m_at_ty (ti : Nat) : FieldType := match ti with
  | 0 => .int
  | 1 => .boolean
  | 2 => .object RX0
  | 3 => .object RX4
  | _ => .object RX3
def m_fv (G : mG) (ci : Nat) (f : Nat → Int32) (r : Nat → Option Nat) (k : Nat) : Value := if (m_ty ci k).isReference = true then va_rf ((r k).map (m_ad G)) else .int (f k)
def m_av (G : mG) (ti : Nat) (f : Nat → Int32) (r : Nat → Option Nat) (j : Nat) : Value := if ti < 2 then .int (f j) else va_rf ((r j).map (m_ad G))
def m_at (G : mG) (sh : mSh) (f : Nat → Int32) (r : Nat → Option Nat) (a : Nat) (H : Heap) : Prop := match sh with
  | .inl ci => ci < 8 ∧ t_OB (m_ad G a) (G.2.1.1 ci) (m_nF ci) (G.2.1.2 ci) H (m_fv G ci f r)
  | .inr (ti, n) => ti < 5 ∧ H[m_ad G a]? = some (arrV (G.2.2.1 ti) n (m_av G ti f r))
def m_P (G : mG) (h : mH) (H : Heap) : Prop := (∀ (a : Nat) (sh : mSh), h.1[a]? = some sh → m_at G sh (h.2.1 a) (h.2.2 a) a H) ∧ H.size = G.2.2.2.1 + h.1.length ∧ h.1.length ≤ 1000
def m_tys (G : mG) : List (ClassId × FieldType) := [(G.2.2.1 0, .int), (G.2.2.1 1, .boolean), (G.2.2.1 2, .object RX0), (G.2.2.1 3, .object RX4), (G.2.2.1 4, .object RX3)]
def m_wid (j : Nat) : Int32 := match j with
  | 0 => 1
  | 1 => 10
  | 2 => 100
  | _ => 1000
/-- the static row of widths: nobody writes it -/
def m_St (G : mG) (U : State) (H : Heap) : Prop := va_Z "MaskedCopies$WidthSearch" "WIDTHS" "[I" (.ref G.2.2.2.2.2) (m_A G) U H ∧ va_T .int G.2.2.2.2.2 4 (fun j => .int (m_wid j)) (m_A G) U H
/-- the nest's links, and array classes: words that a call carries along -/
def m_nst : List (String × Nat × MethodName × String) := [(RX6, 29, yX1_init, RX6), (RX6, 36, yX2_init, RX6), (RX6, 43, yX5_init, RX6), (RX6, 72, yX3_init, RX6), (RX4, 34, yX0_init, RX6), (RX4, 52, yX6_rightFigure, RX6)]
def m_N (U : State) : Prop := (∀ q ∈ m_nst, va_Nw (.methodLinkNest q.1 q.2.1 q.2.2.1 q.2.2.2) U) ∧ ∀ C ∈ [RX0, RX3, RX4], va_AO C U
theorem m_N.warm {s U : State} (hW : s.WarmedH U.vm) (h : m_N s) : m_N U := ⟨fun q hq => va_Nw.warmM hW (h.1 q hq), fun C hC => va_AO.moved hW.alike (h.2 C hC)⟩
theorem m_N.same {s U : State} (hv : s.vm = U.vm) (h : m_N s) : m_N U := ⟨fun q hq => va_Nw.same rfl hv (h.1 q hq), fun C hC => va_AO.moved (by rw [hv]; exact Vm.Alike.refl _) (h.2 C hC)⟩
/-- locals by their places; .retAddr: nothing is known -/
def m_lv (G : mG) : Nat → List Value → List (Nat × Value)
  | _, [] => []
  | n, v :: L => match v with
    | .retAddr _ => m_lv G (n + 1) L
    | v => (n, m_rv G v) :: m_lv G (n + 1) L
def m_Cx (G : mG) (M : mM) (d : Nat) (p : Program) (R : Room) (s : State) (m : MethodId) (args : Array Value) (meth : Method) (c : Code) : Prop :=
  p.tables.exec = Jvm.exec ∧ c.code = M.2.1 ∧ c.maxLocals = M.2.2.1 ∧ s.vm.findClass M.1.cls = some m.cls ∧ (∀ w ∈ m_tbl, w.before args s = true) ∧ va_K G.2.1 vwCl (m_tys G) s ∧ (m_St G s s.heap ∧ m_N s) ∧ G.2.2.2.1 ≤ s.heap.size ∧ d ≤ R.frames ∧ 39 * d ≤ R.locals ∧ meth.name = M.1.name
def m_retI (ret : Option FieldType) : Instr := match ret with
  | none => .return_
  | some t => if t.isReference = true then .areturn else .ireturn
/-- the small machine at pc, with locals L, stack st, heap h, comes to its return with r and h' (d frames, rc cells and rs slots are left) -/
def MW (G : mG) (M : mM) (d rc rs pc : Nat) (L st : List Value) (h : mH) (r : Option Value) (h' : mH) : Prop :=
  ∀ (p : Program) (e : Env) (R : Room) (s : State) (m : MethodId) (args : Array Value) (below : List Frame) (meth : Method) (c : Code) (H : Heap) (locs : List Loc) (cells slots : Nat) (Q : State → Prop) (ls : Array Slot),
    m_Cx G M d p R s m args meth c → m_P G h H → va_S (m_A G) s.heap H locs → lv_has ls M.2.2.1 (m_lv G 0 L) → cells + rc ≤ R.cells → slots + rs ≤ R.slots →
    (∀ (pc' : Nat) (ls' : Array Slot) (H' : Heap) (locs' : List Loc) (cells' slots' : Nat), decode M.2.1 pc' = .ok (m_retI M.2.2.2, 1) → m_P G h' H' → va_S (m_A G) s.heap H' locs' → cells' ≤ cells + rc → slots' ≤ slots + rs →
      W p G.1 e R s m args below meth c H' locs' cells' slots' Q (F0 m pc' ls' (r.toList.map (m_rv G)))) →
    W p G.1 e R s m args below meth c H locs cells slots Q (F0 m pc ls (st.map (m_rv G)))
/-- a method's contract -/
def MC (G : mG) (M : mM) (d mc ms : Nat) (av : List Value) (h : mH) (r : Option Value) (h' : mH) : Prop :=
  Met G.1 M.1 (Cond.code M.1 M.2.1 M.2.2.1 M.2.2.2 :: m_tbl) { frames := d, cells := mc, slots := ms, locals := 39 * d }
    (va_Pc (av.map (m_rv G)) (fun U => va_K G.2.1 vwCl (m_tys G) U ∧ (m_St G U U.heap ∧ m_N U) ∧ m_P G h U.heap))
    (fun _ st oc t => oc = .returned (r.map (m_rv G)) ∧ m_P G h' t.heap ∧ va_F (m_A G) st t) mc ms (m_A G)
theorem m_lv_mem {G : mG} : ∀ (L : List Value) (n : Nat) (q : Nat × Value), q ∈ m_lv G n L → ∃ (i : Nat) (v : Value), L[i]? = some v ∧ (∀ z, v ≠ .retAddr z) ∧ q = (n + i, m_rv G v)
  | [], n, q, h => by simp [m_lv] at h
  | v :: L, n, q, h => by
    have key : q = (n, m_rv G v) ∧ (∀ z, v ≠ .retAddr z) ∨ q ∈ m_lv G (n + 1) L := by
      cases v with
      | retAddr z => exact Or.inr h
      | _ =>
        rcases List.mem_cons.mp h with h | h
        · exact Or.inl ⟨h, fun z e => by cases e⟩
        · exact Or.inr h
    rcases key with ⟨h1, h2⟩ | h1
    · exact ⟨0, v, rfl, h2, by rw [h1]; rfl⟩
    · obtain ⟨i, w, e1, e2, e3⟩ := m_lv_mem L (n + 1) q h1
      exact ⟨i + 1, w, by rw [List.getElem?_cons_succ]; exact e1, e2, by rw [e3, show n + 1 + i = n + (i + 1) by omega]⟩
theorem m_lv_in {G : mG} : ∀ (L : List Value) (n i : Nat) (v : Value), L[i]? = some v → (∀ z, v ≠ .retAddr z) → (n + i, m_rv G v) ∈ m_lv G n L
  | [], n, i, v, h, _ => by simp at h
  | w :: L, n, 0, v, h, hz => by
    rw [List.getElem?_cons_zero] at h
    have h := Option.some.inj h
    subst h
    cases w with
    | retAddr z => exact absurd rfl (hz z)
    | _ => exact List.mem_cons_self
  | w :: L, n, i + 1, v, h, hz => by
    rw [List.getElem?_cons_succ] at h
    have h1 := m_lv_in (G := G) L (n + 1) i v h hz
    rw [show n + 1 + i = n + (i + 1) by omega] at h1
    cases w with
    | retAddr z => exact h1
    | _ => exact List.mem_cons_of_mem _ h1
theorem m_rv_c1 (G : mG) (v : Value) : (m_rv G v).category = 1 := by cases v <;> rfl
theorem m_get {G : mG} {ls : Array Slot} {n : Nat} {L : List Value} (hl : lv_has ls n (m_lv G 0 L)) {i : Nat} {v : Value} (hi : L[i]? = some v) (hv : ∀ z, v ≠ .retAddr z) : ls[i]? = some (.val (m_rv G v)) := by
  have h := hl.2.2 _ (m_lv_in L 0 i v hi hv)
  rw [Nat.zero_add] at h
  exact h
/-- behind a store -/
theorem m_stored {G : mG} {ls : Array Slot} {n i : Nat} {L : List Value} {v : Value} (h : lv_has ls n ((i, m_rv G v) :: (m_lv G 0 L).filter (fun q => !(q.1 == i) && !(q.1 + 1 == i && q.2.category == 2)))) : lv_has ls n (m_lv G 0 (L.set i v)) := by
  refine ⟨h.1, h.2.1, fun q hq => ?_⟩
  obtain ⟨j, w, e1, e2, rfl⟩ := m_lv_mem _ _ _ hq
  rw [Nat.zero_add]
  by_cases hji : j = i
  · subst hji
    have hlt : j < L.length := by
      have := (List.getElem?_eq_some_iff.mp e1).1
      rwa [List.length_set] at this
    rw [List.getElem?_set_self hlt] at e1
    cases e1
    exact h.2.2 (j, m_rv G v) List.mem_cons_self
  · rw [List.getElem?_set_ne (Ne.symm hji)] at e1
    refine h.2.2 (j, m_rv G w) (List.mem_cons_of_mem _ (List.mem_filter.mpr ⟨?_, ?_⟩))
    · have := m_lv_in (G := G) L 0 j w e1 e2
      rwa [Nat.zero_add] at this
    · rw [show ((j, m_rv G w) : Nat × Value).2.category = 1 from m_rv_c1 G w]
      simp [hji]
theorem m_A_ad {G : mG} {k : Nat} (h : k < 1000) : m_ad G k = G.2.2.2.1 + k := by
  unfold m_ad
  rw [if_neg (by omega), if_neg (by omega)]
end
section
/-! ===== rows of the small machine: stack, locals, numbers, branches (written by wip/whole/mkrules.py) ===== -/
theorem r_iconst {G : mG} {M : mM} {d rc rs pc : Nat} {L st : List Value} {h h' : mH} {r : Option Value} {n : Int} {x : Int32} (hd : decode M.2.1 pc = .ok (.iconst n, 1)) (hv : Int32.ofInt n = x) (k : MW G M d rc rs (pc + 1) L (.int x :: st) h r h') : MW G M d rc rs pc L (st) h r h' := by
  intro p e R s m args below meth c H locs cells slots Q ls cx hP hS hl hc1 hc2 fin
  exact lv_iconst cx.1 cx.2.1 hd hv (k p e R s m args below meth c H locs cells slots Q ls cx hP hS hl hc1 hc2 fin)
theorem r_bipush {G : mG} {M : mM} {d rc rs pc : Nat} {L st : List Value} {h h' : mH} {r : Option Value} {n : Int} {x : Int32} (hd : decode M.2.1 pc = .ok (.bipush n, 2)) (hv : (Int8.ofInt n).toInt32 = x) (k : MW G M d rc rs (pc + 2) L (.int x :: st) h r h') : MW G M d rc rs pc L (st) h r h' := by
  intro p e R s m args below meth c H locs cells slots Q ls cx hP hS hl hc1 hc2 fin
  exact lv_bipush cx.1 cx.2.1 hd hv (k p e R s m args below meth c H locs cells slots Q ls cx hP hS hl hc1 hc2 fin)
theorem r_sipush {G : mG} {M : mM} {d rc rs pc : Nat} {L st : List Value} {h h' : mH} {r : Option Value} {n : Int} {x : Int32} (hd : decode M.2.1 pc = .ok (.sipush n, 3)) (hv : (Int16.ofInt n).toInt32 = x) (k : MW G M d rc rs (pc + 3) L (.int x :: st) h r h') : MW G M d rc rs pc L (st) h r h' := by
  intro p e R s m args below meth c H locs cells slots Q ls cx hP hS hl hc1 hc2 fin
  exact lv_sipush cx.1 cx.2.1 hd hv (k p e R s m args below meth c H locs cells slots Q ls cx hP hS hl hc1 hc2 fin)
theorem r_null {G : mG} {M : mM} {d rc rs pc : Nat} {L st : List Value} {h h' : mH} {r : Option Value} (hd : decode M.2.1 pc = .ok (.aconst_null, 1)) (k : MW G M d rc rs (pc + 1) L (.null :: st) h r h') : MW G M d rc rs pc L (st) h r h' := by
  intro p e R s m args below meth c H locs cells slots Q ls cx hP hS hl hc1 hc2 fin
  exact lv_null cx.1 cx.2.1 hd (k p e R s m args below meth c H locs cells slots Q ls cx hP hS hl hc1 hc2 fin)
theorem r_ldc {G : mG} {M : mM} {d rc rs pc : Nat} {L st : List Value} {h h' : mH} {r : Option Value} {i : Nat} {x : Int32} (hd : decode M.2.1 pc = .ok (.ldc i, 2)) (hw : Cond.constant M.1.cls i x ∈ m_tbl) (k : MW G M d rc rs (pc + 2) L (.int x :: st) h r h') : MW G M d rc rs pc L (st) h r h' := by
  intro p e R s m args below meth c H locs cells slots Q ls cx hP hS hl hc1 hc2 fin
  exact lv_ldc cx.1 cx.2.1 cx.2.2.2.1 (cx.2.2.2.2.1 _ hw) hd (k p e R s m args below meth c H locs cells slots Q ls cx hP hS hl hc1 hc2 fin)
theorem r_iload {G : mG} {M : mM} {d rc rs pc : Nat} {L st : List Value} {h h' : mH} {r : Option Value} {i : Nat} {x : Int32} (hd : decode M.2.1 pc = .ok (.iload i, 2)) (hi : L[i]? = some (.int x)) (k : MW G M d rc rs (pc + 2) L (.int x :: st) h r h') : MW G M d rc rs pc L (st) h r h' := by
  intro p e R s m args below meth c H locs cells slots Q ls cx hP hS hl hc1 hc2 fin
  exact lv_iload cx.1 cx.2.1 hd (m_get hl hi (fun _ h => by cases h)) (k p e R s m args below meth c H locs cells slots Q ls cx hP hS hl hc1 hc2 fin)
theorem r_iload_n {G : mG} {M : mM} {d rc rs pc : Nat} {L st : List Value} {h h' : mH} {r : Option Value} {j : Fin 4} {i : Nat} {x : Int32} (hd : decode M.2.1 pc = .ok (.iload_n j, 1)) (hj : (j : Nat) = i) (hi : L[i]? = some (.int x)) (k : MW G M d rc rs (pc + 1) L (.int x :: st) h r h') : MW G M d rc rs pc L (st) h r h' := by
  intro p e R s m args below meth c H locs cells slots Q ls cx hP hS hl hc1 hc2 fin
  exact lv_iload_n cx.1 cx.2.1 hd hj (m_get hl hi (fun _ h => by cases h)) (k p e R s m args below meth c H locs cells slots Q ls cx hP hS hl hc1 hc2 fin)
theorem r_aload {G : mG} {M : mM} {d rc rs pc : Nat} {L st : List Value} {h h' : mH} {r : Option Value} {i a : Nat} (hd : decode M.2.1 pc = .ok (.aload i, 2)) (hi : L[i]? = some (.ref a)) (k : MW G M d rc rs (pc + 2) L (.ref a :: st) h r h') : MW G M d rc rs pc L (st) h r h' := by
  intro p e R s m args below meth c H locs cells slots Q ls cx hP hS hl hc1 hc2 fin
  exact lv_aload cx.1 cx.2.1 hd (m_get hl hi (fun _ h => by cases h)) (k p e R s m args below meth c H locs cells slots Q ls cx hP hS hl hc1 hc2 fin)
theorem r_aload_n {G : mG} {M : mM} {d rc rs pc : Nat} {L st : List Value} {h h' : mH} {r : Option Value} {j : Fin 4} {i a : Nat} (hd : decode M.2.1 pc = .ok (.aload_n j, 1)) (hj : (j : Nat) = i) (hi : L[i]? = some (.ref a)) (k : MW G M d rc rs (pc + 1) L (.ref a :: st) h r h') : MW G M d rc rs pc L (st) h r h' := by
  intro p e R s m args below meth c H locs cells slots Q ls cx hP hS hl hc1 hc2 fin
  exact lv_aload_n cx.1 cx.2.1 hd hj (m_get hl hi (fun _ h => by cases h)) (k p e R s m args below meth c H locs cells slots Q ls cx hP hS hl hc1 hc2 fin)
theorem r_aloadN {G : mG} {M : mM} {d rc rs pc : Nat} {L st : List Value} {h h' : mH} {r : Option Value} {i : Nat} (hd : decode M.2.1 pc = .ok (.aload i, 2)) (hi : L[i]? = some .null) (k : MW G M d rc rs (pc + 2) L (.null :: st) h r h') : MW G M d rc rs pc L (st) h r h' := by
  intro p e R s m args below meth c H locs cells slots Q ls cx hP hS hl hc1 hc2 fin
  exact lv_aloadN cx.1 cx.2.1 hd (m_get hl hi (fun _ h => by cases h)) (k p e R s m args below meth c H locs cells slots Q ls cx hP hS hl hc1 hc2 fin)
theorem r_aload_nN {G : mG} {M : mM} {d rc rs pc : Nat} {L st : List Value} {h h' : mH} {r : Option Value} {j : Fin 4} {i : Nat} (hd : decode M.2.1 pc = .ok (.aload_n j, 1)) (hj : (j : Nat) = i) (hi : L[i]? = some .null) (k : MW G M d rc rs (pc + 1) L (.null :: st) h r h') : MW G M d rc rs pc L (st) h r h' := by
  intro p e R s m args below meth c H locs cells slots Q ls cx hP hS hl hc1 hc2 fin
  exact lv_aload_nN cx.1 cx.2.1 hd hj (m_get hl hi (fun _ h => by cases h)) (k p e R s m args below meth c H locs cells slots Q ls cx hP hS hl hc1 hc2 fin)
theorem r_istore {G : mG} {M : mM} {d rc rs pc : Nat} {L st : List Value} {h h' : mH} {r : Option Value} {i : Nat} {x : Int32} {L' : List Value} (hd : decode M.2.1 pc = .ok (.istore i, 2)) (hn : i < M.2.2.1) (hL : L.set i (.int x) = L') (k : MW G M d rc rs (pc + 2) L' st h r h') : MW G M d rc rs pc L (.int x :: st) h r h' := by
  subst hL
  intro p e R s m args below meth c H locs cells slots Q ls cx hP hS hl hc1 hc2 fin
  exact lv_istore cx.1 cx.2.1 hd hl hn rfl (fun ls hl => k p e R s m args below meth c H locs cells slots Q ls cx hP hS (m_stored hl) hc1 hc2 fin)
theorem r_astore {G : mG} {M : mM} {d rc rs pc : Nat} {L st : List Value} {h h' : mH} {r : Option Value} {i : Nat} {x : Nat} {L' : List Value} (hd : decode M.2.1 pc = .ok (.astore i, 2)) (hn : i < M.2.2.1) (hL : L.set i (.ref x) = L') (k : MW G M d rc rs (pc + 2) L' st h r h') : MW G M d rc rs pc L (.ref x :: st) h r h' := by
  subst hL
  intro p e R s m args below meth c H locs cells slots Q ls cx hP hS hl hc1 hc2 fin
  exact lv_astore cx.1 cx.2.1 hd hl hn rfl (fun ls hl => k p e R s m args below meth c H locs cells slots Q ls cx hP hS (m_stored hl) hc1 hc2 fin)
theorem r_astoreN {G : mG} {M : mM} {d rc rs pc : Nat} {L st : List Value} {h h' : mH} {r : Option Value} {i : Nat} {L' : List Value} (hd : decode M.2.1 pc = .ok (.astore i, 2)) (hn : i < M.2.2.1) (hL : L.set i (.null) = L') (k : MW G M d rc rs (pc + 2) L' st h r h') : MW G M d rc rs pc L (.null :: st) h r h' := by
  subst hL
  intro p e R s m args below meth c H locs cells slots Q ls cx hP hS hl hc1 hc2 fin
  exact lv_astoreN cx.1 cx.2.1 hd hl hn rfl (fun ls hl => k p e R s m args below meth c H locs cells slots Q ls cx hP hS (m_stored hl) hc1 hc2 fin)
theorem r_istore_n {G : mG} {M : mM} {d rc rs pc : Nat} {L st : List Value} {h h' : mH} {r : Option Value} {j : Fin 4} {i : Nat} {x : Int32} {L' : List Value} (hd : decode M.2.1 pc = .ok (.istore_n j, 1)) (hj : (j : Nat) = i) (hn : i < M.2.2.1) (hL : L.set i (.int x) = L') (k : MW G M d rc rs (pc + 1) L' st h r h') : MW G M d rc rs pc L (.int x :: st) h r h' := by
  subst hL
  intro p e R s m args below meth c H locs cells slots Q ls cx hP hS hl hc1 hc2 fin
  exact lv_istore_n cx.1 cx.2.1 hd hj hl hn rfl (fun ls hl => k p e R s m args below meth c H locs cells slots Q ls cx hP hS (m_stored hl) hc1 hc2 fin)
theorem r_astore_n {G : mG} {M : mM} {d rc rs pc : Nat} {L st : List Value} {h h' : mH} {r : Option Value} {j : Fin 4} {i : Nat} {x : Nat} {L' : List Value} (hd : decode M.2.1 pc = .ok (.astore_n j, 1)) (hj : (j : Nat) = i) (hn : i < M.2.2.1) (hL : L.set i (.ref x) = L') (k : MW G M d rc rs (pc + 1) L' st h r h') : MW G M d rc rs pc L (.ref x :: st) h r h' := by
  subst hL
  intro p e R s m args below meth c H locs cells slots Q ls cx hP hS hl hc1 hc2 fin
  exact lv_astore_n cx.1 cx.2.1 hd hj hl hn rfl (fun ls hl => k p e R s m args below meth c H locs cells slots Q ls cx hP hS (m_stored hl) hc1 hc2 fin)
theorem r_astore_nN {G : mG} {M : mM} {d rc rs pc : Nat} {L st : List Value} {h h' : mH} {r : Option Value} {j : Fin 4} {i : Nat} {L' : List Value} (hd : decode M.2.1 pc = .ok (.astore_n j, 1)) (hj : (j : Nat) = i) (hn : i < M.2.2.1) (hL : L.set i (.null) = L') (k : MW G M d rc rs (pc + 1) L' st h r h') : MW G M d rc rs pc L (.null :: st) h r h' := by
  subst hL
  intro p e R s m args below meth c H locs cells slots Q ls cx hP hS hl hc1 hc2 fin
  exact lv_astore_nN cx.1 cx.2.1 hd hj hl hn rfl (fun ls hl => k p e R s m args below meth c H locs cells slots Q ls cx hP hS (m_stored hl) hc1 hc2 fin)
theorem r_iadd {G : mG} {M : mM} {d rc rs pc : Nat} {L st : List Value} {h h' : mH} {r : Option Value} {x y : Int32} (hd : decode M.2.1 pc = .ok (.iadd, 1)) (k : MW G M d rc rs (pc + 1) L (.int (x + y) :: st) h r h') : MW G M d rc rs pc L (.int y :: .int x :: st) h r h' := by
  intro p e R s m args below meth c H locs cells slots Q ls cx hP hS hl hc1 hc2 fin
  exact lv_iadd cx.1 cx.2.1 hd (k p e R s m args below meth c H locs cells slots Q ls cx hP hS hl hc1 hc2 fin)
theorem r_isub {G : mG} {M : mM} {d rc rs pc : Nat} {L st : List Value} {h h' : mH} {r : Option Value} {x y : Int32} (hd : decode M.2.1 pc = .ok (.isub, 1)) (k : MW G M d rc rs (pc + 1) L (.int (x - y) :: st) h r h') : MW G M d rc rs pc L (.int y :: .int x :: st) h r h' := by
  intro p e R s m args below meth c H locs cells slots Q ls cx hP hS hl hc1 hc2 fin
  exact lv_isub cx.1 cx.2.1 hd (k p e R s m args below meth c H locs cells slots Q ls cx hP hS hl hc1 hc2 fin)
theorem r_imul {G : mG} {M : mM} {d rc rs pc : Nat} {L st : List Value} {h h' : mH} {r : Option Value} {x y : Int32} (hd : decode M.2.1 pc = .ok (.imul, 1)) (k : MW G M d rc rs (pc + 1) L (.int (x * y) :: st) h r h') : MW G M d rc rs pc L (.int y :: .int x :: st) h r h' := by
  intro p e R s m args below meth c H locs cells slots Q ls cx hP hS hl hc1 hc2 fin
  exact lv_imul cx.1 cx.2.1 hd (k p e R s m args below meth c H locs cells slots Q ls cx hP hS hl hc1 hc2 fin)
theorem r_iand {G : mG} {M : mM} {d rc rs pc : Nat} {L st : List Value} {h h' : mH} {r : Option Value} {x y : Int32} (hd : decode M.2.1 pc = .ok (.iand, 1)) (k : MW G M d rc rs (pc + 1) L (.int (x &&& y) :: st) h r h') : MW G M d rc rs pc L (.int y :: .int x :: st) h r h' := by
  intro p e R s m args below meth c H locs cells slots Q ls cx hP hS hl hc1 hc2 fin
  exact lv_iand cx.1 cx.2.1 hd (k p e R s m args below meth c H locs cells slots Q ls cx hP hS hl hc1 hc2 fin)
theorem r_ior {G : mG} {M : mM} {d rc rs pc : Nat} {L st : List Value} {h h' : mH} {r : Option Value} {x y : Int32} (hd : decode M.2.1 pc = .ok (.ior, 1)) (k : MW G M d rc rs (pc + 1) L (.int (x ||| y) :: st) h r h') : MW G M d rc rs pc L (.int y :: .int x :: st) h r h' := by
  intro p e R s m args below meth c H locs cells slots Q ls cx hP hS hl hc1 hc2 fin
  exact lv_ior cx.1 cx.2.1 hd (k p e R s m args below meth c H locs cells slots Q ls cx hP hS hl hc1 hc2 fin)
theorem r_ixor {G : mG} {M : mM} {d rc rs pc : Nat} {L st : List Value} {h h' : mH} {r : Option Value} {x y : Int32} (hd : decode M.2.1 pc = .ok (.ixor, 1)) (k : MW G M d rc rs (pc + 1) L (.int (x ^^^ y) :: st) h r h') : MW G M d rc rs pc L (.int y :: .int x :: st) h r h' := by
  intro p e R s m args below meth c H locs cells slots Q ls cx hP hS hl hc1 hc2 fin
  exact lv_ixor cx.1 cx.2.1 hd (k p e R s m args below meth c H locs cells slots Q ls cx hP hS hl hc1 hc2 fin)
theorem r_ishl {G : mG} {M : mM} {d rc rs pc : Nat} {L st : List Value} {h h' : mH} {r : Option Value} {x y : Int32} (hd : decode M.2.1 pc = .ok (.ishl, 1)) (k : MW G M d rc rs (pc + 1) L (.int (x <<< (y &&& 31)) :: st) h r h') : MW G M d rc rs pc L (.int y :: .int x :: st) h r h' := by
  intro p e R s m args below meth c H locs cells slots Q ls cx hP hS hl hc1 hc2 fin
  exact lv_ishl cx.1 cx.2.1 hd (k p e R s m args below meth c H locs cells slots Q ls cx hP hS hl hc1 hc2 fin)
theorem r_ishr {G : mG} {M : mM} {d rc rs pc : Nat} {L st : List Value} {h h' : mH} {r : Option Value} {x y : Int32} (hd : decode M.2.1 pc = .ok (.ishr, 1)) (k : MW G M d rc rs (pc + 1) L (.int (x >>> (y &&& 31)) :: st) h r h') : MW G M d rc rs pc L (.int y :: .int x :: st) h r h' := by
  intro p e R s m args below meth c H locs cells slots Q ls cx hP hS hl hc1 hc2 fin
  exact lv_ishr cx.1 cx.2.1 hd (k p e R s m args below meth c H locs cells slots Q ls cx hP hS hl hc1 hc2 fin)
theorem r_idiv {G : mG} {M : mM} {d rc rs pc : Nat} {L st : List Value} {h h' : mH} {r : Option Value} {x y : Int32} (hd : decode M.2.1 pc = .ok (.idiv, 1)) (hne : ¬ y = 0) (k : MW G M d rc rs (pc + 1) L (.int (x / y) :: st) h r h') : MW G M d rc rs pc L (.int y :: .int x :: st) h r h' := by
  intro p e R s m args below meth c H locs cells slots Q ls cx hP hS hl hc1 hc2 fin
  exact lv_idiv cx.1 cx.2.1 hd hne (k p e R s m args below meth c H locs cells slots Q ls cx hP hS hl hc1 hc2 fin)
theorem r_irem {G : mG} {M : mM} {d rc rs pc : Nat} {L st : List Value} {h h' : mH} {r : Option Value} {x y : Int32} (hd : decode M.2.1 pc = .ok (.irem, 1)) (hne : ¬ y = 0) (k : MW G M d rc rs (pc + 1) L (.int (x - x / y * y) :: st) h r h') : MW G M d rc rs pc L (.int y :: .int x :: st) h r h' := by
  intro p e R s m args below meth c H locs cells slots Q ls cx hP hS hl hc1 hc2 fin
  exact lv_irem cx.1 cx.2.1 hd hne (k p e R s m args below meth c H locs cells slots Q ls cx hP hS hl hc1 hc2 fin)
theorem r_ineg {G : mG} {M : mM} {d rc rs pc : Nat} {L st : List Value} {h h' : mH} {r : Option Value} {x : Int32} (hd : decode M.2.1 pc = .ok (.ineg, 1)) (k : MW G M d rc rs (pc + 1) L (.int (-x) :: st) h r h') : MW G M d rc rs pc L (.int x :: st) h r h' := by
  intro p e R s m args below meth c H locs cells slots Q ls cx hP hS hl hc1 hc2 fin
  exact lv_ineg cx.1 cx.2.1 hd (k p e R s m args below meth c H locs cells slots Q ls cx hP hS hl hc1 hc2 fin)
theorem r_dup {G : mG} {M : mM} {d rc rs pc : Nat} {L st : List Value} {h h' : mH} {r : Option Value} {v : Value} (hd : decode M.2.1 pc = .ok (.dup, 1)) (k : MW G M d rc rs (pc + 1) L (v :: v :: st) h r h') : MW G M d rc rs pc L (v :: st) h r h' := by
  intro p e R s m args below meth c H locs cells slots Q ls cx hP hS hl hc1 hc2 fin
  exact lv_dup cx.1 cx.2.1 hd (m_rv_c1 G v) (k p e R s m args below meth c H locs cells slots Q ls cx hP hS hl hc1 hc2 fin)
theorem r_dup2 {G : mG} {M : mM} {d rc rs pc : Nat} {L st : List Value} {h h' : mH} {r : Option Value} {v w : Value} (hd : decode M.2.1 pc = .ok (.dup2, 1)) (k : MW G M d rc rs (pc + 1) L (v :: w :: v :: w :: st) h r h') : MW G M d rc rs pc L (v :: w :: st) h r h' := by
  intro p e R s m args below meth c H locs cells slots Q ls cx hP hS hl hc1 hc2 fin
  exact lv_dup2_11 cx.1 cx.2.1 hd (m_rv_c1 G v) (m_rv_c1 G w) (k p e R s m args below meth c H locs cells slots Q ls cx hP hS hl hc1 hc2 fin)
theorem r_goto {G : mG} {M : mM} {d rc rs pc : Nat} {L st : List Value} {h h' : mH} {r : Option Value} {off : Int} {tgt : Nat} (hd : decode M.2.1 pc = .ok (.goto off, 3)) (ht : (pc : Int) + off = (tgt : Int)) (k : MW G M d rc rs tgt L (st) h r h') : MW G M d rc rs pc L (st) h r h' := by
  intro p e R s m args below meth c H locs cells slots Q ls cx hP hS hl hc1 hc2 fin
  exact lv_goto cx.1 cx.2.1 hd ht (k p e R s m args below meth c H locs cells slots Q ls cx hP hS hl hc1 hc2 fin)
theorem r_iinc {G : mG} {M : mM} {d rc rs pc : Nat} {L st : List Value} {h h' : mH} {r : Option Value} {i : Nat} {n : Int} {x y : Int32} {L' : List Value} (hd : decode M.2.1 pc = .ok (.iinc i n, 3)) (hi : L[i]? = some (.int x)) (hv : Int32.ofInt n = y) (hn : i < M.2.2.1) (hL : L.set i (.int (x + y)) = L') (k : MW G M d rc rs (pc + 3) L' st h r h') : MW G M d rc rs pc L st h r h' := by
  subst hL
  intro p e R s m args below meth c H locs cells slots Q ls cx hP hS hl hc1 hc2 fin
  have hm := m_lv_in (G := G) L 0 i _ hi (fun _ h => by cases h)
  obtain ⟨q, hq⟩ := List.getElem?_of_mem hm
  rw [Nat.zero_add] at hq
  exact lv_iinc (k := q) cx.1 cx.2.1 hd hl hq (by rw [hv]) hn rfl (fun ls hl => k p e R s m args below meth c H locs cells slots Q ls cx hP hS (m_stored (v := .int (x + y)) hl) hc1 hc2 fin)
theorem r_icmp_eq {G : mG} {M : mM} {d rc rs pc : Nat} {L st : List Value} {h h' : mH} {r : Option Value} {x y : Int32} {off : Int} {tgt : Nat} (hd : decode M.2.1 pc = .ok (.if_icmp .eq off, 3)) (ht : (pc : Int) + off = (tgt : Int)) (kt : x = y → MW G M d rc rs tgt L st h r h') (kf : ¬ x = y → MW G M d rc rs (pc + 3) L st h r h') : MW G M d rc rs pc L (.int y :: .int x :: st) h r h' := by
  intro p e R s m args below meth c H locs cells slots Q ls cx hP hS hl hc1 hc2 fin
  exact lv_icmp_eq cx.1 cx.2.1 hd ht (fun q => kt q p e R s m args below meth c H locs cells slots Q ls cx hP hS hl hc1 hc2 fin) (fun q => kf q p e R s m args below meth c H locs cells slots Q ls cx hP hS hl hc1 hc2 fin)
theorem r_if_eq {G : mG} {M : mM} {d rc rs pc : Nat} {L st : List Value} {h h' : mH} {r : Option Value} {x : Int32} {off : Int} {tgt : Nat} (hd : decode M.2.1 pc = .ok (.ifCond .eq off, 3)) (ht : (pc : Int) + off = (tgt : Int)) (kt : x = 0 → MW G M d rc rs tgt L st h r h') (kf : ¬ x = 0 → MW G M d rc rs (pc + 3) L st h r h') : MW G M d rc rs pc L (.int x :: st) h r h' := by
  intro p e R s m args below meth c H locs cells slots Q ls cx hP hS hl hc1 hc2 fin
  exact lv_if_eq cx.1 cx.2.1 hd ht (fun q => kt q p e R s m args below meth c H locs cells slots Q ls cx hP hS hl hc1 hc2 fin) (fun q => kf q p e R s m args below meth c H locs cells slots Q ls cx hP hS hl hc1 hc2 fin)
theorem r_icmp_ne {G : mG} {M : mM} {d rc rs pc : Nat} {L st : List Value} {h h' : mH} {r : Option Value} {x y : Int32} {off : Int} {tgt : Nat} (hd : decode M.2.1 pc = .ok (.if_icmp .ne off, 3)) (ht : (pc : Int) + off = (tgt : Int)) (kt : ¬ x = y → MW G M d rc rs tgt L st h r h') (kf : x = y → MW G M d rc rs (pc + 3) L st h r h') : MW G M d rc rs pc L (.int y :: .int x :: st) h r h' := by
  intro p e R s m args below meth c H locs cells slots Q ls cx hP hS hl hc1 hc2 fin
  exact lv_icmp_ne cx.1 cx.2.1 hd ht (fun q => kt q p e R s m args below meth c H locs cells slots Q ls cx hP hS hl hc1 hc2 fin) (fun q => kf q p e R s m args below meth c H locs cells slots Q ls cx hP hS hl hc1 hc2 fin)
theorem r_if_ne {G : mG} {M : mM} {d rc rs pc : Nat} {L st : List Value} {h h' : mH} {r : Option Value} {x : Int32} {off : Int} {tgt : Nat} (hd : decode M.2.1 pc = .ok (.ifCond .ne off, 3)) (ht : (pc : Int) + off = (tgt : Int)) (kt : ¬ x = 0 → MW G M d rc rs tgt L st h r h') (kf : x = 0 → MW G M d rc rs (pc + 3) L st h r h') : MW G M d rc rs pc L (.int x :: st) h r h' := by
  intro p e R s m args below meth c H locs cells slots Q ls cx hP hS hl hc1 hc2 fin
  exact lv_if_ne cx.1 cx.2.1 hd ht (fun q => kt q p e R s m args below meth c H locs cells slots Q ls cx hP hS hl hc1 hc2 fin) (fun q => kf q p e R s m args below meth c H locs cells slots Q ls cx hP hS hl hc1 hc2 fin)
theorem r_icmp_lt {G : mG} {M : mM} {d rc rs pc : Nat} {L st : List Value} {h h' : mH} {r : Option Value} {x y : Int32} {off : Int} {tgt : Nat} (hd : decode M.2.1 pc = .ok (.if_icmp .lt off, 3)) (ht : (pc : Int) + off = (tgt : Int)) (kt : x < y → MW G M d rc rs tgt L st h r h') (kf : ¬ x < y → MW G M d rc rs (pc + 3) L st h r h') : MW G M d rc rs pc L (.int y :: .int x :: st) h r h' := by
  intro p e R s m args below meth c H locs cells slots Q ls cx hP hS hl hc1 hc2 fin
  exact lv_icmp_lt cx.1 cx.2.1 hd ht (fun q => kt q p e R s m args below meth c H locs cells slots Q ls cx hP hS hl hc1 hc2 fin) (fun q => kf q p e R s m args below meth c H locs cells slots Q ls cx hP hS hl hc1 hc2 fin)
theorem r_if_lt {G : mG} {M : mM} {d rc rs pc : Nat} {L st : List Value} {h h' : mH} {r : Option Value} {x : Int32} {off : Int} {tgt : Nat} (hd : decode M.2.1 pc = .ok (.ifCond .lt off, 3)) (ht : (pc : Int) + off = (tgt : Int)) (kt : x < 0 → MW G M d rc rs tgt L st h r h') (kf : ¬ x < 0 → MW G M d rc rs (pc + 3) L st h r h') : MW G M d rc rs pc L (.int x :: st) h r h' := by
  intro p e R s m args below meth c H locs cells slots Q ls cx hP hS hl hc1 hc2 fin
  exact lv_if_lt cx.1 cx.2.1 hd ht (fun q => kt q p e R s m args below meth c H locs cells slots Q ls cx hP hS hl hc1 hc2 fin) (fun q => kf q p e R s m args below meth c H locs cells slots Q ls cx hP hS hl hc1 hc2 fin)
theorem r_icmp_ge {G : mG} {M : mM} {d rc rs pc : Nat} {L st : List Value} {h h' : mH} {r : Option Value} {x y : Int32} {off : Int} {tgt : Nat} (hd : decode M.2.1 pc = .ok (.if_icmp .ge off, 3)) (ht : (pc : Int) + off = (tgt : Int)) (kt : y ≤ x → MW G M d rc rs tgt L st h r h') (kf : ¬ y ≤ x → MW G M d rc rs (pc + 3) L st h r h') : MW G M d rc rs pc L (.int y :: .int x :: st) h r h' := by
  intro p e R s m args below meth c H locs cells slots Q ls cx hP hS hl hc1 hc2 fin
  exact lv_icmp_ge cx.1 cx.2.1 hd ht (fun q => kt q p e R s m args below meth c H locs cells slots Q ls cx hP hS hl hc1 hc2 fin) (fun q => kf q p e R s m args below meth c H locs cells slots Q ls cx hP hS hl hc1 hc2 fin)
theorem r_if_ge {G : mG} {M : mM} {d rc rs pc : Nat} {L st : List Value} {h h' : mH} {r : Option Value} {x : Int32} {off : Int} {tgt : Nat} (hd : decode M.2.1 pc = .ok (.ifCond .ge off, 3)) (ht : (pc : Int) + off = (tgt : Int)) (kt : 0 ≤ x → MW G M d rc rs tgt L st h r h') (kf : ¬ 0 ≤ x → MW G M d rc rs (pc + 3) L st h r h') : MW G M d rc rs pc L (.int x :: st) h r h' := by
  intro p e R s m args below meth c H locs cells slots Q ls cx hP hS hl hc1 hc2 fin
  exact lv_if_ge cx.1 cx.2.1 hd ht (fun q => kt q p e R s m args below meth c H locs cells slots Q ls cx hP hS hl hc1 hc2 fin) (fun q => kf q p e R s m args below meth c H locs cells slots Q ls cx hP hS hl hc1 hc2 fin)
theorem r_icmp_gt {G : mG} {M : mM} {d rc rs pc : Nat} {L st : List Value} {h h' : mH} {r : Option Value} {x y : Int32} {off : Int} {tgt : Nat} (hd : decode M.2.1 pc = .ok (.if_icmp .gt off, 3)) (ht : (pc : Int) + off = (tgt : Int)) (kt : y < x → MW G M d rc rs tgt L st h r h') (kf : ¬ y < x → MW G M d rc rs (pc + 3) L st h r h') : MW G M d rc rs pc L (.int y :: .int x :: st) h r h' := by
  intro p e R s m args below meth c H locs cells slots Q ls cx hP hS hl hc1 hc2 fin
  exact lv_icmp_gt cx.1 cx.2.1 hd ht (fun q => kt q p e R s m args below meth c H locs cells slots Q ls cx hP hS hl hc1 hc2 fin) (fun q => kf q p e R s m args below meth c H locs cells slots Q ls cx hP hS hl hc1 hc2 fin)
theorem r_if_gt {G : mG} {M : mM} {d rc rs pc : Nat} {L st : List Value} {h h' : mH} {r : Option Value} {x : Int32} {off : Int} {tgt : Nat} (hd : decode M.2.1 pc = .ok (.ifCond .gt off, 3)) (ht : (pc : Int) + off = (tgt : Int)) (kt : 0 < x → MW G M d rc rs tgt L st h r h') (kf : ¬ 0 < x → MW G M d rc rs (pc + 3) L st h r h') : MW G M d rc rs pc L (.int x :: st) h r h' := by
  intro p e R s m args below meth c H locs cells slots Q ls cx hP hS hl hc1 hc2 fin
  exact lv_if_gt cx.1 cx.2.1 hd ht (fun q => kt q p e R s m args below meth c H locs cells slots Q ls cx hP hS hl hc1 hc2 fin) (fun q => kf q p e R s m args below meth c H locs cells slots Q ls cx hP hS hl hc1 hc2 fin)
theorem r_icmp_le {G : mG} {M : mM} {d rc rs pc : Nat} {L st : List Value} {h h' : mH} {r : Option Value} {x y : Int32} {off : Int} {tgt : Nat} (hd : decode M.2.1 pc = .ok (.if_icmp .le off, 3)) (ht : (pc : Int) + off = (tgt : Int)) (kt : x ≤ y → MW G M d rc rs tgt L st h r h') (kf : ¬ x ≤ y → MW G M d rc rs (pc + 3) L st h r h') : MW G M d rc rs pc L (.int y :: .int x :: st) h r h' := by
  intro p e R s m args below meth c H locs cells slots Q ls cx hP hS hl hc1 hc2 fin
  exact lv_icmp_le cx.1 cx.2.1 hd ht (fun q => kt q p e R s m args below meth c H locs cells slots Q ls cx hP hS hl hc1 hc2 fin) (fun q => kf q p e R s m args below meth c H locs cells slots Q ls cx hP hS hl hc1 hc2 fin)
theorem r_if_le {G : mG} {M : mM} {d rc rs pc : Nat} {L st : List Value} {h h' : mH} {r : Option Value} {x : Int32} {off : Int} {tgt : Nat} (hd : decode M.2.1 pc = .ok (.ifCond .le off, 3)) (ht : (pc : Int) + off = (tgt : Int)) (kt : x ≤ 0 → MW G M d rc rs tgt L st h r h') (kf : ¬ x ≤ 0 → MW G M d rc rs (pc + 3) L st h r h') : MW G M d rc rs pc L (.int x :: st) h r h' := by
  intro p e R s m args below meth c H locs cells slots Q ls cx hP hS hl hc1 hc2 fin
  exact lv_if_le cx.1 cx.2.1 hd ht (fun q => kt q p e R s m args below meth c H locs cells slots Q ls cx hP hS hl hc1 hc2 fin) (fun q => kf q p e R s m args below meth c H locs cells slots Q ls cx hP hS hl hc1 hc2 fin)
theorem r_ifnull {G : mG} {M : mM} {d rc rs pc : Nat} {L st : List Value} {h h' : mH} {r : Option Value} {a : Nat} {off : Int} {tgt : Nat} (hd : decode M.2.1 pc = .ok (.ifnull off, 3)) (ht : (pc : Int) + off = (tgt : Int)) (k : MW G M d rc rs (pc + 3) L st h r h') : MW G M d rc rs pc L (.ref a :: st) h r h' := by
  intro p e R s m args below meth c H locs cells slots Q ls cx hP hS hl hc1 hc2 fin
  exact lv_ifnull cx.1 cx.2.1 hd (k p e R s m args below meth c H locs cells slots Q ls cx hP hS hl hc1 hc2 fin)
theorem r_ifnullN {G : mG} {M : mM} {d rc rs pc : Nat} {L st : List Value} {h h' : mH} {r : Option Value} {off : Int} {tgt : Nat} (hd : decode M.2.1 pc = .ok (.ifnull off, 3)) (ht : (pc : Int) + off = (tgt : Int)) (k : MW G M d rc rs tgt L st h r h') : MW G M d rc rs pc L (.null :: st) h r h' := by
  intro p e R s m args below meth c H locs cells slots Q ls cx hP hS hl hc1 hc2 fin
  exact lv_ifnullN cx.1 cx.2.1 hd ht (k p e R s m args below meth c H locs cells slots Q ls cx hP hS hl hc1 hc2 fin)
theorem r_ifnonnull {G : mG} {M : mM} {d rc rs pc : Nat} {L st : List Value} {h h' : mH} {r : Option Value} {a : Nat} {off : Int} {tgt : Nat} (hd : decode M.2.1 pc = .ok (.ifnonnull off, 3)) (ht : (pc : Int) + off = (tgt : Int)) (k : MW G M d rc rs tgt L st h r h') : MW G M d rc rs pc L (.ref a :: st) h r h' := by
  intro p e R s m args below meth c H locs cells slots Q ls cx hP hS hl hc1 hc2 fin
  exact lv_ifnonnull cx.1 cx.2.1 hd ht (k p e R s m args below meth c H locs cells slots Q ls cx hP hS hl hc1 hc2 fin)
theorem r_ifnonnullN {G : mG} {M : mM} {d rc rs pc : Nat} {L st : List Value} {h h' : mH} {r : Option Value} {off : Int} {tgt : Nat} (hd : decode M.2.1 pc = .ok (.ifnonnull off, 3)) (ht : (pc : Int) + off = (tgt : Int)) (k : MW G M d rc rs (pc + 3) L st h r h') : MW G M d rc rs pc L (.null :: st) h r h' := by
  intro p e R s m args below meth c H locs cells slots Q ls cx hP hS hl hc1 hc2 fin
  exact lv_ifnonnullN cx.1 cx.2.1 hd (k p e R s m args below meth c H locs cells slots Q ls cx hP hS hl hc1 hc2 fin)
theorem r_tabIn {G : mG} {M : mM} {d rc rs pc : Nat} {L st : List Value} {h h' : mH} {r : Option Value} {dflt lo hi : Int} {offs : Array Int} {len : Nat} {x : Int32} {off : Int} {tgt : Nat} (hd : decode M.2.1 pc = .ok (.tableswitch dflt lo hi offs, len)) (h1 : ¬ x.toInt < lo) (h2 : ¬ hi < x.toInt) (ho : offs[(x.toInt - lo).toNat]? = some off) (ht : (pc : Int) + off = (tgt : Int)) (k : MW G M d rc rs tgt L st h r h') : MW G M d rc rs pc L (.int x :: st) h r h' := by
  intro p e R s m args below meth c H locs cells slots Q ls cx hP hS hl hc1 hc2 fin
  exact lv_tableIn cx.1 cx.2.1 hd h1 h2 ho ht (k p e R s m args below meth c H locs cells slots Q ls cx hP hS hl hc1 hc2 fin)
theorem r_tabOut {G : mG} {M : mM} {d rc rs pc : Nat} {L st : List Value} {h h' : mH} {r : Option Value} {dflt lo hi : Int} {offs : Array Int} {len : Nat} {x : Int32} {tgt : Nat} (hd : decode M.2.1 pc = .ok (.tableswitch dflt lo hi offs, len)) (ho : x.toInt < lo ∨ hi < x.toInt) (ht : (pc : Int) + dflt = (tgt : Int)) (k : MW G M d rc rs tgt L st h r h') : MW G M d rc rs pc L (.int x :: st) h r h' := by
  intro p e R s m args below meth c H locs cells slots Q ls cx hP hS hl hc1 hc2 fin
  exact lv_tableOut cx.1 cx.2.1 hd ho ht (k p e R s m args below meth c H locs cells slots Q ls cx hP hS hl hc1 hc2 fin)
theorem r_look {G : mG} {M : mM} {d rc rs pc : Nat} {L st : List Value} {h h' : mH} {r : Option Value} {dflt : Int} {ps : Array (Int × Int)} {len : Nat} {x : Int32} {off : Int} {tgt : Nat} (hd : decode M.2.1 pc = .ok (.lookupswitch dflt ps, len)) (hp : (ps.toList.zip (ps.toList.drop 1)).all (fun (a, next) => a.1 < next.1) = true) (ho : Op.lookupswitch.offset ps.toList dflt x.toInt = off) (ht : (pc : Int) + off = (tgt : Int)) (k : MW G M d rc rs tgt L st h r h') : MW G M d rc rs pc L (.int x :: st) h r h' := by
  intro p e R s m args below meth c H locs cells slots Q ls cx hP hS hl hc1 hc2 fin
  exact lv_lookup cx.1 cx.2.1 hd hp ho ht (k p e R s m args below meth c H locs cells slots Q ls cx hP hS hl hc1 hc2 fin)
theorem r_ret {G : mG} {M : mM} {d rc rs pc : Nat} {L st : List Value} {h h' : mH} {r : Option Value} (hd : decode M.2.1 pc = .ok (m_retI M.2.2.2, 1)) (hr : r.toList = st) (hh : h = h') : MW G M d rc rs pc L st h r h' := by
  subst hh
  subst hr
  intro p e R s m args below meth c H locs cells slots Q ls cx hP hS hl hc1 hc2 fin
  exact fin pc ls H locs cells slots hd hP hS (by omega) (by omega)
end
section
/-! ===== rows of the small machine: fields, arrays, new cells ===== -/
def m_T (ci : Nat) : u_T := match ci with
  | 0 => TX0
  | 1 => TX1
  | 2 => TX2
  | 3 => TX3
  | 4 => TX4
  | 5 => TX5
  | 6 => TX6
  | _ => TX7
def m_R (ci : Nat) : String := match ci with
  | 0 => RX0
  | 1 => RX1
  | 2 => RX2
  | 3 => RX3
  | 4 => RX4
  | 5 => RX5
  | 6 => RX6
  | _ => RX7
def m_inAll (ci : Nat) : Bool := (u_ws (m_R ci) (m_T ci) (m_nF ci)).all (fun w => decide (w ∈ m_tbl))
theorem m_in_0 : m_inAll 0 = true := by decide +kernel
theorem m_in_1 : m_inAll 1 = true := by decide +kernel
theorem m_in_2 : m_inAll 2 = true := by decide +kernel
theorem m_in_3 : m_inAll 3 = true := by decide +kernel
theorem m_in_4 : m_inAll 4 = true := by decide +kernel
theorem m_in_5 : m_inAll 5 = true := by decide +kernel
theorem m_in_6 : m_inAll 6 = true := by decide +kernel
theorem m_in_7 : m_inAll 7 = true := by decide +kernel
theorem m_cl {ci : Nat} (h : ci < 8) : vwCl[ci]? = some (m_R ci, m_T ci, m_nF ci) ∧ (∀ w ∈ u_ws (m_R ci) (m_T ci) (m_nF ci), w ∈ m_tbl) ∧ (∀ k, k < m_nF ci → parseFieldDescriptor (m_T ci k).2.2.1 = some (m_ty ci k)) ∧ (∀ a, a < m_nF ci → ∀ b, b < m_nF ci → a ≠ b → (m_T ci a).2.1 ≠ (m_T ci b).2.1) := by
  have hin : ∀ {ci : Nat}, m_inAll ci = true → ∀ w ∈ u_ws (m_R ci) (m_T ci) (m_nF ci), w ∈ m_tbl := fun h w hw => of_decide_eq_true (List.all_eq_true.mp h w hw)
  match ci, h with
  | 0, _ => exact ⟨rfl, hin m_in_0, tyX0_ok, nmX0⟩
  | 1, _ => exact ⟨rfl, hin m_in_1, tyX1_ok, nmX1⟩
  | 2, _ => exact ⟨rfl, hin m_in_2, tyX2_ok, nmX2⟩
  | 3, _ => exact ⟨rfl, hin m_in_3, tyX3_ok, nmX3⟩
  | 4, _ => exact ⟨rfl, hin m_in_4, tyX4_ok, nmX4⟩
  | 5, _ => exact ⟨rfl, hin m_in_5, tyX5_ok, nmX5⟩
  | 6, _ => exact ⟨rfl, hin m_in_6, tyX6_ok, nmX6⟩
  | 7, _ => exact ⟨rfl, hin m_in_7, tyX7_ok, nmX7⟩
/-- a field's link: class, field -/
def m_FL (own : String) (idx ci k : Nat) : Prop := ci < 8 ∧ k < m_nF ci ∧ Cond.fieldLink own idx (m_T ci k).1 (m_T ci k).2.1 (m_T ci k).2.2.1 ∈ m_tbl
def m_up {α : Type} (g : Nat → Nat → α) (a k : Nat) (x : α) : Nat → Nat → α := fun a' => if a' = a then va_up (g a) k x else g a'
theorem m_up_same {α : Type} (g : Nat → Nat → α) (a k : Nat) (x : α) : m_up g a k x a = va_up (g a) k x := if_pos rfl
theorem m_up_ne {α : Type} (g : Nat → Nat → α) {a a' : Nat} (k : Nat) (x : α) (h : a' ≠ a) : m_up g a k x a' = g a' := if_neg h
theorem m_at.kept {G : mG} {sh : mSh} {f : Nat → Int32} {r : Nat → Option Nat} {a : Nat} {H H1 : Heap} (h : m_at G sh f r a H) (hq : H1[m_ad G a]? = H[m_ad G a]?) : m_at G sh f r a H1 := by
  match sh, h with
  | .inl ci, h => exact ⟨h.1, h.2.kept hq⟩
  | .inr (ti, n), h => exact ⟨h.1, hq.trans h.2⟩
theorem m_P.lt {G : mG} {h : mH} {H : Heap} (hP : m_P G h H) {a : Nat} {sh : mSh} (hs : h.1[a]? = some sh) : a < h.1.length ∧ a < 1000 ∧ m_ad G a = G.2.2.2.1 + a := by
  have h1 := (List.getElem?_eq_some_iff.mp hs).1
  have h2 := hP.2.2
  exact ⟨h1, by omega, m_A_ad (by omega)⟩
theorem m_P.set {G : mG} {h h1 : mH} {H H1 : Heap} {a : Nat} {sh : mSh} (hP : m_P G h H) (e1 : h1.1 = h.1) (ho : ∀ a', a' ≠ a → h1.2.1 a' = h.2.1 a' ∧ h1.2.2 a' = h.2.2 a') (hs : h.1[a]? = some sh) (hat : m_at G sh (h1.2.1 a) (h1.2.2 a) a H1) (z : H1.size = H.size) (oq : ∀ q, q ≠ m_ad G a → H1[q]? = H[q]?) : m_P G h1 H1 := by
  refine ⟨fun a' sh' hs' => ?_, by rw [z, e1]; exact hP.2.1, by rw [e1]; exact hP.2.2⟩
  rw [e1] at hs'
  by_cases ha : a' = a
  · subst ha
    cases hs.symm.trans hs'
    exact hat
  · rw [(ho a' ha).1, (ho a' ha).2]
    refine (hP.1 a' sh' hs').kept (oq _ ?_)
    rw [(hP.lt hs).2.2, (hP.lt hs').2.2]
    omega
theorem m_fv_i {G : mG} {ci k : Nat} {f : Nat → Int32} {r : Nat → Option Nat} (ht : (m_ty ci k).isReference = false) : m_fv G ci f r k = .int (f k) := by
  unfold m_fv; rw [if_neg (by rw [ht]; decide)]
theorem m_fv_r {G : mG} {ci k : Nat} {f : Nat → Int32} {r : Nat → Option Nat} (ht : (m_ty ci k).isReference = true) : m_fv G ci f r k = va_rf ((r k).map (m_ad G)) := by
  unfold m_fv; rw [if_pos ht]
theorem m_rf_rv (G : mG) (o : Option Nat) : va_rf (o.map (m_ad G)) = m_rv G (va_rf o) := by cases o <;> rfl
section RMEM
variable {G : mG} {M : mM} {d rc rs pc : Nat} {L st : List Value} {h h' : mH} {r : Option Value}
/-- what a getfield gives, in the machine -/
theorem m_getf {idx ci k a : Nat} {v : Value} (hd : decode M.2.1 pc = .ok (.getfield idx, 3)) (hf : m_FL M.1.cls idx ci k) (hs : h.1[a]? = some (.inl ci)) (hv : m_fv G ci (h.2.1 a) (h.2.2 a) k = m_rv G v) (kk : MW G M d rc rs (pc + 3) L (v :: st) h r h') : MW G M d rc rs pc L (.ref a :: st) h r h' := by
  intro p e R s m args below meth c H locs cells slots Q ls cx hP hS hl hc1 hc2 fin
  obtain ⟨hci, hk, hw⟩ := hf
  obtain ⟨hc, hin, hty, hnm⟩ := m_cl hci
  obtain ⟨-, cell, q1, q2, q3, q4⟩ := hP.1 a _ hs
  obtain ⟨hS1, hfc, kC, hkC, hkind⟩ := cx.2.2.2.2.2.1.1 ci _ hc
  obtain ⟨cf, kf, fi, f, hi, hsl⟩ := hS1 k hk
  have hst := (u_facts hfc hkC (u_lays cx.2.2.2.2.1 hin hk) hi).1
  refine W.getf (v := m_rv G v) cx.1 cx.2.1 cx.2.2.2.1 (cx.2.2.2.2.1 _ hw) hi hst q1 (by rw [q3]; intro h9; cases h9) (by rw [hsl, ← hv]; exact q4 k hk) rfl rfl hd ?_
  exact kk p e R s m args below meth c H locs cells slots Q ls cx hP hS hl hc1 hc2 fin
theorem r_geti {idx ci k a : Nat} (hd : decode M.2.1 pc = .ok (.getfield idx, 3)) (hf : m_FL M.1.cls idx ci k) (ht : (m_ty ci k).isReference = false) (hs : h.1[a]? = some (.inl ci)) (kk : MW G M d rc rs (pc + 3) L (.int (h.2.1 a k) :: st) h r h') : MW G M d rc rs pc L (.ref a :: st) h r h' :=
  m_getf hd hf hs (m_fv_i ht) kk
theorem r_getr {idx ci k a b : Nat} (hd : decode M.2.1 pc = .ok (.getfield idx, 3)) (hf : m_FL M.1.cls idx ci k) (ht : (m_ty ci k).isReference = true) (hs : h.1[a]? = some (.inl ci)) (hb : h.2.2 a k = some b) (kk : MW G M d rc rs (pc + 3) L (.ref b :: st) h r h') : MW G M d rc rs pc L (.ref a :: st) h r h' :=
  m_getf (v := .ref b) hd hf hs (by rw [m_fv_r ht, hb]; rfl) kk
theorem m_put {idx ci k a : Nat} {v : Value} {h1 : mH} (hd : decode M.2.1 pc = .ok (.putfield idx, 3)) (hf : m_FL M.1.cls idx ci k) (hfin : (m_T ci k).2.2.2 = false ∨ ((m_T ci k).1 = M.1.cls ∧ M.1.name = "<init>")) (hn : narrow (m_ty ci k) (m_rv G v) = m_rv G v) (hfit : fits (m_ty ci k) (m_rv G v) = true) (hs : h.1[a]? = some (.inl ci))
    (e1 : h1.1 = h.1) (ho : ∀ a', a' ≠ a → h1.2.1 a' = h.2.1 a' ∧ h1.2.2 a' = h.2.2 a') (hv : ∀ j, j < m_nF ci → updV (m_fv G ci (h.2.1 a) (h.2.2 a)) k (m_rv G v) j = m_fv G ci (h1.2.1 a) (h1.2.2 a) j) (kk : MW G M d rc rs (pc + 3) L st h1 r h') : MW G M d rc rs pc L (v :: .ref a :: st) h r h' := by
  intro p e R s m args below meth c H locs cells slots Q ls cx hP hS hl hc1 hc2 fin
  obtain ⟨hci, hk, hw⟩ := hf
  obtain ⟨hc, hin, hty, hnm⟩ := m_cl hci
  obtain ⟨-, cell, q1, q2, q3, q4⟩ := hP.1 a _ hs
  have hts := cx.2.2.2.2.1
  have hKn := cx.2.2.2.2.2.1.1 ci _ hc
  obtain ⟨hS1, hfc, kC, hkC, hkind⟩ := hKn
  obtain ⟨cf, kf, fi, f, hi, hsl⟩ := hS1 k hk
  have hlay := u_lays hts hin hk
  have hst := (u_facts hfc hkC hlay hi).1
  have hap := va_apart (own := M.1.cls) hts hin (m_ty ci) hty hnm cx.2.2.2.2.2.1 hc
  have hA : m_A G (m_ad G a) := by rw [(hP.lt hs).2.2]; exact Nat.le_add_right _ _
  have hgo : ∀ H' : Heap, H'[m_ad G a]? = some (cell.setSlot f.slot (m_rv G v)) → H'.size = H.size → (∀ q, q ≠ m_ad G a → H'[q]? = H[q]?) → W p G.1 e R s m args below meth c H' (locs ++ [⟨m_ad G a, f.slot⟩]) cells slots Q { (F0 m pc ls (m_rv G v :: .ref (m_ad G a) :: st.map (m_rv G))) with pc := pc + 3, stack := st.map (m_rv G) } := by
    intro H' x1 x2 x3
    refine kk p e R s m args below meth c H' _ cells slots Q ls cx ?_ (hS.put x2 x3 hA) hl hc1 hc2 fin
    refine hP.set e1 ho hs ⟨hci, ?_⟩ x2 x3
    rw [hsl] at x1
    exact t_OB.to (V := updV (m_fv G ci (h.2.1 a) (h.2.2 a)) k (m_rv G v)) ⟨_, x1, q2, q3, t_set q4 hap hk (m_rv G v)⟩ hv
  by_cases hfl : (m_T ci k).2.2.2 = true
  · have hi2 : M.1.name = "<init>" := by
      rcases hfin with h9 | h9
      · rw [h9] at hfl; cases hfl
      · exact h9.2
    have hdecl : (m_T ci k).1 = M.1.cls := by
      rcases hfin with h9 | h9
      · rw [h9] at hfl; cases hfl
      · exact h9.1
    have h6 := u_fits hfc hkC hkind hlay hi (hty k hk) hn hfit
    have hlay2 := hts _ (hin _ (u_in_lay hk))
    unfold u_lay at hlay2
    rw [if_pos hfl] at hlay2
    have hcf : m.cls = cf := by
      obtain ⟨_, _, c', _, _, _, -, -, hf', -, -, -, hown2, -⟩ := Cond.laysFinal_spec hlay2
      have e9 : c' = cf := by have h9 := hi.symm.trans hf'; simp at h9; exact h9.1.symm
      rw [hdecl] at hown2
      rw [← e9]; exact Option.some.inj (cx.2.2.2.1.symm.trans hown2)
    exact W.putFinK cx.1 cx.2.1 cx.2.2.2.1 (hts _ hw) hi hst hcf (cx.2.2.2.2.2.2.2.2.2.2.trans hi2) (by rw [q2]; exact h6) q1 q3 (by rw [hsl]; exact k2_hasslot (q4 k hk)) rfl rfl hd hgo
  · have hlay2 := hts _ (hin _ (u_in_lay hk))
    unfold u_lay at hlay2
    rw [if_neg hfl] at hlay2
    have h6 := u_store hfc hkC hkind hlay2 hi (hty k hk) hn hfit
    exact W.putK cx.1 cx.2.1 (f := f) ⟨cx.2.2.2.1, hts _ hw, ⟨_, _, _, hi⟩, hst⟩ (by rw [q2]; exact h6) q1 q3 (by rw [hsl]; exact k2_hasslot (q4 k hk)) rfl rfl hd hgo
theorem m_updV_i {G : mG} {ci k : Nat} {f : Nat → Int32} {r : Nat → Option Nat} {x : Int32} (ht : (m_ty ci k).isReference = false) (j : Nat) : updV (m_fv G ci f r) k (.int x) j = m_fv G ci (va_up f k x) r j := by
  unfold updV
  by_cases hj : j = k
  · subst hj
    rw [if_pos rfl, m_fv_i ht]
    simp [va_up]
  · rw [if_neg hj]
    unfold m_fv
    simp [va_up, hj]
theorem m_updV_r {G : mG} {ci k : Nat} {f : Nat → Int32} {r : Nat → Option Nat} {b : Nat} (ht : (m_ty ci k).isReference = true) (j : Nat) : updV (m_fv G ci f r) k (.ref (m_ad G b)) j = m_fv G ci f (va_up r k (some b)) j := by
  unfold updV
  by_cases hj : j = k
  · subst hj
    rw [if_pos rfl, m_fv_r ht]
    simp [va_up, va_rf]
  · rw [if_neg hj]
    unfold m_fv
    simp [va_up, hj]
theorem m_up_ho {α : Type} {g : Nat → Nat → α} {a k : Nat} {x : α} (a' : Nat) (h : a' ≠ a) : m_up g a k x a' = g a' := m_up_ne g k x h
/-- an int, or a boolean that is 0 or 1 -/
def m_okI (t : FieldType) (x : Int32) : Prop := t = .int ∨ (t = .boolean ∧ (x = 0 ∨ x = 1))
theorem m_okI.n {t : FieldType} {x : Int32} (h : m_okI t x) : narrow t (.int x) = .int x ∧ fits t (.int x) = true ∧ t.isReference = false := by
  rcases h with rfl | ⟨rfl, rfl | rfl⟩
  · exact ⟨rfl, rfl, rfl⟩
  · exact ⟨rfl, rfl, rfl⟩
  · exact ⟨rfl, rfl, rfl⟩
theorem r_puti {idx ci k a : Nat} {x : Int32} (hd : decode M.2.1 pc = .ok (.putfield idx, 3)) (hf : m_FL M.1.cls idx ci k) (hfin : (m_T ci k).2.2.2 = false ∨ ((m_T ci k).1 = M.1.cls ∧ M.1.name = "<init>")) (ht : m_okI (m_ty ci k) x) (hs : h.1[a]? = some (.inl ci)) (kk : MW G M d rc rs (pc + 3) L st (h.1, m_up h.2.1 a k x, h.2.2) r h') : MW G M d rc rs pc L (.int x :: .ref a :: st) h r h' :=
  m_put (h1 := (h.1, m_up h.2.1 a k x, h.2.2)) (v := .int x) hd hf hfin ht.n.1 ht.n.2.1 hs rfl (fun a' ha => ⟨m_up_ne _ _ _ ha, rfl⟩) (fun j _ => by show _ = m_fv G ci (m_up h.2.1 a k x a) (h.2.2 a) j; rw [m_up_same]; exact m_updV_i ht.n.2.2 j) kk
theorem r_putr {idx ci k a b : Nat} (hd : decode M.2.1 pc = .ok (.putfield idx, 3)) (hf : m_FL M.1.cls idx ci k) (hfin : (m_T ci k).2.2.2 = false ∨ ((m_T ci k).1 = M.1.cls ∧ M.1.name = "<init>")) (ht : (m_ty ci k).isReference = true) (hs : h.1[a]? = some (.inl ci)) (kk : MW G M d rc rs (pc + 3) L st (h.1, h.2.1, m_up h.2.2 a k (some b)) r h') : MW G M d rc rs pc L (.ref b :: .ref a :: st) h r h' :=
  m_put (h1 := (h.1, h.2.1, m_up h.2.2 a k (some b))) (v := .ref b) hd hf hfin (by generalize m_ty ci k = t at ht; cases t <;> first | rfl | (cases ht)) (by generalize m_ty ci k = t at ht; cases t <;> first | rfl | (cases ht)) hs rfl (fun a' ha => ⟨rfl, m_up_ne _ _ _ ha⟩) (fun j _ => by show _ = m_fv G ci (h.2.1 a) (m_up h.2.2 a k (some b) a) j; rw [m_up_same]; exact m_updV_r ht j) kk
/-- an index within -/
theorem r_iald {a n : Nat} {i : Int32} (hd : decode M.2.1 pc = .ok (.iaload, 1)) (hs : h.1[a]? = some (.inr (0, n))) (hin : vp_in i n) (kk : MW G M d rc rs (pc + 1) L (.int (h.2.1 a i.toNatClampNeg) :: st) h r h') : MW G M d rc rs pc L (.int i :: .ref a :: st) h r h' := by
  intro p e R s m args below meth c H locs cells slots Q ls cx hP hS hl hc1 hc2 fin
  obtain ⟨-, q1⟩ := hP.1 a _ hs
  have hlt : i.toNatClampNeg < n := Nat.not_le.mp fun q => hin (Or.inr q)
  refine W.iald (v := .int (h.2.1 a i.toNatClampNeg)) cx.1 cx.2.1 q1 ((cx.2.2.2.2.2.1.2 0 _ rfl).1 n _) (fun q => by cases q) (by rw [arrV_size]; exact hin) (by rw [arrV_read _ _ hlt]; rfl) rfl rfl hd ?_
  exact kk p e R s m args below meth c H locs cells slots Q ls cx hP hS hl hc1 hc2 fin
theorem r_zald {a n : Nat} {i : Int32} (hd : decode M.2.1 pc = .ok (.baload, 1)) (hs : h.1[a]? = some (.inr (1, n))) (hin : vp_in i n) (kk : MW G M d rc rs (pc + 1) L (.int (h.2.1 a i.toNatClampNeg) :: st) h r h') : MW G M d rc rs pc L (.int i :: .ref a :: st) h r h' := by
  intro p e R s m args below meth c H locs cells slots Q ls cx hP hS hl hc1 hc2 fin
  obtain ⟨-, q1⟩ := hP.1 a _ hs
  have hlt : i.toNatClampNeg < n := Nat.not_le.mp fun q => hin (Or.inr q)
  refine W.zald (v := .int (h.2.1 a i.toNatClampNeg)) cx.1 cx.2.1 q1 ((cx.2.2.2.2.2.1.2 1 _ rfl).1 n _) (fun q => by cases q) (by rw [arrV_size]; exact hin) (by rw [arrV_read _ _ hlt]; rfl) rfl rfl hd ?_
  exact kk p e R s m args below meth c H locs cells slots Q ls cx hP hS hl hc1 hc2 fin
theorem m_av_i {G : mG} {ti k : Nat} {f : Nat → Int32} {r : Nat → Option Nat} {x : Int32} (h : ti < 2) : updV (m_av G ti f r) k (.int x) = m_av G ti (va_up f k x) r := by
  funext j
  unfold updV m_av
  rw [if_pos h, if_pos h]
  by_cases hj : j = k
  · subst hj; simp [va_up]
  · simp [va_up, hj]
theorem m_av_r {G : mG} {ti k b : Nat} {f : Nat → Int32} {r : Nat → Option Nat} (h : ¬ ti < 2) : updV (m_av G ti f r) k (.ref (m_ad G b)) = m_av G ti f (va_up r k (some b)) := by
  funext j
  unfold updV m_av
  rw [if_neg h, if_neg h]
  by_cases hj : j = k
  · subst hj; simp [va_up, va_rf]
  · simp [va_up, hj]
theorem m_Aa {G : mG} {h : mH} {H : Heap} (hP : m_P G h H) {a : Nat} {sh : mSh} (hs : h.1[a]? = some sh) : m_A G (m_ad G a) := by rw [(hP.lt hs).2.2]; exact Nat.le_add_right _ _
theorem r_iast {a n : Nat} {i x : Int32} (hd : decode M.2.1 pc = .ok (.iastore, 1)) (hs : h.1[a]? = some (.inr (0, n))) (hin : vp_in i n) (kk : MW G M d rc rs (pc + 1) L st (h.1, m_up h.2.1 a i.toNatClampNeg x, h.2.2) r h') : MW G M d rc rs pc L (.int x :: .int i :: .ref a :: st) h r h' := by
  intro p e R s m args below meth c H locs cells slots Q ls cx hP hS hl hc1 hc2 fin
  obtain ⟨-, q1⟩ := hP.1 a _ hs
  refine W.iast cx.1 cx.2.1 q1 ((cx.2.2.2.2.2.1.2 0 _ rfl).1 n _) (fun q => by cases q) (by rw [arrV_size]; exact hin) rfl rfl hd fun H1 x1 x2 x3 => ?_
  refine kk p e R s m args below meth c H1 _ cells slots Q ls cx ?_ (hS.put x2 x3 (m_Aa hP hs)) hl hc1 hc2 fin
  refine hP.set rfl (fun a' ha => ⟨m_up_ne _ _ _ ha, rfl⟩) hs ⟨by decide, ?_⟩ x2 x3
  rw [x1, arrV_store, m_av_i (by decide)]
  rw [show (h.1, m_up h.2.1 a i.toNatClampNeg x, h.2.2).2.1 a = va_up (h.2.1 a) i.toNatClampNeg x from m_up_same _ _ _ _]
theorem r_zast {a n : Nat} {i x : Int32} (hd : decode M.2.1 pc = .ok (.bastore, 1)) (hs : h.1[a]? = some (.inr (1, n))) (hin : vp_in i n) (hx : x = 0 ∨ x = 1) (kk : MW G M d rc rs (pc + 1) L st (h.1, m_up h.2.1 a i.toNatClampNeg x, h.2.2) r h') : MW G M d rc rs pc L (.int x :: .int i :: .ref a :: st) h r h' := by
  intro p e R s m args below meth c H locs cells slots Q ls cx hP hS hl hc1 hc2 fin
  obtain ⟨-, q1⟩ := hP.1 a _ hs
  have hnar : narrow .boolean (.int x) = .int x := by rcases hx with rfl | rfl <;> rfl
  refine W.zast cx.1 cx.2.1 q1 ((cx.2.2.2.2.2.1.2 1 _ rfl).1 n _) (fun q => by cases q) (by rw [arrV_size]; exact hin) rfl rfl hd fun H1 x1 x2 x3 => ?_
  refine kk p e R s m args below meth c H1 _ cells slots Q ls cx ?_ (hS.put x2 x3 (m_Aa hP hs)) hl hc1 hc2 fin
  refine hP.set rfl (fun a' ha => ⟨m_up_ne _ _ _ ha, rfl⟩) hs ⟨by decide, ?_⟩ x2 x3
  rw [x1, hnar, arrV_store, m_av_i (by decide)]
  rw [show (h.1, m_up h.2.1 a i.toNatClampNeg x, h.2.2).2.1 a = va_up (h.2.1 a) i.toNatClampNeg x from m_up_same _ _ _ _]
theorem m_ty_ti {ti : Nat} (h : ¬ ti < 2) (h5 : ti < 5) : (m_tys G)[ti]? = some (G.2.2.1 ti, m_at_ty ti) ∧ ∃ C, m_at_ty ti = .object C := by
  match ti, h, h5 with
  | 2, _, _ => exact ⟨rfl, _, rfl⟩
  | 3, _, _ => exact ⟨rfl, _, rfl⟩
  | 4, _, _ => exact ⟨rfl, _, rfl⟩
  | 0, h, _ => exact absurd (by decide) h
  | 1, h, _ => exact absurd (by decide) h
theorem r_aald {a n ti b : Nat} {i : Int32} (hd : decode M.2.1 pc = .ok (.aaload, 1)) (hti : ¬ ti < 2) (hs : h.1[a]? = some (.inr (ti, n))) (hin : vp_in i n) (hb : h.2.2 a i.toNatClampNeg = some b) (kk : MW G M d rc rs (pc + 1) L (.ref b :: st) h r h') : MW G M d rc rs pc L (.int i :: .ref a :: st) h r h' := by
  intro p e R s m args below meth c H locs cells slots Q ls cx hP hS hl hc1 hc2 fin
  obtain ⟨h5, q1⟩ := hP.1 a _ hs
  have hlt : i.toNatClampNeg < n := Nat.not_le.mp fun q => hin (Or.inr q)
  obtain ⟨t1, C, t2⟩ := m_ty_ti (G := G) hti h5
  refine W.aald (v := .ref (m_ad G b)) (ty := m_at_ty ti) cx.1 cx.2.1 q1 ((cx.2.2.2.2.2.1.2 ti _ t1).1 n _) (by rw [t2]; rfl) (fun q => by cases q) (by rw [arrV_size]; exact hin) (by rw [arrV_read _ _ hlt]; unfold m_av; rw [if_neg hti, hb]; rfl) rfl rfl hd ?_
  exact kk p e R s m args below meth c H locs cells slots Q ls cx hP hS hl hc1 hc2 fin
theorem r_aast {a n ti b ci : Nat} {i : Int32} (hd : decode M.2.1 pc = .ok (.aastore, 1)) (hti : ¬ ti < 2) (hs : h.1[a]? = some (.inr (ti, n))) (hb : h.1[b]? = some (.inl ci)) (htc : m_at_ty ti = .object (m_R ci)) (hin : vp_in i n) (kk : MW G M d rc rs (pc + 1) L st (h.1, h.2.1, m_up h.2.2 a i.toNatClampNeg (some b)) r h') : MW G M d rc rs pc L (.ref b :: .int i :: .ref a :: st) h r h' := by
  intro p e R s m args below meth c H locs cells slots Q ls cx hP hS hl hc1 hc2 fin
  obtain ⟨h5, q1⟩ := hP.1 a _ hs
  have hlt : i.toNatClampNeg < n := Nat.not_le.mp fun q => hin (Or.inr q)
  have h0 : ¬ i < 0 := fun q => hin (Or.inl q)
  obtain ⟨t1, -⟩ := m_ty_ti (G := G) hti h5
  obtain ⟨hci, cellV, g1, g2, g3, -⟩ := hP.1 b _ hb
  have hcls := (cx.2.2.2.2.2.1.1 ci _ (m_cl hci).1).2
  have hRA := (cx.2.2.2.2.2.1.2 ti _ t1).2
  rw [htc] at hRA
  obtain ⟨kA, comp, k1, k2, k3, -⟩ := hRA
  have hcomp : comp = G.2.1.1 ci := Option.some.inj (k3.symm.trans hcls.1)
  subst hcomp
  obtain ⟨kC, hkC, -⟩ := id hcls.2
  refine W.aast cx.1 cx.2.1 q1 (fun q h9 => by cases h9) (fun h9 => by cases h9) k1 k2 rfl hkC ⟨h0, by rw [arrV_size]; exact hlt⟩ g1 (fun q h9 => by rw [g3] at h9; cases h9) (by rw [g2]; exact hkC) (by rw [g2]; exact va_assign hcls) rfl rfl hd fun H1 x1 x2 x3 => ?_
  refine kk p e R s m args below meth c H1 _ cells slots Q ls cx ?_ (hS.put x2 x3 (m_Aa hP hs)) hl hc1 hc2 fin
  refine hP.set rfl (fun a' ha => ⟨rfl, m_up_ne _ _ _ ha⟩) hs ⟨h5, ?_⟩ x2 x3
  rw [x1, arrV_store, m_av_r hti]
  rw [show (h.1, h.2.1, m_up h.2.2 a i.toNatClampNeg (some b)).2.2 a = va_up (h.2.2 a) i.toNatClampNeg (some b) from m_up_same _ _ _ _]
end RMEM
end
section
/-! ===== rows of the small machine: new cells, calls, a contract out of a walk ===== -/
theorem m_good : m_tbl.all goodWord = true := List.all_eq_true.mpr fun _ h => (List.mem_filter.mp h).2
theorem m_goodIn {w : Cond} (hw : w ∈ m_tbl) : GoodIn m_tbl (w :: m_tbl) := by
  intro x hx
  have hx' : x ∈ m_tbl := by
    rcases List.mem_cons.mp hx with rfl | h
    · exact hw
    · exact h
  exact ⟨hx', good_of_word (List.all_eq_true.mp m_good x hx')⟩
/-- a method's own words, and how many parameters it has -/
def m_ML (M : mM) (n : Nat) : Prop := Cond.code M.1 M.2.1 M.2.2.1 M.2.2.2 ∈ m_tbl ∧ Cond.initialized M.1.cls ∈ m_tbl ∧ (M.1.cls ≠ "java/lang/invoke/MethodHandle" ∧ M.1.cls ≠ "java/lang/invoke/VarHandle" ∧ (parseMethodDescriptor M.1.desc).map (fun d => d.parameters.length) = some n) ∧ M.2.2.1 ≤ 20 ∧ plainFor M.1 = true
/-- a virtual call's link -/
def m_LV (own : String) (idx : Nat) (M : mM) (n : Nat) : Prop := m_ML M n ∧ Cond.methodLink own idx M.1 ∈ m_tbl ∧ Cond.instanceMethod M.1 ∈ m_tbl ∧ Cond.selects M.1.cls M.1 M.1 ∈ m_tbl
/-- a static call's link -/
def m_LS (own : String) (idx : Nat) (M : mM) (n : Nat) : Prop := m_ML M n ∧ Cond.static M.1 ∈ m_tbl ∧ (Cond.methodLink own idx M.1 ∈ m_tbl ∨ ∃ host, (own, idx, M.1, host) ∈ m_nst)
/-- a constructor call's link -/
def m_LI (own : String) (idx : Nat) (M : mM) (n : Nat) : Prop := m_ML M n ∧ M.1.name = "<init>" ∧ M.2.2.2 = none ∧ Cond.instanceMethod M.1 ∈ m_tbl ∧ (Cond.methodLink own idx M.1 ∈ m_tbl ∨ ∃ host, (own, idx, M.1, host) ∈ m_nst)
theorem m_sum (G : mG) : ∀ l : List Value, ((l.map (m_rv G)).map fun v => v.category).sum = l.length
  | [] => rfl
  | v :: l => by
    show (m_rv G v).category + ((l.map (m_rv G)).map fun v => v.category).sum = l.length + 1
    rw [m_sum G l, m_rv_c1]
    omega
theorem m_St.moved {G : mG} {u U : State} {H : Heap} (hvm : u.vm.Alike U.vm) (h : m_St G u H) : m_St G U H := ⟨h.1.moved hvm, h.2.moved hvm⟩
theorem m_St.kept {G : mG} {U : State} {H H1 : Heap} (h : m_St G U H) (hq : ∀ a : Nat, a < H.size → ¬ m_A G a → H1[a]? = H[a]?) : m_St G U H1 := ⟨h.1.kept hq, h.2.kept hq⟩
section RCALL
variable {G : mG} {M : mM} {d rc rs pc : Nat} {L st : List Value} {h h' : mH} {r : Option Value}
def m_Pc (G : mG) (av : List Value) (h : mH) : Array Value → State → Prop := va_Pc (av.map (m_rv G)) (fun U => va_K G.2.1 vwCl (m_tys G) U ∧ (m_St G U U.heap ∧ m_N U) ∧ m_P G h U.heap)
theorem m_blind (G : mG) (av : List Value) (h : mH) : FrameBlind (m_Pc G av h) := by
  intro a U g mk q
  obtain ⟨q0, qK, qS, qP⟩ := q
  exact ⟨q0, va_K.moved (u := U) (U := U.calling g mk a) (Vm.Alike.refl U.vm) qK, ⟨m_St.moved (u := U) (U := U.calling g mk a) (Vm.Alike.refl U.vm) qS.1, m_N.same (s := U) (U := U.calling g mk a) rfl qS.2⟩, qP⟩
theorem m_pre {p : Program} {R : Room} {s : State} {m : MethodId} {args : Array Value} {meth : Method} {c : Code} {H : Heap} {locs : List Loc} (cx : m_Cx G M d p R s m args meth c) (hP : m_P G h H) (hS : va_S (m_A G) s.heap H locs) (av : List Value) : ∀ U : State, U.heap = H → s.WarmedH U.vm → m_Pc G av h (av.map (m_rv G)).toArray U := by
  intro U hU hW
  refine ⟨rfl, va_K.moved hW.alike cx.2.2.2.2.2.1, ?_, by rw [hU]; exact hP⟩
  rw [hU]
  exact ⟨(cx.2.2.2.2.2.2.1.1.kept (fun a h1 h2 => hS.2.1 a h1 h2)).moved hW.alike, cx.2.2.2.2.2.2.1.2.warm hW⟩
theorem m_go {p : Program} {e : Env} {R : Room} {s : State} {m : MethodId} {args : Array Value} {below : List Frame} {meth : Method} {c : Code} {H : Heap} {locs : List Loc} {cells slots mc ms : Nat} {Q : State → Prop} {ls : Array Slot} {st0 rest : List Value} {r1 : Option Value} {h1 : mH}
    (hr : va_Run p G.1 e R s m args below meth c H locs cells slots mc ms (F0 m pc ls st0) (rest.map (m_rv G)) (fun st oc t => oc = .returned (r1.map (m_rv G)) ∧ m_P G h1 t.heap ∧ va_F (m_A G) st t) (m_A G)) (hS : va_S (m_A G) s.heap H locs)
    (kk : ∀ (H1 : Heap) (locs1 : List Loc), m_P G h1 H1 → va_S (m_A G) s.heap H1 locs1 → W p G.1 e R s m args below meth c H1 locs1 (cells + mc) (slots + ms) Q (F0 m (pc + 3) ls ((r1.toList ++ rest).map (m_rv G)))) : W p G.1 e R s m args below meth c H locs cells slots Q (F0 m pc ls st0) := by
  intro T hT X
  obtain ⟨v, st₀, t, T', L, h0, X', hL, e1, e2, ⟨hv, hP1, hz, hk⟩, st⟩ := hr T hT X
  have hv := Outcome.returned.inj hv
  subst hv
  rw [h0] at hz hk
  have hS1 : va_S (m_A G) s.heap T'.heap (locs ++ L) := ⟨Nat.le_trans hS.1 (by rw [e1]; exact hz), fun q h1 h2 => by rw [e1, hk q (Nat.lt_of_lt_of_le h1 hS.1) h2]; exact hS.2.1 q h1 h2, fun q hq => by
      rcases List.mem_append.mp hq with h | h
      · exact hS.2.2 q h
      · exact hL q h⟩
  obtain ⟨t2, a1, b1⟩ := kk T'.heap (locs ++ L) (by rw [e1]; exact hP1) hS1 T' rfl X'
  refine ⟨t2, st t2 ?_, b1⟩
  have e9 : (r1.map (m_rv G)).toList ++ rest.map (m_rv G) = (r1.toList ++ rest).map (m_rv G) := by cases r1 <;> rfl
  rw [← e9] at a1
  exact a1
theorem r_callV {M' : mM} {d' mc ms idx n ci b : Nat} {As rest : List Value} {r1 : Option Value} {h1 : mH} (hC : MC G M' d' mc ms (.ref b :: As) h r1 h1) (hd : decode M.2.1 pc = .ok (.invokevirtual idx, 3)) (hl : m_LV M.1.cls idx M' n) (hs : h.1[b]? = some (.inl ci)) (hcl : m_R ci = M'.1.cls) (hn : As.length = n) (hst : As.reverse ++ .ref b :: rest = st) (hr : rest.length ≤ 8) (hdd : d' + 1 ≤ d) (hrc : mc ≤ rc) (hrs : ms ≤ rs)
    (kk : MW G M d (rc - mc) (rs - ms) (pc + 3) L (r1.toList ++ rest) h1 r h') : MW G M d rc rs pc L st h r h' := by
  subst hst
  intro p e R s m args below meth c H locs cells slots Q ls cx hP hS hlv hc1 hc2 fin
  obtain ⟨⟨hcode, hini, hy, hmL, hpl⟩, hlk, hins, hsel⟩ := hl
  have hts := cx.2.2.2.2.1
  obtain ⟨hci, cellB, g1, g2, g3, -⟩ := hP.1 b _ hs
  have hcls := (cx.2.2.2.2.2.1.1 ci _ (m_cl hci).1).2
  have hfr : d ≤ R.frames := cx.2.2.2.2.2.2.2.2.1
  have hlo : 39 * d ≤ R.locals := cx.2.2.2.2.2.2.2.2.2.1
  have cw : CallW R s args M.1.cls M'.1.cls idx M'.1 M'.2.1 M'.2.2.1 M'.2.2.2 (Cond.code M'.1 M'.2.1 M'.2.2.1 M'.2.2.2 :: m_tbl) { frames := d', cells := mc, slots := ms, locals := 39 * d' } mc ms n :=
    ⟨callB_of n hts (m_goodIn hcode) rfl rfl rfl (hts _ hini) (hts _ hlk) hy ⟨by show d' + 1 ≤ R.frames; omega, by show 8 + (M'.2.2.1 + 11) + 39 * d' ≤ R.locals; omega⟩, hts _ hins, hts _ hsel⟩
  refine m_go (mc := mc) (ms := ms) (rest := rest) (r1 := r1) (h1 := h1) (va_runV (As := As.map (m_rv G)) (b := m_ad G b) ⟨cx.1, cx.2.1, cx.2.2.1, cx.2.2.2.1, hts⟩ hC cw ⟨m_blind G _ _, ⟨cellB, g1, by rw [g3]; rfl, by rw [← hcl, g2]; exact hcls.1⟩, m_pre cx hP hS (.ref b :: As)⟩ rfl (by rw [List.length_map]; exact hn) hlv.1 (by show List.map _ _ = _; rw [List.map_append, List.map_reverse]; rfl) (lv_room (by rw [m_sum]; exact hr)) hd ⟨by omega, by omega⟩) hS ?_
  intro H1 locs1 hP1 hS1
  exact kk p e R s m args below meth c H1 locs1 (cells + mc) (slots + ms) Q ls cx hP1 hS1 hlv (by omega) (by omega) (fun pc' ls' H' locs' cells' slots' f1 f2 f3 f4 f5 => fin pc' ls' H' locs' cells' slots' f1 f2 f3 (by omega) (by omega))
theorem r_callS {M' : mM} {d' mc ms idx n : Nat} {As rest : List Value} {r1 : Option Value} {h1 : mH} (hC : MC G M' d' mc ms As h r1 h1) (hd : decode M.2.1 pc = .ok (.invokestatic idx, 3)) (hl : m_LS M.1.cls idx M' n) (hn : As.length = n) (hst : As.reverse ++ rest = st) (hr : rest.length ≤ 8) (hdd : d' + 1 ≤ d) (hrc : mc ≤ rc) (hrs : ms ≤ rs)
    (kk : MW G M d (rc - mc) (rs - ms) (pc + 3) L (r1.toList ++ rest) h1 r h') : MW G M d rc rs pc L st h r h' := by
  subst hst
  intro p e R s m args below meth c H locs cells slots Q ls cx hP hS hlv hc1 hc2 fin
  obtain ⟨⟨hcode, hini, hy, hmL, hpl⟩, hsta, hlk⟩ := hl
  have hts := cx.2.2.2.2.1
  have hfr : d ≤ R.frames := cx.2.2.2.2.2.2.2.2.1
  have hlo : 39 * d ≤ R.locals := cx.2.2.2.2.2.2.2.2.2.1
  have hRm : ({ frames := d', cells := mc, slots := ms, locals := 39 * d' } : Room).frames + 1 ≤ R.frames ∧ 8 + (M'.2.2.1 + 11) + ({ frames := d', cells := mc, slots := ms, locals := 39 * d' } : Room).locals ≤ R.locals := ⟨by show d' + 1 ≤ R.frames; omega, by show 8 + (M'.2.2.1 + 11) + 39 * d' ≤ R.locals; omega⟩
  have hrun : va_Run p G.1 e R s m args below meth c H locs cells slots mc ms (F0 m pc ls ((As.reverse ++ rest).map (m_rv G))) (rest.map (m_rv G)) (fun st oc t => oc = .returned (r1.map (m_rv G)) ∧ m_P G h1 t.heap ∧ va_F (m_A G) st t) (m_A G) := by
    rcases hlk with hlk | ⟨host, hlk⟩
    · exact va_runS (As := As.map (m_rv G)) ⟨cx.1, cx.2.1, cx.2.2.1, cx.2.2.2.1, hts⟩ hC ⟨callB_of n hts (m_goodIn hcode) rfl rfl rfl (hts _ hini) (hts _ hlk) hy hRm, hts _ hsta⟩ ⟨m_blind G _ _, m_pre cx hP hS As⟩ rfl (by rw [List.length_map]; exact hn) hlv.1 (by show List.map _ _ = _; rw [List.map_append, List.map_reverse]) (lv_room (by rw [m_sum]; exact hr)) hd ⟨by omega, by omega⟩
    · exact va_runSN (As := As.map (m_rv G)) ⟨cx.1, cx.2.1, cx.2.2.1, cx.2.2.2.1, hts⟩ hC ⟨va_cnB n hts (m_goodIn hcode) rfl rfl rfl (cx.2.2.2.2.2.2.1.2.1 _ hlk) (hts _ hini) hy hRm, hts _ hsta, trivial⟩ ⟨m_blind G _ _, m_pre cx hP hS As⟩ rfl (by rw [List.length_map]; exact hn) hlv.1 (by show List.map _ _ = _; rw [List.map_append, List.map_reverse]) (lv_room (by rw [m_sum]; exact hr)) hd ⟨by omega, by omega⟩
  refine m_go (mc := mc) (ms := ms) (rest := rest) (r1 := r1) (h1 := h1) hrun hS ?_
  intro H1 locs1 hP1 hS1
  exact kk p e R s m args below meth c H1 locs1 (cells + mc) (slots + ms) Q ls cx hP1 hS1 hlv (by omega) (by omega) (fun pc' ls' H' locs' cells' slots' f1 f2 f3 f4 f5 => fin pc' ls' H' locs' cells' slots' f1 f2 f3 (by omega) (by omega))
theorem r_callI {M' : mM} {d' mc ms idx n b : Nat} {As rest : List Value} {r1 : Option Value} {h1 : mH} (hC : MC G M' d' mc ms (.ref b :: As) h r1 h1) (hd : decode M.2.1 pc = .ok (.invokespecial idx, 3)) (hl : m_LI M.1.cls idx M' n) (hn : As.length = n) (hst : As.reverse ++ .ref b :: rest = st) (hr : rest.length ≤ 8) (hdd : d' + 1 ≤ d) (hrc : mc ≤ rc) (hrs : ms ≤ rs)
    (kk : MW G M d (rc - mc) (rs - ms) (pc + 3) L (r1.toList ++ rest) h1 r h') : MW G M d rc rs pc L st h r h' := by
  subst hst
  intro p e R s m args below meth c H locs cells slots Q ls cx hP hS hlv hc1 hc2 fin
  obtain ⟨⟨hcode, hini, hy, hmL, hpl⟩, hnm, hret, hins, hlk⟩ := hl
  have hts := cx.2.2.2.2.1
  have hfr : d ≤ R.frames := cx.2.2.2.2.2.2.2.2.1
  have hlo : 39 * d ≤ R.locals := cx.2.2.2.2.2.2.2.2.2.1
  rw [hret] at hcode
  unfold MC at hC
  rw [hret] at hC
  have hRm : ({ frames := d', cells := mc, slots := ms, locals := 39 * d' } : Room).frames + 1 ≤ R.frames ∧ 8 + (M'.2.2.1 + 11) + ({ frames := d', cells := mc, slots := ms, locals := 39 * d' } : Room).locals ≤ R.locals := ⟨by show d' + 1 ≤ R.frames; omega, by show 8 + (M'.2.2.1 + 11) + 39 * d' ≤ R.locals; omega⟩
  have hrun : va_Run p G.1 e R s m args below meth c H locs cells slots mc ms (F0 m pc ls ((As.reverse ++ .ref b :: rest).map (m_rv G))) (rest.map (m_rv G)) (fun st oc t => oc = .returned (r1.map (m_rv G)) ∧ m_P G h1 t.heap ∧ va_F (m_A G) st t) (m_A G) := by
    rcases hlk with hlk | ⟨host, hlk⟩
    · exact va_runI (As := As.map (m_rv G)) (b := m_ad G b) ⟨cx.1, cx.2.1, cx.2.2.1, cx.2.2.2.1, hts⟩ hC (cwI n hts (m_goodIn hcode) rfl rfl rfl (hts _ hini) (hts _ hlk) (hts _ hins) hnm hy hRm) ⟨m_blind G _ _, m_pre cx hP hS (.ref b :: As)⟩ rfl (by rw [List.length_map]; exact hn) hlv.1 (by show List.map _ _ = _; rw [List.map_append, List.map_reverse]; rfl) (lv_room (by rw [m_sum]; exact hr)) hd ⟨by omega, by omega⟩
    · exact va_runIN (As := As.map (m_rv G)) (b := m_ad G b) ⟨cx.1, cx.2.1, cx.2.2.1, cx.2.2.2.1, hts⟩ hC ⟨va_cnB n hts (m_goodIn hcode) rfl rfl rfl (cx.2.2.2.2.2.2.1.2.1 _ hlk) (hts _ hini) hy hRm, hnm, hts _ hins⟩ ⟨m_blind G _ _, m_pre cx hP hS (.ref b :: As)⟩ rfl (by rw [List.length_map]; exact hn) hlv.1 (by show List.map _ _ = _; rw [List.map_append, List.map_reverse]; rfl) (lv_room (by rw [m_sum]; exact hr)) hd ⟨by omega, by omega⟩
  refine m_go (mc := mc) (ms := ms) (rest := rest) (r1 := r1) (h1 := h1) hrun hS ?_
  intro H1 locs1 hP1 hS1
  exact kk p e R s m args below meth c H1 locs1 (cells + mc) (slots + ms) Q ls cx hP1 hS1 hlv (by omega) (by omega) (fun pc' ls' H' locs' cells' slots' f1 f2 f3 f4 f5 => fin pc' ls' H' locs' cells' slots' f1 f2 f3 (by omega) (by omega))
/-- Object.<init> -/
theorem r_obj {idx a : Nat} (hd : decode M.2.1 pc = .ok (.invokespecial idx, 3)) (h1 : Cond.methodLink M.1.cls idx Lib.objectInit ∈ m_tbl) (h2 : Cond.instanceMethod Lib.objectInit ∈ m_tbl) (h3 : Cond.code Lib.objectInit ⟨#[0xb1]⟩ 1 none ∈ m_tbl) (hr : st.length ≤ 8) (hdd : 1 ≤ d) (kk : MW G M d rc rs (pc + 3) L st h r h') : MW G M d rc rs pc L (.ref a :: st) h r h' := by
  intro p e R s m args below meth c H locs cells slots Q ls cx hP hS hlv hc1 hc2 fin
  have hts := cx.2.2.2.2.1
  have hfr : d ≤ R.frames := cx.2.2.2.2.2.2.2.2.1
  have hlo : 39 * d ≤ R.locals := cx.2.2.2.2.2.2.2.2.2.1
  refine W.objInit cx.1 cx.2.1 cx.2.2.2.1 (hts _ h1) (hts _ h2) (hts _ h3) rfl (hlv.1.trans cx.2.2.1.symm) rfl hd (by omega) (by show 2 * 0 + _ + 12 ≤ _; rw [m_sum]; omega) ?_
  exact kk p e R s m args below meth c H locs cells slots Q ls cx hP hS hlv hc1 hc2 fin
theorem r_min {idx : Nat} {x y : Int32} (hd : decode M.2.1 pc = .ok (.invokestatic idx, 3)) (h1 : Cond.methodLink M.1.cls idx Lib.Math.min.name ∈ m_tbl) (h2 : Cond.static Lib.Math.min.name ∈ m_tbl) (h3 : Cond.initialized "java/lang/Math" ∈ m_tbl) (h4 : Cond.code Lib.Math.min.name Lib.Math.min.code 2 (some .int) ∈ m_tbl) (hr : st.length ≤ 8) (hdd : 1 ≤ d) (kk : MW G M d rc rs (pc + 3) L (.int (if y < x then y else x) :: st) h r h') : MW G M d rc rs pc L (.int y :: .int x :: st) h r h' := by
  intro p e R s m args below meth c H locs cells slots Q ls cx hP hS hlv hc1 hc2 fin
  have hts := cx.2.2.2.2.1
  have hfr : d ≤ R.frames := cx.2.2.2.2.2.2.2.2.1
  have hlo : 39 * d ≤ R.locals := cx.2.2.2.2.2.2.2.2.2.1
  refine va_mmin cx.1 cx.2.1 (cx.2.2.1.trans hlv.1.symm) cx.2.2.2.1 (hts _ h1) (hts _ h2) (hts _ h3) (hts _ h4) (by omega) (by rw [m_sum]; omega) (by omega) (by omega) hd ?_
  exact kk p e R s m args below meth c H locs cells slots Q ls cx hP hS hlv hc1 hc2 fin
theorem r_abs {idx : Nat} {x : Int32} (hd : decode M.2.1 pc = .ok (.invokestatic idx, 3)) (h1 : Cond.methodLink M.1.cls idx Lib.Math.abs.name ∈ m_tbl) (h2 : Cond.static Lib.Math.abs.name ∈ m_tbl) (h3 : Cond.initialized "java/lang/Math" ∈ m_tbl) (h4 : Cond.code Lib.Math.abs.name Lib.Math.abs.code 1 (some .int) ∈ m_tbl) (hr : st.length ≤ 8) (hdd : 1 ≤ d) (kk : MW G M d rc rs (pc + 3) L (.int (if 0 ≤ x then x else 0 - x) :: st) h r h') : MW G M d rc rs pc L (.int x :: st) h r h' := by
  intro p e R s m args below meth c H locs cells slots Q ls cx hP hS hlv hc1 hc2 fin
  have hts := cx.2.2.2.2.1
  have hfr : d ≤ R.frames := cx.2.2.2.2.2.2.2.2.1
  have hlo : 39 * d ≤ R.locals := cx.2.2.2.2.2.2.2.2.2.1
  refine va_mabs cx.1 cx.2.1 (cx.2.2.1.trans hlv.1.symm) cx.2.2.2.1 (hts _ h1) (hts _ h2) (hts _ h3) (hts _ h4) (by omega) (by rw [m_sum]; omega) (by omega) (by omega) hd ?_
  exact kk p e R s m args below meth c H locs cells slots Q ls cx hP hS hlv hc1 hc2 fin
/-- the static row of widths: it is the cell 1000001 -/
theorem r_gets {idx : Nat} (hd : decode M.2.1 pc = .ok (.getstatic idx, 3)) (hw : Cond.fieldLink M.1.cls idx "MaskedCopies$WidthSearch" "WIDTHS" "[I" ∈ m_tbl) (kk : MW G M d rc rs (pc + 3) L (.ref 1000001 :: st) h r h') : MW G M d rc rs pc L st h r h' := by
  intro p e R s m args below meth c H locs cells slots Q ls cx hP hS hlv hc1 hc2 fin
  refine va_gets cx.1 cx.2.1 cx.2.2.2.2.2.2.1.1.1 hS cx.2.2.2.1 (cx.2.2.2.2.1 _ hw) (fun _ h9 => h9) hd ?_
  exact kk p e R s m args below meth c H locs cells slots Q ls cx hP hS hlv hc1 hc2 fin
theorem r_wald {i : Int32} (hd : decode M.2.1 pc = .ok (.iaload, 1)) (hin : vp_in i 4) (kk : MW G M d rc rs (pc + 1) L (.int (m_wid i.toNatClampNeg) :: st) h r h') : MW G M d rc rs pc L (.int i :: .ref 1000001 :: st) h r h' := by
  intro p e R s m args below meth c H locs cells slots Q ls cx hP hS hlv hc1 hc2 fin
  refine va_ti cx.1 cx.2.1 cx.2.2.2.2.2.2.1.1.2 hS hin rfl hd ?_
  exact kk p e R s m args below meth c H locs cells slots Q ls cx hP hS hlv hc1 hc2 fin
/-- what a method may return -/
def m_okR (ret : Option FieldType) (r : Option Value) : Prop := match ret with
  | none => r = none
  | some .int => ∃ x : Int32, r = some (.int x)
  | some .boolean => r = some (.int 0) ∨ r = some (.int 1)
  | some (.object _) => r = some .null ∨ ∃ a, r = some (.ref a)
  | _ => False
theorem m_args {G : mG} : ∀ (av : List Value) (n k : Nat) (q : Nat × Value), q ∈ m_lv G n (av ++ List.replicate k (.retAddr 0)) → q ∈ lv_args n (av.map (m_rv G))
  | [], n, k, q, h => by
    obtain ⟨i, v, e1, e2, -⟩ := m_lv_mem _ _ _ h
    rw [List.nil_append] at e1
    have := (List.eq_of_mem_replicate (List.mem_of_getElem? e1))
    exact absurd this (e2 0)
  | v :: av, n, k, q, h => by
    have key : q = (n, m_rv G v) ∨ q ∈ m_lv G (n + 1) (av ++ List.replicate k (.retAddr 0)) := by
      cases v with
      | retAddr z => exact Or.inr h
      | _ => exact List.mem_cons.mp h
    show q ∈ (n, m_rv G v) :: lv_args (if (m_rv G v).category = 2 then n + 2 else n + 1) (av.map (m_rv G))
    rw [m_rv_c1, if_neg (by decide)]
    rcases key with h1 | h1
    · rw [h1]; exact List.mem_cons_self
    · exact List.mem_cons_of_mem _ (m_args av (n + 1) k q h1)
theorem m_sl {G : mG} : ∀ (av : List Value), (lg_sl (av.map (m_rv G))).length = av.length
  | [] => rfl
  | v :: av => by
    show ((if (m_rv G v).category = 2 then [Slot.val (m_rv G v), .second] else [.val (m_rv G v)]) ++ lg_sl (av.map (m_rv G))).length = av.length + 1
    rw [m_rv_c1, if_neg (by decide), List.length_append, m_sl av]
    show 1 + _ = _
    omega
/-- a contract out of the walk of the body -/
theorem MC_intro {mc ms n : Nat} {av : List Value} (hM : m_ML M n) (hav : av.length ≤ M.2.2.1) (hr : m_okR M.2.2.2 r) (hL : av ++ List.replicate (M.2.2.1 - av.length) (.retAddr 0) = L) (hB : True) (kk : MW G M d mc ms 0 L [] h r h') : MC G M d mc ms av h r h' := by
  subst hL
  refine va_MetF (cc := M.2.1) (maxL := M.2.2.1) (ret := M.2.2.2) hM.2.2.2.2 rfl ?_
  intro p e s m args below meth c s₁ B hml hv
  obtain ⟨rfl, hK, hSt, hP⟩ := hv
  have hr2 := B.returns
  have hts0 := atoms_spec (ws := Cond.code M.1 M.2.1 M.2.2.1 M.2.2.2 :: m_tbl) B.pre
  have hts : ∀ w ∈ m_tbl, w.before (av.map (m_rv G)).toArray s = true := fun w hw => hts0 w (List.mem_cons_of_mem _ hw)
  have hown : s.vm.findClass M.1.cls = some m.cls := findClass_of_methodNamed B.named
  have hlocks := B.notSynchronized
  have hnm : meth.name = M.1.name := (name_of_methodNamed B.named B.method).1
  have hl := lv_entry (av.map (m_rv G)) (n := M.2.2.1) (by rw [m_sl]; exact hav)
  rw [lg_entry_eq]
  generalize (lg_sl (av.map (m_rv G)) ++ List.replicate (M.2.2.1 - (lg_sl (av.map (m_rv G))).length) Slot.unset).toArray = ls at hl ⊢
  have hl2 : lv_has ls M.2.2.1 (m_lv G 0 (av ++ List.replicate (M.2.2.1 - av.length) (.retAddr 0))) := ⟨hl.1, hl.2.1, fun q hq => hl.2.2 q (m_args av 0 _ q hq)⟩
  have hsz : G.2.2.2.1 ≤ s.heap.size := by rw [hP.2.1]; exact Nat.le_add_right _ _
  refine kk p e _ s m _ below meth c s.heap [] 0 0 _ ls ⟨B.exec, B.bytes, hml, hown, hts, hK, hSt, hsz, Nat.le_refl _, Nat.le_refl _, hnm⟩ hP va_S.rf hl2 (by show 0 + mc ≤ mc; omega) (by show 0 + ms ≤ ms; omega) ?_
  intro pc' ls' H' locs' cells' slots' hd hP' hS' hc hs
  refine W.widen (k := mc) (n := ms) (by omega) (by omega) ?_
  have hq : ∀ t : State, t.heap = H' → s.WarmedH t.vm → (.returned (r.map (m_rv G)) : Outcome) = .returned (r.map (m_rv G)) ∧ m_P G h' t.heap ∧ va_F (m_A G) s t := fun t ht _ => ⟨rfl, by rw [ht]; exact hP', hS'.F ht⟩
  obtain ⟨y, bb, mL, ret⟩ := M
  dsimp only at hr hr2 hd hq ⊢
  match ret, hr, hr2, hd with
  | none, hr, hr2, hd =>
    subst hr
    exact W.vret B.exec B.bytes hr2 hq hS'.2.2 hd
  | some .int, hr, hr2, hd =>
    obtain ⟨x, rfl⟩ := hr
    exact W.iret B.exec B.bytes hr2 hq hS'.2.2 hd
  | some .boolean, hr, hr2, hd =>
    rcases hr with rfl | rfl
    · exact W.zret B.exec B.bytes hr2 rfl hq hS'.2.2 hd
    · exact W.zret B.exec B.bytes hr2 rfl hq hS'.2.2 hd
  | some (.object C), hr, hr2, hd =>
    rcases hr with rfl | ⟨a, rfl⟩
    · exact W.aret B.exec B.bytes hr2 (Or.inl ⟨_, rfl⟩) (Or.inl rfl) hq hS'.2.2 hd
    · exact W.aret B.exec B.bytes hr2 (Or.inl ⟨_, rfl⟩) (Or.inr ⟨_, rfl⟩) hq hS'.2.2 hd
end RCALL
end
section
/-! ===== rows of the small machine: new cells ===== -/
def m_new (h : mH) (sh : mSh) : mH := (h.1 ++ [sh], va_up h.2.1 h.1.length (fun _ => 0), va_up h.2.2 h.1.length (fun _ => none))
def m_okT (ci : Nat) : Bool := (List.range (m_nF ci)).all (fun k => decide (m_ty ci k = .int) || decide (m_ty ci k = .boolean) || (m_ty ci k).isReference)
theorem m_okT_all : (List.range 8).all m_okT = true := by decide +kernel
theorem m_dflt {G : mG} {ci k : Nat} (hci : ci < 8) (hk : k < m_nF ci) : defaultValue (m_ty ci k) = m_fv G ci (fun _ => 0) (fun _ => none) k := by
  have h1 := List.all_eq_true.mp m_okT_all ci (List.mem_range.mpr hci)
  have h2 := List.all_eq_true.mp h1 k (List.mem_range.mpr hk)
  unfold m_fv
  generalize m_ty ci k = t at h2 ⊢
  cases t <;> first | rfl | (exact absurd h2 (by decide))
theorem m_P.push {G : mG} {h : mH} {H H1 : Heap} {sh : mSh} (hP : m_P G h H) (hlen : h.1.length + 1 ≤ 1000) (z : H1.size = H.size + 1) (oq : ∀ q, q < H.size → H1[q]? = H[q]?) (hat : m_at G sh (fun _ => 0) (fun _ => none) h.1.length H1) : m_P G (m_new h sh) H1 := by
  refine ⟨fun a sh' hs' => ?_, ?_, ?_⟩
  · by_cases ha : a < h.1.length
    · have hs2 : h.1[a]? = some sh' := by
        have h9 : (h.1 ++ [sh])[a]? = some sh' := hs'
        rwa [List.getElem?_append_left ha] at h9
      show m_at G sh' (va_up h.2.1 h.1.length (fun _ => 0) a) (va_up h.2.2 h.1.length (fun _ => none) a) a H1
      rw [va_up_ne _ _ (Nat.ne_of_lt ha), va_up_ne _ _ (Nat.ne_of_lt ha)]
      refine (hP.1 a sh' hs2).kept (oq _ ?_)
      rw [(hP.lt hs2).2.2, hP.2.1]
      omega
    · have h9 : (h.1 ++ [sh])[a]? = some sh' := hs'
      rw [List.getElem?_append_right (by omega)] at h9
      have hz : a - h.1.length < 1 := (List.getElem?_eq_some_iff.mp h9).1
      have ha0 : a = h.1.length := by omega
      subst ha0
      rw [Nat.sub_self] at h9
      cases h9
      show m_at G sh (va_up h.2.1 h.1.length (fun _ => 0) h.1.length) (va_up h.2.2 h.1.length (fun _ => none) h.1.length) h.1.length H1
      rw [va_up_self, va_up_self]
      exact hat
  · show H1.size = _ + (h.1 ++ [sh]).length
    rw [z, hP.2.1, List.length_append]
    rfl
  · show (h.1 ++ [sh]).length ≤ 1000
    rw [List.length_append]
    exact hlen
theorem m_P.next {G : mG} {h : mH} {H : Heap} (hP : m_P G h H) (hlen : h.1.length + 1 ≤ 1000) : m_ad G h.1.length = H.size := by rw [m_A_ad (by omega), hP.2.1]
theorem va_S.grow {A : Nat → Prop} {H0 H H1 : Heap} {locs : List Loc} (h : va_S A H0 H locs) (z : H1.size = H.size + 1) (oq : ∀ q, q < H.size → H1[q]? = H[q]?) : va_S A H0 H1 locs :=
  ⟨Nat.le_trans h.1 (by omega), fun q h1 h2 => (oq q (Nat.lt_of_lt_of_le h1 h.1)).trans (h.2.1 q h1 h2), h.2.2⟩
section RNEW
variable {G : mG} {M : mM} {d rc rs pc : Nat} {L st : List Value} {h h' : mH} {r : Option Value}
theorem r_new {idx ci : Nat} (hd : decode M.2.1 pc = .ok (.new idx, 3)) (hci : ci < 8) (h1 : Cond.classLink M.1.cls idx (m_R ci) ∈ m_tbl) (h2 : Cond.instantiable (m_R ci) (m_nF ci) ∈ m_tbl) (h3 : Cond.initialized (m_R ci) ∈ m_tbl) (hlen : h.1.length + 1 ≤ 1000) (hrc : 1 ≤ rc) (hrs : m_nF ci ≤ rs) (kk : MW G M d (rc - 1) (rs - m_nF ci) (pc + 3) L (.ref h.1.length :: st) (m_new h (.inl ci)) r h') : MW G M d rc rs pc L st h r h' := by
  intro p e R s m args below meth c H locs cells slots Q ls cx hP hS hl hc1 hc2 fin
  have hts := cx.2.2.2.2.1
  obtain ⟨hc, hin, hty, hnm⟩ := m_cl hci
  have hKn := cx.2.2.2.2.2.1.1 ci _ hc
  refine W.newcK (n := m_nF ci) cx.1 cx.2.1 cx.2.2.2.1 (hts _ h1) (hts _ h2) (hts _ h3) rfl hd (by omega) (by omega) hKn.2.1 rfl fun H1 kC hkC e1 z1 o1 => ?_
  have hat : m_at G (.inl ci) (fun _ => 0) (fun _ => none) h.1.length H1 := by
    refine ⟨hci, ?_⟩
    rw [hP.next hlen]
    exact (u_born (m_ty ci) hts hin hKn hkC e1 hty).to (fun k hk => m_dflt hci hk)
  have h9 := kk p e R s m args below meth c H1 locs (cells + 1) (slots + m_nF ci) Q ls cx (hP.push hlen z1 o1 hat) (hS.grow z1 o1) hl (by omega) (by omega) (fun pc' ls' H' locs' cells' slots' f1 f2 f3 f4 f5 => fin pc' ls' H' locs' cells' slots' f1 f2 f3 (by omega) (by omega))
  rw [← hP.next hlen]
  exact h9
theorem r_newa {ti N : Nat} {n : Int32} {atype : ArrayType} (hd : decode M.2.1 pc = .ok (.newarray atype, 2)) (hti : ti < 2) (hat0 : newarray.typeOf atype = m_at_ty ti) (h1 : Cond.arrayClass (m_at_ty ti) ∈ m_tbl) (hn : ¬ n < 0) (hN : n.toNatClampNeg = N) (hN2 : N ≤ 1000) (hlen : h.1.length + 1 ≤ 1000) (hrc : 1 ≤ rc) (hrs : N ≤ rs) (kk : MW G M d (rc - 1) (rs - N) (pc + 2) L (.ref h.1.length :: st) (m_new h (.inr (ti, N))) r h') : MW G M d rc rs pc L (.int n :: st) h r h' := by
  intro p e R s m args below meth c H locs cells slots Q ls cx hP hS hl hc1 hc2 fin
  have hts := cx.2.2.2.2.1
  have hb : N * componentBytes (newarray.typeOf atype) ≤ 536870912 := by
    rw [hat0]
    match ti, hti with
    | 0, _ => show N * 4 ≤ _; omega
    | 1, _ => show N * 1 ≤ _; omega
  refine va_newaK cx.1 cx.2.1 (by rw [hat0]; exact hts _ h1) rfl hd rfl hn hN hb (by omega) (by omega) rfl fun H1 cA e1 z1 o1 hAr hNm => ?_
  have hcA : cA = G.2.2.1 ti ∧ (fun _ : Nat => defaultValue (newarray.typeOf atype)) = m_av G ti (fun _ => 0) (fun _ => none) := by
    rw [hat0] at hNm ⊢
    match ti, hti with
    | 0, _ => exact ⟨Option.some.inj (hNm.symm.trans (cx.2.2.2.2.2.1.2 0 _ rfl).2), rfl⟩
    | 1, _ => exact ⟨Option.some.inj (hNm.symm.trans (cx.2.2.2.2.2.1.2 1 _ rfl).2), rfl⟩
  have hat : m_at G (.inr (ti, N)) (fun _ => 0) (fun _ => none) h.1.length H1 := by
    refine ⟨by omega, ?_⟩
    rw [hP.next hlen, ← hcA.2, ← hcA.1]
    exact e1
  have h9 := kk p e R s m args below meth c H1 locs (cells + 1) (slots + N) Q ls cx (hP.push hlen z1 o1 hat) (hS.grow z1 o1) hl (by omega) (by omega) (fun pc' ls' H' locs' cells' slots' f1 f2 f3 f4 f5 => fin pc' ls' H' locs' cells' slots' f1 f2 f3 (by omega) (by omega))
  rw [← hP.next hlen]
  exact h9
theorem r_newq {ti N idx : Nat} {n : Int32} {C : String} (hd : decode M.2.1 pc = .ok (.anewarray idx, 3)) (hti : ¬ ti < 2) (h5 : ti < 5) (hC : m_at_ty ti = .object C) (h1 : Cond.classLink M.1.cls idx C ∈ m_tbl) (h2 : C ∈ [RX0, RX3, RX4]) (hn : ¬ n < 0) (hN : n.toNatClampNeg = N) (hN2 : N ≤ 1000) (hlen : h.1.length + 1 ≤ 1000) (hrc : 1 ≤ rc) (hrs : N ≤ rs) (kk : MW G M d (rc - 1) (rs - N) (pc + 3) L (.ref h.1.length :: st) (m_new h (.inr (ti, N))) r h') : MW G M d rc rs pc L (.int n :: st) h r h' := by
  subst hN
  intro p e R s m args below meth c H locs cells slots Q ls cx hP hS hl hc1 hc2 fin
  have hts := cx.2.2.2.2.1
  refine W.anew cx.1 cx.2.1 cx.2.2.2.1 (hts _ h1) (va_AO.use (cx.2.2.2.2.2.2.1.2.2 C h2)) rfl hd rfl hn (by omega) (by omega) (by omega) fun cA kA comp f1 f2 f3 f4 => ?_
  generalize hH1 : H.push ({ cls := cA, slots := Array.replicate n.toNatClampNeg .null, vm := .none } : Cell) = H1
  have z1 : H1.size = H.size + 1 := by rw [← hH1, Array.size_push]
  have e1 : H1[H.size]? = some (arrV cA n.toNatClampNeg (fun _ => .null)) := by rw [← hH1, Array.getElem?_push_size, ← arrV_new]
  have o1 : ∀ q : Nat, q < H.size → H1[q]? = H[q]? := fun q hq => by rw [← hH1, Array.getElem?_push, if_neg (Nat.ne_of_lt hq)]
  have hRA := (cx.2.2.2.2.2.1.2 ti _ (m_ty_ti (G := G) hti h5).1).2
  rw [hC] at hRA
  obtain ⟨kA', comp', k1, k2, k3, k4⟩ := hRA
  have hcA : cA = G.2.2.1 ti := Option.some.inj (f1.symm.trans k4)
  have hav : (fun _ : Nat => Value.null) = m_av G ti (fun _ => 0) (fun _ => none) := by
    funext j
    unfold m_av
    rw [if_neg hti]
    rfl
  have hat : m_at G (.inr (ti, n.toNatClampNeg)) (fun _ => 0) (fun _ => none) h.1.length H1 := by
    refine ⟨h5, ?_⟩
    rw [hP.next hlen, ← hav, ← hcA]
    exact e1
  have h9 := kk p e R s m args below meth c H1 locs (cells + 1) (slots + n.toNatClampNeg) Q ls cx (hP.push hlen z1 o1 hat) (hS.grow z1 o1) hl (by omega) (by omega) (fun pc' ls' H' locs' cells' slots' f1 f2 f3 f4 f5 => fin pc' ls' H' locs' cells' slots' f1 f2 f3 (by omega) (by omega))
  rw [← hP.next hlen]
  exact h9
end RNEW
end
section
/-! ===== heads, words, links (written by wip/whole/mklinks.py) ===== -/
abbrev mX6_init : mM := (yX6_init, cX6_init, 2, none)
set_option maxRecDepth 100000 in
theorem mlX6_init : m_ML mX6_init 0 := ⟨m_mem 74 rfl rfl, m_mem 60 rfl rfl, by decide +kernel, by decide, by decide +kernel⟩
abbrev mX6_table : mM := (yX6_table, cX6_table, 1, some .int)
set_option maxRecDepth 100000 in
theorem mlX6_table : m_ML mX6_table 0 := ⟨m_mem 271 rfl rfl, m_mem 60 rfl rfl, by decide +kernel, by decide, by decide +kernel⟩
abbrev mX6_column : mM := (yX6_column, cX6_column, 5, some .int)
set_option maxRecDepth 100000 in
theorem mlX6_column : m_ML mX6_column 3 := ⟨m_mem 275 rfl rfl, m_mem 60 rfl rfl, by decide +kernel, by decide, by decide +kernel⟩
abbrev mX6_cell : mM := (yX6_cell, cX6_cell, 2, some .int)
set_option maxRecDepth 100000 in
theorem mlX6_cell : m_ML mX6_cell 1 := ⟨m_mem 287 rfl rfl, m_mem 60 rfl rfl, by decide +kernel, by decide, by decide +kernel⟩
abbrev mX6_row : mM := (yX6_row, cX6_row, 5, some .int)
set_option maxRecDepth 100000 in
theorem mlX6_row : m_ML mX6_row 1 := ⟨m_mem 291 rfl rfl, m_mem 60 rfl rfl, by decide +kernel, by decide, by decide +kernel⟩
abbrev mX6_wipe : mM := (yX6_wipe, cX6_wipe, 2, some .int)
set_option maxRecDepth 100000 in
theorem mlX6_wipe : m_ML mX6_wipe 0 := ⟨m_mem 334 rfl rfl, m_mem 60 rfl rfl, by decide +kernel, by decide, by decide +kernel⟩
abbrev mX6_owner : mM := (yX6_owner, cX6_owner, 6, some .int)
set_option maxRecDepth 100000 in
theorem mlX6_owner : m_ML mX6_owner 2 := ⟨m_mem 338 rfl rfl, m_mem 60 rfl rfl, by decide +kernel, by decide, by decide +kernel⟩
abbrev mX6_mask : mM := (yX6_mask, cX6_mask, 6, some .int)
set_option maxRecDepth 100000 in
theorem mlX6_mask : m_ML mX6_mask 4 := ⟨m_mem 346 rfl rfl, m_mem 60 rfl rfl, by decide +kernel, by decide, by decide +kernel⟩
abbrev mX6_dial : mM := (yX6_dial, cX6_dial, 8, some .int)
set_option maxRecDepth 100000 in
theorem mlX6_dial : m_ML mX6_dial 5 := ⟨m_mem 356 rfl rfl, m_mem 60 rfl rfl, by decide +kernel, by decide, by decide +kernel⟩
abbrev mX6_seed : mM := (yX6_seed, cX6_seed, 3, some .int)
set_option maxRecDepth 100000 in
theorem mlX6_seed : m_ML mX6_seed 1 := ⟨m_mem 367 rfl rfl, m_mem 60 rfl rfl, by decide +kernel, by decide, by decide +kernel⟩
abbrev mX6_order : mM := (yX6_order, cX6_order, 7, some .int)
set_option maxRecDepth 100000 in
theorem mlX6_order : m_ML mX6_order 3 := ⟨m_mem 371 rfl rfl, m_mem 60 rfl rfl, by decide +kernel, by decide, by decide +kernel⟩
abbrev mX6_agree : mM := (yX6_agree, cX6_agree, 11, some .int)
set_option maxRecDepth 100000 in
theorem mlX6_agree : m_ML mX6_agree 6 := ⟨m_mem 387 rfl rfl, m_mem 60 rfl rfl, by decide +kernel, by decide, by decide +kernel⟩
abbrev mX6_found : mM := (yX6_found, cX6_found, 5, some .int)
set_option maxRecDepth 100000 in
theorem mlX6_found : m_ML mX6_found 2 := ⟨m_mem 398 rfl rfl, m_mem 60 rfl rfl, by decide +kernel, by decide, by decide +kernel⟩
abbrev mX6_unrule : mM := (yX6_unrule, cX6_unrule, 2, some .int)
set_option maxRecDepth 100000 in
theorem mlX6_unrule : m_ML mX6_unrule 0 := ⟨m_mem 406 rfl rfl, m_mem 60 rfl rfl, by decide +kernel, by decide, by decide +kernel⟩
abbrev mX6_broken : mM := (yX6_broken, cX6_broken, 3, some .int)
set_option maxRecDepth 100000 in
theorem mlX6_broken : m_ML mX6_broken 1 := ⟨m_mem 410 rfl rfl, m_mem 60 rfl rfl, by decide +kernel, by decide, by decide +kernel⟩
abbrev mX6_make : mM := (yX6_make, cX6_make, 3, some .int)
set_option maxRecDepth 100000 in
theorem mlX6_make : m_ML mX6_make 0 := ⟨m_mem 434 rfl rfl, m_mem 60 rfl rfl, by decide +kernel, by decide, by decide +kernel⟩
abbrev mX6_at : mM := (yX6_at, cX6_at, 6, some .int)
set_option maxRecDepth 100000 in
theorem mlX6_at : m_ML mX6_at 4 := ⟨m_mem 522 rfl rfl, m_mem 60 rfl rfl, by decide +kernel, by decide, by decide +kernel⟩
abbrev mX6_turned : mM := (yX6_turned, cX6_turned, 6, some .int)
set_option maxRecDepth 100000 in
theorem mlX6_turned : m_ML mX6_turned 3 := ⟨m_mem 530 rfl rfl, m_mem 60 rfl rfl, by decide +kernel, by decide, by decide +kernel⟩
abbrev mX6_shift : mM := (yX6_shift, cX6_shift, 2, some .int)
set_option maxRecDepth 100000 in
theorem mlX6_shift : m_ML mX6_shift 1 := ⟨m_mem 534 rfl rfl, m_mem 60 rfl rfl, by decide +kernel, by decide, by decide +kernel⟩
abbrev mX6_count : mM := (yX6_count, cX6_count, 6, some .int)
set_option maxRecDepth 100000 in
theorem mlX6_count : m_ML mX6_count 4 := ⟨m_mem 538 rfl rfl, m_mem 60 rfl rfl, by decide +kernel, by decide, by decide +kernel⟩
abbrev mX6_joins : mM := (yX6_joins, cX6_joins, 8, some .int)
set_option maxRecDepth 100000 in
theorem mlX6_joins : m_ML mX6_joins 3 := ⟨m_mem 542 rfl rfl, m_mem 60 rfl rfl, by decide +kernel, by decide, by decide +kernel⟩
abbrev mX6_miss : mM := (yX6_miss, cX6_miss, 8, some .int)
set_option maxRecDepth 100000 in
theorem mlX6_miss : m_ML mX6_miss 2 := ⟨m_mem 546 rfl rfl, m_mem 60 rfl rfl, by decide +kernel, by decide, by decide +kernel⟩
abbrev mX6_could : mM := (yX6_could, cX6_could, 4, some .int)
set_option maxRecDepth 100000 in
theorem mlX6_could : m_ML mX6_could 3 := ⟨m_mem 553 rfl rfl, m_mem 60 rfl rfl, by decide +kernel, by decide, by decide +kernel⟩
abbrev mX6_alike : mM := (yX6_alike, cX6_alike, 5, some .int)
set_option maxRecDepth 100000 in
theorem mlX6_alike : m_ML mX6_alike 2 := ⟨m_mem 590 rfl rfl, m_mem 60 rfl rfl, by decide +kernel, by decide, by decide +kernel⟩
abbrev mX6_sure : mM := (yX6_sure, cX6_sure, 8, some .int)
set_option maxRecDepth 100000 in
theorem mlX6_sure : m_ML mX6_sure 4 := ⟨m_mem 595 rfl rfl, m_mem 60 rfl rfl, by decide +kernel, by decide, by decide +kernel⟩
abbrev mX6_loss : mM := (yX6_loss, cX6_loss, 4, some .int)
set_option maxRecDepth 100000 in
theorem mlX6_loss : m_ML mX6_loss 2 := ⟨m_mem 599 rfl rfl, m_mem 60 rfl rfl, by decide +kernel, by decide, by decide +kernel⟩
abbrev mX6_best : mM := (yX6_best, cX6_best, 8, some .int)
set_option maxRecDepth 100000 in
theorem mlX6_best : m_ML mX6_best 3 := ⟨m_mem 607 rfl rfl, m_mem 60 rfl rfl, by decide +kernel, by decide, by decide +kernel⟩
abbrev mX6_about : mM := (yX6_about, cX6_about, 6, some .int)
set_option maxRecDepth 100000 in
theorem mlX6_about : m_ML mX6_about 3 := ⟨m_mem 679 rfl rfl, m_mem 60 rfl rfl, by decide +kernel, by decide, by decide +kernel⟩
abbrev mX6_all : mM := (yX6_all, cX6_all, 2, some .int)
set_option maxRecDepth 100000 in
theorem mlX6_all : m_ML mX6_all 1 := ⟨m_mem 683 rfl rfl, m_mem 60 rfl rfl, by decide +kernel, by decide, by decide +kernel⟩
abbrev mX6_tableAt : mM := (yX6_tableAt, cX6_tableAt, 2, some (.object "MaskedCopies$Table"))
set_option maxRecDepth 100000 in
theorem mlX6_tableAt : m_ML mX6_tableAt 1 := ⟨m_mem 279 rfl rfl, m_mem 60 rfl rfl, by decide +kernel, by decide, by decide +kernel⟩
abbrev mX6_columnAt : mM := (yX6_columnAt, cX6_columnAt, 4, some (.object "MaskedCopies$Column"))
set_option maxRecDepth 100000 in
theorem mlX6_columnAt : m_ML mX6_columnAt 2 := ⟨m_mem 342 rfl rfl, m_mem 60 rfl rfl, by decide +kernel, by decide, by decide +kernel⟩
abbrev mX6_rowsOf : mM := (yX6_rowsOf, cX6_rowsOf, 3, some .int)
set_option maxRecDepth 100000 in
theorem mlX6_rowsOf : m_ML mX6_rowsOf 1 := ⟨m_mem 318 rfl rfl, m_mem 60 rfl rfl, by decide +kernel, by decide, by decide +kernel⟩
abbrev mX6_columnsOf : mM := (yX6_columnsOf, cX6_columnsOf, 3, some .int)
set_option maxRecDepth 100000 in
theorem mlX6_columnsOf : m_ML mX6_columnsOf 1 := ⟨m_mem 561 rfl rfl, m_mem 60 rfl rfl, by decide +kernel, by decide, by decide +kernel⟩
abbrev mX6_isRow : mM := (yX6_isRow, cX6_isRow, 3, some .boolean)
set_option maxRecDepth 100000 in
theorem mlX6_isRow : m_ML mX6_isRow 2 := ⟨m_mem 526 rfl rfl, m_mem 60 rfl rfl, by decide +kernel, by decide, by decide +kernel⟩
abbrev mX6_copyOf : mM := (yX6_copyOf, cX6_copyOf, 2, some (.object "MaskedCopies$Copy"))
set_option maxRecDepth 100000 in
theorem mlX6_copyOf : m_ML mX6_copyOf 1 := ⟨m_mem 414 rfl rfl, m_mem 60 rfl rfl, by decide +kernel, by decide, by decide +kernel⟩
abbrev mX6_areColumns : mM := (yX6_areColumns, cX6_areColumns, 3, some .boolean)
set_option maxRecDepth 100000 in
theorem mlX6_areColumns : m_ML mX6_areColumns 2 := ⟨m_mem 557 rfl rfl, m_mem 60 rfl rfl, by decide +kernel, by decide, by decide +kernel⟩
abbrev mX6_rowsWith : mM := (yX6_rowsWith, cX6_rowsWith, 7, some .int)
set_option maxRecDepth 100000 in
theorem mlX6_rowsWith : m_ML mX6_rowsWith 4 := ⟨m_mem 314 rfl rfl, m_mem 60 rfl rfl, by decide +kernel, by decide, by decide +kernel⟩
abbrev mX6_isBit : mM := (yX6_isBit, cX6_isBit, 1, some .boolean)
set_option maxRecDepth 100000 in
theorem mlX6_isBit : m_ML mX6_isBit 1 := ⟨m_mem 390 rfl rfl, m_mem 60 rfl rfl, by decide +kernel, by decide, by decide +kernel⟩
abbrev mX6_hasBit : mM := (yX6_hasBit, cX6_hasBit, 2, some .boolean)
set_option maxRecDepth 100000 in
theorem mlX6_hasBit : m_ML mX6_hasBit 2 := ⟨m_mem 572 rfl rfl, m_mem 60 rfl rfl, by decide +kernel, by decide, by decide +kernel⟩
abbrev mX6_rightFigure : mM := (yX6_rightFigure, cX6_rightFigure, 5, some .int)
set_option maxRecDepth 100000 in
theorem mlX6_rightFigure : m_ML mX6_rightFigure 1 := ⟨m_mem 310 rfl rfl, m_mem 60 rfl rfl, by decide +kernel, by decide, by decide +kernel⟩
abbrev mX6_isKeyNumber : mM := (yX6_isKeyNumber, cX6_isKeyNumber, 1, some .boolean)
set_option maxRecDepth 100000 in
theorem mlX6_isKeyNumber : m_ML mX6_isKeyNumber 1 := ⟨m_mem 306 rfl rfl, m_mem 60 rfl rfl, by decide +kernel, by decide, by decide +kernel⟩
abbrev mX6_isNumberOfKind : mM := (yX6_isNumberOfKind, cX6_isNumberOfKind, 2, some .boolean)
set_option maxRecDepth 100000 in
theorem mlX6_isNumberOfKind : m_ML mX6_isNumberOfKind 2 := ⟨m_mem 303 rfl rfl, m_mem 60 rfl rfl, by decide +kernel, by decide, by decide +kernel⟩
abbrev mX6_waitingCellsFit : mM := (yX6_waitingCellsFit, cX6_waitingCellsFit, 5, some .boolean)
set_option maxRecDepth 100000 in
theorem mlX6_waitingCellsFit : m_ML mX6_waitingCellsFit 1 := ⟨m_mem 295 rfl rfl, m_mem 60 rfl rfl, by decide +kernel, by decide, by decide +kernel⟩
abbrev mX6_isMaskOf : mM := (yX6_isMaskOf, cX6_isMaskOf, 2, some .boolean)
set_option maxRecDepth 100000 in
theorem mlX6_isMaskOf : m_ML mX6_isMaskOf 2 := ⟨m_mem 349 rfl rfl, m_mem 60 rfl rfl, by decide +kernel, by decide, by decide +kernel⟩
abbrev mX6_isNumberOf : mM := (yX6_isNumberOf, cX6_isNumberOf, 2, some .boolean)
set_option maxRecDepth 100000 in
theorem mlX6_isNumberOf : m_ML mX6_isNumberOf 2 := ⟨m_mem 352 rfl rfl, m_mem 60 rfl rfl, by decide +kernel, by decide, by decide +kernel⟩
abbrev mX6_dialDigit : mM := (yX6_dialDigit, cX6_dialDigit, 5, some .int)
set_option maxRecDepth 100000 in
theorem mlX6_dialDigit : m_ML mX6_dialDigit 4 := ⟨m_mem 359 rfl rfl, m_mem 60 rfl rfl, by decide +kernel, by decide, by decide +kernel⟩
abbrev mX6_draftMasked : mM := (yX6_draftMasked, cX6_draftMasked, 7, none)
set_option maxRecDepth 100000 in
theorem mlX6_draftMasked : m_ML mX6_draftMasked 1 := ⟨m_mem 438 rfl rfl, m_mem 60 rfl rfl, by decide +kernel, by decide, by decide +kernel⟩
abbrev mX6_maskedCell : mM := (yX6_maskedCell, cX6_maskedCell, 8, some .int)
set_option maxRecDepth 100000 in
theorem mlX6_maskedCell : m_ML mX6_maskedCell 4 := ⟨m_mem 483 rfl rfl, m_mem 60 rfl rfl, by decide +kernel, by decide, by decide +kernel⟩
abbrev mX6_turnedRef : mM := (yX6_turnedRef, cX6_turnedRef, 4, some .int)
set_option maxRecDepth 100000 in
theorem mlX6_turnedRef : m_ML mX6_turnedRef 2 := ⟨m_mem 491 rfl rfl, m_mem 60 rfl rfl, by decide +kernel, by decide, by decide +kernel⟩
abbrev mX6_dealtCell : mM := (yX6_dealtCell, cX6_dealtCell, 6, some .int)
set_option maxRecDepth 100000 in
theorem mlX6_dealtCell : m_ML mX6_dealtCell 4 := ⟨m_mem 487 rfl rfl, m_mem 60 rfl rfl, by decide +kernel, by decide, by decide +kernel⟩
abbrev mX6_tooFine : mM := (yX6_tooFine, cX6_tooFine, 2, some .int)
set_option maxRecDepth 100000 in
theorem mlX6_tooFine : m_ML mX6_tooFine 2 := ⟨m_mem 507 rfl rfl, m_mem 60 rfl rfl, by decide +kernel, by decide, by decide +kernel⟩
abbrev mX6_lossBy : mM := (yX6_lossBy, cX6_lossBy, 7, some .int)
set_option maxRecDepth 100000 in
theorem mlX6_lossBy : m_ML mX6_lossBy 3 := ⟨m_mem 603 rfl rfl, m_mem 60 rfl rfl, by decide +kernel, by decide, by decide +kernel⟩
abbrev mX6_ownerOf : mM := (yX6_ownerOf, cX6_ownerOf, 4, some .int)
set_option maxRecDepth 100000 in
theorem mlX6_ownerOf : m_ML mX6_ownerOf 2 := ⟨m_mem 451 rfl rfl, m_mem 60 rfl rfl, by decide +kernel, by decide, by decide +kernel⟩
abbrev mX6_shiftOf : mM := (yX6_shiftOf, cX6_shiftOf, 4, some .int)
set_option maxRecDepth 100000 in
theorem mlX6_shiftOf : m_ML mX6_shiftOf 1 := ⟨m_mem 455 rfl rfl, m_mem 60 rfl rfl, by decide +kernel, by decide, by decide +kernel⟩
abbrev mX6_narrowRoom : mM := (yX6_narrowRoom, cX6_narrowRoom, 5, none)
set_option maxRecDepth 100000 in
theorem mlX6_narrowRoom : m_ML mX6_narrowRoom 2 := ⟨m_mem 463 rfl rfl, m_mem 60 rfl rfl, by decide +kernel, by decide, by decide +kernel⟩
abbrev mX6_narrowRoomByRow : mM := (yX6_narrowRoomByRow, cX6_narrowRoomByRow, 6, none)
set_option maxRecDepth 100000 in
theorem mlX6_narrowRoomByRow : m_ML mX6_narrowRoomByRow 3 := ⟨m_mem 467 rfl rfl, m_mem 60 rfl rfl, by decide +kernel, by decide, by decide +kernel⟩
abbrev mX6_nextRule : mM := (yX6_nextRule, cX6_nextRule, 1, some (.object "MaskedCopies$Rule"))
set_option maxRecDepth 100000 in
theorem mlX6_nextRule : m_ML mX6_nextRule 0 := ⟨m_mem 375 rfl rfl, m_mem 60 rfl rfl, by decide +kernel, by decide, by decide +kernel⟩
abbrev mX6_addRule : mM := (yX6_addRule, cX6_addRule, 1, some .int)
set_option maxRecDepth 100000 in
theorem mlX6_addRule : m_ML mX6_addRule 0 := ⟨m_mem 383 rfl rfl, m_mem 60 rfl rfl, by decide +kernel, by decide, by decide +kernel⟩
abbrev mX6_firstBroken : mM := (yX6_firstBroken, cX6_firstBroken, 3, some .int)
set_option maxRecDepth 100000 in
theorem mlX6_firstBroken : m_ML mX6_firstBroken 1 := ⟨m_mem 418 rfl rfl, m_mem 60 rfl rfl, by decide +kernel, by decide, by decide +kernel⟩
abbrev mX6_ruleHolds : mM := (yX6_ruleHolds, cX6_ruleHolds, 4, some .boolean)
set_option maxRecDepth 100000 in
theorem mlX6_ruleHolds : m_ML mX6_ruleHolds 2 := ⟨m_mem 422 rfl rfl, m_mem 60 rfl rfl, by decide +kernel, by decide, by decide +kernel⟩
abbrev mX6_holdsInRow : mM := (yX6_holdsInRow, cX6_holdsInRow, 7, some .boolean)
set_option maxRecDepth 100000 in
theorem mlX6_holdsInRow : m_ML mX6_holdsInRow 3 := ⟨m_mem 426 rfl rfl, m_mem 60 rfl rfl, by decide +kernel, by decide, by decide +kernel⟩
abbrev mX6_partsOf : mM := (yX6_partsOf, cX6_partsOf, 8, some .int)
set_option maxRecDepth 100000 in
theorem mlX6_partsOf : m_ML mX6_partsOf 3 := ⟨m_mem 430 rfl rfl, m_mem 60 rfl rfl, by decide +kernel, by decide, by decide +kernel⟩
abbrev mX6_mendDraft : mM := (yX6_mendDraft, cX6_mendDraft, 2, none)
set_option maxRecDepth 100000 in
theorem mlX6_mendDraft : m_ML mX6_mendDraft 0 := ⟨m_mem 514 rfl rfl, m_mem 60 rfl rfl, by decide +kernel, by decide, by decide +kernel⟩
abbrev mX6_mendColumn : mM := (yX6_mendColumn, cX6_mendColumn, 3, none)
set_option maxRecDepth 100000 in
theorem mlX6_mendColumn : m_ML mX6_mendColumn 1 := ⟨m_mem 518 rfl rfl, m_mem 60 rfl rfl, by decide +kernel, by decide, by decide +kernel⟩
abbrev mX6_couldSet : mM := (yX6_couldSet, cX6_couldSet, 6, some .int)
set_option maxRecDepth 100000 in
theorem mlX6_couldSet : m_ML mX6_couldSet 3 := ⟨m_mem 565 rfl rfl, m_mem 60 rfl rfl, by decide +kernel, by decide, by decide +kernel⟩
abbrev mX6_looksSame : mM := (yX6_looksSame, cX6_looksSame, 6, some .boolean)
set_option maxRecDepth 100000 in
theorem mlX6_looksSame : m_ML mX6_looksSame 4 := ⟨m_mem 569 rfl rfl, m_mem 60 rfl rfl, by decide +kernel, by decide, by decide +kernel⟩
abbrev mX6_isPlain : mM := (yX6_isPlain, cX6_isPlain, 5, some .boolean)
set_option maxRecDepth 100000 in
theorem mlX6_isPlain : m_ML mX6_isPlain 2 := ⟨m_mem 576 rfl rfl, m_mem 60 rfl rfl, by decide +kernel, by decide, by decide +kernel⟩
abbrev mX6_movesSame : mM := (yX6_movesSame, cX6_movesSame, 11, some .boolean)
set_option maxRecDepth 100000 in
theorem mlX6_movesSame : m_ML mX6_movesSame 4 := ⟨m_mem 580 rfl rfl, m_mem 60 rfl rfl, by decide +kernel, by decide, by decide +kernel⟩
abbrev mX6_prepareSearch : mM := (yX6_prepareSearch, cX6_prepareSearch, 6, none)
set_option maxRecDepth 100000 in
theorem mlX6_prepareSearch : m_ML mX6_prepareSearch 2 := ⟨m_mem 611 rfl rfl, m_mem 60 rfl rfl, by decide +kernel, by decide, by decide +kernel⟩
abbrev mX6_offerWidths : mM := (yX6_offerWidths, cX6_offerWidths, 8, none)
set_option maxRecDepth 100000 in
theorem mlX6_offerWidths : m_ML mX6_offerWidths 3 := ⟨m_mem 620 rfl rfl, m_mem 60 rfl rfl, by decide +kernel, by decide, by decide +kernel⟩
abbrev mX6_sameBy : mM := (yX6_sameBy, cX6_sameBy, 8, some .int)
set_option maxRecDepth 100000 in
theorem mlX6_sameBy : m_ML mX6_sameBy 4 := ⟨m_mem 641 rfl rfl, m_mem 60 rfl rfl, by decide +kernel, by decide, by decide +kernel⟩
abbrev mX6_coarseOrMissing : mM := (yX6_coarseOrMissing, cX6_coarseOrMissing, 2, some .int)
set_option maxRecDepth 100000 in
theorem mlX6_coarseOrMissing : m_ML mX6_coarseOrMissing 2 := ⟨m_mem 644 rfl rfl, m_mem 60 rfl rfl, by decide +kernel, by decide, by decide +kernel⟩
abbrev mX7_init : mM := (yX7_init, cX7_init, 1, none)
set_option maxRecDepth 100000 in
theorem mlX7_init : m_ML mX7_init 0 := ⟨m_mem 688 rfl rfl, m_mem 67 rfl rfl, by decide +kernel, by decide, by decide +kernel⟩
abbrev mX7_in : mM := (yX7_in, cX7_in, 3, some .boolean)
set_option maxRecDepth 100000 in
theorem mlX7_in : m_ML mX7_in 3 := ⟨m_mem 802 rfl rfl, m_mem 67 rfl rfl, by decide +kernel, by decide, by decide +kernel⟩
abbrev mX7_isTable : mM := (yX7_isTable, cX7_isTable, 2, some .boolean)
set_option maxRecDepth 100000 in
theorem mlX7_isTable : m_ML mX7_isTable 1 := ⟨m_mem 799 rfl rfl, m_mem 67 rfl rfl, by decide +kernel, by decide, by decide +kernel⟩
abbrev mX7_isColumn : mM := (yX7_isColumn, cX7_isColumn, 3, some .boolean)
set_option maxRecDepth 100000 in
theorem mlX7_isColumn : m_ML mX7_isColumn 2 := ⟨m_mem 836 rfl rfl, m_mem 67 rfl rfl, by decide +kernel, by decide, by decide +kernel⟩
abbrev mX7_isRow : mM := (yX7_isRow, cX7_isRow, 3, some .boolean)
set_option maxRecDepth 100000 in
theorem mlX7_isRow : m_ML mX7_isRow 2 := ⟨m_mem 938 rfl rfl, m_mem 67 rfl rfl, by decide +kernel, by decide, by decide +kernel⟩
abbrev mX7_cell : mM := (yX7_cell, cX7_cell, 3, some .int)
set_option maxRecDepth 100000 in
theorem mlX7_cell : m_ML mX7_cell 3 := ⟨m_mem 828 rfl rfl, m_mem 67 rfl rfl, by decide +kernel, by decide, by decide +kernel⟩
abbrev mX7_figure : mM := (yX7_figure, cX7_figure, 1, some .int)
set_option maxRecDepth 100000 in
theorem mlX7_figure : m_ML mX7_figure 1 := ⟨m_mem 825 rfl rfl, m_mem 67 rfl rfl, by decide +kernel, by decide, by decide +kernel⟩
abbrev mX7_isKey : mM := (yX7_isKey, cX7_isKey, 1, some .boolean)
set_option maxRecDepth 100000 in
theorem mlX7_isKey : m_ML mX7_isKey 1 := ⟨m_mem 821 rfl rfl, m_mem 67 rfl rfl, by decide +kernel, by decide, by decide +kernel⟩
abbrev mX7_table : mM := (yX7_table, cX7_table, 2, some .int)
set_option maxRecDepth 100000 in
theorem mlX7_table : m_ML mX7_table 0 := ⟨m_mem 787 rfl rfl, m_mem 67 rfl rfl, by decide +kernel, by decide, by decide +kernel⟩
abbrev mX7_begin : mM := (yX7_begin, cX7_begin, 4, none)
set_option maxRecDepth 100000 in
theorem mlX7_begin : m_ML mX7_begin 3 := ⟨m_mem 791 rfl rfl, m_mem 67 rfl rfl, by decide +kernel, by decide, by decide +kernel⟩
abbrev mX7_column : mM := (yX7_column, cX7_column, 4, some .int)
set_option maxRecDepth 100000 in
theorem mlX7_column : m_ML mX7_column 3 := ⟨m_mem 795 rfl rfl, m_mem 67 rfl rfl, by decide +kernel, by decide, by decide +kernel⟩
abbrev mX7_cell_ : mM := (yX7_cell_, cX7_cell_, 2, some .int)
set_option maxRecDepth 100000 in
theorem mlX7_cell_ : m_ML mX7_cell_ 1 := ⟨m_mem 806 rfl rfl, m_mem 67 rfl rfl, by decide +kernel, by decide, by decide +kernel⟩
abbrev mX7_wipe : mM := (yX7_wipe, cX7_wipe, 2, some .int)
set_option maxRecDepth 100000 in
theorem mlX7_wipe : m_ML mX7_wipe 0 := ⟨m_mem 810 rfl rfl, m_mem 67 rfl rfl, by decide +kernel, by decide, by decide +kernel⟩
abbrev mX7_isOf : mM := (yX7_isOf, cX7_isOf, 2, some .boolean)
set_option maxRecDepth 100000 in
theorem mlX7_isOf : m_ML mX7_isOf 2 := ⟨m_mem 817 rfl rfl, m_mem 67 rfl rfl, by decide +kernel, by decide, by decide +kernel⟩
abbrev mX7_row : mM := (yX7_row, cX7_row, 3, some .int)
set_option maxRecDepth 100000 in
theorem mlX7_row : m_ML mX7_row 1 := ⟨m_mem 814 rfl rfl, m_mem 67 rfl rfl, by decide +kernel, by decide, by decide +kernel⟩
abbrev mX7_owner : mM := (yX7_owner, cX7_owner, 4, some .int)
set_option maxRecDepth 100000 in
theorem mlX7_owner : m_ML mX7_owner 2 := ⟨m_mem 832 rfl rfl, m_mem 67 rfl rfl, by decide +kernel, by decide, by decide +kernel⟩
abbrev mX7_fits : mM := (yX7_fits, cX7_fits, 3, some .boolean)
set_option maxRecDepth 100000 in
theorem mlX7_fits : m_ML mX7_fits 3 := ⟨m_mem 843 rfl rfl, m_mem 67 rfl rfl, by decide +kernel, by decide, by decide +kernel⟩
abbrev mX7_mask : mM := (yX7_mask, cX7_mask, 5, some .int)
set_option maxRecDepth 100000 in
theorem mlX7_mask : m_ML mX7_mask 4 := ⟨m_mem 840 rfl rfl, m_mem 67 rfl rfl, by decide +kernel, by decide, by decide +kernel⟩
abbrev mX7_dial : mM := (yX7_dial, cX7_dial, 7, some .int)
set_option maxRecDepth 100000 in
theorem mlX7_dial : m_ML mX7_dial 5 := ⟨m_mem 847 rfl rfl, m_mem 67 rfl rfl, by decide +kernel, by decide, by decide +kernel⟩
abbrev mX7_seed : mM := (yX7_seed, cX7_seed, 3, some .int)
set_option maxRecDepth 100000 in
theorem mlX7_seed : m_ML mX7_seed 1 := ⟨m_mem 851 rfl rfl, m_mem 67 rfl rfl, by decide +kernel, by decide, by decide +kernel⟩
abbrev mX7_turnedKey : mM := (yX7_turnedKey, cX7_turnedKey, 7, some .int)
set_option maxRecDepth 100000 in
theorem mlX7_turnedKey : m_ML mX7_turnedKey 2 := ⟨m_mem 911 rfl rfl, m_mem 67 rfl rfl, by decide +kernel, by decide, by decide +kernel⟩
abbrev mX7_turnedName : mM := (yX7_turnedName, cX7_turnedName, 3, some .int)
set_option maxRecDepth 100000 in
theorem mlX7_turnedName : m_ML mX7_turnedName 2 := ⟨m_mem 915 rfl rfl, m_mem 67 rfl rfl, by decide +kernel, by decide, by decide +kernel⟩
abbrev mX7_ownerOf : mM := (yX7_ownerOf, cX7_ownerOf, 3, some .int)
set_option maxRecDepth 100000 in
theorem mlX7_ownerOf : m_ML mX7_ownerOf 2 := ⟨m_mem 919 rfl rfl, m_mem 67 rfl rfl, by decide +kernel, by decide, by decide +kernel⟩
abbrev mX7_shiftOf : mM := (yX7_shiftOf, cX7_shiftOf, 3, some .int)
set_option maxRecDepth 100000 in
theorem mlX7_shiftOf : m_ML mX7_shiftOf 1 := ⟨m_mem 923 rfl rfl, m_mem 67 rfl rfl, by decide +kernel, by decide, by decide +kernel⟩
abbrev mX7_stays : mM := (yX7_stays, cX7_stays, 7, some .boolean)
set_option maxRecDepth 100000 in
theorem mlX7_stays : m_ML mX7_stays 2 := ⟨m_mem 927 rfl rfl, m_mem 67 rfl rfl, by decide +kernel, by decide, by decide +kernel⟩
abbrev mX7_coarse : mM := (yX7_coarse, cX7_coarse, 3, some .int)
set_option maxRecDepth 100000 in
theorem mlX7_coarse : m_ML mX7_coarse 2 := ⟨m_mem 930 rfl rfl, m_mem 67 rfl rfl, by decide +kernel, by decide, by decide +kernel⟩
abbrev mX7_maskedCell : mM := (yX7_maskedCell, cX7_maskedCell, 6, some .int)
set_option maxRecDepth 100000 in
theorem mlX7_maskedCell : m_ML mX7_maskedCell 3 := ⟨m_mem 907 rfl rfl, m_mem 67 rfl rfl, by decide +kernel, by decide, by decide +kernel⟩
abbrev mX7_maskTable : mM := (yX7_maskTable, cX7_maskTable, 4, none)
set_option maxRecDepth 100000 in
theorem mlX7_maskTable : m_ML mX7_maskTable 1 := ⟨m_mem 903 rfl rfl, m_mem 67 rfl rfl, by decide +kernel, by decide, by decide +kernel⟩
abbrev mX7_rule : mM := (yX7_rule, cX7_rule, 5, some .int)
set_option maxRecDepth 100000 in
theorem mlX7_rule : m_ML mX7_rule 4 := ⟨m_mem 859 rfl rfl, m_mem 67 rfl rfl, by decide +kernel, by decide, by decide +kernel⟩
abbrev mX7_order : mM := (yX7_order, cX7_order, 4, some .int)
set_option maxRecDepth 100000 in
theorem mlX7_order : m_ML mX7_order 3 := ⟨m_mem 855 rfl rfl, m_mem 67 rfl rfl, by decide +kernel, by decide, by decide +kernel⟩
abbrev mX7_agree : mM := (yX7_agree, cX7_agree, 8, some .int)
set_option maxRecDepth 100000 in
theorem mlX7_agree : m_ML mX7_agree 6 := ⟨m_mem 863 rfl rfl, m_mem 67 rfl rfl, by decide +kernel, by decide, by decide +kernel⟩
abbrev mX7_found : mM := (yX7_found, cX7_found, 3, some .int)
set_option maxRecDepth 100000 in
theorem mlX7_found : m_ML mX7_found 2 := ⟨m_mem 867 rfl rfl, m_mem 67 rfl rfl, by decide +kernel, by decide, by decide +kernel⟩
abbrev mX7_unrule : mM := (yX7_unrule, cX7_unrule, 2, some .int)
set_option maxRecDepth 100000 in
theorem mlX7_unrule : m_ML mX7_unrule 0 := ⟨m_mem 871 rfl rfl, m_mem 67 rfl rfl, by decide +kernel, by decide, by decide +kernel⟩
abbrev mX7_sumFor : mM := (yX7_sumFor, cX7_sumFor, 7, some .int)
set_option maxRecDepth 100000 in
theorem mlX7_sumFor : m_ML mX7_sumFor 2 := ⟨m_mem 891 rfl rfl, m_mem 67 rfl rfl, by decide +kernel, by decide, by decide +kernel⟩
abbrev mX7_isKeyOf : mM := (yX7_isKeyOf, cX7_isKeyOf, 4, some .boolean)
set_option maxRecDepth 100000 in
theorem mlX7_isKeyOf : m_ML mX7_isKeyOf 2 := ⟨m_mem 895 rfl rfl, m_mem 67 rfl rfl, by decide +kernel, by decide, by decide +kernel⟩
abbrev mX7_holdsFor : mM := (yX7_holdsFor, cX7_holdsFor, 6, some .boolean)
set_option maxRecDepth 100000 in
theorem mlX7_holdsFor : m_ML mX7_holdsFor 2 := ⟨m_mem 887 rfl rfl, m_mem 67 rfl rfl, by decide +kernel, by decide, by decide +kernel⟩
abbrev mX7_firstBroken : mM := (yX7_firstBroken, cX7_firstBroken, 3, some .int)
set_option maxRecDepth 100000 in
theorem mlX7_firstBroken : m_ML mX7_firstBroken 0 := ⟨m_mem 883 rfl rfl, m_mem 67 rfl rfl, by decide +kernel, by decide, by decide +kernel⟩
abbrev mX7_see : mM := (yX7_see, cX7_see, 3, none)
set_option maxRecDepth 100000 in
theorem mlX7_see : m_ML mX7_see 1 := ⟨m_mem 879 rfl rfl, m_mem 67 rfl rfl, by decide +kernel, by decide, by decide +kernel⟩
abbrev mX7_broken : mM := (yX7_broken, cX7_broken, 2, some .int)
set_option maxRecDepth 100000 in
theorem mlX7_broken : m_ML mX7_broken 1 := ⟨m_mem 875 rfl rfl, m_mem 67 rfl rfl, by decide +kernel, by decide, by decide +kernel⟩
abbrev mX7_make : mM := (yX7_make, cX7_make, 4, some .int)
set_option maxRecDepth 100000 in
theorem mlX7_make : m_ML mX7_make 0 := ⟨m_mem 899 rfl rfl, m_mem 67 rfl rfl, by decide +kernel, by decide, by decide +kernel⟩
abbrev mX7_at : mM := (yX7_at, cX7_at, 5, some .int)
set_option maxRecDepth 100000 in
theorem mlX7_at : m_ML mX7_at 4 := ⟨m_mem 934 rfl rfl, m_mem 67 rfl rfl, by decide +kernel, by decide, by decide +kernel⟩
abbrev mX7_turned : mM := (yX7_turned, cX7_turned, 4, some .int)
set_option maxRecDepth 100000 in
theorem mlX7_turned : m_ML mX7_turned 3 := ⟨m_mem 942 rfl rfl, m_mem 67 rfl rfl, by decide +kernel, by decide, by decide +kernel⟩
abbrev mX7_shift : mM := (yX7_shift, cX7_shift, 2, some .int)
set_option maxRecDepth 100000 in
theorem mlX7_shift : m_ML mX7_shift 1 := ⟨m_mem 946 rfl rfl, m_mem 67 rfl rfl, by decide +kernel, by decide, by decide +kernel⟩
abbrev mX7_count : mM := (yX7_count, cX7_count, 7, some .int)
set_option maxRecDepth 100000 in
theorem mlX7_count : m_ML mX7_count 4 := ⟨m_mem 950 rfl rfl, m_mem 67 rfl rfl, by decide +kernel, by decide, by decide +kernel⟩
abbrev mX7_joins : mM := (yX7_joins, cX7_joins, 7, some .int)
set_option maxRecDepth 100000 in
theorem mlX7_joins : m_ML mX7_joins 3 := ⟨m_mem 954 rfl rfl, m_mem 67 rfl rfl, by decide +kernel, by decide, by decide +kernel⟩
abbrev mX7_miss : mM := (yX7_miss, cX7_miss, 7, some .int)
set_option maxRecDepth 100000 in
theorem mlX7_miss : m_ML mX7_miss 2 := ⟨m_mem 958 rfl rfl, m_mem 67 rfl rfl, by decide +kernel, by decide, by decide +kernel⟩
abbrev mX7_isKnown : mM := (yX7_isKnown, cX7_isKnown, 3, some .boolean)
set_option maxRecDepth 100000 in
theorem mlX7_isKnown : m_ML mX7_isKnown 2 := ⟨m_mem 966 rfl rfl, m_mem 67 rfl rfl, by decide +kernel, by decide, by decide +kernel⟩
abbrev mX7_isPlain : mM := (yX7_isPlain, cX7_isPlain, 4, some .boolean)
set_option maxRecDepth 100000 in
theorem mlX7_isPlain : m_ML mX7_isPlain 2 := ⟨m_mem 978 rfl rfl, m_mem 67 rfl rfl, by decide +kernel, by decide, by decide +kernel⟩
abbrev mX7_couldBe : mM := (yX7_couldBe, cX7_couldBe, 9, some .boolean)
set_option maxRecDepth 100000 in
theorem mlX7_couldBe : m_ML mX7_couldBe 4 := ⟨m_mem 974 rfl rfl, m_mem 67 rfl rfl, by decide +kernel, by decide, by decide +kernel⟩
abbrev mX7_couldOf : mM := (yX7_couldOf, cX7_couldOf, 6, some .int)
set_option maxRecDepth 100000 in
theorem mlX7_couldOf : m_ML mX7_couldOf 3 := ⟨m_mem 970 rfl rfl, m_mem 67 rfl rfl, by decide +kernel, by decide, by decide +kernel⟩
abbrev mX7_could : mM := (yX7_could, cX7_could, 4, some .int)
set_option maxRecDepth 100000 in
theorem mlX7_could : m_ML mX7_could 3 := ⟨m_mem 962 rfl rfl, m_mem 67 rfl rfl, by decide +kernel, by decide, by decide +kernel⟩
abbrev mX7_alikeOf : mM := (yX7_alikeOf, cX7_alikeOf, 6, some .int)
set_option maxRecDepth 100000 in
theorem mlX7_alikeOf : m_ML mX7_alikeOf 2 := ⟨m_mem 986 rfl rfl, m_mem 67 rfl rfl, by decide +kernel, by decide, by decide +kernel⟩
abbrev mX7_alike : mM := (yX7_alike, cX7_alike, 3, some .int)
set_option maxRecDepth 100000 in
theorem mlX7_alike : m_ML mX7_alike 2 := ⟨m_mem 982 rfl rfl, m_mem 67 rfl rfl, by decide +kernel, by decide, by decide +kernel⟩
abbrev mX7_sure : mM := (yX7_sure, cX7_sure, 7, some .int)
set_option maxRecDepth 100000 in
theorem mlX7_sure : m_ML mX7_sure 4 := ⟨m_mem 990 rfl rfl, m_mem 67 rfl rfl, by decide +kernel, by decide, by decide +kernel⟩
abbrev mX7_lossOf : mM := (yX7_lossOf, cX7_lossOf, 6, some .int)
set_option maxRecDepth 100000 in
theorem mlX7_lossOf : m_ML mX7_lossOf 2 := ⟨m_mem 998 rfl rfl, m_mem 67 rfl rfl, by decide +kernel, by decide, by decide +kernel⟩
abbrev mX7_loss : mM := (yX7_loss, cX7_loss, 3, some .int)
set_option maxRecDepth 100000 in
theorem mlX7_loss : m_ML mX7_loss 2 := ⟨m_mem 994 rfl rfl, m_mem 67 rfl rfl, by decide +kernel, by decide, by decide +kernel⟩
abbrev mX7_width : mM := (yX7_width, cX7_width, 1, some .int)
set_option maxRecDepth 100000 in
theorem mlX7_width : m_ML mX7_width 1 := ⟨m_mem 1009 rfl rfl, m_mem 67 rfl rfl, by decide +kernel, by decide, by decide +kernel⟩
abbrev mX7_gives : mM := (yX7_gives, cX7_gives, 7, some .int)
set_option maxRecDepth 100000 in
theorem mlX7_gives : m_ML mX7_gives 3 := ⟨m_mem 1006 rfl rfl, m_mem 67 rfl rfl, by decide +kernel, by decide, by decide +kernel⟩
abbrev mX7_best : mM := (yX7_best, cX7_best, 9, some .int)
set_option maxRecDepth 100000 in
theorem mlX7_best : m_ML mX7_best 3 := ⟨m_mem 1002 rfl rfl, m_mem 67 rfl rfl, by decide +kernel, by decide, by decide +kernel⟩
abbrev mX7_about : mM := (yX7_about, cX7_about, 5, some .int)
set_option maxRecDepth 100000 in
theorem mlX7_about : m_ML mX7_about 3 := ⟨m_mem 1013 rfl rfl, m_mem 67 rfl rfl, by decide +kernel, by decide, by decide +kernel⟩
abbrev mX7_all : mM := (yX7_all, cX7_all, 2, some .int)
set_option maxRecDepth 100000 in
theorem mlX7_all : m_ML mX7_all 1 := ⟨m_mem 1017 rfl rfl, m_mem 67 rfl rfl, by decide +kernel, by decide, by decide +kernel⟩
abbrev mX0_init : mM := (yX0_init, cX0_init, 1, none)
set_option maxRecDepth 100000 in
theorem mlX0_init : m_ML mX0_init 0 := ⟨m_mem 142 rfl rfl, m_mem 65 rfl rfl, by decide +kernel, by decide, by decide +kernel⟩
abbrev mX0_turnName : mM := (yX0_turnName, cX0_turnName, 2, some .int)
set_option maxRecDepth 100000 in
theorem mlX0_turnName : m_ML mX0_turnName 1 := ⟨m_mem 504 rfl rfl, m_mem 65 rfl rfl, by decide +kernel, by decide, by decide +kernel⟩
abbrev mX1_init : mM := (yX1_init, cX1_init, 1, none)
set_option maxRecDepth 100000 in
theorem mlX1_init : m_ML mX1_init 0 := ⟨m_mem 86 rfl rfl, m_mem 61 rfl rfl, by decide +kernel, by decide, by decide +kernel⟩
abbrev mX1_placeOf : mM := (yX1_placeOf, cX1_placeOf, 4, some .int)
set_option maxRecDepth 100000 in
theorem mlX1_placeOf : m_ML mX1_placeOf 3 := ⟨m_mem 325 rfl rfl, m_mem 61 rfl rfl, by decide +kernel, by decide, by decide +kernel⟩
abbrev mX1_read : mM := (yX1_read, cX1_read, 5, some .int)
set_option maxRecDepth 100000 in
theorem mlX1_read : m_ML mX1_read 3 := ⟨m_mem 322 rfl rfl, m_mem 61 rfl rfl, by decide +kernel, by decide, by decide +kernel⟩
abbrev mX1_write : mM := (yX1_write, cX1_write, 6, none)
set_option maxRecDepth 100000 in
theorem mlX1_write : m_ML mX1_write 4 := ⟨m_mem 330 rfl rfl, m_mem 61 rfl rfl, by decide +kernel, by decide, by decide +kernel⟩
abbrev mX2_init : mM := (yX2_init, cX2_init, 1, none)
set_option maxRecDepth 100000 in
theorem mlX2_init : m_ML mX2_init 0 := ⟨m_mem 97 rfl rfl, m_mem 62 rfl rfl, by decide +kernel, by decide, by decide +kernel⟩
abbrev mX2_open : mM := (yX2_open, cX2_open, 1, none)
set_option maxRecDepth 100000 in
theorem mlX2_open : m_ML mX2_open 0 := ⟨m_mem 459 rfl rfl, m_mem 62 rfl rfl, by decide +kernel, by decide, by decide +kernel⟩
abbrev mX2_narrow : mM := (yX2_narrow, cX2_narrow, 2, none)
set_option maxRecDepth 100000 in
theorem mlX2_narrow : m_ML mX2_narrow 1 := ⟨m_mem 472 rfl rfl, m_mem 62 rfl rfl, by decide +kernel, by decide, by decide +kernel⟩
abbrev mX2_lets : mM := (yX2_lets, cX2_lets, 2, some .boolean)
set_option maxRecDepth 100000 in
theorem mlX2_lets : m_ML mX2_lets 1 := ⟨m_mem 479 rfl rfl, m_mem 62 rfl rfl, by decide +kernel, by decide, by decide +kernel⟩
abbrev mX3_init : mM := (yX3_init, cX3_init, 1, none)
set_option maxRecDepth 100000 in
theorem mlX3_init : m_ML mX3_init 0 := ⟨m_mem 197 rfl rfl, m_mem 66 rfl rfl, by decide +kernel, by decide, by decide +kernel⟩
abbrev mX3_setOrder : mM := (yX3_setOrder, cX3_setOrder, 4, none)
set_option maxRecDepth 100000 in
theorem mlX3_setOrder : m_ML mX3_setOrder 3 := ⟨m_mem 379 rfl rfl, m_mem 66 rfl rfl, by decide +kernel, by decide, by decide +kernel⟩
abbrev mX3_setAgree : mM := (yX3_setAgree, cX3_setAgree, 7, none)
set_option maxRecDepth 100000 in
theorem mlX3_setAgree : m_ML mX3_setAgree 6 := ⟨m_mem 394 rfl rfl, m_mem 66 rfl rfl, by decide +kernel, by decide, by decide +kernel⟩
abbrev mX3_setFound : mM := (yX3_setFound, cX3_setFound, 3, none)
set_option maxRecDepth 100000 in
theorem mlX3_setFound : m_ML mX3_setFound 2 := ⟨m_mem 402 rfl rfl, m_mem 66 rfl rfl, by decide +kernel, by decide, by decide +kernel⟩
abbrev mX4_init : mM := (yX4_init, cX4_init, 2, none)
set_option maxRecDepth 100000 in
theorem mlX4_init : m_ML mX4_init 0 := ⟨m_mem 135 rfl rfl, m_mem 64 rfl rfl, by decide +kernel, by decide, by decide +kernel⟩
abbrev mX4_columnNumbered : mM := (yX4_columnNumbered, cX4_columnNumbered, 2, some (.object "MaskedCopies$Column"))
set_option maxRecDepth 100000 in
theorem mlX4_columnNumbered : m_ML mX4_columnNumbered 1 := ⟨m_mem 299 rfl rfl, m_mem 64 rfl rfl, by decide +kernel, by decide, by decide +kernel⟩
abbrev mX4_addColumn : mM := (yX4_addColumn, cX4_addColumn, 3, some .int)
set_option maxRecDepth 100000 in
theorem mlX4_addColumn : m_ML mX4_addColumn 2 := ⟨m_mem 283 rfl rfl, m_mem 64 rfl rfl, by decide +kernel, by decide, by decide +kernel⟩
abbrev mX4_isShifted : mM := (yX4_isShifted, cX4_isShifted, 3, some .boolean)
set_option maxRecDepth 100000 in
theorem mlX4_isShifted : m_ML mX4_isShifted 1 := ⟨m_mem 446 rfl rfl, m_mem 64 rfl rfl, by decide +kernel, by decide, by decide +kernel⟩
abbrev mX4_hasShift : mM := (yX4_hasShift, cX4_hasShift, 2, some .boolean)
set_option maxRecDepth 100000 in
theorem mlX4_hasShift : m_ML mX4_hasShift 0 := ⟨m_mem 442 rfl rfl, m_mem 64 rfl rfl, by decide +kernel, by decide, by decide +kernel⟩
abbrev mX4_turnsKeys : mM := (yX4_turnsKeys, cX4_turnsKeys, 1, some .boolean)
set_option maxRecDepth 100000 in
theorem mlX4_turnsKeys : m_ML mX4_turnsKeys 0 := ⟨m_mem 495 rfl rfl, m_mem 64 rfl rfl, by decide +kernel, by decide, by decide +kernel⟩
abbrev mX4_setDigit : mM := (yX4_setDigit, cX4_setDigit, 4, none)
set_option maxRecDepth 100000 in
theorem mlX4_setDigit : m_ML mX4_setDigit 3 := ⟨m_mem 363 rfl rfl, m_mem 64 rfl rfl, by decide +kernel, by decide, by decide +kernel⟩
abbrev mX4_turnKey : mM := (yX4_turnKey, cX4_turnKey, 6, some .int)
set_option maxRecDepth 100000 in
theorem mlX4_turnKey : m_ML mX4_turnKey 1 := ⟨m_mem 499 rfl rfl, m_mem 64 rfl rfl, by decide +kernel, by decide, by decide +kernel⟩
abbrev mX5_init : mM := (yX5_init, cX5_init, 1, none)
set_option maxRecDepth 100000 in
theorem mlX5_init : m_ML mX5_init 0 := ⟨m_mem 110 rfl rfl, m_mem 63 rfl rfl, by decide +kernel, by decide, by decide +kernel⟩
abbrev mX5_widthAt : mM := (yX5_widthAt, cX5_widthAt, 1, some .int)
set_option maxRecDepth 100000 in
theorem mlX5_widthAt : m_ML mX5_widthAt 1 := ⟨m_mem 627 rfl rfl, m_mem 63 rfl rfl, by decide +kernel, by decide, by decide +kernel⟩
abbrev mX5_begin : mM := (yX5_begin, cX5_begin, 2, none)
set_option maxRecDepth 100000 in
theorem mlX5_begin : m_ML mX5_begin 1 := ⟨m_mem 615 rfl rfl, m_mem 63 rfl rfl, by decide +kernel, by decide, by decide +kernel⟩
abbrev mX5_addColumn : mM := (yX5_addColumn, cX5_addColumn, 2, some .int)
set_option maxRecDepth 100000 in
theorem mlX5_addColumn : m_ML mX5_addColumn 1 := ⟨m_mem 624 rfl rfl, m_mem 63 rfl rfl, by decide +kernel, by decide, by decide +kernel⟩
abbrev mX5_columnNumber : mM := (yX5_columnNumber, cX5_columnNumber, 2, some .int)
set_option maxRecDepth 100000 in
theorem mlX5_columnNumber : m_ML mX5_columnNumber 1 := ⟨m_mem 673 rfl rfl, m_mem 63 rfl rfl, by decide +kernel, by decide, by decide +kernel⟩
abbrev mX5_setLoss : mM := (yX5_setLoss, cX5_setLoss, 4, none)
set_option maxRecDepth 100000 in
theorem mlX5_setLoss : m_ML mX5_setLoss 3 := ⟨m_mem 633 rfl rfl, m_mem 63 rfl rfl, by decide +kernel, by decide, by decide +kernel⟩
abbrev mX5_setSame : mM := (yX5_setSame, cX5_setSame, 5, none)
set_option maxRecDepth 100000 in
theorem mlX5_setSame : m_ML mX5_setSame 4 := ⟨m_mem 648 rfl rfl, m_mem 63 rfl rfl, by decide +kernel, by decide, by decide +kernel⟩
abbrev mX5_setOthers : mM := (yX5_setOthers, cX5_setOthers, 3, none)
set_option maxRecDepth 100000 in
theorem mlX5_setOthers : m_ML mX5_setOthers 2 := ⟨m_mem 652 rfl rfl, m_mem 63 rfl rfl, by decide +kernel, by decide, by decide +kernel⟩
abbrev mX5_isChoice : mM := (yX5_isChoice, cX5_isChoice, 3, some .boolean)
set_option maxRecDepth 100000 in
theorem mlX5_isChoice : m_ML mX5_isChoice 2 := ⟨m_mem 637 rfl rfl, m_mem 63 rfl rfl, by decide +kernel, by decide, by decide +kernel⟩
abbrev mX5_choiceOf : mM := (yX5_choiceOf, cX5_choiceOf, 3, some .int)
set_option maxRecDepth 100000 in
theorem mlX5_choiceOf : m_ML mX5_choiceOf 2 := ⟨m_mem 664 rfl rfl, m_mem 63 rfl rfl, by decide +kernel, by decide, by decide +kernel⟩
abbrev mX5_lossOf : mM := (yX5_lossOf, cX5_lossOf, 4, some .int)
set_option maxRecDepth 100000 in
theorem mlX5_lossOf : m_ML mX5_lossOf 1 := ⟨m_mem 660 rfl rfl, m_mem 63 rfl rfl, by decide +kernel, by decide, by decide +kernel⟩
abbrev mX5_isSafe : mM := (yX5_isSafe, cX5_isSafe, 6, some .boolean)
set_option maxRecDepth 100000 in
theorem mlX5_isSafe : m_ML mX5_isSafe 2 := ⟨m_mem 668 rfl rfl, m_mem 63 rfl rfl, by decide +kernel, by decide, by decide +kernel⟩
abbrev mX5_leastWay : mM := (yX5_leastWay, cX5_leastWay, 6, some .int)
set_option maxRecDepth 100000 in
theorem mlX5_leastWay : m_ML mX5_leastWay 1 := ⟨m_mem 656 rfl rfl, m_mem 63 rfl rfl, by decide +kernel, by decide, by decide +kernel⟩
abbrev mJ6_bitCount : mM := (yJ6_bitCount_0f7a4, cJ6_bitCount_0f7a4, 1, some .int)
set_option maxRecDepth 100000 in
theorem mlJ6_bitCount : m_ML mJ6_bitCount 1 := ⟨m_mem 583 rfl rfl, m_mem 69 rfl rfl, by decide +kernel, by decide, by decide +kernel⟩
abbrev mJ9_floorMod : mM := (yJ9_floorMod_7cf53, cJ9_floorMod_7cf53, 3, some .int)
set_option maxRecDepth 100000 in
theorem mlJ9_floorMod : m_ML mJ9_floorMod 2 := ⟨m_mem 510 rfl rfl, m_mem 68 rfl rfl, by decide +kernel, by decide, by decide +kernel⟩
set_option maxRecDepth 100000 in
theorem lkX6_3 : Cond.methodLink RX6 3 Lib.objectInit ∈ m_tbl := m_mem 75 rfl rfl
set_option maxRecDepth 100000 in
theorem flX6_13 : m_FL RX6 13 6 0 := ⟨by decide, by decide, m_mem 228 rfl rfl⟩
set_option maxRecDepth 100000 in
theorem flX6_19 : m_FL RX6 19 6 1 := ⟨by decide, by decide, m_mem 229 rfl rfl⟩
set_option maxRecDepth 100000 in
theorem flX6_23 : m_FL RX6 23 6 2 := ⟨by decide, by decide, m_mem 230 rfl rfl⟩
set_option maxRecDepth 100000 in
theorem lkX6_29 : m_LI RX6 29 mX1_init 0 := ⟨mlX1_init, rfl, rfl, m_mem 85 rfl rfl, Or.inr ⟨_, List.mem_of_getElem? (i := 0) rfl⟩⟩
set_option maxRecDepth 100000 in
theorem flX6_30 : m_FL RX6 30 6 3 := ⟨by decide, by decide, m_mem 231 rfl rfl⟩
set_option maxRecDepth 100000 in
theorem lkX6_36 : m_LI RX6 36 mX2_init 0 := ⟨mlX2_init, rfl, rfl, m_mem 96 rfl rfl, Or.inr ⟨_, List.mem_of_getElem? (i := 1) rfl⟩⟩
set_option maxRecDepth 100000 in
theorem flX6_37 : m_FL RX6 37 6 4 := ⟨by decide, by decide, m_mem 232 rfl rfl⟩
set_option maxRecDepth 100000 in
theorem lkX6_43 : m_LI RX6 43 mX5_init 0 := ⟨mlX5_init, rfl, rfl, m_mem 109 rfl rfl, Or.inr ⟨_, List.mem_of_getElem? (i := 2) rfl⟩⟩
set_option maxRecDepth 100000 in
theorem flX6_44 : m_FL RX6 44 6 5 := ⟨by decide, by decide, m_mem 233 rfl rfl⟩
set_option maxRecDepth 100000 in
theorem flX6_48 : m_FL RX6 48 6 6 := ⟨by decide, by decide, m_mem 234 rfl rfl⟩
set_option maxRecDepth 100000 in
theorem flX6_51 : m_FL RX6 51 6 7 := ⟨by decide, by decide, m_mem 235 rfl rfl⟩
set_option maxRecDepth 100000 in
theorem flX6_54 : m_FL RX6 54 6 8 := ⟨by decide, by decide, m_mem 236 rfl rfl⟩
set_option maxRecDepth 100000 in
theorem flX6_58 : m_FL RX6 58 6 9 := ⟨by decide, by decide, m_mem 237 rfl rfl⟩
set_option maxRecDepth 100000 in
theorem flX6_61 : m_FL RX6 61 6 10 := ⟨by decide, by decide, m_mem 238 rfl rfl⟩
set_option maxRecDepth 100000 in
theorem flX6_64 : m_FL RX6 64 6 11 := ⟨by decide, by decide, m_mem 239 rfl rfl⟩
set_option maxRecDepth 100000 in
theorem flX6_67 : m_FL RX6 67 6 12 := ⟨by decide, by decide, m_mem 240 rfl rfl⟩
set_option maxRecDepth 100000 in
theorem lkX6_71 : m_LI RX6 71 mX4_init 0 := ⟨mlX4_init, rfl, rfl, m_mem 134 rfl rfl, Or.inl (m_mem 133 rfl rfl)⟩
set_option maxRecDepth 100000 in
theorem lkX6_72 : m_LI RX6 72 mX3_init 0 := ⟨mlX3_init, rfl, rfl, m_mem 196 rfl rfl, Or.inr ⟨_, List.mem_of_getElem? (i := 3) rfl⟩⟩
set_option maxRecDepth 100000 in
theorem lkX6_73 : m_LV RX6 73 mX6_tableAt 1 := ⟨mlX6_tableAt, m_mem 276 rfl rfl, m_mem 278 rfl rfl, m_mem 0 rfl rfl⟩
set_option maxRecDepth 100000 in
theorem flX6_77 : m_FL RX6 77 4 4 := ⟨by decide, by decide, m_mem 178 rfl rfl⟩
set_option maxRecDepth 100000 in
theorem flX6_80 : m_FL RX6 80 4 3 := ⟨by decide, by decide, m_mem 176 rfl rfl⟩
set_option maxRecDepth 100000 in
theorem lkX6_83 : m_LV RX6 83 mX4_addColumn 2 := ⟨mlX4_addColumn, m_mem 280 rfl rfl, m_mem 281 rfl rfl, m_mem 282 rfl rfl⟩
set_option maxRecDepth 100000 in
theorem lkX6_87 : m_LV RX6 87 mX6_waitingCellsFit 1 := ⟨mlX6_waitingCellsFit, m_mem 292 rfl rfl, m_mem 294 rfl rfl, m_mem 1 rfl rfl⟩
set_option maxRecDepth 100000 in
theorem lkX6_91 : m_LV RX6 91 mX6_rowsWith 4 := ⟨mlX6_rowsWith, m_mem 311 rfl rfl, m_mem 313 rfl rfl, m_mem 2 rfl rfl⟩
set_option maxRecDepth 100000 in
theorem lkX6_95 : m_LV RX6 95 mX1_write 4 := ⟨mlX1_write, m_mem 327 rfl rfl, m_mem 328 rfl rfl, m_mem 329 rfl rfl⟩
set_option maxRecDepth 100000 in
theorem lkX6_99 : m_LV RX6 99 mX6_columnAt 2 := ⟨mlX6_columnAt, m_mem 339 rfl rfl, m_mem 341 rfl rfl, m_mem 4 rfl rfl⟩
set_option maxRecDepth 100000 in
theorem flX6_103 : m_FL RX6 103 0 0 := ⟨by decide, by decide, m_mem 146 rfl rfl⟩
set_option maxRecDepth 100000 in
theorem flX6_108 : m_FL RX6 108 4 5 := ⟨by decide, by decide, m_mem 180 rfl rfl⟩
set_option maxRecDepth 100000 in
theorem lkX6_111 : m_LS RX6 111 mX6_isMaskOf 2 := ⟨mlX6_isMaskOf, m_mem 348 rfl rfl, Or.inl (m_mem 347 rfl rfl)⟩
set_option maxRecDepth 100000 in
theorem lkX6_115 : m_LS RX6 115 mX6_isNumberOf 2 := ⟨mlX6_isNumberOf, m_mem 351 rfl rfl, Or.inl (m_mem 350 rfl rfl)⟩
set_option maxRecDepth 100000 in
theorem flX6_118 : m_FL RX6 118 0 2 := ⟨by decide, by decide, m_mem 152 rfl rfl⟩
set_option maxRecDepth 100000 in
theorem flX6_121 : m_FL RX6 121 0 3 := ⟨by decide, by decide, m_mem 154 rfl rfl⟩
set_option maxRecDepth 100000 in
theorem lkX6_124 : m_LS RX6 124 mX6_dialDigit 4 := ⟨mlX6_dialDigit, m_mem 358 rfl rfl, Or.inl (m_mem 357 rfl rfl)⟩
set_option maxRecDepth 100000 in
theorem flX6_128 : m_FL RX6 128 0 4 := ⟨by decide, by decide, m_mem 156 rfl rfl⟩
set_option maxRecDepth 100000 in
theorem flX6_131 : m_FL RX6 131 0 5 := ⟨by decide, by decide, m_mem 158 rfl rfl⟩
set_option maxRecDepth 100000 in
theorem lkX6_134 : m_LV RX6 134 mX6_nextRule 0 := ⟨mlX6_nextRule, m_mem 372 rfl rfl, m_mem 374 rfl rfl, m_mem 5 rfl rfl⟩
set_option maxRecDepth 100000 in
theorem lkX6_138 : m_LV RX6 138 mX3_setOrder 3 := ⟨mlX3_setOrder, m_mem 376 rfl rfl, m_mem 377 rfl rfl, m_mem 378 rfl rfl⟩
set_option maxRecDepth 100000 in
theorem lkX6_142 : m_LV RX6 142 mX6_addRule 0 := ⟨mlX6_addRule, m_mem 380 rfl rfl, m_mem 382 rfl rfl, m_mem 6 rfl rfl⟩
set_option maxRecDepth 100000 in
theorem flX6_146 : m_FL RX6 146 0 1 := ⟨by decide, by decide, m_mem 149 rfl rfl⟩
set_option maxRecDepth 100000 in
theorem lkX6_149 : m_LS RX6 149 mX6_isBit 1 := ⟨mlX6_isBit, m_mem 389 rfl rfl, Or.inl (m_mem 388 rfl rfl)⟩
set_option maxRecDepth 100000 in
theorem lkX6_153 : m_LV RX6 153 mX3_setAgree 6 := ⟨mlX3_setAgree, m_mem 391 rfl rfl, m_mem 392 rfl rfl, m_mem 393 rfl rfl⟩
set_option maxRecDepth 100000 in
theorem lkX6_157 : m_LV RX6 157 mX3_setFound 2 := ⟨mlX3_setFound, m_mem 399 rfl rfl, m_mem 400 rfl rfl, m_mem 401 rfl rfl⟩
set_option maxRecDepth 100000 in
theorem lkX6_161 : m_LV RX6 161 mX6_copyOf 1 := ⟨mlX6_copyOf, m_mem 411 rfl rfl, m_mem 413 rfl rfl, m_mem 7 rfl rfl⟩
set_option maxRecDepth 100000 in
theorem lkX6_165 : m_LV RX6 165 mX6_firstBroken 1 := ⟨mlX6_firstBroken, m_mem 415 rfl rfl, m_mem 417 rfl rfl, m_mem 8 rfl rfl⟩
set_option maxRecDepth 100000 in
theorem lkX6_169 : m_LV RX6 169 mX6_draftMasked 1 := ⟨mlX6_draftMasked, m_mem 435 rfl rfl, m_mem 437 rfl rfl, m_mem 12 rfl rfl⟩
set_option maxRecDepth 100000 in
theorem lkX6_173 : m_LV RX6 173 mX6_mendDraft 0 := ⟨mlX6_mendDraft, m_mem 511 rfl rfl, m_mem 513 rfl rfl, m_mem 20 rfl rfl⟩
set_option maxRecDepth 100000 in
theorem lkX6_176 : m_LV RX6 176 mX6_isRow 2 := ⟨mlX6_isRow, m_mem 523 rfl rfl, m_mem 525 rfl rfl, m_mem 22 rfl rfl⟩
set_option maxRecDepth 100000 in
theorem lkX6_180 : m_LV RX6 180 mX1_read 3 := ⟨mlX1_read, m_mem 319 rfl rfl, m_mem 320 rfl rfl, m_mem 321 rfl rfl⟩
set_option maxRecDepth 100000 in
theorem lkX6_184 : m_LS RX6 184 mX6_isNumberOfKind 2 := ⟨mlX6_isNumberOfKind, m_mem 302 rfl rfl, Or.inl (m_mem 301 rfl rfl)⟩
set_option maxRecDepth 100000 in
theorem lkX6_187 : m_LV RX6 187 mX4_turnKey 1 := ⟨mlX4_turnKey, m_mem 496 rfl rfl, m_mem 497 rfl rfl, m_mem 498 rfl rfl⟩
set_option maxRecDepth 100000 in
theorem lkX6_191 : m_LV RX6 191 mX0_turnName 1 := ⟨mlX0_turnName, m_mem 501 rfl rfl, m_mem 502 rfl rfl, m_mem 503 rfl rfl⟩
set_option maxRecDepth 100000 in
theorem lkX6_194 : m_LS RX6 194 mX6_isKeyNumber 1 := ⟨mlX6_isKeyNumber, m_mem 305 rfl rfl, Or.inl (m_mem 304 rfl rfl)⟩
set_option maxRecDepth 100000 in
theorem lkX6_197 : m_LV RX6 197 mX6_shiftOf 1 := ⟨mlX6_shiftOf, m_mem 452 rfl rfl, m_mem 454 rfl rfl, m_mem 14 rfl rfl⟩
set_option maxRecDepth 100000 in
theorem lkX6_200 : m_LV RX6 200 mX6_rowsOf 1 := ⟨mlX6_rowsOf, m_mem 315 rfl rfl, m_mem 317 rfl rfl, m_mem 3 rfl rfl⟩
set_option maxRecDepth 100000 in
theorem lkX6_203 : Cond.methodLink RX6 203 Lib.Math.abs.name ∈ m_tbl := m_mem 547 rfl rfl
set_option maxRecDepth 100000 in
theorem lkX6_208 : m_LV RX6 208 mX6_areColumns 2 := ⟨mlX6_areColumns, m_mem 554 rfl rfl, m_mem 556 rfl rfl, m_mem 23 rfl rfl⟩
set_option maxRecDepth 100000 in
theorem lkX6_211 : m_LV RX6 211 mX6_couldSet 3 := ⟨mlX6_couldSet, m_mem 562 rfl rfl, m_mem 564 rfl rfl, m_mem 25 rfl rfl⟩
set_option maxRecDepth 100000 in
theorem lkX6_214 : m_LS RX6 214 mJ6_bitCount 1 := ⟨mlJ6_bitCount, m_mem 582 rfl rfl, Or.inl (m_mem 581 rfl rfl)⟩
set_option maxRecDepth 100000 in
theorem lkX6_217 : Cond.methodLink RX6 217 Lib.Math.min.name ∈ m_tbl := m_mem 591 rfl rfl
set_option maxRecDepth 100000 in
theorem lkX6_220 : m_LS RX6 220 mX6_hasBit 2 := ⟨mlX6_hasBit, m_mem 571 rfl rfl, Or.inl (m_mem 570 rfl rfl)⟩
set_option maxRecDepth 100000 in
theorem lkX6_223 : m_LV RX6 223 mX6_lossBy 3 := ⟨mlX6_lossBy, m_mem 600 rfl rfl, m_mem 602 rfl rfl, m_mem 29 rfl rfl⟩
set_option maxRecDepth 100000 in
theorem lkX6_226 : m_LV RX6 226 mX6_prepareSearch 2 := ⟨mlX6_prepareSearch, m_mem 608 rfl rfl, m_mem 610 rfl rfl, m_mem 30 rfl rfl⟩
set_option maxRecDepth 100000 in
theorem lkX6_229 : m_LV RX6 229 mX5_leastWay 1 := ⟨mlX5_leastWay, m_mem 653 rfl rfl, m_mem 654 rfl rfl, m_mem 655 rfl rfl⟩
set_option maxRecDepth 100000 in
theorem flX6_232 : m_FL RX6 232 5 4 := ⟨by decide, by decide, m_mem 117 rfl rfl⟩
set_option maxRecDepth 100000 in
theorem lkX6_233 : m_LV RX6 233 mX5_columnNumber 1 := ⟨mlX5_columnNumber, m_mem 670 rfl rfl, m_mem 671 rfl rfl, m_mem 672 rfl rfl⟩
set_option maxRecDepth 100000 in
theorem lkX6_236 : m_LV RX6 236 mX5_choiceOf 2 := ⟨mlX5_choiceOf, m_mem 674 rfl rfl, m_mem 662 rfl rfl, m_mem 663 rfl rfl⟩
set_option maxRecDepth 100000 in
theorem lkX6_239 : m_LS RX6 239 mX5_widthAt 1 := ⟨mlX5_widthAt, m_mem 626 rfl rfl, Or.inl (m_mem 625 rfl rfl)⟩
set_option maxRecDepth 100000 in
theorem lkX6_242 : m_LV RX6 242 mX5_lossOf 1 := ⟨mlX5_lossOf, m_mem 675 rfl rfl, m_mem 658 rfl rfl, m_mem 659 rfl rfl⟩
set_option maxRecDepth 100000 in
theorem lkX6_245 : m_LV RX6 245 mX4_columnNumbered 1 := ⟨mlX4_columnNumbered, m_mem 296 rfl rfl, m_mem 297 rfl rfl, m_mem 298 rfl rfl⟩
set_option maxRecDepth 100000 in
theorem lkX6_249 : m_LV RX6 249 mX6_columnsOf 1 := ⟨mlX6_columnsOf, m_mem 558 rfl rfl, m_mem 560 rfl rfl, m_mem 24 rfl rfl⟩
set_option maxRecDepth 100000 in
theorem lkX6_253 : m_LS RX6 253 mX6_rightFigure 1 := ⟨mlX6_rightFigure, m_mem 309 rfl rfl, Or.inl (m_mem 308 rfl rfl)⟩
set_option maxRecDepth 100000 in
theorem lkX6_256 : m_LV RX6 256 mX4_setDigit 3 := ⟨mlX4_setDigit, m_mem 360 rfl rfl, m_mem 361 rfl rfl, m_mem 362 rfl rfl⟩
set_option maxRecDepth 100000 in
theorem lkX6_259 : m_LV RX6 259 mX4_hasShift 0 := ⟨mlX4_hasShift, m_mem 439 rfl rfl, m_mem 440 rfl rfl, m_mem 441 rfl rfl⟩
set_option maxRecDepth 100000 in
theorem lkX6_263 : m_LV RX6 263 mX6_ownerOf 2 := ⟨mlX6_ownerOf, m_mem 448 rfl rfl, m_mem 450 rfl rfl, m_mem 13 rfl rfl⟩
set_option maxRecDepth 100000 in
theorem lkX6_266 : m_LV RX6 266 mX6_maskedCell 4 := ⟨mlX6_maskedCell, m_mem 480 rfl rfl, m_mem 482 rfl rfl, m_mem 17 rfl rfl⟩
set_option maxRecDepth 100000 in
theorem lkX6_270 : m_LV RX6 270 mX6_dealtCell 4 := ⟨mlX6_dealtCell, m_mem 484 rfl rfl, m_mem 486 rfl rfl, m_mem 18 rfl rfl⟩
set_option maxRecDepth 100000 in
theorem lkX6_273 : m_LV RX6 273 mX6_turnedRef 2 := ⟨mlX6_turnedRef, m_mem 488 rfl rfl, m_mem 490 rfl rfl, m_mem 19 rfl rfl⟩
set_option maxRecDepth 100000 in
theorem lkX6_276 : m_LS RX6 276 mX6_tooFine 2 := ⟨mlX6_tooFine, m_mem 506 rfl rfl, Or.inl (m_mem 505 rfl rfl)⟩
set_option maxRecDepth 100000 in
theorem lkX6_279 : m_LV RX6 279 mX4_turnsKeys 0 := ⟨mlX4_turnsKeys, m_mem 492 rfl rfl, m_mem 493 rfl rfl, m_mem 494 rfl rfl⟩
set_option maxRecDepth 100000 in
theorem lkX6_282 : m_LS RX6 282 mJ9_floorMod 2 := ⟨mlJ9_floorMod, m_mem 509 rfl rfl, Or.inl (m_mem 508 rfl rfl)⟩
set_option maxRecDepth 100000 in
theorem lkX6_285 : m_LV RX6 285 mX2_open 0 := ⟨mlX2_open, m_mem 456 rfl rfl, m_mem 457 rfl rfl, m_mem 458 rfl rfl⟩
set_option maxRecDepth 100000 in
theorem lkX6_288 : m_LV RX6 288 mX6_narrowRoom 2 := ⟨mlX6_narrowRoom, m_mem 460 rfl rfl, m_mem 462 rfl rfl, m_mem 15 rfl rfl⟩
set_option maxRecDepth 100000 in
theorem lkX6_291 : m_LV RX6 291 mX2_lets 1 := ⟨mlX2_lets, m_mem 476 rfl rfl, m_mem 477 rfl rfl, m_mem 478 rfl rfl⟩
set_option maxRecDepth 100000 in
theorem lkX6_294 : m_LV RX6 294 mX6_narrowRoomByRow 3 := ⟨mlX6_narrowRoomByRow, m_mem 464 rfl rfl, m_mem 466 rfl rfl, m_mem 16 rfl rfl⟩
set_option maxRecDepth 100000 in
theorem lkX6_298 : m_LV RX6 298 mX4_isShifted 1 := ⟨mlX4_isShifted, m_mem 468 rfl rfl, m_mem 444 rfl rfl, m_mem 445 rfl rfl⟩
set_option maxRecDepth 100000 in
theorem lkX6_301 : m_LV RX6 301 mX2_narrow 1 := ⟨mlX2_narrow, m_mem 469 rfl rfl, m_mem 470 rfl rfl, m_mem 471 rfl rfl⟩
set_option maxRecDepth 100000 in
theorem lkX6_304 : m_LV RX6 304 mX6_ruleHolds 2 := ⟨mlX6_ruleHolds, m_mem 419 rfl rfl, m_mem 421 rfl rfl, m_mem 9 rfl rfl⟩
set_option maxRecDepth 100000 in
theorem flX6_308 : m_FL RX6 308 3 1 := ⟨by decide, by decide, m_mem 202 rfl rfl⟩
set_option maxRecDepth 100000 in
theorem lkX6_311 : m_LV RX6 311 mX6_holdsInRow 3 := ⟨mlX6_holdsInRow, m_mem 423 rfl rfl, m_mem 425 rfl rfl, m_mem 10 rfl rfl⟩
set_option maxRecDepth 100000 in
theorem flX6_315 : m_FL RX6 315 3 2 := ⟨by decide, by decide, m_mem 204 rfl rfl⟩
set_option maxRecDepth 100000 in
theorem flX6_318 : m_FL RX6 318 3 0 := ⟨by decide, by decide, m_mem 200 rfl rfl⟩
set_option maxRecDepth 100000 in
theorem flX6_319 : m_FL RX6 319 3 3 := ⟨by decide, by decide, m_mem 206 rfl rfl⟩
set_option maxRecDepth 100000 in
theorem lkX6_322 : m_LV RX6 322 mX6_partsOf 3 := ⟨mlX6_partsOf, m_mem 427 rfl rfl, m_mem 429 rfl rfl, m_mem 11 rfl rfl⟩
set_option maxRecDepth 100000 in
theorem flX6_326 : m_FL RX6 326 3 4 := ⟨by decide, by decide, m_mem 208 rfl rfl⟩
set_option maxRecDepth 100000 in
theorem flX6_329 : m_FL RX6 329 3 5 := ⟨by decide, by decide, m_mem 210 rfl rfl⟩
set_option maxRecDepth 100000 in
theorem flX6_332 : m_FL RX6 332 3 6 := ⟨by decide, by decide, m_mem 212 rfl rfl⟩
set_option maxRecDepth 100000 in
theorem lkX6_335 : m_LV RX6 335 mX6_mendColumn 1 := ⟨mlX6_mendColumn, m_mem 515 rfl rfl, m_mem 517 rfl rfl, m_mem 21 rfl rfl⟩
set_option maxRecDepth 100000 in
theorem lkX6_339 : m_LV RX6 339 mX6_looksSame 4 := ⟨mlX6_looksSame, m_mem 566 rfl rfl, m_mem 568 rfl rfl, m_mem 26 rfl rfl⟩
set_option maxRecDepth 100000 in
theorem lkX6_343 : m_LV RX6 343 mX6_movesSame 4 := ⟨mlX6_movesSame, m_mem 577 rfl rfl, m_mem 579 rfl rfl, m_mem 28 rfl rfl⟩
set_option maxRecDepth 100000 in
theorem lkX6_346 : m_LV RX6 346 mX6_isPlain 2 := ⟨mlX6_isPlain, m_mem 573 rfl rfl, m_mem 575 rfl rfl, m_mem 27 rfl rfl⟩
set_option maxRecDepth 100000 in
theorem lkX6_349 : m_LV RX6 349 mX5_begin 1 := ⟨mlX5_begin, m_mem 612 rfl rfl, m_mem 613 rfl rfl, m_mem 614 rfl rfl⟩
set_option maxRecDepth 100000 in
theorem lkX6_352 : m_LV RX6 352 mX6_offerWidths 3 := ⟨mlX6_offerWidths, m_mem 617 rfl rfl, m_mem 619 rfl rfl, m_mem 31 rfl rfl⟩
set_option maxRecDepth 100000 in
theorem lkX6_356 : m_LV RX6 356 mX5_setOthers 2 := ⟨mlX5_setOthers, m_mem 649 rfl rfl, m_mem 650 rfl rfl, m_mem 651 rfl rfl⟩
set_option maxRecDepth 100000 in
theorem lkX6_359 : m_LV RX6 359 mX5_addColumn 1 := ⟨mlX5_addColumn, m_mem 621 rfl rfl, m_mem 622 rfl rfl, m_mem 623 rfl rfl⟩
set_option maxRecDepth 100000 in
theorem lkX6_361 : m_LV RX6 361 mX5_setLoss 3 := ⟨mlX5_setLoss, m_mem 630 rfl rfl, m_mem 631 rfl rfl, m_mem 632 rfl rfl⟩
set_option maxRecDepth 100000 in
theorem lkX6_364 : m_LV RX6 364 mX6_sameBy 4 := ⟨mlX6_sameBy, m_mem 638 rfl rfl, m_mem 640 rfl rfl, m_mem 33 rfl rfl⟩
set_option maxRecDepth 100000 in
theorem lkX6_367 : m_LV RX6 367 mX5_setSame 4 := ⟨mlX5_setSame, m_mem 645 rfl rfl, m_mem 646 rfl rfl, m_mem 647 rfl rfl⟩
set_option maxRecDepth 100000 in
theorem lkX6_370 : m_LS RX6 370 mX6_coarseOrMissing 2 := ⟨mlX6_coarseOrMissing, m_mem 643 rfl rfl, Or.inl (m_mem 642 rfl rfl)⟩
set_option maxRecDepth 100000 in
theorem lkX7_3 : Cond.methodLink RX7 3 Lib.objectInit ∈ m_tbl := m_mem 689 rfl rfl
set_option maxRecDepth 100000 in
theorem flX7_9 : m_FL RX7 9 7 2 := ⟨by decide, by decide, m_mem 691 rfl rfl⟩
set_option maxRecDepth 100000 in
theorem flX7_15 : m_FL RX7 15 7 3 := ⟨by decide, by decide, m_mem 692 rfl rfl⟩
set_option maxRecDepth 100000 in
theorem flX7_18 : m_FL RX7 18 7 4 := ⟨by decide, by decide, m_mem 693 rfl rfl⟩
set_option maxRecDepth 100000 in
theorem flX7_21 : m_FL RX7 21 7 5 := ⟨by decide, by decide, m_mem 694 rfl rfl⟩
set_option maxRecDepth 100000 in
theorem flX7_24 : m_FL RX7 24 7 6 := ⟨by decide, by decide, m_mem 695 rfl rfl⟩
set_option maxRecDepth 100000 in
theorem flX7_27 : m_FL RX7 27 7 7 := ⟨by decide, by decide, m_mem 696 rfl rfl⟩
set_option maxRecDepth 100000 in
theorem flX7_30 : m_FL RX7 30 7 8 := ⟨by decide, by decide, m_mem 697 rfl rfl⟩
set_option maxRecDepth 100000 in
theorem flX7_33 : m_FL RX7 33 7 9 := ⟨by decide, by decide, m_mem 698 rfl rfl⟩
set_option maxRecDepth 100000 in
theorem flX7_36 : m_FL RX7 36 7 10 := ⟨by decide, by decide, m_mem 699 rfl rfl⟩
set_option maxRecDepth 100000 in
theorem flX7_39 : m_FL RX7 39 7 11 := ⟨by decide, by decide, m_mem 700 rfl rfl⟩
set_option maxRecDepth 100000 in
theorem flX7_42 : m_FL RX7 42 7 12 := ⟨by decide, by decide, m_mem 701 rfl rfl⟩
set_option maxRecDepth 100000 in
theorem flX7_45 : m_FL RX7 45 7 14 := ⟨by decide, by decide, m_mem 703 rfl rfl⟩
set_option maxRecDepth 100000 in
theorem flX7_48 : m_FL RX7 48 7 15 := ⟨by decide, by decide, m_mem 704 rfl rfl⟩
set_option maxRecDepth 100000 in
theorem flX7_51 : m_FL RX7 51 7 17 := ⟨by decide, by decide, m_mem 706 rfl rfl⟩
set_option maxRecDepth 100000 in
theorem flX7_54 : m_FL RX7 54 7 18 := ⟨by decide, by decide, m_mem 707 rfl rfl⟩
set_option maxRecDepth 100000 in
theorem flX7_57 : m_FL RX7 57 7 21 := ⟨by decide, by decide, m_mem 710 rfl rfl⟩
set_option maxRecDepth 100000 in
theorem flX7_60 : m_FL RX7 60 7 22 := ⟨by decide, by decide, m_mem 711 rfl rfl⟩
set_option maxRecDepth 100000 in
theorem flX7_63 : m_FL RX7 63 7 23 := ⟨by decide, by decide, m_mem 712 rfl rfl⟩
set_option maxRecDepth 100000 in
theorem flX7_66 : m_FL RX7 66 7 24 := ⟨by decide, by decide, m_mem 713 rfl rfl⟩
set_option maxRecDepth 100000 in
theorem flX7_69 : m_FL RX7 69 7 25 := ⟨by decide, by decide, m_mem 714 rfl rfl⟩
set_option maxRecDepth 100000 in
theorem flX7_72 : m_FL RX7 72 7 26 := ⟨by decide, by decide, m_mem 715 rfl rfl⟩
set_option maxRecDepth 100000 in
theorem flX7_75 : m_FL RX7 75 7 27 := ⟨by decide, by decide, m_mem 716 rfl rfl⟩
set_option maxRecDepth 100000 in
theorem flX7_79 : m_FL RX7 79 7 28 := ⟨by decide, by decide, m_mem 717 rfl rfl⟩
set_option maxRecDepth 100000 in
theorem flX7_82 : m_FL RX7 82 7 29 := ⟨by decide, by decide, m_mem 718 rfl rfl⟩
set_option maxRecDepth 100000 in
theorem flX7_85 : m_FL RX7 85 7 30 := ⟨by decide, by decide, m_mem 719 rfl rfl⟩
set_option maxRecDepth 100000 in
theorem flX7_92 : m_FL RX7 92 7 1 := ⟨by decide, by decide, m_mem 690 rfl rfl⟩
set_option maxRecDepth 100000 in
theorem lkX7_95 : m_LS RX7 95 mX7_in 3 := ⟨mlX7_in, m_mem 801 rfl rfl, Or.inl (m_mem 800 rfl rfl)⟩
set_option maxRecDepth 100000 in
theorem lkX7_99 : m_LV RX7 99 mX7_isTable 1 := ⟨mlX7_isTable, m_mem 796 rfl rfl, m_mem 798 rfl rfl, m_mem 36 rfl rfl⟩
set_option maxRecDepth 100000 in
theorem lkX7_104 : m_LS RX7 104 mX7_figure 1 := ⟨mlX7_figure, m_mem 824 rfl rfl, Or.inl (m_mem 823 rfl rfl)⟩
set_option maxRecDepth 100000 in
theorem lkX7_108 : m_LV RX7 108 mX7_begin 3 := ⟨mlX7_begin, m_mem 788 rfl rfl, m_mem 790 rfl rfl, m_mem 35 rfl rfl⟩
set_option maxRecDepth 100000 in
theorem flX7_112 : m_FL RX7 112 7 16 := ⟨by decide, by decide, m_mem 705 rfl rfl⟩
set_option maxRecDepth 100000 in
theorem flX7_116 : m_FL RX7 116 7 19 := ⟨by decide, by decide, m_mem 708 rfl rfl⟩
set_option maxRecDepth 100000 in
theorem lkX7_120 : m_LS RX7 120 mX7_isKey 1 := ⟨mlX7_isKey, m_mem 820 rfl rfl, Or.inl (m_mem 819 rfl rfl)⟩
set_option maxRecDepth 100000 in
theorem lkX7_123 : m_LS RX7 123 mX7_isOf 2 := ⟨mlX7_isOf, m_mem 816 rfl rfl, Or.inl (m_mem 815 rfl rfl)⟩
set_option maxRecDepth 100000 in
theorem lkX7_127 : m_LS RX7 127 mX7_cell 3 := ⟨mlX7_cell, m_mem 827 rfl rfl, Or.inl (m_mem 826 rfl rfl)⟩
set_option maxRecDepth 100000 in
theorem lkX7_131 : m_LV RX7 131 mX7_isColumn 2 := ⟨mlX7_isColumn, m_mem 833 rfl rfl, m_mem 835 rfl rfl, m_mem 37 rfl rfl⟩
set_option maxRecDepth 100000 in
theorem lkX7_134 : m_LS RX7 134 mX7_fits 3 := ⟨mlX7_fits, m_mem 842 rfl rfl, Or.inl (m_mem 841 rfl rfl)⟩
set_option maxRecDepth 100000 in
theorem flX7_137 : m_FL RX7 137 7 13 := ⟨by decide, by decide, m_mem 702 rfl rfl⟩
set_option maxRecDepth 100000 in
theorem lkX7_140 : m_LV RX7 140 mX7_stays 2 := ⟨mlX7_stays, m_mem 924 rfl rfl, m_mem 926 rfl rfl, m_mem 50 rfl rfl⟩
set_option maxRecDepth 100000 in
theorem lkX7_143 : m_LV RX7 143 mX7_ownerOf 2 := ⟨mlX7_ownerOf, m_mem 916 rfl rfl, m_mem 918 rfl rfl, m_mem 48 rfl rfl⟩
set_option maxRecDepth 100000 in
theorem lkX7_147 : m_LV RX7 147 mX7_turnedKey 2 := ⟨mlX7_turnedKey, m_mem 908 rfl rfl, m_mem 910 rfl rfl, m_mem 46 rfl rfl⟩
set_option maxRecDepth 100000 in
theorem lkX7_150 : m_LV RX7 150 mX7_turnedName 2 := ⟨mlX7_turnedName, m_mem 912 rfl rfl, m_mem 914 rfl rfl, m_mem 47 rfl rfl⟩
set_option maxRecDepth 100000 in
theorem lkX7_153 : m_LV RX7 153 mX7_shiftOf 1 := ⟨mlX7_shiftOf, m_mem 920 rfl rfl, m_mem 922 rfl rfl, m_mem 49 rfl rfl⟩
set_option maxRecDepth 100000 in
theorem lkX7_156 : m_LS RX7 156 mX7_coarse 2 := ⟨mlX7_coarse, m_mem 929 rfl rfl, Or.inl (m_mem 928 rfl rfl)⟩
set_option maxRecDepth 100000 in
theorem lkX7_159 : m_LV RX7 159 mX7_maskedCell 3 := ⟨mlX7_maskedCell, m_mem 904 rfl rfl, m_mem 906 rfl rfl, m_mem 45 rfl rfl⟩
set_option maxRecDepth 100000 in
theorem flX7_162 : m_FL RX7 162 7 20 := ⟨by decide, by decide, m_mem 709 rfl rfl⟩
set_option maxRecDepth 100000 in
theorem lkX7_165 : m_LV RX7 165 mX7_rule 4 := ⟨mlX7_rule, m_mem 856 rfl rfl, m_mem 858 rfl rfl, m_mem 38 rfl rfl⟩
set_option maxRecDepth 100000 in
theorem lkX7_169 : m_LV RX7 169 mX7_sumFor 2 := ⟨mlX7_sumFor, m_mem 888 rfl rfl, m_mem 890 rfl rfl, m_mem 42 rfl rfl⟩
set_option maxRecDepth 100000 in
theorem lkX7_172 : m_LV RX7 172 mX7_isKeyOf 2 := ⟨mlX7_isKeyOf, m_mem 892 rfl rfl, m_mem 894 rfl rfl, m_mem 43 rfl rfl⟩
set_option maxRecDepth 100000 in
theorem lkX7_175 : m_LV RX7 175 mX7_holdsFor 2 := ⟨mlX7_holdsFor, m_mem 884 rfl rfl, m_mem 886 rfl rfl, m_mem 41 rfl rfl⟩
set_option maxRecDepth 100000 in
theorem lkX7_178 : m_LV RX7 178 mX7_see 1 := ⟨mlX7_see, m_mem 876 rfl rfl, m_mem 878 rfl rfl, m_mem 39 rfl rfl⟩
set_option maxRecDepth 100000 in
theorem lkX7_182 : m_LV RX7 182 mX7_firstBroken 0 := ⟨mlX7_firstBroken, m_mem 880 rfl rfl, m_mem 882 rfl rfl, m_mem 40 rfl rfl⟩
set_option maxRecDepth 100000 in
theorem lkX7_186 : m_LV RX7 186 mX7_maskTable 1 := ⟨mlX7_maskTable, m_mem 900 rfl rfl, m_mem 902 rfl rfl, m_mem 44 rfl rfl⟩
set_option maxRecDepth 100000 in
theorem lkX7_189 : m_LV RX7 189 mX7_isRow 2 := ⟨mlX7_isRow, m_mem 935 rfl rfl, m_mem 937 rfl rfl, m_mem 51 rfl rfl⟩
set_option maxRecDepth 100000 in
theorem lkX7_192 : m_LV RX7 192 mX7_isPlain 2 := ⟨mlX7_isPlain, m_mem 975 rfl rfl, m_mem 977 rfl rfl, m_mem 55 rfl rfl⟩
set_option maxRecDepth 100000 in
theorem lkX7_195 : m_LV RX7 195 mX7_couldBe 4 := ⟨mlX7_couldBe, m_mem 971 rfl rfl, m_mem 973 rfl rfl, m_mem 54 rfl rfl⟩
set_option maxRecDepth 100000 in
theorem lkX7_199 : m_LV RX7 199 mX7_isKnown 2 := ⟨mlX7_isKnown, m_mem 963 rfl rfl, m_mem 965 rfl rfl, m_mem 52 rfl rfl⟩
set_option maxRecDepth 100000 in
theorem lkX7_202 : m_LV RX7 202 mX7_couldOf 3 := ⟨mlX7_couldOf, m_mem 967 rfl rfl, m_mem 969 rfl rfl, m_mem 53 rfl rfl⟩
set_option maxRecDepth 100000 in
theorem lkX7_205 : m_LV RX7 205 mX7_alikeOf 2 := ⟨mlX7_alikeOf, m_mem 983 rfl rfl, m_mem 985 rfl rfl, m_mem 56 rfl rfl⟩
set_option maxRecDepth 100000 in
theorem lkX7_208 : m_LV RX7 208 mX7_lossOf 2 := ⟨mlX7_lossOf, m_mem 995 rfl rfl, m_mem 997 rfl rfl, m_mem 57 rfl rfl⟩
set_option maxRecDepth 100000 in
theorem lkX7_211 : m_LS RX7 211 mX7_width 1 := ⟨mlX7_width, m_mem 1008 rfl rfl, Or.inl (m_mem 1007 rfl rfl)⟩
set_option maxRecDepth 100000 in
theorem lkX7_214 : m_LV RX7 214 mX7_gives 3 := ⟨mlX7_gives, m_mem 1003 rfl rfl, m_mem 1005 rfl rfl, m_mem 58 rfl rfl⟩
set_option maxRecDepth 100000 in
theorem lkX0_3 : Cond.methodLink RX0 3 Lib.objectInit ∈ m_tbl := m_mem 143 rfl rfl
set_option maxRecDepth 100000 in
theorem flX0_9 : m_FL RX0 9 0 0 := ⟨by decide, by decide, m_mem 144 rfl rfl⟩
set_option maxRecDepth 100000 in
theorem flX0_15 : m_FL RX0 15 0 1 := ⟨by decide, by decide, m_mem 147 rfl rfl⟩
set_option maxRecDepth 100000 in
theorem flX0_18 : m_FL RX0 18 0 2 := ⟨by decide, by decide, m_mem 150 rfl rfl⟩
set_option maxRecDepth 100000 in
theorem flX0_21 : m_FL RX0 21 0 3 := ⟨by decide, by decide, m_mem 153 rfl rfl⟩
set_option maxRecDepth 100000 in
theorem flX0_24 : m_FL RX0 24 0 4 := ⟨by decide, by decide, m_mem 155 rfl rfl⟩
set_option maxRecDepth 100000 in
theorem flX0_27 : m_FL RX0 27 0 5 := ⟨by decide, by decide, m_mem 157 rfl rfl⟩
set_option maxRecDepth 100000 in
theorem lkX1_3 : Cond.methodLink RX1 3 Lib.objectInit ∈ m_tbl := m_mem 87 rfl rfl
set_option maxRecDepth 100000 in
theorem flX1_9 : m_FL RX1 9 1 0 := ⟨by decide, by decide, m_mem 88 rfl rfl⟩
set_option maxRecDepth 100000 in
theorem lkX1_15 : m_LS RX1 15 mX1_placeOf 3 := ⟨mlX1_placeOf, m_mem 324 rfl rfl, Or.inl (m_mem 323 rfl rfl)⟩
set_option maxRecDepth 100000 in
theorem lkX2_3 : Cond.methodLink RX2 3 Lib.objectInit ∈ m_tbl := m_mem 98 rfl rfl
set_option maxRecDepth 100000 in
theorem flX2_9 : m_FL RX2 9 2 0 := ⟨by decide, by decide, m_mem 99 rfl rfl⟩
set_option maxRecDepth 100000 in
theorem flX2_15 : m_FL RX2 15 2 1 := ⟨by decide, by decide, m_mem 100 rfl rfl⟩
set_option maxRecDepth 100000 in
theorem lkX2_18 : Cond.methodLink RX2 18 Lib.Math.min.name ∈ m_tbl := m_mem 473 rfl rfl
set_option maxRecDepth 100000 in
theorem lkX3_3 : Cond.methodLink RX3 3 Lib.objectInit ∈ m_tbl := m_mem 198 rfl rfl
set_option maxRecDepth 100000 in
theorem flX3_9 : m_FL RX3 9 3 0 := ⟨by decide, by decide, m_mem 199 rfl rfl⟩
set_option maxRecDepth 100000 in
theorem flX3_15 : m_FL RX3 15 3 1 := ⟨by decide, by decide, m_mem 201 rfl rfl⟩
set_option maxRecDepth 100000 in
theorem flX3_18 : m_FL RX3 18 3 2 := ⟨by decide, by decide, m_mem 203 rfl rfl⟩
set_option maxRecDepth 100000 in
theorem flX3_21 : m_FL RX3 21 3 3 := ⟨by decide, by decide, m_mem 205 rfl rfl⟩
set_option maxRecDepth 100000 in
theorem flX3_24 : m_FL RX3 24 3 4 := ⟨by decide, by decide, m_mem 207 rfl rfl⟩
set_option maxRecDepth 100000 in
theorem flX3_27 : m_FL RX3 27 3 5 := ⟨by decide, by decide, m_mem 209 rfl rfl⟩
set_option maxRecDepth 100000 in
theorem flX3_30 : m_FL RX3 30 3 6 := ⟨by decide, by decide, m_mem 211 rfl rfl⟩
set_option maxRecDepth 100000 in
theorem lkX4_3 : Cond.methodLink RX4 3 Lib.objectInit ∈ m_tbl := m_mem 136 rfl rfl
set_option maxRecDepth 100000 in
theorem flX4_11 : m_FL RX4 11 4 0 := ⟨by decide, by decide, m_mem 172 rfl rfl⟩
set_option maxRecDepth 100000 in
theorem flX4_17 : m_FL RX4 17 4 1 := ⟨by decide, by decide, m_mem 173 rfl rfl⟩
set_option maxRecDepth 100000 in
theorem flX4_21 : m_FL RX4 21 4 2 := ⟨by decide, by decide, m_mem 174 rfl rfl⟩
set_option maxRecDepth 100000 in
theorem flX4_24 : m_FL RX4 24 4 3 := ⟨by decide, by decide, m_mem 175 rfl rfl⟩
set_option maxRecDepth 100000 in
theorem flX4_28 : m_FL RX4 28 4 4 := ⟨by decide, by decide, m_mem 177 rfl rfl⟩
set_option maxRecDepth 100000 in
theorem flX4_31 : m_FL RX4 31 4 5 := ⟨by decide, by decide, m_mem 179 rfl rfl⟩
set_option maxRecDepth 100000 in
theorem lkX4_34 : m_LI RX4 34 mX0_init 0 := ⟨mlX0_init, rfl, rfl, m_mem 141 rfl rfl, Or.inr ⟨_, List.mem_of_getElem? (i := 4) rfl⟩⟩
set_option maxRecDepth 100000 in
theorem flX4_35 : m_FL RX4 35 0 0 := ⟨by decide, by decide, m_mem 145 rfl rfl⟩
set_option maxRecDepth 100000 in
theorem flX4_38 : m_FL RX4 38 0 1 := ⟨by decide, by decide, m_mem 148 rfl rfl⟩
set_option maxRecDepth 100000 in
theorem lkX4_41 : m_LV RX4 41 mX4_columnNumbered 1 := ⟨mlX4_columnNumbered, m_mem 447 rfl rfl, m_mem 297 rfl rfl, m_mem 298 rfl rfl⟩
set_option maxRecDepth 100000 in
theorem flX4_45 : m_FL RX4 45 0 2 := ⟨by decide, by decide, m_mem 151 rfl rfl⟩
set_option maxRecDepth 100000 in
theorem lkX4_48 : m_LV RX4 48 mX4_isShifted 1 := ⟨mlX4_isShifted, m_mem 443 rfl rfl, m_mem 444 rfl rfl, m_mem 445 rfl rfl⟩
set_option maxRecDepth 100000 in
theorem lkX4_52 : m_LS RX4 52 mX6_rightFigure 1 := ⟨mlX6_rightFigure, m_mem 309 rfl rfl, Or.inr ⟨_, List.mem_of_getElem? (i := 5) rfl⟩⟩
set_option maxRecDepth 100000 in
theorem lkX5_3 : Cond.methodLink RX5 3 Lib.objectInit ∈ m_tbl := m_mem 111 rfl rfl
set_option maxRecDepth 100000 in
theorem flX5_9 : m_FL RX5 9 5 0 := ⟨by decide, by decide, m_mem 112 rfl rfl⟩
set_option maxRecDepth 100000 in
theorem flX5_15 : m_FL RX5 15 5 1 := ⟨by decide, by decide, m_mem 113 rfl rfl⟩
set_option maxRecDepth 100000 in
theorem flX5_18 : m_FL RX5 18 5 2 := ⟨by decide, by decide, m_mem 114 rfl rfl⟩
set_option maxRecDepth 100000 in
theorem flX5_21 : m_FL RX5 21 5 3 := ⟨by decide, by decide, m_mem 115 rfl rfl⟩
set_option maxRecDepth 100000 in
theorem flX5_24 : m_FL RX5 24 5 4 := ⟨by decide, by decide, m_mem 116 rfl rfl⟩
set_option maxRecDepth 100000 in
theorem flX5_28 : m_FL RX5 28 5 5 := ⟨by decide, by decide, m_mem 118 rfl rfl⟩
set_option maxRecDepth 100000 in
theorem lkX5_34 : Cond.methodLink RX5 34 Lib.Math.min.name ∈ m_tbl := m_mem 616 rfl rfl
set_option maxRecDepth 100000 in
theorem lkX5_40 : m_LV RX5 40 mX5_isChoice 2 := ⟨mlX5_isChoice, m_mem 634 rfl rfl, m_mem 636 rfl rfl, m_mem 32 rfl rfl⟩
set_option maxRecDepth 100000 in
theorem lkX5_44 : m_LV RX5 44 mX5_choiceOf 2 := ⟨mlX5_choiceOf, m_mem 661 rfl rfl, m_mem 662 rfl rfl, m_mem 663 rfl rfl⟩
set_option maxRecDepth 100000 in
theorem lkX5_47 : m_LS RX5 47 mJ6_bitCount 1 := ⟨mlJ6_bitCount, m_mem 582 rfl rfl, Or.inl (m_mem 669 rfl rfl)⟩
set_option maxRecDepth 100000 in
theorem lkX5_53 : m_LV RX5 53 mX5_lossOf 1 := ⟨mlX5_lossOf, m_mem 657 rfl rfl, m_mem 658 rfl rfl, m_mem 659 rfl rfl⟩
set_option maxRecDepth 100000 in
theorem lkX5_56 : m_LV RX5 56 mX5_isSafe 2 := ⟨mlX5_isSafe, m_mem 665 rfl rfl, m_mem 667 rfl rfl, m_mem 34 rfl rfl⟩
set_option maxRecDepth 100000 in
theorem lkL_9 : m_LI RL 9 mX6_init 0 := ⟨mlX6_init, rfl, rfl, m_mem 73 rfl rfl, Or.inl (m_mem 72 rfl rfl)⟩
set_option maxRecDepth 100000 in
theorem lkL_12 : m_LI RL 12 mX7_init 0 := ⟨mlX7_init, rfl, rfl, m_mem 687 rfl rfl, Or.inl (m_mem 686 rfl rfl)⟩
set_option maxRecDepth 100000 in
theorem lkL_13 : m_LV RL 13 mX6_table 0 := ⟨mlX6_table, m_mem 268 rfl rfl, m_mem 269 rfl rfl, m_mem 270 rfl rfl⟩
set_option maxRecDepth 100000 in
theorem lkL_17 : m_LV RL 17 mX7_table 0 := ⟨mlX7_table, m_mem 784 rfl rfl, m_mem 785 rfl rfl, m_mem 786 rfl rfl⟩
set_option maxRecDepth 100000 in
theorem lkL_18 : m_LV RL 18 mX6_column 3 := ⟨mlX6_column, m_mem 272 rfl rfl, m_mem 273 rfl rfl, m_mem 274 rfl rfl⟩
set_option maxRecDepth 100000 in
theorem lkL_22 : m_LV RL 22 mX7_column 3 := ⟨mlX7_column, m_mem 792 rfl rfl, m_mem 793 rfl rfl, m_mem 794 rfl rfl⟩
set_option maxRecDepth 100000 in
theorem lkL_23 : m_LV RL 23 mX6_cell 1 := ⟨mlX6_cell, m_mem 284 rfl rfl, m_mem 285 rfl rfl, m_mem 286 rfl rfl⟩
set_option maxRecDepth 100000 in
theorem lkL_27 : m_LV RL 27 mX7_cell_ 1 := ⟨mlX7_cell_, m_mem 803 rfl rfl, m_mem 804 rfl rfl, m_mem 805 rfl rfl⟩
set_option maxRecDepth 100000 in
theorem lkL_28 : m_LV RL 28 mX6_row 1 := ⟨mlX6_row, m_mem 288 rfl rfl, m_mem 289 rfl rfl, m_mem 290 rfl rfl⟩
set_option maxRecDepth 100000 in
theorem lkL_31 : m_LV RL 31 mX7_row 1 := ⟨mlX7_row, m_mem 811 rfl rfl, m_mem 812 rfl rfl, m_mem 813 rfl rfl⟩
set_option maxRecDepth 100000 in
theorem lkL_32 : m_LV RL 32 mX6_wipe 0 := ⟨mlX6_wipe, m_mem 331 rfl rfl, m_mem 332 rfl rfl, m_mem 333 rfl rfl⟩
set_option maxRecDepth 100000 in
theorem lkL_35 : m_LV RL 35 mX7_wipe 0 := ⟨mlX7_wipe, m_mem 807 rfl rfl, m_mem 808 rfl rfl, m_mem 809 rfl rfl⟩
set_option maxRecDepth 100000 in
theorem lkL_36 : m_LV RL 36 mX6_owner 2 := ⟨mlX6_owner, m_mem 335 rfl rfl, m_mem 336 rfl rfl, m_mem 337 rfl rfl⟩
set_option maxRecDepth 100000 in
theorem lkL_40 : m_LV RL 40 mX7_owner 2 := ⟨mlX7_owner, m_mem 829 rfl rfl, m_mem 830 rfl rfl, m_mem 831 rfl rfl⟩
set_option maxRecDepth 100000 in
theorem lkL_41 : m_LV RL 41 mX6_mask 4 := ⟨mlX6_mask, m_mem 343 rfl rfl, m_mem 344 rfl rfl, m_mem 345 rfl rfl⟩
set_option maxRecDepth 100000 in
theorem lkL_45 : m_LV RL 45 mX7_mask 4 := ⟨mlX7_mask, m_mem 837 rfl rfl, m_mem 838 rfl rfl, m_mem 839 rfl rfl⟩
set_option maxRecDepth 100000 in
theorem lkL_46 : m_LV RL 46 mX6_dial 5 := ⟨mlX6_dial, m_mem 353 rfl rfl, m_mem 354 rfl rfl, m_mem 355 rfl rfl⟩
set_option maxRecDepth 100000 in
theorem lkL_50 : m_LV RL 50 mX7_dial 5 := ⟨mlX7_dial, m_mem 844 rfl rfl, m_mem 845 rfl rfl, m_mem 846 rfl rfl⟩
set_option maxRecDepth 100000 in
theorem lkL_51 : m_LV RL 51 mX6_seed 1 := ⟨mlX6_seed, m_mem 364 rfl rfl, m_mem 365 rfl rfl, m_mem 366 rfl rfl⟩
set_option maxRecDepth 100000 in
theorem lkL_54 : m_LV RL 54 mX7_seed 1 := ⟨mlX7_seed, m_mem 848 rfl rfl, m_mem 849 rfl rfl, m_mem 850 rfl rfl⟩
set_option maxRecDepth 100000 in
theorem lkL_55 : m_LV RL 55 mX6_order 3 := ⟨mlX6_order, m_mem 368 rfl rfl, m_mem 369 rfl rfl, m_mem 370 rfl rfl⟩
set_option maxRecDepth 100000 in
theorem lkL_58 : m_LV RL 58 mX7_order 3 := ⟨mlX7_order, m_mem 852 rfl rfl, m_mem 853 rfl rfl, m_mem 854 rfl rfl⟩
set_option maxRecDepth 100000 in
theorem lkL_59 : m_LV RL 59 mX6_agree 6 := ⟨mlX6_agree, m_mem 384 rfl rfl, m_mem 385 rfl rfl, m_mem 386 rfl rfl⟩
set_option maxRecDepth 100000 in
theorem lkL_63 : m_LV RL 63 mX7_agree 6 := ⟨mlX7_agree, m_mem 860 rfl rfl, m_mem 861 rfl rfl, m_mem 862 rfl rfl⟩
set_option maxRecDepth 100000 in
theorem lkL_64 : m_LV RL 64 mX6_found 2 := ⟨mlX6_found, m_mem 395 rfl rfl, m_mem 396 rfl rfl, m_mem 397 rfl rfl⟩
set_option maxRecDepth 100000 in
theorem lkL_67 : m_LV RL 67 mX7_found 2 := ⟨mlX7_found, m_mem 864 rfl rfl, m_mem 865 rfl rfl, m_mem 866 rfl rfl⟩
set_option maxRecDepth 100000 in
theorem lkL_68 : m_LV RL 68 mX6_unrule 0 := ⟨mlX6_unrule, m_mem 403 rfl rfl, m_mem 404 rfl rfl, m_mem 405 rfl rfl⟩
set_option maxRecDepth 100000 in
theorem lkL_71 : m_LV RL 71 mX7_unrule 0 := ⟨mlX7_unrule, m_mem 868 rfl rfl, m_mem 869 rfl rfl, m_mem 870 rfl rfl⟩
set_option maxRecDepth 100000 in
theorem lkL_72 : m_LV RL 72 mX6_broken 1 := ⟨mlX6_broken, m_mem 407 rfl rfl, m_mem 408 rfl rfl, m_mem 409 rfl rfl⟩
set_option maxRecDepth 100000 in
theorem lkL_75 : m_LV RL 75 mX7_broken 1 := ⟨mlX7_broken, m_mem 872 rfl rfl, m_mem 873 rfl rfl, m_mem 874 rfl rfl⟩
set_option maxRecDepth 100000 in
theorem lkL_76 : m_LV RL 76 mX6_make 0 := ⟨mlX6_make, m_mem 431 rfl rfl, m_mem 432 rfl rfl, m_mem 433 rfl rfl⟩
set_option maxRecDepth 100000 in
theorem lkL_79 : m_LV RL 79 mX7_make 0 := ⟨mlX7_make, m_mem 896 rfl rfl, m_mem 897 rfl rfl, m_mem 898 rfl rfl⟩
set_option maxRecDepth 100000 in
theorem lkL_80 : m_LV RL 80 mX6_at 4 := ⟨mlX6_at, m_mem 519 rfl rfl, m_mem 520 rfl rfl, m_mem 521 rfl rfl⟩
set_option maxRecDepth 100000 in
theorem lkL_83 : m_LV RL 83 mX7_at 4 := ⟨mlX7_at, m_mem 931 rfl rfl, m_mem 932 rfl rfl, m_mem 933 rfl rfl⟩
set_option maxRecDepth 100000 in
theorem lkL_84 : m_LV RL 84 mX6_turned 3 := ⟨mlX6_turned, m_mem 527 rfl rfl, m_mem 528 rfl rfl, m_mem 529 rfl rfl⟩
set_option maxRecDepth 100000 in
theorem lkL_87 : m_LV RL 87 mX7_turned 3 := ⟨mlX7_turned, m_mem 939 rfl rfl, m_mem 940 rfl rfl, m_mem 941 rfl rfl⟩
set_option maxRecDepth 100000 in
theorem lkL_88 : m_LV RL 88 mX6_shift 1 := ⟨mlX6_shift, m_mem 531 rfl rfl, m_mem 532 rfl rfl, m_mem 533 rfl rfl⟩
set_option maxRecDepth 100000 in
theorem lkL_91 : m_LV RL 91 mX7_shift 1 := ⟨mlX7_shift, m_mem 943 rfl rfl, m_mem 944 rfl rfl, m_mem 945 rfl rfl⟩
set_option maxRecDepth 100000 in
theorem lkL_92 : m_LV RL 92 mX6_count 4 := ⟨mlX6_count, m_mem 535 rfl rfl, m_mem 536 rfl rfl, m_mem 537 rfl rfl⟩
set_option maxRecDepth 100000 in
theorem lkL_95 : m_LV RL 95 mX7_count 4 := ⟨mlX7_count, m_mem 947 rfl rfl, m_mem 948 rfl rfl, m_mem 949 rfl rfl⟩
set_option maxRecDepth 100000 in
theorem lkL_96 : m_LV RL 96 mX6_joins 3 := ⟨mlX6_joins, m_mem 539 rfl rfl, m_mem 540 rfl rfl, m_mem 541 rfl rfl⟩
set_option maxRecDepth 100000 in
theorem lkL_99 : m_LV RL 99 mX7_joins 3 := ⟨mlX7_joins, m_mem 951 rfl rfl, m_mem 952 rfl rfl, m_mem 953 rfl rfl⟩
set_option maxRecDepth 100000 in
theorem lkL_100 : m_LV RL 100 mX6_miss 2 := ⟨mlX6_miss, m_mem 543 rfl rfl, m_mem 544 rfl rfl, m_mem 545 rfl rfl⟩
set_option maxRecDepth 100000 in
theorem lkL_103 : m_LV RL 103 mX7_miss 2 := ⟨mlX7_miss, m_mem 955 rfl rfl, m_mem 956 rfl rfl, m_mem 957 rfl rfl⟩
set_option maxRecDepth 100000 in
theorem lkL_104 : m_LV RL 104 mX6_could 3 := ⟨mlX6_could, m_mem 550 rfl rfl, m_mem 551 rfl rfl, m_mem 552 rfl rfl⟩
set_option maxRecDepth 100000 in
theorem lkL_107 : m_LV RL 107 mX7_could 3 := ⟨mlX7_could, m_mem 959 rfl rfl, m_mem 960 rfl rfl, m_mem 961 rfl rfl⟩
set_option maxRecDepth 100000 in
theorem lkL_108 : m_LV RL 108 mX6_alike 2 := ⟨mlX6_alike, m_mem 587 rfl rfl, m_mem 588 rfl rfl, m_mem 589 rfl rfl⟩
set_option maxRecDepth 100000 in
theorem lkL_111 : m_LV RL 111 mX7_alike 2 := ⟨mlX7_alike, m_mem 979 rfl rfl, m_mem 980 rfl rfl, m_mem 981 rfl rfl⟩
set_option maxRecDepth 100000 in
theorem lkL_112 : m_LV RL 112 mX6_sure 4 := ⟨mlX6_sure, m_mem 592 rfl rfl, m_mem 593 rfl rfl, m_mem 594 rfl rfl⟩
set_option maxRecDepth 100000 in
theorem lkL_115 : m_LV RL 115 mX7_sure 4 := ⟨mlX7_sure, m_mem 987 rfl rfl, m_mem 988 rfl rfl, m_mem 989 rfl rfl⟩
set_option maxRecDepth 100000 in
theorem lkL_116 : m_LV RL 116 mX6_loss 2 := ⟨mlX6_loss, m_mem 596 rfl rfl, m_mem 597 rfl rfl, m_mem 598 rfl rfl⟩
set_option maxRecDepth 100000 in
theorem lkL_119 : m_LV RL 119 mX7_loss 2 := ⟨mlX7_loss, m_mem 991 rfl rfl, m_mem 992 rfl rfl, m_mem 993 rfl rfl⟩
set_option maxRecDepth 100000 in
theorem lkL_120 : m_LV RL 120 mX6_best 3 := ⟨mlX6_best, m_mem 604 rfl rfl, m_mem 605 rfl rfl, m_mem 606 rfl rfl⟩
set_option maxRecDepth 100000 in
theorem lkL_123 : m_LV RL 123 mX7_best 3 := ⟨mlX7_best, m_mem 999 rfl rfl, m_mem 1000 rfl rfl, m_mem 1001 rfl rfl⟩
set_option maxRecDepth 100000 in
theorem lkL_124 : m_LV RL 124 mX6_about 3 := ⟨mlX6_about, m_mem 676 rfl rfl, m_mem 677 rfl rfl, m_mem 678 rfl rfl⟩
set_option maxRecDepth 100000 in
theorem lkL_127 : m_LV RL 127 mX7_about 3 := ⟨mlX7_about, m_mem 1010 rfl rfl, m_mem 1011 rfl rfl, m_mem 1012 rfl rfl⟩
set_option maxRecDepth 100000 in
theorem lkL_128 : m_LV RL 128 mX6_all 1 := ⟨mlX6_all, m_mem 680 rfl rfl, m_mem 681 rfl rfl, m_mem 682 rfl rfl⟩
set_option maxRecDepth 100000 in
theorem lkL_131 : m_LV RL 131 mX7_all 1 := ⟨mlX7_all, m_mem 1014 rfl rfl, m_mem 1015 rfl rfl, m_mem 1016 rfl rfl⟩
set_option maxRecDepth 100000 in
theorem wS_min : Cond.static Lib.Math.min.name ∈ m_tbl := m_mem 474 rfl rfl
set_option maxRecDepth 100000 in
theorem wC_min : Cond.code Lib.Math.min.name Lib.Math.min.code 2 (some .int) ∈ m_tbl := m_mem 475 rfl rfl
set_option maxRecDepth 100000 in
theorem wS_abs : Cond.static Lib.Math.abs.name ∈ m_tbl := m_mem 548 rfl rfl
set_option maxRecDepth 100000 in
theorem wC_abs : Cond.code Lib.Math.abs.name Lib.Math.abs.code 1 (some .int) ∈ m_tbl := m_mem 549 rfl rfl
set_option maxRecDepth 100000 in
theorem wI_Math : Cond.initialized "java/lang/Math" ∈ m_tbl := m_mem 68 rfl rfl
set_option maxRecDepth 100000 in
theorem wI_obj : Cond.instanceMethod Lib.objectInit ∈ m_tbl := m_mem 76 rfl rfl
set_option maxRecDepth 100000 in
theorem wC_obj : Cond.code Lib.objectInit ⟨#[0xb1]⟩ 1 none ∈ m_tbl := m_mem 77 rfl rfl
set_option maxRecDepth 100000 in
theorem kcX6_179 : Cond.constant RX6 179 (-2147483648) ∈ m_tbl := m_mem 300 rfl rfl
set_option maxRecDepth 100000 in
theorem kcX6_252 : Cond.constant RX6 252 (99999) ∈ m_tbl := m_mem 307 rfl rfl
set_option maxRecDepth 100000 in
theorem kcX1_19 : Cond.constant RX1 19 (-2147483648) ∈ m_tbl := m_mem 326 rfl rfl
set_option maxRecDepth 100000 in
theorem kcX7_103 : Cond.constant RX7 103 (99999) ∈ m_tbl := m_mem 822 rfl rfl
set_option maxRecDepth 100000 in
theorem kcX7_119 : Cond.constant RX7 119 (-2147483648) ∈ m_tbl := m_mem 818 rfl rfl
set_option maxRecDepth 100000 in
theorem kcJ6_265 : Cond.constant RJ6 265 (1431655765) ∈ m_tbl := m_mem 584 rfl rfl
set_option maxRecDepth 100000 in
theorem kcJ6_266 : Cond.constant RJ6 266 (858993459) ∈ m_tbl := m_mem 585 rfl rfl
set_option maxRecDepth 100000 in
theorem kcJ6_267 : Cond.constant RJ6 267 (252645135) ∈ m_tbl := m_mem 586 rfl rfl
set_option maxRecDepth 100000 in
theorem klX6_11 : Cond.classLink RX6 11 RX4 ∈ m_tbl := m_mem 78 rfl rfl
set_option maxRecDepth 100000 in
theorem klX6_17 : Cond.classLink RX6 17 RX3 ∈ m_tbl := m_mem 80 rfl rfl
set_option maxRecDepth 100000 in
theorem klX6_27 : Cond.classLink RX6 27 RX1 ∈ m_tbl := m_mem 82 rfl rfl
set_option maxRecDepth 100000 in
theorem klX6_34 : Cond.classLink RX6 34 RX2 ∈ m_tbl := m_mem 93 rfl rfl
set_option maxRecDepth 100000 in
theorem klX6_41 : Cond.classLink RX6 41 RX5 ∈ m_tbl := m_mem 106 rfl rfl
set_option maxRecDepth 100000 in
theorem klX4_9 : Cond.classLink RX4 9 RX0 ∈ m_tbl := m_mem 137 rfl rfl
set_option maxRecDepth 100000 in
theorem klL_7 : Cond.classLink RL 7 RX6 ∈ m_tbl := m_mem 70 rfl rfl
set_option maxRecDepth 100000 in
theorem klL_10 : Cond.classLink RL 10 RX7 ∈ m_tbl := m_mem 684 rfl rfl
set_option maxRecDepth 100000 in
theorem kn_0 : Cond.instantiable (m_R 0) (m_nF 0) ∈ m_tbl := m_mem 139 rfl rfl
set_option maxRecDepth 100000 in
theorem ki_0 : Cond.initialized (m_R 0) ∈ m_tbl := m_mem 65 rfl rfl
set_option maxRecDepth 100000 in
theorem kn_1 : Cond.instantiable (m_R 1) (m_nF 1) ∈ m_tbl := m_mem 83 rfl rfl
set_option maxRecDepth 100000 in
theorem ki_1 : Cond.initialized (m_R 1) ∈ m_tbl := m_mem 61 rfl rfl
set_option maxRecDepth 100000 in
theorem kn_2 : Cond.instantiable (m_R 2) (m_nF 2) ∈ m_tbl := m_mem 94 rfl rfl
set_option maxRecDepth 100000 in
theorem ki_2 : Cond.initialized (m_R 2) ∈ m_tbl := m_mem 62 rfl rfl
set_option maxRecDepth 100000 in
theorem kn_3 : Cond.instantiable (m_R 3) (m_nF 3) ∈ m_tbl := m_mem 194 rfl rfl
set_option maxRecDepth 100000 in
theorem ki_3 : Cond.initialized (m_R 3) ∈ m_tbl := m_mem 66 rfl rfl
set_option maxRecDepth 100000 in
theorem kn_4 : Cond.instantiable (m_R 4) (m_nF 4) ∈ m_tbl := m_mem 132 rfl rfl
set_option maxRecDepth 100000 in
theorem ki_4 : Cond.initialized (m_R 4) ∈ m_tbl := m_mem 64 rfl rfl
set_option maxRecDepth 100000 in
theorem kn_5 : Cond.instantiable (m_R 5) (m_nF 5) ∈ m_tbl := m_mem 107 rfl rfl
set_option maxRecDepth 100000 in
theorem ki_5 : Cond.initialized (m_R 5) ∈ m_tbl := m_mem 63 rfl rfl
set_option maxRecDepth 100000 in
theorem kn_6 : Cond.instantiable (m_R 6) (m_nF 6) ∈ m_tbl := m_mem 71 rfl rfl
set_option maxRecDepth 100000 in
theorem ki_6 : Cond.initialized (m_R 6) ∈ m_tbl := m_mem 60 rfl rfl
set_option maxRecDepth 100000 in
theorem kn_7 : Cond.instantiable (m_R 7) (m_nF 7) ∈ m_tbl := m_mem 685 rfl rfl
set_option maxRecDepth 100000 in
theorem ki_7 : Cond.initialized (m_R 7) ∈ m_tbl := m_mem 67 rfl rfl
set_option maxRecDepth 100000 in
theorem ka_0 : Cond.arrayClass (m_at_ty 0) ∈ m_tbl := m_mem 92 rfl rfl
set_option maxRecDepth 100000 in
theorem ka_1 : Cond.arrayClass (m_at_ty 1) ∈ m_tbl := m_mem 783 rfl rfl
set_option maxRecDepth 100000 in
theorem kw_31 : Cond.fieldLink RX5 31 "MaskedCopies$WidthSearch" "WIDTHS" "[I" ∈ m_tbl := m_mem 628 rfl rfl
end
section
theorem dX0_init_0 : decode cX0_init 0 = .ok (.aload_n 0, 1) := by decide +kernel
theorem dX0_init_1 : decode cX0_init 1 = .ok (.invokespecial 3, 3) := by decide +kernel
theorem dX0_init_4 : decode cX0_init 4 = .ok (.aload_n 0, 1) := by decide +kernel
theorem dX0_init_5 : decode cX0_init 5 = .ok (.iconst 0, 1) := by decide +kernel
theorem dX0_init_6 : decode cX0_init 6 = .ok (.putfield 9, 3) := by decide +kernel
theorem dX0_init_9 : decode cX0_init 9 = .ok (.aload_n 0, 1) := by decide +kernel
theorem dX0_init_10 : decode cX0_init 10 = .ok (.iconst 0, 1) := by decide +kernel
theorem dX0_init_11 : decode cX0_init 11 = .ok (.putfield 15, 3) := by decide +kernel
theorem dX0_init_14 : decode cX0_init 14 = .ok (.aload_n 0, 1) := by decide +kernel
theorem dX0_init_15 : decode cX0_init 15 = .ok (.iconst 0, 1) := by decide +kernel
theorem dX0_init_16 : decode cX0_init 16 = .ok (.putfield 18, 3) := by decide +kernel
theorem dX0_init_19 : decode cX0_init 19 = .ok (.aload_n 0, 1) := by decide +kernel
theorem dX0_init_20 : decode cX0_init 20 = .ok (.iconst 0, 1) := by decide +kernel
theorem dX0_init_21 : decode cX0_init 21 = .ok (.putfield 21, 3) := by decide +kernel
theorem dX0_init_24 : decode cX0_init 24 = .ok (.aload_n 0, 1) := by decide +kernel
theorem dX0_init_25 : decode cX0_init 25 = .ok (.iconst 1, 1) := by decide +kernel
theorem dX0_init_26 : decode cX0_init 26 = .ok (.putfield 24, 3) := by decide +kernel
theorem dX0_init_29 : decode cX0_init 29 = .ok (.aload_n 0, 1) := by decide +kernel
theorem dX0_init_30 : decode cX0_init 30 = .ok (.iconst 0, 1) := by decide +kernel
theorem dX0_init_31 : decode cX0_init 31 = .ok (.putfield 27, 3) := by decide +kernel
theorem dX0_init_34 : decode cX0_init 34 = .ok (.return_, 1) := by decide +kernel
theorem dX0_turnName_0 : decode cX0_turnName 0 = .ok (.aload_n 0, 1) := by decide +kernel
theorem dX0_turnName_1 : decode cX0_turnName 1 = .ok (.getfield 24, 3) := by decide +kernel
theorem dX0_turnName_4 : decode cX0_turnName 4 = .ok (.iload_n 1, 1) := by decide +kernel
theorem dX0_turnName_5 : decode cX0_turnName 5 = .ok (.imul, 1) := by decide +kernel
theorem dX0_turnName_6 : decode cX0_turnName 6 = .ok (.aload_n 0, 1) := by decide +kernel
theorem dX0_turnName_7 : decode cX0_turnName 7 = .ok (.getfield 27, 3) := by decide +kernel
theorem dX0_turnName_10 : decode cX0_turnName 10 = .ok (.iadd, 1) := by decide +kernel
theorem dX0_turnName_11 : decode cX0_turnName 11 = .ok (.bipush 100, 2) := by decide +kernel
theorem dX0_turnName_13 : decode cX0_turnName 13 = .ok (.irem, 1) := by decide +kernel
theorem dX0_turnName_14 : decode cX0_turnName 14 = .ok (.ireturn, 1) := by decide +kernel
theorem dX1_init_0 : decode cX1_init 0 = .ok (.aload_n 0, 1) := by decide +kernel
theorem dX1_init_1 : decode cX1_init 1 = .ok (.invokespecial 3, 3) := by decide +kernel
theorem dX1_init_4 : decode cX1_init 4 = .ok (.aload_n 0, 1) := by decide +kernel
theorem dX1_init_5 : decode cX1_init 5 = .ok (.sipush 288, 3) := by decide +kernel
theorem dX1_init_8 : decode cX1_init 8 = .ok (.newarray .int, 2) := by decide +kernel
theorem dX1_init_10 : decode cX1_init 10 = .ok (.putfield 9, 3) := by decide +kernel
theorem dX1_init_13 : decode cX1_init 13 = .ok (.return_, 1) := by decide +kernel
theorem dX1_placeOf_0 : decode cX1_placeOf 0 = .ok (.iload_n 0, 1) := by decide +kernel
theorem dX1_placeOf_1 : decode cX1_placeOf 1 = .ok (.ifCond .lt 32, 3) := by decide +kernel
theorem dX1_placeOf_4 : decode cX1_placeOf 4 = .ok (.iload_n 0, 1) := by decide +kernel
theorem dX1_placeOf_5 : decode cX1_placeOf 5 = .ok (.iconst 4, 1) := by decide +kernel
theorem dX1_placeOf_6 : decode cX1_placeOf 6 = .ok (.if_icmp .ge 27, 3) := by decide +kernel
theorem dX1_placeOf_9 : decode cX1_placeOf 9 = .ok (.iload_n 1, 1) := by decide +kernel
theorem dX1_placeOf_10 : decode cX1_placeOf 10 = .ok (.ifCond .lt 23, 3) := by decide +kernel
theorem dX1_placeOf_13 : decode cX1_placeOf 13 = .ok (.iload_n 1, 1) := by decide +kernel
theorem dX1_placeOf_14 : decode cX1_placeOf 14 = .ok (.bipush 12, 2) := by decide +kernel
theorem dX1_placeOf_16 : decode cX1_placeOf 16 = .ok (.if_icmp .ge 17, 3) := by decide +kernel
theorem dX1_placeOf_19 : decode cX1_placeOf 19 = .ok (.iload_n 2, 1) := by decide +kernel
theorem dX1_placeOf_20 : decode cX1_placeOf 20 = .ok (.ifCond .lt 13, 3) := by decide +kernel
theorem dX1_placeOf_23 : decode cX1_placeOf 23 = .ok (.iload_n 2, 1) := by decide +kernel
theorem dX1_placeOf_24 : decode cX1_placeOf 24 = .ok (.bipush 6, 2) := by decide +kernel
theorem dX1_placeOf_26 : decode cX1_placeOf 26 = .ok (.if_icmp .ge 7, 3) := by decide +kernel
theorem dX1_placeOf_29 : decode cX1_placeOf 29 = .ok (.iconst 1, 1) := by decide +kernel
theorem dX1_placeOf_30 : decode cX1_placeOf 30 = .ok (.goto 4, 3) := by decide +kernel
theorem dX1_placeOf_33 : decode cX1_placeOf 33 = .ok (.iconst 0, 1) := by decide +kernel
theorem dX1_placeOf_34 : decode cX1_placeOf 34 = .ok (.istore_n 3, 1) := by decide +kernel
theorem dX1_placeOf_35 : decode cX1_placeOf 35 = .ok (.iload_n 3, 1) := by decide +kernel
theorem dX1_placeOf_36 : decode cX1_placeOf 36 = .ok (.ifCond .eq 17, 3) := by decide +kernel
theorem dX1_placeOf_39 : decode cX1_placeOf 39 = .ok (.iload_n 0, 1) := by decide +kernel
theorem dX1_placeOf_40 : decode cX1_placeOf 40 = .ok (.bipush 12, 2) := by decide +kernel
theorem dX1_placeOf_42 : decode cX1_placeOf 42 = .ok (.imul, 1) := by decide +kernel
theorem dX1_placeOf_43 : decode cX1_placeOf 43 = .ok (.iload_n 1, 1) := by decide +kernel
theorem dX1_placeOf_44 : decode cX1_placeOf 44 = .ok (.iadd, 1) := by decide +kernel
theorem dX1_placeOf_45 : decode cX1_placeOf 45 = .ok (.bipush 6, 2) := by decide +kernel
theorem dX1_placeOf_47 : decode cX1_placeOf 47 = .ok (.imul, 1) := by decide +kernel
theorem dX1_placeOf_48 : decode cX1_placeOf 48 = .ok (.iload_n 2, 1) := by decide +kernel
theorem dX1_placeOf_49 : decode cX1_placeOf 49 = .ok (.iadd, 1) := by decide +kernel
theorem dX1_placeOf_50 : decode cX1_placeOf 50 = .ok (.goto 4, 3) := by decide +kernel
theorem dX1_placeOf_53 : decode cX1_placeOf 53 = .ok (.iconst (-1), 1) := by decide +kernel
theorem dX1_placeOf_54 : decode cX1_placeOf 54 = .ok (.ireturn, 1) := by decide +kernel
theorem dX1_read_0 : decode cX1_read 0 = .ok (.iload_n 1, 1) := by decide +kernel
theorem dX1_read_1 : decode cX1_read 1 = .ok (.iload_n 2, 1) := by decide +kernel
theorem dX1_read_2 : decode cX1_read 2 = .ok (.iload_n 3, 1) := by decide +kernel
theorem dX1_read_3 : decode cX1_read 3 = .ok (.invokestatic 15, 3) := by decide +kernel
theorem dX1_read_6 : decode cX1_read 6 = .ok (.istore 4, 2) := by decide +kernel
theorem dX1_read_8 : decode cX1_read 8 = .ok (.iload 4, 2) := by decide +kernel
theorem dX1_read_10 : decode cX1_read 10 = .ok (.ifCond .ge 8, 3) := by decide +kernel
theorem dX1_read_13 : decode cX1_read 13 = .ok (.ldc 19, 2) := by decide +kernel
theorem dX1_read_15 : decode cX1_read 15 = .ok (.goto 10, 3) := by decide +kernel
theorem dX1_read_18 : decode cX1_read 18 = .ok (.aload_n 0, 1) := by decide +kernel
theorem dX1_read_19 : decode cX1_read 19 = .ok (.getfield 9, 3) := by decide +kernel
theorem dX1_read_22 : decode cX1_read 22 = .ok (.iload 4, 2) := by decide +kernel
theorem dX1_read_24 : decode cX1_read 24 = .ok (.iaload, 1) := by decide +kernel
theorem dX1_read_25 : decode cX1_read 25 = .ok (.ireturn, 1) := by decide +kernel
theorem dX1_write_0 : decode cX1_write 0 = .ok (.iload_n 1, 1) := by decide +kernel
theorem dX1_write_1 : decode cX1_write 1 = .ok (.iload_n 2, 1) := by decide +kernel
theorem dX1_write_2 : decode cX1_write 2 = .ok (.iload_n 3, 1) := by decide +kernel
theorem dX1_write_3 : decode cX1_write 3 = .ok (.invokestatic 15, 3) := by decide +kernel
theorem dX1_write_6 : decode cX1_write 6 = .ok (.istore 5, 2) := by decide +kernel
theorem dX1_write_8 : decode cX1_write 8 = .ok (.iload 5, 2) := by decide +kernel
theorem dX1_write_10 : decode cX1_write 10 = .ok (.ifCond .lt 12, 3) := by decide +kernel
theorem dX1_write_13 : decode cX1_write 13 = .ok (.aload_n 0, 1) := by decide +kernel
theorem dX1_write_14 : decode cX1_write 14 = .ok (.getfield 9, 3) := by decide +kernel
theorem dX1_write_17 : decode cX1_write 17 = .ok (.iload 5, 2) := by decide +kernel
theorem dX1_write_19 : decode cX1_write 19 = .ok (.iload 4, 2) := by decide +kernel
theorem dX1_write_21 : decode cX1_write 21 = .ok (.iastore, 1) := by decide +kernel
theorem dX1_write_22 : decode cX1_write 22 = .ok (.return_, 1) := by decide +kernel
theorem dX2_init_0 : decode cX2_init 0 = .ok (.aload_n 0, 1) := by decide +kernel
theorem dX2_init_1 : decode cX2_init 1 = .ok (.invokespecial 3, 3) := by decide +kernel
theorem dX2_init_4 : decode cX2_init 4 = .ok (.aload_n 0, 1) := by decide +kernel
theorem dX2_init_5 : decode cX2_init 5 = .ok (.iconst 0, 1) := by decide +kernel
theorem dX2_init_6 : decode cX2_init 6 = .ok (.putfield 9, 3) := by decide +kernel
theorem dX2_init_9 : decode cX2_init 9 = .ok (.aload_n 0, 1) := by decide +kernel
theorem dX2_init_10 : decode cX2_init 10 = .ok (.iconst 0, 1) := by decide +kernel
theorem dX2_init_11 : decode cX2_init 11 = .ok (.putfield 15, 3) := by decide +kernel
theorem dX2_init_14 : decode cX2_init 14 = .ok (.return_, 1) := by decide +kernel
theorem dX2_open_0 : decode cX2_open 0 = .ok (.aload_n 0, 1) := by decide +kernel
theorem dX2_open_1 : decode cX2_open 1 = .ok (.bipush 30, 2) := by decide +kernel
theorem dX2_open_3 : decode cX2_open 3 = .ok (.putfield 9, 3) := by decide +kernel
theorem dX2_open_6 : decode cX2_open 6 = .ok (.aload_n 0, 1) := by decide +kernel
theorem dX2_open_7 : decode cX2_open 7 = .ok (.bipush 30, 2) := by decide +kernel
theorem dX2_open_9 : decode cX2_open 9 = .ok (.putfield 15, 3) := by decide +kernel
theorem dX2_open_12 : decode cX2_open 12 = .ok (.return_, 1) := by decide +kernel
theorem dX2_narrow_0 : decode cX2_narrow 0 = .ok (.aload_n 0, 1) := by decide +kernel
theorem dX2_narrow_1 : decode cX2_narrow 1 = .ok (.aload_n 0, 1) := by decide +kernel
theorem dX2_narrow_2 : decode cX2_narrow 2 = .ok (.getfield 9, 3) := by decide +kernel
theorem dX2_narrow_5 : decode cX2_narrow 5 = .ok (.iload_n 1, 1) := by decide +kernel
theorem dX2_narrow_6 : decode cX2_narrow 6 = .ok (.invokestatic 18, 3) := by decide +kernel
theorem dX2_narrow_9 : decode cX2_narrow 9 = .ok (.putfield 9, 3) := by decide +kernel
theorem dX2_narrow_12 : decode cX2_narrow 12 = .ok (.aload_n 0, 1) := by decide +kernel
theorem dX2_narrow_13 : decode cX2_narrow 13 = .ok (.aload_n 0, 1) := by decide +kernel
theorem dX2_narrow_14 : decode cX2_narrow 14 = .ok (.getfield 15, 3) := by decide +kernel
theorem dX2_narrow_17 : decode cX2_narrow 17 = .ok (.sipush 9999, 3) := by decide +kernel
theorem dX2_narrow_20 : decode cX2_narrow 20 = .ok (.iload_n 1, 1) := by decide +kernel
theorem dX2_narrow_21 : decode cX2_narrow 21 = .ok (.isub, 1) := by decide +kernel
theorem dX2_narrow_22 : decode cX2_narrow 22 = .ok (.invokestatic 18, 3) := by decide +kernel
theorem dX2_narrow_25 : decode cX2_narrow 25 = .ok (.putfield 15, 3) := by decide +kernel
theorem dX2_narrow_28 : decode cX2_narrow 28 = .ok (.return_, 1) := by decide +kernel
theorem dX2_lets_0 : decode cX2_lets 0 = .ok (.iload_n 1, 1) := by decide +kernel
theorem dX2_lets_1 : decode cX2_lets 1 = .ok (.aload_n 0, 1) := by decide +kernel
theorem dX2_lets_2 : decode cX2_lets 2 = .ok (.getfield 9, 3) := by decide +kernel
theorem dX2_lets_5 : decode cX2_lets 5 = .ok (.ineg, 1) := by decide +kernel
theorem dX2_lets_6 : decode cX2_lets 6 = .ok (.if_icmp .lt 15, 3) := by decide +kernel
theorem dX2_lets_9 : decode cX2_lets 9 = .ok (.iload_n 1, 1) := by decide +kernel
theorem dX2_lets_10 : decode cX2_lets 10 = .ok (.aload_n 0, 1) := by decide +kernel
theorem dX2_lets_11 : decode cX2_lets 11 = .ok (.getfield 15, 3) := by decide +kernel
theorem dX2_lets_14 : decode cX2_lets 14 = .ok (.if_icmp .gt 7, 3) := by decide +kernel
theorem dX2_lets_17 : decode cX2_lets 17 = .ok (.iconst 1, 1) := by decide +kernel
theorem dX2_lets_18 : decode cX2_lets 18 = .ok (.goto 4, 3) := by decide +kernel
theorem dX2_lets_21 : decode cX2_lets 21 = .ok (.iconst 0, 1) := by decide +kernel
theorem dX2_lets_22 : decode cX2_lets 22 = .ok (.ireturn, 1) := by decide +kernel
theorem dX3_init_0 : decode cX3_init 0 = .ok (.aload_n 0, 1) := by decide +kernel
theorem dX3_init_1 : decode cX3_init 1 = .ok (.invokespecial 3, 3) := by decide +kernel
theorem dX3_init_4 : decode cX3_init 4 = .ok (.aload_n 0, 1) := by decide +kernel
theorem dX3_init_5 : decode cX3_init 5 = .ok (.iconst 0, 1) := by decide +kernel
theorem dX3_init_6 : decode cX3_init 6 = .ok (.putfield 9, 3) := by decide +kernel
theorem dX3_init_9 : decode cX3_init 9 = .ok (.aload_n 0, 1) := by decide +kernel
theorem dX3_init_10 : decode cX3_init 10 = .ok (.iconst 0, 1) := by decide +kernel
theorem dX3_init_11 : decode cX3_init 11 = .ok (.putfield 15, 3) := by decide +kernel
theorem dX3_init_14 : decode cX3_init 14 = .ok (.aload_n 0, 1) := by decide +kernel
theorem dX3_init_15 : decode cX3_init 15 = .ok (.iconst 0, 1) := by decide +kernel
theorem dX3_init_16 : decode cX3_init 16 = .ok (.putfield 18, 3) := by decide +kernel
theorem dX3_init_19 : decode cX3_init 19 = .ok (.aload_n 0, 1) := by decide +kernel
theorem dX3_init_20 : decode cX3_init 20 = .ok (.iconst 0, 1) := by decide +kernel
theorem dX3_init_21 : decode cX3_init 21 = .ok (.putfield 21, 3) := by decide +kernel
theorem dX3_init_24 : decode cX3_init 24 = .ok (.aload_n 0, 1) := by decide +kernel
theorem dX3_init_25 : decode cX3_init 25 = .ok (.iconst 0, 1) := by decide +kernel
theorem dX3_init_26 : decode cX3_init 26 = .ok (.putfield 24, 3) := by decide +kernel
theorem dX3_init_29 : decode cX3_init 29 = .ok (.aload_n 0, 1) := by decide +kernel
theorem dX3_init_30 : decode cX3_init 30 = .ok (.iconst 0, 1) := by decide +kernel
theorem dX3_init_31 : decode cX3_init 31 = .ok (.putfield 27, 3) := by decide +kernel
theorem dX3_init_34 : decode cX3_init 34 = .ok (.aload_n 0, 1) := by decide +kernel
theorem dX3_init_35 : decode cX3_init 35 = .ok (.iconst 0, 1) := by decide +kernel
theorem dX3_init_36 : decode cX3_init 36 = .ok (.putfield 30, 3) := by decide +kernel
theorem dX3_init_39 : decode cX3_init 39 = .ok (.return_, 1) := by decide +kernel
theorem dX3_setOrder_0 : decode cX3_setOrder 0 = .ok (.aload_n 0, 1) := by decide +kernel
theorem dX3_setOrder_1 : decode cX3_setOrder 1 = .ok (.iconst 0, 1) := by decide +kernel
theorem dX3_setOrder_2 : decode cX3_setOrder 2 = .ok (.putfield 9, 3) := by decide +kernel
theorem dX3_setOrder_5 : decode cX3_setOrder 5 = .ok (.aload_n 0, 1) := by decide +kernel
theorem dX3_setOrder_6 : decode cX3_setOrder 6 = .ok (.iload_n 1, 1) := by decide +kernel
theorem dX3_setOrder_7 : decode cX3_setOrder 7 = .ok (.putfield 15, 3) := by decide +kernel
theorem dX3_setOrder_10 : decode cX3_setOrder 10 = .ok (.aload_n 0, 1) := by decide +kernel
theorem dX3_setOrder_11 : decode cX3_setOrder 11 = .ok (.iload_n 2, 1) := by decide +kernel
theorem dX3_setOrder_12 : decode cX3_setOrder 12 = .ok (.putfield 18, 3) := by decide +kernel
theorem dX3_setOrder_15 : decode cX3_setOrder 15 = .ok (.aload_n 0, 1) := by decide +kernel
theorem dX3_setOrder_16 : decode cX3_setOrder 16 = .ok (.iload_n 3, 1) := by decide +kernel
theorem dX3_setOrder_17 : decode cX3_setOrder 17 = .ok (.putfield 21, 3) := by decide +kernel
theorem dX3_setOrder_20 : decode cX3_setOrder 20 = .ok (.return_, 1) := by decide +kernel
theorem dX3_setAgree_0 : decode cX3_setAgree 0 = .ok (.aload_n 0, 1) := by decide +kernel
theorem dX3_setAgree_1 : decode cX3_setAgree 1 = .ok (.iconst 1, 1) := by decide +kernel
theorem dX3_setAgree_2 : decode cX3_setAgree 2 = .ok (.putfield 9, 3) := by decide +kernel
theorem dX3_setAgree_5 : decode cX3_setAgree 5 = .ok (.aload_n 0, 1) := by decide +kernel
theorem dX3_setAgree_6 : decode cX3_setAgree 6 = .ok (.iload_n 1, 1) := by decide +kernel
theorem dX3_setAgree_7 : decode cX3_setAgree 7 = .ok (.putfield 15, 3) := by decide +kernel
theorem dX3_setAgree_10 : decode cX3_setAgree 10 = .ok (.aload_n 0, 1) := by decide +kernel
theorem dX3_setAgree_11 : decode cX3_setAgree 11 = .ok (.iload_n 2, 1) := by decide +kernel
theorem dX3_setAgree_12 : decode cX3_setAgree 12 = .ok (.putfield 18, 3) := by decide +kernel
theorem dX3_setAgree_15 : decode cX3_setAgree 15 = .ok (.aload_n 0, 1) := by decide +kernel
theorem dX3_setAgree_16 : decode cX3_setAgree 16 = .ok (.iload_n 3, 1) := by decide +kernel
theorem dX3_setAgree_17 : decode cX3_setAgree 17 = .ok (.putfield 24, 3) := by decide +kernel
theorem dX3_setAgree_20 : decode cX3_setAgree 20 = .ok (.aload_n 0, 1) := by decide +kernel
theorem dX3_setAgree_21 : decode cX3_setAgree 21 = .ok (.iload 4, 2) := by decide +kernel
theorem dX3_setAgree_23 : decode cX3_setAgree 23 = .ok (.putfield 21, 3) := by decide +kernel
theorem dX3_setAgree_26 : decode cX3_setAgree 26 = .ok (.aload_n 0, 1) := by decide +kernel
theorem dX3_setAgree_27 : decode cX3_setAgree 27 = .ok (.iload 5, 2) := by decide +kernel
theorem dX3_setAgree_29 : decode cX3_setAgree 29 = .ok (.putfield 27, 3) := by decide +kernel
theorem dX3_setAgree_32 : decode cX3_setAgree 32 = .ok (.aload_n 0, 1) := by decide +kernel
theorem dX3_setAgree_33 : decode cX3_setAgree 33 = .ok (.iload 6, 2) := by decide +kernel
theorem dX3_setAgree_35 : decode cX3_setAgree 35 = .ok (.putfield 30, 3) := by decide +kernel
theorem dX3_setAgree_38 : decode cX3_setAgree 38 = .ok (.return_, 1) := by decide +kernel
theorem dX3_setFound_0 : decode cX3_setFound 0 = .ok (.aload_n 0, 1) := by decide +kernel
theorem dX3_setFound_1 : decode cX3_setFound 1 = .ok (.iconst 2, 1) := by decide +kernel
theorem dX3_setFound_2 : decode cX3_setFound 2 = .ok (.putfield 9, 3) := by decide +kernel
theorem dX3_setFound_5 : decode cX3_setFound 5 = .ok (.aload_n 0, 1) := by decide +kernel
theorem dX3_setFound_6 : decode cX3_setFound 6 = .ok (.iload_n 1, 1) := by decide +kernel
theorem dX3_setFound_7 : decode cX3_setFound 7 = .ok (.putfield 15, 3) := by decide +kernel
theorem dX3_setFound_10 : decode cX3_setFound 10 = .ok (.aload_n 0, 1) := by decide +kernel
theorem dX3_setFound_11 : decode cX3_setFound 11 = .ok (.iload_n 2, 1) := by decide +kernel
theorem dX3_setFound_12 : decode cX3_setFound 12 = .ok (.putfield 18, 3) := by decide +kernel
theorem dX3_setFound_15 : decode cX3_setFound 15 = .ok (.return_, 1) := by decide +kernel
theorem dX4_init_0 : decode cX4_init 0 = .ok (.aload_n 0, 1) := by decide +kernel
theorem dX4_init_1 : decode cX4_init 1 = .ok (.invokespecial 3, 3) := by decide +kernel
theorem dX4_init_4 : decode cX4_init 4 = .ok (.aload_n 0, 1) := by decide +kernel
theorem dX4_init_5 : decode cX4_init 5 = .ok (.bipush 6, 2) := by decide +kernel
theorem dX4_init_7 : decode cX4_init 7 = .ok (.anewarray 9, 3) := by decide +kernel
theorem dX4_init_10 : decode cX4_init 10 = .ok (.putfield 11, 3) := by decide +kernel
theorem dX4_init_13 : decode cX4_init 13 = .ok (.aload_n 0, 1) := by decide +kernel
theorem dX4_init_14 : decode cX4_init 14 = .ok (.iconst 5, 1) := by decide +kernel
theorem dX4_init_15 : decode cX4_init 15 = .ok (.newarray .int, 2) := by decide +kernel
theorem dX4_init_17 : decode cX4_init 17 = .ok (.dup, 1) := by decide +kernel
theorem dX4_init_18 : decode cX4_init 18 = .ok (.iconst 0, 1) := by decide +kernel
theorem dX4_init_19 : decode cX4_init 19 = .ok (.iconst 1, 1) := by decide +kernel
theorem dX4_init_20 : decode cX4_init 20 = .ok (.iastore, 1) := by decide +kernel
theorem dX4_init_21 : decode cX4_init 21 = .ok (.dup, 1) := by decide +kernel
theorem dX4_init_22 : decode cX4_init 22 = .ok (.iconst 1, 1) := by decide +kernel
theorem dX4_init_23 : decode cX4_init 23 = .ok (.iconst 1, 1) := by decide +kernel
theorem dX4_init_24 : decode cX4_init 24 = .ok (.iastore, 1) := by decide +kernel
theorem dX4_init_25 : decode cX4_init 25 = .ok (.dup, 1) := by decide +kernel
theorem dX4_init_26 : decode cX4_init 26 = .ok (.iconst 2, 1) := by decide +kernel
theorem dX4_init_27 : decode cX4_init 27 = .ok (.iconst 1, 1) := by decide +kernel
theorem dX4_init_28 : decode cX4_init 28 = .ok (.iastore, 1) := by decide +kernel
theorem dX4_init_29 : decode cX4_init 29 = .ok (.dup, 1) := by decide +kernel
theorem dX4_init_30 : decode cX4_init 30 = .ok (.iconst 3, 1) := by decide +kernel
theorem dX4_init_31 : decode cX4_init 31 = .ok (.iconst 1, 1) := by decide +kernel
theorem dX4_init_32 : decode cX4_init 32 = .ok (.iastore, 1) := by decide +kernel
theorem dX4_init_33 : decode cX4_init 33 = .ok (.dup, 1) := by decide +kernel
theorem dX4_init_34 : decode cX4_init 34 = .ok (.iconst 4, 1) := by decide +kernel
theorem dX4_init_35 : decode cX4_init 35 = .ok (.iconst 1, 1) := by decide +kernel
theorem dX4_init_36 : decode cX4_init 36 = .ok (.iastore, 1) := by decide +kernel
theorem dX4_init_37 : decode cX4_init 37 = .ok (.putfield 17, 3) := by decide +kernel
theorem dX4_init_40 : decode cX4_init 40 = .ok (.aload_n 0, 1) := by decide +kernel
theorem dX4_init_41 : decode cX4_init 41 = .ok (.iconst 5, 1) := by decide +kernel
theorem dX4_init_42 : decode cX4_init 42 = .ok (.newarray .int, 2) := by decide +kernel
theorem dX4_init_44 : decode cX4_init 44 = .ok (.dup, 1) := by decide +kernel
theorem dX4_init_45 : decode cX4_init 45 = .ok (.iconst 0, 1) := by decide +kernel
theorem dX4_init_46 : decode cX4_init 46 = .ok (.iconst 0, 1) := by decide +kernel
theorem dX4_init_47 : decode cX4_init 47 = .ok (.iastore, 1) := by decide +kernel
theorem dX4_init_48 : decode cX4_init 48 = .ok (.dup, 1) := by decide +kernel
theorem dX4_init_49 : decode cX4_init 49 = .ok (.iconst 1, 1) := by decide +kernel
theorem dX4_init_50 : decode cX4_init 50 = .ok (.iconst 0, 1) := by decide +kernel
theorem dX4_init_51 : decode cX4_init 51 = .ok (.iastore, 1) := by decide +kernel
theorem dX4_init_52 : decode cX4_init 52 = .ok (.dup, 1) := by decide +kernel
theorem dX4_init_53 : decode cX4_init 53 = .ok (.iconst 2, 1) := by decide +kernel
theorem dX4_init_54 : decode cX4_init 54 = .ok (.iconst 0, 1) := by decide +kernel
theorem dX4_init_55 : decode cX4_init 55 = .ok (.iastore, 1) := by decide +kernel
theorem dX4_init_56 : decode cX4_init 56 = .ok (.dup, 1) := by decide +kernel
theorem dX4_init_57 : decode cX4_init 57 = .ok (.iconst 3, 1) := by decide +kernel
theorem dX4_init_58 : decode cX4_init 58 = .ok (.iconst 0, 1) := by decide +kernel
theorem dX4_init_59 : decode cX4_init 59 = .ok (.iastore, 1) := by decide +kernel
theorem dX4_init_60 : decode cX4_init 60 = .ok (.dup, 1) := by decide +kernel
theorem dX4_init_61 : decode cX4_init 61 = .ok (.iconst 4, 1) := by decide +kernel
theorem dX4_init_62 : decode cX4_init 62 = .ok (.iconst 0, 1) := by decide +kernel
theorem dX4_init_63 : decode cX4_init 63 = .ok (.iastore, 1) := by decide +kernel
theorem dX4_init_64 : decode cX4_init 64 = .ok (.putfield 21, 3) := by decide +kernel
theorem dX4_init_67 : decode cX4_init 67 = .ok (.aload_n 0, 1) := by decide +kernel
theorem dX4_init_68 : decode cX4_init 68 = .ok (.iconst 1, 1) := by decide +kernel
theorem dX4_init_69 : decode cX4_init 69 = .ok (.putfield 24, 3) := by decide +kernel
theorem dX4_init_72 : decode cX4_init 72 = .ok (.aload_n 0, 1) := by decide +kernel
theorem dX4_init_73 : decode cX4_init 73 = .ok (.iconst 0, 1) := by decide +kernel
theorem dX4_init_74 : decode cX4_init 74 = .ok (.putfield 28, 3) := by decide +kernel
theorem dX4_init_77 : decode cX4_init 77 = .ok (.aload_n 0, 1) := by decide +kernel
theorem dX4_init_78 : decode cX4_init 78 = .ok (.iconst 0, 1) := by decide +kernel
theorem dX4_init_79 : decode cX4_init 79 = .ok (.putfield 31, 3) := by decide +kernel
theorem dX4_init_82 : decode cX4_init 82 = .ok (.iconst 0, 1) := by decide +kernel
theorem dX4_init_83 : decode cX4_init 83 = .ok (.istore_n 1, 1) := by decide +kernel
theorem dX4_init_84 : decode cX4_init 84 = .ok (.iload_n 1, 1) := by decide +kernel
theorem dX4_init_85 : decode cX4_init 85 = .ok (.bipush 6, 2) := by decide +kernel
theorem dX4_init_87 : decode cX4_init 87 = .ok (.if_icmp .ge 22, 3) := by decide +kernel
theorem dX4_init_90 : decode cX4_init 90 = .ok (.aload_n 0, 1) := by decide +kernel
theorem dX4_init_91 : decode cX4_init 91 = .ok (.getfield 11, 3) := by decide +kernel
theorem dX4_init_94 : decode cX4_init 94 = .ok (.iload_n 1, 1) := by decide +kernel
theorem dX4_init_95 : decode cX4_init 95 = .ok (.new 9, 3) := by decide +kernel
theorem dX4_init_98 : decode cX4_init 98 = .ok (.dup, 1) := by decide +kernel
theorem dX4_init_99 : decode cX4_init 99 = .ok (.invokespecial 34, 3) := by decide +kernel
theorem dX4_init_102 : decode cX4_init 102 = .ok (.aastore, 1) := by decide +kernel
theorem dX4_init_103 : decode cX4_init 103 = .ok (.iinc 1 1, 3) := by decide +kernel
theorem dX4_init_106 : decode cX4_init 106 = .ok (.goto (-22), 3) := by decide +kernel
theorem dX4_init_109 : decode cX4_init 109 = .ok (.return_, 1) := by decide +kernel
theorem dX4_columnNumbered_0 : decode cX4_columnNumbered 0 = .ok (.iload_n 1, 1) := by decide +kernel
theorem dX4_columnNumbered_1 : decode cX4_columnNumbered 1 = .ok (.ifCond .lt 26, 3) := by decide +kernel
theorem dX4_columnNumbered_4 : decode cX4_columnNumbered 4 = .ok (.iload_n 1, 1) := by decide +kernel
theorem dX4_columnNumbered_5 : decode cX4_columnNumbered 5 = .ok (.aload_n 0, 1) := by decide +kernel
theorem dX4_columnNumbered_6 : decode cX4_columnNumbered 6 = .ok (.getfield 24, 3) := by decide +kernel
theorem dX4_columnNumbered_9 : decode cX4_columnNumbered 9 = .ok (.if_icmp .ge 18, 3) := by decide +kernel
theorem dX4_columnNumbered_12 : decode cX4_columnNumbered 12 = .ok (.iload_n 1, 1) := by decide +kernel
theorem dX4_columnNumbered_13 : decode cX4_columnNumbered 13 = .ok (.bipush 6, 2) := by decide +kernel
theorem dX4_columnNumbered_15 : decode cX4_columnNumbered 15 = .ok (.if_icmp .ge 12, 3) := by decide +kernel
theorem dX4_columnNumbered_18 : decode cX4_columnNumbered 18 = .ok (.aload_n 0, 1) := by decide +kernel
theorem dX4_columnNumbered_19 : decode cX4_columnNumbered 19 = .ok (.getfield 11, 3) := by decide +kernel
theorem dX4_columnNumbered_22 : decode cX4_columnNumbered 22 = .ok (.iload_n 1, 1) := by decide +kernel
theorem dX4_columnNumbered_23 : decode cX4_columnNumbered 23 = .ok (.aaload, 1) := by decide +kernel
theorem dX4_columnNumbered_24 : decode cX4_columnNumbered 24 = .ok (.goto 4, 3) := by decide +kernel
theorem dX4_columnNumbered_27 : decode cX4_columnNumbered 27 = .ok (.aconst_null, 1) := by decide +kernel
theorem dX4_columnNumbered_28 : decode cX4_columnNumbered 28 = .ok (.areturn, 1) := by decide +kernel
theorem dX4_addColumn_0 : decode cX4_addColumn 0 = .ok (.aload_n 0, 1) := by decide +kernel
theorem dX4_addColumn_1 : decode cX4_addColumn 1 = .ok (.getfield 24, 3) := by decide +kernel
theorem dX4_addColumn_4 : decode cX4_addColumn 4 = .ok (.bipush 6, 2) := by decide +kernel
theorem dX4_addColumn_6 : decode cX4_addColumn 6 = .ok (.if_icmp .lt 6, 3) := by decide +kernel
theorem dX4_addColumn_9 : decode cX4_addColumn 9 = .ok (.bipush (-4), 2) := by decide +kernel
theorem dX4_addColumn_11 : decode cX4_addColumn 11 = .ok (.ireturn, 1) := by decide +kernel
theorem dX4_addColumn_12 : decode cX4_addColumn 12 = .ok (.aload_n 0, 1) := by decide +kernel
theorem dX4_addColumn_13 : decode cX4_addColumn 13 = .ok (.getfield 11, 3) := by decide +kernel
theorem dX4_addColumn_16 : decode cX4_addColumn 16 = .ok (.aload_n 0, 1) := by decide +kernel
theorem dX4_addColumn_17 : decode cX4_addColumn 17 = .ok (.getfield 24, 3) := by decide +kernel
theorem dX4_addColumn_20 : decode cX4_addColumn 20 = .ok (.aaload, 1) := by decide +kernel
theorem dX4_addColumn_21 : decode cX4_addColumn 21 = .ok (.iload_n 1, 1) := by decide +kernel
theorem dX4_addColumn_22 : decode cX4_addColumn 22 = .ok (.putfield 35, 3) := by decide +kernel
theorem dX4_addColumn_25 : decode cX4_addColumn 25 = .ok (.aload_n 0, 1) := by decide +kernel
theorem dX4_addColumn_26 : decode cX4_addColumn 26 = .ok (.getfield 11, 3) := by decide +kernel
theorem dX4_addColumn_29 : decode cX4_addColumn 29 = .ok (.aload_n 0, 1) := by decide +kernel
theorem dX4_addColumn_30 : decode cX4_addColumn 30 = .ok (.getfield 24, 3) := by decide +kernel
theorem dX4_addColumn_33 : decode cX4_addColumn 33 = .ok (.aaload, 1) := by decide +kernel
theorem dX4_addColumn_34 : decode cX4_addColumn 34 = .ok (.iload_n 2, 1) := by decide +kernel
theorem dX4_addColumn_35 : decode cX4_addColumn 35 = .ok (.putfield 38, 3) := by decide +kernel
theorem dX4_addColumn_38 : decode cX4_addColumn 38 = .ok (.aload_n 0, 1) := by decide +kernel
theorem dX4_addColumn_39 : decode cX4_addColumn 39 = .ok (.dup, 1) := by decide +kernel
theorem dX4_addColumn_40 : decode cX4_addColumn 40 = .ok (.getfield 24, 3) := by decide +kernel
theorem dX4_addColumn_43 : decode cX4_addColumn 43 = .ok (.iconst 1, 1) := by decide +kernel
theorem dX4_addColumn_44 : decode cX4_addColumn 44 = .ok (.iadd, 1) := by decide +kernel
theorem dX4_addColumn_45 : decode cX4_addColumn 45 = .ok (.putfield 24, 3) := by decide +kernel
theorem dX4_addColumn_48 : decode cX4_addColumn 48 = .ok (.aload_n 0, 1) := by decide +kernel
theorem dX4_addColumn_49 : decode cX4_addColumn 49 = .ok (.getfield 24, 3) := by decide +kernel
theorem dX4_addColumn_52 : decode cX4_addColumn 52 = .ok (.iconst 1, 1) := by decide +kernel
theorem dX4_addColumn_53 : decode cX4_addColumn 53 = .ok (.isub, 1) := by decide +kernel
theorem dX4_addColumn_54 : decode cX4_addColumn 54 = .ok (.ireturn, 1) := by decide +kernel
theorem dX4_isShifted_0 : decode cX4_isShifted 0 = .ok (.aload_n 0, 1) := by decide +kernel
theorem dX4_isShifted_1 : decode cX4_isShifted 1 = .ok (.iload_n 1, 1) := by decide +kernel
theorem dX4_isShifted_2 : decode cX4_isShifted 2 = .ok (.invokevirtual 41, 3) := by decide +kernel
theorem dX4_isShifted_5 : decode cX4_isShifted 5 = .ok (.astore_n 2, 1) := by decide +kernel
theorem dX4_isShifted_6 : decode cX4_isShifted 6 = .ok (.aload_n 2, 1) := by decide +kernel
theorem dX4_isShifted_7 : decode cX4_isShifted 7 = .ok (.ifnull 15, 3) := by decide +kernel
theorem dX4_isShifted_10 : decode cX4_isShifted 10 = .ok (.aload_n 2, 1) := by decide +kernel
theorem dX4_isShifted_11 : decode cX4_isShifted 11 = .ok (.getfield 45, 3) := by decide +kernel
theorem dX4_isShifted_14 : decode cX4_isShifted 14 = .ok (.iconst 2, 1) := by decide +kernel
theorem dX4_isShifted_15 : decode cX4_isShifted 15 = .ok (.if_icmp .ne 7, 3) := by decide +kernel
theorem dX4_isShifted_18 : decode cX4_isShifted 18 = .ok (.iconst 1, 1) := by decide +kernel
theorem dX4_isShifted_19 : decode cX4_isShifted 19 = .ok (.goto 4, 3) := by decide +kernel
theorem dX4_isShifted_22 : decode cX4_isShifted 22 = .ok (.iconst 0, 1) := by decide +kernel
theorem dX4_isShifted_23 : decode cX4_isShifted 23 = .ok (.ireturn, 1) := by decide +kernel
theorem dX4_hasShift_0 : decode cX4_hasShift 0 = .ok (.iconst 0, 1) := by decide +kernel
theorem dX4_hasShift_1 : decode cX4_hasShift 1 = .ok (.istore_n 1, 1) := by decide +kernel
theorem dX4_hasShift_2 : decode cX4_hasShift 2 = .ok (.iload_n 1, 1) := by decide +kernel
theorem dX4_hasShift_3 : decode cX4_hasShift 3 = .ok (.aload_n 0, 1) := by decide +kernel
theorem dX4_hasShift_4 : decode cX4_hasShift 4 = .ok (.getfield 24, 3) := by decide +kernel
theorem dX4_hasShift_7 : decode cX4_hasShift 7 = .ok (.if_icmp .ge 19, 3) := by decide +kernel
theorem dX4_hasShift_10 : decode cX4_hasShift 10 = .ok (.aload_n 0, 1) := by decide +kernel
theorem dX4_hasShift_11 : decode cX4_hasShift 11 = .ok (.iload_n 1, 1) := by decide +kernel
theorem dX4_hasShift_12 : decode cX4_hasShift 12 = .ok (.invokevirtual 48, 3) := by decide +kernel
theorem dX4_hasShift_15 : decode cX4_hasShift 15 = .ok (.ifCond .eq 5, 3) := by decide +kernel
theorem dX4_hasShift_18 : decode cX4_hasShift 18 = .ok (.iconst 1, 1) := by decide +kernel
theorem dX4_hasShift_19 : decode cX4_hasShift 19 = .ok (.ireturn, 1) := by decide +kernel
theorem dX4_hasShift_20 : decode cX4_hasShift 20 = .ok (.iinc 1 1, 3) := by decide +kernel
theorem dX4_hasShift_23 : decode cX4_hasShift 23 = .ok (.goto (-21), 3) := by decide +kernel
theorem dX4_hasShift_26 : decode cX4_hasShift 26 = .ok (.iconst 0, 1) := by decide +kernel
theorem dX4_hasShift_27 : decode cX4_hasShift 27 = .ok (.ireturn, 1) := by decide +kernel
theorem dX4_turnsKeys_0 : decode cX4_turnsKeys 0 = .ok (.aload_n 0, 1) := by decide +kernel
theorem dX4_turnsKeys_1 : decode cX4_turnsKeys 1 = .ok (.getfield 11, 3) := by decide +kernel
theorem dX4_turnsKeys_4 : decode cX4_turnsKeys 4 = .ok (.iconst 0, 1) := by decide +kernel
theorem dX4_turnsKeys_5 : decode cX4_turnsKeys 5 = .ok (.aaload, 1) := by decide +kernel
theorem dX4_turnsKeys_6 : decode cX4_turnsKeys 6 = .ok (.getfield 45, 3) := by decide +kernel
theorem dX4_turnsKeys_9 : decode cX4_turnsKeys 9 = .ok (.iconst 1, 1) := by decide +kernel
theorem dX4_turnsKeys_10 : decode cX4_turnsKeys 10 = .ok (.if_icmp .ne 7, 3) := by decide +kernel
theorem dX4_turnsKeys_13 : decode cX4_turnsKeys 13 = .ok (.iconst 1, 1) := by decide +kernel
theorem dX4_turnsKeys_14 : decode cX4_turnsKeys 14 = .ok (.goto 4, 3) := by decide +kernel
theorem dX4_turnsKeys_17 : decode cX4_turnsKeys 17 = .ok (.iconst 0, 1) := by decide +kernel
theorem dX4_turnsKeys_18 : decode cX4_turnsKeys 18 = .ok (.ireturn, 1) := by decide +kernel
theorem dX4_setDigit_0 : decode cX4_setDigit 0 = .ok (.iload_n 1, 1) := by decide +kernel
theorem dX4_setDigit_1 : decode cX4_setDigit 1 = .ok (.iconst 1, 1) := by decide +kernel
theorem dX4_setDigit_2 : decode cX4_setDigit 2 = .ok (.if_icmp .lt 22, 3) := by decide +kernel
theorem dX4_setDigit_5 : decode cX4_setDigit 5 = .ok (.iload_n 1, 1) := by decide +kernel
theorem dX4_setDigit_6 : decode cX4_setDigit 6 = .ok (.iconst 4, 1) := by decide +kernel
theorem dX4_setDigit_7 : decode cX4_setDigit 7 = .ok (.if_icmp .gt 17, 3) := by decide +kernel
theorem dX4_setDigit_10 : decode cX4_setDigit 10 = .ok (.aload_n 0, 1) := by decide +kernel
theorem dX4_setDigit_11 : decode cX4_setDigit 11 = .ok (.getfield 17, 3) := by decide +kernel
theorem dX4_setDigit_14 : decode cX4_setDigit 14 = .ok (.iload_n 1, 1) := by decide +kernel
theorem dX4_setDigit_15 : decode cX4_setDigit 15 = .ok (.iload_n 2, 1) := by decide +kernel
theorem dX4_setDigit_16 : decode cX4_setDigit 16 = .ok (.iastore, 1) := by decide +kernel
theorem dX4_setDigit_17 : decode cX4_setDigit 17 = .ok (.aload_n 0, 1) := by decide +kernel
theorem dX4_setDigit_18 : decode cX4_setDigit 18 = .ok (.getfield 21, 3) := by decide +kernel
theorem dX4_setDigit_21 : decode cX4_setDigit 21 = .ok (.iload_n 1, 1) := by decide +kernel
theorem dX4_setDigit_22 : decode cX4_setDigit 22 = .ok (.iload_n 3, 1) := by decide +kernel
theorem dX4_setDigit_23 : decode cX4_setDigit 23 = .ok (.iastore, 1) := by decide +kernel
theorem dX4_setDigit_24 : decode cX4_setDigit 24 = .ok (.return_, 1) := by decide +kernel
theorem dX4_turnKey_0 : decode cX4_turnKey 0 = .ok (.iload_n 1, 1) := by decide +kernel
theorem dX4_turnKey_1 : decode cX4_turnKey 1 = .ok (.bipush 10, 2) := by decide +kernel
theorem dX4_turnKey_3 : decode cX4_turnKey 3 = .ok (.idiv, 1) := by decide +kernel
theorem dX4_turnKey_4 : decode cX4_turnKey 4 = .ok (.istore_n 2, 1) := by decide +kernel
theorem dX4_turnKey_5 : decode cX4_turnKey 5 = .ok (.iconst 0, 1) := by decide +kernel
theorem dX4_turnKey_6 : decode cX4_turnKey 6 = .ok (.istore_n 3, 1) := by decide +kernel
theorem dX4_turnKey_7 : decode cX4_turnKey 7 = .ok (.iconst 1, 1) := by decide +kernel
theorem dX4_turnKey_8 : decode cX4_turnKey 8 = .ok (.istore 4, 2) := by decide +kernel
theorem dX4_turnKey_10 : decode cX4_turnKey 10 = .ok (.iconst 1, 1) := by decide +kernel
theorem dX4_turnKey_11 : decode cX4_turnKey 11 = .ok (.istore 5, 2) := by decide +kernel
theorem dX4_turnKey_13 : decode cX4_turnKey 13 = .ok (.iload 5, 2) := by decide +kernel
theorem dX4_turnKey_15 : decode cX4_turnKey 15 = .ok (.iconst 4, 1) := by decide +kernel
theorem dX4_turnKey_16 : decode cX4_turnKey 16 = .ok (.if_icmp .gt 50, 3) := by decide +kernel
theorem dX4_turnKey_19 : decode cX4_turnKey 19 = .ok (.iload_n 3, 1) := by decide +kernel
theorem dX4_turnKey_20 : decode cX4_turnKey 20 = .ok (.aload_n 0, 1) := by decide +kernel
theorem dX4_turnKey_21 : decode cX4_turnKey 21 = .ok (.getfield 17, 3) := by decide +kernel
theorem dX4_turnKey_24 : decode cX4_turnKey 24 = .ok (.iload 5, 2) := by decide +kernel
theorem dX4_turnKey_26 : decode cX4_turnKey 26 = .ok (.iaload, 1) := by decide +kernel
theorem dX4_turnKey_27 : decode cX4_turnKey 27 = .ok (.iload_n 2, 1) := by decide +kernel
theorem dX4_turnKey_28 : decode cX4_turnKey 28 = .ok (.bipush 10, 2) := by decide +kernel
theorem dX4_turnKey_30 : decode cX4_turnKey 30 = .ok (.irem, 1) := by decide +kernel
theorem dX4_turnKey_31 : decode cX4_turnKey 31 = .ok (.imul, 1) := by decide +kernel
theorem dX4_turnKey_32 : decode cX4_turnKey 32 = .ok (.aload_n 0, 1) := by decide +kernel
theorem dX4_turnKey_33 : decode cX4_turnKey 33 = .ok (.getfield 21, 3) := by decide +kernel
theorem dX4_turnKey_36 : decode cX4_turnKey 36 = .ok (.iload 5, 2) := by decide +kernel
theorem dX4_turnKey_38 : decode cX4_turnKey 38 = .ok (.iaload, 1) := by decide +kernel
theorem dX4_turnKey_39 : decode cX4_turnKey 39 = .ok (.iadd, 1) := by decide +kernel
theorem dX4_turnKey_40 : decode cX4_turnKey 40 = .ok (.bipush 10, 2) := by decide +kernel
theorem dX4_turnKey_42 : decode cX4_turnKey 42 = .ok (.irem, 1) := by decide +kernel
theorem dX4_turnKey_43 : decode cX4_turnKey 43 = .ok (.iload 4, 2) := by decide +kernel
theorem dX4_turnKey_45 : decode cX4_turnKey 45 = .ok (.imul, 1) := by decide +kernel
theorem dX4_turnKey_46 : decode cX4_turnKey 46 = .ok (.iadd, 1) := by decide +kernel
theorem dX4_turnKey_47 : decode cX4_turnKey 47 = .ok (.istore_n 3, 1) := by decide +kernel
theorem dX4_turnKey_48 : decode cX4_turnKey 48 = .ok (.iload_n 2, 1) := by decide +kernel
theorem dX4_turnKey_49 : decode cX4_turnKey 49 = .ok (.bipush 10, 2) := by decide +kernel
theorem dX4_turnKey_51 : decode cX4_turnKey 51 = .ok (.idiv, 1) := by decide +kernel
theorem dX4_turnKey_52 : decode cX4_turnKey 52 = .ok (.istore_n 2, 1) := by decide +kernel
theorem dX4_turnKey_53 : decode cX4_turnKey 53 = .ok (.iload 4, 2) := by decide +kernel
theorem dX4_turnKey_55 : decode cX4_turnKey 55 = .ok (.bipush 10, 2) := by decide +kernel
theorem dX4_turnKey_57 : decode cX4_turnKey 57 = .ok (.imul, 1) := by decide +kernel
theorem dX4_turnKey_58 : decode cX4_turnKey 58 = .ok (.istore 4, 2) := by decide +kernel
theorem dX4_turnKey_60 : decode cX4_turnKey 60 = .ok (.iinc 5 1, 3) := by decide +kernel
theorem dX4_turnKey_63 : decode cX4_turnKey 63 = .ok (.goto (-50), 3) := by decide +kernel
theorem dX4_turnKey_66 : decode cX4_turnKey 66 = .ok (.iload_n 3, 1) := by decide +kernel
theorem dX4_turnKey_67 : decode cX4_turnKey 67 = .ok (.bipush 10, 2) := by decide +kernel
theorem dX4_turnKey_69 : decode cX4_turnKey 69 = .ok (.imul, 1) := by decide +kernel
theorem dX4_turnKey_70 : decode cX4_turnKey 70 = .ok (.iload_n 3, 1) := by decide +kernel
theorem dX4_turnKey_71 : decode cX4_turnKey 71 = .ok (.invokestatic 52, 3) := by decide +kernel
theorem dX4_turnKey_74 : decode cX4_turnKey 74 = .ok (.iadd, 1) := by decide +kernel
theorem dX4_turnKey_75 : decode cX4_turnKey 75 = .ok (.ireturn, 1) := by decide +kernel
theorem dX5_init_0 : decode cX5_init 0 = .ok (.aload_n 0, 1) := by decide +kernel
theorem dX5_init_1 : decode cX5_init 1 = .ok (.invokespecial 3, 3) := by decide +kernel
theorem dX5_init_4 : decode cX5_init 4 = .ok (.aload_n 0, 1) := by decide +kernel
theorem dX5_init_5 : decode cX5_init 5 = .ok (.bipush 6, 2) := by decide +kernel
theorem dX5_init_7 : decode cX5_init 7 = .ok (.newarray .int, 2) := by decide +kernel
theorem dX5_init_9 : decode cX5_init 9 = .ok (.putfield 9, 3) := by decide +kernel
theorem dX5_init_12 : decode cX5_init 12 = .ok (.aload_n 0, 1) := by decide +kernel
theorem dX5_init_13 : decode cX5_init 13 = .ok (.bipush 24, 2) := by decide +kernel
theorem dX5_init_15 : decode cX5_init 15 = .ok (.newarray .int, 2) := by decide +kernel
theorem dX5_init_17 : decode cX5_init 17 = .ok (.putfield 15, 3) := by decide +kernel
theorem dX5_init_20 : decode cX5_init 20 = .ok (.aload_n 0, 1) := by decide +kernel
theorem dX5_init_21 : decode cX5_init 21 = .ok (.sipush 288, 3) := by decide +kernel
theorem dX5_init_24 : decode cX5_init 24 = .ok (.newarray .int, 2) := by decide +kernel
theorem dX5_init_26 : decode cX5_init 26 = .ok (.putfield 18, 3) := by decide +kernel
theorem dX5_init_29 : decode cX5_init 29 = .ok (.aload_n 0, 1) := by decide +kernel
theorem dX5_init_30 : decode cX5_init 30 = .ok (.bipush 12, 2) := by decide +kernel
theorem dX5_init_32 : decode cX5_init 32 = .ok (.newarray .int, 2) := by decide +kernel
theorem dX5_init_34 : decode cX5_init 34 = .ok (.putfield 21, 3) := by decide +kernel
theorem dX5_init_37 : decode cX5_init 37 = .ok (.aload_n 0, 1) := by decide +kernel
theorem dX5_init_38 : decode cX5_init 38 = .ok (.iconst 0, 1) := by decide +kernel
theorem dX5_init_39 : decode cX5_init 39 = .ok (.putfield 24, 3) := by decide +kernel
theorem dX5_init_42 : decode cX5_init 42 = .ok (.aload_n 0, 1) := by decide +kernel
theorem dX5_init_43 : decode cX5_init 43 = .ok (.iconst 0, 1) := by decide +kernel
theorem dX5_init_44 : decode cX5_init 44 = .ok (.putfield 28, 3) := by decide +kernel
theorem dX5_init_47 : decode cX5_init 47 = .ok (.return_, 1) := by decide +kernel
theorem dX5_widthAt_0 : decode cX5_widthAt 0 = .ok (.iload_n 0, 1) := by decide +kernel
theorem dX5_widthAt_1 : decode cX5_widthAt 1 = .ok (.ifCond .lt 16, 3) := by decide +kernel
theorem dX5_widthAt_4 : decode cX5_widthAt 4 = .ok (.iload_n 0, 1) := by decide +kernel
theorem dX5_widthAt_5 : decode cX5_widthAt 5 = .ok (.iconst 4, 1) := by decide +kernel
theorem dX5_widthAt_6 : decode cX5_widthAt 6 = .ok (.if_icmp .ge 11, 3) := by decide +kernel
theorem dX5_widthAt_9 : decode cX5_widthAt 9 = .ok (.getstatic 31, 3) := by decide +kernel
theorem dX5_widthAt_12 : decode cX5_widthAt 12 = .ok (.iload_n 0, 1) := by decide +kernel
theorem dX5_widthAt_13 : decode cX5_widthAt 13 = .ok (.iaload, 1) := by decide +kernel
theorem dX5_widthAt_14 : decode cX5_widthAt 14 = .ok (.goto 4, 3) := by decide +kernel
theorem dX5_widthAt_17 : decode cX5_widthAt 17 = .ok (.iconst 1, 1) := by decide +kernel
theorem dX5_widthAt_18 : decode cX5_widthAt 18 = .ok (.ireturn, 1) := by decide +kernel
theorem dX5_begin_0 : decode cX5_begin 0 = .ok (.aload_n 0, 1) := by decide +kernel
theorem dX5_begin_1 : decode cX5_begin 1 = .ok (.iconst 0, 1) := by decide +kernel
theorem dX5_begin_2 : decode cX5_begin 2 = .ok (.putfield 24, 3) := by decide +kernel
theorem dX5_begin_5 : decode cX5_begin 5 = .ok (.aload_n 0, 1) := by decide +kernel
theorem dX5_begin_6 : decode cX5_begin 6 = .ok (.iload_n 1, 1) := by decide +kernel
theorem dX5_begin_7 : decode cX5_begin 7 = .ok (.bipush 12, 2) := by decide +kernel
theorem dX5_begin_9 : decode cX5_begin 9 = .ok (.invokestatic 34, 3) := by decide +kernel
theorem dX5_begin_12 : decode cX5_begin 12 = .ok (.putfield 28, 3) := by decide +kernel
theorem dX5_begin_15 : decode cX5_begin 15 = .ok (.return_, 1) := by decide +kernel
theorem dX5_addColumn_0 : decode cX5_addColumn 0 = .ok (.aload_n 0, 1) := by decide +kernel
theorem dX5_addColumn_1 : decode cX5_addColumn 1 = .ok (.getfield 24, 3) := by decide +kernel
theorem dX5_addColumn_4 : decode cX5_addColumn 4 = .ok (.bipush 6, 2) := by decide +kernel
theorem dX5_addColumn_6 : decode cX5_addColumn 6 = .ok (.if_icmp .lt 5, 3) := by decide +kernel
theorem dX5_addColumn_9 : decode cX5_addColumn 9 = .ok (.iconst (-1), 1) := by decide +kernel
theorem dX5_addColumn_10 : decode cX5_addColumn 10 = .ok (.ireturn, 1) := by decide +kernel
theorem dX5_addColumn_11 : decode cX5_addColumn 11 = .ok (.aload_n 0, 1) := by decide +kernel
theorem dX5_addColumn_12 : decode cX5_addColumn 12 = .ok (.getfield 9, 3) := by decide +kernel
theorem dX5_addColumn_15 : decode cX5_addColumn 15 = .ok (.aload_n 0, 1) := by decide +kernel
theorem dX5_addColumn_16 : decode cX5_addColumn 16 = .ok (.getfield 24, 3) := by decide +kernel
theorem dX5_addColumn_19 : decode cX5_addColumn 19 = .ok (.iload_n 1, 1) := by decide +kernel
theorem dX5_addColumn_20 : decode cX5_addColumn 20 = .ok (.iastore, 1) := by decide +kernel
theorem dX5_addColumn_21 : decode cX5_addColumn 21 = .ok (.aload_n 0, 1) := by decide +kernel
theorem dX5_addColumn_22 : decode cX5_addColumn 22 = .ok (.dup, 1) := by decide +kernel
theorem dX5_addColumn_23 : decode cX5_addColumn 23 = .ok (.getfield 24, 3) := by decide +kernel
theorem dX5_addColumn_26 : decode cX5_addColumn 26 = .ok (.iconst 1, 1) := by decide +kernel
theorem dX5_addColumn_27 : decode cX5_addColumn 27 = .ok (.iadd, 1) := by decide +kernel
theorem dX5_addColumn_28 : decode cX5_addColumn 28 = .ok (.putfield 24, 3) := by decide +kernel
theorem dX5_addColumn_31 : decode cX5_addColumn 31 = .ok (.aload_n 0, 1) := by decide +kernel
theorem dX5_addColumn_32 : decode cX5_addColumn 32 = .ok (.getfield 24, 3) := by decide +kernel
theorem dX5_addColumn_35 : decode cX5_addColumn 35 = .ok (.iconst 1, 1) := by decide +kernel
theorem dX5_addColumn_36 : decode cX5_addColumn 36 = .ok (.isub, 1) := by decide +kernel
theorem dX5_addColumn_37 : decode cX5_addColumn 37 = .ok (.ireturn, 1) := by decide +kernel
theorem dX5_columnNumber_0 : decode cX5_columnNumber 0 = .ok (.iload_n 1, 1) := by decide +kernel
theorem dX5_columnNumber_1 : decode cX5_columnNumber 1 = .ok (.ifCond .lt 20, 3) := by decide +kernel
theorem dX5_columnNumber_4 : decode cX5_columnNumber 4 = .ok (.iload_n 1, 1) := by decide +kernel
theorem dX5_columnNumber_5 : decode cX5_columnNumber 5 = .ok (.aload_n 0, 1) := by decide +kernel
theorem dX5_columnNumber_6 : decode cX5_columnNumber 6 = .ok (.getfield 24, 3) := by decide +kernel
theorem dX5_columnNumber_9 : decode cX5_columnNumber 9 = .ok (.if_icmp .ge 12, 3) := by decide +kernel
theorem dX5_columnNumber_12 : decode cX5_columnNumber 12 = .ok (.aload_n 0, 1) := by decide +kernel
theorem dX5_columnNumber_13 : decode cX5_columnNumber 13 = .ok (.getfield 9, 3) := by decide +kernel
theorem dX5_columnNumber_16 : decode cX5_columnNumber 16 = .ok (.iload_n 1, 1) := by decide +kernel
theorem dX5_columnNumber_17 : decode cX5_columnNumber 17 = .ok (.iaload, 1) := by decide +kernel
theorem dX5_columnNumber_18 : decode cX5_columnNumber 18 = .ok (.goto 4, 3) := by decide +kernel
theorem dX5_columnNumber_21 : decode cX5_columnNumber 21 = .ok (.iconst (-1), 1) := by decide +kernel
theorem dX5_columnNumber_22 : decode cX5_columnNumber 22 = .ok (.ireturn, 1) := by decide +kernel
theorem dX5_setLoss_0 : decode cX5_setLoss 0 = .ok (.aload_n 0, 1) := by decide +kernel
theorem dX5_setLoss_1 : decode cX5_setLoss 1 = .ok (.iload_n 1, 1) := by decide +kernel
theorem dX5_setLoss_2 : decode cX5_setLoss 2 = .ok (.iload_n 2, 1) := by decide +kernel
theorem dX5_setLoss_3 : decode cX5_setLoss 3 = .ok (.invokevirtual 40, 3) := by decide +kernel
theorem dX5_setLoss_6 : decode cX5_setLoss 6 = .ok (.ifCond .eq 14, 3) := by decide +kernel
theorem dX5_setLoss_9 : decode cX5_setLoss 9 = .ok (.aload_n 0, 1) := by decide +kernel
theorem dX5_setLoss_10 : decode cX5_setLoss 10 = .ok (.getfield 15, 3) := by decide +kernel
theorem dX5_setLoss_13 : decode cX5_setLoss 13 = .ok (.iload_n 1, 1) := by decide +kernel
theorem dX5_setLoss_14 : decode cX5_setLoss 14 = .ok (.iconst 4, 1) := by decide +kernel
theorem dX5_setLoss_15 : decode cX5_setLoss 15 = .ok (.imul, 1) := by decide +kernel
theorem dX5_setLoss_16 : decode cX5_setLoss 16 = .ok (.iload_n 2, 1) := by decide +kernel
theorem dX5_setLoss_17 : decode cX5_setLoss 17 = .ok (.iadd, 1) := by decide +kernel
theorem dX5_setLoss_18 : decode cX5_setLoss 18 = .ok (.iload_n 3, 1) := by decide +kernel
theorem dX5_setLoss_19 : decode cX5_setLoss 19 = .ok (.iastore, 1) := by decide +kernel
theorem dX5_setLoss_20 : decode cX5_setLoss 20 = .ok (.return_, 1) := by decide +kernel
theorem dX5_setSame_0 : decode cX5_setSame 0 = .ok (.aload_n 0, 1) := by decide +kernel
theorem dX5_setSame_1 : decode cX5_setSame 1 = .ok (.iload_n 1, 1) := by decide +kernel
theorem dX5_setSame_2 : decode cX5_setSame 2 = .ok (.iload_n 2, 1) := by decide +kernel
theorem dX5_setSame_3 : decode cX5_setSame 3 = .ok (.invokevirtual 40, 3) := by decide +kernel
theorem dX5_setSame_6 : decode cX5_setSame 6 = .ok (.ifCond .eq 32, 3) := by decide +kernel
theorem dX5_setSame_9 : decode cX5_setSame 9 = .ok (.iload_n 3, 1) := by decide +kernel
theorem dX5_setSame_10 : decode cX5_setSame 10 = .ok (.ifCond .lt 28, 3) := by decide +kernel
theorem dX5_setSame_13 : decode cX5_setSame 13 = .ok (.iload_n 3, 1) := by decide +kernel
theorem dX5_setSame_14 : decode cX5_setSame 14 = .ok (.aload_n 0, 1) := by decide +kernel
theorem dX5_setSame_15 : decode cX5_setSame 15 = .ok (.getfield 28, 3) := by decide +kernel
theorem dX5_setSame_18 : decode cX5_setSame 18 = .ok (.if_icmp .ge 20, 3) := by decide +kernel
theorem dX5_setSame_21 : decode cX5_setSame 21 = .ok (.aload_n 0, 1) := by decide +kernel
theorem dX5_setSame_22 : decode cX5_setSame 22 = .ok (.getfield 18, 3) := by decide +kernel
theorem dX5_setSame_25 : decode cX5_setSame 25 = .ok (.iload_n 1, 1) := by decide +kernel
theorem dX5_setSame_26 : decode cX5_setSame 26 = .ok (.iconst 4, 1) := by decide +kernel
theorem dX5_setSame_27 : decode cX5_setSame 27 = .ok (.imul, 1) := by decide +kernel
theorem dX5_setSame_28 : decode cX5_setSame 28 = .ok (.iload_n 2, 1) := by decide +kernel
theorem dX5_setSame_29 : decode cX5_setSame 29 = .ok (.iadd, 1) := by decide +kernel
theorem dX5_setSame_30 : decode cX5_setSame 30 = .ok (.bipush 12, 2) := by decide +kernel
theorem dX5_setSame_32 : decode cX5_setSame 32 = .ok (.imul, 1) := by decide +kernel
theorem dX5_setSame_33 : decode cX5_setSame 33 = .ok (.iload_n 3, 1) := by decide +kernel
theorem dX5_setSame_34 : decode cX5_setSame 34 = .ok (.iadd, 1) := by decide +kernel
theorem dX5_setSame_35 : decode cX5_setSame 35 = .ok (.iload 4, 2) := by decide +kernel
theorem dX5_setSame_37 : decode cX5_setSame 37 = .ok (.iastore, 1) := by decide +kernel
theorem dX5_setSame_38 : decode cX5_setSame 38 = .ok (.return_, 1) := by decide +kernel
theorem dX5_setOthers_0 : decode cX5_setOthers 0 = .ok (.iload_n 1, 1) := by decide +kernel
theorem dX5_setOthers_1 : decode cX5_setOthers 1 = .ok (.ifCond .lt 18, 3) := by decide +kernel
theorem dX5_setOthers_4 : decode cX5_setOthers 4 = .ok (.iload_n 1, 1) := by decide +kernel
theorem dX5_setOthers_5 : decode cX5_setOthers 5 = .ok (.aload_n 0, 1) := by decide +kernel
theorem dX5_setOthers_6 : decode cX5_setOthers 6 = .ok (.getfield 28, 3) := by decide +kernel
theorem dX5_setOthers_9 : decode cX5_setOthers 9 = .ok (.if_icmp .ge 10, 3) := by decide +kernel
theorem dX5_setOthers_12 : decode cX5_setOthers 12 = .ok (.aload_n 0, 1) := by decide +kernel
theorem dX5_setOthers_13 : decode cX5_setOthers 13 = .ok (.getfield 21, 3) := by decide +kernel
theorem dX5_setOthers_16 : decode cX5_setOthers 16 = .ok (.iload_n 1, 1) := by decide +kernel
theorem dX5_setOthers_17 : decode cX5_setOthers 17 = .ok (.iload_n 2, 1) := by decide +kernel
theorem dX5_setOthers_18 : decode cX5_setOthers 18 = .ok (.iastore, 1) := by decide +kernel
theorem dX5_setOthers_19 : decode cX5_setOthers 19 = .ok (.return_, 1) := by decide +kernel
theorem dX5_isChoice_0 : decode cX5_isChoice 0 = .ok (.iload_n 1, 1) := by decide +kernel
theorem dX5_isChoice_1 : decode cX5_isChoice 1 = .ok (.ifCond .lt 24, 3) := by decide +kernel
theorem dX5_isChoice_4 : decode cX5_isChoice 4 = .ok (.iload_n 1, 1) := by decide +kernel
theorem dX5_isChoice_5 : decode cX5_isChoice 5 = .ok (.aload_n 0, 1) := by decide +kernel
theorem dX5_isChoice_6 : decode cX5_isChoice 6 = .ok (.getfield 24, 3) := by decide +kernel
theorem dX5_isChoice_9 : decode cX5_isChoice 9 = .ok (.if_icmp .ge 16, 3) := by decide +kernel
theorem dX5_isChoice_12 : decode cX5_isChoice 12 = .ok (.iload_n 2, 1) := by decide +kernel
theorem dX5_isChoice_13 : decode cX5_isChoice 13 = .ok (.ifCond .lt 12, 3) := by decide +kernel
theorem dX5_isChoice_16 : decode cX5_isChoice 16 = .ok (.iload_n 2, 1) := by decide +kernel
theorem dX5_isChoice_17 : decode cX5_isChoice 17 = .ok (.iconst 4, 1) := by decide +kernel
theorem dX5_isChoice_18 : decode cX5_isChoice 18 = .ok (.if_icmp .ge 7, 3) := by decide +kernel
theorem dX5_isChoice_21 : decode cX5_isChoice 21 = .ok (.iconst 1, 1) := by decide +kernel
theorem dX5_isChoice_22 : decode cX5_isChoice 22 = .ok (.goto 4, 3) := by decide +kernel
theorem dX5_isChoice_25 : decode cX5_isChoice 25 = .ok (.iconst 0, 1) := by decide +kernel
theorem dX5_isChoice_26 : decode cX5_isChoice 26 = .ok (.ireturn, 1) := by decide +kernel
theorem dX5_choiceOf_0 : decode cX5_choiceOf 0 = .ok (.iload_n 1, 1) := by decide +kernel
theorem dX5_choiceOf_1 : decode cX5_choiceOf 1 = .ok (.iconst 2, 1) := by decide +kernel
theorem dX5_choiceOf_2 : decode cX5_choiceOf 2 = .ok (.aload_n 0, 1) := by decide +kernel
theorem dX5_choiceOf_3 : decode cX5_choiceOf 3 = .ok (.getfield 24, 3) := by decide +kernel
theorem dX5_choiceOf_6 : decode cX5_choiceOf 6 = .ok (.iconst 1, 1) := by decide +kernel
theorem dX5_choiceOf_7 : decode cX5_choiceOf 7 = .ok (.isub, 1) := by decide +kernel
theorem dX5_choiceOf_8 : decode cX5_choiceOf 8 = .ok (.iload_n 2, 1) := by decide +kernel
theorem dX5_choiceOf_9 : decode cX5_choiceOf 9 = .ok (.isub, 1) := by decide +kernel
theorem dX5_choiceOf_10 : decode cX5_choiceOf 10 = .ok (.imul, 1) := by decide +kernel
theorem dX5_choiceOf_11 : decode cX5_choiceOf 11 = .ok (.ishr, 1) := by decide +kernel
theorem dX5_choiceOf_12 : decode cX5_choiceOf 12 = .ok (.iconst 3, 1) := by decide +kernel
theorem dX5_choiceOf_13 : decode cX5_choiceOf 13 = .ok (.iand, 1) := by decide +kernel
theorem dX5_choiceOf_14 : decode cX5_choiceOf 14 = .ok (.ireturn, 1) := by decide +kernel
theorem dX5_lossOf_0 : decode cX5_lossOf 0 = .ok (.iconst 0, 1) := by decide +kernel
theorem dX5_lossOf_1 : decode cX5_lossOf 1 = .ok (.istore_n 2, 1) := by decide +kernel
theorem dX5_lossOf_2 : decode cX5_lossOf 2 = .ok (.iconst 0, 1) := by decide +kernel
theorem dX5_lossOf_3 : decode cX5_lossOf 3 = .ok (.istore_n 3, 1) := by decide +kernel
theorem dX5_lossOf_4 : decode cX5_lossOf 4 = .ok (.iload_n 3, 1) := by decide +kernel
theorem dX5_lossOf_5 : decode cX5_lossOf 5 = .ok (.aload_n 0, 1) := by decide +kernel
theorem dX5_lossOf_6 : decode cX5_lossOf 6 = .ok (.getfield 24, 3) := by decide +kernel
theorem dX5_lossOf_9 : decode cX5_lossOf 9 = .ok (.if_icmp .ge 27, 3) := by decide +kernel
theorem dX5_lossOf_12 : decode cX5_lossOf 12 = .ok (.iload_n 2, 1) := by decide +kernel
theorem dX5_lossOf_13 : decode cX5_lossOf 13 = .ok (.aload_n 0, 1) := by decide +kernel
theorem dX5_lossOf_14 : decode cX5_lossOf 14 = .ok (.getfield 15, 3) := by decide +kernel
theorem dX5_lossOf_17 : decode cX5_lossOf 17 = .ok (.iload_n 3, 1) := by decide +kernel
theorem dX5_lossOf_18 : decode cX5_lossOf 18 = .ok (.iconst 4, 1) := by decide +kernel
theorem dX5_lossOf_19 : decode cX5_lossOf 19 = .ok (.imul, 1) := by decide +kernel
theorem dX5_lossOf_20 : decode cX5_lossOf 20 = .ok (.aload_n 0, 1) := by decide +kernel
theorem dX5_lossOf_21 : decode cX5_lossOf 21 = .ok (.iload_n 1, 1) := by decide +kernel
theorem dX5_lossOf_22 : decode cX5_lossOf 22 = .ok (.iload_n 3, 1) := by decide +kernel
theorem dX5_lossOf_23 : decode cX5_lossOf 23 = .ok (.invokevirtual 44, 3) := by decide +kernel
theorem dX5_lossOf_26 : decode cX5_lossOf 26 = .ok (.iadd, 1) := by decide +kernel
theorem dX5_lossOf_27 : decode cX5_lossOf 27 = .ok (.iaload, 1) := by decide +kernel
theorem dX5_lossOf_28 : decode cX5_lossOf 28 = .ok (.iadd, 1) := by decide +kernel
theorem dX5_lossOf_29 : decode cX5_lossOf 29 = .ok (.istore_n 2, 1) := by decide +kernel
theorem dX5_lossOf_30 : decode cX5_lossOf 30 = .ok (.iinc 3 1, 3) := by decide +kernel
theorem dX5_lossOf_33 : decode cX5_lossOf 33 = .ok (.goto (-29), 3) := by decide +kernel
theorem dX5_lossOf_36 : decode cX5_lossOf 36 = .ok (.iload_n 2, 1) := by decide +kernel
theorem dX5_lossOf_37 : decode cX5_lossOf 37 = .ok (.ireturn, 1) := by decide +kernel
theorem dX5_isSafe_0 : decode cX5_isSafe 0 = .ok (.iconst 0, 1) := by decide +kernel
theorem dX5_isSafe_1 : decode cX5_isSafe 1 = .ok (.istore_n 3, 1) := by decide +kernel
theorem dX5_isSafe_2 : decode cX5_isSafe 2 = .ok (.iload_n 3, 1) := by decide +kernel
theorem dX5_isSafe_3 : decode cX5_isSafe 3 = .ok (.aload_n 0, 1) := by decide +kernel
theorem dX5_isSafe_4 : decode cX5_isSafe 4 = .ok (.getfield 28, 3) := by decide +kernel
theorem dX5_isSafe_7 : decode cX5_isSafe 7 = .ok (.if_icmp .ge 73, 3) := by decide +kernel
theorem dX5_isSafe_10 : decode cX5_isSafe 10 = .ok (.aload_n 0, 1) := by decide +kernel
theorem dX5_isSafe_11 : decode cX5_isSafe 11 = .ok (.getfield 21, 3) := by decide +kernel
theorem dX5_isSafe_14 : decode cX5_isSafe 14 = .ok (.iload_n 3, 1) := by decide +kernel
theorem dX5_isSafe_15 : decode cX5_isSafe 15 = .ok (.iaload, 1) := by decide +kernel
theorem dX5_isSafe_16 : decode cX5_isSafe 16 = .ok (.istore 4, 2) := by decide +kernel
theorem dX5_isSafe_18 : decode cX5_isSafe 18 = .ok (.iconst 0, 1) := by decide +kernel
theorem dX5_isSafe_19 : decode cX5_isSafe 19 = .ok (.istore 5, 2) := by decide +kernel
theorem dX5_isSafe_21 : decode cX5_isSafe 21 = .ok (.iload 5, 2) := by decide +kernel
theorem dX5_isSafe_23 : decode cX5_isSafe 23 = .ok (.aload_n 0, 1) := by decide +kernel
theorem dX5_isSafe_24 : decode cX5_isSafe 24 = .ok (.getfield 24, 3) := by decide +kernel
theorem dX5_isSafe_27 : decode cX5_isSafe 27 = .ok (.if_icmp .ge 36, 3) := by decide +kernel
theorem dX5_isSafe_30 : decode cX5_isSafe 30 = .ok (.iload 4, 2) := by decide +kernel
theorem dX5_isSafe_32 : decode cX5_isSafe 32 = .ok (.aload_n 0, 1) := by decide +kernel
theorem dX5_isSafe_33 : decode cX5_isSafe 33 = .ok (.getfield 18, 3) := by decide +kernel
theorem dX5_isSafe_36 : decode cX5_isSafe 36 = .ok (.iload 5, 2) := by decide +kernel
theorem dX5_isSafe_38 : decode cX5_isSafe 38 = .ok (.iconst 4, 1) := by decide +kernel
theorem dX5_isSafe_39 : decode cX5_isSafe 39 = .ok (.imul, 1) := by decide +kernel
theorem dX5_isSafe_40 : decode cX5_isSafe 40 = .ok (.aload_n 0, 1) := by decide +kernel
theorem dX5_isSafe_41 : decode cX5_isSafe 41 = .ok (.iload_n 1, 1) := by decide +kernel
theorem dX5_isSafe_42 : decode cX5_isSafe 42 = .ok (.iload 5, 2) := by decide +kernel
theorem dX5_isSafe_44 : decode cX5_isSafe 44 = .ok (.invokevirtual 44, 3) := by decide +kernel
theorem dX5_isSafe_47 : decode cX5_isSafe 47 = .ok (.iadd, 1) := by decide +kernel
theorem dX5_isSafe_48 : decode cX5_isSafe 48 = .ok (.bipush 12, 2) := by decide +kernel
theorem dX5_isSafe_50 : decode cX5_isSafe 50 = .ok (.imul, 1) := by decide +kernel
theorem dX5_isSafe_51 : decode cX5_isSafe 51 = .ok (.iload_n 3, 1) := by decide +kernel
theorem dX5_isSafe_52 : decode cX5_isSafe 52 = .ok (.iadd, 1) := by decide +kernel
theorem dX5_isSafe_53 : decode cX5_isSafe 53 = .ok (.iaload, 1) := by decide +kernel
theorem dX5_isSafe_54 : decode cX5_isSafe 54 = .ok (.iand, 1) := by decide +kernel
theorem dX5_isSafe_55 : decode cX5_isSafe 55 = .ok (.istore 4, 2) := by decide +kernel
theorem dX5_isSafe_57 : decode cX5_isSafe 57 = .ok (.iinc 5 1, 3) := by decide +kernel
theorem dX5_isSafe_60 : decode cX5_isSafe 60 = .ok (.goto (-39), 3) := by decide +kernel
theorem dX5_isSafe_63 : decode cX5_isSafe 63 = .ok (.iload 4, 2) := by decide +kernel
theorem dX5_isSafe_65 : decode cX5_isSafe 65 = .ok (.invokestatic 47, 3) := by decide +kernel
theorem dX5_isSafe_68 : decode cX5_isSafe 68 = .ok (.iload_n 2, 1) := by decide +kernel
theorem dX5_isSafe_69 : decode cX5_isSafe 69 = .ok (.if_icmp .ge 5, 3) := by decide +kernel
theorem dX5_isSafe_72 : decode cX5_isSafe 72 = .ok (.iconst 0, 1) := by decide +kernel
theorem dX5_isSafe_73 : decode cX5_isSafe 73 = .ok (.ireturn, 1) := by decide +kernel
theorem dX5_isSafe_74 : decode cX5_isSafe 74 = .ok (.iinc 3 1, 3) := by decide +kernel
theorem dX5_isSafe_77 : decode cX5_isSafe 77 = .ok (.goto (-75), 3) := by decide +kernel
theorem dX5_isSafe_80 : decode cX5_isSafe 80 = .ok (.iconst 1, 1) := by decide +kernel
theorem dX5_isSafe_81 : decode cX5_isSafe 81 = .ok (.ireturn, 1) := by decide +kernel
theorem dX5_leastWay_0 : decode cX5_leastWay 0 = .ok (.iconst (-1), 1) := by decide +kernel
theorem dX5_leastWay_1 : decode cX5_leastWay 1 = .ok (.istore_n 2, 1) := by decide +kernel
theorem dX5_leastWay_2 : decode cX5_leastWay 2 = .ok (.iconst 0, 1) := by decide +kernel
theorem dX5_leastWay_3 : decode cX5_leastWay 3 = .ok (.istore_n 3, 1) := by decide +kernel
theorem dX5_leastWay_4 : decode cX5_leastWay 4 = .ok (.iconst 0, 1) := by decide +kernel
theorem dX5_leastWay_5 : decode cX5_leastWay 5 = .ok (.istore 4, 2) := by decide +kernel
theorem dX5_leastWay_7 : decode cX5_leastWay 7 = .ok (.iload 4, 2) := by decide +kernel
theorem dX5_leastWay_9 : decode cX5_leastWay 9 = .ok (.iconst 1, 1) := by decide +kernel
theorem dX5_leastWay_10 : decode cX5_leastWay 10 = .ok (.iconst 2, 1) := by decide +kernel
theorem dX5_leastWay_11 : decode cX5_leastWay 11 = .ok (.aload_n 0, 1) := by decide +kernel
theorem dX5_leastWay_12 : decode cX5_leastWay 12 = .ok (.getfield 24, 3) := by decide +kernel
theorem dX5_leastWay_15 : decode cX5_leastWay 15 = .ok (.imul, 1) := by decide +kernel
theorem dX5_leastWay_16 : decode cX5_leastWay 16 = .ok (.ishl, 1) := by decide +kernel
theorem dX5_leastWay_17 : decode cX5_leastWay 17 = .ok (.if_icmp .ge 44, 3) := by decide +kernel
theorem dX5_leastWay_20 : decode cX5_leastWay 20 = .ok (.aload_n 0, 1) := by decide +kernel
theorem dX5_leastWay_21 : decode cX5_leastWay 21 = .ok (.iload 4, 2) := by decide +kernel
theorem dX5_leastWay_23 : decode cX5_leastWay 23 = .ok (.invokevirtual 53, 3) := by decide +kernel
theorem dX5_leastWay_26 : decode cX5_leastWay 26 = .ok (.istore 5, 2) := by decide +kernel
theorem dX5_leastWay_28 : decode cX5_leastWay 28 = .ok (.iload_n 2, 1) := by decide +kernel
theorem dX5_leastWay_29 : decode cX5_leastWay 29 = .ok (.iconst (-1), 1) := by decide +kernel
theorem dX5_leastWay_30 : decode cX5_leastWay 30 = .ok (.if_icmp .eq 9, 3) := by decide +kernel
theorem dX5_leastWay_33 : decode cX5_leastWay 33 = .ok (.iload 5, 2) := by decide +kernel
theorem dX5_leastWay_35 : decode cX5_leastWay 35 = .ok (.iload_n 3, 1) := by decide +kernel
theorem dX5_leastWay_36 : decode cX5_leastWay 36 = .ok (.if_icmp .ge 19, 3) := by decide +kernel
theorem dX5_leastWay_39 : decode cX5_leastWay 39 = .ok (.aload_n 0, 1) := by decide +kernel
theorem dX5_leastWay_40 : decode cX5_leastWay 40 = .ok (.iload 4, 2) := by decide +kernel
theorem dX5_leastWay_42 : decode cX5_leastWay 42 = .ok (.iload_n 1, 1) := by decide +kernel
theorem dX5_leastWay_43 : decode cX5_leastWay 43 = .ok (.invokevirtual 56, 3) := by decide +kernel
theorem dX5_leastWay_46 : decode cX5_leastWay 46 = .ok (.ifCond .eq 9, 3) := by decide +kernel
theorem dX5_leastWay_49 : decode cX5_leastWay 49 = .ok (.iload 4, 2) := by decide +kernel
theorem dX5_leastWay_51 : decode cX5_leastWay 51 = .ok (.istore_n 2, 1) := by decide +kernel
theorem dX5_leastWay_52 : decode cX5_leastWay 52 = .ok (.iload 5, 2) := by decide +kernel
theorem dX5_leastWay_54 : decode cX5_leastWay 54 = .ok (.istore_n 3, 1) := by decide +kernel
theorem dX5_leastWay_55 : decode cX5_leastWay 55 = .ok (.iinc 4 1, 3) := by decide +kernel
theorem dX5_leastWay_58 : decode cX5_leastWay 58 = .ok (.goto (-51), 3) := by decide +kernel
theorem dX5_leastWay_61 : decode cX5_leastWay 61 = .ok (.iload_n 2, 1) := by decide +kernel
theorem dX5_leastWay_62 : decode cX5_leastWay 62 = .ok (.ireturn, 1) := by decide +kernel
theorem dX6_init_0 : decode cX6_init 0 = .ok (.aload_n 0, 1) := by decide +kernel
theorem dX6_init_1 : decode cX6_init 1 = .ok (.invokespecial 3, 3) := by decide +kernel
theorem dX6_init_4 : decode cX6_init 4 = .ok (.aload_n 0, 1) := by decide +kernel
theorem dX6_init_5 : decode cX6_init 5 = .ok (.iconst 4, 1) := by decide +kernel
theorem dX6_init_6 : decode cX6_init 6 = .ok (.anewarray 11, 3) := by decide +kernel
theorem dX6_init_9 : decode cX6_init 9 = .ok (.putfield 13, 3) := by decide +kernel
theorem dX6_init_12 : decode cX6_init 12 = .ok (.aload_n 0, 1) := by decide +kernel
theorem dX6_init_13 : decode cX6_init 13 = .ok (.bipush 8, 2) := by decide +kernel
theorem dX6_init_15 : decode cX6_init 15 = .ok (.anewarray 17, 3) := by decide +kernel
theorem dX6_init_18 : decode cX6_init 18 = .ok (.putfield 19, 3) := by decide +kernel
theorem dX6_init_21 : decode cX6_init 21 = .ok (.aload_n 0, 1) := by decide +kernel
theorem dX6_init_22 : decode cX6_init 22 = .ok (.bipush 6, 2) := by decide +kernel
theorem dX6_init_24 : decode cX6_init 24 = .ok (.newarray .int, 2) := by decide +kernel
theorem dX6_init_26 : decode cX6_init 26 = .ok (.putfield 23, 3) := by decide +kernel
theorem dX6_init_29 : decode cX6_init 29 = .ok (.aload_n 0, 1) := by decide +kernel
theorem dX6_init_30 : decode cX6_init 30 = .ok (.new 27, 3) := by decide +kernel
theorem dX6_init_33 : decode cX6_init 33 = .ok (.dup, 1) := by decide +kernel
theorem dX6_init_34 : decode cX6_init 34 = .ok (.invokespecial 29, 3) := by decide +kernel
theorem dX6_init_37 : decode cX6_init 37 = .ok (.putfield 30, 3) := by decide +kernel
theorem dX6_init_40 : decode cX6_init 40 = .ok (.aload_n 0, 1) := by decide +kernel
theorem dX6_init_41 : decode cX6_init 41 = .ok (.new 34, 3) := by decide +kernel
theorem dX6_init_44 : decode cX6_init 44 = .ok (.dup, 1) := by decide +kernel
theorem dX6_init_45 : decode cX6_init 45 = .ok (.invokespecial 36, 3) := by decide +kernel
theorem dX6_init_48 : decode cX6_init 48 = .ok (.putfield 37, 3) := by decide +kernel
theorem dX6_init_51 : decode cX6_init 51 = .ok (.aload_n 0, 1) := by decide +kernel
theorem dX6_init_52 : decode cX6_init 52 = .ok (.new 41, 3) := by decide +kernel
theorem dX6_init_55 : decode cX6_init 55 = .ok (.dup, 1) := by decide +kernel
theorem dX6_init_56 : decode cX6_init 56 = .ok (.invokespecial 43, 3) := by decide +kernel
theorem dX6_init_59 : decode cX6_init 59 = .ok (.putfield 44, 3) := by decide +kernel
theorem dX6_init_62 : decode cX6_init 62 = .ok (.aload_n 0, 1) := by decide +kernel
theorem dX6_init_63 : decode cX6_init 63 = .ok (.new 27, 3) := by decide +kernel
theorem dX6_init_66 : decode cX6_init 66 = .ok (.dup, 1) := by decide +kernel
theorem dX6_init_67 : decode cX6_init 67 = .ok (.invokespecial 29, 3) := by decide +kernel
theorem dX6_init_70 : decode cX6_init 70 = .ok (.putfield 48, 3) := by decide +kernel
theorem dX6_init_73 : decode cX6_init 73 = .ok (.aload_n 0, 1) := by decide +kernel
theorem dX6_init_74 : decode cX6_init 74 = .ok (.new 27, 3) := by decide +kernel
theorem dX6_init_77 : decode cX6_init 77 = .ok (.dup, 1) := by decide +kernel
theorem dX6_init_78 : decode cX6_init 78 = .ok (.invokespecial 29, 3) := by decide +kernel
theorem dX6_init_81 : decode cX6_init 81 = .ok (.putfield 51, 3) := by decide +kernel
theorem dX6_init_84 : decode cX6_init 84 = .ok (.aload_n 0, 1) := by decide +kernel
theorem dX6_init_85 : decode cX6_init 85 = .ok (.iconst 0, 1) := by decide +kernel
theorem dX6_init_86 : decode cX6_init 86 = .ok (.putfield 54, 3) := by decide +kernel
theorem dX6_init_89 : decode cX6_init 89 = .ok (.aload_n 0, 1) := by decide +kernel
theorem dX6_init_90 : decode cX6_init 90 = .ok (.iconst 0, 1) := by decide +kernel
theorem dX6_init_91 : decode cX6_init 91 = .ok (.putfield 58, 3) := by decide +kernel
theorem dX6_init_94 : decode cX6_init 94 = .ok (.aload_n 0, 1) := by decide +kernel
theorem dX6_init_95 : decode cX6_init 95 = .ok (.iconst 0, 1) := by decide +kernel
theorem dX6_init_96 : decode cX6_init 96 = .ok (.putfield 61, 3) := by decide +kernel
theorem dX6_init_99 : decode cX6_init 99 = .ok (.aload_n 0, 1) := by decide +kernel
theorem dX6_init_100 : decode cX6_init 100 = .ok (.iconst 0, 1) := by decide +kernel
theorem dX6_init_101 : decode cX6_init 101 = .ok (.putfield 64, 3) := by decide +kernel
theorem dX6_init_104 : decode cX6_init 104 = .ok (.aload_n 0, 1) := by decide +kernel
theorem dX6_init_105 : decode cX6_init 105 = .ok (.iconst 0, 1) := by decide +kernel
theorem dX6_init_106 : decode cX6_init 106 = .ok (.putfield 67, 3) := by decide +kernel
theorem dX6_init_109 : decode cX6_init 109 = .ok (.iconst 0, 1) := by decide +kernel
theorem dX6_init_110 : decode cX6_init 110 = .ok (.istore_n 1, 1) := by decide +kernel
theorem dX6_init_111 : decode cX6_init 111 = .ok (.iload_n 1, 1) := by decide +kernel
theorem dX6_init_112 : decode cX6_init 112 = .ok (.iconst 4, 1) := by decide +kernel
theorem dX6_init_113 : decode cX6_init 113 = .ok (.if_icmp .ge 22, 3) := by decide +kernel
theorem dX6_init_116 : decode cX6_init 116 = .ok (.aload_n 0, 1) := by decide +kernel
theorem dX6_init_117 : decode cX6_init 117 = .ok (.getfield 13, 3) := by decide +kernel
theorem dX6_init_120 : decode cX6_init 120 = .ok (.iload_n 1, 1) := by decide +kernel
theorem dX6_init_121 : decode cX6_init 121 = .ok (.new 11, 3) := by decide +kernel
theorem dX6_init_124 : decode cX6_init 124 = .ok (.dup, 1) := by decide +kernel
theorem dX6_init_125 : decode cX6_init 125 = .ok (.invokespecial 71, 3) := by decide +kernel
theorem dX6_init_128 : decode cX6_init 128 = .ok (.aastore, 1) := by decide +kernel
theorem dX6_init_129 : decode cX6_init 129 = .ok (.iinc 1 1, 3) := by decide +kernel
theorem dX6_init_132 : decode cX6_init 132 = .ok (.goto (-21), 3) := by decide +kernel
theorem dX6_init_135 : decode cX6_init 135 = .ok (.iconst 0, 1) := by decide +kernel
theorem dX6_init_136 : decode cX6_init 136 = .ok (.istore_n 1, 1) := by decide +kernel
theorem dX6_init_137 : decode cX6_init 137 = .ok (.iload_n 1, 1) := by decide +kernel
theorem dX6_init_138 : decode cX6_init 138 = .ok (.bipush 8, 2) := by decide +kernel
theorem dX6_init_140 : decode cX6_init 140 = .ok (.if_icmp .ge 22, 3) := by decide +kernel
theorem dX6_init_143 : decode cX6_init 143 = .ok (.aload_n 0, 1) := by decide +kernel
theorem dX6_init_144 : decode cX6_init 144 = .ok (.getfield 19, 3) := by decide +kernel
theorem dX6_init_147 : decode cX6_init 147 = .ok (.iload_n 1, 1) := by decide +kernel
theorem dX6_init_148 : decode cX6_init 148 = .ok (.new 17, 3) := by decide +kernel
theorem dX6_init_151 : decode cX6_init 151 = .ok (.dup, 1) := by decide +kernel
theorem dX6_init_152 : decode cX6_init 152 = .ok (.invokespecial 72, 3) := by decide +kernel
theorem dX6_init_155 : decode cX6_init 155 = .ok (.aastore, 1) := by decide +kernel
theorem dX6_init_156 : decode cX6_init 156 = .ok (.iinc 1 1, 3) := by decide +kernel
theorem dX6_init_159 : decode cX6_init 159 = .ok (.goto (-22), 3) := by decide +kernel
theorem dX6_init_162 : decode cX6_init 162 = .ok (.return_, 1) := by decide +kernel
theorem dX6_table_0 : decode cX6_table 0 = .ok (.aload_n 0, 1) := by decide +kernel
theorem dX6_table_1 : decode cX6_table 1 = .ok (.getfield 54, 3) := by decide +kernel
theorem dX6_table_4 : decode cX6_table 4 = .ok (.iconst 4, 1) := by decide +kernel
theorem dX6_table_5 : decode cX6_table 5 = .ok (.if_icmp .lt 6, 3) := by decide +kernel
theorem dX6_table_8 : decode cX6_table 8 = .ok (.bipush (-4), 2) := by decide +kernel
theorem dX6_table_10 : decode cX6_table 10 = .ok (.ireturn, 1) := by decide +kernel
theorem dX6_table_11 : decode cX6_table 11 = .ok (.aload_n 0, 1) := by decide +kernel
theorem dX6_table_12 : decode cX6_table 12 = .ok (.iconst 0, 1) := by decide +kernel
theorem dX6_table_13 : decode cX6_table 13 = .ok (.putfield 67, 3) := by decide +kernel
theorem dX6_table_16 : decode cX6_table 16 = .ok (.aload_n 0, 1) := by decide +kernel
theorem dX6_table_17 : decode cX6_table 17 = .ok (.dup, 1) := by decide +kernel
theorem dX6_table_18 : decode cX6_table 18 = .ok (.getfield 54, 3) := by decide +kernel
theorem dX6_table_21 : decode cX6_table 21 = .ok (.iconst 1, 1) := by decide +kernel
theorem dX6_table_22 : decode cX6_table 22 = .ok (.iadd, 1) := by decide +kernel
theorem dX6_table_23 : decode cX6_table 23 = .ok (.putfield 54, 3) := by decide +kernel
theorem dX6_table_26 : decode cX6_table 26 = .ok (.aload_n 0, 1) := by decide +kernel
theorem dX6_table_27 : decode cX6_table 27 = .ok (.getfield 54, 3) := by decide +kernel
theorem dX6_table_30 : decode cX6_table 30 = .ok (.iconst 1, 1) := by decide +kernel
theorem dX6_table_31 : decode cX6_table 31 = .ok (.isub, 1) := by decide +kernel
theorem dX6_table_32 : decode cX6_table 32 = .ok (.ireturn, 1) := by decide +kernel
theorem dX6_column_0 : decode cX6_column 0 = .ok (.aload_n 0, 1) := by decide +kernel
theorem dX6_column_1 : decode cX6_column 1 = .ok (.iload_n 1, 1) := by decide +kernel
theorem dX6_column_2 : decode cX6_column 2 = .ok (.invokevirtual 73, 3) := by decide +kernel
theorem dX6_column_5 : decode cX6_column 5 = .ok (.astore 4, 2) := by decide +kernel
theorem dX6_column_7 : decode cX6_column 7 = .ok (.aload 4, 2) := by decide +kernel
theorem dX6_column_9 : decode cX6_column 9 = .ok (.ifnull 16, 3) := by decide +kernel
theorem dX6_column_12 : decode cX6_column 12 = .ok (.iload_n 2, 1) := by decide +kernel
theorem dX6_column_13 : decode cX6_column 13 = .ok (.iconst 1, 1) := by decide +kernel
theorem dX6_column_14 : decode cX6_column 14 = .ok (.if_icmp .ne 13, 3) := by decide +kernel
theorem dX6_column_17 : decode cX6_column 17 = .ok (.aload_n 0, 1) := by decide +kernel
theorem dX6_column_18 : decode cX6_column 18 = .ok (.iload_n 3, 1) := by decide +kernel
theorem dX6_column_19 : decode cX6_column 19 = .ok (.invokevirtual 73, 3) := by decide +kernel
theorem dX6_column_22 : decode cX6_column 22 = .ok (.ifnonnull 5, 3) := by decide +kernel
theorem dX6_column_25 : decode cX6_column 25 = .ok (.iconst (-1), 1) := by decide +kernel
theorem dX6_column_26 : decode cX6_column 26 = .ok (.ireturn, 1) := by decide +kernel
theorem dX6_column_27 : decode cX6_column 27 = .ok (.iload_n 2, 1) := by decide +kernel
theorem dX6_column_28 : decode cX6_column 28 = .ok (.iconst 1, 1) := by decide +kernel
theorem dX6_column_29 : decode cX6_column 29 = .ok (.if_icmp .lt 17, 3) := by decide +kernel
theorem dX6_column_32 : decode cX6_column 32 = .ok (.iload_n 2, 1) := by decide +kernel
theorem dX6_column_33 : decode cX6_column 33 = .ok (.iconst 4, 1) := by decide +kernel
theorem dX6_column_34 : decode cX6_column 34 = .ok (.if_icmp .gt 12, 3) := by decide +kernel
theorem dX6_column_37 : decode cX6_column 37 = .ok (.iload_n 2, 1) := by decide +kernel
theorem dX6_column_38 : decode cX6_column 38 = .ok (.iconst 1, 1) := by decide +kernel
theorem dX6_column_39 : decode cX6_column 39 = .ok (.if_icmp .eq 10, 3) := by decide +kernel
theorem dX6_column_42 : decode cX6_column 42 = .ok (.iload_n 3, 1) := by decide +kernel
theorem dX6_column_43 : decode cX6_column 43 = .ok (.ifCond .eq 6, 3) := by decide +kernel
theorem dX6_column_46 : decode cX6_column 46 = .ok (.bipush (-2), 2) := by decide +kernel
theorem dX6_column_48 : decode cX6_column 48 = .ok (.ireturn, 1) := by decide +kernel
theorem dX6_column_49 : decode cX6_column 49 = .ok (.aload 4, 2) := by decide +kernel
theorem dX6_column_51 : decode cX6_column 51 = .ok (.getfield 77, 3) := by decide +kernel
theorem dX6_column_54 : decode cX6_column 54 = .ok (.ifCond .le 6, 3) := by decide +kernel
theorem dX6_column_57 : decode cX6_column 57 = .ok (.bipush (-3), 2) := by decide +kernel
theorem dX6_column_59 : decode cX6_column 59 = .ok (.ireturn, 1) := by decide +kernel
theorem dX6_column_60 : decode cX6_column 60 = .ok (.aload 4, 2) := by decide +kernel
theorem dX6_column_62 : decode cX6_column 62 = .ok (.getfield 80, 3) := by decide +kernel
theorem dX6_column_65 : decode cX6_column 65 = .ok (.bipush 6, 2) := by decide +kernel
theorem dX6_column_67 : decode cX6_column 67 = .ok (.if_icmp .lt 6, 3) := by decide +kernel
theorem dX6_column_70 : decode cX6_column 70 = .ok (.bipush (-4), 2) := by decide +kernel
theorem dX6_column_72 : decode cX6_column 72 = .ok (.ireturn, 1) := by decide +kernel
theorem dX6_column_73 : decode cX6_column 73 = .ok (.aload_n 0, 1) := by decide +kernel
theorem dX6_column_74 : decode cX6_column 74 = .ok (.iconst 0, 1) := by decide +kernel
theorem dX6_column_75 : decode cX6_column 75 = .ok (.putfield 67, 3) := by decide +kernel
theorem dX6_column_78 : decode cX6_column 78 = .ok (.aload 4, 2) := by decide +kernel
theorem dX6_column_80 : decode cX6_column 80 = .ok (.iload_n 2, 1) := by decide +kernel
theorem dX6_column_81 : decode cX6_column 81 = .ok (.iload_n 3, 1) := by decide +kernel
theorem dX6_column_82 : decode cX6_column 82 = .ok (.invokevirtual 83, 3) := by decide +kernel
theorem dX6_column_85 : decode cX6_column 85 = .ok (.ireturn, 1) := by decide +kernel
theorem dX6_cell_0 : decode cX6_cell 0 = .ok (.aload_n 0, 1) := by decide +kernel
theorem dX6_cell_1 : decode cX6_cell 1 = .ok (.getfield 61, 3) := by decide +kernel
theorem dX6_cell_4 : decode cX6_cell 4 = .ok (.bipush 6, 2) := by decide +kernel
theorem dX6_cell_6 : decode cX6_cell 6 = .ok (.if_icmp .lt 6, 3) := by decide +kernel
theorem dX6_cell_9 : decode cX6_cell 9 = .ok (.bipush (-4), 2) := by decide +kernel
theorem dX6_cell_11 : decode cX6_cell 11 = .ok (.ireturn, 1) := by decide +kernel
theorem dX6_cell_12 : decode cX6_cell 12 = .ok (.aload_n 0, 1) := by decide +kernel
theorem dX6_cell_13 : decode cX6_cell 13 = .ok (.getfield 23, 3) := by decide +kernel
theorem dX6_cell_16 : decode cX6_cell 16 = .ok (.aload_n 0, 1) := by decide +kernel
theorem dX6_cell_17 : decode cX6_cell 17 = .ok (.getfield 61, 3) := by decide +kernel
theorem dX6_cell_20 : decode cX6_cell 20 = .ok (.iload_n 1, 1) := by decide +kernel
theorem dX6_cell_21 : decode cX6_cell 21 = .ok (.iastore, 1) := by decide +kernel
theorem dX6_cell_22 : decode cX6_cell 22 = .ok (.aload_n 0, 1) := by decide +kernel
theorem dX6_cell_23 : decode cX6_cell 23 = .ok (.dup, 1) := by decide +kernel
theorem dX6_cell_24 : decode cX6_cell 24 = .ok (.getfield 61, 3) := by decide +kernel
theorem dX6_cell_27 : decode cX6_cell 27 = .ok (.iconst 1, 1) := by decide +kernel
theorem dX6_cell_28 : decode cX6_cell 28 = .ok (.iadd, 1) := by decide +kernel
theorem dX6_cell_29 : decode cX6_cell 29 = .ok (.putfield 61, 3) := by decide +kernel
theorem dX6_cell_32 : decode cX6_cell 32 = .ok (.aload_n 0, 1) := by decide +kernel
theorem dX6_cell_33 : decode cX6_cell 33 = .ok (.getfield 61, 3) := by decide +kernel
theorem dX6_cell_36 : decode cX6_cell 36 = .ok (.ireturn, 1) := by decide +kernel
theorem dX6_row_0 : decode cX6_row 0 = .ok (.aload_n 0, 1) := by decide +kernel
theorem dX6_row_1 : decode cX6_row 1 = .ok (.iload_n 1, 1) := by decide +kernel
theorem dX6_row_2 : decode cX6_row 2 = .ok (.invokevirtual 73, 3) := by decide +kernel
theorem dX6_row_5 : decode cX6_row 5 = .ok (.astore_n 2, 1) := by decide +kernel
theorem dX6_row_6 : decode cX6_row 6 = .ok (.aload_n 2, 1) := by decide +kernel
theorem dX6_row_7 : decode cX6_row 7 = .ok (.ifnonnull 5, 3) := by decide +kernel
theorem dX6_row_10 : decode cX6_row 10 = .ok (.iconst (-1), 1) := by decide +kernel
theorem dX6_row_11 : decode cX6_row 11 = .ok (.ireturn, 1) := by decide +kernel
theorem dX6_row_12 : decode cX6_row 12 = .ok (.aload_n 0, 1) := by decide +kernel
theorem dX6_row_13 : decode cX6_row 13 = .ok (.aload_n 2, 1) := by decide +kernel
theorem dX6_row_14 : decode cX6_row 14 = .ok (.invokevirtual 87, 3) := by decide +kernel
theorem dX6_row_17 : decode cX6_row 17 = .ok (.ifCond .ne 6, 3) := by decide +kernel
theorem dX6_row_20 : decode cX6_row 20 = .ok (.bipush (-2), 2) := by decide +kernel
theorem dX6_row_22 : decode cX6_row 22 = .ok (.ireturn, 1) := by decide +kernel
theorem dX6_row_23 : decode cX6_row 23 = .ok (.aload_n 0, 1) := by decide +kernel
theorem dX6_row_24 : decode cX6_row 24 = .ok (.aload_n 0, 1) := by decide +kernel
theorem dX6_row_25 : decode cX6_row 25 = .ok (.getfield 30, 3) := by decide +kernel
theorem dX6_row_28 : decode cX6_row 28 = .ok (.iload_n 1, 1) := by decide +kernel
theorem dX6_row_29 : decode cX6_row 29 = .ok (.iconst 0, 1) := by decide +kernel
theorem dX6_row_30 : decode cX6_row 30 = .ok (.aload_n 0, 1) := by decide +kernel
theorem dX6_row_31 : decode cX6_row 31 = .ok (.getfield 23, 3) := by decide +kernel
theorem dX6_row_34 : decode cX6_row 34 = .ok (.iconst 0, 1) := by decide +kernel
theorem dX6_row_35 : decode cX6_row 35 = .ok (.iaload, 1) := by decide +kernel
theorem dX6_row_36 : decode cX6_row 36 = .ok (.invokevirtual 91, 3) := by decide +kernel
theorem dX6_row_39 : decode cX6_row 39 = .ok (.ifCond .le 6, 3) := by decide +kernel
theorem dX6_row_42 : decode cX6_row 42 = .ok (.bipush (-3), 2) := by decide +kernel
theorem dX6_row_44 : decode cX6_row 44 = .ok (.ireturn, 1) := by decide +kernel
theorem dX6_row_45 : decode cX6_row 45 = .ok (.aload_n 2, 1) := by decide +kernel
theorem dX6_row_46 : decode cX6_row 46 = .ok (.getfield 77, 3) := by decide +kernel
theorem dX6_row_49 : decode cX6_row 49 = .ok (.bipush 12, 2) := by decide +kernel
theorem dX6_row_51 : decode cX6_row 51 = .ok (.if_icmp .lt 6, 3) := by decide +kernel
theorem dX6_row_54 : decode cX6_row 54 = .ok (.bipush (-4), 2) := by decide +kernel
theorem dX6_row_56 : decode cX6_row 56 = .ok (.ireturn, 1) := by decide +kernel
theorem dX6_row_57 : decode cX6_row 57 = .ok (.aload_n 2, 1) := by decide +kernel
theorem dX6_row_58 : decode cX6_row 58 = .ok (.getfield 77, 3) := by decide +kernel
theorem dX6_row_61 : decode cX6_row 61 = .ok (.istore_n 3, 1) := by decide +kernel
theorem dX6_row_62 : decode cX6_row 62 = .ok (.iconst 0, 1) := by decide +kernel
theorem dX6_row_63 : decode cX6_row 63 = .ok (.istore 4, 2) := by decide +kernel
theorem dX6_row_65 : decode cX6_row 65 = .ok (.iload 4, 2) := by decide +kernel
theorem dX6_row_67 : decode cX6_row 67 = .ok (.aload_n 0, 1) := by decide +kernel
theorem dX6_row_68 : decode cX6_row 68 = .ok (.getfield 61, 3) := by decide +kernel
theorem dX6_row_71 : decode cX6_row 71 = .ok (.if_icmp .ge 27, 3) := by decide +kernel
theorem dX6_row_74 : decode cX6_row 74 = .ok (.aload_n 0, 1) := by decide +kernel
theorem dX6_row_75 : decode cX6_row 75 = .ok (.getfield 30, 3) := by decide +kernel
theorem dX6_row_78 : decode cX6_row 78 = .ok (.iload_n 1, 1) := by decide +kernel
theorem dX6_row_79 : decode cX6_row 79 = .ok (.iload_n 3, 1) := by decide +kernel
theorem dX6_row_80 : decode cX6_row 80 = .ok (.iload 4, 2) := by decide +kernel
theorem dX6_row_82 : decode cX6_row 82 = .ok (.aload_n 0, 1) := by decide +kernel
theorem dX6_row_83 : decode cX6_row 83 = .ok (.getfield 23, 3) := by decide +kernel
theorem dX6_row_86 : decode cX6_row 86 = .ok (.iload 4, 2) := by decide +kernel
theorem dX6_row_88 : decode cX6_row 88 = .ok (.iaload, 1) := by decide +kernel
theorem dX6_row_89 : decode cX6_row 89 = .ok (.invokevirtual 95, 3) := by decide +kernel
theorem dX6_row_92 : decode cX6_row 92 = .ok (.iinc 4 1, 3) := by decide +kernel
theorem dX6_row_95 : decode cX6_row 95 = .ok (.goto (-30), 3) := by decide +kernel
theorem dX6_row_98 : decode cX6_row 98 = .ok (.aload_n 2, 1) := by decide +kernel
theorem dX6_row_99 : decode cX6_row 99 = .ok (.iload_n 3, 1) := by decide +kernel
theorem dX6_row_100 : decode cX6_row 100 = .ok (.iconst 1, 1) := by decide +kernel
theorem dX6_row_101 : decode cX6_row 101 = .ok (.iadd, 1) := by decide +kernel
theorem dX6_row_102 : decode cX6_row 102 = .ok (.putfield 77, 3) := by decide +kernel
theorem dX6_row_105 : decode cX6_row 105 = .ok (.aload_n 0, 1) := by decide +kernel
theorem dX6_row_106 : decode cX6_row 106 = .ok (.iconst 0, 1) := by decide +kernel
theorem dX6_row_107 : decode cX6_row 107 = .ok (.putfield 61, 3) := by decide +kernel
theorem dX6_row_110 : decode cX6_row 110 = .ok (.aload_n 0, 1) := by decide +kernel
theorem dX6_row_111 : decode cX6_row 111 = .ok (.iconst 0, 1) := by decide +kernel
theorem dX6_row_112 : decode cX6_row 112 = .ok (.putfield 67, 3) := by decide +kernel
theorem dX6_row_115 : decode cX6_row 115 = .ok (.iload_n 3, 1) := by decide +kernel
theorem dX6_row_116 : decode cX6_row 116 = .ok (.ireturn, 1) := by decide +kernel
theorem dX6_wipe_0 : decode cX6_wipe 0 = .ok (.aload_n 0, 1) := by decide +kernel
theorem dX6_wipe_1 : decode cX6_wipe 1 = .ok (.getfield 61, 3) := by decide +kernel
theorem dX6_wipe_4 : decode cX6_wipe 4 = .ok (.istore_n 1, 1) := by decide +kernel
theorem dX6_wipe_5 : decode cX6_wipe 5 = .ok (.aload_n 0, 1) := by decide +kernel
theorem dX6_wipe_6 : decode cX6_wipe 6 = .ok (.iconst 0, 1) := by decide +kernel
theorem dX6_wipe_7 : decode cX6_wipe 7 = .ok (.putfield 61, 3) := by decide +kernel
theorem dX6_wipe_10 : decode cX6_wipe 10 = .ok (.iload_n 1, 1) := by decide +kernel
theorem dX6_wipe_11 : decode cX6_wipe 11 = .ok (.ireturn, 1) := by decide +kernel
theorem dX6_owner_0 : decode cX6_owner 0 = .ok (.aload_n 0, 1) := by decide +kernel
theorem dX6_owner_1 : decode cX6_owner 1 = .ok (.iload_n 1, 1) := by decide +kernel
theorem dX6_owner_2 : decode cX6_owner 2 = .ok (.invokevirtual 73, 3) := by decide +kernel
theorem dX6_owner_5 : decode cX6_owner 5 = .ok (.astore_n 3, 1) := by decide +kernel
theorem dX6_owner_6 : decode cX6_owner 6 = .ok (.aload_n 0, 1) := by decide +kernel
theorem dX6_owner_7 : decode cX6_owner 7 = .ok (.iload_n 1, 1) := by decide +kernel
theorem dX6_owner_8 : decode cX6_owner 8 = .ok (.iload_n 2, 1) := by decide +kernel
theorem dX6_owner_9 : decode cX6_owner 9 = .ok (.invokevirtual 99, 3) := by decide +kernel
theorem dX6_owner_12 : decode cX6_owner 12 = .ok (.astore 4, 2) := by decide +kernel
theorem dX6_owner_14 : decode cX6_owner 14 = .ok (.aload_n 3, 1) := by decide +kernel
theorem dX6_owner_15 : decode cX6_owner 15 = .ok (.ifnull 8, 3) := by decide +kernel
theorem dX6_owner_18 : decode cX6_owner 18 = .ok (.aload 4, 2) := by decide +kernel
theorem dX6_owner_20 : decode cX6_owner 20 = .ok (.ifnonnull 5, 3) := by decide +kernel
theorem dX6_owner_23 : decode cX6_owner 23 = .ok (.iconst (-1), 1) := by decide +kernel
theorem dX6_owner_24 : decode cX6_owner 24 = .ok (.ireturn, 1) := by decide +kernel
theorem dX6_owner_25 : decode cX6_owner 25 = .ok (.aload 4, 2) := by decide +kernel
theorem dX6_owner_27 : decode cX6_owner 27 = .ok (.getfield 103, 3) := by decide +kernel
theorem dX6_owner_30 : decode cX6_owner 30 = .ok (.iconst 1, 1) := by decide +kernel
theorem dX6_owner_31 : decode cX6_owner 31 = .ok (.if_icmp .eq 14, 3) := by decide +kernel
theorem dX6_owner_34 : decode cX6_owner 34 = .ok (.aload 4, 2) := by decide +kernel
theorem dX6_owner_36 : decode cX6_owner 36 = .ok (.getfield 103, 3) := by decide +kernel
theorem dX6_owner_39 : decode cX6_owner 39 = .ok (.ifCond .eq 6, 3) := by decide +kernel
theorem dX6_owner_42 : decode cX6_owner 42 = .ok (.bipush (-2), 2) := by decide +kernel
theorem dX6_owner_44 : decode cX6_owner 44 = .ok (.ireturn, 1) := by decide +kernel
theorem dX6_owner_45 : decode cX6_owner 45 = .ok (.aload_n 3, 1) := by decide +kernel
theorem dX6_owner_46 : decode cX6_owner 46 = .ok (.getfield 108, 3) := by decide +kernel
theorem dX6_owner_49 : decode cX6_owner 49 = .ok (.istore 5, 2) := by decide +kernel
theorem dX6_owner_51 : decode cX6_owner 51 = .ok (.aload_n 3, 1) := by decide +kernel
theorem dX6_owner_52 : decode cX6_owner 52 = .ok (.iload_n 2, 1) := by decide +kernel
theorem dX6_owner_53 : decode cX6_owner 53 = .ok (.putfield 108, 3) := by decide +kernel
theorem dX6_owner_56 : decode cX6_owner 56 = .ok (.iload 5, 2) := by decide +kernel
theorem dX6_owner_58 : decode cX6_owner 58 = .ok (.ireturn, 1) := by decide +kernel
theorem dX6_mask_0 : decode cX6_mask 0 = .ok (.aload_n 0, 1) := by decide +kernel
theorem dX6_mask_1 : decode cX6_mask 1 = .ok (.iload_n 1, 1) := by decide +kernel
theorem dX6_mask_2 : decode cX6_mask 2 = .ok (.iload_n 2, 1) := by decide +kernel
theorem dX6_mask_3 : decode cX6_mask 3 = .ok (.invokevirtual 99, 3) := by decide +kernel
theorem dX6_mask_6 : decode cX6_mask 6 = .ok (.astore 5, 2) := by decide +kernel
theorem dX6_mask_8 : decode cX6_mask 8 = .ok (.aload 5, 2) := by decide +kernel
theorem dX6_mask_10 : decode cX6_mask 10 = .ok (.ifnonnull 5, 3) := by decide +kernel
theorem dX6_mask_13 : decode cX6_mask 13 = .ok (.iconst (-1), 1) := by decide +kernel
theorem dX6_mask_14 : decode cX6_mask 14 = .ok (.ireturn, 1) := by decide +kernel
theorem dX6_mask_15 : decode cX6_mask 15 = .ok (.aload 5, 2) := by decide +kernel
theorem dX6_mask_17 : decode cX6_mask 17 = .ok (.getfield 103, 3) := by decide +kernel
theorem dX6_mask_20 : decode cX6_mask 20 = .ok (.iload_n 3, 1) := by decide +kernel
theorem dX6_mask_21 : decode cX6_mask 21 = .ok (.invokestatic 111, 3) := by decide +kernel
theorem dX6_mask_24 : decode cX6_mask 24 = .ok (.ifCond .eq 12, 3) := by decide +kernel
theorem dX6_mask_27 : decode cX6_mask 27 = .ok (.iload_n 3, 1) := by decide +kernel
theorem dX6_mask_28 : decode cX6_mask 28 = .ok (.iload 4, 2) := by decide +kernel
theorem dX6_mask_30 : decode cX6_mask 30 = .ok (.invokestatic 115, 3) := by decide +kernel
theorem dX6_mask_33 : decode cX6_mask 33 = .ok (.ifCond .ne 6, 3) := by decide +kernel
theorem dX6_mask_36 : decode cX6_mask 36 = .ok (.bipush (-2), 2) := by decide +kernel
theorem dX6_mask_38 : decode cX6_mask 38 = .ok (.ireturn, 1) := by decide +kernel
theorem dX6_mask_39 : decode cX6_mask 39 = .ok (.aload 5, 2) := by decide +kernel
theorem dX6_mask_41 : decode cX6_mask 41 = .ok (.iload_n 3, 1) := by decide +kernel
theorem dX6_mask_42 : decode cX6_mask 42 = .ok (.putfield 118, 3) := by decide +kernel
theorem dX6_mask_45 : decode cX6_mask 45 = .ok (.aload 5, 2) := by decide +kernel
theorem dX6_mask_47 : decode cX6_mask 47 = .ok (.iload 4, 2) := by decide +kernel
theorem dX6_mask_49 : decode cX6_mask 49 = .ok (.putfield 121, 3) := by decide +kernel
theorem dX6_mask_52 : decode cX6_mask 52 = .ok (.iconst 0, 1) := by decide +kernel
theorem dX6_mask_53 : decode cX6_mask 53 = .ok (.ireturn, 1) := by decide +kernel
theorem dX6_dial_0 : decode cX6_dial 0 = .ok (.aload_n 0, 1) := by decide +kernel
theorem dX6_dial_1 : decode cX6_dial 1 = .ok (.iload_n 1, 1) := by decide +kernel
theorem dX6_dial_2 : decode cX6_dial 2 = .ok (.invokevirtual 73, 3) := by decide +kernel
theorem dX6_dial_5 : decode cX6_dial 5 = .ok (.astore 6, 2) := by decide +kernel
theorem dX6_dial_7 : decode cX6_dial 7 = .ok (.aload_n 0, 1) := by decide +kernel
theorem dX6_dial_8 : decode cX6_dial 8 = .ok (.iload_n 1, 1) := by decide +kernel
theorem dX6_dial_9 : decode cX6_dial 9 = .ok (.iload_n 2, 1) := by decide +kernel
theorem dX6_dial_10 : decode cX6_dial 10 = .ok (.invokevirtual 99, 3) := by decide +kernel
theorem dX6_dial_13 : decode cX6_dial 13 = .ok (.astore 7, 2) := by decide +kernel
theorem dX6_dial_15 : decode cX6_dial 15 = .ok (.aload 6, 2) := by decide +kernel
theorem dX6_dial_17 : decode cX6_dial 17 = .ok (.ifnull 8, 3) := by decide +kernel
theorem dX6_dial_20 : decode cX6_dial 20 = .ok (.aload 7, 2) := by decide +kernel
theorem dX6_dial_22 : decode cX6_dial 22 = .ok (.ifnonnull 5, 3) := by decide +kernel
theorem dX6_dial_25 : decode cX6_dial 25 = .ok (.iconst (-1), 1) := by decide +kernel
theorem dX6_dial_26 : decode cX6_dial 26 = .ok (.ireturn, 1) := by decide +kernel
theorem dX6_dial_27 : decode cX6_dial 27 = .ok (.aload 7, 2) := by decide +kernel
theorem dX6_dial_29 : decode cX6_dial 29 = .ok (.getfield 103, 3) := by decide +kernel
theorem dX6_dial_32 : decode cX6_dial 32 = .ok (.ifCond .ne 14, 3) := by decide +kernel
theorem dX6_dial_35 : decode cX6_dial 35 = .ok (.aload 6, 2) := by decide +kernel
theorem dX6_dial_37 : decode cX6_dial 37 = .ok (.iload_n 3, 1) := by decide +kernel
theorem dX6_dial_38 : decode cX6_dial 38 = .ok (.iload 4, 2) := by decide +kernel
theorem dX6_dial_40 : decode cX6_dial 40 = .ok (.iload 5, 2) := by decide +kernel
theorem dX6_dial_42 : decode cX6_dial 42 = .ok (.invokestatic 124, 3) := by decide +kernel
theorem dX6_dial_45 : decode cX6_dial 45 = .ok (.ireturn, 1) := by decide +kernel
theorem dX6_dial_46 : decode cX6_dial 46 = .ok (.aload 7, 2) := by decide +kernel
theorem dX6_dial_48 : decode cX6_dial 48 = .ok (.getfield 103, 3) := by decide +kernel
theorem dX6_dial_51 : decode cX6_dial 51 = .ok (.iconst 4, 1) := by decide +kernel
theorem dX6_dial_52 : decode cX6_dial 52 = .ok (.if_icmp .ne 7, 3) := by decide +kernel
theorem dX6_dial_55 : decode cX6_dial 55 = .ok (.iload_n 3, 1) := by decide +kernel
theorem dX6_dial_56 : decode cX6_dial 56 = .ok (.ifCond .eq 5, 3) := by decide +kernel
theorem dX6_dial_59 : decode cX6_dial 59 = .ok (.iconst (-1), 1) := by decide +kernel
theorem dX6_dial_60 : decode cX6_dial 60 = .ok (.ireturn, 1) := by decide +kernel
theorem dX6_dial_61 : decode cX6_dial 61 = .ok (.iload 4, 2) := by decide +kernel
theorem dX6_dial_63 : decode cX6_dial 63 = .ok (.iconst 1, 1) := by decide +kernel
theorem dX6_dial_64 : decode cX6_dial 64 = .ok (.if_icmp .lt 36, 3) := by decide +kernel
theorem dX6_dial_67 : decode cX6_dial 67 = .ok (.iload 4, 2) := by decide +kernel
theorem dX6_dial_69 : decode cX6_dial 69 = .ok (.bipush 99, 2) := by decide +kernel
theorem dX6_dial_71 : decode cX6_dial 71 = .ok (.if_icmp .gt 29, 3) := by decide +kernel
theorem dX6_dial_74 : decode cX6_dial 74 = .ok (.iload 4, 2) := by decide +kernel
theorem dX6_dial_76 : decode cX6_dial 76 = .ok (.iconst 2, 1) := by decide +kernel
theorem dX6_dial_77 : decode cX6_dial 77 = .ok (.irem, 1) := by decide +kernel
theorem dX6_dial_78 : decode cX6_dial 78 = .ok (.ifCond .eq 22, 3) := by decide +kernel
theorem dX6_dial_81 : decode cX6_dial 81 = .ok (.iload 4, 2) := by decide +kernel
theorem dX6_dial_83 : decode cX6_dial 83 = .ok (.iconst 5, 1) := by decide +kernel
theorem dX6_dial_84 : decode cX6_dial 84 = .ok (.irem, 1) := by decide +kernel
theorem dX6_dial_85 : decode cX6_dial 85 = .ok (.ifCond .eq 15, 3) := by decide +kernel
theorem dX6_dial_88 : decode cX6_dial 88 = .ok (.iload 5, 2) := by decide +kernel
theorem dX6_dial_90 : decode cX6_dial 90 = .ok (.ifCond .lt 10, 3) := by decide +kernel
theorem dX6_dial_93 : decode cX6_dial 93 = .ok (.iload 5, 2) := by decide +kernel
theorem dX6_dial_95 : decode cX6_dial 95 = .ok (.bipush 99, 2) := by decide +kernel
theorem dX6_dial_97 : decode cX6_dial 97 = .ok (.if_icmp .le 6, 3) := by decide +kernel
theorem dX6_dial_100 : decode cX6_dial 100 = .ok (.bipush (-2), 2) := by decide +kernel
theorem dX6_dial_102 : decode cX6_dial 102 = .ok (.ireturn, 1) := by decide +kernel
theorem dX6_dial_103 : decode cX6_dial 103 = .ok (.aload 7, 2) := by decide +kernel
theorem dX6_dial_105 : decode cX6_dial 105 = .ok (.iload 4, 2) := by decide +kernel
theorem dX6_dial_107 : decode cX6_dial 107 = .ok (.putfield 128, 3) := by decide +kernel
theorem dX6_dial_110 : decode cX6_dial 110 = .ok (.aload 7, 2) := by decide +kernel
theorem dX6_dial_112 : decode cX6_dial 112 = .ok (.iload 5, 2) := by decide +kernel
theorem dX6_dial_114 : decode cX6_dial 114 = .ok (.putfield 131, 3) := by decide +kernel
theorem dX6_dial_117 : decode cX6_dial 117 = .ok (.iconst 0, 1) := by decide +kernel
theorem dX6_dial_118 : decode cX6_dial 118 = .ok (.ireturn, 1) := by decide +kernel
theorem dX6_seed_0 : decode cX6_seed 0 = .ok (.iload_n 1, 1) := by decide +kernel
theorem dX6_seed_1 : decode cX6_seed 1 = .ok (.ifCond .lt 9, 3) := by decide +kernel
theorem dX6_seed_4 : decode cX6_seed 4 = .ok (.iload_n 1, 1) := by decide +kernel
theorem dX6_seed_5 : decode cX6_seed 5 = .ok (.bipush 60, 2) := by decide +kernel
theorem dX6_seed_7 : decode cX6_seed 7 = .ok (.if_icmp .le 6, 3) := by decide +kernel
theorem dX6_seed_10 : decode cX6_seed 10 = .ok (.bipush (-2), 2) := by decide +kernel
theorem dX6_seed_12 : decode cX6_seed 12 = .ok (.ireturn, 1) := by decide +kernel
theorem dX6_seed_13 : decode cX6_seed 13 = .ok (.aload_n 0, 1) := by decide +kernel
theorem dX6_seed_14 : decode cX6_seed 14 = .ok (.getfield 64, 3) := by decide +kernel
theorem dX6_seed_17 : decode cX6_seed 17 = .ok (.istore_n 2, 1) := by decide +kernel
theorem dX6_seed_18 : decode cX6_seed 18 = .ok (.aload_n 0, 1) := by decide +kernel
theorem dX6_seed_19 : decode cX6_seed 19 = .ok (.iload_n 1, 1) := by decide +kernel
theorem dX6_seed_20 : decode cX6_seed 20 = .ok (.putfield 64, 3) := by decide +kernel
theorem dX6_seed_23 : decode cX6_seed 23 = .ok (.iload_n 2, 1) := by decide +kernel
theorem dX6_seed_24 : decode cX6_seed 24 = .ok (.ireturn, 1) := by decide +kernel
theorem dX6_order_0 : decode cX6_order 0 = .ok (.aload_n 0, 1) := by decide +kernel
theorem dX6_order_1 : decode cX6_order 1 = .ok (.iload_n 1, 1) := by decide +kernel
theorem dX6_order_2 : decode cX6_order 2 = .ok (.iload_n 2, 1) := by decide +kernel
theorem dX6_order_3 : decode cX6_order 3 = .ok (.invokevirtual 99, 3) := by decide +kernel
theorem dX6_order_6 : decode cX6_order 6 = .ok (.astore 4, 2) := by decide +kernel
theorem dX6_order_8 : decode cX6_order 8 = .ok (.aload_n 0, 1) := by decide +kernel
theorem dX6_order_9 : decode cX6_order 9 = .ok (.iload_n 1, 1) := by decide +kernel
theorem dX6_order_10 : decode cX6_order 10 = .ok (.iload_n 3, 1) := by decide +kernel
theorem dX6_order_11 : decode cX6_order 11 = .ok (.invokevirtual 99, 3) := by decide +kernel
theorem dX6_order_14 : decode cX6_order 14 = .ok (.astore 5, 2) := by decide +kernel
theorem dX6_order_16 : decode cX6_order 16 = .ok (.aload 4, 2) := by decide +kernel
theorem dX6_order_18 : decode cX6_order 18 = .ok (.ifnull 8, 3) := by decide +kernel
theorem dX6_order_21 : decode cX6_order 21 = .ok (.aload 5, 2) := by decide +kernel
theorem dX6_order_23 : decode cX6_order 23 = .ok (.ifnonnull 5, 3) := by decide +kernel
theorem dX6_order_26 : decode cX6_order 26 = .ok (.iconst (-1), 1) := by decide +kernel
theorem dX6_order_27 : decode cX6_order 27 = .ok (.ireturn, 1) := by decide +kernel
theorem dX6_order_28 : decode cX6_order 28 = .ok (.iload_n 2, 1) := by decide +kernel
theorem dX6_order_29 : decode cX6_order 29 = .ok (.iload_n 3, 1) := by decide +kernel
theorem dX6_order_30 : decode cX6_order 30 = .ok (.if_icmp .eq 21, 3) := by decide +kernel
theorem dX6_order_33 : decode cX6_order 33 = .ok (.aload 4, 2) := by decide +kernel
theorem dX6_order_35 : decode cX6_order 35 = .ok (.getfield 103, 3) := by decide +kernel
theorem dX6_order_38 : decode cX6_order 38 = .ok (.iconst 2, 1) := by decide +kernel
theorem dX6_order_39 : decode cX6_order 39 = .ok (.if_icmp .ne 12, 3) := by decide +kernel
theorem dX6_order_42 : decode cX6_order 42 = .ok (.aload 5, 2) := by decide +kernel
theorem dX6_order_44 : decode cX6_order 44 = .ok (.getfield 103, 3) := by decide +kernel
theorem dX6_order_47 : decode cX6_order 47 = .ok (.iconst 2, 1) := by decide +kernel
theorem dX6_order_48 : decode cX6_order 48 = .ok (.if_icmp .eq 6, 3) := by decide +kernel
theorem dX6_order_51 : decode cX6_order 51 = .ok (.bipush (-2), 2) := by decide +kernel
theorem dX6_order_53 : decode cX6_order 53 = .ok (.ireturn, 1) := by decide +kernel
theorem dX6_order_54 : decode cX6_order 54 = .ok (.aload_n 0, 1) := by decide +kernel
theorem dX6_order_55 : decode cX6_order 55 = .ok (.invokevirtual 134, 3) := by decide +kernel
theorem dX6_order_58 : decode cX6_order 58 = .ok (.astore 6, 2) := by decide +kernel
theorem dX6_order_60 : decode cX6_order 60 = .ok (.aload 6, 2) := by decide +kernel
theorem dX6_order_62 : decode cX6_order 62 = .ok (.ifnonnull 6, 3) := by decide +kernel
theorem dX6_order_65 : decode cX6_order 65 = .ok (.bipush (-4), 2) := by decide +kernel
theorem dX6_order_67 : decode cX6_order 67 = .ok (.ireturn, 1) := by decide +kernel
theorem dX6_order_68 : decode cX6_order 68 = .ok (.aload 6, 2) := by decide +kernel
theorem dX6_order_70 : decode cX6_order 70 = .ok (.iload_n 1, 1) := by decide +kernel
theorem dX6_order_71 : decode cX6_order 71 = .ok (.iload_n 2, 1) := by decide +kernel
theorem dX6_order_72 : decode cX6_order 72 = .ok (.iload_n 3, 1) := by decide +kernel
theorem dX6_order_73 : decode cX6_order 73 = .ok (.invokevirtual 138, 3) := by decide +kernel
theorem dX6_order_76 : decode cX6_order 76 = .ok (.aload_n 0, 1) := by decide +kernel
theorem dX6_order_77 : decode cX6_order 77 = .ok (.invokevirtual 142, 3) := by decide +kernel
theorem dX6_order_80 : decode cX6_order 80 = .ok (.ireturn, 1) := by decide +kernel
theorem dX6_agree_0 : decode cX6_agree 0 = .ok (.aload_n 0, 1) := by decide +kernel
theorem dX6_agree_1 : decode cX6_agree 1 = .ok (.iload_n 1, 1) := by decide +kernel
theorem dX6_agree_2 : decode cX6_agree 2 = .ok (.iload_n 2, 1) := by decide +kernel
theorem dX6_agree_3 : decode cX6_agree 3 = .ok (.invokevirtual 99, 3) := by decide +kernel
theorem dX6_agree_6 : decode cX6_agree 6 = .ok (.astore 7, 2) := by decide +kernel
theorem dX6_agree_8 : decode cX6_agree 8 = .ok (.aload_n 0, 1) := by decide +kernel
theorem dX6_agree_9 : decode cX6_agree 9 = .ok (.iload_n 3, 1) := by decide +kernel
theorem dX6_agree_10 : decode cX6_agree 10 = .ok (.iload 4, 2) := by decide +kernel
theorem dX6_agree_12 : decode cX6_agree 12 = .ok (.invokevirtual 99, 3) := by decide +kernel
theorem dX6_agree_15 : decode cX6_agree 15 = .ok (.astore 8, 2) := by decide +kernel
theorem dX6_agree_17 : decode cX6_agree 17 = .ok (.aload_n 0, 1) := by decide +kernel
theorem dX6_agree_18 : decode cX6_agree 18 = .ok (.iload_n 3, 1) := by decide +kernel
theorem dX6_agree_19 : decode cX6_agree 19 = .ok (.iload 5, 2) := by decide +kernel
theorem dX6_agree_21 : decode cX6_agree 21 = .ok (.invokevirtual 99, 3) := by decide +kernel
theorem dX6_agree_24 : decode cX6_agree 24 = .ok (.astore 9, 2) := by decide +kernel
theorem dX6_agree_26 : decode cX6_agree 26 = .ok (.aload 7, 2) := by decide +kernel
theorem dX6_agree_28 : decode cX6_agree 28 = .ok (.ifnull 13, 3) := by decide +kernel
theorem dX6_agree_31 : decode cX6_agree 31 = .ok (.aload 8, 2) := by decide +kernel
theorem dX6_agree_33 : decode cX6_agree 33 = .ok (.ifnull 8, 3) := by decide +kernel
theorem dX6_agree_36 : decode cX6_agree 36 = .ok (.aload 9, 2) := by decide +kernel
theorem dX6_agree_38 : decode cX6_agree 38 = .ok (.ifnonnull 5, 3) := by decide +kernel
theorem dX6_agree_41 : decode cX6_agree 41 = .ok (.iconst (-1), 1) := by decide +kernel
theorem dX6_agree_42 : decode cX6_agree 42 = .ok (.ireturn, 1) := by decide +kernel
theorem dX6_agree_43 : decode cX6_agree 43 = .ok (.aload 7, 2) := by decide +kernel
theorem dX6_agree_45 : decode cX6_agree 45 = .ok (.getfield 103, 3) := by decide +kernel
theorem dX6_agree_48 : decode cX6_agree 48 = .ok (.iconst 3, 1) := by decide +kernel
theorem dX6_agree_49 : decode cX6_agree 49 = .ok (.if_icmp .ne 30, 3) := by decide +kernel
theorem dX6_agree_52 : decode cX6_agree 52 = .ok (.aload 8, 2) := by decide +kernel
theorem dX6_agree_54 : decode cX6_agree 54 = .ok (.getfield 103, 3) := by decide +kernel
theorem dX6_agree_57 : decode cX6_agree 57 = .ok (.iconst 3, 1) := by decide +kernel
theorem dX6_agree_58 : decode cX6_agree 58 = .ok (.if_icmp .ne 21, 3) := by decide +kernel
theorem dX6_agree_61 : decode cX6_agree 61 = .ok (.aload 9, 2) := by decide +kernel
theorem dX6_agree_63 : decode cX6_agree 63 = .ok (.getfield 103, 3) := by decide +kernel
theorem dX6_agree_66 : decode cX6_agree 66 = .ok (.iconst 1, 1) := by decide +kernel
theorem dX6_agree_67 : decode cX6_agree 67 = .ok (.if_icmp .ne 12, 3) := by decide +kernel
theorem dX6_agree_70 : decode cX6_agree 70 = .ok (.aload 9, 2) := by decide +kernel
theorem dX6_agree_72 : decode cX6_agree 72 = .ok (.getfield 146, 3) := by decide +kernel
theorem dX6_agree_75 : decode cX6_agree 75 = .ok (.iload_n 1, 1) := by decide +kernel
theorem dX6_agree_76 : decode cX6_agree 76 = .ok (.if_icmp .eq 6, 3) := by decide +kernel
theorem dX6_agree_79 : decode cX6_agree 79 = .ok (.bipush (-2), 2) := by decide +kernel
theorem dX6_agree_81 : decode cX6_agree 81 = .ok (.ireturn, 1) := by decide +kernel
theorem dX6_agree_82 : decode cX6_agree 82 = .ok (.iload_n 1, 1) := by decide +kernel
theorem dX6_agree_83 : decode cX6_agree 83 = .ok (.iload_n 3, 1) := by decide +kernel
theorem dX6_agree_84 : decode cX6_agree 84 = .ok (.if_icmp .eq 11, 3) := by decide +kernel
theorem dX6_agree_87 : decode cX6_agree 87 = .ok (.iload 6, 2) := by decide +kernel
theorem dX6_agree_89 : decode cX6_agree 89 = .ok (.invokestatic 149, 3) := by decide +kernel
theorem dX6_agree_92 : decode cX6_agree 92 = .ok (.ifCond .ne 6, 3) := by decide +kernel
theorem dX6_agree_95 : decode cX6_agree 95 = .ok (.bipush (-2), 2) := by decide +kernel
theorem dX6_agree_97 : decode cX6_agree 97 = .ok (.ireturn, 1) := by decide +kernel
theorem dX6_agree_98 : decode cX6_agree 98 = .ok (.aload_n 0, 1) := by decide +kernel
theorem dX6_agree_99 : decode cX6_agree 99 = .ok (.invokevirtual 134, 3) := by decide +kernel
theorem dX6_agree_102 : decode cX6_agree 102 = .ok (.astore 10, 2) := by decide +kernel
theorem dX6_agree_104 : decode cX6_agree 104 = .ok (.aload 10, 2) := by decide +kernel
theorem dX6_agree_106 : decode cX6_agree 106 = .ok (.ifnonnull 6, 3) := by decide +kernel
theorem dX6_agree_109 : decode cX6_agree 109 = .ok (.bipush (-4), 2) := by decide +kernel
theorem dX6_agree_111 : decode cX6_agree 111 = .ok (.ireturn, 1) := by decide +kernel
theorem dX6_agree_112 : decode cX6_agree 112 = .ok (.aload 10, 2) := by decide +kernel
theorem dX6_agree_114 : decode cX6_agree 114 = .ok (.iload_n 1, 1) := by decide +kernel
theorem dX6_agree_115 : decode cX6_agree 115 = .ok (.iload_n 2, 1) := by decide +kernel
theorem dX6_agree_116 : decode cX6_agree 116 = .ok (.iload_n 3, 1) := by decide +kernel
theorem dX6_agree_117 : decode cX6_agree 117 = .ok (.iload 4, 2) := by decide +kernel
theorem dX6_agree_119 : decode cX6_agree 119 = .ok (.iload 5, 2) := by decide +kernel
theorem dX6_agree_121 : decode cX6_agree 121 = .ok (.iload 6, 2) := by decide +kernel
theorem dX6_agree_123 : decode cX6_agree 123 = .ok (.iconst 1, 1) := by decide +kernel
theorem dX6_agree_124 : decode cX6_agree 124 = .ok (.if_icmp .ne 7, 3) := by decide +kernel
theorem dX6_agree_127 : decode cX6_agree 127 = .ok (.iconst 1, 1) := by decide +kernel
theorem dX6_agree_128 : decode cX6_agree 128 = .ok (.goto 4, 3) := by decide +kernel
theorem dX6_agree_131 : decode cX6_agree 131 = .ok (.iconst 0, 1) := by decide +kernel
theorem dX6_agree_132 : decode cX6_agree 132 = .ok (.invokevirtual 153, 3) := by decide +kernel
theorem dX6_agree_135 : decode cX6_agree 135 = .ok (.aload_n 0, 1) := by decide +kernel
theorem dX6_agree_136 : decode cX6_agree 136 = .ok (.invokevirtual 142, 3) := by decide +kernel
theorem dX6_agree_139 : decode cX6_agree 139 = .ok (.ireturn, 1) := by decide +kernel
theorem dX6_found_0 : decode cX6_found 0 = .ok (.aload_n 0, 1) := by decide +kernel
theorem dX6_found_1 : decode cX6_found 1 = .ok (.iload_n 1, 1) := by decide +kernel
theorem dX6_found_2 : decode cX6_found 2 = .ok (.iload_n 2, 1) := by decide +kernel
theorem dX6_found_3 : decode cX6_found 3 = .ok (.invokevirtual 99, 3) := by decide +kernel
theorem dX6_found_6 : decode cX6_found 6 = .ok (.astore_n 3, 1) := by decide +kernel
theorem dX6_found_7 : decode cX6_found 7 = .ok (.aload_n 3, 1) := by decide +kernel
theorem dX6_found_8 : decode cX6_found 8 = .ok (.ifnonnull 5, 3) := by decide +kernel
theorem dX6_found_11 : decode cX6_found 11 = .ok (.iconst (-1), 1) := by decide +kernel
theorem dX6_found_12 : decode cX6_found 12 = .ok (.ireturn, 1) := by decide +kernel
theorem dX6_found_13 : decode cX6_found 13 = .ok (.aload_n 3, 1) := by decide +kernel
theorem dX6_found_14 : decode cX6_found 14 = .ok (.getfield 103, 3) := by decide +kernel
theorem dX6_found_17 : decode cX6_found 17 = .ok (.iconst 1, 1) := by decide +kernel
theorem dX6_found_18 : decode cX6_found 18 = .ok (.if_icmp .eq 6, 3) := by decide +kernel
theorem dX6_found_21 : decode cX6_found 21 = .ok (.bipush (-2), 2) := by decide +kernel
theorem dX6_found_23 : decode cX6_found 23 = .ok (.ireturn, 1) := by decide +kernel
theorem dX6_found_24 : decode cX6_found 24 = .ok (.aload_n 0, 1) := by decide +kernel
theorem dX6_found_25 : decode cX6_found 25 = .ok (.invokevirtual 134, 3) := by decide +kernel
theorem dX6_found_28 : decode cX6_found 28 = .ok (.astore 4, 2) := by decide +kernel
theorem dX6_found_30 : decode cX6_found 30 = .ok (.aload 4, 2) := by decide +kernel
theorem dX6_found_32 : decode cX6_found 32 = .ok (.ifnonnull 6, 3) := by decide +kernel
theorem dX6_found_35 : decode cX6_found 35 = .ok (.bipush (-4), 2) := by decide +kernel
theorem dX6_found_37 : decode cX6_found 37 = .ok (.ireturn, 1) := by decide +kernel
theorem dX6_found_38 : decode cX6_found 38 = .ok (.aload 4, 2) := by decide +kernel
theorem dX6_found_40 : decode cX6_found 40 = .ok (.iload_n 1, 1) := by decide +kernel
theorem dX6_found_41 : decode cX6_found 41 = .ok (.iload_n 2, 1) := by decide +kernel
theorem dX6_found_42 : decode cX6_found 42 = .ok (.invokevirtual 157, 3) := by decide +kernel
theorem dX6_found_45 : decode cX6_found 45 = .ok (.aload_n 0, 1) := by decide +kernel
theorem dX6_found_46 : decode cX6_found 46 = .ok (.invokevirtual 142, 3) := by decide +kernel
theorem dX6_found_49 : decode cX6_found 49 = .ok (.ireturn, 1) := by decide +kernel
theorem dX6_unrule_0 : decode cX6_unrule 0 = .ok (.aload_n 0, 1) := by decide +kernel
theorem dX6_unrule_1 : decode cX6_unrule 1 = .ok (.getfield 58, 3) := by decide +kernel
theorem dX6_unrule_4 : decode cX6_unrule 4 = .ok (.istore_n 1, 1) := by decide +kernel
theorem dX6_unrule_5 : decode cX6_unrule 5 = .ok (.aload_n 0, 1) := by decide +kernel
theorem dX6_unrule_6 : decode cX6_unrule 6 = .ok (.iconst 0, 1) := by decide +kernel
theorem dX6_unrule_7 : decode cX6_unrule 7 = .ok (.putfield 58, 3) := by decide +kernel
theorem dX6_unrule_10 : decode cX6_unrule 10 = .ok (.iload_n 1, 1) := by decide +kernel
theorem dX6_unrule_11 : decode cX6_unrule 11 = .ok (.ireturn, 1) := by decide +kernel
theorem dX6_broken_0 : decode cX6_broken 0 = .ok (.iload_n 1, 1) := by decide +kernel
theorem dX6_broken_1 : decode cX6_broken 1 = .ok (.invokestatic 149, 3) := by decide +kernel
theorem dX6_broken_4 : decode cX6_broken 4 = .ok (.ifCond .ne 6, 3) := by decide +kernel
theorem dX6_broken_7 : decode cX6_broken 7 = .ok (.bipush (-2), 2) := by decide +kernel
theorem dX6_broken_9 : decode cX6_broken 9 = .ok (.ireturn, 1) := by decide +kernel
theorem dX6_broken_10 : decode cX6_broken 10 = .ok (.aload_n 0, 1) := by decide +kernel
theorem dX6_broken_11 : decode cX6_broken 11 = .ok (.iload_n 1, 1) := by decide +kernel
theorem dX6_broken_12 : decode cX6_broken 12 = .ok (.invokevirtual 161, 3) := by decide +kernel
theorem dX6_broken_15 : decode cX6_broken 15 = .ok (.astore_n 2, 1) := by decide +kernel
theorem dX6_broken_16 : decode cX6_broken 16 = .ok (.aload_n 2, 1) := by decide +kernel
theorem dX6_broken_17 : decode cX6_broken 17 = .ok (.ifnonnull 8, 3) := by decide +kernel
theorem dX6_broken_20 : decode cX6_broken 20 = .ok (.bipush (-3), 2) := by decide +kernel
theorem dX6_broken_22 : decode cX6_broken 22 = .ok (.goto 8, 3) := by decide +kernel
theorem dX6_broken_25 : decode cX6_broken 25 = .ok (.aload_n 0, 1) := by decide +kernel
theorem dX6_broken_26 : decode cX6_broken 26 = .ok (.aload_n 2, 1) := by decide +kernel
theorem dX6_broken_27 : decode cX6_broken 27 = .ok (.invokevirtual 165, 3) := by decide +kernel
theorem dX6_broken_30 : decode cX6_broken 30 = .ok (.ireturn, 1) := by decide +kernel
theorem dX6_make_0 : decode cX6_make 0 = .ok (.iconst 0, 1) := by decide +kernel
theorem dX6_make_1 : decode cX6_make 1 = .ok (.istore_n 1, 1) := by decide +kernel
theorem dX6_make_2 : decode cX6_make 2 = .ok (.iload_n 1, 1) := by decide +kernel
theorem dX6_make_3 : decode cX6_make 3 = .ok (.aload_n 0, 1) := by decide +kernel
theorem dX6_make_4 : decode cX6_make 4 = .ok (.getfield 54, 3) := by decide +kernel
theorem dX6_make_7 : decode cX6_make 7 = .ok (.if_icmp .ge 14, 3) := by decide +kernel
theorem dX6_make_10 : decode cX6_make 10 = .ok (.aload_n 0, 1) := by decide +kernel
theorem dX6_make_11 : decode cX6_make 11 = .ok (.iload_n 1, 1) := by decide +kernel
theorem dX6_make_12 : decode cX6_make 12 = .ok (.invokevirtual 169, 3) := by decide +kernel
theorem dX6_make_15 : decode cX6_make 15 = .ok (.iinc 1 1, 3) := by decide +kernel
theorem dX6_make_18 : decode cX6_make 18 = .ok (.goto (-16), 3) := by decide +kernel
theorem dX6_make_21 : decode cX6_make 21 = .ok (.aload_n 0, 1) := by decide +kernel
theorem dX6_make_22 : decode cX6_make 22 = .ok (.invokevirtual 173, 3) := by decide +kernel
theorem dX6_make_25 : decode cX6_make 25 = .ok (.aload_n 0, 1) := by decide +kernel
theorem dX6_make_26 : decode cX6_make 26 = .ok (.aload_n 0, 1) := by decide +kernel
theorem dX6_make_27 : decode cX6_make 27 = .ok (.getfield 51, 3) := by decide +kernel
theorem dX6_make_30 : decode cX6_make 30 = .ok (.invokevirtual 165, 3) := by decide +kernel
theorem dX6_make_33 : decode cX6_make 33 = .ok (.istore_n 1, 1) := by decide +kernel
theorem dX6_make_34 : decode cX6_make 34 = .ok (.iload_n 1, 1) := by decide +kernel
theorem dX6_make_35 : decode cX6_make 35 = .ok (.bipush 100, 2) := by decide +kernel
theorem dX6_make_37 : decode cX6_make 37 = .ok (.if_icmp .ne 26, 3) := by decide +kernel
theorem dX6_make_40 : decode cX6_make 40 = .ok (.aload_n 0, 1) := by decide +kernel
theorem dX6_make_41 : decode cX6_make 41 = .ok (.getfield 48, 3) := by decide +kernel
theorem dX6_make_44 : decode cX6_make 44 = .ok (.astore_n 2, 1) := by decide +kernel
theorem dX6_make_45 : decode cX6_make 45 = .ok (.aload_n 0, 1) := by decide +kernel
theorem dX6_make_46 : decode cX6_make 46 = .ok (.aload_n 0, 1) := by decide +kernel
theorem dX6_make_47 : decode cX6_make 47 = .ok (.getfield 51, 3) := by decide +kernel
theorem dX6_make_50 : decode cX6_make 50 = .ok (.putfield 48, 3) := by decide +kernel
theorem dX6_make_53 : decode cX6_make 53 = .ok (.aload_n 0, 1) := by decide +kernel
theorem dX6_make_54 : decode cX6_make 54 = .ok (.aload_n 2, 1) := by decide +kernel
theorem dX6_make_55 : decode cX6_make 55 = .ok (.putfield 51, 3) := by decide +kernel
theorem dX6_make_58 : decode cX6_make 58 = .ok (.aload_n 0, 1) := by decide +kernel
theorem dX6_make_59 : decode cX6_make 59 = .ok (.iconst 1, 1) := by decide +kernel
theorem dX6_make_60 : decode cX6_make 60 = .ok (.putfield 67, 3) := by decide +kernel
theorem dX6_make_63 : decode cX6_make 63 = .ok (.iload_n 1, 1) := by decide +kernel
theorem dX6_make_64 : decode cX6_make 64 = .ok (.ireturn, 1) := by decide +kernel
theorem dX6_at_0 : decode cX6_at 0 = .ok (.iload 4, 2) := by decide +kernel
theorem dX6_at_2 : decode cX6_at 2 = .ok (.invokestatic 149, 3) := by decide +kernel
theorem dX6_at_5 : decode cX6_at 5 = .ok (.ifCond .eq 21, 3) := by decide +kernel
theorem dX6_at_8 : decode cX6_at 8 = .ok (.aload_n 0, 1) := by decide +kernel
theorem dX6_at_9 : decode cX6_at 9 = .ok (.iload_n 1, 1) := by decide +kernel
theorem dX6_at_10 : decode cX6_at 10 = .ok (.iload_n 2, 1) := by decide +kernel
theorem dX6_at_11 : decode cX6_at 11 = .ok (.invokevirtual 176, 3) := by decide +kernel
theorem dX6_at_14 : decode cX6_at 14 = .ok (.ifCond .eq 12, 3) := by decide +kernel
theorem dX6_at_17 : decode cX6_at 17 = .ok (.aload_n 0, 1) := by decide +kernel
theorem dX6_at_18 : decode cX6_at 18 = .ok (.iload_n 1, 1) := by decide +kernel
theorem dX6_at_19 : decode cX6_at 19 = .ok (.iload_n 3, 1) := by decide +kernel
theorem dX6_at_20 : decode cX6_at 20 = .ok (.invokevirtual 99, 3) := by decide +kernel
theorem dX6_at_23 : decode cX6_at 23 = .ok (.ifnonnull 6, 3) := by decide +kernel
theorem dX6_at_26 : decode cX6_at 26 = .ok (.ldc 179, 2) := by decide +kernel
theorem dX6_at_28 : decode cX6_at 28 = .ok (.ireturn, 1) := by decide +kernel
theorem dX6_at_29 : decode cX6_at 29 = .ok (.aload_n 0, 1) := by decide +kernel
theorem dX6_at_30 : decode cX6_at 30 = .ok (.iload 4, 2) := by decide +kernel
theorem dX6_at_32 : decode cX6_at 32 = .ok (.invokevirtual 161, 3) := by decide +kernel
theorem dX6_at_35 : decode cX6_at 35 = .ok (.astore 5, 2) := by decide +kernel
theorem dX6_at_37 : decode cX6_at 37 = .ok (.aload 5, 2) := by decide +kernel
theorem dX6_at_39 : decode cX6_at 39 = .ok (.ifnonnull 8, 3) := by decide +kernel
theorem dX6_at_42 : decode cX6_at 42 = .ok (.ldc 179, 2) := by decide +kernel
theorem dX6_at_44 : decode cX6_at 44 = .ok (.goto 11, 3) := by decide +kernel
theorem dX6_at_47 : decode cX6_at 47 = .ok (.aload 5, 2) := by decide +kernel
theorem dX6_at_49 : decode cX6_at 49 = .ok (.iload_n 1, 1) := by decide +kernel
theorem dX6_at_50 : decode cX6_at 50 = .ok (.iload_n 2, 1) := by decide +kernel
theorem dX6_at_51 : decode cX6_at 51 = .ok (.iload_n 3, 1) := by decide +kernel
theorem dX6_at_52 : decode cX6_at 52 = .ok (.invokevirtual 180, 3) := by decide +kernel
theorem dX6_at_55 : decode cX6_at 55 = .ok (.ireturn, 1) := by decide +kernel
theorem dX6_turned_0 : decode cX6_turned 0 = .ok (.aload_n 0, 1) := by decide +kernel
theorem dX6_turned_1 : decode cX6_turned 1 = .ok (.iload_n 1, 1) := by decide +kernel
theorem dX6_turned_2 : decode cX6_turned 2 = .ok (.invokevirtual 73, 3) := by decide +kernel
theorem dX6_turned_5 : decode cX6_turned 5 = .ok (.astore 4, 2) := by decide +kernel
theorem dX6_turned_7 : decode cX6_turned 7 = .ok (.aload_n 0, 1) := by decide +kernel
theorem dX6_turned_8 : decode cX6_turned 8 = .ok (.iload_n 1, 1) := by decide +kernel
theorem dX6_turned_9 : decode cX6_turned 9 = .ok (.iload_n 2, 1) := by decide +kernel
theorem dX6_turned_10 : decode cX6_turned 10 = .ok (.invokevirtual 99, 3) := by decide +kernel
theorem dX6_turned_13 : decode cX6_turned 13 = .ok (.astore 5, 2) := by decide +kernel
theorem dX6_turned_15 : decode cX6_turned 15 = .ok (.aload 4, 2) := by decide +kernel
theorem dX6_turned_17 : decode cX6_turned 17 = .ok (.ifnull 25, 3) := by decide +kernel
theorem dX6_turned_20 : decode cX6_turned 20 = .ok (.aload 5, 2) := by decide +kernel
theorem dX6_turned_22 : decode cX6_turned 22 = .ok (.ifnull 20, 3) := by decide +kernel
theorem dX6_turned_25 : decode cX6_turned 25 = .ok (.aload 5, 2) := by decide +kernel
theorem dX6_turned_27 : decode cX6_turned 27 = .ok (.getfield 103, 3) := by decide +kernel
theorem dX6_turned_30 : decode cX6_turned 30 = .ok (.ifCond .eq 14, 3) := by decide +kernel
theorem dX6_turned_33 : decode cX6_turned 33 = .ok (.aload 5, 2) := by decide +kernel
theorem dX6_turned_35 : decode cX6_turned 35 = .ok (.getfield 103, 3) := by decide +kernel
theorem dX6_turned_38 : decode cX6_turned 38 = .ok (.iconst 4, 1) := by decide +kernel
theorem dX6_turned_39 : decode cX6_turned 39 = .ok (.if_icmp .eq 5, 3) := by decide +kernel
theorem dX6_turned_42 : decode cX6_turned 42 = .ok (.iconst (-1), 1) := by decide +kernel
theorem dX6_turned_43 : decode cX6_turned 43 = .ok (.ireturn, 1) := by decide +kernel
theorem dX6_turned_44 : decode cX6_turned 44 = .ok (.iload_n 3, 1) := by decide +kernel
theorem dX6_turned_45 : decode cX6_turned 45 = .ok (.ldc 179, 2) := by decide +kernel
theorem dX6_turned_47 : decode cX6_turned 47 = .ok (.if_icmp .eq 15, 3) := by decide +kernel
theorem dX6_turned_50 : decode cX6_turned 50 = .ok (.aload 5, 2) := by decide +kernel
theorem dX6_turned_52 : decode cX6_turned 52 = .ok (.getfield 103, 3) := by decide +kernel
theorem dX6_turned_55 : decode cX6_turned 55 = .ok (.iload_n 3, 1) := by decide +kernel
theorem dX6_turned_56 : decode cX6_turned 56 = .ok (.invokestatic 184, 3) := by decide +kernel
theorem dX6_turned_59 : decode cX6_turned 59 = .ok (.ifCond .ne 6, 3) := by decide +kernel
theorem dX6_turned_62 : decode cX6_turned 62 = .ok (.bipush (-2), 2) := by decide +kernel
theorem dX6_turned_64 : decode cX6_turned 64 = .ok (.ireturn, 1) := by decide +kernel
theorem dX6_turned_65 : decode cX6_turned 65 = .ok (.aload 5, 2) := by decide +kernel
theorem dX6_turned_67 : decode cX6_turned 67 = .ok (.getfield 103, 3) := by decide +kernel
theorem dX6_turned_70 : decode cX6_turned 70 = .ok (.ifCond .ne 12, 3) := by decide +kernel
theorem dX6_turned_73 : decode cX6_turned 73 = .ok (.aload 4, 2) := by decide +kernel
theorem dX6_turned_75 : decode cX6_turned 75 = .ok (.iload_n 3, 1) := by decide +kernel
theorem dX6_turned_76 : decode cX6_turned 76 = .ok (.invokevirtual 187, 3) := by decide +kernel
theorem dX6_turned_79 : decode cX6_turned 79 = .ok (.goto 9, 3) := by decide +kernel
theorem dX6_turned_82 : decode cX6_turned 82 = .ok (.aload 5, 2) := by decide +kernel
theorem dX6_turned_84 : decode cX6_turned 84 = .ok (.iload_n 3, 1) := by decide +kernel
theorem dX6_turned_85 : decode cX6_turned 85 = .ok (.invokevirtual 191, 3) := by decide +kernel
theorem dX6_turned_88 : decode cX6_turned 88 = .ok (.ireturn, 1) := by decide +kernel
theorem dX6_shift_0 : decode cX6_shift 0 = .ok (.iload_n 1, 1) := by decide +kernel
theorem dX6_shift_1 : decode cX6_shift 1 = .ok (.invokestatic 194, 3) := by decide +kernel
theorem dX6_shift_4 : decode cX6_shift 4 = .ok (.ifCond .eq 11, 3) := by decide +kernel
theorem dX6_shift_7 : decode cX6_shift 7 = .ok (.aload_n 0, 1) := by decide +kernel
theorem dX6_shift_8 : decode cX6_shift 8 = .ok (.iload_n 1, 1) := by decide +kernel
theorem dX6_shift_9 : decode cX6_shift 9 = .ok (.invokevirtual 197, 3) := by decide +kernel
theorem dX6_shift_12 : decode cX6_shift 12 = .ok (.goto 5, 3) := by decide +kernel
theorem dX6_shift_15 : decode cX6_shift 15 = .ok (.ldc 179, 2) := by decide +kernel
theorem dX6_shift_17 : decode cX6_shift 17 = .ok (.ireturn, 1) := by decide +kernel
theorem dX6_count_0 : decode cX6_count 0 = .ok (.aload_n 0, 1) := by decide +kernel
theorem dX6_count_1 : decode cX6_count 1 = .ok (.iload_n 1, 1) := by decide +kernel
theorem dX6_count_2 : decode cX6_count 2 = .ok (.iload_n 2, 1) := by decide +kernel
theorem dX6_count_3 : decode cX6_count 3 = .ok (.invokevirtual 99, 3) := by decide +kernel
theorem dX6_count_6 : decode cX6_count 6 = .ok (.ifnonnull 5, 3) := by decide +kernel
theorem dX6_count_9 : decode cX6_count 9 = .ok (.iconst (-1), 1) := by decide +kernel
theorem dX6_count_10 : decode cX6_count 10 = .ok (.ireturn, 1) := by decide +kernel
theorem dX6_count_11 : decode cX6_count 11 = .ok (.iload 4, 2) := by decide +kernel
theorem dX6_count_13 : decode cX6_count 13 = .ok (.invokestatic 149, 3) := by decide +kernel
theorem dX6_count_16 : decode cX6_count 16 = .ok (.ifCond .ne 6, 3) := by decide +kernel
theorem dX6_count_19 : decode cX6_count 19 = .ok (.bipush (-2), 2) := by decide +kernel
theorem dX6_count_21 : decode cX6_count 21 = .ok (.ireturn, 1) := by decide +kernel
theorem dX6_count_22 : decode cX6_count 22 = .ok (.aload_n 0, 1) := by decide +kernel
theorem dX6_count_23 : decode cX6_count 23 = .ok (.iload 4, 2) := by decide +kernel
theorem dX6_count_25 : decode cX6_count 25 = .ok (.invokevirtual 161, 3) := by decide +kernel
theorem dX6_count_28 : decode cX6_count 28 = .ok (.astore 5, 2) := by decide +kernel
theorem dX6_count_30 : decode cX6_count 30 = .ok (.aload 5, 2) := by decide +kernel
theorem dX6_count_32 : decode cX6_count 32 = .ok (.ifnonnull 8, 3) := by decide +kernel
theorem dX6_count_35 : decode cX6_count 35 = .ok (.bipush (-3), 2) := by decide +kernel
theorem dX6_count_37 : decode cX6_count 37 = .ok (.goto 12, 3) := by decide +kernel
theorem dX6_count_40 : decode cX6_count 40 = .ok (.aload_n 0, 1) := by decide +kernel
theorem dX6_count_41 : decode cX6_count 41 = .ok (.aload 5, 2) := by decide +kernel
theorem dX6_count_43 : decode cX6_count 43 = .ok (.iload_n 1, 1) := by decide +kernel
theorem dX6_count_44 : decode cX6_count 44 = .ok (.iload_n 2, 1) := by decide +kernel
theorem dX6_count_45 : decode cX6_count 45 = .ok (.iload_n 3, 1) := by decide +kernel
theorem dX6_count_46 : decode cX6_count 46 = .ok (.invokevirtual 91, 3) := by decide +kernel
theorem dX6_count_49 : decode cX6_count 49 = .ok (.ireturn, 1) := by decide +kernel
theorem dX6_joins_0 : decode cX6_joins 0 = .ok (.aload_n 0, 1) := by decide +kernel
theorem dX6_joins_1 : decode cX6_joins 1 = .ok (.iload_n 1, 1) := by decide +kernel
theorem dX6_joins_2 : decode cX6_joins 2 = .ok (.iload_n 2, 1) := by decide +kernel
theorem dX6_joins_3 : decode cX6_joins 3 = .ok (.invokevirtual 99, 3) := by decide +kernel
theorem dX6_joins_6 : decode cX6_joins 6 = .ok (.astore 4, 2) := by decide +kernel
theorem dX6_joins_8 : decode cX6_joins 8 = .ok (.aload 4, 2) := by decide +kernel
theorem dX6_joins_10 : decode cX6_joins 10 = .ok (.ifnonnull 5, 3) := by decide +kernel
theorem dX6_joins_13 : decode cX6_joins 13 = .ok (.iconst (-1), 1) := by decide +kernel
theorem dX6_joins_14 : decode cX6_joins 14 = .ok (.ireturn, 1) := by decide +kernel
theorem dX6_joins_15 : decode cX6_joins 15 = .ok (.aload 4, 2) := by decide +kernel
theorem dX6_joins_17 : decode cX6_joins 17 = .ok (.getfield 103, 3) := by decide +kernel
theorem dX6_joins_20 : decode cX6_joins 20 = .ok (.iconst 1, 1) := by decide +kernel
theorem dX6_joins_21 : decode cX6_joins 21 = .ok (.if_icmp .ne 10, 3) := by decide +kernel
theorem dX6_joins_24 : decode cX6_joins 24 = .ok (.iload_n 3, 1) := by decide +kernel
theorem dX6_joins_25 : decode cX6_joins 25 = .ok (.invokestatic 149, 3) := by decide +kernel
theorem dX6_joins_28 : decode cX6_joins 28 = .ok (.ifCond .ne 6, 3) := by decide +kernel
theorem dX6_joins_31 : decode cX6_joins 31 = .ok (.bipush (-2), 2) := by decide +kernel
theorem dX6_joins_33 : decode cX6_joins 33 = .ok (.ireturn, 1) := by decide +kernel
theorem dX6_joins_34 : decode cX6_joins 34 = .ok (.aload_n 0, 1) := by decide +kernel
theorem dX6_joins_35 : decode cX6_joins 35 = .ok (.iload_n 3, 1) := by decide +kernel
theorem dX6_joins_36 : decode cX6_joins 36 = .ok (.invokevirtual 161, 3) := by decide +kernel
theorem dX6_joins_39 : decode cX6_joins 39 = .ok (.astore 5, 2) := by decide +kernel
theorem dX6_joins_41 : decode cX6_joins 41 = .ok (.aload 5, 2) := by decide +kernel
theorem dX6_joins_43 : decode cX6_joins 43 = .ok (.ifnonnull 6, 3) := by decide +kernel
theorem dX6_joins_46 : decode cX6_joins 46 = .ok (.bipush (-3), 2) := by decide +kernel
theorem dX6_joins_48 : decode cX6_joins 48 = .ok (.ireturn, 1) := by decide +kernel
theorem dX6_joins_49 : decode cX6_joins 49 = .ok (.iconst 0, 1) := by decide +kernel
theorem dX6_joins_50 : decode cX6_joins 50 = .ok (.istore 6, 2) := by decide +kernel
theorem dX6_joins_52 : decode cX6_joins 52 = .ok (.iconst 0, 1) := by decide +kernel
theorem dX6_joins_53 : decode cX6_joins 53 = .ok (.istore 7, 2) := by decide +kernel
theorem dX6_joins_55 : decode cX6_joins 55 = .ok (.iload 7, 2) := by decide +kernel
theorem dX6_joins_57 : decode cX6_joins 57 = .ok (.aload_n 0, 1) := by decide +kernel
theorem dX6_joins_58 : decode cX6_joins 58 = .ok (.iload_n 1, 1) := by decide +kernel
theorem dX6_joins_59 : decode cX6_joins 59 = .ok (.invokevirtual 200, 3) := by decide +kernel
theorem dX6_joins_62 : decode cX6_joins 62 = .ok (.if_icmp .ge 35, 3) := by decide +kernel
theorem dX6_joins_65 : decode cX6_joins 65 = .ok (.iload 6, 2) := by decide +kernel
theorem dX6_joins_67 : decode cX6_joins 67 = .ok (.aload_n 0, 1) := by decide +kernel
theorem dX6_joins_68 : decode cX6_joins 68 = .ok (.aload 5, 2) := by decide +kernel
theorem dX6_joins_70 : decode cX6_joins 70 = .ok (.aload 4, 2) := by decide +kernel
theorem dX6_joins_72 : decode cX6_joins 72 = .ok (.getfield 146, 3) := by decide +kernel
theorem dX6_joins_75 : decode cX6_joins 75 = .ok (.iconst 0, 1) := by decide +kernel
theorem dX6_joins_76 : decode cX6_joins 76 = .ok (.aload 5, 2) := by decide +kernel
theorem dX6_joins_78 : decode cX6_joins 78 = .ok (.iload_n 1, 1) := by decide +kernel
theorem dX6_joins_79 : decode cX6_joins 79 = .ok (.iload 7, 2) := by decide +kernel
theorem dX6_joins_81 : decode cX6_joins 81 = .ok (.iload_n 2, 1) := by decide +kernel
theorem dX6_joins_82 : decode cX6_joins 82 = .ok (.invokevirtual 180, 3) := by decide +kernel
theorem dX6_joins_85 : decode cX6_joins 85 = .ok (.invokevirtual 91, 3) := by decide +kernel
theorem dX6_joins_88 : decode cX6_joins 88 = .ok (.iadd, 1) := by decide +kernel
theorem dX6_joins_89 : decode cX6_joins 89 = .ok (.istore 6, 2) := by decide +kernel
theorem dX6_joins_91 : decode cX6_joins 91 = .ok (.iinc 7 1, 3) := by decide +kernel
theorem dX6_joins_94 : decode cX6_joins 94 = .ok (.goto (-39), 3) := by decide +kernel
theorem dX6_joins_97 : decode cX6_joins 97 = .ok (.iload 6, 2) := by decide +kernel
theorem dX6_joins_99 : decode cX6_joins 99 = .ok (.ireturn, 1) := by decide +kernel
theorem dX6_miss_0 : decode cX6_miss 0 = .ok (.aload_n 0, 1) := by decide +kernel
theorem dX6_miss_1 : decode cX6_miss 1 = .ok (.iload_n 1, 1) := by decide +kernel
theorem dX6_miss_2 : decode cX6_miss 2 = .ok (.iload_n 2, 1) := by decide +kernel
theorem dX6_miss_3 : decode cX6_miss 3 = .ok (.invokevirtual 99, 3) := by decide +kernel
theorem dX6_miss_6 : decode cX6_miss 6 = .ok (.astore_n 3, 1) := by decide +kernel
theorem dX6_miss_7 : decode cX6_miss 7 = .ok (.aload_n 3, 1) := by decide +kernel
theorem dX6_miss_8 : decode cX6_miss 8 = .ok (.ifnonnull 5, 3) := by decide +kernel
theorem dX6_miss_11 : decode cX6_miss 11 = .ok (.iconst (-1), 1) := by decide +kernel
theorem dX6_miss_12 : decode cX6_miss 12 = .ok (.ireturn, 1) := by decide +kernel
theorem dX6_miss_13 : decode cX6_miss 13 = .ok (.aload_n 3, 1) := by decide +kernel
theorem dX6_miss_14 : decode cX6_miss 14 = .ok (.getfield 103, 3) := by decide +kernel
theorem dX6_miss_17 : decode cX6_miss 17 = .ok (.iconst 2, 1) := by decide +kernel
theorem dX6_miss_18 : decode cX6_miss 18 = .ok (.if_icmp .eq 14, 3) := by decide +kernel
theorem dX6_miss_21 : decode cX6_miss 21 = .ok (.aload_n 3, 1) := by decide +kernel
theorem dX6_miss_22 : decode cX6_miss 22 = .ok (.getfield 103, 3) := by decide +kernel
theorem dX6_miss_25 : decode cX6_miss 25 = .ok (.iconst 3, 1) := by decide +kernel
theorem dX6_miss_26 : decode cX6_miss 26 = .ok (.if_icmp .eq 6, 3) := by decide +kernel
theorem dX6_miss_29 : decode cX6_miss 29 = .ok (.bipush (-2), 2) := by decide +kernel
theorem dX6_miss_31 : decode cX6_miss 31 = .ok (.ireturn, 1) := by decide +kernel
theorem dX6_miss_32 : decode cX6_miss 32 = .ok (.aload_n 0, 1) := by decide +kernel
theorem dX6_miss_33 : decode cX6_miss 33 = .ok (.getfield 67, 3) := by decide +kernel
theorem dX6_miss_36 : decode cX6_miss 36 = .ok (.ifCond .ne 6, 3) := by decide +kernel
theorem dX6_miss_39 : decode cX6_miss 39 = .ok (.bipush (-3), 2) := by decide +kernel
theorem dX6_miss_41 : decode cX6_miss 41 = .ok (.ireturn, 1) := by decide +kernel
theorem dX6_miss_42 : decode cX6_miss 42 = .ok (.iconst 0, 1) := by decide +kernel
theorem dX6_miss_43 : decode cX6_miss 43 = .ok (.istore 4, 2) := by decide +kernel
theorem dX6_miss_45 : decode cX6_miss 45 = .ok (.iconst 0, 1) := by decide +kernel
theorem dX6_miss_46 : decode cX6_miss 46 = .ok (.istore 5, 2) := by decide +kernel
theorem dX6_miss_48 : decode cX6_miss 48 = .ok (.iload 5, 2) := by decide +kernel
theorem dX6_miss_50 : decode cX6_miss 50 = .ok (.aload_n 0, 1) := by decide +kernel
theorem dX6_miss_51 : decode cX6_miss 51 = .ok (.iload_n 1, 1) := by decide +kernel
theorem dX6_miss_52 : decode cX6_miss 52 = .ok (.invokevirtual 200, 3) := by decide +kernel
theorem dX6_miss_55 : decode cX6_miss 55 = .ok (.if_icmp .ge 62, 3) := by decide +kernel
theorem dX6_miss_58 : decode cX6_miss 58 = .ok (.aload_n 0, 1) := by decide +kernel
theorem dX6_miss_59 : decode cX6_miss 59 = .ok (.getfield 30, 3) := by decide +kernel
theorem dX6_miss_62 : decode cX6_miss 62 = .ok (.iload_n 1, 1) := by decide +kernel
theorem dX6_miss_63 : decode cX6_miss 63 = .ok (.iload 5, 2) := by decide +kernel
theorem dX6_miss_65 : decode cX6_miss 65 = .ok (.iload_n 2, 1) := by decide +kernel
theorem dX6_miss_66 : decode cX6_miss 66 = .ok (.invokevirtual 180, 3) := by decide +kernel
theorem dX6_miss_69 : decode cX6_miss 69 = .ok (.istore 6, 2) := by decide +kernel
theorem dX6_miss_71 : decode cX6_miss 71 = .ok (.aload_n 0, 1) := by decide +kernel
theorem dX6_miss_72 : decode cX6_miss 72 = .ok (.getfield 48, 3) := by decide +kernel
theorem dX6_miss_75 : decode cX6_miss 75 = .ok (.iload_n 1, 1) := by decide +kernel
theorem dX6_miss_76 : decode cX6_miss 76 = .ok (.iload 5, 2) := by decide +kernel
theorem dX6_miss_78 : decode cX6_miss 78 = .ok (.iload_n 2, 1) := by decide +kernel
theorem dX6_miss_79 : decode cX6_miss 79 = .ok (.invokevirtual 180, 3) := by decide +kernel
theorem dX6_miss_82 : decode cX6_miss 82 = .ok (.istore 7, 2) := by decide +kernel
theorem dX6_miss_84 : decode cX6_miss 84 = .ok (.iload 6, 2) := by decide +kernel
theorem dX6_miss_86 : decode cX6_miss 86 = .ok (.ldc 179, 2) := by decide +kernel
theorem dX6_miss_88 : decode cX6_miss 88 = .ok (.if_icmp .eq 23, 3) := by decide +kernel
theorem dX6_miss_91 : decode cX6_miss 91 = .ok (.iload 7, 2) := by decide +kernel
theorem dX6_miss_93 : decode cX6_miss 93 = .ok (.ldc 179, 2) := by decide +kernel
theorem dX6_miss_95 : decode cX6_miss 95 = .ok (.if_icmp .eq 16, 3) := by decide +kernel
theorem dX6_miss_98 : decode cX6_miss 98 = .ok (.iload 4, 2) := by decide +kernel
theorem dX6_miss_100 : decode cX6_miss 100 = .ok (.iload 7, 2) := by decide +kernel
theorem dX6_miss_102 : decode cX6_miss 102 = .ok (.iload 6, 2) := by decide +kernel
theorem dX6_miss_104 : decode cX6_miss 104 = .ok (.isub, 1) := by decide +kernel
theorem dX6_miss_105 : decode cX6_miss 105 = .ok (.invokestatic 203, 3) := by decide +kernel
theorem dX6_miss_108 : decode cX6_miss 108 = .ok (.iadd, 1) := by decide +kernel
theorem dX6_miss_109 : decode cX6_miss 109 = .ok (.istore 4, 2) := by decide +kernel
theorem dX6_miss_111 : decode cX6_miss 111 = .ok (.iinc 5 1, 3) := by decide +kernel
theorem dX6_miss_114 : decode cX6_miss 114 = .ok (.goto (-66), 3) := by decide +kernel
theorem dX6_miss_117 : decode cX6_miss 117 = .ok (.iload 4, 2) := by decide +kernel
theorem dX6_miss_119 : decode cX6_miss 119 = .ok (.ireturn, 1) := by decide +kernel
theorem dX6_could_0 : decode cX6_could 0 = .ok (.aload_n 0, 1) := by decide +kernel
theorem dX6_could_1 : decode cX6_could 1 = .ok (.iload_n 1, 1) := by decide +kernel
theorem dX6_could_2 : decode cX6_could 2 = .ok (.iload_n 2, 1) := by decide +kernel
theorem dX6_could_3 : decode cX6_could 3 = .ok (.invokevirtual 176, 3) := by decide +kernel
theorem dX6_could_6 : decode cX6_could 6 = .ok (.ifCond .ne 5, 3) := by decide +kernel
theorem dX6_could_9 : decode cX6_could 9 = .ok (.iconst (-1), 1) := by decide +kernel
theorem dX6_could_10 : decode cX6_could 10 = .ok (.ireturn, 1) := by decide +kernel
theorem dX6_could_11 : decode cX6_could 11 = .ok (.aload_n 0, 1) := by decide +kernel
theorem dX6_could_12 : decode cX6_could 12 = .ok (.iload_n 1, 1) := by decide +kernel
theorem dX6_could_13 : decode cX6_could 13 = .ok (.iload_n 3, 1) := by decide +kernel
theorem dX6_could_14 : decode cX6_could 14 = .ok (.invokevirtual 208, 3) := by decide +kernel
theorem dX6_could_17 : decode cX6_could 17 = .ok (.ifCond .ne 6, 3) := by decide +kernel
theorem dX6_could_20 : decode cX6_could 20 = .ok (.bipush (-2), 2) := by decide +kernel
theorem dX6_could_22 : decode cX6_could 22 = .ok (.ireturn, 1) := by decide +kernel
theorem dX6_could_23 : decode cX6_could 23 = .ok (.aload_n 0, 1) := by decide +kernel
theorem dX6_could_24 : decode cX6_could 24 = .ok (.iload_n 1, 1) := by decide +kernel
theorem dX6_could_25 : decode cX6_could 25 = .ok (.invokevirtual 169, 3) := by decide +kernel
theorem dX6_could_28 : decode cX6_could 28 = .ok (.aload_n 0, 1) := by decide +kernel
theorem dX6_could_29 : decode cX6_could 29 = .ok (.iload_n 1, 1) := by decide +kernel
theorem dX6_could_30 : decode cX6_could 30 = .ok (.iload_n 2, 1) := by decide +kernel
theorem dX6_could_31 : decode cX6_could 31 = .ok (.iload_n 3, 1) := by decide +kernel
theorem dX6_could_32 : decode cX6_could 32 = .ok (.invokevirtual 211, 3) := by decide +kernel
theorem dX6_could_35 : decode cX6_could 35 = .ok (.invokestatic 214, 3) := by decide +kernel
theorem dX6_could_38 : decode cX6_could 38 = .ok (.ireturn, 1) := by decide +kernel
theorem dX6_alike_0 : decode cX6_alike 0 = .ok (.aload_n 0, 1) := by decide +kernel
theorem dX6_alike_1 : decode cX6_alike 1 = .ok (.iload_n 1, 1) := by decide +kernel
theorem dX6_alike_2 : decode cX6_alike 2 = .ok (.invokevirtual 200, 3) := by decide +kernel
theorem dX6_alike_5 : decode cX6_alike 5 = .ok (.ifCond .ne 5, 3) := by decide +kernel
theorem dX6_alike_8 : decode cX6_alike 8 = .ok (.iconst (-1), 1) := by decide +kernel
theorem dX6_alike_9 : decode cX6_alike 9 = .ok (.ireturn, 1) := by decide +kernel
theorem dX6_alike_10 : decode cX6_alike 10 = .ok (.aload_n 0, 1) := by decide +kernel
theorem dX6_alike_11 : decode cX6_alike 11 = .ok (.iload_n 1, 1) := by decide +kernel
theorem dX6_alike_12 : decode cX6_alike 12 = .ok (.iload_n 2, 1) := by decide +kernel
theorem dX6_alike_13 : decode cX6_alike 13 = .ok (.invokevirtual 208, 3) := by decide +kernel
theorem dX6_alike_16 : decode cX6_alike 16 = .ok (.ifCond .ne 6, 3) := by decide +kernel
theorem dX6_alike_19 : decode cX6_alike 19 = .ok (.bipush (-2), 2) := by decide +kernel
theorem dX6_alike_21 : decode cX6_alike 21 = .ok (.ireturn, 1) := by decide +kernel
theorem dX6_alike_22 : decode cX6_alike 22 = .ok (.aload_n 0, 1) := by decide +kernel
theorem dX6_alike_23 : decode cX6_alike 23 = .ok (.iload_n 1, 1) := by decide +kernel
theorem dX6_alike_24 : decode cX6_alike 24 = .ok (.invokevirtual 169, 3) := by decide +kernel
theorem dX6_alike_27 : decode cX6_alike 27 = .ok (.bipush 12, 2) := by decide +kernel
theorem dX6_alike_29 : decode cX6_alike 29 = .ok (.istore_n 3, 1) := by decide +kernel
theorem dX6_alike_30 : decode cX6_alike 30 = .ok (.iconst 0, 1) := by decide +kernel
theorem dX6_alike_31 : decode cX6_alike 31 = .ok (.istore 4, 2) := by decide +kernel
theorem dX6_alike_33 : decode cX6_alike 33 = .ok (.iload 4, 2) := by decide +kernel
theorem dX6_alike_35 : decode cX6_alike 35 = .ok (.aload_n 0, 1) := by decide +kernel
theorem dX6_alike_36 : decode cX6_alike 36 = .ok (.iload_n 1, 1) := by decide +kernel
theorem dX6_alike_37 : decode cX6_alike 37 = .ok (.invokevirtual 200, 3) := by decide +kernel
theorem dX6_alike_40 : decode cX6_alike 40 = .ok (.if_icmp .ge 25, 3) := by decide +kernel
theorem dX6_alike_43 : decode cX6_alike 43 = .ok (.iload_n 3, 1) := by decide +kernel
theorem dX6_alike_44 : decode cX6_alike 44 = .ok (.aload_n 0, 1) := by decide +kernel
theorem dX6_alike_45 : decode cX6_alike 45 = .ok (.iload_n 1, 1) := by decide +kernel
theorem dX6_alike_46 : decode cX6_alike 46 = .ok (.iload 4, 2) := by decide +kernel
theorem dX6_alike_48 : decode cX6_alike 48 = .ok (.iload_n 2, 1) := by decide +kernel
theorem dX6_alike_49 : decode cX6_alike 49 = .ok (.invokevirtual 211, 3) := by decide +kernel
theorem dX6_alike_52 : decode cX6_alike 52 = .ok (.invokestatic 214, 3) := by decide +kernel
theorem dX6_alike_55 : decode cX6_alike 55 = .ok (.invokestatic 217, 3) := by decide +kernel
theorem dX6_alike_58 : decode cX6_alike 58 = .ok (.istore_n 3, 1) := by decide +kernel
theorem dX6_alike_59 : decode cX6_alike 59 = .ok (.iinc 4 1, 3) := by decide +kernel
theorem dX6_alike_62 : decode cX6_alike 62 = .ok (.goto (-29), 3) := by decide +kernel
theorem dX6_alike_65 : decode cX6_alike 65 = .ok (.iload_n 3, 1) := by decide +kernel
theorem dX6_alike_66 : decode cX6_alike 66 = .ok (.ireturn, 1) := by decide +kernel
theorem dX6_sure_0 : decode cX6_sure 0 = .ok (.aload_n 0, 1) := by decide +kernel
theorem dX6_sure_1 : decode cX6_sure 1 = .ok (.iload_n 1, 1) := by decide +kernel
theorem dX6_sure_2 : decode cX6_sure 2 = .ok (.iload_n 2, 1) := by decide +kernel
theorem dX6_sure_3 : decode cX6_sure 3 = .ok (.invokevirtual 176, 3) := by decide +kernel
theorem dX6_sure_6 : decode cX6_sure 6 = .ok (.ifCond .eq 13, 3) := by decide +kernel
theorem dX6_sure_9 : decode cX6_sure 9 = .ok (.aload_n 0, 1) := by decide +kernel
theorem dX6_sure_10 : decode cX6_sure 10 = .ok (.iload_n 1, 1) := by decide +kernel
theorem dX6_sure_11 : decode cX6_sure 11 = .ok (.iload 4, 2) := by decide +kernel
theorem dX6_sure_13 : decode cX6_sure 13 = .ok (.invokevirtual 99, 3) := by decide +kernel
theorem dX6_sure_16 : decode cX6_sure 16 = .ok (.ifnonnull 5, 3) := by decide +kernel
theorem dX6_sure_19 : decode cX6_sure 19 = .ok (.iconst (-1), 1) := by decide +kernel
theorem dX6_sure_20 : decode cX6_sure 20 = .ok (.ireturn, 1) := by decide +kernel
theorem dX6_sure_21 : decode cX6_sure 21 = .ok (.aload_n 0, 1) := by decide +kernel
theorem dX6_sure_22 : decode cX6_sure 22 = .ok (.iload_n 1, 1) := by decide +kernel
theorem dX6_sure_23 : decode cX6_sure 23 = .ok (.iload_n 3, 1) := by decide +kernel
theorem dX6_sure_24 : decode cX6_sure 24 = .ok (.invokevirtual 208, 3) := by decide +kernel
theorem dX6_sure_27 : decode cX6_sure 27 = .ok (.ifCond .ne 6, 3) := by decide +kernel
theorem dX6_sure_30 : decode cX6_sure 30 = .ok (.bipush (-2), 2) := by decide +kernel
theorem dX6_sure_32 : decode cX6_sure 32 = .ok (.ireturn, 1) := by decide +kernel
theorem dX6_sure_33 : decode cX6_sure 33 = .ok (.aload_n 0, 1) := by decide +kernel
theorem dX6_sure_34 : decode cX6_sure 34 = .ok (.iload_n 1, 1) := by decide +kernel
theorem dX6_sure_35 : decode cX6_sure 35 = .ok (.invokevirtual 169, 3) := by decide +kernel
theorem dX6_sure_38 : decode cX6_sure 38 = .ok (.aload_n 0, 1) := by decide +kernel
theorem dX6_sure_39 : decode cX6_sure 39 = .ok (.iload_n 1, 1) := by decide +kernel
theorem dX6_sure_40 : decode cX6_sure 40 = .ok (.iload_n 2, 1) := by decide +kernel
theorem dX6_sure_41 : decode cX6_sure 41 = .ok (.iload_n 3, 1) := by decide +kernel
theorem dX6_sure_42 : decode cX6_sure 42 = .ok (.invokevirtual 211, 3) := by decide +kernel
theorem dX6_sure_45 : decode cX6_sure 45 = .ok (.istore 5, 2) := by decide +kernel
theorem dX6_sure_47 : decode cX6_sure 47 = .ok (.aload_n 0, 1) := by decide +kernel
theorem dX6_sure_48 : decode cX6_sure 48 = .ok (.getfield 51, 3) := by decide +kernel
theorem dX6_sure_51 : decode cX6_sure 51 = .ok (.iload_n 1, 1) := by decide +kernel
theorem dX6_sure_52 : decode cX6_sure 52 = .ok (.iload_n 2, 1) := by decide +kernel
theorem dX6_sure_53 : decode cX6_sure 53 = .ok (.iload 4, 2) := by decide +kernel
theorem dX6_sure_55 : decode cX6_sure 55 = .ok (.invokevirtual 180, 3) := by decide +kernel
theorem dX6_sure_58 : decode cX6_sure 58 = .ok (.istore 6, 2) := by decide +kernel
theorem dX6_sure_60 : decode cX6_sure 60 = .ok (.iconst 0, 1) := by decide +kernel
theorem dX6_sure_61 : decode cX6_sure 61 = .ok (.istore 7, 2) := by decide +kernel
theorem dX6_sure_63 : decode cX6_sure 63 = .ok (.iload 7, 2) := by decide +kernel
theorem dX6_sure_65 : decode cX6_sure 65 = .ok (.aload_n 0, 1) := by decide +kernel
theorem dX6_sure_66 : decode cX6_sure 66 = .ok (.iload_n 1, 1) := by decide +kernel
theorem dX6_sure_67 : decode cX6_sure 67 = .ok (.invokevirtual 200, 3) := by decide +kernel
theorem dX6_sure_70 : decode cX6_sure 70 = .ok (.if_icmp .ge 38, 3) := by decide +kernel
theorem dX6_sure_73 : decode cX6_sure 73 = .ok (.iload 5, 2) := by decide +kernel
theorem dX6_sure_75 : decode cX6_sure 75 = .ok (.iload 7, 2) := by decide +kernel
theorem dX6_sure_77 : decode cX6_sure 77 = .ok (.invokestatic 220, 3) := by decide +kernel
theorem dX6_sure_80 : decode cX6_sure 80 = .ok (.ifCond .eq 22, 3) := by decide +kernel
theorem dX6_sure_83 : decode cX6_sure 83 = .ok (.aload_n 0, 1) := by decide +kernel
theorem dX6_sure_84 : decode cX6_sure 84 = .ok (.getfield 51, 3) := by decide +kernel
theorem dX6_sure_87 : decode cX6_sure 87 = .ok (.iload_n 1, 1) := by decide +kernel
theorem dX6_sure_88 : decode cX6_sure 88 = .ok (.iload 7, 2) := by decide +kernel
theorem dX6_sure_90 : decode cX6_sure 90 = .ok (.iload 4, 2) := by decide +kernel
theorem dX6_sure_92 : decode cX6_sure 92 = .ok (.invokevirtual 180, 3) := by decide +kernel
theorem dX6_sure_95 : decode cX6_sure 95 = .ok (.iload 6, 2) := by decide +kernel
theorem dX6_sure_97 : decode cX6_sure 97 = .ok (.if_icmp .eq 5, 3) := by decide +kernel
theorem dX6_sure_100 : decode cX6_sure 100 = .ok (.iconst 0, 1) := by decide +kernel
theorem dX6_sure_101 : decode cX6_sure 101 = .ok (.ireturn, 1) := by decide +kernel
theorem dX6_sure_102 : decode cX6_sure 102 = .ok (.iinc 7 1, 3) := by decide +kernel
theorem dX6_sure_105 : decode cX6_sure 105 = .ok (.goto (-42), 3) := by decide +kernel
theorem dX6_sure_108 : decode cX6_sure 108 = .ok (.iconst 1, 1) := by decide +kernel
theorem dX6_sure_109 : decode cX6_sure 109 = .ok (.ireturn, 1) := by decide +kernel
theorem dX6_loss_0 : decode cX6_loss 0 = .ok (.aload_n 0, 1) := by decide +kernel
theorem dX6_loss_1 : decode cX6_loss 1 = .ok (.iload_n 1, 1) := by decide +kernel
theorem dX6_loss_2 : decode cX6_loss 2 = .ok (.iload_n 2, 1) := by decide +kernel
theorem dX6_loss_3 : decode cX6_loss 3 = .ok (.invokevirtual 99, 3) := by decide +kernel
theorem dX6_loss_6 : decode cX6_loss 6 = .ok (.astore_n 3, 1) := by decide +kernel
theorem dX6_loss_7 : decode cX6_loss 7 = .ok (.aload_n 3, 1) := by decide +kernel
theorem dX6_loss_8 : decode cX6_loss 8 = .ok (.ifnonnull 5, 3) := by decide +kernel
theorem dX6_loss_11 : decode cX6_loss 11 = .ok (.iconst (-1), 1) := by decide +kernel
theorem dX6_loss_12 : decode cX6_loss 12 = .ok (.ireturn, 1) := by decide +kernel
theorem dX6_loss_13 : decode cX6_loss 13 = .ok (.aload_n 3, 1) := by decide +kernel
theorem dX6_loss_14 : decode cX6_loss 14 = .ok (.getfield 118, 3) := by decide +kernel
theorem dX6_loss_17 : decode cX6_loss 17 = .ok (.iconst 3, 1) := by decide +kernel
theorem dX6_loss_18 : decode cX6_loss 18 = .ok (.if_icmp .ne 16, 3) := by decide +kernel
theorem dX6_loss_21 : decode cX6_loss 21 = .ok (.aload_n 0, 1) := by decide +kernel
theorem dX6_loss_22 : decode cX6_loss 22 = .ok (.iload_n 1, 1) := by decide +kernel
theorem dX6_loss_23 : decode cX6_loss 23 = .ok (.iload_n 2, 1) := by decide +kernel
theorem dX6_loss_24 : decode cX6_loss 24 = .ok (.aload_n 3, 1) := by decide +kernel
theorem dX6_loss_25 : decode cX6_loss 25 = .ok (.getfield 121, 3) := by decide +kernel
theorem dX6_loss_28 : decode cX6_loss 28 = .ok (.invokevirtual 223, 3) := by decide +kernel
theorem dX6_loss_31 : decode cX6_loss 31 = .ok (.goto 5, 3) := by decide +kernel
theorem dX6_loss_34 : decode cX6_loss 34 = .ok (.bipush (-2), 2) := by decide +kernel
theorem dX6_loss_36 : decode cX6_loss 36 = .ok (.ireturn, 1) := by decide +kernel
theorem dX6_best_0 : decode cX6_best 0 = .ok (.aload_n 0, 1) := by decide +kernel
theorem dX6_best_1 : decode cX6_best 1 = .ok (.iload_n 1, 1) := by decide +kernel
theorem dX6_best_2 : decode cX6_best 2 = .ok (.invokevirtual 73, 3) := by decide +kernel
theorem dX6_best_5 : decode cX6_best 5 = .ok (.astore 4, 2) := by decide +kernel
theorem dX6_best_7 : decode cX6_best 7 = .ok (.aload 4, 2) := by decide +kernel
theorem dX6_best_9 : decode cX6_best 9 = .ok (.ifnonnull 5, 3) := by decide +kernel
theorem dX6_best_12 : decode cX6_best 12 = .ok (.iconst (-1), 1) := by decide +kernel
theorem dX6_best_13 : decode cX6_best 13 = .ok (.ireturn, 1) := by decide +kernel
theorem dX6_best_14 : decode cX6_best 14 = .ok (.aload_n 0, 1) := by decide +kernel
theorem dX6_best_15 : decode cX6_best 15 = .ok (.iload_n 1, 1) := by decide +kernel
theorem dX6_best_16 : decode cX6_best 16 = .ok (.iload_n 2, 1) := by decide +kernel
theorem dX6_best_17 : decode cX6_best 17 = .ok (.invokevirtual 208, 3) := by decide +kernel
theorem dX6_best_20 : decode cX6_best 20 = .ok (.ifCond .eq 8, 3) := by decide +kernel
theorem dX6_best_23 : decode cX6_best 23 = .ok (.iload_n 3, 1) := by decide +kernel
theorem dX6_best_24 : decode cX6_best 24 = .ok (.iconst 1, 1) := by decide +kernel
theorem dX6_best_25 : decode cX6_best 25 = .ok (.if_icmp .ge 6, 3) := by decide +kernel
theorem dX6_best_28 : decode cX6_best 28 = .ok (.bipush (-2), 2) := by decide +kernel
theorem dX6_best_30 : decode cX6_best 30 = .ok (.ireturn, 1) := by decide +kernel
theorem dX6_best_31 : decode cX6_best 31 = .ok (.aload 4, 2) := by decide +kernel
theorem dX6_best_33 : decode cX6_best 33 = .ok (.getfield 77, 3) := by decide +kernel
theorem dX6_best_36 : decode cX6_best 36 = .ok (.ifCond .ne 6, 3) := by decide +kernel
theorem dX6_best_39 : decode cX6_best 39 = .ok (.bipush (-3), 2) := by decide +kernel
theorem dX6_best_41 : decode cX6_best 41 = .ok (.ireturn, 1) := by decide +kernel
theorem dX6_best_42 : decode cX6_best 42 = .ok (.aload_n 0, 1) := by decide +kernel
theorem dX6_best_43 : decode cX6_best 43 = .ok (.iload_n 1, 1) := by decide +kernel
theorem dX6_best_44 : decode cX6_best 44 = .ok (.invokevirtual 169, 3) := by decide +kernel
theorem dX6_best_47 : decode cX6_best 47 = .ok (.aload_n 0, 1) := by decide +kernel
theorem dX6_best_48 : decode cX6_best 48 = .ok (.iload_n 1, 1) := by decide +kernel
theorem dX6_best_49 : decode cX6_best 49 = .ok (.iload_n 2, 1) := by decide +kernel
theorem dX6_best_50 : decode cX6_best 50 = .ok (.invokevirtual 226, 3) := by decide +kernel
theorem dX6_best_53 : decode cX6_best 53 = .ok (.aload_n 0, 1) := by decide +kernel
theorem dX6_best_54 : decode cX6_best 54 = .ok (.getfield 44, 3) := by decide +kernel
theorem dX6_best_57 : decode cX6_best 57 = .ok (.iload_n 3, 1) := by decide +kernel
theorem dX6_best_58 : decode cX6_best 58 = .ok (.invokevirtual 229, 3) := by decide +kernel
theorem dX6_best_61 : decode cX6_best 61 = .ok (.istore 5, 2) := by decide +kernel
theorem dX6_best_63 : decode cX6_best 63 = .ok (.iload 5, 2) := by decide +kernel
theorem dX6_best_65 : decode cX6_best 65 = .ok (.iconst (-1), 1) := by decide +kernel
theorem dX6_best_66 : decode cX6_best 66 = .ok (.if_icmp .ne 6, 3) := by decide +kernel
theorem dX6_best_69 : decode cX6_best 69 = .ok (.bipush (-3), 2) := by decide +kernel
theorem dX6_best_71 : decode cX6_best 71 = .ok (.ireturn, 1) := by decide +kernel
theorem dX6_best_72 : decode cX6_best 72 = .ok (.iconst 0, 1) := by decide +kernel
theorem dX6_best_73 : decode cX6_best 73 = .ok (.istore 6, 2) := by decide +kernel
theorem dX6_best_75 : decode cX6_best 75 = .ok (.iload 6, 2) := by decide +kernel
theorem dX6_best_77 : decode cX6_best 77 = .ok (.aload_n 0, 1) := by decide +kernel
theorem dX6_best_78 : decode cX6_best 78 = .ok (.getfield 44, 3) := by decide +kernel
theorem dX6_best_81 : decode cX6_best 81 = .ok (.getfield 232, 3) := by decide +kernel
theorem dX6_best_84 : decode cX6_best 84 = .ok (.if_icmp .ge 49, 3) := by decide +kernel
theorem dX6_best_87 : decode cX6_best 87 = .ok (.aload_n 0, 1) := by decide +kernel
theorem dX6_best_88 : decode cX6_best 88 = .ok (.iload_n 1, 1) := by decide +kernel
theorem dX6_best_89 : decode cX6_best 89 = .ok (.aload_n 0, 1) := by decide +kernel
theorem dX6_best_90 : decode cX6_best 90 = .ok (.getfield 44, 3) := by decide +kernel
theorem dX6_best_93 : decode cX6_best 93 = .ok (.iload 6, 2) := by decide +kernel
theorem dX6_best_95 : decode cX6_best 95 = .ok (.invokevirtual 233, 3) := by decide +kernel
theorem dX6_best_98 : decode cX6_best 98 = .ok (.invokevirtual 99, 3) := by decide +kernel
theorem dX6_best_101 : decode cX6_best 101 = .ok (.astore 7, 2) := by decide +kernel
theorem dX6_best_103 : decode cX6_best 103 = .ok (.aload 7, 2) := by decide +kernel
theorem dX6_best_105 : decode cX6_best 105 = .ok (.ifnull 22, 3) := by decide +kernel
theorem dX6_best_108 : decode cX6_best 108 = .ok (.aload 7, 2) := by decide +kernel
theorem dX6_best_110 : decode cX6_best 110 = .ok (.aload_n 0, 1) := by decide +kernel
theorem dX6_best_111 : decode cX6_best 111 = .ok (.getfield 44, 3) := by decide +kernel
theorem dX6_best_114 : decode cX6_best 114 = .ok (.iload 5, 2) := by decide +kernel
theorem dX6_best_116 : decode cX6_best 116 = .ok (.iload 6, 2) := by decide +kernel
theorem dX6_best_118 : decode cX6_best 118 = .ok (.invokevirtual 236, 3) := by decide +kernel
theorem dX6_best_121 : decode cX6_best 121 = .ok (.invokestatic 239, 3) := by decide +kernel
theorem dX6_best_124 : decode cX6_best 124 = .ok (.putfield 121, 3) := by decide +kernel
theorem dX6_best_127 : decode cX6_best 127 = .ok (.iinc 6 1, 3) := by decide +kernel
theorem dX6_best_130 : decode cX6_best 130 = .ok (.goto (-55), 3) := by decide +kernel
theorem dX6_best_133 : decode cX6_best 133 = .ok (.aload_n 0, 1) := by decide +kernel
theorem dX6_best_134 : decode cX6_best 134 = .ok (.getfield 44, 3) := by decide +kernel
theorem dX6_best_137 : decode cX6_best 137 = .ok (.iload 5, 2) := by decide +kernel
theorem dX6_best_139 : decode cX6_best 139 = .ok (.invokevirtual 242, 3) := by decide +kernel
theorem dX6_best_142 : decode cX6_best 142 = .ok (.ireturn, 1) := by decide +kernel
theorem dX6_about_0 : decode cX6_about 0 = .ok (.aload_n 0, 1) := by decide +kernel
theorem dX6_about_1 : decode cX6_about 1 = .ok (.iload_n 1, 1) := by decide +kernel
theorem dX6_about_2 : decode cX6_about 2 = .ok (.invokevirtual 73, 3) := by decide +kernel
theorem dX6_about_5 : decode cX6_about 5 = .ok (.astore 4, 2) := by decide +kernel
theorem dX6_about_7 : decode cX6_about 7 = .ok (.aload_n 0, 1) := by decide +kernel
theorem dX6_about_8 : decode cX6_about 8 = .ok (.iload_n 1, 1) := by decide +kernel
theorem dX6_about_9 : decode cX6_about 9 = .ok (.iload_n 2, 1) := by decide +kernel
theorem dX6_about_10 : decode cX6_about 10 = .ok (.invokevirtual 99, 3) := by decide +kernel
theorem dX6_about_13 : decode cX6_about 13 = .ok (.astore 5, 2) := by decide +kernel
theorem dX6_about_15 : decode cX6_about 15 = .ok (.aload 4, 2) := by decide +kernel
theorem dX6_about_17 : decode cX6_about 17 = .ok (.ifnull 18, 3) := by decide +kernel
theorem dX6_about_20 : decode cX6_about 20 = .ok (.aload 5, 2) := by decide +kernel
theorem dX6_about_22 : decode cX6_about 22 = .ok (.ifnull 13, 3) := by decide +kernel
theorem dX6_about_25 : decode cX6_about 25 = .ok (.iload_n 3, 1) := by decide +kernel
theorem dX6_about_26 : decode cX6_about 26 = .ok (.bipush 10, 2) := by decide +kernel
theorem dX6_about_28 : decode cX6_about 28 = .ok (.if_icmp .ge 9, 3) := by decide +kernel
theorem dX6_about_31 : decode cX6_about 31 = .ok (.iload_n 2, 1) := by decide +kernel
theorem dX6_about_32 : decode cX6_about 32 = .ok (.ifCond .eq 5, 3) := by decide +kernel
theorem dX6_about_35 : decode cX6_about 35 = .ok (.iconst (-1), 1) := by decide +kernel
theorem dX6_about_36 : decode cX6_about 36 = .ok (.ireturn, 1) := by decide +kernel
theorem dX6_about_37 : decode cX6_about 37 = .ok (.iload_n 3, 1) := by decide +kernel
theorem dX6_about_38 : decode cX6_about 38 = .ok (.tableswitch 125 0 13 #[70, 76, 82, 125, 125, 125, 125, 125, 125, 125, 88, 94, 113, 119], 70) := by decide +kernel
theorem dX6_about_108 : decode cX6_about 108 = .ok (.aload 4, 2) := by decide +kernel
theorem dX6_about_110 : decode cX6_about 110 = .ok (.getfield 80, 3) := by decide +kernel
theorem dX6_about_113 : decode cX6_about 113 = .ok (.ireturn, 1) := by decide +kernel
theorem dX6_about_114 : decode cX6_about 114 = .ok (.aload 4, 2) := by decide +kernel
theorem dX6_about_116 : decode cX6_about 116 = .ok (.getfield 77, 3) := by decide +kernel
theorem dX6_about_119 : decode cX6_about 119 = .ok (.ireturn, 1) := by decide +kernel
theorem dX6_about_120 : decode cX6_about 120 = .ok (.aload 4, 2) := by decide +kernel
theorem dX6_about_122 : decode cX6_about 122 = .ok (.getfield 108, 3) := by decide +kernel
theorem dX6_about_125 : decode cX6_about 125 = .ok (.ireturn, 1) := by decide +kernel
theorem dX6_about_126 : decode cX6_about 126 = .ok (.aload 5, 2) := by decide +kernel
theorem dX6_about_128 : decode cX6_about 128 = .ok (.getfield 103, 3) := by decide +kernel
theorem dX6_about_131 : decode cX6_about 131 = .ok (.ireturn, 1) := by decide +kernel
theorem dX6_about_132 : decode cX6_about 132 = .ok (.aload 5, 2) := by decide +kernel
theorem dX6_about_134 : decode cX6_about 134 = .ok (.getfield 103, 3) := by decide +kernel
theorem dX6_about_137 : decode cX6_about 137 = .ok (.iconst 1, 1) := by decide +kernel
theorem dX6_about_138 : decode cX6_about 138 = .ok (.if_icmp .ne 11, 3) := by decide +kernel
theorem dX6_about_141 : decode cX6_about 141 = .ok (.aload 5, 2) := by decide +kernel
theorem dX6_about_143 : decode cX6_about 143 = .ok (.getfield 146, 3) := by decide +kernel
theorem dX6_about_146 : decode cX6_about 146 = .ok (.goto 4, 3) := by decide +kernel
theorem dX6_about_149 : decode cX6_about 149 = .ok (.iconst (-1), 1) := by decide +kernel
theorem dX6_about_150 : decode cX6_about 150 = .ok (.ireturn, 1) := by decide +kernel
theorem dX6_about_151 : decode cX6_about 151 = .ok (.aload 5, 2) := by decide +kernel
theorem dX6_about_153 : decode cX6_about 153 = .ok (.getfield 118, 3) := by decide +kernel
theorem dX6_about_156 : decode cX6_about 156 = .ok (.ireturn, 1) := by decide +kernel
theorem dX6_about_157 : decode cX6_about 157 = .ok (.aload 5, 2) := by decide +kernel
theorem dX6_about_159 : decode cX6_about 159 = .ok (.getfield 121, 3) := by decide +kernel
theorem dX6_about_162 : decode cX6_about 162 = .ok (.ireturn, 1) := by decide +kernel
theorem dX6_about_163 : decode cX6_about 163 = .ok (.iconst (-1), 1) := by decide +kernel
theorem dX6_about_164 : decode cX6_about 164 = .ok (.ireturn, 1) := by decide +kernel
theorem dX6_all_0 : decode cX6_all 0 = .ok (.iload_n 1, 1) := by decide +kernel
theorem dX6_all_1 : decode cX6_all 1 = .ok (.tableswitch 68 0 4 #[35, 40, 45, 50, 55], 35) := by decide +kernel
theorem dX6_all_36 : decode cX6_all 36 = .ok (.aload_n 0, 1) := by decide +kernel
theorem dX6_all_37 : decode cX6_all 37 = .ok (.getfield 54, 3) := by decide +kernel
theorem dX6_all_40 : decode cX6_all 40 = .ok (.ireturn, 1) := by decide +kernel
end
section
theorem dX6_all_41 : decode cX6_all 41 = .ok (.aload_n 0, 1) := by decide +kernel
theorem dX6_all_42 : decode cX6_all 42 = .ok (.getfield 58, 3) := by decide +kernel
theorem dX6_all_45 : decode cX6_all 45 = .ok (.ireturn, 1) := by decide +kernel
theorem dX6_all_46 : decode cX6_all 46 = .ok (.aload_n 0, 1) := by decide +kernel
theorem dX6_all_47 : decode cX6_all 47 = .ok (.getfield 61, 3) := by decide +kernel
theorem dX6_all_50 : decode cX6_all 50 = .ok (.ireturn, 1) := by decide +kernel
theorem dX6_all_51 : decode cX6_all 51 = .ok (.aload_n 0, 1) := by decide +kernel
theorem dX6_all_52 : decode cX6_all 52 = .ok (.getfield 64, 3) := by decide +kernel
theorem dX6_all_55 : decode cX6_all 55 = .ok (.ireturn, 1) := by decide +kernel
theorem dX6_all_56 : decode cX6_all 56 = .ok (.aload_n 0, 1) := by decide +kernel
theorem dX6_all_57 : decode cX6_all 57 = .ok (.getfield 67, 3) := by decide +kernel
theorem dX6_all_60 : decode cX6_all 60 = .ok (.ifCond .eq 7, 3) := by decide +kernel
theorem dX6_all_63 : decode cX6_all 63 = .ok (.iconst 1, 1) := by decide +kernel
theorem dX6_all_64 : decode cX6_all 64 = .ok (.goto 4, 3) := by decide +kernel
theorem dX6_all_67 : decode cX6_all 67 = .ok (.iconst 0, 1) := by decide +kernel
theorem dX6_all_68 : decode cX6_all 68 = .ok (.ireturn, 1) := by decide +kernel
theorem dX6_all_69 : decode cX6_all 69 = .ok (.iconst (-1), 1) := by decide +kernel
theorem dX6_all_70 : decode cX6_all 70 = .ok (.ireturn, 1) := by decide +kernel
theorem dX6_tableAt_0 : decode cX6_tableAt 0 = .ok (.iload_n 1, 1) := by decide +kernel
theorem dX6_tableAt_1 : decode cX6_tableAt 1 = .ok (.ifCond .lt 25, 3) := by decide +kernel
theorem dX6_tableAt_4 : decode cX6_tableAt 4 = .ok (.iload_n 1, 1) := by decide +kernel
theorem dX6_tableAt_5 : decode cX6_tableAt 5 = .ok (.aload_n 0, 1) := by decide +kernel
theorem dX6_tableAt_6 : decode cX6_tableAt 6 = .ok (.getfield 54, 3) := by decide +kernel
theorem dX6_tableAt_9 : decode cX6_tableAt 9 = .ok (.if_icmp .ge 17, 3) := by decide +kernel
theorem dX6_tableAt_12 : decode cX6_tableAt 12 = .ok (.iload_n 1, 1) := by decide +kernel
theorem dX6_tableAt_13 : decode cX6_tableAt 13 = .ok (.iconst 4, 1) := by decide +kernel
theorem dX6_tableAt_14 : decode cX6_tableAt 14 = .ok (.if_icmp .ge 12, 3) := by decide +kernel
theorem dX6_tableAt_17 : decode cX6_tableAt 17 = .ok (.aload_n 0, 1) := by decide +kernel
theorem dX6_tableAt_18 : decode cX6_tableAt 18 = .ok (.getfield 13, 3) := by decide +kernel
theorem dX6_tableAt_21 : decode cX6_tableAt 21 = .ok (.iload_n 1, 1) := by decide +kernel
theorem dX6_tableAt_22 : decode cX6_tableAt 22 = .ok (.aaload, 1) := by decide +kernel
theorem dX6_tableAt_23 : decode cX6_tableAt 23 = .ok (.goto 4, 3) := by decide +kernel
theorem dX6_tableAt_26 : decode cX6_tableAt 26 = .ok (.aconst_null, 1) := by decide +kernel
theorem dX6_tableAt_27 : decode cX6_tableAt 27 = .ok (.areturn, 1) := by decide +kernel
theorem dX6_columnAt_0 : decode cX6_columnAt 0 = .ok (.aload_n 0, 1) := by decide +kernel
theorem dX6_columnAt_1 : decode cX6_columnAt 1 = .ok (.iload_n 1, 1) := by decide +kernel
theorem dX6_columnAt_2 : decode cX6_columnAt 2 = .ok (.invokevirtual 73, 3) := by decide +kernel
theorem dX6_columnAt_5 : decode cX6_columnAt 5 = .ok (.astore_n 3, 1) := by decide +kernel
theorem dX6_columnAt_6 : decode cX6_columnAt 6 = .ok (.aload_n 3, 1) := by decide +kernel
theorem dX6_columnAt_7 : decode cX6_columnAt 7 = .ok (.ifnonnull 7, 3) := by decide +kernel
theorem dX6_columnAt_10 : decode cX6_columnAt 10 = .ok (.aconst_null, 1) := by decide +kernel
theorem dX6_columnAt_11 : decode cX6_columnAt 11 = .ok (.goto 8, 3) := by decide +kernel
theorem dX6_columnAt_14 : decode cX6_columnAt 14 = .ok (.aload_n 3, 1) := by decide +kernel
theorem dX6_columnAt_15 : decode cX6_columnAt 15 = .ok (.iload_n 2, 1) := by decide +kernel
theorem dX6_columnAt_16 : decode cX6_columnAt 16 = .ok (.invokevirtual 245, 3) := by decide +kernel
theorem dX6_columnAt_19 : decode cX6_columnAt 19 = .ok (.areturn, 1) := by decide +kernel
theorem dX6_rowsOf_0 : decode cX6_rowsOf 0 = .ok (.aload_n 0, 1) := by decide +kernel
theorem dX6_rowsOf_1 : decode cX6_rowsOf 1 = .ok (.iload_n 1, 1) := by decide +kernel
theorem dX6_rowsOf_2 : decode cX6_rowsOf 2 = .ok (.invokevirtual 73, 3) := by decide +kernel
theorem dX6_rowsOf_5 : decode cX6_rowsOf 5 = .ok (.astore_n 2, 1) := by decide +kernel
theorem dX6_rowsOf_6 : decode cX6_rowsOf 6 = .ok (.aload_n 2, 1) := by decide +kernel
theorem dX6_rowsOf_7 : decode cX6_rowsOf 7 = .ok (.ifnonnull 7, 3) := by decide +kernel
theorem dX6_rowsOf_10 : decode cX6_rowsOf 10 = .ok (.iconst 0, 1) := by decide +kernel
theorem dX6_rowsOf_11 : decode cX6_rowsOf 11 = .ok (.goto 7, 3) := by decide +kernel
theorem dX6_rowsOf_14 : decode cX6_rowsOf 14 = .ok (.aload_n 2, 1) := by decide +kernel
theorem dX6_rowsOf_15 : decode cX6_rowsOf 15 = .ok (.getfield 77, 3) := by decide +kernel
theorem dX6_rowsOf_18 : decode cX6_rowsOf 18 = .ok (.ireturn, 1) := by decide +kernel
theorem dX6_columnsOf_0 : decode cX6_columnsOf 0 = .ok (.aload_n 0, 1) := by decide +kernel
theorem dX6_columnsOf_1 : decode cX6_columnsOf 1 = .ok (.iload_n 1, 1) := by decide +kernel
theorem dX6_columnsOf_2 : decode cX6_columnsOf 2 = .ok (.invokevirtual 73, 3) := by decide +kernel
theorem dX6_columnsOf_5 : decode cX6_columnsOf 5 = .ok (.astore_n 2, 1) := by decide +kernel
theorem dX6_columnsOf_6 : decode cX6_columnsOf 6 = .ok (.aload_n 2, 1) := by decide +kernel
theorem dX6_columnsOf_7 : decode cX6_columnsOf 7 = .ok (.ifnonnull 7, 3) := by decide +kernel
theorem dX6_columnsOf_10 : decode cX6_columnsOf 10 = .ok (.iconst 0, 1) := by decide +kernel
theorem dX6_columnsOf_11 : decode cX6_columnsOf 11 = .ok (.goto 7, 3) := by decide +kernel
theorem dX6_columnsOf_14 : decode cX6_columnsOf 14 = .ok (.aload_n 2, 1) := by decide +kernel
theorem dX6_columnsOf_15 : decode cX6_columnsOf 15 = .ok (.getfield 80, 3) := by decide +kernel
theorem dX6_columnsOf_18 : decode cX6_columnsOf 18 = .ok (.ireturn, 1) := by decide +kernel
theorem dX6_isRow_0 : decode cX6_isRow 0 = .ok (.iload_n 2, 1) := by decide +kernel
theorem dX6_isRow_1 : decode cX6_isRow 1 = .ok (.ifCond .lt 16, 3) := by decide +kernel
theorem dX6_isRow_4 : decode cX6_isRow 4 = .ok (.iload_n 2, 1) := by decide +kernel
theorem dX6_isRow_5 : decode cX6_isRow 5 = .ok (.aload_n 0, 1) := by decide +kernel
theorem dX6_isRow_6 : decode cX6_isRow 6 = .ok (.iload_n 1, 1) := by decide +kernel
theorem dX6_isRow_7 : decode cX6_isRow 7 = .ok (.invokevirtual 200, 3) := by decide +kernel
theorem dX6_isRow_10 : decode cX6_isRow 10 = .ok (.if_icmp .ge 7, 3) := by decide +kernel
theorem dX6_isRow_13 : decode cX6_isRow 13 = .ok (.iconst 1, 1) := by decide +kernel
theorem dX6_isRow_14 : decode cX6_isRow 14 = .ok (.goto 4, 3) := by decide +kernel
theorem dX6_isRow_17 : decode cX6_isRow 17 = .ok (.iconst 0, 1) := by decide +kernel
theorem dX6_isRow_18 : decode cX6_isRow 18 = .ok (.ireturn, 1) := by decide +kernel
theorem dX6_copyOf_0 : decode cX6_copyOf 0 = .ok (.iload_n 1, 1) := by decide +kernel
theorem dX6_copyOf_1 : decode cX6_copyOf 1 = .ok (.ifCond .ne 8, 3) := by decide +kernel
theorem dX6_copyOf_4 : decode cX6_copyOf 4 = .ok (.aload_n 0, 1) := by decide +kernel
theorem dX6_copyOf_5 : decode cX6_copyOf 5 = .ok (.getfield 30, 3) := by decide +kernel
theorem dX6_copyOf_8 : decode cX6_copyOf 8 = .ok (.areturn, 1) := by decide +kernel
theorem dX6_copyOf_9 : decode cX6_copyOf 9 = .ok (.aload_n 0, 1) := by decide +kernel
theorem dX6_copyOf_10 : decode cX6_copyOf 10 = .ok (.getfield 67, 3) := by decide +kernel
theorem dX6_copyOf_13 : decode cX6_copyOf 13 = .ok (.ifCond .eq 10, 3) := by decide +kernel
theorem dX6_copyOf_16 : decode cX6_copyOf 16 = .ok (.aload_n 0, 1) := by decide +kernel
theorem dX6_copyOf_17 : decode cX6_copyOf 17 = .ok (.getfield 48, 3) := by decide +kernel
theorem dX6_copyOf_20 : decode cX6_copyOf 20 = .ok (.goto 4, 3) := by decide +kernel
theorem dX6_copyOf_23 : decode cX6_copyOf 23 = .ok (.aconst_null, 1) := by decide +kernel
theorem dX6_copyOf_24 : decode cX6_copyOf 24 = .ok (.areturn, 1) := by decide +kernel
theorem dX6_areColumns_0 : decode cX6_areColumns 0 = .ok (.iload_n 2, 1) := by decide +kernel
theorem dX6_areColumns_1 : decode cX6_areColumns 1 = .ok (.ifCond .lt 18, 3) := by decide +kernel
theorem dX6_areColumns_4 : decode cX6_areColumns 4 = .ok (.iload_n 2, 1) := by decide +kernel
theorem dX6_areColumns_5 : decode cX6_areColumns 5 = .ok (.iconst 1, 1) := by decide +kernel
theorem dX6_areColumns_6 : decode cX6_areColumns 6 = .ok (.aload_n 0, 1) := by decide +kernel
theorem dX6_areColumns_7 : decode cX6_areColumns 7 = .ok (.iload_n 1, 1) := by decide +kernel
theorem dX6_areColumns_8 : decode cX6_areColumns 8 = .ok (.invokevirtual 249, 3) := by decide +kernel
theorem dX6_areColumns_11 : decode cX6_areColumns 11 = .ok (.ishl, 1) := by decide +kernel
theorem dX6_areColumns_12 : decode cX6_areColumns 12 = .ok (.if_icmp .ge 7, 3) := by decide +kernel
theorem dX6_areColumns_15 : decode cX6_areColumns 15 = .ok (.iconst 1, 1) := by decide +kernel
theorem dX6_areColumns_16 : decode cX6_areColumns 16 = .ok (.goto 4, 3) := by decide +kernel
theorem dX6_areColumns_19 : decode cX6_areColumns 19 = .ok (.iconst 0, 1) := by decide +kernel
theorem dX6_areColumns_20 : decode cX6_areColumns 20 = .ok (.ireturn, 1) := by decide +kernel
theorem dX6_rowsWith_0 : decode cX6_rowsWith 0 = .ok (.iconst 0, 1) := by decide +kernel
theorem dX6_rowsWith_1 : decode cX6_rowsWith 1 = .ok (.istore 5, 2) := by decide +kernel
theorem dX6_rowsWith_3 : decode cX6_rowsWith 3 = .ok (.iconst 0, 1) := by decide +kernel
theorem dX6_rowsWith_4 : decode cX6_rowsWith 4 = .ok (.istore 6, 2) := by decide +kernel
theorem dX6_rowsWith_6 : decode cX6_rowsWith 6 = .ok (.iload 6, 2) := by decide +kernel
theorem dX6_rowsWith_8 : decode cX6_rowsWith 8 = .ok (.aload_n 0, 1) := by decide +kernel
theorem dX6_rowsWith_9 : decode cX6_rowsWith 9 = .ok (.iload_n 2, 1) := by decide +kernel
theorem dX6_rowsWith_10 : decode cX6_rowsWith 10 = .ok (.invokevirtual 200, 3) := by decide +kernel
theorem dX6_rowsWith_13 : decode cX6_rowsWith 13 = .ok (.if_icmp .ge 25, 3) := by decide +kernel
theorem dX6_rowsWith_16 : decode cX6_rowsWith 16 = .ok (.aload_n 1, 1) := by decide +kernel
theorem dX6_rowsWith_17 : decode cX6_rowsWith 17 = .ok (.iload_n 2, 1) := by decide +kernel
theorem dX6_rowsWith_18 : decode cX6_rowsWith 18 = .ok (.iload 6, 2) := by decide +kernel
theorem dX6_rowsWith_20 : decode cX6_rowsWith 20 = .ok (.iload_n 3, 1) := by decide +kernel
theorem dX6_rowsWith_21 : decode cX6_rowsWith 21 = .ok (.invokevirtual 180, 3) := by decide +kernel
theorem dX6_rowsWith_24 : decode cX6_rowsWith 24 = .ok (.iload 4, 2) := by decide +kernel
theorem dX6_rowsWith_26 : decode cX6_rowsWith 26 = .ok (.if_icmp .ne 6, 3) := by decide +kernel
theorem dX6_rowsWith_29 : decode cX6_rowsWith 29 = .ok (.iinc 5 1, 3) := by decide +kernel
theorem dX6_rowsWith_32 : decode cX6_rowsWith 32 = .ok (.iinc 6 1, 3) := by decide +kernel
theorem dX6_rowsWith_35 : decode cX6_rowsWith 35 = .ok (.goto (-29), 3) := by decide +kernel
theorem dX6_rowsWith_38 : decode cX6_rowsWith 38 = .ok (.iload 5, 2) := by decide +kernel
theorem dX6_rowsWith_40 : decode cX6_rowsWith 40 = .ok (.ireturn, 1) := by decide +kernel
theorem dX6_isBit_0 : decode cX6_isBit 0 = .ok (.iload_n 0, 1) := by decide +kernel
theorem dX6_isBit_1 : decode cX6_isBit 1 = .ok (.ifCond .eq 8, 3) := by decide +kernel
theorem dX6_isBit_4 : decode cX6_isBit 4 = .ok (.iload_n 0, 1) := by decide +kernel
theorem dX6_isBit_5 : decode cX6_isBit 5 = .ok (.iconst 1, 1) := by decide +kernel
theorem dX6_isBit_6 : decode cX6_isBit 6 = .ok (.if_icmp .ne 7, 3) := by decide +kernel
theorem dX6_isBit_9 : decode cX6_isBit 9 = .ok (.iconst 1, 1) := by decide +kernel
theorem dX6_isBit_10 : decode cX6_isBit 10 = .ok (.goto 4, 3) := by decide +kernel
theorem dX6_isBit_13 : decode cX6_isBit 13 = .ok (.iconst 0, 1) := by decide +kernel
theorem dX6_isBit_14 : decode cX6_isBit 14 = .ok (.ireturn, 1) := by decide +kernel
theorem dX6_hasBit_0 : decode cX6_hasBit 0 = .ok (.iload_n 0, 1) := by decide +kernel
theorem dX6_hasBit_1 : decode cX6_hasBit 1 = .ok (.iload_n 1, 1) := by decide +kernel
theorem dX6_hasBit_2 : decode cX6_hasBit 2 = .ok (.ishr, 1) := by decide +kernel
theorem dX6_hasBit_3 : decode cX6_hasBit 3 = .ok (.iconst 1, 1) := by decide +kernel
theorem dX6_hasBit_4 : decode cX6_hasBit 4 = .ok (.iand, 1) := by decide +kernel
theorem dX6_hasBit_5 : decode cX6_hasBit 5 = .ok (.iconst 1, 1) := by decide +kernel
theorem dX6_hasBit_6 : decode cX6_hasBit 6 = .ok (.if_icmp .ne 7, 3) := by decide +kernel
theorem dX6_hasBit_9 : decode cX6_hasBit 9 = .ok (.iconst 1, 1) := by decide +kernel
theorem dX6_hasBit_10 : decode cX6_hasBit 10 = .ok (.goto 4, 3) := by decide +kernel
theorem dX6_hasBit_13 : decode cX6_hasBit 13 = .ok (.iconst 0, 1) := by decide +kernel
theorem dX6_hasBit_14 : decode cX6_hasBit 14 = .ok (.ireturn, 1) := by decide +kernel
theorem dX6_rightFigure_0 : decode cX6_rightFigure 0 = .ok (.iload_n 0, 1) := by decide +kernel
theorem dX6_rightFigure_1 : decode cX6_rightFigure 1 = .ok (.sipush 1000, 3) := by decide +kernel
theorem dX6_rightFigure_4 : decode cX6_rightFigure 4 = .ok (.idiv, 1) := by decide +kernel
theorem dX6_rightFigure_5 : decode cX6_rightFigure 5 = .ok (.bipush 10, 2) := by decide +kernel
theorem dX6_rightFigure_7 : decode cX6_rightFigure 7 = .ok (.irem, 1) := by decide +kernel
theorem dX6_rightFigure_8 : decode cX6_rightFigure 8 = .ok (.istore_n 1, 1) := by decide +kernel
theorem dX6_rightFigure_9 : decode cX6_rightFigure 9 = .ok (.iload_n 0, 1) := by decide +kernel
theorem dX6_rightFigure_10 : decode cX6_rightFigure 10 = .ok (.bipush 100, 2) := by decide +kernel
theorem dX6_rightFigure_12 : decode cX6_rightFigure 12 = .ok (.idiv, 1) := by decide +kernel
theorem dX6_rightFigure_13 : decode cX6_rightFigure 13 = .ok (.bipush 10, 2) := by decide +kernel
theorem dX6_rightFigure_15 : decode cX6_rightFigure 15 = .ok (.irem, 1) := by decide +kernel
theorem dX6_rightFigure_16 : decode cX6_rightFigure 16 = .ok (.istore_n 2, 1) := by decide +kernel
theorem dX6_rightFigure_17 : decode cX6_rightFigure 17 = .ok (.iload_n 0, 1) := by decide +kernel
theorem dX6_rightFigure_18 : decode cX6_rightFigure 18 = .ok (.bipush 10, 2) := by decide +kernel
theorem dX6_rightFigure_20 : decode cX6_rightFigure 20 = .ok (.idiv, 1) := by decide +kernel
theorem dX6_rightFigure_21 : decode cX6_rightFigure 21 = .ok (.bipush 10, 2) := by decide +kernel
theorem dX6_rightFigure_23 : decode cX6_rightFigure 23 = .ok (.irem, 1) := by decide +kernel
theorem dX6_rightFigure_24 : decode cX6_rightFigure 24 = .ok (.istore_n 3, 1) := by decide +kernel
theorem dX6_rightFigure_25 : decode cX6_rightFigure 25 = .ok (.iload_n 0, 1) := by decide +kernel
theorem dX6_rightFigure_26 : decode cX6_rightFigure 26 = .ok (.bipush 10, 2) := by decide +kernel
theorem dX6_rightFigure_28 : decode cX6_rightFigure 28 = .ok (.irem, 1) := by decide +kernel
theorem dX6_rightFigure_29 : decode cX6_rightFigure 29 = .ok (.istore 4, 2) := by decide +kernel
theorem dX6_rightFigure_31 : decode cX6_rightFigure 31 = .ok (.iload_n 1, 1) := by decide +kernel
theorem dX6_rightFigure_32 : decode cX6_rightFigure 32 = .ok (.iconst 2, 1) := by decide +kernel
theorem dX6_rightFigure_33 : decode cX6_rightFigure 33 = .ok (.iload_n 2, 1) := by decide +kernel
theorem dX6_rightFigure_34 : decode cX6_rightFigure 34 = .ok (.imul, 1) := by decide +kernel
theorem dX6_rightFigure_35 : decode cX6_rightFigure 35 = .ok (.iadd, 1) := by decide +kernel
theorem dX6_rightFigure_36 : decode cX6_rightFigure 36 = .ok (.iconst 3, 1) := by decide +kernel
theorem dX6_rightFigure_37 : decode cX6_rightFigure 37 = .ok (.iload_n 3, 1) := by decide +kernel
theorem dX6_rightFigure_38 : decode cX6_rightFigure 38 = .ok (.imul, 1) := by decide +kernel
theorem dX6_rightFigure_39 : decode cX6_rightFigure 39 = .ok (.iadd, 1) := by decide +kernel
theorem dX6_rightFigure_40 : decode cX6_rightFigure 40 = .ok (.iconst 4, 1) := by decide +kernel
theorem dX6_rightFigure_41 : decode cX6_rightFigure 41 = .ok (.iload 4, 2) := by decide +kernel
theorem dX6_rightFigure_43 : decode cX6_rightFigure 43 = .ok (.imul, 1) := by decide +kernel
theorem dX6_rightFigure_44 : decode cX6_rightFigure 44 = .ok (.iadd, 1) := by decide +kernel
theorem dX6_rightFigure_45 : decode cX6_rightFigure 45 = .ok (.bipush 10, 2) := by decide +kernel
theorem dX6_rightFigure_47 : decode cX6_rightFigure 47 = .ok (.irem, 1) := by decide +kernel
theorem dX6_rightFigure_48 : decode cX6_rightFigure 48 = .ok (.ireturn, 1) := by decide +kernel
theorem dX6_isKeyNumber_0 : decode cX6_isKeyNumber 0 = .ok (.iload_n 0, 1) := by decide +kernel
theorem dX6_isKeyNumber_1 : decode cX6_isKeyNumber 1 = .ok (.ifCond .lt 27, 3) := by decide +kernel
theorem dX6_isKeyNumber_4 : decode cX6_isKeyNumber 4 = .ok (.iload_n 0, 1) := by decide +kernel
theorem dX6_isKeyNumber_5 : decode cX6_isKeyNumber 5 = .ok (.ldc 252, 2) := by decide +kernel
theorem dX6_isKeyNumber_7 : decode cX6_isKeyNumber 7 = .ok (.if_icmp .gt 21, 3) := by decide +kernel
theorem dX6_isKeyNumber_10 : decode cX6_isKeyNumber 10 = .ok (.iload_n 0, 1) := by decide +kernel
theorem dX6_isKeyNumber_11 : decode cX6_isKeyNumber 11 = .ok (.bipush 10, 2) := by decide +kernel
theorem dX6_isKeyNumber_13 : decode cX6_isKeyNumber 13 = .ok (.irem, 1) := by decide +kernel
theorem dX6_isKeyNumber_14 : decode cX6_isKeyNumber 14 = .ok (.iload_n 0, 1) := by decide +kernel
theorem dX6_isKeyNumber_15 : decode cX6_isKeyNumber 15 = .ok (.bipush 10, 2) := by decide +kernel
theorem dX6_isKeyNumber_17 : decode cX6_isKeyNumber 17 = .ok (.idiv, 1) := by decide +kernel
theorem dX6_isKeyNumber_18 : decode cX6_isKeyNumber 18 = .ok (.invokestatic 253, 3) := by decide +kernel
theorem dX6_isKeyNumber_21 : decode cX6_isKeyNumber 21 = .ok (.if_icmp .ne 7, 3) := by decide +kernel
theorem dX6_isKeyNumber_24 : decode cX6_isKeyNumber 24 = .ok (.iconst 1, 1) := by decide +kernel
theorem dX6_isKeyNumber_25 : decode cX6_isKeyNumber 25 = .ok (.goto 4, 3) := by decide +kernel
theorem dX6_isKeyNumber_28 : decode cX6_isKeyNumber 28 = .ok (.iconst 0, 1) := by decide +kernel
theorem dX6_isKeyNumber_29 : decode cX6_isKeyNumber 29 = .ok (.ireturn, 1) := by decide +kernel
theorem dX6_isNumberOfKind_0 : decode cX6_isNumberOfKind 0 = .ok (.iload_n 0, 1) := by decide +kernel
theorem dX6_isNumberOfKind_1 : decode cX6_isNumberOfKind 1 = .ok (.tableswitch 93 0 4 #[35, 35, 40, 57, 77], 35) := by decide +kernel
theorem dX6_isNumberOfKind_36 : decode cX6_isNumberOfKind 36 = .ok (.iload_n 1, 1) := by decide +kernel
theorem dX6_isNumberOfKind_37 : decode cX6_isNumberOfKind 37 = .ok (.invokestatic 194, 3) := by decide +kernel
theorem dX6_isNumberOfKind_40 : decode cX6_isNumberOfKind 40 = .ok (.ireturn, 1) := by decide +kernel
theorem dX6_isNumberOfKind_41 : decode cX6_isNumberOfKind 41 = .ok (.iload_n 1, 1) := by decide +kernel
theorem dX6_isNumberOfKind_42 : decode cX6_isNumberOfKind 42 = .ok (.ifCond .lt 14, 3) := by decide +kernel
theorem dX6_isNumberOfKind_45 : decode cX6_isNumberOfKind 45 = .ok (.iload_n 1, 1) := by decide +kernel
theorem dX6_isNumberOfKind_46 : decode cX6_isNumberOfKind 46 = .ok (.sipush 9999, 3) := by decide +kernel
theorem dX6_isNumberOfKind_49 : decode cX6_isNumberOfKind 49 = .ok (.if_icmp .gt 7, 3) := by decide +kernel
theorem dX6_isNumberOfKind_52 : decode cX6_isNumberOfKind 52 = .ok (.iconst 1, 1) := by decide +kernel
theorem dX6_isNumberOfKind_53 : decode cX6_isNumberOfKind 53 = .ok (.goto 4, 3) := by decide +kernel
theorem dX6_isNumberOfKind_56 : decode cX6_isNumberOfKind 56 = .ok (.iconst 0, 1) := by decide +kernel
theorem dX6_isNumberOfKind_57 : decode cX6_isNumberOfKind 57 = .ok (.ireturn, 1) := by decide +kernel
theorem dX6_isNumberOfKind_58 : decode cX6_isNumberOfKind 58 = .ok (.iload_n 1, 1) := by decide +kernel
theorem dX6_isNumberOfKind_59 : decode cX6_isNumberOfKind 59 = .ok (.sipush (-9999), 3) := by decide +kernel
theorem dX6_isNumberOfKind_62 : decode cX6_isNumberOfKind 62 = .ok (.if_icmp .lt 14, 3) := by decide +kernel
theorem dX6_isNumberOfKind_65 : decode cX6_isNumberOfKind 65 = .ok (.iload_n 1, 1) := by decide +kernel
theorem dX6_isNumberOfKind_66 : decode cX6_isNumberOfKind 66 = .ok (.sipush 9999, 3) := by decide +kernel
theorem dX6_isNumberOfKind_69 : decode cX6_isNumberOfKind 69 = .ok (.if_icmp .gt 7, 3) := by decide +kernel
theorem dX6_isNumberOfKind_72 : decode cX6_isNumberOfKind 72 = .ok (.iconst 1, 1) := by decide +kernel
theorem dX6_isNumberOfKind_73 : decode cX6_isNumberOfKind 73 = .ok (.goto 4, 3) := by decide +kernel
theorem dX6_isNumberOfKind_76 : decode cX6_isNumberOfKind 76 = .ok (.iconst 0, 1) := by decide +kernel
theorem dX6_isNumberOfKind_77 : decode cX6_isNumberOfKind 77 = .ok (.ireturn, 1) := by decide +kernel
theorem dX6_isNumberOfKind_78 : decode cX6_isNumberOfKind 78 = .ok (.iload_n 1, 1) := by decide +kernel
theorem dX6_isNumberOfKind_79 : decode cX6_isNumberOfKind 79 = .ok (.ifCond .lt 13, 3) := by decide +kernel
theorem dX6_isNumberOfKind_82 : decode cX6_isNumberOfKind 82 = .ok (.iload_n 1, 1) := by decide +kernel
theorem dX6_isNumberOfKind_83 : decode cX6_isNumberOfKind 83 = .ok (.bipush 99, 2) := by decide +kernel
theorem dX6_isNumberOfKind_85 : decode cX6_isNumberOfKind 85 = .ok (.if_icmp .gt 7, 3) := by decide +kernel
theorem dX6_isNumberOfKind_88 : decode cX6_isNumberOfKind 88 = .ok (.iconst 1, 1) := by decide +kernel
theorem dX6_isNumberOfKind_89 : decode cX6_isNumberOfKind 89 = .ok (.goto 4, 3) := by decide +kernel
theorem dX6_isNumberOfKind_92 : decode cX6_isNumberOfKind 92 = .ok (.iconst 0, 1) := by decide +kernel
theorem dX6_isNumberOfKind_93 : decode cX6_isNumberOfKind 93 = .ok (.ireturn, 1) := by decide +kernel
theorem dX6_isNumberOfKind_94 : decode cX6_isNumberOfKind 94 = .ok (.iconst 0, 1) := by decide +kernel
theorem dX6_isNumberOfKind_95 : decode cX6_isNumberOfKind 95 = .ok (.ireturn, 1) := by decide +kernel
theorem dX6_waitingCellsFit_0 : decode cX6_waitingCellsFit 0 = .ok (.aload_n 0, 1) := by decide +kernel
theorem dX6_waitingCellsFit_1 : decode cX6_waitingCellsFit 1 = .ok (.getfield 61, 3) := by decide +kernel
theorem dX6_waitingCellsFit_4 : decode cX6_waitingCellsFit 4 = .ok (.aload_n 1, 1) := by decide +kernel
theorem dX6_waitingCellsFit_5 : decode cX6_waitingCellsFit 5 = .ok (.getfield 80, 3) := by decide +kernel
theorem dX6_waitingCellsFit_8 : decode cX6_waitingCellsFit 8 = .ok (.if_icmp .eq 5, 3) := by decide +kernel
theorem dX6_waitingCellsFit_11 : decode cX6_waitingCellsFit 11 = .ok (.iconst 0, 1) := by decide +kernel
theorem dX6_waitingCellsFit_12 : decode cX6_waitingCellsFit 12 = .ok (.ireturn, 1) := by decide +kernel
theorem dX6_waitingCellsFit_13 : decode cX6_waitingCellsFit 13 = .ok (.iconst 0, 1) := by decide +kernel
theorem dX6_waitingCellsFit_14 : decode cX6_waitingCellsFit 14 = .ok (.istore_n 2, 1) := by decide +kernel
theorem dX6_waitingCellsFit_15 : decode cX6_waitingCellsFit 15 = .ok (.iload_n 2, 1) := by decide +kernel
theorem dX6_waitingCellsFit_16 : decode cX6_waitingCellsFit 16 = .ok (.aload_n 0, 1) := by decide +kernel
theorem dX6_waitingCellsFit_17 : decode cX6_waitingCellsFit 17 = .ok (.getfield 61, 3) := by decide +kernel
theorem dX6_waitingCellsFit_20 : decode cX6_waitingCellsFit 20 = .ok (.if_icmp .ge 69, 3) := by decide +kernel
theorem dX6_waitingCellsFit_23 : decode cX6_waitingCellsFit 23 = .ok (.aload_n 1, 1) := by decide +kernel
theorem dX6_waitingCellsFit_24 : decode cX6_waitingCellsFit 24 = .ok (.iload_n 2, 1) := by decide +kernel
theorem dX6_waitingCellsFit_25 : decode cX6_waitingCellsFit 25 = .ok (.invokevirtual 245, 3) := by decide +kernel
theorem dX6_waitingCellsFit_28 : decode cX6_waitingCellsFit 28 = .ok (.astore_n 3, 1) := by decide +kernel
theorem dX6_waitingCellsFit_29 : decode cX6_waitingCellsFit 29 = .ok (.aload_n 3, 1) := by decide +kernel
theorem dX6_waitingCellsFit_30 : decode cX6_waitingCellsFit 30 = .ok (.ifnonnull 5, 3) := by decide +kernel
theorem dX6_waitingCellsFit_33 : decode cX6_waitingCellsFit 33 = .ok (.iconst 0, 1) := by decide +kernel
theorem dX6_waitingCellsFit_34 : decode cX6_waitingCellsFit 34 = .ok (.ireturn, 1) := by decide +kernel
theorem dX6_waitingCellsFit_35 : decode cX6_waitingCellsFit 35 = .ok (.aload_n 3, 1) := by decide +kernel
theorem dX6_waitingCellsFit_36 : decode cX6_waitingCellsFit 36 = .ok (.getfield 103, 3) := by decide +kernel
theorem dX6_waitingCellsFit_39 : decode cX6_waitingCellsFit 39 = .ok (.ifCond .eq 18, 3) := by decide +kernel
theorem dX6_waitingCellsFit_42 : decode cX6_waitingCellsFit 42 = .ok (.aload_n 0, 1) := by decide +kernel
theorem dX6_waitingCellsFit_43 : decode cX6_waitingCellsFit 43 = .ok (.getfield 23, 3) := by decide +kernel
theorem dX6_waitingCellsFit_46 : decode cX6_waitingCellsFit 46 = .ok (.iload_n 2, 1) := by decide +kernel
theorem dX6_waitingCellsFit_47 : decode cX6_waitingCellsFit 47 = .ok (.iaload, 1) := by decide +kernel
theorem dX6_waitingCellsFit_48 : decode cX6_waitingCellsFit 48 = .ok (.ldc 179, 2) := by decide +kernel
theorem dX6_waitingCellsFit_50 : decode cX6_waitingCellsFit 50 = .ok (.if_icmp .ne 7, 3) := by decide +kernel
theorem dX6_waitingCellsFit_53 : decode cX6_waitingCellsFit 53 = .ok (.iconst 1, 1) := by decide +kernel
theorem dX6_waitingCellsFit_54 : decode cX6_waitingCellsFit 54 = .ok (.goto 4, 3) := by decide +kernel
theorem dX6_waitingCellsFit_57 : decode cX6_waitingCellsFit 57 = .ok (.iconst 0, 1) := by decide +kernel
theorem dX6_waitingCellsFit_58 : decode cX6_waitingCellsFit 58 = .ok (.istore 4, 2) := by decide +kernel
theorem dX6_waitingCellsFit_60 : decode cX6_waitingCellsFit 60 = .ok (.iload 4, 2) := by decide +kernel
theorem dX6_waitingCellsFit_62 : decode cX6_waitingCellsFit 62 = .ok (.ifCond .ne 21, 3) := by decide +kernel
theorem dX6_waitingCellsFit_65 : decode cX6_waitingCellsFit 65 = .ok (.aload_n 3, 1) := by decide +kernel
theorem dX6_waitingCellsFit_66 : decode cX6_waitingCellsFit 66 = .ok (.getfield 103, 3) := by decide +kernel
theorem dX6_waitingCellsFit_69 : decode cX6_waitingCellsFit 69 = .ok (.aload_n 0, 1) := by decide +kernel
theorem dX6_waitingCellsFit_70 : decode cX6_waitingCellsFit 70 = .ok (.getfield 23, 3) := by decide +kernel
theorem dX6_waitingCellsFit_73 : decode cX6_waitingCellsFit 73 = .ok (.iload_n 2, 1) := by decide +kernel
theorem dX6_waitingCellsFit_74 : decode cX6_waitingCellsFit 74 = .ok (.iaload, 1) := by decide +kernel
theorem dX6_waitingCellsFit_75 : decode cX6_waitingCellsFit 75 = .ok (.invokestatic 184, 3) := by decide +kernel
theorem dX6_waitingCellsFit_78 : decode cX6_waitingCellsFit 78 = .ok (.ifCond .ne 5, 3) := by decide +kernel
theorem dX6_waitingCellsFit_81 : decode cX6_waitingCellsFit 81 = .ok (.iconst 0, 1) := by decide +kernel
theorem dX6_waitingCellsFit_82 : decode cX6_waitingCellsFit 82 = .ok (.ireturn, 1) := by decide +kernel
theorem dX6_waitingCellsFit_83 : decode cX6_waitingCellsFit 83 = .ok (.iinc 2 1, 3) := by decide +kernel
theorem dX6_waitingCellsFit_86 : decode cX6_waitingCellsFit 86 = .ok (.goto (-71), 3) := by decide +kernel
theorem dX6_waitingCellsFit_89 : decode cX6_waitingCellsFit 89 = .ok (.iconst 1, 1) := by decide +kernel
theorem dX6_waitingCellsFit_90 : decode cX6_waitingCellsFit 90 = .ok (.ireturn, 1) := by decide +kernel
theorem dX6_isMaskOf_0 : decode cX6_isMaskOf 0 = .ok (.iload_n 1, 1) := by decide +kernel
theorem dX6_isMaskOf_1 : decode cX6_isMaskOf 1 = .ok (.tableswitch 104 0 5 #[39, 41, 56, 67, 83, 94], 39) := by decide +kernel
theorem dX6_isMaskOf_40 : decode cX6_isMaskOf 40 = .ok (.iconst 1, 1) := by decide +kernel
theorem dX6_isMaskOf_41 : decode cX6_isMaskOf 41 = .ok (.ireturn, 1) := by decide +kernel
theorem dX6_isMaskOf_42 : decode cX6_isMaskOf 42 = .ok (.iload_n 0, 1) := by decide +kernel
theorem dX6_isMaskOf_43 : decode cX6_isMaskOf 43 = .ok (.ifCond .eq 8, 3) := by decide +kernel
theorem dX6_isMaskOf_46 : decode cX6_isMaskOf 46 = .ok (.iload_n 0, 1) := by decide +kernel
theorem dX6_isMaskOf_47 : decode cX6_isMaskOf 47 = .ok (.iconst 4, 1) := by decide +kernel
theorem dX6_isMaskOf_48 : decode cX6_isMaskOf 48 = .ok (.if_icmp .ne 7, 3) := by decide +kernel
theorem dX6_isMaskOf_51 : decode cX6_isMaskOf 51 = .ok (.iconst 1, 1) := by decide +kernel
theorem dX6_isMaskOf_52 : decode cX6_isMaskOf 52 = .ok (.goto 4, 3) := by decide +kernel
theorem dX6_isMaskOf_55 : decode cX6_isMaskOf 55 = .ok (.iconst 0, 1) := by decide +kernel
theorem dX6_isMaskOf_56 : decode cX6_isMaskOf 56 = .ok (.ireturn, 1) := by decide +kernel
theorem dX6_isMaskOf_57 : decode cX6_isMaskOf 57 = .ok (.iload_n 0, 1) := by decide +kernel
theorem dX6_isMaskOf_58 : decode cX6_isMaskOf 58 = .ok (.iconst 2, 1) := by decide +kernel
theorem dX6_isMaskOf_59 : decode cX6_isMaskOf 59 = .ok (.if_icmp .ne 7, 3) := by decide +kernel
theorem dX6_isMaskOf_62 : decode cX6_isMaskOf 62 = .ok (.iconst 1, 1) := by decide +kernel
theorem dX6_isMaskOf_63 : decode cX6_isMaskOf 63 = .ok (.goto 4, 3) := by decide +kernel
theorem dX6_isMaskOf_66 : decode cX6_isMaskOf 66 = .ok (.iconst 0, 1) := by decide +kernel
theorem dX6_isMaskOf_67 : decode cX6_isMaskOf 67 = .ok (.ireturn, 1) := by decide +kernel
theorem dX6_isMaskOf_68 : decode cX6_isMaskOf 68 = .ok (.iload_n 0, 1) := by decide +kernel
theorem dX6_isMaskOf_69 : decode cX6_isMaskOf 69 = .ok (.iconst 2, 1) := by decide +kernel
theorem dX6_isMaskOf_70 : decode cX6_isMaskOf 70 = .ok (.if_icmp .eq 8, 3) := by decide +kernel
theorem dX6_isMaskOf_73 : decode cX6_isMaskOf 73 = .ok (.iload_n 0, 1) := by decide +kernel
theorem dX6_isMaskOf_74 : decode cX6_isMaskOf 74 = .ok (.iconst 3, 1) := by decide +kernel
theorem dX6_isMaskOf_75 : decode cX6_isMaskOf 75 = .ok (.if_icmp .ne 7, 3) := by decide +kernel
theorem dX6_isMaskOf_78 : decode cX6_isMaskOf 78 = .ok (.iconst 1, 1) := by decide +kernel
theorem dX6_isMaskOf_79 : decode cX6_isMaskOf 79 = .ok (.goto 4, 3) := by decide +kernel
theorem dX6_isMaskOf_82 : decode cX6_isMaskOf 82 = .ok (.iconst 0, 1) := by decide +kernel
theorem dX6_isMaskOf_83 : decode cX6_isMaskOf 83 = .ok (.ireturn, 1) := by decide +kernel
theorem dX6_isMaskOf_84 : decode cX6_isMaskOf 84 = .ok (.iload_n 0, 1) := by decide +kernel
theorem dX6_isMaskOf_85 : decode cX6_isMaskOf 85 = .ok (.iconst 4, 1) := by decide +kernel
theorem dX6_isMaskOf_86 : decode cX6_isMaskOf 86 = .ok (.if_icmp .ne 7, 3) := by decide +kernel
theorem dX6_isMaskOf_89 : decode cX6_isMaskOf 89 = .ok (.iconst 1, 1) := by decide +kernel
theorem dX6_isMaskOf_90 : decode cX6_isMaskOf 90 = .ok (.goto 4, 3) := by decide +kernel
theorem dX6_isMaskOf_93 : decode cX6_isMaskOf 93 = .ok (.iconst 0, 1) := by decide +kernel
theorem dX6_isMaskOf_94 : decode cX6_isMaskOf 94 = .ok (.ireturn, 1) := by decide +kernel
theorem dX6_isMaskOf_95 : decode cX6_isMaskOf 95 = .ok (.iload_n 0, 1) := by decide +kernel
theorem dX6_isMaskOf_96 : decode cX6_isMaskOf 96 = .ok (.ifCond .eq 7, 3) := by decide +kernel
theorem dX6_isMaskOf_99 : decode cX6_isMaskOf 99 = .ok (.iconst 1, 1) := by decide +kernel
theorem dX6_isMaskOf_100 : decode cX6_isMaskOf 100 = .ok (.goto 4, 3) := by decide +kernel
theorem dX6_isMaskOf_103 : decode cX6_isMaskOf 103 = .ok (.iconst 0, 1) := by decide +kernel
theorem dX6_isMaskOf_104 : decode cX6_isMaskOf 104 = .ok (.ireturn, 1) := by decide +kernel
theorem dX6_isMaskOf_105 : decode cX6_isMaskOf 105 = .ok (.iconst 0, 1) := by decide +kernel
theorem dX6_isMaskOf_106 : decode cX6_isMaskOf 106 = .ok (.ireturn, 1) := by decide +kernel
theorem dX6_isNumberOf_0 : decode cX6_isNumberOf 0 = .ok (.iload_n 0, 1) := by decide +kernel
theorem dX6_isNumberOf_1 : decode cX6_isNumberOf 1 = .ok (.iconst 3, 1) := by decide +kernel
theorem dX6_isNumberOf_2 : decode cX6_isNumberOf 2 = .ok (.if_icmp .ne 21, 3) := by decide +kernel
theorem dX6_isNumberOf_5 : decode cX6_isNumberOf 5 = .ok (.iload_n 1, 1) := by decide +kernel
theorem dX6_isNumberOf_6 : decode cX6_isNumberOf 6 = .ok (.iconst 1, 1) := by decide +kernel
theorem dX6_isNumberOf_7 : decode cX6_isNumberOf 7 = .ok (.if_icmp .lt 14, 3) := by decide +kernel
theorem dX6_isNumberOf_10 : decode cX6_isNumberOf 10 = .ok (.iload_n 1, 1) := by decide +kernel
theorem dX6_isNumberOf_11 : decode cX6_isNumberOf 11 = .ok (.sipush 1000, 3) := by decide +kernel
theorem dX6_isNumberOf_14 : decode cX6_isNumberOf 14 = .ok (.if_icmp .gt 7, 3) := by decide +kernel
theorem dX6_isNumberOf_17 : decode cX6_isNumberOf 17 = .ok (.iconst 1, 1) := by decide +kernel
theorem dX6_isNumberOf_18 : decode cX6_isNumberOf 18 = .ok (.goto 4, 3) := by decide +kernel
theorem dX6_isNumberOf_21 : decode cX6_isNumberOf 21 = .ok (.iconst 0, 1) := by decide +kernel
theorem dX6_isNumberOf_22 : decode cX6_isNumberOf 22 = .ok (.ireturn, 1) := by decide +kernel
theorem dX6_isNumberOf_23 : decode cX6_isNumberOf 23 = .ok (.iload_n 0, 1) := by decide +kernel
theorem dX6_isNumberOf_24 : decode cX6_isNumberOf 24 = .ok (.iconst 4, 1) := by decide +kernel
theorem dX6_isNumberOf_25 : decode cX6_isNumberOf 25 = .ok (.if_icmp .ne 19, 3) := by decide +kernel
theorem dX6_isNumberOf_28 : decode cX6_isNumberOf 28 = .ok (.iload_n 1, 1) := by decide +kernel
theorem dX6_isNumberOf_29 : decode cX6_isNumberOf 29 = .ok (.ifCond .lt 13, 3) := by decide +kernel
theorem dX6_isNumberOf_32 : decode cX6_isNumberOf 32 = .ok (.iload_n 1, 1) := by decide +kernel
theorem dX6_isNumberOf_33 : decode cX6_isNumberOf 33 = .ok (.bipush 11, 2) := by decide +kernel
theorem dX6_isNumberOf_35 : decode cX6_isNumberOf 35 = .ok (.if_icmp .gt 7, 3) := by decide +kernel
theorem dX6_isNumberOf_38 : decode cX6_isNumberOf 38 = .ok (.iconst 1, 1) := by decide +kernel
theorem dX6_isNumberOf_39 : decode cX6_isNumberOf 39 = .ok (.goto 4, 3) := by decide +kernel
theorem dX6_isNumberOf_42 : decode cX6_isNumberOf 42 = .ok (.iconst 0, 1) := by decide +kernel
theorem dX6_isNumberOf_43 : decode cX6_isNumberOf 43 = .ok (.ireturn, 1) := by decide +kernel
theorem dX6_isNumberOf_44 : decode cX6_isNumberOf 44 = .ok (.iload_n 1, 1) := by decide +kernel
theorem dX6_isNumberOf_45 : decode cX6_isNumberOf 45 = .ok (.ifCond .ne 7, 3) := by decide +kernel
theorem dX6_isNumberOf_48 : decode cX6_isNumberOf 48 = .ok (.iconst 1, 1) := by decide +kernel
theorem dX6_isNumberOf_49 : decode cX6_isNumberOf 49 = .ok (.goto 4, 3) := by decide +kernel
theorem dX6_isNumberOf_52 : decode cX6_isNumberOf 52 = .ok (.iconst 0, 1) := by decide +kernel
theorem dX6_isNumberOf_53 : decode cX6_isNumberOf 53 = .ok (.ireturn, 1) := by decide +kernel
theorem dX6_dialDigit_0 : decode cX6_dialDigit 0 = .ok (.iload_n 1, 1) := by decide +kernel
theorem dX6_dialDigit_1 : decode cX6_dialDigit 1 = .ok (.iconst 1, 1) := by decide +kernel
theorem dX6_dialDigit_2 : decode cX6_dialDigit 2 = .ok (.if_icmp .lt 8, 3) := by decide +kernel
theorem dX6_dialDigit_5 : decode cX6_dialDigit 5 = .ok (.iload_n 1, 1) := by decide +kernel
theorem dX6_dialDigit_6 : decode cX6_dialDigit 6 = .ok (.iconst 4, 1) := by decide +kernel
theorem dX6_dialDigit_7 : decode cX6_dialDigit 7 = .ok (.if_icmp .le 5, 3) := by decide +kernel
theorem dX6_dialDigit_10 : decode cX6_dialDigit 10 = .ok (.iconst (-1), 1) := by decide +kernel
theorem dX6_dialDigit_11 : decode cX6_dialDigit 11 = .ok (.ireturn, 1) := by decide +kernel
theorem dX6_dialDigit_12 : decode cX6_dialDigit 12 = .ok (.iload_n 2, 1) := by decide +kernel
theorem dX6_dialDigit_13 : decode cX6_dialDigit 13 = .ok (.iconst 1, 1) := by decide +kernel
theorem dX6_dialDigit_14 : decode cX6_dialDigit 14 = .ok (.if_icmp .eq 20, 3) := by decide +kernel
theorem dX6_dialDigit_17 : decode cX6_dialDigit 17 = .ok (.iload_n 2, 1) := by decide +kernel
theorem dX6_dialDigit_18 : decode cX6_dialDigit 18 = .ok (.iconst 3, 1) := by decide +kernel
theorem dX6_dialDigit_19 : decode cX6_dialDigit 19 = .ok (.if_icmp .eq 15, 3) := by decide +kernel
theorem dX6_dialDigit_22 : decode cX6_dialDigit 22 = .ok (.iload_n 2, 1) := by decide +kernel
theorem dX6_dialDigit_23 : decode cX6_dialDigit 23 = .ok (.bipush 7, 2) := by decide +kernel
theorem dX6_dialDigit_25 : decode cX6_dialDigit 25 = .ok (.if_icmp .eq 9, 3) := by decide +kernel
theorem dX6_dialDigit_28 : decode cX6_dialDigit 28 = .ok (.iload_n 2, 1) := by decide +kernel
theorem dX6_dialDigit_29 : decode cX6_dialDigit 29 = .ok (.bipush 9, 2) := by decide +kernel
theorem dX6_dialDigit_31 : decode cX6_dialDigit 31 = .ok (.if_icmp .ne 7, 3) := by decide +kernel
theorem dX6_dialDigit_34 : decode cX6_dialDigit 34 = .ok (.iconst 1, 1) := by decide +kernel
theorem dX6_dialDigit_35 : decode cX6_dialDigit 35 = .ok (.goto 4, 3) := by decide +kernel
theorem dX6_dialDigit_38 : decode cX6_dialDigit 38 = .ok (.iconst 0, 1) := by decide +kernel
theorem dX6_dialDigit_39 : decode cX6_dialDigit 39 = .ok (.istore 4, 2) := by decide +kernel
theorem dX6_dialDigit_41 : decode cX6_dialDigit 41 = .ok (.iload 4, 2) := by decide +kernel
theorem dX6_dialDigit_43 : decode cX6_dialDigit 43 = .ok (.ifCond .eq 13, 3) := by decide +kernel
theorem dX6_dialDigit_46 : decode cX6_dialDigit 46 = .ok (.iload_n 3, 1) := by decide +kernel
theorem dX6_dialDigit_47 : decode cX6_dialDigit 47 = .ok (.ifCond .lt 9, 3) := by decide +kernel
theorem dX6_dialDigit_50 : decode cX6_dialDigit 50 = .ok (.iload_n 3, 1) := by decide +kernel
theorem dX6_dialDigit_51 : decode cX6_dialDigit 51 = .ok (.bipush 9, 2) := by decide +kernel
theorem dX6_dialDigit_53 : decode cX6_dialDigit 53 = .ok (.if_icmp .le 6, 3) := by decide +kernel
theorem dX6_dialDigit_56 : decode cX6_dialDigit 56 = .ok (.bipush (-2), 2) := by decide +kernel
theorem dX6_dialDigit_58 : decode cX6_dialDigit 58 = .ok (.ireturn, 1) := by decide +kernel
theorem dX6_dialDigit_59 : decode cX6_dialDigit 59 = .ok (.aload_n 0, 1) := by decide +kernel
theorem dX6_dialDigit_60 : decode cX6_dialDigit 60 = .ok (.iload_n 1, 1) := by decide +kernel
theorem dX6_dialDigit_61 : decode cX6_dialDigit 61 = .ok (.iload_n 2, 1) := by decide +kernel
theorem dX6_dialDigit_62 : decode cX6_dialDigit 62 = .ok (.iload_n 3, 1) := by decide +kernel
theorem dX6_dialDigit_63 : decode cX6_dialDigit 63 = .ok (.invokevirtual 256, 3) := by decide +kernel
theorem dX6_dialDigit_66 : decode cX6_dialDigit 66 = .ok (.iconst 0, 1) := by decide +kernel
theorem dX6_dialDigit_67 : decode cX6_dialDigit 67 = .ok (.ireturn, 1) := by decide +kernel
theorem dX6_draftMasked_0 : decode cX6_draftMasked 0 = .ok (.aload_n 0, 1) := by decide +kernel
theorem dX6_draftMasked_1 : decode cX6_draftMasked 1 = .ok (.iload_n 1, 1) := by decide +kernel
theorem dX6_draftMasked_2 : decode cX6_draftMasked 2 = .ok (.invokevirtual 73, 3) := by decide +kernel
theorem dX6_draftMasked_5 : decode cX6_draftMasked 5 = .ok (.astore_n 2, 1) := by decide +kernel
theorem dX6_draftMasked_6 : decode cX6_draftMasked 6 = .ok (.aload_n 2, 1) := by decide +kernel
theorem dX6_draftMasked_7 : decode cX6_draftMasked 7 = .ok (.ifnonnull 4, 3) := by decide +kernel
theorem dX6_draftMasked_10 : decode cX6_draftMasked 10 = .ok (.return_, 1) := by decide +kernel
theorem dX6_draftMasked_11 : decode cX6_draftMasked 11 = .ok (.aload_n 2, 1) := by decide +kernel
theorem dX6_draftMasked_12 : decode cX6_draftMasked 12 = .ok (.invokevirtual 259, 3) := by decide +kernel
theorem dX6_draftMasked_15 : decode cX6_draftMasked 15 = .ok (.istore_n 3, 1) := by decide +kernel
theorem dX6_draftMasked_16 : decode cX6_draftMasked 16 = .ok (.iconst 0, 1) := by decide +kernel
theorem dX6_draftMasked_17 : decode cX6_draftMasked 17 = .ok (.istore 4, 2) := by decide +kernel
theorem dX6_draftMasked_19 : decode cX6_draftMasked 19 = .ok (.iload 4, 2) := by decide +kernel
theorem dX6_draftMasked_21 : decode cX6_draftMasked 21 = .ok (.aload_n 2, 1) := by decide +kernel
theorem dX6_draftMasked_22 : decode cX6_draftMasked 22 = .ok (.getfield 77, 3) := by decide +kernel
theorem dX6_draftMasked_25 : decode cX6_draftMasked 25 = .ok (.if_icmp .ge 71, 3) := by decide +kernel
theorem dX6_draftMasked_28 : decode cX6_draftMasked 28 = .ok (.iload_n 3, 1) := by decide +kernel
theorem dX6_draftMasked_29 : decode cX6_draftMasked 29 = .ok (.ifCond .eq 17, 3) := by decide +kernel
theorem dX6_draftMasked_32 : decode cX6_draftMasked 32 = .ok (.aload_n 0, 1) := by decide +kernel
theorem dX6_draftMasked_33 : decode cX6_draftMasked 33 = .ok (.aload_n 0, 1) := by decide +kernel
theorem dX6_draftMasked_34 : decode cX6_draftMasked 34 = .ok (.iload_n 1, 1) := by decide +kernel
theorem dX6_draftMasked_35 : decode cX6_draftMasked 35 = .ok (.iload 4, 2) := by decide +kernel
theorem dX6_draftMasked_37 : decode cX6_draftMasked 37 = .ok (.invokevirtual 263, 3) := by decide +kernel
theorem dX6_draftMasked_40 : decode cX6_draftMasked 40 = .ok (.invokevirtual 197, 3) := by decide +kernel
theorem dX6_draftMasked_43 : decode cX6_draftMasked 43 = .ok (.goto 4, 3) := by decide +kernel
theorem dX6_draftMasked_46 : decode cX6_draftMasked 46 = .ok (.iconst 0, 1) := by decide +kernel
theorem dX6_draftMasked_47 : decode cX6_draftMasked 47 = .ok (.istore 5, 2) := by decide +kernel
theorem dX6_draftMasked_49 : decode cX6_draftMasked 49 = .ok (.iconst 0, 1) := by decide +kernel
theorem dX6_draftMasked_50 : decode cX6_draftMasked 50 = .ok (.istore 6, 2) := by decide +kernel
theorem dX6_draftMasked_52 : decode cX6_draftMasked 52 = .ok (.iload 6, 2) := by decide +kernel
theorem dX6_draftMasked_54 : decode cX6_draftMasked 54 = .ok (.aload_n 2, 1) := by decide +kernel
theorem dX6_draftMasked_55 : decode cX6_draftMasked 55 = .ok (.getfield 80, 3) := by decide +kernel
theorem dX6_draftMasked_58 : decode cX6_draftMasked 58 = .ok (.if_icmp .ge 32, 3) := by decide +kernel
theorem dX6_draftMasked_61 : decode cX6_draftMasked 61 = .ok (.aload_n 0, 1) := by decide +kernel
theorem dX6_draftMasked_62 : decode cX6_draftMasked 62 = .ok (.getfield 51, 3) := by decide +kernel
theorem dX6_draftMasked_65 : decode cX6_draftMasked 65 = .ok (.iload_n 1, 1) := by decide +kernel
theorem dX6_draftMasked_66 : decode cX6_draftMasked 66 = .ok (.iload 4, 2) := by decide +kernel
theorem dX6_draftMasked_68 : decode cX6_draftMasked 68 = .ok (.iload 6, 2) := by decide +kernel
theorem dX6_draftMasked_70 : decode cX6_draftMasked 70 = .ok (.aload_n 0, 1) := by decide +kernel
theorem dX6_draftMasked_71 : decode cX6_draftMasked 71 = .ok (.iload_n 1, 1) := by decide +kernel
theorem dX6_draftMasked_72 : decode cX6_draftMasked 72 = .ok (.iload 4, 2) := by decide +kernel
theorem dX6_draftMasked_74 : decode cX6_draftMasked 74 = .ok (.iload 6, 2) := by decide +kernel
theorem dX6_draftMasked_76 : decode cX6_draftMasked 76 = .ok (.iload 5, 2) := by decide +kernel
theorem dX6_draftMasked_78 : decode cX6_draftMasked 78 = .ok (.invokevirtual 266, 3) := by decide +kernel
theorem dX6_draftMasked_81 : decode cX6_draftMasked 81 = .ok (.invokevirtual 95, 3) := by decide +kernel
theorem dX6_draftMasked_84 : decode cX6_draftMasked 84 = .ok (.iinc 6 1, 3) := by decide +kernel
theorem dX6_draftMasked_87 : decode cX6_draftMasked 87 = .ok (.goto (-35), 3) := by decide +kernel
theorem dX6_draftMasked_90 : decode cX6_draftMasked 90 = .ok (.iinc 4 1, 3) := by decide +kernel
theorem dX6_draftMasked_93 : decode cX6_draftMasked 93 = .ok (.goto (-74), 3) := by decide +kernel
theorem dX6_draftMasked_96 : decode cX6_draftMasked 96 = .ok (.return_, 1) := by decide +kernel
theorem dX6_maskedCell_0 : decode cX6_maskedCell 0 = .ok (.aload_n 0, 1) := by decide +kernel
theorem dX6_maskedCell_1 : decode cX6_maskedCell 1 = .ok (.iload_n 1, 1) := by decide +kernel
theorem dX6_maskedCell_2 : decode cX6_maskedCell 2 = .ok (.invokevirtual 73, 3) := by decide +kernel
theorem dX6_maskedCell_5 : decode cX6_maskedCell 5 = .ok (.astore 5, 2) := by decide +kernel
theorem dX6_maskedCell_7 : decode cX6_maskedCell 7 = .ok (.aload_n 0, 1) := by decide +kernel
theorem dX6_maskedCell_8 : decode cX6_maskedCell 8 = .ok (.iload_n 1, 1) := by decide +kernel
theorem dX6_maskedCell_9 : decode cX6_maskedCell 9 = .ok (.iload_n 3, 1) := by decide +kernel
theorem dX6_maskedCell_10 : decode cX6_maskedCell 10 = .ok (.invokevirtual 99, 3) := by decide +kernel
theorem dX6_maskedCell_13 : decode cX6_maskedCell 13 = .ok (.astore 6, 2) := by decide +kernel
theorem dX6_maskedCell_15 : decode cX6_maskedCell 15 = .ok (.aload 5, 2) := by decide +kernel
theorem dX6_maskedCell_17 : decode cX6_maskedCell 17 = .ok (.ifnull 8, 3) := by decide +kernel
theorem dX6_maskedCell_20 : decode cX6_maskedCell 20 = .ok (.aload 6, 2) := by decide +kernel
theorem dX6_maskedCell_22 : decode cX6_maskedCell 22 = .ok (.ifnonnull 6, 3) := by decide +kernel
theorem dX6_maskedCell_25 : decode cX6_maskedCell 25 = .ok (.ldc 179, 2) := by decide +kernel
theorem dX6_maskedCell_27 : decode cX6_maskedCell 27 = .ok (.ireturn, 1) := by decide +kernel
theorem dX6_maskedCell_28 : decode cX6_maskedCell 28 = .ok (.aload 6, 2) := by decide +kernel
theorem dX6_maskedCell_30 : decode cX6_maskedCell 30 = .ok (.getfield 118, 3) := by decide +kernel
theorem dX6_maskedCell_33 : decode cX6_maskedCell 33 = .ok (.iconst 4, 1) := by decide +kernel
theorem dX6_maskedCell_34 : decode cX6_maskedCell 34 = .ok (.if_icmp .ne 16, 3) := by decide +kernel
theorem dX6_maskedCell_37 : decode cX6_maskedCell 37 = .ok (.aload_n 0, 1) := by decide +kernel
theorem dX6_maskedCell_38 : decode cX6_maskedCell 38 = .ok (.iload_n 1, 1) := by decide +kernel
theorem dX6_maskedCell_39 : decode cX6_maskedCell 39 = .ok (.iload_n 2, 1) := by decide +kernel
theorem dX6_maskedCell_40 : decode cX6_maskedCell 40 = .ok (.iload_n 3, 1) := by decide +kernel
theorem dX6_maskedCell_41 : decode cX6_maskedCell 41 = .ok (.aload 6, 2) := by decide +kernel
theorem dX6_maskedCell_43 : decode cX6_maskedCell 43 = .ok (.getfield 121, 3) := by decide +kernel
theorem dX6_maskedCell_46 : decode cX6_maskedCell 46 = .ok (.invokevirtual 270, 3) := by decide +kernel
theorem dX6_maskedCell_49 : decode cX6_maskedCell 49 = .ok (.ireturn, 1) := by decide +kernel
theorem dX6_maskedCell_50 : decode cX6_maskedCell 50 = .ok (.aload_n 0, 1) := by decide +kernel
theorem dX6_maskedCell_51 : decode cX6_maskedCell 51 = .ok (.getfield 30, 3) := by decide +kernel
theorem dX6_maskedCell_54 : decode cX6_maskedCell 54 = .ok (.iload_n 1, 1) := by decide +kernel
theorem dX6_maskedCell_55 : decode cX6_maskedCell 55 = .ok (.iload_n 2, 1) := by decide +kernel
theorem dX6_maskedCell_56 : decode cX6_maskedCell 56 = .ok (.iload_n 3, 1) := by decide +kernel
theorem dX6_maskedCell_57 : decode cX6_maskedCell 57 = .ok (.invokevirtual 180, 3) := by decide +kernel
theorem dX6_maskedCell_60 : decode cX6_maskedCell 60 = .ok (.istore 7, 2) := by decide +kernel
theorem dX6_maskedCell_62 : decode cX6_maskedCell 62 = .ok (.iload 7, 2) := by decide +kernel
theorem dX6_maskedCell_64 : decode cX6_maskedCell 64 = .ok (.ldc 179, 2) := by decide +kernel
theorem dX6_maskedCell_66 : decode cX6_maskedCell 66 = .ok (.if_icmp .eq 12, 3) := by decide +kernel
theorem dX6_maskedCell_69 : decode cX6_maskedCell 69 = .ok (.aload 6, 2) := by decide +kernel
theorem dX6_maskedCell_71 : decode cX6_maskedCell 71 = .ok (.getfield 118, 3) := by decide +kernel
theorem dX6_maskedCell_74 : decode cX6_maskedCell 74 = .ok (.iconst 5, 1) := by decide +kernel
theorem dX6_maskedCell_75 : decode cX6_maskedCell 75 = .ok (.if_icmp .ne 6, 3) := by decide +kernel
theorem dX6_maskedCell_78 : decode cX6_maskedCell 78 = .ok (.ldc 179, 2) := by decide +kernel
theorem dX6_maskedCell_80 : decode cX6_maskedCell 80 = .ok (.ireturn, 1) := by decide +kernel
theorem dX6_maskedCell_81 : decode cX6_maskedCell 81 = .ok (.aload 6, 2) := by decide +kernel
theorem dX6_maskedCell_83 : decode cX6_maskedCell 83 = .ok (.getfield 103, 3) := by decide +kernel
theorem dX6_maskedCell_86 : decode cX6_maskedCell 86 = .ok (.iconst 1, 1) := by decide +kernel
theorem dX6_maskedCell_87 : decode cX6_maskedCell 87 = .ok (.if_icmp .ne 15, 3) := by decide +kernel
theorem dX6_maskedCell_90 : decode cX6_maskedCell 90 = .ok (.aload_n 0, 1) := by decide +kernel
theorem dX6_maskedCell_91 : decode cX6_maskedCell 91 = .ok (.aload 6, 2) := by decide +kernel
theorem dX6_maskedCell_93 : decode cX6_maskedCell 93 = .ok (.getfield 146, 3) := by decide +kernel
theorem dX6_maskedCell_96 : decode cX6_maskedCell 96 = .ok (.iload 7, 2) := by decide +kernel
theorem dX6_maskedCell_98 : decode cX6_maskedCell 98 = .ok (.invokevirtual 273, 3) := by decide +kernel
theorem dX6_maskedCell_101 : decode cX6_maskedCell 101 = .ok (.ireturn, 1) := by decide +kernel
theorem dX6_maskedCell_102 : decode cX6_maskedCell 102 = .ok (.aload 6, 2) := by decide +kernel
theorem dX6_maskedCell_104 : decode cX6_maskedCell 104 = .ok (.getfield 118, 3) := by decide +kernel
theorem dX6_maskedCell_107 : decode cX6_maskedCell 107 = .ok (.tableswitch 71 1 3 #[25, 51, 57], 25) := by decide +kernel
theorem dX6_maskedCell_132 : decode cX6_maskedCell 132 = .ok (.aload 6, 2) := by decide +kernel
theorem dX6_maskedCell_134 : decode cX6_maskedCell 134 = .ok (.getfield 103, 3) := by decide +kernel
theorem dX6_maskedCell_137 : decode cX6_maskedCell 137 = .ok (.ifCond .ne 13, 3) := by decide +kernel
theorem dX6_maskedCell_140 : decode cX6_maskedCell 140 = .ok (.aload 5, 2) := by decide +kernel
theorem dX6_maskedCell_142 : decode cX6_maskedCell 142 = .ok (.iload 7, 2) := by decide +kernel
theorem dX6_maskedCell_144 : decode cX6_maskedCell 144 = .ok (.invokevirtual 187, 3) := by decide +kernel
theorem dX6_maskedCell_147 : decode cX6_maskedCell 147 = .ok (.goto 10, 3) := by decide +kernel
theorem dX6_maskedCell_150 : decode cX6_maskedCell 150 = .ok (.aload 6, 2) := by decide +kernel
theorem dX6_maskedCell_152 : decode cX6_maskedCell 152 = .ok (.iload 7, 2) := by decide +kernel
theorem dX6_maskedCell_154 : decode cX6_maskedCell 154 = .ok (.invokevirtual 191, 3) := by decide +kernel
theorem dX6_maskedCell_157 : decode cX6_maskedCell 157 = .ok (.ireturn, 1) := by decide +kernel
theorem dX6_maskedCell_158 : decode cX6_maskedCell 158 = .ok (.iload 7, 2) := by decide +kernel
theorem dX6_maskedCell_160 : decode cX6_maskedCell 160 = .ok (.iload 4, 2) := by decide +kernel
theorem dX6_maskedCell_162 : decode cX6_maskedCell 162 = .ok (.iadd, 1) := by decide +kernel
theorem dX6_maskedCell_163 : decode cX6_maskedCell 163 = .ok (.ireturn, 1) := by decide +kernel
theorem dX6_maskedCell_164 : decode cX6_maskedCell 164 = .ok (.iload 7, 2) := by decide +kernel
theorem dX6_maskedCell_166 : decode cX6_maskedCell 166 = .ok (.iload 7, 2) := by decide +kernel
theorem dX6_maskedCell_168 : decode cX6_maskedCell 168 = .ok (.aload 6, 2) := by decide +kernel
theorem dX6_maskedCell_170 : decode cX6_maskedCell 170 = .ok (.getfield 121, 3) := by decide +kernel
theorem dX6_maskedCell_173 : decode cX6_maskedCell 173 = .ok (.invokestatic 276, 3) := by decide +kernel
theorem dX6_maskedCell_176 : decode cX6_maskedCell 176 = .ok (.isub, 1) := by decide +kernel
theorem dX6_maskedCell_177 : decode cX6_maskedCell 177 = .ok (.ireturn, 1) := by decide +kernel
theorem dX6_maskedCell_178 : decode cX6_maskedCell 178 = .ok (.iload 7, 2) := by decide +kernel
theorem dX6_maskedCell_180 : decode cX6_maskedCell 180 = .ok (.ireturn, 1) := by decide +kernel
theorem dX6_turnedRef_0 : decode cX6_turnedRef 0 = .ok (.aload_n 0, 1) := by decide +kernel
theorem dX6_turnedRef_1 : decode cX6_turnedRef 1 = .ok (.iload_n 1, 1) := by decide +kernel
theorem dX6_turnedRef_2 : decode cX6_turnedRef 2 = .ok (.invokevirtual 73, 3) := by decide +kernel
theorem dX6_turnedRef_5 : decode cX6_turnedRef 5 = .ok (.astore_n 3, 1) := by decide +kernel
theorem dX6_turnedRef_6 : decode cX6_turnedRef 6 = .ok (.aload_n 3, 1) := by decide +kernel
theorem dX6_turnedRef_7 : decode cX6_turnedRef 7 = .ok (.ifnull 18, 3) := by decide +kernel
theorem dX6_turnedRef_10 : decode cX6_turnedRef 10 = .ok (.aload_n 3, 1) := by decide +kernel
theorem dX6_turnedRef_11 : decode cX6_turnedRef 11 = .ok (.invokevirtual 279, 3) := by decide +kernel
theorem dX6_turnedRef_14 : decode cX6_turnedRef 14 = .ok (.ifCond .eq 11, 3) := by decide +kernel
theorem dX6_turnedRef_17 : decode cX6_turnedRef 17 = .ok (.aload_n 3, 1) := by decide +kernel
theorem dX6_turnedRef_18 : decode cX6_turnedRef 18 = .ok (.iload_n 2, 1) := by decide +kernel
theorem dX6_turnedRef_19 : decode cX6_turnedRef 19 = .ok (.invokevirtual 187, 3) := by decide +kernel
theorem dX6_turnedRef_22 : decode cX6_turnedRef 22 = .ok (.goto 4, 3) := by decide +kernel
theorem dX6_turnedRef_25 : decode cX6_turnedRef 25 = .ok (.iload_n 2, 1) := by decide +kernel
theorem dX6_turnedRef_26 : decode cX6_turnedRef 26 = .ok (.ireturn, 1) := by decide +kernel
theorem dX6_dealtCell_0 : decode cX6_dealtCell 0 = .ok (.aload_n 0, 1) := by decide +kernel
theorem dX6_dealtCell_1 : decode cX6_dealtCell 1 = .ok (.iload_n 1, 1) := by decide +kernel
theorem dX6_dealtCell_2 : decode cX6_dealtCell 2 = .ok (.invokevirtual 200, 3) := by decide +kernel
theorem dX6_dealtCell_5 : decode cX6_dealtCell 5 = .ok (.istore 5, 2) := by decide +kernel
theorem dX6_dealtCell_7 : decode cX6_dealtCell 7 = .ok (.iload 5, 2) := by decide +kernel
theorem dX6_dealtCell_9 : decode cX6_dealtCell 9 = .ok (.iconst 1, 1) := by decide +kernel
theorem dX6_dealtCell_10 : decode cX6_dealtCell 10 = .ok (.if_icmp .ge 8, 3) := by decide +kernel
theorem dX6_dealtCell_13 : decode cX6_dealtCell 13 = .ok (.ldc 179, 2) := by decide +kernel
theorem dX6_dealtCell_15 : decode cX6_dealtCell 15 = .ok (.goto 19, 3) := by decide +kernel
theorem dX6_dealtCell_18 : decode cX6_dealtCell 18 = .ok (.aload_n 0, 1) := by decide +kernel
theorem dX6_dealtCell_19 : decode cX6_dealtCell 19 = .ok (.getfield 30, 3) := by decide +kernel
theorem dX6_dealtCell_22 : decode cX6_dealtCell 22 = .ok (.iload_n 1, 1) := by decide +kernel
theorem dX6_dealtCell_23 : decode cX6_dealtCell 23 = .ok (.iload_n 2, 1) := by decide +kernel
theorem dX6_dealtCell_24 : decode cX6_dealtCell 24 = .ok (.iload 4, 2) := by decide +kernel
theorem dX6_dealtCell_26 : decode cX6_dealtCell 26 = .ok (.iadd, 1) := by decide +kernel
theorem dX6_dealtCell_27 : decode cX6_dealtCell 27 = .ok (.iload 5, 2) := by decide +kernel
theorem dX6_dealtCell_29 : decode cX6_dealtCell 29 = .ok (.irem, 1) := by decide +kernel
theorem dX6_dealtCell_30 : decode cX6_dealtCell 30 = .ok (.iload_n 3, 1) := by decide +kernel
theorem dX6_dealtCell_31 : decode cX6_dealtCell 31 = .ok (.invokevirtual 180, 3) := by decide +kernel
theorem dX6_dealtCell_34 : decode cX6_dealtCell 34 = .ok (.ireturn, 1) := by decide +kernel
theorem dX6_tooFine_0 : decode cX6_tooFine 0 = .ok (.iload_n 1, 1) := by decide +kernel
theorem dX6_tooFine_1 : decode cX6_tooFine 1 = .ok (.iconst 1, 1) := by decide +kernel
theorem dX6_tooFine_2 : decode cX6_tooFine 2 = .ok (.if_icmp .ge 7, 3) := by decide +kernel
theorem dX6_tooFine_5 : decode cX6_tooFine 5 = .ok (.iconst 0, 1) := by decide +kernel
theorem dX6_tooFine_6 : decode cX6_tooFine 6 = .ok (.goto 8, 3) := by decide +kernel
theorem dX6_tooFine_9 : decode cX6_tooFine 9 = .ok (.iload_n 0, 1) := by decide +kernel
theorem dX6_tooFine_10 : decode cX6_tooFine 10 = .ok (.iload_n 1, 1) := by decide +kernel
theorem dX6_tooFine_11 : decode cX6_tooFine 11 = .ok (.invokestatic 282, 3) := by decide +kernel
theorem dX6_tooFine_14 : decode cX6_tooFine 14 = .ok (.ireturn, 1) := by decide +kernel
theorem dX6_lossBy_0 : decode cX6_lossBy 0 = .ok (.iconst 0, 1) := by decide +kernel
theorem dX6_lossBy_1 : decode cX6_lossBy 1 = .ok (.istore 4, 2) := by decide +kernel
theorem dX6_lossBy_3 : decode cX6_lossBy 3 = .ok (.iconst 0, 1) := by decide +kernel
theorem dX6_lossBy_4 : decode cX6_lossBy 4 = .ok (.istore 5, 2) := by decide +kernel
theorem dX6_lossBy_6 : decode cX6_lossBy 6 = .ok (.iload 5, 2) := by decide +kernel
theorem dX6_lossBy_8 : decode cX6_lossBy 8 = .ok (.aload_n 0, 1) := by decide +kernel
theorem dX6_lossBy_9 : decode cX6_lossBy 9 = .ok (.iload_n 1, 1) := by decide +kernel
theorem dX6_lossBy_10 : decode cX6_lossBy 10 = .ok (.invokevirtual 200, 3) := by decide +kernel
theorem dX6_lossBy_13 : decode cX6_lossBy 13 = .ok (.if_icmp .ge 40, 3) := by decide +kernel
theorem dX6_lossBy_16 : decode cX6_lossBy 16 = .ok (.aload_n 0, 1) := by decide +kernel
theorem dX6_lossBy_17 : decode cX6_lossBy 17 = .ok (.getfield 30, 3) := by decide +kernel
theorem dX6_lossBy_20 : decode cX6_lossBy 20 = .ok (.iload_n 1, 1) := by decide +kernel
theorem dX6_lossBy_21 : decode cX6_lossBy 21 = .ok (.iload 5, 2) := by decide +kernel
theorem dX6_lossBy_23 : decode cX6_lossBy 23 = .ok (.iload_n 2, 1) := by decide +kernel
theorem dX6_lossBy_24 : decode cX6_lossBy 24 = .ok (.invokevirtual 180, 3) := by decide +kernel
theorem dX6_lossBy_27 : decode cX6_lossBy 27 = .ok (.istore 6, 2) := by decide +kernel
theorem dX6_lossBy_29 : decode cX6_lossBy 29 = .ok (.iload 6, 2) := by decide +kernel
theorem dX6_lossBy_31 : decode cX6_lossBy 31 = .ok (.ldc 179, 2) := by decide +kernel
theorem dX6_lossBy_33 : decode cX6_lossBy 33 = .ok (.if_icmp .eq 14, 3) := by decide +kernel
theorem dX6_lossBy_36 : decode cX6_lossBy 36 = .ok (.iload 4, 2) := by decide +kernel
theorem dX6_lossBy_38 : decode cX6_lossBy 38 = .ok (.iload 6, 2) := by decide +kernel
theorem dX6_lossBy_40 : decode cX6_lossBy 40 = .ok (.iload_n 3, 1) := by decide +kernel
theorem dX6_lossBy_41 : decode cX6_lossBy 41 = .ok (.invokestatic 276, 3) := by decide +kernel
theorem dX6_lossBy_44 : decode cX6_lossBy 44 = .ok (.iadd, 1) := by decide +kernel
theorem dX6_lossBy_45 : decode cX6_lossBy 45 = .ok (.istore 4, 2) := by decide +kernel
theorem dX6_lossBy_47 : decode cX6_lossBy 47 = .ok (.iinc 5 1, 3) := by decide +kernel
theorem dX6_lossBy_50 : decode cX6_lossBy 50 = .ok (.goto (-44), 3) := by decide +kernel
theorem dX6_lossBy_53 : decode cX6_lossBy 53 = .ok (.iload 4, 2) := by decide +kernel
theorem dX6_lossBy_55 : decode cX6_lossBy 55 = .ok (.ireturn, 1) := by decide +kernel
theorem dX6_ownerOf_0 : decode cX6_ownerOf 0 = .ok (.aload_n 0, 1) := by decide +kernel
theorem dX6_ownerOf_1 : decode cX6_ownerOf 1 = .ok (.iload_n 1, 1) := by decide +kernel
theorem dX6_ownerOf_2 : decode cX6_ownerOf 2 = .ok (.invokevirtual 73, 3) := by decide +kernel
theorem dX6_ownerOf_5 : decode cX6_ownerOf 5 = .ok (.astore_n 3, 1) := by decide +kernel
theorem dX6_ownerOf_6 : decode cX6_ownerOf 6 = .ok (.aload_n 3, 1) := by decide +kernel
theorem dX6_ownerOf_7 : decode cX6_ownerOf 7 = .ok (.ifnonnull 8, 3) := by decide +kernel
theorem dX6_ownerOf_10 : decode cX6_ownerOf 10 = .ok (.ldc 179, 2) := by decide +kernel
theorem dX6_ownerOf_12 : decode cX6_ownerOf 12 = .ok (.goto 16, 3) := by decide +kernel
theorem dX6_ownerOf_15 : decode cX6_ownerOf 15 = .ok (.aload_n 0, 1) := by decide +kernel
theorem dX6_ownerOf_16 : decode cX6_ownerOf 16 = .ok (.getfield 30, 3) := by decide +kernel
theorem dX6_ownerOf_19 : decode cX6_ownerOf 19 = .ok (.iload_n 1, 1) := by decide +kernel
theorem dX6_ownerOf_20 : decode cX6_ownerOf 20 = .ok (.iload_n 2, 1) := by decide +kernel
theorem dX6_ownerOf_21 : decode cX6_ownerOf 21 = .ok (.aload_n 3, 1) := by decide +kernel
theorem dX6_ownerOf_22 : decode cX6_ownerOf 22 = .ok (.getfield 108, 3) := by decide +kernel
theorem dX6_ownerOf_25 : decode cX6_ownerOf 25 = .ok (.invokevirtual 180, 3) := by decide +kernel
theorem dX6_ownerOf_28 : decode cX6_ownerOf 28 = .ok (.ireturn, 1) := by decide +kernel
theorem dX6_shiftOf_0 : decode cX6_shiftOf 0 = .ok (.iload_n 1, 1) := by decide +kernel
theorem dX6_shiftOf_1 : decode cX6_shiftOf 1 = .ok (.ldc 179, 2) := by decide +kernel
theorem dX6_shiftOf_3 : decode cX6_shiftOf 3 = .ok (.if_icmp .ne 5, 3) := by decide +kernel
theorem dX6_shiftOf_6 : decode cX6_shiftOf 6 = .ok (.iconst 0, 1) := by decide +kernel
theorem dX6_shiftOf_7 : decode cX6_shiftOf 7 = .ok (.ireturn, 1) := by decide +kernel
theorem dX6_shiftOf_8 : decode cX6_shiftOf 8 = .ok (.aload_n 0, 1) := by decide +kernel
theorem dX6_shiftOf_9 : decode cX6_shiftOf 9 = .ok (.getfield 37, 3) := by decide +kernel
theorem dX6_shiftOf_12 : decode cX6_shiftOf 12 = .ok (.invokevirtual 285, 3) := by decide +kernel
theorem dX6_shiftOf_15 : decode cX6_shiftOf 15 = .ok (.iconst 0, 1) := by decide +kernel
theorem dX6_shiftOf_16 : decode cX6_shiftOf 16 = .ok (.istore_n 2, 1) := by decide +kernel
theorem dX6_shiftOf_17 : decode cX6_shiftOf 17 = .ok (.iload_n 2, 1) := by decide +kernel
theorem dX6_shiftOf_18 : decode cX6_shiftOf 18 = .ok (.aload_n 0, 1) := by decide +kernel
theorem dX6_shiftOf_19 : decode cX6_shiftOf 19 = .ok (.getfield 54, 3) := by decide +kernel
theorem dX6_shiftOf_22 : decode cX6_shiftOf 22 = .ok (.if_icmp .ge 15, 3) := by decide +kernel
theorem dX6_shiftOf_25 : decode cX6_shiftOf 25 = .ok (.aload_n 0, 1) := by decide +kernel
theorem dX6_shiftOf_26 : decode cX6_shiftOf 26 = .ok (.iload_n 2, 1) := by decide +kernel
theorem dX6_shiftOf_27 : decode cX6_shiftOf 27 = .ok (.iload_n 1, 1) := by decide +kernel
theorem dX6_shiftOf_28 : decode cX6_shiftOf 28 = .ok (.invokevirtual 288, 3) := by decide +kernel
theorem dX6_shiftOf_31 : decode cX6_shiftOf 31 = .ok (.iinc 2 1, 3) := by decide +kernel
theorem dX6_shiftOf_34 : decode cX6_shiftOf 34 = .ok (.goto (-17), 3) := by decide +kernel
theorem dX6_shiftOf_37 : decode cX6_shiftOf 37 = .ok (.iconst 0, 1) := by decide +kernel
theorem dX6_shiftOf_38 : decode cX6_shiftOf 38 = .ok (.istore_n 2, 1) := by decide +kernel
theorem dX6_shiftOf_39 : decode cX6_shiftOf 39 = .ok (.iload_n 2, 1) := by decide +kernel
theorem dX6_shiftOf_40 : decode cX6_shiftOf 40 = .ok (.bipush 61, 2) := by decide +kernel
theorem dX6_shiftOf_42 : decode cX6_shiftOf 42 = .ok (.if_icmp .ge 37, 3) := by decide +kernel
theorem dX6_shiftOf_45 : decode cX6_shiftOf 45 = .ok (.iload_n 1, 1) := by decide +kernel
theorem dX6_shiftOf_46 : decode cX6_shiftOf 46 = .ok (.aload_n 0, 1) := by decide +kernel
theorem dX6_shiftOf_47 : decode cX6_shiftOf 47 = .ok (.getfield 64, 3) := by decide +kernel
theorem dX6_shiftOf_50 : decode cX6_shiftOf 50 = .ok (.iadd, 1) := by decide +kernel
theorem dX6_shiftOf_51 : decode cX6_shiftOf 51 = .ok (.iload_n 2, 1) := by decide +kernel
theorem dX6_shiftOf_52 : decode cX6_shiftOf 52 = .ok (.iadd, 1) := by decide +kernel
theorem dX6_shiftOf_53 : decode cX6_shiftOf 53 = .ok (.bipush 61, 2) := by decide +kernel
theorem dX6_shiftOf_55 : decode cX6_shiftOf 55 = .ok (.irem, 1) := by decide +kernel
theorem dX6_shiftOf_56 : decode cX6_shiftOf 56 = .ok (.bipush 30, 2) := by decide +kernel
theorem dX6_shiftOf_58 : decode cX6_shiftOf 58 = .ok (.isub, 1) := by decide +kernel
theorem dX6_shiftOf_59 : decode cX6_shiftOf 59 = .ok (.istore_n 3, 1) := by decide +kernel
theorem dX6_shiftOf_60 : decode cX6_shiftOf 60 = .ok (.aload_n 0, 1) := by decide +kernel
theorem dX6_shiftOf_61 : decode cX6_shiftOf 61 = .ok (.getfield 37, 3) := by decide +kernel
theorem dX6_shiftOf_64 : decode cX6_shiftOf 64 = .ok (.iload_n 3, 1) := by decide +kernel
theorem dX6_shiftOf_65 : decode cX6_shiftOf 65 = .ok (.invokevirtual 291, 3) := by decide +kernel
theorem dX6_shiftOf_68 : decode cX6_shiftOf 68 = .ok (.ifCond .eq 5, 3) := by decide +kernel
theorem dX6_shiftOf_71 : decode cX6_shiftOf 71 = .ok (.iload_n 3, 1) := by decide +kernel
theorem dX6_shiftOf_72 : decode cX6_shiftOf 72 = .ok (.ireturn, 1) := by decide +kernel
theorem dX6_shiftOf_73 : decode cX6_shiftOf 73 = .ok (.iinc 2 1, 3) := by decide +kernel
theorem dX6_shiftOf_76 : decode cX6_shiftOf 76 = .ok (.goto (-37), 3) := by decide +kernel
theorem dX6_shiftOf_79 : decode cX6_shiftOf 79 = .ok (.iconst 0, 1) := by decide +kernel
theorem dX6_shiftOf_80 : decode cX6_shiftOf 80 = .ok (.ireturn, 1) := by decide +kernel
theorem dX6_narrowRoom_0 : decode cX6_narrowRoom 0 = .ok (.aload_n 0, 1) := by decide +kernel
theorem dX6_narrowRoom_1 : decode cX6_narrowRoom 1 = .ok (.iload_n 1, 1) := by decide +kernel
theorem dX6_narrowRoom_2 : decode cX6_narrowRoom 2 = .ok (.invokevirtual 73, 3) := by decide +kernel
theorem dX6_narrowRoom_5 : decode cX6_narrowRoom 5 = .ok (.astore_n 3, 1) := by decide +kernel
theorem dX6_narrowRoom_6 : decode cX6_narrowRoom 6 = .ok (.aload_n 3, 1) := by decide +kernel
theorem dX6_narrowRoom_7 : decode cX6_narrowRoom 7 = .ok (.ifnull 10, 3) := by decide +kernel
theorem dX6_narrowRoom_10 : decode cX6_narrowRoom 10 = .ok (.aload_n 3, 1) := by decide +kernel
theorem dX6_narrowRoom_11 : decode cX6_narrowRoom 11 = .ok (.invokevirtual 259, 3) := by decide +kernel
theorem dX6_narrowRoom_14 : decode cX6_narrowRoom 14 = .ok (.ifCond .ne 4, 3) := by decide +kernel
theorem dX6_narrowRoom_17 : decode cX6_narrowRoom 17 = .ok (.return_, 1) := by decide +kernel
theorem dX6_narrowRoom_18 : decode cX6_narrowRoom 18 = .ok (.iconst 0, 1) := by decide +kernel
theorem dX6_narrowRoom_19 : decode cX6_narrowRoom 19 = .ok (.istore 4, 2) := by decide +kernel
theorem dX6_narrowRoom_21 : decode cX6_narrowRoom 21 = .ok (.iload 4, 2) := by decide +kernel
theorem dX6_narrowRoom_23 : decode cX6_narrowRoom 23 = .ok (.aload_n 3, 1) := by decide +kernel
theorem dX6_narrowRoom_24 : decode cX6_narrowRoom 24 = .ok (.getfield 77, 3) := by decide +kernel
theorem dX6_narrowRoom_27 : decode cX6_narrowRoom 27 = .ok (.if_icmp .ge 28, 3) := by decide +kernel
theorem dX6_narrowRoom_30 : decode cX6_narrowRoom 30 = .ok (.aload_n 0, 1) := by decide +kernel
theorem dX6_narrowRoom_31 : decode cX6_narrowRoom 31 = .ok (.iload_n 1, 1) := by decide +kernel
theorem dX6_narrowRoom_32 : decode cX6_narrowRoom 32 = .ok (.iload 4, 2) := by decide +kernel
theorem dX6_narrowRoom_34 : decode cX6_narrowRoom 34 = .ok (.invokevirtual 263, 3) := by decide +kernel
theorem dX6_narrowRoom_37 : decode cX6_narrowRoom 37 = .ok (.iload_n 2, 1) := by decide +kernel
theorem dX6_narrowRoom_38 : decode cX6_narrowRoom 38 = .ok (.if_icmp .ne 11, 3) := by decide +kernel
theorem dX6_narrowRoom_41 : decode cX6_narrowRoom 41 = .ok (.aload_n 0, 1) := by decide +kernel
theorem dX6_narrowRoom_42 : decode cX6_narrowRoom 42 = .ok (.aload_n 3, 1) := by decide +kernel
theorem dX6_narrowRoom_43 : decode cX6_narrowRoom 43 = .ok (.iload_n 1, 1) := by decide +kernel
theorem dX6_narrowRoom_44 : decode cX6_narrowRoom 44 = .ok (.iload 4, 2) := by decide +kernel
theorem dX6_narrowRoom_46 : decode cX6_narrowRoom 46 = .ok (.invokevirtual 294, 3) := by decide +kernel
theorem dX6_narrowRoom_49 : decode cX6_narrowRoom 49 = .ok (.iinc 4 1, 3) := by decide +kernel
theorem dX6_narrowRoom_52 : decode cX6_narrowRoom 52 = .ok (.goto (-31), 3) := by decide +kernel
theorem dX6_narrowRoom_55 : decode cX6_narrowRoom 55 = .ok (.return_, 1) := by decide +kernel
theorem dX6_narrowRoomByRow_0 : decode cX6_narrowRoomByRow 0 = .ok (.iconst 0, 1) := by decide +kernel
theorem dX6_narrowRoomByRow_1 : decode cX6_narrowRoomByRow 1 = .ok (.istore 4, 2) := by decide +kernel
theorem dX6_narrowRoomByRow_3 : decode cX6_narrowRoomByRow 3 = .ok (.iload 4, 2) := by decide +kernel
theorem dX6_narrowRoomByRow_5 : decode cX6_narrowRoomByRow 5 = .ok (.aload_n 1, 1) := by decide +kernel
theorem dX6_narrowRoomByRow_6 : decode cX6_narrowRoomByRow 6 = .ok (.getfield 80, 3) := by decide +kernel
theorem dX6_narrowRoomByRow_9 : decode cX6_narrowRoomByRow 9 = .ok (.if_icmp .ge 47, 3) := by decide +kernel
theorem dX6_narrowRoomByRow_12 : decode cX6_narrowRoomByRow 12 = .ok (.aload_n 0, 1) := by decide +kernel
theorem dX6_narrowRoomByRow_13 : decode cX6_narrowRoomByRow 13 = .ok (.getfield 30, 3) := by decide +kernel
theorem dX6_narrowRoomByRow_16 : decode cX6_narrowRoomByRow 16 = .ok (.iload_n 2, 1) := by decide +kernel
theorem dX6_narrowRoomByRow_17 : decode cX6_narrowRoomByRow 17 = .ok (.iload_n 3, 1) := by decide +kernel
theorem dX6_narrowRoomByRow_18 : decode cX6_narrowRoomByRow 18 = .ok (.iload 4, 2) := by decide +kernel
theorem dX6_narrowRoomByRow_20 : decode cX6_narrowRoomByRow 20 = .ok (.invokevirtual 180, 3) := by decide +kernel
theorem dX6_narrowRoomByRow_23 : decode cX6_narrowRoomByRow 23 = .ok (.istore 5, 2) := by decide +kernel
theorem dX6_narrowRoomByRow_25 : decode cX6_narrowRoomByRow 25 = .ok (.iload 5, 2) := by decide +kernel
theorem dX6_narrowRoomByRow_27 : decode cX6_narrowRoomByRow 27 = .ok (.ldc 179, 2) := by decide +kernel
theorem dX6_narrowRoomByRow_29 : decode cX6_narrowRoomByRow 29 = .ok (.if_icmp .eq 21, 3) := by decide +kernel
theorem dX6_narrowRoomByRow_32 : decode cX6_narrowRoomByRow 32 = .ok (.aload_n 1, 1) := by decide +kernel
theorem dX6_narrowRoomByRow_33 : decode cX6_narrowRoomByRow 33 = .ok (.iload 4, 2) := by decide +kernel
theorem dX6_narrowRoomByRow_35 : decode cX6_narrowRoomByRow 35 = .ok (.invokevirtual 298, 3) := by decide +kernel
theorem dX6_narrowRoomByRow_38 : decode cX6_narrowRoomByRow 38 = .ok (.ifCond .eq 12, 3) := by decide +kernel
theorem dX6_narrowRoomByRow_41 : decode cX6_narrowRoomByRow 41 = .ok (.aload_n 0, 1) := by decide +kernel
theorem dX6_narrowRoomByRow_42 : decode cX6_narrowRoomByRow 42 = .ok (.getfield 37, 3) := by decide +kernel
theorem dX6_narrowRoomByRow_45 : decode cX6_narrowRoomByRow 45 = .ok (.iload 5, 2) := by decide +kernel
theorem dX6_narrowRoomByRow_47 : decode cX6_narrowRoomByRow 47 = .ok (.invokevirtual 301, 3) := by decide +kernel
theorem dX6_narrowRoomByRow_50 : decode cX6_narrowRoomByRow 50 = .ok (.iinc 4 1, 3) := by decide +kernel
theorem dX6_narrowRoomByRow_53 : decode cX6_narrowRoomByRow 53 = .ok (.goto (-50), 3) := by decide +kernel
theorem dX6_narrowRoomByRow_56 : decode cX6_narrowRoomByRow 56 = .ok (.return_, 1) := by decide +kernel
theorem dX6_nextRule_0 : decode cX6_nextRule 0 = .ok (.aload_n 0, 1) := by decide +kernel
theorem dX6_nextRule_1 : decode cX6_nextRule 1 = .ok (.getfield 58, 3) := by decide +kernel
theorem dX6_nextRule_4 : decode cX6_nextRule 4 = .ok (.bipush 8, 2) := by decide +kernel
theorem dX6_nextRule_6 : decode cX6_nextRule 6 = .ok (.if_icmp .ge 15, 3) := by decide +kernel
theorem dX6_nextRule_9 : decode cX6_nextRule 9 = .ok (.aload_n 0, 1) := by decide +kernel
theorem dX6_nextRule_10 : decode cX6_nextRule 10 = .ok (.getfield 19, 3) := by decide +kernel
theorem dX6_nextRule_13 : decode cX6_nextRule 13 = .ok (.aload_n 0, 1) := by decide +kernel
theorem dX6_nextRule_14 : decode cX6_nextRule 14 = .ok (.getfield 58, 3) := by decide +kernel
theorem dX6_nextRule_17 : decode cX6_nextRule 17 = .ok (.aaload, 1) := by decide +kernel
theorem dX6_nextRule_18 : decode cX6_nextRule 18 = .ok (.goto 4, 3) := by decide +kernel
theorem dX6_nextRule_21 : decode cX6_nextRule 21 = .ok (.aconst_null, 1) := by decide +kernel
theorem dX6_nextRule_22 : decode cX6_nextRule 22 = .ok (.areturn, 1) := by decide +kernel
theorem dX6_addRule_0 : decode cX6_addRule 0 = .ok (.aload_n 0, 1) := by decide +kernel
theorem dX6_addRule_1 : decode cX6_addRule 1 = .ok (.dup, 1) := by decide +kernel
theorem dX6_addRule_2 : decode cX6_addRule 2 = .ok (.getfield 58, 3) := by decide +kernel
theorem dX6_addRule_5 : decode cX6_addRule 5 = .ok (.iconst 1, 1) := by decide +kernel
theorem dX6_addRule_6 : decode cX6_addRule 6 = .ok (.iadd, 1) := by decide +kernel
theorem dX6_addRule_7 : decode cX6_addRule 7 = .ok (.putfield 58, 3) := by decide +kernel
theorem dX6_addRule_10 : decode cX6_addRule 10 = .ok (.aload_n 0, 1) := by decide +kernel
theorem dX6_addRule_11 : decode cX6_addRule 11 = .ok (.getfield 58, 3) := by decide +kernel
theorem dX6_addRule_14 : decode cX6_addRule 14 = .ok (.iconst 1, 1) := by decide +kernel
theorem dX6_addRule_15 : decode cX6_addRule 15 = .ok (.isub, 1) := by decide +kernel
theorem dX6_addRule_16 : decode cX6_addRule 16 = .ok (.ireturn, 1) := by decide +kernel
theorem dX6_firstBroken_0 : decode cX6_firstBroken 0 = .ok (.iconst 0, 1) := by decide +kernel
theorem dX6_firstBroken_1 : decode cX6_firstBroken 1 = .ok (.istore_n 2, 1) := by decide +kernel
theorem dX6_firstBroken_2 : decode cX6_firstBroken 2 = .ok (.iload_n 2, 1) := by decide +kernel
theorem dX6_firstBroken_3 : decode cX6_firstBroken 3 = .ok (.aload_n 0, 1) := by decide +kernel
theorem dX6_firstBroken_4 : decode cX6_firstBroken 4 = .ok (.getfield 58, 3) := by decide +kernel
theorem dX6_firstBroken_7 : decode cX6_firstBroken 7 = .ok (.if_icmp .ge 31, 3) := by decide +kernel
theorem dX6_firstBroken_10 : decode cX6_firstBroken 10 = .ok (.iload_n 2, 1) := by decide +kernel
theorem dX6_firstBroken_11 : decode cX6_firstBroken 11 = .ok (.bipush 8, 2) := by decide +kernel
theorem dX6_firstBroken_13 : decode cX6_firstBroken 13 = .ok (.if_icmp .ge 25, 3) := by decide +kernel
theorem dX6_firstBroken_16 : decode cX6_firstBroken 16 = .ok (.aload_n 0, 1) := by decide +kernel
theorem dX6_firstBroken_17 : decode cX6_firstBroken 17 = .ok (.aload_n 0, 1) := by decide +kernel
theorem dX6_firstBroken_18 : decode cX6_firstBroken 18 = .ok (.getfield 19, 3) := by decide +kernel
theorem dX6_firstBroken_21 : decode cX6_firstBroken 21 = .ok (.iload_n 2, 1) := by decide +kernel
theorem dX6_firstBroken_22 : decode cX6_firstBroken 22 = .ok (.aaload, 1) := by decide +kernel
theorem dX6_firstBroken_23 : decode cX6_firstBroken 23 = .ok (.aload_n 1, 1) := by decide +kernel
theorem dX6_firstBroken_24 : decode cX6_firstBroken 24 = .ok (.invokevirtual 304, 3) := by decide +kernel
theorem dX6_firstBroken_27 : decode cX6_firstBroken 27 = .ok (.ifCond .ne 5, 3) := by decide +kernel
theorem dX6_firstBroken_30 : decode cX6_firstBroken 30 = .ok (.iload_n 2, 1) := by decide +kernel
theorem dX6_firstBroken_31 : decode cX6_firstBroken 31 = .ok (.ireturn, 1) := by decide +kernel
theorem dX6_firstBroken_32 : decode cX6_firstBroken 32 = .ok (.iinc 2 1, 3) := by decide +kernel
theorem dX6_firstBroken_35 : decode cX6_firstBroken 35 = .ok (.goto (-33), 3) := by decide +kernel
theorem dX6_firstBroken_38 : decode cX6_firstBroken 38 = .ok (.bipush 100, 2) := by decide +kernel
theorem dX6_firstBroken_40 : decode cX6_firstBroken 40 = .ok (.ireturn, 1) := by decide +kernel
theorem dX6_ruleHolds_0 : decode cX6_ruleHolds 0 = .ok (.iconst 0, 1) := by decide +kernel
theorem dX6_ruleHolds_1 : decode cX6_ruleHolds 1 = .ok (.istore_n 3, 1) := by decide +kernel
theorem dX6_ruleHolds_2 : decode cX6_ruleHolds 2 = .ok (.iload_n 3, 1) := by decide +kernel
theorem dX6_ruleHolds_3 : decode cX6_ruleHolds 3 = .ok (.aload_n 0, 1) := by decide +kernel
theorem dX6_ruleHolds_4 : decode cX6_ruleHolds 4 = .ok (.aload_n 1, 1) := by decide +kernel
theorem dX6_ruleHolds_5 : decode cX6_ruleHolds 5 = .ok (.getfield 308, 3) := by decide +kernel
theorem dX6_ruleHolds_8 : decode cX6_ruleHolds 8 = .ok (.invokevirtual 200, 3) := by decide +kernel
theorem dX6_ruleHolds_11 : decode cX6_ruleHolds 11 = .ok (.if_icmp .ge 21, 3) := by decide +kernel
theorem dX6_ruleHolds_14 : decode cX6_ruleHolds 14 = .ok (.aload_n 0, 1) := by decide +kernel
theorem dX6_ruleHolds_15 : decode cX6_ruleHolds 15 = .ok (.aload_n 1, 1) := by decide +kernel
theorem dX6_ruleHolds_16 : decode cX6_ruleHolds 16 = .ok (.aload_n 2, 1) := by decide +kernel
theorem dX6_ruleHolds_17 : decode cX6_ruleHolds 17 = .ok (.iload_n 3, 1) := by decide +kernel
theorem dX6_ruleHolds_18 : decode cX6_ruleHolds 18 = .ok (.invokevirtual 311, 3) := by decide +kernel
theorem dX6_ruleHolds_21 : decode cX6_ruleHolds 21 = .ok (.ifCond .ne 5, 3) := by decide +kernel
theorem dX6_ruleHolds_24 : decode cX6_ruleHolds 24 = .ok (.iconst 0, 1) := by decide +kernel
theorem dX6_ruleHolds_25 : decode cX6_ruleHolds 25 = .ok (.ireturn, 1) := by decide +kernel
theorem dX6_ruleHolds_26 : decode cX6_ruleHolds 26 = .ok (.iinc 3 1, 3) := by decide +kernel
theorem dX6_ruleHolds_29 : decode cX6_ruleHolds 29 = .ok (.goto (-27), 3) := by decide +kernel
theorem dX6_ruleHolds_32 : decode cX6_ruleHolds 32 = .ok (.iconst 1, 1) := by decide +kernel
theorem dX6_ruleHolds_33 : decode cX6_ruleHolds 33 = .ok (.ireturn, 1) := by decide +kernel
theorem dX6_holdsInRow_0 : decode cX6_holdsInRow 0 = .ok (.aload_n 2, 1) := by decide +kernel
theorem dX6_holdsInRow_1 : decode cX6_holdsInRow 1 = .ok (.aload_n 1, 1) := by decide +kernel
theorem dX6_holdsInRow_2 : decode cX6_holdsInRow 2 = .ok (.getfield 308, 3) := by decide +kernel
theorem dX6_holdsInRow_5 : decode cX6_holdsInRow 5 = .ok (.iload_n 3, 1) := by decide +kernel
theorem dX6_holdsInRow_6 : decode cX6_holdsInRow 6 = .ok (.aload_n 1, 1) := by decide +kernel
theorem dX6_holdsInRow_7 : decode cX6_holdsInRow 7 = .ok (.getfield 315, 3) := by decide +kernel
theorem dX6_holdsInRow_10 : decode cX6_holdsInRow 10 = .ok (.invokevirtual 180, 3) := by decide +kernel
theorem dX6_holdsInRow_13 : decode cX6_holdsInRow 13 = .ok (.istore 4, 2) := by decide +kernel
theorem dX6_holdsInRow_15 : decode cX6_holdsInRow 15 = .ok (.iload 4, 2) := by decide +kernel
theorem dX6_holdsInRow_17 : decode cX6_holdsInRow 17 = .ok (.ldc 179, 2) := by decide +kernel
theorem dX6_holdsInRow_19 : decode cX6_holdsInRow 19 = .ok (.if_icmp .ne 5, 3) := by decide +kernel
theorem dX6_holdsInRow_22 : decode cX6_holdsInRow 22 = .ok (.iconst 1, 1) := by decide +kernel
theorem dX6_holdsInRow_23 : decode cX6_holdsInRow 23 = .ok (.ireturn, 1) := by decide +kernel
theorem dX6_holdsInRow_24 : decode cX6_holdsInRow 24 = .ok (.aload_n 1, 1) := by decide +kernel
theorem dX6_holdsInRow_25 : decode cX6_holdsInRow 25 = .ok (.getfield 318, 3) := by decide +kernel
theorem dX6_holdsInRow_28 : decode cX6_holdsInRow 28 = .ok (.lookupswitch 81 #[(0, 28), (1, 63)], 28) := by decide +kernel
theorem dX6_holdsInRow_56 : decode cX6_holdsInRow 56 = .ok (.aload_n 2, 1) := by decide +kernel
theorem dX6_holdsInRow_57 : decode cX6_holdsInRow 57 = .ok (.aload_n 1, 1) := by decide +kernel
theorem dX6_holdsInRow_58 : decode cX6_holdsInRow 58 = .ok (.getfield 308, 3) := by decide +kernel
theorem dX6_holdsInRow_61 : decode cX6_holdsInRow 61 = .ok (.iload_n 3, 1) := by decide +kernel
theorem dX6_holdsInRow_62 : decode cX6_holdsInRow 62 = .ok (.aload_n 1, 1) := by decide +kernel
theorem dX6_holdsInRow_63 : decode cX6_holdsInRow 63 = .ok (.getfield 319, 3) := by decide +kernel
theorem dX6_holdsInRow_66 : decode cX6_holdsInRow 66 = .ok (.invokevirtual 180, 3) := by decide +kernel
theorem dX6_holdsInRow_69 : decode cX6_holdsInRow 69 = .ok (.istore 5, 2) := by decide +kernel
theorem dX6_holdsInRow_71 : decode cX6_holdsInRow 71 = .ok (.iload 5, 2) := by decide +kernel
theorem dX6_holdsInRow_73 : decode cX6_holdsInRow 73 = .ok (.ldc 179, 2) := by decide +kernel
theorem dX6_holdsInRow_75 : decode cX6_holdsInRow 75 = .ok (.if_icmp .eq 10, 3) := by decide +kernel
theorem dX6_holdsInRow_78 : decode cX6_holdsInRow 78 = .ok (.iload 4, 2) := by decide +kernel
theorem dX6_holdsInRow_80 : decode cX6_holdsInRow 80 = .ok (.iload 5, 2) := by decide +kernel
theorem dX6_holdsInRow_82 : decode cX6_holdsInRow 82 = .ok (.if_icmp .gt 7, 3) := by decide +kernel
theorem dX6_holdsInRow_85 : decode cX6_holdsInRow 85 = .ok (.iconst 1, 1) := by decide +kernel
theorem dX6_holdsInRow_86 : decode cX6_holdsInRow 86 = .ok (.goto 4, 3) := by decide +kernel
theorem dX6_holdsInRow_89 : decode cX6_holdsInRow 89 = .ok (.iconst 0, 1) := by decide +kernel
theorem dX6_holdsInRow_90 : decode cX6_holdsInRow 90 = .ok (.ireturn, 1) := by decide +kernel
theorem dX6_holdsInRow_91 : decode cX6_holdsInRow 91 = .ok (.iload 4, 2) := by decide +kernel
theorem dX6_holdsInRow_93 : decode cX6_holdsInRow 93 = .ok (.aload_n 0, 1) := by decide +kernel
theorem dX6_holdsInRow_94 : decode cX6_holdsInRow 94 = .ok (.aload_n 1, 1) := by decide +kernel
theorem dX6_holdsInRow_95 : decode cX6_holdsInRow 95 = .ok (.aload_n 2, 1) := by decide +kernel
theorem dX6_holdsInRow_96 : decode cX6_holdsInRow 96 = .ok (.iload_n 3, 1) := by decide +kernel
theorem dX6_holdsInRow_97 : decode cX6_holdsInRow 97 = .ok (.invokevirtual 322, 3) := by decide +kernel
theorem dX6_holdsInRow_100 : decode cX6_holdsInRow 100 = .ok (.if_icmp .ne 7, 3) := by decide +kernel
theorem dX6_holdsInRow_103 : decode cX6_holdsInRow 103 = .ok (.iconst 1, 1) := by decide +kernel
theorem dX6_holdsInRow_104 : decode cX6_holdsInRow 104 = .ok (.goto 4, 3) := by decide +kernel
theorem dX6_holdsInRow_107 : decode cX6_holdsInRow 107 = .ok (.iconst 0, 1) := by decide +kernel
theorem dX6_holdsInRow_108 : decode cX6_holdsInRow 108 = .ok (.ireturn, 1) := by decide +kernel
theorem dX6_holdsInRow_109 : decode cX6_holdsInRow 109 = .ok (.aload_n 0, 1) := by decide +kernel
theorem dX6_holdsInRow_110 : decode cX6_holdsInRow 110 = .ok (.aload_n 1, 1) := by decide +kernel
theorem dX6_holdsInRow_111 : decode cX6_holdsInRow 111 = .ok (.getfield 308, 3) := by decide +kernel
theorem dX6_holdsInRow_114 : decode cX6_holdsInRow 114 = .ok (.aload_n 1, 1) := by decide +kernel
theorem dX6_holdsInRow_115 : decode cX6_holdsInRow 115 = .ok (.getfield 315, 3) := by decide +kernel
theorem dX6_holdsInRow_118 : decode cX6_holdsInRow 118 = .ok (.invokevirtual 99, 3) := by decide +kernel
theorem dX6_holdsInRow_121 : decode cX6_holdsInRow 121 = .ok (.astore 6, 2) := by decide +kernel
theorem dX6_holdsInRow_123 : decode cX6_holdsInRow 123 = .ok (.aload 6, 2) := by decide +kernel
theorem dX6_holdsInRow_125 : decode cX6_holdsInRow 125 = .ok (.ifnull 23, 3) := by decide +kernel
theorem dX6_holdsInRow_128 : decode cX6_holdsInRow 128 = .ok (.aload_n 0, 1) := by decide +kernel
theorem dX6_holdsInRow_129 : decode cX6_holdsInRow 129 = .ok (.aload_n 2, 1) := by decide +kernel
theorem dX6_holdsInRow_130 : decode cX6_holdsInRow 130 = .ok (.aload 6, 2) := by decide +kernel
theorem dX6_holdsInRow_132 : decode cX6_holdsInRow 132 = .ok (.getfield 146, 3) := by decide +kernel
theorem dX6_holdsInRow_135 : decode cX6_holdsInRow 135 = .ok (.iconst 0, 1) := by decide +kernel
theorem dX6_holdsInRow_136 : decode cX6_holdsInRow 136 = .ok (.iload 4, 2) := by decide +kernel
theorem dX6_holdsInRow_138 : decode cX6_holdsInRow 138 = .ok (.invokevirtual 91, 3) := by decide +kernel
theorem dX6_holdsInRow_141 : decode cX6_holdsInRow 141 = .ok (.ifCond .le 7, 3) := by decide +kernel
theorem dX6_holdsInRow_144 : decode cX6_holdsInRow 144 = .ok (.iconst 1, 1) := by decide +kernel
theorem dX6_holdsInRow_145 : decode cX6_holdsInRow 145 = .ok (.goto 4, 3) := by decide +kernel
theorem dX6_holdsInRow_148 : decode cX6_holdsInRow 148 = .ok (.iconst 0, 1) := by decide +kernel
theorem dX6_holdsInRow_149 : decode cX6_holdsInRow 149 = .ok (.ireturn, 1) := by decide +kernel
theorem dX6_partsOf_0 : decode cX6_partsOf 0 = .ok (.aload_n 2, 1) := by decide +kernel
theorem dX6_partsOf_1 : decode cX6_partsOf 1 = .ok (.aload_n 1, 1) := by decide +kernel
theorem dX6_partsOf_2 : decode cX6_partsOf 2 = .ok (.getfield 308, 3) := by decide +kernel
theorem dX6_partsOf_5 : decode cX6_partsOf 5 = .ok (.iload_n 3, 1) := by decide +kernel
theorem dX6_partsOf_6 : decode cX6_partsOf 6 = .ok (.iconst 0, 1) := by decide +kernel
theorem dX6_partsOf_7 : decode cX6_partsOf 7 = .ok (.invokevirtual 180, 3) := by decide +kernel
theorem dX6_partsOf_10 : decode cX6_partsOf 10 = .ok (.istore 4, 2) := by decide +kernel
theorem dX6_partsOf_12 : decode cX6_partsOf 12 = .ok (.iconst 0, 1) := by decide +kernel
theorem dX6_partsOf_13 : decode cX6_partsOf 13 = .ok (.istore 5, 2) := by decide +kernel
theorem dX6_partsOf_15 : decode cX6_partsOf 15 = .ok (.iconst 0, 1) := by decide +kernel
theorem dX6_partsOf_16 : decode cX6_partsOf 16 = .ok (.istore 6, 2) := by decide +kernel
theorem dX6_partsOf_18 : decode cX6_partsOf 18 = .ok (.iload 6, 2) := by decide +kernel
theorem dX6_partsOf_20 : decode cX6_partsOf 20 = .ok (.aload_n 0, 1) := by decide +kernel
theorem dX6_partsOf_21 : decode cX6_partsOf 21 = .ok (.aload_n 1, 1) := by decide +kernel
theorem dX6_partsOf_22 : decode cX6_partsOf 22 = .ok (.getfield 326, 3) := by decide +kernel
theorem dX6_partsOf_25 : decode cX6_partsOf 25 = .ok (.invokevirtual 200, 3) := by decide +kernel
theorem dX6_partsOf_28 : decode cX6_partsOf 28 = .ok (.if_icmp .ge 58, 3) := by decide +kernel
theorem dX6_partsOf_31 : decode cX6_partsOf 31 = .ok (.aload_n 2, 1) := by decide +kernel
theorem dX6_partsOf_32 : decode cX6_partsOf 32 = .ok (.aload_n 1, 1) := by decide +kernel
theorem dX6_partsOf_33 : decode cX6_partsOf 33 = .ok (.getfield 326, 3) := by decide +kernel
theorem dX6_partsOf_36 : decode cX6_partsOf 36 = .ok (.iload 6, 2) := by decide +kernel
theorem dX6_partsOf_38 : decode cX6_partsOf 38 = .ok (.aload_n 1, 1) := by decide +kernel
theorem dX6_partsOf_39 : decode cX6_partsOf 39 = .ok (.getfield 319, 3) := by decide +kernel
theorem dX6_partsOf_42 : decode cX6_partsOf 42 = .ok (.invokevirtual 180, 3) := by decide +kernel
theorem dX6_partsOf_45 : decode cX6_partsOf 45 = .ok (.istore 7, 2) := by decide +kernel
theorem dX6_partsOf_47 : decode cX6_partsOf 47 = .ok (.iload 7, 2) := by decide +kernel
theorem dX6_partsOf_49 : decode cX6_partsOf 49 = .ok (.ldc 179, 2) := by decide +kernel
theorem dX6_partsOf_51 : decode cX6_partsOf 51 = .ok (.if_icmp .eq 29, 3) := by decide +kernel
theorem dX6_partsOf_54 : decode cX6_partsOf 54 = .ok (.aload_n 2, 1) := by decide +kernel
theorem dX6_partsOf_55 : decode cX6_partsOf 55 = .ok (.aload_n 1, 1) := by decide +kernel
theorem dX6_partsOf_56 : decode cX6_partsOf 56 = .ok (.getfield 326, 3) := by decide +kernel
theorem dX6_partsOf_59 : decode cX6_partsOf 59 = .ok (.iload 6, 2) := by decide +kernel
theorem dX6_partsOf_61 : decode cX6_partsOf 61 = .ok (.aload_n 1, 1) := by decide +kernel
theorem dX6_partsOf_62 : decode cX6_partsOf 62 = .ok (.getfield 329, 3) := by decide +kernel
theorem dX6_partsOf_65 : decode cX6_partsOf 65 = .ok (.invokevirtual 180, 3) := by decide +kernel
theorem dX6_partsOf_68 : decode cX6_partsOf 68 = .ok (.iload 4, 2) := by decide +kernel
theorem dX6_partsOf_70 : decode cX6_partsOf 70 = .ok (.if_icmp .ne 10, 3) := by decide +kernel
theorem dX6_partsOf_73 : decode cX6_partsOf 73 = .ok (.iload 5, 2) := by decide +kernel
theorem dX6_partsOf_75 : decode cX6_partsOf 75 = .ok (.iload 7, 2) := by decide +kernel
theorem dX6_partsOf_77 : decode cX6_partsOf 77 = .ok (.iadd, 1) := by decide +kernel
theorem dX6_partsOf_78 : decode cX6_partsOf 78 = .ok (.istore 5, 2) := by decide +kernel
theorem dX6_partsOf_80 : decode cX6_partsOf 80 = .ok (.iinc 6 1, 3) := by decide +kernel
theorem dX6_partsOf_83 : decode cX6_partsOf 83 = .ok (.goto (-65), 3) := by decide +kernel
theorem dX6_partsOf_86 : decode cX6_partsOf 86 = .ok (.iload 5, 2) := by decide +kernel
theorem dX6_partsOf_88 : decode cX6_partsOf 88 = .ok (.ireturn, 1) := by decide +kernel
theorem dX6_mendDraft_0 : decode cX6_mendDraft 0 = .ok (.iconst 0, 1) := by decide +kernel
theorem dX6_mendDraft_1 : decode cX6_mendDraft 1 = .ok (.istore_n 1, 1) := by decide +kernel
theorem dX6_mendDraft_2 : decode cX6_mendDraft 2 = .ok (.iload_n 1, 1) := by decide +kernel
theorem dX6_mendDraft_3 : decode cX6_mendDraft 3 = .ok (.aload_n 0, 1) := by decide +kernel
theorem dX6_mendDraft_4 : decode cX6_mendDraft 4 = .ok (.getfield 58, 3) := by decide +kernel
theorem dX6_mendDraft_7 : decode cX6_mendDraft 7 = .ok (.if_icmp .ge 50, 3) := by decide +kernel
theorem dX6_mendDraft_10 : decode cX6_mendDraft 10 = .ok (.iload_n 1, 1) := by decide +kernel
theorem dX6_mendDraft_11 : decode cX6_mendDraft 11 = .ok (.bipush 8, 2) := by decide +kernel
theorem dX6_mendDraft_13 : decode cX6_mendDraft 13 = .ok (.if_icmp .ge 44, 3) := by decide +kernel
theorem dX6_mendDraft_16 : decode cX6_mendDraft 16 = .ok (.aload_n 0, 1) := by decide +kernel
theorem dX6_mendDraft_17 : decode cX6_mendDraft 17 = .ok (.getfield 19, 3) := by decide +kernel
theorem dX6_mendDraft_20 : decode cX6_mendDraft 20 = .ok (.iload_n 1, 1) := by decide +kernel
theorem dX6_mendDraft_21 : decode cX6_mendDraft 21 = .ok (.aaload, 1) := by decide +kernel
theorem dX6_mendDraft_22 : decode cX6_mendDraft 22 = .ok (.getfield 318, 3) := by decide +kernel
theorem dX6_mendDraft_25 : decode cX6_mendDraft 25 = .ok (.iconst 1, 1) := by decide +kernel
theorem dX6_mendDraft_26 : decode cX6_mendDraft 26 = .ok (.if_icmp .ne 25, 3) := by decide +kernel
theorem dX6_mendDraft_29 : decode cX6_mendDraft 29 = .ok (.aload_n 0, 1) := by decide +kernel
theorem dX6_mendDraft_30 : decode cX6_mendDraft 30 = .ok (.getfield 19, 3) := by decide +kernel
theorem dX6_mendDraft_33 : decode cX6_mendDraft 33 = .ok (.iload_n 1, 1) := by decide +kernel
theorem dX6_mendDraft_34 : decode cX6_mendDraft 34 = .ok (.aaload, 1) := by decide +kernel
theorem dX6_mendDraft_35 : decode cX6_mendDraft 35 = .ok (.getfield 332, 3) := by decide +kernel
theorem dX6_mendDraft_38 : decode cX6_mendDraft 38 = .ok (.ifCond .eq 13, 3) := by decide +kernel
theorem dX6_mendDraft_41 : decode cX6_mendDraft 41 = .ok (.aload_n 0, 1) := by decide +kernel
theorem dX6_mendDraft_42 : decode cX6_mendDraft 42 = .ok (.aload_n 0, 1) := by decide +kernel
theorem dX6_mendDraft_43 : decode cX6_mendDraft 43 = .ok (.getfield 19, 3) := by decide +kernel
theorem dX6_mendDraft_46 : decode cX6_mendDraft 46 = .ok (.iload_n 1, 1) := by decide +kernel
theorem dX6_mendDraft_47 : decode cX6_mendDraft 47 = .ok (.aaload, 1) := by decide +kernel
theorem dX6_mendDraft_48 : decode cX6_mendDraft 48 = .ok (.invokevirtual 335, 3) := by decide +kernel
theorem dX6_mendDraft_51 : decode cX6_mendDraft 51 = .ok (.iinc 1 1, 3) := by decide +kernel
theorem dX6_mendDraft_54 : decode cX6_mendDraft 54 = .ok (.goto (-52), 3) := by decide +kernel
theorem dX6_mendDraft_57 : decode cX6_mendDraft 57 = .ok (.return_, 1) := by decide +kernel
theorem dX6_mendColumn_0 : decode cX6_mendColumn 0 = .ok (.iconst 0, 1) := by decide +kernel
theorem dX6_mendColumn_1 : decode cX6_mendColumn 1 = .ok (.istore_n 2, 1) := by decide +kernel
theorem dX6_mendColumn_2 : decode cX6_mendColumn 2 = .ok (.iload_n 2, 1) := by decide +kernel
theorem dX6_mendColumn_3 : decode cX6_mendColumn 3 = .ok (.aload_n 0, 1) := by decide +kernel
theorem dX6_mendColumn_4 : decode cX6_mendColumn 4 = .ok (.aload_n 1, 1) := by decide +kernel
theorem dX6_mendColumn_5 : decode cX6_mendColumn 5 = .ok (.getfield 308, 3) := by decide +kernel
theorem dX6_mendColumn_8 : decode cX6_mendColumn 8 = .ok (.invokevirtual 200, 3) := by decide +kernel
theorem dX6_mendColumn_11 : decode cX6_mendColumn 11 = .ok (.if_icmp .ge 56, 3) := by decide +kernel
theorem dX6_mendColumn_14 : decode cX6_mendColumn 14 = .ok (.aload_n 0, 1) := by decide +kernel
theorem dX6_mendColumn_15 : decode cX6_mendColumn 15 = .ok (.getfield 51, 3) := by decide +kernel
theorem dX6_mendColumn_18 : decode cX6_mendColumn 18 = .ok (.aload_n 1, 1) := by decide +kernel
theorem dX6_mendColumn_19 : decode cX6_mendColumn 19 = .ok (.getfield 308, 3) := by decide +kernel
theorem dX6_mendColumn_22 : decode cX6_mendColumn 22 = .ok (.iload_n 2, 1) := by decide +kernel
theorem dX6_mendColumn_23 : decode cX6_mendColumn 23 = .ok (.aload_n 1, 1) := by decide +kernel
theorem dX6_mendColumn_24 : decode cX6_mendColumn 24 = .ok (.getfield 315, 3) := by decide +kernel
theorem dX6_mendColumn_27 : decode cX6_mendColumn 27 = .ok (.invokevirtual 180, 3) := by decide +kernel
theorem dX6_mendColumn_30 : decode cX6_mendColumn 30 = .ok (.ldc 179, 2) := by decide +kernel
theorem dX6_mendColumn_32 : decode cX6_mendColumn 32 = .ok (.if_icmp .eq 29, 3) := by decide +kernel
theorem dX6_mendColumn_35 : decode cX6_mendColumn 35 = .ok (.aload_n 0, 1) := by decide +kernel
theorem dX6_mendColumn_36 : decode cX6_mendColumn 36 = .ok (.getfield 51, 3) := by decide +kernel
theorem dX6_mendColumn_39 : decode cX6_mendColumn 39 = .ok (.aload_n 1, 1) := by decide +kernel
theorem dX6_mendColumn_40 : decode cX6_mendColumn 40 = .ok (.getfield 308, 3) := by decide +kernel
theorem dX6_mendColumn_43 : decode cX6_mendColumn 43 = .ok (.iload_n 2, 1) := by decide +kernel
theorem dX6_mendColumn_44 : decode cX6_mendColumn 44 = .ok (.aload_n 1, 1) := by decide +kernel
theorem dX6_mendColumn_45 : decode cX6_mendColumn 45 = .ok (.getfield 315, 3) := by decide +kernel
theorem dX6_mendColumn_48 : decode cX6_mendColumn 48 = .ok (.aload_n 0, 1) := by decide +kernel
theorem dX6_mendColumn_49 : decode cX6_mendColumn 49 = .ok (.aload_n 1, 1) := by decide +kernel
theorem dX6_mendColumn_50 : decode cX6_mendColumn 50 = .ok (.aload_n 0, 1) := by decide +kernel
theorem dX6_mendColumn_51 : decode cX6_mendColumn 51 = .ok (.getfield 51, 3) := by decide +kernel
theorem dX6_mendColumn_54 : decode cX6_mendColumn 54 = .ok (.iload_n 2, 1) := by decide +kernel
theorem dX6_mendColumn_55 : decode cX6_mendColumn 55 = .ok (.invokevirtual 322, 3) := by decide +kernel
theorem dX6_mendColumn_58 : decode cX6_mendColumn 58 = .ok (.invokevirtual 95, 3) := by decide +kernel
theorem dX6_mendColumn_61 : decode cX6_mendColumn 61 = .ok (.iinc 2 1, 3) := by decide +kernel
theorem dX6_mendColumn_64 : decode cX6_mendColumn 64 = .ok (.goto (-62), 3) := by decide +kernel
theorem dX6_mendColumn_67 : decode cX6_mendColumn 67 = .ok (.return_, 1) := by decide +kernel
theorem dX6_couldSet_0 : decode cX6_couldSet 0 = .ok (.iconst 0, 1) := by decide +kernel
theorem dX6_couldSet_1 : decode cX6_couldSet 1 = .ok (.istore 4, 2) := by decide +kernel
theorem dX6_couldSet_3 : decode cX6_couldSet 3 = .ok (.iconst 0, 1) := by decide +kernel
theorem dX6_couldSet_4 : decode cX6_couldSet 4 = .ok (.istore 5, 2) := by decide +kernel
theorem dX6_couldSet_6 : decode cX6_couldSet 6 = .ok (.iload 5, 2) := by decide +kernel
theorem dX6_couldSet_8 : decode cX6_couldSet 8 = .ok (.aload_n 0, 1) := by decide +kernel
theorem dX6_couldSet_9 : decode cX6_couldSet 9 = .ok (.iload_n 1, 1) := by decide +kernel
theorem dX6_couldSet_10 : decode cX6_couldSet 10 = .ok (.invokevirtual 200, 3) := by decide +kernel
theorem dX6_couldSet_13 : decode cX6_couldSet 13 = .ok (.if_icmp .ge 42, 3) := by decide +kernel
theorem dX6_couldSet_16 : decode cX6_couldSet 16 = .ok (.aload_n 0, 1) := by decide +kernel
theorem dX6_couldSet_17 : decode cX6_couldSet 17 = .ok (.iload_n 1, 1) := by decide +kernel
theorem dX6_couldSet_18 : decode cX6_couldSet 18 = .ok (.iload_n 2, 1) := by decide +kernel
theorem dX6_couldSet_19 : decode cX6_couldSet 19 = .ok (.iload 5, 2) := by decide +kernel
theorem dX6_couldSet_21 : decode cX6_couldSet 21 = .ok (.iload_n 3, 1) := by decide +kernel
theorem dX6_couldSet_22 : decode cX6_couldSet 22 = .ok (.invokevirtual 339, 3) := by decide +kernel
theorem dX6_couldSet_25 : decode cX6_couldSet 25 = .ok (.ifCond .eq 24, 3) := by decide +kernel
theorem dX6_couldSet_28 : decode cX6_couldSet 28 = .ok (.aload_n 0, 1) := by decide +kernel
theorem dX6_couldSet_29 : decode cX6_couldSet 29 = .ok (.iload_n 1, 1) := by decide +kernel
theorem dX6_couldSet_30 : decode cX6_couldSet 30 = .ok (.iload_n 2, 1) := by decide +kernel
theorem dX6_couldSet_31 : decode cX6_couldSet 31 = .ok (.iload 5, 2) := by decide +kernel
theorem dX6_couldSet_33 : decode cX6_couldSet 33 = .ok (.iload_n 3, 1) := by decide +kernel
theorem dX6_couldSet_34 : decode cX6_couldSet 34 = .ok (.invokevirtual 343, 3) := by decide +kernel
theorem dX6_couldSet_37 : decode cX6_couldSet 37 = .ok (.ifCond .eq 12, 3) := by decide +kernel
theorem dX6_couldSet_40 : decode cX6_couldSet 40 = .ok (.iload 4, 2) := by decide +kernel
theorem dX6_couldSet_42 : decode cX6_couldSet 42 = .ok (.iconst 1, 1) := by decide +kernel
theorem dX6_couldSet_43 : decode cX6_couldSet 43 = .ok (.iload 5, 2) := by decide +kernel
theorem dX6_couldSet_45 : decode cX6_couldSet 45 = .ok (.ishl, 1) := by decide +kernel
theorem dX6_couldSet_46 : decode cX6_couldSet 46 = .ok (.ior, 1) := by decide +kernel
theorem dX6_couldSet_47 : decode cX6_couldSet 47 = .ok (.istore 4, 2) := by decide +kernel
theorem dX6_couldSet_49 : decode cX6_couldSet 49 = .ok (.iinc 5 1, 3) := by decide +kernel
theorem dX6_couldSet_52 : decode cX6_couldSet 52 = .ok (.goto (-46), 3) := by decide +kernel
theorem dX6_couldSet_55 : decode cX6_couldSet 55 = .ok (.iload 4, 2) := by decide +kernel
theorem dX6_couldSet_57 : decode cX6_couldSet 57 = .ok (.ireturn, 1) := by decide +kernel
theorem dX6_looksSame_0 : decode cX6_looksSame 0 = .ok (.iconst 0, 1) := by decide +kernel
theorem dX6_looksSame_1 : decode cX6_looksSame 1 = .ok (.istore 5, 2) := by decide +kernel
theorem dX6_looksSame_3 : decode cX6_looksSame 3 = .ok (.iload 5, 2) := by decide +kernel
theorem dX6_looksSame_5 : decode cX6_looksSame 5 = .ok (.aload_n 0, 1) := by decide +kernel
theorem dX6_looksSame_6 : decode cX6_looksSame 6 = .ok (.iload_n 1, 1) := by decide +kernel
theorem dX6_looksSame_7 : decode cX6_looksSame 7 = .ok (.invokevirtual 249, 3) := by decide +kernel
theorem dX6_looksSame_10 : decode cX6_looksSame 10 = .ok (.if_icmp .ge 56, 3) := by decide +kernel
theorem dX6_looksSame_13 : decode cX6_looksSame 13 = .ok (.iload 4, 2) := by decide +kernel
theorem dX6_looksSame_15 : decode cX6_looksSame 15 = .ok (.iload 5, 2) := by decide +kernel
theorem dX6_looksSame_17 : decode cX6_looksSame 17 = .ok (.invokestatic 220, 3) := by decide +kernel
theorem dX6_looksSame_20 : decode cX6_looksSame 20 = .ok (.ifCond .eq 40, 3) := by decide +kernel
theorem dX6_looksSame_23 : decode cX6_looksSame 23 = .ok (.aload_n 0, 1) := by decide +kernel
theorem dX6_looksSame_24 : decode cX6_looksSame 24 = .ok (.iload_n 1, 1) := by decide +kernel
theorem dX6_looksSame_25 : decode cX6_looksSame 25 = .ok (.iload 5, 2) := by decide +kernel
theorem dX6_looksSame_27 : decode cX6_looksSame 27 = .ok (.invokevirtual 346, 3) := by decide +kernel
theorem dX6_looksSame_30 : decode cX6_looksSame 30 = .ok (.ifCond .eq 30, 3) := by decide +kernel
theorem dX6_looksSame_33 : decode cX6_looksSame 33 = .ok (.aload_n 0, 1) := by decide +kernel
theorem dX6_looksSame_34 : decode cX6_looksSame 34 = .ok (.getfield 51, 3) := by decide +kernel
theorem dX6_looksSame_37 : decode cX6_looksSame 37 = .ok (.iload_n 1, 1) := by decide +kernel
theorem dX6_looksSame_38 : decode cX6_looksSame 38 = .ok (.iload_n 3, 1) := by decide +kernel
theorem dX6_looksSame_39 : decode cX6_looksSame 39 = .ok (.iload 5, 2) := by decide +kernel
theorem dX6_looksSame_41 : decode cX6_looksSame 41 = .ok (.invokevirtual 180, 3) := by decide +kernel
theorem dX6_looksSame_44 : decode cX6_looksSame 44 = .ok (.aload_n 0, 1) := by decide +kernel
theorem dX6_looksSame_45 : decode cX6_looksSame 45 = .ok (.getfield 51, 3) := by decide +kernel
theorem dX6_looksSame_48 : decode cX6_looksSame 48 = .ok (.iload_n 1, 1) := by decide +kernel
theorem dX6_looksSame_49 : decode cX6_looksSame 49 = .ok (.iload_n 2, 1) := by decide +kernel
theorem dX6_looksSame_50 : decode cX6_looksSame 50 = .ok (.iload 5, 2) := by decide +kernel
theorem dX6_looksSame_52 : decode cX6_looksSame 52 = .ok (.invokevirtual 180, 3) := by decide +kernel
theorem dX6_looksSame_55 : decode cX6_looksSame 55 = .ok (.if_icmp .eq 5, 3) := by decide +kernel
theorem dX6_looksSame_58 : decode cX6_looksSame 58 = .ok (.iconst 0, 1) := by decide +kernel
theorem dX6_looksSame_59 : decode cX6_looksSame 59 = .ok (.ireturn, 1) := by decide +kernel
theorem dX6_looksSame_60 : decode cX6_looksSame 60 = .ok (.iinc 5 1, 3) := by decide +kernel
theorem dX6_looksSame_63 : decode cX6_looksSame 63 = .ok (.goto (-60), 3) := by decide +kernel
theorem dX6_looksSame_66 : decode cX6_looksSame 66 = .ok (.iconst 1, 1) := by decide +kernel
theorem dX6_looksSame_67 : decode cX6_looksSame 67 = .ok (.ireturn, 1) := by decide +kernel
theorem dX6_isPlain_0 : decode cX6_isPlain 0 = .ok (.aload_n 0, 1) := by decide +kernel
theorem dX6_isPlain_1 : decode cX6_isPlain 1 = .ok (.iload_n 1, 1) := by decide +kernel
theorem dX6_isPlain_2 : decode cX6_isPlain 2 = .ok (.iload_n 2, 1) := by decide +kernel
theorem dX6_isPlain_3 : decode cX6_isPlain 3 = .ok (.invokevirtual 99, 3) := by decide +kernel
theorem dX6_isPlain_6 : decode cX6_isPlain 6 = .ok (.astore_n 3, 1) := by decide +kernel
theorem dX6_isPlain_7 : decode cX6_isPlain 7 = .ok (.aload_n 3, 1) := by decide +kernel
theorem dX6_isPlain_8 : decode cX6_isPlain 8 = .ok (.ifnonnull 5, 3) := by decide +kernel
theorem dX6_isPlain_11 : decode cX6_isPlain 11 = .ok (.iconst 0, 1) := by decide +kernel
theorem dX6_isPlain_12 : decode cX6_isPlain 12 = .ok (.ireturn, 1) := by decide +kernel
theorem dX6_isPlain_13 : decode cX6_isPlain 13 = .ok (.aload_n 3, 1) := by decide +kernel
theorem dX6_isPlain_14 : decode cX6_isPlain 14 = .ok (.getfield 103, 3) := by decide +kernel
theorem dX6_isPlain_17 : decode cX6_isPlain 17 = .ok (.iconst 1, 1) := by decide +kernel
theorem dX6_isPlain_18 : decode cX6_isPlain 18 = .ok (.if_icmp .ne 39, 3) := by decide +kernel
theorem dX6_isPlain_21 : decode cX6_isPlain 21 = .ok (.aload_n 0, 1) := by decide +kernel
theorem dX6_isPlain_22 : decode cX6_isPlain 22 = .ok (.aload_n 3, 1) := by decide +kernel
theorem dX6_isPlain_23 : decode cX6_isPlain 23 = .ok (.getfield 146, 3) := by decide +kernel
theorem dX6_isPlain_26 : decode cX6_isPlain 26 = .ok (.invokevirtual 73, 3) := by decide +kernel
theorem dX6_isPlain_29 : decode cX6_isPlain 29 = .ok (.astore 4, 2) := by decide +kernel
theorem dX6_isPlain_31 : decode cX6_isPlain 31 = .ok (.aload_n 3, 1) := by decide +kernel
theorem dX6_isPlain_32 : decode cX6_isPlain 32 = .ok (.getfield 118, 3) := by decide +kernel
theorem dX6_isPlain_35 : decode cX6_isPlain 35 = .ok (.ifCond .ne 20, 3) := by decide +kernel
theorem dX6_isPlain_38 : decode cX6_isPlain 38 = .ok (.aload 4, 2) := by decide +kernel
theorem dX6_isPlain_40 : decode cX6_isPlain 40 = .ok (.ifnull 15, 3) := by decide +kernel
theorem dX6_isPlain_43 : decode cX6_isPlain 43 = .ok (.aload 4, 2) := by decide +kernel
theorem dX6_isPlain_45 : decode cX6_isPlain 45 = .ok (.invokevirtual 279, 3) := by decide +kernel
theorem dX6_isPlain_48 : decode cX6_isPlain 48 = .ok (.ifCond .ne 7, 3) := by decide +kernel
theorem dX6_isPlain_51 : decode cX6_isPlain 51 = .ok (.iconst 1, 1) := by decide +kernel
theorem dX6_isPlain_52 : decode cX6_isPlain 52 = .ok (.goto 4, 3) := by decide +kernel
theorem dX6_isPlain_55 : decode cX6_isPlain 55 = .ok (.iconst 0, 1) := by decide +kernel
theorem dX6_isPlain_56 : decode cX6_isPlain 56 = .ok (.ireturn, 1) := by decide +kernel
theorem dX6_isPlain_57 : decode cX6_isPlain 57 = .ok (.aload_n 3, 1) := by decide +kernel
theorem dX6_isPlain_58 : decode cX6_isPlain 58 = .ok (.getfield 118, 3) := by decide +kernel
theorem dX6_isPlain_61 : decode cX6_isPlain 61 = .ok (.ifCond .eq 11, 3) := by decide +kernel
theorem dX6_isPlain_64 : decode cX6_isPlain 64 = .ok (.aload_n 3, 1) := by decide +kernel
theorem dX6_isPlain_65 : decode cX6_isPlain 65 = .ok (.getfield 118, 3) := by decide +kernel
theorem dX6_isPlain_68 : decode cX6_isPlain 68 = .ok (.iconst 3, 1) := by decide +kernel
theorem dX6_isPlain_69 : decode cX6_isPlain 69 = .ok (.if_icmp .ne 7, 3) := by decide +kernel
theorem dX6_isPlain_72 : decode cX6_isPlain 72 = .ok (.iconst 1, 1) := by decide +kernel
theorem dX6_isPlain_73 : decode cX6_isPlain 73 = .ok (.goto 4, 3) := by decide +kernel
theorem dX6_isPlain_76 : decode cX6_isPlain 76 = .ok (.iconst 0, 1) := by decide +kernel
theorem dX6_isPlain_77 : decode cX6_isPlain 77 = .ok (.ireturn, 1) := by decide +kernel
theorem dX6_movesSame_0 : decode cX6_movesSame 0 = .ok (.aload_n 0, 1) := by decide +kernel
theorem dX6_movesSame_1 : decode cX6_movesSame 1 = .ok (.iload_n 1, 1) := by decide +kernel
theorem dX6_movesSame_2 : decode cX6_movesSame 2 = .ok (.invokevirtual 73, 3) := by decide +kernel
theorem dX6_movesSame_5 : decode cX6_movesSame 5 = .ok (.astore 5, 2) := by decide +kernel
theorem dX6_movesSame_7 : decode cX6_movesSame 7 = .ok (.iconst 0, 1) := by decide +kernel
theorem dX6_movesSame_8 : decode cX6_movesSame 8 = .ok (.istore 6, 2) := by decide +kernel
theorem dX6_movesSame_10 : decode cX6_movesSame 10 = .ok (.iconst 0, 1) := by decide +kernel
theorem dX6_movesSame_11 : decode cX6_movesSame 11 = .ok (.istore 7, 2) := by decide +kernel
theorem dX6_movesSame_13 : decode cX6_movesSame 13 = .ok (.iconst 0, 1) := by decide +kernel
theorem dX6_movesSame_14 : decode cX6_movesSame 14 = .ok (.istore 8, 2) := by decide +kernel
theorem dX6_movesSame_16 : decode cX6_movesSame 16 = .ok (.iload 8, 2) := by decide +kernel
theorem dX6_movesSame_18 : decode cX6_movesSame 18 = .ok (.aload_n 0, 1) := by decide +kernel
theorem dX6_movesSame_19 : decode cX6_movesSame 19 = .ok (.iload_n 1, 1) := by decide +kernel
theorem dX6_movesSame_20 : decode cX6_movesSame 20 = .ok (.invokevirtual 249, 3) := by decide +kernel
theorem dX6_movesSame_23 : decode cX6_movesSame 23 = .ok (.if_icmp .ge 121, 3) := by decide +kernel
theorem dX6_movesSame_26 : decode cX6_movesSame 26 = .ok (.aload 5, 2) := by decide +kernel
theorem dX6_movesSame_28 : decode cX6_movesSame 28 = .ok (.ifnull 110, 3) := by decide +kernel
theorem dX6_movesSame_31 : decode cX6_movesSame 31 = .ok (.iload 4, 2) := by decide +kernel
theorem dX6_movesSame_33 : decode cX6_movesSame 33 = .ok (.iload 8, 2) := by decide +kernel
theorem dX6_movesSame_35 : decode cX6_movesSame 35 = .ok (.invokestatic 220, 3) := by decide +kernel
theorem dX6_movesSame_38 : decode cX6_movesSame 38 = .ok (.ifCond .eq 100, 3) := by decide +kernel
theorem dX6_movesSame_41 : decode cX6_movesSame 41 = .ok (.aload 5, 2) := by decide +kernel
theorem dX6_movesSame_43 : decode cX6_movesSame 43 = .ok (.iload 8, 2) := by decide +kernel
theorem dX6_movesSame_45 : decode cX6_movesSame 45 = .ok (.invokevirtual 298, 3) := by decide +kernel
theorem dX6_movesSame_48 : decode cX6_movesSame 48 = .ok (.ifCond .ne 6, 3) := by decide +kernel
theorem dX6_movesSame_51 : decode cX6_movesSame 51 = .ok (.goto 87, 3) := by decide +kernel
theorem dX6_movesSame_54 : decode cX6_movesSame 54 = .ok (.aload_n 0, 1) := by decide +kernel
theorem dX6_movesSame_55 : decode cX6_movesSame 55 = .ok (.getfield 30, 3) := by decide +kernel
theorem dX6_movesSame_58 : decode cX6_movesSame 58 = .ok (.iload_n 1, 1) := by decide +kernel
theorem dX6_movesSame_59 : decode cX6_movesSame 59 = .ok (.iload_n 2, 1) := by decide +kernel
theorem dX6_movesSame_60 : decode cX6_movesSame 60 = .ok (.iload 8, 2) := by decide +kernel
theorem dX6_movesSame_62 : decode cX6_movesSame 62 = .ok (.invokevirtual 180, 3) := by decide +kernel
theorem dX6_movesSame_65 : decode cX6_movesSame 65 = .ok (.istore 9, 2) := by decide +kernel
theorem dX6_movesSame_67 : decode cX6_movesSame 67 = .ok (.aload_n 0, 1) := by decide +kernel
theorem dX6_movesSame_68 : decode cX6_movesSame 68 = .ok (.getfield 51, 3) := by decide +kernel
theorem dX6_movesSame_71 : decode cX6_movesSame 71 = .ok (.iload_n 1, 1) := by decide +kernel
theorem dX6_movesSame_72 : decode cX6_movesSame 72 = .ok (.iload_n 3, 1) := by decide +kernel
theorem dX6_movesSame_73 : decode cX6_movesSame 73 = .ok (.iload 8, 2) := by decide +kernel
theorem dX6_movesSame_75 : decode cX6_movesSame 75 = .ok (.invokevirtual 180, 3) := by decide +kernel
theorem dX6_movesSame_78 : decode cX6_movesSame 78 = .ok (.istore 10, 2) := by decide +kernel
theorem dX6_movesSame_80 : decode cX6_movesSame 80 = .ok (.iload 9, 2) := by decide +kernel
theorem dX6_movesSame_82 : decode cX6_movesSame 82 = .ok (.ldc 179, 2) := by decide +kernel
theorem dX6_movesSame_84 : decode cX6_movesSame 84 = .ok (.if_icmp .ne 13, 3) := by decide +kernel
theorem dX6_movesSame_87 : decode cX6_movesSame 87 = .ok (.iload 10, 2) := by decide +kernel
theorem dX6_movesSame_89 : decode cX6_movesSame 89 = .ok (.ldc 179, 2) := by decide +kernel
theorem dX6_movesSame_91 : decode cX6_movesSame 91 = .ok (.if_icmp .ne 6, 3) := by decide +kernel
theorem dX6_movesSame_94 : decode cX6_movesSame 94 = .ok (.goto 44, 3) := by decide +kernel
theorem dX6_movesSame_97 : decode cX6_movesSame 97 = .ok (.iload 9, 2) := by decide +kernel
theorem dX6_movesSame_99 : decode cX6_movesSame 99 = .ok (.ldc 179, 2) := by decide +kernel
theorem dX6_movesSame_101 : decode cX6_movesSame 101 = .ok (.if_icmp .eq 25, 3) := by decide +kernel
theorem dX6_movesSame_104 : decode cX6_movesSame 104 = .ok (.iload 10, 2) := by decide +kernel
theorem dX6_movesSame_106 : decode cX6_movesSame 106 = .ok (.ldc 179, 2) := by decide +kernel
theorem dX6_movesSame_108 : decode cX6_movesSame 108 = .ok (.if_icmp .eq 18, 3) := by decide +kernel
theorem dX6_movesSame_111 : decode cX6_movesSame 111 = .ok (.iload 6, 2) := by decide +kernel
theorem dX6_movesSame_113 : decode cX6_movesSame 113 = .ok (.ifCond .eq 15, 3) := by decide +kernel
theorem dX6_movesSame_116 : decode cX6_movesSame 116 = .ok (.iload 10, 2) := by decide +kernel
theorem dX6_movesSame_118 : decode cX6_movesSame 118 = .ok (.iload 9, 2) := by decide +kernel
theorem dX6_movesSame_120 : decode cX6_movesSame 120 = .ok (.isub, 1) := by decide +kernel
theorem dX6_movesSame_121 : decode cX6_movesSame 121 = .ok (.iload 7, 2) := by decide +kernel
theorem dX6_movesSame_123 : decode cX6_movesSame 123 = .ok (.if_icmp .eq 5, 3) := by decide +kernel
theorem dX6_movesSame_126 : decode cX6_movesSame 126 = .ok (.iconst 0, 1) := by decide +kernel
theorem dX6_movesSame_127 : decode cX6_movesSame 127 = .ok (.ireturn, 1) := by decide +kernel
theorem dX6_movesSame_128 : decode cX6_movesSame 128 = .ok (.iconst 1, 1) := by decide +kernel
theorem dX6_movesSame_129 : decode cX6_movesSame 129 = .ok (.istore 6, 2) := by decide +kernel
theorem dX6_movesSame_131 : decode cX6_movesSame 131 = .ok (.iload 10, 2) := by decide +kernel
theorem dX6_movesSame_133 : decode cX6_movesSame 133 = .ok (.iload 9, 2) := by decide +kernel
theorem dX6_movesSame_135 : decode cX6_movesSame 135 = .ok (.isub, 1) := by decide +kernel
theorem dX6_movesSame_136 : decode cX6_movesSame 136 = .ok (.istore 7, 2) := by decide +kernel
theorem dX6_movesSame_138 : decode cX6_movesSame 138 = .ok (.iinc 8 1, 3) := by decide +kernel
theorem dX6_movesSame_141 : decode cX6_movesSame 141 = .ok (.goto (-125), 3) := by decide +kernel
theorem dX6_movesSame_144 : decode cX6_movesSame 144 = .ok (.iconst 1, 1) := by decide +kernel
theorem dX6_movesSame_145 : decode cX6_movesSame 145 = .ok (.ireturn, 1) := by decide +kernel
theorem dX6_prepareSearch_0 : decode cX6_prepareSearch 0 = .ok (.aload_n 0, 1) := by decide +kernel
theorem dX6_prepareSearch_1 : decode cX6_prepareSearch 1 = .ok (.getfield 44, 3) := by decide +kernel
theorem dX6_prepareSearch_4 : decode cX6_prepareSearch 4 = .ok (.aload_n 0, 1) := by decide +kernel
theorem dX6_prepareSearch_5 : decode cX6_prepareSearch 5 = .ok (.iload_n 1, 1) := by decide +kernel
theorem dX6_prepareSearch_6 : decode cX6_prepareSearch 6 = .ok (.invokevirtual 200, 3) := by decide +kernel
theorem dX6_prepareSearch_9 : decode cX6_prepareSearch 9 = .ok (.invokevirtual 349, 3) := by decide +kernel
theorem dX6_prepareSearch_12 : decode cX6_prepareSearch 12 = .ok (.iconst 0, 1) := by decide +kernel
theorem dX6_prepareSearch_13 : decode cX6_prepareSearch 13 = .ok (.istore_n 3, 1) := by decide +kernel
theorem dX6_prepareSearch_14 : decode cX6_prepareSearch 14 = .ok (.iconst 0, 1) := by decide +kernel
theorem dX6_prepareSearch_15 : decode cX6_prepareSearch 15 = .ok (.istore 4, 2) := by decide +kernel
theorem dX6_prepareSearch_17 : decode cX6_prepareSearch 17 = .ok (.iload 4, 2) := by decide +kernel
theorem dX6_prepareSearch_19 : decode cX6_prepareSearch 19 = .ok (.aload_n 0, 1) := by decide +kernel
theorem dX6_prepareSearch_20 : decode cX6_prepareSearch 20 = .ok (.iload_n 1, 1) := by decide +kernel
theorem dX6_prepareSearch_21 : decode cX6_prepareSearch 21 = .ok (.invokevirtual 249, 3) := by decide +kernel
theorem dX6_prepareSearch_24 : decode cX6_prepareSearch 24 = .ok (.if_icmp .ge 52, 3) := by decide +kernel
theorem dX6_prepareSearch_27 : decode cX6_prepareSearch 27 = .ok (.aload_n 0, 1) := by decide +kernel
theorem dX6_prepareSearch_28 : decode cX6_prepareSearch 28 = .ok (.iload_n 1, 1) := by decide +kernel
theorem dX6_prepareSearch_29 : decode cX6_prepareSearch 29 = .ok (.iload 4, 2) := by decide +kernel
theorem dX6_prepareSearch_31 : decode cX6_prepareSearch 31 = .ok (.invokevirtual 99, 3) := by decide +kernel
theorem dX6_prepareSearch_34 : decode cX6_prepareSearch 34 = .ok (.astore 5, 2) := by decide +kernel
theorem dX6_prepareSearch_36 : decode cX6_prepareSearch 36 = .ok (.aload 5, 2) := by decide +kernel
theorem dX6_prepareSearch_38 : decode cX6_prepareSearch 38 = .ok (.ifnull 32, 3) := by decide +kernel
theorem dX6_prepareSearch_41 : decode cX6_prepareSearch 41 = .ok (.aload 5, 2) := by decide +kernel
theorem dX6_prepareSearch_43 : decode cX6_prepareSearch 43 = .ok (.getfield 118, 3) := by decide +kernel
theorem dX6_prepareSearch_46 : decode cX6_prepareSearch 46 = .ok (.iconst 3, 1) := by decide +kernel
theorem dX6_prepareSearch_47 : decode cX6_prepareSearch 47 = .ok (.if_icmp .ne 23, 3) := by decide +kernel
theorem dX6_prepareSearch_50 : decode cX6_prepareSearch 50 = .ok (.iload_n 3, 1) := by decide +kernel
theorem dX6_prepareSearch_51 : decode cX6_prepareSearch 51 = .ok (.iconst 1, 1) := by decide +kernel
theorem dX6_prepareSearch_52 : decode cX6_prepareSearch 52 = .ok (.iload 4, 2) := by decide +kernel
theorem dX6_prepareSearch_54 : decode cX6_prepareSearch 54 = .ok (.ishl, 1) := by decide +kernel
theorem dX6_prepareSearch_55 : decode cX6_prepareSearch 55 = .ok (.ior, 1) := by decide +kernel
theorem dX6_prepareSearch_56 : decode cX6_prepareSearch 56 = .ok (.istore_n 3, 1) := by decide +kernel
theorem dX6_prepareSearch_57 : decode cX6_prepareSearch 57 = .ok (.aload_n 0, 1) := by decide +kernel
theorem dX6_prepareSearch_58 : decode cX6_prepareSearch 58 = .ok (.iload_n 1, 1) := by decide +kernel
theorem dX6_prepareSearch_59 : decode cX6_prepareSearch 59 = .ok (.iload 4, 2) := by decide +kernel
theorem dX6_prepareSearch_61 : decode cX6_prepareSearch 61 = .ok (.iload_n 2, 1) := by decide +kernel
theorem dX6_prepareSearch_62 : decode cX6_prepareSearch 62 = .ok (.iload 4, 2) := by decide +kernel
theorem dX6_prepareSearch_64 : decode cX6_prepareSearch 64 = .ok (.invokestatic 220, 3) := by decide +kernel
theorem dX6_prepareSearch_67 : decode cX6_prepareSearch 67 = .ok (.invokevirtual 352, 3) := by decide +kernel
theorem dX6_prepareSearch_70 : decode cX6_prepareSearch 70 = .ok (.iinc 4 1, 3) := by decide +kernel
theorem dX6_prepareSearch_73 : decode cX6_prepareSearch 73 = .ok (.goto (-56), 3) := by decide +kernel
theorem dX6_prepareSearch_76 : decode cX6_prepareSearch 76 = .ok (.iconst 0, 1) := by decide +kernel
theorem dX6_prepareSearch_77 : decode cX6_prepareSearch 77 = .ok (.istore 4, 2) := by decide +kernel
theorem dX6_prepareSearch_79 : decode cX6_prepareSearch 79 = .ok (.iload 4, 2) := by decide +kernel
theorem dX6_prepareSearch_81 : decode cX6_prepareSearch 81 = .ok (.aload_n 0, 1) := by decide +kernel
theorem dX6_prepareSearch_82 : decode cX6_prepareSearch 82 = .ok (.iload_n 1, 1) := by decide +kernel
theorem dX6_prepareSearch_83 : decode cX6_prepareSearch 83 = .ok (.invokevirtual 200, 3) := by decide +kernel
theorem dX6_prepareSearch_86 : decode cX6_prepareSearch 86 = .ok (.if_icmp .ge 30, 3) := by decide +kernel
theorem dX6_prepareSearch_89 : decode cX6_prepareSearch 89 = .ok (.aload_n 0, 1) := by decide +kernel
theorem dX6_prepareSearch_90 : decode cX6_prepareSearch 90 = .ok (.getfield 44, 3) := by decide +kernel
theorem dX6_prepareSearch_93 : decode cX6_prepareSearch 93 = .ok (.iload 4, 2) := by decide +kernel
theorem dX6_prepareSearch_95 : decode cX6_prepareSearch 95 = .ok (.aload_n 0, 1) := by decide +kernel
theorem dX6_prepareSearch_96 : decode cX6_prepareSearch 96 = .ok (.iload_n 1, 1) := by decide +kernel
theorem dX6_prepareSearch_97 : decode cX6_prepareSearch 97 = .ok (.iload 4, 2) := by decide +kernel
theorem dX6_prepareSearch_99 : decode cX6_prepareSearch 99 = .ok (.iload_n 2, 1) := by decide +kernel
theorem dX6_prepareSearch_100 : decode cX6_prepareSearch 100 = .ok (.iload_n 3, 1) := by decide +kernel
theorem dX6_prepareSearch_101 : decode cX6_prepareSearch 101 = .ok (.iconst (-1), 1) := by decide +kernel
theorem dX6_prepareSearch_102 : decode cX6_prepareSearch 102 = .ok (.ixor, 1) := by decide +kernel
theorem dX6_prepareSearch_103 : decode cX6_prepareSearch 103 = .ok (.iand, 1) := by decide +kernel
theorem dX6_prepareSearch_104 : decode cX6_prepareSearch 104 = .ok (.invokevirtual 211, 3) := by decide +kernel
theorem dX6_prepareSearch_107 : decode cX6_prepareSearch 107 = .ok (.invokevirtual 356, 3) := by decide +kernel
theorem dX6_prepareSearch_110 : decode cX6_prepareSearch 110 = .ok (.iinc 4 1, 3) := by decide +kernel
theorem dX6_prepareSearch_113 : decode cX6_prepareSearch 113 = .ok (.goto (-34), 3) := by decide +kernel
theorem dX6_prepareSearch_116 : decode cX6_prepareSearch 116 = .ok (.return_, 1) := by decide +kernel
theorem dX6_offerWidths_0 : decode cX6_offerWidths 0 = .ok (.aload_n 0, 1) := by decide +kernel
theorem dX6_offerWidths_1 : decode cX6_offerWidths 1 = .ok (.getfield 44, 3) := by decide +kernel
theorem dX6_offerWidths_4 : decode cX6_offerWidths 4 = .ok (.iload_n 2, 1) := by decide +kernel
theorem dX6_offerWidths_5 : decode cX6_offerWidths 5 = .ok (.invokevirtual 359, 3) := by decide +kernel
theorem dX6_offerWidths_8 : decode cX6_offerWidths 8 = .ok (.istore 4, 2) := by decide +kernel
theorem dX6_offerWidths_10 : decode cX6_offerWidths 10 = .ok (.iconst 0, 1) := by decide +kernel
theorem dX6_offerWidths_11 : decode cX6_offerWidths 11 = .ok (.istore 5, 2) := by decide +kernel
theorem dX6_offerWidths_13 : decode cX6_offerWidths 13 = .ok (.iload 5, 2) := by decide +kernel
theorem dX6_offerWidths_15 : decode cX6_offerWidths 15 = .ok (.iconst 4, 1) := by decide +kernel
theorem dX6_offerWidths_16 : decode cX6_offerWidths 16 = .ok (.if_icmp .ge 87, 3) := by decide +kernel
theorem dX6_offerWidths_19 : decode cX6_offerWidths 19 = .ok (.iload 5, 2) := by decide +kernel
theorem dX6_offerWidths_21 : decode cX6_offerWidths 21 = .ok (.invokestatic 239, 3) := by decide +kernel
theorem dX6_offerWidths_24 : decode cX6_offerWidths 24 = .ok (.istore 6, 2) := by decide +kernel
theorem dX6_offerWidths_26 : decode cX6_offerWidths 26 = .ok (.aload_n 0, 1) := by decide +kernel
theorem dX6_offerWidths_27 : decode cX6_offerWidths 27 = .ok (.getfield 44, 3) := by decide +kernel
theorem dX6_offerWidths_30 : decode cX6_offerWidths 30 = .ok (.iload 4, 2) := by decide +kernel
theorem dX6_offerWidths_32 : decode cX6_offerWidths 32 = .ok (.iload 5, 2) := by decide +kernel
theorem dX6_offerWidths_34 : decode cX6_offerWidths 34 = .ok (.aload_n 0, 1) := by decide +kernel
theorem dX6_offerWidths_35 : decode cX6_offerWidths 35 = .ok (.iload_n 1, 1) := by decide +kernel
theorem dX6_offerWidths_36 : decode cX6_offerWidths 36 = .ok (.iload_n 2, 1) := by decide +kernel
theorem dX6_offerWidths_37 : decode cX6_offerWidths 37 = .ok (.iload 6, 2) := by decide +kernel
theorem dX6_offerWidths_39 : decode cX6_offerWidths 39 = .ok (.invokevirtual 223, 3) := by decide +kernel
theorem dX6_offerWidths_42 : decode cX6_offerWidths 42 = .ok (.invokevirtual 361, 3) := by decide +kernel
theorem dX6_offerWidths_45 : decode cX6_offerWidths 45 = .ok (.iconst 0, 1) := by decide +kernel
theorem dX6_offerWidths_46 : decode cX6_offerWidths 46 = .ok (.istore 7, 2) := by decide +kernel
theorem dX6_offerWidths_48 : decode cX6_offerWidths 48 = .ok (.iload 7, 2) := by decide +kernel
theorem dX6_offerWidths_50 : decode cX6_offerWidths 50 = .ok (.aload_n 0, 1) := by decide +kernel
theorem dX6_offerWidths_51 : decode cX6_offerWidths 51 = .ok (.iload_n 1, 1) := by decide +kernel
theorem dX6_offerWidths_52 : decode cX6_offerWidths 52 = .ok (.invokevirtual 200, 3) := by decide +kernel
theorem dX6_offerWidths_55 : decode cX6_offerWidths 55 = .ok (.if_icmp .ge 42, 3) := by decide +kernel
theorem dX6_offerWidths_58 : decode cX6_offerWidths 58 = .ok (.aload_n 0, 1) := by decide +kernel
theorem dX6_offerWidths_59 : decode cX6_offerWidths 59 = .ok (.getfield 44, 3) := by decide +kernel
theorem dX6_offerWidths_62 : decode cX6_offerWidths 62 = .ok (.iload 4, 2) := by decide +kernel
theorem dX6_offerWidths_64 : decode cX6_offerWidths 64 = .ok (.iload 5, 2) := by decide +kernel
theorem dX6_offerWidths_66 : decode cX6_offerWidths 66 = .ok (.iload 7, 2) := by decide +kernel
theorem dX6_offerWidths_68 : decode cX6_offerWidths 68 = .ok (.iload_n 3, 1) := by decide +kernel
theorem dX6_offerWidths_69 : decode cX6_offerWidths 69 = .ok (.ifCond .eq 16, 3) := by decide +kernel
theorem dX6_offerWidths_72 : decode cX6_offerWidths 72 = .ok (.aload_n 0, 1) := by decide +kernel
theorem dX6_offerWidths_73 : decode cX6_offerWidths 73 = .ok (.iload_n 1, 1) := by decide +kernel
theorem dX6_offerWidths_74 : decode cX6_offerWidths 74 = .ok (.iload_n 2, 1) := by decide +kernel
theorem dX6_offerWidths_75 : decode cX6_offerWidths 75 = .ok (.iload 7, 2) := by decide +kernel
theorem dX6_offerWidths_77 : decode cX6_offerWidths 77 = .ok (.iload 6, 2) := by decide +kernel
theorem dX6_offerWidths_79 : decode cX6_offerWidths 79 = .ok (.invokevirtual 364, 3) := by decide +kernel
theorem dX6_offerWidths_82 : decode cX6_offerWidths 82 = .ok (.goto 6, 3) := by decide +kernel
theorem dX6_offerWidths_85 : decode cX6_offerWidths 85 = .ok (.sipush 4095, 3) := by decide +kernel
theorem dX6_offerWidths_88 : decode cX6_offerWidths 88 = .ok (.invokevirtual 367, 3) := by decide +kernel
theorem dX6_offerWidths_91 : decode cX6_offerWidths 91 = .ok (.iinc 7 1, 3) := by decide +kernel
theorem dX6_offerWidths_94 : decode cX6_offerWidths 94 = .ok (.goto (-46), 3) := by decide +kernel
theorem dX6_offerWidths_97 : decode cX6_offerWidths 97 = .ok (.iinc 5 1, 3) := by decide +kernel
theorem dX6_offerWidths_100 : decode cX6_offerWidths 100 = .ok (.goto (-87), 3) := by decide +kernel
theorem dX6_offerWidths_103 : decode cX6_offerWidths 103 = .ok (.return_, 1) := by decide +kernel
theorem dX6_sameBy_0 : decode cX6_sameBy 0 = .ok (.aload_n 0, 1) := by decide +kernel
theorem dX6_sameBy_1 : decode cX6_sameBy 1 = .ok (.getfield 30, 3) := by decide +kernel
theorem dX6_sameBy_4 : decode cX6_sameBy 4 = .ok (.iload_n 1, 1) := by decide +kernel
theorem dX6_sameBy_5 : decode cX6_sameBy 5 = .ok (.iload_n 3, 1) := by decide +kernel
theorem dX6_sameBy_6 : decode cX6_sameBy 6 = .ok (.iload_n 2, 1) := by decide +kernel
theorem dX6_sameBy_7 : decode cX6_sameBy 7 = .ok (.invokevirtual 180, 3) := by decide +kernel
theorem dX6_sameBy_10 : decode cX6_sameBy 10 = .ok (.iload 4, 2) := by decide +kernel
theorem dX6_sameBy_12 : decode cX6_sameBy 12 = .ok (.invokestatic 370, 3) := by decide +kernel
theorem dX6_sameBy_15 : decode cX6_sameBy 15 = .ok (.istore 5, 2) := by decide +kernel
theorem dX6_sameBy_17 : decode cX6_sameBy 17 = .ok (.iconst 0, 1) := by decide +kernel
theorem dX6_sameBy_18 : decode cX6_sameBy 18 = .ok (.istore 6, 2) := by decide +kernel
theorem dX6_sameBy_20 : decode cX6_sameBy 20 = .ok (.iconst 0, 1) := by decide +kernel
theorem dX6_sameBy_21 : decode cX6_sameBy 21 = .ok (.istore 7, 2) := by decide +kernel
theorem dX6_sameBy_23 : decode cX6_sameBy 23 = .ok (.iload 7, 2) := by decide +kernel
theorem dX6_sameBy_25 : decode cX6_sameBy 25 = .ok (.aload_n 0, 1) := by decide +kernel
theorem dX6_sameBy_26 : decode cX6_sameBy 26 = .ok (.iload_n 1, 1) := by decide +kernel
theorem dX6_sameBy_27 : decode cX6_sameBy 27 = .ok (.invokevirtual 200, 3) := by decide +kernel
theorem dX6_sameBy_30 : decode cX6_sameBy 30 = .ok (.if_icmp .ge 39, 3) := by decide +kernel
theorem dX6_sameBy_33 : decode cX6_sameBy 33 = .ok (.aload_n 0, 1) := by decide +kernel
theorem dX6_sameBy_34 : decode cX6_sameBy 34 = .ok (.getfield 30, 3) := by decide +kernel
theorem dX6_sameBy_37 : decode cX6_sameBy 37 = .ok (.iload_n 1, 1) := by decide +kernel
theorem dX6_sameBy_38 : decode cX6_sameBy 38 = .ok (.iload 7, 2) := by decide +kernel
theorem dX6_sameBy_40 : decode cX6_sameBy 40 = .ok (.iload_n 2, 1) := by decide +kernel
theorem dX6_sameBy_41 : decode cX6_sameBy 41 = .ok (.invokevirtual 180, 3) := by decide +kernel
theorem dX6_sameBy_44 : decode cX6_sameBy 44 = .ok (.iload 4, 2) := by decide +kernel
theorem dX6_sameBy_46 : decode cX6_sameBy 46 = .ok (.invokestatic 370, 3) := by decide +kernel
theorem dX6_sameBy_49 : decode cX6_sameBy 49 = .ok (.iload 5, 2) := by decide +kernel
theorem dX6_sameBy_51 : decode cX6_sameBy 51 = .ok (.if_icmp .ne 12, 3) := by decide +kernel
theorem dX6_sameBy_54 : decode cX6_sameBy 54 = .ok (.iload 6, 2) := by decide +kernel
theorem dX6_sameBy_56 : decode cX6_sameBy 56 = .ok (.iconst 1, 1) := by decide +kernel
theorem dX6_sameBy_57 : decode cX6_sameBy 57 = .ok (.iload 7, 2) := by decide +kernel
theorem dX6_sameBy_59 : decode cX6_sameBy 59 = .ok (.ishl, 1) := by decide +kernel
theorem dX6_sameBy_60 : decode cX6_sameBy 60 = .ok (.ior, 1) := by decide +kernel
theorem dX6_sameBy_61 : decode cX6_sameBy 61 = .ok (.istore 6, 2) := by decide +kernel
theorem dX6_sameBy_63 : decode cX6_sameBy 63 = .ok (.iinc 7 1, 3) := by decide +kernel
theorem dX6_sameBy_66 : decode cX6_sameBy 66 = .ok (.goto (-43), 3) := by decide +kernel
theorem dX6_sameBy_69 : decode cX6_sameBy 69 = .ok (.iload 6, 2) := by decide +kernel
theorem dX6_sameBy_71 : decode cX6_sameBy 71 = .ok (.ireturn, 1) := by decide +kernel
theorem dX6_coarseOrMissing_0 : decode cX6_coarseOrMissing 0 = .ok (.iload_n 0, 1) := by decide +kernel
theorem dX6_coarseOrMissing_1 : decode cX6_coarseOrMissing 1 = .ok (.ldc 179, 2) := by decide +kernel
theorem dX6_coarseOrMissing_3 : decode cX6_coarseOrMissing 3 = .ok (.if_icmp .ne 8, 3) := by decide +kernel
theorem dX6_coarseOrMissing_6 : decode cX6_coarseOrMissing 6 = .ok (.ldc 179, 2) := by decide +kernel
theorem dX6_coarseOrMissing_8 : decode cX6_coarseOrMissing 8 = .ok (.goto 10, 3) := by decide +kernel
theorem dX6_coarseOrMissing_11 : decode cX6_coarseOrMissing 11 = .ok (.iload_n 0, 1) := by decide +kernel
theorem dX6_coarseOrMissing_12 : decode cX6_coarseOrMissing 12 = .ok (.iload_n 0, 1) := by decide +kernel
theorem dX6_coarseOrMissing_13 : decode cX6_coarseOrMissing 13 = .ok (.iload_n 1, 1) := by decide +kernel
theorem dX6_coarseOrMissing_14 : decode cX6_coarseOrMissing 14 = .ok (.invokestatic 276, 3) := by decide +kernel
theorem dX6_coarseOrMissing_17 : decode cX6_coarseOrMissing 17 = .ok (.isub, 1) := by decide +kernel
theorem dX6_coarseOrMissing_18 : decode cX6_coarseOrMissing 18 = .ok (.ireturn, 1) := by decide +kernel
theorem dX7_init_0 : decode cX7_init 0 = .ok (.aload_n 0, 1) := by decide +kernel
theorem dX7_init_1 : decode cX7_init 1 = .ok (.invokespecial 3, 3) := by decide +kernel
theorem dX7_init_4 : decode cX7_init 4 = .ok (.aload_n 0, 1) := by decide +kernel
theorem dX7_init_5 : decode cX7_init 5 = .ok (.iconst 4, 1) := by decide +kernel
theorem dX7_init_6 : decode cX7_init 6 = .ok (.newarray .int, 2) := by decide +kernel
theorem dX7_init_8 : decode cX7_init 8 = .ok (.putfield 9, 3) := by decide +kernel
theorem dX7_init_11 : decode cX7_init 11 = .ok (.aload_n 0, 1) := by decide +kernel
theorem dX7_init_12 : decode cX7_init 12 = .ok (.iconst 4, 1) := by decide +kernel
theorem dX7_init_13 : decode cX7_init 13 = .ok (.newarray .int, 2) := by decide +kernel
theorem dX7_init_15 : decode cX7_init 15 = .ok (.putfield 15, 3) := by decide +kernel
theorem dX7_init_18 : decode cX7_init 18 = .ok (.aload_n 0, 1) := by decide +kernel
theorem dX7_init_19 : decode cX7_init 19 = .ok (.iconst 4, 1) := by decide +kernel
theorem dX7_init_20 : decode cX7_init 20 = .ok (.newarray .int, 2) := by decide +kernel
theorem dX7_init_22 : decode cX7_init 22 = .ok (.putfield 18, 3) := by decide +kernel
theorem dX7_init_25 : decode cX7_init 25 = .ok (.aload_n 0, 1) := by decide +kernel
theorem dX7_init_26 : decode cX7_init 26 = .ok (.bipush 24, 2) := by decide +kernel
theorem dX7_init_28 : decode cX7_init 28 = .ok (.newarray .int, 2) := by decide +kernel
theorem dX7_init_30 : decode cX7_init 30 = .ok (.putfield 21, 3) := by decide +kernel
theorem dX7_init_33 : decode cX7_init 33 = .ok (.aload_n 0, 1) := by decide +kernel
theorem dX7_init_34 : decode cX7_init 34 = .ok (.bipush 24, 2) := by decide +kernel
theorem dX7_init_36 : decode cX7_init 36 = .ok (.newarray .int, 2) := by decide +kernel
theorem dX7_init_38 : decode cX7_init 38 = .ok (.putfield 24, 3) := by decide +kernel
theorem dX7_init_41 : decode cX7_init 41 = .ok (.aload_n 0, 1) := by decide +kernel
theorem dX7_init_42 : decode cX7_init 42 = .ok (.bipush 24, 2) := by decide +kernel
theorem dX7_init_44 : decode cX7_init 44 = .ok (.newarray .int, 2) := by decide +kernel
theorem dX7_init_46 : decode cX7_init 46 = .ok (.putfield 27, 3) := by decide +kernel
theorem dX7_init_49 : decode cX7_init 49 = .ok (.aload_n 0, 1) := by decide +kernel
theorem dX7_init_50 : decode cX7_init 50 = .ok (.bipush 24, 2) := by decide +kernel
theorem dX7_init_52 : decode cX7_init 52 = .ok (.newarray .int, 2) := by decide +kernel
theorem dX7_init_54 : decode cX7_init 54 = .ok (.putfield 30, 3) := by decide +kernel
theorem dX7_init_57 : decode cX7_init 57 = .ok (.aload_n 0, 1) := by decide +kernel
theorem dX7_init_58 : decode cX7_init 58 = .ok (.bipush 24, 2) := by decide +kernel
theorem dX7_init_60 : decode cX7_init 60 = .ok (.newarray .int, 2) := by decide +kernel
theorem dX7_init_62 : decode cX7_init 62 = .ok (.putfield 33, 3) := by decide +kernel
theorem dX7_init_65 : decode cX7_init 65 = .ok (.aload_n 0, 1) := by decide +kernel
theorem dX7_init_66 : decode cX7_init 66 = .ok (.bipush 24, 2) := by decide +kernel
theorem dX7_init_68 : decode cX7_init 68 = .ok (.newarray .int, 2) := by decide +kernel
theorem dX7_init_70 : decode cX7_init 70 = .ok (.putfield 36, 3) := by decide +kernel
theorem dX7_init_73 : decode cX7_init 73 = .ok (.aload_n 0, 1) := by decide +kernel
theorem dX7_init_74 : decode cX7_init 74 = .ok (.bipush 20, 2) := by decide +kernel
theorem dX7_init_76 : decode cX7_init 76 = .ok (.newarray .int, 2) := by decide +kernel
theorem dX7_init_78 : decode cX7_init 78 = .ok (.putfield 39, 3) := by decide +kernel
theorem dX7_init_81 : decode cX7_init 81 = .ok (.aload_n 0, 1) := by decide +kernel
theorem dX7_init_82 : decode cX7_init 82 = .ok (.bipush 20, 2) := by decide +kernel
theorem dX7_init_84 : decode cX7_init 84 = .ok (.newarray .int, 2) := by decide +kernel
theorem dX7_init_86 : decode cX7_init 86 = .ok (.putfield 42, 3) := by decide +kernel
theorem dX7_init_89 : decode cX7_init 89 = .ok (.aload_n 0, 1) := by decide +kernel
theorem dX7_init_90 : decode cX7_init 90 = .ok (.sipush 288, 3) := by decide +kernel
theorem dX7_init_93 : decode cX7_init 93 = .ok (.newarray .int, 2) := by decide +kernel
theorem dX7_init_95 : decode cX7_init 95 = .ok (.putfield 45, 3) := by decide +kernel
theorem dX7_init_98 : decode cX7_init 98 = .ok (.aload_n 0, 1) := by decide +kernel
theorem dX7_init_99 : decode cX7_init 99 = .ok (.sipush 288, 3) := by decide +kernel
theorem dX7_init_102 : decode cX7_init 102 = .ok (.newarray .int, 2) := by decide +kernel
theorem dX7_init_104 : decode cX7_init 104 = .ok (.putfield 48, 3) := by decide +kernel
theorem dX7_init_107 : decode cX7_init 107 = .ok (.aload_n 0, 1) := by decide +kernel
theorem dX7_init_108 : decode cX7_init 108 = .ok (.sipush 288, 3) := by decide +kernel
theorem dX7_init_111 : decode cX7_init 111 = .ok (.newarray .int, 2) := by decide +kernel
theorem dX7_init_113 : decode cX7_init 113 = .ok (.putfield 51, 3) := by decide +kernel
theorem dX7_init_116 : decode cX7_init 116 = .ok (.aload_n 0, 1) := by decide +kernel
theorem dX7_init_117 : decode cX7_init 117 = .ok (.bipush 6, 2) := by decide +kernel
theorem dX7_init_119 : decode cX7_init 119 = .ok (.newarray .int, 2) := by decide +kernel
theorem dX7_init_121 : decode cX7_init 121 = .ok (.putfield 54, 3) := by decide +kernel
theorem dX7_init_124 : decode cX7_init 124 = .ok (.aload_n 0, 1) := by decide +kernel
theorem dX7_init_125 : decode cX7_init 125 = .ok (.bipush 8, 2) := by decide +kernel
theorem dX7_init_127 : decode cX7_init 127 = .ok (.newarray .int, 2) := by decide +kernel
theorem dX7_init_129 : decode cX7_init 129 = .ok (.putfield 57, 3) := by decide +kernel
theorem dX7_init_132 : decode cX7_init 132 = .ok (.aload_n 0, 1) := by decide +kernel
theorem dX7_init_133 : decode cX7_init 133 = .ok (.bipush 8, 2) := by decide +kernel
theorem dX7_init_135 : decode cX7_init 135 = .ok (.newarray .int, 2) := by decide +kernel
theorem dX7_init_137 : decode cX7_init 137 = .ok (.putfield 60, 3) := by decide +kernel
theorem dX7_init_140 : decode cX7_init 140 = .ok (.aload_n 0, 1) := by decide +kernel
theorem dX7_init_141 : decode cX7_init 141 = .ok (.bipush 8, 2) := by decide +kernel
theorem dX7_init_143 : decode cX7_init 143 = .ok (.newarray .int, 2) := by decide +kernel
theorem dX7_init_145 : decode cX7_init 145 = .ok (.putfield 63, 3) := by decide +kernel
theorem dX7_init_148 : decode cX7_init 148 = .ok (.aload_n 0, 1) := by decide +kernel
theorem dX7_init_149 : decode cX7_init 149 = .ok (.bipush 8, 2) := by decide +kernel
theorem dX7_init_151 : decode cX7_init 151 = .ok (.newarray .int, 2) := by decide +kernel
theorem dX7_init_153 : decode cX7_init 153 = .ok (.putfield 66, 3) := by decide +kernel
theorem dX7_init_156 : decode cX7_init 156 = .ok (.aload_n 0, 1) := by decide +kernel
theorem dX7_init_157 : decode cX7_init 157 = .ok (.bipush 8, 2) := by decide +kernel
theorem dX7_init_159 : decode cX7_init 159 = .ok (.newarray .int, 2) := by decide +kernel
theorem dX7_init_161 : decode cX7_init 161 = .ok (.putfield 69, 3) := by decide +kernel
theorem dX7_init_164 : decode cX7_init 164 = .ok (.aload_n 0, 1) := by decide +kernel
theorem dX7_init_165 : decode cX7_init 165 = .ok (.bipush 8, 2) := by decide +kernel
theorem dX7_init_167 : decode cX7_init 167 = .ok (.newarray .int, 2) := by decide +kernel
theorem dX7_init_169 : decode cX7_init 169 = .ok (.putfield 72, 3) := by decide +kernel
theorem dX7_init_172 : decode cX7_init 172 = .ok (.aload_n 0, 1) := by decide +kernel
theorem dX7_init_173 : decode cX7_init 173 = .ok (.bipush 8, 2) := by decide +kernel
theorem dX7_init_175 : decode cX7_init 175 = .ok (.newarray .boolean, 2) := by decide +kernel
theorem dX7_init_177 : decode cX7_init 177 = .ok (.putfield 75, 3) := by decide +kernel
theorem dX7_init_180 : decode cX7_init 180 = .ok (.aload_n 0, 1) := by decide +kernel
theorem dX7_init_181 : decode cX7_init 181 = .ok (.sipush 288, 3) := by decide +kernel
theorem dX7_init_184 : decode cX7_init 184 = .ok (.newarray .int, 2) := by decide +kernel
theorem dX7_init_186 : decode cX7_init 186 = .ok (.putfield 79, 3) := by decide +kernel
theorem dX7_init_189 : decode cX7_init 189 = .ok (.aload_n 0, 1) := by decide +kernel
theorem dX7_init_190 : decode cX7_init 190 = .ok (.bipush 6, 2) := by decide +kernel
theorem dX7_init_192 : decode cX7_init 192 = .ok (.newarray .int, 2) := by decide +kernel
theorem dX7_init_194 : decode cX7_init 194 = .ok (.putfield 82, 3) := by decide +kernel
theorem dX7_init_197 : decode cX7_init 197 = .ok (.aload_n 0, 1) := by decide +kernel
theorem dX7_init_198 : decode cX7_init 198 = .ok (.bipush 6, 2) := by decide +kernel
theorem dX7_init_200 : decode cX7_init 200 = .ok (.newarray .int, 2) := by decide +kernel
theorem dX7_init_202 : decode cX7_init 202 = .ok (.putfield 85, 3) := by decide +kernel
theorem dX7_init_205 : decode cX7_init 205 = .ok (.return_, 1) := by decide +kernel
theorem dX7_in_0 : decode cX7_in 0 = .ok (.iload_n 0, 1) := by decide +kernel
theorem dX7_in_1 : decode cX7_in 1 = .ok (.iload_n 1, 1) := by decide +kernel
theorem dX7_in_2 : decode cX7_in 2 = .ok (.if_icmp .lt 12, 3) := by decide +kernel
theorem dX7_in_5 : decode cX7_in 5 = .ok (.iload_n 0, 1) := by decide +kernel
theorem dX7_in_6 : decode cX7_in 6 = .ok (.iload_n 2, 1) := by decide +kernel
theorem dX7_in_7 : decode cX7_in 7 = .ok (.if_icmp .gt 7, 3) := by decide +kernel
theorem dX7_in_10 : decode cX7_in 10 = .ok (.iconst 1, 1) := by decide +kernel
theorem dX7_in_11 : decode cX7_in 11 = .ok (.goto 4, 3) := by decide +kernel
theorem dX7_in_14 : decode cX7_in 14 = .ok (.iconst 0, 1) := by decide +kernel
theorem dX7_in_15 : decode cX7_in 15 = .ok (.ireturn, 1) := by decide +kernel
theorem dX7_isTable_0 : decode cX7_isTable 0 = .ok (.iload_n 1, 1) := by decide +kernel
theorem dX7_isTable_1 : decode cX7_isTable 1 = .ok (.iconst 0, 1) := by decide +kernel
theorem dX7_isTable_2 : decode cX7_isTable 2 = .ok (.aload_n 0, 1) := by decide +kernel
theorem dX7_isTable_3 : decode cX7_isTable 3 = .ok (.getfield 92, 3) := by decide +kernel
theorem dX7_isTable_6 : decode cX7_isTable 6 = .ok (.iconst 1, 1) := by decide +kernel
theorem dX7_isTable_7 : decode cX7_isTable 7 = .ok (.isub, 1) := by decide +kernel
theorem dX7_isTable_8 : decode cX7_isTable 8 = .ok (.invokestatic 95, 3) := by decide +kernel
theorem dX7_isTable_11 : decode cX7_isTable 11 = .ok (.ireturn, 1) := by decide +kernel
theorem dX7_isColumn_0 : decode cX7_isColumn 0 = .ok (.aload_n 0, 1) := by decide +kernel
theorem dX7_isColumn_1 : decode cX7_isColumn 1 = .ok (.iload_n 1, 1) := by decide +kernel
theorem dX7_isColumn_2 : decode cX7_isColumn 2 = .ok (.invokevirtual 99, 3) := by decide +kernel
theorem dX7_isColumn_5 : decode cX7_isColumn 5 = .ok (.ifCond .eq 23, 3) := by decide +kernel
theorem dX7_isColumn_8 : decode cX7_isColumn 8 = .ok (.iload_n 2, 1) := by decide +kernel
theorem dX7_isColumn_9 : decode cX7_isColumn 9 = .ok (.iconst 0, 1) := by decide +kernel
theorem dX7_isColumn_10 : decode cX7_isColumn 10 = .ok (.aload_n 0, 1) := by decide +kernel
theorem dX7_isColumn_11 : decode cX7_isColumn 11 = .ok (.getfield 9, 3) := by decide +kernel
theorem dX7_isColumn_14 : decode cX7_isColumn 14 = .ok (.iload_n 1, 1) := by decide +kernel
theorem dX7_isColumn_15 : decode cX7_isColumn 15 = .ok (.iaload, 1) := by decide +kernel
theorem dX7_isColumn_16 : decode cX7_isColumn 16 = .ok (.iconst 1, 1) := by decide +kernel
theorem dX7_isColumn_17 : decode cX7_isColumn 17 = .ok (.isub, 1) := by decide +kernel
theorem dX7_isColumn_18 : decode cX7_isColumn 18 = .ok (.invokestatic 95, 3) := by decide +kernel
theorem dX7_isColumn_21 : decode cX7_isColumn 21 = .ok (.ifCond .eq 7, 3) := by decide +kernel
theorem dX7_isColumn_24 : decode cX7_isColumn 24 = .ok (.iconst 1, 1) := by decide +kernel
theorem dX7_isColumn_25 : decode cX7_isColumn 25 = .ok (.goto 4, 3) := by decide +kernel
theorem dX7_isColumn_28 : decode cX7_isColumn 28 = .ok (.iconst 0, 1) := by decide +kernel
theorem dX7_isColumn_29 : decode cX7_isColumn 29 = .ok (.ireturn, 1) := by decide +kernel
theorem dX7_isRow_0 : decode cX7_isRow 0 = .ok (.aload_n 0, 1) := by decide +kernel
theorem dX7_isRow_1 : decode cX7_isRow 1 = .ok (.iload_n 1, 1) := by decide +kernel
theorem dX7_isRow_2 : decode cX7_isRow 2 = .ok (.invokevirtual 99, 3) := by decide +kernel
theorem dX7_isRow_5 : decode cX7_isRow 5 = .ok (.ifCond .eq 23, 3) := by decide +kernel
theorem dX7_isRow_8 : decode cX7_isRow 8 = .ok (.iload_n 2, 1) := by decide +kernel
theorem dX7_isRow_9 : decode cX7_isRow 9 = .ok (.iconst 0, 1) := by decide +kernel
theorem dX7_isRow_10 : decode cX7_isRow 10 = .ok (.aload_n 0, 1) := by decide +kernel
theorem dX7_isRow_11 : decode cX7_isRow 11 = .ok (.getfield 15, 3) := by decide +kernel
theorem dX7_isRow_14 : decode cX7_isRow 14 = .ok (.iload_n 1, 1) := by decide +kernel
theorem dX7_isRow_15 : decode cX7_isRow 15 = .ok (.iaload, 1) := by decide +kernel
theorem dX7_isRow_16 : decode cX7_isRow 16 = .ok (.iconst 1, 1) := by decide +kernel
theorem dX7_isRow_17 : decode cX7_isRow 17 = .ok (.isub, 1) := by decide +kernel
theorem dX7_isRow_18 : decode cX7_isRow 18 = .ok (.invokestatic 95, 3) := by decide +kernel
theorem dX7_isRow_21 : decode cX7_isRow 21 = .ok (.ifCond .eq 7, 3) := by decide +kernel
theorem dX7_isRow_24 : decode cX7_isRow 24 = .ok (.iconst 1, 1) := by decide +kernel
theorem dX7_isRow_25 : decode cX7_isRow 25 = .ok (.goto 4, 3) := by decide +kernel
theorem dX7_isRow_28 : decode cX7_isRow 28 = .ok (.iconst 0, 1) := by decide +kernel
theorem dX7_isRow_29 : decode cX7_isRow 29 = .ok (.ireturn, 1) := by decide +kernel
theorem dX7_cell_0 : decode cX7_cell 0 = .ok (.bipush 72, 2) := by decide +kernel
theorem dX7_cell_2 : decode cX7_cell 2 = .ok (.iload_n 0, 1) := by decide +kernel
theorem dX7_cell_3 : decode cX7_cell 3 = .ok (.imul, 1) := by decide +kernel
theorem dX7_cell_4 : decode cX7_cell 4 = .ok (.bipush 6, 2) := by decide +kernel
theorem dX7_cell_6 : decode cX7_cell 6 = .ok (.iload_n 1, 1) := by decide +kernel
theorem dX7_cell_7 : decode cX7_cell 7 = .ok (.imul, 1) := by decide +kernel
theorem dX7_cell_8 : decode cX7_cell 8 = .ok (.iadd, 1) := by decide +kernel
theorem dX7_cell_9 : decode cX7_cell 9 = .ok (.iload_n 2, 1) := by decide +kernel
theorem dX7_cell_10 : decode cX7_cell 10 = .ok (.iadd, 1) := by decide +kernel
theorem dX7_cell_11 : decode cX7_cell 11 = .ok (.ireturn, 1) := by decide +kernel
theorem dX7_figure_0 : decode cX7_figure 0 = .ok (.iload_n 0, 1) := by decide +kernel
theorem dX7_figure_1 : decode cX7_figure 1 = .ok (.sipush 10000, 3) := by decide +kernel
theorem dX7_figure_4 : decode cX7_figure 4 = .ok (.idiv, 1) := by decide +kernel
theorem dX7_figure_5 : decode cX7_figure 5 = .ok (.iconst 2, 1) := by decide +kernel
theorem dX7_figure_6 : decode cX7_figure 6 = .ok (.iload_n 0, 1) := by decide +kernel
theorem dX7_figure_7 : decode cX7_figure 7 = .ok (.sipush 1000, 3) := by decide +kernel
theorem dX7_figure_10 : decode cX7_figure 10 = .ok (.idiv, 1) := by decide +kernel
theorem dX7_figure_11 : decode cX7_figure 11 = .ok (.bipush 10, 2) := by decide +kernel
theorem dX7_figure_13 : decode cX7_figure 13 = .ok (.irem, 1) := by decide +kernel
theorem dX7_figure_14 : decode cX7_figure 14 = .ok (.imul, 1) := by decide +kernel
theorem dX7_figure_15 : decode cX7_figure 15 = .ok (.iadd, 1) := by decide +kernel
theorem dX7_figure_16 : decode cX7_figure 16 = .ok (.iconst 3, 1) := by decide +kernel
theorem dX7_figure_17 : decode cX7_figure 17 = .ok (.iload_n 0, 1) := by decide +kernel
theorem dX7_figure_18 : decode cX7_figure 18 = .ok (.bipush 100, 2) := by decide +kernel
theorem dX7_figure_20 : decode cX7_figure 20 = .ok (.idiv, 1) := by decide +kernel
theorem dX7_figure_21 : decode cX7_figure 21 = .ok (.bipush 10, 2) := by decide +kernel
theorem dX7_figure_23 : decode cX7_figure 23 = .ok (.irem, 1) := by decide +kernel
theorem dX7_figure_24 : decode cX7_figure 24 = .ok (.imul, 1) := by decide +kernel
theorem dX7_figure_25 : decode cX7_figure 25 = .ok (.iadd, 1) := by decide +kernel
theorem dX7_figure_26 : decode cX7_figure 26 = .ok (.iconst 4, 1) := by decide +kernel
theorem dX7_figure_27 : decode cX7_figure 27 = .ok (.iload_n 0, 1) := by decide +kernel
theorem dX7_figure_28 : decode cX7_figure 28 = .ok (.bipush 10, 2) := by decide +kernel
theorem dX7_figure_30 : decode cX7_figure 30 = .ok (.idiv, 1) := by decide +kernel
theorem dX7_figure_31 : decode cX7_figure 31 = .ok (.bipush 10, 2) := by decide +kernel
theorem dX7_figure_33 : decode cX7_figure 33 = .ok (.irem, 1) := by decide +kernel
theorem dX7_figure_34 : decode cX7_figure 34 = .ok (.imul, 1) := by decide +kernel
theorem dX7_figure_35 : decode cX7_figure 35 = .ok (.iadd, 1) := by decide +kernel
theorem dX7_figure_36 : decode cX7_figure 36 = .ok (.bipush 10, 2) := by decide +kernel
theorem dX7_figure_38 : decode cX7_figure 38 = .ok (.irem, 1) := by decide +kernel
theorem dX7_figure_39 : decode cX7_figure 39 = .ok (.ireturn, 1) := by decide +kernel
theorem dX7_isKey_0 : decode cX7_isKey 0 = .ok (.iload_n 0, 1) := by decide +kernel
theorem dX7_isKey_1 : decode cX7_isKey 1 = .ok (.iconst 0, 1) := by decide +kernel
theorem dX7_isKey_2 : decode cX7_isKey 2 = .ok (.ldc 103, 2) := by decide +kernel
theorem dX7_isKey_4 : decode cX7_isKey 4 = .ok (.invokestatic 95, 3) := by decide +kernel
theorem dX7_isKey_7 : decode cX7_isKey 7 = .ok (.ifCond .eq 18, 3) := by decide +kernel
theorem dX7_isKey_10 : decode cX7_isKey 10 = .ok (.iload_n 0, 1) := by decide +kernel
theorem dX7_isKey_11 : decode cX7_isKey 11 = .ok (.bipush 10, 2) := by decide +kernel
theorem dX7_isKey_13 : decode cX7_isKey 13 = .ok (.irem, 1) := by decide +kernel
theorem dX7_isKey_14 : decode cX7_isKey 14 = .ok (.iload_n 0, 1) := by decide +kernel
theorem dX7_isKey_15 : decode cX7_isKey 15 = .ok (.invokestatic 104, 3) := by decide +kernel
theorem dX7_isKey_18 : decode cX7_isKey 18 = .ok (.if_icmp .ne 7, 3) := by decide +kernel
theorem dX7_isKey_21 : decode cX7_isKey 21 = .ok (.iconst 1, 1) := by decide +kernel
theorem dX7_isKey_22 : decode cX7_isKey 22 = .ok (.goto 4, 3) := by decide +kernel
theorem dX7_isKey_25 : decode cX7_isKey 25 = .ok (.iconst 0, 1) := by decide +kernel
theorem dX7_isKey_26 : decode cX7_isKey 26 = .ok (.ireturn, 1) := by decide +kernel
theorem dX7_table_0 : decode cX7_table 0 = .ok (.aload_n 0, 1) := by decide +kernel
theorem dX7_table_1 : decode cX7_table 1 = .ok (.getfield 92, 3) := by decide +kernel
theorem dX7_table_4 : decode cX7_table 4 = .ok (.iconst 4, 1) := by decide +kernel
theorem dX7_table_5 : decode cX7_table 5 = .ok (.if_icmp .ne 6, 3) := by decide +kernel
theorem dX7_table_8 : decode cX7_table 8 = .ok (.bipush (-4), 2) := by decide +kernel
theorem dX7_table_10 : decode cX7_table 10 = .ok (.ireturn, 1) := by decide +kernel
theorem dX7_table_11 : decode cX7_table 11 = .ok (.aload_n 0, 1) := by decide +kernel
theorem dX7_table_12 : decode cX7_table 12 = .ok (.getfield 9, 3) := by decide +kernel
theorem dX7_table_15 : decode cX7_table 15 = .ok (.aload_n 0, 1) := by decide +kernel
theorem dX7_table_16 : decode cX7_table 16 = .ok (.getfield 92, 3) := by decide +kernel
theorem dX7_table_19 : decode cX7_table 19 = .ok (.iconst 1, 1) := by decide +kernel
theorem dX7_table_20 : decode cX7_table 20 = .ok (.iastore, 1) := by decide +kernel
theorem dX7_table_21 : decode cX7_table 21 = .ok (.aload_n 0, 1) := by decide +kernel
theorem dX7_table_22 : decode cX7_table 22 = .ok (.getfield 15, 3) := by decide +kernel
theorem dX7_table_25 : decode cX7_table 25 = .ok (.aload_n 0, 1) := by decide +kernel
theorem dX7_table_26 : decode cX7_table 26 = .ok (.getfield 92, 3) := by decide +kernel
theorem dX7_table_29 : decode cX7_table 29 = .ok (.iconst 0, 1) := by decide +kernel
theorem dX7_table_30 : decode cX7_table 30 = .ok (.iastore, 1) := by decide +kernel
theorem dX7_table_31 : decode cX7_table 31 = .ok (.aload_n 0, 1) := by decide +kernel
theorem dX7_table_32 : decode cX7_table 32 = .ok (.getfield 18, 3) := by decide +kernel
theorem dX7_table_35 : decode cX7_table 35 = .ok (.aload_n 0, 1) := by decide +kernel
theorem dX7_table_36 : decode cX7_table 36 = .ok (.getfield 92, 3) := by decide +kernel
theorem dX7_table_39 : decode cX7_table 39 = .ok (.iconst 0, 1) := by decide +kernel
theorem dX7_table_40 : decode cX7_table 40 = .ok (.iastore, 1) := by decide +kernel
theorem dX7_table_41 : decode cX7_table 41 = .ok (.aload_n 0, 1) := by decide +kernel
theorem dX7_table_42 : decode cX7_table 42 = .ok (.bipush 6, 2) := by decide +kernel
theorem dX7_table_44 : decode cX7_table 44 = .ok (.aload_n 0, 1) := by decide +kernel
theorem dX7_table_45 : decode cX7_table 45 = .ok (.getfield 92, 3) := by decide +kernel
theorem dX7_table_48 : decode cX7_table 48 = .ok (.imul, 1) := by decide +kernel
theorem dX7_table_49 : decode cX7_table 49 = .ok (.iconst 0, 1) := by decide +kernel
theorem dX7_table_50 : decode cX7_table 50 = .ok (.iconst 0, 1) := by decide +kernel
theorem dX7_table_51 : decode cX7_table 51 = .ok (.invokevirtual 108, 3) := by decide +kernel
theorem dX7_table_54 : decode cX7_table 54 = .ok (.iconst 0, 1) := by decide +kernel
theorem dX7_table_55 : decode cX7_table 55 = .ok (.istore_n 1, 1) := by decide +kernel
theorem dX7_table_56 : decode cX7_table 56 = .ok (.iload_n 1, 1) := by decide +kernel
theorem dX7_table_57 : decode cX7_table 57 = .ok (.iconst 5, 1) := by decide +kernel
theorem dX7_table_58 : decode cX7_table 58 = .ok (.if_icmp .ge 37, 3) := by decide +kernel
theorem dX7_table_61 : decode cX7_table 61 = .ok (.aload_n 0, 1) := by decide +kernel
theorem dX7_table_62 : decode cX7_table 62 = .ok (.getfield 39, 3) := by decide +kernel
theorem dX7_table_65 : decode cX7_table 65 = .ok (.iconst 5, 1) := by decide +kernel
theorem dX7_table_66 : decode cX7_table 66 = .ok (.aload_n 0, 1) := by decide +kernel
theorem dX7_table_67 : decode cX7_table 67 = .ok (.getfield 92, 3) := by decide +kernel
theorem dX7_table_70 : decode cX7_table 70 = .ok (.imul, 1) := by decide +kernel
theorem dX7_table_71 : decode cX7_table 71 = .ok (.iload_n 1, 1) := by decide +kernel
theorem dX7_table_72 : decode cX7_table 72 = .ok (.iadd, 1) := by decide +kernel
theorem dX7_table_73 : decode cX7_table 73 = .ok (.iconst 1, 1) := by decide +kernel
theorem dX7_table_74 : decode cX7_table 74 = .ok (.iastore, 1) := by decide +kernel
theorem dX7_table_75 : decode cX7_table 75 = .ok (.aload_n 0, 1) := by decide +kernel
theorem dX7_table_76 : decode cX7_table 76 = .ok (.getfield 42, 3) := by decide +kernel
theorem dX7_table_79 : decode cX7_table 79 = .ok (.iconst 5, 1) := by decide +kernel
theorem dX7_table_80 : decode cX7_table 80 = .ok (.aload_n 0, 1) := by decide +kernel
theorem dX7_table_81 : decode cX7_table 81 = .ok (.getfield 92, 3) := by decide +kernel
theorem dX7_table_84 : decode cX7_table 84 = .ok (.imul, 1) := by decide +kernel
theorem dX7_table_85 : decode cX7_table 85 = .ok (.iload_n 1, 1) := by decide +kernel
theorem dX7_table_86 : decode cX7_table 86 = .ok (.iadd, 1) := by decide +kernel
theorem dX7_table_87 : decode cX7_table 87 = .ok (.iconst 0, 1) := by decide +kernel
theorem dX7_table_88 : decode cX7_table 88 = .ok (.iastore, 1) := by decide +kernel
theorem dX7_table_89 : decode cX7_table 89 = .ok (.iinc 1 1, 3) := by decide +kernel
theorem dX7_table_92 : decode cX7_table 92 = .ok (.goto (-36), 3) := by decide +kernel
theorem dX7_table_95 : decode cX7_table 95 = .ok (.aload_n 0, 1) := by decide +kernel
theorem dX7_table_96 : decode cX7_table 96 = .ok (.dup, 1) := by decide +kernel
theorem dX7_table_97 : decode cX7_table 97 = .ok (.getfield 92, 3) := by decide +kernel
theorem dX7_table_100 : decode cX7_table 100 = .ok (.iconst 1, 1) := by decide +kernel
theorem dX7_table_101 : decode cX7_table 101 = .ok (.iadd, 1) := by decide +kernel
theorem dX7_table_102 : decode cX7_table 102 = .ok (.putfield 92, 3) := by decide +kernel
theorem dX7_table_105 : decode cX7_table 105 = .ok (.aload_n 0, 1) := by decide +kernel
theorem dX7_table_106 : decode cX7_table 106 = .ok (.iconst 0, 1) := by decide +kernel
theorem dX7_table_107 : decode cX7_table 107 = .ok (.putfield 112, 3) := by decide +kernel
theorem dX7_table_110 : decode cX7_table 110 = .ok (.aload_n 0, 1) := by decide +kernel
theorem dX7_table_111 : decode cX7_table 111 = .ok (.getfield 92, 3) := by decide +kernel
theorem dX7_table_114 : decode cX7_table 114 = .ok (.iconst 1, 1) := by decide +kernel
theorem dX7_table_115 : decode cX7_table 115 = .ok (.isub, 1) := by decide +kernel
theorem dX7_table_116 : decode cX7_table 116 = .ok (.ireturn, 1) := by decide +kernel
theorem dX7_begin_0 : decode cX7_begin 0 = .ok (.aload_n 0, 1) := by decide +kernel
theorem dX7_begin_1 : decode cX7_begin 1 = .ok (.getfield 21, 3) := by decide +kernel
theorem dX7_begin_4 : decode cX7_begin 4 = .ok (.iload_n 1, 1) := by decide +kernel
theorem dX7_begin_5 : decode cX7_begin 5 = .ok (.iload_n 2, 1) := by decide +kernel
theorem dX7_begin_6 : decode cX7_begin 6 = .ok (.iastore, 1) := by decide +kernel
theorem dX7_begin_7 : decode cX7_begin 7 = .ok (.aload_n 0, 1) := by decide +kernel
theorem dX7_begin_8 : decode cX7_begin 8 = .ok (.getfield 24, 3) := by decide +kernel
theorem dX7_begin_11 : decode cX7_begin 11 = .ok (.iload_n 1, 1) := by decide +kernel
theorem dX7_begin_12 : decode cX7_begin 12 = .ok (.iload_n 3, 1) := by decide +kernel
theorem dX7_begin_13 : decode cX7_begin 13 = .ok (.iastore, 1) := by decide +kernel
theorem dX7_begin_14 : decode cX7_begin 14 = .ok (.aload_n 0, 1) := by decide +kernel
theorem dX7_begin_15 : decode cX7_begin 15 = .ok (.getfield 27, 3) := by decide +kernel
theorem dX7_begin_18 : decode cX7_begin 18 = .ok (.iload_n 1, 1) := by decide +kernel
theorem dX7_begin_19 : decode cX7_begin 19 = .ok (.iconst 0, 1) := by decide +kernel
theorem dX7_begin_20 : decode cX7_begin 20 = .ok (.iastore, 1) := by decide +kernel
theorem dX7_begin_21 : decode cX7_begin 21 = .ok (.aload_n 0, 1) := by decide +kernel
theorem dX7_begin_22 : decode cX7_begin 22 = .ok (.getfield 30, 3) := by decide +kernel
theorem dX7_begin_25 : decode cX7_begin 25 = .ok (.iload_n 1, 1) := by decide +kernel
theorem dX7_begin_26 : decode cX7_begin 26 = .ok (.iconst 0, 1) := by decide +kernel
theorem dX7_begin_27 : decode cX7_begin 27 = .ok (.iastore, 1) := by decide +kernel
theorem dX7_begin_28 : decode cX7_begin 28 = .ok (.aload_n 0, 1) := by decide +kernel
theorem dX7_begin_29 : decode cX7_begin 29 = .ok (.getfield 33, 3) := by decide +kernel
theorem dX7_begin_32 : decode cX7_begin 32 = .ok (.iload_n 1, 1) := by decide +kernel
theorem dX7_begin_33 : decode cX7_begin 33 = .ok (.iconst 1, 1) := by decide +kernel
theorem dX7_begin_34 : decode cX7_begin 34 = .ok (.iastore, 1) := by decide +kernel
theorem dX7_begin_35 : decode cX7_begin 35 = .ok (.aload_n 0, 1) := by decide +kernel
theorem dX7_begin_36 : decode cX7_begin 36 = .ok (.getfield 36, 3) := by decide +kernel
theorem dX7_begin_39 : decode cX7_begin 39 = .ok (.iload_n 1, 1) := by decide +kernel
theorem dX7_begin_40 : decode cX7_begin 40 = .ok (.iconst 0, 1) := by decide +kernel
theorem dX7_begin_41 : decode cX7_begin 41 = .ok (.iastore, 1) := by decide +kernel
theorem dX7_begin_42 : decode cX7_begin 42 = .ok (.return_, 1) := by decide +kernel
theorem dX7_column_0 : decode cX7_column 0 = .ok (.aload_n 0, 1) := by decide +kernel
theorem dX7_column_1 : decode cX7_column 1 = .ok (.iload_n 1, 1) := by decide +kernel
theorem dX7_column_2 : decode cX7_column 2 = .ok (.invokevirtual 99, 3) := by decide +kernel
theorem dX7_column_5 : decode cX7_column 5 = .ok (.ifCond .eq 16, 3) := by decide +kernel
theorem dX7_column_8 : decode cX7_column 8 = .ok (.iload_n 2, 1) := by decide +kernel
theorem dX7_column_9 : decode cX7_column 9 = .ok (.iconst 1, 1) := by decide +kernel
theorem dX7_column_10 : decode cX7_column 10 = .ok (.if_icmp .ne 13, 3) := by decide +kernel
theorem dX7_column_13 : decode cX7_column 13 = .ok (.aload_n 0, 1) := by decide +kernel
theorem dX7_column_14 : decode cX7_column 14 = .ok (.iload_n 3, 1) := by decide +kernel
theorem dX7_column_15 : decode cX7_column 15 = .ok (.invokevirtual 99, 3) := by decide +kernel
theorem dX7_column_18 : decode cX7_column 18 = .ok (.ifCond .ne 5, 3) := by decide +kernel
theorem dX7_column_21 : decode cX7_column 21 = .ok (.iconst (-1), 1) := by decide +kernel
theorem dX7_column_22 : decode cX7_column 22 = .ok (.ireturn, 1) := by decide +kernel
theorem dX7_column_23 : decode cX7_column 23 = .ok (.iload_n 2, 1) := by decide +kernel
theorem dX7_column_24 : decode cX7_column 24 = .ok (.iconst 1, 1) := by decide +kernel
theorem dX7_column_25 : decode cX7_column 25 = .ok (.iconst 4, 1) := by decide +kernel
theorem dX7_column_26 : decode cX7_column 26 = .ok (.invokestatic 95, 3) := by decide +kernel
theorem dX7_column_29 : decode cX7_column 29 = .ok (.ifCond .eq 12, 3) := by decide +kernel
theorem dX7_column_32 : decode cX7_column 32 = .ok (.iload_n 2, 1) := by decide +kernel
theorem dX7_column_33 : decode cX7_column 33 = .ok (.iconst 1, 1) := by decide +kernel
theorem dX7_column_34 : decode cX7_column 34 = .ok (.if_icmp .eq 10, 3) := by decide +kernel
theorem dX7_column_37 : decode cX7_column 37 = .ok (.iload_n 3, 1) := by decide +kernel
theorem dX7_column_38 : decode cX7_column 38 = .ok (.ifCond .eq 6, 3) := by decide +kernel
theorem dX7_column_41 : decode cX7_column 41 = .ok (.bipush (-2), 2) := by decide +kernel
theorem dX7_column_43 : decode cX7_column 43 = .ok (.ireturn, 1) := by decide +kernel
theorem dX7_column_44 : decode cX7_column 44 = .ok (.aload_n 0, 1) := by decide +kernel
theorem dX7_column_45 : decode cX7_column 45 = .ok (.getfield 15, 3) := by decide +kernel
theorem dX7_column_48 : decode cX7_column 48 = .ok (.iload_n 1, 1) := by decide +kernel
theorem dX7_column_49 : decode cX7_column 49 = .ok (.iaload, 1) := by decide +kernel
theorem dX7_column_50 : decode cX7_column 50 = .ok (.ifCond .le 6, 3) := by decide +kernel
theorem dX7_column_53 : decode cX7_column 53 = .ok (.bipush (-3), 2) := by decide +kernel
theorem dX7_column_55 : decode cX7_column 55 = .ok (.ireturn, 1) := by decide +kernel
theorem dX7_column_56 : decode cX7_column 56 = .ok (.aload_n 0, 1) := by decide +kernel
theorem dX7_column_57 : decode cX7_column 57 = .ok (.getfield 9, 3) := by decide +kernel
theorem dX7_column_60 : decode cX7_column 60 = .ok (.iload_n 1, 1) := by decide +kernel
theorem dX7_column_61 : decode cX7_column 61 = .ok (.iaload, 1) := by decide +kernel
theorem dX7_column_62 : decode cX7_column 62 = .ok (.bipush 6, 2) := by decide +kernel
theorem dX7_column_64 : decode cX7_column 64 = .ok (.if_icmp .ne 6, 3) := by decide +kernel
theorem dX7_column_67 : decode cX7_column 67 = .ok (.bipush (-4), 2) := by decide +kernel
theorem dX7_column_69 : decode cX7_column 69 = .ok (.ireturn, 1) := by decide +kernel
theorem dX7_column_70 : decode cX7_column 70 = .ok (.aload_n 0, 1) := by decide +kernel
theorem dX7_column_71 : decode cX7_column 71 = .ok (.bipush 6, 2) := by decide +kernel
theorem dX7_column_73 : decode cX7_column 73 = .ok (.iload_n 1, 1) := by decide +kernel
theorem dX7_column_74 : decode cX7_column 74 = .ok (.imul, 1) := by decide +kernel
theorem dX7_column_75 : decode cX7_column 75 = .ok (.aload_n 0, 1) := by decide +kernel
theorem dX7_column_76 : decode cX7_column 76 = .ok (.getfield 9, 3) := by decide +kernel
theorem dX7_column_79 : decode cX7_column 79 = .ok (.iload_n 1, 1) := by decide +kernel
theorem dX7_column_80 : decode cX7_column 80 = .ok (.iaload, 1) := by decide +kernel
theorem dX7_column_81 : decode cX7_column 81 = .ok (.iadd, 1) := by decide +kernel
theorem dX7_column_82 : decode cX7_column 82 = .ok (.iload_n 2, 1) := by decide +kernel
theorem dX7_column_83 : decode cX7_column 83 = .ok (.iload_n 3, 1) := by decide +kernel
theorem dX7_column_84 : decode cX7_column 84 = .ok (.invokevirtual 108, 3) := by decide +kernel
theorem dX7_column_87 : decode cX7_column 87 = .ok (.aload_n 0, 1) := by decide +kernel
theorem dX7_column_88 : decode cX7_column 88 = .ok (.getfield 9, 3) := by decide +kernel
theorem dX7_column_91 : decode cX7_column 91 = .ok (.iload_n 1, 1) := by decide +kernel
theorem dX7_column_92 : decode cX7_column 92 = .ok (.dup2, 1) := by decide +kernel
theorem dX7_column_93 : decode cX7_column 93 = .ok (.iaload, 1) := by decide +kernel
theorem dX7_column_94 : decode cX7_column 94 = .ok (.iconst 1, 1) := by decide +kernel
theorem dX7_column_95 : decode cX7_column 95 = .ok (.iadd, 1) := by decide +kernel
theorem dX7_column_96 : decode cX7_column 96 = .ok (.iastore, 1) := by decide +kernel
theorem dX7_column_97 : decode cX7_column 97 = .ok (.aload_n 0, 1) := by decide +kernel
theorem dX7_column_98 : decode cX7_column 98 = .ok (.iconst 0, 1) := by decide +kernel
theorem dX7_column_99 : decode cX7_column 99 = .ok (.putfield 112, 3) := by decide +kernel
theorem dX7_column_102 : decode cX7_column 102 = .ok (.aload_n 0, 1) := by decide +kernel
theorem dX7_column_103 : decode cX7_column 103 = .ok (.getfield 9, 3) := by decide +kernel
theorem dX7_column_106 : decode cX7_column 106 = .ok (.iload_n 1, 1) := by decide +kernel
theorem dX7_column_107 : decode cX7_column 107 = .ok (.iaload, 1) := by decide +kernel
theorem dX7_column_108 : decode cX7_column 108 = .ok (.iconst 1, 1) := by decide +kernel
theorem dX7_column_109 : decode cX7_column 109 = .ok (.isub, 1) := by decide +kernel
theorem dX7_column_110 : decode cX7_column 110 = .ok (.ireturn, 1) := by decide +kernel
theorem dX7_cell__0 : decode cX7_cell_ 0 = .ok (.aload_n 0, 1) := by decide +kernel
theorem dX7_cell__1 : decode cX7_cell_ 1 = .ok (.getfield 116, 3) := by decide +kernel
theorem dX7_cell__4 : decode cX7_cell_ 4 = .ok (.bipush 6, 2) := by decide +kernel
theorem dX7_cell__6 : decode cX7_cell_ 6 = .ok (.if_icmp .ne 6, 3) := by decide +kernel
theorem dX7_cell__9 : decode cX7_cell_ 9 = .ok (.bipush (-4), 2) := by decide +kernel
theorem dX7_cell__11 : decode cX7_cell_ 11 = .ok (.ireturn, 1) := by decide +kernel
theorem dX7_cell__12 : decode cX7_cell_ 12 = .ok (.aload_n 0, 1) := by decide +kernel
theorem dX7_cell__13 : decode cX7_cell_ 13 = .ok (.getfield 54, 3) := by decide +kernel
theorem dX7_cell__16 : decode cX7_cell_ 16 = .ok (.aload_n 0, 1) := by decide +kernel
theorem dX7_cell__17 : decode cX7_cell_ 17 = .ok (.getfield 116, 3) := by decide +kernel
theorem dX7_cell__20 : decode cX7_cell_ 20 = .ok (.iload_n 1, 1) := by decide +kernel
theorem dX7_cell__21 : decode cX7_cell_ 21 = .ok (.iastore, 1) := by decide +kernel
theorem dX7_cell__22 : decode cX7_cell_ 22 = .ok (.aload_n 0, 1) := by decide +kernel
theorem dX7_cell__23 : decode cX7_cell_ 23 = .ok (.dup, 1) := by decide +kernel
theorem dX7_cell__24 : decode cX7_cell_ 24 = .ok (.getfield 116, 3) := by decide +kernel
theorem dX7_cell__27 : decode cX7_cell_ 27 = .ok (.iconst 1, 1) := by decide +kernel
theorem dX7_cell__28 : decode cX7_cell_ 28 = .ok (.iadd, 1) := by decide +kernel
theorem dX7_cell__29 : decode cX7_cell_ 29 = .ok (.putfield 116, 3) := by decide +kernel
theorem dX7_cell__32 : decode cX7_cell_ 32 = .ok (.aload_n 0, 1) := by decide +kernel
theorem dX7_cell__33 : decode cX7_cell_ 33 = .ok (.getfield 116, 3) := by decide +kernel
theorem dX7_cell__36 : decode cX7_cell_ 36 = .ok (.ireturn, 1) := by decide +kernel
theorem dX7_wipe_0 : decode cX7_wipe 0 = .ok (.aload_n 0, 1) := by decide +kernel
theorem dX7_wipe_1 : decode cX7_wipe 1 = .ok (.getfield 116, 3) := by decide +kernel
theorem dX7_wipe_4 : decode cX7_wipe 4 = .ok (.istore_n 1, 1) := by decide +kernel
theorem dX7_wipe_5 : decode cX7_wipe 5 = .ok (.aload_n 0, 1) := by decide +kernel
theorem dX7_wipe_6 : decode cX7_wipe 6 = .ok (.iconst 0, 1) := by decide +kernel
theorem dX7_wipe_7 : decode cX7_wipe 7 = .ok (.putfield 116, 3) := by decide +kernel
theorem dX7_wipe_10 : decode cX7_wipe 10 = .ok (.iload_n 1, 1) := by decide +kernel
theorem dX7_wipe_11 : decode cX7_wipe 11 = .ok (.ireturn, 1) := by decide +kernel
theorem dX7_isOf_0 : decode cX7_isOf 0 = .ok (.iload_n 1, 1) := by decide +kernel
theorem dX7_isOf_1 : decode cX7_isOf 1 = .ok (.ldc 119, 2) := by decide +kernel
theorem dX7_isOf_3 : decode cX7_isOf 3 = .ok (.if_icmp .ne 13, 3) := by decide +kernel
theorem dX7_isOf_6 : decode cX7_isOf 6 = .ok (.iload_n 0, 1) := by decide +kernel
theorem dX7_isOf_7 : decode cX7_isOf 7 = .ok (.ifCond .eq 7, 3) := by decide +kernel
theorem dX7_isOf_10 : decode cX7_isOf 10 = .ok (.iconst 1, 1) := by decide +kernel
theorem dX7_isOf_11 : decode cX7_isOf 11 = .ok (.goto 4, 3) := by decide +kernel
theorem dX7_isOf_14 : decode cX7_isOf 14 = .ok (.iconst 0, 1) := by decide +kernel
theorem dX7_isOf_15 : decode cX7_isOf 15 = .ok (.ireturn, 1) := by decide +kernel
theorem dX7_isOf_16 : decode cX7_isOf 16 = .ok (.iload_n 0, 1) := by decide +kernel
theorem dX7_isOf_17 : decode cX7_isOf 17 = .ok (.tableswitch 55 2 4 #[27, 36, 47], 27) := by decide +kernel
theorem dX7_isOf_44 : decode cX7_isOf 44 = .ok (.iload_n 1, 1) := by decide +kernel
theorem dX7_isOf_45 : decode cX7_isOf 45 = .ok (.iconst 0, 1) := by decide +kernel
theorem dX7_isOf_46 : decode cX7_isOf 46 = .ok (.sipush 9999, 3) := by decide +kernel
theorem dX7_isOf_49 : decode cX7_isOf 49 = .ok (.invokestatic 95, 3) := by decide +kernel
theorem dX7_isOf_52 : decode cX7_isOf 52 = .ok (.ireturn, 1) := by decide +kernel
theorem dX7_isOf_53 : decode cX7_isOf 53 = .ok (.iload_n 1, 1) := by decide +kernel
theorem dX7_isOf_54 : decode cX7_isOf 54 = .ok (.sipush (-9999), 3) := by decide +kernel
theorem dX7_isOf_57 : decode cX7_isOf 57 = .ok (.sipush 9999, 3) := by decide +kernel
theorem dX7_isOf_60 : decode cX7_isOf 60 = .ok (.invokestatic 95, 3) := by decide +kernel
theorem dX7_isOf_63 : decode cX7_isOf 63 = .ok (.ireturn, 1) := by decide +kernel
theorem dX7_isOf_64 : decode cX7_isOf 64 = .ok (.iload_n 1, 1) := by decide +kernel
theorem dX7_isOf_65 : decode cX7_isOf 65 = .ok (.iconst 0, 1) := by decide +kernel
theorem dX7_isOf_66 : decode cX7_isOf 66 = .ok (.bipush 99, 2) := by decide +kernel
theorem dX7_isOf_68 : decode cX7_isOf 68 = .ok (.invokestatic 95, 3) := by decide +kernel
theorem dX7_isOf_71 : decode cX7_isOf 71 = .ok (.ireturn, 1) := by decide +kernel
theorem dX7_isOf_72 : decode cX7_isOf 72 = .ok (.iload_n 1, 1) := by decide +kernel
theorem dX7_isOf_73 : decode cX7_isOf 73 = .ok (.invokestatic 120, 3) := by decide +kernel
theorem dX7_isOf_76 : decode cX7_isOf 76 = .ok (.ireturn, 1) := by decide +kernel
theorem dX7_row_0 : decode cX7_row 0 = .ok (.aload_n 0, 1) := by decide +kernel
theorem dX7_row_1 : decode cX7_row 1 = .ok (.iload_n 1, 1) := by decide +kernel
theorem dX7_row_2 : decode cX7_row 2 = .ok (.invokevirtual 99, 3) := by decide +kernel
theorem dX7_row_5 : decode cX7_row 5 = .ok (.ifCond .ne 5, 3) := by decide +kernel
theorem dX7_row_8 : decode cX7_row 8 = .ok (.iconst (-1), 1) := by decide +kernel
theorem dX7_row_9 : decode cX7_row 9 = .ok (.ireturn, 1) := by decide +kernel
theorem dX7_row_10 : decode cX7_row 10 = .ok (.aload_n 0, 1) := by decide +kernel
theorem dX7_row_11 : decode cX7_row 11 = .ok (.getfield 116, 3) := by decide +kernel
theorem dX7_row_14 : decode cX7_row 14 = .ok (.aload_n 0, 1) := by decide +kernel
theorem dX7_row_15 : decode cX7_row 15 = .ok (.getfield 9, 3) := by decide +kernel
theorem dX7_row_18 : decode cX7_row 18 = .ok (.iload_n 1, 1) := by decide +kernel
theorem dX7_row_19 : decode cX7_row 19 = .ok (.iaload, 1) := by decide +kernel
theorem dX7_row_20 : decode cX7_row 20 = .ok (.if_icmp .eq 6, 3) := by decide +kernel
theorem dX7_row_23 : decode cX7_row 23 = .ok (.bipush (-2), 2) := by decide +kernel
theorem dX7_row_25 : decode cX7_row 25 = .ok (.ireturn, 1) := by decide +kernel
theorem dX7_row_26 : decode cX7_row 26 = .ok (.iconst 0, 1) := by decide +kernel
theorem dX7_row_27 : decode cX7_row 27 = .ok (.istore_n 2, 1) := by decide +kernel
theorem dX7_row_28 : decode cX7_row 28 = .ok (.iload_n 2, 1) := by decide +kernel
theorem dX7_row_29 : decode cX7_row 29 = .ok (.aload_n 0, 1) := by decide +kernel
theorem dX7_row_30 : decode cX7_row 30 = .ok (.getfield 116, 3) := by decide +kernel
theorem dX7_row_33 : decode cX7_row 33 = .ok (.if_icmp .ge 35, 3) := by decide +kernel
theorem dX7_row_36 : decode cX7_row 36 = .ok (.aload_n 0, 1) := by decide +kernel
theorem dX7_row_37 : decode cX7_row 37 = .ok (.getfield 21, 3) := by decide +kernel
theorem dX7_row_40 : decode cX7_row 40 = .ok (.bipush 6, 2) := by decide +kernel
theorem dX7_row_42 : decode cX7_row 42 = .ok (.iload_n 1, 1) := by decide +kernel
theorem dX7_row_43 : decode cX7_row 43 = .ok (.imul, 1) := by decide +kernel
theorem dX7_row_44 : decode cX7_row 44 = .ok (.iload_n 2, 1) := by decide +kernel
theorem dX7_row_45 : decode cX7_row 45 = .ok (.iadd, 1) := by decide +kernel
theorem dX7_row_46 : decode cX7_row 46 = .ok (.iaload, 1) := by decide +kernel
theorem dX7_row_47 : decode cX7_row 47 = .ok (.aload_n 0, 1) := by decide +kernel
theorem dX7_row_48 : decode cX7_row 48 = .ok (.getfield 54, 3) := by decide +kernel
theorem dX7_row_51 : decode cX7_row 51 = .ok (.iload_n 2, 1) := by decide +kernel
theorem dX7_row_52 : decode cX7_row 52 = .ok (.iaload, 1) := by decide +kernel
theorem dX7_row_53 : decode cX7_row 53 = .ok (.invokestatic 123, 3) := by decide +kernel
theorem dX7_row_56 : decode cX7_row 56 = .ok (.ifCond .ne 6, 3) := by decide +kernel
theorem dX7_row_59 : decode cX7_row 59 = .ok (.bipush (-2), 2) := by decide +kernel
theorem dX7_row_61 : decode cX7_row 61 = .ok (.ireturn, 1) := by decide +kernel
theorem dX7_row_62 : decode cX7_row 62 = .ok (.iinc 2 1, 3) := by decide +kernel
theorem dX7_row_65 : decode cX7_row 65 = .ok (.goto (-37), 3) := by decide +kernel
theorem dX7_row_68 : decode cX7_row 68 = .ok (.iconst 0, 1) := by decide +kernel
theorem dX7_row_69 : decode cX7_row 69 = .ok (.istore_n 2, 1) := by decide +kernel
theorem dX7_row_70 : decode cX7_row 70 = .ok (.iload_n 2, 1) := by decide +kernel
theorem dX7_row_71 : decode cX7_row 71 = .ok (.aload_n 0, 1) := by decide +kernel
end
section
theorem dX7_row_72 : decode cX7_row 72 = .ok (.getfield 15, 3) := by decide +kernel
theorem dX7_row_75 : decode cX7_row 75 = .ok (.iload_n 1, 1) := by decide +kernel
theorem dX7_row_76 : decode cX7_row 76 = .ok (.iaload, 1) := by decide +kernel
theorem dX7_row_77 : decode cX7_row 77 = .ok (.if_icmp .ge 32, 3) := by decide +kernel
theorem dX7_row_80 : decode cX7_row 80 = .ok (.aload_n 0, 1) := by decide +kernel
theorem dX7_row_81 : decode cX7_row 81 = .ok (.getfield 45, 3) := by decide +kernel
theorem dX7_row_84 : decode cX7_row 84 = .ok (.iload_n 1, 1) := by decide +kernel
theorem dX7_row_85 : decode cX7_row 85 = .ok (.iload_n 2, 1) := by decide +kernel
theorem dX7_row_86 : decode cX7_row 86 = .ok (.iconst 0, 1) := by decide +kernel
theorem dX7_row_87 : decode cX7_row 87 = .ok (.invokestatic 127, 3) := by decide +kernel
theorem dX7_row_90 : decode cX7_row 90 = .ok (.iaload, 1) := by decide +kernel
theorem dX7_row_91 : decode cX7_row 91 = .ok (.aload_n 0, 1) := by decide +kernel
theorem dX7_row_92 : decode cX7_row 92 = .ok (.getfield 54, 3) := by decide +kernel
theorem dX7_row_95 : decode cX7_row 95 = .ok (.iconst 0, 1) := by decide +kernel
theorem dX7_row_96 : decode cX7_row 96 = .ok (.iaload, 1) := by decide +kernel
theorem dX7_row_97 : decode cX7_row 97 = .ok (.if_icmp .ne 6, 3) := by decide +kernel
theorem dX7_row_100 : decode cX7_row 100 = .ok (.bipush (-3), 2) := by decide +kernel
theorem dX7_row_102 : decode cX7_row 102 = .ok (.ireturn, 1) := by decide +kernel
theorem dX7_row_103 : decode cX7_row 103 = .ok (.iinc 2 1, 3) := by decide +kernel
theorem dX7_row_106 : decode cX7_row 106 = .ok (.goto (-36), 3) := by decide +kernel
theorem dX7_row_109 : decode cX7_row 109 = .ok (.aload_n 0, 1) := by decide +kernel
theorem dX7_row_110 : decode cX7_row 110 = .ok (.getfield 15, 3) := by decide +kernel
theorem dX7_row_113 : decode cX7_row 113 = .ok (.iload_n 1, 1) := by decide +kernel
theorem dX7_row_114 : decode cX7_row 114 = .ok (.iaload, 1) := by decide +kernel
theorem dX7_row_115 : decode cX7_row 115 = .ok (.bipush 12, 2) := by decide +kernel
theorem dX7_row_117 : decode cX7_row 117 = .ok (.if_icmp .ne 6, 3) := by decide +kernel
theorem dX7_row_120 : decode cX7_row 120 = .ok (.bipush (-4), 2) := by decide +kernel
theorem dX7_row_122 : decode cX7_row 122 = .ok (.ireturn, 1) := by decide +kernel
theorem dX7_row_123 : decode cX7_row 123 = .ok (.iconst 0, 1) := by decide +kernel
theorem dX7_row_124 : decode cX7_row 124 = .ok (.istore_n 2, 1) := by decide +kernel
theorem dX7_row_125 : decode cX7_row 125 = .ok (.iload_n 2, 1) := by decide +kernel
theorem dX7_row_126 : decode cX7_row 126 = .ok (.aload_n 0, 1) := by decide +kernel
theorem dX7_row_127 : decode cX7_row 127 = .ok (.getfield 116, 3) := by decide +kernel
theorem dX7_row_130 : decode cX7_row 130 = .ok (.if_icmp .ge 31, 3) := by decide +kernel
theorem dX7_row_133 : decode cX7_row 133 = .ok (.aload_n 0, 1) := by decide +kernel
theorem dX7_row_134 : decode cX7_row 134 = .ok (.getfield 45, 3) := by decide +kernel
theorem dX7_row_137 : decode cX7_row 137 = .ok (.iload_n 1, 1) := by decide +kernel
theorem dX7_row_138 : decode cX7_row 138 = .ok (.aload_n 0, 1) := by decide +kernel
theorem dX7_row_139 : decode cX7_row 139 = .ok (.getfield 15, 3) := by decide +kernel
theorem dX7_row_142 : decode cX7_row 142 = .ok (.iload_n 1, 1) := by decide +kernel
theorem dX7_row_143 : decode cX7_row 143 = .ok (.iaload, 1) := by decide +kernel
theorem dX7_row_144 : decode cX7_row 144 = .ok (.iload_n 2, 1) := by decide +kernel
theorem dX7_row_145 : decode cX7_row 145 = .ok (.invokestatic 127, 3) := by decide +kernel
theorem dX7_row_148 : decode cX7_row 148 = .ok (.aload_n 0, 1) := by decide +kernel
theorem dX7_row_149 : decode cX7_row 149 = .ok (.getfield 54, 3) := by decide +kernel
theorem dX7_row_152 : decode cX7_row 152 = .ok (.iload_n 2, 1) := by decide +kernel
theorem dX7_row_153 : decode cX7_row 153 = .ok (.iaload, 1) := by decide +kernel
theorem dX7_row_154 : decode cX7_row 154 = .ok (.iastore, 1) := by decide +kernel
theorem dX7_row_155 : decode cX7_row 155 = .ok (.iinc 2 1, 3) := by decide +kernel
theorem dX7_row_158 : decode cX7_row 158 = .ok (.goto (-33), 3) := by decide +kernel
theorem dX7_row_161 : decode cX7_row 161 = .ok (.aload_n 0, 1) := by decide +kernel
theorem dX7_row_162 : decode cX7_row 162 = .ok (.getfield 15, 3) := by decide +kernel
theorem dX7_row_165 : decode cX7_row 165 = .ok (.iload_n 1, 1) := by decide +kernel
theorem dX7_row_166 : decode cX7_row 166 = .ok (.dup2, 1) := by decide +kernel
theorem dX7_row_167 : decode cX7_row 167 = .ok (.iaload, 1) := by decide +kernel
theorem dX7_row_168 : decode cX7_row 168 = .ok (.iconst 1, 1) := by decide +kernel
theorem dX7_row_169 : decode cX7_row 169 = .ok (.iadd, 1) := by decide +kernel
theorem dX7_row_170 : decode cX7_row 170 = .ok (.iastore, 1) := by decide +kernel
theorem dX7_row_171 : decode cX7_row 171 = .ok (.aload_n 0, 1) := by decide +kernel
theorem dX7_row_172 : decode cX7_row 172 = .ok (.iconst 0, 1) := by decide +kernel
theorem dX7_row_173 : decode cX7_row 173 = .ok (.putfield 116, 3) := by decide +kernel
theorem dX7_row_176 : decode cX7_row 176 = .ok (.aload_n 0, 1) := by decide +kernel
theorem dX7_row_177 : decode cX7_row 177 = .ok (.iconst 0, 1) := by decide +kernel
theorem dX7_row_178 : decode cX7_row 178 = .ok (.putfield 112, 3) := by decide +kernel
theorem dX7_row_181 : decode cX7_row 181 = .ok (.aload_n 0, 1) := by decide +kernel
theorem dX7_row_182 : decode cX7_row 182 = .ok (.getfield 15, 3) := by decide +kernel
theorem dX7_row_185 : decode cX7_row 185 = .ok (.iload_n 1, 1) := by decide +kernel
theorem dX7_row_186 : decode cX7_row 186 = .ok (.iaload, 1) := by decide +kernel
theorem dX7_row_187 : decode cX7_row 187 = .ok (.iconst 1, 1) := by decide +kernel
theorem dX7_row_188 : decode cX7_row 188 = .ok (.isub, 1) := by decide +kernel
theorem dX7_row_189 : decode cX7_row 189 = .ok (.ireturn, 1) := by decide +kernel
theorem dX7_owner_0 : decode cX7_owner 0 = .ok (.aload_n 0, 1) := by decide +kernel
theorem dX7_owner_1 : decode cX7_owner 1 = .ok (.iload_n 1, 1) := by decide +kernel
theorem dX7_owner_2 : decode cX7_owner 2 = .ok (.iload_n 2, 1) := by decide +kernel
theorem dX7_owner_3 : decode cX7_owner 3 = .ok (.invokevirtual 131, 3) := by decide +kernel
theorem dX7_owner_6 : decode cX7_owner 6 = .ok (.ifCond .ne 5, 3) := by decide +kernel
theorem dX7_owner_9 : decode cX7_owner 9 = .ok (.iconst (-1), 1) := by decide +kernel
theorem dX7_owner_10 : decode cX7_owner 10 = .ok (.ireturn, 1) := by decide +kernel
theorem dX7_owner_11 : decode cX7_owner 11 = .ok (.iload_n 2, 1) := by decide +kernel
theorem dX7_owner_12 : decode cX7_owner 12 = .ok (.ifCond .eq 21, 3) := by decide +kernel
theorem dX7_owner_15 : decode cX7_owner 15 = .ok (.aload_n 0, 1) := by decide +kernel
theorem dX7_owner_16 : decode cX7_owner 16 = .ok (.getfield 21, 3) := by decide +kernel
theorem dX7_owner_19 : decode cX7_owner 19 = .ok (.bipush 6, 2) := by decide +kernel
theorem dX7_owner_21 : decode cX7_owner 21 = .ok (.iload_n 1, 1) := by decide +kernel
theorem dX7_owner_22 : decode cX7_owner 22 = .ok (.imul, 1) := by decide +kernel
theorem dX7_owner_23 : decode cX7_owner 23 = .ok (.iload_n 2, 1) := by decide +kernel
theorem dX7_owner_24 : decode cX7_owner 24 = .ok (.iadd, 1) := by decide +kernel
theorem dX7_owner_25 : decode cX7_owner 25 = .ok (.iaload, 1) := by decide +kernel
theorem dX7_owner_26 : decode cX7_owner 26 = .ok (.iconst 1, 1) := by decide +kernel
theorem dX7_owner_27 : decode cX7_owner 27 = .ok (.if_icmp .eq 6, 3) := by decide +kernel
theorem dX7_owner_30 : decode cX7_owner 30 = .ok (.bipush (-2), 2) := by decide +kernel
theorem dX7_owner_32 : decode cX7_owner 32 = .ok (.ireturn, 1) := by decide +kernel
theorem dX7_owner_33 : decode cX7_owner 33 = .ok (.aload_n 0, 1) := by decide +kernel
theorem dX7_owner_34 : decode cX7_owner 34 = .ok (.getfield 18, 3) := by decide +kernel
theorem dX7_owner_37 : decode cX7_owner 37 = .ok (.iload_n 1, 1) := by decide +kernel
theorem dX7_owner_38 : decode cX7_owner 38 = .ok (.iaload, 1) := by decide +kernel
theorem dX7_owner_39 : decode cX7_owner 39 = .ok (.istore_n 3, 1) := by decide +kernel
theorem dX7_owner_40 : decode cX7_owner 40 = .ok (.aload_n 0, 1) := by decide +kernel
theorem dX7_owner_41 : decode cX7_owner 41 = .ok (.getfield 18, 3) := by decide +kernel
theorem dX7_owner_44 : decode cX7_owner 44 = .ok (.iload_n 1, 1) := by decide +kernel
theorem dX7_owner_45 : decode cX7_owner 45 = .ok (.iload_n 2, 1) := by decide +kernel
theorem dX7_owner_46 : decode cX7_owner 46 = .ok (.iastore, 1) := by decide +kernel
theorem dX7_owner_47 : decode cX7_owner 47 = .ok (.iload_n 3, 1) := by decide +kernel
theorem dX7_owner_48 : decode cX7_owner 48 = .ok (.ireturn, 1) := by decide +kernel
theorem dX7_fits_0 : decode cX7_fits 0 = .ok (.iload_n 1, 1) := by decide +kernel
theorem dX7_fits_1 : decode cX7_fits 1 = .ok (.tableswitch 145 0 5 #[39, 49, 68, 83, 110, 131], 39) := by decide +kernel
theorem dX7_fits_40 : decode cX7_fits 40 = .ok (.iload_n 2, 1) := by decide +kernel
theorem dX7_fits_41 : decode cX7_fits 41 = .ok (.ifCond .ne 7, 3) := by decide +kernel
theorem dX7_fits_44 : decode cX7_fits 44 = .ok (.iconst 1, 1) := by decide +kernel
theorem dX7_fits_45 : decode cX7_fits 45 = .ok (.goto 4, 3) := by decide +kernel
theorem dX7_fits_48 : decode cX7_fits 48 = .ok (.iconst 0, 1) := by decide +kernel
theorem dX7_fits_49 : decode cX7_fits 49 = .ok (.ireturn, 1) := by decide +kernel
theorem dX7_fits_50 : decode cX7_fits 50 = .ok (.iload_n 2, 1) := by decide +kernel
theorem dX7_fits_51 : decode cX7_fits 51 = .ok (.ifCond .ne 16, 3) := by decide +kernel
theorem dX7_fits_54 : decode cX7_fits 54 = .ok (.iload_n 0, 1) := by decide +kernel
theorem dX7_fits_55 : decode cX7_fits 55 = .ok (.ifCond .eq 8, 3) := by decide +kernel
theorem dX7_fits_58 : decode cX7_fits 58 = .ok (.iload_n 0, 1) := by decide +kernel
theorem dX7_fits_59 : decode cX7_fits 59 = .ok (.iconst 4, 1) := by decide +kernel
theorem dX7_fits_60 : decode cX7_fits 60 = .ok (.if_icmp .ne 7, 3) := by decide +kernel
theorem dX7_fits_63 : decode cX7_fits 63 = .ok (.iconst 1, 1) := by decide +kernel
theorem dX7_fits_64 : decode cX7_fits 64 = .ok (.goto 4, 3) := by decide +kernel
theorem dX7_fits_67 : decode cX7_fits 67 = .ok (.iconst 0, 1) := by decide +kernel
theorem dX7_fits_68 : decode cX7_fits 68 = .ok (.ireturn, 1) := by decide +kernel
theorem dX7_fits_69 : decode cX7_fits 69 = .ok (.iload_n 2, 1) := by decide +kernel
theorem dX7_fits_70 : decode cX7_fits 70 = .ok (.ifCond .ne 12, 3) := by decide +kernel
theorem dX7_fits_73 : decode cX7_fits 73 = .ok (.iload_n 0, 1) := by decide +kernel
theorem dX7_fits_74 : decode cX7_fits 74 = .ok (.iconst 2, 1) := by decide +kernel
theorem dX7_fits_75 : decode cX7_fits 75 = .ok (.if_icmp .ne 7, 3) := by decide +kernel
theorem dX7_fits_78 : decode cX7_fits 78 = .ok (.iconst 1, 1) := by decide +kernel
theorem dX7_fits_79 : decode cX7_fits 79 = .ok (.goto 4, 3) := by decide +kernel
theorem dX7_fits_82 : decode cX7_fits 82 = .ok (.iconst 0, 1) := by decide +kernel
theorem dX7_fits_83 : decode cX7_fits 83 = .ok (.ireturn, 1) := by decide +kernel
theorem dX7_fits_84 : decode cX7_fits 84 = .ok (.iload_n 2, 1) := by decide +kernel
theorem dX7_fits_85 : decode cX7_fits 85 = .ok (.iconst 1, 1) := by decide +kernel
theorem dX7_fits_86 : decode cX7_fits 86 = .ok (.sipush 1000, 3) := by decide +kernel
theorem dX7_fits_89 : decode cX7_fits 89 = .ok (.invokestatic 95, 3) := by decide +kernel
theorem dX7_fits_92 : decode cX7_fits 92 = .ok (.ifCond .eq 17, 3) := by decide +kernel
theorem dX7_fits_95 : decode cX7_fits 95 = .ok (.iload_n 0, 1) := by decide +kernel
theorem dX7_fits_96 : decode cX7_fits 96 = .ok (.iconst 2, 1) := by decide +kernel
theorem dX7_fits_97 : decode cX7_fits 97 = .ok (.if_icmp .eq 8, 3) := by decide +kernel
theorem dX7_fits_100 : decode cX7_fits 100 = .ok (.iload_n 0, 1) := by decide +kernel
theorem dX7_fits_101 : decode cX7_fits 101 = .ok (.iconst 3, 1) := by decide +kernel
theorem dX7_fits_102 : decode cX7_fits 102 = .ok (.if_icmp .ne 7, 3) := by decide +kernel
theorem dX7_fits_105 : decode cX7_fits 105 = .ok (.iconst 1, 1) := by decide +kernel
theorem dX7_fits_106 : decode cX7_fits 106 = .ok (.goto 4, 3) := by decide +kernel
theorem dX7_fits_109 : decode cX7_fits 109 = .ok (.iconst 0, 1) := by decide +kernel
theorem dX7_fits_110 : decode cX7_fits 110 = .ok (.ireturn, 1) := by decide +kernel
theorem dX7_fits_111 : decode cX7_fits 111 = .ok (.iload_n 2, 1) := by decide +kernel
theorem dX7_fits_112 : decode cX7_fits 112 = .ok (.iconst 0, 1) := by decide +kernel
theorem dX7_fits_113 : decode cX7_fits 113 = .ok (.bipush 11, 2) := by decide +kernel
theorem dX7_fits_115 : decode cX7_fits 115 = .ok (.invokestatic 95, 3) := by decide +kernel
theorem dX7_fits_118 : decode cX7_fits 118 = .ok (.ifCond .eq 12, 3) := by decide +kernel
theorem dX7_fits_121 : decode cX7_fits 121 = .ok (.iload_n 0, 1) := by decide +kernel
theorem dX7_fits_122 : decode cX7_fits 122 = .ok (.iconst 4, 1) := by decide +kernel
theorem dX7_fits_123 : decode cX7_fits 123 = .ok (.if_icmp .ne 7, 3) := by decide +kernel
theorem dX7_fits_126 : decode cX7_fits 126 = .ok (.iconst 1, 1) := by decide +kernel
theorem dX7_fits_127 : decode cX7_fits 127 = .ok (.goto 4, 3) := by decide +kernel
theorem dX7_fits_130 : decode cX7_fits 130 = .ok (.iconst 0, 1) := by decide +kernel
theorem dX7_fits_131 : decode cX7_fits 131 = .ok (.ireturn, 1) := by decide +kernel
theorem dX7_fits_132 : decode cX7_fits 132 = .ok (.iload_n 2, 1) := by decide +kernel
theorem dX7_fits_133 : decode cX7_fits 133 = .ok (.ifCond .ne 11, 3) := by decide +kernel
theorem dX7_fits_136 : decode cX7_fits 136 = .ok (.iload_n 0, 1) := by decide +kernel
theorem dX7_fits_137 : decode cX7_fits 137 = .ok (.ifCond .eq 7, 3) := by decide +kernel
theorem dX7_fits_140 : decode cX7_fits 140 = .ok (.iconst 1, 1) := by decide +kernel
theorem dX7_fits_141 : decode cX7_fits 141 = .ok (.goto 4, 3) := by decide +kernel
theorem dX7_fits_144 : decode cX7_fits 144 = .ok (.iconst 0, 1) := by decide +kernel
theorem dX7_fits_145 : decode cX7_fits 145 = .ok (.ireturn, 1) := by decide +kernel
theorem dX7_fits_146 : decode cX7_fits 146 = .ok (.iconst 0, 1) := by decide +kernel
theorem dX7_fits_147 : decode cX7_fits 147 = .ok (.ireturn, 1) := by decide +kernel
theorem dX7_mask_0 : decode cX7_mask 0 = .ok (.aload_n 0, 1) := by decide +kernel
theorem dX7_mask_1 : decode cX7_mask 1 = .ok (.iload_n 1, 1) := by decide +kernel
theorem dX7_mask_2 : decode cX7_mask 2 = .ok (.iload_n 2, 1) := by decide +kernel
theorem dX7_mask_3 : decode cX7_mask 3 = .ok (.invokevirtual 131, 3) := by decide +kernel
theorem dX7_mask_6 : decode cX7_mask 6 = .ok (.ifCond .ne 5, 3) := by decide +kernel
theorem dX7_mask_9 : decode cX7_mask 9 = .ok (.iconst (-1), 1) := by decide +kernel
theorem dX7_mask_10 : decode cX7_mask 10 = .ok (.ireturn, 1) := by decide +kernel
theorem dX7_mask_11 : decode cX7_mask 11 = .ok (.aload_n 0, 1) := by decide +kernel
theorem dX7_mask_12 : decode cX7_mask 12 = .ok (.getfield 21, 3) := by decide +kernel
theorem dX7_mask_15 : decode cX7_mask 15 = .ok (.bipush 6, 2) := by decide +kernel
theorem dX7_mask_17 : decode cX7_mask 17 = .ok (.iload_n 1, 1) := by decide +kernel
theorem dX7_mask_18 : decode cX7_mask 18 = .ok (.imul, 1) := by decide +kernel
theorem dX7_mask_19 : decode cX7_mask 19 = .ok (.iload_n 2, 1) := by decide +kernel
theorem dX7_mask_20 : decode cX7_mask 20 = .ok (.iadd, 1) := by decide +kernel
theorem dX7_mask_21 : decode cX7_mask 21 = .ok (.iaload, 1) := by decide +kernel
theorem dX7_mask_22 : decode cX7_mask 22 = .ok (.iload_n 3, 1) := by decide +kernel
theorem dX7_mask_23 : decode cX7_mask 23 = .ok (.iload 4, 2) := by decide +kernel
theorem dX7_mask_25 : decode cX7_mask 25 = .ok (.invokestatic 134, 3) := by decide +kernel
theorem dX7_mask_28 : decode cX7_mask 28 = .ok (.ifCond .ne 6, 3) := by decide +kernel
theorem dX7_mask_31 : decode cX7_mask 31 = .ok (.bipush (-2), 2) := by decide +kernel
theorem dX7_mask_33 : decode cX7_mask 33 = .ok (.ireturn, 1) := by decide +kernel
theorem dX7_mask_34 : decode cX7_mask 34 = .ok (.aload_n 0, 1) := by decide +kernel
theorem dX7_mask_35 : decode cX7_mask 35 = .ok (.getfield 27, 3) := by decide +kernel
theorem dX7_mask_38 : decode cX7_mask 38 = .ok (.bipush 6, 2) := by decide +kernel
theorem dX7_mask_40 : decode cX7_mask 40 = .ok (.iload_n 1, 1) := by decide +kernel
theorem dX7_mask_41 : decode cX7_mask 41 = .ok (.imul, 1) := by decide +kernel
theorem dX7_mask_42 : decode cX7_mask 42 = .ok (.iload_n 2, 1) := by decide +kernel
theorem dX7_mask_43 : decode cX7_mask 43 = .ok (.iadd, 1) := by decide +kernel
theorem dX7_mask_44 : decode cX7_mask 44 = .ok (.iload_n 3, 1) := by decide +kernel
theorem dX7_mask_45 : decode cX7_mask 45 = .ok (.iastore, 1) := by decide +kernel
theorem dX7_mask_46 : decode cX7_mask 46 = .ok (.aload_n 0, 1) := by decide +kernel
theorem dX7_mask_47 : decode cX7_mask 47 = .ok (.getfield 30, 3) := by decide +kernel
theorem dX7_mask_50 : decode cX7_mask 50 = .ok (.bipush 6, 2) := by decide +kernel
theorem dX7_mask_52 : decode cX7_mask 52 = .ok (.iload_n 1, 1) := by decide +kernel
theorem dX7_mask_53 : decode cX7_mask 53 = .ok (.imul, 1) := by decide +kernel
theorem dX7_mask_54 : decode cX7_mask 54 = .ok (.iload_n 2, 1) := by decide +kernel
theorem dX7_mask_55 : decode cX7_mask 55 = .ok (.iadd, 1) := by decide +kernel
theorem dX7_mask_56 : decode cX7_mask 56 = .ok (.iload 4, 2) := by decide +kernel
theorem dX7_mask_58 : decode cX7_mask 58 = .ok (.iastore, 1) := by decide +kernel
theorem dX7_mask_59 : decode cX7_mask 59 = .ok (.iconst 0, 1) := by decide +kernel
theorem dX7_mask_60 : decode cX7_mask 60 = .ok (.ireturn, 1) := by decide +kernel
theorem dX7_dial_0 : decode cX7_dial 0 = .ok (.aload_n 0, 1) := by decide +kernel
theorem dX7_dial_1 : decode cX7_dial 1 = .ok (.iload_n 1, 1) := by decide +kernel
theorem dX7_dial_2 : decode cX7_dial 2 = .ok (.iload_n 2, 1) := by decide +kernel
theorem dX7_dial_3 : decode cX7_dial 3 = .ok (.invokevirtual 131, 3) := by decide +kernel
theorem dX7_dial_6 : decode cX7_dial 6 = .ok (.ifCond .ne 5, 3) := by decide +kernel
theorem dX7_dial_9 : decode cX7_dial 9 = .ok (.iconst (-1), 1) := by decide +kernel
theorem dX7_dial_10 : decode cX7_dial 10 = .ok (.ireturn, 1) := by decide +kernel
theorem dX7_dial_11 : decode cX7_dial 11 = .ok (.aload_n 0, 1) := by decide +kernel
theorem dX7_dial_12 : decode cX7_dial 12 = .ok (.getfield 21, 3) := by decide +kernel
theorem dX7_dial_15 : decode cX7_dial 15 = .ok (.bipush 6, 2) := by decide +kernel
theorem dX7_dial_17 : decode cX7_dial 17 = .ok (.iload_n 1, 1) := by decide +kernel
theorem dX7_dial_18 : decode cX7_dial 18 = .ok (.imul, 1) := by decide +kernel
theorem dX7_dial_19 : decode cX7_dial 19 = .ok (.iload_n 2, 1) := by decide +kernel
theorem dX7_dial_20 : decode cX7_dial 20 = .ok (.iadd, 1) := by decide +kernel
theorem dX7_dial_21 : decode cX7_dial 21 = .ok (.iaload, 1) := by decide +kernel
theorem dX7_dial_22 : decode cX7_dial 22 = .ok (.ifCond .ne 7, 3) := by decide +kernel
theorem dX7_dial_25 : decode cX7_dial 25 = .ok (.iconst 1, 1) := by decide +kernel
theorem dX7_dial_26 : decode cX7_dial 26 = .ok (.goto 4, 3) := by decide +kernel
theorem dX7_dial_29 : decode cX7_dial 29 = .ok (.iconst 0, 1) := by decide +kernel
theorem dX7_dial_30 : decode cX7_dial 30 = .ok (.istore 6, 2) := by decide +kernel
theorem dX7_dial_32 : decode cX7_dial 32 = .ok (.iload 6, 2) := by decide +kernel
theorem dX7_dial_34 : decode cX7_dial 34 = .ok (.ifCond .ne 18, 3) := by decide +kernel
theorem dX7_dial_37 : decode cX7_dial 37 = .ok (.aload_n 0, 1) := by decide +kernel
theorem dX7_dial_38 : decode cX7_dial 38 = .ok (.getfield 21, 3) := by decide +kernel
theorem dX7_dial_41 : decode cX7_dial 41 = .ok (.bipush 6, 2) := by decide +kernel
theorem dX7_dial_43 : decode cX7_dial 43 = .ok (.iload_n 1, 1) := by decide +kernel
theorem dX7_dial_44 : decode cX7_dial 44 = .ok (.imul, 1) := by decide +kernel
theorem dX7_dial_45 : decode cX7_dial 45 = .ok (.iload_n 2, 1) := by decide +kernel
theorem dX7_dial_46 : decode cX7_dial 46 = .ok (.iadd, 1) := by decide +kernel
theorem dX7_dial_47 : decode cX7_dial 47 = .ok (.iaload, 1) := by decide +kernel
theorem dX7_dial_48 : decode cX7_dial 48 = .ok (.iconst 4, 1) := by decide +kernel
theorem dX7_dial_49 : decode cX7_dial 49 = .ok (.if_icmp .ne 24, 3) := by decide +kernel
theorem dX7_dial_52 : decode cX7_dial 52 = .ok (.iload 6, 2) := by decide +kernel
theorem dX7_dial_54 : decode cX7_dial 54 = .ok (.ifCond .eq 15, 3) := by decide +kernel
theorem dX7_dial_57 : decode cX7_dial 57 = .ok (.iload_n 3, 1) := by decide +kernel
theorem dX7_dial_58 : decode cX7_dial 58 = .ok (.iconst 1, 1) := by decide +kernel
theorem dX7_dial_59 : decode cX7_dial 59 = .ok (.iconst 4, 1) := by decide +kernel
theorem dX7_dial_60 : decode cX7_dial 60 = .ok (.invokestatic 95, 3) := by decide +kernel
theorem dX7_dial_63 : decode cX7_dial 63 = .ok (.ifCond .ne 12, 3) := by decide +kernel
theorem dX7_dial_66 : decode cX7_dial 66 = .ok (.goto 7, 3) := by decide +kernel
theorem dX7_dial_69 : decode cX7_dial 69 = .ok (.iload_n 3, 1) := by decide +kernel
theorem dX7_dial_70 : decode cX7_dial 70 = .ok (.ifCond .eq 5, 3) := by decide +kernel
theorem dX7_dial_73 : decode cX7_dial 73 = .ok (.iconst (-1), 1) := by decide +kernel
theorem dX7_dial_74 : decode cX7_dial 74 = .ok (.ireturn, 1) := by decide +kernel
theorem dX7_dial_75 : decode cX7_dial 75 = .ok (.iload 6, 2) := by decide +kernel
theorem dX7_dial_77 : decode cX7_dial 77 = .ok (.ifCond .eq 69, 3) := by decide +kernel
theorem dX7_dial_80 : decode cX7_dial 80 = .ok (.iload 4, 2) := by decide +kernel
theorem dX7_dial_82 : decode cX7_dial 82 = .ok (.iconst 1, 1) := by decide +kernel
theorem dX7_dial_83 : decode cX7_dial 83 = .ok (.if_icmp .eq 23, 3) := by decide +kernel
theorem dX7_dial_86 : decode cX7_dial 86 = .ok (.iload 4, 2) := by decide +kernel
theorem dX7_dial_88 : decode cX7_dial 88 = .ok (.iconst 3, 1) := by decide +kernel
theorem dX7_dial_89 : decode cX7_dial 89 = .ok (.if_icmp .eq 17, 3) := by decide +kernel
theorem dX7_dial_92 : decode cX7_dial 92 = .ok (.iload 4, 2) := by decide +kernel
theorem dX7_dial_94 : decode cX7_dial 94 = .ok (.bipush 7, 2) := by decide +kernel
theorem dX7_dial_96 : decode cX7_dial 96 = .ok (.if_icmp .eq 10, 3) := by decide +kernel
theorem dX7_dial_99 : decode cX7_dial 99 = .ok (.iload 4, 2) := by decide +kernel
theorem dX7_dial_101 : decode cX7_dial 101 = .ok (.bipush 9, 2) := by decide +kernel
theorem dX7_dial_103 : decode cX7_dial 103 = .ok (.if_icmp .ne 14, 3) := by decide +kernel
theorem dX7_dial_106 : decode cX7_dial 106 = .ok (.iload 5, 2) := by decide +kernel
theorem dX7_dial_108 : decode cX7_dial 108 = .ok (.iconst 0, 1) := by decide +kernel
theorem dX7_dial_109 : decode cX7_dial 109 = .ok (.bipush 9, 2) := by decide +kernel
theorem dX7_dial_111 : decode cX7_dial 111 = .ok (.invokestatic 95, 3) := by decide +kernel
theorem dX7_dial_114 : decode cX7_dial 114 = .ok (.ifCond .ne 6, 3) := by decide +kernel
theorem dX7_dial_117 : decode cX7_dial 117 = .ok (.bipush (-2), 2) := by decide +kernel
theorem dX7_dial_119 : decode cX7_dial 119 = .ok (.ireturn, 1) := by decide +kernel
theorem dX7_dial_120 : decode cX7_dial 120 = .ok (.aload_n 0, 1) := by decide +kernel
theorem dX7_dial_121 : decode cX7_dial 121 = .ok (.getfield 39, 3) := by decide +kernel
theorem dX7_dial_124 : decode cX7_dial 124 = .ok (.iconst 5, 1) := by decide +kernel
theorem dX7_dial_125 : decode cX7_dial 125 = .ok (.iload_n 1, 1) := by decide +kernel
theorem dX7_dial_126 : decode cX7_dial 126 = .ok (.imul, 1) := by decide +kernel
theorem dX7_dial_127 : decode cX7_dial 127 = .ok (.iload_n 3, 1) := by decide +kernel
theorem dX7_dial_128 : decode cX7_dial 128 = .ok (.iadd, 1) := by decide +kernel
theorem dX7_dial_129 : decode cX7_dial 129 = .ok (.iload 4, 2) := by decide +kernel
theorem dX7_dial_131 : decode cX7_dial 131 = .ok (.iastore, 1) := by decide +kernel
theorem dX7_dial_132 : decode cX7_dial 132 = .ok (.aload_n 0, 1) := by decide +kernel
theorem dX7_dial_133 : decode cX7_dial 133 = .ok (.getfield 42, 3) := by decide +kernel
theorem dX7_dial_136 : decode cX7_dial 136 = .ok (.iconst 5, 1) := by decide +kernel
theorem dX7_dial_137 : decode cX7_dial 137 = .ok (.iload_n 1, 1) := by decide +kernel
theorem dX7_dial_138 : decode cX7_dial 138 = .ok (.imul, 1) := by decide +kernel
theorem dX7_dial_139 : decode cX7_dial 139 = .ok (.iload_n 3, 1) := by decide +kernel
theorem dX7_dial_140 : decode cX7_dial 140 = .ok (.iadd, 1) := by decide +kernel
theorem dX7_dial_141 : decode cX7_dial 141 = .ok (.iload 5, 2) := by decide +kernel
theorem dX7_dial_143 : decode cX7_dial 143 = .ok (.iastore, 1) := by decide +kernel
theorem dX7_dial_144 : decode cX7_dial 144 = .ok (.iconst 0, 1) := by decide +kernel
theorem dX7_dial_145 : decode cX7_dial 145 = .ok (.ireturn, 1) := by decide +kernel
theorem dX7_dial_146 : decode cX7_dial 146 = .ok (.iload 4, 2) := by decide +kernel
theorem dX7_dial_148 : decode cX7_dial 148 = .ok (.iconst 1, 1) := by decide +kernel
theorem dX7_dial_149 : decode cX7_dial 149 = .ok (.bipush 99, 2) := by decide +kernel
theorem dX7_dial_151 : decode cX7_dial 151 = .ok (.invokestatic 95, 3) := by decide +kernel
theorem dX7_dial_154 : decode cX7_dial 154 = .ok (.ifCond .eq 28, 3) := by decide +kernel
theorem dX7_dial_157 : decode cX7_dial 157 = .ok (.iload 4, 2) := by decide +kernel
theorem dX7_dial_159 : decode cX7_dial 159 = .ok (.iconst 2, 1) := by decide +kernel
theorem dX7_dial_160 : decode cX7_dial 160 = .ok (.irem, 1) := by decide +kernel
theorem dX7_dial_161 : decode cX7_dial 161 = .ok (.ifCond .eq 21, 3) := by decide +kernel
theorem dX7_dial_164 : decode cX7_dial 164 = .ok (.iload 4, 2) := by decide +kernel
theorem dX7_dial_166 : decode cX7_dial 166 = .ok (.iconst 5, 1) := by decide +kernel
theorem dX7_dial_167 : decode cX7_dial 167 = .ok (.irem, 1) := by decide +kernel
theorem dX7_dial_168 : decode cX7_dial 168 = .ok (.ifCond .eq 14, 3) := by decide +kernel
theorem dX7_dial_171 : decode cX7_dial 171 = .ok (.iload 5, 2) := by decide +kernel
theorem dX7_dial_173 : decode cX7_dial 173 = .ok (.iconst 0, 1) := by decide +kernel
theorem dX7_dial_174 : decode cX7_dial 174 = .ok (.bipush 99, 2) := by decide +kernel
theorem dX7_dial_176 : decode cX7_dial 176 = .ok (.invokestatic 95, 3) := by decide +kernel
theorem dX7_dial_179 : decode cX7_dial 179 = .ok (.ifCond .ne 6, 3) := by decide +kernel
theorem dX7_dial_182 : decode cX7_dial 182 = .ok (.bipush (-2), 2) := by decide +kernel
theorem dX7_dial_184 : decode cX7_dial 184 = .ok (.ireturn, 1) := by decide +kernel
theorem dX7_dial_185 : decode cX7_dial 185 = .ok (.aload_n 0, 1) := by decide +kernel
theorem dX7_dial_186 : decode cX7_dial 186 = .ok (.getfield 33, 3) := by decide +kernel
theorem dX7_dial_189 : decode cX7_dial 189 = .ok (.bipush 6, 2) := by decide +kernel
theorem dX7_dial_191 : decode cX7_dial 191 = .ok (.iload_n 1, 1) := by decide +kernel
theorem dX7_dial_192 : decode cX7_dial 192 = .ok (.imul, 1) := by decide +kernel
theorem dX7_dial_193 : decode cX7_dial 193 = .ok (.iload_n 2, 1) := by decide +kernel
theorem dX7_dial_194 : decode cX7_dial 194 = .ok (.iadd, 1) := by decide +kernel
theorem dX7_dial_195 : decode cX7_dial 195 = .ok (.iload 4, 2) := by decide +kernel
theorem dX7_dial_197 : decode cX7_dial 197 = .ok (.iastore, 1) := by decide +kernel
theorem dX7_dial_198 : decode cX7_dial 198 = .ok (.aload_n 0, 1) := by decide +kernel
theorem dX7_dial_199 : decode cX7_dial 199 = .ok (.getfield 36, 3) := by decide +kernel
theorem dX7_dial_202 : decode cX7_dial 202 = .ok (.bipush 6, 2) := by decide +kernel
theorem dX7_dial_204 : decode cX7_dial 204 = .ok (.iload_n 1, 1) := by decide +kernel
theorem dX7_dial_205 : decode cX7_dial 205 = .ok (.imul, 1) := by decide +kernel
theorem dX7_dial_206 : decode cX7_dial 206 = .ok (.iload_n 2, 1) := by decide +kernel
theorem dX7_dial_207 : decode cX7_dial 207 = .ok (.iadd, 1) := by decide +kernel
theorem dX7_dial_208 : decode cX7_dial 208 = .ok (.iload 5, 2) := by decide +kernel
theorem dX7_dial_210 : decode cX7_dial 210 = .ok (.iastore, 1) := by decide +kernel
theorem dX7_dial_211 : decode cX7_dial 211 = .ok (.iconst 0, 1) := by decide +kernel
theorem dX7_dial_212 : decode cX7_dial 212 = .ok (.ireturn, 1) := by decide +kernel
theorem dX7_seed_0 : decode cX7_seed 0 = .ok (.iload_n 1, 1) := by decide +kernel
theorem dX7_seed_1 : decode cX7_seed 1 = .ok (.iconst 0, 1) := by decide +kernel
theorem dX7_seed_2 : decode cX7_seed 2 = .ok (.bipush 60, 2) := by decide +kernel
theorem dX7_seed_4 : decode cX7_seed 4 = .ok (.invokestatic 95, 3) := by decide +kernel
theorem dX7_seed_7 : decode cX7_seed 7 = .ok (.ifCond .ne 6, 3) := by decide +kernel
theorem dX7_seed_10 : decode cX7_seed 10 = .ok (.bipush (-2), 2) := by decide +kernel
theorem dX7_seed_12 : decode cX7_seed 12 = .ok (.ireturn, 1) := by decide +kernel
theorem dX7_seed_13 : decode cX7_seed 13 = .ok (.aload_n 0, 1) := by decide +kernel
theorem dX7_seed_14 : decode cX7_seed 14 = .ok (.getfield 137, 3) := by decide +kernel
theorem dX7_seed_17 : decode cX7_seed 17 = .ok (.istore_n 2, 1) := by decide +kernel
theorem dX7_seed_18 : decode cX7_seed 18 = .ok (.aload_n 0, 1) := by decide +kernel
theorem dX7_seed_19 : decode cX7_seed 19 = .ok (.iload_n 1, 1) := by decide +kernel
theorem dX7_seed_20 : decode cX7_seed 20 = .ok (.putfield 137, 3) := by decide +kernel
theorem dX7_seed_23 : decode cX7_seed 23 = .ok (.iload_n 2, 1) := by decide +kernel
theorem dX7_seed_24 : decode cX7_seed 24 = .ok (.ireturn, 1) := by decide +kernel
theorem dX7_turnedKey_0 : decode cX7_turnedKey 0 = .ok (.iconst 0, 1) := by decide +kernel
theorem dX7_turnedKey_1 : decode cX7_turnedKey 1 = .ok (.istore_n 3, 1) := by decide +kernel
theorem dX7_turnedKey_2 : decode cX7_turnedKey 2 = .ok (.iload_n 2, 1) := by decide +kernel
theorem dX7_turnedKey_3 : decode cX7_turnedKey 3 = .ok (.bipush 10, 2) := by decide +kernel
theorem dX7_turnedKey_5 : decode cX7_turnedKey 5 = .ok (.idiv, 1) := by decide +kernel
theorem dX7_turnedKey_6 : decode cX7_turnedKey 6 = .ok (.istore 4, 2) := by decide +kernel
theorem dX7_turnedKey_8 : decode cX7_turnedKey 8 = .ok (.bipush 10, 2) := by decide +kernel
theorem dX7_turnedKey_10 : decode cX7_turnedKey 10 = .ok (.istore 5, 2) := by decide +kernel
theorem dX7_turnedKey_12 : decode cX7_turnedKey 12 = .ok (.iconst 1, 1) := by decide +kernel
theorem dX7_turnedKey_13 : decode cX7_turnedKey 13 = .ok (.istore 6, 2) := by decide +kernel
theorem dX7_turnedKey_15 : decode cX7_turnedKey 15 = .ok (.iload 6, 2) := by decide +kernel
theorem dX7_turnedKey_17 : decode cX7_turnedKey 17 = .ok (.iconst 5, 1) := by decide +kernel
theorem dX7_turnedKey_18 : decode cX7_turnedKey 18 = .ok (.if_icmp .ge 61, 3) := by decide +kernel
theorem dX7_turnedKey_21 : decode cX7_turnedKey 21 = .ok (.iload_n 3, 1) := by decide +kernel
theorem dX7_turnedKey_22 : decode cX7_turnedKey 22 = .ok (.iload 5, 2) := by decide +kernel
theorem dX7_turnedKey_24 : decode cX7_turnedKey 24 = .ok (.aload_n 0, 1) := by decide +kernel
theorem dX7_turnedKey_25 : decode cX7_turnedKey 25 = .ok (.getfield 39, 3) := by decide +kernel
theorem dX7_turnedKey_28 : decode cX7_turnedKey 28 = .ok (.iconst 5, 1) := by decide +kernel
theorem dX7_turnedKey_29 : decode cX7_turnedKey 29 = .ok (.iload_n 1, 1) := by decide +kernel
theorem dX7_turnedKey_30 : decode cX7_turnedKey 30 = .ok (.imul, 1) := by decide +kernel
theorem dX7_turnedKey_31 : decode cX7_turnedKey 31 = .ok (.iload 6, 2) := by decide +kernel
theorem dX7_turnedKey_33 : decode cX7_turnedKey 33 = .ok (.iadd, 1) := by decide +kernel
theorem dX7_turnedKey_34 : decode cX7_turnedKey 34 = .ok (.iaload, 1) := by decide +kernel
theorem dX7_turnedKey_35 : decode cX7_turnedKey 35 = .ok (.iload 4, 2) := by decide +kernel
theorem dX7_turnedKey_37 : decode cX7_turnedKey 37 = .ok (.bipush 10, 2) := by decide +kernel
theorem dX7_turnedKey_39 : decode cX7_turnedKey 39 = .ok (.irem, 1) := by decide +kernel
theorem dX7_turnedKey_40 : decode cX7_turnedKey 40 = .ok (.imul, 1) := by decide +kernel
theorem dX7_turnedKey_41 : decode cX7_turnedKey 41 = .ok (.aload_n 0, 1) := by decide +kernel
theorem dX7_turnedKey_42 : decode cX7_turnedKey 42 = .ok (.getfield 42, 3) := by decide +kernel
theorem dX7_turnedKey_45 : decode cX7_turnedKey 45 = .ok (.iconst 5, 1) := by decide +kernel
theorem dX7_turnedKey_46 : decode cX7_turnedKey 46 = .ok (.iload_n 1, 1) := by decide +kernel
theorem dX7_turnedKey_47 : decode cX7_turnedKey 47 = .ok (.imul, 1) := by decide +kernel
theorem dX7_turnedKey_48 : decode cX7_turnedKey 48 = .ok (.iload 6, 2) := by decide +kernel
theorem dX7_turnedKey_50 : decode cX7_turnedKey 50 = .ok (.iadd, 1) := by decide +kernel
theorem dX7_turnedKey_51 : decode cX7_turnedKey 51 = .ok (.iaload, 1) := by decide +kernel
theorem dX7_turnedKey_52 : decode cX7_turnedKey 52 = .ok (.iadd, 1) := by decide +kernel
theorem dX7_turnedKey_53 : decode cX7_turnedKey 53 = .ok (.bipush 10, 2) := by decide +kernel
theorem dX7_turnedKey_55 : decode cX7_turnedKey 55 = .ok (.irem, 1) := by decide +kernel
theorem dX7_turnedKey_56 : decode cX7_turnedKey 56 = .ok (.imul, 1) := by decide +kernel
theorem dX7_turnedKey_57 : decode cX7_turnedKey 57 = .ok (.iadd, 1) := by decide +kernel
theorem dX7_turnedKey_58 : decode cX7_turnedKey 58 = .ok (.istore_n 3, 1) := by decide +kernel
theorem dX7_turnedKey_59 : decode cX7_turnedKey 59 = .ok (.iload 4, 2) := by decide +kernel
theorem dX7_turnedKey_61 : decode cX7_turnedKey 61 = .ok (.bipush 10, 2) := by decide +kernel
theorem dX7_turnedKey_63 : decode cX7_turnedKey 63 = .ok (.idiv, 1) := by decide +kernel
theorem dX7_turnedKey_64 : decode cX7_turnedKey 64 = .ok (.istore 4, 2) := by decide +kernel
theorem dX7_turnedKey_66 : decode cX7_turnedKey 66 = .ok (.iload 5, 2) := by decide +kernel
theorem dX7_turnedKey_68 : decode cX7_turnedKey 68 = .ok (.bipush 10, 2) := by decide +kernel
theorem dX7_turnedKey_70 : decode cX7_turnedKey 70 = .ok (.imul, 1) := by decide +kernel
theorem dX7_turnedKey_71 : decode cX7_turnedKey 71 = .ok (.istore 5, 2) := by decide +kernel
theorem dX7_turnedKey_73 : decode cX7_turnedKey 73 = .ok (.iinc 6 1, 3) := by decide +kernel
theorem dX7_turnedKey_76 : decode cX7_turnedKey 76 = .ok (.goto (-61), 3) := by decide +kernel
theorem dX7_turnedKey_79 : decode cX7_turnedKey 79 = .ok (.iload_n 3, 1) := by decide +kernel
theorem dX7_turnedKey_80 : decode cX7_turnedKey 80 = .ok (.iload_n 3, 1) := by decide +kernel
theorem dX7_turnedKey_81 : decode cX7_turnedKey 81 = .ok (.invokestatic 104, 3) := by decide +kernel
theorem dX7_turnedKey_84 : decode cX7_turnedKey 84 = .ok (.iadd, 1) := by decide +kernel
theorem dX7_turnedKey_85 : decode cX7_turnedKey 85 = .ok (.ireturn, 1) := by decide +kernel
theorem dX7_turnedName_0 : decode cX7_turnedName 0 = .ok (.aload_n 0, 1) := by decide +kernel
theorem dX7_turnedName_1 : decode cX7_turnedName 1 = .ok (.getfield 33, 3) := by decide +kernel
theorem dX7_turnedName_4 : decode cX7_turnedName 4 = .ok (.iload_n 1, 1) := by decide +kernel
theorem dX7_turnedName_5 : decode cX7_turnedName 5 = .ok (.iaload, 1) := by decide +kernel
theorem dX7_turnedName_6 : decode cX7_turnedName 6 = .ok (.iload_n 2, 1) := by decide +kernel
theorem dX7_turnedName_7 : decode cX7_turnedName 7 = .ok (.imul, 1) := by decide +kernel
theorem dX7_turnedName_8 : decode cX7_turnedName 8 = .ok (.aload_n 0, 1) := by decide +kernel
theorem dX7_turnedName_9 : decode cX7_turnedName 9 = .ok (.getfield 36, 3) := by decide +kernel
theorem dX7_turnedName_12 : decode cX7_turnedName 12 = .ok (.iload_n 1, 1) := by decide +kernel
theorem dX7_turnedName_13 : decode cX7_turnedName 13 = .ok (.iaload, 1) := by decide +kernel
theorem dX7_turnedName_14 : decode cX7_turnedName 14 = .ok (.iadd, 1) := by decide +kernel
theorem dX7_turnedName_15 : decode cX7_turnedName 15 = .ok (.bipush 100, 2) := by decide +kernel
theorem dX7_turnedName_17 : decode cX7_turnedName 17 = .ok (.irem, 1) := by decide +kernel
theorem dX7_turnedName_18 : decode cX7_turnedName 18 = .ok (.ireturn, 1) := by decide +kernel
theorem dX7_ownerOf_0 : decode cX7_ownerOf 0 = .ok (.aload_n 0, 1) := by decide +kernel
theorem dX7_ownerOf_1 : decode cX7_ownerOf 1 = .ok (.getfield 45, 3) := by decide +kernel
theorem dX7_ownerOf_4 : decode cX7_ownerOf 4 = .ok (.iload_n 1, 1) := by decide +kernel
theorem dX7_ownerOf_5 : decode cX7_ownerOf 5 = .ok (.iload_n 2, 1) := by decide +kernel
theorem dX7_ownerOf_6 : decode cX7_ownerOf 6 = .ok (.aload_n 0, 1) := by decide +kernel
theorem dX7_ownerOf_7 : decode cX7_ownerOf 7 = .ok (.getfield 18, 3) := by decide +kernel
theorem dX7_ownerOf_10 : decode cX7_ownerOf 10 = .ok (.iload_n 1, 1) := by decide +kernel
theorem dX7_ownerOf_11 : decode cX7_ownerOf 11 = .ok (.iaload, 1) := by decide +kernel
theorem dX7_ownerOf_12 : decode cX7_ownerOf 12 = .ok (.invokestatic 127, 3) := by decide +kernel
theorem dX7_ownerOf_15 : decode cX7_ownerOf 15 = .ok (.iaload, 1) := by decide +kernel
theorem dX7_ownerOf_16 : decode cX7_ownerOf 16 = .ok (.ireturn, 1) := by decide +kernel
theorem dX7_shiftOf_0 : decode cX7_shiftOf 0 = .ok (.iload_n 1, 1) := by decide +kernel
theorem dX7_shiftOf_1 : decode cX7_shiftOf 1 = .ok (.ldc 119, 2) := by decide +kernel
theorem dX7_shiftOf_3 : decode cX7_shiftOf 3 = .ok (.if_icmp .ne 5, 3) := by decide +kernel
theorem dX7_shiftOf_6 : decode cX7_shiftOf 6 = .ok (.iconst 0, 1) := by decide +kernel
theorem dX7_shiftOf_7 : decode cX7_shiftOf 7 = .ok (.ireturn, 1) := by decide +kernel
theorem dX7_shiftOf_8 : decode cX7_shiftOf 8 = .ok (.iconst 0, 1) := by decide +kernel
theorem dX7_shiftOf_9 : decode cX7_shiftOf 9 = .ok (.istore_n 2, 1) := by decide +kernel
theorem dX7_shiftOf_10 : decode cX7_shiftOf 10 = .ok (.aload_n 0, 1) := by decide +kernel
theorem dX7_shiftOf_11 : decode cX7_shiftOf 11 = .ok (.iload_n 1, 1) := by decide +kernel
theorem dX7_shiftOf_12 : decode cX7_shiftOf 12 = .ok (.iload_n 1, 1) := by decide +kernel
theorem dX7_shiftOf_13 : decode cX7_shiftOf 13 = .ok (.aload_n 0, 1) := by decide +kernel
theorem dX7_shiftOf_14 : decode cX7_shiftOf 14 = .ok (.getfield 137, 3) := by decide +kernel
theorem dX7_shiftOf_17 : decode cX7_shiftOf 17 = .ok (.iadd, 1) := by decide +kernel
theorem dX7_shiftOf_18 : decode cX7_shiftOf 18 = .ok (.iload_n 2, 1) := by decide +kernel
theorem dX7_shiftOf_19 : decode cX7_shiftOf 19 = .ok (.iadd, 1) := by decide +kernel
theorem dX7_shiftOf_20 : decode cX7_shiftOf 20 = .ok (.bipush 61, 2) := by decide +kernel
theorem dX7_shiftOf_22 : decode cX7_shiftOf 22 = .ok (.irem, 1) := by decide +kernel
theorem dX7_shiftOf_23 : decode cX7_shiftOf 23 = .ok (.bipush 30, 2) := by decide +kernel
theorem dX7_shiftOf_25 : decode cX7_shiftOf 25 = .ok (.isub, 1) := by decide +kernel
theorem dX7_shiftOf_26 : decode cX7_shiftOf 26 = .ok (.invokevirtual 140, 3) := by decide +kernel
theorem dX7_shiftOf_29 : decode cX7_shiftOf 29 = .ok (.ifCond .ne 9, 3) := by decide +kernel
theorem dX7_shiftOf_32 : decode cX7_shiftOf 32 = .ok (.iinc 2 1, 3) := by decide +kernel
theorem dX7_shiftOf_35 : decode cX7_shiftOf 35 = .ok (.goto (-25), 3) := by decide +kernel
theorem dX7_shiftOf_38 : decode cX7_shiftOf 38 = .ok (.iload_n 1, 1) := by decide +kernel
theorem dX7_shiftOf_39 : decode cX7_shiftOf 39 = .ok (.aload_n 0, 1) := by decide +kernel
theorem dX7_shiftOf_40 : decode cX7_shiftOf 40 = .ok (.getfield 137, 3) := by decide +kernel
theorem dX7_shiftOf_43 : decode cX7_shiftOf 43 = .ok (.iadd, 1) := by decide +kernel
theorem dX7_shiftOf_44 : decode cX7_shiftOf 44 = .ok (.iload_n 2, 1) := by decide +kernel
theorem dX7_shiftOf_45 : decode cX7_shiftOf 45 = .ok (.iadd, 1) := by decide +kernel
theorem dX7_shiftOf_46 : decode cX7_shiftOf 46 = .ok (.bipush 61, 2) := by decide +kernel
theorem dX7_shiftOf_48 : decode cX7_shiftOf 48 = .ok (.irem, 1) := by decide +kernel
theorem dX7_shiftOf_49 : decode cX7_shiftOf 49 = .ok (.bipush 30, 2) := by decide +kernel
theorem dX7_shiftOf_51 : decode cX7_shiftOf 51 = .ok (.isub, 1) := by decide +kernel
theorem dX7_shiftOf_52 : decode cX7_shiftOf 52 = .ok (.ireturn, 1) := by decide +kernel
theorem dX7_stays_0 : decode cX7_stays 0 = .ok (.iconst 0, 1) := by decide +kernel
theorem dX7_stays_1 : decode cX7_stays 1 = .ok (.istore_n 3, 1) := by decide +kernel
theorem dX7_stays_2 : decode cX7_stays 2 = .ok (.iload_n 3, 1) := by decide +kernel
theorem dX7_stays_3 : decode cX7_stays 3 = .ok (.aload_n 0, 1) := by decide +kernel
theorem dX7_stays_4 : decode cX7_stays 4 = .ok (.getfield 92, 3) := by decide +kernel
theorem dX7_stays_7 : decode cX7_stays 7 = .ok (.if_icmp .ge 114, 3) := by decide +kernel
theorem dX7_stays_10 : decode cX7_stays 10 = .ok (.iconst 0, 1) := by decide +kernel
theorem dX7_stays_11 : decode cX7_stays 11 = .ok (.istore 4, 2) := by decide +kernel
theorem dX7_stays_13 : decode cX7_stays 13 = .ok (.iload 4, 2) := by decide +kernel
theorem dX7_stays_15 : decode cX7_stays 15 = .ok (.aload_n 0, 1) := by decide +kernel
theorem dX7_stays_16 : decode cX7_stays 16 = .ok (.getfield 15, 3) := by decide +kernel
theorem dX7_stays_19 : decode cX7_stays 19 = .ok (.iload_n 3, 1) := by decide +kernel
theorem dX7_stays_20 : decode cX7_stays 20 = .ok (.iaload, 1) := by decide +kernel
theorem dX7_stays_21 : decode cX7_stays 21 = .ok (.if_icmp .ge 94, 3) := by decide +kernel
theorem dX7_stays_24 : decode cX7_stays 24 = .ok (.iconst 0, 1) := by decide +kernel
theorem dX7_stays_25 : decode cX7_stays 25 = .ok (.istore 5, 2) := by decide +kernel
theorem dX7_stays_27 : decode cX7_stays 27 = .ok (.iload 5, 2) := by decide +kernel
theorem dX7_stays_29 : decode cX7_stays 29 = .ok (.aload_n 0, 1) := by decide +kernel
theorem dX7_stays_30 : decode cX7_stays 30 = .ok (.getfield 9, 3) := by decide +kernel
theorem dX7_stays_33 : decode cX7_stays 33 = .ok (.iload_n 3, 1) := by decide +kernel
theorem dX7_stays_34 : decode cX7_stays 34 = .ok (.iaload, 1) := by decide +kernel
theorem dX7_stays_35 : decode cX7_stays 35 = .ok (.if_icmp .ge 74, 3) := by decide +kernel
theorem dX7_stays_38 : decode cX7_stays 38 = .ok (.aload_n 0, 1) := by decide +kernel
theorem dX7_stays_39 : decode cX7_stays 39 = .ok (.getfield 45, 3) := by decide +kernel
theorem dX7_stays_42 : decode cX7_stays 42 = .ok (.iload_n 3, 1) := by decide +kernel
theorem dX7_stays_43 : decode cX7_stays 43 = .ok (.iload 4, 2) := by decide +kernel
theorem dX7_stays_45 : decode cX7_stays 45 = .ok (.iload 5, 2) := by decide +kernel
theorem dX7_stays_47 : decode cX7_stays 47 = .ok (.invokestatic 127, 3) := by decide +kernel
theorem dX7_stays_50 : decode cX7_stays 50 = .ok (.iaload, 1) := by decide +kernel
theorem dX7_stays_51 : decode cX7_stays 51 = .ok (.istore 6, 2) := by decide +kernel
theorem dX7_stays_53 : decode cX7_stays 53 = .ok (.aload_n 0, 1) := by decide +kernel
theorem dX7_stays_54 : decode cX7_stays 54 = .ok (.getfield 27, 3) := by decide +kernel
theorem dX7_stays_57 : decode cX7_stays 57 = .ok (.bipush 6, 2) := by decide +kernel
theorem dX7_stays_59 : decode cX7_stays 59 = .ok (.iload_n 3, 1) := by decide +kernel
theorem dX7_stays_60 : decode cX7_stays 60 = .ok (.imul, 1) := by decide +kernel
theorem dX7_stays_61 : decode cX7_stays 61 = .ok (.iload 5, 2) := by decide +kernel
theorem dX7_stays_63 : decode cX7_stays 63 = .ok (.iadd, 1) := by decide +kernel
theorem dX7_stays_64 : decode cX7_stays 64 = .ok (.iaload, 1) := by decide +kernel
theorem dX7_stays_65 : decode cX7_stays 65 = .ok (.iconst 2, 1) := by decide +kernel
theorem dX7_stays_66 : decode cX7_stays 66 = .ok (.if_icmp .ne 37, 3) := by decide +kernel
theorem dX7_stays_69 : decode cX7_stays 69 = .ok (.iload 6, 2) := by decide +kernel
theorem dX7_stays_71 : decode cX7_stays 71 = .ok (.ldc 119, 2) := by decide +kernel
theorem dX7_stays_73 : decode cX7_stays 73 = .ok (.if_icmp .eq 30, 3) := by decide +kernel
theorem dX7_stays_76 : decode cX7_stays 76 = .ok (.aload_n 0, 1) := by decide +kernel
theorem dX7_stays_77 : decode cX7_stays 77 = .ok (.iload_n 3, 1) := by decide +kernel
theorem dX7_stays_78 : decode cX7_stays 78 = .ok (.iload 4, 2) := by decide +kernel
theorem dX7_stays_80 : decode cX7_stays 80 = .ok (.invokevirtual 143, 3) := by decide +kernel
theorem dX7_stays_83 : decode cX7_stays 83 = .ok (.iload_n 1, 1) := by decide +kernel
theorem dX7_stays_84 : decode cX7_stays 84 = .ok (.if_icmp .ne 19, 3) := by decide +kernel
theorem dX7_stays_87 : decode cX7_stays 87 = .ok (.iload 6, 2) := by decide +kernel
theorem dX7_stays_89 : decode cX7_stays 89 = .ok (.iload_n 2, 1) := by decide +kernel
theorem dX7_stays_90 : decode cX7_stays 90 = .ok (.iadd, 1) := by decide +kernel
theorem dX7_stays_91 : decode cX7_stays 91 = .ok (.iconst 0, 1) := by decide +kernel
theorem dX7_stays_92 : decode cX7_stays 92 = .ok (.sipush 9999, 3) := by decide +kernel
theorem dX7_stays_95 : decode cX7_stays 95 = .ok (.invokestatic 95, 3) := by decide +kernel
theorem dX7_stays_98 : decode cX7_stays 98 = .ok (.ifCond .ne 5, 3) := by decide +kernel
theorem dX7_stays_101 : decode cX7_stays 101 = .ok (.iconst 0, 1) := by decide +kernel
theorem dX7_stays_102 : decode cX7_stays 102 = .ok (.ireturn, 1) := by decide +kernel
theorem dX7_stays_103 : decode cX7_stays 103 = .ok (.iinc 5 1, 3) := by decide +kernel
theorem dX7_stays_106 : decode cX7_stays 106 = .ok (.goto (-79), 3) := by decide +kernel
theorem dX7_stays_109 : decode cX7_stays 109 = .ok (.iinc 4 1, 3) := by decide +kernel
theorem dX7_stays_112 : decode cX7_stays 112 = .ok (.goto (-99), 3) := by decide +kernel
theorem dX7_stays_115 : decode cX7_stays 115 = .ok (.iinc 3 1, 3) := by decide +kernel
theorem dX7_stays_118 : decode cX7_stays 118 = .ok (.goto (-116), 3) := by decide +kernel
theorem dX7_stays_121 : decode cX7_stays 121 = .ok (.iconst 1, 1) := by decide +kernel
theorem dX7_stays_122 : decode cX7_stays 122 = .ok (.ireturn, 1) := by decide +kernel
theorem dX7_coarse_0 : decode cX7_coarse 0 = .ok (.iload_n 0, 1) := by decide +kernel
theorem dX7_coarse_1 : decode cX7_coarse 1 = .ok (.iload_n 1, 1) := by decide +kernel
theorem dX7_coarse_2 : decode cX7_coarse 2 = .ok (.irem, 1) := by decide +kernel
theorem dX7_coarse_3 : decode cX7_coarse 3 = .ok (.istore_n 2, 1) := by decide +kernel
theorem dX7_coarse_4 : decode cX7_coarse 4 = .ok (.iload_n 0, 1) := by decide +kernel
theorem dX7_coarse_5 : decode cX7_coarse 5 = .ok (.iload_n 2, 1) := by decide +kernel
theorem dX7_coarse_6 : decode cX7_coarse 6 = .ok (.ifCond .ge 9, 3) := by decide +kernel
theorem dX7_coarse_9 : decode cX7_coarse 9 = .ok (.iload_n 2, 1) := by decide +kernel
theorem dX7_coarse_10 : decode cX7_coarse 10 = .ok (.iload_n 1, 1) := by decide +kernel
theorem dX7_coarse_11 : decode cX7_coarse 11 = .ok (.iadd, 1) := by decide +kernel
theorem dX7_coarse_12 : decode cX7_coarse 12 = .ok (.goto 4, 3) := by decide +kernel
theorem dX7_coarse_15 : decode cX7_coarse 15 = .ok (.iload_n 2, 1) := by decide +kernel
theorem dX7_coarse_16 : decode cX7_coarse 16 = .ok (.isub, 1) := by decide +kernel
theorem dX7_coarse_17 : decode cX7_coarse 17 = .ok (.ireturn, 1) := by decide +kernel
theorem dX7_maskedCell_0 : decode cX7_maskedCell 0 = .ok (.bipush 6, 2) := by decide +kernel
theorem dX7_maskedCell_2 : decode cX7_maskedCell 2 = .ok (.iload_n 1, 1) := by decide +kernel
theorem dX7_maskedCell_3 : decode cX7_maskedCell 3 = .ok (.imul, 1) := by decide +kernel
theorem dX7_maskedCell_4 : decode cX7_maskedCell 4 = .ok (.iload_n 3, 1) := by decide +kernel
theorem dX7_maskedCell_5 : decode cX7_maskedCell 5 = .ok (.iadd, 1) := by decide +kernel
theorem dX7_maskedCell_6 : decode cX7_maskedCell 6 = .ok (.istore 4, 2) := by decide +kernel
theorem dX7_maskedCell_8 : decode cX7_maskedCell 8 = .ok (.aload_n 0, 1) := by decide +kernel
theorem dX7_maskedCell_9 : decode cX7_maskedCell 9 = .ok (.getfield 45, 3) := by decide +kernel
theorem dX7_maskedCell_12 : decode cX7_maskedCell 12 = .ok (.iload_n 1, 1) := by decide +kernel
theorem dX7_maskedCell_13 : decode cX7_maskedCell 13 = .ok (.iload_n 2, 1) := by decide +kernel
theorem dX7_maskedCell_14 : decode cX7_maskedCell 14 = .ok (.iload_n 3, 1) := by decide +kernel
theorem dX7_maskedCell_15 : decode cX7_maskedCell 15 = .ok (.invokestatic 127, 3) := by decide +kernel
theorem dX7_maskedCell_18 : decode cX7_maskedCell 18 = .ok (.iaload, 1) := by decide +kernel
theorem dX7_maskedCell_19 : decode cX7_maskedCell 19 = .ok (.istore 5, 2) := by decide +kernel
theorem dX7_maskedCell_21 : decode cX7_maskedCell 21 = .ok (.aload_n 0, 1) := by decide +kernel
theorem dX7_maskedCell_22 : decode cX7_maskedCell 22 = .ok (.getfield 27, 3) := by decide +kernel
theorem dX7_maskedCell_25 : decode cX7_maskedCell 25 = .ok (.iload 4, 2) := by decide +kernel
theorem dX7_maskedCell_27 : decode cX7_maskedCell 27 = .ok (.iaload, 1) := by decide +kernel
theorem dX7_maskedCell_28 : decode cX7_maskedCell 28 = .ok (.iconst 4, 1) := by decide +kernel
theorem dX7_maskedCell_29 : decode cX7_maskedCell 29 = .ok (.if_icmp .ne 30, 3) := by decide +kernel
theorem dX7_maskedCell_32 : decode cX7_maskedCell 32 = .ok (.aload_n 0, 1) := by decide +kernel
theorem dX7_maskedCell_33 : decode cX7_maskedCell 33 = .ok (.getfield 45, 3) := by decide +kernel
theorem dX7_maskedCell_36 : decode cX7_maskedCell 36 = .ok (.iload_n 1, 1) := by decide +kernel
theorem dX7_maskedCell_37 : decode cX7_maskedCell 37 = .ok (.iload_n 2, 1) := by decide +kernel
theorem dX7_maskedCell_38 : decode cX7_maskedCell 38 = .ok (.aload_n 0, 1) := by decide +kernel
theorem dX7_maskedCell_39 : decode cX7_maskedCell 39 = .ok (.getfield 30, 3) := by decide +kernel
theorem dX7_maskedCell_42 : decode cX7_maskedCell 42 = .ok (.iload 4, 2) := by decide +kernel
theorem dX7_maskedCell_44 : decode cX7_maskedCell 44 = .ok (.iaload, 1) := by decide +kernel
theorem dX7_maskedCell_45 : decode cX7_maskedCell 45 = .ok (.iadd, 1) := by decide +kernel
theorem dX7_maskedCell_46 : decode cX7_maskedCell 46 = .ok (.aload_n 0, 1) := by decide +kernel
theorem dX7_maskedCell_47 : decode cX7_maskedCell 47 = .ok (.getfield 15, 3) := by decide +kernel
theorem dX7_maskedCell_50 : decode cX7_maskedCell 50 = .ok (.iload_n 1, 1) := by decide +kernel
theorem dX7_maskedCell_51 : decode cX7_maskedCell 51 = .ok (.iaload, 1) := by decide +kernel
theorem dX7_maskedCell_52 : decode cX7_maskedCell 52 = .ok (.irem, 1) := by decide +kernel
theorem dX7_maskedCell_53 : decode cX7_maskedCell 53 = .ok (.iload_n 3, 1) := by decide +kernel
theorem dX7_maskedCell_54 : decode cX7_maskedCell 54 = .ok (.invokestatic 127, 3) := by decide +kernel
theorem dX7_maskedCell_57 : decode cX7_maskedCell 57 = .ok (.iaload, 1) := by decide +kernel
theorem dX7_maskedCell_58 : decode cX7_maskedCell 58 = .ok (.ireturn, 1) := by decide +kernel
theorem dX7_maskedCell_59 : decode cX7_maskedCell 59 = .ok (.iload 5, 2) := by decide +kernel
theorem dX7_maskedCell_61 : decode cX7_maskedCell 61 = .ok (.ldc 119, 2) := by decide +kernel
theorem dX7_maskedCell_63 : decode cX7_maskedCell 63 = .ok (.if_icmp .eq 14, 3) := by decide +kernel
theorem dX7_maskedCell_66 : decode cX7_maskedCell 66 = .ok (.aload_n 0, 1) := by decide +kernel
theorem dX7_maskedCell_67 : decode cX7_maskedCell 67 = .ok (.getfield 27, 3) := by decide +kernel
theorem dX7_maskedCell_70 : decode cX7_maskedCell 70 = .ok (.iload 4, 2) := by decide +kernel
theorem dX7_maskedCell_72 : decode cX7_maskedCell 72 = .ok (.iaload, 1) := by decide +kernel
theorem dX7_maskedCell_73 : decode cX7_maskedCell 73 = .ok (.iconst 5, 1) := by decide +kernel
theorem dX7_maskedCell_74 : decode cX7_maskedCell 74 = .ok (.if_icmp .ne 6, 3) := by decide +kernel
theorem dX7_maskedCell_77 : decode cX7_maskedCell 77 = .ok (.ldc 119, 2) := by decide +kernel
theorem dX7_maskedCell_79 : decode cX7_maskedCell 79 = .ok (.ireturn, 1) := by decide +kernel
theorem dX7_maskedCell_80 : decode cX7_maskedCell 80 = .ok (.aload_n 0, 1) := by decide +kernel
theorem dX7_maskedCell_81 : decode cX7_maskedCell 81 = .ok (.getfield 21, 3) := by decide +kernel
theorem dX7_maskedCell_84 : decode cX7_maskedCell 84 = .ok (.iload 4, 2) := by decide +kernel
theorem dX7_maskedCell_86 : decode cX7_maskedCell 86 = .ok (.iaload, 1) := by decide +kernel
theorem dX7_maskedCell_87 : decode cX7_maskedCell 87 = .ok (.iconst 1, 1) := by decide +kernel
theorem dX7_maskedCell_88 : decode cX7_maskedCell 88 = .ok (.if_icmp .ne 41, 3) := by decide +kernel
theorem dX7_maskedCell_91 : decode cX7_maskedCell 91 = .ok (.aload_n 0, 1) := by decide +kernel
theorem dX7_maskedCell_92 : decode cX7_maskedCell 92 = .ok (.getfield 27, 3) := by decide +kernel
theorem dX7_maskedCell_95 : decode cX7_maskedCell 95 = .ok (.bipush 6, 2) := by decide +kernel
theorem dX7_maskedCell_97 : decode cX7_maskedCell 97 = .ok (.aload_n 0, 1) := by decide +kernel
theorem dX7_maskedCell_98 : decode cX7_maskedCell 98 = .ok (.getfield 24, 3) := by decide +kernel
theorem dX7_maskedCell_101 : decode cX7_maskedCell 101 = .ok (.iload 4, 2) := by decide +kernel
theorem dX7_maskedCell_103 : decode cX7_maskedCell 103 = .ok (.iaload, 1) := by decide +kernel
theorem dX7_maskedCell_104 : decode cX7_maskedCell 104 = .ok (.imul, 1) := by decide +kernel
theorem dX7_maskedCell_105 : decode cX7_maskedCell 105 = .ok (.iaload, 1) := by decide +kernel
theorem dX7_maskedCell_106 : decode cX7_maskedCell 106 = .ok (.iconst 1, 1) := by decide +kernel
theorem dX7_maskedCell_107 : decode cX7_maskedCell 107 = .ok (.if_icmp .ne 19, 3) := by decide +kernel
theorem dX7_maskedCell_110 : decode cX7_maskedCell 110 = .ok (.aload_n 0, 1) := by decide +kernel
theorem dX7_maskedCell_111 : decode cX7_maskedCell 111 = .ok (.aload_n 0, 1) := by decide +kernel
theorem dX7_maskedCell_112 : decode cX7_maskedCell 112 = .ok (.getfield 24, 3) := by decide +kernel
theorem dX7_maskedCell_115 : decode cX7_maskedCell 115 = .ok (.iload 4, 2) := by decide +kernel
theorem dX7_maskedCell_117 : decode cX7_maskedCell 117 = .ok (.iaload, 1) := by decide +kernel
theorem dX7_maskedCell_118 : decode cX7_maskedCell 118 = .ok (.iload 5, 2) := by decide +kernel
theorem dX7_maskedCell_120 : decode cX7_maskedCell 120 = .ok (.invokevirtual 147, 3) := by decide +kernel
theorem dX7_maskedCell_123 : decode cX7_maskedCell 123 = .ok (.goto 5, 3) := by decide +kernel
theorem dX7_maskedCell_126 : decode cX7_maskedCell 126 = .ok (.iload 5, 2) := by decide +kernel
theorem dX7_maskedCell_128 : decode cX7_maskedCell 128 = .ok (.ireturn, 1) := by decide +kernel
theorem dX7_maskedCell_129 : decode cX7_maskedCell 129 = .ok (.aload_n 0, 1) := by decide +kernel
theorem dX7_maskedCell_130 : decode cX7_maskedCell 130 = .ok (.getfield 27, 3) := by decide +kernel
theorem dX7_maskedCell_133 : decode cX7_maskedCell 133 = .ok (.iload 4, 2) := by decide +kernel
theorem dX7_maskedCell_135 : decode cX7_maskedCell 135 = .ok (.iaload, 1) := by decide +kernel
theorem dX7_maskedCell_136 : decode cX7_maskedCell 136 = .ok (.tableswitch 84 1 3 #[28, 57, 71], 28) := by decide +kernel
theorem dX7_maskedCell_164 : decode cX7_maskedCell 164 = .ok (.aload_n 0, 1) := by decide +kernel
theorem dX7_maskedCell_165 : decode cX7_maskedCell 165 = .ok (.getfield 21, 3) := by decide +kernel
theorem dX7_maskedCell_168 : decode cX7_maskedCell 168 = .ok (.iload 4, 2) := by decide +kernel
theorem dX7_maskedCell_170 : decode cX7_maskedCell 170 = .ok (.iaload, 1) := by decide +kernel
theorem dX7_maskedCell_171 : decode cX7_maskedCell 171 = .ok (.ifCond .ne 13, 3) := by decide +kernel
theorem dX7_maskedCell_174 : decode cX7_maskedCell 174 = .ok (.aload_n 0, 1) := by decide +kernel
theorem dX7_maskedCell_175 : decode cX7_maskedCell 175 = .ok (.iload_n 1, 1) := by decide +kernel
theorem dX7_maskedCell_176 : decode cX7_maskedCell 176 = .ok (.iload 5, 2) := by decide +kernel
theorem dX7_maskedCell_178 : decode cX7_maskedCell 178 = .ok (.invokevirtual 147, 3) := by decide +kernel
theorem dX7_maskedCell_181 : decode cX7_maskedCell 181 = .ok (.goto 11, 3) := by decide +kernel
theorem dX7_maskedCell_184 : decode cX7_maskedCell 184 = .ok (.aload_n 0, 1) := by decide +kernel
theorem dX7_maskedCell_185 : decode cX7_maskedCell 185 = .ok (.iload 4, 2) := by decide +kernel
theorem dX7_maskedCell_187 : decode cX7_maskedCell 187 = .ok (.iload 5, 2) := by decide +kernel
theorem dX7_maskedCell_189 : decode cX7_maskedCell 189 = .ok (.invokevirtual 150, 3) := by decide +kernel
theorem dX7_maskedCell_192 : decode cX7_maskedCell 192 = .ok (.ireturn, 1) := by decide +kernel
theorem dX7_maskedCell_193 : decode cX7_maskedCell 193 = .ok (.iload 5, 2) := by decide +kernel
theorem dX7_maskedCell_195 : decode cX7_maskedCell 195 = .ok (.aload_n 0, 1) := by decide +kernel
theorem dX7_maskedCell_196 : decode cX7_maskedCell 196 = .ok (.aload_n 0, 1) := by decide +kernel
theorem dX7_maskedCell_197 : decode cX7_maskedCell 197 = .ok (.iload_n 1, 1) := by decide +kernel
theorem dX7_maskedCell_198 : decode cX7_maskedCell 198 = .ok (.iload_n 2, 1) := by decide +kernel
theorem dX7_maskedCell_199 : decode cX7_maskedCell 199 = .ok (.invokevirtual 143, 3) := by decide +kernel
theorem dX7_maskedCell_202 : decode cX7_maskedCell 202 = .ok (.invokevirtual 153, 3) := by decide +kernel
theorem dX7_maskedCell_205 : decode cX7_maskedCell 205 = .ok (.iadd, 1) := by decide +kernel
theorem dX7_maskedCell_206 : decode cX7_maskedCell 206 = .ok (.ireturn, 1) := by decide +kernel
theorem dX7_maskedCell_207 : decode cX7_maskedCell 207 = .ok (.iload 5, 2) := by decide +kernel
theorem dX7_maskedCell_209 : decode cX7_maskedCell 209 = .ok (.aload_n 0, 1) := by decide +kernel
theorem dX7_maskedCell_210 : decode cX7_maskedCell 210 = .ok (.getfield 30, 3) := by decide +kernel
theorem dX7_maskedCell_213 : decode cX7_maskedCell 213 = .ok (.iload 4, 2) := by decide +kernel
theorem dX7_maskedCell_215 : decode cX7_maskedCell 215 = .ok (.iaload, 1) := by decide +kernel
theorem dX7_maskedCell_216 : decode cX7_maskedCell 216 = .ok (.invokestatic 156, 3) := by decide +kernel
theorem dX7_maskedCell_219 : decode cX7_maskedCell 219 = .ok (.ireturn, 1) := by decide +kernel
theorem dX7_maskedCell_220 : decode cX7_maskedCell 220 = .ok (.iload 5, 2) := by decide +kernel
theorem dX7_maskedCell_222 : decode cX7_maskedCell 222 = .ok (.ireturn, 1) := by decide +kernel
theorem dX7_maskTable_0 : decode cX7_maskTable 0 = .ok (.iconst 0, 1) := by decide +kernel
theorem dX7_maskTable_1 : decode cX7_maskTable 1 = .ok (.istore_n 2, 1) := by decide +kernel
theorem dX7_maskTable_2 : decode cX7_maskTable 2 = .ok (.iload_n 2, 1) := by decide +kernel
theorem dX7_maskTable_3 : decode cX7_maskTable 3 = .ok (.aload_n 0, 1) := by decide +kernel
theorem dX7_maskTable_4 : decode cX7_maskTable 4 = .ok (.getfield 15, 3) := by decide +kernel
theorem dX7_maskTable_7 : decode cX7_maskTable 7 = .ok (.iload_n 1, 1) := by decide +kernel
theorem dX7_maskTable_8 : decode cX7_maskTable 8 = .ok (.iaload, 1) := by decide +kernel
theorem dX7_maskTable_9 : decode cX7_maskTable 9 = .ok (.if_icmp .ge 45, 3) := by decide +kernel
theorem dX7_maskTable_12 : decode cX7_maskTable 12 = .ok (.iconst 0, 1) := by decide +kernel
theorem dX7_maskTable_13 : decode cX7_maskTable 13 = .ok (.istore_n 3, 1) := by decide +kernel
theorem dX7_maskTable_14 : decode cX7_maskTable 14 = .ok (.iload_n 3, 1) := by decide +kernel
theorem dX7_maskTable_15 : decode cX7_maskTable 15 = .ok (.aload_n 0, 1) := by decide +kernel
theorem dX7_maskTable_16 : decode cX7_maskTable 16 = .ok (.getfield 9, 3) := by decide +kernel
theorem dX7_maskTable_19 : decode cX7_maskTable 19 = .ok (.iload_n 1, 1) := by decide +kernel
theorem dX7_maskTable_20 : decode cX7_maskTable 20 = .ok (.iaload, 1) := by decide +kernel
theorem dX7_maskTable_21 : decode cX7_maskTable 21 = .ok (.if_icmp .ge 27, 3) := by decide +kernel
theorem dX7_maskTable_24 : decode cX7_maskTable 24 = .ok (.aload_n 0, 1) := by decide +kernel
theorem dX7_maskTable_25 : decode cX7_maskTable 25 = .ok (.getfield 51, 3) := by decide +kernel
theorem dX7_maskTable_28 : decode cX7_maskTable 28 = .ok (.iload_n 1, 1) := by decide +kernel
theorem dX7_maskTable_29 : decode cX7_maskTable 29 = .ok (.iload_n 2, 1) := by decide +kernel
theorem dX7_maskTable_30 : decode cX7_maskTable 30 = .ok (.iload_n 3, 1) := by decide +kernel
theorem dX7_maskTable_31 : decode cX7_maskTable 31 = .ok (.invokestatic 127, 3) := by decide +kernel
theorem dX7_maskTable_34 : decode cX7_maskTable 34 = .ok (.aload_n 0, 1) := by decide +kernel
theorem dX7_maskTable_35 : decode cX7_maskTable 35 = .ok (.iload_n 1, 1) := by decide +kernel
theorem dX7_maskTable_36 : decode cX7_maskTable 36 = .ok (.iload_n 2, 1) := by decide +kernel
theorem dX7_maskTable_37 : decode cX7_maskTable 37 = .ok (.iload_n 3, 1) := by decide +kernel
theorem dX7_maskTable_38 : decode cX7_maskTable 38 = .ok (.invokevirtual 159, 3) := by decide +kernel
theorem dX7_maskTable_41 : decode cX7_maskTable 41 = .ok (.iastore, 1) := by decide +kernel
theorem dX7_maskTable_42 : decode cX7_maskTable 42 = .ok (.iinc 3 1, 3) := by decide +kernel
theorem dX7_maskTable_45 : decode cX7_maskTable 45 = .ok (.goto (-31), 3) := by decide +kernel
theorem dX7_maskTable_48 : decode cX7_maskTable 48 = .ok (.iinc 2 1, 3) := by decide +kernel
theorem dX7_maskTable_51 : decode cX7_maskTable 51 = .ok (.goto (-49), 3) := by decide +kernel
theorem dX7_maskTable_54 : decode cX7_maskTable 54 = .ok (.return_, 1) := by decide +kernel
theorem dX7_rule_0 : decode cX7_rule 0 = .ok (.aload_n 0, 1) := by decide +kernel
theorem dX7_rule_1 : decode cX7_rule 1 = .ok (.getfield 57, 3) := by decide +kernel
theorem dX7_rule_4 : decode cX7_rule 4 = .ok (.aload_n 0, 1) := by decide +kernel
theorem dX7_rule_5 : decode cX7_rule 5 = .ok (.getfield 162, 3) := by decide +kernel
theorem dX7_rule_8 : decode cX7_rule 8 = .ok (.iload_n 1, 1) := by decide +kernel
theorem dX7_rule_9 : decode cX7_rule 9 = .ok (.iastore, 1) := by decide +kernel
theorem dX7_rule_10 : decode cX7_rule 10 = .ok (.aload_n 0, 1) := by decide +kernel
theorem dX7_rule_11 : decode cX7_rule 11 = .ok (.getfield 60, 3) := by decide +kernel
theorem dX7_rule_14 : decode cX7_rule 14 = .ok (.aload_n 0, 1) := by decide +kernel
theorem dX7_rule_15 : decode cX7_rule 15 = .ok (.getfield 162, 3) := by decide +kernel
theorem dX7_rule_18 : decode cX7_rule 18 = .ok (.iload_n 2, 1) := by decide +kernel
theorem dX7_rule_19 : decode cX7_rule 19 = .ok (.iastore, 1) := by decide +kernel
theorem dX7_rule_20 : decode cX7_rule 20 = .ok (.aload_n 0, 1) := by decide +kernel
theorem dX7_rule_21 : decode cX7_rule 21 = .ok (.getfield 63, 3) := by decide +kernel
theorem dX7_rule_24 : decode cX7_rule 24 = .ok (.aload_n 0, 1) := by decide +kernel
theorem dX7_rule_25 : decode cX7_rule 25 = .ok (.getfield 162, 3) := by decide +kernel
theorem dX7_rule_28 : decode cX7_rule 28 = .ok (.iload_n 3, 1) := by decide +kernel
theorem dX7_rule_29 : decode cX7_rule 29 = .ok (.iastore, 1) := by decide +kernel
theorem dX7_rule_30 : decode cX7_rule 30 = .ok (.aload_n 0, 1) := by decide +kernel
theorem dX7_rule_31 : decode cX7_rule 31 = .ok (.getfield 66, 3) := by decide +kernel
theorem dX7_rule_34 : decode cX7_rule 34 = .ok (.aload_n 0, 1) := by decide +kernel
theorem dX7_rule_35 : decode cX7_rule 35 = .ok (.getfield 162, 3) := by decide +kernel
theorem dX7_rule_38 : decode cX7_rule 38 = .ok (.iload 4, 2) := by decide +kernel
theorem dX7_rule_40 : decode cX7_rule 40 = .ok (.iastore, 1) := by decide +kernel
theorem dX7_rule_41 : decode cX7_rule 41 = .ok (.aload_n 0, 1) := by decide +kernel
theorem dX7_rule_42 : decode cX7_rule 42 = .ok (.getfield 75, 3) := by decide +kernel
theorem dX7_rule_45 : decode cX7_rule 45 = .ok (.aload_n 0, 1) := by decide +kernel
theorem dX7_rule_46 : decode cX7_rule 46 = .ok (.getfield 162, 3) := by decide +kernel
theorem dX7_rule_49 : decode cX7_rule 49 = .ok (.iconst 0, 1) := by decide +kernel
theorem dX7_rule_50 : decode cX7_rule 50 = .ok (.bastore, 1) := by decide +kernel
theorem dX7_rule_51 : decode cX7_rule 51 = .ok (.aload_n 0, 1) := by decide +kernel
theorem dX7_rule_52 : decode cX7_rule 52 = .ok (.dup, 1) := by decide +kernel
theorem dX7_rule_53 : decode cX7_rule 53 = .ok (.getfield 162, 3) := by decide +kernel
theorem dX7_rule_56 : decode cX7_rule 56 = .ok (.iconst 1, 1) := by decide +kernel
theorem dX7_rule_57 : decode cX7_rule 57 = .ok (.iadd, 1) := by decide +kernel
theorem dX7_rule_58 : decode cX7_rule 58 = .ok (.putfield 162, 3) := by decide +kernel
theorem dX7_rule_61 : decode cX7_rule 61 = .ok (.aload_n 0, 1) := by decide +kernel
theorem dX7_rule_62 : decode cX7_rule 62 = .ok (.getfield 162, 3) := by decide +kernel
theorem dX7_rule_65 : decode cX7_rule 65 = .ok (.iconst 1, 1) := by decide +kernel
theorem dX7_rule_66 : decode cX7_rule 66 = .ok (.isub, 1) := by decide +kernel
theorem dX7_rule_67 : decode cX7_rule 67 = .ok (.ireturn, 1) := by decide +kernel
theorem dX7_order_0 : decode cX7_order 0 = .ok (.aload_n 0, 1) := by decide +kernel
theorem dX7_order_1 : decode cX7_order 1 = .ok (.iload_n 1, 1) := by decide +kernel
theorem dX7_order_2 : decode cX7_order 2 = .ok (.iload_n 2, 1) := by decide +kernel
theorem dX7_order_3 : decode cX7_order 3 = .ok (.invokevirtual 131, 3) := by decide +kernel
theorem dX7_order_6 : decode cX7_order 6 = .ok (.ifCond .eq 12, 3) := by decide +kernel
theorem dX7_order_9 : decode cX7_order 9 = .ok (.aload_n 0, 1) := by decide +kernel
theorem dX7_order_10 : decode cX7_order 10 = .ok (.iload_n 1, 1) := by decide +kernel
theorem dX7_order_11 : decode cX7_order 11 = .ok (.iload_n 3, 1) := by decide +kernel
theorem dX7_order_12 : decode cX7_order 12 = .ok (.invokevirtual 131, 3) := by decide +kernel
theorem dX7_order_15 : decode cX7_order 15 = .ok (.ifCond .ne 5, 3) := by decide +kernel
theorem dX7_order_18 : decode cX7_order 18 = .ok (.iconst (-1), 1) := by decide +kernel
theorem dX7_order_19 : decode cX7_order 19 = .ok (.ireturn, 1) := by decide +kernel
theorem dX7_order_20 : decode cX7_order 20 = .ok (.iload_n 2, 1) := by decide +kernel
theorem dX7_order_21 : decode cX7_order 21 = .ok (.iload_n 3, 1) := by decide +kernel
theorem dX7_order_22 : decode cX7_order 22 = .ok (.if_icmp .eq 33, 3) := by decide +kernel
theorem dX7_order_25 : decode cX7_order 25 = .ok (.aload_n 0, 1) := by decide +kernel
theorem dX7_order_26 : decode cX7_order 26 = .ok (.getfield 21, 3) := by decide +kernel
theorem dX7_order_29 : decode cX7_order 29 = .ok (.bipush 6, 2) := by decide +kernel
theorem dX7_order_31 : decode cX7_order 31 = .ok (.iload_n 1, 1) := by decide +kernel
theorem dX7_order_32 : decode cX7_order 32 = .ok (.imul, 1) := by decide +kernel
theorem dX7_order_33 : decode cX7_order 33 = .ok (.iload_n 2, 1) := by decide +kernel
theorem dX7_order_34 : decode cX7_order 34 = .ok (.iadd, 1) := by decide +kernel
theorem dX7_order_35 : decode cX7_order 35 = .ok (.iaload, 1) := by decide +kernel
theorem dX7_order_36 : decode cX7_order 36 = .ok (.iconst 2, 1) := by decide +kernel
theorem dX7_order_37 : decode cX7_order 37 = .ok (.if_icmp .ne 18, 3) := by decide +kernel
theorem dX7_order_40 : decode cX7_order 40 = .ok (.aload_n 0, 1) := by decide +kernel
theorem dX7_order_41 : decode cX7_order 41 = .ok (.getfield 21, 3) := by decide +kernel
theorem dX7_order_44 : decode cX7_order 44 = .ok (.bipush 6, 2) := by decide +kernel
theorem dX7_order_46 : decode cX7_order 46 = .ok (.iload_n 1, 1) := by decide +kernel
theorem dX7_order_47 : decode cX7_order 47 = .ok (.imul, 1) := by decide +kernel
theorem dX7_order_48 : decode cX7_order 48 = .ok (.iload_n 3, 1) := by decide +kernel
theorem dX7_order_49 : decode cX7_order 49 = .ok (.iadd, 1) := by decide +kernel
theorem dX7_order_50 : decode cX7_order 50 = .ok (.iaload, 1) := by decide +kernel
theorem dX7_order_51 : decode cX7_order 51 = .ok (.iconst 2, 1) := by decide +kernel
theorem dX7_order_52 : decode cX7_order 52 = .ok (.if_icmp .eq 6, 3) := by decide +kernel
theorem dX7_order_55 : decode cX7_order 55 = .ok (.bipush (-2), 2) := by decide +kernel
theorem dX7_order_57 : decode cX7_order 57 = .ok (.ireturn, 1) := by decide +kernel
theorem dX7_order_58 : decode cX7_order 58 = .ok (.aload_n 0, 1) := by decide +kernel
theorem dX7_order_59 : decode cX7_order 59 = .ok (.getfield 162, 3) := by decide +kernel
theorem dX7_order_62 : decode cX7_order 62 = .ok (.bipush 8, 2) := by decide +kernel
theorem dX7_order_64 : decode cX7_order 64 = .ok (.if_icmp .ne 8, 3) := by decide +kernel
theorem dX7_order_67 : decode cX7_order 67 = .ok (.bipush (-4), 2) := by decide +kernel
theorem dX7_order_69 : decode cX7_order 69 = .ok (.goto 11, 3) := by decide +kernel
theorem dX7_order_72 : decode cX7_order 72 = .ok (.aload_n 0, 1) := by decide +kernel
theorem dX7_order_73 : decode cX7_order 73 = .ok (.iconst 0, 1) := by decide +kernel
theorem dX7_order_74 : decode cX7_order 74 = .ok (.iload_n 1, 1) := by decide +kernel
theorem dX7_order_75 : decode cX7_order 75 = .ok (.iload_n 2, 1) := by decide +kernel
theorem dX7_order_76 : decode cX7_order 76 = .ok (.iload_n 3, 1) := by decide +kernel
theorem dX7_order_77 : decode cX7_order 77 = .ok (.invokevirtual 165, 3) := by decide +kernel
theorem dX7_order_80 : decode cX7_order 80 = .ok (.ireturn, 1) := by decide +kernel
theorem dX7_agree_0 : decode cX7_agree 0 = .ok (.aload_n 0, 1) := by decide +kernel
theorem dX7_agree_1 : decode cX7_agree 1 = .ok (.iload_n 1, 1) := by decide +kernel
theorem dX7_agree_2 : decode cX7_agree 2 = .ok (.iload_n 2, 1) := by decide +kernel
theorem dX7_agree_3 : decode cX7_agree 3 = .ok (.invokevirtual 131, 3) := by decide +kernel
theorem dX7_agree_6 : decode cX7_agree 6 = .ok (.ifCond .eq 23, 3) := by decide +kernel
theorem dX7_agree_9 : decode cX7_agree 9 = .ok (.aload_n 0, 1) := by decide +kernel
theorem dX7_agree_10 : decode cX7_agree 10 = .ok (.iload_n 3, 1) := by decide +kernel
theorem dX7_agree_11 : decode cX7_agree 11 = .ok (.iload 4, 2) := by decide +kernel
theorem dX7_agree_13 : decode cX7_agree 13 = .ok (.invokevirtual 131, 3) := by decide +kernel
theorem dX7_agree_16 : decode cX7_agree 16 = .ok (.ifCond .eq 13, 3) := by decide +kernel
theorem dX7_agree_19 : decode cX7_agree 19 = .ok (.aload_n 0, 1) := by decide +kernel
theorem dX7_agree_20 : decode cX7_agree 20 = .ok (.iload_n 3, 1) := by decide +kernel
theorem dX7_agree_21 : decode cX7_agree 21 = .ok (.iload 5, 2) := by decide +kernel
theorem dX7_agree_23 : decode cX7_agree 23 = .ok (.invokevirtual 131, 3) := by decide +kernel
theorem dX7_agree_26 : decode cX7_agree 26 = .ok (.ifCond .ne 5, 3) := by decide +kernel
theorem dX7_agree_29 : decode cX7_agree 29 = .ok (.iconst (-1), 1) := by decide +kernel
theorem dX7_agree_30 : decode cX7_agree 30 = .ok (.ireturn, 1) := by decide +kernel
theorem dX7_agree_31 : decode cX7_agree 31 = .ok (.iload_n 1, 1) := by decide +kernel
theorem dX7_agree_32 : decode cX7_agree 32 = .ok (.iload_n 3, 1) := by decide +kernel
theorem dX7_agree_33 : decode cX7_agree 33 = .ok (.if_icmp .eq 76, 3) := by decide +kernel
theorem dX7_agree_36 : decode cX7_agree 36 = .ok (.aload_n 0, 1) := by decide +kernel
theorem dX7_agree_37 : decode cX7_agree 37 = .ok (.getfield 21, 3) := by decide +kernel
theorem dX7_agree_40 : decode cX7_agree 40 = .ok (.bipush 6, 2) := by decide +kernel
theorem dX7_agree_42 : decode cX7_agree 42 = .ok (.iload_n 1, 1) := by decide +kernel
theorem dX7_agree_43 : decode cX7_agree 43 = .ok (.imul, 1) := by decide +kernel
theorem dX7_agree_44 : decode cX7_agree 44 = .ok (.iload_n 2, 1) := by decide +kernel
theorem dX7_agree_45 : decode cX7_agree 45 = .ok (.iadd, 1) := by decide +kernel
theorem dX7_agree_46 : decode cX7_agree 46 = .ok (.iaload, 1) := by decide +kernel
theorem dX7_agree_47 : decode cX7_agree 47 = .ok (.iconst 3, 1) := by decide +kernel
theorem dX7_agree_48 : decode cX7_agree 48 = .ok (.if_icmp .ne 61, 3) := by decide +kernel
theorem dX7_agree_51 : decode cX7_agree 51 = .ok (.aload_n 0, 1) := by decide +kernel
theorem dX7_agree_52 : decode cX7_agree 52 = .ok (.getfield 21, 3) := by decide +kernel
theorem dX7_agree_55 : decode cX7_agree 55 = .ok (.bipush 6, 2) := by decide +kernel
theorem dX7_agree_57 : decode cX7_agree 57 = .ok (.iload_n 3, 1) := by decide +kernel
theorem dX7_agree_58 : decode cX7_agree 58 = .ok (.imul, 1) := by decide +kernel
theorem dX7_agree_59 : decode cX7_agree 59 = .ok (.iload 4, 2) := by decide +kernel
theorem dX7_agree_61 : decode cX7_agree 61 = .ok (.iadd, 1) := by decide +kernel
theorem dX7_agree_62 : decode cX7_agree 62 = .ok (.iaload, 1) := by decide +kernel
theorem dX7_agree_63 : decode cX7_agree 63 = .ok (.iconst 3, 1) := by decide +kernel
theorem dX7_agree_64 : decode cX7_agree 64 = .ok (.if_icmp .ne 45, 3) := by decide +kernel
theorem dX7_agree_67 : decode cX7_agree 67 = .ok (.aload_n 0, 1) := by decide +kernel
theorem dX7_agree_68 : decode cX7_agree 68 = .ok (.getfield 21, 3) := by decide +kernel
theorem dX7_agree_71 : decode cX7_agree 71 = .ok (.bipush 6, 2) := by decide +kernel
theorem dX7_agree_73 : decode cX7_agree 73 = .ok (.iload_n 3, 1) := by decide +kernel
theorem dX7_agree_74 : decode cX7_agree 74 = .ok (.imul, 1) := by decide +kernel
theorem dX7_agree_75 : decode cX7_agree 75 = .ok (.iload 5, 2) := by decide +kernel
theorem dX7_agree_77 : decode cX7_agree 77 = .ok (.iadd, 1) := by decide +kernel
theorem dX7_agree_78 : decode cX7_agree 78 = .ok (.iaload, 1) := by decide +kernel
theorem dX7_agree_79 : decode cX7_agree 79 = .ok (.iconst 1, 1) := by decide +kernel
theorem dX7_agree_80 : decode cX7_agree 80 = .ok (.if_icmp .ne 29, 3) := by decide +kernel
theorem dX7_agree_83 : decode cX7_agree 83 = .ok (.aload_n 0, 1) := by decide +kernel
theorem dX7_agree_84 : decode cX7_agree 84 = .ok (.getfield 24, 3) := by decide +kernel
theorem dX7_agree_87 : decode cX7_agree 87 = .ok (.bipush 6, 2) := by decide +kernel
theorem dX7_agree_89 : decode cX7_agree 89 = .ok (.iload_n 3, 1) := by decide +kernel
theorem dX7_agree_90 : decode cX7_agree 90 = .ok (.imul, 1) := by decide +kernel
theorem dX7_agree_91 : decode cX7_agree 91 = .ok (.iload 5, 2) := by decide +kernel
theorem dX7_agree_93 : decode cX7_agree 93 = .ok (.iadd, 1) := by decide +kernel
theorem dX7_agree_94 : decode cX7_agree 94 = .ok (.iaload, 1) := by decide +kernel
theorem dX7_agree_95 : decode cX7_agree 95 = .ok (.iload_n 1, 1) := by decide +kernel
theorem dX7_agree_96 : decode cX7_agree 96 = .ok (.if_icmp .ne 13, 3) := by decide +kernel
theorem dX7_agree_99 : decode cX7_agree 99 = .ok (.iload 6, 2) := by decide +kernel
theorem dX7_agree_101 : decode cX7_agree 101 = .ok (.iconst 0, 1) := by decide +kernel
theorem dX7_agree_102 : decode cX7_agree 102 = .ok (.iconst 1, 1) := by decide +kernel
theorem dX7_agree_103 : decode cX7_agree 103 = .ok (.invokestatic 95, 3) := by decide +kernel
theorem dX7_agree_106 : decode cX7_agree 106 = .ok (.ifCond .ne 6, 3) := by decide +kernel
theorem dX7_agree_109 : decode cX7_agree 109 = .ok (.bipush (-2), 2) := by decide +kernel
theorem dX7_agree_111 : decode cX7_agree 111 = .ok (.ireturn, 1) := by decide +kernel
theorem dX7_agree_112 : decode cX7_agree 112 = .ok (.aload_n 0, 1) := by decide +kernel
theorem dX7_agree_113 : decode cX7_agree 113 = .ok (.getfield 162, 3) := by decide +kernel
theorem dX7_agree_116 : decode cX7_agree 116 = .ok (.bipush 8, 2) := by decide +kernel
theorem dX7_agree_118 : decode cX7_agree 118 = .ok (.if_icmp .ne 6, 3) := by decide +kernel
theorem dX7_agree_121 : decode cX7_agree 121 = .ok (.bipush (-4), 2) := by decide +kernel
theorem dX7_agree_123 : decode cX7_agree 123 = .ok (.ireturn, 1) := by decide +kernel
theorem dX7_agree_124 : decode cX7_agree 124 = .ok (.aload_n 0, 1) := by decide +kernel
theorem dX7_agree_125 : decode cX7_agree 125 = .ok (.iconst 1, 1) := by decide +kernel
theorem dX7_agree_126 : decode cX7_agree 126 = .ok (.iload_n 1, 1) := by decide +kernel
theorem dX7_agree_127 : decode cX7_agree 127 = .ok (.iload_n 2, 1) := by decide +kernel
theorem dX7_agree_128 : decode cX7_agree 128 = .ok (.iload 4, 2) := by decide +kernel
theorem dX7_agree_130 : decode cX7_agree 130 = .ok (.invokevirtual 165, 3) := by decide +kernel
theorem dX7_agree_133 : decode cX7_agree 133 = .ok (.istore 7, 2) := by decide +kernel
theorem dX7_agree_135 : decode cX7_agree 135 = .ok (.aload_n 0, 1) := by decide +kernel
theorem dX7_agree_136 : decode cX7_agree 136 = .ok (.getfield 69, 3) := by decide +kernel
theorem dX7_agree_139 : decode cX7_agree 139 = .ok (.iload 7, 2) := by decide +kernel
theorem dX7_agree_141 : decode cX7_agree 141 = .ok (.iload_n 3, 1) := by decide +kernel
theorem dX7_agree_142 : decode cX7_agree 142 = .ok (.iastore, 1) := by decide +kernel
theorem dX7_agree_143 : decode cX7_agree 143 = .ok (.aload_n 0, 1) := by decide +kernel
theorem dX7_agree_144 : decode cX7_agree 144 = .ok (.getfield 72, 3) := by decide +kernel
theorem dX7_agree_147 : decode cX7_agree 147 = .ok (.iload 7, 2) := by decide +kernel
theorem dX7_agree_149 : decode cX7_agree 149 = .ok (.iload 5, 2) := by decide +kernel
theorem dX7_agree_151 : decode cX7_agree 151 = .ok (.iastore, 1) := by decide +kernel
theorem dX7_agree_152 : decode cX7_agree 152 = .ok (.aload_n 0, 1) := by decide +kernel
theorem dX7_agree_153 : decode cX7_agree 153 = .ok (.getfield 75, 3) := by decide +kernel
theorem dX7_agree_156 : decode cX7_agree 156 = .ok (.iload 7, 2) := by decide +kernel
theorem dX7_agree_158 : decode cX7_agree 158 = .ok (.iload 6, 2) := by decide +kernel
theorem dX7_agree_160 : decode cX7_agree 160 = .ok (.iconst 1, 1) := by decide +kernel
theorem dX7_agree_161 : decode cX7_agree 161 = .ok (.if_icmp .ne 7, 3) := by decide +kernel
theorem dX7_agree_164 : decode cX7_agree 164 = .ok (.iconst 1, 1) := by decide +kernel
theorem dX7_agree_165 : decode cX7_agree 165 = .ok (.goto 4, 3) := by decide +kernel
theorem dX7_agree_168 : decode cX7_agree 168 = .ok (.iconst 0, 1) := by decide +kernel
theorem dX7_agree_169 : decode cX7_agree 169 = .ok (.bastore, 1) := by decide +kernel
theorem dX7_agree_170 : decode cX7_agree 170 = .ok (.iload 7, 2) := by decide +kernel
theorem dX7_agree_172 : decode cX7_agree 172 = .ok (.ireturn, 1) := by decide +kernel
theorem dX7_found_0 : decode cX7_found 0 = .ok (.aload_n 0, 1) := by decide +kernel
theorem dX7_found_1 : decode cX7_found 1 = .ok (.iload_n 1, 1) := by decide +kernel
theorem dX7_found_2 : decode cX7_found 2 = .ok (.iload_n 2, 1) := by decide +kernel
theorem dX7_found_3 : decode cX7_found 3 = .ok (.invokevirtual 131, 3) := by decide +kernel
theorem dX7_found_6 : decode cX7_found 6 = .ok (.ifCond .ne 5, 3) := by decide +kernel
theorem dX7_found_9 : decode cX7_found 9 = .ok (.iconst (-1), 1) := by decide +kernel
theorem dX7_found_10 : decode cX7_found 10 = .ok (.ireturn, 1) := by decide +kernel
theorem dX7_found_11 : decode cX7_found 11 = .ok (.aload_n 0, 1) := by decide +kernel
theorem dX7_found_12 : decode cX7_found 12 = .ok (.getfield 21, 3) := by decide +kernel
theorem dX7_found_15 : decode cX7_found 15 = .ok (.bipush 6, 2) := by decide +kernel
theorem dX7_found_17 : decode cX7_found 17 = .ok (.iload_n 1, 1) := by decide +kernel
theorem dX7_found_18 : decode cX7_found 18 = .ok (.imul, 1) := by decide +kernel
theorem dX7_found_19 : decode cX7_found 19 = .ok (.iload_n 2, 1) := by decide +kernel
theorem dX7_found_20 : decode cX7_found 20 = .ok (.iadd, 1) := by decide +kernel
theorem dX7_found_21 : decode cX7_found 21 = .ok (.iaload, 1) := by decide +kernel
theorem dX7_found_22 : decode cX7_found 22 = .ok (.iconst 1, 1) := by decide +kernel
theorem dX7_found_23 : decode cX7_found 23 = .ok (.if_icmp .eq 6, 3) := by decide +kernel
theorem dX7_found_26 : decode cX7_found 26 = .ok (.bipush (-2), 2) := by decide +kernel
theorem dX7_found_28 : decode cX7_found 28 = .ok (.ireturn, 1) := by decide +kernel
theorem dX7_found_29 : decode cX7_found 29 = .ok (.aload_n 0, 1) := by decide +kernel
theorem dX7_found_30 : decode cX7_found 30 = .ok (.getfield 162, 3) := by decide +kernel
theorem dX7_found_33 : decode cX7_found 33 = .ok (.bipush 8, 2) := by decide +kernel
theorem dX7_found_35 : decode cX7_found 35 = .ok (.if_icmp .ne 8, 3) := by decide +kernel
theorem dX7_found_38 : decode cX7_found 38 = .ok (.bipush (-4), 2) := by decide +kernel
theorem dX7_found_40 : decode cX7_found 40 = .ok (.goto 11, 3) := by decide +kernel
theorem dX7_found_43 : decode cX7_found 43 = .ok (.aload_n 0, 1) := by decide +kernel
theorem dX7_found_44 : decode cX7_found 44 = .ok (.iconst 2, 1) := by decide +kernel
theorem dX7_found_45 : decode cX7_found 45 = .ok (.iload_n 1, 1) := by decide +kernel
theorem dX7_found_46 : decode cX7_found 46 = .ok (.iload_n 2, 1) := by decide +kernel
theorem dX7_found_47 : decode cX7_found 47 = .ok (.iconst 0, 1) := by decide +kernel
theorem dX7_found_48 : decode cX7_found 48 = .ok (.invokevirtual 165, 3) := by decide +kernel
theorem dX7_found_51 : decode cX7_found 51 = .ok (.ireturn, 1) := by decide +kernel
theorem dX7_unrule_0 : decode cX7_unrule 0 = .ok (.aload_n 0, 1) := by decide +kernel
theorem dX7_unrule_1 : decode cX7_unrule 1 = .ok (.getfield 162, 3) := by decide +kernel
theorem dX7_unrule_4 : decode cX7_unrule 4 = .ok (.istore_n 1, 1) := by decide +kernel
theorem dX7_unrule_5 : decode cX7_unrule 5 = .ok (.aload_n 0, 1) := by decide +kernel
theorem dX7_unrule_6 : decode cX7_unrule 6 = .ok (.iconst 0, 1) := by decide +kernel
theorem dX7_unrule_7 : decode cX7_unrule 7 = .ok (.putfield 162, 3) := by decide +kernel
theorem dX7_unrule_10 : decode cX7_unrule 10 = .ok (.iload_n 1, 1) := by decide +kernel
theorem dX7_unrule_11 : decode cX7_unrule 11 = .ok (.ireturn, 1) := by decide +kernel
theorem dX7_sumFor_0 : decode cX7_sumFor 0 = .ok (.iconst 0, 1) := by decide +kernel
theorem dX7_sumFor_1 : decode cX7_sumFor 1 = .ok (.istore_n 3, 1) := by decide +kernel
theorem dX7_sumFor_2 : decode cX7_sumFor 2 = .ok (.aload_n 0, 1) := by decide +kernel
theorem dX7_sumFor_3 : decode cX7_sumFor 3 = .ok (.getfield 69, 3) := by decide +kernel
theorem dX7_sumFor_6 : decode cX7_sumFor 6 = .ok (.iload_n 1, 1) := by decide +kernel
theorem dX7_sumFor_7 : decode cX7_sumFor 7 = .ok (.iaload, 1) := by decide +kernel
theorem dX7_sumFor_8 : decode cX7_sumFor 8 = .ok (.istore 4, 2) := by decide +kernel
theorem dX7_sumFor_10 : decode cX7_sumFor 10 = .ok (.iconst 0, 1) := by decide +kernel
theorem dX7_sumFor_11 : decode cX7_sumFor 11 = .ok (.istore 5, 2) := by decide +kernel
theorem dX7_sumFor_13 : decode cX7_sumFor 13 = .ok (.iload 5, 2) := by decide +kernel
theorem dX7_sumFor_15 : decode cX7_sumFor 15 = .ok (.aload_n 0, 1) := by decide +kernel
theorem dX7_sumFor_16 : decode cX7_sumFor 16 = .ok (.getfield 15, 3) := by decide +kernel
theorem dX7_sumFor_19 : decode cX7_sumFor 19 = .ok (.iload 4, 2) := by decide +kernel
theorem dX7_sumFor_21 : decode cX7_sumFor 21 = .ok (.iaload, 1) := by decide +kernel
theorem dX7_sumFor_22 : decode cX7_sumFor 22 = .ok (.if_icmp .ge 78, 3) := by decide +kernel
theorem dX7_sumFor_25 : decode cX7_sumFor 25 = .ok (.aload_n 0, 1) := by decide +kernel
theorem dX7_sumFor_26 : decode cX7_sumFor 26 = .ok (.getfield 79, 3) := by decide +kernel
theorem dX7_sumFor_29 : decode cX7_sumFor 29 = .ok (.iload 4, 2) := by decide +kernel
theorem dX7_sumFor_31 : decode cX7_sumFor 31 = .ok (.iload 5, 2) := by decide +kernel
theorem dX7_sumFor_33 : decode cX7_sumFor 33 = .ok (.aload_n 0, 1) := by decide +kernel
theorem dX7_sumFor_34 : decode cX7_sumFor 34 = .ok (.getfield 66, 3) := by decide +kernel
theorem dX7_sumFor_37 : decode cX7_sumFor 37 = .ok (.iload_n 1, 1) := by decide +kernel
theorem dX7_sumFor_38 : decode cX7_sumFor 38 = .ok (.iaload, 1) := by decide +kernel
theorem dX7_sumFor_39 : decode cX7_sumFor 39 = .ok (.invokestatic 127, 3) := by decide +kernel
theorem dX7_sumFor_42 : decode cX7_sumFor 42 = .ok (.iaload, 1) := by decide +kernel
theorem dX7_sumFor_43 : decode cX7_sumFor 43 = .ok (.istore 6, 2) := by decide +kernel
theorem dX7_sumFor_45 : decode cX7_sumFor 45 = .ok (.aload_n 0, 1) := by decide +kernel
theorem dX7_sumFor_46 : decode cX7_sumFor 46 = .ok (.getfield 79, 3) := by decide +kernel
theorem dX7_sumFor_49 : decode cX7_sumFor 49 = .ok (.iload 4, 2) := by decide +kernel
theorem dX7_sumFor_51 : decode cX7_sumFor 51 = .ok (.iload 5, 2) := by decide +kernel
theorem dX7_sumFor_53 : decode cX7_sumFor 53 = .ok (.aload_n 0, 1) := by decide +kernel
theorem dX7_sumFor_54 : decode cX7_sumFor 54 = .ok (.getfield 72, 3) := by decide +kernel
theorem dX7_sumFor_57 : decode cX7_sumFor 57 = .ok (.iload_n 1, 1) := by decide +kernel
theorem dX7_sumFor_58 : decode cX7_sumFor 58 = .ok (.iaload, 1) := by decide +kernel
theorem dX7_sumFor_59 : decode cX7_sumFor 59 = .ok (.invokestatic 127, 3) := by decide +kernel
theorem dX7_sumFor_62 : decode cX7_sumFor 62 = .ok (.iaload, 1) := by decide +kernel
theorem dX7_sumFor_63 : decode cX7_sumFor 63 = .ok (.aload_n 0, 1) := by decide +kernel
theorem dX7_sumFor_64 : decode cX7_sumFor 64 = .ok (.getfield 79, 3) := by decide +kernel
theorem dX7_sumFor_67 : decode cX7_sumFor 67 = .ok (.aload_n 0, 1) := by decide +kernel
theorem dX7_sumFor_68 : decode cX7_sumFor 68 = .ok (.getfield 60, 3) := by decide +kernel
theorem dX7_sumFor_71 : decode cX7_sumFor 71 = .ok (.iload_n 1, 1) := by decide +kernel
theorem dX7_sumFor_72 : decode cX7_sumFor 72 = .ok (.iaload, 1) := by decide +kernel
theorem dX7_sumFor_73 : decode cX7_sumFor 73 = .ok (.iload_n 2, 1) := by decide +kernel
theorem dX7_sumFor_74 : decode cX7_sumFor 74 = .ok (.iconst 0, 1) := by decide +kernel
theorem dX7_sumFor_75 : decode cX7_sumFor 75 = .ok (.invokestatic 127, 3) := by decide +kernel
theorem dX7_sumFor_78 : decode cX7_sumFor 78 = .ok (.iaload, 1) := by decide +kernel
theorem dX7_sumFor_79 : decode cX7_sumFor 79 = .ok (.if_icmp .ne 15, 3) := by decide +kernel
theorem dX7_sumFor_82 : decode cX7_sumFor 82 = .ok (.iload 6, 2) := by decide +kernel
theorem dX7_sumFor_84 : decode cX7_sumFor 84 = .ok (.ldc 119, 2) := by decide +kernel
theorem dX7_sumFor_86 : decode cX7_sumFor 86 = .ok (.if_icmp .eq 8, 3) := by decide +kernel
theorem dX7_sumFor_89 : decode cX7_sumFor 89 = .ok (.iload_n 3, 1) := by decide +kernel
theorem dX7_sumFor_90 : decode cX7_sumFor 90 = .ok (.iload 6, 2) := by decide +kernel
theorem dX7_sumFor_92 : decode cX7_sumFor 92 = .ok (.iadd, 1) := by decide +kernel
theorem dX7_sumFor_93 : decode cX7_sumFor 93 = .ok (.istore_n 3, 1) := by decide +kernel
theorem dX7_sumFor_94 : decode cX7_sumFor 94 = .ok (.iinc 5 1, 3) := by decide +kernel
theorem dX7_sumFor_97 : decode cX7_sumFor 97 = .ok (.goto (-84), 3) := by decide +kernel
theorem dX7_sumFor_100 : decode cX7_sumFor 100 = .ok (.iload_n 3, 1) := by decide +kernel
theorem dX7_sumFor_101 : decode cX7_sumFor 101 = .ok (.ireturn, 1) := by decide +kernel
theorem dX7_isKeyOf_0 : decode cX7_isKeyOf 0 = .ok (.iconst 0, 1) := by decide +kernel
theorem dX7_isKeyOf_1 : decode cX7_isKeyOf 1 = .ok (.istore_n 3, 1) := by decide +kernel
theorem dX7_isKeyOf_2 : decode cX7_isKeyOf 2 = .ok (.iload_n 3, 1) := by decide +kernel
theorem dX7_isKeyOf_3 : decode cX7_isKeyOf 3 = .ok (.aload_n 0, 1) := by decide +kernel
theorem dX7_isKeyOf_4 : decode cX7_isKeyOf 4 = .ok (.getfield 15, 3) := by decide +kernel
theorem dX7_isKeyOf_7 : decode cX7_isKeyOf 7 = .ok (.iload_n 1, 1) := by decide +kernel
theorem dX7_isKeyOf_8 : decode cX7_isKeyOf 8 = .ok (.iaload, 1) := by decide +kernel
theorem dX7_isKeyOf_9 : decode cX7_isKeyOf 9 = .ok (.if_icmp .ge 26, 3) := by decide +kernel
theorem dX7_isKeyOf_12 : decode cX7_isKeyOf 12 = .ok (.aload_n 0, 1) := by decide +kernel
theorem dX7_isKeyOf_13 : decode cX7_isKeyOf 13 = .ok (.getfield 79, 3) := by decide +kernel
theorem dX7_isKeyOf_16 : decode cX7_isKeyOf 16 = .ok (.iload_n 1, 1) := by decide +kernel
theorem dX7_isKeyOf_17 : decode cX7_isKeyOf 17 = .ok (.iload_n 3, 1) := by decide +kernel
theorem dX7_isKeyOf_18 : decode cX7_isKeyOf 18 = .ok (.iconst 0, 1) := by decide +kernel
theorem dX7_isKeyOf_19 : decode cX7_isKeyOf 19 = .ok (.invokestatic 127, 3) := by decide +kernel
theorem dX7_isKeyOf_22 : decode cX7_isKeyOf 22 = .ok (.iaload, 1) := by decide +kernel
theorem dX7_isKeyOf_23 : decode cX7_isKeyOf 23 = .ok (.iload_n 2, 1) := by decide +kernel
theorem dX7_isKeyOf_24 : decode cX7_isKeyOf 24 = .ok (.if_icmp .ne 5, 3) := by decide +kernel
theorem dX7_isKeyOf_27 : decode cX7_isKeyOf 27 = .ok (.iconst 1, 1) := by decide +kernel
theorem dX7_isKeyOf_28 : decode cX7_isKeyOf 28 = .ok (.ireturn, 1) := by decide +kernel
theorem dX7_isKeyOf_29 : decode cX7_isKeyOf 29 = .ok (.iinc 3 1, 3) := by decide +kernel
theorem dX7_isKeyOf_32 : decode cX7_isKeyOf 32 = .ok (.goto (-30), 3) := by decide +kernel
theorem dX7_isKeyOf_35 : decode cX7_isKeyOf 35 = .ok (.iconst 0, 1) := by decide +kernel
theorem dX7_isKeyOf_36 : decode cX7_isKeyOf 36 = .ok (.ireturn, 1) := by decide +kernel
theorem dX7_holdsFor_0 : decode cX7_holdsFor 0 = .ok (.aload_n 0, 1) := by decide +kernel
theorem dX7_holdsFor_1 : decode cX7_holdsFor 1 = .ok (.getfield 60, 3) := by decide +kernel
theorem dX7_holdsFor_4 : decode cX7_holdsFor 4 = .ok (.iload_n 1, 1) := by decide +kernel
theorem dX7_holdsFor_5 : decode cX7_holdsFor 5 = .ok (.iaload, 1) := by decide +kernel
theorem dX7_holdsFor_6 : decode cX7_holdsFor 6 = .ok (.istore_n 3, 1) := by decide +kernel
theorem dX7_holdsFor_7 : decode cX7_holdsFor 7 = .ok (.aload_n 0, 1) := by decide +kernel
theorem dX7_holdsFor_8 : decode cX7_holdsFor 8 = .ok (.getfield 79, 3) := by decide +kernel
theorem dX7_holdsFor_11 : decode cX7_holdsFor 11 = .ok (.iload_n 3, 1) := by decide +kernel
theorem dX7_holdsFor_12 : decode cX7_holdsFor 12 = .ok (.iload_n 2, 1) := by decide +kernel
theorem dX7_holdsFor_13 : decode cX7_holdsFor 13 = .ok (.aload_n 0, 1) := by decide +kernel
theorem dX7_holdsFor_14 : decode cX7_holdsFor 14 = .ok (.getfield 63, 3) := by decide +kernel
theorem dX7_holdsFor_17 : decode cX7_holdsFor 17 = .ok (.iload_n 1, 1) := by decide +kernel
theorem dX7_holdsFor_18 : decode cX7_holdsFor 18 = .ok (.iaload, 1) := by decide +kernel
theorem dX7_holdsFor_19 : decode cX7_holdsFor 19 = .ok (.invokestatic 127, 3) := by decide +kernel
theorem dX7_holdsFor_22 : decode cX7_holdsFor 22 = .ok (.iaload, 1) := by decide +kernel
theorem dX7_holdsFor_23 : decode cX7_holdsFor 23 = .ok (.istore 4, 2) := by decide +kernel
theorem dX7_holdsFor_25 : decode cX7_holdsFor 25 = .ok (.aload_n 0, 1) := by decide +kernel
theorem dX7_holdsFor_26 : decode cX7_holdsFor 26 = .ok (.getfield 79, 3) := by decide +kernel
theorem dX7_holdsFor_29 : decode cX7_holdsFor 29 = .ok (.iload_n 3, 1) := by decide +kernel
theorem dX7_holdsFor_30 : decode cX7_holdsFor 30 = .ok (.iload_n 2, 1) := by decide +kernel
theorem dX7_holdsFor_31 : decode cX7_holdsFor 31 = .ok (.aload_n 0, 1) := by decide +kernel
theorem dX7_holdsFor_32 : decode cX7_holdsFor 32 = .ok (.getfield 66, 3) := by decide +kernel
theorem dX7_holdsFor_35 : decode cX7_holdsFor 35 = .ok (.iload_n 1, 1) := by decide +kernel
theorem dX7_holdsFor_36 : decode cX7_holdsFor 36 = .ok (.iaload, 1) := by decide +kernel
theorem dX7_holdsFor_37 : decode cX7_holdsFor 37 = .ok (.invokestatic 127, 3) := by decide +kernel
theorem dX7_holdsFor_40 : decode cX7_holdsFor 40 = .ok (.iaload, 1) := by decide +kernel
theorem dX7_holdsFor_41 : decode cX7_holdsFor 41 = .ok (.istore 5, 2) := by decide +kernel
theorem dX7_holdsFor_43 : decode cX7_holdsFor 43 = .ok (.iload 4, 2) := by decide +kernel
theorem dX7_holdsFor_45 : decode cX7_holdsFor 45 = .ok (.ldc 119, 2) := by decide +kernel
theorem dX7_holdsFor_47 : decode cX7_holdsFor 47 = .ok (.if_icmp .ne 5, 3) := by decide +kernel
theorem dX7_holdsFor_50 : decode cX7_holdsFor 50 = .ok (.iconst 1, 1) := by decide +kernel
theorem dX7_holdsFor_51 : decode cX7_holdsFor 51 = .ok (.ireturn, 1) := by decide +kernel
theorem dX7_holdsFor_52 : decode cX7_holdsFor 52 = .ok (.aload_n 0, 1) := by decide +kernel
theorem dX7_holdsFor_53 : decode cX7_holdsFor 53 = .ok (.getfield 57, 3) := by decide +kernel
theorem dX7_holdsFor_56 : decode cX7_holdsFor 56 = .ok (.iload_n 1, 1) := by decide +kernel
theorem dX7_holdsFor_57 : decode cX7_holdsFor 57 = .ok (.iaload, 1) := by decide +kernel
theorem dX7_holdsFor_58 : decode cX7_holdsFor 58 = .ok (.ifCond .ne 23, 3) := by decide +kernel
theorem dX7_holdsFor_61 : decode cX7_holdsFor 61 = .ok (.iload 5, 2) := by decide +kernel
theorem dX7_holdsFor_63 : decode cX7_holdsFor 63 = .ok (.ldc 119, 2) := by decide +kernel
theorem dX7_holdsFor_65 : decode cX7_holdsFor 65 = .ok (.if_icmp .eq 10, 3) := by decide +kernel
theorem dX7_holdsFor_68 : decode cX7_holdsFor 68 = .ok (.iload 4, 2) := by decide +kernel
theorem dX7_holdsFor_70 : decode cX7_holdsFor 70 = .ok (.iload 5, 2) := by decide +kernel
theorem dX7_holdsFor_72 : decode cX7_holdsFor 72 = .ok (.if_icmp .gt 7, 3) := by decide +kernel
theorem dX7_holdsFor_75 : decode cX7_holdsFor 75 = .ok (.iconst 1, 1) := by decide +kernel
theorem dX7_holdsFor_76 : decode cX7_holdsFor 76 = .ok (.goto 4, 3) := by decide +kernel
theorem dX7_holdsFor_79 : decode cX7_holdsFor 79 = .ok (.iconst 0, 1) := by decide +kernel
theorem dX7_holdsFor_80 : decode cX7_holdsFor 80 = .ok (.ireturn, 1) := by decide +kernel
theorem dX7_holdsFor_81 : decode cX7_holdsFor 81 = .ok (.aload_n 0, 1) := by decide +kernel
theorem dX7_holdsFor_82 : decode cX7_holdsFor 82 = .ok (.getfield 57, 3) := by decide +kernel
theorem dX7_holdsFor_85 : decode cX7_holdsFor 85 = .ok (.iload_n 1, 1) := by decide +kernel
theorem dX7_holdsFor_86 : decode cX7_holdsFor 86 = .ok (.iaload, 1) := by decide +kernel
theorem dX7_holdsFor_87 : decode cX7_holdsFor 87 = .ok (.iconst 1, 1) := by decide +kernel
theorem dX7_holdsFor_88 : decode cX7_holdsFor 88 = .ok (.if_icmp .ne 22, 3) := by decide +kernel
theorem dX7_holdsFor_91 : decode cX7_holdsFor 91 = .ok (.iload 4, 2) := by decide +kernel
theorem dX7_holdsFor_93 : decode cX7_holdsFor 93 = .ok (.aload_n 0, 1) := by decide +kernel
theorem dX7_holdsFor_94 : decode cX7_holdsFor 94 = .ok (.iload_n 1, 1) := by decide +kernel
theorem dX7_holdsFor_95 : decode cX7_holdsFor 95 = .ok (.iload_n 2, 1) := by decide +kernel
theorem dX7_holdsFor_96 : decode cX7_holdsFor 96 = .ok (.invokevirtual 169, 3) := by decide +kernel
theorem dX7_holdsFor_99 : decode cX7_holdsFor 99 = .ok (.if_icmp .ne 7, 3) := by decide +kernel
theorem dX7_holdsFor_102 : decode cX7_holdsFor 102 = .ok (.iconst 1, 1) := by decide +kernel
theorem dX7_holdsFor_103 : decode cX7_holdsFor 103 = .ok (.goto 29, 3) := by decide +kernel
theorem dX7_holdsFor_106 : decode cX7_holdsFor 106 = .ok (.iconst 0, 1) := by decide +kernel
theorem dX7_holdsFor_107 : decode cX7_holdsFor 107 = .ok (.goto 25, 3) := by decide +kernel
theorem dX7_holdsFor_110 : decode cX7_holdsFor 110 = .ok (.aload_n 0, 1) := by decide +kernel
theorem dX7_holdsFor_111 : decode cX7_holdsFor 111 = .ok (.aload_n 0, 1) := by decide +kernel
theorem dX7_holdsFor_112 : decode cX7_holdsFor 112 = .ok (.getfield 24, 3) := by decide +kernel
theorem dX7_holdsFor_115 : decode cX7_holdsFor 115 = .ok (.bipush 6, 2) := by decide +kernel
theorem dX7_holdsFor_117 : decode cX7_holdsFor 117 = .ok (.iload_n 3, 1) := by decide +kernel
theorem dX7_holdsFor_118 : decode cX7_holdsFor 118 = .ok (.imul, 1) := by decide +kernel
theorem dX7_holdsFor_119 : decode cX7_holdsFor 119 = .ok (.aload_n 0, 1) := by decide +kernel
theorem dX7_holdsFor_120 : decode cX7_holdsFor 120 = .ok (.getfield 63, 3) := by decide +kernel
theorem dX7_holdsFor_123 : decode cX7_holdsFor 123 = .ok (.iload_n 1, 1) := by decide +kernel
theorem dX7_holdsFor_124 : decode cX7_holdsFor 124 = .ok (.iaload, 1) := by decide +kernel
theorem dX7_holdsFor_125 : decode cX7_holdsFor 125 = .ok (.iadd, 1) := by decide +kernel
theorem dX7_holdsFor_126 : decode cX7_holdsFor 126 = .ok (.iaload, 1) := by decide +kernel
theorem dX7_holdsFor_127 : decode cX7_holdsFor 127 = .ok (.iload 4, 2) := by decide +kernel
theorem dX7_holdsFor_129 : decode cX7_holdsFor 129 = .ok (.invokevirtual 172, 3) := by decide +kernel
theorem dX7_holdsFor_132 : decode cX7_holdsFor 132 = .ok (.ireturn, 1) := by decide +kernel
theorem dX7_firstBroken_0 : decode cX7_firstBroken 0 = .ok (.iconst 0, 1) := by decide +kernel
theorem dX7_firstBroken_1 : decode cX7_firstBroken 1 = .ok (.istore_n 1, 1) := by decide +kernel
theorem dX7_firstBroken_2 : decode cX7_firstBroken 2 = .ok (.iload_n 1, 1) := by decide +kernel
theorem dX7_firstBroken_3 : decode cX7_firstBroken 3 = .ok (.aload_n 0, 1) := by decide +kernel
theorem dX7_firstBroken_4 : decode cX7_firstBroken 4 = .ok (.getfield 162, 3) := by decide +kernel
theorem dX7_firstBroken_7 : decode cX7_firstBroken 7 = .ok (.if_icmp .ge 43, 3) := by decide +kernel
theorem dX7_firstBroken_10 : decode cX7_firstBroken 10 = .ok (.iconst 0, 1) := by decide +kernel
theorem dX7_firstBroken_11 : decode cX7_firstBroken 11 = .ok (.istore_n 2, 1) := by decide +kernel
theorem dX7_firstBroken_12 : decode cX7_firstBroken 12 = .ok (.iload_n 2, 1) := by decide +kernel
theorem dX7_firstBroken_13 : decode cX7_firstBroken 13 = .ok (.aload_n 0, 1) := by decide +kernel
theorem dX7_firstBroken_14 : decode cX7_firstBroken 14 = .ok (.getfield 15, 3) := by decide +kernel
theorem dX7_firstBroken_17 : decode cX7_firstBroken 17 = .ok (.aload_n 0, 1) := by decide +kernel
theorem dX7_firstBroken_18 : decode cX7_firstBroken 18 = .ok (.getfield 60, 3) := by decide +kernel
theorem dX7_firstBroken_21 : decode cX7_firstBroken 21 = .ok (.iload_n 1, 1) := by decide +kernel
theorem dX7_firstBroken_22 : decode cX7_firstBroken 22 = .ok (.iaload, 1) := by decide +kernel
theorem dX7_firstBroken_23 : decode cX7_firstBroken 23 = .ok (.iaload, 1) := by decide +kernel
theorem dX7_firstBroken_24 : decode cX7_firstBroken 24 = .ok (.if_icmp .ge 20, 3) := by decide +kernel
theorem dX7_firstBroken_27 : decode cX7_firstBroken 27 = .ok (.aload_n 0, 1) := by decide +kernel
theorem dX7_firstBroken_28 : decode cX7_firstBroken 28 = .ok (.iload_n 1, 1) := by decide +kernel
theorem dX7_firstBroken_29 : decode cX7_firstBroken 29 = .ok (.iload_n 2, 1) := by decide +kernel
theorem dX7_firstBroken_30 : decode cX7_firstBroken 30 = .ok (.invokevirtual 175, 3) := by decide +kernel
theorem dX7_firstBroken_33 : decode cX7_firstBroken 33 = .ok (.ifCond .ne 5, 3) := by decide +kernel
theorem dX7_firstBroken_36 : decode cX7_firstBroken 36 = .ok (.iload_n 1, 1) := by decide +kernel
theorem dX7_firstBroken_37 : decode cX7_firstBroken 37 = .ok (.ireturn, 1) := by decide +kernel
theorem dX7_firstBroken_38 : decode cX7_firstBroken 38 = .ok (.iinc 2 1, 3) := by decide +kernel
theorem dX7_firstBroken_41 : decode cX7_firstBroken 41 = .ok (.goto (-29), 3) := by decide +kernel
theorem dX7_firstBroken_44 : decode cX7_firstBroken 44 = .ok (.iinc 1 1, 3) := by decide +kernel
theorem dX7_firstBroken_47 : decode cX7_firstBroken 47 = .ok (.goto (-45), 3) := by decide +kernel
theorem dX7_firstBroken_50 : decode cX7_firstBroken 50 = .ok (.bipush 100, 2) := by decide +kernel
theorem dX7_firstBroken_52 : decode cX7_firstBroken 52 = .ok (.ireturn, 1) := by decide +kernel
theorem dX7_see_0 : decode cX7_see 0 = .ok (.iconst 0, 1) := by decide +kernel
theorem dX7_see_1 : decode cX7_see 1 = .ok (.istore_n 2, 1) := by decide +kernel
theorem dX7_see_2 : decode cX7_see 2 = .ok (.iload_n 2, 1) := by decide +kernel
theorem dX7_see_3 : decode cX7_see 3 = .ok (.sipush 288, 3) := by decide +kernel
theorem dX7_see_6 : decode cX7_see 6 = .ok (.if_icmp .ge 35, 3) := by decide +kernel
theorem dX7_see_9 : decode cX7_see 9 = .ok (.aload_n 0, 1) := by decide +kernel
theorem dX7_see_10 : decode cX7_see 10 = .ok (.getfield 79, 3) := by decide +kernel
theorem dX7_see_13 : decode cX7_see 13 = .ok (.iload_n 2, 1) := by decide +kernel
theorem dX7_see_14 : decode cX7_see 14 = .ok (.iload_n 1, 1) := by decide +kernel
theorem dX7_see_15 : decode cX7_see 15 = .ok (.iconst 1, 1) := by decide +kernel
theorem dX7_see_16 : decode cX7_see 16 = .ok (.if_icmp .ne 12, 3) := by decide +kernel
theorem dX7_see_19 : decode cX7_see 19 = .ok (.aload_n 0, 1) := by decide +kernel
theorem dX7_see_20 : decode cX7_see 20 = .ok (.getfield 48, 3) := by decide +kernel
theorem dX7_see_23 : decode cX7_see 23 = .ok (.iload_n 2, 1) := by decide +kernel
theorem dX7_see_24 : decode cX7_see 24 = .ok (.iaload, 1) := by decide +kernel
theorem dX7_see_25 : decode cX7_see 25 = .ok (.goto 9, 3) := by decide +kernel
theorem dX7_see_28 : decode cX7_see 28 = .ok (.aload_n 0, 1) := by decide +kernel
theorem dX7_see_29 : decode cX7_see 29 = .ok (.getfield 45, 3) := by decide +kernel
theorem dX7_see_32 : decode cX7_see 32 = .ok (.iload_n 2, 1) := by decide +kernel
theorem dX7_see_33 : decode cX7_see 33 = .ok (.iaload, 1) := by decide +kernel
theorem dX7_see_34 : decode cX7_see 34 = .ok (.iastore, 1) := by decide +kernel
theorem dX7_see_35 : decode cX7_see 35 = .ok (.iinc 2 1, 3) := by decide +kernel
theorem dX7_see_38 : decode cX7_see 38 = .ok (.goto (-36), 3) := by decide +kernel
theorem dX7_see_41 : decode cX7_see 41 = .ok (.return_, 1) := by decide +kernel
theorem dX7_broken_0 : decode cX7_broken 0 = .ok (.iload_n 1, 1) := by decide +kernel
theorem dX7_broken_1 : decode cX7_broken 1 = .ok (.iconst 0, 1) := by decide +kernel
theorem dX7_broken_2 : decode cX7_broken 2 = .ok (.iconst 1, 1) := by decide +kernel
theorem dX7_broken_3 : decode cX7_broken 3 = .ok (.invokestatic 95, 3) := by decide +kernel
theorem dX7_broken_6 : decode cX7_broken 6 = .ok (.ifCond .ne 6, 3) := by decide +kernel
theorem dX7_broken_9 : decode cX7_broken 9 = .ok (.bipush (-2), 2) := by decide +kernel
theorem dX7_broken_11 : decode cX7_broken 11 = .ok (.ireturn, 1) := by decide +kernel
theorem dX7_broken_12 : decode cX7_broken 12 = .ok (.iload_n 1, 1) := by decide +kernel
theorem dX7_broken_13 : decode cX7_broken 13 = .ok (.iconst 1, 1) := by decide +kernel
theorem dX7_broken_14 : decode cX7_broken 14 = .ok (.if_icmp .ne 13, 3) := by decide +kernel
theorem dX7_broken_17 : decode cX7_broken 17 = .ok (.aload_n 0, 1) := by decide +kernel
theorem dX7_broken_18 : decode cX7_broken 18 = .ok (.getfield 112, 3) := by decide +kernel
theorem dX7_broken_21 : decode cX7_broken 21 = .ok (.ifCond .ne 6, 3) := by decide +kernel
theorem dX7_broken_24 : decode cX7_broken 24 = .ok (.bipush (-3), 2) := by decide +kernel
theorem dX7_broken_26 : decode cX7_broken 26 = .ok (.ireturn, 1) := by decide +kernel
theorem dX7_broken_27 : decode cX7_broken 27 = .ok (.aload_n 0, 1) := by decide +kernel
theorem dX7_broken_28 : decode cX7_broken 28 = .ok (.iload_n 1, 1) := by decide +kernel
theorem dX7_broken_29 : decode cX7_broken 29 = .ok (.invokevirtual 178, 3) := by decide +kernel
theorem dX7_broken_32 : decode cX7_broken 32 = .ok (.aload_n 0, 1) := by decide +kernel
theorem dX7_broken_33 : decode cX7_broken 33 = .ok (.invokevirtual 182, 3) := by decide +kernel
theorem dX7_broken_36 : decode cX7_broken 36 = .ok (.ireturn, 1) := by decide +kernel
theorem dX7_make_0 : decode cX7_make 0 = .ok (.iconst 0, 1) := by decide +kernel
theorem dX7_make_1 : decode cX7_make 1 = .ok (.istore_n 1, 1) := by decide +kernel
theorem dX7_make_2 : decode cX7_make 2 = .ok (.iload_n 1, 1) := by decide +kernel
theorem dX7_make_3 : decode cX7_make 3 = .ok (.aload_n 0, 1) := by decide +kernel
theorem dX7_make_4 : decode cX7_make 4 = .ok (.getfield 92, 3) := by decide +kernel
theorem dX7_make_7 : decode cX7_make 7 = .ok (.if_icmp .ge 14, 3) := by decide +kernel
theorem dX7_make_10 : decode cX7_make 10 = .ok (.aload_n 0, 1) := by decide +kernel
theorem dX7_make_11 : decode cX7_make 11 = .ok (.iload_n 1, 1) := by decide +kernel
theorem dX7_make_12 : decode cX7_make 12 = .ok (.invokevirtual 186, 3) := by decide +kernel
theorem dX7_make_15 : decode cX7_make 15 = .ok (.iinc 1 1, 3) := by decide +kernel
theorem dX7_make_18 : decode cX7_make 18 = .ok (.goto (-16), 3) := by decide +kernel
theorem dX7_make_21 : decode cX7_make 21 = .ok (.iconst 0, 1) := by decide +kernel
theorem dX7_make_22 : decode cX7_make 22 = .ok (.istore_n 1, 1) := by decide +kernel
theorem dX7_make_23 : decode cX7_make 23 = .ok (.iload_n 1, 1) := by decide +kernel
theorem dX7_make_24 : decode cX7_make 24 = .ok (.sipush 288, 3) := by decide +kernel
theorem dX7_make_27 : decode cX7_make 27 = .ok (.if_icmp .ge 21, 3) := by decide +kernel
theorem dX7_make_30 : decode cX7_make 30 = .ok (.aload_n 0, 1) := by decide +kernel
theorem dX7_make_31 : decode cX7_make 31 = .ok (.getfield 79, 3) := by decide +kernel
theorem dX7_make_34 : decode cX7_make 34 = .ok (.iload_n 1, 1) := by decide +kernel
theorem dX7_make_35 : decode cX7_make 35 = .ok (.aload_n 0, 1) := by decide +kernel
theorem dX7_make_36 : decode cX7_make 36 = .ok (.getfield 51, 3) := by decide +kernel
theorem dX7_make_39 : decode cX7_make 39 = .ok (.iload_n 1, 1) := by decide +kernel
theorem dX7_make_40 : decode cX7_make 40 = .ok (.iaload, 1) := by decide +kernel
theorem dX7_make_41 : decode cX7_make 41 = .ok (.iastore, 1) := by decide +kernel
theorem dX7_make_42 : decode cX7_make 42 = .ok (.iinc 1 1, 3) := by decide +kernel
theorem dX7_make_45 : decode cX7_make 45 = .ok (.goto (-22), 3) := by decide +kernel
theorem dX7_make_48 : decode cX7_make 48 = .ok (.iconst 0, 1) := by decide +kernel
theorem dX7_make_49 : decode cX7_make 49 = .ok (.istore_n 1, 1) := by decide +kernel
theorem dX7_make_50 : decode cX7_make 50 = .ok (.iload_n 1, 1) := by decide +kernel
theorem dX7_make_51 : decode cX7_make 51 = .ok (.aload_n 0, 1) := by decide +kernel
theorem dX7_make_52 : decode cX7_make 52 = .ok (.getfield 162, 3) := by decide +kernel
theorem dX7_make_55 : decode cX7_make 55 = .ok (.if_icmp .ge 81, 3) := by decide +kernel
theorem dX7_make_58 : decode cX7_make 58 = .ok (.iconst 0, 1) := by decide +kernel
theorem dX7_make_59 : decode cX7_make 59 = .ok (.istore_n 2, 1) := by decide +kernel
theorem dX7_make_60 : decode cX7_make 60 = .ok (.iload_n 2, 1) := by decide +kernel
theorem dX7_make_61 : decode cX7_make 61 = .ok (.aload_n 0, 1) := by decide +kernel
theorem dX7_make_62 : decode cX7_make 62 = .ok (.getfield 15, 3) := by decide +kernel
theorem dX7_make_65 : decode cX7_make 65 = .ok (.aload_n 0, 1) := by decide +kernel
theorem dX7_make_66 : decode cX7_make 66 = .ok (.getfield 60, 3) := by decide +kernel
theorem dX7_make_69 : decode cX7_make 69 = .ok (.iload_n 1, 1) := by decide +kernel
theorem dX7_make_70 : decode cX7_make 70 = .ok (.iaload, 1) := by decide +kernel
theorem dX7_make_71 : decode cX7_make 71 = .ok (.iaload, 1) := by decide +kernel
theorem dX7_make_72 : decode cX7_make 72 = .ok (.if_icmp .ge 58, 3) := by decide +kernel
theorem dX7_make_75 : decode cX7_make 75 = .ok (.aload_n 0, 1) := by decide +kernel
theorem dX7_make_76 : decode cX7_make 76 = .ok (.getfield 75, 3) := by decide +kernel
theorem dX7_make_79 : decode cX7_make 79 = .ok (.iload_n 1, 1) := by decide +kernel
theorem dX7_make_80 : decode cX7_make 80 = .ok (.baload, 1) := by decide +kernel
theorem dX7_make_81 : decode cX7_make 81 = .ok (.ifCond .eq 49, 3) := by decide +kernel
theorem dX7_make_84 : decode cX7_make 84 = .ok (.aload_n 0, 1) := by decide +kernel
theorem dX7_make_85 : decode cX7_make 85 = .ok (.getfield 60, 3) := by decide +kernel
theorem dX7_make_88 : decode cX7_make 88 = .ok (.iload_n 1, 1) := by decide +kernel
theorem dX7_make_89 : decode cX7_make 89 = .ok (.iaload, 1) := by decide +kernel
theorem dX7_make_90 : decode cX7_make 90 = .ok (.iload_n 2, 1) := by decide +kernel
theorem dX7_make_91 : decode cX7_make 91 = .ok (.aload_n 0, 1) := by decide +kernel
theorem dX7_make_92 : decode cX7_make 92 = .ok (.getfield 63, 3) := by decide +kernel
theorem dX7_make_95 : decode cX7_make 95 = .ok (.iload_n 1, 1) := by decide +kernel
theorem dX7_make_96 : decode cX7_make 96 = .ok (.iaload, 1) := by decide +kernel
theorem dX7_make_97 : decode cX7_make 97 = .ok (.invokestatic 127, 3) := by decide +kernel
theorem dX7_make_100 : decode cX7_make 100 = .ok (.istore_n 3, 1) := by decide +kernel
theorem dX7_make_101 : decode cX7_make 101 = .ok (.aload_n 0, 1) := by decide +kernel
theorem dX7_make_102 : decode cX7_make 102 = .ok (.getfield 79, 3) := by decide +kernel
theorem dX7_make_105 : decode cX7_make 105 = .ok (.iload_n 3, 1) := by decide +kernel
theorem dX7_make_106 : decode cX7_make 106 = .ok (.iaload, 1) := by decide +kernel
theorem dX7_make_107 : decode cX7_make 107 = .ok (.ldc 119, 2) := by decide +kernel
theorem dX7_make_109 : decode cX7_make 109 = .ok (.if_icmp .eq 15, 3) := by decide +kernel
theorem dX7_make_112 : decode cX7_make 112 = .ok (.aload_n 0, 1) := by decide +kernel
theorem dX7_make_113 : decode cX7_make 113 = .ok (.getfield 79, 3) := by decide +kernel
theorem dX7_make_116 : decode cX7_make 116 = .ok (.iload_n 3, 1) := by decide +kernel
theorem dX7_make_117 : decode cX7_make 117 = .ok (.aload_n 0, 1) := by decide +kernel
theorem dX7_make_118 : decode cX7_make 118 = .ok (.iload_n 1, 1) := by decide +kernel
theorem dX7_make_119 : decode cX7_make 119 = .ok (.iload_n 2, 1) := by decide +kernel
theorem dX7_make_120 : decode cX7_make 120 = .ok (.invokevirtual 169, 3) := by decide +kernel
theorem dX7_make_123 : decode cX7_make 123 = .ok (.iastore, 1) := by decide +kernel
theorem dX7_make_124 : decode cX7_make 124 = .ok (.iinc 2 1, 3) := by decide +kernel
theorem dX7_make_127 : decode cX7_make 127 = .ok (.goto (-67), 3) := by decide +kernel
theorem dX7_make_130 : decode cX7_make 130 = .ok (.iinc 1 1, 3) := by decide +kernel
theorem dX7_make_133 : decode cX7_make 133 = .ok (.goto (-83), 3) := by decide +kernel
theorem dX7_make_136 : decode cX7_make 136 = .ok (.aload_n 0, 1) := by decide +kernel
theorem dX7_make_137 : decode cX7_make 137 = .ok (.invokevirtual 182, 3) := by decide +kernel
theorem dX7_make_140 : decode cX7_make 140 = .ok (.istore_n 1, 1) := by decide +kernel
theorem dX7_make_141 : decode cX7_make 141 = .ok (.iload_n 1, 1) := by decide +kernel
theorem dX7_make_142 : decode cX7_make 142 = .ok (.bipush 100, 2) := by decide +kernel
theorem dX7_make_144 : decode cX7_make 144 = .ok (.if_icmp .ge 5, 3) := by decide +kernel
theorem dX7_make_147 : decode cX7_make 147 = .ok (.iload_n 1, 1) := by decide +kernel
theorem dX7_make_148 : decode cX7_make 148 = .ok (.ireturn, 1) := by decide +kernel
theorem dX7_make_149 : decode cX7_make 149 = .ok (.iconst 0, 1) := by decide +kernel
theorem dX7_make_150 : decode cX7_make 150 = .ok (.istore_n 2, 1) := by decide +kernel
theorem dX7_make_151 : decode cX7_make 151 = .ok (.iload_n 2, 1) := by decide +kernel
theorem dX7_make_152 : decode cX7_make 152 = .ok (.sipush 288, 3) := by decide +kernel
theorem dX7_make_155 : decode cX7_make 155 = .ok (.if_icmp .ge 21, 3) := by decide +kernel
theorem dX7_make_158 : decode cX7_make 158 = .ok (.aload_n 0, 1) := by decide +kernel
theorem dX7_make_159 : decode cX7_make 159 = .ok (.getfield 48, 3) := by decide +kernel
theorem dX7_make_162 : decode cX7_make 162 = .ok (.iload_n 2, 1) := by decide +kernel
theorem dX7_make_163 : decode cX7_make 163 = .ok (.aload_n 0, 1) := by decide +kernel
theorem dX7_make_164 : decode cX7_make 164 = .ok (.getfield 79, 3) := by decide +kernel
theorem dX7_make_167 : decode cX7_make 167 = .ok (.iload_n 2, 1) := by decide +kernel
theorem dX7_make_168 : decode cX7_make 168 = .ok (.iaload, 1) := by decide +kernel
theorem dX7_make_169 : decode cX7_make 169 = .ok (.iastore, 1) := by decide +kernel
theorem dX7_make_170 : decode cX7_make 170 = .ok (.iinc 2 1, 3) := by decide +kernel
theorem dX7_make_173 : decode cX7_make 173 = .ok (.goto (-22), 3) := by decide +kernel
theorem dX7_make_176 : decode cX7_make 176 = .ok (.aload_n 0, 1) := by decide +kernel
theorem dX7_make_177 : decode cX7_make 177 = .ok (.iconst 1, 1) := by decide +kernel
theorem dX7_make_178 : decode cX7_make 178 = .ok (.putfield 112, 3) := by decide +kernel
theorem dX7_make_181 : decode cX7_make 181 = .ok (.bipush 100, 2) := by decide +kernel
theorem dX7_make_183 : decode cX7_make 183 = .ok (.ireturn, 1) := by decide +kernel
theorem dX7_at_0 : decode cX7_at 0 = .ok (.aload_n 0, 1) := by decide +kernel
theorem dX7_at_1 : decode cX7_at 1 = .ok (.iload_n 1, 1) := by decide +kernel
theorem dX7_at_2 : decode cX7_at 2 = .ok (.iload_n 3, 1) := by decide +kernel
theorem dX7_at_3 : decode cX7_at 3 = .ok (.invokevirtual 131, 3) := by decide +kernel
theorem dX7_at_6 : decode cX7_at 6 = .ok (.ifCond .eq 35, 3) := by decide +kernel
theorem dX7_at_9 : decode cX7_at 9 = .ok (.aload_n 0, 1) := by decide +kernel
theorem dX7_at_10 : decode cX7_at 10 = .ok (.iload_n 1, 1) := by decide +kernel
theorem dX7_at_11 : decode cX7_at 11 = .ok (.iload_n 2, 1) := by decide +kernel
theorem dX7_at_12 : decode cX7_at 12 = .ok (.invokevirtual 189, 3) := by decide +kernel
theorem dX7_at_15 : decode cX7_at 15 = .ok (.ifCond .eq 26, 3) := by decide +kernel
theorem dX7_at_18 : decode cX7_at 18 = .ok (.iload 4, 2) := by decide +kernel
theorem dX7_at_20 : decode cX7_at 20 = .ok (.iconst 0, 1) := by decide +kernel
theorem dX7_at_21 : decode cX7_at 21 = .ok (.iconst 1, 1) := by decide +kernel
theorem dX7_at_22 : decode cX7_at 22 = .ok (.invokestatic 95, 3) := by decide +kernel
theorem dX7_at_25 : decode cX7_at 25 = .ok (.ifCond .eq 16, 3) := by decide +kernel
theorem dX7_at_28 : decode cX7_at 28 = .ok (.iload 4, 2) := by decide +kernel
theorem dX7_at_30 : decode cX7_at 30 = .ok (.iconst 1, 1) := by decide +kernel
theorem dX7_at_31 : decode cX7_at 31 = .ok (.if_icmp .ne 13, 3) := by decide +kernel
theorem dX7_at_34 : decode cX7_at 34 = .ok (.aload_n 0, 1) := by decide +kernel
theorem dX7_at_35 : decode cX7_at 35 = .ok (.getfield 112, 3) := by decide +kernel
theorem dX7_at_38 : decode cX7_at 38 = .ok (.ifCond .ne 6, 3) := by decide +kernel
theorem dX7_at_41 : decode cX7_at 41 = .ok (.ldc 119, 2) := by decide +kernel
theorem dX7_at_43 : decode cX7_at 43 = .ok (.ireturn, 1) := by decide +kernel
theorem dX7_at_44 : decode cX7_at 44 = .ok (.iload 4, 2) := by decide +kernel
theorem dX7_at_46 : decode cX7_at 46 = .ok (.iconst 1, 1) := by decide +kernel
theorem dX7_at_47 : decode cX7_at 47 = .ok (.if_icmp .ne 17, 3) := by decide +kernel
theorem dX7_at_50 : decode cX7_at 50 = .ok (.aload_n 0, 1) := by decide +kernel
theorem dX7_at_51 : decode cX7_at 51 = .ok (.getfield 48, 3) := by decide +kernel
theorem dX7_at_54 : decode cX7_at 54 = .ok (.iload_n 1, 1) := by decide +kernel
theorem dX7_at_55 : decode cX7_at 55 = .ok (.iload_n 2, 1) := by decide +kernel
theorem dX7_at_56 : decode cX7_at 56 = .ok (.iload_n 3, 1) := by decide +kernel
theorem dX7_at_57 : decode cX7_at 57 = .ok (.invokestatic 127, 3) := by decide +kernel
theorem dX7_at_60 : decode cX7_at 60 = .ok (.iaload, 1) := by decide +kernel
theorem dX7_at_61 : decode cX7_at 61 = .ok (.goto 14, 3) := by decide +kernel
theorem dX7_at_64 : decode cX7_at 64 = .ok (.aload_n 0, 1) := by decide +kernel
theorem dX7_at_65 : decode cX7_at 65 = .ok (.getfield 45, 3) := by decide +kernel
theorem dX7_at_68 : decode cX7_at 68 = .ok (.iload_n 1, 1) := by decide +kernel
theorem dX7_at_69 : decode cX7_at 69 = .ok (.iload_n 2, 1) := by decide +kernel
theorem dX7_at_70 : decode cX7_at 70 = .ok (.iload_n 3, 1) := by decide +kernel
theorem dX7_at_71 : decode cX7_at 71 = .ok (.invokestatic 127, 3) := by decide +kernel
theorem dX7_at_74 : decode cX7_at 74 = .ok (.iaload, 1) := by decide +kernel
theorem dX7_at_75 : decode cX7_at 75 = .ok (.ireturn, 1) := by decide +kernel
theorem dX7_turned_0 : decode cX7_turned 0 = .ok (.aload_n 0, 1) := by decide +kernel
theorem dX7_turned_1 : decode cX7_turned 1 = .ok (.iload_n 1, 1) := by decide +kernel
theorem dX7_turned_2 : decode cX7_turned 2 = .ok (.iload_n 2, 1) := by decide +kernel
theorem dX7_turned_3 : decode cX7_turned 3 = .ok (.invokevirtual 131, 3) := by decide +kernel
theorem dX7_turned_6 : decode cX7_turned 6 = .ok (.ifCond .eq 32, 3) := by decide +kernel
theorem dX7_turned_9 : decode cX7_turned 9 = .ok (.aload_n 0, 1) := by decide +kernel
theorem dX7_turned_10 : decode cX7_turned 10 = .ok (.getfield 21, 3) := by decide +kernel
theorem dX7_turned_13 : decode cX7_turned 13 = .ok (.bipush 6, 2) := by decide +kernel
theorem dX7_turned_15 : decode cX7_turned 15 = .ok (.iload_n 1, 1) := by decide +kernel
theorem dX7_turned_16 : decode cX7_turned 16 = .ok (.imul, 1) := by decide +kernel
theorem dX7_turned_17 : decode cX7_turned 17 = .ok (.iload_n 2, 1) := by decide +kernel
theorem dX7_turned_18 : decode cX7_turned 18 = .ok (.iadd, 1) := by decide +kernel
theorem dX7_turned_19 : decode cX7_turned 19 = .ok (.iaload, 1) := by decide +kernel
theorem dX7_turned_20 : decode cX7_turned 20 = .ok (.ifCond .eq 20, 3) := by decide +kernel
theorem dX7_turned_23 : decode cX7_turned 23 = .ok (.aload_n 0, 1) := by decide +kernel
theorem dX7_turned_24 : decode cX7_turned 24 = .ok (.getfield 21, 3) := by decide +kernel
theorem dX7_turned_27 : decode cX7_turned 27 = .ok (.bipush 6, 2) := by decide +kernel
theorem dX7_turned_29 : decode cX7_turned 29 = .ok (.iload_n 1, 1) := by decide +kernel
theorem dX7_turned_30 : decode cX7_turned 30 = .ok (.imul, 1) := by decide +kernel
theorem dX7_turned_31 : decode cX7_turned 31 = .ok (.iload_n 2, 1) := by decide +kernel
theorem dX7_turned_32 : decode cX7_turned 32 = .ok (.iadd, 1) := by decide +kernel
theorem dX7_turned_33 : decode cX7_turned 33 = .ok (.iaload, 1) := by decide +kernel
theorem dX7_turned_34 : decode cX7_turned 34 = .ok (.iconst 4, 1) := by decide +kernel
theorem dX7_turned_35 : decode cX7_turned 35 = .ok (.if_icmp .eq 5, 3) := by decide +kernel
theorem dX7_turned_38 : decode cX7_turned 38 = .ok (.iconst (-1), 1) := by decide +kernel
theorem dX7_turned_39 : decode cX7_turned 39 = .ok (.ireturn, 1) := by decide +kernel
theorem dX7_turned_40 : decode cX7_turned 40 = .ok (.aload_n 0, 1) := by decide +kernel
theorem dX7_turned_41 : decode cX7_turned 41 = .ok (.getfield 21, 3) := by decide +kernel
theorem dX7_turned_44 : decode cX7_turned 44 = .ok (.bipush 6, 2) := by decide +kernel
theorem dX7_turned_46 : decode cX7_turned 46 = .ok (.iload_n 1, 1) := by decide +kernel
theorem dX7_turned_47 : decode cX7_turned 47 = .ok (.imul, 1) := by decide +kernel
theorem dX7_turned_48 : decode cX7_turned 48 = .ok (.iload_n 2, 1) := by decide +kernel
theorem dX7_turned_49 : decode cX7_turned 49 = .ok (.iadd, 1) := by decide +kernel
theorem dX7_turned_50 : decode cX7_turned 50 = .ok (.iaload, 1) := by decide +kernel
theorem dX7_turned_51 : decode cX7_turned 51 = .ok (.ifCond .ne 22, 3) := by decide +kernel
theorem dX7_turned_54 : decode cX7_turned 54 = .ok (.iload_n 3, 1) := by decide +kernel
theorem dX7_turned_55 : decode cX7_turned 55 = .ok (.invokestatic 120, 3) := by decide +kernel
theorem dX7_turned_58 : decode cX7_turned 58 = .ok (.ifCond .eq 12, 3) := by decide +kernel
theorem dX7_turned_61 : decode cX7_turned 61 = .ok (.aload_n 0, 1) := by decide +kernel
theorem dX7_turned_62 : decode cX7_turned 62 = .ok (.iload_n 1, 1) := by decide +kernel
theorem dX7_turned_63 : decode cX7_turned 63 = .ok (.iload_n 3, 1) := by decide +kernel
theorem dX7_turned_64 : decode cX7_turned 64 = .ok (.invokevirtual 147, 3) := by decide +kernel
theorem dX7_turned_67 : decode cX7_turned 67 = .ok (.goto 5, 3) := by decide +kernel
theorem dX7_turned_70 : decode cX7_turned 70 = .ok (.bipush (-2), 2) := by decide +kernel
theorem dX7_turned_72 : decode cX7_turned 72 = .ok (.ireturn, 1) := by decide +kernel
theorem dX7_turned_73 : decode cX7_turned 73 = .ok (.iload_n 3, 1) := by decide +kernel
theorem dX7_turned_74 : decode cX7_turned 74 = .ok (.iconst 0, 1) := by decide +kernel
theorem dX7_turned_75 : decode cX7_turned 75 = .ok (.bipush 99, 2) := by decide +kernel
theorem dX7_turned_77 : decode cX7_turned 77 = .ok (.invokestatic 95, 3) := by decide +kernel
theorem dX7_turned_80 : decode cX7_turned 80 = .ok (.ifCond .eq 17, 3) := by decide +kernel
theorem dX7_turned_83 : decode cX7_turned 83 = .ok (.aload_n 0, 1) := by decide +kernel
theorem dX7_turned_84 : decode cX7_turned 84 = .ok (.bipush 6, 2) := by decide +kernel
theorem dX7_turned_86 : decode cX7_turned 86 = .ok (.iload_n 1, 1) := by decide +kernel
theorem dX7_turned_87 : decode cX7_turned 87 = .ok (.imul, 1) := by decide +kernel
theorem dX7_turned_88 : decode cX7_turned 88 = .ok (.iload_n 2, 1) := by decide +kernel
theorem dX7_turned_89 : decode cX7_turned 89 = .ok (.iadd, 1) := by decide +kernel
theorem dX7_turned_90 : decode cX7_turned 90 = .ok (.iload_n 3, 1) := by decide +kernel
theorem dX7_turned_91 : decode cX7_turned 91 = .ok (.invokevirtual 150, 3) := by decide +kernel
theorem dX7_turned_94 : decode cX7_turned 94 = .ok (.goto 5, 3) := by decide +kernel
theorem dX7_turned_97 : decode cX7_turned 97 = .ok (.bipush (-2), 2) := by decide +kernel
theorem dX7_turned_99 : decode cX7_turned 99 = .ok (.ireturn, 1) := by decide +kernel
theorem dX7_shift_0 : decode cX7_shift 0 = .ok (.iload_n 1, 1) := by decide +kernel
theorem dX7_shift_1 : decode cX7_shift 1 = .ok (.invokestatic 120, 3) := by decide +kernel
theorem dX7_shift_4 : decode cX7_shift 4 = .ok (.ifCond .eq 11, 3) := by decide +kernel
theorem dX7_shift_7 : decode cX7_shift 7 = .ok (.aload_n 0, 1) := by decide +kernel
theorem dX7_shift_8 : decode cX7_shift 8 = .ok (.iload_n 1, 1) := by decide +kernel
theorem dX7_shift_9 : decode cX7_shift 9 = .ok (.invokevirtual 153, 3) := by decide +kernel
theorem dX7_shift_12 : decode cX7_shift 12 = .ok (.goto 5, 3) := by decide +kernel
theorem dX7_shift_15 : decode cX7_shift 15 = .ok (.ldc 119, 2) := by decide +kernel
theorem dX7_shift_17 : decode cX7_shift 17 = .ok (.ireturn, 1) := by decide +kernel
theorem dX7_count_0 : decode cX7_count 0 = .ok (.aload_n 0, 1) := by decide +kernel
theorem dX7_count_1 : decode cX7_count 1 = .ok (.iload_n 1, 1) := by decide +kernel
theorem dX7_count_2 : decode cX7_count 2 = .ok (.iload_n 2, 1) := by decide +kernel
theorem dX7_count_3 : decode cX7_count 3 = .ok (.invokevirtual 131, 3) := by decide +kernel
theorem dX7_count_6 : decode cX7_count 6 = .ok (.ifCond .ne 5, 3) := by decide +kernel
theorem dX7_count_9 : decode cX7_count 9 = .ok (.iconst (-1), 1) := by decide +kernel
theorem dX7_count_10 : decode cX7_count 10 = .ok (.ireturn, 1) := by decide +kernel
theorem dX7_count_11 : decode cX7_count 11 = .ok (.iload 4, 2) := by decide +kernel
theorem dX7_count_13 : decode cX7_count 13 = .ok (.iconst 0, 1) := by decide +kernel
theorem dX7_count_14 : decode cX7_count 14 = .ok (.iconst 1, 1) := by decide +kernel
theorem dX7_count_15 : decode cX7_count 15 = .ok (.invokestatic 95, 3) := by decide +kernel
theorem dX7_count_18 : decode cX7_count 18 = .ok (.ifCond .ne 6, 3) := by decide +kernel
theorem dX7_count_21 : decode cX7_count 21 = .ok (.bipush (-2), 2) := by decide +kernel
theorem dX7_count_23 : decode cX7_count 23 = .ok (.ireturn, 1) := by decide +kernel
theorem dX7_count_24 : decode cX7_count 24 = .ok (.iload 4, 2) := by decide +kernel
theorem dX7_count_26 : decode cX7_count 26 = .ok (.iconst 1, 1) := by decide +kernel
theorem dX7_count_27 : decode cX7_count 27 = .ok (.if_icmp .ne 13, 3) := by decide +kernel
theorem dX7_count_30 : decode cX7_count 30 = .ok (.aload_n 0, 1) := by decide +kernel
theorem dX7_count_31 : decode cX7_count 31 = .ok (.getfield 112, 3) := by decide +kernel
theorem dX7_count_34 : decode cX7_count 34 = .ok (.ifCond .ne 6, 3) := by decide +kernel
theorem dX7_count_37 : decode cX7_count 37 = .ok (.bipush (-3), 2) := by decide +kernel
theorem dX7_count_39 : decode cX7_count 39 = .ok (.ireturn, 1) := by decide +kernel
theorem dX7_count_40 : decode cX7_count 40 = .ok (.aload_n 0, 1) := by decide +kernel
theorem dX7_count_41 : decode cX7_count 41 = .ok (.iload 4, 2) := by decide +kernel
theorem dX7_count_43 : decode cX7_count 43 = .ok (.invokevirtual 178, 3) := by decide +kernel
theorem dX7_count_46 : decode cX7_count 46 = .ok (.iconst 0, 1) := by decide +kernel
theorem dX7_count_47 : decode cX7_count 47 = .ok (.istore 5, 2) := by decide +kernel
theorem dX7_count_49 : decode cX7_count 49 = .ok (.iconst 0, 1) := by decide +kernel
theorem dX7_count_50 : decode cX7_count 50 = .ok (.istore 6, 2) := by decide +kernel
theorem dX7_count_52 : decode cX7_count 52 = .ok (.iload 6, 2) := by decide +kernel
theorem dX7_count_54 : decode cX7_count 54 = .ok (.aload_n 0, 1) := by decide +kernel
theorem dX7_count_55 : decode cX7_count 55 = .ok (.getfield 15, 3) := by decide +kernel
theorem dX7_count_58 : decode cX7_count 58 = .ok (.iload_n 1, 1) := by decide +kernel
theorem dX7_count_59 : decode cX7_count 59 = .ok (.iaload, 1) := by decide +kernel
theorem dX7_count_60 : decode cX7_count 60 = .ok (.if_icmp .ge 35, 3) := by decide +kernel
theorem dX7_count_63 : decode cX7_count 63 = .ok (.iload 5, 2) := by decide +kernel
theorem dX7_count_65 : decode cX7_count 65 = .ok (.aload_n 0, 1) := by decide +kernel
theorem dX7_count_66 : decode cX7_count 66 = .ok (.getfield 79, 3) := by decide +kernel
theorem dX7_count_69 : decode cX7_count 69 = .ok (.iload_n 1, 1) := by decide +kernel
theorem dX7_count_70 : decode cX7_count 70 = .ok (.iload 6, 2) := by decide +kernel
theorem dX7_count_72 : decode cX7_count 72 = .ok (.iload_n 2, 1) := by decide +kernel
theorem dX7_count_73 : decode cX7_count 73 = .ok (.invokestatic 127, 3) := by decide +kernel
theorem dX7_count_76 : decode cX7_count 76 = .ok (.iaload, 1) := by decide +kernel
theorem dX7_count_77 : decode cX7_count 77 = .ok (.iload_n 3, 1) := by decide +kernel
theorem dX7_count_78 : decode cX7_count 78 = .ok (.if_icmp .ne 7, 3) := by decide +kernel
theorem dX7_count_81 : decode cX7_count 81 = .ok (.iconst 1, 1) := by decide +kernel
theorem dX7_count_82 : decode cX7_count 82 = .ok (.goto 4, 3) := by decide +kernel
theorem dX7_count_85 : decode cX7_count 85 = .ok (.iconst 0, 1) := by decide +kernel
theorem dX7_count_86 : decode cX7_count 86 = .ok (.iadd, 1) := by decide +kernel
theorem dX7_count_87 : decode cX7_count 87 = .ok (.istore 5, 2) := by decide +kernel
theorem dX7_count_89 : decode cX7_count 89 = .ok (.iinc 6 1, 3) := by decide +kernel
theorem dX7_count_92 : decode cX7_count 92 = .ok (.goto (-40), 3) := by decide +kernel
theorem dX7_count_95 : decode cX7_count 95 = .ok (.iload 5, 2) := by decide +kernel
theorem dX7_count_97 : decode cX7_count 97 = .ok (.ireturn, 1) := by decide +kernel
theorem dX7_joins_0 : decode cX7_joins 0 = .ok (.aload_n 0, 1) := by decide +kernel
theorem dX7_joins_1 : decode cX7_joins 1 = .ok (.iload_n 1, 1) := by decide +kernel
theorem dX7_joins_2 : decode cX7_joins 2 = .ok (.iload_n 2, 1) := by decide +kernel
theorem dX7_joins_3 : decode cX7_joins 3 = .ok (.invokevirtual 131, 3) := by decide +kernel
theorem dX7_joins_6 : decode cX7_joins 6 = .ok (.ifCond .ne 5, 3) := by decide +kernel
theorem dX7_joins_9 : decode cX7_joins 9 = .ok (.iconst (-1), 1) := by decide +kernel
theorem dX7_joins_10 : decode cX7_joins 10 = .ok (.ireturn, 1) := by decide +kernel
theorem dX7_joins_11 : decode cX7_joins 11 = .ok (.aload_n 0, 1) := by decide +kernel
theorem dX7_joins_12 : decode cX7_joins 12 = .ok (.getfield 21, 3) := by decide +kernel
theorem dX7_joins_15 : decode cX7_joins 15 = .ok (.bipush 6, 2) := by decide +kernel
theorem dX7_joins_17 : decode cX7_joins 17 = .ok (.iload_n 1, 1) := by decide +kernel
theorem dX7_joins_18 : decode cX7_joins 18 = .ok (.imul, 1) := by decide +kernel
theorem dX7_joins_19 : decode cX7_joins 19 = .ok (.iload_n 2, 1) := by decide +kernel
theorem dX7_joins_20 : decode cX7_joins 20 = .ok (.iadd, 1) := by decide +kernel
theorem dX7_joins_21 : decode cX7_joins 21 = .ok (.iaload, 1) := by decide +kernel
theorem dX7_joins_22 : decode cX7_joins 22 = .ok (.iconst 1, 1) := by decide +kernel
theorem dX7_joins_23 : decode cX7_joins 23 = .ok (.if_icmp .ne 12, 3) := by decide +kernel
theorem dX7_joins_26 : decode cX7_joins 26 = .ok (.iload_n 3, 1) := by decide +kernel
theorem dX7_joins_27 : decode cX7_joins 27 = .ok (.iconst 0, 1) := by decide +kernel
theorem dX7_joins_28 : decode cX7_joins 28 = .ok (.iconst 1, 1) := by decide +kernel
theorem dX7_joins_29 : decode cX7_joins 29 = .ok (.invokestatic 95, 3) := by decide +kernel
theorem dX7_joins_32 : decode cX7_joins 32 = .ok (.ifCond .ne 6, 3) := by decide +kernel
theorem dX7_joins_35 : decode cX7_joins 35 = .ok (.bipush (-2), 2) := by decide +kernel
theorem dX7_joins_37 : decode cX7_joins 37 = .ok (.ireturn, 1) := by decide +kernel
theorem dX7_joins_38 : decode cX7_joins 38 = .ok (.iload_n 3, 1) := by decide +kernel
theorem dX7_joins_39 : decode cX7_joins 39 = .ok (.iconst 1, 1) := by decide +kernel
theorem dX7_joins_40 : decode cX7_joins 40 = .ok (.if_icmp .ne 13, 3) := by decide +kernel
theorem dX7_joins_43 : decode cX7_joins 43 = .ok (.aload_n 0, 1) := by decide +kernel
theorem dX7_joins_44 : decode cX7_joins 44 = .ok (.getfield 112, 3) := by decide +kernel
theorem dX7_joins_47 : decode cX7_joins 47 = .ok (.ifCond .ne 6, 3) := by decide +kernel
theorem dX7_joins_50 : decode cX7_joins 50 = .ok (.bipush (-3), 2) := by decide +kernel
theorem dX7_joins_52 : decode cX7_joins 52 = .ok (.ireturn, 1) := by decide +kernel
theorem dX7_joins_53 : decode cX7_joins 53 = .ok (.aload_n 0, 1) := by decide +kernel
theorem dX7_joins_54 : decode cX7_joins 54 = .ok (.iload_n 3, 1) := by decide +kernel
theorem dX7_joins_55 : decode cX7_joins 55 = .ok (.invokevirtual 178, 3) := by decide +kernel
theorem dX7_joins_58 : decode cX7_joins 58 = .ok (.iconst 0, 1) := by decide +kernel
theorem dX7_joins_59 : decode cX7_joins 59 = .ok (.istore 4, 2) := by decide +kernel
theorem dX7_joins_61 : decode cX7_joins 61 = .ok (.iconst 0, 1) := by decide +kernel
theorem dX7_joins_62 : decode cX7_joins 62 = .ok (.istore 5, 2) := by decide +kernel
theorem dX7_joins_64 : decode cX7_joins 64 = .ok (.iload 5, 2) := by decide +kernel
theorem dX7_joins_66 : decode cX7_joins 66 = .ok (.aload_n 0, 1) := by decide +kernel
theorem dX7_joins_67 : decode cX7_joins 67 = .ok (.getfield 15, 3) := by decide +kernel
theorem dX7_joins_70 : decode cX7_joins 70 = .ok (.iload_n 1, 1) := by decide +kernel
theorem dX7_joins_71 : decode cX7_joins 71 = .ok (.iaload, 1) := by decide +kernel
theorem dX7_joins_72 : decode cX7_joins 72 = .ok (.if_icmp .ge 86, 3) := by decide +kernel
theorem dX7_joins_75 : decode cX7_joins 75 = .ok (.iconst 0, 1) := by decide +kernel
theorem dX7_joins_76 : decode cX7_joins 76 = .ok (.istore 6, 2) := by decide +kernel
theorem dX7_joins_78 : decode cX7_joins 78 = .ok (.iload 6, 2) := by decide +kernel
theorem dX7_joins_80 : decode cX7_joins 80 = .ok (.aload_n 0, 1) := by decide +kernel
theorem dX7_joins_81 : decode cX7_joins 81 = .ok (.getfield 15, 3) := by decide +kernel
theorem dX7_joins_84 : decode cX7_joins 84 = .ok (.aload_n 0, 1) := by decide +kernel
theorem dX7_joins_85 : decode cX7_joins 85 = .ok (.getfield 24, 3) := by decide +kernel
theorem dX7_joins_88 : decode cX7_joins 88 = .ok (.bipush 6, 2) := by decide +kernel
theorem dX7_joins_90 : decode cX7_joins 90 = .ok (.iload_n 1, 1) := by decide +kernel
theorem dX7_joins_91 : decode cX7_joins 91 = .ok (.imul, 1) := by decide +kernel
theorem dX7_joins_92 : decode cX7_joins 92 = .ok (.iload_n 2, 1) := by decide +kernel
theorem dX7_joins_93 : decode cX7_joins 93 = .ok (.iadd, 1) := by decide +kernel
theorem dX7_joins_94 : decode cX7_joins 94 = .ok (.iaload, 1) := by decide +kernel
theorem dX7_joins_95 : decode cX7_joins 95 = .ok (.iaload, 1) := by decide +kernel
theorem dX7_joins_96 : decode cX7_joins 96 = .ok (.if_icmp .ge 56, 3) := by decide +kernel
theorem dX7_joins_99 : decode cX7_joins 99 = .ok (.iload 4, 2) := by decide +kernel
theorem dX7_joins_101 : decode cX7_joins 101 = .ok (.aload_n 0, 1) := by decide +kernel
theorem dX7_joins_102 : decode cX7_joins 102 = .ok (.getfield 79, 3) := by decide +kernel
theorem dX7_joins_105 : decode cX7_joins 105 = .ok (.iload_n 1, 1) := by decide +kernel
theorem dX7_joins_106 : decode cX7_joins 106 = .ok (.iload 5, 2) := by decide +kernel
theorem dX7_joins_108 : decode cX7_joins 108 = .ok (.iload_n 2, 1) := by decide +kernel
theorem dX7_joins_109 : decode cX7_joins 109 = .ok (.invokestatic 127, 3) := by decide +kernel
theorem dX7_joins_112 : decode cX7_joins 112 = .ok (.iaload, 1) := by decide +kernel
theorem dX7_joins_113 : decode cX7_joins 113 = .ok (.aload_n 0, 1) := by decide +kernel
theorem dX7_joins_114 : decode cX7_joins 114 = .ok (.getfield 79, 3) := by decide +kernel
theorem dX7_joins_117 : decode cX7_joins 117 = .ok (.aload_n 0, 1) := by decide +kernel
theorem dX7_joins_118 : decode cX7_joins 118 = .ok (.getfield 24, 3) := by decide +kernel
theorem dX7_joins_121 : decode cX7_joins 121 = .ok (.bipush 6, 2) := by decide +kernel
theorem dX7_joins_123 : decode cX7_joins 123 = .ok (.iload_n 1, 1) := by decide +kernel
theorem dX7_joins_124 : decode cX7_joins 124 = .ok (.imul, 1) := by decide +kernel
theorem dX7_joins_125 : decode cX7_joins 125 = .ok (.iload_n 2, 1) := by decide +kernel
theorem dX7_joins_126 : decode cX7_joins 126 = .ok (.iadd, 1) := by decide +kernel
theorem dX7_joins_127 : decode cX7_joins 127 = .ok (.iaload, 1) := by decide +kernel
theorem dX7_joins_128 : decode cX7_joins 128 = .ok (.iload 6, 2) := by decide +kernel
theorem dX7_joins_130 : decode cX7_joins 130 = .ok (.iconst 0, 1) := by decide +kernel
theorem dX7_joins_131 : decode cX7_joins 131 = .ok (.invokestatic 127, 3) := by decide +kernel
theorem dX7_joins_134 : decode cX7_joins 134 = .ok (.iaload, 1) := by decide +kernel
theorem dX7_joins_135 : decode cX7_joins 135 = .ok (.if_icmp .ne 7, 3) := by decide +kernel
theorem dX7_joins_138 : decode cX7_joins 138 = .ok (.iconst 1, 1) := by decide +kernel
theorem dX7_joins_139 : decode cX7_joins 139 = .ok (.goto 4, 3) := by decide +kernel
theorem dX7_joins_142 : decode cX7_joins 142 = .ok (.iconst 0, 1) := by decide +kernel
theorem dX7_joins_143 : decode cX7_joins 143 = .ok (.iadd, 1) := by decide +kernel
theorem dX7_joins_144 : decode cX7_joins 144 = .ok (.istore 4, 2) := by decide +kernel
theorem dX7_joins_146 : decode cX7_joins 146 = .ok (.iinc 6 1, 3) := by decide +kernel
theorem dX7_joins_149 : decode cX7_joins 149 = .ok (.goto (-71), 3) := by decide +kernel
theorem dX7_joins_152 : decode cX7_joins 152 = .ok (.iinc 5 1, 3) := by decide +kernel
theorem dX7_joins_155 : decode cX7_joins 155 = .ok (.goto (-91), 3) := by decide +kernel
theorem dX7_joins_158 : decode cX7_joins 158 = .ok (.iload 4, 2) := by decide +kernel
theorem dX7_joins_160 : decode cX7_joins 160 = .ok (.ireturn, 1) := by decide +kernel
theorem dX7_miss_0 : decode cX7_miss 0 = .ok (.aload_n 0, 1) := by decide +kernel
theorem dX7_miss_1 : decode cX7_miss 1 = .ok (.iload_n 1, 1) := by decide +kernel
theorem dX7_miss_2 : decode cX7_miss 2 = .ok (.iload_n 2, 1) := by decide +kernel
theorem dX7_miss_3 : decode cX7_miss 3 = .ok (.invokevirtual 131, 3) := by decide +kernel
theorem dX7_miss_6 : decode cX7_miss 6 = .ok (.ifCond .ne 5, 3) := by decide +kernel
theorem dX7_miss_9 : decode cX7_miss 9 = .ok (.iconst (-1), 1) := by decide +kernel
theorem dX7_miss_10 : decode cX7_miss 10 = .ok (.ireturn, 1) := by decide +kernel
theorem dX7_miss_11 : decode cX7_miss 11 = .ok (.aload_n 0, 1) := by decide +kernel
theorem dX7_miss_12 : decode cX7_miss 12 = .ok (.getfield 21, 3) := by decide +kernel
theorem dX7_miss_15 : decode cX7_miss 15 = .ok (.bipush 6, 2) := by decide +kernel
theorem dX7_miss_17 : decode cX7_miss 17 = .ok (.iload_n 1, 1) := by decide +kernel
theorem dX7_miss_18 : decode cX7_miss 18 = .ok (.imul, 1) := by decide +kernel
theorem dX7_miss_19 : decode cX7_miss 19 = .ok (.iload_n 2, 1) := by decide +kernel
theorem dX7_miss_20 : decode cX7_miss 20 = .ok (.iadd, 1) := by decide +kernel
theorem dX7_miss_21 : decode cX7_miss 21 = .ok (.iaload, 1) := by decide +kernel
theorem dX7_miss_22 : decode cX7_miss 22 = .ok (.iconst 2, 1) := by decide +kernel
theorem dX7_miss_23 : decode cX7_miss 23 = .ok (.if_icmp .eq 21, 3) := by decide +kernel
theorem dX7_miss_26 : decode cX7_miss 26 = .ok (.aload_n 0, 1) := by decide +kernel
theorem dX7_miss_27 : decode cX7_miss 27 = .ok (.getfield 21, 3) := by decide +kernel
theorem dX7_miss_30 : decode cX7_miss 30 = .ok (.bipush 6, 2) := by decide +kernel
theorem dX7_miss_32 : decode cX7_miss 32 = .ok (.iload_n 1, 1) := by decide +kernel
theorem dX7_miss_33 : decode cX7_miss 33 = .ok (.imul, 1) := by decide +kernel
theorem dX7_miss_34 : decode cX7_miss 34 = .ok (.iload_n 2, 1) := by decide +kernel
theorem dX7_miss_35 : decode cX7_miss 35 = .ok (.iadd, 1) := by decide +kernel
theorem dX7_miss_36 : decode cX7_miss 36 = .ok (.iaload, 1) := by decide +kernel
theorem dX7_miss_37 : decode cX7_miss 37 = .ok (.iconst 3, 1) := by decide +kernel
theorem dX7_miss_38 : decode cX7_miss 38 = .ok (.if_icmp .eq 6, 3) := by decide +kernel
theorem dX7_miss_41 : decode cX7_miss 41 = .ok (.bipush (-2), 2) := by decide +kernel
theorem dX7_miss_43 : decode cX7_miss 43 = .ok (.ireturn, 1) := by decide +kernel
theorem dX7_miss_44 : decode cX7_miss 44 = .ok (.aload_n 0, 1) := by decide +kernel
theorem dX7_miss_45 : decode cX7_miss 45 = .ok (.getfield 112, 3) := by decide +kernel
theorem dX7_miss_48 : decode cX7_miss 48 = .ok (.ifCond .ne 6, 3) := by decide +kernel
theorem dX7_miss_51 : decode cX7_miss 51 = .ok (.bipush (-3), 2) := by decide +kernel
theorem dX7_miss_53 : decode cX7_miss 53 = .ok (.ireturn, 1) := by decide +kernel
theorem dX7_miss_54 : decode cX7_miss 54 = .ok (.iconst 0, 1) := by decide +kernel
theorem dX7_miss_55 : decode cX7_miss 55 = .ok (.istore_n 3, 1) := by decide +kernel
theorem dX7_miss_56 : decode cX7_miss 56 = .ok (.iconst 0, 1) := by decide +kernel
theorem dX7_miss_57 : decode cX7_miss 57 = .ok (.istore 4, 2) := by decide +kernel
theorem dX7_miss_59 : decode cX7_miss 59 = .ok (.iload 4, 2) := by decide +kernel
theorem dX7_miss_61 : decode cX7_miss 61 = .ok (.aload_n 0, 1) := by decide +kernel
theorem dX7_miss_62 : decode cX7_miss 62 = .ok (.getfield 15, 3) := by decide +kernel
theorem dX7_miss_65 : decode cX7_miss 65 = .ok (.iload_n 1, 1) := by decide +kernel
theorem dX7_miss_66 : decode cX7_miss 66 = .ok (.iaload, 1) := by decide +kernel
theorem dX7_miss_67 : decode cX7_miss 67 = .ok (.if_icmp .ge 74, 3) := by decide +kernel
theorem dX7_miss_70 : decode cX7_miss 70 = .ok (.aload_n 0, 1) := by decide +kernel
theorem dX7_miss_71 : decode cX7_miss 71 = .ok (.getfield 45, 3) := by decide +kernel
theorem dX7_miss_74 : decode cX7_miss 74 = .ok (.iload_n 1, 1) := by decide +kernel
theorem dX7_miss_75 : decode cX7_miss 75 = .ok (.iload 4, 2) := by decide +kernel
theorem dX7_miss_77 : decode cX7_miss 77 = .ok (.iload_n 2, 1) := by decide +kernel
theorem dX7_miss_78 : decode cX7_miss 78 = .ok (.invokestatic 127, 3) := by decide +kernel
theorem dX7_miss_81 : decode cX7_miss 81 = .ok (.iaload, 1) := by decide +kernel
theorem dX7_miss_82 : decode cX7_miss 82 = .ok (.istore 5, 2) := by decide +kernel
theorem dX7_miss_84 : decode cX7_miss 84 = .ok (.aload_n 0, 1) := by decide +kernel
theorem dX7_miss_85 : decode cX7_miss 85 = .ok (.getfield 48, 3) := by decide +kernel
theorem dX7_miss_88 : decode cX7_miss 88 = .ok (.iload_n 1, 1) := by decide +kernel
theorem dX7_miss_89 : decode cX7_miss 89 = .ok (.iload 4, 2) := by decide +kernel
theorem dX7_miss_91 : decode cX7_miss 91 = .ok (.iload_n 2, 1) := by decide +kernel
theorem dX7_miss_92 : decode cX7_miss 92 = .ok (.invokestatic 127, 3) := by decide +kernel
theorem dX7_miss_95 : decode cX7_miss 95 = .ok (.iaload, 1) := by decide +kernel
theorem dX7_miss_96 : decode cX7_miss 96 = .ok (.istore 6, 2) := by decide +kernel
theorem dX7_miss_98 : decode cX7_miss 98 = .ok (.iload 5, 2) := by decide +kernel
theorem dX7_miss_100 : decode cX7_miss 100 = .ok (.ldc 119, 2) := by decide +kernel
theorem dX7_miss_102 : decode cX7_miss 102 = .ok (.if_icmp .eq 33, 3) := by decide +kernel
theorem dX7_miss_105 : decode cX7_miss 105 = .ok (.iload 6, 2) := by decide +kernel
theorem dX7_miss_107 : decode cX7_miss 107 = .ok (.ldc 119, 2) := by decide +kernel
theorem dX7_miss_109 : decode cX7_miss 109 = .ok (.if_icmp .eq 26, 3) := by decide +kernel
theorem dX7_miss_112 : decode cX7_miss 112 = .ok (.iload_n 3, 1) := by decide +kernel
theorem dX7_miss_113 : decode cX7_miss 113 = .ok (.iload 5, 2) := by decide +kernel
theorem dX7_miss_115 : decode cX7_miss 115 = .ok (.iload 6, 2) := by decide +kernel
theorem dX7_miss_117 : decode cX7_miss 117 = .ok (.if_icmp .ge 11, 3) := by decide +kernel
theorem dX7_miss_120 : decode cX7_miss 120 = .ok (.iload 6, 2) := by decide +kernel
theorem dX7_miss_122 : decode cX7_miss 122 = .ok (.iload 5, 2) := by decide +kernel
theorem dX7_miss_124 : decode cX7_miss 124 = .ok (.isub, 1) := by decide +kernel
theorem dX7_miss_125 : decode cX7_miss 125 = .ok (.goto 8, 3) := by decide +kernel
theorem dX7_miss_128 : decode cX7_miss 128 = .ok (.iload 5, 2) := by decide +kernel
theorem dX7_miss_130 : decode cX7_miss 130 = .ok (.iload 6, 2) := by decide +kernel
theorem dX7_miss_132 : decode cX7_miss 132 = .ok (.isub, 1) := by decide +kernel
theorem dX7_miss_133 : decode cX7_miss 133 = .ok (.iadd, 1) := by decide +kernel
theorem dX7_miss_134 : decode cX7_miss 134 = .ok (.istore_n 3, 1) := by decide +kernel
theorem dX7_miss_135 : decode cX7_miss 135 = .ok (.iinc 4 1, 3) := by decide +kernel
theorem dX7_miss_138 : decode cX7_miss 138 = .ok (.goto (-79), 3) := by decide +kernel
theorem dX7_miss_141 : decode cX7_miss 141 = .ok (.iload_n 3, 1) := by decide +kernel
theorem dX7_miss_142 : decode cX7_miss 142 = .ok (.ireturn, 1) := by decide +kernel
theorem dX7_isKnown_0 : decode cX7_isKnown 0 = .ok (.iload_n 2, 1) := by decide +kernel
theorem dX7_isKnown_1 : decode cX7_isKnown 1 = .ok (.ifCond .lt 19, 3) := by decide +kernel
theorem dX7_isKnown_4 : decode cX7_isKnown 4 = .ok (.iload_n 2, 1) := by decide +kernel
theorem dX7_isKnown_5 : decode cX7_isKnown 5 = .ok (.iconst 1, 1) := by decide +kernel
theorem dX7_isKnown_6 : decode cX7_isKnown 6 = .ok (.aload_n 0, 1) := by decide +kernel
theorem dX7_isKnown_7 : decode cX7_isKnown 7 = .ok (.getfield 9, 3) := by decide +kernel
theorem dX7_isKnown_10 : decode cX7_isKnown 10 = .ok (.iload_n 1, 1) := by decide +kernel
theorem dX7_isKnown_11 : decode cX7_isKnown 11 = .ok (.iaload, 1) := by decide +kernel
theorem dX7_isKnown_12 : decode cX7_isKnown 12 = .ok (.ishl, 1) := by decide +kernel
theorem dX7_isKnown_13 : decode cX7_isKnown 13 = .ok (.if_icmp .ge 7, 3) := by decide +kernel
theorem dX7_isKnown_16 : decode cX7_isKnown 16 = .ok (.iconst 1, 1) := by decide +kernel
theorem dX7_isKnown_17 : decode cX7_isKnown 17 = .ok (.goto 4, 3) := by decide +kernel
theorem dX7_isKnown_20 : decode cX7_isKnown 20 = .ok (.iconst 0, 1) := by decide +kernel
theorem dX7_isKnown_21 : decode cX7_isKnown 21 = .ok (.ireturn, 1) := by decide +kernel
theorem dX7_isPlain_0 : decode cX7_isPlain 0 = .ok (.bipush 6, 2) := by decide +kernel
theorem dX7_isPlain_2 : decode cX7_isPlain 2 = .ok (.iload_n 1, 1) := by decide +kernel
theorem dX7_isPlain_3 : decode cX7_isPlain 3 = .ok (.imul, 1) := by decide +kernel
theorem dX7_isPlain_4 : decode cX7_isPlain 4 = .ok (.iload_n 2, 1) := by decide +kernel
theorem dX7_isPlain_5 : decode cX7_isPlain 5 = .ok (.iadd, 1) := by decide +kernel
theorem dX7_isPlain_6 : decode cX7_isPlain 6 = .ok (.istore_n 3, 1) := by decide +kernel
theorem dX7_isPlain_7 : decode cX7_isPlain 7 = .ok (.aload_n 0, 1) := by decide +kernel
theorem dX7_isPlain_8 : decode cX7_isPlain 8 = .ok (.getfield 21, 3) := by decide +kernel
theorem dX7_isPlain_11 : decode cX7_isPlain 11 = .ok (.iload_n 3, 1) := by decide +kernel
theorem dX7_isPlain_12 : decode cX7_isPlain 12 = .ok (.iaload, 1) := by decide +kernel
theorem dX7_isPlain_13 : decode cX7_isPlain 13 = .ok (.iconst 1, 1) := by decide +kernel
theorem dX7_isPlain_14 : decode cX7_isPlain 14 = .ok (.if_icmp .ne 36, 3) := by decide +kernel
theorem dX7_isPlain_17 : decode cX7_isPlain 17 = .ok (.aload_n 0, 1) := by decide +kernel
theorem dX7_isPlain_18 : decode cX7_isPlain 18 = .ok (.getfield 27, 3) := by decide +kernel
theorem dX7_isPlain_21 : decode cX7_isPlain 21 = .ok (.iload_n 3, 1) := by decide +kernel
theorem dX7_isPlain_22 : decode cX7_isPlain 22 = .ok (.iaload, 1) := by decide +kernel
theorem dX7_isPlain_23 : decode cX7_isPlain 23 = .ok (.ifCond .ne 27, 3) := by decide +kernel
theorem dX7_isPlain_26 : decode cX7_isPlain 26 = .ok (.aload_n 0, 1) := by decide +kernel
theorem dX7_isPlain_27 : decode cX7_isPlain 27 = .ok (.getfield 27, 3) := by decide +kernel
theorem dX7_isPlain_30 : decode cX7_isPlain 30 = .ok (.bipush 6, 2) := by decide +kernel
theorem dX7_isPlain_32 : decode cX7_isPlain 32 = .ok (.aload_n 0, 1) := by decide +kernel
theorem dX7_isPlain_33 : decode cX7_isPlain 33 = .ok (.getfield 24, 3) := by decide +kernel
theorem dX7_isPlain_36 : decode cX7_isPlain 36 = .ok (.iload_n 3, 1) := by decide +kernel
theorem dX7_isPlain_37 : decode cX7_isPlain 37 = .ok (.iaload, 1) := by decide +kernel
theorem dX7_isPlain_38 : decode cX7_isPlain 38 = .ok (.imul, 1) := by decide +kernel
theorem dX7_isPlain_39 : decode cX7_isPlain 39 = .ok (.iaload, 1) := by decide +kernel
theorem dX7_isPlain_40 : decode cX7_isPlain 40 = .ok (.iconst 1, 1) := by decide +kernel
theorem dX7_isPlain_41 : decode cX7_isPlain 41 = .ok (.if_icmp .eq 7, 3) := by decide +kernel
theorem dX7_isPlain_44 : decode cX7_isPlain 44 = .ok (.iconst 1, 1) := by decide +kernel
theorem dX7_isPlain_45 : decode cX7_isPlain 45 = .ok (.goto 4, 3) := by decide +kernel
theorem dX7_isPlain_48 : decode cX7_isPlain 48 = .ok (.iconst 0, 1) := by decide +kernel
theorem dX7_isPlain_49 : decode cX7_isPlain 49 = .ok (.ireturn, 1) := by decide +kernel
theorem dX7_isPlain_50 : decode cX7_isPlain 50 = .ok (.aload_n 0, 1) := by decide +kernel
theorem dX7_isPlain_51 : decode cX7_isPlain 51 = .ok (.getfield 27, 3) := by decide +kernel
theorem dX7_isPlain_54 : decode cX7_isPlain 54 = .ok (.iload_n 3, 1) := by decide +kernel
theorem dX7_isPlain_55 : decode cX7_isPlain 55 = .ok (.iaload, 1) := by decide +kernel
theorem dX7_isPlain_56 : decode cX7_isPlain 56 = .ok (.ifCond .eq 13, 3) := by decide +kernel
theorem dX7_isPlain_59 : decode cX7_isPlain 59 = .ok (.aload_n 0, 1) := by decide +kernel
theorem dX7_isPlain_60 : decode cX7_isPlain 60 = .ok (.getfield 27, 3) := by decide +kernel
theorem dX7_isPlain_63 : decode cX7_isPlain 63 = .ok (.iload_n 3, 1) := by decide +kernel
theorem dX7_isPlain_64 : decode cX7_isPlain 64 = .ok (.iaload, 1) := by decide +kernel
theorem dX7_isPlain_65 : decode cX7_isPlain 65 = .ok (.iconst 3, 1) := by decide +kernel
theorem dX7_isPlain_66 : decode cX7_isPlain 66 = .ok (.if_icmp .ne 7, 3) := by decide +kernel
theorem dX7_isPlain_69 : decode cX7_isPlain 69 = .ok (.iconst 1, 1) := by decide +kernel
theorem dX7_isPlain_70 : decode cX7_isPlain 70 = .ok (.goto 4, 3) := by decide +kernel
theorem dX7_isPlain_73 : decode cX7_isPlain 73 = .ok (.iconst 0, 1) := by decide +kernel
theorem dX7_isPlain_74 : decode cX7_isPlain 74 = .ok (.ireturn, 1) := by decide +kernel
theorem dX7_couldBe_0 : decode cX7_couldBe 0 = .ok (.iconst (-1), 1) := by decide +kernel
theorem dX7_couldBe_1 : decode cX7_couldBe 1 = .ok (.istore 5, 2) := by decide +kernel
theorem dX7_couldBe_3 : decode cX7_couldBe 3 = .ok (.iconst 0, 1) := by decide +kernel
theorem dX7_couldBe_4 : decode cX7_couldBe 4 = .ok (.istore 6, 2) := by decide +kernel
theorem dX7_couldBe_6 : decode cX7_couldBe 6 = .ok (.iload 6, 2) := by decide +kernel
theorem dX7_couldBe_8 : decode cX7_couldBe 8 = .ok (.aload_n 0, 1) := by decide +kernel
theorem dX7_couldBe_9 : decode cX7_couldBe 9 = .ok (.getfield 9, 3) := by decide +kernel
theorem dX7_couldBe_12 : decode cX7_couldBe 12 = .ok (.iload_n 1, 1) := by decide +kernel
theorem dX7_couldBe_13 : decode cX7_couldBe 13 = .ok (.iaload, 1) := by decide +kernel
theorem dX7_couldBe_14 : decode cX7_couldBe 14 = .ok (.if_icmp .ge 194, 3) := by decide +kernel
theorem dX7_couldBe_17 : decode cX7_couldBe 17 = .ok (.iload_n 3, 1) := by decide +kernel
theorem dX7_couldBe_18 : decode cX7_couldBe 18 = .ok (.iload 6, 2) := by decide +kernel
theorem dX7_couldBe_20 : decode cX7_couldBe 20 = .ok (.ishr, 1) := by decide +kernel
theorem dX7_couldBe_21 : decode cX7_couldBe 21 = .ok (.iconst 1, 1) := by decide +kernel
theorem dX7_couldBe_22 : decode cX7_couldBe 22 = .ok (.iand, 1) := by decide +kernel
theorem dX7_couldBe_23 : decode cX7_couldBe 23 = .ok (.ifCond .ne 6, 3) := by decide +kernel
theorem dX7_couldBe_26 : decode cX7_couldBe 26 = .ok (.goto 176, 3) := by decide +kernel
theorem dX7_couldBe_29 : decode cX7_couldBe 29 = .ok (.aload_n 0, 1) := by decide +kernel
theorem dX7_couldBe_30 : decode cX7_couldBe 30 = .ok (.getfield 51, 3) := by decide +kernel
theorem dX7_couldBe_33 : decode cX7_couldBe 33 = .ok (.iload_n 1, 1) := by decide +kernel
theorem dX7_couldBe_34 : decode cX7_couldBe 34 = .ok (.iload 4, 2) := by decide +kernel
theorem dX7_couldBe_36 : decode cX7_couldBe 36 = .ok (.iload 6, 2) := by decide +kernel
theorem dX7_couldBe_38 : decode cX7_couldBe 38 = .ok (.invokestatic 127, 3) := by decide +kernel
theorem dX7_couldBe_41 : decode cX7_couldBe 41 = .ok (.iaload, 1) := by decide +kernel
theorem dX7_couldBe_42 : decode cX7_couldBe 42 = .ok (.istore 7, 2) := by decide +kernel
theorem dX7_couldBe_44 : decode cX7_couldBe 44 = .ok (.aload_n 0, 1) := by decide +kernel
theorem dX7_couldBe_45 : decode cX7_couldBe 45 = .ok (.iload_n 1, 1) := by decide +kernel
theorem dX7_couldBe_46 : decode cX7_couldBe 46 = .ok (.iload 6, 2) := by decide +kernel
theorem dX7_couldBe_48 : decode cX7_couldBe 48 = .ok (.invokevirtual 192, 3) := by decide +kernel
theorem dX7_couldBe_51 : decode cX7_couldBe 51 = .ok (.ifCond .eq 22, 3) := by decide +kernel
theorem dX7_couldBe_54 : decode cX7_couldBe 54 = .ok (.iload 7, 2) := by decide +kernel
theorem dX7_couldBe_56 : decode cX7_couldBe 56 = .ok (.aload_n 0, 1) := by decide +kernel
theorem dX7_couldBe_57 : decode cX7_couldBe 57 = .ok (.getfield 51, 3) := by decide +kernel
theorem dX7_couldBe_60 : decode cX7_couldBe 60 = .ok (.iload_n 1, 1) := by decide +kernel
theorem dX7_couldBe_61 : decode cX7_couldBe 61 = .ok (.iload_n 2, 1) := by decide +kernel
theorem dX7_couldBe_62 : decode cX7_couldBe 62 = .ok (.iload 6, 2) := by decide +kernel
theorem dX7_couldBe_64 : decode cX7_couldBe 64 = .ok (.invokestatic 127, 3) := by decide +kernel
theorem dX7_couldBe_67 : decode cX7_couldBe 67 = .ok (.iaload, 1) := by decide +kernel
theorem dX7_couldBe_68 : decode cX7_couldBe 68 = .ok (.if_icmp .eq 5, 3) := by decide +kernel
theorem dX7_couldBe_71 : decode cX7_couldBe 71 = .ok (.iconst 0, 1) := by decide +kernel
theorem dX7_couldBe_72 : decode cX7_couldBe 72 = .ok (.ireturn, 1) := by decide +kernel
theorem dX7_couldBe_73 : decode cX7_couldBe 73 = .ok (.aload_n 0, 1) := by decide +kernel
theorem dX7_couldBe_74 : decode cX7_couldBe 74 = .ok (.getfield 27, 3) := by decide +kernel
theorem dX7_couldBe_77 : decode cX7_couldBe 77 = .ok (.bipush 6, 2) := by decide +kernel
theorem dX7_couldBe_79 : decode cX7_couldBe 79 = .ok (.iload_n 1, 1) := by decide +kernel
theorem dX7_couldBe_80 : decode cX7_couldBe 80 = .ok (.imul, 1) := by decide +kernel
theorem dX7_couldBe_81 : decode cX7_couldBe 81 = .ok (.iload 6, 2) := by decide +kernel
theorem dX7_couldBe_83 : decode cX7_couldBe 83 = .ok (.iadd, 1) := by decide +kernel
theorem dX7_couldBe_84 : decode cX7_couldBe 84 = .ok (.iaload, 1) := by decide +kernel
theorem dX7_couldBe_85 : decode cX7_couldBe 85 = .ok (.iconst 2, 1) := by decide +kernel
theorem dX7_couldBe_86 : decode cX7_couldBe 86 = .ok (.if_icmp .eq 6, 3) := by decide +kernel
theorem dX7_couldBe_89 : decode cX7_couldBe 89 = .ok (.goto 113, 3) := by decide +kernel
theorem dX7_couldBe_92 : decode cX7_couldBe 92 = .ok (.aload_n 0, 1) := by decide +kernel
theorem dX7_couldBe_93 : decode cX7_couldBe 93 = .ok (.getfield 45, 3) := by decide +kernel
theorem dX7_couldBe_96 : decode cX7_couldBe 96 = .ok (.iload_n 1, 1) := by decide +kernel
theorem dX7_couldBe_97 : decode cX7_couldBe 97 = .ok (.iload_n 2, 1) := by decide +kernel
theorem dX7_couldBe_98 : decode cX7_couldBe 98 = .ok (.iload 6, 2) := by decide +kernel
theorem dX7_couldBe_100 : decode cX7_couldBe 100 = .ok (.invokestatic 127, 3) := by decide +kernel
theorem dX7_couldBe_103 : decode cX7_couldBe 103 = .ok (.iaload, 1) := by decide +kernel
theorem dX7_couldBe_104 : decode cX7_couldBe 104 = .ok (.istore 8, 2) := by decide +kernel
theorem dX7_couldBe_106 : decode cX7_couldBe 106 = .ok (.iload 7, 2) := by decide +kernel
theorem dX7_couldBe_108 : decode cX7_couldBe 108 = .ok (.ldc 119, 2) := by decide +kernel
theorem dX7_couldBe_110 : decode cX7_couldBe 110 = .ok (.if_icmp .ne 7, 3) := by decide +kernel
theorem dX7_couldBe_113 : decode cX7_couldBe 113 = .ok (.iconst 1, 1) := by decide +kernel
theorem dX7_couldBe_114 : decode cX7_couldBe 114 = .ok (.goto 4, 3) := by decide +kernel
theorem dX7_couldBe_117 : decode cX7_couldBe 117 = .ok (.iconst 0, 1) := by decide +kernel
theorem dX7_couldBe_118 : decode cX7_couldBe 118 = .ok (.iload 8, 2) := by decide +kernel
theorem dX7_couldBe_120 : decode cX7_couldBe 120 = .ok (.ldc 119, 2) := by decide +kernel
theorem dX7_couldBe_122 : decode cX7_couldBe 122 = .ok (.if_icmp .ne 7, 3) := by decide +kernel
theorem dX7_couldBe_125 : decode cX7_couldBe 125 = .ok (.iconst 1, 1) := by decide +kernel
theorem dX7_couldBe_126 : decode cX7_couldBe 126 = .ok (.goto 4, 3) := by decide +kernel
theorem dX7_couldBe_129 : decode cX7_couldBe 129 = .ok (.iconst 0, 1) := by decide +kernel
theorem dX7_couldBe_130 : decode cX7_couldBe 130 = .ok (.if_icmp .eq 5, 3) := by decide +kernel
theorem dX7_couldBe_133 : decode cX7_couldBe 133 = .ok (.iconst 0, 1) := by decide +kernel
theorem dX7_couldBe_134 : decode cX7_couldBe 134 = .ok (.ireturn, 1) := by decide +kernel
theorem dX7_couldBe_135 : decode cX7_couldBe 135 = .ok (.iload 7, 2) := by decide +kernel
theorem dX7_couldBe_137 : decode cX7_couldBe 137 = .ok (.ldc 119, 2) := by decide +kernel
theorem dX7_couldBe_139 : decode cX7_couldBe 139 = .ok (.if_icmp .ne 6, 3) := by decide +kernel
theorem dX7_couldBe_142 : decode cX7_couldBe 142 = .ok (.goto 60, 3) := by decide +kernel
theorem dX7_couldBe_145 : decode cX7_couldBe 145 = .ok (.iload 5, 2) := by decide +kernel
theorem dX7_couldBe_147 : decode cX7_couldBe 147 = .ok (.iconst (-1), 1) := by decide +kernel
theorem dX7_couldBe_148 : decode cX7_couldBe 148 = .ok (.if_icmp .eq 39, 3) := by decide +kernel
theorem dX7_couldBe_151 : decode cX7_couldBe 151 = .ok (.iload 7, 2) := by decide +kernel
theorem dX7_couldBe_153 : decode cX7_couldBe 153 = .ok (.aload_n 0, 1) := by decide +kernel
theorem dX7_couldBe_154 : decode cX7_couldBe 154 = .ok (.getfield 51, 3) := by decide +kernel
theorem dX7_couldBe_157 : decode cX7_couldBe 157 = .ok (.iload_n 1, 1) := by decide +kernel
theorem dX7_couldBe_158 : decode cX7_couldBe 158 = .ok (.iload 4, 2) := by decide +kernel
theorem dX7_couldBe_160 : decode cX7_couldBe 160 = .ok (.iload 5, 2) := by decide +kernel
theorem dX7_couldBe_162 : decode cX7_couldBe 162 = .ok (.invokestatic 127, 3) := by decide +kernel
theorem dX7_couldBe_165 : decode cX7_couldBe 165 = .ok (.iaload, 1) := by decide +kernel
theorem dX7_couldBe_166 : decode cX7_couldBe 166 = .ok (.isub, 1) := by decide +kernel
theorem dX7_couldBe_167 : decode cX7_couldBe 167 = .ok (.iload 8, 2) := by decide +kernel
theorem dX7_couldBe_169 : decode cX7_couldBe 169 = .ok (.aload_n 0, 1) := by decide +kernel
theorem dX7_couldBe_170 : decode cX7_couldBe 170 = .ok (.getfield 45, 3) := by decide +kernel
theorem dX7_couldBe_173 : decode cX7_couldBe 173 = .ok (.iload_n 1, 1) := by decide +kernel
theorem dX7_couldBe_174 : decode cX7_couldBe 174 = .ok (.iload_n 2, 1) := by decide +kernel
theorem dX7_couldBe_175 : decode cX7_couldBe 175 = .ok (.iload 5, 2) := by decide +kernel
theorem dX7_couldBe_177 : decode cX7_couldBe 177 = .ok (.invokestatic 127, 3) := by decide +kernel
theorem dX7_couldBe_180 : decode cX7_couldBe 180 = .ok (.iaload, 1) := by decide +kernel
theorem dX7_couldBe_181 : decode cX7_couldBe 181 = .ok (.isub, 1) := by decide +kernel
theorem dX7_couldBe_182 : decode cX7_couldBe 182 = .ok (.if_icmp .eq 5, 3) := by decide +kernel
theorem dX7_couldBe_185 : decode cX7_couldBe 185 = .ok (.iconst 0, 1) := by decide +kernel
theorem dX7_couldBe_186 : decode cX7_couldBe 186 = .ok (.ireturn, 1) := by decide +kernel
theorem dX7_couldBe_187 : decode cX7_couldBe 187 = .ok (.iload 5, 2) := by decide +kernel
theorem dX7_couldBe_189 : decode cX7_couldBe 189 = .ok (.iconst (-1), 1) := by decide +kernel
theorem dX7_couldBe_190 : decode cX7_couldBe 190 = .ok (.if_icmp .ne 8, 3) := by decide +kernel
theorem dX7_couldBe_193 : decode cX7_couldBe 193 = .ok (.iload 6, 2) := by decide +kernel
theorem dX7_couldBe_195 : decode cX7_couldBe 195 = .ok (.goto 5, 3) := by decide +kernel
theorem dX7_couldBe_198 : decode cX7_couldBe 198 = .ok (.iload 5, 2) := by decide +kernel
theorem dX7_couldBe_200 : decode cX7_couldBe 200 = .ok (.istore 5, 2) := by decide +kernel
theorem dX7_couldBe_202 : decode cX7_couldBe 202 = .ok (.iinc 6 1, 3) := by decide +kernel
theorem dX7_couldBe_205 : decode cX7_couldBe 205 = .ok (.goto (-199), 3) := by decide +kernel
theorem dX7_couldBe_208 : decode cX7_couldBe 208 = .ok (.iconst 1, 1) := by decide +kernel
theorem dX7_couldBe_209 : decode cX7_couldBe 209 = .ok (.ireturn, 1) := by decide +kernel
theorem dX7_couldOf_0 : decode cX7_couldOf 0 = .ok (.iconst 0, 1) := by decide +kernel
theorem dX7_couldOf_1 : decode cX7_couldOf 1 = .ok (.istore 4, 2) := by decide +kernel
theorem dX7_couldOf_3 : decode cX7_couldOf 3 = .ok (.iconst 0, 1) := by decide +kernel
theorem dX7_couldOf_4 : decode cX7_couldOf 4 = .ok (.istore 5, 2) := by decide +kernel
theorem dX7_couldOf_6 : decode cX7_couldOf 6 = .ok (.iload 5, 2) := by decide +kernel
theorem dX7_couldOf_8 : decode cX7_couldOf 8 = .ok (.aload_n 0, 1) := by decide +kernel
theorem dX7_couldOf_9 : decode cX7_couldOf 9 = .ok (.getfield 15, 3) := by decide +kernel
theorem dX7_couldOf_12 : decode cX7_couldOf 12 = .ok (.iload_n 1, 1) := by decide +kernel
theorem dX7_couldOf_13 : decode cX7_couldOf 13 = .ok (.iaload, 1) := by decide +kernel
theorem dX7_couldOf_14 : decode cX7_couldOf 14 = .ok (.if_icmp .ge 31, 3) := by decide +kernel
theorem dX7_couldOf_17 : decode cX7_couldOf 17 = .ok (.iload 4, 2) := by decide +kernel
theorem dX7_couldOf_19 : decode cX7_couldOf 19 = .ok (.aload_n 0, 1) := by decide +kernel
theorem dX7_couldOf_20 : decode cX7_couldOf 20 = .ok (.iload_n 1, 1) := by decide +kernel
theorem dX7_couldOf_21 : decode cX7_couldOf 21 = .ok (.iload_n 2, 1) := by decide +kernel
theorem dX7_couldOf_22 : decode cX7_couldOf 22 = .ok (.iload_n 3, 1) := by decide +kernel
theorem dX7_couldOf_23 : decode cX7_couldOf 23 = .ok (.iload 5, 2) := by decide +kernel
theorem dX7_couldOf_25 : decode cX7_couldOf 25 = .ok (.invokevirtual 195, 3) := by decide +kernel
theorem dX7_couldOf_28 : decode cX7_couldOf 28 = .ok (.ifCond .eq 7, 3) := by decide +kernel
end
section
theorem dX7_couldOf_31 : decode cX7_couldOf 31 = .ok (.iconst 1, 1) := by decide +kernel
theorem dX7_couldOf_32 : decode cX7_couldOf 32 = .ok (.goto 4, 3) := by decide +kernel
theorem dX7_couldOf_35 : decode cX7_couldOf 35 = .ok (.iconst 0, 1) := by decide +kernel
theorem dX7_couldOf_36 : decode cX7_couldOf 36 = .ok (.iadd, 1) := by decide +kernel
theorem dX7_couldOf_37 : decode cX7_couldOf 37 = .ok (.istore 4, 2) := by decide +kernel
theorem dX7_couldOf_39 : decode cX7_couldOf 39 = .ok (.iinc 5 1, 3) := by decide +kernel
theorem dX7_couldOf_42 : decode cX7_couldOf 42 = .ok (.goto (-36), 3) := by decide +kernel
theorem dX7_couldOf_45 : decode cX7_couldOf 45 = .ok (.iload 4, 2) := by decide +kernel
theorem dX7_couldOf_47 : decode cX7_couldOf 47 = .ok (.ireturn, 1) := by decide +kernel
theorem dX7_could_0 : decode cX7_could 0 = .ok (.aload_n 0, 1) := by decide +kernel
theorem dX7_could_1 : decode cX7_could 1 = .ok (.iload_n 1, 1) := by decide +kernel
theorem dX7_could_2 : decode cX7_could 2 = .ok (.iload_n 2, 1) := by decide +kernel
theorem dX7_could_3 : decode cX7_could 3 = .ok (.invokevirtual 189, 3) := by decide +kernel
theorem dX7_could_6 : decode cX7_could 6 = .ok (.ifCond .ne 5, 3) := by decide +kernel
theorem dX7_could_9 : decode cX7_could 9 = .ok (.iconst (-1), 1) := by decide +kernel
theorem dX7_could_10 : decode cX7_could 10 = .ok (.ireturn, 1) := by decide +kernel
theorem dX7_could_11 : decode cX7_could 11 = .ok (.aload_n 0, 1) := by decide +kernel
theorem dX7_could_12 : decode cX7_could 12 = .ok (.iload_n 1, 1) := by decide +kernel
theorem dX7_could_13 : decode cX7_could 13 = .ok (.iload_n 3, 1) := by decide +kernel
theorem dX7_could_14 : decode cX7_could 14 = .ok (.invokevirtual 199, 3) := by decide +kernel
theorem dX7_could_17 : decode cX7_could 17 = .ok (.ifCond .ne 6, 3) := by decide +kernel
theorem dX7_could_20 : decode cX7_could 20 = .ok (.bipush (-2), 2) := by decide +kernel
theorem dX7_could_22 : decode cX7_could 22 = .ok (.ireturn, 1) := by decide +kernel
theorem dX7_could_23 : decode cX7_could 23 = .ok (.aload_n 0, 1) := by decide +kernel
theorem dX7_could_24 : decode cX7_could 24 = .ok (.iload_n 1, 1) := by decide +kernel
theorem dX7_could_25 : decode cX7_could 25 = .ok (.invokevirtual 186, 3) := by decide +kernel
theorem dX7_could_28 : decode cX7_could 28 = .ok (.aload_n 0, 1) := by decide +kernel
theorem dX7_could_29 : decode cX7_could 29 = .ok (.iload_n 1, 1) := by decide +kernel
theorem dX7_could_30 : decode cX7_could 30 = .ok (.iload_n 2, 1) := by decide +kernel
theorem dX7_could_31 : decode cX7_could 31 = .ok (.iload_n 3, 1) := by decide +kernel
theorem dX7_could_32 : decode cX7_could 32 = .ok (.invokevirtual 202, 3) := by decide +kernel
theorem dX7_could_35 : decode cX7_could 35 = .ok (.ireturn, 1) := by decide +kernel
theorem dX7_alikeOf_0 : decode cX7_alikeOf 0 = .ok (.aload_n 0, 1) := by decide +kernel
theorem dX7_alikeOf_1 : decode cX7_alikeOf 1 = .ok (.iload_n 1, 1) := by decide +kernel
theorem dX7_alikeOf_2 : decode cX7_alikeOf 2 = .ok (.invokevirtual 186, 3) := by decide +kernel
theorem dX7_alikeOf_5 : decode cX7_alikeOf 5 = .ok (.bipush 13, 2) := by decide +kernel
theorem dX7_alikeOf_7 : decode cX7_alikeOf 7 = .ok (.istore_n 3, 1) := by decide +kernel
theorem dX7_alikeOf_8 : decode cX7_alikeOf 8 = .ok (.iconst 0, 1) := by decide +kernel
theorem dX7_alikeOf_9 : decode cX7_alikeOf 9 = .ok (.istore 4, 2) := by decide +kernel
theorem dX7_alikeOf_11 : decode cX7_alikeOf 11 = .ok (.iload 4, 2) := by decide +kernel
theorem dX7_alikeOf_13 : decode cX7_alikeOf 13 = .ok (.aload_n 0, 1) := by decide +kernel
theorem dX7_alikeOf_14 : decode cX7_alikeOf 14 = .ok (.getfield 15, 3) := by decide +kernel
theorem dX7_alikeOf_17 : decode cX7_alikeOf 17 = .ok (.iload_n 1, 1) := by decide +kernel
theorem dX7_alikeOf_18 : decode cX7_alikeOf 18 = .ok (.iaload, 1) := by decide +kernel
theorem dX7_alikeOf_19 : decode cX7_alikeOf 19 = .ok (.if_icmp .ge 32, 3) := by decide +kernel
theorem dX7_alikeOf_22 : decode cX7_alikeOf 22 = .ok (.aload_n 0, 1) := by decide +kernel
theorem dX7_alikeOf_23 : decode cX7_alikeOf 23 = .ok (.iload_n 1, 1) := by decide +kernel
theorem dX7_alikeOf_24 : decode cX7_alikeOf 24 = .ok (.iload 4, 2) := by decide +kernel
theorem dX7_alikeOf_26 : decode cX7_alikeOf 26 = .ok (.iload_n 2, 1) := by decide +kernel
theorem dX7_alikeOf_27 : decode cX7_alikeOf 27 = .ok (.invokevirtual 202, 3) := by decide +kernel
theorem dX7_alikeOf_30 : decode cX7_alikeOf 30 = .ok (.istore 5, 2) := by decide +kernel
theorem dX7_alikeOf_32 : decode cX7_alikeOf 32 = .ok (.iload 5, 2) := by decide +kernel
theorem dX7_alikeOf_34 : decode cX7_alikeOf 34 = .ok (.iload_n 3, 1) := by decide +kernel
theorem dX7_alikeOf_35 : decode cX7_alikeOf 35 = .ok (.if_icmp .ge 8, 3) := by decide +kernel
theorem dX7_alikeOf_38 : decode cX7_alikeOf 38 = .ok (.iload 5, 2) := by decide +kernel
theorem dX7_alikeOf_40 : decode cX7_alikeOf 40 = .ok (.goto 4, 3) := by decide +kernel
theorem dX7_alikeOf_43 : decode cX7_alikeOf 43 = .ok (.iload_n 3, 1) := by decide +kernel
theorem dX7_alikeOf_44 : decode cX7_alikeOf 44 = .ok (.istore_n 3, 1) := by decide +kernel
theorem dX7_alikeOf_45 : decode cX7_alikeOf 45 = .ok (.iinc 4 1, 3) := by decide +kernel
theorem dX7_alikeOf_48 : decode cX7_alikeOf 48 = .ok (.goto (-37), 3) := by decide +kernel
theorem dX7_alikeOf_51 : decode cX7_alikeOf 51 = .ok (.iload_n 3, 1) := by decide +kernel
theorem dX7_alikeOf_52 : decode cX7_alikeOf 52 = .ok (.ireturn, 1) := by decide +kernel
theorem dX7_alike_0 : decode cX7_alike 0 = .ok (.aload_n 0, 1) := by decide +kernel
theorem dX7_alike_1 : decode cX7_alike 1 = .ok (.iload_n 1, 1) := by decide +kernel
theorem dX7_alike_2 : decode cX7_alike 2 = .ok (.invokevirtual 99, 3) := by decide +kernel
theorem dX7_alike_5 : decode cX7_alike 5 = .ok (.ifCond .eq 12, 3) := by decide +kernel
theorem dX7_alike_8 : decode cX7_alike 8 = .ok (.aload_n 0, 1) := by decide +kernel
theorem dX7_alike_9 : decode cX7_alike 9 = .ok (.getfield 15, 3) := by decide +kernel
theorem dX7_alike_12 : decode cX7_alike 12 = .ok (.iload_n 1, 1) := by decide +kernel
theorem dX7_alike_13 : decode cX7_alike 13 = .ok (.iaload, 1) := by decide +kernel
theorem dX7_alike_14 : decode cX7_alike 14 = .ok (.ifCond .ne 5, 3) := by decide +kernel
theorem dX7_alike_17 : decode cX7_alike 17 = .ok (.iconst (-1), 1) := by decide +kernel
theorem dX7_alike_18 : decode cX7_alike 18 = .ok (.ireturn, 1) := by decide +kernel
theorem dX7_alike_19 : decode cX7_alike 19 = .ok (.aload_n 0, 1) := by decide +kernel
theorem dX7_alike_20 : decode cX7_alike 20 = .ok (.iload_n 1, 1) := by decide +kernel
theorem dX7_alike_21 : decode cX7_alike 21 = .ok (.iload_n 2, 1) := by decide +kernel
theorem dX7_alike_22 : decode cX7_alike 22 = .ok (.invokevirtual 199, 3) := by decide +kernel
theorem dX7_alike_25 : decode cX7_alike 25 = .ok (.ifCond .eq 12, 3) := by decide +kernel
theorem dX7_alike_28 : decode cX7_alike 28 = .ok (.aload_n 0, 1) := by decide +kernel
theorem dX7_alike_29 : decode cX7_alike 29 = .ok (.iload_n 1, 1) := by decide +kernel
theorem dX7_alike_30 : decode cX7_alike 30 = .ok (.iload_n 2, 1) := by decide +kernel
theorem dX7_alike_31 : decode cX7_alike 31 = .ok (.invokevirtual 205, 3) := by decide +kernel
theorem dX7_alike_34 : decode cX7_alike 34 = .ok (.goto 5, 3) := by decide +kernel
theorem dX7_alike_37 : decode cX7_alike 37 = .ok (.bipush (-2), 2) := by decide +kernel
theorem dX7_alike_39 : decode cX7_alike 39 = .ok (.ireturn, 1) := by decide +kernel
theorem dX7_sure_0 : decode cX7_sure 0 = .ok (.aload_n 0, 1) := by decide +kernel
theorem dX7_sure_1 : decode cX7_sure 1 = .ok (.iload_n 1, 1) := by decide +kernel
theorem dX7_sure_2 : decode cX7_sure 2 = .ok (.iload_n 2, 1) := by decide +kernel
theorem dX7_sure_3 : decode cX7_sure 3 = .ok (.invokevirtual 189, 3) := by decide +kernel
theorem dX7_sure_6 : decode cX7_sure 6 = .ok (.ifCond .eq 13, 3) := by decide +kernel
theorem dX7_sure_9 : decode cX7_sure 9 = .ok (.aload_n 0, 1) := by decide +kernel
theorem dX7_sure_10 : decode cX7_sure 10 = .ok (.iload_n 1, 1) := by decide +kernel
theorem dX7_sure_11 : decode cX7_sure 11 = .ok (.iload 4, 2) := by decide +kernel
theorem dX7_sure_13 : decode cX7_sure 13 = .ok (.invokevirtual 131, 3) := by decide +kernel
theorem dX7_sure_16 : decode cX7_sure 16 = .ok (.ifCond .ne 5, 3) := by decide +kernel
theorem dX7_sure_19 : decode cX7_sure 19 = .ok (.iconst (-1), 1) := by decide +kernel
theorem dX7_sure_20 : decode cX7_sure 20 = .ok (.ireturn, 1) := by decide +kernel
theorem dX7_sure_21 : decode cX7_sure 21 = .ok (.aload_n 0, 1) := by decide +kernel
theorem dX7_sure_22 : decode cX7_sure 22 = .ok (.iload_n 1, 1) := by decide +kernel
theorem dX7_sure_23 : decode cX7_sure 23 = .ok (.iload_n 3, 1) := by decide +kernel
theorem dX7_sure_24 : decode cX7_sure 24 = .ok (.invokevirtual 199, 3) := by decide +kernel
theorem dX7_sure_27 : decode cX7_sure 27 = .ok (.ifCond .ne 6, 3) := by decide +kernel
theorem dX7_sure_30 : decode cX7_sure 30 = .ok (.bipush (-2), 2) := by decide +kernel
theorem dX7_sure_32 : decode cX7_sure 32 = .ok (.ireturn, 1) := by decide +kernel
theorem dX7_sure_33 : decode cX7_sure 33 = .ok (.aload_n 0, 1) := by decide +kernel
theorem dX7_sure_34 : decode cX7_sure 34 = .ok (.iload_n 1, 1) := by decide +kernel
theorem dX7_sure_35 : decode cX7_sure 35 = .ok (.invokevirtual 186, 3) := by decide +kernel
theorem dX7_sure_38 : decode cX7_sure 38 = .ok (.iconst (-1), 1) := by decide +kernel
theorem dX7_sure_39 : decode cX7_sure 39 = .ok (.istore 5, 2) := by decide +kernel
theorem dX7_sure_41 : decode cX7_sure 41 = .ok (.iconst 0, 1) := by decide +kernel
theorem dX7_sure_42 : decode cX7_sure 42 = .ok (.istore 6, 2) := by decide +kernel
theorem dX7_sure_44 : decode cX7_sure 44 = .ok (.iload 6, 2) := by decide +kernel
theorem dX7_sure_46 : decode cX7_sure 46 = .ok (.aload_n 0, 1) := by decide +kernel
theorem dX7_sure_47 : decode cX7_sure 47 = .ok (.getfield 15, 3) := by decide +kernel
theorem dX7_sure_50 : decode cX7_sure 50 = .ok (.iload_n 1, 1) := by decide +kernel
theorem dX7_sure_51 : decode cX7_sure 51 = .ok (.iaload, 1) := by decide +kernel
theorem dX7_sure_52 : decode cX7_sure 52 = .ok (.if_icmp .ge 65, 3) := by decide +kernel
theorem dX7_sure_55 : decode cX7_sure 55 = .ok (.aload_n 0, 1) := by decide +kernel
theorem dX7_sure_56 : decode cX7_sure 56 = .ok (.iload_n 1, 1) := by decide +kernel
theorem dX7_sure_57 : decode cX7_sure 57 = .ok (.iload_n 2, 1) := by decide +kernel
theorem dX7_sure_58 : decode cX7_sure 58 = .ok (.iload_n 3, 1) := by decide +kernel
theorem dX7_sure_59 : decode cX7_sure 59 = .ok (.iload 6, 2) := by decide +kernel
theorem dX7_sure_61 : decode cX7_sure 61 = .ok (.invokevirtual 195, 3) := by decide +kernel
theorem dX7_sure_64 : decode cX7_sure 64 = .ok (.ifCond .ne 6, 3) := by decide +kernel
theorem dX7_sure_67 : decode cX7_sure 67 = .ok (.goto 44, 3) := by decide +kernel
theorem dX7_sure_70 : decode cX7_sure 70 = .ok (.iload 5, 2) := by decide +kernel
theorem dX7_sure_72 : decode cX7_sure 72 = .ok (.iconst (-1), 1) := by decide +kernel
theorem dX7_sure_73 : decode cX7_sure 73 = .ok (.if_icmp .eq 34, 3) := by decide +kernel
theorem dX7_sure_76 : decode cX7_sure 76 = .ok (.aload_n 0, 1) := by decide +kernel
theorem dX7_sure_77 : decode cX7_sure 77 = .ok (.getfield 51, 3) := by decide +kernel
theorem dX7_sure_80 : decode cX7_sure 80 = .ok (.iload_n 1, 1) := by decide +kernel
theorem dX7_sure_81 : decode cX7_sure 81 = .ok (.iload 6, 2) := by decide +kernel
theorem dX7_sure_83 : decode cX7_sure 83 = .ok (.iload 4, 2) := by decide +kernel
theorem dX7_sure_85 : decode cX7_sure 85 = .ok (.invokestatic 127, 3) := by decide +kernel
theorem dX7_sure_88 : decode cX7_sure 88 = .ok (.iaload, 1) := by decide +kernel
theorem dX7_sure_89 : decode cX7_sure 89 = .ok (.aload_n 0, 1) := by decide +kernel
theorem dX7_sure_90 : decode cX7_sure 90 = .ok (.getfield 51, 3) := by decide +kernel
theorem dX7_sure_93 : decode cX7_sure 93 = .ok (.iload_n 1, 1) := by decide +kernel
theorem dX7_sure_94 : decode cX7_sure 94 = .ok (.iload 5, 2) := by decide +kernel
theorem dX7_sure_96 : decode cX7_sure 96 = .ok (.iload 4, 2) := by decide +kernel
theorem dX7_sure_98 : decode cX7_sure 98 = .ok (.invokestatic 127, 3) := by decide +kernel
theorem dX7_sure_101 : decode cX7_sure 101 = .ok (.iaload, 1) := by decide +kernel
theorem dX7_sure_102 : decode cX7_sure 102 = .ok (.if_icmp .eq 5, 3) := by decide +kernel
theorem dX7_sure_105 : decode cX7_sure 105 = .ok (.iconst 0, 1) := by decide +kernel
theorem dX7_sure_106 : decode cX7_sure 106 = .ok (.ireturn, 1) := by decide +kernel
theorem dX7_sure_107 : decode cX7_sure 107 = .ok (.iload 6, 2) := by decide +kernel
theorem dX7_sure_109 : decode cX7_sure 109 = .ok (.istore 5, 2) := by decide +kernel
theorem dX7_sure_111 : decode cX7_sure 111 = .ok (.iinc 6 1, 3) := by decide +kernel
theorem dX7_sure_114 : decode cX7_sure 114 = .ok (.goto (-70), 3) := by decide +kernel
theorem dX7_sure_117 : decode cX7_sure 117 = .ok (.iconst 1, 1) := by decide +kernel
theorem dX7_sure_118 : decode cX7_sure 118 = .ok (.ireturn, 1) := by decide +kernel
theorem dX7_lossOf_0 : decode cX7_lossOf 0 = .ok (.iconst 0, 1) := by decide +kernel
theorem dX7_lossOf_1 : decode cX7_lossOf 1 = .ok (.istore_n 3, 1) := by decide +kernel
theorem dX7_lossOf_2 : decode cX7_lossOf 2 = .ok (.iconst 0, 1) := by decide +kernel
theorem dX7_lossOf_3 : decode cX7_lossOf 3 = .ok (.istore 4, 2) := by decide +kernel
theorem dX7_lossOf_5 : decode cX7_lossOf 5 = .ok (.iload 4, 2) := by decide +kernel
theorem dX7_lossOf_7 : decode cX7_lossOf 7 = .ok (.aload_n 0, 1) := by decide +kernel
theorem dX7_lossOf_8 : decode cX7_lossOf 8 = .ok (.getfield 15, 3) := by decide +kernel
theorem dX7_lossOf_11 : decode cX7_lossOf 11 = .ok (.iload_n 1, 1) := by decide +kernel
theorem dX7_lossOf_12 : decode cX7_lossOf 12 = .ok (.iaload, 1) := by decide +kernel
theorem dX7_lossOf_13 : decode cX7_lossOf 13 = .ok (.if_icmp .ge 52, 3) := by decide +kernel
theorem dX7_lossOf_16 : decode cX7_lossOf 16 = .ok (.aload_n 0, 1) := by decide +kernel
theorem dX7_lossOf_17 : decode cX7_lossOf 17 = .ok (.getfield 45, 3) := by decide +kernel
theorem dX7_lossOf_20 : decode cX7_lossOf 20 = .ok (.iload_n 1, 1) := by decide +kernel
theorem dX7_lossOf_21 : decode cX7_lossOf 21 = .ok (.iload 4, 2) := by decide +kernel
theorem dX7_lossOf_23 : decode cX7_lossOf 23 = .ok (.iload_n 2, 1) := by decide +kernel
theorem dX7_lossOf_24 : decode cX7_lossOf 24 = .ok (.invokestatic 127, 3) := by decide +kernel
theorem dX7_lossOf_27 : decode cX7_lossOf 27 = .ok (.iaload, 1) := by decide +kernel
theorem dX7_lossOf_28 : decode cX7_lossOf 28 = .ok (.istore 5, 2) := by decide +kernel
theorem dX7_lossOf_30 : decode cX7_lossOf 30 = .ok (.iload 5, 2) := by decide +kernel
theorem dX7_lossOf_32 : decode cX7_lossOf 32 = .ok (.ldc 119, 2) := by decide +kernel
theorem dX7_lossOf_34 : decode cX7_lossOf 34 = .ok (.if_icmp .eq 25, 3) := by decide +kernel
theorem dX7_lossOf_37 : decode cX7_lossOf 37 = .ok (.iload_n 3, 1) := by decide +kernel
theorem dX7_lossOf_38 : decode cX7_lossOf 38 = .ok (.iload 5, 2) := by decide +kernel
theorem dX7_lossOf_40 : decode cX7_lossOf 40 = .ok (.iload 5, 2) := by decide +kernel
theorem dX7_lossOf_42 : decode cX7_lossOf 42 = .ok (.aload_n 0, 1) := by decide +kernel
theorem dX7_lossOf_43 : decode cX7_lossOf 43 = .ok (.getfield 30, 3) := by decide +kernel
theorem dX7_lossOf_46 : decode cX7_lossOf 46 = .ok (.bipush 6, 2) := by decide +kernel
theorem dX7_lossOf_48 : decode cX7_lossOf 48 = .ok (.iload_n 1, 1) := by decide +kernel
theorem dX7_lossOf_49 : decode cX7_lossOf 49 = .ok (.imul, 1) := by decide +kernel
theorem dX7_lossOf_50 : decode cX7_lossOf 50 = .ok (.iload_n 2, 1) := by decide +kernel
theorem dX7_lossOf_51 : decode cX7_lossOf 51 = .ok (.iadd, 1) := by decide +kernel
theorem dX7_lossOf_52 : decode cX7_lossOf 52 = .ok (.iaload, 1) := by decide +kernel
theorem dX7_lossOf_53 : decode cX7_lossOf 53 = .ok (.invokestatic 156, 3) := by decide +kernel
theorem dX7_lossOf_56 : decode cX7_lossOf 56 = .ok (.isub, 1) := by decide +kernel
theorem dX7_lossOf_57 : decode cX7_lossOf 57 = .ok (.iadd, 1) := by decide +kernel
theorem dX7_lossOf_58 : decode cX7_lossOf 58 = .ok (.istore_n 3, 1) := by decide +kernel
theorem dX7_lossOf_59 : decode cX7_lossOf 59 = .ok (.iinc 4 1, 3) := by decide +kernel
theorem dX7_lossOf_62 : decode cX7_lossOf 62 = .ok (.goto (-57), 3) := by decide +kernel
theorem dX7_lossOf_65 : decode cX7_lossOf 65 = .ok (.iload_n 3, 1) := by decide +kernel
theorem dX7_lossOf_66 : decode cX7_lossOf 66 = .ok (.ireturn, 1) := by decide +kernel
theorem dX7_loss_0 : decode cX7_loss 0 = .ok (.aload_n 0, 1) := by decide +kernel
theorem dX7_loss_1 : decode cX7_loss 1 = .ok (.iload_n 1, 1) := by decide +kernel
theorem dX7_loss_2 : decode cX7_loss 2 = .ok (.iload_n 2, 1) := by decide +kernel
theorem dX7_loss_3 : decode cX7_loss 3 = .ok (.invokevirtual 131, 3) := by decide +kernel
theorem dX7_loss_6 : decode cX7_loss 6 = .ok (.ifCond .ne 5, 3) := by decide +kernel
theorem dX7_loss_9 : decode cX7_loss 9 = .ok (.iconst (-1), 1) := by decide +kernel
theorem dX7_loss_10 : decode cX7_loss 10 = .ok (.ireturn, 1) := by decide +kernel
theorem dX7_loss_11 : decode cX7_loss 11 = .ok (.aload_n 0, 1) := by decide +kernel
theorem dX7_loss_12 : decode cX7_loss 12 = .ok (.getfield 27, 3) := by decide +kernel
theorem dX7_loss_15 : decode cX7_loss 15 = .ok (.bipush 6, 2) := by decide +kernel
theorem dX7_loss_17 : decode cX7_loss 17 = .ok (.iload_n 1, 1) := by decide +kernel
theorem dX7_loss_18 : decode cX7_loss 18 = .ok (.imul, 1) := by decide +kernel
theorem dX7_loss_19 : decode cX7_loss 19 = .ok (.iload_n 2, 1) := by decide +kernel
theorem dX7_loss_20 : decode cX7_loss 20 = .ok (.iadd, 1) := by decide +kernel
theorem dX7_loss_21 : decode cX7_loss 21 = .ok (.iaload, 1) := by decide +kernel
theorem dX7_loss_22 : decode cX7_loss 22 = .ok (.iconst 3, 1) := by decide +kernel
theorem dX7_loss_23 : decode cX7_loss 23 = .ok (.if_icmp .ne 12, 3) := by decide +kernel
theorem dX7_loss_26 : decode cX7_loss 26 = .ok (.aload_n 0, 1) := by decide +kernel
theorem dX7_loss_27 : decode cX7_loss 27 = .ok (.iload_n 1, 1) := by decide +kernel
theorem dX7_loss_28 : decode cX7_loss 28 = .ok (.iload_n 2, 1) := by decide +kernel
theorem dX7_loss_29 : decode cX7_loss 29 = .ok (.invokevirtual 208, 3) := by decide +kernel
theorem dX7_loss_32 : decode cX7_loss 32 = .ok (.goto 5, 3) := by decide +kernel
theorem dX7_loss_35 : decode cX7_loss 35 = .ok (.bipush (-2), 2) := by decide +kernel
theorem dX7_loss_37 : decode cX7_loss 37 = .ok (.ireturn, 1) := by decide +kernel
theorem dX7_width_0 : decode cX7_width 0 = .ok (.iload_n 0, 1) := by decide +kernel
theorem dX7_width_1 : decode cX7_width 1 = .ok (.ifCond .ne 7, 3) := by decide +kernel
theorem dX7_width_4 : decode cX7_width 4 = .ok (.iconst 1, 1) := by decide +kernel
theorem dX7_width_5 : decode cX7_width 5 = .ok (.goto 26, 3) := by decide +kernel
theorem dX7_width_8 : decode cX7_width 8 = .ok (.iload_n 0, 1) := by decide +kernel
theorem dX7_width_9 : decode cX7_width 9 = .ok (.iconst 1, 1) := by decide +kernel
theorem dX7_width_10 : decode cX7_width 10 = .ok (.if_icmp .ne 8, 3) := by decide +kernel
theorem dX7_width_13 : decode cX7_width 13 = .ok (.bipush 10, 2) := by decide +kernel
theorem dX7_width_15 : decode cX7_width 15 = .ok (.goto 16, 3) := by decide +kernel
theorem dX7_width_18 : decode cX7_width 18 = .ok (.iload_n 0, 1) := by decide +kernel
theorem dX7_width_19 : decode cX7_width 19 = .ok (.iconst 2, 1) := by decide +kernel
theorem dX7_width_20 : decode cX7_width 20 = .ok (.if_icmp .ne 8, 3) := by decide +kernel
theorem dX7_width_23 : decode cX7_width 23 = .ok (.bipush 100, 2) := by decide +kernel
theorem dX7_width_25 : decode cX7_width 25 = .ok (.goto 6, 3) := by decide +kernel
theorem dX7_width_28 : decode cX7_width 28 = .ok (.sipush 1000, 3) := by decide +kernel
theorem dX7_width_31 : decode cX7_width 31 = .ok (.ireturn, 1) := by decide +kernel
theorem dX7_gives_0 : decode cX7_gives 0 = .ok (.iload_n 2, 1) := by decide +kernel
theorem dX7_gives_1 : decode cX7_gives 1 = .ok (.istore 4, 2) := by decide +kernel
theorem dX7_gives_3 : decode cX7_gives 3 = .ok (.iconst 0, 1) := by decide +kernel
theorem dX7_gives_4 : decode cX7_gives 4 = .ok (.istore 5, 2) := by decide +kernel
theorem dX7_gives_6 : decode cX7_gives 6 = .ok (.aload_n 0, 1) := by decide +kernel
theorem dX7_gives_7 : decode cX7_gives 7 = .ok (.getfield 9, 3) := by decide +kernel
theorem dX7_gives_10 : decode cX7_gives 10 = .ok (.iload_n 1, 1) := by decide +kernel
theorem dX7_gives_11 : decode cX7_gives 11 = .ok (.iaload, 1) := by decide +kernel
theorem dX7_gives_12 : decode cX7_gives 12 = .ok (.iconst 1, 1) := by decide +kernel
theorem dX7_gives_13 : decode cX7_gives 13 = .ok (.isub, 1) := by decide +kernel
theorem dX7_gives_14 : decode cX7_gives 14 = .ok (.istore 6, 2) := by decide +kernel
theorem dX7_gives_16 : decode cX7_gives 16 = .ok (.iload 6, 2) := by decide +kernel
theorem dX7_gives_18 : decode cX7_gives 18 = .ok (.ifCond .lt 65, 3) := by decide +kernel
theorem dX7_gives_21 : decode cX7_gives 21 = .ok (.aload_n 0, 1) := by decide +kernel
theorem dX7_gives_22 : decode cX7_gives 22 = .ok (.getfield 27, 3) := by decide +kernel
theorem dX7_gives_25 : decode cX7_gives 25 = .ok (.bipush 6, 2) := by decide +kernel
theorem dX7_gives_27 : decode cX7_gives 27 = .ok (.iload_n 1, 1) := by decide +kernel
theorem dX7_gives_28 : decode cX7_gives 28 = .ok (.imul, 1) := by decide +kernel
theorem dX7_gives_29 : decode cX7_gives 29 = .ok (.iload 6, 2) := by decide +kernel
theorem dX7_gives_31 : decode cX7_gives 31 = .ok (.iadd, 1) := by decide +kernel
theorem dX7_gives_32 : decode cX7_gives 32 = .ok (.iaload, 1) := by decide +kernel
theorem dX7_gives_33 : decode cX7_gives 33 = .ok (.iconst 3, 1) := by decide +kernel
theorem dX7_gives_34 : decode cX7_gives 34 = .ok (.if_icmp .eq 6, 3) := by decide +kernel
theorem dX7_gives_37 : decode cX7_gives 37 = .ok (.goto 40, 3) := by decide +kernel
theorem dX7_gives_40 : decode cX7_gives 40 = .ok (.aload_n 0, 1) := by decide +kernel
theorem dX7_gives_41 : decode cX7_gives 41 = .ok (.getfield 30, 3) := by decide +kernel
theorem dX7_gives_44 : decode cX7_gives 44 = .ok (.bipush 6, 2) := by decide +kernel
theorem dX7_gives_46 : decode cX7_gives 46 = .ok (.iload_n 1, 1) := by decide +kernel
theorem dX7_gives_47 : decode cX7_gives 47 = .ok (.imul, 1) := by decide +kernel
theorem dX7_gives_48 : decode cX7_gives 48 = .ok (.iload 6, 2) := by decide +kernel
theorem dX7_gives_50 : decode cX7_gives 50 = .ok (.iadd, 1) := by decide +kernel
theorem dX7_gives_51 : decode cX7_gives 51 = .ok (.iload 4, 2) := by decide +kernel
theorem dX7_gives_53 : decode cX7_gives 53 = .ok (.iconst 4, 1) := by decide +kernel
theorem dX7_gives_54 : decode cX7_gives 54 = .ok (.irem, 1) := by decide +kernel
theorem dX7_gives_55 : decode cX7_gives 55 = .ok (.invokestatic 211, 3) := by decide +kernel
theorem dX7_gives_58 : decode cX7_gives 58 = .ok (.iastore, 1) := by decide +kernel
theorem dX7_gives_59 : decode cX7_gives 59 = .ok (.iload 4, 2) := by decide +kernel
theorem dX7_gives_61 : decode cX7_gives 61 = .ok (.iconst 4, 1) := by decide +kernel
theorem dX7_gives_62 : decode cX7_gives 62 = .ok (.idiv, 1) := by decide +kernel
theorem dX7_gives_63 : decode cX7_gives 63 = .ok (.istore 4, 2) := by decide +kernel
theorem dX7_gives_65 : decode cX7_gives 65 = .ok (.iload 5, 2) := by decide +kernel
theorem dX7_gives_67 : decode cX7_gives 67 = .ok (.aload_n 0, 1) := by decide +kernel
theorem dX7_gives_68 : decode cX7_gives 68 = .ok (.iload_n 1, 1) := by decide +kernel
theorem dX7_gives_69 : decode cX7_gives 69 = .ok (.iload 6, 2) := by decide +kernel
theorem dX7_gives_71 : decode cX7_gives 71 = .ok (.invokevirtual 208, 3) := by decide +kernel
theorem dX7_gives_74 : decode cX7_gives 74 = .ok (.iadd, 1) := by decide +kernel
theorem dX7_gives_75 : decode cX7_gives 75 = .ok (.istore 5, 2) := by decide +kernel
theorem dX7_gives_77 : decode cX7_gives 77 = .ok (.iinc 6 (-1), 3) := by decide +kernel
theorem dX7_gives_80 : decode cX7_gives 80 = .ok (.goto (-64), 3) := by decide +kernel
theorem dX7_gives_83 : decode cX7_gives 83 = .ok (.iload 5, 2) := by decide +kernel
theorem dX7_gives_85 : decode cX7_gives 85 = .ok (.ireturn, 1) := by decide +kernel
theorem dX7_best_0 : decode cX7_best 0 = .ok (.aload_n 0, 1) := by decide +kernel
theorem dX7_best_1 : decode cX7_best 1 = .ok (.iload_n 1, 1) := by decide +kernel
theorem dX7_best_2 : decode cX7_best 2 = .ok (.invokevirtual 99, 3) := by decide +kernel
theorem dX7_best_5 : decode cX7_best 5 = .ok (.ifCond .ne 5, 3) := by decide +kernel
theorem dX7_best_8 : decode cX7_best 8 = .ok (.iconst (-1), 1) := by decide +kernel
theorem dX7_best_9 : decode cX7_best 9 = .ok (.ireturn, 1) := by decide +kernel
theorem dX7_best_10 : decode cX7_best 10 = .ok (.aload_n 0, 1) := by decide +kernel
theorem dX7_best_11 : decode cX7_best 11 = .ok (.iload_n 1, 1) := by decide +kernel
theorem dX7_best_12 : decode cX7_best 12 = .ok (.iload_n 2, 1) := by decide +kernel
theorem dX7_best_13 : decode cX7_best 13 = .ok (.invokevirtual 199, 3) := by decide +kernel
theorem dX7_best_16 : decode cX7_best 16 = .ok (.ifCond .eq 8, 3) := by decide +kernel
theorem dX7_best_19 : decode cX7_best 19 = .ok (.iload_n 3, 1) := by decide +kernel
theorem dX7_best_20 : decode cX7_best 20 = .ok (.iconst 1, 1) := by decide +kernel
theorem dX7_best_21 : decode cX7_best 21 = .ok (.if_icmp .ge 6, 3) := by decide +kernel
theorem dX7_best_24 : decode cX7_best 24 = .ok (.bipush (-2), 2) := by decide +kernel
theorem dX7_best_26 : decode cX7_best 26 = .ok (.ireturn, 1) := by decide +kernel
theorem dX7_best_27 : decode cX7_best 27 = .ok (.aload_n 0, 1) := by decide +kernel
theorem dX7_best_28 : decode cX7_best 28 = .ok (.getfield 15, 3) := by decide +kernel
theorem dX7_best_31 : decode cX7_best 31 = .ok (.iload_n 1, 1) := by decide +kernel
theorem dX7_best_32 : decode cX7_best 32 = .ok (.iaload, 1) := by decide +kernel
theorem dX7_best_33 : decode cX7_best 33 = .ok (.ifCond .ne 6, 3) := by decide +kernel
theorem dX7_best_36 : decode cX7_best 36 = .ok (.bipush (-3), 2) := by decide +kernel
theorem dX7_best_38 : decode cX7_best 38 = .ok (.ireturn, 1) := by decide +kernel
theorem dX7_best_39 : decode cX7_best 39 = .ok (.iconst 1, 1) := by decide +kernel
theorem dX7_best_40 : decode cX7_best 40 = .ok (.istore 4, 2) := by decide +kernel
theorem dX7_best_42 : decode cX7_best 42 = .ok (.iconst 0, 1) := by decide +kernel
theorem dX7_best_43 : decode cX7_best 43 = .ok (.istore 5, 2) := by decide +kernel
theorem dX7_best_45 : decode cX7_best 45 = .ok (.iload 5, 2) := by decide +kernel
theorem dX7_best_47 : decode cX7_best 47 = .ok (.aload_n 0, 1) := by decide +kernel
theorem dX7_best_48 : decode cX7_best 48 = .ok (.getfield 9, 3) := by decide +kernel
theorem dX7_best_51 : decode cX7_best 51 = .ok (.iload_n 1, 1) := by decide +kernel
theorem dX7_best_52 : decode cX7_best 52 = .ok (.iaload, 1) := by decide +kernel
theorem dX7_best_53 : decode cX7_best 53 = .ok (.if_icmp .ge 54, 3) := by decide +kernel
theorem dX7_best_56 : decode cX7_best 56 = .ok (.aload_n 0, 1) := by decide +kernel
theorem dX7_best_57 : decode cX7_best 57 = .ok (.getfield 82, 3) := by decide +kernel
theorem dX7_best_60 : decode cX7_best 60 = .ok (.iload 5, 2) := by decide +kernel
theorem dX7_best_62 : decode cX7_best 62 = .ok (.aload_n 0, 1) := by decide +kernel
theorem dX7_best_63 : decode cX7_best 63 = .ok (.getfield 30, 3) := by decide +kernel
theorem dX7_best_66 : decode cX7_best 66 = .ok (.bipush 6, 2) := by decide +kernel
theorem dX7_best_68 : decode cX7_best 68 = .ok (.iload_n 1, 1) := by decide +kernel
theorem dX7_best_69 : decode cX7_best 69 = .ok (.imul, 1) := by decide +kernel
theorem dX7_best_70 : decode cX7_best 70 = .ok (.iload 5, 2) := by decide +kernel
theorem dX7_best_72 : decode cX7_best 72 = .ok (.iadd, 1) := by decide +kernel
theorem dX7_best_73 : decode cX7_best 73 = .ok (.iaload, 1) := by decide +kernel
theorem dX7_best_74 : decode cX7_best 74 = .ok (.iastore, 1) := by decide +kernel
theorem dX7_best_75 : decode cX7_best 75 = .ok (.iload 4, 2) := by decide +kernel
theorem dX7_best_77 : decode cX7_best 77 = .ok (.aload_n 0, 1) := by decide +kernel
theorem dX7_best_78 : decode cX7_best 78 = .ok (.getfield 27, 3) := by decide +kernel
theorem dX7_best_81 : decode cX7_best 81 = .ok (.bipush 6, 2) := by decide +kernel
theorem dX7_best_83 : decode cX7_best 83 = .ok (.iload_n 1, 1) := by decide +kernel
theorem dX7_best_84 : decode cX7_best 84 = .ok (.imul, 1) := by decide +kernel
theorem dX7_best_85 : decode cX7_best 85 = .ok (.iload 5, 2) := by decide +kernel
theorem dX7_best_87 : decode cX7_best 87 = .ok (.iadd, 1) := by decide +kernel
theorem dX7_best_88 : decode cX7_best 88 = .ok (.iaload, 1) := by decide +kernel
theorem dX7_best_89 : decode cX7_best 89 = .ok (.iconst 3, 1) := by decide +kernel
theorem dX7_best_90 : decode cX7_best 90 = .ok (.if_icmp .ne 7, 3) := by decide +kernel
theorem dX7_best_93 : decode cX7_best 93 = .ok (.iconst 4, 1) := by decide +kernel
theorem dX7_best_94 : decode cX7_best 94 = .ok (.goto 4, 3) := by decide +kernel
theorem dX7_best_97 : decode cX7_best 97 = .ok (.iconst 1, 1) := by decide +kernel
theorem dX7_best_98 : decode cX7_best 98 = .ok (.imul, 1) := by decide +kernel
theorem dX7_best_99 : decode cX7_best 99 = .ok (.istore 4, 2) := by decide +kernel
theorem dX7_best_101 : decode cX7_best 101 = .ok (.iinc 5 1, 3) := by decide +kernel
theorem dX7_best_104 : decode cX7_best 104 = .ok (.goto (-59), 3) := by decide +kernel
theorem dX7_best_107 : decode cX7_best 107 = .ok (.iconst (-1), 1) := by decide +kernel
theorem dX7_best_108 : decode cX7_best 108 = .ok (.istore 5, 2) := by decide +kernel
theorem dX7_best_110 : decode cX7_best 110 = .ok (.iconst 0, 1) := by decide +kernel
theorem dX7_best_111 : decode cX7_best 111 = .ok (.istore 6, 2) := by decide +kernel
theorem dX7_best_113 : decode cX7_best 113 = .ok (.iload 6, 2) := by decide +kernel
theorem dX7_best_115 : decode cX7_best 115 = .ok (.iload 4, 2) := by decide +kernel
theorem dX7_best_117 : decode cX7_best 117 = .ok (.if_icmp .ge 89, 3) := by decide +kernel
theorem dX7_best_120 : decode cX7_best 120 = .ok (.aload_n 0, 1) := by decide +kernel
theorem dX7_best_121 : decode cX7_best 121 = .ok (.iload_n 1, 1) := by decide +kernel
theorem dX7_best_122 : decode cX7_best 122 = .ok (.iload 6, 2) := by decide +kernel
theorem dX7_best_124 : decode cX7_best 124 = .ok (.iload 4, 2) := by decide +kernel
theorem dX7_best_126 : decode cX7_best 126 = .ok (.invokevirtual 214, 3) := by decide +kernel
theorem dX7_best_129 : decode cX7_best 129 = .ok (.istore 7, 2) := by decide +kernel
theorem dX7_best_131 : decode cX7_best 131 = .ok (.iload 5, 2) := by decide +kernel
theorem dX7_best_133 : decode cX7_best 133 = .ok (.iconst (-1), 1) := by decide +kernel
theorem dX7_best_134 : decode cX7_best 134 = .ok (.if_icmp .eq 10, 3) := by decide +kernel
theorem dX7_best_137 : decode cX7_best 137 = .ok (.iload 7, 2) := by decide +kernel
theorem dX7_best_139 : decode cX7_best 139 = .ok (.iload 5, 2) := by decide +kernel
theorem dX7_best_141 : decode cX7_best 141 = .ok (.if_icmp .ge 59, 3) := by decide +kernel
theorem dX7_best_144 : decode cX7_best 144 = .ok (.aload_n 0, 1) := by decide +kernel
theorem dX7_best_145 : decode cX7_best 145 = .ok (.iload_n 1, 1) := by decide +kernel
theorem dX7_best_146 : decode cX7_best 146 = .ok (.iload_n 2, 1) := by decide +kernel
theorem dX7_best_147 : decode cX7_best 147 = .ok (.invokevirtual 205, 3) := by decide +kernel
theorem dX7_best_150 : decode cX7_best 150 = .ok (.iload_n 3, 1) := by decide +kernel
theorem dX7_best_151 : decode cX7_best 151 = .ok (.if_icmp .ge 6, 3) := by decide +kernel
theorem dX7_best_154 : decode cX7_best 154 = .ok (.goto 46, 3) := by decide +kernel
theorem dX7_best_157 : decode cX7_best 157 = .ok (.iload 7, 2) := by decide +kernel
theorem dX7_best_159 : decode cX7_best 159 = .ok (.istore 5, 2) := by decide +kernel
theorem dX7_best_161 : decode cX7_best 161 = .ok (.iconst 0, 1) := by decide +kernel
theorem dX7_best_162 : decode cX7_best 162 = .ok (.istore 8, 2) := by decide +kernel
theorem dX7_best_164 : decode cX7_best 164 = .ok (.iload 8, 2) := by decide +kernel
theorem dX7_best_166 : decode cX7_best 166 = .ok (.aload_n 0, 1) := by decide +kernel
theorem dX7_best_167 : decode cX7_best 167 = .ok (.getfield 9, 3) := by decide +kernel
theorem dX7_best_170 : decode cX7_best 170 = .ok (.iload_n 1, 1) := by decide +kernel
theorem dX7_best_171 : decode cX7_best 171 = .ok (.iaload, 1) := by decide +kernel
theorem dX7_best_172 : decode cX7_best 172 = .ok (.if_icmp .ge 28, 3) := by decide +kernel
theorem dX7_best_175 : decode cX7_best 175 = .ok (.aload_n 0, 1) := by decide +kernel
theorem dX7_best_176 : decode cX7_best 176 = .ok (.getfield 85, 3) := by decide +kernel
theorem dX7_best_179 : decode cX7_best 179 = .ok (.iload 8, 2) := by decide +kernel
theorem dX7_best_181 : decode cX7_best 181 = .ok (.aload_n 0, 1) := by decide +kernel
theorem dX7_best_182 : decode cX7_best 182 = .ok (.getfield 30, 3) := by decide +kernel
theorem dX7_best_185 : decode cX7_best 185 = .ok (.bipush 6, 2) := by decide +kernel
theorem dX7_best_187 : decode cX7_best 187 = .ok (.iload_n 1, 1) := by decide +kernel
theorem dX7_best_188 : decode cX7_best 188 = .ok (.imul, 1) := by decide +kernel
theorem dX7_best_189 : decode cX7_best 189 = .ok (.iload 8, 2) := by decide +kernel
theorem dX7_best_191 : decode cX7_best 191 = .ok (.iadd, 1) := by decide +kernel
theorem dX7_best_192 : decode cX7_best 192 = .ok (.iaload, 1) := by decide +kernel
theorem dX7_best_193 : decode cX7_best 193 = .ok (.iastore, 1) := by decide +kernel
theorem dX7_best_194 : decode cX7_best 194 = .ok (.iinc 8 1, 3) := by decide +kernel
theorem dX7_best_197 : decode cX7_best 197 = .ok (.goto (-33), 3) := by decide +kernel
theorem dX7_best_200 : decode cX7_best 200 = .ok (.iinc 6 1, 3) := by decide +kernel
theorem dX7_best_203 : decode cX7_best 203 = .ok (.goto (-90), 3) := by decide +kernel
theorem dX7_best_206 : decode cX7_best 206 = .ok (.iconst 0, 1) := by decide +kernel
theorem dX7_best_207 : decode cX7_best 207 = .ok (.istore 6, 2) := by decide +kernel
theorem dX7_best_209 : decode cX7_best 209 = .ok (.iload 6, 2) := by decide +kernel
theorem dX7_best_211 : decode cX7_best 211 = .ok (.aload_n 0, 1) := by decide +kernel
theorem dX7_best_212 : decode cX7_best 212 = .ok (.getfield 9, 3) := by decide +kernel
theorem dX7_best_215 : decode cX7_best 215 = .ok (.iload_n 1, 1) := by decide +kernel
theorem dX7_best_216 : decode cX7_best 216 = .ok (.iaload, 1) := by decide +kernel
theorem dX7_best_217 : decode cX7_best 217 = .ok (.if_icmp .ge 44, 3) := by decide +kernel
theorem dX7_best_220 : decode cX7_best 220 = .ok (.aload_n 0, 1) := by decide +kernel
theorem dX7_best_221 : decode cX7_best 221 = .ok (.getfield 30, 3) := by decide +kernel
theorem dX7_best_224 : decode cX7_best 224 = .ok (.bipush 6, 2) := by decide +kernel
theorem dX7_best_226 : decode cX7_best 226 = .ok (.iload_n 1, 1) := by decide +kernel
theorem dX7_best_227 : decode cX7_best 227 = .ok (.imul, 1) := by decide +kernel
theorem dX7_best_228 : decode cX7_best 228 = .ok (.iload 6, 2) := by decide +kernel
theorem dX7_best_230 : decode cX7_best 230 = .ok (.iadd, 1) := by decide +kernel
theorem dX7_best_231 : decode cX7_best 231 = .ok (.iload 5, 2) := by decide +kernel
theorem dX7_best_233 : decode cX7_best 233 = .ok (.iconst (-1), 1) := by decide +kernel
theorem dX7_best_234 : decode cX7_best 234 = .ok (.if_icmp .ne 13, 3) := by decide +kernel
theorem dX7_best_237 : decode cX7_best 237 = .ok (.aload_n 0, 1) := by decide +kernel
theorem dX7_best_238 : decode cX7_best 238 = .ok (.getfield 82, 3) := by decide +kernel
theorem dX7_best_241 : decode cX7_best 241 = .ok (.iload 6, 2) := by decide +kernel
theorem dX7_best_243 : decode cX7_best 243 = .ok (.iaload, 1) := by decide +kernel
theorem dX7_best_244 : decode cX7_best 244 = .ok (.goto 10, 3) := by decide +kernel
theorem dX7_best_247 : decode cX7_best 247 = .ok (.aload_n 0, 1) := by decide +kernel
theorem dX7_best_248 : decode cX7_best 248 = .ok (.getfield 85, 3) := by decide +kernel
theorem dX7_best_251 : decode cX7_best 251 = .ok (.iload 6, 2) := by decide +kernel
theorem dX7_best_253 : decode cX7_best 253 = .ok (.iaload, 1) := by decide +kernel
theorem dX7_best_254 : decode cX7_best 254 = .ok (.iastore, 1) := by decide +kernel
theorem dX7_best_255 : decode cX7_best 255 = .ok (.iinc 6 1, 3) := by decide +kernel
theorem dX7_best_258 : decode cX7_best 258 = .ok (.goto (-49), 3) := by decide +kernel
theorem dX7_best_261 : decode cX7_best 261 = .ok (.iload 5, 2) := by decide +kernel
theorem dX7_best_263 : decode cX7_best 263 = .ok (.iconst (-1), 1) := by decide +kernel
theorem dX7_best_264 : decode cX7_best 264 = .ok (.if_icmp .ne 8, 3) := by decide +kernel
theorem dX7_best_267 : decode cX7_best 267 = .ok (.bipush (-3), 2) := by decide +kernel
theorem dX7_best_269 : decode cX7_best 269 = .ok (.goto 5, 3) := by decide +kernel
theorem dX7_best_272 : decode cX7_best 272 = .ok (.iload 5, 2) := by decide +kernel
theorem dX7_best_274 : decode cX7_best 274 = .ok (.ireturn, 1) := by decide +kernel
theorem dX7_about_0 : decode cX7_about 0 = .ok (.aload_n 0, 1) := by decide +kernel
theorem dX7_about_1 : decode cX7_about 1 = .ok (.iload_n 1, 1) := by decide +kernel
theorem dX7_about_2 : decode cX7_about 2 = .ok (.iload_n 2, 1) := by decide +kernel
theorem dX7_about_3 : decode cX7_about 3 = .ok (.invokevirtual 131, 3) := by decide +kernel
theorem dX7_about_6 : decode cX7_about 6 = .ok (.ifCond .eq 13, 3) := by decide +kernel
theorem dX7_about_9 : decode cX7_about 9 = .ok (.iload_n 3, 1) := by decide +kernel
theorem dX7_about_10 : decode cX7_about 10 = .ok (.bipush 10, 2) := by decide +kernel
theorem dX7_about_12 : decode cX7_about 12 = .ok (.if_icmp .ge 9, 3) := by decide +kernel
theorem dX7_about_15 : decode cX7_about 15 = .ok (.iload_n 2, 1) := by decide +kernel
theorem dX7_about_16 : decode cX7_about 16 = .ok (.ifCond .eq 5, 3) := by decide +kernel
theorem dX7_about_19 : decode cX7_about 19 = .ok (.iconst (-1), 1) := by decide +kernel
theorem dX7_about_20 : decode cX7_about 20 = .ok (.ireturn, 1) := by decide +kernel
theorem dX7_about_21 : decode cX7_about 21 = .ok (.bipush 6, 2) := by decide +kernel
theorem dX7_about_23 : decode cX7_about 23 = .ok (.iload_n 1, 1) := by decide +kernel
theorem dX7_about_24 : decode cX7_about 24 = .ok (.imul, 1) := by decide +kernel
theorem dX7_about_25 : decode cX7_about 25 = .ok (.iload_n 2, 1) := by decide +kernel
theorem dX7_about_26 : decode cX7_about 26 = .ok (.iadd, 1) := by decide +kernel
theorem dX7_about_27 : decode cX7_about 27 = .ok (.istore 4, 2) := by decide +kernel
theorem dX7_about_29 : decode cX7_about 29 = .ok (.iload_n 3, 1) := by decide +kernel
theorem dX7_about_30 : decode cX7_about 30 = .ok (.tableswitch 138 0 13 #[70, 77, 84, 138, 138, 138, 138, 138, 138, 138, 91, 99, 122, 130], 70) := by decide +kernel
theorem dX7_about_100 : decode cX7_about 100 = .ok (.aload_n 0, 1) := by decide +kernel
theorem dX7_about_101 : decode cX7_about 101 = .ok (.getfield 9, 3) := by decide +kernel
theorem dX7_about_104 : decode cX7_about 104 = .ok (.iload_n 1, 1) := by decide +kernel
theorem dX7_about_105 : decode cX7_about 105 = .ok (.iaload, 1) := by decide +kernel
theorem dX7_about_106 : decode cX7_about 106 = .ok (.ireturn, 1) := by decide +kernel
theorem dX7_about_107 : decode cX7_about 107 = .ok (.aload_n 0, 1) := by decide +kernel
theorem dX7_about_108 : decode cX7_about 108 = .ok (.getfield 15, 3) := by decide +kernel
theorem dX7_about_111 : decode cX7_about 111 = .ok (.iload_n 1, 1) := by decide +kernel
theorem dX7_about_112 : decode cX7_about 112 = .ok (.iaload, 1) := by decide +kernel
theorem dX7_about_113 : decode cX7_about 113 = .ok (.ireturn, 1) := by decide +kernel
theorem dX7_about_114 : decode cX7_about 114 = .ok (.aload_n 0, 1) := by decide +kernel
theorem dX7_about_115 : decode cX7_about 115 = .ok (.getfield 18, 3) := by decide +kernel
theorem dX7_about_118 : decode cX7_about 118 = .ok (.iload_n 1, 1) := by decide +kernel
theorem dX7_about_119 : decode cX7_about 119 = .ok (.iaload, 1) := by decide +kernel
theorem dX7_about_120 : decode cX7_about 120 = .ok (.ireturn, 1) := by decide +kernel
theorem dX7_about_121 : decode cX7_about 121 = .ok (.aload_n 0, 1) := by decide +kernel
theorem dX7_about_122 : decode cX7_about 122 = .ok (.getfield 21, 3) := by decide +kernel
theorem dX7_about_125 : decode cX7_about 125 = .ok (.iload 4, 2) := by decide +kernel
theorem dX7_about_127 : decode cX7_about 127 = .ok (.iaload, 1) := by decide +kernel
theorem dX7_about_128 : decode cX7_about 128 = .ok (.ireturn, 1) := by decide +kernel
theorem dX7_about_129 : decode cX7_about 129 = .ok (.aload_n 0, 1) := by decide +kernel
theorem dX7_about_130 : decode cX7_about 130 = .ok (.getfield 21, 3) := by decide +kernel
theorem dX7_about_133 : decode cX7_about 133 = .ok (.iload 4, 2) := by decide +kernel
theorem dX7_about_135 : decode cX7_about 135 = .ok (.iaload, 1) := by decide +kernel
theorem dX7_about_136 : decode cX7_about 136 = .ok (.iconst 1, 1) := by decide +kernel
theorem dX7_about_137 : decode cX7_about 137 = .ok (.if_icmp .ne 13, 3) := by decide +kernel
theorem dX7_about_140 : decode cX7_about 140 = .ok (.aload_n 0, 1) := by decide +kernel
theorem dX7_about_141 : decode cX7_about 141 = .ok (.getfield 24, 3) := by decide +kernel
theorem dX7_about_144 : decode cX7_about 144 = .ok (.iload 4, 2) := by decide +kernel
theorem dX7_about_146 : decode cX7_about 146 = .ok (.iaload, 1) := by decide +kernel
theorem dX7_about_147 : decode cX7_about 147 = .ok (.goto 4, 3) := by decide +kernel
theorem dX7_about_150 : decode cX7_about 150 = .ok (.iconst (-1), 1) := by decide +kernel
theorem dX7_about_151 : decode cX7_about 151 = .ok (.ireturn, 1) := by decide +kernel
theorem dX7_about_152 : decode cX7_about 152 = .ok (.aload_n 0, 1) := by decide +kernel
theorem dX7_about_153 : decode cX7_about 153 = .ok (.getfield 27, 3) := by decide +kernel
theorem dX7_about_156 : decode cX7_about 156 = .ok (.iload 4, 2) := by decide +kernel
theorem dX7_about_158 : decode cX7_about 158 = .ok (.iaload, 1) := by decide +kernel
theorem dX7_about_159 : decode cX7_about 159 = .ok (.ireturn, 1) := by decide +kernel
theorem dX7_about_160 : decode cX7_about 160 = .ok (.aload_n 0, 1) := by decide +kernel
theorem dX7_about_161 : decode cX7_about 161 = .ok (.getfield 30, 3) := by decide +kernel
theorem dX7_about_164 : decode cX7_about 164 = .ok (.iload 4, 2) := by decide +kernel
theorem dX7_about_166 : decode cX7_about 166 = .ok (.iaload, 1) := by decide +kernel
theorem dX7_about_167 : decode cX7_about 167 = .ok (.ireturn, 1) := by decide +kernel
theorem dX7_about_168 : decode cX7_about 168 = .ok (.iconst (-1), 1) := by decide +kernel
theorem dX7_about_169 : decode cX7_about 169 = .ok (.ireturn, 1) := by decide +kernel
theorem dX7_all_0 : decode cX7_all 0 = .ok (.iload_n 1, 1) := by decide +kernel
theorem dX7_all_1 : decode cX7_all 1 = .ok (.tableswitch 68 0 4 #[35, 40, 45, 50, 55], 35) := by decide +kernel
theorem dX7_all_36 : decode cX7_all 36 = .ok (.aload_n 0, 1) := by decide +kernel
theorem dX7_all_37 : decode cX7_all 37 = .ok (.getfield 92, 3) := by decide +kernel
theorem dX7_all_40 : decode cX7_all 40 = .ok (.ireturn, 1) := by decide +kernel
theorem dX7_all_41 : decode cX7_all 41 = .ok (.aload_n 0, 1) := by decide +kernel
theorem dX7_all_42 : decode cX7_all 42 = .ok (.getfield 162, 3) := by decide +kernel
theorem dX7_all_45 : decode cX7_all 45 = .ok (.ireturn, 1) := by decide +kernel
theorem dX7_all_46 : decode cX7_all 46 = .ok (.aload_n 0, 1) := by decide +kernel
theorem dX7_all_47 : decode cX7_all 47 = .ok (.getfield 116, 3) := by decide +kernel
theorem dX7_all_50 : decode cX7_all 50 = .ok (.ireturn, 1) := by decide +kernel
theorem dX7_all_51 : decode cX7_all 51 = .ok (.aload_n 0, 1) := by decide +kernel
theorem dX7_all_52 : decode cX7_all 52 = .ok (.getfield 137, 3) := by decide +kernel
theorem dX7_all_55 : decode cX7_all 55 = .ok (.ireturn, 1) := by decide +kernel
theorem dX7_all_56 : decode cX7_all 56 = .ok (.aload_n 0, 1) := by decide +kernel
theorem dX7_all_57 : decode cX7_all 57 = .ok (.getfield 112, 3) := by decide +kernel
theorem dX7_all_60 : decode cX7_all 60 = .ok (.ifCond .eq 7, 3) := by decide +kernel
theorem dX7_all_63 : decode cX7_all 63 = .ok (.iconst 1, 1) := by decide +kernel
theorem dX7_all_64 : decode cX7_all 64 = .ok (.goto 4, 3) := by decide +kernel
theorem dX7_all_67 : decode cX7_all 67 = .ok (.iconst 0, 1) := by decide +kernel
theorem dX7_all_68 : decode cX7_all 68 = .ok (.ireturn, 1) := by decide +kernel
theorem dX7_all_69 : decode cX7_all 69 = .ok (.iconst (-1), 1) := by decide +kernel
theorem dX7_all_70 : decode cX7_all 70 = .ok (.ireturn, 1) := by decide +kernel
theorem dJ6_bitCount_0f7a4_0 : decode cJ6_bitCount_0f7a4 0 = .ok (.iload_n 0, 1) := by decide +kernel
theorem dJ6_bitCount_0f7a4_1 : decode cJ6_bitCount_0f7a4 1 = .ok (.iload_n 0, 1) := by decide +kernel
theorem dJ6_bitCount_0f7a4_2 : decode cJ6_bitCount_0f7a4 2 = .ok (.iconst 1, 1) := by decide +kernel
theorem dJ6_bitCount_0f7a4_3 : decode cJ6_bitCount_0f7a4 3 = .ok (.iushr, 1) := by decide +kernel
theorem dJ6_bitCount_0f7a4_4 : decode cJ6_bitCount_0f7a4 4 = .ok (.ldc_w 265, 3) := by decide +kernel
theorem dJ6_bitCount_0f7a4_7 : decode cJ6_bitCount_0f7a4 7 = .ok (.iand, 1) := by decide +kernel
theorem dJ6_bitCount_0f7a4_8 : decode cJ6_bitCount_0f7a4 8 = .ok (.isub, 1) := by decide +kernel
theorem dJ6_bitCount_0f7a4_9 : decode cJ6_bitCount_0f7a4 9 = .ok (.istore_n 0, 1) := by decide +kernel
theorem dJ6_bitCount_0f7a4_10 : decode cJ6_bitCount_0f7a4 10 = .ok (.iload_n 0, 1) := by decide +kernel
theorem dJ6_bitCount_0f7a4_11 : decode cJ6_bitCount_0f7a4 11 = .ok (.ldc_w 266, 3) := by decide +kernel
theorem dJ6_bitCount_0f7a4_14 : decode cJ6_bitCount_0f7a4 14 = .ok (.iand, 1) := by decide +kernel
theorem dJ6_bitCount_0f7a4_15 : decode cJ6_bitCount_0f7a4 15 = .ok (.iload_n 0, 1) := by decide +kernel
theorem dJ6_bitCount_0f7a4_16 : decode cJ6_bitCount_0f7a4 16 = .ok (.iconst 2, 1) := by decide +kernel
theorem dJ6_bitCount_0f7a4_17 : decode cJ6_bitCount_0f7a4 17 = .ok (.iushr, 1) := by decide +kernel
theorem dJ6_bitCount_0f7a4_18 : decode cJ6_bitCount_0f7a4 18 = .ok (.ldc_w 266, 3) := by decide +kernel
theorem dJ6_bitCount_0f7a4_21 : decode cJ6_bitCount_0f7a4 21 = .ok (.iand, 1) := by decide +kernel
theorem dJ6_bitCount_0f7a4_22 : decode cJ6_bitCount_0f7a4 22 = .ok (.iadd, 1) := by decide +kernel
theorem dJ6_bitCount_0f7a4_23 : decode cJ6_bitCount_0f7a4 23 = .ok (.istore_n 0, 1) := by decide +kernel
theorem dJ6_bitCount_0f7a4_24 : decode cJ6_bitCount_0f7a4 24 = .ok (.iload_n 0, 1) := by decide +kernel
theorem dJ6_bitCount_0f7a4_25 : decode cJ6_bitCount_0f7a4 25 = .ok (.iload_n 0, 1) := by decide +kernel
theorem dJ6_bitCount_0f7a4_26 : decode cJ6_bitCount_0f7a4 26 = .ok (.iconst 4, 1) := by decide +kernel
theorem dJ6_bitCount_0f7a4_27 : decode cJ6_bitCount_0f7a4 27 = .ok (.iushr, 1) := by decide +kernel
theorem dJ6_bitCount_0f7a4_28 : decode cJ6_bitCount_0f7a4 28 = .ok (.iadd, 1) := by decide +kernel
theorem dJ6_bitCount_0f7a4_29 : decode cJ6_bitCount_0f7a4 29 = .ok (.ldc_w 267, 3) := by decide +kernel
theorem dJ6_bitCount_0f7a4_32 : decode cJ6_bitCount_0f7a4 32 = .ok (.iand, 1) := by decide +kernel
theorem dJ6_bitCount_0f7a4_33 : decode cJ6_bitCount_0f7a4 33 = .ok (.istore_n 0, 1) := by decide +kernel
theorem dJ6_bitCount_0f7a4_34 : decode cJ6_bitCount_0f7a4 34 = .ok (.iload_n 0, 1) := by decide +kernel
theorem dJ6_bitCount_0f7a4_35 : decode cJ6_bitCount_0f7a4 35 = .ok (.iload_n 0, 1) := by decide +kernel
theorem dJ6_bitCount_0f7a4_36 : decode cJ6_bitCount_0f7a4 36 = .ok (.bipush 8, 2) := by decide +kernel
theorem dJ6_bitCount_0f7a4_38 : decode cJ6_bitCount_0f7a4 38 = .ok (.iushr, 1) := by decide +kernel
theorem dJ6_bitCount_0f7a4_39 : decode cJ6_bitCount_0f7a4 39 = .ok (.iadd, 1) := by decide +kernel
theorem dJ6_bitCount_0f7a4_40 : decode cJ6_bitCount_0f7a4 40 = .ok (.istore_n 0, 1) := by decide +kernel
theorem dJ6_bitCount_0f7a4_41 : decode cJ6_bitCount_0f7a4 41 = .ok (.iload_n 0, 1) := by decide +kernel
theorem dJ6_bitCount_0f7a4_42 : decode cJ6_bitCount_0f7a4 42 = .ok (.iload_n 0, 1) := by decide +kernel
theorem dJ6_bitCount_0f7a4_43 : decode cJ6_bitCount_0f7a4 43 = .ok (.bipush 16, 2) := by decide +kernel
theorem dJ6_bitCount_0f7a4_45 : decode cJ6_bitCount_0f7a4 45 = .ok (.iushr, 1) := by decide +kernel
theorem dJ6_bitCount_0f7a4_46 : decode cJ6_bitCount_0f7a4 46 = .ok (.iadd, 1) := by decide +kernel
theorem dJ6_bitCount_0f7a4_47 : decode cJ6_bitCount_0f7a4 47 = .ok (.istore_n 0, 1) := by decide +kernel
theorem dJ6_bitCount_0f7a4_48 : decode cJ6_bitCount_0f7a4 48 = .ok (.iload_n 0, 1) := by decide +kernel
theorem dJ6_bitCount_0f7a4_49 : decode cJ6_bitCount_0f7a4 49 = .ok (.bipush 63, 2) := by decide +kernel
theorem dJ6_bitCount_0f7a4_51 : decode cJ6_bitCount_0f7a4 51 = .ok (.iand, 1) := by decide +kernel
theorem dJ6_bitCount_0f7a4_52 : decode cJ6_bitCount_0f7a4 52 = .ok (.ireturn, 1) := by decide +kernel
theorem dJ9_floorMod_7cf53_0 : decode cJ9_floorMod_7cf53 0 = .ok (.iload_n 0, 1) := by decide +kernel
theorem dJ9_floorMod_7cf53_1 : decode cJ9_floorMod_7cf53 1 = .ok (.iload_n 1, 1) := by decide +kernel
theorem dJ9_floorMod_7cf53_2 : decode cJ9_floorMod_7cf53 2 = .ok (.irem, 1) := by decide +kernel
theorem dJ9_floorMod_7cf53_3 : decode cJ9_floorMod_7cf53 3 = .ok (.istore_n 2, 1) := by decide +kernel
theorem dJ9_floorMod_7cf53_4 : decode cJ9_floorMod_7cf53 4 = .ok (.iload_n 0, 1) := by decide +kernel
theorem dJ9_floorMod_7cf53_5 : decode cJ9_floorMod_7cf53 5 = .ok (.iload_n 1, 1) := by decide +kernel
theorem dJ9_floorMod_7cf53_6 : decode cJ9_floorMod_7cf53 6 = .ok (.ixor, 1) := by decide +kernel
theorem dJ9_floorMod_7cf53_7 : decode cJ9_floorMod_7cf53 7 = .ok (.ifCond .ge 11, 3) := by decide +kernel
theorem dJ9_floorMod_7cf53_10 : decode cJ9_floorMod_7cf53 10 = .ok (.iload_n 2, 1) := by decide +kernel
theorem dJ9_floorMod_7cf53_11 : decode cJ9_floorMod_7cf53 11 = .ok (.ifCond .eq 7, 3) := by decide +kernel
theorem dJ9_floorMod_7cf53_14 : decode cJ9_floorMod_7cf53 14 = .ok (.iload_n 2, 1) := by decide +kernel
theorem dJ9_floorMod_7cf53_15 : decode cJ9_floorMod_7cf53 15 = .ok (.iload_n 1, 1) := by decide +kernel
theorem dJ9_floorMod_7cf53_16 : decode cJ9_floorMod_7cf53 16 = .ok (.iadd, 1) := by decide +kernel
theorem dJ9_floorMod_7cf53_17 : decode cJ9_floorMod_7cf53 17 = .ok (.ireturn, 1) := by decide +kernel
theorem dJ9_floorMod_7cf53_18 : decode cJ9_floorMod_7cf53 18 = .ok (.iload_n 2, 1) := by decide +kernel
theorem dJ9_floorMod_7cf53_19 : decode cJ9_floorMod_7cf53 19 = .ok (.ireturn, 1) := by decide +kernel
theorem dJ9_abs_0f7a4_0 : decode cJ9_abs_0f7a4 0 = .ok (.iload_n 0, 1) := by decide +kernel
theorem dJ9_abs_0f7a4_1 : decode cJ9_abs_0f7a4 1 = .ok (.ifCond .ge 8, 3) := by decide +kernel
theorem dJ9_abs_0f7a4_4 : decode cJ9_abs_0f7a4 4 = .ok (.iload_n 0, 1) := by decide +kernel
theorem dJ9_abs_0f7a4_5 : decode cJ9_abs_0f7a4 5 = .ok (.ineg, 1) := by decide +kernel
theorem dJ9_abs_0f7a4_6 : decode cJ9_abs_0f7a4 6 = .ok (.goto 4, 3) := by decide +kernel
theorem dJ9_abs_0f7a4_9 : decode cJ9_abs_0f7a4 9 = .ok (.iload_n 0, 1) := by decide +kernel
theorem dJ9_abs_0f7a4_10 : decode cJ9_abs_0f7a4 10 = .ok (.ireturn, 1) := by decide +kernel
theorem dJ9_min_7cf53_0 : decode cJ9_min_7cf53 0 = .ok (.iload_n 0, 1) := by decide +kernel
theorem dJ9_min_7cf53_1 : decode cJ9_min_7cf53 1 = .ok (.iload_n 1, 1) := by decide +kernel
theorem dJ9_min_7cf53_2 : decode cJ9_min_7cf53 2 = .ok (.if_icmp .gt 7, 3) := by decide +kernel
theorem dJ9_min_7cf53_5 : decode cJ9_min_7cf53 5 = .ok (.iload_n 0, 1) := by decide +kernel
theorem dJ9_min_7cf53_6 : decode cJ9_min_7cf53 6 = .ok (.goto 4, 3) := by decide +kernel
theorem dJ9_min_7cf53_9 : decode cJ9_min_7cf53 9 = .ok (.iload_n 1, 1) := by decide +kernel
theorem dJ9_min_7cf53_10 : decode cJ9_min_7cf53 10 = .ok (.ireturn, 1) := by decide +kernel
theorem dL_law_0 : decode cL_law 0 = .ok (.new 7, 3) := by decide +kernel
theorem dL_law_3 : decode cL_law 3 = .ok (.dup, 1) := by decide +kernel
theorem dL_law_4 : decode cL_law 4 = .ok (.invokespecial 9, 3) := by decide +kernel
theorem dL_law_7 : decode cL_law 7 = .ok (.astore_n 1, 1) := by decide +kernel
theorem dL_law_8 : decode cL_law 8 = .ok (.new 10, 3) := by decide +kernel
theorem dL_law_11 : decode cL_law 11 = .ok (.dup, 1) := by decide +kernel
theorem dL_law_12 : decode cL_law 12 = .ok (.invokespecial 12, 3) := by decide +kernel
theorem dL_law_15 : decode cL_law 15 = .ok (.astore_n 2, 1) := by decide +kernel
theorem dL_law_16 : decode cL_law 16 = .ok (.iconst 0, 1) := by decide +kernel
theorem dL_law_17 : decode cL_law 17 = .ok (.istore_n 3, 1) := by decide +kernel
theorem dL_law_18 : decode cL_law 18 = .ok (.iload_n 3, 1) := by decide +kernel
theorem dL_law_19 : decode cL_law 19 = .ok (.aload_n 0, 1) := by decide +kernel
theorem dL_law_20 : decode cL_law 20 = .ok (.arraylength, 1) := by decide +kernel
theorem dL_law_21 : decode cL_law 21 = .ok (.bipush 7, 2) := by decide +kernel
theorem dL_law_23 : decode cL_law 23 = .ok (.isub, 1) := by decide +kernel
theorem dL_law_24 : decode cL_law 24 = .ok (.if_icmp .gt 1148, 3) := by decide +kernel
theorem dL_law_27 : decode cL_law 27 = .ok (.aload_n 0, 1) := by decide +kernel
theorem dL_law_28 : decode cL_law 28 = .ok (.iload_n 3, 1) := by decide +kernel
theorem dL_law_29 : decode cL_law 29 = .ok (.iaload, 1) := by decide +kernel
theorem dL_law_30 : decode cL_law 30 = .ok (.bipush 31, 2) := by decide +kernel
theorem dL_law_32 : decode cL_law 32 = .ok (.iand, 1) := by decide +kernel
theorem dL_law_33 : decode cL_law 33 = .ok (.tableswitch 1133 0 27 #[127, 140, 183, 206, 229, 242, 275, 328, 391, 414, 457, 532, 565, 578, 601, 614, 667, 710, 733, 786, 829, 862, 905, 938, 991, 1024, 1067, 1110], 127) := by decide +kernel
theorem dL_law_160 : decode cL_law 160 = .ok (.aload_n 1, 1) := by decide +kernel
theorem dL_law_161 : decode cL_law 161 = .ok (.invokevirtual 13, 3) := by decide +kernel
theorem dL_law_164 : decode cL_law 164 = .ok (.aload_n 2, 1) := by decide +kernel
theorem dL_law_165 : decode cL_law 165 = .ok (.invokevirtual 17, 3) := by decide +kernel
theorem dL_law_168 : decode cL_law 168 = .ok (.if_icmp .eq 998, 3) := by decide +kernel
theorem dL_law_171 : decode cL_law 171 = .ok (.iconst 0, 1) := by decide +kernel
theorem dL_law_172 : decode cL_law 172 = .ok (.ireturn, 1) := by decide +kernel
theorem dL_law_173 : decode cL_law 173 = .ok (.aload_n 1, 1) := by decide +kernel
theorem dL_law_174 : decode cL_law 174 = .ok (.aload_n 0, 1) := by decide +kernel
theorem dL_law_175 : decode cL_law 175 = .ok (.iload_n 3, 1) := by decide +kernel
theorem dL_law_176 : decode cL_law 176 = .ok (.iconst 1, 1) := by decide +kernel
theorem dL_law_177 : decode cL_law 177 = .ok (.iadd, 1) := by decide +kernel
theorem dL_law_178 : decode cL_law 178 = .ok (.iaload, 1) := by decide +kernel
theorem dL_law_179 : decode cL_law 179 = .ok (.aload_n 0, 1) := by decide +kernel
theorem dL_law_180 : decode cL_law 180 = .ok (.iload_n 3, 1) := by decide +kernel
theorem dL_law_181 : decode cL_law 181 = .ok (.iconst 2, 1) := by decide +kernel
theorem dL_law_182 : decode cL_law 182 = .ok (.iadd, 1) := by decide +kernel
theorem dL_law_183 : decode cL_law 183 = .ok (.iaload, 1) := by decide +kernel
theorem dL_law_184 : decode cL_law 184 = .ok (.aload_n 0, 1) := by decide +kernel
theorem dL_law_185 : decode cL_law 185 = .ok (.iload_n 3, 1) := by decide +kernel
theorem dL_law_186 : decode cL_law 186 = .ok (.iconst 3, 1) := by decide +kernel
theorem dL_law_187 : decode cL_law 187 = .ok (.iadd, 1) := by decide +kernel
theorem dL_law_188 : decode cL_law 188 = .ok (.iaload, 1) := by decide +kernel
theorem dL_law_189 : decode cL_law 189 = .ok (.invokevirtual 18, 3) := by decide +kernel
theorem dL_law_192 : decode cL_law 192 = .ok (.aload_n 2, 1) := by decide +kernel
theorem dL_law_193 : decode cL_law 193 = .ok (.aload_n 0, 1) := by decide +kernel
theorem dL_law_194 : decode cL_law 194 = .ok (.iload_n 3, 1) := by decide +kernel
theorem dL_law_195 : decode cL_law 195 = .ok (.iconst 1, 1) := by decide +kernel
theorem dL_law_196 : decode cL_law 196 = .ok (.iadd, 1) := by decide +kernel
theorem dL_law_197 : decode cL_law 197 = .ok (.iaload, 1) := by decide +kernel
theorem dL_law_198 : decode cL_law 198 = .ok (.aload_n 0, 1) := by decide +kernel
theorem dL_law_199 : decode cL_law 199 = .ok (.iload_n 3, 1) := by decide +kernel
theorem dL_law_200 : decode cL_law 200 = .ok (.iconst 2, 1) := by decide +kernel
theorem dL_law_201 : decode cL_law 201 = .ok (.iadd, 1) := by decide +kernel
theorem dL_law_202 : decode cL_law 202 = .ok (.iaload, 1) := by decide +kernel
theorem dL_law_203 : decode cL_law 203 = .ok (.aload_n 0, 1) := by decide +kernel
theorem dL_law_204 : decode cL_law 204 = .ok (.iload_n 3, 1) := by decide +kernel
theorem dL_law_205 : decode cL_law 205 = .ok (.iconst 3, 1) := by decide +kernel
theorem dL_law_206 : decode cL_law 206 = .ok (.iadd, 1) := by decide +kernel
theorem dL_law_207 : decode cL_law 207 = .ok (.iaload, 1) := by decide +kernel
theorem dL_law_208 : decode cL_law 208 = .ok (.invokevirtual 22, 3) := by decide +kernel
theorem dL_law_211 : decode cL_law 211 = .ok (.if_icmp .eq 955, 3) := by decide +kernel
theorem dL_law_214 : decode cL_law 214 = .ok (.iconst 0, 1) := by decide +kernel
theorem dL_law_215 : decode cL_law 215 = .ok (.ireturn, 1) := by decide +kernel
theorem dL_law_216 : decode cL_law 216 = .ok (.aload_n 1, 1) := by decide +kernel
theorem dL_law_217 : decode cL_law 217 = .ok (.aload_n 0, 1) := by decide +kernel
theorem dL_law_218 : decode cL_law 218 = .ok (.iload_n 3, 1) := by decide +kernel
theorem dL_law_219 : decode cL_law 219 = .ok (.iconst 1, 1) := by decide +kernel
theorem dL_law_220 : decode cL_law 220 = .ok (.iadd, 1) := by decide +kernel
theorem dL_law_221 : decode cL_law 221 = .ok (.iaload, 1) := by decide +kernel
theorem dL_law_222 : decode cL_law 222 = .ok (.invokevirtual 23, 3) := by decide +kernel
theorem dL_law_225 : decode cL_law 225 = .ok (.aload_n 2, 1) := by decide +kernel
theorem dL_law_226 : decode cL_law 226 = .ok (.aload_n 0, 1) := by decide +kernel
theorem dL_law_227 : decode cL_law 227 = .ok (.iload_n 3, 1) := by decide +kernel
theorem dL_law_228 : decode cL_law 228 = .ok (.iconst 1, 1) := by decide +kernel
theorem dL_law_229 : decode cL_law 229 = .ok (.iadd, 1) := by decide +kernel
theorem dL_law_230 : decode cL_law 230 = .ok (.iaload, 1) := by decide +kernel
theorem dL_law_231 : decode cL_law 231 = .ok (.invokevirtual 27, 3) := by decide +kernel
theorem dL_law_234 : decode cL_law 234 = .ok (.if_icmp .eq 932, 3) := by decide +kernel
theorem dL_law_237 : decode cL_law 237 = .ok (.iconst 0, 1) := by decide +kernel
theorem dL_law_238 : decode cL_law 238 = .ok (.ireturn, 1) := by decide +kernel
theorem dL_law_239 : decode cL_law 239 = .ok (.aload_n 1, 1) := by decide +kernel
theorem dL_law_240 : decode cL_law 240 = .ok (.aload_n 0, 1) := by decide +kernel
theorem dL_law_241 : decode cL_law 241 = .ok (.iload_n 3, 1) := by decide +kernel
theorem dL_law_242 : decode cL_law 242 = .ok (.iconst 1, 1) := by decide +kernel
theorem dL_law_243 : decode cL_law 243 = .ok (.iadd, 1) := by decide +kernel
theorem dL_law_244 : decode cL_law 244 = .ok (.iaload, 1) := by decide +kernel
theorem dL_law_245 : decode cL_law 245 = .ok (.invokevirtual 28, 3) := by decide +kernel
theorem dL_law_248 : decode cL_law 248 = .ok (.aload_n 2, 1) := by decide +kernel
theorem dL_law_249 : decode cL_law 249 = .ok (.aload_n 0, 1) := by decide +kernel
theorem dL_law_250 : decode cL_law 250 = .ok (.iload_n 3, 1) := by decide +kernel
theorem dL_law_251 : decode cL_law 251 = .ok (.iconst 1, 1) := by decide +kernel
theorem dL_law_252 : decode cL_law 252 = .ok (.iadd, 1) := by decide +kernel
theorem dL_law_253 : decode cL_law 253 = .ok (.iaload, 1) := by decide +kernel
theorem dL_law_254 : decode cL_law 254 = .ok (.invokevirtual 31, 3) := by decide +kernel
theorem dL_law_257 : decode cL_law 257 = .ok (.if_icmp .eq 909, 3) := by decide +kernel
theorem dL_law_260 : decode cL_law 260 = .ok (.iconst 0, 1) := by decide +kernel
theorem dL_law_261 : decode cL_law 261 = .ok (.ireturn, 1) := by decide +kernel
theorem dL_law_262 : decode cL_law 262 = .ok (.aload_n 1, 1) := by decide +kernel
theorem dL_law_263 : decode cL_law 263 = .ok (.invokevirtual 32, 3) := by decide +kernel
theorem dL_law_266 : decode cL_law 266 = .ok (.aload_n 2, 1) := by decide +kernel
theorem dL_law_267 : decode cL_law 267 = .ok (.invokevirtual 35, 3) := by decide +kernel
theorem dL_law_270 : decode cL_law 270 = .ok (.if_icmp .eq 896, 3) := by decide +kernel
theorem dL_law_273 : decode cL_law 273 = .ok (.iconst 0, 1) := by decide +kernel
theorem dL_law_274 : decode cL_law 274 = .ok (.ireturn, 1) := by decide +kernel
theorem dL_law_275 : decode cL_law 275 = .ok (.aload_n 1, 1) := by decide +kernel
theorem dL_law_276 : decode cL_law 276 = .ok (.aload_n 0, 1) := by decide +kernel
theorem dL_law_277 : decode cL_law 277 = .ok (.iload_n 3, 1) := by decide +kernel
theorem dL_law_278 : decode cL_law 278 = .ok (.iconst 1, 1) := by decide +kernel
theorem dL_law_279 : decode cL_law 279 = .ok (.iadd, 1) := by decide +kernel
theorem dL_law_280 : decode cL_law 280 = .ok (.iaload, 1) := by decide +kernel
theorem dL_law_281 : decode cL_law 281 = .ok (.aload_n 0, 1) := by decide +kernel
theorem dL_law_282 : decode cL_law 282 = .ok (.iload_n 3, 1) := by decide +kernel
theorem dL_law_283 : decode cL_law 283 = .ok (.iconst 2, 1) := by decide +kernel
theorem dL_law_284 : decode cL_law 284 = .ok (.iadd, 1) := by decide +kernel
theorem dL_law_285 : decode cL_law 285 = .ok (.iaload, 1) := by decide +kernel
theorem dL_law_286 : decode cL_law 286 = .ok (.invokevirtual 36, 3) := by decide +kernel
theorem dL_law_289 : decode cL_law 289 = .ok (.aload_n 2, 1) := by decide +kernel
theorem dL_law_290 : decode cL_law 290 = .ok (.aload_n 0, 1) := by decide +kernel
theorem dL_law_291 : decode cL_law 291 = .ok (.iload_n 3, 1) := by decide +kernel
theorem dL_law_292 : decode cL_law 292 = .ok (.iconst 1, 1) := by decide +kernel
theorem dL_law_293 : decode cL_law 293 = .ok (.iadd, 1) := by decide +kernel
theorem dL_law_294 : decode cL_law 294 = .ok (.iaload, 1) := by decide +kernel
theorem dL_law_295 : decode cL_law 295 = .ok (.aload_n 0, 1) := by decide +kernel
theorem dL_law_296 : decode cL_law 296 = .ok (.iload_n 3, 1) := by decide +kernel
theorem dL_law_297 : decode cL_law 297 = .ok (.iconst 2, 1) := by decide +kernel
theorem dL_law_298 : decode cL_law 298 = .ok (.iadd, 1) := by decide +kernel
theorem dL_law_299 : decode cL_law 299 = .ok (.iaload, 1) := by decide +kernel
theorem dL_law_300 : decode cL_law 300 = .ok (.invokevirtual 40, 3) := by decide +kernel
theorem dL_law_303 : decode cL_law 303 = .ok (.if_icmp .eq 863, 3) := by decide +kernel
theorem dL_law_306 : decode cL_law 306 = .ok (.iconst 0, 1) := by decide +kernel
theorem dL_law_307 : decode cL_law 307 = .ok (.ireturn, 1) := by decide +kernel
theorem dL_law_308 : decode cL_law 308 = .ok (.aload_n 1, 1) := by decide +kernel
theorem dL_law_309 : decode cL_law 309 = .ok (.aload_n 0, 1) := by decide +kernel
theorem dL_law_310 : decode cL_law 310 = .ok (.iload_n 3, 1) := by decide +kernel
theorem dL_law_311 : decode cL_law 311 = .ok (.iconst 1, 1) := by decide +kernel
theorem dL_law_312 : decode cL_law 312 = .ok (.iadd, 1) := by decide +kernel
theorem dL_law_313 : decode cL_law 313 = .ok (.iaload, 1) := by decide +kernel
theorem dL_law_314 : decode cL_law 314 = .ok (.aload_n 0, 1) := by decide +kernel
theorem dL_law_315 : decode cL_law 315 = .ok (.iload_n 3, 1) := by decide +kernel
theorem dL_law_316 : decode cL_law 316 = .ok (.iconst 2, 1) := by decide +kernel
theorem dL_law_317 : decode cL_law 317 = .ok (.iadd, 1) := by decide +kernel
theorem dL_law_318 : decode cL_law 318 = .ok (.iaload, 1) := by decide +kernel
theorem dL_law_319 : decode cL_law 319 = .ok (.aload_n 0, 1) := by decide +kernel
theorem dL_law_320 : decode cL_law 320 = .ok (.iload_n 3, 1) := by decide +kernel
theorem dL_law_321 : decode cL_law 321 = .ok (.iconst 3, 1) := by decide +kernel
theorem dL_law_322 : decode cL_law 322 = .ok (.iadd, 1) := by decide +kernel
theorem dL_law_323 : decode cL_law 323 = .ok (.iaload, 1) := by decide +kernel
theorem dL_law_324 : decode cL_law 324 = .ok (.aload_n 0, 1) := by decide +kernel
theorem dL_law_325 : decode cL_law 325 = .ok (.iload_n 3, 1) := by decide +kernel
theorem dL_law_326 : decode cL_law 326 = .ok (.iconst 4, 1) := by decide +kernel
theorem dL_law_327 : decode cL_law 327 = .ok (.iadd, 1) := by decide +kernel
theorem dL_law_328 : decode cL_law 328 = .ok (.iaload, 1) := by decide +kernel
theorem dL_law_329 : decode cL_law 329 = .ok (.invokevirtual 41, 3) := by decide +kernel
theorem dL_law_332 : decode cL_law 332 = .ok (.aload_n 2, 1) := by decide +kernel
theorem dL_law_333 : decode cL_law 333 = .ok (.aload_n 0, 1) := by decide +kernel
theorem dL_law_334 : decode cL_law 334 = .ok (.iload_n 3, 1) := by decide +kernel
theorem dL_law_335 : decode cL_law 335 = .ok (.iconst 1, 1) := by decide +kernel
theorem dL_law_336 : decode cL_law 336 = .ok (.iadd, 1) := by decide +kernel
theorem dL_law_337 : decode cL_law 337 = .ok (.iaload, 1) := by decide +kernel
theorem dL_law_338 : decode cL_law 338 = .ok (.aload_n 0, 1) := by decide +kernel
theorem dL_law_339 : decode cL_law 339 = .ok (.iload_n 3, 1) := by decide +kernel
theorem dL_law_340 : decode cL_law 340 = .ok (.iconst 2, 1) := by decide +kernel
theorem dL_law_341 : decode cL_law 341 = .ok (.iadd, 1) := by decide +kernel
theorem dL_law_342 : decode cL_law 342 = .ok (.iaload, 1) := by decide +kernel
theorem dL_law_343 : decode cL_law 343 = .ok (.aload_n 0, 1) := by decide +kernel
theorem dL_law_344 : decode cL_law 344 = .ok (.iload_n 3, 1) := by decide +kernel
theorem dL_law_345 : decode cL_law 345 = .ok (.iconst 3, 1) := by decide +kernel
theorem dL_law_346 : decode cL_law 346 = .ok (.iadd, 1) := by decide +kernel
theorem dL_law_347 : decode cL_law 347 = .ok (.iaload, 1) := by decide +kernel
theorem dL_law_348 : decode cL_law 348 = .ok (.aload_n 0, 1) := by decide +kernel
theorem dL_law_349 : decode cL_law 349 = .ok (.iload_n 3, 1) := by decide +kernel
theorem dL_law_350 : decode cL_law 350 = .ok (.iconst 4, 1) := by decide +kernel
theorem dL_law_351 : decode cL_law 351 = .ok (.iadd, 1) := by decide +kernel
theorem dL_law_352 : decode cL_law 352 = .ok (.iaload, 1) := by decide +kernel
theorem dL_law_353 : decode cL_law 353 = .ok (.invokevirtual 45, 3) := by decide +kernel
theorem dL_law_356 : decode cL_law 356 = .ok (.if_icmp .eq 810, 3) := by decide +kernel
theorem dL_law_359 : decode cL_law 359 = .ok (.iconst 0, 1) := by decide +kernel
theorem dL_law_360 : decode cL_law 360 = .ok (.ireturn, 1) := by decide +kernel
theorem dL_law_361 : decode cL_law 361 = .ok (.aload_n 1, 1) := by decide +kernel
theorem dL_law_362 : decode cL_law 362 = .ok (.aload_n 0, 1) := by decide +kernel
theorem dL_law_363 : decode cL_law 363 = .ok (.iload_n 3, 1) := by decide +kernel
theorem dL_law_364 : decode cL_law 364 = .ok (.iconst 1, 1) := by decide +kernel
theorem dL_law_365 : decode cL_law 365 = .ok (.iadd, 1) := by decide +kernel
theorem dL_law_366 : decode cL_law 366 = .ok (.iaload, 1) := by decide +kernel
theorem dL_law_367 : decode cL_law 367 = .ok (.aload_n 0, 1) := by decide +kernel
theorem dL_law_368 : decode cL_law 368 = .ok (.iload_n 3, 1) := by decide +kernel
theorem dL_law_369 : decode cL_law 369 = .ok (.iconst 2, 1) := by decide +kernel
theorem dL_law_370 : decode cL_law 370 = .ok (.iadd, 1) := by decide +kernel
theorem dL_law_371 : decode cL_law 371 = .ok (.iaload, 1) := by decide +kernel
theorem dL_law_372 : decode cL_law 372 = .ok (.aload_n 0, 1) := by decide +kernel
theorem dL_law_373 : decode cL_law 373 = .ok (.iload_n 3, 1) := by decide +kernel
theorem dL_law_374 : decode cL_law 374 = .ok (.iconst 3, 1) := by decide +kernel
theorem dL_law_375 : decode cL_law 375 = .ok (.iadd, 1) := by decide +kernel
theorem dL_law_376 : decode cL_law 376 = .ok (.iaload, 1) := by decide +kernel
theorem dL_law_377 : decode cL_law 377 = .ok (.aload_n 0, 1) := by decide +kernel
theorem dL_law_378 : decode cL_law 378 = .ok (.iload_n 3, 1) := by decide +kernel
theorem dL_law_379 : decode cL_law 379 = .ok (.iconst 4, 1) := by decide +kernel
theorem dL_law_380 : decode cL_law 380 = .ok (.iadd, 1) := by decide +kernel
theorem dL_law_381 : decode cL_law 381 = .ok (.iaload, 1) := by decide +kernel
theorem dL_law_382 : decode cL_law 382 = .ok (.aload_n 0, 1) := by decide +kernel
theorem dL_law_383 : decode cL_law 383 = .ok (.iload_n 3, 1) := by decide +kernel
theorem dL_law_384 : decode cL_law 384 = .ok (.iconst 5, 1) := by decide +kernel
theorem dL_law_385 : decode cL_law 385 = .ok (.iadd, 1) := by decide +kernel
theorem dL_law_386 : decode cL_law 386 = .ok (.iaload, 1) := by decide +kernel
theorem dL_law_387 : decode cL_law 387 = .ok (.invokevirtual 46, 3) := by decide +kernel
theorem dL_law_390 : decode cL_law 390 = .ok (.aload_n 2, 1) := by decide +kernel
theorem dL_law_391 : decode cL_law 391 = .ok (.aload_n 0, 1) := by decide +kernel
theorem dL_law_392 : decode cL_law 392 = .ok (.iload_n 3, 1) := by decide +kernel
theorem dL_law_393 : decode cL_law 393 = .ok (.iconst 1, 1) := by decide +kernel
theorem dL_law_394 : decode cL_law 394 = .ok (.iadd, 1) := by decide +kernel
theorem dL_law_395 : decode cL_law 395 = .ok (.iaload, 1) := by decide +kernel
theorem dL_law_396 : decode cL_law 396 = .ok (.aload_n 0, 1) := by decide +kernel
theorem dL_law_397 : decode cL_law 397 = .ok (.iload_n 3, 1) := by decide +kernel
theorem dL_law_398 : decode cL_law 398 = .ok (.iconst 2, 1) := by decide +kernel
theorem dL_law_399 : decode cL_law 399 = .ok (.iadd, 1) := by decide +kernel
theorem dL_law_400 : decode cL_law 400 = .ok (.iaload, 1) := by decide +kernel
theorem dL_law_401 : decode cL_law 401 = .ok (.aload_n 0, 1) := by decide +kernel
theorem dL_law_402 : decode cL_law 402 = .ok (.iload_n 3, 1) := by decide +kernel
theorem dL_law_403 : decode cL_law 403 = .ok (.iconst 3, 1) := by decide +kernel
theorem dL_law_404 : decode cL_law 404 = .ok (.iadd, 1) := by decide +kernel
theorem dL_law_405 : decode cL_law 405 = .ok (.iaload, 1) := by decide +kernel
theorem dL_law_406 : decode cL_law 406 = .ok (.aload_n 0, 1) := by decide +kernel
theorem dL_law_407 : decode cL_law 407 = .ok (.iload_n 3, 1) := by decide +kernel
theorem dL_law_408 : decode cL_law 408 = .ok (.iconst 4, 1) := by decide +kernel
theorem dL_law_409 : decode cL_law 409 = .ok (.iadd, 1) := by decide +kernel
theorem dL_law_410 : decode cL_law 410 = .ok (.iaload, 1) := by decide +kernel
theorem dL_law_411 : decode cL_law 411 = .ok (.aload_n 0, 1) := by decide +kernel
theorem dL_law_412 : decode cL_law 412 = .ok (.iload_n 3, 1) := by decide +kernel
theorem dL_law_413 : decode cL_law 413 = .ok (.iconst 5, 1) := by decide +kernel
theorem dL_law_414 : decode cL_law 414 = .ok (.iadd, 1) := by decide +kernel
theorem dL_law_415 : decode cL_law 415 = .ok (.iaload, 1) := by decide +kernel
theorem dL_law_416 : decode cL_law 416 = .ok (.invokevirtual 50, 3) := by decide +kernel
theorem dL_law_419 : decode cL_law 419 = .ok (.if_icmp .eq 747, 3) := by decide +kernel
theorem dL_law_422 : decode cL_law 422 = .ok (.iconst 0, 1) := by decide +kernel
theorem dL_law_423 : decode cL_law 423 = .ok (.ireturn, 1) := by decide +kernel
theorem dL_law_424 : decode cL_law 424 = .ok (.aload_n 1, 1) := by decide +kernel
theorem dL_law_425 : decode cL_law 425 = .ok (.aload_n 0, 1) := by decide +kernel
theorem dL_law_426 : decode cL_law 426 = .ok (.iload_n 3, 1) := by decide +kernel
theorem dL_law_427 : decode cL_law 427 = .ok (.iconst 1, 1) := by decide +kernel
theorem dL_law_428 : decode cL_law 428 = .ok (.iadd, 1) := by decide +kernel
theorem dL_law_429 : decode cL_law 429 = .ok (.iaload, 1) := by decide +kernel
theorem dL_law_430 : decode cL_law 430 = .ok (.invokevirtual 51, 3) := by decide +kernel
theorem dL_law_433 : decode cL_law 433 = .ok (.aload_n 2, 1) := by decide +kernel
theorem dL_law_434 : decode cL_law 434 = .ok (.aload_n 0, 1) := by decide +kernel
theorem dL_law_435 : decode cL_law 435 = .ok (.iload_n 3, 1) := by decide +kernel
theorem dL_law_436 : decode cL_law 436 = .ok (.iconst 1, 1) := by decide +kernel
theorem dL_law_437 : decode cL_law 437 = .ok (.iadd, 1) := by decide +kernel
theorem dL_law_438 : decode cL_law 438 = .ok (.iaload, 1) := by decide +kernel
theorem dL_law_439 : decode cL_law 439 = .ok (.invokevirtual 54, 3) := by decide +kernel
theorem dL_law_442 : decode cL_law 442 = .ok (.if_icmp .eq 724, 3) := by decide +kernel
theorem dL_law_445 : decode cL_law 445 = .ok (.iconst 0, 1) := by decide +kernel
theorem dL_law_446 : decode cL_law 446 = .ok (.ireturn, 1) := by decide +kernel
theorem dL_law_447 : decode cL_law 447 = .ok (.aload_n 1, 1) := by decide +kernel
theorem dL_law_448 : decode cL_law 448 = .ok (.aload_n 0, 1) := by decide +kernel
theorem dL_law_449 : decode cL_law 449 = .ok (.iload_n 3, 1) := by decide +kernel
theorem dL_law_450 : decode cL_law 450 = .ok (.iconst 1, 1) := by decide +kernel
theorem dL_law_451 : decode cL_law 451 = .ok (.iadd, 1) := by decide +kernel
theorem dL_law_452 : decode cL_law 452 = .ok (.iaload, 1) := by decide +kernel
theorem dL_law_453 : decode cL_law 453 = .ok (.aload_n 0, 1) := by decide +kernel
theorem dL_law_454 : decode cL_law 454 = .ok (.iload_n 3, 1) := by decide +kernel
theorem dL_law_455 : decode cL_law 455 = .ok (.iconst 2, 1) := by decide +kernel
theorem dL_law_456 : decode cL_law 456 = .ok (.iadd, 1) := by decide +kernel
theorem dL_law_457 : decode cL_law 457 = .ok (.iaload, 1) := by decide +kernel
theorem dL_law_458 : decode cL_law 458 = .ok (.aload_n 0, 1) := by decide +kernel
theorem dL_law_459 : decode cL_law 459 = .ok (.iload_n 3, 1) := by decide +kernel
theorem dL_law_460 : decode cL_law 460 = .ok (.iconst 3, 1) := by decide +kernel
theorem dL_law_461 : decode cL_law 461 = .ok (.iadd, 1) := by decide +kernel
theorem dL_law_462 : decode cL_law 462 = .ok (.iaload, 1) := by decide +kernel
theorem dL_law_463 : decode cL_law 463 = .ok (.invokevirtual 55, 3) := by decide +kernel
theorem dL_law_466 : decode cL_law 466 = .ok (.aload_n 2, 1) := by decide +kernel
theorem dL_law_467 : decode cL_law 467 = .ok (.aload_n 0, 1) := by decide +kernel
theorem dL_law_468 : decode cL_law 468 = .ok (.iload_n 3, 1) := by decide +kernel
theorem dL_law_469 : decode cL_law 469 = .ok (.iconst 1, 1) := by decide +kernel
theorem dL_law_470 : decode cL_law 470 = .ok (.iadd, 1) := by decide +kernel
theorem dL_law_471 : decode cL_law 471 = .ok (.iaload, 1) := by decide +kernel
theorem dL_law_472 : decode cL_law 472 = .ok (.aload_n 0, 1) := by decide +kernel
theorem dL_law_473 : decode cL_law 473 = .ok (.iload_n 3, 1) := by decide +kernel
theorem dL_law_474 : decode cL_law 474 = .ok (.iconst 2, 1) := by decide +kernel
theorem dL_law_475 : decode cL_law 475 = .ok (.iadd, 1) := by decide +kernel
theorem dL_law_476 : decode cL_law 476 = .ok (.iaload, 1) := by decide +kernel
theorem dL_law_477 : decode cL_law 477 = .ok (.aload_n 0, 1) := by decide +kernel
theorem dL_law_478 : decode cL_law 478 = .ok (.iload_n 3, 1) := by decide +kernel
theorem dL_law_479 : decode cL_law 479 = .ok (.iconst 3, 1) := by decide +kernel
theorem dL_law_480 : decode cL_law 480 = .ok (.iadd, 1) := by decide +kernel
theorem dL_law_481 : decode cL_law 481 = .ok (.iaload, 1) := by decide +kernel
theorem dL_law_482 : decode cL_law 482 = .ok (.invokevirtual 58, 3) := by decide +kernel
theorem dL_law_485 : decode cL_law 485 = .ok (.if_icmp .eq 681, 3) := by decide +kernel
theorem dL_law_488 : decode cL_law 488 = .ok (.iconst 0, 1) := by decide +kernel
theorem dL_law_489 : decode cL_law 489 = .ok (.ireturn, 1) := by decide +kernel
theorem dL_law_490 : decode cL_law 490 = .ok (.aload_n 1, 1) := by decide +kernel
theorem dL_law_491 : decode cL_law 491 = .ok (.aload_n 0, 1) := by decide +kernel
theorem dL_law_492 : decode cL_law 492 = .ok (.iload_n 3, 1) := by decide +kernel
theorem dL_law_493 : decode cL_law 493 = .ok (.iconst 1, 1) := by decide +kernel
theorem dL_law_494 : decode cL_law 494 = .ok (.iadd, 1) := by decide +kernel
theorem dL_law_495 : decode cL_law 495 = .ok (.iaload, 1) := by decide +kernel
theorem dL_law_496 : decode cL_law 496 = .ok (.aload_n 0, 1) := by decide +kernel
theorem dL_law_497 : decode cL_law 497 = .ok (.iload_n 3, 1) := by decide +kernel
theorem dL_law_498 : decode cL_law 498 = .ok (.iconst 2, 1) := by decide +kernel
theorem dL_law_499 : decode cL_law 499 = .ok (.iadd, 1) := by decide +kernel
theorem dL_law_500 : decode cL_law 500 = .ok (.iaload, 1) := by decide +kernel
theorem dL_law_501 : decode cL_law 501 = .ok (.aload_n 0, 1) := by decide +kernel
theorem dL_law_502 : decode cL_law 502 = .ok (.iload_n 3, 1) := by decide +kernel
theorem dL_law_503 : decode cL_law 503 = .ok (.iconst 3, 1) := by decide +kernel
theorem dL_law_504 : decode cL_law 504 = .ok (.iadd, 1) := by decide +kernel
theorem dL_law_505 : decode cL_law 505 = .ok (.iaload, 1) := by decide +kernel
theorem dL_law_506 : decode cL_law 506 = .ok (.aload_n 0, 1) := by decide +kernel
theorem dL_law_507 : decode cL_law 507 = .ok (.iload_n 3, 1) := by decide +kernel
theorem dL_law_508 : decode cL_law 508 = .ok (.iconst 4, 1) := by decide +kernel
theorem dL_law_509 : decode cL_law 509 = .ok (.iadd, 1) := by decide +kernel
theorem dL_law_510 : decode cL_law 510 = .ok (.iaload, 1) := by decide +kernel
theorem dL_law_511 : decode cL_law 511 = .ok (.aload_n 0, 1) := by decide +kernel
theorem dL_law_512 : decode cL_law 512 = .ok (.iload_n 3, 1) := by decide +kernel
theorem dL_law_513 : decode cL_law 513 = .ok (.iconst 5, 1) := by decide +kernel
theorem dL_law_514 : decode cL_law 514 = .ok (.iadd, 1) := by decide +kernel
theorem dL_law_515 : decode cL_law 515 = .ok (.iaload, 1) := by decide +kernel
theorem dL_law_516 : decode cL_law 516 = .ok (.aload_n 0, 1) := by decide +kernel
theorem dL_law_517 : decode cL_law 517 = .ok (.iload_n 3, 1) := by decide +kernel
theorem dL_law_518 : decode cL_law 518 = .ok (.bipush 6, 2) := by decide +kernel
theorem dL_law_520 : decode cL_law 520 = .ok (.iadd, 1) := by decide +kernel
theorem dL_law_521 : decode cL_law 521 = .ok (.iaload, 1) := by decide +kernel
theorem dL_law_522 : decode cL_law 522 = .ok (.invokevirtual 59, 3) := by decide +kernel
theorem dL_law_525 : decode cL_law 525 = .ok (.aload_n 2, 1) := by decide +kernel
theorem dL_law_526 : decode cL_law 526 = .ok (.aload_n 0, 1) := by decide +kernel
theorem dL_law_527 : decode cL_law 527 = .ok (.iload_n 3, 1) := by decide +kernel
theorem dL_law_528 : decode cL_law 528 = .ok (.iconst 1, 1) := by decide +kernel
theorem dL_law_529 : decode cL_law 529 = .ok (.iadd, 1) := by decide +kernel
theorem dL_law_530 : decode cL_law 530 = .ok (.iaload, 1) := by decide +kernel
theorem dL_law_531 : decode cL_law 531 = .ok (.aload_n 0, 1) := by decide +kernel
theorem dL_law_532 : decode cL_law 532 = .ok (.iload_n 3, 1) := by decide +kernel
theorem dL_law_533 : decode cL_law 533 = .ok (.iconst 2, 1) := by decide +kernel
theorem dL_law_534 : decode cL_law 534 = .ok (.iadd, 1) := by decide +kernel
theorem dL_law_535 : decode cL_law 535 = .ok (.iaload, 1) := by decide +kernel
theorem dL_law_536 : decode cL_law 536 = .ok (.aload_n 0, 1) := by decide +kernel
theorem dL_law_537 : decode cL_law 537 = .ok (.iload_n 3, 1) := by decide +kernel
theorem dL_law_538 : decode cL_law 538 = .ok (.iconst 3, 1) := by decide +kernel
theorem dL_law_539 : decode cL_law 539 = .ok (.iadd, 1) := by decide +kernel
theorem dL_law_540 : decode cL_law 540 = .ok (.iaload, 1) := by decide +kernel
theorem dL_law_541 : decode cL_law 541 = .ok (.aload_n 0, 1) := by decide +kernel
theorem dL_law_542 : decode cL_law 542 = .ok (.iload_n 3, 1) := by decide +kernel
theorem dL_law_543 : decode cL_law 543 = .ok (.iconst 4, 1) := by decide +kernel
theorem dL_law_544 : decode cL_law 544 = .ok (.iadd, 1) := by decide +kernel
theorem dL_law_545 : decode cL_law 545 = .ok (.iaload, 1) := by decide +kernel
theorem dL_law_546 : decode cL_law 546 = .ok (.aload_n 0, 1) := by decide +kernel
theorem dL_law_547 : decode cL_law 547 = .ok (.iload_n 3, 1) := by decide +kernel
theorem dL_law_548 : decode cL_law 548 = .ok (.iconst 5, 1) := by decide +kernel
theorem dL_law_549 : decode cL_law 549 = .ok (.iadd, 1) := by decide +kernel
theorem dL_law_550 : decode cL_law 550 = .ok (.iaload, 1) := by decide +kernel
theorem dL_law_551 : decode cL_law 551 = .ok (.aload_n 0, 1) := by decide +kernel
theorem dL_law_552 : decode cL_law 552 = .ok (.iload_n 3, 1) := by decide +kernel
theorem dL_law_553 : decode cL_law 553 = .ok (.bipush 6, 2) := by decide +kernel
theorem dL_law_555 : decode cL_law 555 = .ok (.iadd, 1) := by decide +kernel
theorem dL_law_556 : decode cL_law 556 = .ok (.iaload, 1) := by decide +kernel
theorem dL_law_557 : decode cL_law 557 = .ok (.invokevirtual 63, 3) := by decide +kernel
theorem dL_law_560 : decode cL_law 560 = .ok (.if_icmp .eq 606, 3) := by decide +kernel
theorem dL_law_563 : decode cL_law 563 = .ok (.iconst 0, 1) := by decide +kernel
theorem dL_law_564 : decode cL_law 564 = .ok (.ireturn, 1) := by decide +kernel
theorem dL_law_565 : decode cL_law 565 = .ok (.aload_n 1, 1) := by decide +kernel
theorem dL_law_566 : decode cL_law 566 = .ok (.aload_n 0, 1) := by decide +kernel
theorem dL_law_567 : decode cL_law 567 = .ok (.iload_n 3, 1) := by decide +kernel
theorem dL_law_568 : decode cL_law 568 = .ok (.iconst 1, 1) := by decide +kernel
theorem dL_law_569 : decode cL_law 569 = .ok (.iadd, 1) := by decide +kernel
theorem dL_law_570 : decode cL_law 570 = .ok (.iaload, 1) := by decide +kernel
theorem dL_law_571 : decode cL_law 571 = .ok (.aload_n 0, 1) := by decide +kernel
theorem dL_law_572 : decode cL_law 572 = .ok (.iload_n 3, 1) := by decide +kernel
theorem dL_law_573 : decode cL_law 573 = .ok (.iconst 2, 1) := by decide +kernel
theorem dL_law_574 : decode cL_law 574 = .ok (.iadd, 1) := by decide +kernel
theorem dL_law_575 : decode cL_law 575 = .ok (.iaload, 1) := by decide +kernel
theorem dL_law_576 : decode cL_law 576 = .ok (.invokevirtual 64, 3) := by decide +kernel
theorem dL_law_579 : decode cL_law 579 = .ok (.aload_n 2, 1) := by decide +kernel
theorem dL_law_580 : decode cL_law 580 = .ok (.aload_n 0, 1) := by decide +kernel
theorem dL_law_581 : decode cL_law 581 = .ok (.iload_n 3, 1) := by decide +kernel
theorem dL_law_582 : decode cL_law 582 = .ok (.iconst 1, 1) := by decide +kernel
theorem dL_law_583 : decode cL_law 583 = .ok (.iadd, 1) := by decide +kernel
theorem dL_law_584 : decode cL_law 584 = .ok (.iaload, 1) := by decide +kernel
theorem dL_law_585 : decode cL_law 585 = .ok (.aload_n 0, 1) := by decide +kernel
theorem dL_law_586 : decode cL_law 586 = .ok (.iload_n 3, 1) := by decide +kernel
theorem dL_law_587 : decode cL_law 587 = .ok (.iconst 2, 1) := by decide +kernel
theorem dL_law_588 : decode cL_law 588 = .ok (.iadd, 1) := by decide +kernel
theorem dL_law_589 : decode cL_law 589 = .ok (.iaload, 1) := by decide +kernel
theorem dL_law_590 : decode cL_law 590 = .ok (.invokevirtual 67, 3) := by decide +kernel
theorem dL_law_593 : decode cL_law 593 = .ok (.if_icmp .eq 573, 3) := by decide +kernel
theorem dL_law_596 : decode cL_law 596 = .ok (.iconst 0, 1) := by decide +kernel
theorem dL_law_597 : decode cL_law 597 = .ok (.ireturn, 1) := by decide +kernel
theorem dL_law_598 : decode cL_law 598 = .ok (.aload_n 1, 1) := by decide +kernel
theorem dL_law_599 : decode cL_law 599 = .ok (.invokevirtual 68, 3) := by decide +kernel
theorem dL_law_602 : decode cL_law 602 = .ok (.aload_n 2, 1) := by decide +kernel
theorem dL_law_603 : decode cL_law 603 = .ok (.invokevirtual 71, 3) := by decide +kernel
theorem dL_law_606 : decode cL_law 606 = .ok (.if_icmp .eq 560, 3) := by decide +kernel
theorem dL_law_609 : decode cL_law 609 = .ok (.iconst 0, 1) := by decide +kernel
theorem dL_law_610 : decode cL_law 610 = .ok (.ireturn, 1) := by decide +kernel
theorem dL_law_611 : decode cL_law 611 = .ok (.aload_n 1, 1) := by decide +kernel
theorem dL_law_612 : decode cL_law 612 = .ok (.aload_n 0, 1) := by decide +kernel
theorem dL_law_613 : decode cL_law 613 = .ok (.iload_n 3, 1) := by decide +kernel
theorem dL_law_614 : decode cL_law 614 = .ok (.iconst 1, 1) := by decide +kernel
theorem dL_law_615 : decode cL_law 615 = .ok (.iadd, 1) := by decide +kernel
theorem dL_law_616 : decode cL_law 616 = .ok (.iaload, 1) := by decide +kernel
theorem dL_law_617 : decode cL_law 617 = .ok (.invokevirtual 72, 3) := by decide +kernel
theorem dL_law_620 : decode cL_law 620 = .ok (.aload_n 2, 1) := by decide +kernel
theorem dL_law_621 : decode cL_law 621 = .ok (.aload_n 0, 1) := by decide +kernel
theorem dL_law_622 : decode cL_law 622 = .ok (.iload_n 3, 1) := by decide +kernel
theorem dL_law_623 : decode cL_law 623 = .ok (.iconst 1, 1) := by decide +kernel
theorem dL_law_624 : decode cL_law 624 = .ok (.iadd, 1) := by decide +kernel
theorem dL_law_625 : decode cL_law 625 = .ok (.iaload, 1) := by decide +kernel
theorem dL_law_626 : decode cL_law 626 = .ok (.invokevirtual 75, 3) := by decide +kernel
theorem dL_law_629 : decode cL_law 629 = .ok (.if_icmp .eq 537, 3) := by decide +kernel
theorem dL_law_632 : decode cL_law 632 = .ok (.iconst 0, 1) := by decide +kernel
theorem dL_law_633 : decode cL_law 633 = .ok (.ireturn, 1) := by decide +kernel
theorem dL_law_634 : decode cL_law 634 = .ok (.aload_n 1, 1) := by decide +kernel
theorem dL_law_635 : decode cL_law 635 = .ok (.invokevirtual 76, 3) := by decide +kernel
theorem dL_law_638 : decode cL_law 638 = .ok (.aload_n 2, 1) := by decide +kernel
theorem dL_law_639 : decode cL_law 639 = .ok (.invokevirtual 79, 3) := by decide +kernel
theorem dL_law_642 : decode cL_law 642 = .ok (.if_icmp .eq 524, 3) := by decide +kernel
theorem dL_law_645 : decode cL_law 645 = .ok (.iconst 0, 1) := by decide +kernel
theorem dL_law_646 : decode cL_law 646 = .ok (.ireturn, 1) := by decide +kernel
theorem dL_law_647 : decode cL_law 647 = .ok (.aload_n 1, 1) := by decide +kernel
theorem dL_law_648 : decode cL_law 648 = .ok (.aload_n 0, 1) := by decide +kernel
theorem dL_law_649 : decode cL_law 649 = .ok (.iload_n 3, 1) := by decide +kernel
theorem dL_law_650 : decode cL_law 650 = .ok (.iconst 1, 1) := by decide +kernel
theorem dL_law_651 : decode cL_law 651 = .ok (.iadd, 1) := by decide +kernel
theorem dL_law_652 : decode cL_law 652 = .ok (.iaload, 1) := by decide +kernel
theorem dL_law_653 : decode cL_law 653 = .ok (.aload_n 0, 1) := by decide +kernel
theorem dL_law_654 : decode cL_law 654 = .ok (.iload_n 3, 1) := by decide +kernel
theorem dL_law_655 : decode cL_law 655 = .ok (.iconst 2, 1) := by decide +kernel
theorem dL_law_656 : decode cL_law 656 = .ok (.iadd, 1) := by decide +kernel
theorem dL_law_657 : decode cL_law 657 = .ok (.iaload, 1) := by decide +kernel
theorem dL_law_658 : decode cL_law 658 = .ok (.aload_n 0, 1) := by decide +kernel
theorem dL_law_659 : decode cL_law 659 = .ok (.iload_n 3, 1) := by decide +kernel
theorem dL_law_660 : decode cL_law 660 = .ok (.iconst 3, 1) := by decide +kernel
theorem dL_law_661 : decode cL_law 661 = .ok (.iadd, 1) := by decide +kernel
theorem dL_law_662 : decode cL_law 662 = .ok (.iaload, 1) := by decide +kernel
theorem dL_law_663 : decode cL_law 663 = .ok (.aload_n 0, 1) := by decide +kernel
theorem dL_law_664 : decode cL_law 664 = .ok (.iload_n 3, 1) := by decide +kernel
theorem dL_law_665 : decode cL_law 665 = .ok (.iconst 4, 1) := by decide +kernel
theorem dL_law_666 : decode cL_law 666 = .ok (.iadd, 1) := by decide +kernel
theorem dL_law_667 : decode cL_law 667 = .ok (.iaload, 1) := by decide +kernel
theorem dL_law_668 : decode cL_law 668 = .ok (.invokevirtual 80, 3) := by decide +kernel
theorem dL_law_671 : decode cL_law 671 = .ok (.aload_n 2, 1) := by decide +kernel
theorem dL_law_672 : decode cL_law 672 = .ok (.aload_n 0, 1) := by decide +kernel
theorem dL_law_673 : decode cL_law 673 = .ok (.iload_n 3, 1) := by decide +kernel
theorem dL_law_674 : decode cL_law 674 = .ok (.iconst 1, 1) := by decide +kernel
theorem dL_law_675 : decode cL_law 675 = .ok (.iadd, 1) := by decide +kernel
theorem dL_law_676 : decode cL_law 676 = .ok (.iaload, 1) := by decide +kernel
theorem dL_law_677 : decode cL_law 677 = .ok (.aload_n 0, 1) := by decide +kernel
theorem dL_law_678 : decode cL_law 678 = .ok (.iload_n 3, 1) := by decide +kernel
theorem dL_law_679 : decode cL_law 679 = .ok (.iconst 2, 1) := by decide +kernel
theorem dL_law_680 : decode cL_law 680 = .ok (.iadd, 1) := by decide +kernel
theorem dL_law_681 : decode cL_law 681 = .ok (.iaload, 1) := by decide +kernel
theorem dL_law_682 : decode cL_law 682 = .ok (.aload_n 0, 1) := by decide +kernel
theorem dL_law_683 : decode cL_law 683 = .ok (.iload_n 3, 1) := by decide +kernel
theorem dL_law_684 : decode cL_law 684 = .ok (.iconst 3, 1) := by decide +kernel
theorem dL_law_685 : decode cL_law 685 = .ok (.iadd, 1) := by decide +kernel
theorem dL_law_686 : decode cL_law 686 = .ok (.iaload, 1) := by decide +kernel
theorem dL_law_687 : decode cL_law 687 = .ok (.aload_n 0, 1) := by decide +kernel
theorem dL_law_688 : decode cL_law 688 = .ok (.iload_n 3, 1) := by decide +kernel
theorem dL_law_689 : decode cL_law 689 = .ok (.iconst 4, 1) := by decide +kernel
theorem dL_law_690 : decode cL_law 690 = .ok (.iadd, 1) := by decide +kernel
theorem dL_law_691 : decode cL_law 691 = .ok (.iaload, 1) := by decide +kernel
theorem dL_law_692 : decode cL_law 692 = .ok (.invokevirtual 83, 3) := by decide +kernel
theorem dL_law_695 : decode cL_law 695 = .ok (.if_icmp .eq 471, 3) := by decide +kernel
theorem dL_law_698 : decode cL_law 698 = .ok (.iconst 0, 1) := by decide +kernel
theorem dL_law_699 : decode cL_law 699 = .ok (.ireturn, 1) := by decide +kernel
theorem dL_law_700 : decode cL_law 700 = .ok (.aload_n 1, 1) := by decide +kernel
theorem dL_law_701 : decode cL_law 701 = .ok (.aload_n 0, 1) := by decide +kernel
theorem dL_law_702 : decode cL_law 702 = .ok (.iload_n 3, 1) := by decide +kernel
theorem dL_law_703 : decode cL_law 703 = .ok (.iconst 1, 1) := by decide +kernel
theorem dL_law_704 : decode cL_law 704 = .ok (.iadd, 1) := by decide +kernel
theorem dL_law_705 : decode cL_law 705 = .ok (.iaload, 1) := by decide +kernel
theorem dL_law_706 : decode cL_law 706 = .ok (.aload_n 0, 1) := by decide +kernel
theorem dL_law_707 : decode cL_law 707 = .ok (.iload_n 3, 1) := by decide +kernel
theorem dL_law_708 : decode cL_law 708 = .ok (.iconst 2, 1) := by decide +kernel
theorem dL_law_709 : decode cL_law 709 = .ok (.iadd, 1) := by decide +kernel
theorem dL_law_710 : decode cL_law 710 = .ok (.iaload, 1) := by decide +kernel
theorem dL_law_711 : decode cL_law 711 = .ok (.aload_n 0, 1) := by decide +kernel
theorem dL_law_712 : decode cL_law 712 = .ok (.iload_n 3, 1) := by decide +kernel
theorem dL_law_713 : decode cL_law 713 = .ok (.iconst 3, 1) := by decide +kernel
theorem dL_law_714 : decode cL_law 714 = .ok (.iadd, 1) := by decide +kernel
theorem dL_law_715 : decode cL_law 715 = .ok (.iaload, 1) := by decide +kernel
theorem dL_law_716 : decode cL_law 716 = .ok (.invokevirtual 84, 3) := by decide +kernel
theorem dL_law_719 : decode cL_law 719 = .ok (.aload_n 2, 1) := by decide +kernel
theorem dL_law_720 : decode cL_law 720 = .ok (.aload_n 0, 1) := by decide +kernel
theorem dL_law_721 : decode cL_law 721 = .ok (.iload_n 3, 1) := by decide +kernel
theorem dL_law_722 : decode cL_law 722 = .ok (.iconst 1, 1) := by decide +kernel
theorem dL_law_723 : decode cL_law 723 = .ok (.iadd, 1) := by decide +kernel
theorem dL_law_724 : decode cL_law 724 = .ok (.iaload, 1) := by decide +kernel
theorem dL_law_725 : decode cL_law 725 = .ok (.aload_n 0, 1) := by decide +kernel
theorem dL_law_726 : decode cL_law 726 = .ok (.iload_n 3, 1) := by decide +kernel
theorem dL_law_727 : decode cL_law 727 = .ok (.iconst 2, 1) := by decide +kernel
theorem dL_law_728 : decode cL_law 728 = .ok (.iadd, 1) := by decide +kernel
theorem dL_law_729 : decode cL_law 729 = .ok (.iaload, 1) := by decide +kernel
theorem dL_law_730 : decode cL_law 730 = .ok (.aload_n 0, 1) := by decide +kernel
theorem dL_law_731 : decode cL_law 731 = .ok (.iload_n 3, 1) := by decide +kernel
theorem dL_law_732 : decode cL_law 732 = .ok (.iconst 3, 1) := by decide +kernel
theorem dL_law_733 : decode cL_law 733 = .ok (.iadd, 1) := by decide +kernel
theorem dL_law_734 : decode cL_law 734 = .ok (.iaload, 1) := by decide +kernel
theorem dL_law_735 : decode cL_law 735 = .ok (.invokevirtual 87, 3) := by decide +kernel
theorem dL_law_738 : decode cL_law 738 = .ok (.if_icmp .eq 428, 3) := by decide +kernel
theorem dL_law_741 : decode cL_law 741 = .ok (.iconst 0, 1) := by decide +kernel
theorem dL_law_742 : decode cL_law 742 = .ok (.ireturn, 1) := by decide +kernel
theorem dL_law_743 : decode cL_law 743 = .ok (.aload_n 1, 1) := by decide +kernel
theorem dL_law_744 : decode cL_law 744 = .ok (.aload_n 0, 1) := by decide +kernel
theorem dL_law_745 : decode cL_law 745 = .ok (.iload_n 3, 1) := by decide +kernel
theorem dL_law_746 : decode cL_law 746 = .ok (.iconst 1, 1) := by decide +kernel
theorem dL_law_747 : decode cL_law 747 = .ok (.iadd, 1) := by decide +kernel
theorem dL_law_748 : decode cL_law 748 = .ok (.iaload, 1) := by decide +kernel
theorem dL_law_749 : decode cL_law 749 = .ok (.invokevirtual 88, 3) := by decide +kernel
theorem dL_law_752 : decode cL_law 752 = .ok (.aload_n 2, 1) := by decide +kernel
theorem dL_law_753 : decode cL_law 753 = .ok (.aload_n 0, 1) := by decide +kernel
theorem dL_law_754 : decode cL_law 754 = .ok (.iload_n 3, 1) := by decide +kernel
theorem dL_law_755 : decode cL_law 755 = .ok (.iconst 1, 1) := by decide +kernel
theorem dL_law_756 : decode cL_law 756 = .ok (.iadd, 1) := by decide +kernel
theorem dL_law_757 : decode cL_law 757 = .ok (.iaload, 1) := by decide +kernel
theorem dL_law_758 : decode cL_law 758 = .ok (.invokevirtual 91, 3) := by decide +kernel
theorem dL_law_761 : decode cL_law 761 = .ok (.if_icmp .eq 405, 3) := by decide +kernel
theorem dL_law_764 : decode cL_law 764 = .ok (.iconst 0, 1) := by decide +kernel
theorem dL_law_765 : decode cL_law 765 = .ok (.ireturn, 1) := by decide +kernel
theorem dL_law_766 : decode cL_law 766 = .ok (.aload_n 1, 1) := by decide +kernel
theorem dL_law_767 : decode cL_law 767 = .ok (.aload_n 0, 1) := by decide +kernel
theorem dL_law_768 : decode cL_law 768 = .ok (.iload_n 3, 1) := by decide +kernel
theorem dL_law_769 : decode cL_law 769 = .ok (.iconst 1, 1) := by decide +kernel
theorem dL_law_770 : decode cL_law 770 = .ok (.iadd, 1) := by decide +kernel
theorem dL_law_771 : decode cL_law 771 = .ok (.iaload, 1) := by decide +kernel
theorem dL_law_772 : decode cL_law 772 = .ok (.aload_n 0, 1) := by decide +kernel
theorem dL_law_773 : decode cL_law 773 = .ok (.iload_n 3, 1) := by decide +kernel
theorem dL_law_774 : decode cL_law 774 = .ok (.iconst 2, 1) := by decide +kernel
theorem dL_law_775 : decode cL_law 775 = .ok (.iadd, 1) := by decide +kernel
theorem dL_law_776 : decode cL_law 776 = .ok (.iaload, 1) := by decide +kernel
theorem dL_law_777 : decode cL_law 777 = .ok (.aload_n 0, 1) := by decide +kernel
theorem dL_law_778 : decode cL_law 778 = .ok (.iload_n 3, 1) := by decide +kernel
theorem dL_law_779 : decode cL_law 779 = .ok (.iconst 3, 1) := by decide +kernel
theorem dL_law_780 : decode cL_law 780 = .ok (.iadd, 1) := by decide +kernel
theorem dL_law_781 : decode cL_law 781 = .ok (.iaload, 1) := by decide +kernel
theorem dL_law_782 : decode cL_law 782 = .ok (.aload_n 0, 1) := by decide +kernel
theorem dL_law_783 : decode cL_law 783 = .ok (.iload_n 3, 1) := by decide +kernel
theorem dL_law_784 : decode cL_law 784 = .ok (.iconst 4, 1) := by decide +kernel
theorem dL_law_785 : decode cL_law 785 = .ok (.iadd, 1) := by decide +kernel
theorem dL_law_786 : decode cL_law 786 = .ok (.iaload, 1) := by decide +kernel
theorem dL_law_787 : decode cL_law 787 = .ok (.invokevirtual 92, 3) := by decide +kernel
theorem dL_law_790 : decode cL_law 790 = .ok (.aload_n 2, 1) := by decide +kernel
theorem dL_law_791 : decode cL_law 791 = .ok (.aload_n 0, 1) := by decide +kernel
theorem dL_law_792 : decode cL_law 792 = .ok (.iload_n 3, 1) := by decide +kernel
theorem dL_law_793 : decode cL_law 793 = .ok (.iconst 1, 1) := by decide +kernel
theorem dL_law_794 : decode cL_law 794 = .ok (.iadd, 1) := by decide +kernel
theorem dL_law_795 : decode cL_law 795 = .ok (.iaload, 1) := by decide +kernel
theorem dL_law_796 : decode cL_law 796 = .ok (.aload_n 0, 1) := by decide +kernel
theorem dL_law_797 : decode cL_law 797 = .ok (.iload_n 3, 1) := by decide +kernel
theorem dL_law_798 : decode cL_law 798 = .ok (.iconst 2, 1) := by decide +kernel
theorem dL_law_799 : decode cL_law 799 = .ok (.iadd, 1) := by decide +kernel
theorem dL_law_800 : decode cL_law 800 = .ok (.iaload, 1) := by decide +kernel
theorem dL_law_801 : decode cL_law 801 = .ok (.aload_n 0, 1) := by decide +kernel
theorem dL_law_802 : decode cL_law 802 = .ok (.iload_n 3, 1) := by decide +kernel
theorem dL_law_803 : decode cL_law 803 = .ok (.iconst 3, 1) := by decide +kernel
theorem dL_law_804 : decode cL_law 804 = .ok (.iadd, 1) := by decide +kernel
theorem dL_law_805 : decode cL_law 805 = .ok (.iaload, 1) := by decide +kernel
theorem dL_law_806 : decode cL_law 806 = .ok (.aload_n 0, 1) := by decide +kernel
theorem dL_law_807 : decode cL_law 807 = .ok (.iload_n 3, 1) := by decide +kernel
theorem dL_law_808 : decode cL_law 808 = .ok (.iconst 4, 1) := by decide +kernel
theorem dL_law_809 : decode cL_law 809 = .ok (.iadd, 1) := by decide +kernel
theorem dL_law_810 : decode cL_law 810 = .ok (.iaload, 1) := by decide +kernel
theorem dL_law_811 : decode cL_law 811 = .ok (.invokevirtual 95, 3) := by decide +kernel
theorem dL_law_814 : decode cL_law 814 = .ok (.if_icmp .eq 352, 3) := by decide +kernel
theorem dL_law_817 : decode cL_law 817 = .ok (.iconst 0, 1) := by decide +kernel
theorem dL_law_818 : decode cL_law 818 = .ok (.ireturn, 1) := by decide +kernel
theorem dL_law_819 : decode cL_law 819 = .ok (.aload_n 1, 1) := by decide +kernel
theorem dL_law_820 : decode cL_law 820 = .ok (.aload_n 0, 1) := by decide +kernel
theorem dL_law_821 : decode cL_law 821 = .ok (.iload_n 3, 1) := by decide +kernel
theorem dL_law_822 : decode cL_law 822 = .ok (.iconst 1, 1) := by decide +kernel
theorem dL_law_823 : decode cL_law 823 = .ok (.iadd, 1) := by decide +kernel
theorem dL_law_824 : decode cL_law 824 = .ok (.iaload, 1) := by decide +kernel
theorem dL_law_825 : decode cL_law 825 = .ok (.aload_n 0, 1) := by decide +kernel
theorem dL_law_826 : decode cL_law 826 = .ok (.iload_n 3, 1) := by decide +kernel
theorem dL_law_827 : decode cL_law 827 = .ok (.iconst 2, 1) := by decide +kernel
theorem dL_law_828 : decode cL_law 828 = .ok (.iadd, 1) := by decide +kernel
theorem dL_law_829 : decode cL_law 829 = .ok (.iaload, 1) := by decide +kernel
theorem dL_law_830 : decode cL_law 830 = .ok (.aload_n 0, 1) := by decide +kernel
theorem dL_law_831 : decode cL_law 831 = .ok (.iload_n 3, 1) := by decide +kernel
theorem dL_law_832 : decode cL_law 832 = .ok (.iconst 3, 1) := by decide +kernel
theorem dL_law_833 : decode cL_law 833 = .ok (.iadd, 1) := by decide +kernel
theorem dL_law_834 : decode cL_law 834 = .ok (.iaload, 1) := by decide +kernel
theorem dL_law_835 : decode cL_law 835 = .ok (.invokevirtual 96, 3) := by decide +kernel
theorem dL_law_838 : decode cL_law 838 = .ok (.aload_n 2, 1) := by decide +kernel
theorem dL_law_839 : decode cL_law 839 = .ok (.aload_n 0, 1) := by decide +kernel
theorem dL_law_840 : decode cL_law 840 = .ok (.iload_n 3, 1) := by decide +kernel
theorem dL_law_841 : decode cL_law 841 = .ok (.iconst 1, 1) := by decide +kernel
theorem dL_law_842 : decode cL_law 842 = .ok (.iadd, 1) := by decide +kernel
theorem dL_law_843 : decode cL_law 843 = .ok (.iaload, 1) := by decide +kernel
theorem dL_law_844 : decode cL_law 844 = .ok (.aload_n 0, 1) := by decide +kernel
theorem dL_law_845 : decode cL_law 845 = .ok (.iload_n 3, 1) := by decide +kernel
theorem dL_law_846 : decode cL_law 846 = .ok (.iconst 2, 1) := by decide +kernel
theorem dL_law_847 : decode cL_law 847 = .ok (.iadd, 1) := by decide +kernel
theorem dL_law_848 : decode cL_law 848 = .ok (.iaload, 1) := by decide +kernel
theorem dL_law_849 : decode cL_law 849 = .ok (.aload_n 0, 1) := by decide +kernel
theorem dL_law_850 : decode cL_law 850 = .ok (.iload_n 3, 1) := by decide +kernel
theorem dL_law_851 : decode cL_law 851 = .ok (.iconst 3, 1) := by decide +kernel
theorem dL_law_852 : decode cL_law 852 = .ok (.iadd, 1) := by decide +kernel
theorem dL_law_853 : decode cL_law 853 = .ok (.iaload, 1) := by decide +kernel
theorem dL_law_854 : decode cL_law 854 = .ok (.invokevirtual 99, 3) := by decide +kernel
theorem dL_law_857 : decode cL_law 857 = .ok (.if_icmp .eq 309, 3) := by decide +kernel
theorem dL_law_860 : decode cL_law 860 = .ok (.iconst 0, 1) := by decide +kernel
theorem dL_law_861 : decode cL_law 861 = .ok (.ireturn, 1) := by decide +kernel
theorem dL_law_862 : decode cL_law 862 = .ok (.aload_n 1, 1) := by decide +kernel
theorem dL_law_863 : decode cL_law 863 = .ok (.aload_n 0, 1) := by decide +kernel
theorem dL_law_864 : decode cL_law 864 = .ok (.iload_n 3, 1) := by decide +kernel
theorem dL_law_865 : decode cL_law 865 = .ok (.iconst 1, 1) := by decide +kernel
theorem dL_law_866 : decode cL_law 866 = .ok (.iadd, 1) := by decide +kernel
theorem dL_law_867 : decode cL_law 867 = .ok (.iaload, 1) := by decide +kernel
theorem dL_law_868 : decode cL_law 868 = .ok (.aload_n 0, 1) := by decide +kernel
theorem dL_law_869 : decode cL_law 869 = .ok (.iload_n 3, 1) := by decide +kernel
theorem dL_law_870 : decode cL_law 870 = .ok (.iconst 2, 1) := by decide +kernel
theorem dL_law_871 : decode cL_law 871 = .ok (.iadd, 1) := by decide +kernel
theorem dL_law_872 : decode cL_law 872 = .ok (.iaload, 1) := by decide +kernel
theorem dL_law_873 : decode cL_law 873 = .ok (.invokevirtual 100, 3) := by decide +kernel
theorem dL_law_876 : decode cL_law 876 = .ok (.aload_n 2, 1) := by decide +kernel
theorem dL_law_877 : decode cL_law 877 = .ok (.aload_n 0, 1) := by decide +kernel
theorem dL_law_878 : decode cL_law 878 = .ok (.iload_n 3, 1) := by decide +kernel
theorem dL_law_879 : decode cL_law 879 = .ok (.iconst 1, 1) := by decide +kernel
theorem dL_law_880 : decode cL_law 880 = .ok (.iadd, 1) := by decide +kernel
theorem dL_law_881 : decode cL_law 881 = .ok (.iaload, 1) := by decide +kernel
theorem dL_law_882 : decode cL_law 882 = .ok (.aload_n 0, 1) := by decide +kernel
theorem dL_law_883 : decode cL_law 883 = .ok (.iload_n 3, 1) := by decide +kernel
theorem dL_law_884 : decode cL_law 884 = .ok (.iconst 2, 1) := by decide +kernel
theorem dL_law_885 : decode cL_law 885 = .ok (.iadd, 1) := by decide +kernel
theorem dL_law_886 : decode cL_law 886 = .ok (.iaload, 1) := by decide +kernel
theorem dL_law_887 : decode cL_law 887 = .ok (.invokevirtual 103, 3) := by decide +kernel
theorem dL_law_890 : decode cL_law 890 = .ok (.if_icmp .eq 276, 3) := by decide +kernel
theorem dL_law_893 : decode cL_law 893 = .ok (.iconst 0, 1) := by decide +kernel
theorem dL_law_894 : decode cL_law 894 = .ok (.ireturn, 1) := by decide +kernel
theorem dL_law_895 : decode cL_law 895 = .ok (.aload_n 1, 1) := by decide +kernel
theorem dL_law_896 : decode cL_law 896 = .ok (.aload_n 0, 1) := by decide +kernel
theorem dL_law_897 : decode cL_law 897 = .ok (.iload_n 3, 1) := by decide +kernel
theorem dL_law_898 : decode cL_law 898 = .ok (.iconst 1, 1) := by decide +kernel
theorem dL_law_899 : decode cL_law 899 = .ok (.iadd, 1) := by decide +kernel
theorem dL_law_900 : decode cL_law 900 = .ok (.iaload, 1) := by decide +kernel
theorem dL_law_901 : decode cL_law 901 = .ok (.aload_n 0, 1) := by decide +kernel
theorem dL_law_902 : decode cL_law 902 = .ok (.iload_n 3, 1) := by decide +kernel
theorem dL_law_903 : decode cL_law 903 = .ok (.iconst 2, 1) := by decide +kernel
theorem dL_law_904 : decode cL_law 904 = .ok (.iadd, 1) := by decide +kernel
theorem dL_law_905 : decode cL_law 905 = .ok (.iaload, 1) := by decide +kernel
theorem dL_law_906 : decode cL_law 906 = .ok (.aload_n 0, 1) := by decide +kernel
theorem dL_law_907 : decode cL_law 907 = .ok (.iload_n 3, 1) := by decide +kernel
theorem dL_law_908 : decode cL_law 908 = .ok (.iconst 3, 1) := by decide +kernel
theorem dL_law_909 : decode cL_law 909 = .ok (.iadd, 1) := by decide +kernel
theorem dL_law_910 : decode cL_law 910 = .ok (.iaload, 1) := by decide +kernel
theorem dL_law_911 : decode cL_law 911 = .ok (.invokevirtual 104, 3) := by decide +kernel
theorem dL_law_914 : decode cL_law 914 = .ok (.aload_n 2, 1) := by decide +kernel
theorem dL_law_915 : decode cL_law 915 = .ok (.aload_n 0, 1) := by decide +kernel
theorem dL_law_916 : decode cL_law 916 = .ok (.iload_n 3, 1) := by decide +kernel
theorem dL_law_917 : decode cL_law 917 = .ok (.iconst 1, 1) := by decide +kernel
theorem dL_law_918 : decode cL_law 918 = .ok (.iadd, 1) := by decide +kernel
theorem dL_law_919 : decode cL_law 919 = .ok (.iaload, 1) := by decide +kernel
theorem dL_law_920 : decode cL_law 920 = .ok (.aload_n 0, 1) := by decide +kernel
theorem dL_law_921 : decode cL_law 921 = .ok (.iload_n 3, 1) := by decide +kernel
theorem dL_law_922 : decode cL_law 922 = .ok (.iconst 2, 1) := by decide +kernel
theorem dL_law_923 : decode cL_law 923 = .ok (.iadd, 1) := by decide +kernel
theorem dL_law_924 : decode cL_law 924 = .ok (.iaload, 1) := by decide +kernel
theorem dL_law_925 : decode cL_law 925 = .ok (.aload_n 0, 1) := by decide +kernel
theorem dL_law_926 : decode cL_law 926 = .ok (.iload_n 3, 1) := by decide +kernel
theorem dL_law_927 : decode cL_law 927 = .ok (.iconst 3, 1) := by decide +kernel
theorem dL_law_928 : decode cL_law 928 = .ok (.iadd, 1) := by decide +kernel
theorem dL_law_929 : decode cL_law 929 = .ok (.iaload, 1) := by decide +kernel
theorem dL_law_930 : decode cL_law 930 = .ok (.invokevirtual 107, 3) := by decide +kernel
theorem dL_law_933 : decode cL_law 933 = .ok (.if_icmp .eq 233, 3) := by decide +kernel
theorem dL_law_936 : decode cL_law 936 = .ok (.iconst 0, 1) := by decide +kernel
theorem dL_law_937 : decode cL_law 937 = .ok (.ireturn, 1) := by decide +kernel
theorem dL_law_938 : decode cL_law 938 = .ok (.aload_n 1, 1) := by decide +kernel
theorem dL_law_939 : decode cL_law 939 = .ok (.aload_n 0, 1) := by decide +kernel
theorem dL_law_940 : decode cL_law 940 = .ok (.iload_n 3, 1) := by decide +kernel
theorem dL_law_941 : decode cL_law 941 = .ok (.iconst 1, 1) := by decide +kernel
theorem dL_law_942 : decode cL_law 942 = .ok (.iadd, 1) := by decide +kernel
theorem dL_law_943 : decode cL_law 943 = .ok (.iaload, 1) := by decide +kernel
theorem dL_law_944 : decode cL_law 944 = .ok (.aload_n 0, 1) := by decide +kernel
theorem dL_law_945 : decode cL_law 945 = .ok (.iload_n 3, 1) := by decide +kernel
theorem dL_law_946 : decode cL_law 946 = .ok (.iconst 2, 1) := by decide +kernel
theorem dL_law_947 : decode cL_law 947 = .ok (.iadd, 1) := by decide +kernel
theorem dL_law_948 : decode cL_law 948 = .ok (.iaload, 1) := by decide +kernel
theorem dL_law_949 : decode cL_law 949 = .ok (.invokevirtual 108, 3) := by decide +kernel
theorem dL_law_952 : decode cL_law 952 = .ok (.aload_n 2, 1) := by decide +kernel
theorem dL_law_953 : decode cL_law 953 = .ok (.aload_n 0, 1) := by decide +kernel
theorem dL_law_954 : decode cL_law 954 = .ok (.iload_n 3, 1) := by decide +kernel
theorem dL_law_955 : decode cL_law 955 = .ok (.iconst 1, 1) := by decide +kernel
theorem dL_law_956 : decode cL_law 956 = .ok (.iadd, 1) := by decide +kernel
theorem dL_law_957 : decode cL_law 957 = .ok (.iaload, 1) := by decide +kernel
theorem dL_law_958 : decode cL_law 958 = .ok (.aload_n 0, 1) := by decide +kernel
theorem dL_law_959 : decode cL_law 959 = .ok (.iload_n 3, 1) := by decide +kernel
theorem dL_law_960 : decode cL_law 960 = .ok (.iconst 2, 1) := by decide +kernel
theorem dL_law_961 : decode cL_law 961 = .ok (.iadd, 1) := by decide +kernel
theorem dL_law_962 : decode cL_law 962 = .ok (.iaload, 1) := by decide +kernel
theorem dL_law_963 : decode cL_law 963 = .ok (.invokevirtual 111, 3) := by decide +kernel
theorem dL_law_966 : decode cL_law 966 = .ok (.if_icmp .eq 200, 3) := by decide +kernel
theorem dL_law_969 : decode cL_law 969 = .ok (.iconst 0, 1) := by decide +kernel
theorem dL_law_970 : decode cL_law 970 = .ok (.ireturn, 1) := by decide +kernel
theorem dL_law_971 : decode cL_law 971 = .ok (.aload_n 1, 1) := by decide +kernel
theorem dL_law_972 : decode cL_law 972 = .ok (.aload_n 0, 1) := by decide +kernel
theorem dL_law_973 : decode cL_law 973 = .ok (.iload_n 3, 1) := by decide +kernel
theorem dL_law_974 : decode cL_law 974 = .ok (.iconst 1, 1) := by decide +kernel
theorem dL_law_975 : decode cL_law 975 = .ok (.iadd, 1) := by decide +kernel
theorem dL_law_976 : decode cL_law 976 = .ok (.iaload, 1) := by decide +kernel
theorem dL_law_977 : decode cL_law 977 = .ok (.aload_n 0, 1) := by decide +kernel
theorem dL_law_978 : decode cL_law 978 = .ok (.iload_n 3, 1) := by decide +kernel
theorem dL_law_979 : decode cL_law 979 = .ok (.iconst 2, 1) := by decide +kernel
theorem dL_law_980 : decode cL_law 980 = .ok (.iadd, 1) := by decide +kernel
theorem dL_law_981 : decode cL_law 981 = .ok (.iaload, 1) := by decide +kernel
theorem dL_law_982 : decode cL_law 982 = .ok (.aload_n 0, 1) := by decide +kernel
theorem dL_law_983 : decode cL_law 983 = .ok (.iload_n 3, 1) := by decide +kernel
theorem dL_law_984 : decode cL_law 984 = .ok (.iconst 3, 1) := by decide +kernel
theorem dL_law_985 : decode cL_law 985 = .ok (.iadd, 1) := by decide +kernel
theorem dL_law_986 : decode cL_law 986 = .ok (.iaload, 1) := by decide +kernel
theorem dL_law_987 : decode cL_law 987 = .ok (.aload_n 0, 1) := by decide +kernel
theorem dL_law_988 : decode cL_law 988 = .ok (.iload_n 3, 1) := by decide +kernel
theorem dL_law_989 : decode cL_law 989 = .ok (.iconst 4, 1) := by decide +kernel
theorem dL_law_990 : decode cL_law 990 = .ok (.iadd, 1) := by decide +kernel
theorem dL_law_991 : decode cL_law 991 = .ok (.iaload, 1) := by decide +kernel
theorem dL_law_992 : decode cL_law 992 = .ok (.invokevirtual 112, 3) := by decide +kernel
theorem dL_law_995 : decode cL_law 995 = .ok (.aload_n 2, 1) := by decide +kernel
theorem dL_law_996 : decode cL_law 996 = .ok (.aload_n 0, 1) := by decide +kernel
theorem dL_law_997 : decode cL_law 997 = .ok (.iload_n 3, 1) := by decide +kernel
theorem dL_law_998 : decode cL_law 998 = .ok (.iconst 1, 1) := by decide +kernel
theorem dL_law_999 : decode cL_law 999 = .ok (.iadd, 1) := by decide +kernel
theorem dL_law_1000 : decode cL_law 1000 = .ok (.iaload, 1) := by decide +kernel
theorem dL_law_1001 : decode cL_law 1001 = .ok (.aload_n 0, 1) := by decide +kernel
theorem dL_law_1002 : decode cL_law 1002 = .ok (.iload_n 3, 1) := by decide +kernel
theorem dL_law_1003 : decode cL_law 1003 = .ok (.iconst 2, 1) := by decide +kernel
theorem dL_law_1004 : decode cL_law 1004 = .ok (.iadd, 1) := by decide +kernel
theorem dL_law_1005 : decode cL_law 1005 = .ok (.iaload, 1) := by decide +kernel
theorem dL_law_1006 : decode cL_law 1006 = .ok (.aload_n 0, 1) := by decide +kernel
theorem dL_law_1007 : decode cL_law 1007 = .ok (.iload_n 3, 1) := by decide +kernel
theorem dL_law_1008 : decode cL_law 1008 = .ok (.iconst 3, 1) := by decide +kernel
theorem dL_law_1009 : decode cL_law 1009 = .ok (.iadd, 1) := by decide +kernel
theorem dL_law_1010 : decode cL_law 1010 = .ok (.iaload, 1) := by decide +kernel
theorem dL_law_1011 : decode cL_law 1011 = .ok (.aload_n 0, 1) := by decide +kernel
theorem dL_law_1012 : decode cL_law 1012 = .ok (.iload_n 3, 1) := by decide +kernel
theorem dL_law_1013 : decode cL_law 1013 = .ok (.iconst 4, 1) := by decide +kernel
theorem dL_law_1014 : decode cL_law 1014 = .ok (.iadd, 1) := by decide +kernel
theorem dL_law_1015 : decode cL_law 1015 = .ok (.iaload, 1) := by decide +kernel
theorem dL_law_1016 : decode cL_law 1016 = .ok (.invokevirtual 115, 3) := by decide +kernel
theorem dL_law_1019 : decode cL_law 1019 = .ok (.if_icmp .eq 147, 3) := by decide +kernel
theorem dL_law_1022 : decode cL_law 1022 = .ok (.iconst 0, 1) := by decide +kernel
theorem dL_law_1023 : decode cL_law 1023 = .ok (.ireturn, 1) := by decide +kernel
theorem dL_law_1024 : decode cL_law 1024 = .ok (.aload_n 1, 1) := by decide +kernel
theorem dL_law_1025 : decode cL_law 1025 = .ok (.aload_n 0, 1) := by decide +kernel
theorem dL_law_1026 : decode cL_law 1026 = .ok (.iload_n 3, 1) := by decide +kernel
theorem dL_law_1027 : decode cL_law 1027 = .ok (.iconst 1, 1) := by decide +kernel
theorem dL_law_1028 : decode cL_law 1028 = .ok (.iadd, 1) := by decide +kernel
theorem dL_law_1029 : decode cL_law 1029 = .ok (.iaload, 1) := by decide +kernel
theorem dL_law_1030 : decode cL_law 1030 = .ok (.aload_n 0, 1) := by decide +kernel
theorem dL_law_1031 : decode cL_law 1031 = .ok (.iload_n 3, 1) := by decide +kernel
theorem dL_law_1032 : decode cL_law 1032 = .ok (.iconst 2, 1) := by decide +kernel
theorem dL_law_1033 : decode cL_law 1033 = .ok (.iadd, 1) := by decide +kernel
theorem dL_law_1034 : decode cL_law 1034 = .ok (.iaload, 1) := by decide +kernel
theorem dL_law_1035 : decode cL_law 1035 = .ok (.invokevirtual 116, 3) := by decide +kernel
theorem dL_law_1038 : decode cL_law 1038 = .ok (.aload_n 2, 1) := by decide +kernel
theorem dL_law_1039 : decode cL_law 1039 = .ok (.aload_n 0, 1) := by decide +kernel
theorem dL_law_1040 : decode cL_law 1040 = .ok (.iload_n 3, 1) := by decide +kernel
theorem dL_law_1041 : decode cL_law 1041 = .ok (.iconst 1, 1) := by decide +kernel
theorem dL_law_1042 : decode cL_law 1042 = .ok (.iadd, 1) := by decide +kernel
theorem dL_law_1043 : decode cL_law 1043 = .ok (.iaload, 1) := by decide +kernel
theorem dL_law_1044 : decode cL_law 1044 = .ok (.aload_n 0, 1) := by decide +kernel
theorem dL_law_1045 : decode cL_law 1045 = .ok (.iload_n 3, 1) := by decide +kernel
theorem dL_law_1046 : decode cL_law 1046 = .ok (.iconst 2, 1) := by decide +kernel
theorem dL_law_1047 : decode cL_law 1047 = .ok (.iadd, 1) := by decide +kernel
theorem dL_law_1048 : decode cL_law 1048 = .ok (.iaload, 1) := by decide +kernel
theorem dL_law_1049 : decode cL_law 1049 = .ok (.invokevirtual 119, 3) := by decide +kernel
theorem dL_law_1052 : decode cL_law 1052 = .ok (.if_icmp .eq 114, 3) := by decide +kernel
theorem dL_law_1055 : decode cL_law 1055 = .ok (.iconst 0, 1) := by decide +kernel
theorem dL_law_1056 : decode cL_law 1056 = .ok (.ireturn, 1) := by decide +kernel
theorem dL_law_1057 : decode cL_law 1057 = .ok (.aload_n 1, 1) := by decide +kernel
theorem dL_law_1058 : decode cL_law 1058 = .ok (.aload_n 0, 1) := by decide +kernel
theorem dL_law_1059 : decode cL_law 1059 = .ok (.iload_n 3, 1) := by decide +kernel
theorem dL_law_1060 : decode cL_law 1060 = .ok (.iconst 1, 1) := by decide +kernel
theorem dL_law_1061 : decode cL_law 1061 = .ok (.iadd, 1) := by decide +kernel
theorem dL_law_1062 : decode cL_law 1062 = .ok (.iaload, 1) := by decide +kernel
theorem dL_law_1063 : decode cL_law 1063 = .ok (.aload_n 0, 1) := by decide +kernel
theorem dL_law_1064 : decode cL_law 1064 = .ok (.iload_n 3, 1) := by decide +kernel
theorem dL_law_1065 : decode cL_law 1065 = .ok (.iconst 2, 1) := by decide +kernel
theorem dL_law_1066 : decode cL_law 1066 = .ok (.iadd, 1) := by decide +kernel
theorem dL_law_1067 : decode cL_law 1067 = .ok (.iaload, 1) := by decide +kernel
theorem dL_law_1068 : decode cL_law 1068 = .ok (.aload_n 0, 1) := by decide +kernel
theorem dL_law_1069 : decode cL_law 1069 = .ok (.iload_n 3, 1) := by decide +kernel
theorem dL_law_1070 : decode cL_law 1070 = .ok (.iconst 3, 1) := by decide +kernel
theorem dL_law_1071 : decode cL_law 1071 = .ok (.iadd, 1) := by decide +kernel
theorem dL_law_1072 : decode cL_law 1072 = .ok (.iaload, 1) := by decide +kernel
theorem dL_law_1073 : decode cL_law 1073 = .ok (.invokevirtual 120, 3) := by decide +kernel
theorem dL_law_1076 : decode cL_law 1076 = .ok (.aload_n 2, 1) := by decide +kernel
theorem dL_law_1077 : decode cL_law 1077 = .ok (.aload_n 0, 1) := by decide +kernel
theorem dL_law_1078 : decode cL_law 1078 = .ok (.iload_n 3, 1) := by decide +kernel
theorem dL_law_1079 : decode cL_law 1079 = .ok (.iconst 1, 1) := by decide +kernel
theorem dL_law_1080 : decode cL_law 1080 = .ok (.iadd, 1) := by decide +kernel
theorem dL_law_1081 : decode cL_law 1081 = .ok (.iaload, 1) := by decide +kernel
theorem dL_law_1082 : decode cL_law 1082 = .ok (.aload_n 0, 1) := by decide +kernel
theorem dL_law_1083 : decode cL_law 1083 = .ok (.iload_n 3, 1) := by decide +kernel
theorem dL_law_1084 : decode cL_law 1084 = .ok (.iconst 2, 1) := by decide +kernel
theorem dL_law_1085 : decode cL_law 1085 = .ok (.iadd, 1) := by decide +kernel
theorem dL_law_1086 : decode cL_law 1086 = .ok (.iaload, 1) := by decide +kernel
theorem dL_law_1087 : decode cL_law 1087 = .ok (.aload_n 0, 1) := by decide +kernel
theorem dL_law_1088 : decode cL_law 1088 = .ok (.iload_n 3, 1) := by decide +kernel
theorem dL_law_1089 : decode cL_law 1089 = .ok (.iconst 3, 1) := by decide +kernel
theorem dL_law_1090 : decode cL_law 1090 = .ok (.iadd, 1) := by decide +kernel
theorem dL_law_1091 : decode cL_law 1091 = .ok (.iaload, 1) := by decide +kernel
theorem dL_law_1092 : decode cL_law 1092 = .ok (.invokevirtual 123, 3) := by decide +kernel
theorem dL_law_1095 : decode cL_law 1095 = .ok (.if_icmp .eq 71, 3) := by decide +kernel
theorem dL_law_1098 : decode cL_law 1098 = .ok (.iconst 0, 1) := by decide +kernel
theorem dL_law_1099 : decode cL_law 1099 = .ok (.ireturn, 1) := by decide +kernel
theorem dL_law_1100 : decode cL_law 1100 = .ok (.aload_n 1, 1) := by decide +kernel
theorem dL_law_1101 : decode cL_law 1101 = .ok (.aload_n 0, 1) := by decide +kernel
theorem dL_law_1102 : decode cL_law 1102 = .ok (.iload_n 3, 1) := by decide +kernel
theorem dL_law_1103 : decode cL_law 1103 = .ok (.iconst 1, 1) := by decide +kernel
theorem dL_law_1104 : decode cL_law 1104 = .ok (.iadd, 1) := by decide +kernel
theorem dL_law_1105 : decode cL_law 1105 = .ok (.iaload, 1) := by decide +kernel
theorem dL_law_1106 : decode cL_law 1106 = .ok (.aload_n 0, 1) := by decide +kernel
theorem dL_law_1107 : decode cL_law 1107 = .ok (.iload_n 3, 1) := by decide +kernel
theorem dL_law_1108 : decode cL_law 1108 = .ok (.iconst 2, 1) := by decide +kernel
theorem dL_law_1109 : decode cL_law 1109 = .ok (.iadd, 1) := by decide +kernel
theorem dL_law_1110 : decode cL_law 1110 = .ok (.iaload, 1) := by decide +kernel
theorem dL_law_1111 : decode cL_law 1111 = .ok (.aload_n 0, 1) := by decide +kernel
theorem dL_law_1112 : decode cL_law 1112 = .ok (.iload_n 3, 1) := by decide +kernel
theorem dL_law_1113 : decode cL_law 1113 = .ok (.iconst 3, 1) := by decide +kernel
theorem dL_law_1114 : decode cL_law 1114 = .ok (.iadd, 1) := by decide +kernel
theorem dL_law_1115 : decode cL_law 1115 = .ok (.iaload, 1) := by decide +kernel
theorem dL_law_1116 : decode cL_law 1116 = .ok (.invokevirtual 124, 3) := by decide +kernel
theorem dL_law_1119 : decode cL_law 1119 = .ok (.aload_n 2, 1) := by decide +kernel
theorem dL_law_1120 : decode cL_law 1120 = .ok (.aload_n 0, 1) := by decide +kernel
theorem dL_law_1121 : decode cL_law 1121 = .ok (.iload_n 3, 1) := by decide +kernel
theorem dL_law_1122 : decode cL_law 1122 = .ok (.iconst 1, 1) := by decide +kernel
theorem dL_law_1123 : decode cL_law 1123 = .ok (.iadd, 1) := by decide +kernel
theorem dL_law_1124 : decode cL_law 1124 = .ok (.iaload, 1) := by decide +kernel
theorem dL_law_1125 : decode cL_law 1125 = .ok (.aload_n 0, 1) := by decide +kernel
theorem dL_law_1126 : decode cL_law 1126 = .ok (.iload_n 3, 1) := by decide +kernel
theorem dL_law_1127 : decode cL_law 1127 = .ok (.iconst 2, 1) := by decide +kernel
theorem dL_law_1128 : decode cL_law 1128 = .ok (.iadd, 1) := by decide +kernel
theorem dL_law_1129 : decode cL_law 1129 = .ok (.iaload, 1) := by decide +kernel
theorem dL_law_1130 : decode cL_law 1130 = .ok (.aload_n 0, 1) := by decide +kernel
theorem dL_law_1131 : decode cL_law 1131 = .ok (.iload_n 3, 1) := by decide +kernel
theorem dL_law_1132 : decode cL_law 1132 = .ok (.iconst 3, 1) := by decide +kernel
theorem dL_law_1133 : decode cL_law 1133 = .ok (.iadd, 1) := by decide +kernel
theorem dL_law_1134 : decode cL_law 1134 = .ok (.iaload, 1) := by decide +kernel
theorem dL_law_1135 : decode cL_law 1135 = .ok (.invokevirtual 127, 3) := by decide +kernel
theorem dL_law_1138 : decode cL_law 1138 = .ok (.if_icmp .eq 28, 3) := by decide +kernel
theorem dL_law_1141 : decode cL_law 1141 = .ok (.iconst 0, 1) := by decide +kernel
theorem dL_law_1142 : decode cL_law 1142 = .ok (.ireturn, 1) := by decide +kernel
theorem dL_law_1143 : decode cL_law 1143 = .ok (.aload_n 1, 1) := by decide +kernel
theorem dL_law_1144 : decode cL_law 1144 = .ok (.aload_n 0, 1) := by decide +kernel
theorem dL_law_1145 : decode cL_law 1145 = .ok (.iload_n 3, 1) := by decide +kernel
theorem dL_law_1146 : decode cL_law 1146 = .ok (.iconst 1, 1) := by decide +kernel
theorem dL_law_1147 : decode cL_law 1147 = .ok (.iadd, 1) := by decide +kernel
theorem dL_law_1148 : decode cL_law 1148 = .ok (.iaload, 1) := by decide +kernel
theorem dL_law_1149 : decode cL_law 1149 = .ok (.invokevirtual 128, 3) := by decide +kernel
theorem dL_law_1152 : decode cL_law 1152 = .ok (.aload_n 2, 1) := by decide +kernel
theorem dL_law_1153 : decode cL_law 1153 = .ok (.aload_n 0, 1) := by decide +kernel
theorem dL_law_1154 : decode cL_law 1154 = .ok (.iload_n 3, 1) := by decide +kernel
theorem dL_law_1155 : decode cL_law 1155 = .ok (.iconst 1, 1) := by decide +kernel
theorem dL_law_1156 : decode cL_law 1156 = .ok (.iadd, 1) := by decide +kernel
theorem dL_law_1157 : decode cL_law 1157 = .ok (.iaload, 1) := by decide +kernel
theorem dL_law_1158 : decode cL_law 1158 = .ok (.invokevirtual 131, 3) := by decide +kernel
theorem dL_law_1161 : decode cL_law 1161 = .ok (.if_icmp .eq 5, 3) := by decide +kernel
theorem dL_law_1164 : decode cL_law 1164 = .ok (.iconst 0, 1) := by decide +kernel
theorem dL_law_1165 : decode cL_law 1165 = .ok (.ireturn, 1) := by decide +kernel
theorem dL_law_1166 : decode cL_law 1166 = .ok (.iinc 3 7, 3) := by decide +kernel
theorem dL_law_1169 : decode cL_law 1169 = .ok (.goto (-1151), 3) := by decide +kernel
theorem dL_law_1172 : decode cL_law 1172 = .ok (.iconst 1, 1) := by decide +kernel
theorem dL_law_1173 : decode cL_law 1173 = .ok (.ireturn, 1) := by decide +kernel
end
section
/-! ===== constructors (written by wip/whole/mkctor.py) ===== -/
def hpi (h : mH) (a k : Nat) (x : Int32) : mH := (h.1, m_up h.2.1 a k x, h.2.2)
def hpr (h : mH) (a k b : Nat) : mH := (h.1, h.2.1, m_up h.2.2 a k (some b))
abbrev m_in (i : Int32) (n : Nat) : Prop := ¬ (i < 0 ∨ n ≤ i.toNatClampNeg)
theorem m_in_of {i : Int32} {n : Nat} (h : m_in i n) : vp_in i n := h
theorem m_new_len {h : mH} {sh : mSh} {n : Nat} (hn : h.1.length = n) : (m_new h sh).1.length = n + 1 := by
  show (h.1 ++ [sh]).length = n + 1
  rw [List.length_append, hn]; rfl
theorem m_keep {h : mH} {sh sh' : mSh} {a : Nat} (hs : h.1[a]? = some sh) : (m_new h sh').1[a]? = some sh := by
  show (h.1 ++ [sh'])[a]? = some sh
  rw [List.getElem?_append_left (List.getElem?_eq_some_iff.mp hs).1]; exact hs
theorem m_last {h : mH} {sh : mSh} {n : Nat} (hn : h.1.length = n) : (m_new h sh).1[n]? = some sh := by
  subst hn
  show (h.1 ++ [sh])[h.1.length]? = some sh
  simp
section RN
variable {G : mG} {M : mM} {d rc rs pc : Nat} {L st : List Value} {h h' : mH} {r : Option Value}
theorem r_newN {idx ci n : Nat} (hd : decode M.2.1 pc = .ok (.new idx, 3)) (hci : ci < 8) (h1 : Cond.classLink M.1.cls idx (m_R ci) ∈ m_tbl) (h2 : Cond.instantiable (m_R ci) (m_nF ci) ∈ m_tbl) (h3 : Cond.initialized (m_R ci) ∈ m_tbl) (hn : h.1.length = n) (hlen : n + 1 ≤ 1000) (hrc : 1 ≤ rc) (hrs : m_nF ci ≤ rs) (kk : MW G M d (rc - 1) (rs - m_nF ci) (pc + 3) L (.ref n :: st) (m_new h (.inl ci)) r h') : MW G M d rc rs pc L st h r h' := by
  subst hn
  exact r_new hd hci h1 h2 h3 hlen hrc hrs kk
theorem r_newaN {ti N nn : Nat} {n : Int32} {atype : ArrayType} (hd : decode M.2.1 pc = .ok (.newarray atype, 2)) (hti : ti < 2) (hat0 : newarray.typeOf atype = m_at_ty ti) (h1 : Cond.arrayClass (m_at_ty ti) ∈ m_tbl) (hng : ¬ n < 0) (hN : n.toNatClampNeg = N) (hN2 : N ≤ 1000) (hn : h.1.length = nn) (hlen : nn + 1 ≤ 1000) (hrc : 1 ≤ rc) (hrs : N ≤ rs) (kk : MW G M d (rc - 1) (rs - N) (pc + 2) L (.ref nn :: st) (m_new h (.inr (ti, N))) r h') : MW G M d rc rs pc L (.int n :: st) h r h' := by
  subst hn
  exact r_newa hd hti hat0 h1 hng hN hN2 hlen hrc hrs kk
theorem r_newqN {ti N idx nn : Nat} {n : Int32} {C : String} (hd : decode M.2.1 pc = .ok (.anewarray idx, 3)) (hti : ¬ ti < 2) (h5 : ti < 5) (hC : m_at_ty ti = .object C) (h1 : Cond.classLink M.1.cls idx C ∈ m_tbl) (h2 : C ∈ [RX0, RX3, RX4]) (hng : ¬ n < 0) (hN : n.toNatClampNeg = N) (hN2 : N ≤ 1000) (hn : h.1.length = nn) (hlen : nn + 1 ≤ 1000) (hrc : 1 ≤ rc) (hrs : N ≤ rs) (kk : MW G M d (rc - 1) (rs - N) (pc + 3) L (.ref nn :: st) (m_new h (.inr (ti, N))) r h') : MW G M d rc rs pc L (.int n :: st) h r h' := by
  subst hn
  exact r_newq hd hti h5 hC h1 h2 hng hN hN2 hlen hrc hrs kk
end RN
def k_X0 (h : mH) (a n : Nat) : mH := (hpi (hpi (hpi (hpi (hpi (hpi h a 0 0) a 1 0) a 2 0) a 3 0) a 4 1) a 5 0)
set_option maxRecDepth 100000 in
theorem c_X0_init {G : mG} {h : mH} {a n : Nat} (hs : h.1[a]? = some (.inl 0)) (hn : h.1.length = n) (hl : n ≤ 900) : MC G mX0_init 1 0 0 [.ref a] h none (k_X0 h a n) := by
  refine MC_intro mlX0_init (Nat.le_of_ble_eq_true rfl) rfl rfl trivial ?_
  refine r_aload_n dX0_init_0 rfl rfl ?_
  refine r_obj dX0_init_1 lkX0_3 wI_obj wC_obj (Nat.le_of_ble_eq_true rfl) (by decide) ?_
  refine r_aload_n dX0_init_4 rfl rfl ?_
  refine r_iconst (x := 0) dX0_init_5 (by decide) ?_
  refine r_puti dX0_init_6 flX0_9 (Or.inl rfl) (Or.inl rfl) hs ?_
  refine r_aload_n dX0_init_9 rfl rfl ?_
  refine r_iconst (x := 0) dX0_init_10 (by decide) ?_
  refine r_puti dX0_init_11 flX0_15 (Or.inl rfl) (Or.inl rfl) hs ?_
  refine r_aload_n dX0_init_14 rfl rfl ?_
  refine r_iconst (x := 0) dX0_init_15 (by decide) ?_
  refine r_puti dX0_init_16 flX0_18 (Or.inl rfl) (Or.inl rfl) hs ?_
  refine r_aload_n dX0_init_19 rfl rfl ?_
  refine r_iconst (x := 0) dX0_init_20 (by decide) ?_
  refine r_puti dX0_init_21 flX0_21 (Or.inl rfl) (Or.inl rfl) hs ?_
  refine r_aload_n dX0_init_24 rfl rfl ?_
  refine r_iconst (x := 1) dX0_init_25 (by decide) ?_
  refine r_puti dX0_init_26 flX0_24 (Or.inl rfl) (Or.inl rfl) hs ?_
  refine r_aload_n dX0_init_29 rfl rfl ?_
  refine r_iconst (x := 0) dX0_init_30 (by decide) ?_
  refine r_puti dX0_init_31 flX0_27 (Or.inl rfl) (Or.inl rfl) hs ?_
  exact r_ret dX0_init_34 rfl rfl
def k_X1 (h : mH) (a n : Nat) : mH := (hpr (m_new h (.inr (0, 288))) a 0 n)
set_option maxRecDepth 100000 in
theorem c_X1_init {G : mG} {h : mH} {a n : Nat} (hs : h.1[a]? = some (.inl 1)) (hn : h.1.length = n) (hl : n ≤ 900) : MC G mX1_init 1 1 288 [.ref a] h none (k_X1 h a n) := by
  refine MC_intro mlX1_init (Nat.le_of_ble_eq_true rfl) rfl rfl trivial ?_
  refine r_aload_n dX1_init_0 rfl rfl ?_
  refine r_obj dX1_init_1 lkX1_3 wI_obj wC_obj (Nat.le_of_ble_eq_true rfl) (by decide) ?_
  refine r_aload_n dX1_init_4 rfl rfl ?_
  refine r_sipush (x := 288) dX1_init_5 (by decide) ?_
  refine r_newaN (N := 288) (ti := 0) dX1_init_8 (by decide) rfl ka_0 (by decide) (by decide) (by decide) hn (by omega) (by omega) (by omega) ?_
  refine r_putr dX1_init_10 flX1_9 (Or.inr ⟨rfl, rfl⟩) rfl (m_keep hs) ?_
  exact r_ret dX1_init_13 rfl rfl
def k_X2 (h : mH) (a n : Nat) : mH := (hpi (hpi h a 0 0) a 1 0)
set_option maxRecDepth 100000 in
theorem c_X2_init {G : mG} {h : mH} {a n : Nat} (hs : h.1[a]? = some (.inl 2)) (hn : h.1.length = n) (hl : n ≤ 900) : MC G mX2_init 1 0 0 [.ref a] h none (k_X2 h a n) := by
  refine MC_intro mlX2_init (Nat.le_of_ble_eq_true rfl) rfl rfl trivial ?_
  refine r_aload_n dX2_init_0 rfl rfl ?_
  refine r_obj dX2_init_1 lkX2_3 wI_obj wC_obj (Nat.le_of_ble_eq_true rfl) (by decide) ?_
  refine r_aload_n dX2_init_4 rfl rfl ?_
  refine r_iconst (x := 0) dX2_init_5 (by decide) ?_
  refine r_puti dX2_init_6 flX2_9 (Or.inl rfl) (Or.inl rfl) hs ?_
  refine r_aload_n dX2_init_9 rfl rfl ?_
  refine r_iconst (x := 0) dX2_init_10 (by decide) ?_
  refine r_puti dX2_init_11 flX2_15 (Or.inl rfl) (Or.inl rfl) hs ?_
  exact r_ret dX2_init_14 rfl rfl
def k_X3 (h : mH) (a n : Nat) : mH := (hpi (hpi (hpi (hpi (hpi (hpi (hpi h a 0 0) a 1 0) a 2 0) a 3 0) a 4 0) a 5 0) a 6 0)
set_option maxRecDepth 100000 in
theorem c_X3_init {G : mG} {h : mH} {a n : Nat} (hs : h.1[a]? = some (.inl 3)) (hn : h.1.length = n) (hl : n ≤ 900) : MC G mX3_init 1 0 0 [.ref a] h none (k_X3 h a n) := by
  refine MC_intro mlX3_init (Nat.le_of_ble_eq_true rfl) rfl rfl trivial ?_
  refine r_aload_n dX3_init_0 rfl rfl ?_
  refine r_obj dX3_init_1 lkX3_3 wI_obj wC_obj (Nat.le_of_ble_eq_true rfl) (by decide) ?_
  refine r_aload_n dX3_init_4 rfl rfl ?_
  refine r_iconst (x := 0) dX3_init_5 (by decide) ?_
  refine r_puti dX3_init_6 flX3_9 (Or.inl rfl) (Or.inl rfl) hs ?_
  refine r_aload_n dX3_init_9 rfl rfl ?_
  refine r_iconst (x := 0) dX3_init_10 (by decide) ?_
  refine r_puti dX3_init_11 flX3_15 (Or.inl rfl) (Or.inl rfl) hs ?_
  refine r_aload_n dX3_init_14 rfl rfl ?_
  refine r_iconst (x := 0) dX3_init_15 (by decide) ?_
  refine r_puti dX3_init_16 flX3_18 (Or.inl rfl) (Or.inl rfl) hs ?_
  refine r_aload_n dX3_init_19 rfl rfl ?_
  refine r_iconst (x := 0) dX3_init_20 (by decide) ?_
  refine r_puti dX3_init_21 flX3_21 (Or.inl rfl) (Or.inl rfl) hs ?_
  refine r_aload_n dX3_init_24 rfl rfl ?_
  refine r_iconst (x := 0) dX3_init_25 (by decide) ?_
  refine r_puti dX3_init_26 flX3_24 (Or.inl rfl) (Or.inl rfl) hs ?_
  refine r_aload_n dX3_init_29 rfl rfl ?_
  refine r_iconst (x := 0) dX3_init_30 (by decide) ?_
  refine r_puti dX3_init_31 flX3_27 (Or.inl rfl) (Or.inl rfl) hs ?_
  refine r_aload_n dX3_init_34 rfl rfl ?_
  refine r_iconst (x := 0) dX3_init_35 (by decide) ?_
  refine r_puti dX3_init_36 flX3_30 (Or.inl rfl) (Or.inr ⟨rfl, by decide⟩) hs ?_
  exact r_ret dX3_init_39 rfl rfl
def k_X5 (h : mH) (a n : Nat) : mH := (hpi (hpi (hpr (m_new (hpr (m_new (hpr (m_new (hpr (m_new h (.inr (0, 6))) a 0 n) (.inr (0, 24))) a 1 (n + 1)) (.inr (0, 288))) a 2 (n + 2)) (.inr (0, 12))) a 3 (n + 3)) a 4 0) a 5 0)
set_option maxRecDepth 100000 in
theorem c_X5_init {G : mG} {h : mH} {a n : Nat} (hs : h.1[a]? = some (.inl 5)) (hn : h.1.length = n) (hl : n ≤ 900) : MC G mX5_init 1 4 330 [.ref a] h none (k_X5 h a n) := by
  refine MC_intro mlX5_init (Nat.le_of_ble_eq_true rfl) rfl rfl trivial ?_
  refine r_aload_n dX5_init_0 rfl rfl ?_
  refine r_obj dX5_init_1 lkX5_3 wI_obj wC_obj (Nat.le_of_ble_eq_true rfl) (by decide) ?_
  refine r_aload_n dX5_init_4 rfl rfl ?_
  refine r_bipush (x := 6) dX5_init_5 (by decide) ?_
  refine r_newaN (N := 6) (ti := 0) dX5_init_7 (by decide) rfl ka_0 (by decide) (by decide) (by decide) hn (by omega) (by omega) (by omega) ?_
  refine r_putr dX5_init_9 flX5_9 (Or.inr ⟨rfl, rfl⟩) rfl (m_keep hs) ?_
  refine r_aload_n dX5_init_12 rfl rfl ?_
  refine r_bipush (x := 24) dX5_init_13 (by decide) ?_
  refine r_newaN (N := 24) (ti := 0) dX5_init_15 (by decide) rfl ka_0 (by decide) (by decide) (by decide) (m_new_len hn) (by omega) (by omega) (by omega) ?_
  refine r_putr dX5_init_17 flX5_15 (Or.inr ⟨rfl, rfl⟩) rfl (m_keep (m_keep hs)) ?_
  refine r_aload_n dX5_init_20 rfl rfl ?_
  refine r_sipush (x := 288) dX5_init_21 (by decide) ?_
  refine r_newaN (N := 288) (ti := 0) dX5_init_24 (by decide) rfl ka_0 (by decide) (by decide) (by decide) (m_new_len (m_new_len hn)) (by omega) (by omega) (by omega) ?_
  refine r_putr dX5_init_26 flX5_18 (Or.inr ⟨rfl, rfl⟩) rfl (m_keep (m_keep (m_keep hs))) ?_
  refine r_aload_n dX5_init_29 rfl rfl ?_
  refine r_bipush (x := 12) dX5_init_30 (by decide) ?_
  refine r_newaN (N := 12) (ti := 0) dX5_init_32 (by decide) rfl ka_0 (by decide) (by decide) (by decide) (m_new_len (m_new_len (m_new_len hn))) (by omega) (by omega) (by omega) ?_
  refine r_putr dX5_init_34 flX5_21 (Or.inr ⟨rfl, rfl⟩) rfl (m_keep (m_keep (m_keep (m_keep hs)))) ?_
  refine r_aload_n dX5_init_37 rfl rfl ?_
  refine r_iconst (x := 0) dX5_init_38 (by decide) ?_
  refine r_puti dX5_init_39 flX5_24 (Or.inl rfl) (Or.inl rfl) (m_keep (m_keep (m_keep (m_keep hs)))) ?_
  refine r_aload_n dX5_init_42 rfl rfl ?_
  refine r_iconst (x := 0) dX5_init_43 (by decide) ?_
  refine r_puti dX5_init_44 flX5_28 (Or.inl rfl) (Or.inl rfl) (m_keep (m_keep (m_keep (m_keep hs)))) ?_
  exact r_ret dX5_init_47 rfl rfl
/-- Table(): its three arrays and numbers -/
def k_Ta (h : mH) (a n : Nat) : mH := hpr (m_new h (.inr (2, 6))) a 0 n
def k_Tb (h : mH) (a n : Nat) : mH := hpr (hpi (hpi (hpi (hpi (hpi (m_new (k_Ta h a n) (.inr (0, 5))) (n + 1) 0 1) (n + 1) 1 1) (n + 1) 2 1) (n + 1) 3 1) (n + 1) 4 1) a 1 (n + 1)
def k_T0 (h : mH) (a n : Nat) : mH := hpi (hpi (hpi (hpr (hpi (hpi (hpi (hpi (hpi (m_new (k_Tb h a n) (.inr (0, 5))) (n + 2) 0 0) (n + 2) 1 0) (n + 2) 2 0) (n + 2) 3 0) (n + 2) 4 0) a 2 (n + 2)) a 3 1) a 4 0) a 5 0
def k_Ts (c : Nat) (T : mH) (n : Nat) : mH := hpr (k_X0 (m_new T (.inl 0)) (n + 3 + c) (n + 3 + c + 1)) n c (n + 3 + c)
def k_Tc (h : mH) (a n : Nat) : Nat → mH
  | 0 => k_T0 h a n
  | c + 1 => k_Ts c (k_Tc h a n c) n
def k_X4 (h : mH) (a n : Nat) : mH := k_Tc h a n 6
theorem k_T_inv {h : mH} {a n : Nat} (hs : h.1[a]? = some (.inl 4)) (hn : h.1.length = n) : ∀ c : Nat, (k_Tc h a n c).1.length = n + 3 + c ∧ (k_Tc h a n c).1[a]? = some (.inl 4) ∧ (k_Tc h a n c).1[n]? = some (.inr (2, 6)) ∧ (k_Tc h a n c).2.2 a 0 = some n
  | 0 => by
    have ha : a < n := by rw [← hn]; exact (List.getElem?_eq_some_iff.mp hs).1
    refine ⟨m_new_len (m_new_len (m_new_len hn)), m_keep (m_keep (m_keep hs)), m_keep (m_keep (m_last hn)), ?_⟩
    have la : (k_Ta h a n).1.length = n + 1 := m_new_len hn
    have lb : (k_Tb h a n).1.length = n + 2 := m_new_len la
    have e1 : ∀ (T : mH) (sh : mSh), T.1.length ≠ a → (m_new T sh).2.2 a = T.2.2 a := fun T sh hne => va_up_ne _ _ (Ne.symm hne)
    show m_up (m_new (k_Tb h a n) (.inr (0, 5))).2.2 a 2 (some (n + 2)) a 0 = some n
    rw [m_up_same]
    show (if (0 : Nat) = 2 then some (n + 2) else (m_new (k_Tb h a n) (.inr (0, 5))).2.2 a 0) = some n
    rw [if_neg (by decide), e1 _ _ (by omega)]
    show m_up (m_new (k_Ta h a n) (.inr (0, 5))).2.2 a 1 (some (n + 1)) a 0 = some n
    rw [m_up_same]
    show (if (0 : Nat) = 1 then some (n + 1) else (m_new (k_Ta h a n) (.inr (0, 5))).2.2 a 0) = some n
    rw [if_neg (by decide), e1 _ _ (by omega)]
    show m_up (m_new h (.inr (2, 6))).2.2 a 0 (some n) a 0 = some n
    rw [m_up_same]
    show (if (0 : Nat) = 0 then some n else _) = some n
    rw [if_pos rfl]
  | c + 1 => by
    have ha : a < n := by rw [← hn]; exact (List.getElem?_eq_some_iff.mp hs).1
    obtain ⟨i1, i2, i3, i4⟩ := k_T_inv hs hn c
    refine ⟨m_new_len i1, m_keep i2, m_keep i3, ?_⟩
    show m_up _ n c (some (n + 3 + c)) a 0 = some n
    rw [m_up_ne _ _ _ (Nat.ne_of_lt ha)]
    show va_up (k_Tc h a n c).2.2 (k_Tc h a n c).1.length (fun _ => none) a 0 = some n
    rw [va_up_ne _ _ (by omega)]
    exact i4
theorem n_ge6 : ∀ c, c < 6 → ¬ (6 : Int32) ≤ nI c := by decide +kernel
set_option maxRecDepth 100000 in
theorem w_X4_init {G : mG} {h : mH} {a n : Nat} (hs : h.1[a]? = some (.inl 4)) (hn : h.1.length = n) (hl : n ≤ 800) : ∀ (k c : Nat), c + k = 6 → ∀ rc rs : Nat, k ≤ rc → 6 * k ≤ rs → MW G mX4_init 2 rc rs 84 [.ref a, .int (nI c)] [] (k_Tc h a n c) none (k_X4 h a n)
  | 0, c, hc, rc, rs, _, _ => by
    have hc6 : c = 6 := by omega
    subst hc6
    refine r_iload_n dX4_init_84 rfl rfl ?_
    refine r_bipush (x := 6) dX4_init_85 (by decide) ?_
    refine r_icmp_ge (tgt := 109) dX4_init_87 (by decide) (fun _ => ?_) (fun hz => absurd (by decide) hz)
    exact r_ret dX4_init_109 rfl rfl
  | k + 1, c, hc, rc, rs, hrc, hrs => by
    obtain ⟨i1, i2, i3, i4⟩ := k_T_inv hs hn c
    refine r_iload_n dX4_init_84 rfl rfl ?_
    refine r_bipush (x := 6) dX4_init_85 (by decide) ?_
    refine r_icmp_ge (tgt := 109) dX4_init_87 (by decide) (fun hz => absurd hz (n_ge6 c (by omega))) (fun _ => ?_)
    refine r_aload_n dX4_init_90 rfl rfl ?_
    refine r_getr dX4_init_91 flX4_11 rfl i2 i4 ?_
    refine r_iload_n dX4_init_94 rfl rfl ?_
    refine r_newN (ci := 0) dX4_init_95 (by decide) klX4_9 kn_0 ki_0 i1 (by omega) (by omega) (by show 6 ≤ rs; omega) ?_
    refine r_dup dX4_init_98 ?_
    refine r_callI (rest := [.ref (n + 3 + c), .int (nI c), .ref n]) (c_X0_init (m_last i1) (m_new_len i1) (by omega)) dX4_init_99 lkX4_34 rfl rfl (Nat.le_of_ble_eq_true rfl) (by decide) (Nat.zero_le _) (Nat.zero_le _) ?_
    refine r_aast (ti := 2) (ci := 0) dX4_init_102 (by decide) (m_keep i3) (m_last i1) rfl (nI_in (by omega) (by decide)) ?_
    rw [nI_clamp (by omega)]
    refine r_iinc (y := 1) dX4_init_103 rfl (by decide) (by decide) rfl ?_
    rw [nI_1]
    refine r_goto (tgt := 84) dX4_init_106 (by decide) ?_
    exact w_X4_init hs hn hl k (c + 1) (by omega) _ _ (by omega) (by show 6 * k ≤ rs - 6 - 0; omega)
set_option maxRecDepth 100000 in
set_option maxHeartbeats 4000000 in
theorem c_X4_init {G : mG} {h : mH} {a n : Nat} (hs : h.1[a]? = some (.inl 4)) (hn : h.1.length = n) (hl : n ≤ 800) : MC G mX4_init 2 9 52 [.ref a] h none (k_X4 h a n) := by
  refine MC_intro mlX4_init (Nat.le_of_ble_eq_true rfl) rfl rfl trivial ?_
  refine r_aload_n dX4_init_0 rfl rfl ?_
  refine r_obj dX4_init_1 lkX4_3 wI_obj wC_obj (Nat.le_of_ble_eq_true rfl) (by decide) ?_
  refine r_aload_n dX4_init_4 rfl rfl ?_
  refine r_bipush (x := 6) dX4_init_5 (by decide) ?_
  refine r_newqN (N := 6) (ti := 2) dX4_init_7 (by decide) (by decide) rfl klX4_9 (by decide) (by decide) (by decide) (by decide) hn (by omega) (by omega) (by omega) ?_
  refine r_putr dX4_init_10 flX4_11 (Or.inr ⟨rfl, rfl⟩) rfl (m_keep hs) ?_
  refine r_aload_n dX4_init_13 rfl rfl ?_
  refine r_iconst (x := 5) dX4_init_14 (by decide) ?_
  refine r_newaN (N := 5) (ti := 0) dX4_init_15 (by decide) rfl ka_0 (by decide) (by decide) (by decide) (m_new_len hn) (by omega) (by omega) (by omega) ?_
  refine r_dup dX4_init_17 ?_
  refine r_iconst (x := 0) dX4_init_18 (by decide) ?_
  refine r_iconst (x := 1) dX4_init_19 (by decide) ?_
  refine r_iast dX4_init_20 (m_last (m_new_len hn)) (m_in_of (by decide)) ?_
  refine r_dup dX4_init_21 ?_
  refine r_iconst (x := 1) dX4_init_22 (by decide) ?_
  refine r_iconst (x := 1) dX4_init_23 (by decide) ?_
  refine r_iast dX4_init_24 (m_last (m_new_len hn)) (m_in_of (by decide)) ?_
  refine r_dup dX4_init_25 ?_
  refine r_iconst (x := 2) dX4_init_26 (by decide) ?_
  refine r_iconst (x := 1) dX4_init_27 (by decide) ?_
  refine r_iast dX4_init_28 (m_last (m_new_len hn)) (m_in_of (by decide)) ?_
  refine r_dup dX4_init_29 ?_
  refine r_iconst (x := 3) dX4_init_30 (by decide) ?_
  refine r_iconst (x := 1) dX4_init_31 (by decide) ?_
  refine r_iast dX4_init_32 (m_last (m_new_len hn)) (m_in_of (by decide)) ?_
  refine r_dup dX4_init_33 ?_
  refine r_iconst (x := 4) dX4_init_34 (by decide) ?_
  refine r_iconst (x := 1) dX4_init_35 (by decide) ?_
  refine r_iast dX4_init_36 (m_last (m_new_len hn)) (m_in_of (by decide)) ?_
  refine r_putr dX4_init_37 flX4_17 (Or.inr ⟨rfl, rfl⟩) rfl (m_keep (m_keep hs)) ?_
  refine r_aload_n dX4_init_40 rfl rfl ?_
  refine r_iconst (x := 5) dX4_init_41 (by decide) ?_
  refine r_newaN (N := 5) (ti := 0) dX4_init_42 (by decide) rfl ka_0 (by decide) (by decide) (by decide) (m_new_len (m_new_len hn)) (by omega) (by omega) (by omega) ?_
  refine r_dup dX4_init_44 ?_
  refine r_iconst (x := 0) dX4_init_45 (by decide) ?_
  refine r_iconst (x := 0) dX4_init_46 (by decide) ?_
  refine r_iast dX4_init_47 (m_last (m_new_len (m_new_len hn))) (m_in_of (by decide)) ?_
  refine r_dup dX4_init_48 ?_
  refine r_iconst (x := 1) dX4_init_49 (by decide) ?_
  refine r_iconst (x := 0) dX4_init_50 (by decide) ?_
  refine r_iast dX4_init_51 (m_last (m_new_len (m_new_len hn))) (m_in_of (by decide)) ?_
  refine r_dup dX4_init_52 ?_
  refine r_iconst (x := 2) dX4_init_53 (by decide) ?_
  refine r_iconst (x := 0) dX4_init_54 (by decide) ?_
  refine r_iast dX4_init_55 (m_last (m_new_len (m_new_len hn))) (m_in_of (by decide)) ?_
  refine r_dup dX4_init_56 ?_
  refine r_iconst (x := 3) dX4_init_57 (by decide) ?_
  refine r_iconst (x := 0) dX4_init_58 (by decide) ?_
  refine r_iast dX4_init_59 (m_last (m_new_len (m_new_len hn))) (m_in_of (by decide)) ?_
  refine r_dup dX4_init_60 ?_
  refine r_iconst (x := 4) dX4_init_61 (by decide) ?_
  refine r_iconst (x := 0) dX4_init_62 (by decide) ?_
  refine r_iast dX4_init_63 (m_last (m_new_len (m_new_len hn))) (m_in_of (by decide)) ?_
  refine r_putr dX4_init_64 flX4_21 (Or.inr ⟨rfl, rfl⟩) rfl (m_keep (m_keep (m_keep hs))) ?_
  refine r_aload_n dX4_init_67 rfl rfl ?_
  refine r_iconst (x := 1) dX4_init_68 (by decide) ?_
  refine r_puti dX4_init_69 flX4_24 (Or.inl rfl) (Or.inl rfl) (m_keep (m_keep (m_keep hs))) ?_
  refine r_aload_n dX4_init_72 rfl rfl ?_
  refine r_iconst (x := 0) dX4_init_73 (by decide) ?_
  refine r_puti dX4_init_74 flX4_28 (Or.inl rfl) (Or.inl rfl) (m_keep (m_keep (m_keep hs))) ?_
  refine r_aload_n dX4_init_77 rfl rfl ?_
  refine r_iconst (x := 0) dX4_init_78 (by decide) ?_
  refine r_puti dX4_init_79 flX4_31 (Or.inl rfl) (Or.inl rfl) (m_keep (m_keep (m_keep hs))) ?_
  refine r_iconst (x := 0) dX4_init_82 (by decide) ?_
  refine r_istore_n dX4_init_83 rfl (by decide) rfl ?_
  exact w_X4_init hs hn hl 6 0 rfl _ _ (by omega) (by omega)
def m_e : mH := ([], fun _ _ => 0, fun _ _ => none)
def hx0 : mH := m_new m_e (.inl 6)
def hx1 : mH := m_new hx0 (.inr (3, 4))
def hx2 : mH := hpr hx1 0 0 1
def hx3 : mH := m_new hx2 (.inr (4, 8))
def hx4 : mH := hpr hx3 0 1 2
def hx5 : mH := m_new hx4 (.inr (0, 6))
def hx6 : mH := hpr hx5 0 2 3
def hx7 : mH := m_new hx6 (.inl 1)
def hx8 : mH := k_X1 hx7 4 5
def hx9 : mH := hpr hx8 0 3 4
def hx10 : mH := m_new hx9 (.inl 2)
def hx11 : mH := k_X2 hx10 6 7
def hx12 : mH := hpr hx11 0 4 6
def hx13 : mH := m_new hx12 (.inl 5)
def hx14 : mH := k_X5 hx13 7 8
def hx15 : mH := hpr hx14 0 5 7
def hx16 : mH := m_new hx15 (.inl 1)
def hx17 : mH := k_X1 hx16 12 13
def hx18 : mH := hpr hx17 0 6 12
def hx19 : mH := m_new hx18 (.inl 1)
def hx20 : mH := k_X1 hx19 14 15
def hx21 : mH := hpr hx20 0 7 14
def hx22 : mH := hpi hx21 0 8 0
def hx23 : mH := hpi hx22 0 9 0
def hx24 : mH := hpi hx23 0 10 0
def hx25 : mH := hpi hx24 0 11 0
def hx26 : mH := hpi hx25 0 12 0
def hx27 : mH := m_new hx26 (.inl 4)
def hx28 : mH := k_X4 hx27 16 17
def hx29 : mH := hpr hx28 1 0 16
def hx30 : mH := m_new hx29 (.inl 4)
def hx31 : mH := k_X4 hx30 26 27
def hx32 : mH := hpr hx31 1 1 26
def hx33 : mH := m_new hx32 (.inl 4)
def hx34 : mH := k_X4 hx33 36 37
def hx35 : mH := hpr hx34 1 2 36
def hx36 : mH := m_new hx35 (.inl 4)
def hx37 : mH := k_X4 hx36 46 47
def hx38 : mH := hpr hx37 1 3 46
def hx39 : mH := m_new hx38 (.inl 3)
def hx40 : mH := k_X3 hx39 56 57
def hx41 : mH := hpr hx40 2 0 56
def hx42 : mH := m_new hx41 (.inl 3)
def hx43 : mH := k_X3 hx42 57 58
def hx44 : mH := hpr hx43 2 1 57
def hx45 : mH := m_new hx44 (.inl 3)
def hx46 : mH := k_X3 hx45 58 59
def hx47 : mH := hpr hx46 2 2 58
def hx48 : mH := m_new hx47 (.inl 3)
def hx49 : mH := k_X3 hx48 59 60
def hx50 : mH := hpr hx49 2 3 59
def hx51 : mH := m_new hx50 (.inl 3)
def hx52 : mH := k_X3 hx51 60 61
def hx53 : mH := hpr hx52 2 4 60
def hx54 : mH := m_new hx53 (.inl 3)
def hx55 : mH := k_X3 hx54 61 62
def hx56 : mH := hpr hx55 2 5 61
def hx57 : mH := m_new hx56 (.inl 3)
def hx58 : mH := k_X3 hx57 62 63
def hx59 : mH := hpr hx58 2 6 62
def hx60 : mH := m_new hx59 (.inl 3)
def hx61 : mH := k_X3 hx60 63 64
def hx62 : mH := hpr hx61 2 7 63
set_option maxRecDepth 100000 in
set_option maxHeartbeats 4000000 in
theorem c_X6_init {G : mG} : MC G mX6_init 3 63 1511 [.ref 0] hx0 none hx62 := by
  refine MC_intro mlX6_init (Nat.le_of_ble_eq_true rfl) rfl rfl trivial ?_
  refine r_aload_n dX6_init_0 rfl rfl ?_
  refine r_obj dX6_init_1 lkX6_3 wI_obj wC_obj (Nat.le_of_ble_eq_true rfl) (by decide) ?_
  refine r_aload_n dX6_init_4 rfl rfl ?_
  refine r_iconst (x := 4) dX6_init_5 (by decide) ?_
  refine r_newqN (N := 4) (ti := 3) (nn := 1) dX6_init_6 (by decide) (by decide) rfl klX6_11 (by decide) (by decide) (by decide) (by decide) rfl (by decide) (Nat.le_of_ble_eq_true rfl) (Nat.le_of_ble_eq_true rfl) ?_
  change MW G mX6_init _ _ _ _ _ _ hx1 _ _
  refine r_putr dX6_init_9 flX6_13 (Or.inr ⟨rfl, rfl⟩) rfl rfl ?_
  change MW G mX6_init _ _ _ _ _ _ hx2 _ _
  refine r_aload_n dX6_init_12 rfl rfl ?_
  refine r_bipush (x := 8) dX6_init_13 (by decide) ?_
  refine r_newqN (N := 8) (ti := 4) (nn := 2) dX6_init_15 (by decide) (by decide) rfl klX6_17 (by decide) (by decide) (by decide) (by decide) rfl (by decide) (Nat.le_of_ble_eq_true rfl) (Nat.le_of_ble_eq_true rfl) ?_
  change MW G mX6_init _ _ _ _ _ _ hx3 _ _
  refine r_putr dX6_init_18 flX6_19 (Or.inr ⟨rfl, rfl⟩) rfl rfl ?_
  change MW G mX6_init _ _ _ _ _ _ hx4 _ _
  refine r_aload_n dX6_init_21 rfl rfl ?_
  refine r_bipush (x := 6) dX6_init_22 (by decide) ?_
  refine r_newaN (N := 6) (ti := 0) (nn := 3) dX6_init_24 (by decide) rfl ka_0 (by decide) (by decide) (by decide) rfl (by decide) (Nat.le_of_ble_eq_true rfl) (Nat.le_of_ble_eq_true rfl) ?_
  change MW G mX6_init _ _ _ _ _ _ hx5 _ _
  refine r_putr dX6_init_26 flX6_23 (Or.inr ⟨rfl, rfl⟩) rfl rfl ?_
  change MW G mX6_init _ _ _ _ _ _ hx6 _ _
  refine r_aload_n dX6_init_29 rfl rfl ?_
  refine r_newN (ci := 1) (n := 4) dX6_init_30 (by decide) klX6_27 kn_1 ki_1 rfl (by decide) (Nat.le_of_ble_eq_true rfl) (Nat.le_of_ble_eq_true rfl) ?_
  change MW G mX6_init _ _ _ _ _ _ hx7 _ _
  refine r_dup dX6_init_33 ?_
  refine r_callI (rest := [.ref 4, .ref 0]) (c_X1_init (a := 4) (n := 5) rfl rfl (by decide)) dX6_init_34 lkX6_29 rfl rfl (Nat.le_of_ble_eq_true rfl) (by decide) (Nat.le_of_ble_eq_true rfl) (Nat.le_of_ble_eq_true rfl) ?_
  change MW G mX6_init _ _ _ _ _ _ hx8 _ _
  refine r_putr dX6_init_37 flX6_30 (Or.inr ⟨rfl, rfl⟩) rfl rfl ?_
  change MW G mX6_init _ _ _ _ _ _ hx9 _ _
  refine r_aload_n dX6_init_40 rfl rfl ?_
  refine r_newN (ci := 2) (n := 6) dX6_init_41 (by decide) klX6_34 kn_2 ki_2 rfl (by decide) (Nat.le_of_ble_eq_true rfl) (Nat.le_of_ble_eq_true rfl) ?_
  change MW G mX6_init _ _ _ _ _ _ hx10 _ _
  refine r_dup dX6_init_44 ?_
  refine r_callI (rest := [.ref 6, .ref 0]) (c_X2_init (a := 6) (n := 7) rfl rfl (by decide)) dX6_init_45 lkX6_36 rfl rfl (Nat.le_of_ble_eq_true rfl) (by decide) (Nat.le_of_ble_eq_true rfl) (Nat.le_of_ble_eq_true rfl) ?_
  change MW G mX6_init _ _ _ _ _ _ hx11 _ _
  refine r_putr dX6_init_48 flX6_37 (Or.inr ⟨rfl, rfl⟩) rfl rfl ?_
  change MW G mX6_init _ _ _ _ _ _ hx12 _ _
  refine r_aload_n dX6_init_51 rfl rfl ?_
  refine r_newN (ci := 5) (n := 7) dX6_init_52 (by decide) klX6_41 kn_5 ki_5 rfl (by decide) (Nat.le_of_ble_eq_true rfl) (Nat.le_of_ble_eq_true rfl) ?_
  change MW G mX6_init _ _ _ _ _ _ hx13 _ _
  refine r_dup dX6_init_55 ?_
  refine r_callI (rest := [.ref 7, .ref 0]) (c_X5_init (a := 7) (n := 8) rfl rfl (by decide)) dX6_init_56 lkX6_43 rfl rfl (Nat.le_of_ble_eq_true rfl) (by decide) (Nat.le_of_ble_eq_true rfl) (Nat.le_of_ble_eq_true rfl) ?_
  change MW G mX6_init _ _ _ _ _ _ hx14 _ _
  refine r_putr dX6_init_59 flX6_44 (Or.inr ⟨rfl, rfl⟩) rfl rfl ?_
  change MW G mX6_init _ _ _ _ _ _ hx15 _ _
  refine r_aload_n dX6_init_62 rfl rfl ?_
  refine r_newN (ci := 1) (n := 12) dX6_init_63 (by decide) klX6_27 kn_1 ki_1 rfl (by decide) (Nat.le_of_ble_eq_true rfl) (Nat.le_of_ble_eq_true rfl) ?_
  change MW G mX6_init _ _ _ _ _ _ hx16 _ _
  refine r_dup dX6_init_66 ?_
  refine r_callI (rest := [.ref 12, .ref 0]) (c_X1_init (a := 12) (n := 13) rfl rfl (by decide)) dX6_init_67 lkX6_29 rfl rfl (Nat.le_of_ble_eq_true rfl) (by decide) (Nat.le_of_ble_eq_true rfl) (Nat.le_of_ble_eq_true rfl) ?_
  change MW G mX6_init _ _ _ _ _ _ hx17 _ _
  refine r_putr dX6_init_70 flX6_48 (Or.inl rfl) rfl rfl ?_
  change MW G mX6_init _ _ _ _ _ _ hx18 _ _
  refine r_aload_n dX6_init_73 rfl rfl ?_
  refine r_newN (ci := 1) (n := 14) dX6_init_74 (by decide) klX6_27 kn_1 ki_1 rfl (by decide) (Nat.le_of_ble_eq_true rfl) (Nat.le_of_ble_eq_true rfl) ?_
  change MW G mX6_init _ _ _ _ _ _ hx19 _ _
  refine r_dup dX6_init_77 ?_
  refine r_callI (rest := [.ref 14, .ref 0]) (c_X1_init (a := 14) (n := 15) rfl rfl (by decide)) dX6_init_78 lkX6_29 rfl rfl (Nat.le_of_ble_eq_true rfl) (by decide) (Nat.le_of_ble_eq_true rfl) (Nat.le_of_ble_eq_true rfl) ?_
  change MW G mX6_init _ _ _ _ _ _ hx20 _ _
  refine r_putr dX6_init_81 flX6_51 (Or.inl rfl) rfl rfl ?_
  change MW G mX6_init _ _ _ _ _ _ hx21 _ _
  refine r_aload_n dX6_init_84 rfl rfl ?_
  refine r_iconst (x := 0) dX6_init_85 (by decide) ?_
  refine r_puti dX6_init_86 flX6_54 (Or.inl rfl) (Or.inl rfl) rfl ?_
  change MW G mX6_init _ _ _ _ _ _ hx22 _ _
  refine r_aload_n dX6_init_89 rfl rfl ?_
  refine r_iconst (x := 0) dX6_init_90 (by decide) ?_
  refine r_puti dX6_init_91 flX6_58 (Or.inl rfl) (Or.inl rfl) rfl ?_
  change MW G mX6_init _ _ _ _ _ _ hx23 _ _
  refine r_aload_n dX6_init_94 rfl rfl ?_
  refine r_iconst (x := 0) dX6_init_95 (by decide) ?_
  refine r_puti dX6_init_96 flX6_61 (Or.inl rfl) (Or.inl rfl) rfl ?_
  change MW G mX6_init _ _ _ _ _ _ hx24 _ _
  refine r_aload_n dX6_init_99 rfl rfl ?_
  refine r_iconst (x := 0) dX6_init_100 (by decide) ?_
  refine r_puti dX6_init_101 flX6_64 (Or.inl rfl) (Or.inl rfl) rfl ?_
  change MW G mX6_init _ _ _ _ _ _ hx25 _ _
  refine r_aload_n dX6_init_104 rfl rfl ?_
  refine r_iconst (x := 0) dX6_init_105 (by decide) ?_
  refine r_puti dX6_init_106 flX6_67 (Or.inl rfl) (Or.inr ⟨rfl, by decide⟩) rfl ?_
  change MW G mX6_init _ _ _ _ _ _ hx26 _ _
  refine r_iconst (x := 0) dX6_init_109 (by decide) ?_
  refine r_istore_n dX6_init_110 rfl (by decide) rfl ?_
  refine r_iload_n dX6_init_111 rfl rfl ?_
  refine r_iconst (x := 4) dX6_init_112 (by decide) ?_
  refine r_icmp_ge (tgt := 135) dX6_init_113 (by decide) (fun hz => absurd hz (by decide)) (fun _ => ?_)
  refine r_aload_n dX6_init_116 rfl rfl ?_
  refine r_getr (b := 1) dX6_init_117 flX6_13 rfl rfl (by decide +kernel) ?_
  refine r_iload_n dX6_init_120 rfl rfl ?_
  refine r_newN (ci := 4) (n := 16) dX6_init_121 (by decide) klX6_11 kn_4 ki_4 rfl (by decide) (Nat.le_of_ble_eq_true rfl) (Nat.le_of_ble_eq_true rfl) ?_
  change MW G mX6_init _ _ _ _ _ _ hx27 _ _
  refine r_dup dX6_init_124 ?_
  refine r_callI (rest := [.ref 16, .int 0, .ref 1]) (c_X4_init (a := 16) (n := 17) rfl rfl (by decide)) dX6_init_125 lkX6_71 rfl rfl (Nat.le_of_ble_eq_true rfl) (by decide) (Nat.le_of_ble_eq_true rfl) (Nat.le_of_ble_eq_true rfl) ?_
  change MW G mX6_init _ _ _ _ _ _ hx28 _ _
  refine r_aast (ti := 3) (ci := 4) dX6_init_128 (by decide) rfl rfl rfl (m_in_of (by decide)) ?_
  change MW G mX6_init _ _ _ _ _ _ hx29 _ _
  refine r_iinc (y := 1) dX6_init_129 rfl (by decide) (by decide) (L' := [.ref 0, .int 1]) rfl ?_
  refine r_goto (tgt := 111) dX6_init_132 (by decide) ?_
  refine r_iload_n dX6_init_111 rfl rfl ?_
  refine r_iconst (x := 4) dX6_init_112 (by decide) ?_
  refine r_icmp_ge (tgt := 135) dX6_init_113 (by decide) (fun hz => absurd hz (by decide)) (fun _ => ?_)
  refine r_aload_n dX6_init_116 rfl rfl ?_
  refine r_getr (b := 1) dX6_init_117 flX6_13 rfl rfl (by decide +kernel) ?_
  refine r_iload_n dX6_init_120 rfl rfl ?_
  refine r_newN (ci := 4) (n := 26) dX6_init_121 (by decide) klX6_11 kn_4 ki_4 rfl (by decide) (Nat.le_of_ble_eq_true rfl) (Nat.le_of_ble_eq_true rfl) ?_
  change MW G mX6_init _ _ _ _ _ _ hx30 _ _
  refine r_dup dX6_init_124 ?_
  refine r_callI (rest := [.ref 26, .int 1, .ref 1]) (c_X4_init (a := 26) (n := 27) rfl rfl (by decide)) dX6_init_125 lkX6_71 rfl rfl (Nat.le_of_ble_eq_true rfl) (by decide) (Nat.le_of_ble_eq_true rfl) (Nat.le_of_ble_eq_true rfl) ?_
  change MW G mX6_init _ _ _ _ _ _ hx31 _ _
  refine r_aast (ti := 3) (ci := 4) dX6_init_128 (by decide) rfl rfl rfl (m_in_of (by decide)) ?_
  change MW G mX6_init _ _ _ _ _ _ hx32 _ _
  refine r_iinc (y := 1) dX6_init_129 rfl (by decide) (by decide) (L' := [.ref 0, .int 2]) rfl ?_
  refine r_goto (tgt := 111) dX6_init_132 (by decide) ?_
  refine r_iload_n dX6_init_111 rfl rfl ?_
  refine r_iconst (x := 4) dX6_init_112 (by decide) ?_
  refine r_icmp_ge (tgt := 135) dX6_init_113 (by decide) (fun hz => absurd hz (by decide)) (fun _ => ?_)
  refine r_aload_n dX6_init_116 rfl rfl ?_
  refine r_getr (b := 1) dX6_init_117 flX6_13 rfl rfl (by decide +kernel) ?_
  refine r_iload_n dX6_init_120 rfl rfl ?_
  refine r_newN (ci := 4) (n := 36) dX6_init_121 (by decide) klX6_11 kn_4 ki_4 rfl (by decide) (Nat.le_of_ble_eq_true rfl) (Nat.le_of_ble_eq_true rfl) ?_
  change MW G mX6_init _ _ _ _ _ _ hx33 _ _
  refine r_dup dX6_init_124 ?_
  refine r_callI (rest := [.ref 36, .int 2, .ref 1]) (c_X4_init (a := 36) (n := 37) rfl rfl (by decide)) dX6_init_125 lkX6_71 rfl rfl (Nat.le_of_ble_eq_true rfl) (by decide) (Nat.le_of_ble_eq_true rfl) (Nat.le_of_ble_eq_true rfl) ?_
  change MW G mX6_init _ _ _ _ _ _ hx34 _ _
  refine r_aast (ti := 3) (ci := 4) dX6_init_128 (by decide) rfl rfl rfl (m_in_of (by decide)) ?_
  change MW G mX6_init _ _ _ _ _ _ hx35 _ _
  refine r_iinc (y := 1) dX6_init_129 rfl (by decide) (by decide) (L' := [.ref 0, .int 3]) rfl ?_
  refine r_goto (tgt := 111) dX6_init_132 (by decide) ?_
  refine r_iload_n dX6_init_111 rfl rfl ?_
  refine r_iconst (x := 4) dX6_init_112 (by decide) ?_
  refine r_icmp_ge (tgt := 135) dX6_init_113 (by decide) (fun hz => absurd hz (by decide)) (fun _ => ?_)
  refine r_aload_n dX6_init_116 rfl rfl ?_
  refine r_getr (b := 1) dX6_init_117 flX6_13 rfl rfl (by decide +kernel) ?_
  refine r_iload_n dX6_init_120 rfl rfl ?_
  refine r_newN (ci := 4) (n := 46) dX6_init_121 (by decide) klX6_11 kn_4 ki_4 rfl (by decide) (Nat.le_of_ble_eq_true rfl) (Nat.le_of_ble_eq_true rfl) ?_
  change MW G mX6_init _ _ _ _ _ _ hx36 _ _
  refine r_dup dX6_init_124 ?_
  refine r_callI (rest := [.ref 46, .int 3, .ref 1]) (c_X4_init (a := 46) (n := 47) rfl rfl (by decide)) dX6_init_125 lkX6_71 rfl rfl (Nat.le_of_ble_eq_true rfl) (by decide) (Nat.le_of_ble_eq_true rfl) (Nat.le_of_ble_eq_true rfl) ?_
  change MW G mX6_init _ _ _ _ _ _ hx37 _ _
  refine r_aast (ti := 3) (ci := 4) dX6_init_128 (by decide) rfl rfl rfl (m_in_of (by decide)) ?_
  change MW G mX6_init _ _ _ _ _ _ hx38 _ _
  refine r_iinc (y := 1) dX6_init_129 rfl (by decide) (by decide) (L' := [.ref 0, .int 4]) rfl ?_
  refine r_goto (tgt := 111) dX6_init_132 (by decide) ?_
  refine r_iload_n dX6_init_111 rfl rfl ?_
  refine r_iconst (x := 4) dX6_init_112 (by decide) ?_
  refine r_icmp_ge (tgt := 135) dX6_init_113 (by decide) (fun _ => ?_) (fun hz => absurd (by decide) hz)
  refine r_iconst (x := 0) dX6_init_135 (by decide) ?_
  refine r_istore_n dX6_init_136 rfl (by decide) rfl ?_
  refine r_iload_n dX6_init_137 rfl rfl ?_
  refine r_bipush (x := 8) dX6_init_138 (by decide) ?_
  refine r_icmp_ge (tgt := 162) dX6_init_140 (by decide) (fun hz => absurd hz (by decide)) (fun _ => ?_)
  refine r_aload_n dX6_init_143 rfl rfl ?_
  refine r_getr (b := 2) dX6_init_144 flX6_19 rfl rfl (by decide +kernel) ?_
  refine r_iload_n dX6_init_147 rfl rfl ?_
  refine r_newN (ci := 3) (n := 56) dX6_init_148 (by decide) klX6_17 kn_3 ki_3 rfl (by decide) (Nat.le_of_ble_eq_true rfl) (Nat.le_of_ble_eq_true rfl) ?_
  change MW G mX6_init _ _ _ _ _ _ hx39 _ _
  refine r_dup dX6_init_151 ?_
  refine r_callI (rest := [.ref 56, .int 0, .ref 2]) (c_X3_init (a := 56) (n := 57) rfl rfl (by decide)) dX6_init_152 lkX6_72 rfl rfl (Nat.le_of_ble_eq_true rfl) (by decide) (Nat.le_of_ble_eq_true rfl) (Nat.le_of_ble_eq_true rfl) ?_
  change MW G mX6_init _ _ _ _ _ _ hx40 _ _
  refine r_aast (ti := 4) (ci := 3) dX6_init_155 (by decide) rfl rfl rfl (m_in_of (by decide)) ?_
  change MW G mX6_init _ _ _ _ _ _ hx41 _ _
  refine r_iinc (y := 1) dX6_init_156 rfl (by decide) (by decide) (L' := [.ref 0, .int 1]) rfl ?_
  refine r_goto (tgt := 137) dX6_init_159 (by decide) ?_
  refine r_iload_n dX6_init_137 rfl rfl ?_
  refine r_bipush (x := 8) dX6_init_138 (by decide) ?_
  refine r_icmp_ge (tgt := 162) dX6_init_140 (by decide) (fun hz => absurd hz (by decide)) (fun _ => ?_)
  refine r_aload_n dX6_init_143 rfl rfl ?_
  refine r_getr (b := 2) dX6_init_144 flX6_19 rfl rfl (by decide +kernel) ?_
  refine r_iload_n dX6_init_147 rfl rfl ?_
  refine r_newN (ci := 3) (n := 57) dX6_init_148 (by decide) klX6_17 kn_3 ki_3 rfl (by decide) (Nat.le_of_ble_eq_true rfl) (Nat.le_of_ble_eq_true rfl) ?_
  change MW G mX6_init _ _ _ _ _ _ hx42 _ _
  refine r_dup dX6_init_151 ?_
  refine r_callI (rest := [.ref 57, .int 1, .ref 2]) (c_X3_init (a := 57) (n := 58) rfl rfl (by decide)) dX6_init_152 lkX6_72 rfl rfl (Nat.le_of_ble_eq_true rfl) (by decide) (Nat.le_of_ble_eq_true rfl) (Nat.le_of_ble_eq_true rfl) ?_
  change MW G mX6_init _ _ _ _ _ _ hx43 _ _
  refine r_aast (ti := 4) (ci := 3) dX6_init_155 (by decide) rfl rfl rfl (m_in_of (by decide)) ?_
  change MW G mX6_init _ _ _ _ _ _ hx44 _ _
  refine r_iinc (y := 1) dX6_init_156 rfl (by decide) (by decide) (L' := [.ref 0, .int 2]) rfl ?_
  refine r_goto (tgt := 137) dX6_init_159 (by decide) ?_
  refine r_iload_n dX6_init_137 rfl rfl ?_
  refine r_bipush (x := 8) dX6_init_138 (by decide) ?_
  refine r_icmp_ge (tgt := 162) dX6_init_140 (by decide) (fun hz => absurd hz (by decide)) (fun _ => ?_)
  refine r_aload_n dX6_init_143 rfl rfl ?_
  refine r_getr (b := 2) dX6_init_144 flX6_19 rfl rfl (by decide +kernel) ?_
  refine r_iload_n dX6_init_147 rfl rfl ?_
  refine r_newN (ci := 3) (n := 58) dX6_init_148 (by decide) klX6_17 kn_3 ki_3 rfl (by decide) (Nat.le_of_ble_eq_true rfl) (Nat.le_of_ble_eq_true rfl) ?_
  change MW G mX6_init _ _ _ _ _ _ hx45 _ _
  refine r_dup dX6_init_151 ?_
  refine r_callI (rest := [.ref 58, .int 2, .ref 2]) (c_X3_init (a := 58) (n := 59) rfl rfl (by decide)) dX6_init_152 lkX6_72 rfl rfl (Nat.le_of_ble_eq_true rfl) (by decide) (Nat.le_of_ble_eq_true rfl) (Nat.le_of_ble_eq_true rfl) ?_
  change MW G mX6_init _ _ _ _ _ _ hx46 _ _
  refine r_aast (ti := 4) (ci := 3) dX6_init_155 (by decide) rfl rfl rfl (m_in_of (by decide)) ?_
  change MW G mX6_init _ _ _ _ _ _ hx47 _ _
  refine r_iinc (y := 1) dX6_init_156 rfl (by decide) (by decide) (L' := [.ref 0, .int 3]) rfl ?_
  refine r_goto (tgt := 137) dX6_init_159 (by decide) ?_
  refine r_iload_n dX6_init_137 rfl rfl ?_
  refine r_bipush (x := 8) dX6_init_138 (by decide) ?_
  refine r_icmp_ge (tgt := 162) dX6_init_140 (by decide) (fun hz => absurd hz (by decide)) (fun _ => ?_)
  refine r_aload_n dX6_init_143 rfl rfl ?_
  refine r_getr (b := 2) dX6_init_144 flX6_19 rfl rfl (by decide +kernel) ?_
  refine r_iload_n dX6_init_147 rfl rfl ?_
  refine r_newN (ci := 3) (n := 59) dX6_init_148 (by decide) klX6_17 kn_3 ki_3 rfl (by decide) (Nat.le_of_ble_eq_true rfl) (Nat.le_of_ble_eq_true rfl) ?_
  change MW G mX6_init _ _ _ _ _ _ hx48 _ _
  refine r_dup dX6_init_151 ?_
  refine r_callI (rest := [.ref 59, .int 3, .ref 2]) (c_X3_init (a := 59) (n := 60) rfl rfl (by decide)) dX6_init_152 lkX6_72 rfl rfl (Nat.le_of_ble_eq_true rfl) (by decide) (Nat.le_of_ble_eq_true rfl) (Nat.le_of_ble_eq_true rfl) ?_
  change MW G mX6_init _ _ _ _ _ _ hx49 _ _
  refine r_aast (ti := 4) (ci := 3) dX6_init_155 (by decide) rfl rfl rfl (m_in_of (by decide)) ?_
  change MW G mX6_init _ _ _ _ _ _ hx50 _ _
  refine r_iinc (y := 1) dX6_init_156 rfl (by decide) (by decide) (L' := [.ref 0, .int 4]) rfl ?_
  refine r_goto (tgt := 137) dX6_init_159 (by decide) ?_
  refine r_iload_n dX6_init_137 rfl rfl ?_
  refine r_bipush (x := 8) dX6_init_138 (by decide) ?_
  refine r_icmp_ge (tgt := 162) dX6_init_140 (by decide) (fun hz => absurd hz (by decide)) (fun _ => ?_)
  refine r_aload_n dX6_init_143 rfl rfl ?_
  refine r_getr (b := 2) dX6_init_144 flX6_19 rfl rfl (by decide +kernel) ?_
  refine r_iload_n dX6_init_147 rfl rfl ?_
  refine r_newN (ci := 3) (n := 60) dX6_init_148 (by decide) klX6_17 kn_3 ki_3 rfl (by decide) (Nat.le_of_ble_eq_true rfl) (Nat.le_of_ble_eq_true rfl) ?_
  change MW G mX6_init _ _ _ _ _ _ hx51 _ _
  refine r_dup dX6_init_151 ?_
  refine r_callI (rest := [.ref 60, .int 4, .ref 2]) (c_X3_init (a := 60) (n := 61) rfl rfl (by decide)) dX6_init_152 lkX6_72 rfl rfl (Nat.le_of_ble_eq_true rfl) (by decide) (Nat.le_of_ble_eq_true rfl) (Nat.le_of_ble_eq_true rfl) ?_
  change MW G mX6_init _ _ _ _ _ _ hx52 _ _
  refine r_aast (ti := 4) (ci := 3) dX6_init_155 (by decide) rfl rfl rfl (m_in_of (by decide)) ?_
  change MW G mX6_init _ _ _ _ _ _ hx53 _ _
  refine r_iinc (y := 1) dX6_init_156 rfl (by decide) (by decide) (L' := [.ref 0, .int 5]) rfl ?_
  refine r_goto (tgt := 137) dX6_init_159 (by decide) ?_
  refine r_iload_n dX6_init_137 rfl rfl ?_
  refine r_bipush (x := 8) dX6_init_138 (by decide) ?_
  refine r_icmp_ge (tgt := 162) dX6_init_140 (by decide) (fun hz => absurd hz (by decide)) (fun _ => ?_)
  refine r_aload_n dX6_init_143 rfl rfl ?_
  refine r_getr (b := 2) dX6_init_144 flX6_19 rfl rfl (by decide +kernel) ?_
  refine r_iload_n dX6_init_147 rfl rfl ?_
  refine r_newN (ci := 3) (n := 61) dX6_init_148 (by decide) klX6_17 kn_3 ki_3 rfl (by decide) (Nat.le_of_ble_eq_true rfl) (Nat.le_of_ble_eq_true rfl) ?_
  change MW G mX6_init _ _ _ _ _ _ hx54 _ _
  refine r_dup dX6_init_151 ?_
  refine r_callI (rest := [.ref 61, .int 5, .ref 2]) (c_X3_init (a := 61) (n := 62) rfl rfl (by decide)) dX6_init_152 lkX6_72 rfl rfl (Nat.le_of_ble_eq_true rfl) (by decide) (Nat.le_of_ble_eq_true rfl) (Nat.le_of_ble_eq_true rfl) ?_
  change MW G mX6_init _ _ _ _ _ _ hx55 _ _
  refine r_aast (ti := 4) (ci := 3) dX6_init_155 (by decide) rfl rfl rfl (m_in_of (by decide)) ?_
  change MW G mX6_init _ _ _ _ _ _ hx56 _ _
  refine r_iinc (y := 1) dX6_init_156 rfl (by decide) (by decide) (L' := [.ref 0, .int 6]) rfl ?_
  refine r_goto (tgt := 137) dX6_init_159 (by decide) ?_
  refine r_iload_n dX6_init_137 rfl rfl ?_
  refine r_bipush (x := 8) dX6_init_138 (by decide) ?_
  refine r_icmp_ge (tgt := 162) dX6_init_140 (by decide) (fun hz => absurd hz (by decide)) (fun _ => ?_)
  refine r_aload_n dX6_init_143 rfl rfl ?_
  refine r_getr (b := 2) dX6_init_144 flX6_19 rfl rfl (by decide +kernel) ?_
  refine r_iload_n dX6_init_147 rfl rfl ?_
  refine r_newN (ci := 3) (n := 62) dX6_init_148 (by decide) klX6_17 kn_3 ki_3 rfl (by decide) (Nat.le_of_ble_eq_true rfl) (Nat.le_of_ble_eq_true rfl) ?_
  change MW G mX6_init _ _ _ _ _ _ hx57 _ _
  refine r_dup dX6_init_151 ?_
  refine r_callI (rest := [.ref 62, .int 6, .ref 2]) (c_X3_init (a := 62) (n := 63) rfl rfl (by decide)) dX6_init_152 lkX6_72 rfl rfl (Nat.le_of_ble_eq_true rfl) (by decide) (Nat.le_of_ble_eq_true rfl) (Nat.le_of_ble_eq_true rfl) ?_
  change MW G mX6_init _ _ _ _ _ _ hx58 _ _
  refine r_aast (ti := 4) (ci := 3) dX6_init_155 (by decide) rfl rfl rfl (m_in_of (by decide)) ?_
  change MW G mX6_init _ _ _ _ _ _ hx59 _ _
  refine r_iinc (y := 1) dX6_init_156 rfl (by decide) (by decide) (L' := [.ref 0, .int 7]) rfl ?_
  refine r_goto (tgt := 137) dX6_init_159 (by decide) ?_
  refine r_iload_n dX6_init_137 rfl rfl ?_
  refine r_bipush (x := 8) dX6_init_138 (by decide) ?_
  refine r_icmp_ge (tgt := 162) dX6_init_140 (by decide) (fun hz => absurd hz (by decide)) (fun _ => ?_)
  refine r_aload_n dX6_init_143 rfl rfl ?_
  refine r_getr (b := 2) dX6_init_144 flX6_19 rfl rfl (by decide +kernel) ?_
  refine r_iload_n dX6_init_147 rfl rfl ?_
  refine r_newN (ci := 3) (n := 63) dX6_init_148 (by decide) klX6_17 kn_3 ki_3 rfl (by decide) (Nat.le_of_ble_eq_true rfl) (Nat.le_of_ble_eq_true rfl) ?_
  change MW G mX6_init _ _ _ _ _ _ hx60 _ _
  refine r_dup dX6_init_151 ?_
  refine r_callI (rest := [.ref 63, .int 7, .ref 2]) (c_X3_init (a := 63) (n := 64) rfl rfl (by decide)) dX6_init_152 lkX6_72 rfl rfl (Nat.le_of_ble_eq_true rfl) (by decide) (Nat.le_of_ble_eq_true rfl) (Nat.le_of_ble_eq_true rfl) ?_
  change MW G mX6_init _ _ _ _ _ _ hx61 _ _
  refine r_aast (ti := 4) (ci := 3) dX6_init_155 (by decide) rfl rfl rfl (m_in_of (by decide)) ?_
  change MW G mX6_init _ _ _ _ _ _ hx62 _ _
  refine r_iinc (y := 1) dX6_init_156 rfl (by decide) (by decide) (L' := [.ref 0, .int 8]) rfl ?_
  refine r_goto (tgt := 137) dX6_init_159 (by decide) ?_
  refine r_iload_n dX6_init_137 rfl rfl ?_
  refine r_bipush (x := 8) dX6_init_138 (by decide) ?_
  refine r_icmp_ge (tgt := 162) dX6_init_140 (by decide) (fun _ => ?_) (fun hz => absurd (by decide) hz)
  exact r_ret dX6_init_162 rfl rfl
def hm0 : mH := m_new hx62 (.inl 7)
def hm1 : mH := m_new hm0 (.inr (0, 4))
def hm2 : mH := hpr hm1 64 2 65
def hm3 : mH := m_new hm2 (.inr (0, 4))
def hm4 : mH := hpr hm3 64 3 66
def hm5 : mH := m_new hm4 (.inr (0, 4))
def hm6 : mH := hpr hm5 64 4 67
def hm7 : mH := m_new hm6 (.inr (0, 24))
def hm8 : mH := hpr hm7 64 5 68
def hm9 : mH := m_new hm8 (.inr (0, 24))
def hm10 : mH := hpr hm9 64 6 69
def hm11 : mH := m_new hm10 (.inr (0, 24))
def hm12 : mH := hpr hm11 64 7 70
def hm13 : mH := m_new hm12 (.inr (0, 24))
def hm14 : mH := hpr hm13 64 8 71
def hm15 : mH := m_new hm14 (.inr (0, 24))
def hm16 : mH := hpr hm15 64 9 72
def hm17 : mH := m_new hm16 (.inr (0, 24))
def hm18 : mH := hpr hm17 64 10 73
def hm19 : mH := m_new hm18 (.inr (0, 20))
def hm20 : mH := hpr hm19 64 11 74
def hm21 : mH := m_new hm20 (.inr (0, 20))
def hm22 : mH := hpr hm21 64 12 75
def hm23 : mH := m_new hm22 (.inr (0, 288))
def hm24 : mH := hpr hm23 64 14 76
def hm25 : mH := m_new hm24 (.inr (0, 288))
def hm26 : mH := hpr hm25 64 15 77
def hm27 : mH := m_new hm26 (.inr (0, 288))
def hm28 : mH := hpr hm27 64 17 78
def hm29 : mH := m_new hm28 (.inr (0, 6))
def hm30 : mH := hpr hm29 64 18 79
def hm31 : mH := m_new hm30 (.inr (0, 8))
def hm32 : mH := hpr hm31 64 21 80
def hm33 : mH := m_new hm32 (.inr (0, 8))
def hm34 : mH := hpr hm33 64 22 81
def hm35 : mH := m_new hm34 (.inr (0, 8))
def hm36 : mH := hpr hm35 64 23 82
def hm37 : mH := m_new hm36 (.inr (0, 8))
def hm38 : mH := hpr hm37 64 24 83
def hm39 : mH := m_new hm38 (.inr (0, 8))
def hm40 : mH := hpr hm39 64 25 84
def hm41 : mH := m_new hm40 (.inr (0, 8))
def hm42 : mH := hpr hm41 64 26 85
def hm43 : mH := m_new hm42 (.inr (1, 8))
def hm44 : mH := hpr hm43 64 27 86
def hm45 : mH := m_new hm44 (.inr (0, 288))
def hm46 : mH := hpr hm45 64 28 87
def hm47 : mH := m_new hm46 (.inr (0, 6))
def hm48 : mH := hpr hm47 64 29 88
def hm49 : mH := m_new hm48 (.inr (0, 6))
def hm50 : mH := hpr hm49 64 30 89
set_option maxRecDepth 100000 in
set_option maxHeartbeats 4000000 in
theorem c_X7_init {G : mG} : MC G mX7_init 3 25 1422 [.ref 64] hm0 none hm50 := by
  refine MC_intro mlX7_init (Nat.le_of_ble_eq_true rfl) rfl rfl trivial ?_
  refine r_aload_n dX7_init_0 rfl rfl ?_
  refine r_obj dX7_init_1 lkX7_3 wI_obj wC_obj (Nat.le_of_ble_eq_true rfl) (by decide) ?_
  refine r_aload_n dX7_init_4 rfl rfl ?_
  refine r_iconst (x := 4) dX7_init_5 (by decide) ?_
  refine r_newaN (N := 4) (ti := 0) (nn := 65) dX7_init_6 (by decide) rfl ka_0 (by decide) (by decide) (by decide) rfl (by decide) (Nat.le_of_ble_eq_true rfl) (Nat.le_of_ble_eq_true rfl) ?_
  change MW G mX7_init _ _ _ _ _ _ hm1 _ _
  refine r_putr dX7_init_8 flX7_9 (Or.inr ⟨rfl, rfl⟩) rfl rfl ?_
  change MW G mX7_init _ _ _ _ _ _ hm2 _ _
  refine r_aload_n dX7_init_11 rfl rfl ?_
  refine r_iconst (x := 4) dX7_init_12 (by decide) ?_
  refine r_newaN (N := 4) (ti := 0) (nn := 66) dX7_init_13 (by decide) rfl ka_0 (by decide) (by decide) (by decide) rfl (by decide) (Nat.le_of_ble_eq_true rfl) (Nat.le_of_ble_eq_true rfl) ?_
  change MW G mX7_init _ _ _ _ _ _ hm3 _ _
  refine r_putr dX7_init_15 flX7_15 (Or.inr ⟨rfl, rfl⟩) rfl rfl ?_
  change MW G mX7_init _ _ _ _ _ _ hm4 _ _
  refine r_aload_n dX7_init_18 rfl rfl ?_
  refine r_iconst (x := 4) dX7_init_19 (by decide) ?_
  refine r_newaN (N := 4) (ti := 0) (nn := 67) dX7_init_20 (by decide) rfl ka_0 (by decide) (by decide) (by decide) rfl (by decide) (Nat.le_of_ble_eq_true rfl) (Nat.le_of_ble_eq_true rfl) ?_
  change MW G mX7_init _ _ _ _ _ _ hm5 _ _
  refine r_putr dX7_init_22 flX7_18 (Or.inr ⟨rfl, rfl⟩) rfl rfl ?_
  change MW G mX7_init _ _ _ _ _ _ hm6 _ _
  refine r_aload_n dX7_init_25 rfl rfl ?_
  refine r_bipush (x := 24) dX7_init_26 (by decide) ?_
  refine r_newaN (N := 24) (ti := 0) (nn := 68) dX7_init_28 (by decide) rfl ka_0 (by decide) (by decide) (by decide) rfl (by decide) (Nat.le_of_ble_eq_true rfl) (Nat.le_of_ble_eq_true rfl) ?_
  change MW G mX7_init _ _ _ _ _ _ hm7 _ _
  refine r_putr dX7_init_30 flX7_21 (Or.inr ⟨rfl, rfl⟩) rfl rfl ?_
  change MW G mX7_init _ _ _ _ _ _ hm8 _ _
  refine r_aload_n dX7_init_33 rfl rfl ?_
  refine r_bipush (x := 24) dX7_init_34 (by decide) ?_
  refine r_newaN (N := 24) (ti := 0) (nn := 69) dX7_init_36 (by decide) rfl ka_0 (by decide) (by decide) (by decide) rfl (by decide) (Nat.le_of_ble_eq_true rfl) (Nat.le_of_ble_eq_true rfl) ?_
  change MW G mX7_init _ _ _ _ _ _ hm9 _ _
  refine r_putr dX7_init_38 flX7_24 (Or.inr ⟨rfl, rfl⟩) rfl rfl ?_
  change MW G mX7_init _ _ _ _ _ _ hm10 _ _
  refine r_aload_n dX7_init_41 rfl rfl ?_
  refine r_bipush (x := 24) dX7_init_42 (by decide) ?_
  refine r_newaN (N := 24) (ti := 0) (nn := 70) dX7_init_44 (by decide) rfl ka_0 (by decide) (by decide) (by decide) rfl (by decide) (Nat.le_of_ble_eq_true rfl) (Nat.le_of_ble_eq_true rfl) ?_
  change MW G mX7_init _ _ _ _ _ _ hm11 _ _
  refine r_putr dX7_init_46 flX7_27 (Or.inr ⟨rfl, rfl⟩) rfl rfl ?_
  change MW G mX7_init _ _ _ _ _ _ hm12 _ _
  refine r_aload_n dX7_init_49 rfl rfl ?_
  refine r_bipush (x := 24) dX7_init_50 (by decide) ?_
  refine r_newaN (N := 24) (ti := 0) (nn := 71) dX7_init_52 (by decide) rfl ka_0 (by decide) (by decide) (by decide) rfl (by decide) (Nat.le_of_ble_eq_true rfl) (Nat.le_of_ble_eq_true rfl) ?_
  change MW G mX7_init _ _ _ _ _ _ hm13 _ _
  refine r_putr dX7_init_54 flX7_30 (Or.inr ⟨rfl, rfl⟩) rfl rfl ?_
  change MW G mX7_init _ _ _ _ _ _ hm14 _ _
  refine r_aload_n dX7_init_57 rfl rfl ?_
  refine r_bipush (x := 24) dX7_init_58 (by decide) ?_
  refine r_newaN (N := 24) (ti := 0) (nn := 72) dX7_init_60 (by decide) rfl ka_0 (by decide) (by decide) (by decide) rfl (by decide) (Nat.le_of_ble_eq_true rfl) (Nat.le_of_ble_eq_true rfl) ?_
  change MW G mX7_init _ _ _ _ _ _ hm15 _ _
  refine r_putr dX7_init_62 flX7_33 (Or.inr ⟨rfl, rfl⟩) rfl rfl ?_
  change MW G mX7_init _ _ _ _ _ _ hm16 _ _
  refine r_aload_n dX7_init_65 rfl rfl ?_
  refine r_bipush (x := 24) dX7_init_66 (by decide) ?_
  refine r_newaN (N := 24) (ti := 0) (nn := 73) dX7_init_68 (by decide) rfl ka_0 (by decide) (by decide) (by decide) rfl (by decide) (Nat.le_of_ble_eq_true rfl) (Nat.le_of_ble_eq_true rfl) ?_
  change MW G mX7_init _ _ _ _ _ _ hm17 _ _
  refine r_putr dX7_init_70 flX7_36 (Or.inr ⟨rfl, rfl⟩) rfl rfl ?_
  change MW G mX7_init _ _ _ _ _ _ hm18 _ _
  refine r_aload_n dX7_init_73 rfl rfl ?_
  refine r_bipush (x := 20) dX7_init_74 (by decide) ?_
  refine r_newaN (N := 20) (ti := 0) (nn := 74) dX7_init_76 (by decide) rfl ka_0 (by decide) (by decide) (by decide) rfl (by decide) (Nat.le_of_ble_eq_true rfl) (Nat.le_of_ble_eq_true rfl) ?_
  change MW G mX7_init _ _ _ _ _ _ hm19 _ _
  refine r_putr dX7_init_78 flX7_39 (Or.inr ⟨rfl, rfl⟩) rfl rfl ?_
  change MW G mX7_init _ _ _ _ _ _ hm20 _ _
  refine r_aload_n dX7_init_81 rfl rfl ?_
  refine r_bipush (x := 20) dX7_init_82 (by decide) ?_
  refine r_newaN (N := 20) (ti := 0) (nn := 75) dX7_init_84 (by decide) rfl ka_0 (by decide) (by decide) (by decide) rfl (by decide) (Nat.le_of_ble_eq_true rfl) (Nat.le_of_ble_eq_true rfl) ?_
  change MW G mX7_init _ _ _ _ _ _ hm21 _ _
  refine r_putr dX7_init_86 flX7_42 (Or.inr ⟨rfl, rfl⟩) rfl rfl ?_
  change MW G mX7_init _ _ _ _ _ _ hm22 _ _
  refine r_aload_n dX7_init_89 rfl rfl ?_
  refine r_sipush (x := 288) dX7_init_90 (by decide) ?_
  refine r_newaN (N := 288) (ti := 0) (nn := 76) dX7_init_93 (by decide) rfl ka_0 (by decide) (by decide) (by decide) rfl (by decide) (Nat.le_of_ble_eq_true rfl) (Nat.le_of_ble_eq_true rfl) ?_
  change MW G mX7_init _ _ _ _ _ _ hm23 _ _
  refine r_putr dX7_init_95 flX7_45 (Or.inr ⟨rfl, rfl⟩) rfl rfl ?_
  change MW G mX7_init _ _ _ _ _ _ hm24 _ _
  refine r_aload_n dX7_init_98 rfl rfl ?_
  refine r_sipush (x := 288) dX7_init_99 (by decide) ?_
  refine r_newaN (N := 288) (ti := 0) (nn := 77) dX7_init_102 (by decide) rfl ka_0 (by decide) (by decide) (by decide) rfl (by decide) (Nat.le_of_ble_eq_true rfl) (Nat.le_of_ble_eq_true rfl) ?_
  change MW G mX7_init _ _ _ _ _ _ hm25 _ _
  refine r_putr dX7_init_104 flX7_48 (Or.inr ⟨rfl, rfl⟩) rfl rfl ?_
  change MW G mX7_init _ _ _ _ _ _ hm26 _ _
  refine r_aload_n dX7_init_107 rfl rfl ?_
  refine r_sipush (x := 288) dX7_init_108 (by decide) ?_
  refine r_newaN (N := 288) (ti := 0) (nn := 78) dX7_init_111 (by decide) rfl ka_0 (by decide) (by decide) (by decide) rfl (by decide) (Nat.le_of_ble_eq_true rfl) (Nat.le_of_ble_eq_true rfl) ?_
  change MW G mX7_init _ _ _ _ _ _ hm27 _ _
  refine r_putr dX7_init_113 flX7_51 (Or.inr ⟨rfl, rfl⟩) rfl rfl ?_
  change MW G mX7_init _ _ _ _ _ _ hm28 _ _
  refine r_aload_n dX7_init_116 rfl rfl ?_
  refine r_bipush (x := 6) dX7_init_117 (by decide) ?_
  refine r_newaN (N := 6) (ti := 0) (nn := 79) dX7_init_119 (by decide) rfl ka_0 (by decide) (by decide) (by decide) rfl (by decide) (Nat.le_of_ble_eq_true rfl) (Nat.le_of_ble_eq_true rfl) ?_
  change MW G mX7_init _ _ _ _ _ _ hm29 _ _
  refine r_putr dX7_init_121 flX7_54 (Or.inr ⟨rfl, rfl⟩) rfl rfl ?_
  change MW G mX7_init _ _ _ _ _ _ hm30 _ _
  refine r_aload_n dX7_init_124 rfl rfl ?_
  refine r_bipush (x := 8) dX7_init_125 (by decide) ?_
  refine r_newaN (N := 8) (ti := 0) (nn := 80) dX7_init_127 (by decide) rfl ka_0 (by decide) (by decide) (by decide) rfl (by decide) (Nat.le_of_ble_eq_true rfl) (Nat.le_of_ble_eq_true rfl) ?_
  change MW G mX7_init _ _ _ _ _ _ hm31 _ _
  refine r_putr dX7_init_129 flX7_57 (Or.inr ⟨rfl, rfl⟩) rfl rfl ?_
  change MW G mX7_init _ _ _ _ _ _ hm32 _ _
  refine r_aload_n dX7_init_132 rfl rfl ?_
  refine r_bipush (x := 8) dX7_init_133 (by decide) ?_
  refine r_newaN (N := 8) (ti := 0) (nn := 81) dX7_init_135 (by decide) rfl ka_0 (by decide) (by decide) (by decide) rfl (by decide) (Nat.le_of_ble_eq_true rfl) (Nat.le_of_ble_eq_true rfl) ?_
  change MW G mX7_init _ _ _ _ _ _ hm33 _ _
  refine r_putr dX7_init_137 flX7_60 (Or.inr ⟨rfl, rfl⟩) rfl rfl ?_
  change MW G mX7_init _ _ _ _ _ _ hm34 _ _
  refine r_aload_n dX7_init_140 rfl rfl ?_
  refine r_bipush (x := 8) dX7_init_141 (by decide) ?_
  refine r_newaN (N := 8) (ti := 0) (nn := 82) dX7_init_143 (by decide) rfl ka_0 (by decide) (by decide) (by decide) rfl (by decide) (Nat.le_of_ble_eq_true rfl) (Nat.le_of_ble_eq_true rfl) ?_
  change MW G mX7_init _ _ _ _ _ _ hm35 _ _
  refine r_putr dX7_init_145 flX7_63 (Or.inr ⟨rfl, rfl⟩) rfl rfl ?_
  change MW G mX7_init _ _ _ _ _ _ hm36 _ _
  refine r_aload_n dX7_init_148 rfl rfl ?_
  refine r_bipush (x := 8) dX7_init_149 (by decide) ?_
  refine r_newaN (N := 8) (ti := 0) (nn := 83) dX7_init_151 (by decide) rfl ka_0 (by decide) (by decide) (by decide) rfl (by decide) (Nat.le_of_ble_eq_true rfl) (Nat.le_of_ble_eq_true rfl) ?_
  change MW G mX7_init _ _ _ _ _ _ hm37 _ _
  refine r_putr dX7_init_153 flX7_66 (Or.inr ⟨rfl, rfl⟩) rfl rfl ?_
  change MW G mX7_init _ _ _ _ _ _ hm38 _ _
  refine r_aload_n dX7_init_156 rfl rfl ?_
  refine r_bipush (x := 8) dX7_init_157 (by decide) ?_
  refine r_newaN (N := 8) (ti := 0) (nn := 84) dX7_init_159 (by decide) rfl ka_0 (by decide) (by decide) (by decide) rfl (by decide) (Nat.le_of_ble_eq_true rfl) (Nat.le_of_ble_eq_true rfl) ?_
  change MW G mX7_init _ _ _ _ _ _ hm39 _ _
  refine r_putr dX7_init_161 flX7_69 (Or.inr ⟨rfl, rfl⟩) rfl rfl ?_
  change MW G mX7_init _ _ _ _ _ _ hm40 _ _
  refine r_aload_n dX7_init_164 rfl rfl ?_
  refine r_bipush (x := 8) dX7_init_165 (by decide) ?_
  refine r_newaN (N := 8) (ti := 0) (nn := 85) dX7_init_167 (by decide) rfl ka_0 (by decide) (by decide) (by decide) rfl (by decide) (Nat.le_of_ble_eq_true rfl) (Nat.le_of_ble_eq_true rfl) ?_
  change MW G mX7_init _ _ _ _ _ _ hm41 _ _
  refine r_putr dX7_init_169 flX7_72 (Or.inr ⟨rfl, rfl⟩) rfl rfl ?_
  change MW G mX7_init _ _ _ _ _ _ hm42 _ _
  refine r_aload_n dX7_init_172 rfl rfl ?_
  refine r_bipush (x := 8) dX7_init_173 (by decide) ?_
  refine r_newaN (N := 8) (ti := 1) (nn := 86) dX7_init_175 (by decide) rfl ka_1 (by decide) (by decide) (by decide) rfl (by decide) (Nat.le_of_ble_eq_true rfl) (Nat.le_of_ble_eq_true rfl) ?_
  change MW G mX7_init _ _ _ _ _ _ hm43 _ _
  refine r_putr dX7_init_177 flX7_75 (Or.inr ⟨rfl, rfl⟩) rfl rfl ?_
  change MW G mX7_init _ _ _ _ _ _ hm44 _ _
  refine r_aload_n dX7_init_180 rfl rfl ?_
  refine r_sipush (x := 288) dX7_init_181 (by decide) ?_
  refine r_newaN (N := 288) (ti := 0) (nn := 87) dX7_init_184 (by decide) rfl ka_0 (by decide) (by decide) (by decide) rfl (by decide) (Nat.le_of_ble_eq_true rfl) (Nat.le_of_ble_eq_true rfl) ?_
  change MW G mX7_init _ _ _ _ _ _ hm45 _ _
  refine r_putr dX7_init_186 flX7_79 (Or.inr ⟨rfl, rfl⟩) rfl rfl ?_
  change MW G mX7_init _ _ _ _ _ _ hm46 _ _
  refine r_aload_n dX7_init_189 rfl rfl ?_
  refine r_bipush (x := 6) dX7_init_190 (by decide) ?_
  refine r_newaN (N := 6) (ti := 0) (nn := 88) dX7_init_192 (by decide) rfl ka_0 (by decide) (by decide) (by decide) rfl (by decide) (Nat.le_of_ble_eq_true rfl) (Nat.le_of_ble_eq_true rfl) ?_
  change MW G mX7_init _ _ _ _ _ _ hm47 _ _
  refine r_putr dX7_init_194 flX7_82 (Or.inr ⟨rfl, rfl⟩) rfl rfl ?_
  change MW G mX7_init _ _ _ _ _ _ hm48 _ _
  refine r_aload_n dX7_init_197 rfl rfl ?_
  refine r_bipush (x := 6) dX7_init_198 (by decide) ?_
  refine r_newaN (N := 6) (ti := 0) (nn := 89) dX7_init_200 (by decide) rfl ka_0 (by decide) (by decide) (by decide) rfl (by decide) (Nat.le_of_ble_eq_true rfl) (Nat.le_of_ble_eq_true rfl) ?_
  change MW G mX7_init _ _ _ _ _ _ hm49 _ _
  refine r_putr dX7_init_202 flX7_85 (Or.inr ⟨rfl, rfl⟩) rfl rfl ?_
  change MW G mX7_init _ _ _ _ _ _ hm50 _ _
  exact r_ret dX7_init_205 rfl rfl
/-- the heap behind both constructors -/
def m_h0 : mH := hm50
end
section
/-! ===== the standing heap, and rows over it (written by wip/whole/mkheap.py) ===== -/
def m_S0 : List mSh := [.inl 6, .inr (3, 4), .inr (4, 8), .inr (0, 6), .inl 1, .inr (0, 288), .inl 2, .inl 5, .inr (0, 6), .inr (0, 24), .inr (0, 288), .inr (0, 12), .inl 1, .inr (0, 288), .inl 1, .inr (0, 288), .inl 4, .inr (2, 6), .inr (0, 5), .inr (0, 5), .inl 0, .inl 0, .inl 0, .inl 0, .inl 0, .inl 0, .inl 4, .inr (2, 6), .inr (0, 5), .inr (0, 5), .inl 0, .inl 0, .inl 0, .inl 0, .inl 0, .inl 0, .inl 4, .inr (2, 6), .inr (0, 5), .inr (0, 5), .inl 0, .inl 0, .inl 0, .inl 0, .inl 0, .inl 0, .inl 4, .inr (2, 6), .inr (0, 5), .inr (0, 5), .inl 0, .inl 0, .inl 0, .inl 0, .inl 0, .inl 0, .inl 3, .inl 3, .inl 3, .inl 3, .inl 3, .inl 3, .inl 3, .inl 3, .inl 7, .inr (0, 4), .inr (0, 4), .inr (0, 4), .inr (0, 24), .inr (0, 24), .inr (0, 24), .inr (0, 24), .inr (0, 24), .inr (0, 24), .inr (0, 20), .inr (0, 20), .inr (0, 288), .inr (0, 288), .inr (0, 288), .inr (0, 6), .inr (0, 8), .inr (0, 8), .inr (0, 8), .inr (0, 8), .inr (0, 8), .inr (0, 8), .inr (1, 8), .inr (0, 288), .inr (0, 6), .inr (0, 6)]
theorem m_S0_eq : m_h0.1 = m_S0 := by decide +kernel
/-- where made and draft are -/
def m_pM (b : Bool) : Nat := bif b then 14 else 12
def m_pD (b : Bool) : Nat := bif b then 12 else 14
def m_fr (b : Bool) : Nat → Nat → Option Nat := m_up (m_up m_h0.2.2 0 6 (some (m_pM b))) 0 7 (some (m_pD b))
abbrev m_h (g : Nat → Nat → Int32) (b : Bool) : mH := (m_S0, g, m_fr b)
theorem m_up_id {α : Type} {g : Nat → Nat → α} {a k : Nat} {x : α} (h : g a k = x) : m_up g a k x = g := by
  funext a' k'
  unfold m_up
  by_cases ha : a' = a
  · subst ha
    rw [if_pos rfl]
    unfold va_up
    by_cases hk : k' = k
    · subst hk; rw [if_pos rfl, h]
    · rw [if_neg hk]
  · rw [if_neg ha]
theorem m_fr_false : m_fr false = m_h0.2.2 := by
  unfold m_fr
  rw [m_up_id (g := m_h0.2.2) (a := 0) (k := 6) (x := some (m_pM false)) (by decide +kernel)]
  exact m_up_id (by decide +kernel)
theorem m_h0_eq : m_h0 = m_h m_h0.2.1 false := by
  show m_h0 = (m_S0, m_h0.2.1, m_fr false)
  rw [m_fr_false, ← m_S0_eq]
theorem m_swap {g : Nat → Nat → Int32} {b : Bool} : ((m_S0, g, m_up (m_up (m_fr b) 0 6 (some (m_pD b))) 0 7 (some (m_pM b))) : mH) = m_h g (!b) := by
  show _ = ((m_S0, g, m_fr (!b)) : mH)
  have h : m_up (m_up (m_fr b) 0 6 (some (m_pD b))) 0 7 (some (m_pM b)) = m_fr (!b) := by
    have e1 : m_pM (!b) = m_pD b := by cases b <;> rfl
    have e2 : m_pD (!b) = m_pM b := by cases b <;> rfl
    unfold m_fr
    rw [e1, e2]
    funext a k
    by_cases ha : a = 0
    · subst ha
      by_cases h7 : k = 7
      · simp [m_up, va_up, h7]
      · by_cases h6 : k = 6
        · simp [m_up, va_up, h6]
        · simp [m_up, va_up, h6, h7]
    · simp [m_up, ha]
  rw [h]
theorem m_fr_0_0 (b : Bool) : m_fr b 0 0 = some 1 := by cases b <;> decide +kernel
theorem m_fr_0_1 (b : Bool) : m_fr b 0 1 = some 2 := by cases b <;> decide +kernel
theorem m_fr_0_2 (b : Bool) : m_fr b 0 2 = some 3 := by cases b <;> decide +kernel
theorem m_fr_0_3 (b : Bool) : m_fr b 0 3 = some 4 := by cases b <;> decide +kernel
theorem m_fr_0_4 (b : Bool) : m_fr b 0 4 = some 6 := by cases b <;> decide +kernel
theorem m_fr_0_5 (b : Bool) : m_fr b 0 5 = some 7 := by cases b <;> decide +kernel
theorem m_fr_0_6 (b : Bool) : m_fr b 0 6 = some (m_pM b) := by cases b <;> decide +kernel
theorem m_fr_0_7 (b : Bool) : m_fr b 0 7 = some (m_pD b) := by cases b <;> decide +kernel
theorem m_fr_7_0 (b : Bool) : m_fr b 7 0 = some 8 := by cases b <;> decide +kernel
theorem m_fr_7_1 (b : Bool) : m_fr b 7 1 = some 9 := by cases b <;> decide +kernel
theorem m_fr_7_2 (b : Bool) : m_fr b 7 2 = some 10 := by cases b <;> decide +kernel
theorem m_fr_7_3 (b : Bool) : m_fr b 7 3 = some 11 := by cases b <;> decide +kernel
theorem m_fr_64_2 (b : Bool) : m_fr b 64 2 = some 65 := by cases b <;> decide +kernel
theorem m_fr_64_3 (b : Bool) : m_fr b 64 3 = some 66 := by cases b <;> decide +kernel
theorem m_fr_64_4 (b : Bool) : m_fr b 64 4 = some 67 := by cases b <;> decide +kernel
theorem m_fr_64_5 (b : Bool) : m_fr b 64 5 = some 68 := by cases b <;> decide +kernel
theorem m_fr_64_6 (b : Bool) : m_fr b 64 6 = some 69 := by cases b <;> decide +kernel
theorem m_fr_64_7 (b : Bool) : m_fr b 64 7 = some 70 := by cases b <;> decide +kernel
theorem m_fr_64_8 (b : Bool) : m_fr b 64 8 = some 71 := by cases b <;> decide +kernel
theorem m_fr_64_9 (b : Bool) : m_fr b 64 9 = some 72 := by cases b <;> decide +kernel
theorem m_fr_64_10 (b : Bool) : m_fr b 64 10 = some 73 := by cases b <;> decide +kernel
theorem m_fr_64_11 (b : Bool) : m_fr b 64 11 = some 74 := by cases b <;> decide +kernel
theorem m_fr_64_12 (b : Bool) : m_fr b 64 12 = some 75 := by cases b <;> decide +kernel
theorem m_fr_64_14 (b : Bool) : m_fr b 64 14 = some 76 := by cases b <;> decide +kernel
theorem m_fr_64_15 (b : Bool) : m_fr b 64 15 = some 77 := by cases b <;> decide +kernel
theorem m_fr_64_17 (b : Bool) : m_fr b 64 17 = some 78 := by cases b <;> decide +kernel
theorem m_fr_64_18 (b : Bool) : m_fr b 64 18 = some 79 := by cases b <;> decide +kernel
theorem m_fr_64_21 (b : Bool) : m_fr b 64 21 = some 80 := by cases b <;> decide +kernel
theorem m_fr_64_22 (b : Bool) : m_fr b 64 22 = some 81 := by cases b <;> decide +kernel
theorem m_fr_64_23 (b : Bool) : m_fr b 64 23 = some 82 := by cases b <;> decide +kernel
theorem m_fr_64_24 (b : Bool) : m_fr b 64 24 = some 83 := by cases b <;> decide +kernel
theorem m_fr_64_25 (b : Bool) : m_fr b 64 25 = some 84 := by cases b <;> decide +kernel
theorem m_fr_64_26 (b : Bool) : m_fr b 64 26 = some 85 := by cases b <;> decide +kernel
theorem m_fr_64_27 (b : Bool) : m_fr b 64 27 = some 86 := by cases b <;> decide +kernel
theorem m_fr_64_28 (b : Bool) : m_fr b 64 28 = some 87 := by cases b <;> decide +kernel
theorem m_fr_64_29 (b : Bool) : m_fr b 64 29 = some 88 := by cases b <;> decide +kernel
theorem m_fr_64_30 (b : Bool) : m_fr b 64 30 = some 89 := by cases b <;> decide +kernel
def m_len (ti a : Nat) : Option Nat := match m_S0[a]? with
  | some (.inr (t, n)) => if t = ti then some n else none
  | _ => none
theorem m_len_s {ti a n : Nat} (h : m_len ti a = some n) : m_S0[a]? = some (.inr (ti, n)) := by
  unfold m_len at h
  split at h
  · next t n' e =>
    split at h
    · next ht => cases h; rw [e, ht]
    · cases h
  · cases h
def m_bi (z : Bool) : Int32 := bif z then 1 else 0
theorem m_bi01 (z : Bool) : m_bi z = 0 ∨ m_bi z = 1 := by cases z; exact Or.inl rfl; exact Or.inr rfl
theorem m_okZ (z : Bool) : m_okR (some .boolean) (some (.int (m_bi z))) := by cases z; exact Or.inl rfl; exact Or.inr rfl
theorem m_okO {C : String} (o : Option Nat) : m_okR (some (.object C)) (some (va_rf o)) := by cases o; exact Or.inl rfl; exact Or.inr ⟨_, rfl⟩
def m_rem (x y : Int32) : Int32 := x - x / y * y
def m_shl (x y : Int32) : Int32 := x <<< (y &&& 31)
def m_shr (x y : Int32) : Int32 := x >>> (y &&& 31)
def m_min (x y : Int32) : Int32 := if y < x then y else x
def m_abs (x : Int32) : Int32 := if 0 ≤ x then x else 0 - x
def m_ushr (x y : Int32) : Int32 := (x.toUInt32 >>> (y.toUInt32 &&& Int32.toUInt32 31)).toInt32
def m_oc {α : Type} (o : Option Nat) (A : Option α) (B : Nat → Option α) : Option α := match o with
  | none => A
  | some q => B q
theorem g_bd {α β : Type} {o : Option α} {f : α → Option β} {R : β} (e : o.bind f = some R) : ∃ v, o = some v ∧ f v = some R := by
  cases o with
  | none => cases e
  | some v => exact ⟨v, rfl, e⟩
theorem g_gd {α : Type} {c : Prop} [Decidable c] {A : Option α} {R : α} (e : (if c then A else none) = some R) : c ∧ A = some R := by
  by_cases h : c
  · rw [if_pos h] at e; exact ⟨h, e⟩
  · rw [if_neg h] at e; cases e
theorem g_iT {α : Type} {c : Prop} [Decidable c] {A B R : α} (h : c) (e : (if c then A else B) = R) : A = R := by rw [if_pos h] at e; exact e
theorem g_iF {α : Type} {c : Prop} [Decidable c] {A B R : α} (h : ¬ c) (e : (if c then A else B) = R) : B = R := by rw [if_neg h] at e; exact e
theorem g_cT {α : Type} {z : Bool} {A B R : α} (h : z = true) (e : (bif z then A else B) = R) : A = R := by subst h; exact e
theorem g_cF {α : Type} {z : Bool} {A B R : α} (h : z = false) (e : (bif z then A else B) = R) : B = R := by subst h; exact e
theorem g_oN {α : Type} {A : Option α} {B : Nat → Option α} {R : Option α} (e : m_oc none A B = R) : A = R := e
theorem g_oS {α : Type} {q : Nat} {A : Option α} {B : Nat → Option α} {R : Option α} (e : m_oc (some q) A B = R) : B q = R := e
section QR
variable {G : mG} {M : mM} {d rc rs pc : Nat} {L st : List Value} {h h' : mH} {r : Option Value} {g : Nat → Nat → Int32} {b : Bool} {fr : Nat → Nat → Option Nat}
theorem r_ifeqB {z : Bool} {off : Int} {tgt : Nat} (hd : decode M.2.1 pc = .ok (.ifCond .eq off, 3)) (ht : (pc : Int) + off = (tgt : Int)) (kt : z = false → MW G M d rc rs tgt L st h r h') (kf : z = true → MW G M d rc rs (pc + 3) L st h r h') : MW G M d rc rs pc L (.int (m_bi z) :: st) h r h' := by
  cases z with
  | false => exact r_if_eq hd ht (fun _ => kt rfl) (fun q => absurd rfl q)
  | true => exact r_if_eq hd ht (fun q => absurd q (by decide)) (fun _ => kf rfl)
theorem r_ifneB {z : Bool} {off : Int} {tgt : Nat} (hd : decode M.2.1 pc = .ok (.ifCond .ne off, 3)) (ht : (pc : Int) + off = (tgt : Int)) (kt : z = true → MW G M d rc rs tgt L st h r h') (kf : z = false → MW G M d rc rs (pc + 3) L st h r h') : MW G M d rc rs pc L (.int (m_bi z) :: st) h r h' := by
  cases z with
  | false => exact r_if_ne hd ht (fun q => absurd rfl q) (fun _ => kf rfl)
  | true => exact r_if_ne hd ht (fun _ => kt rfl) (fun q => absurd q (by decide))
theorem r_forget (i : Nat) {L' : List Value} (hL : L.set i (.retAddr 0) = L') (kk : MW G M d rc rs pc L' st h r h') : MW G M d rc rs pc L st h r h' := by
  subst hL
  intro p e R s m args below meth c H locs cells slots Q ls cx hP hS hl hc1 hc2 fin
  refine kk p e R s m args below meth c H locs cells slots Q ls cx hP hS ⟨hl.1, hl.2.1, fun q hq => ?_⟩ hc1 hc2 fin
  obtain ⟨j, w, e1, e2, rfl⟩ := m_lv_mem _ _ _ hq
  by_cases hji : j = i
  · subst hji
    have hlt : j < L.length := by
      have := (List.getElem?_eq_some_iff.mp e1).1
      rwa [List.length_set] at this
    rw [List.getElem?_set_self hlt] at e1
    cases e1
    exact absurd rfl (e2 0)
  · rw [List.getElem?_set_ne (Ne.symm hji)] at e1
    exact hl.2.2 _ (m_lv_in L 0 j w e1 e2)
theorem r_aloadO {i : Nat} {o : Option Nat} (hd : decode M.2.1 pc = .ok (.aload i, 2)) (hi : L[i]? = some (va_rf o)) (k : MW G M d rc rs (pc + 2) L (va_rf o :: st) h r h') : MW G M d rc rs pc L st h r h' := by
  cases o with
  | none => exact r_aloadN hd hi k
  | some a => exact r_aload hd hi k
theorem r_aload_nO {j : Fin 4} {i : Nat} {o : Option Nat} (hd : decode M.2.1 pc = .ok (.aload_n j, 1)) (hj : (j : Nat) = i) (hi : L[i]? = some (va_rf o)) (k : MW G M d rc rs (pc + 1) L (va_rf o :: st) h r h') : MW G M d rc rs pc L st h r h' := by
  cases o with
  | none => exact r_aload_nN hd hj hi k
  | some a => exact r_aload_n hd hj hi k
theorem r_astoreO {i : Nat} {o : Option Nat} {L' : List Value} (hd : decode M.2.1 pc = .ok (.astore i, 2)) (hn : i < M.2.2.1) (hL : L.set i (va_rf o) = L') (k : MW G M d rc rs (pc + 2) L' st h r h') : MW G M d rc rs pc L (va_rf o :: st) h r h' := by
  cases o with
  | none => exact r_astoreN hd hn hL k
  | some a => exact r_astore hd hn hL k
theorem r_astore_nO {j : Fin 4} {i : Nat} {o : Option Nat} {L' : List Value} (hd : decode M.2.1 pc = .ok (.astore_n j, 1)) (hj : (j : Nat) = i) (hn : i < M.2.2.1) (hL : L.set i (va_rf o) = L') (k : MW G M d rc rs (pc + 1) L' st h r h') : MW G M d rc rs pc L (va_rf o :: st) h r h' := by
  cases o with
  | none => exact r_astore_nN hd hj hn hL k
  | some a => exact r_astore_n hd hj hn hL k
theorem q_ishl {x y : Int32} (hd : decode M.2.1 pc = .ok (.ishl, 1)) (k : MW G M d rc rs (pc + 1) L (.int (m_shl x y) :: st) h r h') : MW G M d rc rs pc L (.int y :: .int x :: st) h r h' := r_ishl hd k
theorem q_ishr {x y : Int32} (hd : decode M.2.1 pc = .ok (.ishr, 1)) (k : MW G M d rc rs (pc + 1) L (.int (m_shr x y) :: st) h r h') : MW G M d rc rs pc L (.int y :: .int x :: st) h r h' := r_ishr hd k
theorem q_irem {x y : Int32} (hd : decode M.2.1 pc = .ok (.irem, 1)) (hne : ¬ y = 0) (k : MW G M d rc rs (pc + 1) L (.int (m_rem x y) :: st) h r h') : MW G M d rc rs pc L (.int y :: .int x :: st) h r h' := r_irem hd hne k
theorem q_min {idx : Nat} {x y : Int32} (hd : decode M.2.1 pc = .ok (.invokestatic idx, 3)) (h1 : Cond.methodLink M.1.cls idx Lib.Math.min.name ∈ m_tbl) (hr : st.length ≤ 8) (hdd : 1 ≤ d) (k : MW G M d rc rs (pc + 3) L (.int (m_min x y) :: st) h r h') : MW G M d rc rs pc L (.int y :: .int x :: st) h r h' := r_min hd h1 wS_min wI_Math wC_min hr hdd k
theorem q_abs {idx : Nat} {x : Int32} (hd : decode M.2.1 pc = .ok (.invokestatic idx, 3)) (h1 : Cond.methodLink M.1.cls idx Lib.Math.abs.name ∈ m_tbl) (hr : st.length ≤ 8) (hdd : 1 ≤ d) (k : MW G M d rc rs (pc + 3) L (.int (m_abs x) :: st) h r h') : MW G M d rc rs pc L (.int x :: st) h r h' := r_abs hd h1 wS_abs wI_Math wC_abs hr hdd k
theorem q_geti {idx ci k a : Nat} (hd : decode M.2.1 pc = .ok (.getfield idx, 3)) (hf : m_FL M.1.cls idx ci k) (ht : (m_ty ci k).isReference = false) (hs : m_S0[a]? = some (.inl ci)) (kk : MW G M d rc rs (pc + 3) L (.int (g a k) :: st) (m_S0, g, fr) r h') : MW G M d rc rs pc L (.ref a :: st) (m_S0, g, fr) r h' := r_geti hd hf ht hs kk
theorem q_getr {idx ci k a c : Nat} (hd : decode M.2.1 pc = .ok (.getfield idx, 3)) (hf : m_FL M.1.cls idx ci k) (ht : (m_ty ci k).isReference = true) (hs : m_S0[a]? = some (.inl ci)) (hb : fr a k = some c) (kk : MW G M d rc rs (pc + 3) L (.ref c :: st) (m_S0, g, fr) r h') : MW G M d rc rs pc L (.ref a :: st) (m_S0, g, fr) r h' := r_getr hd hf ht hs hb kk
theorem q_puti {idx ci k a : Nat} {x : Int32} (hd : decode M.2.1 pc = .ok (.putfield idx, 3)) (hf : m_FL M.1.cls idx ci k) (hfin : (m_T ci k).2.2.2 = false ∨ ((m_T ci k).1 = M.1.cls ∧ M.1.name = "<init>")) (ht : m_okI (m_ty ci k) x) (hs : m_S0[a]? = some (.inl ci)) (kk : MW G M d rc rs (pc + 3) L st (m_S0, m_up g a k x, fr) r h') : MW G M d rc rs pc L (.int x :: .ref a :: st) (m_S0, g, fr) r h' := r_puti hd hf hfin ht hs kk
theorem q_putr {idx ci k a c : Nat} (hd : decode M.2.1 pc = .ok (.putfield idx, 3)) (hf : m_FL M.1.cls idx ci k) (hfin : (m_T ci k).2.2.2 = false ∨ ((m_T ci k).1 = M.1.cls ∧ M.1.name = "<init>")) (ht : (m_ty ci k).isReference = true) (hs : m_S0[a]? = some (.inl ci)) (kk : MW G M d rc rs (pc + 3) L st (m_S0, g, m_up fr a k (some c)) r h') : MW G M d rc rs pc L (.ref c :: .ref a :: st) (m_S0, g, fr) r h' := r_putr hd hf hfin ht hs kk
theorem q_iald {a n : Nat} {i : Int32} (hd : decode M.2.1 pc = .ok (.iaload, 1)) (hs : m_S0[a]? = some (.inr (0, n))) (hin : m_in i n) (kk : MW G M d rc rs (pc + 1) L (.int (g a i.toNatClampNeg) :: st) (m_S0, g, fr) r h') : MW G M d rc rs pc L (.int i :: .ref a :: st) (m_S0, g, fr) r h' := r_iald hd hs hin kk
theorem q_zald {a n : Nat} {i : Int32} (hd : decode M.2.1 pc = .ok (.baload, 1)) (hs : m_S0[a]? = some (.inr (1, n))) (hin : m_in i n) (kk : MW G M d rc rs (pc + 1) L (.int (g a i.toNatClampNeg) :: st) (m_S0, g, fr) r h') : MW G M d rc rs pc L (.int i :: .ref a :: st) (m_S0, g, fr) r h' := r_zald hd hs hin kk
theorem q_iast {a n : Nat} {i x : Int32} (hd : decode M.2.1 pc = .ok (.iastore, 1)) (hs : m_S0[a]? = some (.inr (0, n))) (hin : m_in i n) (kk : MW G M d rc rs (pc + 1) L st (m_S0, m_up g a i.toNatClampNeg x, fr) r h') : MW G M d rc rs pc L (.int x :: .int i :: .ref a :: st) (m_S0, g, fr) r h' := r_iast hd hs hin kk
theorem q_zast {a n : Nat} {i x : Int32} (hd : decode M.2.1 pc = .ok (.bastore, 1)) (hs : m_S0[a]? = some (.inr (1, n))) (hin : m_in i n) (hx : x = 0 ∨ x = 1) (kk : MW G M d rc rs (pc + 1) L st (m_S0, m_up g a i.toNatClampNeg x, fr) r h') : MW G M d rc rs pc L (.int x :: .int i :: .ref a :: st) (m_S0, g, fr) r h' := r_zast hd hs hin hx kk
theorem q_aald {a n ti c : Nat} {i : Int32} (hd : decode M.2.1 pc = .ok (.aaload, 1)) (hti : ¬ ti < 2) (hs : m_S0[a]? = some (.inr (ti, n))) (hin : m_in i n) (hb : fr a i.toNatClampNeg = some c) (kk : MW G M d rc rs (pc + 1) L (.ref c :: st) (m_S0, g, fr) r h') : MW G M d rc rs pc L (.int i :: .ref a :: st) (m_S0, g, fr) r h' := r_aald hd hti hs hin hb kk
theorem q_callV {M' : mM} {d' idx n ci c : Nat} {As rest : List Value} {r1 : Option Value} {g1 : Nat → Nat → Int32} {b1 : Bool} (hC : MC G M' d' 0 0 (.ref c :: As) (m_h g b) r1 (m_h g1 b1)) (hd : decode M.2.1 pc = .ok (.invokevirtual idx, 3)) (hl : m_LV M.1.cls idx M' n) (hs : m_S0[c]? = some (.inl ci)) (hcl : m_R ci = M'.1.cls) (hn : As.length = n) (hst : As.reverse ++ .ref c :: rest = st) (hr : rest.length ≤ 8) (hdd : d' + 1 ≤ d)
    (kk : MW G M d rc rs (pc + 3) L (r1.toList ++ rest) (m_h g1 b1) r h') : MW G M d rc rs pc L st (m_h g b) r h' := r_callV hC hd hl hs hcl hn hst hr hdd (Nat.zero_le _) (Nat.zero_le _) kk
theorem q_callS {M' : mM} {d' idx n : Nat} {As rest : List Value} {r1 : Option Value} {g1 : Nat → Nat → Int32} {b1 : Bool} (hC : MC G M' d' 0 0 As (m_h g b) r1 (m_h g1 b1)) (hd : decode M.2.1 pc = .ok (.invokestatic idx, 3)) (hl : m_LS M.1.cls idx M' n) (hn : As.length = n) (hst : As.reverse ++ rest = st) (hr : rest.length ≤ 8) (hdd : d' + 1 ≤ d)
    (kk : MW G M d rc rs (pc + 3) L (r1.toList ++ rest) (m_h g1 b1) r h') : MW G M d rc rs pc L st (m_h g b) r h' := r_callS hC hd hl hn hst hr hdd (Nat.zero_le _) (Nat.zero_le _) kk
theorem q_iushr {x y : Int32} (hd : decode M.2.1 pc = .ok (.iushr, 1)) (k : MW G M d rc rs (pc + 1) L (.int (m_ushr x y) :: st) h r h') : MW G M d rc rs pc L (.int y :: .int x :: st) h r h' := by
  intro p e R s m args below meth c H locs cells slots Q ls cx hP hS hl hc1 hc2 fin
  exact lv_iushr cx.1 cx.2.1 hd rfl (k p e R s m args below meth c H locs cells slots Q ls cx hP hS hl hc1 hc2 fin)
theorem r_ldcw {i : Nat} {x : Int32} (hd : decode M.2.1 pc = .ok (.ldc_w i, 3)) (hw : Cond.constant M.1.cls i x ∈ m_tbl) (k : MW G M d rc rs (pc + 3) L (.int x :: st) h r h') : MW G M d rc rs pc L st h r h' := by
  intro p e R s m args below meth c H locs cells slots Q ls cx hP hS hl hc1 hc2 fin
  exact lv_ldcw cx.1 cx.2.1 cx.2.2.2.1 (cx.2.2.2.2.1 _ hw) hd (k p e R s m args below meth c H locs cells slots Q ls cx hP hS hl hc1 hc2 fin)
end QR
theorem m_swOut0_14 {x : Int32} (h0 : ¬ x = 0) (h1 : ¬ x = 1) (h2 : ¬ x = 2) (h3 : ¬ x = 3) (h4 : ¬ x = 4) (h5 : ¬ x = 5) (h6 : ¬ x = 6) (h7 : ¬ x = 7) (h8 : ¬ x = 8) (h9 : ¬ x = 9) (h10 : ¬ x = 10) (h11 : ¬ x = 11) (h12 : ¬ x = 12) (h13 : ¬ x = 13) : x.toInt < 0 ∨ 13 < x.toInt := by
  have e0 : x.toInt ≠ 0 := fun e => h0 (Int32.toInt_inj.mp (e.trans (by decide)))
  have e1 : x.toInt ≠ 1 := fun e => h1 (Int32.toInt_inj.mp (e.trans (by decide)))
  have e2 : x.toInt ≠ 2 := fun e => h2 (Int32.toInt_inj.mp (e.trans (by decide)))
  have e3 : x.toInt ≠ 3 := fun e => h3 (Int32.toInt_inj.mp (e.trans (by decide)))
  have e4 : x.toInt ≠ 4 := fun e => h4 (Int32.toInt_inj.mp (e.trans (by decide)))
  have e5 : x.toInt ≠ 5 := fun e => h5 (Int32.toInt_inj.mp (e.trans (by decide)))
  have e6 : x.toInt ≠ 6 := fun e => h6 (Int32.toInt_inj.mp (e.trans (by decide)))
  have e7 : x.toInt ≠ 7 := fun e => h7 (Int32.toInt_inj.mp (e.trans (by decide)))
  have e8 : x.toInt ≠ 8 := fun e => h8 (Int32.toInt_inj.mp (e.trans (by decide)))
  have e9 : x.toInt ≠ 9 := fun e => h9 (Int32.toInt_inj.mp (e.trans (by decide)))
  have e10 : x.toInt ≠ 10 := fun e => h10 (Int32.toInt_inj.mp (e.trans (by decide)))
  have e11 : x.toInt ≠ 11 := fun e => h11 (Int32.toInt_inj.mp (e.trans (by decide)))
  have e12 : x.toInt ≠ 12 := fun e => h12 (Int32.toInt_inj.mp (e.trans (by decide)))
  have e13 : x.toInt ≠ 13 := fun e => h13 (Int32.toInt_inj.mp (e.trans (by decide)))
  omega
theorem m_swOut0_5 {x : Int32} (h0 : ¬ x = 0) (h1 : ¬ x = 1) (h2 : ¬ x = 2) (h3 : ¬ x = 3) (h4 : ¬ x = 4) : x.toInt < 0 ∨ 4 < x.toInt := by
  have e0 : x.toInt ≠ 0 := fun e => h0 (Int32.toInt_inj.mp (e.trans (by decide)))
  have e1 : x.toInt ≠ 1 := fun e => h1 (Int32.toInt_inj.mp (e.trans (by decide)))
  have e2 : x.toInt ≠ 2 := fun e => h2 (Int32.toInt_inj.mp (e.trans (by decide)))
  have e3 : x.toInt ≠ 3 := fun e => h3 (Int32.toInt_inj.mp (e.trans (by decide)))
  have e4 : x.toInt ≠ 4 := fun e => h4 (Int32.toInt_inj.mp (e.trans (by decide)))
  omega
theorem m_swOut0_6 {x : Int32} (h0 : ¬ x = 0) (h1 : ¬ x = 1) (h2 : ¬ x = 2) (h3 : ¬ x = 3) (h4 : ¬ x = 4) (h5 : ¬ x = 5) : x.toInt < 0 ∨ 5 < x.toInt := by
  have e0 : x.toInt ≠ 0 := fun e => h0 (Int32.toInt_inj.mp (e.trans (by decide)))
  have e1 : x.toInt ≠ 1 := fun e => h1 (Int32.toInt_inj.mp (e.trans (by decide)))
  have e2 : x.toInt ≠ 2 := fun e => h2 (Int32.toInt_inj.mp (e.trans (by decide)))
  have e3 : x.toInt ≠ 3 := fun e => h3 (Int32.toInt_inj.mp (e.trans (by decide)))
  have e4 : x.toInt ≠ 4 := fun e => h4 (Int32.toInt_inj.mp (e.trans (by decide)))
  have e5 : x.toInt ≠ 5 := fun e => h5 (Int32.toInt_inj.mp (e.trans (by decide)))
  omega
theorem m_swOut1_3 {x : Int32} (h1 : ¬ x = 1) (h2 : ¬ x = 2) (h3 : ¬ x = 3) : x.toInt < 1 ∨ 3 < x.toInt := by
  have e1 : x.toInt ≠ 1 := fun e => h1 (Int32.toInt_inj.mp (e.trans (by decide)))
  have e2 : x.toInt ≠ 2 := fun e => h2 (Int32.toInt_inj.mp (e.trans (by decide)))
  have e3 : x.toInt ≠ 3 := fun e => h3 (Int32.toInt_inj.mp (e.trans (by decide)))
  omega
theorem m_swOut2_3 {x : Int32} (h2 : ¬ x = 2) (h3 : ¬ x = 3) (h4 : ¬ x = 4) : x.toInt < 2 ∨ 4 < x.toInt := by
  have e2 : x.toInt ≠ 2 := fun e => h2 (Int32.toInt_inj.mp (e.trans (by decide)))
  have e3 : x.toInt ≠ 3 := fun e => h3 (Int32.toInt_inj.mp (e.trans (by decide)))
  have e4 : x.toInt ≠ 4 := fun e => h4 (Int32.toInt_inj.mp (e.trans (by decide)))
  omega
theorem m_swOut0_28 {x : Int32} (h0 : ¬ x = 0) (h1 : ¬ x = 1) (h2 : ¬ x = 2) (h3 : ¬ x = 3) (h4 : ¬ x = 4) (h5 : ¬ x = 5) (h6 : ¬ x = 6) (h7 : ¬ x = 7) (h8 : ¬ x = 8) (h9 : ¬ x = 9) (h10 : ¬ x = 10) (h11 : ¬ x = 11) (h12 : ¬ x = 12) (h13 : ¬ x = 13) (h14 : ¬ x = 14) (h15 : ¬ x = 15) (h16 : ¬ x = 16) (h17 : ¬ x = 17) (h18 : ¬ x = 18) (h19 : ¬ x = 19) (h20 : ¬ x = 20) (h21 : ¬ x = 21) (h22 : ¬ x = 22) (h23 : ¬ x = 23) (h24 : ¬ x = 24) (h25 : ¬ x = 25) (h26 : ¬ x = 26) (h27 : ¬ x = 27) : x.toInt < 0 ∨ 27 < x.toInt := by
  have e0 : x.toInt ≠ 0 := fun e => h0 (Int32.toInt_inj.mp (e.trans (by decide)))
  have e1 : x.toInt ≠ 1 := fun e => h1 (Int32.toInt_inj.mp (e.trans (by decide)))
  have e2 : x.toInt ≠ 2 := fun e => h2 (Int32.toInt_inj.mp (e.trans (by decide)))
  have e3 : x.toInt ≠ 3 := fun e => h3 (Int32.toInt_inj.mp (e.trans (by decide)))
  have e4 : x.toInt ≠ 4 := fun e => h4 (Int32.toInt_inj.mp (e.trans (by decide)))
  have e5 : x.toInt ≠ 5 := fun e => h5 (Int32.toInt_inj.mp (e.trans (by decide)))
  have e6 : x.toInt ≠ 6 := fun e => h6 (Int32.toInt_inj.mp (e.trans (by decide)))
  have e7 : x.toInt ≠ 7 := fun e => h7 (Int32.toInt_inj.mp (e.trans (by decide)))
  have e8 : x.toInt ≠ 8 := fun e => h8 (Int32.toInt_inj.mp (e.trans (by decide)))
  have e9 : x.toInt ≠ 9 := fun e => h9 (Int32.toInt_inj.mp (e.trans (by decide)))
  have e10 : x.toInt ≠ 10 := fun e => h10 (Int32.toInt_inj.mp (e.trans (by decide)))
  have e11 : x.toInt ≠ 11 := fun e => h11 (Int32.toInt_inj.mp (e.trans (by decide)))
  have e12 : x.toInt ≠ 12 := fun e => h12 (Int32.toInt_inj.mp (e.trans (by decide)))
  have e13 : x.toInt ≠ 13 := fun e => h13 (Int32.toInt_inj.mp (e.trans (by decide)))
  have e14 : x.toInt ≠ 14 := fun e => h14 (Int32.toInt_inj.mp (e.trans (by decide)))
  have e15 : x.toInt ≠ 15 := fun e => h15 (Int32.toInt_inj.mp (e.trans (by decide)))
  have e16 : x.toInt ≠ 16 := fun e => h16 (Int32.toInt_inj.mp (e.trans (by decide)))
  have e17 : x.toInt ≠ 17 := fun e => h17 (Int32.toInt_inj.mp (e.trans (by decide)))
  have e18 : x.toInt ≠ 18 := fun e => h18 (Int32.toInt_inj.mp (e.trans (by decide)))
  have e19 : x.toInt ≠ 19 := fun e => h19 (Int32.toInt_inj.mp (e.trans (by decide)))
  have e20 : x.toInt ≠ 20 := fun e => h20 (Int32.toInt_inj.mp (e.trans (by decide)))
  have e21 : x.toInt ≠ 21 := fun e => h21 (Int32.toInt_inj.mp (e.trans (by decide)))
  have e22 : x.toInt ≠ 22 := fun e => h22 (Int32.toInt_inj.mp (e.trans (by decide)))
  have e23 : x.toInt ≠ 23 := fun e => h23 (Int32.toInt_inj.mp (e.trans (by decide)))
  have e24 : x.toInt ≠ 24 := fun e => h24 (Int32.toInt_inj.mp (e.trans (by decide)))
  have e25 : x.toInt ≠ 25 := fun e => h25 (Int32.toInt_inj.mp (e.trans (by decide)))
  have e26 : x.toInt ≠ 26 := fun e => h26 (Int32.toInt_inj.mp (e.trans (by decide)))
  have e27 : x.toInt ≠ 27 := fun e => h27 (Int32.toInt_inj.mp (e.trans (by decide)))
  omega
theorem m_lkOut2 {x : Int32} {o0 o1 dd : Int} (h0 : ¬ x = 0) (h1 : ¬ x = 1) : Op.lookupswitch.offset [(0, o0), (1, o1)] dd x.toInt = dd := by
  have e0 : (0 : Int) ≠ x.toInt := fun e => h0 (Int32.toInt_inj.mp (e.symm.trans (by decide)))
  have e1 : (1 : Int) ≠ x.toInt := fun e => h1 (Int32.toInt_inj.mp (e.symm.trans (by decide)))
  rw [Op.lookupswitch.offset_cons, if_neg e0, Op.lookupswitch.offset_cons, if_neg e1, Op.lookupswitch.offset_nil]
def bc1 (x : Int32) : Int32 := x - (m_ushr x 1 &&& 1431655765)
def bc2 (x : Int32) : Int32 := (x &&& 858993459) + (m_ushr x 2 &&& 858993459)
def bc3 (x : Int32) : Int32 := (x + m_ushr x 4) &&& 252645135
def bc4 (x : Int32) : Int32 := x + m_ushr x 8
def bc5 (x : Int32) : Int32 := x + m_ushr x 16
def f_J6_bitCount (a1 : Int32) : Int32 := bc5 (bc4 (bc3 (bc2 (bc1 a1)))) &&& 63
theorem c_J6_bitCount {G : mG} {g : Nat → Nat → Int32} {b : Bool} {a1 R : Int32} (e : f_J6_bitCount a1 = R) : MC G mJ6_bitCount 0 0 0 [.int a1] (m_h g b) (some (.int R)) (m_h g b) := by
  subst e
  refine MC_intro mlJ6_bitCount (Nat.le_of_ble_eq_true rfl) ⟨_, rfl⟩ rfl trivial ?_
  refine r_iload_n dJ6_bitCount_0f7a4_0 rfl rfl ?_
  refine r_iload_n dJ6_bitCount_0f7a4_1 rfl rfl ?_
  refine r_iconst (x := 1) dJ6_bitCount_0f7a4_2 (by decide) ?_
  refine q_iushr dJ6_bitCount_0f7a4_3 ?_
  refine r_ldcw dJ6_bitCount_0f7a4_4 kcJ6_265 ?_
  refine r_iand dJ6_bitCount_0f7a4_7 ?_
  refine r_isub dJ6_bitCount_0f7a4_8 ?_
  refine r_istore_n (x := bc1 a1) dJ6_bitCount_0f7a4_9 rfl (by decide) rfl ?_
  refine r_iload_n dJ6_bitCount_0f7a4_10 rfl rfl ?_
  refine r_ldcw dJ6_bitCount_0f7a4_11 kcJ6_266 ?_
  refine r_iand dJ6_bitCount_0f7a4_14 ?_
  refine r_iload_n dJ6_bitCount_0f7a4_15 rfl rfl ?_
  refine r_iconst (x := 2) dJ6_bitCount_0f7a4_16 (by decide) ?_
  refine q_iushr dJ6_bitCount_0f7a4_17 ?_
  refine r_ldcw dJ6_bitCount_0f7a4_18 kcJ6_266 ?_
  refine r_iand dJ6_bitCount_0f7a4_21 ?_
  refine r_iadd dJ6_bitCount_0f7a4_22 ?_
  refine r_istore_n (x := bc2 (bc1 a1)) dJ6_bitCount_0f7a4_23 rfl (by decide) rfl ?_
  refine r_iload_n dJ6_bitCount_0f7a4_24 rfl rfl ?_
  refine r_iload_n dJ6_bitCount_0f7a4_25 rfl rfl ?_
  refine r_iconst (x := 4) dJ6_bitCount_0f7a4_26 (by decide) ?_
  refine q_iushr dJ6_bitCount_0f7a4_27 ?_
  refine r_iadd dJ6_bitCount_0f7a4_28 ?_
  refine r_ldcw dJ6_bitCount_0f7a4_29 kcJ6_267 ?_
  refine r_iand dJ6_bitCount_0f7a4_32 ?_
  refine r_istore_n (x := bc3 (bc2 (bc1 a1))) dJ6_bitCount_0f7a4_33 rfl (by decide) rfl ?_
  refine r_iload_n dJ6_bitCount_0f7a4_34 rfl rfl ?_
  refine r_iload_n dJ6_bitCount_0f7a4_35 rfl rfl ?_
  refine r_bipush (x := 8) dJ6_bitCount_0f7a4_36 (by decide) ?_
  refine q_iushr dJ6_bitCount_0f7a4_38 ?_
  refine r_iadd dJ6_bitCount_0f7a4_39 ?_
  refine r_istore_n (x := bc4 (bc3 (bc2 (bc1 a1)))) dJ6_bitCount_0f7a4_40 rfl (by decide) rfl ?_
  refine r_iload_n dJ6_bitCount_0f7a4_41 rfl rfl ?_
  refine r_iload_n dJ6_bitCount_0f7a4_42 rfl rfl ?_
  refine r_bipush (x := 16) dJ6_bitCount_0f7a4_43 (by decide) ?_
  refine q_iushr dJ6_bitCount_0f7a4_45 ?_
  refine r_iadd dJ6_bitCount_0f7a4_46 ?_
  refine r_istore_n (x := bc5 (bc4 (bc3 (bc2 (bc1 a1))))) dJ6_bitCount_0f7a4_47 rfl (by decide) rfl ?_
  refine r_iload_n dJ6_bitCount_0f7a4_48 rfl rfl ?_
  refine r_bipush (x := 63) dJ6_bitCount_0f7a4_49 (by decide) ?_
  refine r_iand dJ6_bitCount_0f7a4_51 ?_
  exact r_ret dJ6_bitCount_0f7a4_52 rfl rfl
end
section
/-! X7_in -/
def f_X7_in (a1 : Int32) (a2 : Int32) (a3 : Int32) : Bool :=
  (if a1 < a2 then
false
else
(if a3 < a1 then
false
else
true))
set_option maxRecDepth 100000 in
set_option maxHeartbeats 4000000 in
theorem c_X7_in {G : mG} {g : (Nat → Nat → Int32)} {b : Bool} {a1 : Int32} {a2 : Int32} {a3 : Int32} {R : Bool} (e : f_X7_in a1 a2 a3 = R) : MC G mX7_in 0 0 0 [.int a1, .int a2, .int a3] (m_h g b) (some (.int (m_bi R))) (m_h g b) := by
  refine MC_intro mlX7_in (Nat.le_of_ble_eq_true rfl) (m_okZ _) rfl trivial ?_
  unfold f_X7_in at e
  refine r_iload_n dX7_in_0 rfl rfl ?_
  refine r_iload_n dX7_in_1 rfl rfl ?_
  refine r_icmp_lt (tgt := 14) dX7_in_2 (by decide) (fun h1 => ?_) (fun h1 => ?_)
  · have e := g_iT h1 e
    refine r_iconst (x := 0) dX7_in_14 (by decide) ?_
    subst e
    exact r_ret dX7_in_15 rfl rfl
  · have e := g_iF h1 e
    refine r_iload_n dX7_in_5 rfl rfl ?_
    refine r_iload_n dX7_in_6 rfl rfl ?_
    refine r_icmp_gt (tgt := 14) dX7_in_7 (by decide) (fun h2 => ?_) (fun h2 => ?_)
    · have e := g_iT h2 e
      refine r_iconst (x := 0) dX7_in_14 (by decide) ?_
      subst e
      exact r_ret dX7_in_15 rfl rfl
    · have e := g_iF h2 e
      refine r_iconst (x := 1) dX7_in_10 (by decide) ?_
      refine r_goto (tgt := 15) dX7_in_11 (by decide) ?_
      subst e
      exact r_ret dX7_in_15 rfl rfl
/-! X7_isTable -/
def f_X7_isTable (g : (Nat → Nat → Int32)) (a1 : Int32) : Bool :=
  (f_X7_in a1 0 ((g 64 1) - 1))
set_option maxRecDepth 100000 in
set_option maxHeartbeats 4000000 in
theorem c_X7_isTable {G : mG} {g : (Nat → Nat → Int32)} {b : Bool} {a1 : Int32} {R : Bool} (e : f_X7_isTable g a1 = R) : MC G mX7_isTable 1 0 0 [.ref 64, .int a1] (m_h g b) (some (.int (m_bi R))) (m_h g b) := by
  refine MC_intro mlX7_isTable (Nat.le_of_ble_eq_true rfl) (m_okZ _) rfl trivial ?_
  unfold f_X7_isTable at e
  refine r_iload_n dX7_isTable_0 rfl rfl ?_
  refine r_iconst (x := 0) dX7_isTable_1 (by decide) ?_
  refine r_aload_n dX7_isTable_2 rfl rfl ?_
  refine q_geti dX7_isTable_3 flX7_92 rfl rfl ?_
  refine r_iconst (x := 1) dX7_isTable_6 (by decide) ?_
  refine r_isub dX7_isTable_7 ?_
  refine q_callS (rest := []) (c_X7_in rfl) dX7_isTable_8 lkX7_95 rfl rfl (Nat.le_of_ble_eq_true rfl) (by decide) ?_
  subst e
  exact r_ret dX7_isTable_11 rfl rfl
/-! X7_isColumn -/
def f_X7_isColumn (g : (Nat → Nat → Int32)) (a1 : Int32) (a2 : Int32) : Option Bool :=
  (bif (f_X7_isTable g a1) then
(if m_in a1 4 then
(bif (f_X7_in a2 0 ((g 65 a1.toNatClampNeg) - 1)) then
some true
else
some false) else none)
else
some false)
set_option maxRecDepth 100000 in
set_option maxHeartbeats 4000000 in
theorem c_X7_isColumn {G : mG} {g : (Nat → Nat → Int32)} {b : Bool} {a1 : Int32} {a2 : Int32} {R : Bool} (e : f_X7_isColumn g a1 a2 = some R) : MC G mX7_isColumn 2 0 0 [.ref 64, .int a1, .int a2] (m_h g b) (some (.int (m_bi R))) (m_h g b) := by
  refine MC_intro mlX7_isColumn (Nat.le_of_ble_eq_true rfl) (m_okZ _) rfl trivial ?_
  unfold f_X7_isColumn at e
  refine r_aload_n dX7_isColumn_0 rfl rfl ?_
  refine r_iload_n dX7_isColumn_1 rfl rfl ?_
  refine q_callV (rest := []) (c_X7_isTable rfl) dX7_isColumn_2 lkX7_99 rfl rfl rfl rfl (Nat.le_of_ble_eq_true rfl) (by decide) ?_
  refine r_ifeqB (tgt := 28) dX7_isColumn_5 (by decide) (fun h1 => ?_) (fun h1 => ?_)
  · have e := g_cF h1 e
    refine r_iconst (x := 0) dX7_isColumn_28 (by decide) ?_
    have e := Option.some.inj e
    subst e
    exact r_ret dX7_isColumn_29 rfl rfl
  · have e := g_cT h1 e
    refine r_iload_n dX7_isColumn_8 rfl rfl ?_
    refine r_iconst (x := 0) dX7_isColumn_9 (by decide) ?_
    refine r_aload_n dX7_isColumn_10 rfl rfl ?_
    refine q_getr dX7_isColumn_11 flX7_9 rfl rfl (m_fr_64_2 _) ?_
    refine r_iload_n dX7_isColumn_14 rfl rfl ?_
    obtain ⟨h2, e⟩ := g_gd e
    refine q_iald dX7_isColumn_15 rfl h2 ?_
    refine r_iconst (x := 1) dX7_isColumn_16 (by decide) ?_
    refine r_isub dX7_isColumn_17 ?_
    refine q_callS (rest := []) (c_X7_in rfl) dX7_isColumn_18 lkX7_95 rfl rfl (Nat.le_of_ble_eq_true rfl) (by decide) ?_
    refine r_ifeqB (tgt := 28) dX7_isColumn_21 (by decide) (fun h3 => ?_) (fun h3 => ?_)
    · have e := g_cF h3 e
      refine r_iconst (x := 0) dX7_isColumn_28 (by decide) ?_
      have e := Option.some.inj e
      subst e
      exact r_ret dX7_isColumn_29 rfl rfl
    · have e := g_cT h3 e
      refine r_iconst (x := 1) dX7_isColumn_24 (by decide) ?_
      refine r_goto (tgt := 29) dX7_isColumn_25 (by decide) ?_
      have e := Option.some.inj e
      subst e
      exact r_ret dX7_isColumn_29 rfl rfl
/-! X7_isRow -/
def f_X7_isRow (g : (Nat → Nat → Int32)) (a1 : Int32) (a2 : Int32) : Option Bool :=
  (bif (f_X7_isTable g a1) then
(if m_in a1 4 then
(bif (f_X7_in a2 0 ((g 66 a1.toNatClampNeg) - 1)) then
some true
else
some false) else none)
else
some false)
set_option maxRecDepth 100000 in
set_option maxHeartbeats 4000000 in
theorem c_X7_isRow {G : mG} {g : (Nat → Nat → Int32)} {b : Bool} {a1 : Int32} {a2 : Int32} {R : Bool} (e : f_X7_isRow g a1 a2 = some R) : MC G mX7_isRow 2 0 0 [.ref 64, .int a1, .int a2] (m_h g b) (some (.int (m_bi R))) (m_h g b) := by
  refine MC_intro mlX7_isRow (Nat.le_of_ble_eq_true rfl) (m_okZ _) rfl trivial ?_
  unfold f_X7_isRow at e
  refine r_aload_n dX7_isRow_0 rfl rfl ?_
  refine r_iload_n dX7_isRow_1 rfl rfl ?_
  refine q_callV (rest := []) (c_X7_isTable rfl) dX7_isRow_2 lkX7_99 rfl rfl rfl rfl (Nat.le_of_ble_eq_true rfl) (by decide) ?_
  refine r_ifeqB (tgt := 28) dX7_isRow_5 (by decide) (fun h1 => ?_) (fun h1 => ?_)
  · have e := g_cF h1 e
    refine r_iconst (x := 0) dX7_isRow_28 (by decide) ?_
    have e := Option.some.inj e
    subst e
    exact r_ret dX7_isRow_29 rfl rfl
  · have e := g_cT h1 e
    refine r_iload_n dX7_isRow_8 rfl rfl ?_
    refine r_iconst (x := 0) dX7_isRow_9 (by decide) ?_
    refine r_aload_n dX7_isRow_10 rfl rfl ?_
    refine q_getr dX7_isRow_11 flX7_15 rfl rfl (m_fr_64_3 _) ?_
    refine r_iload_n dX7_isRow_14 rfl rfl ?_
    obtain ⟨h2, e⟩ := g_gd e
    refine q_iald dX7_isRow_15 rfl h2 ?_
    refine r_iconst (x := 1) dX7_isRow_16 (by decide) ?_
    refine r_isub dX7_isRow_17 ?_
    refine q_callS (rest := []) (c_X7_in rfl) dX7_isRow_18 lkX7_95 rfl rfl (Nat.le_of_ble_eq_true rfl) (by decide) ?_
    refine r_ifeqB (tgt := 28) dX7_isRow_21 (by decide) (fun h3 => ?_) (fun h3 => ?_)
    · have e := g_cF h3 e
      refine r_iconst (x := 0) dX7_isRow_28 (by decide) ?_
      have e := Option.some.inj e
      subst e
      exact r_ret dX7_isRow_29 rfl rfl
    · have e := g_cT h3 e
      refine r_iconst (x := 1) dX7_isRow_24 (by decide) ?_
      refine r_goto (tgt := 29) dX7_isRow_25 (by decide) ?_
      have e := Option.some.inj e
      subst e
      exact r_ret dX7_isRow_29 rfl rfl
/-! X7_cell -/
def f_X7_cell (a1 : Int32) (a2 : Int32) (a3 : Int32) : Int32 :=
  (((72 * a1) + (6 * a2)) + a3)
set_option maxRecDepth 100000 in
set_option maxHeartbeats 4000000 in
theorem c_X7_cell {G : mG} {g : (Nat → Nat → Int32)} {b : Bool} {a1 : Int32} {a2 : Int32} {a3 : Int32} {R : Int32} (e : f_X7_cell a1 a2 a3 = R) : MC G mX7_cell 0 0 0 [.int a1, .int a2, .int a3] (m_h g b) (some (.int R)) (m_h g b) := by
  refine MC_intro mlX7_cell (Nat.le_of_ble_eq_true rfl) ⟨_, rfl⟩ rfl trivial ?_
  unfold f_X7_cell at e
  refine r_bipush (x := 72) dX7_cell_0 (by decide) ?_
  refine r_iload_n dX7_cell_2 rfl rfl ?_
  refine r_imul dX7_cell_3 ?_
  refine r_bipush (x := 6) dX7_cell_4 (by decide) ?_
  refine r_iload_n dX7_cell_6 rfl rfl ?_
  refine r_imul dX7_cell_7 ?_
  refine r_iadd dX7_cell_8 ?_
  refine r_iload_n dX7_cell_9 rfl rfl ?_
  refine r_iadd dX7_cell_10 ?_
  subst e
  exact r_ret dX7_cell_11 rfl rfl
/-! X7_figure -/
def f_X7_figure (a1 : Int32) : Int32 :=
  (m_rem ((((a1 / 10000) + (2 * (m_rem (a1 / 1000) 10))) + (3 * (m_rem (a1 / 100) 10))) + (4 * (m_rem (a1 / 10) 10))) 10)
set_option maxRecDepth 100000 in
set_option maxHeartbeats 4000000 in
theorem c_X7_figure {G : mG} {g : (Nat → Nat → Int32)} {b : Bool} {a1 : Int32} {R : Int32} (e : f_X7_figure a1 = R) : MC G mX7_figure 0 0 0 [.int a1] (m_h g b) (some (.int R)) (m_h g b) := by
  refine MC_intro mlX7_figure (Nat.le_of_ble_eq_true rfl) ⟨_, rfl⟩ rfl trivial ?_
  unfold f_X7_figure at e
  refine r_iload_n dX7_figure_0 rfl rfl ?_
  refine r_sipush (x := 10000) dX7_figure_1 (by decide) ?_
  refine r_idiv dX7_figure_4 (by decide) ?_
  refine r_iconst (x := 2) dX7_figure_5 (by decide) ?_
  refine r_iload_n dX7_figure_6 rfl rfl ?_
  refine r_sipush (x := 1000) dX7_figure_7 (by decide) ?_
  refine r_idiv dX7_figure_10 (by decide) ?_
  refine r_bipush (x := 10) dX7_figure_11 (by decide) ?_
  refine q_irem dX7_figure_13 (by decide) ?_
  refine r_imul dX7_figure_14 ?_
  refine r_iadd dX7_figure_15 ?_
  refine r_iconst (x := 3) dX7_figure_16 (by decide) ?_
  refine r_iload_n dX7_figure_17 rfl rfl ?_
  refine r_bipush (x := 100) dX7_figure_18 (by decide) ?_
  refine r_idiv dX7_figure_20 (by decide) ?_
  refine r_bipush (x := 10) dX7_figure_21 (by decide) ?_
  refine q_irem dX7_figure_23 (by decide) ?_
  refine r_imul dX7_figure_24 ?_
  refine r_iadd dX7_figure_25 ?_
  refine r_iconst (x := 4) dX7_figure_26 (by decide) ?_
  refine r_iload_n dX7_figure_27 rfl rfl ?_
  refine r_bipush (x := 10) dX7_figure_28 (by decide) ?_
  refine r_idiv dX7_figure_30 (by decide) ?_
  refine r_bipush (x := 10) dX7_figure_31 (by decide) ?_
  refine q_irem dX7_figure_33 (by decide) ?_
  refine r_imul dX7_figure_34 ?_
  refine r_iadd dX7_figure_35 ?_
  refine r_bipush (x := 10) dX7_figure_36 (by decide) ?_
  refine q_irem dX7_figure_38 (by decide) ?_
  subst e
  exact r_ret dX7_figure_39 rfl rfl
/-! X7_isKey -/
def f_X7_isKey (a1 : Int32) : Bool :=
  (bif (f_X7_in a1 0 99999) then
(if (m_rem a1 10) = (f_X7_figure a1) then
true
else
false)
else
false)
set_option maxRecDepth 100000 in
set_option maxHeartbeats 4000000 in
theorem c_X7_isKey {G : mG} {g : (Nat → Nat → Int32)} {b : Bool} {a1 : Int32} {R : Bool} (e : f_X7_isKey a1 = R) : MC G mX7_isKey 1 0 0 [.int a1] (m_h g b) (some (.int (m_bi R))) (m_h g b) := by
  refine MC_intro mlX7_isKey (Nat.le_of_ble_eq_true rfl) (m_okZ _) rfl trivial ?_
  unfold f_X7_isKey at e
  refine r_iload_n dX7_isKey_0 rfl rfl ?_
  refine r_iconst (x := 0) dX7_isKey_1 (by decide) ?_
  refine r_ldc (x := 99999) dX7_isKey_2 kcX7_103 ?_
  refine q_callS (rest := []) (c_X7_in rfl) dX7_isKey_4 lkX7_95 rfl rfl (Nat.le_of_ble_eq_true rfl) (by decide) ?_
  refine r_ifeqB (tgt := 25) dX7_isKey_7 (by decide) (fun h1 => ?_) (fun h1 => ?_)
  · have e := g_cF h1 e
    refine r_iconst (x := 0) dX7_isKey_25 (by decide) ?_
    subst e
    exact r_ret dX7_isKey_26 rfl rfl
  · have e := g_cT h1 e
    refine r_iload_n dX7_isKey_10 rfl rfl ?_
    refine r_bipush (x := 10) dX7_isKey_11 (by decide) ?_
    refine q_irem dX7_isKey_13 (by decide) ?_
    refine r_iload_n dX7_isKey_14 rfl rfl ?_
    refine q_callS (rest := [.int (m_rem a1 10)]) (c_X7_figure rfl) dX7_isKey_15 lkX7_104 rfl rfl (Nat.le_of_ble_eq_true rfl) (by decide) ?_
    refine r_icmp_ne (tgt := 25) dX7_isKey_18 (by decide) (fun h2 => ?_) (fun h2 => ?_)
    · have e := g_iF h2 e
      refine r_iconst (x := 0) dX7_isKey_25 (by decide) ?_
      subst e
      exact r_ret dX7_isKey_26 rfl rfl
    · have e := g_iT h2 e
      refine r_iconst (x := 1) dX7_isKey_21 (by decide) ?_
      refine r_goto (tgt := 26) dX7_isKey_22 (by decide) ?_
      subst e
      exact r_ret dX7_isKey_26 rfl rfl
/-! X7_begin -/
def f_X7_begin (g : (Nat → Nat → Int32)) (a1 : Int32) (a2 : Int32) (a3 : Int32) : Option (Nat → Nat → Int32) :=
  (if m_in a1 24 then
some (m_up (m_up (m_up (m_up (m_up (m_up g 68 a1.toNatClampNeg a2) 69 a1.toNatClampNeg a3) 70 a1.toNatClampNeg 0) 71 a1.toNatClampNeg 0) 72 a1.toNatClampNeg 1) 73 a1.toNatClampNeg 0) else none)
set_option maxRecDepth 100000 in
set_option maxHeartbeats 4000000 in
theorem c_X7_begin {G : mG} {g : (Nat → Nat → Int32)} {b : Bool} {a1 : Int32} {a2 : Int32} {a3 : Int32} {R : (Nat → Nat → Int32)} (e : f_X7_begin g a1 a2 a3 = some R) : MC G mX7_begin 0 0 0 [.ref 64, .int a1, .int a2, .int a3] (m_h g b) none (m_h R b) := by
  refine MC_intro mlX7_begin (Nat.le_of_ble_eq_true rfl) rfl rfl trivial ?_
  unfold f_X7_begin at e
  refine r_aload_n dX7_begin_0 rfl rfl ?_
  refine q_getr dX7_begin_1 flX7_21 rfl rfl (m_fr_64_5 _) ?_
  refine r_iload_n dX7_begin_4 rfl rfl ?_
  refine r_iload_n dX7_begin_5 rfl rfl ?_
  obtain ⟨h1, e⟩ := g_gd e
  refine q_iast dX7_begin_6 rfl h1 ?_
  refine r_aload_n dX7_begin_7 rfl rfl ?_
  refine q_getr dX7_begin_8 flX7_24 rfl rfl (m_fr_64_6 _) ?_
  refine r_iload_n dX7_begin_11 rfl rfl ?_
  refine r_iload_n dX7_begin_12 rfl rfl ?_
  refine q_iast dX7_begin_13 rfl h1 ?_
  refine r_aload_n dX7_begin_14 rfl rfl ?_
  refine q_getr dX7_begin_15 flX7_27 rfl rfl (m_fr_64_7 _) ?_
  refine r_iload_n dX7_begin_18 rfl rfl ?_
  refine r_iconst (x := 0) dX7_begin_19 (by decide) ?_
  refine q_iast dX7_begin_20 rfl h1 ?_
  refine r_aload_n dX7_begin_21 rfl rfl ?_
  refine q_getr dX7_begin_22 flX7_30 rfl rfl (m_fr_64_8 _) ?_
  refine r_iload_n dX7_begin_25 rfl rfl ?_
  refine r_iconst (x := 0) dX7_begin_26 (by decide) ?_
  refine q_iast dX7_begin_27 rfl h1 ?_
  refine r_aload_n dX7_begin_28 rfl rfl ?_
  refine q_getr dX7_begin_29 flX7_33 rfl rfl (m_fr_64_9 _) ?_
  refine r_iload_n dX7_begin_32 rfl rfl ?_
  refine r_iconst (x := 1) dX7_begin_33 (by decide) ?_
  refine q_iast dX7_begin_34 rfl h1 ?_
  refine r_aload_n dX7_begin_35 rfl rfl ?_
  refine q_getr dX7_begin_36 flX7_36 rfl rfl (m_fr_64_10 _) ?_
  refine r_iload_n dX7_begin_39 rfl rfl ?_
  refine r_iconst (x := 0) dX7_begin_40 (by decide) ?_
  refine q_iast dX7_begin_41 rfl h1 ?_
  have e := Option.some.inj e
  subst e
  exact r_ret dX7_begin_42 rfl rfl
/-! X7_table -/
def lp_X7_table_56 (b : Bool) : Nat → Int32 → (Nat → Nat → Int32) → Option (Int32 × (Nat → Nat → Int32))
  | 0, _, _ => none
  | n + 1, y56_1, g56 =>
  (if 5 ≤ y56_1 then
some ((((m_up (m_up g56 64 1 ((g56 64 1) + 1)) 64 16 0) 64 1) - 1), (m_up (m_up g56 64 1 ((g56 64 1) + 1)) 64 16 0))
else
(if m_in ((5 * (g56 64 1)) + y56_1) 20 then
(if m_in ((5 * ((m_up g56 74 ((5 * (g56 64 1)) + y56_1).toNatClampNeg 1) 64 1)) + y56_1) 20 then
lp_X7_table_56 b n (y56_1 + 1) (m_up (m_up g56 74 ((5 * (g56 64 1)) + y56_1).toNatClampNeg 1) 75 ((5 * ((m_up g56 74 ((5 * (g56 64 1)) + y56_1).toNatClampNeg 1) 64 1)) + y56_1).toNatClampNeg 0) else none) else none))
def f_X7_table (g : (Nat → Nat → Int32)) : Option (Int32 × (Nat → Nat → Int32)) :=
  (if (g 64 1) = 4 then
some ((-4), g)
else
(if m_in (g 64 1) 4 then
(if m_in ((m_up g 65 (g 64 1).toNatClampNeg 1) 64 1) 4 then
(if m_in ((m_up (m_up g 65 (g 64 1).toNatClampNeg 1) 66 ((m_up g 65 (g 64 1).toNatClampNeg 1) 64 1).toNatClampNeg 0) 64 1) 4 then
((f_X7_begin (m_up (m_up (m_up g 65 (g 64 1).toNatClampNeg 1) 66 ((m_up g 65 (g 64 1).toNatClampNeg 1) 64 1).toNatClampNeg 0) 67 ((m_up (m_up g 65 (g 64 1).toNatClampNeg 1) 66 ((m_up g 65 (g 64 1).toNatClampNeg 1) 64 1).toNatClampNeg 0) 64 1).toNatClampNeg 0) (6 * ((m_up (m_up (m_up g 65 (g 64 1).toNatClampNeg 1) 66 ((m_up g 65 (g 64 1).toNatClampNeg 1) 64 1).toNatClampNeg 0) 67 ((m_up (m_up g 65 (g 64 1).toNatClampNeg 1) 66 ((m_up g 65 (g 64 1).toNatClampNeg 1) 64 1).toNatClampNeg 0) 64 1).toNatClampNeg 0) 64 1)) 0 0).bind fun v5 =>
lp_X7_table_56 b 2000 0 v5) else none) else none) else none))
set_option maxRecDepth 100000 in
set_option maxHeartbeats 4000000 in
theorem w_X7_table_56 {G : mG} {b : Bool} : ∀ (n : Nat) (y56_1 : Int32) (g56 : (Nat → Nat → Int32)) (R : (Int32 × (Nat → Nat → Int32))), lp_X7_table_56 b n y56_1 g56 = some R → MW G mX7_table 1 0 0 56 [.ref 64, .int y56_1] [] (m_h g56 b) (some (.int R.1)) (m_h R.2 b)
  | 0, _, _, R, e => absurd (show (none : Option (Int32 × (Nat → Nat → Int32))) = some R from e) (fun h => by cases h)
  | n + 1, y56_1, g56, R, e => by
    rw [lp_X7_table_56] at e
    refine r_iload_n dX7_table_56 rfl rfl ?_
    refine r_iconst (x := 5) dX7_table_57 (by decide) ?_
    refine r_icmp_ge (tgt := 95) dX7_table_58 (by decide) (fun h7 => ?_) (fun h7 => ?_)
    · have e := g_iT h7 e
      refine r_aload_n dX7_table_95 rfl rfl ?_
      refine r_dup dX7_table_96 ?_
      refine q_geti dX7_table_97 flX7_92 rfl rfl ?_
      refine r_iconst (x := 1) dX7_table_100 (by decide) ?_
      refine r_iadd dX7_table_101 ?_
      refine q_puti dX7_table_102 flX7_92 (Or.inl rfl) (Or.inl rfl) rfl ?_
      refine r_aload_n dX7_table_105 rfl rfl ?_
      refine r_iconst (x := 0) dX7_table_106 (by decide) ?_
      refine q_puti dX7_table_107 flX7_112 (Or.inl rfl) (Or.inr ⟨rfl, by decide⟩) rfl ?_
      refine r_aload_n dX7_table_110 rfl rfl ?_
      refine q_geti dX7_table_111 flX7_92 rfl rfl ?_
      refine r_iconst (x := 1) dX7_table_114 (by decide) ?_
      refine r_isub dX7_table_115 ?_
      have e := Option.some.inj e
      subst e
      exact r_ret dX7_table_116 rfl rfl
    · have e := g_iF h7 e
      refine r_aload_n dX7_table_61 rfl rfl ?_
      refine q_getr dX7_table_62 flX7_39 rfl rfl (m_fr_64_11 _) ?_
      refine r_iconst (x := 5) dX7_table_65 (by decide) ?_
      refine r_aload_n dX7_table_66 rfl rfl ?_
      refine q_geti dX7_table_67 flX7_92 rfl rfl ?_
      refine r_imul dX7_table_70 ?_
      refine r_iload_n dX7_table_71 rfl rfl ?_
      refine r_iadd dX7_table_72 ?_
      refine r_iconst (x := 1) dX7_table_73 (by decide) ?_
      obtain ⟨h8, e⟩ := g_gd e
      refine q_iast dX7_table_74 rfl h8 ?_
      refine r_aload_n dX7_table_75 rfl rfl ?_
      refine q_getr dX7_table_76 flX7_42 rfl rfl (m_fr_64_12 _) ?_
      refine r_iconst (x := 5) dX7_table_79 (by decide) ?_
      refine r_aload_n dX7_table_80 rfl rfl ?_
      refine q_geti dX7_table_81 flX7_92 rfl rfl ?_
      refine r_imul dX7_table_84 ?_
      refine r_iload_n dX7_table_85 rfl rfl ?_
      refine r_iadd dX7_table_86 ?_
      refine r_iconst (x := 0) dX7_table_87 (by decide) ?_
      obtain ⟨h9, e⟩ := g_gd e
      refine q_iast dX7_table_88 rfl h9 ?_
      refine r_iinc (y := 1) dX7_table_89 rfl (by decide) (by decide) rfl ?_
      refine r_goto (tgt := 56) dX7_table_92 (by decide) ?_
      exact w_X7_table_56 n _ _ R e
set_option maxRecDepth 100000 in
set_option maxHeartbeats 4000000 in
theorem c_X7_table {G : mG} {g : (Nat → Nat → Int32)} {b : Bool} {R : (Int32 × (Nat → Nat → Int32))} (e : f_X7_table g = some R) : MC G mX7_table 1 0 0 [.ref 64] (m_h g b) (some (.int R.1)) (m_h R.2 b) := by
  refine MC_intro mlX7_table (Nat.le_of_ble_eq_true rfl) ⟨_, rfl⟩ rfl trivial ?_
  unfold f_X7_table at e
  refine r_aload_n dX7_table_0 rfl rfl ?_
  refine q_geti dX7_table_1 flX7_92 rfl rfl ?_
  refine r_iconst (x := 4) dX7_table_4 (by decide) ?_
  refine r_icmp_ne (tgt := 11) dX7_table_5 (by decide) (fun h1 => ?_) (fun h1 => ?_)
  · have e := g_iF h1 e
    refine r_aload_n dX7_table_11 rfl rfl ?_
    refine q_getr dX7_table_12 flX7_9 rfl rfl (m_fr_64_2 _) ?_
    refine r_aload_n dX7_table_15 rfl rfl ?_
    refine q_geti dX7_table_16 flX7_92 rfl rfl ?_
    refine r_iconst (x := 1) dX7_table_19 (by decide) ?_
    obtain ⟨h2, e⟩ := g_gd e
    refine q_iast dX7_table_20 rfl h2 ?_
    refine r_aload_n dX7_table_21 rfl rfl ?_
    refine q_getr dX7_table_22 flX7_15 rfl rfl (m_fr_64_3 _) ?_
    refine r_aload_n dX7_table_25 rfl rfl ?_
    refine q_geti dX7_table_26 flX7_92 rfl rfl ?_
    refine r_iconst (x := 0) dX7_table_29 (by decide) ?_
    obtain ⟨h3, e⟩ := g_gd e
    refine q_iast dX7_table_30 rfl h3 ?_
    refine r_aload_n dX7_table_31 rfl rfl ?_
    refine q_getr dX7_table_32 flX7_18 rfl rfl (m_fr_64_4 _) ?_
    refine r_aload_n dX7_table_35 rfl rfl ?_
    refine q_geti dX7_table_36 flX7_92 rfl rfl ?_
    refine r_iconst (x := 0) dX7_table_39 (by decide) ?_
    obtain ⟨h4, e⟩ := g_gd e
    refine q_iast dX7_table_40 rfl h4 ?_
    refine r_aload_n dX7_table_41 rfl rfl ?_
    refine r_bipush (x := 6) dX7_table_42 (by decide) ?_
    refine r_aload_n dX7_table_44 rfl rfl ?_
    refine q_geti dX7_table_45 flX7_92 rfl rfl ?_
    refine r_imul dX7_table_48 ?_
    refine r_iconst (x := 0) dX7_table_49 (by decide) ?_
    refine r_iconst (x := 0) dX7_table_50 (by decide) ?_
    obtain ⟨v5, h6, e⟩ := g_bd e
    refine q_callV (rest := []) (c_X7_begin h6) dX7_table_51 lkX7_108 rfl rfl rfl rfl (Nat.le_of_ble_eq_true rfl) (by decide) ?_
    refine r_iconst (x := 0) dX7_table_54 (by decide) ?_
    refine r_istore_n dX7_table_55 rfl (by decide) rfl ?_
    exact w_X7_table_56 2000 _ _ R e
  · have e := g_iT h1 e
    refine r_bipush (x := (-4)) dX7_table_8 (by decide) ?_
    have e := Option.some.inj e
    subst e
    exact r_ret dX7_table_10 rfl rfl
/-! X7_column -/
def f_X7_column (g : (Nat → Nat → Int32)) (a1 : Int32) (a2 : Int32) (a3 : Int32) : Option (Int32 × (Nat → Nat → Int32)) :=
  (bif (f_X7_isTable g a1) then
(if a2 = 1 then
(bif (f_X7_isTable g a3) then
(bif (f_X7_in a2 1 4) then
(if a2 = 1 then
(if m_in a1 4 then
(if (g 66 a1.toNatClampNeg) ≤ 0 then
(if (g 65 a1.toNatClampNeg) = 6 then
some ((-4), g)
else
((f_X7_begin g ((6 * a1) + (g 65 a1.toNatClampNeg)) a2 a3).bind fun v22 =>
some ((((m_up (m_up v22 65 a1.toNatClampNeg ((v22 65 a1.toNatClampNeg) + 1)) 64 16 0) 65 a1.toNatClampNeg) - 1), (m_up (m_up v22 65 a1.toNatClampNeg ((v22 65 a1.toNatClampNeg) + 1)) 64 16 0))))
else
some ((-3), g)) else none)
else
(if a3 = 0 then
(if m_in a1 4 then
(if (g 66 a1.toNatClampNeg) ≤ 0 then
(if (g 65 a1.toNatClampNeg) = 6 then
some ((-4), g)
else
((f_X7_begin g ((6 * a1) + (g 65 a1.toNatClampNeg)) a2 a3).bind fun v28 =>
some ((((m_up (m_up v28 65 a1.toNatClampNeg ((v28 65 a1.toNatClampNeg) + 1)) 64 16 0) 65 a1.toNatClampNeg) - 1), (m_up (m_up v28 65 a1.toNatClampNeg ((v28 65 a1.toNatClampNeg) + 1)) 64 16 0))))
else
some ((-3), g)) else none)
else
some ((-2), g)))
else
some ((-2), g))
else
some ((-1), g))
else
(bif (f_X7_in a2 1 4) then
(if a2 = 1 then
(if m_in a1 4 then
(if (g 66 a1.toNatClampNeg) ≤ 0 then
(if (g 65 a1.toNatClampNeg) = 6 then
some ((-4), g)
else
((f_X7_begin g ((6 * a1) + (g 65 a1.toNatClampNeg)) a2 a3).bind fun v8 =>
some ((((m_up (m_up v8 65 a1.toNatClampNeg ((v8 65 a1.toNatClampNeg) + 1)) 64 16 0) 65 a1.toNatClampNeg) - 1), (m_up (m_up v8 65 a1.toNatClampNeg ((v8 65 a1.toNatClampNeg) + 1)) 64 16 0))))
else
some ((-3), g)) else none)
else
(if a3 = 0 then
(if m_in a1 4 then
(if (g 66 a1.toNatClampNeg) ≤ 0 then
(if (g 65 a1.toNatClampNeg) = 6 then
some ((-4), g)
else
((f_X7_begin g ((6 * a1) + (g 65 a1.toNatClampNeg)) a2 a3).bind fun v14 =>
some ((((m_up (m_up v14 65 a1.toNatClampNeg ((v14 65 a1.toNatClampNeg) + 1)) 64 16 0) 65 a1.toNatClampNeg) - 1), (m_up (m_up v14 65 a1.toNatClampNeg ((v14 65 a1.toNatClampNeg) + 1)) 64 16 0))))
else
some ((-3), g)) else none)
else
some ((-2), g)))
else
some ((-2), g)))
else
some ((-1), g))
set_option maxRecDepth 100000 in
set_option maxHeartbeats 4000000 in
theorem c_X7_column {G : mG} {g : (Nat → Nat → Int32)} {b : Bool} {a1 : Int32} {a2 : Int32} {a3 : Int32} {R : (Int32 × (Nat → Nat → Int32))} (e : f_X7_column g a1 a2 a3 = some R) : MC G mX7_column 2 0 0 [.ref 64, .int a1, .int a2, .int a3] (m_h g b) (some (.int R.1)) (m_h R.2 b) := by
  refine MC_intro mlX7_column (Nat.le_of_ble_eq_true rfl) ⟨_, rfl⟩ rfl trivial ?_
  unfold f_X7_column at e
  refine r_aload_n dX7_column_0 rfl rfl ?_
  refine r_iload_n dX7_column_1 rfl rfl ?_
  refine q_callV (rest := []) (c_X7_isTable rfl) dX7_column_2 lkX7_99 rfl rfl rfl rfl (Nat.le_of_ble_eq_true rfl) (by decide) ?_
  refine r_ifeqB (tgt := 21) dX7_column_5 (by decide) (fun h1 => ?_) (fun h1 => ?_)
  · have e := g_cF h1 e
    refine r_iconst (x := (-1)) dX7_column_21 (by decide) ?_
    have e := Option.some.inj e
    subst e
    exact r_ret dX7_column_22 rfl rfl
  · have e := g_cT h1 e
    refine r_iload_n dX7_column_8 rfl rfl ?_
    refine r_iconst (x := 1) dX7_column_9 (by decide) ?_
    refine r_icmp_ne (tgt := 23) dX7_column_10 (by decide) (fun h2 => ?_) (fun h2 => ?_)
    · have e := g_iF h2 e
      refine r_iload_n dX7_column_23 rfl rfl ?_
      refine r_iconst (x := 1) dX7_column_24 (by decide) ?_
      refine r_iconst (x := 4) dX7_column_25 (by decide) ?_
      refine q_callS (rest := []) (c_X7_in rfl) dX7_column_26 lkX7_95 rfl rfl (Nat.le_of_ble_eq_true rfl) (by decide) ?_
      refine r_ifeqB (tgt := 41) dX7_column_29 (by decide) (fun h3 => ?_) (fun h3 => ?_)
      · have e := g_cF h3 e
        refine r_bipush (x := (-2)) dX7_column_41 (by decide) ?_
        have e := Option.some.inj e
        subst e
        exact r_ret dX7_column_43 rfl rfl
      · have e := g_cT h3 e
        refine r_iload_n dX7_column_32 rfl rfl ?_
        refine r_iconst (x := 1) dX7_column_33 (by decide) ?_
        refine r_icmp_eq (tgt := 44) dX7_column_34 (by decide) (fun h4 => ?_) (fun h4 => ?_)
        · have e := g_iT h4 e
          refine r_aload_n dX7_column_44 rfl rfl ?_
          refine q_getr dX7_column_45 flX7_15 rfl rfl (m_fr_64_3 _) ?_
          refine r_iload_n dX7_column_48 rfl rfl ?_
          obtain ⟨h5, e⟩ := g_gd e
          refine q_iald dX7_column_49 rfl h5 ?_
          refine r_if_le (tgt := 56) dX7_column_50 (by decide) (fun h6 => ?_) (fun h6 => ?_)
          · have e := g_iT h6 e
            refine r_aload_n dX7_column_56 rfl rfl ?_
            refine q_getr dX7_column_57 flX7_9 rfl rfl (m_fr_64_2 _) ?_
            refine r_iload_n dX7_column_60 rfl rfl ?_
            refine q_iald dX7_column_61 rfl h5 ?_
            refine r_bipush (x := 6) dX7_column_62 (by decide) ?_
            refine r_icmp_ne (tgt := 70) dX7_column_64 (by decide) (fun h7 => ?_) (fun h7 => ?_)
            · have e := g_iF h7 e
              refine r_aload_n dX7_column_70 rfl rfl ?_
              refine r_bipush (x := 6) dX7_column_71 (by decide) ?_
              refine r_iload_n dX7_column_73 rfl rfl ?_
              refine r_imul dX7_column_74 ?_
              refine r_aload_n dX7_column_75 rfl rfl ?_
              refine q_getr dX7_column_76 flX7_9 rfl rfl (m_fr_64_2 _) ?_
              refine r_iload_n dX7_column_79 rfl rfl ?_
              refine q_iald dX7_column_80 rfl h5 ?_
              refine r_iadd dX7_column_81 ?_
              refine r_iload_n dX7_column_82 rfl rfl ?_
              refine r_iload_n dX7_column_83 rfl rfl ?_
              obtain ⟨v8, h9, e⟩ := g_bd e
              refine q_callV (rest := []) (c_X7_begin h9) dX7_column_84 lkX7_108 rfl rfl rfl rfl (Nat.le_of_ble_eq_true rfl) (by decide) ?_
              refine r_aload_n dX7_column_87 rfl rfl ?_
              refine q_getr dX7_column_88 flX7_9 rfl rfl (m_fr_64_2 _) ?_
              refine r_iload_n dX7_column_91 rfl rfl ?_
              refine r_dup2 dX7_column_92 ?_
              refine q_iald dX7_column_93 rfl h5 ?_
              refine r_iconst (x := 1) dX7_column_94 (by decide) ?_
              refine r_iadd dX7_column_95 ?_
              refine q_iast dX7_column_96 rfl h5 ?_
              refine r_aload_n dX7_column_97 rfl rfl ?_
              refine r_iconst (x := 0) dX7_column_98 (by decide) ?_
              refine q_puti dX7_column_99 flX7_112 (Or.inl rfl) (Or.inr ⟨rfl, by decide⟩) rfl ?_
              refine r_aload_n dX7_column_102 rfl rfl ?_
              refine q_getr dX7_column_103 flX7_9 rfl rfl (m_fr_64_2 _) ?_
              refine r_iload_n dX7_column_106 rfl rfl ?_
              refine q_iald dX7_column_107 rfl h5 ?_
              refine r_iconst (x := 1) dX7_column_108 (by decide) ?_
              refine r_isub dX7_column_109 ?_
              have e := Option.some.inj e
              subst e
              exact r_ret dX7_column_110 rfl rfl
            · have e := g_iT h7 e
              refine r_bipush (x := (-4)) dX7_column_67 (by decide) ?_
              have e := Option.some.inj e
              subst e
              exact r_ret dX7_column_69 rfl rfl
          · have e := g_iF h6 e
            refine r_bipush (x := (-3)) dX7_column_53 (by decide) ?_
            have e := Option.some.inj e
            subst e
            exact r_ret dX7_column_55 rfl rfl
        · have e := g_iF h4 e
          refine r_iload_n dX7_column_37 rfl rfl ?_
          refine r_if_eq (tgt := 44) dX7_column_38 (by decide) (fun h10 => ?_) (fun h10 => ?_)
          · have e := g_iT h10 e
            refine r_aload_n dX7_column_44 rfl rfl ?_
            refine q_getr dX7_column_45 flX7_15 rfl rfl (m_fr_64_3 _) ?_
            refine r_iload_n dX7_column_48 rfl rfl ?_
            obtain ⟨h11, e⟩ := g_gd e
            refine q_iald dX7_column_49 rfl h11 ?_
            refine r_if_le (tgt := 56) dX7_column_50 (by decide) (fun h12 => ?_) (fun h12 => ?_)
            · have e := g_iT h12 e
              refine r_aload_n dX7_column_56 rfl rfl ?_
              refine q_getr dX7_column_57 flX7_9 rfl rfl (m_fr_64_2 _) ?_
              refine r_iload_n dX7_column_60 rfl rfl ?_
              refine q_iald dX7_column_61 rfl h11 ?_
              refine r_bipush (x := 6) dX7_column_62 (by decide) ?_
              refine r_icmp_ne (tgt := 70) dX7_column_64 (by decide) (fun h13 => ?_) (fun h13 => ?_)
              · have e := g_iF h13 e
                refine r_aload_n dX7_column_70 rfl rfl ?_
                refine r_bipush (x := 6) dX7_column_71 (by decide) ?_
                refine r_iload_n dX7_column_73 rfl rfl ?_
                refine r_imul dX7_column_74 ?_
                refine r_aload_n dX7_column_75 rfl rfl ?_
                refine q_getr dX7_column_76 flX7_9 rfl rfl (m_fr_64_2 _) ?_
                refine r_iload_n dX7_column_79 rfl rfl ?_
                refine q_iald dX7_column_80 rfl h11 ?_
                refine r_iadd dX7_column_81 ?_
                refine r_iload_n dX7_column_82 rfl rfl ?_
                refine r_iload_n dX7_column_83 rfl rfl ?_
                obtain ⟨v14, h15, e⟩ := g_bd e
                refine q_callV (rest := []) (c_X7_begin h15) dX7_column_84 lkX7_108 rfl rfl rfl rfl (Nat.le_of_ble_eq_true rfl) (by decide) ?_
                refine r_aload_n dX7_column_87 rfl rfl ?_
                refine q_getr dX7_column_88 flX7_9 rfl rfl (m_fr_64_2 _) ?_
                refine r_iload_n dX7_column_91 rfl rfl ?_
                refine r_dup2 dX7_column_92 ?_
                refine q_iald dX7_column_93 rfl h11 ?_
                refine r_iconst (x := 1) dX7_column_94 (by decide) ?_
                refine r_iadd dX7_column_95 ?_
                refine q_iast dX7_column_96 rfl h11 ?_
                refine r_aload_n dX7_column_97 rfl rfl ?_
                refine r_iconst (x := 0) dX7_column_98 (by decide) ?_
                refine q_puti dX7_column_99 flX7_112 (Or.inl rfl) (Or.inr ⟨rfl, by decide⟩) rfl ?_
                refine r_aload_n dX7_column_102 rfl rfl ?_
                refine q_getr dX7_column_103 flX7_9 rfl rfl (m_fr_64_2 _) ?_
                refine r_iload_n dX7_column_106 rfl rfl ?_
                refine q_iald dX7_column_107 rfl h11 ?_
                refine r_iconst (x := 1) dX7_column_108 (by decide) ?_
                refine r_isub dX7_column_109 ?_
                have e := Option.some.inj e
                subst e
                exact r_ret dX7_column_110 rfl rfl
              · have e := g_iT h13 e
                refine r_bipush (x := (-4)) dX7_column_67 (by decide) ?_
                have e := Option.some.inj e
                subst e
                exact r_ret dX7_column_69 rfl rfl
            · have e := g_iF h12 e
              refine r_bipush (x := (-3)) dX7_column_53 (by decide) ?_
              have e := Option.some.inj e
              subst e
              exact r_ret dX7_column_55 rfl rfl
          · have e := g_iF h10 e
            refine r_bipush (x := (-2)) dX7_column_41 (by decide) ?_
            have e := Option.some.inj e
            subst e
            exact r_ret dX7_column_43 rfl rfl
    · have e := g_iT h2 e
      refine r_aload_n dX7_column_13 rfl rfl ?_
      refine r_iload_n dX7_column_14 rfl rfl ?_
      refine q_callV (rest := []) (c_X7_isTable rfl) dX7_column_15 lkX7_99 rfl rfl rfl rfl (Nat.le_of_ble_eq_true rfl) (by decide) ?_
      refine r_ifneB (tgt := 23) dX7_column_18 (by decide) (fun h16 => ?_) (fun h16 => ?_)
      · have e := g_cT h16 e
        refine r_iload_n dX7_column_23 rfl rfl ?_
        refine r_iconst (x := 1) dX7_column_24 (by decide) ?_
        refine r_iconst (x := 4) dX7_column_25 (by decide) ?_
        refine q_callS (rest := []) (c_X7_in rfl) dX7_column_26 lkX7_95 rfl rfl (Nat.le_of_ble_eq_true rfl) (by decide) ?_
        refine r_ifeqB (tgt := 41) dX7_column_29 (by decide) (fun h17 => ?_) (fun h17 => ?_)
        · have e := g_cF h17 e
          refine r_bipush (x := (-2)) dX7_column_41 (by decide) ?_
          have e := Option.some.inj e
          subst e
          exact r_ret dX7_column_43 rfl rfl
        · have e := g_cT h17 e
          refine r_iload_n dX7_column_32 rfl rfl ?_
          refine r_iconst (x := 1) dX7_column_33 (by decide) ?_
          refine r_icmp_eq (tgt := 44) dX7_column_34 (by decide) (fun h18 => ?_) (fun h18 => ?_)
          · have e := g_iT h18 e
            refine r_aload_n dX7_column_44 rfl rfl ?_
            refine q_getr dX7_column_45 flX7_15 rfl rfl (m_fr_64_3 _) ?_
            refine r_iload_n dX7_column_48 rfl rfl ?_
            obtain ⟨h19, e⟩ := g_gd e
            refine q_iald dX7_column_49 rfl h19 ?_
            refine r_if_le (tgt := 56) dX7_column_50 (by decide) (fun h20 => ?_) (fun h20 => ?_)
            · have e := g_iT h20 e
              refine r_aload_n dX7_column_56 rfl rfl ?_
              refine q_getr dX7_column_57 flX7_9 rfl rfl (m_fr_64_2 _) ?_
              refine r_iload_n dX7_column_60 rfl rfl ?_
              refine q_iald dX7_column_61 rfl h19 ?_
              refine r_bipush (x := 6) dX7_column_62 (by decide) ?_
              refine r_icmp_ne (tgt := 70) dX7_column_64 (by decide) (fun h21 => ?_) (fun h21 => ?_)
              · have e := g_iF h21 e
                refine r_aload_n dX7_column_70 rfl rfl ?_
                refine r_bipush (x := 6) dX7_column_71 (by decide) ?_
                refine r_iload_n dX7_column_73 rfl rfl ?_
                refine r_imul dX7_column_74 ?_
                refine r_aload_n dX7_column_75 rfl rfl ?_
                refine q_getr dX7_column_76 flX7_9 rfl rfl (m_fr_64_2 _) ?_
                refine r_iload_n dX7_column_79 rfl rfl ?_
                refine q_iald dX7_column_80 rfl h19 ?_
                refine r_iadd dX7_column_81 ?_
                refine r_iload_n dX7_column_82 rfl rfl ?_
                refine r_iload_n dX7_column_83 rfl rfl ?_
                obtain ⟨v22, h23, e⟩ := g_bd e
                refine q_callV (rest := []) (c_X7_begin h23) dX7_column_84 lkX7_108 rfl rfl rfl rfl (Nat.le_of_ble_eq_true rfl) (by decide) ?_
                refine r_aload_n dX7_column_87 rfl rfl ?_
                refine q_getr dX7_column_88 flX7_9 rfl rfl (m_fr_64_2 _) ?_
                refine r_iload_n dX7_column_91 rfl rfl ?_
                refine r_dup2 dX7_column_92 ?_
                refine q_iald dX7_column_93 rfl h19 ?_
                refine r_iconst (x := 1) dX7_column_94 (by decide) ?_
                refine r_iadd dX7_column_95 ?_
                refine q_iast dX7_column_96 rfl h19 ?_
                refine r_aload_n dX7_column_97 rfl rfl ?_
                refine r_iconst (x := 0) dX7_column_98 (by decide) ?_
                refine q_puti dX7_column_99 flX7_112 (Or.inl rfl) (Or.inr ⟨rfl, by decide⟩) rfl ?_
                refine r_aload_n dX7_column_102 rfl rfl ?_
                refine q_getr dX7_column_103 flX7_9 rfl rfl (m_fr_64_2 _) ?_
                refine r_iload_n dX7_column_106 rfl rfl ?_
                refine q_iald dX7_column_107 rfl h19 ?_
                refine r_iconst (x := 1) dX7_column_108 (by decide) ?_
                refine r_isub dX7_column_109 ?_
                have e := Option.some.inj e
                subst e
                exact r_ret dX7_column_110 rfl rfl
              · have e := g_iT h21 e
                refine r_bipush (x := (-4)) dX7_column_67 (by decide) ?_
                have e := Option.some.inj e
                subst e
                exact r_ret dX7_column_69 rfl rfl
            · have e := g_iF h20 e
              refine r_bipush (x := (-3)) dX7_column_53 (by decide) ?_
              have e := Option.some.inj e
              subst e
              exact r_ret dX7_column_55 rfl rfl
          · have e := g_iF h18 e
            refine r_iload_n dX7_column_37 rfl rfl ?_
            refine r_if_eq (tgt := 44) dX7_column_38 (by decide) (fun h24 => ?_) (fun h24 => ?_)
            · have e := g_iT h24 e
              refine r_aload_n dX7_column_44 rfl rfl ?_
              refine q_getr dX7_column_45 flX7_15 rfl rfl (m_fr_64_3 _) ?_
              refine r_iload_n dX7_column_48 rfl rfl ?_
              obtain ⟨h25, e⟩ := g_gd e
              refine q_iald dX7_column_49 rfl h25 ?_
              refine r_if_le (tgt := 56) dX7_column_50 (by decide) (fun h26 => ?_) (fun h26 => ?_)
              · have e := g_iT h26 e
                refine r_aload_n dX7_column_56 rfl rfl ?_
                refine q_getr dX7_column_57 flX7_9 rfl rfl (m_fr_64_2 _) ?_
                refine r_iload_n dX7_column_60 rfl rfl ?_
                refine q_iald dX7_column_61 rfl h25 ?_
                refine r_bipush (x := 6) dX7_column_62 (by decide) ?_
                refine r_icmp_ne (tgt := 70) dX7_column_64 (by decide) (fun h27 => ?_) (fun h27 => ?_)
                · have e := g_iF h27 e
                  refine r_aload_n dX7_column_70 rfl rfl ?_
                  refine r_bipush (x := 6) dX7_column_71 (by decide) ?_
                  refine r_iload_n dX7_column_73 rfl rfl ?_
                  refine r_imul dX7_column_74 ?_
                  refine r_aload_n dX7_column_75 rfl rfl ?_
                  refine q_getr dX7_column_76 flX7_9 rfl rfl (m_fr_64_2 _) ?_
                  refine r_iload_n dX7_column_79 rfl rfl ?_
                  refine q_iald dX7_column_80 rfl h25 ?_
                  refine r_iadd dX7_column_81 ?_
                  refine r_iload_n dX7_column_82 rfl rfl ?_
                  refine r_iload_n dX7_column_83 rfl rfl ?_
                  obtain ⟨v28, h29, e⟩ := g_bd e
                  refine q_callV (rest := []) (c_X7_begin h29) dX7_column_84 lkX7_108 rfl rfl rfl rfl (Nat.le_of_ble_eq_true rfl) (by decide) ?_
                  refine r_aload_n dX7_column_87 rfl rfl ?_
                  refine q_getr dX7_column_88 flX7_9 rfl rfl (m_fr_64_2 _) ?_
                  refine r_iload_n dX7_column_91 rfl rfl ?_
                  refine r_dup2 dX7_column_92 ?_
                  refine q_iald dX7_column_93 rfl h25 ?_
                  refine r_iconst (x := 1) dX7_column_94 (by decide) ?_
                  refine r_iadd dX7_column_95 ?_
                  refine q_iast dX7_column_96 rfl h25 ?_
                  refine r_aload_n dX7_column_97 rfl rfl ?_
                  refine r_iconst (x := 0) dX7_column_98 (by decide) ?_
                  refine q_puti dX7_column_99 flX7_112 (Or.inl rfl) (Or.inr ⟨rfl, by decide⟩) rfl ?_
                  refine r_aload_n dX7_column_102 rfl rfl ?_
                  refine q_getr dX7_column_103 flX7_9 rfl rfl (m_fr_64_2 _) ?_
                  refine r_iload_n dX7_column_106 rfl rfl ?_
                  refine q_iald dX7_column_107 rfl h25 ?_
                  refine r_iconst (x := 1) dX7_column_108 (by decide) ?_
                  refine r_isub dX7_column_109 ?_
                  have e := Option.some.inj e
                  subst e
                  exact r_ret dX7_column_110 rfl rfl
                · have e := g_iT h27 e
                  refine r_bipush (x := (-4)) dX7_column_67 (by decide) ?_
                  have e := Option.some.inj e
                  subst e
                  exact r_ret dX7_column_69 rfl rfl
              · have e := g_iF h26 e
                refine r_bipush (x := (-3)) dX7_column_53 (by decide) ?_
                have e := Option.some.inj e
                subst e
                exact r_ret dX7_column_55 rfl rfl
            · have e := g_iF h24 e
              refine r_bipush (x := (-2)) dX7_column_41 (by decide) ?_
              have e := Option.some.inj e
              subst e
              exact r_ret dX7_column_43 rfl rfl
      · have e := g_cF h16 e
        refine r_iconst (x := (-1)) dX7_column_21 (by decide) ?_
        have e := Option.some.inj e
        subst e
        exact r_ret dX7_column_22 rfl rfl
/-! X7_cell_ -/
def f_X7_cell_ (g : (Nat → Nat → Int32)) (a1 : Int32) : Option (Int32 × (Nat → Nat → Int32)) :=
  (if (g 64 19) = 6 then
some ((-4), g)
else
(if m_in (g 64 19) 6 then
some (((m_up (m_up g 79 (g 64 19).toNatClampNeg a1) 64 19 (((m_up g 79 (g 64 19).toNatClampNeg a1) 64 19) + 1)) 64 19), (m_up (m_up g 79 (g 64 19).toNatClampNeg a1) 64 19 (((m_up g 79 (g 64 19).toNatClampNeg a1) 64 19) + 1))) else none))
set_option maxRecDepth 100000 in
set_option maxHeartbeats 4000000 in
theorem c_X7_cell_ {G : mG} {g : (Nat → Nat → Int32)} {b : Bool} {a1 : Int32} {R : (Int32 × (Nat → Nat → Int32))} (e : f_X7_cell_ g a1 = some R) : MC G mX7_cell_ 0 0 0 [.ref 64, .int a1] (m_h g b) (some (.int R.1)) (m_h R.2 b) := by
  refine MC_intro mlX7_cell_ (Nat.le_of_ble_eq_true rfl) ⟨_, rfl⟩ rfl trivial ?_
  unfold f_X7_cell_ at e
  refine r_aload_n dX7_cell__0 rfl rfl ?_
  refine q_geti dX7_cell__1 flX7_116 rfl rfl ?_
  refine r_bipush (x := 6) dX7_cell__4 (by decide) ?_
  refine r_icmp_ne (tgt := 12) dX7_cell__6 (by decide) (fun h1 => ?_) (fun h1 => ?_)
  · have e := g_iF h1 e
    refine r_aload_n dX7_cell__12 rfl rfl ?_
    refine q_getr dX7_cell__13 flX7_54 rfl rfl (m_fr_64_18 _) ?_
    refine r_aload_n dX7_cell__16 rfl rfl ?_
    refine q_geti dX7_cell__17 flX7_116 rfl rfl ?_
    refine r_iload_n dX7_cell__20 rfl rfl ?_
    obtain ⟨h2, e⟩ := g_gd e
    refine q_iast dX7_cell__21 rfl h2 ?_
    refine r_aload_n dX7_cell__22 rfl rfl ?_
    refine r_dup dX7_cell__23 ?_
    refine q_geti dX7_cell__24 flX7_116 rfl rfl ?_
    refine r_iconst (x := 1) dX7_cell__27 (by decide) ?_
    refine r_iadd dX7_cell__28 ?_
    refine q_puti dX7_cell__29 flX7_116 (Or.inl rfl) (Or.inl rfl) rfl ?_
    refine r_aload_n dX7_cell__32 rfl rfl ?_
    refine q_geti dX7_cell__33 flX7_116 rfl rfl ?_
    have e := Option.some.inj e
    subst e
    exact r_ret dX7_cell__36 rfl rfl
  · have e := g_iT h1 e
    refine r_bipush (x := (-4)) dX7_cell__9 (by decide) ?_
    have e := Option.some.inj e
    subst e
    exact r_ret dX7_cell__11 rfl rfl
/-! X7_wipe -/
def f_X7_wipe (g : (Nat → Nat → Int32)) : Option (Int32 × (Nat → Nat → Int32)) :=
  some ((g 64 19), (m_up g 64 19 0))
set_option maxRecDepth 100000 in
set_option maxHeartbeats 4000000 in
theorem c_X7_wipe {G : mG} {g : (Nat → Nat → Int32)} {b : Bool} {R : (Int32 × (Nat → Nat → Int32))} (e : f_X7_wipe g = some R) : MC G mX7_wipe 0 0 0 [.ref 64] (m_h g b) (some (.int R.1)) (m_h R.2 b) := by
  refine MC_intro mlX7_wipe (Nat.le_of_ble_eq_true rfl) ⟨_, rfl⟩ rfl trivial ?_
  unfold f_X7_wipe at e
  refine r_aload_n dX7_wipe_0 rfl rfl ?_
  refine q_geti dX7_wipe_1 flX7_116 rfl rfl ?_
  refine r_istore_n dX7_wipe_4 rfl (by decide) rfl ?_
  refine r_aload_n dX7_wipe_5 rfl rfl ?_
  refine r_iconst (x := 0) dX7_wipe_6 (by decide) ?_
  refine q_puti dX7_wipe_7 flX7_116 (Or.inl rfl) (Or.inl rfl) rfl ?_
  refine r_iload_n dX7_wipe_10 rfl rfl ?_
  have e := Option.some.inj e
  subst e
  exact r_ret dX7_wipe_11 rfl rfl
/-! X7_isOf -/
def f_X7_isOf (a1 : Int32) (a2 : Int32) : Bool :=
  (if a2 = (-2147483648) then
(if a1 = 0 then
false
else
true)
else
(if a1 = 2 then
(f_X7_in a2 0 9999)
else
(if a1 = 3 then
(f_X7_in a2 (-9999) 9999)
else
(if a1 = 4 then
(f_X7_in a2 0 99)
else
(f_X7_isKey a2)))))
set_option maxRecDepth 100000 in
set_option maxHeartbeats 4000000 in
theorem c_X7_isOf {G : mG} {g : (Nat → Nat → Int32)} {b : Bool} {a1 : Int32} {a2 : Int32} {R : Bool} (e : f_X7_isOf a1 a2 = R) : MC G mX7_isOf 2 0 0 [.int a1, .int a2] (m_h g b) (some (.int (m_bi R))) (m_h g b) := by
  refine MC_intro mlX7_isOf (Nat.le_of_ble_eq_true rfl) (m_okZ _) rfl trivial ?_
  unfold f_X7_isOf at e
  refine r_iload_n dX7_isOf_0 rfl rfl ?_
  refine r_ldc (x := (-2147483648)) dX7_isOf_1 kcX7_119 ?_
  refine r_icmp_ne (tgt := 16) dX7_isOf_3 (by decide) (fun h1 => ?_) (fun h1 => ?_)
  · have e := g_iF h1 e
    refine r_iload_n dX7_isOf_16 rfl rfl ?_
    by_cases h2 : a1 = 2
    · have e := g_iT h2 e
      refine r_tabIn (tgt := 44) dX7_isOf_17 (by rw [h2]; decide) (by rw [h2]; decide) (by rw [h2]; decide) (by decide) ?_
      refine r_iload_n dX7_isOf_44 rfl rfl ?_
      refine r_iconst (x := 0) dX7_isOf_45 (by decide) ?_
      refine r_sipush (x := 9999) dX7_isOf_46 (by decide) ?_
      refine q_callS (rest := []) (c_X7_in rfl) dX7_isOf_49 lkX7_95 rfl rfl (Nat.le_of_ble_eq_true rfl) (by decide) ?_
      subst e
      exact r_ret dX7_isOf_52 rfl rfl
    have e := g_iF h2 e
    by_cases h3 : a1 = 3
    · have e := g_iT h3 e
      refine r_tabIn (tgt := 53) dX7_isOf_17 (by rw [h3]; decide) (by rw [h3]; decide) (by rw [h3]; decide) (by decide) ?_
      refine r_iload_n dX7_isOf_53 rfl rfl ?_
      refine r_sipush (x := (-9999)) dX7_isOf_54 (by decide) ?_
      refine r_sipush (x := 9999) dX7_isOf_57 (by decide) ?_
      refine q_callS (rest := []) (c_X7_in rfl) dX7_isOf_60 lkX7_95 rfl rfl (Nat.le_of_ble_eq_true rfl) (by decide) ?_
      subst e
      exact r_ret dX7_isOf_63 rfl rfl
    have e := g_iF h3 e
    by_cases h4 : a1 = 4
    · have e := g_iT h4 e
      refine r_tabIn (tgt := 64) dX7_isOf_17 (by rw [h4]; decide) (by rw [h4]; decide) (by rw [h4]; decide) (by decide) ?_
      refine r_iload_n dX7_isOf_64 rfl rfl ?_
      refine r_iconst (x := 0) dX7_isOf_65 (by decide) ?_
      refine r_bipush (x := 99) dX7_isOf_66 (by decide) ?_
      refine q_callS (rest := []) (c_X7_in rfl) dX7_isOf_68 lkX7_95 rfl rfl (Nat.le_of_ble_eq_true rfl) (by decide) ?_
      subst e
      exact r_ret dX7_isOf_71 rfl rfl
    have e := g_iF h4 e
    refine r_tabOut (tgt := 72) dX7_isOf_17 (m_swOut2_3 h2 h3 h4) (by decide) ?_
    refine r_iload_n dX7_isOf_72 rfl rfl ?_
    refine q_callS (rest := []) (c_X7_isKey rfl) dX7_isOf_73 lkX7_120 rfl rfl (Nat.le_of_ble_eq_true rfl) (by decide) ?_
    subst e
    exact r_ret dX7_isOf_76 rfl rfl
  · have e := g_iT h1 e
    refine r_iload_n dX7_isOf_6 rfl rfl ?_
    refine r_if_eq (tgt := 14) dX7_isOf_7 (by decide) (fun h5 => ?_) (fun h5 => ?_)
    · have e := g_iT h5 e
      refine r_iconst (x := 0) dX7_isOf_14 (by decide) ?_
      subst e
      exact r_ret dX7_isOf_15 rfl rfl
    · have e := g_iF h5 e
      refine r_iconst (x := 1) dX7_isOf_10 (by decide) ?_
      refine r_goto (tgt := 15) dX7_isOf_11 (by decide) ?_
      subst e
      exact r_ret dX7_isOf_15 rfl rfl
end

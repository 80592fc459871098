section
-- ===== PART A: goes FIRST, ahead of the names: the tables' words, and 'selects' of the private methods out of them =====
/-- a private method of a class that the tables say can be made, by its rows of tables_1 -/
def lw_okq (q : MethodName × Nat) : Prop := (q.1.cls ≠ "java/lang/invoke/MethodHandle" ∧ q.1.cls ≠ "java/lang/invoke/VarHandle") ∧ Cond.instantiable q.1.cls q.2 ∈ tables_1 ∧ Cond.privateMethod q.1 ∈ tables_1 ∧ Cond.instanceMethod q.1 ∈ tables_1
theorem lw_p0 : lw_okq (⟨"PatternSearch$Reader", "readChoice", "()LPatternSearch$Choice;"⟩, 5) := ⟨⟨by decide +kernel, by decide +kernel⟩, List.mem_of_getElem? (i := 169) (by decide +kernel), List.mem_of_getElem? (i := 191) (by decide +kernel), List.mem_of_getElem? (i := 192) (by decide +kernel)⟩
theorem lw_p1 : lw_okq (⟨"PatternSearch$Reader", "readRow", "()LPatternSearch$Row;"⟩, 5) := ⟨⟨by decide +kernel, by decide +kernel⟩, List.mem_of_getElem? (i := 169) (by decide +kernel), List.mem_of_getElem? (i := 212) (by decide +kernel), List.mem_of_getElem? (i := 213) (by decide +kernel)⟩
theorem lw_p2 : lw_okq (⟨"PatternSearch$Reader", "peek", "()I"⟩, 5) := ⟨⟨by decide +kernel, by decide +kernel⟩, List.mem_of_getElem? (i := 169) (by decide +kernel), List.mem_of_getElem? (i := 239) (by decide +kernel), List.mem_of_getElem? (i := 240) (by decide +kernel)⟩
theorem lw_p3 : lw_okq (⟨"PatternSearch$Reader", "beginsAtom", "(I)Z"⟩, 5) := ⟨⟨by decide +kernel, by decide +kernel⟩, List.mem_of_getElem? (i := 169) (by decide +kernel), List.mem_of_getElem? (i := 247) (by decide +kernel), List.mem_of_getElem? (i := 248) (by decide +kernel)⟩
theorem lw_p4 : lw_okq (⟨"PatternSearch$Reader", "readPiece", "()LPatternSearch$Piece;"⟩, 5) := ⟨⟨by decide +kernel, by decide +kernel⟩, List.mem_of_getElem? (i := 169) (by decide +kernel), List.mem_of_getElem? (i := 342) (by decide +kernel), List.mem_of_getElem? (i := 343) (by decide +kernel)⟩
theorem lw_p5 : lw_okq (⟨"PatternSearch$Reader", "readAtom", "()LPatternSearch$Atom;"⟩, 5) := ⟨⟨by decide +kernel, by decide +kernel⟩, List.mem_of_getElem? (i := 169) (by decide +kernel), List.mem_of_getElem? (i := 348) (by decide +kernel), List.mem_of_getElem? (i := 349) (by decide +kernel)⟩
theorem lw_p6 : lw_okq (⟨"PatternSearch$Reader", "readGroup", "()LPatternSearch$Atom;"⟩, 5) := ⟨⟨by decide +kernel, by decide +kernel⟩, List.mem_of_getElem? (i := 169) (by decide +kernel), List.mem_of_getElem? (i := 352) (by decide +kernel), List.mem_of_getElem? (i := 353) (by decide +kernel)⟩
theorem lw_p7 : lw_okq (⟨"PatternSearch$Reader", "expect", "(I)V"⟩, 5) := ⟨⟨by decide +kernel, by decide +kernel⟩, List.mem_of_getElem? (i := 169) (by decide +kernel), List.mem_of_getElem? (i := 389) (by decide +kernel), List.mem_of_getElem? (i := 390) (by decide +kernel)⟩
theorem lw_p8 : lw_okq (⟨"PatternSearch$Reader", "take", "(I)Z"⟩, 5) := ⟨⟨by decide +kernel, by decide +kernel⟩, List.mem_of_getElem? (i := 169) (by decide +kernel), List.mem_of_getElem? (i := 393) (by decide +kernel), List.mem_of_getElem? (i := 394) (by decide +kernel)⟩
theorem lw_p9 : lw_okq (⟨"PatternSearch$Reader", "readClass", "()LPatternSearch$Atom;"⟩, 5) := ⟨⟨by decide +kernel, by decide +kernel⟩, List.mem_of_getElem? (i := 169) (by decide +kernel), List.mem_of_getElem? (i := 397) (by decide +kernel), List.mem_of_getElem? (i := 398) (by decide +kernel)⟩
theorem lw_p10 : lw_okq (⟨"PatternSearch$Reader", "readItem", "(LPatternSearch$Atom;)V"⟩, 5) := ⟨⟨by decide +kernel, by decide +kernel⟩, List.mem_of_getElem? (i := 169) (by decide +kernel), List.mem_of_getElem? (i := 401) (by decide +kernel), List.mem_of_getElem? (i := 402) (by decide +kernel)⟩
theorem lw_p11 : lw_okq (⟨"PatternSearch$Reader", "readItemSign", "(I)I"⟩, 5) := ⟨⟨by decide +kernel, by decide +kernel⟩, List.mem_of_getElem? (i := 169) (by decide +kernel), List.mem_of_getElem? (i := 405) (by decide +kernel), List.mem_of_getElem? (i := 406) (by decide +kernel)⟩
theorem lw_p12 : lw_okq (⟨"PatternSearch$Reader", "readRepetition", "(LPatternSearch$Piece;)Z"⟩, 5) := ⟨⟨by decide +kernel, by decide +kernel⟩, List.mem_of_getElem? (i := 169) (by decide +kernel), List.mem_of_getElem? (i := 454) (by decide +kernel), List.mem_of_getElem? (i := 455) (by decide +kernel)⟩
theorem lw_p13 : lw_okq (⟨"PatternSearch$Reader", "readBraces", "(LPatternSearch$Piece;)V"⟩, 5) := ⟨⟨by decide +kernel, by decide +kernel⟩, List.mem_of_getElem? (i := 169) (by decide +kernel), List.mem_of_getElem? (i := 466) (by decide +kernel), List.mem_of_getElem? (i := 467) (by decide +kernel)⟩
theorem lw_p14 : lw_okq (⟨"PatternSearch$Reader", "readDigit", "(I)I"⟩, 5) := ⟨⟨by decide +kernel, by decide +kernel⟩, List.mem_of_getElem? (i := 169) (by decide +kernel), List.mem_of_getElem? (i := 470) (by decide +kernel), List.mem_of_getElem? (i := 471) (by decide +kernel)⟩
theorem lw_p15 : lw_okq (⟨"PatternSearch$Program", "addStep", "(II)I"⟩, 8) := ⟨⟨by decide +kernel, by decide +kernel⟩, List.mem_of_getElem? (i := 48) (by decide +kernel), List.mem_of_getElem? (i := 529) (by decide +kernel), List.mem_of_getElem? (i := 530) (by decide +kernel)⟩
def lw_privs_1 : List (MethodName × Nat) := [(⟨"PatternSearch$Reader", "readChoice", "()LPatternSearch$Choice;"⟩, 5), (⟨"PatternSearch$Reader", "readRow", "()LPatternSearch$Row;"⟩, 5), (⟨"PatternSearch$Reader", "peek", "()I"⟩, 5), (⟨"PatternSearch$Reader", "beginsAtom", "(I)Z"⟩, 5), (⟨"PatternSearch$Reader", "readPiece", "()LPatternSearch$Piece;"⟩, 5), (⟨"PatternSearch$Reader", "readAtom", "()LPatternSearch$Atom;"⟩, 5), (⟨"PatternSearch$Reader", "readGroup", "()LPatternSearch$Atom;"⟩, 5), (⟨"PatternSearch$Reader", "expect", "(I)V"⟩, 5), (⟨"PatternSearch$Reader", "take", "(I)Z"⟩, 5), (⟨"PatternSearch$Reader", "readClass", "()LPatternSearch$Atom;"⟩, 5), (⟨"PatternSearch$Reader", "readItem", "(LPatternSearch$Atom;)V"⟩, 5), (⟨"PatternSearch$Reader", "readItemSign", "(I)I"⟩, 5), (⟨"PatternSearch$Reader", "readRepetition", "(LPatternSearch$Piece;)Z"⟩, 5), (⟨"PatternSearch$Reader", "readBraces", "(LPatternSearch$Piece;)V"⟩, 5), (⟨"PatternSearch$Reader", "readDigit", "(I)I"⟩, 5), (⟨"PatternSearch$Program", "addStep", "(II)I"⟩, 8)]
theorem lw_r1 : ∀ q ∈ lw_privs_1, lw_okq q := List.forall_mem_cons.mpr ⟨lw_p0, List.forall_mem_cons.mpr ⟨lw_p1, List.forall_mem_cons.mpr ⟨lw_p2, List.forall_mem_cons.mpr ⟨lw_p3, List.forall_mem_cons.mpr ⟨lw_p4, List.forall_mem_cons.mpr ⟨lw_p5, List.forall_mem_cons.mpr ⟨lw_p6, List.forall_mem_cons.mpr ⟨lw_p7, List.forall_mem_cons.mpr ⟨lw_p8, List.forall_mem_cons.mpr ⟨lw_p9, List.forall_mem_cons.mpr ⟨lw_p10, List.forall_mem_cons.mpr ⟨lw_p11, List.forall_mem_cons.mpr ⟨lw_p12, List.forall_mem_cons.mpr ⟨lw_p13, List.forall_mem_cons.mpr ⟨lw_p14, List.forall_mem_cons.mpr ⟨lw_p15, fun _ h => absurd h List.not_mem_nil⟩⟩⟩⟩⟩⟩⟩⟩⟩⟩⟩⟩⟩⟩⟩⟩
theorem lw_p16 : lw_okq (⟨"PatternSearch$Program", "addChoice", "(LPatternSearch$Choice;II)I"⟩, 8) := ⟨⟨by decide +kernel, by decide +kernel⟩, List.mem_of_getElem? (i := 48) (by decide +kernel), List.mem_of_getElem? (i := 534) (by decide +kernel), List.mem_of_getElem? (i := 535) (by decide +kernel)⟩
theorem lw_p17 : lw_okq (⟨"PatternSearch$Program", "addRow", "(LPatternSearch$Row;II)I"⟩, 8) := ⟨⟨by decide +kernel, by decide +kernel⟩, List.mem_of_getElem? (i := 48) (by decide +kernel), List.mem_of_getElem? (i := 538) (by decide +kernel), List.mem_of_getElem? (i := 539) (by decide +kernel)⟩
theorem lw_p18 : lw_okq (⟨"PatternSearch$Program", "addLoop", "(LPatternSearch$Piece;II)I"⟩, 8) := ⟨⟨by decide +kernel, by decide +kernel⟩, List.mem_of_getElem? (i := 48) (by decide +kernel), List.mem_of_getElem? (i := 542) (by decide +kernel), List.mem_of_getElem? (i := 543) (by decide +kernel)⟩
theorem lw_p19 : lw_okq (⟨"PatternSearch$Program", "addFork", "(II)I"⟩, 8) := ⟨⟨by decide +kernel, by decide +kernel⟩, List.mem_of_getElem? (i := 48) (by decide +kernel), List.mem_of_getElem? (i := 546) (by decide +kernel), List.mem_of_getElem? (i := 547) (by decide +kernel)⟩
theorem lw_p20 : lw_okq (⟨"PatternSearch$Program", "addAtom", "(LPatternSearch$Atom;II)I"⟩, 8) := ⟨⟨by decide +kernel, by decide +kernel⟩, List.mem_of_getElem? (i := 48) (by decide +kernel), List.mem_of_getElem? (i := 550) (by decide +kernel), List.mem_of_getElem? (i := 551) (by decide +kernel)⟩
theorem lw_p21 : lw_okq (⟨"PatternSearch$Program", "addGroup", "(LPatternSearch$Atom;II)I"⟩, 8) := ⟨⟨by decide +kernel, by decide +kernel⟩, List.mem_of_getElem? (i := 48) (by decide +kernel), List.mem_of_getElem? (i := 554) (by decide +kernel), List.mem_of_getElem? (i := 555) (by decide +kernel)⟩
theorem lw_p22 : lw_okq (⟨"PatternSearch$Program", "addMark", "(II)I"⟩, 8) := ⟨⟨by decide +kernel, by decide +kernel⟩, List.mem_of_getElem? (i := 48) (by decide +kernel), List.mem_of_getElem? (i := 561) (by decide +kernel), List.mem_of_getElem? (i := 562) (by decide +kernel)⟩
theorem lw_p23 : lw_okq (⟨"PatternSearch$Program", "addCopies", "(LPatternSearch$Piece;II)I"⟩, 8) := ⟨⟨by decide +kernel, by decide +kernel⟩, List.mem_of_getElem? (i := 48) (by decide +kernel), List.mem_of_getElem? (i := 568) (by decide +kernel), List.mem_of_getElem? (i := 569) (by decide +kernel)⟩
theorem lw_p24 : lw_okq (⟨"PatternSearch$Matcher", "aim", "(LPatternSearch$Signs;I)V"⟩, 4) := ⟨⟨by decide +kernel, by decide +kernel⟩, List.mem_of_getElem? (i := 42) (by decide +kernel), List.mem_of_getElem? (i := 600) (by decide +kernel), List.mem_of_getElem? (i := 601) (by decide +kernel)⟩
theorem lw_p25 : lw_okq (⟨"PatternSearch$Matcher", "fittingPlaces", "(ILPatternSearch$Signs;)I"⟩, 4) := ⟨⟨by decide +kernel, by decide +kernel⟩, List.mem_of_getElem? (i := 42) (by decide +kernel), List.mem_of_getElem? (i := 605) (by decide +kernel), List.mem_of_getElem? (i := 606) (by decide +kernel)⟩
theorem lw_p26 : lw_okq (⟨"PatternSearch$Matcher", "spread", "(I)Z"⟩, 4) := ⟨⟨by decide +kernel, by decide +kernel⟩, List.mem_of_getElem? (i := 42) (by decide +kernel), List.mem_of_getElem? (i := 614) (by decide +kernel), List.mem_of_getElem? (i := 615) (by decide +kernel)⟩
theorem lw_p27 : lw_okq (⟨"PatternSearch$Matcher", "leadingPlaces", "(II)I"⟩, 4) := ⟨⟨by decide +kernel, by decide +kernel⟩, List.mem_of_getElem? (i := 42) (by decide +kernel), List.mem_of_getElem? (i := 618) (by decide +kernel), List.mem_of_getElem? (i := 619) (by decide +kernel)⟩
theorem lw_p28 : lw_okq (⟨"PatternSearch$Matcher", "leadsOnFrom", "(II)Z"⟩, 4) := ⟨⟨by decide +kernel, by decide +kernel⟩, List.mem_of_getElem? (i := 42) (by decide +kernel), List.mem_of_getElem? (i := 631) (by decide +kernel), List.mem_of_getElem? (i := 632) (by decide +kernel)⟩
theorem lw_p29 : lw_okq (⟨"PatternSearch$Matcher", "walk", "(ILPatternSearch$Bounds;)V"⟩, 4) := ⟨⟨by decide +kernel, by decide +kernel⟩, List.mem_of_getElem? (i := 42) (by decide +kernel), List.mem_of_getElem? (i := 635) (by decide +kernel), List.mem_of_getElem? (i := 636) (by decide +kernel)⟩
theorem lw_p30 : lw_okq (⟨"PatternSearch$Bounds", "inSlot", "(I)I"⟩, 1) := ⟨⟨by decide +kernel, by decide +kernel⟩, List.mem_of_getElem? (i := 99) (by decide +kernel), List.mem_of_getElem? (i := 650) (by decide +kernel), List.mem_of_getElem? (i := 651) (by decide +kernel)⟩
theorem lw_p31 : lw_okq (⟨"PatternSearchModel", "check", "()I"⟩, 31) := ⟨⟨by decide +kernel, by decide +kernel⟩, List.mem_of_getElem? (i := 704) (by decide +kernel), List.mem_of_getElem? (i := 817) (by decide +kernel), List.mem_of_getElem? (i := 818) (by decide +kernel)⟩
def lw_privs_2 : List (MethodName × Nat) := [(⟨"PatternSearch$Program", "addChoice", "(LPatternSearch$Choice;II)I"⟩, 8), (⟨"PatternSearch$Program", "addRow", "(LPatternSearch$Row;II)I"⟩, 8), (⟨"PatternSearch$Program", "addLoop", "(LPatternSearch$Piece;II)I"⟩, 8), (⟨"PatternSearch$Program", "addFork", "(II)I"⟩, 8), (⟨"PatternSearch$Program", "addAtom", "(LPatternSearch$Atom;II)I"⟩, 8), (⟨"PatternSearch$Program", "addGroup", "(LPatternSearch$Atom;II)I"⟩, 8), (⟨"PatternSearch$Program", "addMark", "(II)I"⟩, 8), (⟨"PatternSearch$Program", "addCopies", "(LPatternSearch$Piece;II)I"⟩, 8), (⟨"PatternSearch$Matcher", "aim", "(LPatternSearch$Signs;I)V"⟩, 4), (⟨"PatternSearch$Matcher", "fittingPlaces", "(ILPatternSearch$Signs;)I"⟩, 4), (⟨"PatternSearch$Matcher", "spread", "(I)Z"⟩, 4), (⟨"PatternSearch$Matcher", "leadingPlaces", "(II)I"⟩, 4), (⟨"PatternSearch$Matcher", "leadsOnFrom", "(II)Z"⟩, 4), (⟨"PatternSearch$Matcher", "walk", "(ILPatternSearch$Bounds;)V"⟩, 4), (⟨"PatternSearch$Bounds", "inSlot", "(I)I"⟩, 1), (⟨"PatternSearchModel", "check", "()I"⟩, 31)]
theorem lw_r2 : ∀ q ∈ lw_privs_2, lw_okq q := List.forall_mem_cons.mpr ⟨lw_p16, List.forall_mem_cons.mpr ⟨lw_p17, List.forall_mem_cons.mpr ⟨lw_p18, List.forall_mem_cons.mpr ⟨lw_p19, List.forall_mem_cons.mpr ⟨lw_p20, List.forall_mem_cons.mpr ⟨lw_p21, List.forall_mem_cons.mpr ⟨lw_p22, List.forall_mem_cons.mpr ⟨lw_p23, List.forall_mem_cons.mpr ⟨lw_p24, List.forall_mem_cons.mpr ⟨lw_p25, List.forall_mem_cons.mpr ⟨lw_p26, List.forall_mem_cons.mpr ⟨lw_p27, List.forall_mem_cons.mpr ⟨lw_p28, List.forall_mem_cons.mpr ⟨lw_p29, List.forall_mem_cons.mpr ⟨lw_p30, List.forall_mem_cons.mpr ⟨lw_p31, fun _ h => absurd h List.not_mem_nil⟩⟩⟩⟩⟩⟩⟩⟩⟩⟩⟩⟩⟩⟩⟩⟩
theorem lw_p32 : lw_okq (⟨"PatternSearchModel", "openRow", "(I)V"⟩, 31) := ⟨⟨by decide +kernel, by decide +kernel⟩, List.mem_of_getElem? (i := 704) (by decide +kernel), List.mem_of_getElem? (i := 821) (by decide +kernel), List.mem_of_getElem? (i := 822) (by decide +kernel)⟩
theorem lw_p33 : lw_okq (⟨"PatternSearchModel", "at", "(I)I"⟩, 31) := ⟨⟨by decide +kernel, by decide +kernel⟩, List.mem_of_getElem? (i := 704) (by decide +kernel), List.mem_of_getElem? (i := 825) (by decide +kernel), List.mem_of_getElem? (i := 826) (by decide +kernel)⟩
theorem lw_p34 : lw_okq (⟨"PatternSearchModel", "passRepetition", "(I)I"⟩, 31) := ⟨⟨by decide +kernel, by decide +kernel⟩, List.mem_of_getElem? (i := 704) (by decide +kernel), List.mem_of_getElem? (i := 832) (by decide +kernel), List.mem_of_getElem? (i := 833) (by decide +kernel)⟩
theorem lw_p35 : lw_okq (⟨"PatternSearchModel", "passBraces", "(I)I"⟩, 31) := ⟨⟨by decide +kernel, by decide +kernel⟩, List.mem_of_getElem? (i := 704) (by decide +kernel), List.mem_of_getElem? (i := 836) (by decide +kernel), List.mem_of_getElem? (i := 837) (by decide +kernel)⟩
theorem lw_p36 : lw_okq (⟨"PatternSearchModel", "repeat", "(IIZZ)V"⟩, 31) := ⟨⟨by decide +kernel, by decide +kernel⟩, List.mem_of_getElem? (i := 704) (by decide +kernel), List.mem_of_getElem? (i := 840) (by decide +kernel), List.mem_of_getElem? (i := 841) (by decide +kernel)⟩
theorem lw_p37 : lw_okq (⟨"PatternSearchModel", "closePiece", "(I)V"⟩, 31) := ⟨⟨by decide +kernel, by decide +kernel⟩, List.mem_of_getElem? (i := 704) (by decide +kernel), List.mem_of_getElem? (i := 847) (by decide +kernel), List.mem_of_getElem? (i := 848) (by decide +kernel)⟩
theorem lw_p38 : lw_okq (⟨"PatternSearchModel", "passClass", "(I)I"⟩, 31) := ⟨⟨by decide +kernel, by decide +kernel⟩, List.mem_of_getElem? (i := 704) (by decide +kernel), List.mem_of_getElem? (i := 854) (by decide +kernel), List.mem_of_getElem? (i := 855) (by decide +kernel)⟩
theorem lw_p39 : lw_okq (⟨"PatternSearchModel", "write", "()V"⟩, 31) := ⟨⟨by decide +kernel, by decide +kernel⟩, List.mem_of_getElem? (i := 704) (by decide +kernel), List.mem_of_getElem? (i := 861) (by decide +kernel), List.mem_of_getElem? (i := 862) (by decide +kernel)⟩
theorem lw_p40 : lw_okq (⟨"PatternSearchModel", "open", "(II)V"⟩, 31) := ⟨⟨by decide +kernel, by decide +kernel⟩, List.mem_of_getElem? (i := 704) (by decide +kernel), List.mem_of_getElem? (i := 865) (by decide +kernel), List.mem_of_getElem? (i := 866) (by decide +kernel)⟩
theorem lw_p41 : lw_okq (⟨"PatternSearchModel", "add", "(III)V"⟩, 31) := ⟨⟨by decide +kernel, by decide +kernel⟩, List.mem_of_getElem? (i := 704) (by decide +kernel), List.mem_of_getElem? (i := 869) (by decide +kernel), List.mem_of_getElem? (i := 870) (by decide +kernel)⟩
theorem lw_p42 : lw_okq (⟨"PatternSearchModel", "writeRepetition", "(II)I"⟩, 31) := ⟨⟨by decide +kernel, by decide +kernel⟩, List.mem_of_getElem? (i := 704) (by decide +kernel), List.mem_of_getElem? (i := 873) (by decide +kernel), List.mem_of_getElem? (i := 874) (by decide +kernel)⟩
theorem lw_p43 : lw_okq (⟨"PatternSearchModel", "insert", "(III)V"⟩, 31) := ⟨⟨by decide +kernel, by decide +kernel⟩, List.mem_of_getElem? (i := 704) (by decide +kernel), List.mem_of_getElem? (i := 877) (by decide +kernel), List.mem_of_getElem? (i := 878) (by decide +kernel)⟩
theorem lw_p44 : lw_okq (⟨"PatternSearchModel", "times", "(IIIZ)V"⟩, 31) := ⟨⟨by decide +kernel, by decide +kernel⟩, List.mem_of_getElem? (i := 704) (by decide +kernel), List.mem_of_getElem? (i := 881) (by decide +kernel), List.mem_of_getElem? (i := 882) (by decide +kernel)⟩
theorem lw_p45 : lw_okq (⟨"PatternSearchModel", "copy", "(II)V"⟩, 31) := ⟨⟨by decide +kernel, by decide +kernel⟩, List.mem_of_getElem? (i := 704) (by decide +kernel), List.mem_of_getElem? (i := 885) (by decide +kernel), List.mem_of_getElem? (i := 886) (by decide +kernel)⟩
theorem lw_p46 : lw_okq (⟨"PatternSearchModel", "nextRow", "(I)V"⟩, 31) := ⟨⟨by decide +kernel, by decide +kernel⟩, List.mem_of_getElem? (i := 704) (by decide +kernel), List.mem_of_getElem? (i := 889) (by decide +kernel), List.mem_of_getElem? (i := 890) (by decide +kernel)⟩
theorem lw_p47 : lw_okq (⟨"PatternSearchModel", "close", "(I)V"⟩, 31) := ⟨⟨by decide +kernel, by decide +kernel⟩, List.mem_of_getElem? (i := 704) (by decide +kernel), List.mem_of_getElem? (i := 893) (by decide +kernel), List.mem_of_getElem? (i := 894) (by decide +kernel)⟩
def lw_privs_3 : List (MethodName × Nat) := [(⟨"PatternSearchModel", "openRow", "(I)V"⟩, 31), (⟨"PatternSearchModel", "at", "(I)I"⟩, 31), (⟨"PatternSearchModel", "passRepetition", "(I)I"⟩, 31), (⟨"PatternSearchModel", "passBraces", "(I)I"⟩, 31), (⟨"PatternSearchModel", "repeat", "(IIZZ)V"⟩, 31), (⟨"PatternSearchModel", "closePiece", "(I)V"⟩, 31), (⟨"PatternSearchModel", "passClass", "(I)I"⟩, 31), (⟨"PatternSearchModel", "write", "()V"⟩, 31), (⟨"PatternSearchModel", "open", "(II)V"⟩, 31), (⟨"PatternSearchModel", "add", "(III)V"⟩, 31), (⟨"PatternSearchModel", "writeRepetition", "(II)I"⟩, 31), (⟨"PatternSearchModel", "insert", "(III)V"⟩, 31), (⟨"PatternSearchModel", "times", "(IIIZ)V"⟩, 31), (⟨"PatternSearchModel", "copy", "(II)V"⟩, 31), (⟨"PatternSearchModel", "nextRow", "(I)V"⟩, 31), (⟨"PatternSearchModel", "close", "(I)V"⟩, 31)]
theorem lw_r3 : ∀ q ∈ lw_privs_3, lw_okq q := List.forall_mem_cons.mpr ⟨lw_p32, List.forall_mem_cons.mpr ⟨lw_p33, List.forall_mem_cons.mpr ⟨lw_p34, List.forall_mem_cons.mpr ⟨lw_p35, List.forall_mem_cons.mpr ⟨lw_p36, List.forall_mem_cons.mpr ⟨lw_p37, List.forall_mem_cons.mpr ⟨lw_p38, List.forall_mem_cons.mpr ⟨lw_p39, List.forall_mem_cons.mpr ⟨lw_p40, List.forall_mem_cons.mpr ⟨lw_p41, List.forall_mem_cons.mpr ⟨lw_p42, List.forall_mem_cons.mpr ⟨lw_p43, List.forall_mem_cons.mpr ⟨lw_p44, List.forall_mem_cons.mpr ⟨lw_p45, List.forall_mem_cons.mpr ⟨lw_p46, List.forall_mem_cons.mpr ⟨lw_p47, fun _ h => absurd h List.not_mem_nil⟩⟩⟩⟩⟩⟩⟩⟩⟩⟩⟩⟩⟩⟩⟩⟩
theorem lw_p48 : lw_okq (⟨"PatternSearchModel", "search", "(I)I"⟩, 31) := ⟨⟨by decide +kernel, by decide +kernel⟩, List.mem_of_getElem? (i := 704) (by decide +kernel), List.mem_of_getElem? (i := 913) (by decide +kernel), List.mem_of_getElem? (i := 914) (by decide +kernel)⟩
theorem lw_p49 : lw_okq (⟨"PatternSearchModel", "way", "(II)I"⟩, 31) := ⟨⟨by decide +kernel, by decide +kernel⟩, List.mem_of_getElem? (i := 704) (by decide +kernel), List.mem_of_getElem? (i := 917) (by decide +kernel), List.mem_of_getElem? (i := 918) (by decide +kernel)⟩
theorem lw_p50 : lw_okq (⟨"PatternSearchModel", "takes", "(II)Z"⟩, 31) := ⟨⟨by decide +kernel, by decide +kernel⟩, List.mem_of_getElem? (i := 704) (by decide +kernel), List.mem_of_getElem? (i := 921) (by decide +kernel), List.mem_of_getElem? (i := 922) (by decide +kernel)⟩
theorem lw_p51 : lw_okq (⟨"PatternSearchModel", "ofClass", "(II)Z"⟩, 31) := ⟨⟨by decide +kernel, by decide +kernel⟩, List.mem_of_getElem? (i := 704) (by decide +kernel), List.mem_of_getElem? (i := 925) (by decide +kernel), List.mem_of_getElem? (i := 926) (by decide +kernel)⟩
theorem lw_p52 : lw_okq (⟨"PatternSearchModel", "put", "(II)V"⟩, 31) := ⟨⟨by decide +kernel, by decide +kernel⟩, List.mem_of_getElem? (i := 704) (by decide +kernel), List.mem_of_getElem? (i := 945) (by decide +kernel), List.mem_of_getElem? (i := 946) (by decide +kernel)⟩
def lw_privs_4 : List (MethodName × Nat) := [(⟨"PatternSearchModel", "search", "(I)I"⟩, 31), (⟨"PatternSearchModel", "way", "(II)I"⟩, 31), (⟨"PatternSearchModel", "takes", "(II)Z"⟩, 31), (⟨"PatternSearchModel", "ofClass", "(II)Z"⟩, 31), (⟨"PatternSearchModel", "put", "(II)V"⟩, 31)]
theorem lw_r4 : ∀ q ∈ lw_privs_4, lw_okq q := List.forall_mem_cons.mpr ⟨lw_p48, List.forall_mem_cons.mpr ⟨lw_p49, List.forall_mem_cons.mpr ⟨lw_p50, List.forall_mem_cons.mpr ⟨lw_p51, List.forall_mem_cons.mpr ⟨lw_p52, fun _ h => absurd h List.not_mem_nil⟩⟩⟩⟩⟩
def lw_privs : List (MethodName × Nat) := lw_privs_1 ++ (lw_privs_2 ++ (lw_privs_3 ++ (lw_privs_4)))
def lw_tbl : List Cond := k2_sels lw_privs ++ tables_1
theorem lw_privs_ok : ∀ q ∈ lw_privs, lw_okq q := by
  show ∀ q ∈ lw_privs_1 ++ (lw_privs_2 ++ (lw_privs_3 ++ (lw_privs_4))), lw_okq q
  exact List.forall_mem_append.mpr ⟨lw_r1, List.forall_mem_append.mpr ⟨lw_r2, List.forall_mem_append.mpr ⟨lw_r3, lw_r4⟩⟩⟩
end
section
/-! ===== BEGIN words of one list among another's, by their places ===== -/
theorem goodIn_r {big : List Cond} (ws : List Cond) (ps : List Nat) (hp : ws = ps.filterMap (fun i => big[i]?)) (h : ws.all goodWord = true) : GoodIn big ws := by
  intro w hw
  have h1 := List.all_eq_true.mp h w hw
  rw [hp] at hw
  obtain ⟨i, -, hi⟩ := List.mem_filterMap.mp hw
  have hm : w ∈ big := by first | exact List.mem_of_getElem? hi | exact List.getElem?_mem hi
  exact ⟨hm, good_of_word h1⟩
theorem goodIn_app {big a b : List Cond} (ha : GoodIn big a) (hb : GoodIn big b) : GoodIn big (a ++ b) := fun w h => (List.mem_append.mp h).elim (ha w) (hb w)
theorem goodIn_ca {big a b : List Cond} {c : Cond} (ha : GoodIn big (c :: a)) (hb : GoodIn big b) : GoodIn big (c :: (a ++ b)) := fun w h => (List.mem_cons.mp h).elim (fun e => ha w (List.mem_cons.mpr (Or.inl e))) (fun h => (List.mem_append.mp h).elim (fun h => ha w (List.mem_cons.mpr (Or.inr h))) (hb w))
theorem goodIn_sub {big ws : List Cond} (hm : ∀ w ∈ ws, w ∈ big) (h : ws.all goodWord = true) : GoodIn big ws := fun w hw => ⟨hm w hw, good_of_word (List.all_eq_true.mp h w hw)⟩
/-! ===== END ===== -/

theorem x_in {i : Nat} {w : Cond} (h : lw_tbl[i]? = some w) (g : goodWord w = true) : w ∈ lw_tbl.filter goodWord := List.mem_filter.mpr ⟨List.mem_of_getElem? h, g⟩
def xT_AT : u_T := fun k => match k with
  | 0 => ("PatternSearch$Atom", "kind", "I", true)
  | 1 => ("PatternSearch$Atom", "low", "J", false)
  | 2 => ("PatternSearch$Atom", "high", "J", false)
  | 3 => ("PatternSearch$Atom", "group", "I", false)
  | _ => ("PatternSearch$Atom", "inner", "LPatternSearch$Choice;", false)
def xt_AT : Nat → FieldType := fun k => match k with
  | 0 => .int
  | 1 => .long
  | 2 => .long
  | 3 => .int
  | _ => .object "PatternSearch$Choice"
theorem xn_AT : ∀ a, a < 5 → ∀ b, b < 5 → a ≠ b → (xT_AT a).2.1 ≠ (xT_AT b).2.1 := by decide +kernel
theorem xo_AT : ∀ k, k < 5 → parseFieldDescriptor (xT_AT k).2.2.1 = some (xt_AT k) := by decide +kernel
def xT_BO : u_T := fun k => match k with
  | _ => ("PatternSearch$Bounds", "places", "[I", true)
def xt_BO : Nat → FieldType := fun k => match k with
  | _ => .array .int
theorem xn_BO : ∀ a, a < 1 → ∀ b, b < 1 → a ≠ b → (xT_BO a).2.1 ≠ (xT_BO b).2.1 := by decide +kernel
theorem xo_BO : ∀ k, k < 1 → parseFieldDescriptor (xT_BO k).2.2.1 = some (xt_BO k) := by decide +kernel
def xT_CH : u_T := fun k => match k with
  | 0 => ("PatternSearch$Choice", "lastRow", "LPatternSearch$Row;", false)
  | 1 => ("PatternSearch$Choice", "size", "I", false)
  | _ => ("PatternSearch$Choice", "emptyRow", "Z", false)
def xt_CH : Nat → FieldType := fun k => match k with
  | 0 => .object "PatternSearch$Row"
  | 1 => .int
  | _ => .boolean
theorem xn_CH : ∀ a, a < 3 → ∀ b, b < 3 → a ≠ b → (xT_CH a).2.1 ≠ (xT_CH b).2.1 := by decide +kernel
theorem xo_CH : ∀ k, k < 3 → parseFieldDescriptor (xT_CH k).2.2.1 = some (xt_CH k) := by decide +kernel
def xT_MA : u_T := fun k => match k with
  | 0 => ("PatternSearch$Matcher", "program", "LPatternSearch$Program;", true)
  | 1 => ("PatternSearch$Matcher", "fits", "[I", true)
  | 2 => ("PatternSearch$Matcher", "leads", "[I", true)
  | _ => ("PatternSearch$Matcher", "length", "I", false)
def xt_MA : Nat → FieldType := fun k => match k with
  | 0 => .object "PatternSearch$Program"
  | 1 => .array .int
  | 2 => .array .int
  | _ => .int
theorem xn_MA : ∀ a, a < 4 → ∀ b, b < 4 → a ≠ b → (xT_MA a).2.1 ≠ (xT_MA b).2.1 := by decide +kernel
theorem xo_MA : ∀ k, k < 4 → parseFieldDescriptor (xT_MA k).2.2.1 = some (xt_MA k) := by decide +kernel
def xT_PI : u_T := fun k => match k with
  | 0 => ("PatternSearch$Piece", "atom", "LPatternSearch$Atom;", true)
  | 1 => ("PatternSearch$Piece", "before", "LPatternSearch$Piece;", false)
  | 2 => ("PatternSearch$Piece", "least", "I", false)
  | 3 => ("PatternSearch$Piece", "most", "I", false)
  | 4 => ("PatternSearch$Piece", "unbounded", "Z", false)
  | _ => ("PatternSearch$Piece", "sparing", "Z", false)
def xt_PI : Nat → FieldType := fun k => match k with
  | 0 => .object "PatternSearch$Atom"
  | 1 => .object "PatternSearch$Piece"
  | 2 => .int
  | 3 => .int
  | 4 => .boolean
  | _ => .boolean
theorem xn_PI : ∀ a, a < 6 → ∀ b, b < 6 → a ≠ b → (xT_PI a).2.1 ≠ (xT_PI b).2.1 := by decide +kernel
theorem xo_PI : ∀ k, k < 6 → parseFieldDescriptor (xT_PI k).2.2.1 = some (xt_PI k) := by decide +kernel
def xT_PR : u_T := fun k => match k with
  | 0 => ("PatternSearch$Program", "kinds", "[I", true)
  | 1 => ("PatternSearch$Program", "nexts", "[I", true)
  | 2 => ("PatternSearch$Program", "others", "[I", true)
  | 3 => ("PatternSearch$Program", "slots", "[I", true)
  | 4 => ("PatternSearch$Program", "lows", "[J", true)
  | 5 => ("PatternSearch$Program", "highs", "[J", true)
  | 6 => ("PatternSearch$Program", "count", "I", false)
  | _ => ("PatternSearch$Program", "first", "I", false)
def xt_PR : Nat → FieldType := fun k => match k with
  | 0 => .array .int
  | 1 => .array .int
  | 2 => .array .int
  | 3 => .array .int
  | 4 => .array .long
  | 5 => .array .long
  | 6 => .int
  | _ => .int
theorem xn_PR : ∀ a, a < 8 → ∀ b, b < 8 → a ≠ b → (xT_PR a).2.1 ≠ (xT_PR b).2.1 := by decide +kernel
theorem xo_PR : ∀ k, k < 8 → parseFieldDescriptor (xT_PR k).2.2.1 = some (xt_PR k) := by decide +kernel
def xT_RE : u_T := fun k => match k with
  | 0 => ("PatternSearch$Reader", "signs", "LPatternSearch$Signs;", true)
  | 1 => ("PatternSearch$Reader", "place", "I", false)
  | 2 => ("PatternSearch$Reader", "groups", "I", false)
  | 3 => ("PatternSearch$Reader", "endless", "Z", false)
  | _ => ("PatternSearch$Reader", "stuck", "Z", false)
def xt_RE : Nat → FieldType := fun k => match k with
  | 0 => .object "PatternSearch$Signs"
  | 1 => .int
  | 2 => .int
  | 3 => .boolean
  | _ => .boolean
theorem xn_RE : ∀ a, a < 5 → ∀ b, b < 5 → a ≠ b → (xT_RE a).2.1 ≠ (xT_RE b).2.1 := by decide +kernel
theorem xo_RE : ∀ k, k < 5 → parseFieldDescriptor (xT_RE k).2.2.1 = some (xt_RE k) := by decide +kernel
def xT_RO : u_T := fun k => match k with
  | 0 => ("PatternSearch$Row", "before", "LPatternSearch$Row;", false)
  | 1 => ("PatternSearch$Row", "lastPiece", "LPatternSearch$Piece;", false)
  | 2 => ("PatternSearch$Row", "size", "I", false)
  | _ => ("PatternSearch$Row", "canBeEmpty", "Z", false)
def xt_RO : Nat → FieldType := fun k => match k with
  | 0 => .object "PatternSearch$Row"
  | 1 => .object "PatternSearch$Piece"
  | 2 => .int
  | _ => .boolean
theorem xn_RO : ∀ a, a < 4 → ∀ b, b < 4 → a ≠ b → (xT_RO a).2.1 ≠ (xT_RO b).2.1 := by decide +kernel
theorem xo_RO : ∀ k, k < 4 → parseFieldDescriptor (xT_RO k).2.2.1 = some (xt_RO k) := by decide +kernel
def xT_SI : u_T := fun k => match k with
  | 0 => ("PatternSearch$Signs", "row", "[I", true)
  | _ => ("PatternSearch$Signs", "length", "I", false)
def xt_SI : Nat → FieldType := fun k => match k with
  | 0 => .array .int
  | _ => .int
theorem xn_SI : ∀ a, a < 2 → ∀ b, b < 2 → a ≠ b → (xT_SI a).2.1 ≠ (xT_SI b).2.1 := by decide +kernel
theorem xo_SI : ∀ k, k < 2 → parseFieldDescriptor (xT_SI k).2.2.1 = some (xt_SI k) := by decide +kernel
def xT_PS : u_T := fun k => match k with
  | 0 => ("PatternSearch", "patternSigns", "LPatternSearch$Signs;", true)
  | 1 => ("PatternSearch", "textSigns", "LPatternSearch$Signs;", true)
  | 2 => ("PatternSearch", "outputSigns", "LPatternSearch$Signs;", true)
  | 3 => ("PatternSearch", "matcher", "LPatternSearch$Matcher;", true)
  | 4 => ("PatternSearch", "found", "LPatternSearch$Bounds;", true)
  | 5 => ("PatternSearch", "current", "LPatternSearch$Bounds;", true)
  | 6 => ("PatternSearch", "ready", "Z", false)
  | _ => ("PatternSearch", "readySize", "I", false)
def xt_PS : Nat → FieldType := fun k => match k with
  | 0 => .object "PatternSearch$Signs"
  | 1 => .object "PatternSearch$Signs"
  | 2 => .object "PatternSearch$Signs"
  | 3 => .object "PatternSearch$Matcher"
  | 4 => .object "PatternSearch$Bounds"
  | 5 => .object "PatternSearch$Bounds"
  | 6 => .boolean
  | _ => .int
theorem xn_PS : ∀ a, a < 8 → ∀ b, b < 8 → a ≠ b → (xT_PS a).2.1 ≠ (xT_PS b).2.1 := by decide +kernel
theorem xo_PS : ∀ k, k < 8 → parseFieldDescriptor (xT_PS k).2.2.1 = some (xt_PS k) := by decide +kernel
def xT_MO : u_T := fun k => match k with
  | 0 => ("PatternSearchModel", "pattern", "[I", true)
  | 1 => ("PatternSearchModel", "patternLength", "I", false)
  | 2 => ("PatternSearchModel", "text", "[I", true)
  | 3 => ("PatternSearchModel", "textLength", "I", false)
  | 4 => ("PatternSearchModel", "output", "[I", true)
  | 5 => ("PatternSearchModel", "outputLength", "I", false)
  | 6 => ("PatternSearchModel", "ready", "Z", false)
  | 7 => ("PatternSearchModel", "found", "Z", false)
  | 8 => ("PatternSearchModel", "caught", "[I", true)
  | 9 => ("PatternSearchModel", "choiceSize", "[I", true)
  | 10 => ("PatternSearchModel", "rowSize", "[I", true)
  | 11 => ("PatternSearchModel", "rowEmpty", "[Z", true)
  | 12 => ("PatternSearchModel", "someEmpty", "[Z", true)
  | 13 => ("PatternSearchModel", "pieceSize", "I", false)
  | 14 => ("PatternSearchModel", "pieceEmpty", "Z", false)
  | 15 => ("PatternSearchModel", "endless", "Z", false)
  | 16 => ("PatternSearchModel", "groups", "I", false)
  | 17 => ("PatternSearchModel", "size", "I", false)
  | 18 => ("PatternSearchModel", "step", "[I", true)
  | 19 => ("PatternSearchModel", "one", "[I", true)
  | 20 => ("PatternSearchModel", "two", "[I", true)
  | 21 => ("PatternSearchModel", "steps", "I", false)
  | 22 => ("PatternSearchModel", "atomAt", "[I", true)
  | 23 => ("PatternSearchModel", "rowAt", "[I", true)
  | 24 => ("PatternSearchModel", "groupAt", "[I", true)
  | 25 => ("PatternSearchModel", "jumpsFrom", "[I", true)
  | 26 => ("PatternSearchModel", "jumps", "[I", true)
  | 27 => ("PatternSearchModel", "jumpCount", "I", false)
  | 28 => ("PatternSearchModel", "tried", "[Z", true)
  | 29 => ("PatternSearchModel", "stack", "[I", true)
  | _ => ("PatternSearchModel", "marks", "[I", true)
def xt_MO : Nat → FieldType := fun k => match k with
  | 0 => .array .int
  | 1 => .int
  | 2 => .array .int
  | 3 => .int
  | 4 => .array .int
  | 5 => .int
  | 6 => .boolean
  | 7 => .boolean
  | 8 => .array .int
  | 9 => .array .int
  | 10 => .array .int
  | 11 => .array .boolean
  | 12 => .array .boolean
  | 13 => .int
  | 14 => .boolean
  | 15 => .boolean
  | 16 => .int
  | 17 => .int
  | 18 => .array .int
  | 19 => .array .int
  | 20 => .array .int
  | 21 => .int
  | 22 => .array .int
  | 23 => .array .int
  | 24 => .array .int
  | 25 => .array .int
  | 26 => .array .int
  | 27 => .int
  | 28 => .array .boolean
  | 29 => .array .int
  | _ => .array .int
theorem xn_MO : ∀ a, a < 31 → ∀ b, b < 31 → a ≠ b → (xT_MO a).2.1 ≠ (xT_MO b).2.1 := by decide +kernel
theorem xo_MO : ∀ k, k < 31 → parseFieldDescriptor (xT_MO k).2.2.1 = some (xt_MO k) := by decide +kernel
abbrev vwCl : List vw_C := [("PatternSearch$Atom", xT_AT, 5), ("PatternSearch$Bounds", xT_BO, 1), ("PatternSearch$Choice", xT_CH, 3), ("PatternSearch$Matcher", xT_MA, 4), ("PatternSearch$Piece", xT_PI, 6), ("PatternSearch$Program", xT_PR, 8), ("PatternSearch$Reader", xT_RE, 5), ("PatternSearch$Row", xT_RO, 4), ("PatternSearch$Signs", xT_SI, 2), ("PatternSearch", xT_PS, 8), ("PatternSearchModel", xT_MO, 31)]
abbrev m_law : MethodName × ByteArray × Nat × Option FieldType := (x, code, 4, ret)
abbrev m_PS_init : MethodName × ByteArray × Nat × Option FieldType := (⟨"PatternSearch", "<init>", "()V"⟩, prog_1_method_1_code, 1, none)
abbrev m_SI_init : MethodName × ByteArray × Nat × Option FieldType := (⟨"PatternSearch$Signs", "<init>", "(I)V"⟩, prog_10_method_1_code, 2, none)
abbrev m_MA_init : MethodName × ByteArray × Nat × Option FieldType := (⟨"PatternSearch$Matcher", "<init>", "()V"⟩, prog_5_method_1_code, 1, none)
abbrev m_PR_init : MethodName × ByteArray × Nat × Option FieldType := (⟨"PatternSearch$Program", "<init>", "()V"⟩, prog_7_method_1_code, 1, none)
abbrev m_BO_init : MethodName × ByteArray × Nat × Option FieldType := (⟨"PatternSearch$Bounds", "<init>", "()V"⟩, prog_3_method_1_code, 1, none)
abbrev m_PS_pattern : MethodName × ByteArray × Nat × Option FieldType := (⟨"PatternSearch", "pattern", "(I)I"⟩, prog_1_method_2_code, 2, (some .int))
abbrev m_PS_isSign : MethodName × ByteArray × Nat × Option FieldType := (⟨"PatternSearch", "isSign", "(I)Z"⟩, prog_1_method_15_code, 1, (some .boolean))
abbrev m_SI_isFull : MethodName × ByteArray × Nat × Option FieldType := (⟨"PatternSearch$Signs", "isFull", "()Z"⟩, prog_10_method_3_code, 1, (some .boolean))
abbrev m_SI_add : MethodName × ByteArray × Nat × Option FieldType := (⟨"PatternSearch$Signs", "add", "(I)V"⟩, prog_10_method_6_code, 2, none)
abbrev m_SI_length : MethodName × ByteArray × Nat × Option FieldType := (⟨"PatternSearch$Signs", "length", "()I"⟩, prog_10_method_2_code, 1, (some .int))
abbrev m_PS_newPattern : MethodName × ByteArray × Nat × Option FieldType := (⟨"PatternSearch", "newPattern", "()I"⟩, prog_1_method_3_code, 1, (some .int))
abbrev m_SI_clear : MethodName × ByteArray × Nat × Option FieldType := (⟨"PatternSearch$Signs", "clear", "()V"⟩, prog_10_method_5_code, 1, none)
abbrev m_PS_compile : MethodName × ByteArray × Nat × Option FieldType := (⟨"PatternSearch", "compile", "()I"⟩, prog_1_method_4_code, 3, (some .int))
abbrev m_RE_init : MethodName × ByteArray × Nat × Option FieldType := (⟨"PatternSearch$Reader", "<init>", "(LPatternSearch$Signs;)V"⟩, prog_8_method_1_code, 2, none)
abbrev m_RE_readChoice : MethodName × ByteArray × Nat × Option FieldType := (⟨"PatternSearch$Reader", "readChoice", "()LPatternSearch$Choice;"⟩, prog_8_method_5_code, 3, (some (.object "PatternSearch$Choice")))
abbrev m_CH_init : MethodName × ByteArray × Nat × Option FieldType := (⟨"PatternSearch$Choice", "<init>", "()V"⟩, prog_4_method_1_code, 1, none)
abbrev m_RE_readRow : MethodName × ByteArray × Nat × Option FieldType := (⟨"PatternSearch$Reader", "readRow", "()LPatternSearch$Row;"⟩, prog_8_method_6_code, 3, (some (.object "PatternSearch$Row")))
abbrev m_RO_init : MethodName × ByteArray × Nat × Option FieldType := (⟨"PatternSearch$Row", "<init>", "()V"⟩, prog_9_method_1_code, 1, none)
abbrev m_RE_peek : MethodName × ByteArray × Nat × Option FieldType := (⟨"PatternSearch$Reader", "peek", "()I"⟩, prog_8_method_20_code, 1, (some .int))
abbrev m_SI_at : MethodName × ByteArray × Nat × Option FieldType := (⟨"PatternSearch$Signs", "at", "(I)I"⟩, prog_10_method_4_code, 2, (some .int))
abbrev m_RE_beginsAtom : MethodName × ByteArray × Nat × Option FieldType := (⟨"PatternSearch$Reader", "beginsAtom", "(I)Z"⟩, prog_8_method_17_code, 2, (some .boolean))
abbrev m_RE_isPlain : MethodName × ByteArray × Nat × Option FieldType := (⟨"PatternSearch$Reader", "isPlain", "(I)Z"⟩, prog_8_method_18_code, 1, (some .boolean))
abbrev m_RE_readPiece : MethodName × ByteArray × Nat × Option FieldType := (⟨"PatternSearch$Reader", "readPiece", "()LPatternSearch$Piece;"⟩, prog_8_method_7_code, 2, (some (.object "PatternSearch$Piece")))
abbrev m_RE_readAtom : MethodName × ByteArray × Nat × Option FieldType := (⟨"PatternSearch$Reader", "readAtom", "()LPatternSearch$Atom;"⟩, prog_8_method_11_code, 2, (some (.object "PatternSearch$Atom")))
abbrev m_RE_readGroup : MethodName × ByteArray × Nat × Option FieldType := (⟨"PatternSearch$Reader", "readGroup", "()LPatternSearch$Atom;"⟩, prog_8_method_13_code, 3, (some (.object "PatternSearch$Atom")))
abbrev m_AT_init : MethodName × ByteArray × Nat × Option FieldType := (⟨"PatternSearch$Atom", "<init>", "(I)V"⟩, prog_2_method_1_code, 2, none)
abbrev m_AT_enclose : MethodName × ByteArray × Nat × Option FieldType := (⟨"PatternSearch$Atom", "enclose", "(ILPatternSearch$Choice;)V"⟩, prog_2_method_4_code, 3, none)
abbrev m_RE_expect : MethodName × ByteArray × Nat × Option FieldType := (⟨"PatternSearch$Reader", "expect", "(I)V"⟩, prog_8_method_22_code, 2, none)
abbrev m_RE_take : MethodName × ByteArray × Nat × Option FieldType := (⟨"PatternSearch$Reader", "take", "(I)Z"⟩, prog_8_method_21_code, 2, (some .boolean))
abbrev m_RE_readClass : MethodName × ByteArray × Nat × Option FieldType := (⟨"PatternSearch$Reader", "readClass", "()LPatternSearch$Atom;"⟩, prog_8_method_14_code, 4, (some (.object "PatternSearch$Atom")))
abbrev m_RE_readItem : MethodName × ByteArray × Nat × Option FieldType := (⟨"PatternSearch$Reader", "readItem", "(LPatternSearch$Atom;)V"⟩, prog_8_method_15_code, 4, none)
abbrev m_RE_readItemSign : MethodName × ByteArray × Nat × Option FieldType := (⟨"PatternSearch$Reader", "readItemSign", "(I)I"⟩, prog_8_method_16_code, 3, (some .int))
abbrev m_RE_isItemSign : MethodName × ByteArray × Nat × Option FieldType := (⟨"PatternSearch$Reader", "isItemSign", "(I)Z"⟩, prog_8_method_19_code, 1, (some .boolean))
abbrev m_AT_takeSigns : MethodName × ByteArray × Nat × Option FieldType := (⟨"PatternSearch$Atom", "takeSigns", "(II)V"⟩, prog_2_method_2_code, 4, none)
abbrev m_AT_takeOthers : MethodName × ByteArray × Nat × Option FieldType := (⟨"PatternSearch$Atom", "takeOthers", "()V"⟩, prog_2_method_3_code, 1, none)
abbrev m_RE_signAtom : MethodName × ByteArray × Nat × Option FieldType := (⟨"PatternSearch$Reader", "signAtom", "(II)LPatternSearch$Atom;"⟩, prog_8_method_12_code, 3, (some (.object "PatternSearch$Atom")))
abbrev m_PI_init : MethodName × ByteArray × Nat × Option FieldType := (⟨"PatternSearch$Piece", "<init>", "(LPatternSearch$Atom;)V"⟩, prog_6_method_1_code, 2, none)
abbrev m_RE_readRepetition : MethodName × ByteArray × Nat × Option FieldType := (⟨"PatternSearch$Reader", "readRepetition", "(LPatternSearch$Piece;)Z"⟩, prog_8_method_8_code, 2, (some .boolean))
abbrev m_PI_repeatUnbounded : MethodName × ByteArray × Nat × Option FieldType := (⟨"PatternSearch$Piece", "repeatUnbounded", "(I)V"⟩, prog_6_method_3_code, 2, none)
abbrev m_PI_repeat : MethodName × ByteArray × Nat × Option FieldType := (⟨"PatternSearch$Piece", "repeat", "(II)V"⟩, prog_6_method_2_code, 3, none)
abbrev m_RE_readBraces : MethodName × ByteArray × Nat × Option FieldType := (⟨"PatternSearch$Reader", "readBraces", "(LPatternSearch$Piece;)V"⟩, prog_8_method_9_code, 4, none)
abbrev m_RE_readDigit : MethodName × ByteArray × Nat × Option FieldType := (⟨"PatternSearch$Reader", "readDigit", "(I)I"⟩, prog_8_method_10_code, 3, (some .int))
abbrev m_PI_isEndless : MethodName × ByteArray × Nat × Option FieldType := (⟨"PatternSearch$Piece", "isEndless", "()Z"⟩, prog_6_method_6_code, 1, (some .boolean))
abbrev m_AT_canBeEmpty : MethodName × ByteArray × Nat × Option FieldType := (⟨"PatternSearch$Atom", "canBeEmpty", "()Z"⟩, prog_2_method_6_code, 1, (some .boolean))
abbrev m_CH_canBeEmpty : MethodName × ByteArray × Nat × Option FieldType := (⟨"PatternSearch$Choice", "canBeEmpty", "()Z"⟩, prog_4_method_4_code, 1, (some .boolean))
abbrev m_RO_add : MethodName × ByteArray × Nat × Option FieldType := (⟨"PatternSearch$Row", "add", "(LPatternSearch$Piece;)V"⟩, prog_9_method_2_code, 2, none)
abbrev m_PI_size : MethodName × ByteArray × Nat × Option FieldType := (⟨"PatternSearch$Piece", "size", "()I"⟩, prog_6_method_4_code, 1, (some .int))
abbrev m_AT_size : MethodName × ByteArray × Nat × Option FieldType := (⟨"PatternSearch$Atom", "size", "()I"⟩, prog_2_method_5_code, 1, (some .int))
abbrev m_CH_size : MethodName × ByteArray × Nat × Option FieldType := (⟨"PatternSearch$Choice", "size", "()I"⟩, prog_4_method_3_code, 1, (some .int))
abbrev m_PI_canBeEmpty : MethodName × ByteArray × Nat × Option FieldType := (⟨"PatternSearch$Piece", "canBeEmpty", "()Z"⟩, prog_6_method_5_code, 1, (some .boolean))
abbrev m_CH_add : MethodName × ByteArray × Nat × Option FieldType := (⟨"PatternSearch$Choice", "add", "(LPatternSearch$Row;)V"⟩, prog_4_method_2_code, 2, none)
abbrev m_RE_faultPlace : MethodName × ByteArray × Nat × Option FieldType := (⟨"PatternSearch$Reader", "faultPlace", "()I"⟩, prog_8_method_2_code, 1, (some .int))
abbrev m_RE_isEndless : MethodName × ByteArray × Nat × Option FieldType := (⟨"PatternSearch$Reader", "isEndless", "()Z"⟩, prog_8_method_3_code, 1, (some .boolean))
abbrev m_MA_load : MethodName × ByteArray × Nat × Option FieldType := (⟨"PatternSearch$Matcher", "load", "(LPatternSearch$Choice;)V"⟩, prog_5_method_2_code, 2, none)
abbrev m_PR_build : MethodName × ByteArray × Nat × Option FieldType := (⟨"PatternSearch$Program", "build", "(LPatternSearch$Choice;)V"⟩, prog_7_method_2_code, 3, none)
abbrev m_PR_addStep : MethodName × ByteArray × Nat × Option FieldType := (⟨"PatternSearch$Program", "addStep", "(II)I"⟩, prog_7_method_12_code, 4, (some .int))
abbrev m_PR_addChoice : MethodName × ByteArray × Nat × Option FieldType := (⟨"PatternSearch$Program", "addChoice", "(LPatternSearch$Choice;II)I"⟩, prog_7_method_4_code, 7, (some .int))
abbrev m_PR_addRow : MethodName × ByteArray × Nat × Option FieldType := (⟨"PatternSearch$Program", "addRow", "(LPatternSearch$Row;II)I"⟩, prog_7_method_5_code, 6, (some .int))
abbrev m_PR_addLoop : MethodName × ByteArray × Nat × Option FieldType := (⟨"PatternSearch$Program", "addLoop", "(LPatternSearch$Piece;II)I"⟩, prog_7_method_6_code, 6, (some .int))
abbrev m_PR_addFork : MethodName × ByteArray × Nat × Option FieldType := (⟨"PatternSearch$Program", "addFork", "(II)I"⟩, prog_7_method_11_code, 4, (some .int))
abbrev m_PR_addAtom : MethodName × ByteArray × Nat × Option FieldType := (⟨"PatternSearch$Program", "addAtom", "(LPatternSearch$Atom;II)I"⟩, prog_7_method_8_code, 5, (some .int))
abbrev m_PR_addGroup : MethodName × ByteArray × Nat × Option FieldType := (⟨"PatternSearch$Program", "addGroup", "(LPatternSearch$Atom;II)I"⟩, prog_7_method_9_code, 6, (some .int))
abbrev m_BO_endSlot : MethodName × ByteArray × Nat × Option FieldType := (⟨"PatternSearch$Bounds", "endSlot", "(I)I"⟩, prog_3_method_4_code, 1, (some .int))
abbrev m_PR_addMark : MethodName × ByteArray × Nat × Option FieldType := (⟨"PatternSearch$Program", "addMark", "(II)I"⟩, prog_7_method_10_code, 4, (some .int))
abbrev m_BO_beginSlot : MethodName × ByteArray × Nat × Option FieldType := (⟨"PatternSearch$Bounds", "beginSlot", "(I)I"⟩, prog_3_method_3_code, 1, (some .int))
abbrev m_PR_addCopies : MethodName × ByteArray × Nat × Option FieldType := (⟨"PatternSearch$Program", "addCopies", "(LPatternSearch$Piece;II)I"⟩, prog_7_method_7_code, 7, (some .int))
abbrev m_BO_clear : MethodName × ByteArray × Nat × Option FieldType := (⟨"PatternSearch$Bounds", "clear", "()V"⟩, prog_3_method_2_code, 1, none)
abbrev m_RE_groupCount : MethodName × ByteArray × Nat × Option FieldType := (⟨"PatternSearch$Reader", "groupCount", "()I"⟩, prog_8_method_4_code, 1, (some .int))
abbrev m_PS_fault : MethodName × ByteArray × Nat × Option FieldType := (⟨"PatternSearch", "fault", "()I"⟩, prog_1_method_5_code, 2, (some .int))
abbrev m_PS_text : MethodName × ByteArray × Nat × Option FieldType := (⟨"PatternSearch", "text", "(I)I"⟩, prog_1_method_6_code, 2, (some .int))
abbrev m_PS_newText : MethodName × ByteArray × Nat × Option FieldType := (⟨"PatternSearch", "newText", "()I"⟩, prog_1_method_7_code, 1, (some .int))
abbrev m_PS_find : MethodName × ByteArray × Nat × Option FieldType := (⟨"PatternSearch", "find", "(I)I"⟩, prog_1_method_8_code, 2, (some .int))
abbrev m_MA_aimAnywhere : MethodName × ByteArray × Nat × Option FieldType := (⟨"PatternSearch$Matcher", "aimAnywhere", "(LPatternSearch$Signs;)V"⟩, prog_5_method_3_code, 2, none)
abbrev m_MA_aim : MethodName × ByteArray × Nat × Option FieldType := (⟨"PatternSearch$Matcher", "aim", "(LPatternSearch$Signs;I)V"⟩, prog_5_method_7_code, 5, none)
abbrev m_MA_fittingPlaces : MethodName × ByteArray × Nat × Option FieldType := (⟨"PatternSearch$Matcher", "fittingPlaces", "(ILPatternSearch$Signs;)I"⟩, prog_5_method_8_code, 5, (some .int))
abbrev m_PR_takes : MethodName × ByteArray × Nat × Option FieldType := (⟨"PatternSearch$Program", "takes", "(II)Z"⟩, prog_7_method_3_code, 5, (some .boolean))
abbrev m_MA_spread : MethodName × ByteArray × Nat × Option FieldType := (⟨"PatternSearch$Matcher", "spread", "(I)Z"⟩, prog_5_method_9_code, 5, (some .boolean))
abbrev m_MA_leadingPlaces : MethodName × ByteArray × Nat × Option FieldType := (⟨"PatternSearch$Matcher", "leadingPlaces", "(II)I"⟩, prog_5_method_10_code, 4, (some .int))
abbrev m_MA_seek : MethodName × ByteArray × Nat × Option FieldType := (⟨"PatternSearch$Matcher", "seek", "(ILPatternSearch$Bounds;)Z"⟩, prog_5_method_6_code, 4, (some .boolean))
abbrev m_MA_leadsOn : MethodName × ByteArray × Nat × Option FieldType := (⟨"PatternSearch$Matcher", "leadsOn", "(I)Z"⟩, prog_5_method_5_code, 2, (some .boolean))
abbrev m_MA_leadsOnFrom : MethodName × ByteArray × Nat × Option FieldType := (⟨"PatternSearch$Matcher", "leadsOnFrom", "(II)Z"⟩, prog_5_method_11_code, 3, (some .boolean))
abbrev m_MA_walk : MethodName × ByteArray × Nat × Option FieldType := (⟨"PatternSearch$Matcher", "walk", "(ILPatternSearch$Bounds;)V"⟩, prog_5_method_12_code, 8, none)
abbrev m_BO_mark : MethodName × ByteArray × Nat × Option FieldType := (⟨"PatternSearch$Bounds", "mark", "(II)V"⟩, prog_3_method_7_code, 3, none)
abbrev m_BO_begin : MethodName × ByteArray × Nat × Option FieldType := (⟨"PatternSearch$Bounds", "begin", "(I)I"⟩, prog_3_method_5_code, 2, (some .int))
abbrev m_BO_inSlot : MethodName × ByteArray × Nat × Option FieldType := (⟨"PatternSearch$Bounds", "inSlot", "(I)I"⟩, prog_3_method_9_code, 2, (some .int))
abbrev m_PS_group : MethodName × ByteArray × Nat × Option FieldType := (⟨"PatternSearch", "group", "(IZ)I"⟩, prog_1_method_9_code, 3, (some .int))
abbrev m_PS_isGroup : MethodName × ByteArray × Nat × Option FieldType := (⟨"PatternSearch", "isGroup", "(I)Z"⟩, prog_1_method_16_code, 1, (some .boolean))
abbrev m_BO_end : MethodName × ByteArray × Nat × Option FieldType := (⟨"PatternSearch$Bounds", "end", "(I)I"⟩, prog_3_method_6_code, 2, (some .int))
abbrev m_PS_whole : MethodName × ByteArray × Nat × Option FieldType := (⟨"PatternSearch", "whole", "(II)I"⟩, prog_1_method_10_code, 3, (some .int))
abbrev m_MA_aimAt : MethodName × ByteArray × Nat × Option FieldType := (⟨"PatternSearch$Matcher", "aimAt", "(LPatternSearch$Signs;I)V"⟩, prog_5_method_4_code, 3, none)
abbrev m_PS_matches : MethodName × ByteArray × Nat × Option FieldType := (⟨"PatternSearch", "matches", "()I"⟩, prog_1_method_11_code, 3, (some .int))
abbrev m_BO_placeBehind : MethodName × ByteArray × Nat × Option FieldType := (⟨"PatternSearch$Bounds", "placeBehind", "()I"⟩, prog_3_method_8_code, 1, (some .int))
abbrev m_PS_replace : MethodName × ByteArray × Nat × Option FieldType := (⟨"PatternSearch", "replace", "(I)I"⟩, prog_1_method_12_code, 5, (some .int))
abbrev m_SI_addStretch : MethodName × ByteArray × Nat × Option FieldType := (⟨"PatternSearch$Signs", "addStretch", "(LPatternSearch$Signs;II)V"⟩, prog_10_method_7_code, 5, none)
abbrev m_PS_output : MethodName × ByteArray × Nat × Option FieldType := (⟨"PatternSearch", "output", "(I)I"⟩, prog_1_method_13_code, 2, (some .int))
abbrev m_PS_state : MethodName × ByteArray × Nat × Option FieldType := (⟨"PatternSearch", "state", "(I)I"⟩, prog_1_method_14_code, 2, (some .int))
abbrev m_MO_init : MethodName × ByteArray × Nat × Option FieldType := (⟨"PatternSearchModel", "<init>", "()V"⟩, prog_12_method_1_code, 1, none)
abbrev m_MO_pattern : MethodName × ByteArray × Nat × Option FieldType := (⟨"PatternSearchModel", "pattern", "(I)I"⟩, prog_12_method_27_code, 2, (some .int))
abbrev m_MO_newPattern : MethodName × ByteArray × Nat × Option FieldType := (⟨"PatternSearchModel", "newPattern", "()I"⟩, prog_12_method_28_code, 1, (some .int))
abbrev m_MO_compile : MethodName × ByteArray × Nat × Option FieldType := (⟨"PatternSearchModel", "compile", "()I"⟩, prog_12_method_29_code, 1, (some .int))
abbrev m_MO_check : MethodName × ByteArray × Nat × Option FieldType := (⟨"PatternSearchModel", "check", "()I"⟩, prog_12_method_13_code, 6, (some .int))
abbrev m_MO_openRow : MethodName × ByteArray × Nat × Option FieldType := (⟨"PatternSearchModel", "openRow", "(I)V"⟩, prog_12_method_7_code, 2, none)
abbrev m_MO_at : MethodName × ByteArray × Nat × Option FieldType := (⟨"PatternSearchModel", "at", "(I)I"⟩, prog_12_method_5_code, 2, (some .int))
abbrev m_MO_is : MethodName × ByteArray × Nat × Option FieldType := (⟨"PatternSearchModel", "is", "(IIIII)Z"⟩, prog_12_method_2_code, 5, (some .boolean))
abbrev m_MO_passRepetition : MethodName × ByteArray × Nat × Option FieldType := (⟨"PatternSearchModel", "passRepetition", "(I)I"⟩, prog_12_method_12_code, 4, (some .int))
abbrev m_MO_passBraces : MethodName × ByteArray × Nat × Option FieldType := (⟨"PatternSearchModel", "passBraces", "(I)I"⟩, prog_12_method_11_code, 5, (some .int))
abbrev m_MO_repeat : MethodName × ByteArray × Nat × Option FieldType := (⟨"PatternSearchModel", "repeat", "(IIZZ)V"⟩, prog_12_method_9_code, 5, none)
abbrev m_MO_least : MethodName × ByteArray × Nat × Option FieldType := (⟨"PatternSearchModel", "least", "(I)I"⟩, prog_12_method_6_code, 1, (some .int))
abbrev m_MO_closePiece : MethodName × ByteArray × Nat × Option FieldType := (⟨"PatternSearchModel", "closePiece", "(I)V"⟩, prog_12_method_8_code, 2, none)
abbrev m_MO_plain : MethodName × ByteArray × Nat × Option FieldType := (⟨"PatternSearchModel", "plain", "(I)Z"⟩, prog_12_method_4_code, 2, (some .boolean))
abbrev m_MO_passClass : MethodName × ByteArray × Nat × Option FieldType := (⟨"PatternSearchModel", "passClass", "(I)I"⟩, prog_12_method_10_code, 4, (some .int))
abbrev m_MO_inClass : MethodName × ByteArray × Nat × Option FieldType := (⟨"PatternSearchModel", "inClass", "(I)Z"⟩, prog_12_method_3_code, 1, (some .boolean))
abbrev m_MO_write : MethodName × ByteArray × Nat × Option FieldType := (⟨"PatternSearchModel", "write", "()V"⟩, prog_12_method_22_code, 6, none)
abbrev m_MO_open : MethodName × ByteArray × Nat × Option FieldType := (⟨"PatternSearchModel", "open", "(II)V"⟩, prog_12_method_17_code, 3, none)
abbrev m_MO_add : MethodName × ByteArray × Nat × Option FieldType := (⟨"PatternSearchModel", "add", "(III)V"⟩, prog_12_method_14_code, 4, none)
abbrev m_MO_writeRepetition : MethodName × ByteArray × Nat × Option FieldType := (⟨"PatternSearchModel", "writeRepetition", "(II)I"⟩, prog_12_method_21_code, 7, (some .int))
abbrev m_MO_insert : MethodName × ByteArray × Nat × Option FieldType := (⟨"PatternSearchModel", "insert", "(III)V"⟩, prog_12_method_15_code, 5, none)
abbrev m_MO_times : MethodName × ByteArray × Nat × Option FieldType := (⟨"PatternSearchModel", "times", "(IIIZ)V"⟩, prog_12_method_20_code, 12, none)
abbrev m_MO_copy : MethodName × ByteArray × Nat × Option FieldType := (⟨"PatternSearchModel", "copy", "(II)V"⟩, prog_12_method_16_code, 4, none)
abbrev m_MO_nextRow : MethodName × ByteArray × Nat × Option FieldType := (⟨"PatternSearchModel", "nextRow", "(I)V"⟩, prog_12_method_18_code, 3, none)
abbrev m_MO_close : MethodName × ByteArray × Nat × Option FieldType := (⟨"PatternSearchModel", "close", "(I)V"⟩, prog_12_method_19_code, 3, none)
abbrev m_MO_fault : MethodName × ByteArray × Nat × Option FieldType := (⟨"PatternSearchModel", "fault", "()I"⟩, prog_12_method_30_code, 1, (some .int))
abbrev m_MO_text : MethodName × ByteArray × Nat × Option FieldType := (⟨"PatternSearchModel", "text", "(I)I"⟩, prog_12_method_31_code, 2, (some .int))
abbrev m_MO_newText : MethodName × ByteArray × Nat × Option FieldType := (⟨"PatternSearchModel", "newText", "()I"⟩, prog_12_method_32_code, 1, (some .int))
abbrev m_MO_find : MethodName × ByteArray × Nat × Option FieldType := (⟨"PatternSearchModel", "find", "(I)I"⟩, prog_12_method_33_code, 4, (some .int))
abbrev m_MO_search : MethodName × ByteArray × Nat × Option FieldType := (⟨"PatternSearchModel", "search", "(I)I"⟩, prog_12_method_26_code, 4, (some .int))
abbrev m_MO_way : MethodName × ByteArray × Nat × Option FieldType := (⟨"PatternSearchModel", "way", "(II)I"⟩, prog_12_method_25_code, 8, (some .int))
abbrev m_MO_takes : MethodName × ByteArray × Nat × Option FieldType := (⟨"PatternSearchModel", "takes", "(II)Z"⟩, prog_12_method_24_code, 3, (some .boolean))
abbrev m_MO_ofClass : MethodName × ByteArray × Nat × Option FieldType := (⟨"PatternSearchModel", "ofClass", "(II)Z"⟩, prog_12_method_23_code, 8, (some .boolean))
abbrev m_MO_group : MethodName × ByteArray × Nat × Option FieldType := (⟨"PatternSearchModel", "group", "(IZ)I"⟩, prog_12_method_34_code, 3, (some .int))
abbrev m_MO_whole : MethodName × ByteArray × Nat × Option FieldType := (⟨"PatternSearchModel", "whole", "(II)I"⟩, prog_12_method_35_code, 3, (some .int))
abbrev m_MO_matches : MethodName × ByteArray × Nat × Option FieldType := (⟨"PatternSearchModel", "matches", "()I"⟩, prog_12_method_36_code, 3, (some .int))
abbrev m_MO_replace : MethodName × ByteArray × Nat × Option FieldType := (⟨"PatternSearchModel", "replace", "(I)I"⟩, prog_12_method_38_code, 4, (some .int))
abbrev m_MO_put : MethodName × ByteArray × Nat × Option FieldType := (⟨"PatternSearchModel", "put", "(II)V"⟩, prog_12_method_37_code, 4, none)
abbrev m_MO_output : MethodName × ByteArray × Nat × Option FieldType := (⟨"PatternSearchModel", "output", "(I)I"⟩, prog_12_method_39_code, 2, (some .int))
abbrev m_MO_state : MethodName × ByteArray × Nat × Option FieldType := (⟨"PatternSearchModel", "state", "(I)I"⟩, prog_12_method_40_code, 2, (some .int))
theorem xi_AT : ∀ w ∈ u_ws "PatternSearch$Atom" xT_AT 5, w ∈ lw_tbl.filter goodWord := fun w hw => by
  obtain ⟨h1, h2⟩ := goodIn_r (big := lw_tbl) (u_ws "PatternSearch$Atom" xT_AT 5) [424, 426, 428, 430, 432] (by decide +kernel) (by decide +kernel) w hw
  exact List.mem_filter.mpr ⟨h1, List.all_eq_true.mp (by decide +kernel : (u_ws "PatternSearch$Atom" xT_AT 5).all goodWord = true) w hw⟩
theorem xi_BO : ∀ w ∈ u_ws "PatternSearch$Bounds" xT_BO 1, w ∈ lw_tbl.filter goodWord := fun w hw => by
  obtain ⟨h1, h2⟩ := goodIn_r (big := lw_tbl) (u_ws "PatternSearch$Bounds" xT_BO 1) [161] (by decide +kernel) (by decide +kernel) w hw
  exact List.mem_filter.mpr ⟨h1, List.all_eq_true.mp (by decide +kernel : (u_ws "PatternSearch$Bounds" xT_BO 1).all goodWord = true) w hw⟩
theorem xi_CH : ∀ w ∈ u_ws "PatternSearch$Choice" xT_CH 3, w ∈ lw_tbl.filter goodWord := fun w hw => by
  obtain ⟨h1, h2⟩ := goodIn_r (big := lw_tbl) (u_ws "PatternSearch$Choice" xT_CH 3) [257, 259, 261] (by decide +kernel) (by decide +kernel) w hw
  exact List.mem_filter.mpr ⟨h1, List.all_eq_true.mp (by decide +kernel : (u_ws "PatternSearch$Choice" xT_CH 3).all goodWord = true) w hw⟩
theorem xi_MA : ∀ w ∈ u_ws "PatternSearch$Matcher" xT_MA 4, w ∈ lw_tbl.filter goodWord := fun w hw => by
  obtain ⟨h1, h2⟩ := goodIn_r (big := lw_tbl) (u_ws "PatternSearch$Matcher" xT_MA 4) [142, 144, 146, 148] (by decide +kernel) (by decide +kernel) w hw
  exact List.mem_filter.mpr ⟨h1, List.all_eq_true.mp (by decide +kernel : (u_ws "PatternSearch$Matcher" xT_MA 4).all goodWord = true) w hw⟩
theorem xi_PI : ∀ w ∈ u_ws "PatternSearch$Piece" xT_PI 6, w ∈ lw_tbl.filter goodWord := fun w hw => by
  obtain ⟨h1, h2⟩ := goodIn_r (big := lw_tbl) (u_ws "PatternSearch$Piece" xT_PI 6) [493, 495, 497, 499, 501, 503] (by decide +kernel) (by decide +kernel) w hw
  exact List.mem_filter.mpr ⟨h1, List.all_eq_true.mp (by decide +kernel : (u_ws "PatternSearch$Piece" xT_PI 6).all goodWord = true) w hw⟩
theorem xi_PR : ∀ w ∈ u_ws "PatternSearch$Program" xT_PR 8, w ∈ lw_tbl.filter goodWord := fun w hw => by
  obtain ⟨h1, h2⟩ := goodIn_r (big := lw_tbl) (u_ws "PatternSearch$Program" xT_PR 8) [120, 122, 124, 126, 128, 130, 132, 134] (by decide +kernel) (by decide +kernel) w hw
  exact List.mem_filter.mpr ⟨h1, List.all_eq_true.mp (by decide +kernel : (u_ws "PatternSearch$Program" xT_PR 8).all goodWord = true) w hw⟩
theorem xi_RE : ∀ w ∈ u_ws "PatternSearch$Reader" xT_RE 5, w ∈ lw_tbl.filter goodWord := fun w hw => by
  obtain ⟨h1, h2⟩ := goodIn_r (big := lw_tbl) (u_ws "PatternSearch$Reader" xT_RE 5) [232, 234, 236, 238, 240] (by decide +kernel) (by decide +kernel) w hw
  exact List.mem_filter.mpr ⟨h1, List.all_eq_true.mp (by decide +kernel : (u_ws "PatternSearch$Reader" xT_RE 5).all goodWord = true) w hw⟩
theorem xi_RO : ∀ w ∈ u_ws "PatternSearch$Row" xT_RO 4, w ∈ lw_tbl.filter goodWord := fun w hw => by
  obtain ⟨h1, h2⟩ := goodIn_r (big := lw_tbl) (u_ws "PatternSearch$Row" xT_RO 4) [282, 284, 286, 288] (by decide +kernel) (by decide +kernel) w hw
  exact List.mem_filter.mpr ⟨h1, List.all_eq_true.mp (by decide +kernel : (u_ws "PatternSearch$Row" xT_RO 4).all goodWord = true) w hw⟩
theorem xi_SI : ∀ w ∈ u_ws "PatternSearch$Signs" xT_SI 2, w ∈ lw_tbl.filter goodWord := fun w hw => by
  obtain ⟨h1, h2⟩ := goodIn_r (big := lw_tbl) (u_ws "PatternSearch$Signs" xT_SI 2) [88, 90] (by decide +kernel) (by decide +kernel) w hw
  exact List.mem_filter.mpr ⟨h1, List.all_eq_true.mp (by decide +kernel : (u_ws "PatternSearch$Signs" xT_SI 2).all goodWord = true) w hw⟩
theorem xi_PS : ∀ w ∈ u_ws "PatternSearch" xT_PS 8, w ∈ lw_tbl.filter goodWord := fun w hw => by
  obtain ⟨h1, h2⟩ := goodIn_r (big := lw_tbl) (u_ws "PatternSearch" xT_PS 8) [172, 174, 176, 178, 180, 182, 184, 186] (by decide +kernel) (by decide +kernel) w hw
  exact List.mem_filter.mpr ⟨h1, List.all_eq_true.mp (by decide +kernel : (u_ws "PatternSearch" xT_PS 8).all goodWord = true) w hw⟩
theorem xi_MO : ∀ w ∈ u_ws "PatternSearchModel" xT_MO 31, w ∈ lw_tbl.filter goodWord := fun w hw => by
  obtain ⟨h1, h2⟩ := goodIn_r (big := lw_tbl) (u_ws "PatternSearchModel" xT_MO 31) [793, 795, 797, 799, 801, 803, 805, 807, 809, 811, 813, 815, 817, 819, 821, 823, 825, 827, 829, 831, 833, 835, 837, 839, 841, 843, 845, 847, 849, 851, 853] (by decide +kernel) (by decide +kernel) w hw
  exact List.mem_filter.mpr ⟨h1, List.all_eq_true.mp (by decide +kernel : (u_ws "PatternSearchModel" xT_MO 31).all goodWord = true) w hw⟩
end
section
/-! THE LAYER wp: a run over one heap that is known whole (all cells made since the law began), told by a function of addresses. Own work. -/
abbrev xM : Type := MethodName × ByteArray × Nat × Option FieldType
abbrev xE : Type := State × va_G × List (ClassId × FieldType)
abbrev xH : Type := Nat × Nat × (Nat → Option va_E)
def xb (E : xE) : Nat := E.1.heap.size
def xGT : List Cond := lw_tbl.filter goodWord
def xws (M : xM) : List Cond := [Cond.code M.1 M.2.1 M.2.2.1 M.2.2.2]
def xHR (E : xE) (h : xH) (H : Heap) : Prop := H.size = xb E + h.1 ∧ (∀ (a : Nat) (e : va_E), h.2.2 a = some e → xb E ≤ a ∧ va_at E.2.1 vwCl (a, e) H) ∧ ∀ q : Nat, q < xb E → H[q]? = E.1.heap[q]?
def xK (E : xE) (U : State) : Prop := va_K E.2.1 vwCl E.2.2 U ∧ E.1.WarmedH U.vm ∧ ∃ A : Array Value, ∀ w ∈ lw_tbl, w.before A E.1 = true
def xPc (E : xE) (As : List Value) (h : xH) : Array Value → State → Prop := fun a U => a = As.toArray ∧ xHR E h U.heap ∧ xK E U
def xQc (E : xE) (r : Option Value) (h' : xH) : Array Value → State → Outcome → State → Prop := fun _ _ o t => o = .returned r ∧ xHR E h' t.heap
def xfree (E : xE) : Addr → Prop := fun q => xb E ≤ q
def xC (E : xE) (M : xM) (p : Program) (s : State) (m : MethodId) (meth : Method) (c : Code) : Prop :=
  p.tables.exec = Jvm.exec ∧ c.code = M.2.1 ∧ meth.sig.returnType = M.2.2.2 ∧ c.maxLocals = M.2.2.1 ∧ s.vm.findClass M.1.cls = some m.cls ∧ meth.locks = false ∧ xK E s ∧ meth.name = M.1.name
def xRet (M : xM) (pc : Nat) (r : Option Value) : Prop :=
  (∃ v, r = some (.int v) ∧ decode M.2.1 pc = .ok (.ireturn, 1) ∧ ∃ ty, M.2.2.2 = some ty ∧ narrow ty (.int v) = .int v) ∨
  (r = none ∧ decode M.2.1 pc = .ok (.return_, 1) ∧ M.2.2.2 = none) ∨
  (∃ v, r = some v ∧ (v = .null ∨ ∃ a, v = .ref a) ∧ decode M.2.1 pc = .ok (.areturn, 1) ∧ ∃ rt, M.2.2.2 = some rt ∧ ((∃ n, rt = .object n) ∨ ∃ t, rt = .array t))
/-- from pc with the locals lo, the stack st, the heap h the method comes to its return, with an answer and a heap of which P holds -/
def wp (E : xE) (d : Nat) (M : xM) (pc : Nat) (lo : List (Nat × Value)) (st : List Value) (h : xH) (P : Option Value → xH → Prop) : Prop :=
  ∃ (r : Option Value) (h' : xH), P r h' ∧ h.1 ≤ h'.1 ∧ h.2.1 ≤ h'.2.1 ∧
    ∀ (p : Program) (l : Launch) (e : Env) (R : Room) (s : State) (m : MethodId) (args : Array Value) (below : List Frame) (meth : Method) (c : Code) (Q : State → Prop) (cells slots : Nat) (H : Heap) (locs : List Loc) (ls : Array Slot),
      xC E M p s m meth c → d ≤ R.frames → 48 * d ≤ R.locals → cells + (h'.1 - h.1) ≤ R.cells → slots + (h'.2.1 - h.2.1) ≤ R.slots →
      xHR E h H → (∀ q ∈ locs, xb E ≤ q.base) → lv_has ls M.2.2.1 lo →
      (∀ (pc' : Nat) (ls' : Array Slot) (H' : Heap) (locs' : List Loc), xRet M pc' r → xHR E h' H' → (∀ q ∈ locs', xb E ≤ q.base) →
        W p l e R s m args below meth c H' locs' (cells + (h'.1 - h.1)) (slots + (h'.2.1 - h.2.1)) Q (F0 m pc' ls' r.toList)) →
      W p l e R s m args below meth c H locs cells slots Q (F0 m pc ls st)
/-- a method's contract: called with As in the heap h it returns, with an answer and a heap of which P holds -/
def wpc (E : xE) (d : Nat) (M : xM) (As : List Value) (h : xH) (P : Option Value → xH → Prop) : Prop :=
  ∃ (r : Option Value) (h' : xH), P r h' ∧ h.1 ≤ h'.1 ∧ h.2.1 ≤ h'.2.1 ∧
    ∀ (D : Nat) (l : Launch), d ≤ D → Met l M.1 (xws M) ({ frames := D, cells := h'.1 - h.1, slots := h'.2.1 - h.2.1, locals := 48 * D }) (xPc E As h) (xQc E r h') (h'.1 - h.1) (h'.2.1 - h.2.1) (xfree E)
theorem wp.mono {E : xE} {d : Nat} {M : xM} {pc : Nat} {lo : List (Nat × Value)} {st : List Value} {h : xH} {P P' : Option Value → xH → Prop} (k : wp E d M pc lo st h P) (hp : ∀ r h', P r h' → P' r h') : wp E d M pc lo st h P' := by
  obtain ⟨r, h', hP, k⟩ := k
  exact ⟨r, h', hp r h' hP, k⟩
theorem wpc.mono {E : xE} {d : Nat} {M : xM} {As : List Value} {h : xH} {P P' : Option Value → xH → Prop} (k : wpc E d M As h P) (hp : ∀ r h', P r h' → P' r h') : wpc E d M As h P' := by
  obtain ⟨r, h', hP, k⟩ := k
  exact ⟨r, h', hp r h' hP, k⟩
theorem wpc.up {E : xE} {d d' : Nat} {M : xM} {As : List Value} {h : xH} {P : Option Value → xH → Prop} (k : wpc E d M As h P) (hd : d ≤ d') : wpc E d' M As h P := by
  obtain ⟨r, h', hP, h1, h2, k⟩ := k
  exact ⟨r, h', hP, h1, h2, fun D l hD => k D l (Nat.le_trans hd hD)⟩
theorem wp.up {E : xE} {d d' : Nat} {M : xM} {pc : Nat} {lo : List (Nat × Value)} {st : List Value} {h : xH} {P : Option Value → xH → Prop} (k : wp E d M pc lo st h P) (hd : d ≤ d') : wp E d' M pc lo st h P := by
  obtain ⟨r, h', hP, h1, h2, K⟩ := k
  exact ⟨r, h', hP, h1, h2, fun p l e R s m args below meth c Q cells slots H locs ls C a1 a2 => K p l e R s m args below meth c Q cells slots H locs ls C (Nat.le_trans hd a1) (by omega)⟩
theorem x_hts {E : xE} {s : State} (hK : xK E s) {args : Array Value} : ∀ w ∈ xGT, w.before args s = true := fun w hw => by
  obtain ⟨h1, h2⟩ := List.mem_filter.mp hw
  obtain ⟨A, hA⟩ := hK.2.2
  exact word_at hK.2.1 (good_of_word h2) (hA w h1)
theorem x_htsU {E : xE} {s U : State} (hK : xK E s) (hW : s.WarmedH U.vm) {args : Array Value} : ∀ w ∈ xGT, w.before args U = true := fun w hw => by
  obtain ⟨h1, h2⟩ := List.mem_filter.mp hw
  obtain ⟨A, hA⟩ := hK.2.2
  exact word_at (State.WarmedH.trans hK.2.1 hW) (good_of_word h2) (hA w h1)
theorem xK.moved {E : xE} {s U : State} (hK : xK E s) (hW : s.WarmedH U.vm) : xK E U := ⟨va_K.moved hW.alike hK.1, State.WarmedH.trans hK.2.1 hW, hK.2.2⟩
theorem xPc.blind {E : xE} {As : List Value} {h : xH} : FrameBlind (xPc E As h) := fun a U g mk q =>
  ⟨q.1, q.2.1, va_K.moved (u := U) (U := U.calling g mk a) (Vm.Alike.refl U.vm) q.2.2.1, q.2.2.2.1, q.2.2.2.2⟩
theorem x_look {ls : Array Slot} {n : Nat} {lo : List (Nat × Value)} (h : lv_has ls n lo) {i : Nat} {v : Value} (hl : lo.lookup i = some v) : ls[i]? = some (.val v) := by
  refine h.2.2 (i, v) ?_
  clear h
  induction lo with
  | nil => cases hl
  | cons q lo ih =>
    obtain ⟨j, w⟩ := q
    rw [List.lookup_cons] at hl
    by_cases hj : i = j
    · subst hj
      simp at hl
      subst hl
      exact List.mem_cons_self
    · have : (i == j) = false := by simp [hj]
      rw [this] at hl
      exact List.mem_cons_of_mem _ (ih hl)
/-- a store: the list stays in the order of the places -/
def xst (lo : List (Nat × Value)) (i : Nat) (v : Value) : List (Nat × Value) :=
  lo.filter (fun q => decide (q.1 < i) && !(q.1 + 1 == i && q.2.category == 2)) ++ (i, v) :: lo.filter (fun q => decide (i < q.1))
def xst2 (lo : List (Nat × Value)) (i : Nat) (v : Value) : List (Nat × Value) :=
  lo.filter (fun q => decide (q.1 < i) && !(q.1 + 1 == i && q.2.category == 2)) ++ (i, v) :: lo.filter (fun q => decide (i + 1 < q.1))
theorem xst_ok {ls : Array Slot} {n : Nat} {lo : List (Nat × Value)} {i : Nat} {v : Value} (h : lv_has ls n ((i, v) :: lo.filter (fun q => !(q.1 == i) && !(q.1 + 1 == i && q.2.category == 2)))) : lv_has ls n (xst lo i v) := by
  refine ⟨h.1, h.2.1, fun q hq => h.2.2 q ?_⟩
  simp only [xst, List.mem_append, List.mem_cons, List.mem_filter, Bool.and_eq_true, decide_eq_true_eq] at hq
  rcases hq with ⟨h1, h2, h3⟩ | rfl | ⟨h1, h2⟩
  · refine List.mem_cons_of_mem _ (List.mem_filter.mpr ⟨h1, ?_⟩)
    rw [Bool.and_eq_true]
    exact ⟨by simp; omega, h3⟩
  · exact List.mem_cons_self
  · refine List.mem_cons_of_mem _ (List.mem_filter.mpr ⟨h1, ?_⟩)
    have e1 : (q.1 == i) = false := by simp; omega
    have e2 : (q.1 + 1 == i) = false := by simp; omega
    simp [e1, e2]
theorem xst2_ok {ls : Array Slot} {n : Nat} {lo : List (Nat × Value)} {i : Nat} {v : Value} (h : lv_has ls n ((i, v) :: lo.filter (fun q => !(q.1 == i) && (!(q.1 == i + 1) && !(q.1 + 1 == i && q.2.category == 2))))) : lv_has ls n (xst2 lo i v) := by
  refine ⟨h.1, h.2.1, fun q hq => h.2.2 q ?_⟩
  simp only [xst2, List.mem_append, List.mem_cons, List.mem_filter, Bool.and_eq_true, decide_eq_true_eq] at hq
  rcases hq with ⟨h1, h2, h3⟩ | rfl | ⟨h1, h2⟩
  · refine List.mem_cons_of_mem _ (List.mem_filter.mpr ⟨h1, ?_⟩)
    have e1 : (q.1 == i) = false := by simp; omega
    have e2 : (q.1 == i + 1) = false := by simp; omega
    rw [e1, e2]
    simpa using h3
  · exact List.mem_cons_self
  · refine List.mem_cons_of_mem _ (List.mem_filter.mpr ⟨h1, ?_⟩)
    have e1 : (q.1 == i) = false := by simp; omega
    have e2 : (q.1 + 1 == i) = false := by simp; omega
    have e3 : (q.1 == i + 1) = false := by simp; omega
    simp [e1, e2, e3]
/-- the heap with another cell at a, with a new cell -/
def xput (h : xH) (a : Nat) (e : va_E) : xH := (h.1, h.2.1, va_up h.2.2 a (some e))
def xnew (E : xE) (h : xH) (n : Nat) (e : va_E) : xH := (h.1 + 1, h.2.1 + n, va_up h.2.2 (xb E + h.1) (some e))
theorem xHR.put {E : xE} {h : xH} {H H' : Heap} {a : Nat} {e : va_E} (hR : xHR E h H) (ha : xb E ≤ a) (hat : va_at E.2.1 vwCl (a, e) H') (hz : H'.size = H.size) (ho : ∀ q : Nat, q ≠ a → H'[q]? = H[q]?) : xHR E (xput h a e) H' := by
  refine ⟨hz.trans hR.1, fun b e' hb => ?_, fun q hq => (ho q (by omega)).trans (hR.2.2 q hq)⟩
  by_cases hba : b = a
  · subst hba
    have : some e = some e' := by rw [← hb]; simp [xput, va_up]
    cases this
    exact ⟨ha, hat⟩
  · have hb' : h.2.2 b = some e' := by rw [← hb]; simp [xput, va_up, hba]
    exact ⟨(hR.2.1 b e' hb').1, (hR.2.1 b e' hb').2.kept (ho b hba)⟩
theorem xHR.new {E : xE} {h : xH} {H H' : Heap} {e : va_E} {n : Nat} (hR : xHR E h H) (hat : va_at E.2.1 vwCl (H.size, e) H') (hz : H'.size = H.size + 1) (ho : ∀ q : Nat, q < H.size → H'[q]? = H[q]?) : xHR E (xnew E h n e) H' := by
  have hsz := hR.1
  refine ⟨by rw [hz, hsz]; show _ = xb E + (h.1 + 1); omega, fun b e' hb => ?_, fun q hq => (ho q (by omega)).trans (hR.2.2 q hq)⟩
  by_cases hba : b = xb E + h.1
  · subst hba
    have : some e = some e' := by rw [← hb]; simp [xnew, va_up]
    cases this
    exact ⟨by omega, by rw [← hsz]; exact hat⟩
  · have hb' : h.2.2 b = some e' := by rw [← hb]; simp [xnew, va_up, hba]
    obtain ⟨h1, h2⟩ := hR.2.1 b e' hb'
    exact ⟨h1, h2.kept (ho b h2.lt)⟩
theorem xHR.P {E : xE} {h : xH} {H : Heap} {a : Nat} {e : va_E} (hR : xHR E h H) (ha : h.2.2 a = some e) : va_P E.2.1 vwCl [(a, e)] H := fun k q hk => by
  have hz : k < 1 := (List.getElem?_eq_some_iff.mp hk).1
  rw [show k = 0 by omega] at hk
  cases hk
  exact (hR.2.1 a e ha).2
section XP
variable {E : xE} {d : Nat} {M : xM} {pc pc' : Nat} {lo lo' : List (Nat × Value)} {st st' : List Value} {h : xH} {P : Option Value → xH → Prop}
/-- a step that leaves the heap as it is -/
theorem wp_go (hs : ∀ (p : Program) (l : Launch) (e : Env) (R : Room) (s : State) (m : MethodId) (args : Array Value) (below : List Frame) (meth : Method) (c : Code) (Q : State → Prop) (cells slots : Nat) (H : Heap) (locs : List Loc) (ls : Array Slot),
      xC E M p s m meth c → d ≤ R.frames → 48 * d ≤ R.locals → xHR E h H → lv_has ls M.2.2.1 lo →
      (∀ ls' : Array Slot, lv_has ls' M.2.2.1 lo' → W p l e R s m args below meth c H locs cells slots Q (F0 m pc' ls' st')) → W p l e R s m args below meth c H locs cells slots Q (F0 m pc ls st))
    (k : wp E d M pc' lo' st' h P) : wp E d M pc lo st h P := by
  obtain ⟨r, h', hP, h1, h2, K⟩ := k
  refine ⟨r, h', hP, h1, h2, fun p l e R s m args below meth c Q cells slots H locs ls C a1 a2 a3 a4 hR hl hls hk => ?_⟩
  exact hs p l e R s m args below meth c Q cells slots H locs ls C a1 a2 hR hls (fun ls' hl' => K p l e R s m args below meth c Q cells slots H locs ls' C a1 a2 a3 a4 hR hl hl' hk)
/-- the same, two ways on -/
theorem wp_br {A : Prop} {pc2 : Nat} (hs : ∀ (p : Program) (l : Launch) (e : Env) (R : Room) (s : State) (m : MethodId) (args : Array Value) (below : List Frame) (meth : Method) (c : Code) (Q : State → Prop) (cells slots : Nat) (H : Heap) (locs : List Loc) (ls : Array Slot),
      xC E M p s m meth c → (A → W p l e R s m args below meth c H locs cells slots Q (F0 m pc' ls st')) → (¬ A → W p l e R s m args below meth c H locs cells slots Q (F0 m pc2 ls st')) → W p l e R s m args below meth c H locs cells slots Q (F0 m pc ls st))
    (k1 : A → wp E d M pc' lo st' h P) (k2 : ¬ A → wp E d M pc2 lo st' h P) : wp E d M pc lo st h P := by
  by_cases hA : A
  · obtain ⟨r, h', hP, h1, h2, K⟩ := k1 hA
    refine ⟨r, h', hP, h1, h2, fun p l e R s m args below meth c Q cells slots H locs ls C a1 a2 a3 a4 hR hl hls hk => ?_⟩
    exact hs p l e R s m args below meth c Q cells slots H locs ls C (fun _ => K p l e R s m args below meth c Q cells slots H locs ls C a1 a2 a3 a4 hR hl hls hk) (fun n => absurd hA n)
  · obtain ⟨r, h', hP, h1, h2, K⟩ := k2 hA
    refine ⟨r, h', hP, h1, h2, fun p l e R s m args below meth c Q cells slots H locs ls C a1 a2 a3 a4 hR hl hls hk => ?_⟩
    exact hs p l e R s m args below meth c Q cells slots H locs ls C (fun n => absurd n hA) (fun _ => K p l e R s m args below meth c Q cells slots H locs ls C a1 a2 a3 a4 hR hl hls hk)
/-- a step that changes the heap, maybe with new cells -/
theorem wp_al {h2 : xH} (dn ds : Nat) (hn : h2.1 = h.1 + dn) (hm : h2.2.1 = h.2.1 + ds)
    (hs : ∀ (p : Program) (l : Launch) (e : Env) (R : Room) (s : State) (m : MethodId) (args : Array Value) (below : List Frame) (meth : Method) (c : Code) (Q : State → Prop) (cells slots : Nat) (H : Heap) (locs : List Loc) (ls : Array Slot),
      xC E M p s m meth c → d ≤ R.frames → 48 * d ≤ R.locals → cells + dn ≤ R.cells → slots + ds ≤ R.slots → xHR E h H → (∀ q ∈ locs, xb E ≤ q.base) → lv_has ls M.2.2.1 lo →
      (∀ (H2 : Heap) (locs2 : List Loc), xHR E h2 H2 → (∀ q ∈ locs2, xb E ≤ q.base) → W p l e R s m args below meth c H2 locs2 (cells + dn) (slots + ds) Q (F0 m pc' ls st')) → W p l e R s m args below meth c H locs cells slots Q (F0 m pc ls st))
    (k : wp E d M pc' lo st' h2 P) : wp E d M pc lo st h P := by
  obtain ⟨r, h', hP, h1, h3, K⟩ := k
  refine ⟨r, h', hP, by omega, by omega, fun p l e R s m args below meth c Q cells slots H locs ls C a1 a2 a3 a4 hR hl hls hk => ?_⟩
  refine hs p l e R s m args below meth c Q cells slots H locs ls C a1 a2 (by omega) (by omega) hR hl hls (fun H2 locs2 hR2 hl2 => ?_)
  refine K p l e R s m args below meth c Q (cells + dn) (slots + ds) H2 locs2 ls C a1 a2 (by omega) (by omega) hR2 hl2 hls (fun pc' ls' H' locs' x1 x2 x3 => ?_)
  have e1 : cells + dn + (h'.1 - h2.1) = cells + (h'.1 - h.1) := by omega
  have e2 : slots + ds + (h'.2.1 - h2.2.1) = slots + (h'.2.1 - h.2.1) := by omega
  rw [e1, e2]
  exact hk pc' ls' H' locs' x1 x2 x3
theorem wp_lo (hsub : ∀ q ∈ lo', q ∈ lo) (k : wp E d M pc lo' st h P) : wp E d M pc lo st h P :=
  wp_go (fun p l e R s m args below meth c Q cells slots H locs ls C _ _ _ hl kk => kk ls ⟨hl.1, hl.2.1, fun q hq => hl.2.2 q (hsub q hq)⟩) k
theorem wp_pick (ks : List Nat) (hl : lv_pick lo ks = lo') (k : wp E d M pc lo' st h P) : wp E d M pc lo st h P :=
  wp_go (fun p l e R s m args below meth c Q cells slots H locs ls C _ _ _ hl0 kk => kk ls (lv_sub hl0 ks hl)) k
theorem wp_iconst {n : Int} {v : Int32} (hd : decode M.2.1 pc = .ok (.iconst n, 1)) (hv : Int32.ofInt n = v) (k : wp E d M (pc + 1) lo (.int v :: st) h P) : wp E d M pc lo (st) h P :=
  wp_go (fun p l e R s m args below meth c Q cells slots H locs ls C _ _ _ hl kk => lv_iconst C.1 C.2.1 hd hv (kk ls hl)) k
theorem wp_bipush {n : Int} {v : Int32} (hd : decode M.2.1 pc = .ok (.bipush n, 2)) (hv : (Int8.ofInt n).toInt32 = v) (k : wp E d M (pc + 2) lo (.int v :: st) h P) : wp E d M pc lo (st) h P :=
  wp_go (fun p l e R s m args below meth c Q cells slots H locs ls C _ _ _ hl kk => lv_bipush C.1 C.2.1 hd hv (kk ls hl)) k
theorem wp_sipush {n : Int} {v : Int32} (hd : decode M.2.1 pc = .ok (.sipush n, 3)) (hv : (Int16.ofInt n).toInt32 = v) (k : wp E d M (pc + 3) lo (.int v :: st) h P) : wp E d M pc lo (st) h P :=
  wp_go (fun p l e R s m args below meth c Q cells slots H locs ls C _ _ _ hl kk => lv_sipush C.1 C.2.1 hd hv (kk ls hl)) k
theorem wp_lconst {n : Fin 2} {v : Int64} (hd : decode M.2.1 pc = .ok (.lconst n, 1)) (hv : Int64.ofNat (n : Nat) = v) (k : wp E d M (pc + 1) lo (.long v :: st) h P) : wp E d M pc lo (st) h P :=
  wp_go (fun p l e R s m args below meth c Q cells slots H locs ls C _ _ _ hl kk => lv_lconst C.1 C.2.1 hd hv (kk ls hl)) k
theorem wp_null  (hd : decode M.2.1 pc = .ok (.aconst_null, 1)) (k : wp E d M (pc + 1) lo (.null :: st) h P) : wp E d M pc lo (st) h P :=
  wp_go (fun p l e R s m args below meth c Q cells slots H locs ls C _ _ _ hl kk => lv_null C.1 C.2.1 hd (kk ls hl)) k
theorem wp_iload_n {k : Fin 4} {i : Nat} {x : Int32} (hd : decode M.2.1 pc = .ok (.iload_n k, 1)) (hi : (k : Nat) = i) (hlo : lo.lookup i = some (.int x)) (k : wp E d M (pc + 1) lo (.int x :: st) h P) : wp E d M pc lo (st) h P :=
  wp_go (fun p l e R s m args below meth c Q cells slots H locs ls C _ _ _ hl kk => lv_iload_n C.1 C.2.1 hd hi (x_look hl hlo) (kk ls hl)) k
theorem wp_iload {i : Nat} {x : Int32} (hd : decode M.2.1 pc = .ok (.iload i, 2)) (hlo : lo.lookup i = some (.int x)) (k : wp E d M (pc + 2) lo (.int x :: st) h P) : wp E d M pc lo (st) h P :=
  wp_go (fun p l e R s m args below meth c Q cells slots H locs ls C _ _ _ hl kk => lv_iload C.1 C.2.1 hd (x_look hl hlo) (kk ls hl)) k
theorem wp_istore_n {k : Fin 4} {i : Nat} {x : Int32} (hd : decode M.2.1 pc = .ok (.istore_n k, 1)) (hi : (k : Nat) = i) (hn : i < M.2.2.1) (hlo : xst lo i (.int x) = lo') (k : wp E d M (pc + 1) lo' (st) h P) : wp E d M pc lo (.int x :: st) h P :=
  wp_go (fun p l e R s m args below meth c Q cells slots H locs ls C _ _ _ hl kk => lv_istore_n C.1 C.2.1 hd hi hl hn rfl (fun ls' hl' => kk ls' (hlo ▸ xst_ok hl'))) k
theorem wp_istore {i : Nat} {x : Int32} (hd : decode M.2.1 pc = .ok (.istore i, 2)) (hn : i < M.2.2.1) (hlo : xst lo i (.int x) = lo') (k : wp E d M (pc + 2) lo' (st) h P) : wp E d M pc lo (.int x :: st) h P :=
  wp_go (fun p l e R s m args below meth c Q cells slots H locs ls C _ _ _ hl kk => lv_istore C.1 C.2.1 hd hl hn rfl (fun ls' hl' => kk ls' (hlo ▸ xst_ok hl'))) k
theorem wp_lload_n {k : Fin 4} {i : Nat} {x : Int64} (hd : decode M.2.1 pc = .ok (.lload_n k, 1)) (hi : (k : Nat) = i) (hlo : lo.lookup i = some (.long x)) (k : wp E d M (pc + 1) lo (.long x :: st) h P) : wp E d M pc lo (st) h P :=
  wp_go (fun p l e R s m args below meth c Q cells slots H locs ls C _ _ _ hl kk => lv_lload_n C.1 C.2.1 hd hi (x_look hl hlo) (kk ls hl)) k
theorem wp_lload {i : Nat} {x : Int64} (hd : decode M.2.1 pc = .ok (.lload i, 2)) (hlo : lo.lookup i = some (.long x)) (k : wp E d M (pc + 2) lo (.long x :: st) h P) : wp E d M pc lo (st) h P :=
  wp_go (fun p l e R s m args below meth c Q cells slots H locs ls C _ _ _ hl kk => lv_lload C.1 C.2.1 hd (x_look hl hlo) (kk ls hl)) k
theorem wp_lstore_n {k : Fin 4} {i : Nat} {x : Int64} (hd : decode M.2.1 pc = .ok (.lstore_n k, 1)) (hi : (k : Nat) = i) (hn : i + 1 < M.2.2.1) (hlo : xst2 lo i (.long x) = lo') (k : wp E d M (pc + 1) lo' (st) h P) : wp E d M pc lo (.long x :: st) h P :=
  wp_go (fun p l e R s m args below meth c Q cells slots H locs ls C _ _ _ hl kk => lv_lstore_n C.1 C.2.1 hd hi hl hn rfl (fun ls' hl' => kk ls' (hlo ▸ xst2_ok hl'))) k
theorem wp_lstore {i : Nat} {x : Int64} (hd : decode M.2.1 pc = .ok (.lstore i, 2)) (hn : i + 1 < M.2.2.1) (hlo : xst2 lo i (.long x) = lo') (k : wp E d M (pc + 2) lo' (st) h P) : wp E d M pc lo (.long x :: st) h P :=
  wp_go (fun p l e R s m args below meth c Q cells slots H locs ls C _ _ _ hl kk => lv_lstore C.1 C.2.1 hd hl hn rfl (fun ls' hl' => kk ls' (hlo ▸ xst2_ok hl'))) k
theorem wp_aload_n {k : Fin 4} {i : Nat} {x : Nat} (hd : decode M.2.1 pc = .ok (.aload_n k, 1)) (hi : (k : Nat) = i) (hlo : lo.lookup i = some (.ref x)) (k : wp E d M (pc + 1) lo (.ref x :: st) h P) : wp E d M pc lo (st) h P :=
  wp_go (fun p l e R s m args below meth c Q cells slots H locs ls C _ _ _ hl kk => lv_aload_n C.1 C.2.1 hd hi (x_look hl hlo) (kk ls hl)) k
theorem wp_aload {i : Nat} {x : Nat} (hd : decode M.2.1 pc = .ok (.aload i, 2)) (hlo : lo.lookup i = some (.ref x)) (k : wp E d M (pc + 2) lo (.ref x :: st) h P) : wp E d M pc lo (st) h P :=
  wp_go (fun p l e R s m args below meth c Q cells slots H locs ls C _ _ _ hl kk => lv_aload C.1 C.2.1 hd (x_look hl hlo) (kk ls hl)) k
theorem wp_astore_n {k : Fin 4} {i : Nat} {x : Nat} (hd : decode M.2.1 pc = .ok (.astore_n k, 1)) (hi : (k : Nat) = i) (hn : i < M.2.2.1) (hlo : xst lo i (.ref x) = lo') (k : wp E d M (pc + 1) lo' (st) h P) : wp E d M pc lo (.ref x :: st) h P :=
  wp_go (fun p l e R s m args below meth c Q cells slots H locs ls C _ _ _ hl kk => lv_astore_n C.1 C.2.1 hd hi hl hn rfl (fun ls' hl' => kk ls' (hlo ▸ xst_ok hl'))) k
theorem wp_astore {i : Nat} {x : Nat} (hd : decode M.2.1 pc = .ok (.astore i, 2)) (hn : i < M.2.2.1) (hlo : xst lo i (.ref x) = lo') (k : wp E d M (pc + 2) lo' (st) h P) : wp E d M pc lo (.ref x :: st) h P :=
  wp_go (fun p l e R s m args below meth c Q cells slots H locs ls C _ _ _ hl kk => lv_astore C.1 C.2.1 hd hl hn rfl (fun ls' hl' => kk ls' (hlo ▸ xst_ok hl'))) k
theorem wp_aload_nN {k : Fin 4} {i : Nat} (hd : decode M.2.1 pc = .ok (.aload_n k, 1)) (hi : (k : Nat) = i) (hlo : lo.lookup i = some .null) (k : wp E d M (pc + 1) lo (.null :: st) h P) : wp E d M pc lo (st) h P :=
  wp_go (fun p l e R s m args below meth c Q cells slots H locs ls C _ _ _ hl kk => lv_aload_nN C.1 C.2.1 hd hi (x_look hl hlo) (kk ls hl)) k
theorem wp_aloadN {i : Nat} (hd : decode M.2.1 pc = .ok (.aload i, 2)) (hlo : lo.lookup i = some .null) (k : wp E d M (pc + 2) lo (.null :: st) h P) : wp E d M pc lo (st) h P :=
  wp_go (fun p l e R s m args below meth c Q cells slots H locs ls C _ _ _ hl kk => lv_aloadN C.1 C.2.1 hd (x_look hl hlo) (kk ls hl)) k
theorem wp_astore_nN {k : Fin 4} {i : Nat} (hd : decode M.2.1 pc = .ok (.astore_n k, 1)) (hi : (k : Nat) = i) (hn : i < M.2.2.1) (hlo : xst lo i .null = lo') (k : wp E d M (pc + 1) lo' (st) h P) : wp E d M pc lo (.null :: st) h P :=
  wp_go (fun p l e R s m args below meth c Q cells slots H locs ls C _ _ _ hl kk => lv_astore_nN C.1 C.2.1 hd hi hl hn rfl (fun ls' hl' => kk ls' (hlo ▸ xst_ok hl'))) k
theorem wp_astoreN {i : Nat} (hd : decode M.2.1 pc = .ok (.astore i, 2)) (hn : i < M.2.2.1) (hlo : xst lo i .null = lo') (k : wp E d M (pc + 2) lo' (st) h P) : wp E d M pc lo (.null :: st) h P :=
  wp_go (fun p l e R s m args below meth c Q cells slots H locs ls C _ _ _ hl kk => lv_astoreN C.1 C.2.1 hd hl hn rfl (fun ls' hl' => kk ls' (hlo ▸ xst_ok hl'))) k
theorem x_place {lo : List (Nat × Value)} {i : Nat} {v : Value} (hl : lo.lookup i = some v) : ∃ k : Nat, lo[k]? = some (i, v) := by
  apply List.getElem?_of_mem
  induction lo with
  | nil => cases hl
  | cons q lo ih =>
    obtain ⟨j, w⟩ := q
    rw [List.lookup_cons] at hl
    by_cases hj : i = j
    · subst hj
      simp at hl
      subst hl
      exact List.mem_cons_self
    · have : (i == j) = false := by simp [hj]
      rw [this] at hl
      exact List.mem_cons_of_mem _ (ih hl)
theorem wp_iinc {i : Nat} {n : Int} {x v : Int32} (hd : decode M.2.1 pc = .ok (.iinc i n, 3)) (hlx : lo.lookup i = some (.int x)) (hv : x + Int32.ofInt n = v) (hn : i < M.2.2.1) (hlo : xst lo i (.int v) = lo') (k : wp E d M (pc + 3) lo' st h P) : wp E d M pc lo st h P := by
  obtain ⟨q, hq⟩ := x_place hlx
  exact wp_go (fun p l e R s m args below meth c Q cells slots H locs ls C _ _ _ hl kk => lv_iinc C.1 C.2.1 hd hl hq hv hn rfl (fun ls' hl' => kk ls' (hlo ▸ xst_ok hl'))) k
theorem wp_iadd {x y : Int32} (hd : decode M.2.1 pc = .ok (.iadd, 1)) (k : wp E d M (pc + 1) lo (.int (x + y) :: st) h P) : wp E d M pc lo (.int y :: .int x :: st) h P :=
  wp_go (fun p l e R s m args below meth c Q cells slots H locs ls C _ _ _ hl kk => lv_iadd C.1 C.2.1 hd (kk ls hl)) k
theorem wp_isub {x y : Int32} (hd : decode M.2.1 pc = .ok (.isub, 1)) (k : wp E d M (pc + 1) lo (.int (x - y) :: st) h P) : wp E d M pc lo (.int y :: .int x :: st) h P :=
  wp_go (fun p l e R s m args below meth c Q cells slots H locs ls C _ _ _ hl kk => lv_isub C.1 C.2.1 hd (kk ls hl)) k
theorem wp_imul {x y : Int32} (hd : decode M.2.1 pc = .ok (.imul, 1)) (k : wp E d M (pc + 1) lo (.int (x * y) :: st) h P) : wp E d M pc lo (.int y :: .int x :: st) h P :=
  wp_go (fun p l e R s m args below meth c Q cells slots H locs ls C _ _ _ hl kk => lv_imul C.1 C.2.1 hd (kk ls hl)) k
theorem wp_iand {x y : Int32} (hd : decode M.2.1 pc = .ok (.iand, 1)) (k : wp E d M (pc + 1) lo (.int (x &&& y) :: st) h P) : wp E d M pc lo (.int y :: .int x :: st) h P :=
  wp_go (fun p l e R s m args below meth c Q cells slots H locs ls C _ _ _ hl kk => lv_iand C.1 C.2.1 hd (kk ls hl)) k
theorem wp_ior {x y : Int32} (hd : decode M.2.1 pc = .ok (.ior, 1)) (k : wp E d M (pc + 1) lo (.int (x ||| y) :: st) h P) : wp E d M pc lo (.int y :: .int x :: st) h P :=
  wp_go (fun p l e R s m args below meth c Q cells slots H locs ls C _ _ _ hl kk => lv_ior C.1 C.2.1 hd (kk ls hl)) k
theorem wp_ixor {x y : Int32} (hd : decode M.2.1 pc = .ok (.ixor, 1)) (k : wp E d M (pc + 1) lo (.int (x ^^^ y) :: st) h P) : wp E d M pc lo (.int y :: .int x :: st) h P :=
  wp_go (fun p l e R s m args below meth c Q cells slots H locs ls C _ _ _ hl kk => lv_ixor C.1 C.2.1 hd (kk ls hl)) k
theorem wp_ishl {x y : Int32} (hd : decode M.2.1 pc = .ok (.ishl, 1)) (k : wp E d M (pc + 1) lo (.int (x <<< (y &&& 31)) :: st) h P) : wp E d M pc lo (.int y :: .int x :: st) h P :=
  wp_go (fun p l e R s m args below meth c Q cells slots H locs ls C _ _ _ hl kk => lv_ishl C.1 C.2.1 hd (kk ls hl)) k
theorem wp_ishr {x y : Int32} (hd : decode M.2.1 pc = .ok (.ishr, 1)) (k : wp E d M (pc + 1) lo (.int (x >>> (y &&& 31)) :: st) h P) : wp E d M pc lo (.int y :: .int x :: st) h P :=
  wp_go (fun p l e R s m args below meth c Q cells slots H locs ls C _ _ _ hl kk => lv_ishr C.1 C.2.1 hd (kk ls hl)) k
theorem wp_ladd {x y : Int64} (hd : decode M.2.1 pc = .ok (.ladd, 1)) (k : wp E d M (pc + 1) lo (.long (x + y) :: st) h P) : wp E d M pc lo (.long y :: .long x :: st) h P :=
  wp_go (fun p l e R s m args below meth c Q cells slots H locs ls C _ _ _ hl kk => lv_ladd C.1 C.2.1 hd (kk ls hl)) k
theorem wp_lsub {x y : Int64} (hd : decode M.2.1 pc = .ok (.lsub, 1)) (k : wp E d M (pc + 1) lo (.long (x - y) :: st) h P) : wp E d M pc lo (.long y :: .long x :: st) h P :=
  wp_go (fun p l e R s m args below meth c Q cells slots H locs ls C _ _ _ hl kk => lv_lsub C.1 C.2.1 hd (kk ls hl)) k
theorem wp_lmul {x y : Int64} (hd : decode M.2.1 pc = .ok (.lmul, 1)) (k : wp E d M (pc + 1) lo (.long (x * y) :: st) h P) : wp E d M pc lo (.long y :: .long x :: st) h P :=
  wp_go (fun p l e R s m args below meth c Q cells slots H locs ls C _ _ _ hl kk => lv_lmul C.1 C.2.1 hd (kk ls hl)) k
theorem wp_land {x y : Int64} (hd : decode M.2.1 pc = .ok (.land, 1)) (k : wp E d M (pc + 1) lo (.long (x &&& y) :: st) h P) : wp E d M pc lo (.long y :: .long x :: st) h P :=
  wp_go (fun p l e R s m args below meth c Q cells slots H locs ls C _ _ _ hl kk => lv_land C.1 C.2.1 hd (kk ls hl)) k
theorem wp_lor {x y : Int64} (hd : decode M.2.1 pc = .ok (.lor, 1)) (k : wp E d M (pc + 1) lo (.long (x ||| y) :: st) h P) : wp E d M pc lo (.long y :: .long x :: st) h P :=
  wp_go (fun p l e R s m args below meth c Q cells slots H locs ls C _ _ _ hl kk => lv_lor C.1 C.2.1 hd (kk ls hl)) k
theorem wp_lxor {x y : Int64} (hd : decode M.2.1 pc = .ok (.lxor, 1)) (k : wp E d M (pc + 1) lo (.long (x ^^^ y) :: st) h P) : wp E d M pc lo (.long y :: .long x :: st) h P :=
  wp_go (fun p l e R s m args below meth c Q cells slots H locs ls C _ _ _ hl kk => lv_lxor C.1 C.2.1 hd (kk ls hl)) k
theorem wp_idiv {x y : Int32} (hd : decode M.2.1 pc = .ok (.idiv, 1)) (hne : ¬ y = 0) (k : wp E d M (pc + 1) lo (.int (x / y) :: st) h P) : wp E d M pc lo (.int y :: .int x :: st) h P :=
  wp_go (fun p l e R s m args below meth c Q cells slots H locs ls C _ _ _ hl kk => lv_idiv C.1 C.2.1 hd hne (kk ls hl)) k
theorem wp_irem {x y : Int32} (hd : decode M.2.1 pc = .ok (.irem, 1)) (hne : ¬ y = 0) (k : wp E d M (pc + 1) lo (.int (x - x / y * y) :: st) h P) : wp E d M pc lo (.int y :: .int x :: st) h P :=
  wp_go (fun p l e R s m args below meth c Q cells slots H locs ls C _ _ _ hl kk => lv_irem C.1 C.2.1 hd hne (kk ls hl)) k
theorem wp_ineg {x : Int32} (hd : decode M.2.1 pc = .ok (.ineg, 1)) (k : wp E d M (pc + 1) lo (.int (-x) :: st) h P) : wp E d M pc lo (.int x :: st) h P :=
  wp_go (fun p l e R s m args below meth c Q cells slots H locs ls C _ _ _ hl kk => lv_ineg C.1 C.2.1 hd (kk ls hl)) k
theorem wp_iushr {x y : Int32} (hd : decode M.2.1 pc = .ok (.iushr, 1)) (k : wp E d M (pc + 1) lo (.int ((x.toUInt32 >>> (y.toUInt32 &&& Int32.toUInt32 31)).toInt32) :: st) h P) : wp E d M pc lo (.int y :: .int x :: st) h P :=
  wp_go (fun p l e R s m args below meth c Q cells slots H locs ls C _ _ _ hl kk => lv_iushr C.1 C.2.1 hd rfl (kk ls hl)) k
theorem wp_lushr {x : Int64} {y : Int32} (hd : decode M.2.1 pc = .ok (.lushr, 1)) (k : wp E d M (pc + 1) lo (.long ((x.toUInt64 >>> (y.toInt64.toUInt64 &&& Int64.toUInt64 63)).toInt64) :: st) h P) : wp E d M pc lo (.int y :: .long x :: st) h P :=
  wp_go (fun p l e R s m args below meth c Q cells slots H locs ls C _ _ _ hl kk => lv_lushr C.1 C.2.1 hd rfl (kk ls hl)) k
theorem wp_lshl {x : Int64} {y : Int32} (hd : decode M.2.1 pc = .ok (.lshl, 1)) (k : wp E d M (pc + 1) lo (.long (x <<< (y.toInt64 &&& 63)) :: st) h P) : wp E d M pc lo (.int y :: .long x :: st) h P :=
  wp_go (fun p l e R s m args below meth c Q cells slots H locs ls C _ _ _ hl kk => lv_lshl C.1 C.2.1 hd rfl (kk ls hl)) k
theorem wp_lshr {x : Int64} {y : Int32} (hd : decode M.2.1 pc = .ok (.lshr, 1)) (k : wp E d M (pc + 1) lo (.long (x >>> (y.toInt64 &&& 63)) :: st) h P) : wp E d M pc lo (.int y :: .long x :: st) h P :=
  wp_go (fun p l e R s m args below meth c Q cells slots H locs ls C _ _ _ hl kk => lv_lshr C.1 C.2.1 hd rfl (kk ls hl)) k
theorem wp_i2l {x : Int32} (hd : decode M.2.1 pc = .ok (.i2l, 1)) (k : wp E d M (pc + 1) lo (.long x.toInt64 :: st) h P) : wp E d M pc lo (.int x :: st) h P :=
  wp_go (fun p l e R s m args below meth c Q cells slots H locs ls C _ _ _ hl kk => lv_i2l C.1 C.2.1 hd rfl (kk ls hl)) k
theorem wp_l2i {x : Int64} (hd : decode M.2.1 pc = .ok (.l2i, 1)) (k : wp E d M (pc + 1) lo (.int x.toInt32 :: st) h P) : wp E d M pc lo (.long x :: st) h P :=
  wp_go (fun p l e R s m args below meth c Q cells slots H locs ls C _ _ _ hl kk => lv_l2i C.1 C.2.1 hd rfl (kk ls hl)) k
theorem wp_i2c {x : Int32} (hd : decode M.2.1 pc = .ok (.i2c, 1)) (k : wp E d M (pc + 1) lo (.int ((x.toUInt32 % 65536).toInt32) :: st) h P) : wp E d M pc lo (.int x :: st) h P :=
  wp_go (fun p l e R s m args below meth c Q cells slots H locs ls C _ _ _ hl kk => lv_i2c C.1 C.2.1 hd rfl (kk ls hl)) k
theorem wp_i2b {x : Int32} (hd : decode M.2.1 pc = .ok (.i2b, 1)) (k : wp E d M (pc + 1) lo (.int (x.toInt8.toInt32) :: st) h P) : wp E d M pc lo (.int x :: st) h P :=
  wp_go (fun p l e R s m args below meth c Q cells slots H locs ls C _ _ _ hl kk => lv_i2b C.1 C.2.1 hd rfl (kk ls hl)) k
theorem wp_lcmp {x y : Int64} (hd : decode M.2.1 pc = .ok (.lcmp, 1)) (k : wp E d M (pc + 1) lo (.int (lg_cmp x y) :: st) h P) : wp E d M pc lo (.long y :: .long x :: st) h P :=
  wp_go (fun p l e R s m args below meth c Q cells slots H locs ls C _ _ _ hl kk => W.lcmp C.1 C.2.1 hd (kk ls hl)) k
theorem wp_dup {v : Value} (hd : decode M.2.1 pc = .ok (.dup, 1)) (hv : v.category = 1) (k : wp E d M (pc + 1) lo (v :: v :: st) h P) : wp E d M pc lo (v :: st) h P :=
  wp_go (fun p l e R s m args below meth c Q cells slots H locs ls C _ _ _ hl kk => lv_dup C.1 C.2.1 hd hv (kk ls hl)) k
theorem wp_pop {v : Value} (hd : decode M.2.1 pc = .ok (.pop, 1)) (hv : v.category = 1) (k : wp E d M (pc + 1) lo (st) h P) : wp E d M pc lo (v :: st) h P :=
  wp_go (fun p l e R s m args below meth c Q cells slots H locs ls C _ _ _ hl kk => lv_pop C.1 C.2.1 hd hv (kk ls hl)) k
theorem wp_dup_x1 {v w : Value} (hd : decode M.2.1 pc = .ok (.dup_x1, 1)) (hv : v.category = 1) (hw : w.category = 1) (k : wp E d M (pc + 1) lo (v :: w :: v :: st) h P) : wp E d M pc lo (v :: w :: st) h P :=
  wp_go (fun p l e R s m args below meth c Q cells slots H locs ls C _ _ _ hl kk => lv_dup_x1 C.1 C.2.1 hd hv hw (kk ls hl)) k
theorem wp_dup_x2 {v w z : Value} (hd : decode M.2.1 pc = .ok (.dup_x2, 1)) (hv : v.category = 1) (hw : w.category = 1) (hz : z.category = 1) (k : wp E d M (pc + 1) lo (v :: w :: z :: v :: st) h P) : wp E d M pc lo (v :: w :: z :: st) h P :=
  wp_go (fun p l e R s m args below meth c Q cells slots H locs ls C _ _ _ hl kk => lv_dup_x2 C.1 C.2.1 hd hv hw hz (kk ls hl)) k
theorem wp_dup2 {v w : Value} (hd : decode M.2.1 pc = .ok (.dup2, 1)) (hv : v.category = 1) (hw : w.category = 1) (k : wp E d M (pc + 1) lo (v :: w :: v :: w :: st) h P) : wp E d M pc lo (v :: w :: st) h P :=
  wp_go (fun p l e R s m args below meth c Q cells slots H locs ls C _ _ _ hl kk => lv_dup2_11 C.1 C.2.1 hd hv hw (kk ls hl)) k
theorem wp_dup2L {v : Value} (hd : decode M.2.1 pc = .ok (.dup2, 1)) (hv : v.category = 2) (k : wp E d M (pc + 1) lo (v :: v :: st) h P) : wp E d M pc lo (v :: st) h P :=
  wp_go (fun p l e R s m args below meth c Q cells slots H locs ls C _ _ _ hl kk => lv_dup2_2 C.1 C.2.1 hd hv (kk ls hl)) k
theorem wp_goto {off : Int} {tgt : Nat} (hd : decode M.2.1 pc = .ok (.goto off, 3)) (ht : (pc : Int) + off = (tgt : Int)) (k : wp E d M tgt lo (st) h P) : wp E d M pc lo (st) h P :=
  wp_go (fun p l e R s m args below meth c Q cells slots H locs ls C _ _ _ hl kk => lv_goto C.1 C.2.1 hd ht (kk ls hl)) k
theorem wp_ifnonnull {off : Int} {tgt x : Nat} (hd : decode M.2.1 pc = .ok (.ifnonnull off, 3)) (ht : (pc : Int) + off = (tgt : Int)) (k : wp E d M tgt lo (st) h P) : wp E d M pc lo (.ref x :: st) h P :=
  wp_go (fun p l e R s m args below meth c Q cells slots H locs ls C _ _ _ hl kk => lv_ifnonnull C.1 C.2.1 hd ht (kk ls hl)) k
theorem wp_ifnull {off : Int} {x : Nat} (hd : decode M.2.1 pc = .ok (.ifnull off, 3)) (k : wp E d M (pc + 3) lo (st) h P) : wp E d M pc lo (.ref x :: st) h P :=
  wp_go (fun p l e R s m args below meth c Q cells slots H locs ls C _ _ _ hl kk => lv_ifnull C.1 C.2.1 hd (kk ls hl)) k
theorem wp_ifnullN {off : Int} {tgt : Nat} (hd : decode M.2.1 pc = .ok (.ifnull off, 3)) (ht : (pc : Int) + off = (tgt : Int)) (k : wp E d M tgt lo (st) h P) : wp E d M pc lo (.null :: st) h P :=
  wp_go (fun p l e R s m args below meth c Q cells slots H locs ls C _ _ _ hl kk => lv_ifnullN C.1 C.2.1 hd ht (kk ls hl)) k
theorem wp_ifnonnullN {off : Int} (hd : decode M.2.1 pc = .ok (.ifnonnull off, 3)) (k : wp E d M (pc + 3) lo (st) h P) : wp E d M pc lo (.null :: st) h P :=
  wp_go (fun p l e R s m args below meth c Q cells slots H locs ls C _ _ _ hl kk => lv_ifnonnullN C.1 C.2.1 hd (kk ls hl)) k
theorem wp_lookup {dflt : Int} {ps : Array (Int × Int)} {len : Nat} {x : Int32} {off : Int} {tgt : Nat} (hd : decode M.2.1 pc = .ok (.lookupswitch dflt ps, len)) (hp : (ps.toList.zip (ps.toList.drop 1)).all (fun (a, next) => a.1 < next.1) = true) (ho : Op.lookupswitch.offset ps.toList dflt x.toInt = off) (ht : (pc : Int) + off = (tgt : Int)) (k : wp E d M tgt lo (st) h P) : wp E d M pc lo (.int x :: st) h P :=
  wp_go (fun p l e R s m args below meth c Q cells slots H locs ls C _ _ _ hl kk => lv_lookup C.1 C.2.1 hd hp ho ht (kk ls hl)) k
theorem wp_tableIn {dflt lo0 hi0 : Int} {offs : Array Int} {len : Nat} {x : Int32} {off : Int} {tgt : Nat} (hd : decode M.2.1 pc = .ok (.tableswitch dflt lo0 hi0 offs, len)) (h1 : ¬ x.toInt < lo0) (h2 : ¬ hi0 < x.toInt) (ho : offs[(x.toInt - lo0).toNat]? = some off) (ht : (pc : Int) + off = (tgt : Int)) (k : wp E d M tgt lo (st) h P) : wp E d M pc lo (.int x :: st) h P :=
  wp_go (fun p l e R s m args below meth c Q cells slots H locs ls C _ _ _ hl kk => lv_tableIn C.1 C.2.1 hd h1 h2 ho ht (kk ls hl)) k
theorem wp_tableOut {dflt lo0 hi0 : Int} {offs : Array Int} {len : Nat} {x : Int32} {tgt : Nat} (hd : decode M.2.1 pc = .ok (.tableswitch dflt lo0 hi0 offs, len)) (hx : x.toInt < lo0 ∨ hi0 < x.toInt) (ht : (pc : Int) + dflt = (tgt : Int)) (k : wp E d M tgt lo (st) h P) : wp E d M pc lo (.int x :: st) h P :=
  wp_go (fun p l e R s m args below meth c Q cells slots H locs ls C _ _ _ hl kk => lv_tableOut C.1 C.2.1 hd hx ht (kk ls hl)) k
theorem wp_if_eq {x : Int32} {off : Int} {tgt : Nat} (hd : decode M.2.1 pc = .ok (.ifCond .eq off, 3)) (ht : (pc : Int) + off = (tgt : Int)) (k1 : (x = 0) → wp E d M tgt lo st h P) (k2 : ¬ (x = 0) → wp E d M (pc + 3) lo st h P) : wp E d M pc lo (.int x :: st) h P :=
  wp_br (fun p l e R s m args below meth c Q cells slots H locs ls C k1 k2 => lv_if_eq C.1 C.2.1 hd ht k1 k2) k1 k2
theorem wp_if_lt {x : Int32} {off : Int} {tgt : Nat} (hd : decode M.2.1 pc = .ok (.ifCond .lt off, 3)) (ht : (pc : Int) + off = (tgt : Int)) (k1 : (x < 0) → wp E d M tgt lo st h P) (k2 : ¬ (x < 0) → wp E d M (pc + 3) lo st h P) : wp E d M pc lo (.int x :: st) h P :=
  wp_br (fun p l e R s m args below meth c Q cells slots H locs ls C k1 k2 => lv_if_lt C.1 C.2.1 hd ht k1 k2) k1 k2
theorem wp_if_ge {x : Int32} {off : Int} {tgt : Nat} (hd : decode M.2.1 pc = .ok (.ifCond .ge off, 3)) (ht : (pc : Int) + off = (tgt : Int)) (k1 : (0 ≤ x) → wp E d M tgt lo st h P) (k2 : ¬ (0 ≤ x) → wp E d M (pc + 3) lo st h P) : wp E d M pc lo (.int x :: st) h P :=
  wp_br (fun p l e R s m args below meth c Q cells slots H locs ls C k1 k2 => lv_if_ge C.1 C.2.1 hd ht k1 k2) k1 k2
theorem wp_if_gt {x : Int32} {off : Int} {tgt : Nat} (hd : decode M.2.1 pc = .ok (.ifCond .gt off, 3)) (ht : (pc : Int) + off = (tgt : Int)) (k1 : (0 < x) → wp E d M tgt lo st h P) (k2 : ¬ (0 < x) → wp E d M (pc + 3) lo st h P) : wp E d M pc lo (.int x :: st) h P :=
  wp_br (fun p l e R s m args below meth c Q cells slots H locs ls C k1 k2 => lv_if_gt C.1 C.2.1 hd ht k1 k2) k1 k2
theorem wp_if_le {x : Int32} {off : Int} {tgt : Nat} (hd : decode M.2.1 pc = .ok (.ifCond .le off, 3)) (ht : (pc : Int) + off = (tgt : Int)) (k1 : (x ≤ 0) → wp E d M tgt lo st h P) (k2 : ¬ (x ≤ 0) → wp E d M (pc + 3) lo st h P) : wp E d M pc lo (.int x :: st) h P :=
  wp_br (fun p l e R s m args below meth c Q cells slots H locs ls C k1 k2 => lv_if_le C.1 C.2.1 hd ht k1 k2) k1 k2
theorem wp_icmp_eq {x y : Int32} {off : Int} {tgt : Nat} (hd : decode M.2.1 pc = .ok (.if_icmp .eq off, 3)) (ht : (pc : Int) + off = (tgt : Int)) (k1 : (x = y) → wp E d M tgt lo st h P) (k2 : ¬ (x = y) → wp E d M (pc + 3) lo st h P) : wp E d M pc lo (.int y :: .int x :: st) h P :=
  wp_br (fun p l e R s m args below meth c Q cells slots H locs ls C k1 k2 => lv_icmp_eq C.1 C.2.1 hd ht k1 k2) k1 k2
theorem wp_icmp_lt {x y : Int32} {off : Int} {tgt : Nat} (hd : decode M.2.1 pc = .ok (.if_icmp .lt off, 3)) (ht : (pc : Int) + off = (tgt : Int)) (k1 : (x < y) → wp E d M tgt lo st h P) (k2 : ¬ (x < y) → wp E d M (pc + 3) lo st h P) : wp E d M pc lo (.int y :: .int x :: st) h P :=
  wp_br (fun p l e R s m args below meth c Q cells slots H locs ls C k1 k2 => lv_icmp_lt C.1 C.2.1 hd ht k1 k2) k1 k2
theorem wp_icmp_ge {x y : Int32} {off : Int} {tgt : Nat} (hd : decode M.2.1 pc = .ok (.if_icmp .ge off, 3)) (ht : (pc : Int) + off = (tgt : Int)) (k1 : (y ≤ x) → wp E d M tgt lo st h P) (k2 : ¬ (y ≤ x) → wp E d M (pc + 3) lo st h P) : wp E d M pc lo (.int y :: .int x :: st) h P :=
  wp_br (fun p l e R s m args below meth c Q cells slots H locs ls C k1 k2 => lv_icmp_ge C.1 C.2.1 hd ht k1 k2) k1 k2
theorem wp_icmp_gt {x y : Int32} {off : Int} {tgt : Nat} (hd : decode M.2.1 pc = .ok (.if_icmp .gt off, 3)) (ht : (pc : Int) + off = (tgt : Int)) (k1 : (y < x) → wp E d M tgt lo st h P) (k2 : ¬ (y < x) → wp E d M (pc + 3) lo st h P) : wp E d M pc lo (.int y :: .int x :: st) h P :=
  wp_br (fun p l e R s m args below meth c Q cells slots H locs ls C k1 k2 => lv_icmp_gt C.1 C.2.1 hd ht k1 k2) k1 k2
theorem wp_icmp_le {x y : Int32} {off : Int} {tgt : Nat} (hd : decode M.2.1 pc = .ok (.if_icmp .le off, 3)) (ht : (pc : Int) + off = (tgt : Int)) (k1 : (x ≤ y) → wp E d M tgt lo st h P) (k2 : ¬ (x ≤ y) → wp E d M (pc + 3) lo st h P) : wp E d M pc lo (.int y :: .int x :: st) h P :=
  wp_br (fun p l e R s m args below meth c Q cells slots H locs ls C k1 k2 => lv_icmp_le C.1 C.2.1 hd ht k1 k2) k1 k2
theorem wp_if_ne {x : Int32} {off : Int} {tgt : Nat} (hd : decode M.2.1 pc = .ok (.ifCond .ne off, 3)) (ht : (pc : Int) + off = (tgt : Int)) (k1 : ¬ (x = 0) → wp E d M tgt lo st h P) (k2 : (x = 0) → wp E d M (pc + 3) lo st h P) : wp E d M pc lo (.int x :: st) h P :=
  wp_br (A := (x = 0)) (fun p l e R s m args below meth c Q cells slots H locs ls C k1 k2 => lv_if_ne C.1 C.2.1 hd ht k2 k1) k2 k1
theorem wp_icmp_ne {x y : Int32} {off : Int} {tgt : Nat} (hd : decode M.2.1 pc = .ok (.if_icmp .ne off, 3)) (ht : (pc : Int) + off = (tgt : Int)) (k1 : ¬ (x = y) → wp E d M tgt lo st h P) (k2 : (x = y) → wp E d M (pc + 3) lo st h P) : wp E d M pc lo (.int y :: .int x :: st) h P :=
  wp_br (A := (x = y)) (fun p l e R s m args below meth c Q cells slots H locs ls C k1 k2 => lv_icmp_ne C.1 C.2.1 hd ht k2 k1) k2 k1
theorem wp_acmp_ne {x y : Option Nat} {off : Int} {tgt : Nat} (hd : decode M.2.1 pc = .ok (.if_acmp .ne off, 3)) (ht : (pc : Int) + off = (tgt : Int)) (k1 : ¬ (x = y) → wp E d M tgt lo st h P) (k2 : (x = y) → wp E d M (pc + 3) lo st h P) : wp E d M pc lo (va_rf y :: va_rf x :: st) h P :=
  wp_br (A := (x = y)) (fun p l e R s m args below meth c Q cells slots H locs ls C k1 k2 => lv_acmp_ne C.1 C.2.1 hd ht k2 k1) k2 k1
theorem wp_acmp_eq {x y : Option Nat} {off : Int} {tgt : Nat} (hd : decode M.2.1 pc = .ok (.if_acmp .eq off, 3)) (ht : (pc : Int) + off = (tgt : Int)) (k1 : (x = y) → wp E d M tgt lo st h P) (k2 : ¬ (x = y) → wp E d M (pc + 3) lo st h P) : wp E d M pc lo (va_rf y :: va_rf x :: st) h P :=
  wp_br (fun p l e R s m args below meth c Q cells slots H locs ls C k1 k2 => lv_acmp_eq C.1 C.2.1 hd ht k1 k2) k1 k2
-- returns
theorem wp_ireturn {v : Int32} {ty : FieldType} (hd : decode M.2.1 pc = .ok (.ireturn, 1)) (ht : M.2.2.2 = some ty) (hn : narrow ty (.int v) = .int v) (hP : P (some (.int v)) h) : wp E d M pc lo [.int v] h P := by
  refine ⟨_, h, hP, Nat.le_refl _, Nat.le_refl _, fun p l e R s m args below meth c Q cells slots H locs ls C a1 a2 a3 a4 hR hl hls hk => ?_⟩
  have := hk pc ls H locs (Or.inl ⟨v, rfl, hd, ty, ht, hn⟩) hR hl
  rw [Nat.sub_self, Nat.sub_self] at this
  exact this
theorem wp_return (hd : decode M.2.1 pc = .ok (.return_, 1)) (ht : M.2.2.2 = none) (hP : P none h) : wp E d M pc lo [] h P := by
  refine ⟨_, h, hP, Nat.le_refl _, Nat.le_refl _, fun p l e R s m args below meth c Q cells slots H locs ls C a1 a2 a3 a4 hR hl hls hk => ?_⟩
  have := hk pc ls H locs (Or.inr (Or.inl ⟨rfl, hd, ht⟩)) hR hl
  rw [Nat.sub_self, Nat.sub_self] at this
  exact this
theorem wp_areturn {v : Value} {rt : FieldType} (hd : decode M.2.1 pc = .ok (.areturn, 1)) (ht : M.2.2.2 = some rt) (hrt : (∃ n, rt = .object n) ∨ ∃ t, rt = .array t) (hv : v = .null ∨ ∃ a, v = .ref a) (hP : P (some v) h) : wp E d M pc lo [v] h P := by
  refine ⟨_, h, hP, Nat.le_refl _, Nat.le_refl _, fun p l e R s m args below meth c Q cells slots H locs ls C a1 a2 a3 a4 hR hl hls hk => ?_⟩
  have := hk pc ls H locs (Or.inr (Or.inr ⟨v, rfl, hv, hd, rt, ht, hrt⟩)) hR hl
  rw [Nat.sub_self, Nat.sub_self] at this
  exact this
-- fields
/-- what the tables say of field k of class ci, named by entry idx of the class own -/
def xF (own : String) (idx ci k : Nat) (C : String) (T : u_T) (N : Nat) : Prop :=
  vwCl[ci]? = some (C, T, N) ∧ k < N ∧ (∀ w ∈ u_ws C T N, w ∈ xGT) ∧
  (Cond.fieldLink own idx (T k).1 (T k).2.1 (T k).2.2.1 ∈ xGT ∨ ∃ host, Cond.fieldLinkNest own idx (T k).1 (T k).2.1 (T k).2.2.1 host ∈ lw_tbl)
theorem x_nestF {E : xE} {s : State} (hK : xK E s) {args : Array Value} {a b n t o : String} {i : Nat} (h : Cond.fieldLinkNest a i b n t o ∈ lw_tbl) : (Cond.fieldLinkNest a i b n t o).before args s = true := by
  obtain ⟨A, hA⟩ := hK.2.2
  exact va_Nw.use rfl (va_Nw.warmF hK.2.1 (va_Nw.of rfl (hA _ h)))
theorem x_nestM {E : xE} {s : State} (hK : xK E s) {a o : String} {i : Nat} {y : MethodName} (h : Cond.methodLinkNest a i y o ∈ lw_tbl) : va_Nw (.methodLinkNest a i y o) s := by
  obtain ⟨A, hA⟩ := hK.2.2
  exact va_Nw.warmM hK.2.1 (va_Nw.of rfl (hA _ h))
theorem wp_get {a ci k idx N : Nat} {fs : List Value} {v : Value} {C : String} {T : u_T} (hf : xF M.1.cls idx ci k C T N) (hd : decode M.2.1 pc = .ok (.getfield idx, 3)) (ha : h.2.2 a = some (.inr (ci, fs))) (hv : fs[k]? = some v)
    (kk : wp E d M (pc + 3) lo (v :: st) h P) : wp E d M pc lo (.ref a :: st) h P := by
  obtain ⟨f1, f2, f3, f4⟩ := hf
  refine wp_go (fun p l e R s m args below meth c Q cells slots H locs ls C _ _ hR hl kk => ?_) kk
  obtain ⟨hx, hb, hr, hml, hown, hlk, hK, hnm⟩ := C
  rcases f4 with f4 | ⟨host, f4⟩
  · exact va_get hx hb (x_hts hK) f3 hown hK.1 (hR.P ha) 0 rfl f1 k f2 (x_hts hK _ f4) (fun _ h9 => h9) hv hd (kk ls hl)
  · exact va_getN hx hb (x_hts hK) f3 hown hK.1 (hR.P ha) 0 rfl f1 k f2 (x_nestF hK f4) (fun _ h9 => h9) hv hd (kk ls hl)
/-- what a store needs beside: the types, the names, that the field isn't final or that this is its class's constructor -/
def xG (T : u_T) (N : Nat) (ty0 : Nat → FieldType) : Prop :=
  (∀ k, k < N → parseFieldDescriptor (T k).2.2.1 = some (ty0 k)) ∧ (∀ a, a < N → ∀ b, b < N → a ≠ b → (T a).2.1 ≠ (T b).2.1)
def xW (M : xM) (k : Nat) (T : u_T) : Prop := (T k).2.2.2 = false ∨ ((T k).2.2.2 = true ∧ M.1.name = "<init>" ∧ (T k).1 = M.1.cls)
theorem wp_put {a ci k idx N : Nat} {fs : List Value} {v : Value} {C : String} {T : u_T} {ty0 : Nat → FieldType} (hf : xF M.1.cls idx ci k C T N) (hg : xG T N ty0) (hw : xW M k T) (hd : decode M.2.1 pc = .ok (.putfield idx, 3)) (ha : h.2.2 a = some (.inr (ci, fs)))
    (hn : narrow (ty0 k) v = v) (hfit : fits (ty0 k) v = true) (hl : k < fs.length) (kk : wp E d M (pc + 3) lo st (xput h a (.inr (ci, fs.set k v))) P) : wp E d M pc lo (v :: .ref a :: st) h P := by
  obtain ⟨f1, f2, f3, f4⟩ := hf
  obtain ⟨g1, g2⟩ := hg
  have g3 := hw
  refine wp_al (h2 := xput h a (.inr (ci, fs.set k v))) 0 0 rfl rfl (fun p l e R s m args below meth c Q cells slots H locs ls C _ _ _ _ hR hlo hls kk => ?_) kk
  obtain ⟨hx, hb, hr, hml, hown, hlk, hK, hnm⟩ := C
  have hts := x_hts hK (args := args)
  have hap := va_apart (own := M.1.cls) hts f3 ty0 g1 g2 hK.1 f1
  obtain ⟨r, h1, cell, q1, q2, q3, q4⟩ := (hR.2.1 a _ ha).2
  have hr : r = _ := Option.some.inj (h1.symm.trans f1)
  subst hr
  obtain ⟨hS, hfc, kC, hkC, hkind⟩ := hK.1.1 ci _ f1
  obtain ⟨cf, kf, fi, f, hi, hsl⟩ := hS k f2
  have hlay := hts _ (f3 _ (u_in_lay f2))
  unfold u_lay at hlay
  have hst := (u_facts hfc hkC (u_lays hts f3 f2) hi).1
  have fin : ∀ H' : Heap, H'[a]? = some (cell.setSlot f.slot v) → H'.size = H.size → (∀ q, q ≠ a → H'[q]? = H[q]?) → W p l e R s m args below meth c H' (locs ++ [⟨a, f.slot⟩]) cells slots Q (F0 m (pc + 3) ls st) := by
    intro H' e1 e2 e3
    rw [hsl] at e1
    refine kk H' _ (hR.put (hR.2.1 a _ ha).1 ⟨_, f1, t_OB.to (V := updV (vp_V fs) k v) ⟨_, e1, q2, q3, t_set q4 hap f2 v⟩ (fun j _ => vp_updV_set hl v j)⟩ e2 e3) (fun q hq => ?_)
    rcases List.mem_append.mp hq with h9 | h9
    · exact hlo q h9
    · rw [List.mem_singleton.mp h9]
      exact (hR.2.1 a _ ha).1
  rcases g3 with g3 | ⟨g3, g4, g5⟩
  · rw [if_neg (by rw [g3]; decide)] at hlay
    have h6 := u_store hfc hkC hkind hlay hi (g1 k f2) hn hfit
    rcases f4 with f4 | ⟨host, f4⟩
    · exact W.putK hx hb (f := f) ⟨hown, hts _ f4, ⟨_, _, _, hi⟩, hst⟩ (by rw [q2]; exact h6) q1 q3 (by rw [hsl]; exact k2_hasslot (q4 k f2)) rfl rfl hd fin
    · exact va_WputK hx hb (f := f) hown (x_nestF hK f4) hi hst (by rw [q2]; exact h6) q1 q3 (by rw [hsl]; exact k2_hasslot (q4 k f2)) rfl rfl hd fin
  · rw [if_pos g3] at hlay
    have hcf : m.cls = cf := by
      obtain ⟨_, _, c', _, _, _, -, -, hf', -, -, -, hown2, -⟩ := Cond.laysFinal_spec hlay
      have e1 : c' = cf := by have := hi.symm.trans hf'; simp at this; exact this.1.symm
      rw [g5] at hown2
      rw [← e1]; exact Option.some.inj (hown.symm.trans hown2)
    have h6 := u_fits hfc hkC hkind (Or.inr hlay) hi (g1 k f2) hn hfit
    rcases f4 with f4 | ⟨host, f4⟩
    · exact W.putFinK hx hb hown (hts _ f4) hi hst hcf (hnm.trans g4) (by rw [q2]; exact h6) q1 q3 (by rw [hsl]; exact k2_hasslot (q4 k f2)) rfl rfl hd fin
    · refine va_Wputf hx hb hown (x_nestF hK f4) hi hst (Or.inr ⟨hcf, hnm.trans g4⟩) q1 (by rw [q3]; exact fun h => by cases h) (by rw [hsl]; exact k2_hasslot (q4 k f2)) h6.1 (by rw [q3, q2]; exact h6.2) rfl rfl hd (fin _ ?_ ?_ ?_)
      · have ha' : a < H.size := (Array.getElem?_eq_some_iff.mp q1).1
        simp [Array.getElem?_setIfInBounds, ha']
      · simp
      · intro q hq
        simp [Array.getElem?_setIfInBounds, Ne.symm hq]
-- arrays
theorem wp_iald {a t n : Nat} {cA : ClassId} {f : Nat → Int32} {i : Int32} (hd : decode M.2.1 pc = .ok (.iaload, 1)) (ha : h.2.2 a = some (.inl (cA, n, .inl f))) (ht : E.2.2[t]? = some (cA, .int)) (hi : vp_in i n)
    (kk : wp E d M (pc + 1) lo (.int (f i.toNatClampNeg) :: st) h P) : wp E d M pc lo (.int i :: .ref a :: st) h P :=
  wp_go (fun p l e R s m args below meth c Q cells slots H locs ls C _ _ hR hl kk => va_iald C.1 C.2.1 C.2.2.2.2.2.2.1.1 (hR.P ha) 0 t rfl ht hi hd (kk ls hl)) kk
theorem wp_lald {a t n : Nat} {cA : ClassId} {f : Nat → Int64} {i : Int32} (hd : decode M.2.1 pc = .ok (.laload, 1)) (ha : h.2.2 a = some (.inl (cA, n, .inr (.inl f)))) (ht : E.2.2[t]? = some (cA, .long)) (hi : vp_in i n)
    (kk : wp E d M (pc + 1) lo (.long (f i.toNatClampNeg) :: st) h P) : wp E d M pc lo (.int i :: .ref a :: st) h P :=
  wp_go (fun p l e R s m args below meth c Q cells slots H locs ls C _ _ hR hl kk => va_lald C.1 C.2.1 C.2.2.2.2.2.2.1.1 (hR.P ha) 0 t rfl ht hi hd (kk ls hl)) kk
theorem wp_zald {a t n : Nat} {cA : ClassId} {f : Nat → Int32} {i : Int32} (hd : decode M.2.1 pc = .ok (.baload, 1)) (ha : h.2.2 a = some (.inl (cA, n, .inl f))) (ht : E.2.2[t]? = some (cA, .boolean)) (hi : vp_in i n)
    (kk : wp E d M (pc + 1) lo (.int (f i.toNatClampNeg) :: st) h P) : wp E d M pc lo (.int i :: .ref a :: st) h P :=
  wp_go (fun p l e R s m args below meth c Q cells slots H locs ls C _ _ hR hl kk => va_zald C.1 C.2.1 C.2.2.2.2.2.2.1.1 (hR.P ha) 0 t rfl ht hi hd (kk ls hl)) kk
theorem wp_alen {a t : Nat} {cA : ClassId} {x : vp_A} {ty : FieldType} (hd : decode M.2.1 pc = .ok (.arraylength, 1)) (ha : h.2.2 a = some (.inl (cA, x))) (ht : E.2.2[t]? = some (cA, ty))
    (kk : wp E d M (pc + 1) lo (.int (nI x.1) :: st) h P) : wp E d M pc lo (.ref a :: st) h P :=
  wp_go (fun p l e R s m args below meth c Q cells slots H locs ls C _ _ hR hl kk => va_alen C.1 C.2.1 C.2.2.2.2.2.2.1.1 (hR.P ha) 0 t rfl ht rfl hd (kk ls hl)) kk
theorem wp_iast {a t n : Nat} {cA : ClassId} {f : Nat → Int32} {i x : Int32} (hd : decode M.2.1 pc = .ok (.iastore, 1)) (ha : h.2.2 a = some (.inl (cA, n, .inl f))) (ht : E.2.2[t]? = some (cA, .int)) (hi : vp_in i n)
    (kk : wp E d M (pc + 1) lo st (xput h a (.inl (cA, n, .inl (upd f i.toNatClampNeg x)))) P) : wp E d M pc lo (.int x :: .int i :: .ref a :: st) h P := by
  refine wp_al (h2 := xput h a (.inl (cA, n, .inl (upd f i.toNatClampNeg x)))) 0 0 rfl rfl (fun p l e R s m args below meth c Q cells slots H locs ls C _ _ _ _ hR hlo hls kk => ?_) kk
  have hK := C.2.2.2.2.2.2.1.1
  refine W.iast C.1 C.2.1 (hR.2.1 a _ ha).2 ((hK.2 t _ ht).1 n (fun j => .int (f j))) (fun q => by cases q) (by show ¬ (i < 0 ∨ (arrV _ _ _).slots.size ≤ _); rw [arrV_size]; exact hi) rfl rfl hd fun H1 e z oq => ?_
  refine kk H1 _ (hR.put (hR.2.1 a _ ha).1 ?_ z oq) (fun q hq => ?_)
  · show H1[a]? = some (vp_cell _ _)
    rw [e]
    rw [vp_cell_i, vp_cell_i, arrV_store]
    congr 2
    funext q
    by_cases hq : q = i.toNatClampNeg
    · subst hq
      simp [updV, upd]
    · simp [updV, upd, hq]
  · rcases List.mem_append.mp hq with h9 | h9
    · exact hlo q h9
    · rw [List.mem_singleton.mp h9]
      exact (hR.2.1 a _ ha).1
theorem wp_last {a t n : Nat} {cA : ClassId} {f : Nat → Int64} {i : Int32} {x : Int64} (hd : decode M.2.1 pc = .ok (.lastore, 1)) (ha : h.2.2 a = some (.inl (cA, n, .inr (.inl f)))) (ht : E.2.2[t]? = some (cA, .long)) (hi : vp_in i n)
    (kk : wp E d M (pc + 1) lo st (xput h a (.inl (cA, n, .inr (.inl (vp_updL f i.toNatClampNeg x))))) P) : wp E d M pc lo (.long x :: .int i :: .ref a :: st) h P := by
  refine wp_al (h2 := xput h a (.inl (cA, n, .inr (.inl (vp_updL f i.toNatClampNeg x))))) 0 0 rfl rfl (fun p l e R s m args below meth c Q cells slots H locs ls C _ _ _ _ hR hlo hls kk => ?_) kk
  have hK := C.2.2.2.2.2.2.1.1
  refine W.last C.1 C.2.1 (hR.2.1 a _ ha).2 ((hK.2 t _ ht).1 n (fun j => .long (f j))) (fun q => by cases q) (by show ¬ (i < 0 ∨ (arrV _ _ _).slots.size ≤ _); rw [arrV_size]; exact hi) rfl rfl hd fun H1 e z oq => ?_
  refine kk H1 _ (hR.put (hR.2.1 a _ ha).1 ?_ z oq) (fun q hq => ?_)
  · show H1[a]? = some (vp_cell _ _)
    rw [e]
    rw [vp_cell_l, vp_cell_l, arrV_store]
    congr 2
    funext q
    by_cases hq : q = i.toNatClampNeg
    · subst hq
      simp [updV, vp_updL]
    · simp [updV, vp_updL, hq]
  · rcases List.mem_append.mp hq with h9 | h9
    · exact hlo q h9
    · rw [List.mem_singleton.mp h9]
      exact (hR.2.1 a _ ha).1
theorem x_newi (cA : ClassId) (N : Nat) : vp_cell cA (N, .inl (fun _ => 0)) = arrV cA N (fun _ => defaultValue .int) := rfl
theorem x_newl (cA : ClassId) (N : Nat) : vp_cell cA (N, .inr (.inl (fun _ => 0))) = arrV cA N (fun _ => defaultValue .long) := rfl
theorem x_newz (cA : ClassId) (N : Nat) : vp_cell cA (N, .inl (fun _ => 0)) = arrV cA N (fun _ => defaultValue .boolean) := rfl
theorem wp_newa {atype : ArrayType} {ty : FieldType} {t N : Nat} {cA : ClassId} {n : Int32} {a0 : vp_A} (hty : newarray.typeOf atype = ty) (hw : Cond.arrayClass ty ∈ xGT) (hd : decode M.2.1 pc = .ok (.newarray atype, 2)) (ht : E.2.2[t]? = some (cA, ty)) (ha : vp_cell cA a0 = arrV cA N (fun _ => defaultValue ty))
    (hra : ∀ U : State, va_RA U cA ty → U.vm.findClass ("[" ++ ty.toString) = some cA) (hn : ¬ n < 0) (hN : n.toNatClampNeg = N) (hbytes : N * componentBytes ty ≤ 536870912)
    (kk : wp E d M (pc + 2) lo (.ref (xb E + h.1) :: st) (xnew E h N (.inl (cA, a0))) P) : wp E d M pc lo (.int n :: st) h P := by
  subst hty
  refine wp_al (h2 := xnew E h N (.inl (cA, a0))) 1 N rfl rfl (fun p l e R s m args below meth c Q cells slots H locs ls C _ _ b1 b2 hR hlo hls kk => ?_) kk
  have hK := C.2.2.2.2.2.2.1
  refine va_newaK C.1 C.2.1 (x_hts hK _ hw) rfl hd rfl hn hN hbytes b1 b2 rfl fun H1 cA' e1 z1 o1 hAr hNm => ?_
  have hcA : cA' = cA := Option.some.inj (hNm.symm.trans (hra s (hK.1.2 t _ ht).2))
  subst hcA
  have hsz := hR.1
  rw [show (F0 m pc ls (.int n :: st)).pc = pc from rfl]
  have := kk H1 locs (hR.new (by show H1[H.size]? = some (vp_cell _ _); rw [ha]; exact e1) z1 o1) hlo
  rw [← hsz] at this
  exact this
/-- what the tables say of a class ci that a method of the class own makes by its entry idx, with the fields fs at first -/
def xN (own : String) (idx ci N : Nat) (fs : List Value) : Prop := ∃ (C : String) (T : u_T) (ty0 : Nat → FieldType), vwCl[ci]? = some (C, T, N) ∧ (∀ w ∈ u_ws C T N, w ∈ xGT) ∧ (∀ k, k < N → parseFieldDescriptor (T k).2.2.1 = some (ty0 k)) ∧ Cond.classLink own idx C ∈ xGT ∧ Cond.instantiable C N ∈ xGT ∧ Cond.initialized C ∈ xGT ∧ ∀ j, j < N → defaultValue (ty0 j) = vp_V fs j
theorem wp_new {ci idx N : Nat} {fs : List Value} (hN : xN M.1.cls idx ci N fs) (hd : decode M.2.1 pc = .ok (.new idx, 3))
    (kk : wp E d M (pc + 3) lo (.ref (xb E + h.1) :: st) (xnew E h N (.inr (ci, fs))) P) : wp E d M pc lo st h P := by
  obtain ⟨C, T, ty0, hc, hin, hty, hcl, hinst, hini, hfs⟩ := hN
  refine wp_al (h2 := xnew E h N (.inr (ci, fs))) 1 N rfl rfl (fun p l e R s m args below meth c Q cells slots H locs ls C _ _ b1 b2 hR hlo hls kk => ?_) kk
  obtain ⟨hx, hb, hr, hml, hown, hlk, hK, hnm⟩ := C
  have hts := x_hts hK (args := args)
  have hKn := hK.1.1 ci _ hc
  refine W.newcK hx hb hown (hts _ hcl) (hts _ hinst) (hts _ hini) rfl hd b1 b2 hKn.2.1 rfl fun H1 kC hkC e1 z1 o1 => ?_
  have hsz := hR.1
  have := kk H1 locs (hR.new ⟨_, hc, (u_born ty0 hts hin hKn hkC e1 hty).to hfs⟩ z1 o1) hlo
  rw [← hsz] at this
  exact this
def xO (own : String) (idx : Nat) : Prop := Cond.methodLink own idx Lib.objectInit ∈ xGT ∧ Cond.instanceMethod Lib.objectInit ∈ xGT ∧ Cond.code Lib.objectInit ⟨#[0xb1]⟩ 1 none ∈ xGT
theorem wp_objInit {idx a : Nat} (hO : xO M.1.cls idx) (hd : decode M.2.1 pc = .ok (.invokespecial idx, 3)) (hcat : (st.map fun v => v.category).sum ≤ 8)
    (hdd : 1 ≤ d) (kk : wp E d M (pc + 3) lo st h P) : wp E d M pc lo (.ref a :: st) h P := by
  obtain ⟨hl, hi, hc⟩ := hO
  refine wp_go (fun p l e R s m args below meth c Q cells slots H locs ls C a1 a2 hR hls kk => ?_) kk
  obtain ⟨hx, hb, hr, hml, hown, hlk, hK, hnm⟩ := C
  have hts := x_hts hK (args := args)
  refine W.objInit hx hb hown (hts _ hl) (hts _ hi) (hts _ hc) rfl (by rw [hml]; exact hls.1) rfl hd (by omega) ?_ (kk ls hls)
  have := lv_room (m := m) (pc := pc) (ls := ls) (rest := .ref a :: st) hcat
  omega
-- calls
/-- what the tables say of the method M' as a method of the class own calls it by its entry idx, with n arguments -/
def xCall (own : String) (idx : Nat) (M' : xM) (n : Nat) : Prop :=
  (Cond.methodLink own idx M'.1 ∈ xGT ∨ ∃ host, Cond.methodLinkNest own idx M'.1 host ∈ lw_tbl) ∧ Cond.initialized M'.1.cls ∈ xGT ∧ Cond.code M'.1 M'.2.1 M'.2.2.1 M'.2.2.2 ∈ xGT ∧
  (M'.1.cls ≠ "java/lang/invoke/MethodHandle" ∧ M'.1.cls ≠ "java/lang/invoke/VarHandle" ∧ (parseMethodDescriptor M'.1.desc).map (fun d => d.parameters.length) = some n) ∧ M'.2.2.1 ≤ 29
theorem x_pre {E : xE} {s : State} {H : Heap} {As : List Value} {h : xH} (hK : xK E s) (hR : xHR E h H) : PreS s H (xPc E As h) As :=
  ⟨xPc.blind, fun U hU hW => ⟨rfl, by rw [hU]; exact hR, hK.moved hW⟩⟩
theorem x_good {E : xE} {s : State} {M' : xM} {args : Array Value} (hc : Cond.code M'.1 M'.2.1 M'.2.2.1 M'.2.2.2 ∈ xGT) : GoodIn xGT (xws M') := fun w hw => by
  rw [xws, List.mem_singleton] at hw
  subst hw
  exact ⟨hc, good_of_word (List.mem_filter.mp hc).2⟩
theorem wp_call {P' : Option Value → xH → Prop} {M' : xM} {As rest : List Value} {dc : Nat} (hdd : dc + 1 ≤ d) (k : wpc E dc M' As h P') (kk : ∀ r h1, P' r h1 → wp E d M (pc + 3) lo (r.toList ++ rest) h1 P)
    (hs : ∀ (r : Option Value) (h1 : xH) (p : Program) (l : Launch) (e : Env) (R : Room) (s : State) (m : MethodId) (args : Array Value) (below : List Frame) (meth : Method) (c : Code) (cells slots : Nat) (H : Heap) (locs : List Loc) (ls : Array Slot),
      xC E M p s m meth c → d - 1 + 1 ≤ R.frames → 48 * (d - 1 + 1) ≤ R.locals → cells + (h1.1 - h.1) ≤ R.cells → slots + (h1.2.1 - h.2.1) ≤ R.slots → xHR E h H → lv_has ls M.2.2.1 lo →
      Met l M'.1 (xws M') ({ frames := d - 1, cells := h1.1 - h.1, slots := h1.2.1 - h.2.1, locals := 48 * (d - 1) }) (xPc E As h) (xQc E r h1) (h1.1 - h.1) (h1.2.1 - h.2.1) (xfree E) →
      va_Run p l e R s m args below meth c H locs cells slots (h1.1 - h.1) (h1.2.1 - h.2.1) (F0 m pc ls st) rest (xQc E r h1 As.toArray) (xfree E)) : wp E d M pc lo st h P := by
  obtain ⟨r, h1, hP', n1, n2, hM⟩ := k
  obtain ⟨r2, h2, hP, m1, m2, K⟩ := kk r h1 hP'
  refine ⟨r2, h2, hP, by omega, by omega, fun p l e R s m args below meth c Q cells slots H locs ls C a1 a2 a3 a4 hR hl hls hk => ?_⟩
  intro T hT X
  obtain ⟨v, st₀, t, T', L, h0, X', hL, e1, -, ⟨hv, hR'⟩, hst⟩ := hs r h1 p l e R s m args below meth c cells slots H locs ls C (by omega) (by omega) (by omega) (by omega) hR hls (hM (d - 1) l (by omega)) T hT X
  cases hv
  obtain ⟨t2, b1, b2⟩ := K p l e R s m args below meth c Q (cells + (h1.1 - h.1)) (slots + (h1.2.1 - h.2.1)) T'.heap (locs ++ L) ls C a1 a2 (by omega) (by omega) (by rw [e1]; exact hR') (fun q hq => by
    rcases List.mem_append.mp hq with h9 | h9
    · exact hl q h9
    · exact hL q h9) hls (fun pc' ls' H' locs' x1 x2 x3 => by
      have f1 : cells + (h1.1 - h.1) + (h2.1 - h1.1) = cells + (h2.1 - h.1) := by omega
      have f2 : slots + (h1.2.1 - h.2.1) + (h2.2.1 - h1.2.1) = slots + (h2.2.1 - h.2.1) := by omega
      rw [f1, f2]
      exact hk pc' ls' H' locs' x1 x2 x3) T' rfl X'
  exact ⟨t2, hst t2 b1, b2⟩
theorem x_cw {E : xE} {M M' : xM} {idx n d : Nat} {R : Room} {s : State} {args : Array Value} {mc ms : Nat} (hc : xCall M.1.cls idx M' n) (hK : xK E s) (hf : d + 1 ≤ R.frames) (hl : 48 * (d + 1) ≤ R.locals) :
    CallB R s args M.1.cls idx M'.1 M'.2.1 M'.2.2.1 M'.2.2.2 (xws M') ({ frames := d, cells := mc, slots := ms, locals := 48 * d }) mc ms n ∨ ∃ host, va_CN R s args M.1.cls idx M'.1 host M'.2.1 M'.2.2.1 M'.2.2.2 (xws M') ({ frames := d, cells := mc, slots := ms, locals := 48 * d }) mc ms n := by
  obtain ⟨c1, c2, c3, c4, c5⟩ := hc
  have hts := x_hts hK (args := args)
  have hr : 8 + (M'.2.2.1 + 11) + 48 * d ≤ R.locals := by omega
  rcases c1 with c1 | ⟨host, c1⟩
  · exact Or.inl (callB_of n hts (x_good (E := E) (s := s) (args := args) c3) rfl rfl rfl (hts _ c2) (hts _ c1) c4 ⟨hf, hr⟩)
  · exact Or.inr ⟨host, va_cnB n hts (x_good (E := E) (s := s) (args := args) c3) rfl rfl rfl (x_nestM hK c1) (hts _ c2) c4 ⟨hf, hr⟩⟩
def xCV (own : String) (idx : Nat) (M' : xM) (n ci : Nat) : Prop := xCall own idx M' n ∧ (∃ (C : String) (T : u_T) (N : Nat), vwCl[ci]? = some (C, T, N) ∧ Cond.selects C M'.1 M'.1 ∈ xGT) ∧ Cond.instanceMethod M'.1 ∈ xGT
def xCS (own : String) (idx : Nat) (M' : xM) (n : Nat) : Prop := xCall own idx M' n ∧ Cond.static M'.1 ∈ xGT
def xCI (own : String) (idx : Nat) (M' : xM) (n : Nat) : Prop := xCall own idx M' n ∧ Cond.instanceMethod M'.1 ∈ xGT ∧ M'.1.name = "<init>" ∧ M'.2.2.2 = none
theorem wp_callV {P' : Option Value → xH → Prop} {M' : xM} {As rest : List Value} {a ci idx n dc : Nat} {fs : List Value} (hc : xCV M.1.cls idx M' n ci) (hd : decode M.2.1 pc = .ok (.invokevirtual idx, 3)) (hst : As.reverse ++ .ref a :: rest = st) (hn : As.length = n) (hcat : (rest.map fun v => v.category).sum ≤ 8)
    (ha : h.2.2 a = some (.inr (ci, fs))) (k : wpc E dc M' (.ref a :: As) h P') (hdd : dc + 1 ≤ d) (kk : ∀ r h1, P' r h1 → wp E d M (pc + 3) lo (r.toList ++ rest) h1 P) : wp E d M pc lo st h P := by
  subst hst
  obtain ⟨hc, ⟨C, T, N, hcl, hsel⟩, hi⟩ := hc
  refine wp_call hdd k kk (fun r h1 p l e R s m args below meth c cells slots H locs ls Cx a1 a2 a3 a4 hR hls hM => ?_)
  obtain ⟨hx, hb, hr, hml, hown, hlk, hK, hnm⟩ := Cx
  have hts := x_hts hK (args := args)
  have hpre := x_pre (As := .ref a :: As) hK hR
  have hpv : PreV s H C a (xPc E (.ref a :: As) h) As := ⟨hpre.1, va_recv hK.1 (hR.P ha) hcl (q0 := 0) rfl, hpre.2⟩
  rcases x_cw (mc := h1.1 - h.1) (ms := h1.2.1 - h.2.1) (args := args) hc hK a1 a2 with cw | ⟨host, cw⟩
  · exact va_runV ⟨hx, hb, hml, hown, hts⟩ hM ⟨cw, hts _ hi, hts _ hsel⟩ hpv rfl hn hls.1 rfl (lv_room hcat) hd ⟨a3, a4⟩
  · exact va_runVN ⟨hx, hb, hml, hown, hts⟩ hM ⟨cw, hts _ hi, hts _ hsel⟩ hpv rfl hn hls.1 rfl (lv_room hcat) hd ⟨a3, a4⟩
theorem wp_callS {P' : Option Value → xH → Prop} {M' : xM} {As rest : List Value} {idx n dc : Nat} (hc : xCS M.1.cls idx M' n) (hd : decode M.2.1 pc = .ok (.invokestatic idx, 3)) (hst : As.reverse ++ rest = st) (hn : As.length = n) (hcat : (rest.map fun v => v.category).sum ≤ 8)
    (k : wpc E dc M' As h P') (hdd : dc + 1 ≤ d) (kk : ∀ r h1, P' r h1 → wp E d M (pc + 3) lo (r.toList ++ rest) h1 P) : wp E d M pc lo st h P := by
  subst hst
  obtain ⟨hc, hi⟩ := hc
  refine wp_call hdd k kk (fun r h1 p l e R s m args below meth c cells slots H locs ls Cx a1 a2 a3 a4 hR hls hM => ?_)
  obtain ⟨hx, hb, hr, hml, hown, hlk, hK, hnm⟩ := Cx
  have hts := x_hts hK (args := args)
  have hpre := x_pre (As := As) hK hR
  rcases x_cw (mc := h1.1 - h.1) (ms := h1.2.1 - h.2.1) (args := args) hc hK a1 a2 with cw | ⟨host, cw⟩
  · exact va_runS ⟨hx, hb, hml, hown, hts⟩ hM ⟨cw, hts _ hi⟩ hpre rfl hn hls.1 rfl (lv_room hcat) hd ⟨a3, a4⟩
  · exact va_runSN ⟨hx, hb, hml, hown, hts⟩ hM ⟨cw, hts _ hi, trivial⟩ hpre rfl hn hls.1 rfl (lv_room hcat) hd ⟨a3, a4⟩
theorem wp_callI {P' : Option Value → xH → Prop} {M' : xM} {As rest : List Value} {a idx n dc : Nat} (hc : xCI M.1.cls idx M' n) (hd : decode M.2.1 pc = .ok (.invokespecial idx, 3)) (hst : As.reverse ++ .ref a :: rest = st) (hn : As.length = n) (hcat : (rest.map fun v => v.category).sum ≤ 8)
    (k : wpc E dc M' (.ref a :: As) h P') (hdd : dc + 1 ≤ d) (kk : ∀ r h1, P' r h1 → wp E d M (pc + 3) lo (r.toList ++ rest) h1 P) : wp E d M pc lo st h P := by
  subst hst
  obtain ⟨hc, hi, hnm, hret⟩ := hc
  refine wp_call hdd k kk (fun r h1 p l e R s m args below meth c cells slots H locs ls Cx a1 a2 a3 a4 hR hls hM => ?_)
  obtain ⟨hx, hb, hr, hml, hown, hlk, hK, hnm'⟩ := Cx
  have hts := x_hts hK (args := args)
  have hpre := x_pre (As := .ref a :: As) hK hR
  obtain ⟨y', cc', maxL', ret'⟩ := M'
  dsimp only at hret hnm hi
  subst hret
  rcases x_cw (mc := h1.1 - h.1) (ms := h1.2.1 - h.2.1) (args := args) hc hK a1 a2 with cw | ⟨host, cw⟩
  · exact va_runI ⟨hx, hb, hml, hown, hts⟩ hM ⟨cw, hnm, hts _ hi⟩ hpre rfl hn hls.1 rfl (lv_room hcat) hd ⟨a3, a4⟩
  · exact va_runIN ⟨hx, hb, hml, hown, hts⟩ hM ⟨cw, hnm, hts _ hi⟩ hpre rfl hn hls.1 rfl (lv_room hcat) hd ⟨a3, a4⟩
end XP
/-- a contract out of a walk of the body -/
theorem wpc_of {E : xE} {d : Nat} {M : xM} {As : List Value} {h : xH} {P : Option Value → xH → Prop} (hp : plainName M.1.cls = true) (hlen : (lg_sl As).length ≤ M.2.2.1) (k : wp E d M 0 (lv_args 0 As) [] h P) : wpc E d M As h P := by
  obtain ⟨r, h', hP, h1, h2, K⟩ := k
  refine ⟨r, h', hP, h1, h2, fun D l hD => ?_⟩
  refine Met.ofW (cc := M.2.1) (maxL := M.2.2.1) (ret := M.2.2.2) (ws' := []) hp rfl ?_
  intro p e s m args below meth c s₁ B hml hv
  obtain ⟨rfl, hR, hK⟩ := hv
  have hlocks := B.notSynchronized
  have C : xC E M p s m meth c := ⟨B.exec, B.bytes, B.returns, hml, findClass_of_methodNamed B.named, hlocks, hK, (name_of_methodNamed B.named B.method).1⟩
  rw [lg_entry_eq]
  refine K p l e _ s m _ below meth c _ 0 0 s.heap [] _ C hD (Nat.mul_le_mul_left 48 hD) (by rw [Nat.zero_add]; exact Nat.le_refl _) (by rw [Nat.zero_add]; exact Nat.le_refl _) hR (fun q hq => by cases hq) (lv_entry As hlen) ?_
  intro pc' ls' H' locs' hret hR' hl'
  rw [Nat.zero_add, Nat.zero_add]
  rcases hret with ⟨v, rfl, hd, ty, ht, hn⟩ | ⟨rfl, hd, ht⟩ | ⟨v, rfl, hv, hd, rt, ht, hrt⟩
  · exact W.zret (v := v) B.exec B.bytes (B.returns.trans ht) hn (fun t ht hW => ⟨rfl, by rw [ht]; exact hR'⟩) hl' hd
  · exact W.vret B.exec B.bytes (B.returns.trans ht) (fun t ht hW => ⟨rfl, by rw [ht]; exact hR'⟩) hl' hd
  · exact W.aret (v := v) B.exec B.bytes (B.returns.trans ht) hrt hv (fun t ht hW => ⟨rfl, by rw [ht]; exact hR'⟩) hl' hd
-- the heap's cells
theorem xg_eq {h : xH} {a : Nat} {e : va_E} : (xput h a e).2.2 a = some e := by simp [xput, va_up]
theorem xg_ne {h : xH} {a b : Nat} {e : va_E} {v : Option va_E} (hab : b ≠ a) (hb : h.2.2 b = v) : (xput h a e).2.2 b = v := by simp [xput, va_up, hab, hb]
theorem xn_eq {E : xE} {h : xH} {a n : Nat} {e : va_E} (ha : a = xb E + h.1) : (xnew E h n e).2.2 a = some e := by simp [xnew, va_up, ha]
theorem xn_ne {E : xE} {h : xH} {b n : Nat} {e : va_E} {v : Option va_E} (hab : b ≠ xb E + h.1) (hb : h.2.2 b = v) : (xnew E h n e).2.2 b = v := by simp [xnew, va_up, hab, hb]
/-- the array classes: int[], long[], boolean[] -/
def xcI (E : xE) : ClassId := (E.2.2.getD 0 (0, .int)).1
def xcJ (E : xE) : ClassId := (E.2.2.getD 1 (0, .int)).1
def xcZ (E : xE) : ClassId := (E.2.2.getD 2 (0, .int)).1
def xOK (E : xE) : Prop := E.2.2 = [(xcI E, .int), (xcJ E, .long), (xcZ E, .boolean)]
theorem xOK.i {E : xE} (h : xOK E) : E.2.2[0]? = some (xcI E, .int) := by rw [h]; rfl
theorem xOK.j {E : xE} (h : xOK E) : E.2.2[1]? = some (xcJ E, .long) := by rw [h]; rfl
theorem xOK.z {E : xE} (h : xOK E) : E.2.2[2]? = some (xcZ E, .boolean) := by rw [h]; rfl
abbrev aI (E : xE) (n : Nat) (f : Nat → Int32) : va_E := .inl (xcI E, n, .inl f)
abbrev aJ (E : xE) (n : Nat) (f : Nat → Int64) : va_E := .inl (xcJ E, n, .inr (.inl f))
abbrev aZ (E : xE) (n : Nat) (f : Nat → Int32) : va_E := .inl (xcZ E, n, .inl f)
abbrev ob (ci : Nat) (fs : List Value) : va_E := .inr (ci, fs)
end
section
abbrev m_JA_fill : MethodName × ByteArray × Nat × Option FieldType := (⟨"java/util/Arrays", "fill", "([II)V"⟩, prog_18_method_103_code, 4, none)
abbrev m_JS_indexOf1 : MethodName × ByteArray × Nat × Option FieldType := (⟨"java/lang/String", "indexOf", "(I)I"⟩, prog_15_method_79_code, 2, (some .int))
abbrev m_JS_indexOf2 : MethodName × ByteArray × Nat × Option FieldType := (⟨"java/lang/String", "indexOf", "(II)I"⟩, prog_15_method_80_code, 3, (some .int))
abbrev m_JS_isLatin1 : MethodName × ByteArray × Nat × Option FieldType := (⟨"java/lang/String", "isLatin1", "()Z"⟩, prog_15_method_154_code, 1, (some .boolean))
abbrev m_JS_length : MethodName × ByteArray × Nat × Option FieldType := (⟨"java/lang/String", "length", "()I"⟩, prog_15_method_54_code, 1, (some .int))
abbrev m_JS_coder : MethodName × ByteArray × Nat × Option FieldType := (⟨"java/lang/String", "coder", "()B"⟩, prog_15_method_152_code, 1, (some .byte))
abbrev m_JL_indexOf : MethodName × ByteArray × Nat × Option FieldType := (⟨"java/lang/StringLatin1", "indexOf", "([BIII)I"⟩, prog_16_method_22_code, 4, (some .int))
abbrev m_JL_canEncode : MethodName × ByteArray × Nat × Option FieldType := (⟨"java/lang/StringLatin1", "canEncode", "(I)Z"⟩, prog_16_method_4_code, 1, (some .boolean))
abbrev m_JM_max : MethodName × ByteArray × Nat × Option FieldType := (⟨"java/lang/Math", "max", "(II)I"⟩, prog_14_method_65_code, 2, (some .int))
abbrev m_JM_min : MethodName × ByteArray × Nat × Option FieldType := (⟨"java/lang/Math", "min", "(II)I"⟩, prog_14_method_69_code, 2, (some .int))
abbrev m_JL_indexOfChar : MethodName × ByteArray × Nat × Option FieldType := (⟨"java/lang/StringLatin1", "indexOfChar", "([BIII)I"⟩, prog_16_method_23_code, 6, (some .int))
theorem kz_PS : Cond.initialized "PatternSearch" ∈ xGT := x_in (i := 54) (w := .initialized "PatternSearch") (by decide +kernel) rfl
theorem kz_AT : Cond.initialized "PatternSearch$Atom" ∈ xGT := x_in (i := 71) (w := .initialized "PatternSearch$Atom") (by decide +kernel) rfl
theorem kz_BO : Cond.initialized "PatternSearch$Bounds" ∈ xGT := x_in (i := 58) (w := .initialized "PatternSearch$Bounds") (by decide +kernel) rfl
theorem kz_CH : Cond.initialized "PatternSearch$Choice" ∈ xGT := x_in (i := 62) (w := .initialized "PatternSearch$Choice") (by decide +kernel) rfl
theorem kz_MA : Cond.initialized "PatternSearch$Matcher" ∈ xGT := x_in (i := 56) (w := .initialized "PatternSearch$Matcher") (by decide +kernel) rfl
theorem kz_PI : Cond.initialized "PatternSearch$Piece" ∈ xGT := x_in (i := 70) (w := .initialized "PatternSearch$Piece") (by decide +kernel) rfl
theorem kz_PR : Cond.initialized "PatternSearch$Program" ∈ xGT := x_in (i := 57) (w := .initialized "PatternSearch$Program") (by decide +kernel) rfl
theorem kz_RE : Cond.initialized "PatternSearch$Reader" ∈ xGT := x_in (i := 61) (w := .initialized "PatternSearch$Reader") (by decide +kernel) rfl
theorem kz_RO : Cond.initialized "PatternSearch$Row" ∈ xGT := x_in (i := 63) (w := .initialized "PatternSearch$Row") (by decide +kernel) rfl
theorem kz_SI : Cond.initialized "PatternSearch$Signs" ∈ xGT := x_in (i := 55) (w := .initialized "PatternSearch$Signs") (by decide +kernel) rfl
theorem kz_MO : Cond.initialized "PatternSearchModel" ∈ xGT := x_in (i := 60) (w := .initialized "PatternSearchModel") (by decide +kernel) rfl
theorem kz_JM : Cond.initialized "java/lang/Math" ∈ xGT := x_in (i := 66) (w := .initialized "java/lang/Math") (by decide +kernel) rfl
theorem kz_JS : Cond.initialized "java/lang/String" ∈ xGT := x_in (i := 64) (w := .initialized "java/lang/String") (by decide +kernel) rfl
theorem kz_JL : Cond.initialized "java/lang/StringLatin1" ∈ xGT := x_in (i := 65) (w := .initialized "java/lang/StringLatin1") (by decide +kernel) rfl
theorem kz_JA : Cond.initialized "java/util/Arrays" ∈ xGT := x_in (i := 59) (w := .initialized "java/util/Arrays") (by decide +kernel) rfl
set_option maxRecDepth 100000 in
theorem kc_PS_init : Cond.code m_PS_init.1 m_PS_init.2.1 m_PS_init.2.2.1 m_PS_init.2.2.2 ∈ xGT := List.mem_filter.mpr ⟨List.mem_of_getElem? (i := 76) (by rfl), rfl⟩
theorem kd_PS_init : m_PS_init.1.cls ≠ "java/lang/invoke/MethodHandle" ∧ m_PS_init.1.cls ≠ "java/lang/invoke/VarHandle" ∧ (parseMethodDescriptor m_PS_init.1.desc).map (fun d => d.parameters.length) = some 0 := by decide +kernel
theorem ki_PS_init : Cond.instanceMethod m_PS_init.1 ∈ xGT := x_in (i := 75) (w := .instanceMethod ⟨"PatternSearch", "<init>", "()V"⟩) (by decide +kernel) rfl
set_option maxRecDepth 100000 in
theorem kc_SI_init : Cond.code m_SI_init.1 m_SI_init.2.1 m_SI_init.2.2.1 m_SI_init.2.2.2 ∈ xGT := List.mem_filter.mpr ⟨List.mem_of_getElem? (i := 84) (by rfl), rfl⟩
theorem kd_SI_init : m_SI_init.1.cls ≠ "java/lang/invoke/MethodHandle" ∧ m_SI_init.1.cls ≠ "java/lang/invoke/VarHandle" ∧ (parseMethodDescriptor m_SI_init.1.desc).map (fun d => d.parameters.length) = some 1 := by decide +kernel
theorem ki_SI_init : Cond.instanceMethod m_SI_init.1 ∈ xGT := x_in (i := 83) (w := .instanceMethod ⟨"PatternSearch$Signs", "<init>", "(I)V"⟩) (by decide +kernel) rfl
set_option maxRecDepth 100000 in
theorem kc_MA_init : Cond.code m_MA_init.1 m_MA_init.2.1 m_MA_init.2.2.1 m_MA_init.2.2.2 ∈ xGT := List.mem_filter.mpr ⟨List.mem_of_getElem? (i := 98) (by rfl), rfl⟩
theorem kd_MA_init : m_MA_init.1.cls ≠ "java/lang/invoke/MethodHandle" ∧ m_MA_init.1.cls ≠ "java/lang/invoke/VarHandle" ∧ (parseMethodDescriptor m_MA_init.1.desc).map (fun d => d.parameters.length) = some 0 := by decide +kernel
theorem ki_MA_init : Cond.instanceMethod m_MA_init.1 ∈ xGT := x_in (i := 97) (w := .instanceMethod ⟨"PatternSearch$Matcher", "<init>", "()V"⟩) (by decide +kernel) rfl
set_option maxRecDepth 100000 in
theorem kc_PR_init : Cond.code m_PR_init.1 m_PR_init.2.1 m_PR_init.2.2.1 m_PR_init.2.2.2 ∈ xGT := List.mem_filter.mpr ⟨List.mem_of_getElem? (i := 104) (by rfl), rfl⟩
theorem kd_PR_init : m_PR_init.1.cls ≠ "java/lang/invoke/MethodHandle" ∧ m_PR_init.1.cls ≠ "java/lang/invoke/VarHandle" ∧ (parseMethodDescriptor m_PR_init.1.desc).map (fun d => d.parameters.length) = some 0 := by decide +kernel
theorem ki_PR_init : Cond.instanceMethod m_PR_init.1 ∈ xGT := x_in (i := 103) (w := .instanceMethod ⟨"PatternSearch$Program", "<init>", "()V"⟩) (by decide +kernel) rfl
set_option maxRecDepth 100000 in
theorem kc_BO_init : Cond.code m_BO_init.1 m_BO_init.2.1 m_BO_init.2.2.1 m_BO_init.2.2.2 ∈ xGT := List.mem_filter.mpr ⟨List.mem_of_getElem? (i := 155) (by rfl), rfl⟩
theorem kd_BO_init : m_BO_init.1.cls ≠ "java/lang/invoke/MethodHandle" ∧ m_BO_init.1.cls ≠ "java/lang/invoke/VarHandle" ∧ (parseMethodDescriptor m_BO_init.1.desc).map (fun d => d.parameters.length) = some 0 := by decide +kernel
theorem ki_BO_init : Cond.instanceMethod m_BO_init.1 ∈ xGT := x_in (i := 154) (w := .instanceMethod ⟨"PatternSearch$Bounds", "<init>", "()V"⟩) (by decide +kernel) rfl
set_option maxRecDepth 100000 in
theorem kc_JA_fill : Cond.code m_JA_fill.1 m_JA_fill.2.1 m_JA_fill.2.2.1 m_JA_fill.2.2.2 ∈ xGT := List.mem_filter.mpr ⟨List.mem_of_getElem? (i := 159) (by rfl), rfl⟩
theorem kd_JA_fill : m_JA_fill.1.cls ≠ "java/lang/invoke/MethodHandle" ∧ m_JA_fill.1.cls ≠ "java/lang/invoke/VarHandle" ∧ (parseMethodDescriptor m_JA_fill.1.desc).map (fun d => d.parameters.length) = some 2 := by decide +kernel
theorem ki_JA_fill : Cond.static m_JA_fill.1 ∈ xGT := x_in (i := 158) (w := .static ⟨"java/util/Arrays", "fill", "([II)V"⟩) (by decide +kernel) rfl
set_option maxRecDepth 100000 in
theorem kc_PS_pattern : Cond.code m_PS_pattern.1 m_PS_pattern.2.1 m_PS_pattern.2.2.1 m_PS_pattern.2.2.2 ∈ xGT := List.mem_filter.mpr ⟨List.mem_of_getElem? (i := 192) (by rfl), rfl⟩
theorem kd_PS_pattern : m_PS_pattern.1.cls ≠ "java/lang/invoke/MethodHandle" ∧ m_PS_pattern.1.cls ≠ "java/lang/invoke/VarHandle" ∧ (parseMethodDescriptor m_PS_pattern.1.desc).map (fun d => d.parameters.length) = some 1 := by decide +kernel
theorem ki_PS_pattern : Cond.instanceMethod m_PS_pattern.1 ∈ xGT := x_in (i := 190) (w := .instanceMethod ⟨"PatternSearch", "pattern", "(I)I"⟩) (by decide +kernel) rfl
theorem ks_PS_pattern : Cond.selects "PatternSearch" m_PS_pattern.1 m_PS_pattern.1 ∈ xGT := x_in (i := 191) (w := .selects "PatternSearch" ⟨"PatternSearch", "pattern", "(I)I"⟩ ⟨"PatternSearch", "pattern", "(I)I"⟩) (by decide +kernel) rfl
set_option maxRecDepth 100000 in
theorem kc_PS_isSign : Cond.code m_PS_isSign.1 m_PS_isSign.2.1 m_PS_isSign.2.2.1 m_PS_isSign.2.2.2 ∈ xGT := List.mem_filter.mpr ⟨List.mem_of_getElem? (i := 195) (by rfl), rfl⟩
theorem kd_PS_isSign : m_PS_isSign.1.cls ≠ "java/lang/invoke/MethodHandle" ∧ m_PS_isSign.1.cls ≠ "java/lang/invoke/VarHandle" ∧ (parseMethodDescriptor m_PS_isSign.1.desc).map (fun d => d.parameters.length) = some 1 := by decide +kernel
theorem ki_PS_isSign : Cond.static m_PS_isSign.1 ∈ xGT := x_in (i := 194) (w := .static ⟨"PatternSearch", "isSign", "(I)Z"⟩) (by decide +kernel) rfl
set_option maxRecDepth 100000 in
theorem kc_SI_isFull : Cond.code m_SI_isFull.1 m_SI_isFull.2.1 m_SI_isFull.2.2.1 m_SI_isFull.2.2.2 ∈ xGT := List.mem_filter.mpr ⟨List.mem_of_getElem? (i := 199) (by rfl), rfl⟩
theorem kd_SI_isFull : m_SI_isFull.1.cls ≠ "java/lang/invoke/MethodHandle" ∧ m_SI_isFull.1.cls ≠ "java/lang/invoke/VarHandle" ∧ (parseMethodDescriptor m_SI_isFull.1.desc).map (fun d => d.parameters.length) = some 0 := by decide +kernel
theorem ki_SI_isFull : Cond.instanceMethod m_SI_isFull.1 ∈ xGT := x_in (i := 197) (w := .instanceMethod ⟨"PatternSearch$Signs", "isFull", "()Z"⟩) (by decide +kernel) rfl
theorem ks_SI_isFull : Cond.selects "PatternSearch$Signs" m_SI_isFull.1 m_SI_isFull.1 ∈ xGT := x_in (i := 198) (w := .selects "PatternSearch$Signs" ⟨"PatternSearch$Signs", "isFull", "()Z"⟩ ⟨"PatternSearch$Signs", "isFull", "()Z"⟩) (by decide +kernel) rfl
set_option maxRecDepth 100000 in
theorem kc_SI_add : Cond.code m_SI_add.1 m_SI_add.2.1 m_SI_add.2.2.1 m_SI_add.2.2.2 ∈ xGT := List.mem_filter.mpr ⟨List.mem_of_getElem? (i := 203) (by rfl), rfl⟩
theorem kd_SI_add : m_SI_add.1.cls ≠ "java/lang/invoke/MethodHandle" ∧ m_SI_add.1.cls ≠ "java/lang/invoke/VarHandle" ∧ (parseMethodDescriptor m_SI_add.1.desc).map (fun d => d.parameters.length) = some 1 := by decide +kernel
theorem ki_SI_add : Cond.instanceMethod m_SI_add.1 ∈ xGT := x_in (i := 201) (w := .instanceMethod ⟨"PatternSearch$Signs", "add", "(I)V"⟩) (by decide +kernel) rfl
theorem ks_SI_add : Cond.selects "PatternSearch$Signs" m_SI_add.1 m_SI_add.1 ∈ xGT := x_in (i := 202) (w := .selects "PatternSearch$Signs" ⟨"PatternSearch$Signs", "add", "(I)V"⟩ ⟨"PatternSearch$Signs", "add", "(I)V"⟩) (by decide +kernel) rfl
set_option maxRecDepth 100000 in
theorem kc_SI_length : Cond.code m_SI_length.1 m_SI_length.2.1 m_SI_length.2.2.1 m_SI_length.2.2.2 ∈ xGT := List.mem_filter.mpr ⟨List.mem_of_getElem? (i := 208) (by rfl), rfl⟩
theorem kd_SI_length : m_SI_length.1.cls ≠ "java/lang/invoke/MethodHandle" ∧ m_SI_length.1.cls ≠ "java/lang/invoke/VarHandle" ∧ (parseMethodDescriptor m_SI_length.1.desc).map (fun d => d.parameters.length) = some 0 := by decide +kernel
theorem ki_SI_length : Cond.instanceMethod m_SI_length.1 ∈ xGT := x_in (i := 206) (w := .instanceMethod ⟨"PatternSearch$Signs", "length", "()I"⟩) (by decide +kernel) rfl
theorem ks_SI_length : Cond.selects "PatternSearch$Signs" m_SI_length.1 m_SI_length.1 ∈ xGT := x_in (i := 207) (w := .selects "PatternSearch$Signs" ⟨"PatternSearch$Signs", "length", "()I"⟩ ⟨"PatternSearch$Signs", "length", "()I"⟩) (by decide +kernel) rfl
set_option maxRecDepth 100000 in
theorem kc_PS_newPattern : Cond.code m_PS_newPattern.1 m_PS_newPattern.2.1 m_PS_newPattern.2.2.1 m_PS_newPattern.2.2.2 ∈ xGT := List.mem_filter.mpr ⟨List.mem_of_getElem? (i := 212) (by rfl), rfl⟩
theorem kd_PS_newPattern : m_PS_newPattern.1.cls ≠ "java/lang/invoke/MethodHandle" ∧ m_PS_newPattern.1.cls ≠ "java/lang/invoke/VarHandle" ∧ (parseMethodDescriptor m_PS_newPattern.1.desc).map (fun d => d.parameters.length) = some 0 := by decide +kernel
theorem ki_PS_newPattern : Cond.instanceMethod m_PS_newPattern.1 ∈ xGT := x_in (i := 210) (w := .instanceMethod ⟨"PatternSearch", "newPattern", "()I"⟩) (by decide +kernel) rfl
theorem ks_PS_newPattern : Cond.selects "PatternSearch" m_PS_newPattern.1 m_PS_newPattern.1 ∈ xGT := x_in (i := 211) (w := .selects "PatternSearch" ⟨"PatternSearch", "newPattern", "()I"⟩ ⟨"PatternSearch", "newPattern", "()I"⟩) (by decide +kernel) rfl
set_option maxRecDepth 100000 in
theorem kc_SI_clear : Cond.code m_SI_clear.1 m_SI_clear.2.1 m_SI_clear.2.2.1 m_SI_clear.2.2.2 ∈ xGT := List.mem_filter.mpr ⟨List.mem_of_getElem? (i := 216) (by rfl), rfl⟩
theorem kd_SI_clear : m_SI_clear.1.cls ≠ "java/lang/invoke/MethodHandle" ∧ m_SI_clear.1.cls ≠ "java/lang/invoke/VarHandle" ∧ (parseMethodDescriptor m_SI_clear.1.desc).map (fun d => d.parameters.length) = some 0 := by decide +kernel
theorem ki_SI_clear : Cond.instanceMethod m_SI_clear.1 ∈ xGT := x_in (i := 214) (w := .instanceMethod ⟨"PatternSearch$Signs", "clear", "()V"⟩) (by decide +kernel) rfl
theorem ks_SI_clear : Cond.selects "PatternSearch$Signs" m_SI_clear.1 m_SI_clear.1 ∈ xGT := x_in (i := 215) (w := .selects "PatternSearch$Signs" ⟨"PatternSearch$Signs", "clear", "()V"⟩ ⟨"PatternSearch$Signs", "clear", "()V"⟩) (by decide +kernel) rfl
set_option maxRecDepth 100000 in
theorem kc_PS_compile : Cond.code m_PS_compile.1 m_PS_compile.2.1 m_PS_compile.2.2.1 m_PS_compile.2.2.2 ∈ xGT := List.mem_filter.mpr ⟨List.mem_of_getElem? (i := 220) (by rfl), rfl⟩
theorem kd_PS_compile : m_PS_compile.1.cls ≠ "java/lang/invoke/MethodHandle" ∧ m_PS_compile.1.cls ≠ "java/lang/invoke/VarHandle" ∧ (parseMethodDescriptor m_PS_compile.1.desc).map (fun d => d.parameters.length) = some 0 := by decide +kernel
theorem ki_PS_compile : Cond.instanceMethod m_PS_compile.1 ∈ xGT := x_in (i := 218) (w := .instanceMethod ⟨"PatternSearch", "compile", "()I"⟩) (by decide +kernel) rfl
theorem ks_PS_compile : Cond.selects "PatternSearch" m_PS_compile.1 m_PS_compile.1 ∈ xGT := x_in (i := 219) (w := .selects "PatternSearch" ⟨"PatternSearch", "compile", "()I"⟩ ⟨"PatternSearch", "compile", "()I"⟩) (by decide +kernel) rfl
set_option maxRecDepth 100000 in
theorem kc_RE_init : Cond.code m_RE_init.1 m_RE_init.2.1 m_RE_init.2.2.1 m_RE_init.2.2.2 ∈ xGT := List.mem_filter.mpr ⟨List.mem_of_getElem? (i := 225) (by rfl), rfl⟩
theorem kd_RE_init : m_RE_init.1.cls ≠ "java/lang/invoke/MethodHandle" ∧ m_RE_init.1.cls ≠ "java/lang/invoke/VarHandle" ∧ (parseMethodDescriptor m_RE_init.1.desc).map (fun d => d.parameters.length) = some 1 := by decide +kernel
theorem ki_RE_init : Cond.instanceMethod m_RE_init.1 ∈ xGT := x_in (i := 224) (w := .instanceMethod ⟨"PatternSearch$Reader", "<init>", "(LPatternSearch$Signs;)V"⟩) (by decide +kernel) rfl
set_option maxRecDepth 100000 in
theorem kc_RE_readChoice : Cond.code m_RE_readChoice.1 m_RE_readChoice.2.1 m_RE_readChoice.2.2.1 m_RE_readChoice.2.2.2 ∈ xGT := List.mem_filter.mpr ⟨List.mem_of_getElem? (i := 246) (by rfl), rfl⟩
theorem kd_RE_readChoice : m_RE_readChoice.1.cls ≠ "java/lang/invoke/MethodHandle" ∧ m_RE_readChoice.1.cls ≠ "java/lang/invoke/VarHandle" ∧ (parseMethodDescriptor m_RE_readChoice.1.desc).map (fun d => d.parameters.length) = some 0 := by decide +kernel
theorem ki_RE_readChoice : Cond.instanceMethod m_RE_readChoice.1 ∈ xGT := x_in (i := 245) (w := .instanceMethod ⟨"PatternSearch$Reader", "readChoice", "()LPatternSearch$Choice;"⟩) (by decide +kernel) rfl
theorem ks_RE_readChoice : Cond.selects "PatternSearch$Reader" m_RE_readChoice.1 m_RE_readChoice.1 ∈ xGT := x_in (i := 0) (w := .selects "PatternSearch$Reader" ⟨"PatternSearch$Reader", "readChoice", "()LPatternSearch$Choice;"⟩ ⟨"PatternSearch$Reader", "readChoice", "()LPatternSearch$Choice;"⟩) (by decide +kernel) rfl
set_option maxRecDepth 100000 in
theorem kc_CH_init : Cond.code m_CH_init.1 m_CH_init.2.1 m_CH_init.2.2.1 m_CH_init.2.2.2 ∈ xGT := List.mem_filter.mpr ⟨List.mem_of_getElem? (i := 251) (by rfl), rfl⟩
theorem kd_CH_init : m_CH_init.1.cls ≠ "java/lang/invoke/MethodHandle" ∧ m_CH_init.1.cls ≠ "java/lang/invoke/VarHandle" ∧ (parseMethodDescriptor m_CH_init.1.desc).map (fun d => d.parameters.length) = some 0 := by decide +kernel
theorem ki_CH_init : Cond.instanceMethod m_CH_init.1 ∈ xGT := x_in (i := 250) (w := .instanceMethod ⟨"PatternSearch$Choice", "<init>", "()V"⟩) (by decide +kernel) rfl
set_option maxRecDepth 100000 in
theorem kc_RE_readRow : Cond.code m_RE_readRow.1 m_RE_readRow.2.1 m_RE_readRow.2.2.1 m_RE_readRow.2.2.2 ∈ xGT := List.mem_filter.mpr ⟨List.mem_of_getElem? (i := 267) (by rfl), rfl⟩
theorem kd_RE_readRow : m_RE_readRow.1.cls ≠ "java/lang/invoke/MethodHandle" ∧ m_RE_readRow.1.cls ≠ "java/lang/invoke/VarHandle" ∧ (parseMethodDescriptor m_RE_readRow.1.desc).map (fun d => d.parameters.length) = some 0 := by decide +kernel
theorem ki_RE_readRow : Cond.instanceMethod m_RE_readRow.1 ∈ xGT := x_in (i := 266) (w := .instanceMethod ⟨"PatternSearch$Reader", "readRow", "()LPatternSearch$Row;"⟩) (by decide +kernel) rfl
theorem ks_RE_readRow : Cond.selects "PatternSearch$Reader" m_RE_readRow.1 m_RE_readRow.1 ∈ xGT := x_in (i := 1) (w := .selects "PatternSearch$Reader" ⟨"PatternSearch$Reader", "readRow", "()LPatternSearch$Row;"⟩ ⟨"PatternSearch$Reader", "readRow", "()LPatternSearch$Row;"⟩) (by decide +kernel) rfl
set_option maxRecDepth 100000 in
theorem kc_RO_init : Cond.code m_RO_init.1 m_RO_init.2.1 m_RO_init.2.2.1 m_RO_init.2.2.2 ∈ xGT := List.mem_filter.mpr ⟨List.mem_of_getElem? (i := 272) (by rfl), rfl⟩
theorem kd_RO_init : m_RO_init.1.cls ≠ "java/lang/invoke/MethodHandle" ∧ m_RO_init.1.cls ≠ "java/lang/invoke/VarHandle" ∧ (parseMethodDescriptor m_RO_init.1.desc).map (fun d => d.parameters.length) = some 0 := by decide +kernel
theorem ki_RO_init : Cond.instanceMethod m_RO_init.1 ∈ xGT := x_in (i := 271) (w := .instanceMethod ⟨"PatternSearch$Row", "<init>", "()V"⟩) (by decide +kernel) rfl
set_option maxRecDepth 100000 in
theorem kc_RE_peek : Cond.code m_RE_peek.1 m_RE_peek.2.1 m_RE_peek.2.2.1 m_RE_peek.2.2.2 ∈ xGT := List.mem_filter.mpr ⟨List.mem_of_getElem? (i := 294) (by rfl), rfl⟩
theorem kd_RE_peek : m_RE_peek.1.cls ≠ "java/lang/invoke/MethodHandle" ∧ m_RE_peek.1.cls ≠ "java/lang/invoke/VarHandle" ∧ (parseMethodDescriptor m_RE_peek.1.desc).map (fun d => d.parameters.length) = some 0 := by decide +kernel
theorem ki_RE_peek : Cond.instanceMethod m_RE_peek.1 ∈ xGT := x_in (i := 293) (w := .instanceMethod ⟨"PatternSearch$Reader", "peek", "()I"⟩) (by decide +kernel) rfl
theorem ks_RE_peek : Cond.selects "PatternSearch$Reader" m_RE_peek.1 m_RE_peek.1 ∈ xGT := x_in (i := 2) (w := .selects "PatternSearch$Reader" ⟨"PatternSearch$Reader", "peek", "()I"⟩ ⟨"PatternSearch$Reader", "peek", "()I"⟩) (by decide +kernel) rfl
set_option maxRecDepth 100000 in
theorem kc_SI_at : Cond.code m_SI_at.1 m_SI_at.2.1 m_SI_at.2.2.1 m_SI_at.2.2.2 ∈ xGT := List.mem_filter.mpr ⟨List.mem_of_getElem? (i := 298) (by rfl), rfl⟩
theorem kd_SI_at : m_SI_at.1.cls ≠ "java/lang/invoke/MethodHandle" ∧ m_SI_at.1.cls ≠ "java/lang/invoke/VarHandle" ∧ (parseMethodDescriptor m_SI_at.1.desc).map (fun d => d.parameters.length) = some 1 := by decide +kernel
theorem ki_SI_at : Cond.instanceMethod m_SI_at.1 ∈ xGT := x_in (i := 296) (w := .instanceMethod ⟨"PatternSearch$Signs", "at", "(I)I"⟩) (by decide +kernel) rfl
theorem ks_SI_at : Cond.selects "PatternSearch$Signs" m_SI_at.1 m_SI_at.1 ∈ xGT := x_in (i := 297) (w := .selects "PatternSearch$Signs" ⟨"PatternSearch$Signs", "at", "(I)I"⟩ ⟨"PatternSearch$Signs", "at", "(I)I"⟩) (by decide +kernel) rfl
set_option maxRecDepth 100000 in
theorem kc_RE_beginsAtom : Cond.code m_RE_beginsAtom.1 m_RE_beginsAtom.2.1 m_RE_beginsAtom.2.2.1 m_RE_beginsAtom.2.2.2 ∈ xGT := List.mem_filter.mpr ⟨List.mem_of_getElem? (i := 302) (by rfl), rfl⟩
theorem kd_RE_beginsAtom : m_RE_beginsAtom.1.cls ≠ "java/lang/invoke/MethodHandle" ∧ m_RE_beginsAtom.1.cls ≠ "java/lang/invoke/VarHandle" ∧ (parseMethodDescriptor m_RE_beginsAtom.1.desc).map (fun d => d.parameters.length) = some 1 := by decide +kernel
theorem ki_RE_beginsAtom : Cond.instanceMethod m_RE_beginsAtom.1 ∈ xGT := x_in (i := 301) (w := .instanceMethod ⟨"PatternSearch$Reader", "beginsAtom", "(I)Z"⟩) (by decide +kernel) rfl
theorem ks_RE_beginsAtom : Cond.selects "PatternSearch$Reader" m_RE_beginsAtom.1 m_RE_beginsAtom.1 ∈ xGT := x_in (i := 3) (w := .selects "PatternSearch$Reader" ⟨"PatternSearch$Reader", "beginsAtom", "(I)Z"⟩ ⟨"PatternSearch$Reader", "beginsAtom", "(I)Z"⟩) (by decide +kernel) rfl
set_option maxRecDepth 100000 in
theorem kc_RE_isPlain : Cond.code m_RE_isPlain.1 m_RE_isPlain.2.1 m_RE_isPlain.2.2.1 m_RE_isPlain.2.2.2 ∈ xGT := List.mem_filter.mpr ⟨List.mem_of_getElem? (i := 305) (by rfl), rfl⟩
theorem kd_RE_isPlain : m_RE_isPlain.1.cls ≠ "java/lang/invoke/MethodHandle" ∧ m_RE_isPlain.1.cls ≠ "java/lang/invoke/VarHandle" ∧ (parseMethodDescriptor m_RE_isPlain.1.desc).map (fun d => d.parameters.length) = some 1 := by decide +kernel
theorem ki_RE_isPlain : Cond.static m_RE_isPlain.1 ∈ xGT := x_in (i := 304) (w := .static ⟨"PatternSearch$Reader", "isPlain", "(I)Z"⟩) (by decide +kernel) rfl
set_option maxRecDepth 100000 in
theorem kc_JS_indexOf1 : Cond.code m_JS_indexOf1.1 m_JS_indexOf1.2.1 m_JS_indexOf1.2.2.1 m_JS_indexOf1.2.2.2 ∈ xGT := List.mem_filter.mpr ⟨List.mem_of_getElem? (i := 311) (by rfl), rfl⟩
theorem kd_JS_indexOf1 : m_JS_indexOf1.1.cls ≠ "java/lang/invoke/MethodHandle" ∧ m_JS_indexOf1.1.cls ≠ "java/lang/invoke/VarHandle" ∧ (parseMethodDescriptor m_JS_indexOf1.1.desc).map (fun d => d.parameters.length) = some 1 := by decide +kernel
theorem ki_JS_indexOf1 : Cond.instanceMethod m_JS_indexOf1.1 ∈ xGT := x_in (i := 309) (w := .instanceMethod ⟨"java/lang/String", "indexOf", "(I)I"⟩) (by decide +kernel) rfl
theorem ks_JS_indexOf1 : Cond.selects "java/lang/String" m_JS_indexOf1.1 m_JS_indexOf1.1 ∈ xGT := x_in (i := 310) (w := .selects "java/lang/String" ⟨"java/lang/String", "indexOf", "(I)I"⟩ ⟨"java/lang/String", "indexOf", "(I)I"⟩) (by decide +kernel) rfl
set_option maxRecDepth 100000 in
theorem kc_JS_indexOf2 : Cond.code m_JS_indexOf2.1 m_JS_indexOf2.2.1 m_JS_indexOf2.2.2.1 m_JS_indexOf2.2.2.2 ∈ xGT := List.mem_filter.mpr ⟨List.mem_of_getElem? (i := 315) (by rfl), rfl⟩
theorem kd_JS_indexOf2 : m_JS_indexOf2.1.cls ≠ "java/lang/invoke/MethodHandle" ∧ m_JS_indexOf2.1.cls ≠ "java/lang/invoke/VarHandle" ∧ (parseMethodDescriptor m_JS_indexOf2.1.desc).map (fun d => d.parameters.length) = some 2 := by decide +kernel
theorem ki_JS_indexOf2 : Cond.instanceMethod m_JS_indexOf2.1 ∈ xGT := x_in (i := 313) (w := .instanceMethod ⟨"java/lang/String", "indexOf", "(II)I"⟩) (by decide +kernel) rfl
theorem ks_JS_indexOf2 : Cond.selects "java/lang/String" m_JS_indexOf2.1 m_JS_indexOf2.1 ∈ xGT := x_in (i := 314) (w := .selects "java/lang/String" ⟨"java/lang/String", "indexOf", "(II)I"⟩ ⟨"java/lang/String", "indexOf", "(II)I"⟩) (by decide +kernel) rfl
set_option maxRecDepth 100000 in
theorem kc_JS_isLatin1 : Cond.code m_JS_isLatin1.1 m_JS_isLatin1.2.1 m_JS_isLatin1.2.2.1 m_JS_isLatin1.2.2.2 ∈ xGT := List.mem_filter.mpr ⟨List.mem_of_getElem? (i := 319) (by rfl), rfl⟩
theorem kd_JS_isLatin1 : m_JS_isLatin1.1.cls ≠ "java/lang/invoke/MethodHandle" ∧ m_JS_isLatin1.1.cls ≠ "java/lang/invoke/VarHandle" ∧ (parseMethodDescriptor m_JS_isLatin1.1.desc).map (fun d => d.parameters.length) = some 0 := by decide +kernel
theorem ki_JS_isLatin1 : Cond.instanceMethod m_JS_isLatin1.1 ∈ xGT := x_in (i := 317) (w := .instanceMethod ⟨"java/lang/String", "isLatin1", "()Z"⟩) (by decide +kernel) rfl
theorem ks_JS_isLatin1 : Cond.selects "java/lang/String" m_JS_isLatin1.1 m_JS_isLatin1.1 ∈ xGT := x_in (i := 318) (w := .selects "java/lang/String" ⟨"java/lang/String", "isLatin1", "()Z"⟩ ⟨"java/lang/String", "isLatin1", "()Z"⟩) (by decide +kernel) rfl
set_option maxRecDepth 100000 in
theorem kc_JS_length : Cond.code m_JS_length.1 m_JS_length.2.1 m_JS_length.2.2.1 m_JS_length.2.2.2 ∈ xGT := List.mem_filter.mpr ⟨List.mem_of_getElem? (i := 325) (by rfl), rfl⟩
theorem kd_JS_length : m_JS_length.1.cls ≠ "java/lang/invoke/MethodHandle" ∧ m_JS_length.1.cls ≠ "java/lang/invoke/VarHandle" ∧ (parseMethodDescriptor m_JS_length.1.desc).map (fun d => d.parameters.length) = some 0 := by decide +kernel
theorem ki_JS_length : Cond.instanceMethod m_JS_length.1 ∈ xGT := x_in (i := 323) (w := .instanceMethod ⟨"java/lang/String", "length", "()I"⟩) (by decide +kernel) rfl
theorem ks_JS_length : Cond.selects "java/lang/String" m_JS_length.1 m_JS_length.1 ∈ xGT := x_in (i := 324) (w := .selects "java/lang/String" ⟨"java/lang/String", "length", "()I"⟩ ⟨"java/lang/String", "length", "()I"⟩) (by decide +kernel) rfl
set_option maxRecDepth 100000 in
theorem kc_JS_coder : Cond.code m_JS_coder.1 m_JS_coder.2.1 m_JS_coder.2.2.1 m_JS_coder.2.2.2 ∈ xGT := List.mem_filter.mpr ⟨List.mem_of_getElem? (i := 329) (by rfl), rfl⟩
theorem kd_JS_coder : m_JS_coder.1.cls ≠ "java/lang/invoke/MethodHandle" ∧ m_JS_coder.1.cls ≠ "java/lang/invoke/VarHandle" ∧ (parseMethodDescriptor m_JS_coder.1.desc).map (fun d => d.parameters.length) = some 0 := by decide +kernel
theorem ki_JS_coder : Cond.instanceMethod m_JS_coder.1 ∈ xGT := x_in (i := 327) (w := .instanceMethod ⟨"java/lang/String", "coder", "()B"⟩) (by decide +kernel) rfl
theorem ks_JS_coder : Cond.selects "java/lang/String" m_JS_coder.1 m_JS_coder.1 ∈ xGT := x_in (i := 328) (w := .selects "java/lang/String" ⟨"java/lang/String", "coder", "()B"⟩ ⟨"java/lang/String", "coder", "()B"⟩) (by decide +kernel) rfl
set_option maxRecDepth 100000 in
theorem kc_JL_indexOf : Cond.code m_JL_indexOf.1 m_JL_indexOf.2.1 m_JL_indexOf.2.2.1 m_JL_indexOf.2.2.2 ∈ xGT := List.mem_filter.mpr ⟨List.mem_of_getElem? (i := 332) (by rfl), rfl⟩
theorem kd_JL_indexOf : m_JL_indexOf.1.cls ≠ "java/lang/invoke/MethodHandle" ∧ m_JL_indexOf.1.cls ≠ "java/lang/invoke/VarHandle" ∧ (parseMethodDescriptor m_JL_indexOf.1.desc).map (fun d => d.parameters.length) = some 4 := by decide +kernel
theorem ki_JL_indexOf : Cond.static m_JL_indexOf.1 ∈ xGT := x_in (i := 331) (w := .static ⟨"java/lang/StringLatin1", "indexOf", "([BIII)I"⟩) (by decide +kernel) rfl
set_option maxRecDepth 100000 in
theorem kc_JL_canEncode : Cond.code m_JL_canEncode.1 m_JL_canEncode.2.1 m_JL_canEncode.2.2.1 m_JL_canEncode.2.2.2 ∈ xGT := List.mem_filter.mpr ⟨List.mem_of_getElem? (i := 335) (by rfl), rfl⟩
theorem kd_JL_canEncode : m_JL_canEncode.1.cls ≠ "java/lang/invoke/MethodHandle" ∧ m_JL_canEncode.1.cls ≠ "java/lang/invoke/VarHandle" ∧ (parseMethodDescriptor m_JL_canEncode.1.desc).map (fun d => d.parameters.length) = some 1 := by decide +kernel
theorem ki_JL_canEncode : Cond.static m_JL_canEncode.1 ∈ xGT := x_in (i := 334) (w := .static ⟨"java/lang/StringLatin1", "canEncode", "(I)Z"⟩) (by decide +kernel) rfl
set_option maxRecDepth 100000 in
theorem kc_JM_max : Cond.code m_JM_max.1 m_JM_max.2.1 m_JM_max.2.2.1 m_JM_max.2.2.2 ∈ xGT := List.mem_filter.mpr ⟨List.mem_of_getElem? (i := 338) (by rfl), rfl⟩
theorem kd_JM_max : m_JM_max.1.cls ≠ "java/lang/invoke/MethodHandle" ∧ m_JM_max.1.cls ≠ "java/lang/invoke/VarHandle" ∧ (parseMethodDescriptor m_JM_max.1.desc).map (fun d => d.parameters.length) = some 2 := by decide +kernel
theorem ki_JM_max : Cond.static m_JM_max.1 ∈ xGT := x_in (i := 337) (w := .static ⟨"java/lang/Math", "max", "(II)I"⟩) (by decide +kernel) rfl
set_option maxRecDepth 100000 in
theorem kc_JM_min : Cond.code m_JM_min.1 m_JM_min.2.1 m_JM_min.2.2.1 m_JM_min.2.2.2 ∈ xGT := List.mem_filter.mpr ⟨List.mem_of_getElem? (i := 341) (by rfl), rfl⟩
theorem kd_JM_min : m_JM_min.1.cls ≠ "java/lang/invoke/MethodHandle" ∧ m_JM_min.1.cls ≠ "java/lang/invoke/VarHandle" ∧ (parseMethodDescriptor m_JM_min.1.desc).map (fun d => d.parameters.length) = some 2 := by decide +kernel
theorem ki_JM_min : Cond.static m_JM_min.1 ∈ xGT := x_in (i := 340) (w := .static ⟨"java/lang/Math", "min", "(II)I"⟩) (by decide +kernel) rfl
set_option maxRecDepth 100000 in
theorem kc_JL_indexOfChar : Cond.code m_JL_indexOfChar.1 m_JL_indexOfChar.2.1 m_JL_indexOfChar.2.2.1 m_JL_indexOfChar.2.2.2 ∈ xGT := List.mem_filter.mpr ⟨List.mem_of_getElem? (i := 344) (by rfl), rfl⟩
theorem kd_JL_indexOfChar : m_JL_indexOfChar.1.cls ≠ "java/lang/invoke/MethodHandle" ∧ m_JL_indexOfChar.1.cls ≠ "java/lang/invoke/VarHandle" ∧ (parseMethodDescriptor m_JL_indexOfChar.1.desc).map (fun d => d.parameters.length) = some 4 := by decide +kernel
theorem ki_JL_indexOfChar : Cond.static m_JL_indexOfChar.1 ∈ xGT := x_in (i := 343) (w := .static ⟨"java/lang/StringLatin1", "indexOfChar", "([BIII)I"⟩) (by decide +kernel) rfl
set_option maxRecDepth 100000 in
theorem kc_RE_readPiece : Cond.code m_RE_readPiece.1 m_RE_readPiece.2.1 m_RE_readPiece.2.2.1 m_RE_readPiece.2.2.2 ∈ xGT := List.mem_filter.mpr ⟨List.mem_of_getElem? (i := 397) (by rfl), rfl⟩
theorem kd_RE_readPiece : m_RE_readPiece.1.cls ≠ "java/lang/invoke/MethodHandle" ∧ m_RE_readPiece.1.cls ≠ "java/lang/invoke/VarHandle" ∧ (parseMethodDescriptor m_RE_readPiece.1.desc).map (fun d => d.parameters.length) = some 0 := by decide +kernel
theorem ki_RE_readPiece : Cond.instanceMethod m_RE_readPiece.1 ∈ xGT := x_in (i := 396) (w := .instanceMethod ⟨"PatternSearch$Reader", "readPiece", "()LPatternSearch$Piece;"⟩) (by decide +kernel) rfl
theorem ks_RE_readPiece : Cond.selects "PatternSearch$Reader" m_RE_readPiece.1 m_RE_readPiece.1 ∈ xGT := x_in (i := 4) (w := .selects "PatternSearch$Reader" ⟨"PatternSearch$Reader", "readPiece", "()LPatternSearch$Piece;"⟩ ⟨"PatternSearch$Reader", "readPiece", "()LPatternSearch$Piece;"⟩) (by decide +kernel) rfl
set_option maxRecDepth 100000 in
theorem kc_RE_readAtom : Cond.code m_RE_readAtom.1 m_RE_readAtom.2.1 m_RE_readAtom.2.2.1 m_RE_readAtom.2.2.2 ∈ xGT := List.mem_filter.mpr ⟨List.mem_of_getElem? (i := 403) (by rfl), rfl⟩
theorem kd_RE_readAtom : m_RE_readAtom.1.cls ≠ "java/lang/invoke/MethodHandle" ∧ m_RE_readAtom.1.cls ≠ "java/lang/invoke/VarHandle" ∧ (parseMethodDescriptor m_RE_readAtom.1.desc).map (fun d => d.parameters.length) = some 0 := by decide +kernel
theorem ki_RE_readAtom : Cond.instanceMethod m_RE_readAtom.1 ∈ xGT := x_in (i := 402) (w := .instanceMethod ⟨"PatternSearch$Reader", "readAtom", "()LPatternSearch$Atom;"⟩) (by decide +kernel) rfl
theorem ks_RE_readAtom : Cond.selects "PatternSearch$Reader" m_RE_readAtom.1 m_RE_readAtom.1 ∈ xGT := x_in (i := 5) (w := .selects "PatternSearch$Reader" ⟨"PatternSearch$Reader", "readAtom", "()LPatternSearch$Atom;"⟩ ⟨"PatternSearch$Reader", "readAtom", "()LPatternSearch$Atom;"⟩) (by decide +kernel) rfl
set_option maxRecDepth 100000 in
theorem kc_RE_readGroup : Cond.code m_RE_readGroup.1 m_RE_readGroup.2.1 m_RE_readGroup.2.2.1 m_RE_readGroup.2.2.2 ∈ xGT := List.mem_filter.mpr ⟨List.mem_of_getElem? (i := 407) (by rfl), rfl⟩
theorem kd_RE_readGroup : m_RE_readGroup.1.cls ≠ "java/lang/invoke/MethodHandle" ∧ m_RE_readGroup.1.cls ≠ "java/lang/invoke/VarHandle" ∧ (parseMethodDescriptor m_RE_readGroup.1.desc).map (fun d => d.parameters.length) = some 0 := by decide +kernel
theorem ki_RE_readGroup : Cond.instanceMethod m_RE_readGroup.1 ∈ xGT := x_in (i := 406) (w := .instanceMethod ⟨"PatternSearch$Reader", "readGroup", "()LPatternSearch$Atom;"⟩) (by decide +kernel) rfl
theorem ks_RE_readGroup : Cond.selects "PatternSearch$Reader" m_RE_readGroup.1 m_RE_readGroup.1 ∈ xGT := x_in (i := 6) (w := .selects "PatternSearch$Reader" ⟨"PatternSearch$Reader", "readGroup", "()LPatternSearch$Atom;"⟩ ⟨"PatternSearch$Reader", "readGroup", "()LPatternSearch$Atom;"⟩) (by decide +kernel) rfl
set_option maxRecDepth 100000 in
theorem kc_AT_init : Cond.code m_AT_init.1 m_AT_init.2.1 m_AT_init.2.2.1 m_AT_init.2.2.2 ∈ xGT := List.mem_filter.mpr ⟨List.mem_of_getElem? (i := 412) (by rfl), rfl⟩
theorem kd_AT_init : m_AT_init.1.cls ≠ "java/lang/invoke/MethodHandle" ∧ m_AT_init.1.cls ≠ "java/lang/invoke/VarHandle" ∧ (parseMethodDescriptor m_AT_init.1.desc).map (fun d => d.parameters.length) = some 1 := by decide +kernel
theorem ki_AT_init : Cond.instanceMethod m_AT_init.1 ∈ xGT := x_in (i := 411) (w := .instanceMethod ⟨"PatternSearch$Atom", "<init>", "(I)V"⟩) (by decide +kernel) rfl
set_option maxRecDepth 100000 in
theorem kc_AT_enclose : Cond.code m_AT_enclose.1 m_AT_enclose.2.1 m_AT_enclose.2.2.1 m_AT_enclose.2.2.2 ∈ xGT := List.mem_filter.mpr ⟨List.mem_of_getElem? (i := 440) (by rfl), rfl⟩
theorem kd_AT_enclose : m_AT_enclose.1.cls ≠ "java/lang/invoke/MethodHandle" ∧ m_AT_enclose.1.cls ≠ "java/lang/invoke/VarHandle" ∧ (parseMethodDescriptor m_AT_enclose.1.desc).map (fun d => d.parameters.length) = some 2 := by decide +kernel
theorem ki_AT_enclose : Cond.instanceMethod m_AT_enclose.1 ∈ xGT := x_in (i := 438) (w := .instanceMethod ⟨"PatternSearch$Atom", "enclose", "(ILPatternSearch$Choice;)V"⟩) (by decide +kernel) rfl
theorem ks_AT_enclose : Cond.selects "PatternSearch$Atom" m_AT_enclose.1 m_AT_enclose.1 ∈ xGT := x_in (i := 439) (w := .selects "PatternSearch$Atom" ⟨"PatternSearch$Atom", "enclose", "(ILPatternSearch$Choice;)V"⟩ ⟨"PatternSearch$Atom", "enclose", "(ILPatternSearch$Choice;)V"⟩) (by decide +kernel) rfl
set_option maxRecDepth 100000 in
theorem kc_RE_expect : Cond.code m_RE_expect.1 m_RE_expect.2.1 m_RE_expect.2.2.1 m_RE_expect.2.2.2 ∈ xGT := List.mem_filter.mpr ⟨List.mem_of_getElem? (i := 444) (by rfl), rfl⟩
theorem kd_RE_expect : m_RE_expect.1.cls ≠ "java/lang/invoke/MethodHandle" ∧ m_RE_expect.1.cls ≠ "java/lang/invoke/VarHandle" ∧ (parseMethodDescriptor m_RE_expect.1.desc).map (fun d => d.parameters.length) = some 1 := by decide +kernel
theorem ki_RE_expect : Cond.instanceMethod m_RE_expect.1 ∈ xGT := x_in (i := 443) (w := .instanceMethod ⟨"PatternSearch$Reader", "expect", "(I)V"⟩) (by decide +kernel) rfl
theorem ks_RE_expect : Cond.selects "PatternSearch$Reader" m_RE_expect.1 m_RE_expect.1 ∈ xGT := x_in (i := 7) (w := .selects "PatternSearch$Reader" ⟨"PatternSearch$Reader", "expect", "(I)V"⟩ ⟨"PatternSearch$Reader", "expect", "(I)V"⟩) (by decide +kernel) rfl
set_option maxRecDepth 100000 in
theorem kc_RE_take : Cond.code m_RE_take.1 m_RE_take.2.1 m_RE_take.2.2.1 m_RE_take.2.2.2 ∈ xGT := List.mem_filter.mpr ⟨List.mem_of_getElem? (i := 448) (by rfl), rfl⟩
theorem kd_RE_take : m_RE_take.1.cls ≠ "java/lang/invoke/MethodHandle" ∧ m_RE_take.1.cls ≠ "java/lang/invoke/VarHandle" ∧ (parseMethodDescriptor m_RE_take.1.desc).map (fun d => d.parameters.length) = some 1 := by decide +kernel
theorem ki_RE_take : Cond.instanceMethod m_RE_take.1 ∈ xGT := x_in (i := 447) (w := .instanceMethod ⟨"PatternSearch$Reader", "take", "(I)Z"⟩) (by decide +kernel) rfl
theorem ks_RE_take : Cond.selects "PatternSearch$Reader" m_RE_take.1 m_RE_take.1 ∈ xGT := x_in (i := 8) (w := .selects "PatternSearch$Reader" ⟨"PatternSearch$Reader", "take", "(I)Z"⟩ ⟨"PatternSearch$Reader", "take", "(I)Z"⟩) (by decide +kernel) rfl
set_option maxRecDepth 100000 in
theorem kc_RE_readClass : Cond.code m_RE_readClass.1 m_RE_readClass.2.1 m_RE_readClass.2.2.1 m_RE_readClass.2.2.2 ∈ xGT := List.mem_filter.mpr ⟨List.mem_of_getElem? (i := 452) (by rfl), rfl⟩
theorem kd_RE_readClass : m_RE_readClass.1.cls ≠ "java/lang/invoke/MethodHandle" ∧ m_RE_readClass.1.cls ≠ "java/lang/invoke/VarHandle" ∧ (parseMethodDescriptor m_RE_readClass.1.desc).map (fun d => d.parameters.length) = some 0 := by decide +kernel
theorem ki_RE_readClass : Cond.instanceMethod m_RE_readClass.1 ∈ xGT := x_in (i := 451) (w := .instanceMethod ⟨"PatternSearch$Reader", "readClass", "()LPatternSearch$Atom;"⟩) (by decide +kernel) rfl
theorem ks_RE_readClass : Cond.selects "PatternSearch$Reader" m_RE_readClass.1 m_RE_readClass.1 ∈ xGT := x_in (i := 9) (w := .selects "PatternSearch$Reader" ⟨"PatternSearch$Reader", "readClass", "()LPatternSearch$Atom;"⟩ ⟨"PatternSearch$Reader", "readClass", "()LPatternSearch$Atom;"⟩) (by decide +kernel) rfl
set_option maxRecDepth 100000 in
theorem kc_RE_readItem : Cond.code m_RE_readItem.1 m_RE_readItem.2.1 m_RE_readItem.2.2.1 m_RE_readItem.2.2.2 ∈ xGT := List.mem_filter.mpr ⟨List.mem_of_getElem? (i := 456) (by rfl), rfl⟩
theorem kd_RE_readItem : m_RE_readItem.1.cls ≠ "java/lang/invoke/MethodHandle" ∧ m_RE_readItem.1.cls ≠ "java/lang/invoke/VarHandle" ∧ (parseMethodDescriptor m_RE_readItem.1.desc).map (fun d => d.parameters.length) = some 1 := by decide +kernel
theorem ki_RE_readItem : Cond.instanceMethod m_RE_readItem.1 ∈ xGT := x_in (i := 455) (w := .instanceMethod ⟨"PatternSearch$Reader", "readItem", "(LPatternSearch$Atom;)V"⟩) (by decide +kernel) rfl
theorem ks_RE_readItem : Cond.selects "PatternSearch$Reader" m_RE_readItem.1 m_RE_readItem.1 ∈ xGT := x_in (i := 10) (w := .selects "PatternSearch$Reader" ⟨"PatternSearch$Reader", "readItem", "(LPatternSearch$Atom;)V"⟩ ⟨"PatternSearch$Reader", "readItem", "(LPatternSearch$Atom;)V"⟩) (by decide +kernel) rfl
set_option maxRecDepth 100000 in
theorem kc_RE_readItemSign : Cond.code m_RE_readItemSign.1 m_RE_readItemSign.2.1 m_RE_readItemSign.2.2.1 m_RE_readItemSign.2.2.2 ∈ xGT := List.mem_filter.mpr ⟨List.mem_of_getElem? (i := 460) (by rfl), rfl⟩
theorem kd_RE_readItemSign : m_RE_readItemSign.1.cls ≠ "java/lang/invoke/MethodHandle" ∧ m_RE_readItemSign.1.cls ≠ "java/lang/invoke/VarHandle" ∧ (parseMethodDescriptor m_RE_readItemSign.1.desc).map (fun d => d.parameters.length) = some 1 := by decide +kernel
theorem ki_RE_readItemSign : Cond.instanceMethod m_RE_readItemSign.1 ∈ xGT := x_in (i := 459) (w := .instanceMethod ⟨"PatternSearch$Reader", "readItemSign", "(I)I"⟩) (by decide +kernel) rfl
theorem ks_RE_readItemSign : Cond.selects "PatternSearch$Reader" m_RE_readItemSign.1 m_RE_readItemSign.1 ∈ xGT := x_in (i := 11) (w := .selects "PatternSearch$Reader" ⟨"PatternSearch$Reader", "readItemSign", "(I)I"⟩ ⟨"PatternSearch$Reader", "readItemSign", "(I)I"⟩) (by decide +kernel) rfl
set_option maxRecDepth 100000 in
theorem kc_RE_isItemSign : Cond.code m_RE_isItemSign.1 m_RE_isItemSign.2.1 m_RE_isItemSign.2.2.1 m_RE_isItemSign.2.2.2 ∈ xGT := List.mem_filter.mpr ⟨List.mem_of_getElem? (i := 463) (by rfl), rfl⟩
theorem kd_RE_isItemSign : m_RE_isItemSign.1.cls ≠ "java/lang/invoke/MethodHandle" ∧ m_RE_isItemSign.1.cls ≠ "java/lang/invoke/VarHandle" ∧ (parseMethodDescriptor m_RE_isItemSign.1.desc).map (fun d => d.parameters.length) = some 1 := by decide +kernel
theorem ki_RE_isItemSign : Cond.static m_RE_isItemSign.1 ∈ xGT := x_in (i := 462) (w := .static ⟨"PatternSearch$Reader", "isItemSign", "(I)Z"⟩) (by decide +kernel) rfl
set_option maxRecDepth 100000 in
theorem kc_AT_takeSigns : Cond.code m_AT_takeSigns.1 m_AT_takeSigns.2.1 m_AT_takeSigns.2.2.1 m_AT_takeSigns.2.2.2 ∈ xGT := List.mem_filter.mpr ⟨List.mem_of_getElem? (i := 468) (by rfl), rfl⟩
theorem kd_AT_takeSigns : m_AT_takeSigns.1.cls ≠ "java/lang/invoke/MethodHandle" ∧ m_AT_takeSigns.1.cls ≠ "java/lang/invoke/VarHandle" ∧ (parseMethodDescriptor m_AT_takeSigns.1.desc).map (fun d => d.parameters.length) = some 2 := by decide +kernel
theorem ki_AT_takeSigns : Cond.instanceMethod m_AT_takeSigns.1 ∈ xGT := x_in (i := 466) (w := .instanceMethod ⟨"PatternSearch$Atom", "takeSigns", "(II)V"⟩) (by decide +kernel) rfl
theorem ks_AT_takeSigns : Cond.selects "PatternSearch$Atom" m_AT_takeSigns.1 m_AT_takeSigns.1 ∈ xGT := x_in (i := 467) (w := .selects "PatternSearch$Atom" ⟨"PatternSearch$Atom", "takeSigns", "(II)V"⟩ ⟨"PatternSearch$Atom", "takeSigns", "(II)V"⟩) (by decide +kernel) rfl
set_option maxRecDepth 100000 in
theorem kc_AT_takeOthers : Cond.code m_AT_takeOthers.1 m_AT_takeOthers.2.1 m_AT_takeOthers.2.2.1 m_AT_takeOthers.2.2.2 ∈ xGT := List.mem_filter.mpr ⟨List.mem_of_getElem? (i := 472) (by rfl), rfl⟩
theorem kd_AT_takeOthers : m_AT_takeOthers.1.cls ≠ "java/lang/invoke/MethodHandle" ∧ m_AT_takeOthers.1.cls ≠ "java/lang/invoke/VarHandle" ∧ (parseMethodDescriptor m_AT_takeOthers.1.desc).map (fun d => d.parameters.length) = some 0 := by decide +kernel
theorem ki_AT_takeOthers : Cond.instanceMethod m_AT_takeOthers.1 ∈ xGT := x_in (i := 470) (w := .instanceMethod ⟨"PatternSearch$Atom", "takeOthers", "()V"⟩) (by decide +kernel) rfl
theorem ks_AT_takeOthers : Cond.selects "PatternSearch$Atom" m_AT_takeOthers.1 m_AT_takeOthers.1 ∈ xGT := x_in (i := 471) (w := .selects "PatternSearch$Atom" ⟨"PatternSearch$Atom", "takeOthers", "()V"⟩ ⟨"PatternSearch$Atom", "takeOthers", "()V"⟩) (by decide +kernel) rfl
set_option maxRecDepth 100000 in
theorem kc_RE_signAtom : Cond.code m_RE_signAtom.1 m_RE_signAtom.2.1 m_RE_signAtom.2.2.1 m_RE_signAtom.2.2.2 ∈ xGT := List.mem_filter.mpr ⟨List.mem_of_getElem? (i := 476) (by rfl), rfl⟩
theorem kd_RE_signAtom : m_RE_signAtom.1.cls ≠ "java/lang/invoke/MethodHandle" ∧ m_RE_signAtom.1.cls ≠ "java/lang/invoke/VarHandle" ∧ (parseMethodDescriptor m_RE_signAtom.1.desc).map (fun d => d.parameters.length) = some 2 := by decide +kernel
theorem ki_RE_signAtom : Cond.static m_RE_signAtom.1 ∈ xGT := x_in (i := 475) (w := .static ⟨"PatternSearch$Reader", "signAtom", "(II)LPatternSearch$Atom;"⟩) (by decide +kernel) rfl
set_option maxRecDepth 100000 in
theorem kc_PI_init : Cond.code m_PI_init.1 m_PI_init.2.1 m_PI_init.2.2.1 m_PI_init.2.2.2 ∈ xGT := List.mem_filter.mpr ⟨List.mem_of_getElem? (i := 479) (by rfl), rfl⟩
theorem kd_PI_init : m_PI_init.1.cls ≠ "java/lang/invoke/MethodHandle" ∧ m_PI_init.1.cls ≠ "java/lang/invoke/VarHandle" ∧ (parseMethodDescriptor m_PI_init.1.desc).map (fun d => d.parameters.length) = some 1 := by decide +kernel
theorem ki_PI_init : Cond.instanceMethod m_PI_init.1 ∈ xGT := x_in (i := 478) (w := .instanceMethod ⟨"PatternSearch$Piece", "<init>", "(LPatternSearch$Atom;)V"⟩) (by decide +kernel) rfl
set_option maxRecDepth 100000 in
theorem kc_RE_readRepetition : Cond.code m_RE_readRepetition.1 m_RE_readRepetition.2.1 m_RE_readRepetition.2.2.1 m_RE_readRepetition.2.2.2 ∈ xGT := List.mem_filter.mpr ⟨List.mem_of_getElem? (i := 509) (by rfl), rfl⟩
theorem kd_RE_readRepetition : m_RE_readRepetition.1.cls ≠ "java/lang/invoke/MethodHandle" ∧ m_RE_readRepetition.1.cls ≠ "java/lang/invoke/VarHandle" ∧ (parseMethodDescriptor m_RE_readRepetition.1.desc).map (fun d => d.parameters.length) = some 1 := by decide +kernel
theorem ki_RE_readRepetition : Cond.instanceMethod m_RE_readRepetition.1 ∈ xGT := x_in (i := 508) (w := .instanceMethod ⟨"PatternSearch$Reader", "readRepetition", "(LPatternSearch$Piece;)Z"⟩) (by decide +kernel) rfl
theorem ks_RE_readRepetition : Cond.selects "PatternSearch$Reader" m_RE_readRepetition.1 m_RE_readRepetition.1 ∈ xGT := x_in (i := 12) (w := .selects "PatternSearch$Reader" ⟨"PatternSearch$Reader", "readRepetition", "(LPatternSearch$Piece;)Z"⟩ ⟨"PatternSearch$Reader", "readRepetition", "(LPatternSearch$Piece;)Z"⟩) (by decide +kernel) rfl
set_option maxRecDepth 100000 in
theorem kc_PI_repeatUnbounded : Cond.code m_PI_repeatUnbounded.1 m_PI_repeatUnbounded.2.1 m_PI_repeatUnbounded.2.2.1 m_PI_repeatUnbounded.2.2.2 ∈ xGT := List.mem_filter.mpr ⟨List.mem_of_getElem? (i := 513) (by rfl), rfl⟩
theorem kd_PI_repeatUnbounded : m_PI_repeatUnbounded.1.cls ≠ "java/lang/invoke/MethodHandle" ∧ m_PI_repeatUnbounded.1.cls ≠ "java/lang/invoke/VarHandle" ∧ (parseMethodDescriptor m_PI_repeatUnbounded.1.desc).map (fun d => d.parameters.length) = some 1 := by decide +kernel
theorem ki_PI_repeatUnbounded : Cond.instanceMethod m_PI_repeatUnbounded.1 ∈ xGT := x_in (i := 511) (w := .instanceMethod ⟨"PatternSearch$Piece", "repeatUnbounded", "(I)V"⟩) (by decide +kernel) rfl
theorem ks_PI_repeatUnbounded : Cond.selects "PatternSearch$Piece" m_PI_repeatUnbounded.1 m_PI_repeatUnbounded.1 ∈ xGT := x_in (i := 512) (w := .selects "PatternSearch$Piece" ⟨"PatternSearch$Piece", "repeatUnbounded", "(I)V"⟩ ⟨"PatternSearch$Piece", "repeatUnbounded", "(I)V"⟩) (by decide +kernel) rfl
set_option maxRecDepth 100000 in
theorem kc_PI_repeat : Cond.code m_PI_repeat.1 m_PI_repeat.2.1 m_PI_repeat.2.2.1 m_PI_repeat.2.2.2 ∈ xGT := List.mem_filter.mpr ⟨List.mem_of_getElem? (i := 517) (by rfl), rfl⟩
theorem kd_PI_repeat : m_PI_repeat.1.cls ≠ "java/lang/invoke/MethodHandle" ∧ m_PI_repeat.1.cls ≠ "java/lang/invoke/VarHandle" ∧ (parseMethodDescriptor m_PI_repeat.1.desc).map (fun d => d.parameters.length) = some 2 := by decide +kernel
theorem ki_PI_repeat : Cond.instanceMethod m_PI_repeat.1 ∈ xGT := x_in (i := 515) (w := .instanceMethod ⟨"PatternSearch$Piece", "repeat", "(II)V"⟩) (by decide +kernel) rfl
theorem ks_PI_repeat : Cond.selects "PatternSearch$Piece" m_PI_repeat.1 m_PI_repeat.1 ∈ xGT := x_in (i := 516) (w := .selects "PatternSearch$Piece" ⟨"PatternSearch$Piece", "repeat", "(II)V"⟩ ⟨"PatternSearch$Piece", "repeat", "(II)V"⟩) (by decide +kernel) rfl
set_option maxRecDepth 100000 in
theorem kc_RE_readBraces : Cond.code m_RE_readBraces.1 m_RE_readBraces.2.1 m_RE_readBraces.2.2.1 m_RE_readBraces.2.2.2 ∈ xGT := List.mem_filter.mpr ⟨List.mem_of_getElem? (i := 521) (by rfl), rfl⟩
theorem kd_RE_readBraces : m_RE_readBraces.1.cls ≠ "java/lang/invoke/MethodHandle" ∧ m_RE_readBraces.1.cls ≠ "java/lang/invoke/VarHandle" ∧ (parseMethodDescriptor m_RE_readBraces.1.desc).map (fun d => d.parameters.length) = some 1 := by decide +kernel
theorem ki_RE_readBraces : Cond.instanceMethod m_RE_readBraces.1 ∈ xGT := x_in (i := 520) (w := .instanceMethod ⟨"PatternSearch$Reader", "readBraces", "(LPatternSearch$Piece;)V"⟩) (by decide +kernel) rfl
theorem ks_RE_readBraces : Cond.selects "PatternSearch$Reader" m_RE_readBraces.1 m_RE_readBraces.1 ∈ xGT := x_in (i := 13) (w := .selects "PatternSearch$Reader" ⟨"PatternSearch$Reader", "readBraces", "(LPatternSearch$Piece;)V"⟩ ⟨"PatternSearch$Reader", "readBraces", "(LPatternSearch$Piece;)V"⟩) (by decide +kernel) rfl
set_option maxRecDepth 100000 in
theorem kc_RE_readDigit : Cond.code m_RE_readDigit.1 m_RE_readDigit.2.1 m_RE_readDigit.2.2.1 m_RE_readDigit.2.2.2 ∈ xGT := List.mem_filter.mpr ⟨List.mem_of_getElem? (i := 525) (by rfl), rfl⟩
theorem kd_RE_readDigit : m_RE_readDigit.1.cls ≠ "java/lang/invoke/MethodHandle" ∧ m_RE_readDigit.1.cls ≠ "java/lang/invoke/VarHandle" ∧ (parseMethodDescriptor m_RE_readDigit.1.desc).map (fun d => d.parameters.length) = some 1 := by decide +kernel
theorem ki_RE_readDigit : Cond.instanceMethod m_RE_readDigit.1 ∈ xGT := x_in (i := 524) (w := .instanceMethod ⟨"PatternSearch$Reader", "readDigit", "(I)I"⟩) (by decide +kernel) rfl
theorem ks_RE_readDigit : Cond.selects "PatternSearch$Reader" m_RE_readDigit.1 m_RE_readDigit.1 ∈ xGT := x_in (i := 14) (w := .selects "PatternSearch$Reader" ⟨"PatternSearch$Reader", "readDigit", "(I)I"⟩ ⟨"PatternSearch$Reader", "readDigit", "(I)I"⟩) (by decide +kernel) rfl
set_option maxRecDepth 100000 in
theorem kc_PI_isEndless : Cond.code m_PI_isEndless.1 m_PI_isEndless.2.1 m_PI_isEndless.2.2.1 m_PI_isEndless.2.2.2 ∈ xGT := List.mem_filter.mpr ⟨List.mem_of_getElem? (i := 530) (by rfl), rfl⟩
theorem kd_PI_isEndless : m_PI_isEndless.1.cls ≠ "java/lang/invoke/MethodHandle" ∧ m_PI_isEndless.1.cls ≠ "java/lang/invoke/VarHandle" ∧ (parseMethodDescriptor m_PI_isEndless.1.desc).map (fun d => d.parameters.length) = some 0 := by decide +kernel
theorem ki_PI_isEndless : Cond.instanceMethod m_PI_isEndless.1 ∈ xGT := x_in (i := 528) (w := .instanceMethod ⟨"PatternSearch$Piece", "isEndless", "()Z"⟩) (by decide +kernel) rfl
theorem ks_PI_isEndless : Cond.selects "PatternSearch$Piece" m_PI_isEndless.1 m_PI_isEndless.1 ∈ xGT := x_in (i := 529) (w := .selects "PatternSearch$Piece" ⟨"PatternSearch$Piece", "isEndless", "()Z"⟩ ⟨"PatternSearch$Piece", "isEndless", "()Z"⟩) (by decide +kernel) rfl
set_option maxRecDepth 100000 in
theorem kc_AT_canBeEmpty : Cond.code m_AT_canBeEmpty.1 m_AT_canBeEmpty.2.1 m_AT_canBeEmpty.2.2.1 m_AT_canBeEmpty.2.2.2 ∈ xGT := List.mem_filter.mpr ⟨List.mem_of_getElem? (i := 534) (by rfl), rfl⟩
theorem kd_AT_canBeEmpty : m_AT_canBeEmpty.1.cls ≠ "java/lang/invoke/MethodHandle" ∧ m_AT_canBeEmpty.1.cls ≠ "java/lang/invoke/VarHandle" ∧ (parseMethodDescriptor m_AT_canBeEmpty.1.desc).map (fun d => d.parameters.length) = some 0 := by decide +kernel
theorem ki_AT_canBeEmpty : Cond.instanceMethod m_AT_canBeEmpty.1 ∈ xGT := x_in (i := 532) (w := .instanceMethod ⟨"PatternSearch$Atom", "canBeEmpty", "()Z"⟩) (by decide +kernel) rfl
theorem ks_AT_canBeEmpty : Cond.selects "PatternSearch$Atom" m_AT_canBeEmpty.1 m_AT_canBeEmpty.1 ∈ xGT := x_in (i := 533) (w := .selects "PatternSearch$Atom" ⟨"PatternSearch$Atom", "canBeEmpty", "()Z"⟩ ⟨"PatternSearch$Atom", "canBeEmpty", "()Z"⟩) (by decide +kernel) rfl
set_option maxRecDepth 100000 in
theorem kc_CH_canBeEmpty : Cond.code m_CH_canBeEmpty.1 m_CH_canBeEmpty.2.1 m_CH_canBeEmpty.2.2.1 m_CH_canBeEmpty.2.2.2 ∈ xGT := List.mem_filter.mpr ⟨List.mem_of_getElem? (i := 538) (by rfl), rfl⟩
theorem kd_CH_canBeEmpty : m_CH_canBeEmpty.1.cls ≠ "java/lang/invoke/MethodHandle" ∧ m_CH_canBeEmpty.1.cls ≠ "java/lang/invoke/VarHandle" ∧ (parseMethodDescriptor m_CH_canBeEmpty.1.desc).map (fun d => d.parameters.length) = some 0 := by decide +kernel
theorem ki_CH_canBeEmpty : Cond.instanceMethod m_CH_canBeEmpty.1 ∈ xGT := x_in (i := 536) (w := .instanceMethod ⟨"PatternSearch$Choice", "canBeEmpty", "()Z"⟩) (by decide +kernel) rfl
theorem ks_CH_canBeEmpty : Cond.selects "PatternSearch$Choice" m_CH_canBeEmpty.1 m_CH_canBeEmpty.1 ∈ xGT := x_in (i := 537) (w := .selects "PatternSearch$Choice" ⟨"PatternSearch$Choice", "canBeEmpty", "()Z"⟩ ⟨"PatternSearch$Choice", "canBeEmpty", "()Z"⟩) (by decide +kernel) rfl
set_option maxRecDepth 100000 in
theorem kc_RO_add : Cond.code m_RO_add.1 m_RO_add.2.1 m_RO_add.2.2.1 m_RO_add.2.2.2 ∈ xGT := List.mem_filter.mpr ⟨List.mem_of_getElem? (i := 542) (by rfl), rfl⟩
theorem kd_RO_add : m_RO_add.1.cls ≠ "java/lang/invoke/MethodHandle" ∧ m_RO_add.1.cls ≠ "java/lang/invoke/VarHandle" ∧ (parseMethodDescriptor m_RO_add.1.desc).map (fun d => d.parameters.length) = some 1 := by decide +kernel
theorem ki_RO_add : Cond.instanceMethod m_RO_add.1 ∈ xGT := x_in (i := 540) (w := .instanceMethod ⟨"PatternSearch$Row", "add", "(LPatternSearch$Piece;)V"⟩) (by decide +kernel) rfl
theorem ks_RO_add : Cond.selects "PatternSearch$Row" m_RO_add.1 m_RO_add.1 ∈ xGT := x_in (i := 541) (w := .selects "PatternSearch$Row" ⟨"PatternSearch$Row", "add", "(LPatternSearch$Piece;)V"⟩ ⟨"PatternSearch$Row", "add", "(LPatternSearch$Piece;)V"⟩) (by decide +kernel) rfl
set_option maxRecDepth 100000 in
theorem kc_PI_size : Cond.code m_PI_size.1 m_PI_size.2.1 m_PI_size.2.2.1 m_PI_size.2.2.2 ∈ xGT := List.mem_filter.mpr ⟨List.mem_of_getElem? (i := 546) (by rfl), rfl⟩
theorem kd_PI_size : m_PI_size.1.cls ≠ "java/lang/invoke/MethodHandle" ∧ m_PI_size.1.cls ≠ "java/lang/invoke/VarHandle" ∧ (parseMethodDescriptor m_PI_size.1.desc).map (fun d => d.parameters.length) = some 0 := by decide +kernel
theorem ki_PI_size : Cond.instanceMethod m_PI_size.1 ∈ xGT := x_in (i := 544) (w := .instanceMethod ⟨"PatternSearch$Piece", "size", "()I"⟩) (by decide +kernel) rfl
theorem ks_PI_size : Cond.selects "PatternSearch$Piece" m_PI_size.1 m_PI_size.1 ∈ xGT := x_in (i := 545) (w := .selects "PatternSearch$Piece" ⟨"PatternSearch$Piece", "size", "()I"⟩ ⟨"PatternSearch$Piece", "size", "()I"⟩) (by decide +kernel) rfl
set_option maxRecDepth 100000 in
theorem kc_AT_size : Cond.code m_AT_size.1 m_AT_size.2.1 m_AT_size.2.2.1 m_AT_size.2.2.2 ∈ xGT := List.mem_filter.mpr ⟨List.mem_of_getElem? (i := 550) (by rfl), rfl⟩
theorem kd_AT_size : m_AT_size.1.cls ≠ "java/lang/invoke/MethodHandle" ∧ m_AT_size.1.cls ≠ "java/lang/invoke/VarHandle" ∧ (parseMethodDescriptor m_AT_size.1.desc).map (fun d => d.parameters.length) = some 0 := by decide +kernel
theorem ki_AT_size : Cond.instanceMethod m_AT_size.1 ∈ xGT := x_in (i := 548) (w := .instanceMethod ⟨"PatternSearch$Atom", "size", "()I"⟩) (by decide +kernel) rfl
theorem ks_AT_size : Cond.selects "PatternSearch$Atom" m_AT_size.1 m_AT_size.1 ∈ xGT := x_in (i := 549) (w := .selects "PatternSearch$Atom" ⟨"PatternSearch$Atom", "size", "()I"⟩ ⟨"PatternSearch$Atom", "size", "()I"⟩) (by decide +kernel) rfl
set_option maxRecDepth 100000 in
theorem kc_CH_size : Cond.code m_CH_size.1 m_CH_size.2.1 m_CH_size.2.2.1 m_CH_size.2.2.2 ∈ xGT := List.mem_filter.mpr ⟨List.mem_of_getElem? (i := 554) (by rfl), rfl⟩
theorem kd_CH_size : m_CH_size.1.cls ≠ "java/lang/invoke/MethodHandle" ∧ m_CH_size.1.cls ≠ "java/lang/invoke/VarHandle" ∧ (parseMethodDescriptor m_CH_size.1.desc).map (fun d => d.parameters.length) = some 0 := by decide +kernel
theorem ki_CH_size : Cond.instanceMethod m_CH_size.1 ∈ xGT := x_in (i := 552) (w := .instanceMethod ⟨"PatternSearch$Choice", "size", "()I"⟩) (by decide +kernel) rfl
theorem ks_CH_size : Cond.selects "PatternSearch$Choice" m_CH_size.1 m_CH_size.1 ∈ xGT := x_in (i := 553) (w := .selects "PatternSearch$Choice" ⟨"PatternSearch$Choice", "size", "()I"⟩ ⟨"PatternSearch$Choice", "size", "()I"⟩) (by decide +kernel) rfl
set_option maxRecDepth 100000 in
theorem kc_PI_canBeEmpty : Cond.code m_PI_canBeEmpty.1 m_PI_canBeEmpty.2.1 m_PI_canBeEmpty.2.2.1 m_PI_canBeEmpty.2.2.2 ∈ xGT := List.mem_filter.mpr ⟨List.mem_of_getElem? (i := 558) (by rfl), rfl⟩
theorem kd_PI_canBeEmpty : m_PI_canBeEmpty.1.cls ≠ "java/lang/invoke/MethodHandle" ∧ m_PI_canBeEmpty.1.cls ≠ "java/lang/invoke/VarHandle" ∧ (parseMethodDescriptor m_PI_canBeEmpty.1.desc).map (fun d => d.parameters.length) = some 0 := by decide +kernel
theorem ki_PI_canBeEmpty : Cond.instanceMethod m_PI_canBeEmpty.1 ∈ xGT := x_in (i := 556) (w := .instanceMethod ⟨"PatternSearch$Piece", "canBeEmpty", "()Z"⟩) (by decide +kernel) rfl
theorem ks_PI_canBeEmpty : Cond.selects "PatternSearch$Piece" m_PI_canBeEmpty.1 m_PI_canBeEmpty.1 ∈ xGT := x_in (i := 557) (w := .selects "PatternSearch$Piece" ⟨"PatternSearch$Piece", "canBeEmpty", "()Z"⟩ ⟨"PatternSearch$Piece", "canBeEmpty", "()Z"⟩) (by decide +kernel) rfl
set_option maxRecDepth 100000 in
theorem kc_CH_add : Cond.code m_CH_add.1 m_CH_add.2.1 m_CH_add.2.2.1 m_CH_add.2.2.2 ∈ xGT := List.mem_filter.mpr ⟨List.mem_of_getElem? (i := 562) (by rfl), rfl⟩
theorem kd_CH_add : m_CH_add.1.cls ≠ "java/lang/invoke/MethodHandle" ∧ m_CH_add.1.cls ≠ "java/lang/invoke/VarHandle" ∧ (parseMethodDescriptor m_CH_add.1.desc).map (fun d => d.parameters.length) = some 1 := by decide +kernel
theorem ki_CH_add : Cond.instanceMethod m_CH_add.1 ∈ xGT := x_in (i := 560) (w := .instanceMethod ⟨"PatternSearch$Choice", "add", "(LPatternSearch$Row;)V"⟩) (by decide +kernel) rfl
theorem ks_CH_add : Cond.selects "PatternSearch$Choice" m_CH_add.1 m_CH_add.1 ∈ xGT := x_in (i := 561) (w := .selects "PatternSearch$Choice" ⟨"PatternSearch$Choice", "add", "(LPatternSearch$Row;)V"⟩ ⟨"PatternSearch$Choice", "add", "(LPatternSearch$Row;)V"⟩) (by decide +kernel) rfl
set_option maxRecDepth 100000 in
theorem kc_RE_faultPlace : Cond.code m_RE_faultPlace.1 m_RE_faultPlace.2.1 m_RE_faultPlace.2.2.1 m_RE_faultPlace.2.2.2 ∈ xGT := List.mem_filter.mpr ⟨List.mem_of_getElem? (i := 566) (by rfl), rfl⟩
theorem kd_RE_faultPlace : m_RE_faultPlace.1.cls ≠ "java/lang/invoke/MethodHandle" ∧ m_RE_faultPlace.1.cls ≠ "java/lang/invoke/VarHandle" ∧ (parseMethodDescriptor m_RE_faultPlace.1.desc).map (fun d => d.parameters.length) = some 0 := by decide +kernel
theorem ki_RE_faultPlace : Cond.instanceMethod m_RE_faultPlace.1 ∈ xGT := x_in (i := 564) (w := .instanceMethod ⟨"PatternSearch$Reader", "faultPlace", "()I"⟩) (by decide +kernel) rfl
theorem ks_RE_faultPlace : Cond.selects "PatternSearch$Reader" m_RE_faultPlace.1 m_RE_faultPlace.1 ∈ xGT := x_in (i := 565) (w := .selects "PatternSearch$Reader" ⟨"PatternSearch$Reader", "faultPlace", "()I"⟩ ⟨"PatternSearch$Reader", "faultPlace", "()I"⟩) (by decide +kernel) rfl
set_option maxRecDepth 100000 in
theorem kc_RE_isEndless : Cond.code m_RE_isEndless.1 m_RE_isEndless.2.1 m_RE_isEndless.2.2.1 m_RE_isEndless.2.2.2 ∈ xGT := List.mem_filter.mpr ⟨List.mem_of_getElem? (i := 571) (by rfl), rfl⟩
theorem kd_RE_isEndless : m_RE_isEndless.1.cls ≠ "java/lang/invoke/MethodHandle" ∧ m_RE_isEndless.1.cls ≠ "java/lang/invoke/VarHandle" ∧ (parseMethodDescriptor m_RE_isEndless.1.desc).map (fun d => d.parameters.length) = some 0 := by decide +kernel
theorem ki_RE_isEndless : Cond.instanceMethod m_RE_isEndless.1 ∈ xGT := x_in (i := 569) (w := .instanceMethod ⟨"PatternSearch$Reader", "isEndless", "()Z"⟩) (by decide +kernel) rfl
theorem ks_RE_isEndless : Cond.selects "PatternSearch$Reader" m_RE_isEndless.1 m_RE_isEndless.1 ∈ xGT := x_in (i := 570) (w := .selects "PatternSearch$Reader" ⟨"PatternSearch$Reader", "isEndless", "()Z"⟩ ⟨"PatternSearch$Reader", "isEndless", "()Z"⟩) (by decide +kernel) rfl
set_option maxRecDepth 100000 in
theorem kc_MA_load : Cond.code m_MA_load.1 m_MA_load.2.1 m_MA_load.2.2.1 m_MA_load.2.2.2 ∈ xGT := List.mem_filter.mpr ⟨List.mem_of_getElem? (i := 576) (by rfl), rfl⟩
theorem kd_MA_load : m_MA_load.1.cls ≠ "java/lang/invoke/MethodHandle" ∧ m_MA_load.1.cls ≠ "java/lang/invoke/VarHandle" ∧ (parseMethodDescriptor m_MA_load.1.desc).map (fun d => d.parameters.length) = some 1 := by decide +kernel
theorem ki_MA_load : Cond.instanceMethod m_MA_load.1 ∈ xGT := x_in (i := 574) (w := .instanceMethod ⟨"PatternSearch$Matcher", "load", "(LPatternSearch$Choice;)V"⟩) (by decide +kernel) rfl
theorem ks_MA_load : Cond.selects "PatternSearch$Matcher" m_MA_load.1 m_MA_load.1 ∈ xGT := x_in (i := 575) (w := .selects "PatternSearch$Matcher" ⟨"PatternSearch$Matcher", "load", "(LPatternSearch$Choice;)V"⟩ ⟨"PatternSearch$Matcher", "load", "(LPatternSearch$Choice;)V"⟩) (by decide +kernel) rfl
set_option maxRecDepth 100000 in
theorem kc_PR_build : Cond.code m_PR_build.1 m_PR_build.2.1 m_PR_build.2.2.1 m_PR_build.2.2.2 ∈ xGT := List.mem_filter.mpr ⟨List.mem_of_getElem? (i := 580) (by rfl), rfl⟩
theorem kd_PR_build : m_PR_build.1.cls ≠ "java/lang/invoke/MethodHandle" ∧ m_PR_build.1.cls ≠ "java/lang/invoke/VarHandle" ∧ (parseMethodDescriptor m_PR_build.1.desc).map (fun d => d.parameters.length) = some 1 := by decide +kernel
theorem ki_PR_build : Cond.instanceMethod m_PR_build.1 ∈ xGT := x_in (i := 578) (w := .instanceMethod ⟨"PatternSearch$Program", "build", "(LPatternSearch$Choice;)V"⟩) (by decide +kernel) rfl
theorem ks_PR_build : Cond.selects "PatternSearch$Program" m_PR_build.1 m_PR_build.1 ∈ xGT := x_in (i := 579) (w := .selects "PatternSearch$Program" ⟨"PatternSearch$Program", "build", "(LPatternSearch$Choice;)V"⟩ ⟨"PatternSearch$Program", "build", "(LPatternSearch$Choice;)V"⟩) (by decide +kernel) rfl
set_option maxRecDepth 100000 in
theorem kc_PR_addStep : Cond.code m_PR_addStep.1 m_PR_addStep.2.1 m_PR_addStep.2.2.1 m_PR_addStep.2.2.2 ∈ xGT := List.mem_filter.mpr ⟨List.mem_of_getElem? (i := 584) (by rfl), rfl⟩
theorem kd_PR_addStep : m_PR_addStep.1.cls ≠ "java/lang/invoke/MethodHandle" ∧ m_PR_addStep.1.cls ≠ "java/lang/invoke/VarHandle" ∧ (parseMethodDescriptor m_PR_addStep.1.desc).map (fun d => d.parameters.length) = some 2 := by decide +kernel
theorem ki_PR_addStep : Cond.instanceMethod m_PR_addStep.1 ∈ xGT := x_in (i := 583) (w := .instanceMethod ⟨"PatternSearch$Program", "addStep", "(II)I"⟩) (by decide +kernel) rfl
theorem ks_PR_addStep : Cond.selects "PatternSearch$Program" m_PR_addStep.1 m_PR_addStep.1 ∈ xGT := x_in (i := 15) (w := .selects "PatternSearch$Program" ⟨"PatternSearch$Program", "addStep", "(II)I"⟩ ⟨"PatternSearch$Program", "addStep", "(II)I"⟩) (by decide +kernel) rfl
set_option maxRecDepth 100000 in
theorem kc_PR_addChoice : Cond.code m_PR_addChoice.1 m_PR_addChoice.2.1 m_PR_addChoice.2.2.1 m_PR_addChoice.2.2.2 ∈ xGT := List.mem_filter.mpr ⟨List.mem_of_getElem? (i := 589) (by rfl), rfl⟩
theorem kd_PR_addChoice : m_PR_addChoice.1.cls ≠ "java/lang/invoke/MethodHandle" ∧ m_PR_addChoice.1.cls ≠ "java/lang/invoke/VarHandle" ∧ (parseMethodDescriptor m_PR_addChoice.1.desc).map (fun d => d.parameters.length) = some 3 := by decide +kernel
theorem ki_PR_addChoice : Cond.instanceMethod m_PR_addChoice.1 ∈ xGT := x_in (i := 588) (w := .instanceMethod ⟨"PatternSearch$Program", "addChoice", "(LPatternSearch$Choice;II)I"⟩) (by decide +kernel) rfl
theorem ks_PR_addChoice : Cond.selects "PatternSearch$Program" m_PR_addChoice.1 m_PR_addChoice.1 ∈ xGT := x_in (i := 16) (w := .selects "PatternSearch$Program" ⟨"PatternSearch$Program", "addChoice", "(LPatternSearch$Choice;II)I"⟩ ⟨"PatternSearch$Program", "addChoice", "(LPatternSearch$Choice;II)I"⟩) (by decide +kernel) rfl
set_option maxRecDepth 100000 in
theorem kc_PR_addRow : Cond.code m_PR_addRow.1 m_PR_addRow.2.1 m_PR_addRow.2.2.1 m_PR_addRow.2.2.2 ∈ xGT := List.mem_filter.mpr ⟨List.mem_of_getElem? (i := 593) (by rfl), rfl⟩
theorem kd_PR_addRow : m_PR_addRow.1.cls ≠ "java/lang/invoke/MethodHandle" ∧ m_PR_addRow.1.cls ≠ "java/lang/invoke/VarHandle" ∧ (parseMethodDescriptor m_PR_addRow.1.desc).map (fun d => d.parameters.length) = some 3 := by decide +kernel
theorem ki_PR_addRow : Cond.instanceMethod m_PR_addRow.1 ∈ xGT := x_in (i := 592) (w := .instanceMethod ⟨"PatternSearch$Program", "addRow", "(LPatternSearch$Row;II)I"⟩) (by decide +kernel) rfl
theorem ks_PR_addRow : Cond.selects "PatternSearch$Program" m_PR_addRow.1 m_PR_addRow.1 ∈ xGT := x_in (i := 17) (w := .selects "PatternSearch$Program" ⟨"PatternSearch$Program", "addRow", "(LPatternSearch$Row;II)I"⟩ ⟨"PatternSearch$Program", "addRow", "(LPatternSearch$Row;II)I"⟩) (by decide +kernel) rfl
set_option maxRecDepth 100000 in
theorem kc_PR_addLoop : Cond.code m_PR_addLoop.1 m_PR_addLoop.2.1 m_PR_addLoop.2.2.1 m_PR_addLoop.2.2.2 ∈ xGT := List.mem_filter.mpr ⟨List.mem_of_getElem? (i := 597) (by rfl), rfl⟩
theorem kd_PR_addLoop : m_PR_addLoop.1.cls ≠ "java/lang/invoke/MethodHandle" ∧ m_PR_addLoop.1.cls ≠ "java/lang/invoke/VarHandle" ∧ (parseMethodDescriptor m_PR_addLoop.1.desc).map (fun d => d.parameters.length) = some 3 := by decide +kernel
theorem ki_PR_addLoop : Cond.instanceMethod m_PR_addLoop.1 ∈ xGT := x_in (i := 596) (w := .instanceMethod ⟨"PatternSearch$Program", "addLoop", "(LPatternSearch$Piece;II)I"⟩) (by decide +kernel) rfl
theorem ks_PR_addLoop : Cond.selects "PatternSearch$Program" m_PR_addLoop.1 m_PR_addLoop.1 ∈ xGT := x_in (i := 18) (w := .selects "PatternSearch$Program" ⟨"PatternSearch$Program", "addLoop", "(LPatternSearch$Piece;II)I"⟩ ⟨"PatternSearch$Program", "addLoop", "(LPatternSearch$Piece;II)I"⟩) (by decide +kernel) rfl
set_option maxRecDepth 100000 in
theorem kc_PR_addFork : Cond.code m_PR_addFork.1 m_PR_addFork.2.1 m_PR_addFork.2.2.1 m_PR_addFork.2.2.2 ∈ xGT := List.mem_filter.mpr ⟨List.mem_of_getElem? (i := 601) (by rfl), rfl⟩
theorem kd_PR_addFork : m_PR_addFork.1.cls ≠ "java/lang/invoke/MethodHandle" ∧ m_PR_addFork.1.cls ≠ "java/lang/invoke/VarHandle" ∧ (parseMethodDescriptor m_PR_addFork.1.desc).map (fun d => d.parameters.length) = some 2 := by decide +kernel
theorem ki_PR_addFork : Cond.instanceMethod m_PR_addFork.1 ∈ xGT := x_in (i := 600) (w := .instanceMethod ⟨"PatternSearch$Program", "addFork", "(II)I"⟩) (by decide +kernel) rfl
theorem ks_PR_addFork : Cond.selects "PatternSearch$Program" m_PR_addFork.1 m_PR_addFork.1 ∈ xGT := x_in (i := 19) (w := .selects "PatternSearch$Program" ⟨"PatternSearch$Program", "addFork", "(II)I"⟩ ⟨"PatternSearch$Program", "addFork", "(II)I"⟩) (by decide +kernel) rfl
set_option maxRecDepth 100000 in
theorem kc_PR_addAtom : Cond.code m_PR_addAtom.1 m_PR_addAtom.2.1 m_PR_addAtom.2.2.1 m_PR_addAtom.2.2.2 ∈ xGT := List.mem_filter.mpr ⟨List.mem_of_getElem? (i := 605) (by rfl), rfl⟩
theorem kd_PR_addAtom : m_PR_addAtom.1.cls ≠ "java/lang/invoke/MethodHandle" ∧ m_PR_addAtom.1.cls ≠ "java/lang/invoke/VarHandle" ∧ (parseMethodDescriptor m_PR_addAtom.1.desc).map (fun d => d.parameters.length) = some 3 := by decide +kernel
theorem ki_PR_addAtom : Cond.instanceMethod m_PR_addAtom.1 ∈ xGT := x_in (i := 604) (w := .instanceMethod ⟨"PatternSearch$Program", "addAtom", "(LPatternSearch$Atom;II)I"⟩) (by decide +kernel) rfl
theorem ks_PR_addAtom : Cond.selects "PatternSearch$Program" m_PR_addAtom.1 m_PR_addAtom.1 ∈ xGT := x_in (i := 20) (w := .selects "PatternSearch$Program" ⟨"PatternSearch$Program", "addAtom", "(LPatternSearch$Atom;II)I"⟩ ⟨"PatternSearch$Program", "addAtom", "(LPatternSearch$Atom;II)I"⟩) (by decide +kernel) rfl
set_option maxRecDepth 100000 in
theorem kc_PR_addGroup : Cond.code m_PR_addGroup.1 m_PR_addGroup.2.1 m_PR_addGroup.2.2.1 m_PR_addGroup.2.2.2 ∈ xGT := List.mem_filter.mpr ⟨List.mem_of_getElem? (i := 609) (by rfl), rfl⟩
theorem kd_PR_addGroup : m_PR_addGroup.1.cls ≠ "java/lang/invoke/MethodHandle" ∧ m_PR_addGroup.1.cls ≠ "java/lang/invoke/VarHandle" ∧ (parseMethodDescriptor m_PR_addGroup.1.desc).map (fun d => d.parameters.length) = some 3 := by decide +kernel
theorem ki_PR_addGroup : Cond.instanceMethod m_PR_addGroup.1 ∈ xGT := x_in (i := 608) (w := .instanceMethod ⟨"PatternSearch$Program", "addGroup", "(LPatternSearch$Atom;II)I"⟩) (by decide +kernel) rfl
theorem ks_PR_addGroup : Cond.selects "PatternSearch$Program" m_PR_addGroup.1 m_PR_addGroup.1 ∈ xGT := x_in (i := 21) (w := .selects "PatternSearch$Program" ⟨"PatternSearch$Program", "addGroup", "(LPatternSearch$Atom;II)I"⟩ ⟨"PatternSearch$Program", "addGroup", "(LPatternSearch$Atom;II)I"⟩) (by decide +kernel) rfl
set_option maxRecDepth 100000 in
theorem kc_BO_endSlot : Cond.code m_BO_endSlot.1 m_BO_endSlot.2.1 m_BO_endSlot.2.2.1 m_BO_endSlot.2.2.2 ∈ xGT := List.mem_filter.mpr ⟨List.mem_of_getElem? (i := 612) (by rfl), rfl⟩
theorem kd_BO_endSlot : m_BO_endSlot.1.cls ≠ "java/lang/invoke/MethodHandle" ∧ m_BO_endSlot.1.cls ≠ "java/lang/invoke/VarHandle" ∧ (parseMethodDescriptor m_BO_endSlot.1.desc).map (fun d => d.parameters.length) = some 1 := by decide +kernel
theorem ki_BO_endSlot : Cond.static m_BO_endSlot.1 ∈ xGT := x_in (i := 611) (w := .static ⟨"PatternSearch$Bounds", "endSlot", "(I)I"⟩) (by decide +kernel) rfl
set_option maxRecDepth 100000 in
theorem kc_PR_addMark : Cond.code m_PR_addMark.1 m_PR_addMark.2.1 m_PR_addMark.2.2.1 m_PR_addMark.2.2.2 ∈ xGT := List.mem_filter.mpr ⟨List.mem_of_getElem? (i := 616) (by rfl), rfl⟩
theorem kd_PR_addMark : m_PR_addMark.1.cls ≠ "java/lang/invoke/MethodHandle" ∧ m_PR_addMark.1.cls ≠ "java/lang/invoke/VarHandle" ∧ (parseMethodDescriptor m_PR_addMark.1.desc).map (fun d => d.parameters.length) = some 2 := by decide +kernel
theorem ki_PR_addMark : Cond.instanceMethod m_PR_addMark.1 ∈ xGT := x_in (i := 615) (w := .instanceMethod ⟨"PatternSearch$Program", "addMark", "(II)I"⟩) (by decide +kernel) rfl
theorem ks_PR_addMark : Cond.selects "PatternSearch$Program" m_PR_addMark.1 m_PR_addMark.1 ∈ xGT := x_in (i := 22) (w := .selects "PatternSearch$Program" ⟨"PatternSearch$Program", "addMark", "(II)I"⟩ ⟨"PatternSearch$Program", "addMark", "(II)I"⟩) (by decide +kernel) rfl
set_option maxRecDepth 100000 in
theorem kc_BO_beginSlot : Cond.code m_BO_beginSlot.1 m_BO_beginSlot.2.1 m_BO_beginSlot.2.2.1 m_BO_beginSlot.2.2.2 ∈ xGT := List.mem_filter.mpr ⟨List.mem_of_getElem? (i := 619) (by rfl), rfl⟩
theorem kd_BO_beginSlot : m_BO_beginSlot.1.cls ≠ "java/lang/invoke/MethodHandle" ∧ m_BO_beginSlot.1.cls ≠ "java/lang/invoke/VarHandle" ∧ (parseMethodDescriptor m_BO_beginSlot.1.desc).map (fun d => d.parameters.length) = some 1 := by decide +kernel
theorem ki_BO_beginSlot : Cond.static m_BO_beginSlot.1 ∈ xGT := x_in (i := 618) (w := .static ⟨"PatternSearch$Bounds", "beginSlot", "(I)I"⟩) (by decide +kernel) rfl
set_option maxRecDepth 100000 in
theorem kc_PR_addCopies : Cond.code m_PR_addCopies.1 m_PR_addCopies.2.1 m_PR_addCopies.2.2.1 m_PR_addCopies.2.2.2 ∈ xGT := List.mem_filter.mpr ⟨List.mem_of_getElem? (i := 623) (by rfl), rfl⟩
theorem kd_PR_addCopies : m_PR_addCopies.1.cls ≠ "java/lang/invoke/MethodHandle" ∧ m_PR_addCopies.1.cls ≠ "java/lang/invoke/VarHandle" ∧ (parseMethodDescriptor m_PR_addCopies.1.desc).map (fun d => d.parameters.length) = some 3 := by decide +kernel
theorem ki_PR_addCopies : Cond.instanceMethod m_PR_addCopies.1 ∈ xGT := x_in (i := 622) (w := .instanceMethod ⟨"PatternSearch$Program", "addCopies", "(LPatternSearch$Piece;II)I"⟩) (by decide +kernel) rfl
theorem ks_PR_addCopies : Cond.selects "PatternSearch$Program" m_PR_addCopies.1 m_PR_addCopies.1 ∈ xGT := x_in (i := 23) (w := .selects "PatternSearch$Program" ⟨"PatternSearch$Program", "addCopies", "(LPatternSearch$Piece;II)I"⟩ ⟨"PatternSearch$Program", "addCopies", "(LPatternSearch$Piece;II)I"⟩) (by decide +kernel) rfl
set_option maxRecDepth 100000 in
theorem kc_BO_clear : Cond.code m_BO_clear.1 m_BO_clear.2.1 m_BO_clear.2.2.1 m_BO_clear.2.2.2 ∈ xGT := List.mem_filter.mpr ⟨List.mem_of_getElem? (i := 627) (by rfl), rfl⟩
theorem kd_BO_clear : m_BO_clear.1.cls ≠ "java/lang/invoke/MethodHandle" ∧ m_BO_clear.1.cls ≠ "java/lang/invoke/VarHandle" ∧ (parseMethodDescriptor m_BO_clear.1.desc).map (fun d => d.parameters.length) = some 0 := by decide +kernel
theorem ki_BO_clear : Cond.instanceMethod m_BO_clear.1 ∈ xGT := x_in (i := 625) (w := .instanceMethod ⟨"PatternSearch$Bounds", "clear", "()V"⟩) (by decide +kernel) rfl
theorem ks_BO_clear : Cond.selects "PatternSearch$Bounds" m_BO_clear.1 m_BO_clear.1 ∈ xGT := x_in (i := 626) (w := .selects "PatternSearch$Bounds" ⟨"PatternSearch$Bounds", "clear", "()V"⟩ ⟨"PatternSearch$Bounds", "clear", "()V"⟩) (by decide +kernel) rfl
set_option maxRecDepth 100000 in
theorem kc_RE_groupCount : Cond.code m_RE_groupCount.1 m_RE_groupCount.2.1 m_RE_groupCount.2.2.1 m_RE_groupCount.2.2.2 ∈ xGT := List.mem_filter.mpr ⟨List.mem_of_getElem? (i := 631) (by rfl), rfl⟩
theorem kd_RE_groupCount : m_RE_groupCount.1.cls ≠ "java/lang/invoke/MethodHandle" ∧ m_RE_groupCount.1.cls ≠ "java/lang/invoke/VarHandle" ∧ (parseMethodDescriptor m_RE_groupCount.1.desc).map (fun d => d.parameters.length) = some 0 := by decide +kernel
theorem ki_RE_groupCount : Cond.instanceMethod m_RE_groupCount.1 ∈ xGT := x_in (i := 629) (w := .instanceMethod ⟨"PatternSearch$Reader", "groupCount", "()I"⟩) (by decide +kernel) rfl
theorem ks_RE_groupCount : Cond.selects "PatternSearch$Reader" m_RE_groupCount.1 m_RE_groupCount.1 ∈ xGT := x_in (i := 630) (w := .selects "PatternSearch$Reader" ⟨"PatternSearch$Reader", "groupCount", "()I"⟩ ⟨"PatternSearch$Reader", "groupCount", "()I"⟩) (by decide +kernel) rfl
set_option maxRecDepth 100000 in
theorem kc_PS_fault : Cond.code m_PS_fault.1 m_PS_fault.2.1 m_PS_fault.2.2.1 m_PS_fault.2.2.2 ∈ xGT := List.mem_filter.mpr ⟨List.mem_of_getElem? (i := 635) (by rfl), rfl⟩
theorem kd_PS_fault : m_PS_fault.1.cls ≠ "java/lang/invoke/MethodHandle" ∧ m_PS_fault.1.cls ≠ "java/lang/invoke/VarHandle" ∧ (parseMethodDescriptor m_PS_fault.1.desc).map (fun d => d.parameters.length) = some 0 := by decide +kernel
theorem ki_PS_fault : Cond.instanceMethod m_PS_fault.1 ∈ xGT := x_in (i := 633) (w := .instanceMethod ⟨"PatternSearch", "fault", "()I"⟩) (by decide +kernel) rfl
theorem ks_PS_fault : Cond.selects "PatternSearch" m_PS_fault.1 m_PS_fault.1 ∈ xGT := x_in (i := 634) (w := .selects "PatternSearch" ⟨"PatternSearch", "fault", "()I"⟩ ⟨"PatternSearch", "fault", "()I"⟩) (by decide +kernel) rfl
set_option maxRecDepth 100000 in
theorem kc_PS_text : Cond.code m_PS_text.1 m_PS_text.2.1 m_PS_text.2.2.1 m_PS_text.2.2.2 ∈ xGT := List.mem_filter.mpr ⟨List.mem_of_getElem? (i := 639) (by rfl), rfl⟩
theorem kd_PS_text : m_PS_text.1.cls ≠ "java/lang/invoke/MethodHandle" ∧ m_PS_text.1.cls ≠ "java/lang/invoke/VarHandle" ∧ (parseMethodDescriptor m_PS_text.1.desc).map (fun d => d.parameters.length) = some 1 := by decide +kernel
theorem ki_PS_text : Cond.instanceMethod m_PS_text.1 ∈ xGT := x_in (i := 637) (w := .instanceMethod ⟨"PatternSearch", "text", "(I)I"⟩) (by decide +kernel) rfl
theorem ks_PS_text : Cond.selects "PatternSearch" m_PS_text.1 m_PS_text.1 ∈ xGT := x_in (i := 638) (w := .selects "PatternSearch" ⟨"PatternSearch", "text", "(I)I"⟩ ⟨"PatternSearch", "text", "(I)I"⟩) (by decide +kernel) rfl
set_option maxRecDepth 100000 in
theorem kc_PS_newText : Cond.code m_PS_newText.1 m_PS_newText.2.1 m_PS_newText.2.2.1 m_PS_newText.2.2.2 ∈ xGT := List.mem_filter.mpr ⟨List.mem_of_getElem? (i := 643) (by rfl), rfl⟩
theorem kd_PS_newText : m_PS_newText.1.cls ≠ "java/lang/invoke/MethodHandle" ∧ m_PS_newText.1.cls ≠ "java/lang/invoke/VarHandle" ∧ (parseMethodDescriptor m_PS_newText.1.desc).map (fun d => d.parameters.length) = some 0 := by decide +kernel
theorem ki_PS_newText : Cond.instanceMethod m_PS_newText.1 ∈ xGT := x_in (i := 641) (w := .instanceMethod ⟨"PatternSearch", "newText", "()I"⟩) (by decide +kernel) rfl
theorem ks_PS_newText : Cond.selects "PatternSearch" m_PS_newText.1 m_PS_newText.1 ∈ xGT := x_in (i := 642) (w := .selects "PatternSearch" ⟨"PatternSearch", "newText", "()I"⟩ ⟨"PatternSearch", "newText", "()I"⟩) (by decide +kernel) rfl
set_option maxRecDepth 100000 in
theorem kc_PS_find : Cond.code m_PS_find.1 m_PS_find.2.1 m_PS_find.2.2.1 m_PS_find.2.2.2 ∈ xGT := List.mem_filter.mpr ⟨List.mem_of_getElem? (i := 647) (by rfl), rfl⟩
theorem kd_PS_find : m_PS_find.1.cls ≠ "java/lang/invoke/MethodHandle" ∧ m_PS_find.1.cls ≠ "java/lang/invoke/VarHandle" ∧ (parseMethodDescriptor m_PS_find.1.desc).map (fun d => d.parameters.length) = some 1 := by decide +kernel
theorem ki_PS_find : Cond.instanceMethod m_PS_find.1 ∈ xGT := x_in (i := 645) (w := .instanceMethod ⟨"PatternSearch", "find", "(I)I"⟩) (by decide +kernel) rfl
theorem ks_PS_find : Cond.selects "PatternSearch" m_PS_find.1 m_PS_find.1 ∈ xGT := x_in (i := 646) (w := .selects "PatternSearch" ⟨"PatternSearch", "find", "(I)I"⟩ ⟨"PatternSearch", "find", "(I)I"⟩) (by decide +kernel) rfl
set_option maxRecDepth 100000 in
theorem kc_MA_aimAnywhere : Cond.code m_MA_aimAnywhere.1 m_MA_aimAnywhere.2.1 m_MA_aimAnywhere.2.2.1 m_MA_aimAnywhere.2.2.2 ∈ xGT := List.mem_filter.mpr ⟨List.mem_of_getElem? (i := 651) (by rfl), rfl⟩
theorem kd_MA_aimAnywhere : m_MA_aimAnywhere.1.cls ≠ "java/lang/invoke/MethodHandle" ∧ m_MA_aimAnywhere.1.cls ≠ "java/lang/invoke/VarHandle" ∧ (parseMethodDescriptor m_MA_aimAnywhere.1.desc).map (fun d => d.parameters.length) = some 1 := by decide +kernel
theorem ki_MA_aimAnywhere : Cond.instanceMethod m_MA_aimAnywhere.1 ∈ xGT := x_in (i := 649) (w := .instanceMethod ⟨"PatternSearch$Matcher", "aimAnywhere", "(LPatternSearch$Signs;)V"⟩) (by decide +kernel) rfl
theorem ks_MA_aimAnywhere : Cond.selects "PatternSearch$Matcher" m_MA_aimAnywhere.1 m_MA_aimAnywhere.1 ∈ xGT := x_in (i := 650) (w := .selects "PatternSearch$Matcher" ⟨"PatternSearch$Matcher", "aimAnywhere", "(LPatternSearch$Signs;)V"⟩ ⟨"PatternSearch$Matcher", "aimAnywhere", "(LPatternSearch$Signs;)V"⟩) (by decide +kernel) rfl
set_option maxRecDepth 100000 in
theorem kc_MA_aim : Cond.code m_MA_aim.1 m_MA_aim.2.1 m_MA_aim.2.2.1 m_MA_aim.2.2.2 ∈ xGT := List.mem_filter.mpr ⟨List.mem_of_getElem? (i := 655) (by rfl), rfl⟩
theorem kd_MA_aim : m_MA_aim.1.cls ≠ "java/lang/invoke/MethodHandle" ∧ m_MA_aim.1.cls ≠ "java/lang/invoke/VarHandle" ∧ (parseMethodDescriptor m_MA_aim.1.desc).map (fun d => d.parameters.length) = some 2 := by decide +kernel
theorem ki_MA_aim : Cond.instanceMethod m_MA_aim.1 ∈ xGT := x_in (i := 654) (w := .instanceMethod ⟨"PatternSearch$Matcher", "aim", "(LPatternSearch$Signs;I)V"⟩) (by decide +kernel) rfl
theorem ks_MA_aim : Cond.selects "PatternSearch$Matcher" m_MA_aim.1 m_MA_aim.1 ∈ xGT := x_in (i := 24) (w := .selects "PatternSearch$Matcher" ⟨"PatternSearch$Matcher", "aim", "(LPatternSearch$Signs;I)V"⟩ ⟨"PatternSearch$Matcher", "aim", "(LPatternSearch$Signs;I)V"⟩) (by decide +kernel) rfl
set_option maxRecDepth 100000 in
theorem kc_MA_fittingPlaces : Cond.code m_MA_fittingPlaces.1 m_MA_fittingPlaces.2.1 m_MA_fittingPlaces.2.2.1 m_MA_fittingPlaces.2.2.2 ∈ xGT := List.mem_filter.mpr ⟨List.mem_of_getElem? (i := 660) (by rfl), rfl⟩
theorem kd_MA_fittingPlaces : m_MA_fittingPlaces.1.cls ≠ "java/lang/invoke/MethodHandle" ∧ m_MA_fittingPlaces.1.cls ≠ "java/lang/invoke/VarHandle" ∧ (parseMethodDescriptor m_MA_fittingPlaces.1.desc).map (fun d => d.parameters.length) = some 2 := by decide +kernel
theorem ki_MA_fittingPlaces : Cond.instanceMethod m_MA_fittingPlaces.1 ∈ xGT := x_in (i := 659) (w := .instanceMethod ⟨"PatternSearch$Matcher", "fittingPlaces", "(ILPatternSearch$Signs;)I"⟩) (by decide +kernel) rfl
theorem ks_MA_fittingPlaces : Cond.selects "PatternSearch$Matcher" m_MA_fittingPlaces.1 m_MA_fittingPlaces.1 ∈ xGT := x_in (i := 25) (w := .selects "PatternSearch$Matcher" ⟨"PatternSearch$Matcher", "fittingPlaces", "(ILPatternSearch$Signs;)I"⟩ ⟨"PatternSearch$Matcher", "fittingPlaces", "(ILPatternSearch$Signs;)I"⟩) (by decide +kernel) rfl
set_option maxRecDepth 100000 in
theorem kc_PR_takes : Cond.code m_PR_takes.1 m_PR_takes.2.1 m_PR_takes.2.2.1 m_PR_takes.2.2.2 ∈ xGT := List.mem_filter.mpr ⟨List.mem_of_getElem? (i := 665) (by rfl), rfl⟩
theorem kd_PR_takes : m_PR_takes.1.cls ≠ "java/lang/invoke/MethodHandle" ∧ m_PR_takes.1.cls ≠ "java/lang/invoke/VarHandle" ∧ (parseMethodDescriptor m_PR_takes.1.desc).map (fun d => d.parameters.length) = some 2 := by decide +kernel
theorem ki_PR_takes : Cond.instanceMethod m_PR_takes.1 ∈ xGT := x_in (i := 663) (w := .instanceMethod ⟨"PatternSearch$Program", "takes", "(II)Z"⟩) (by decide +kernel) rfl
theorem ks_PR_takes : Cond.selects "PatternSearch$Program" m_PR_takes.1 m_PR_takes.1 ∈ xGT := x_in (i := 664) (w := .selects "PatternSearch$Program" ⟨"PatternSearch$Program", "takes", "(II)Z"⟩ ⟨"PatternSearch$Program", "takes", "(II)Z"⟩) (by decide +kernel) rfl
set_option maxRecDepth 100000 in
theorem kc_MA_spread : Cond.code m_MA_spread.1 m_MA_spread.2.1 m_MA_spread.2.2.1 m_MA_spread.2.2.2 ∈ xGT := List.mem_filter.mpr ⟨List.mem_of_getElem? (i := 669) (by rfl), rfl⟩
theorem kd_MA_spread : m_MA_spread.1.cls ≠ "java/lang/invoke/MethodHandle" ∧ m_MA_spread.1.cls ≠ "java/lang/invoke/VarHandle" ∧ (parseMethodDescriptor m_MA_spread.1.desc).map (fun d => d.parameters.length) = some 1 := by decide +kernel
theorem ki_MA_spread : Cond.instanceMethod m_MA_spread.1 ∈ xGT := x_in (i := 668) (w := .instanceMethod ⟨"PatternSearch$Matcher", "spread", "(I)Z"⟩) (by decide +kernel) rfl
theorem ks_MA_spread : Cond.selects "PatternSearch$Matcher" m_MA_spread.1 m_MA_spread.1 ∈ xGT := x_in (i := 26) (w := .selects "PatternSearch$Matcher" ⟨"PatternSearch$Matcher", "spread", "(I)Z"⟩ ⟨"PatternSearch$Matcher", "spread", "(I)Z"⟩) (by decide +kernel) rfl
set_option maxRecDepth 100000 in
theorem kc_MA_leadingPlaces : Cond.code m_MA_leadingPlaces.1 m_MA_leadingPlaces.2.1 m_MA_leadingPlaces.2.2.1 m_MA_leadingPlaces.2.2.2 ∈ xGT := List.mem_filter.mpr ⟨List.mem_of_getElem? (i := 673) (by rfl), rfl⟩
theorem kd_MA_leadingPlaces : m_MA_leadingPlaces.1.cls ≠ "java/lang/invoke/MethodHandle" ∧ m_MA_leadingPlaces.1.cls ≠ "java/lang/invoke/VarHandle" ∧ (parseMethodDescriptor m_MA_leadingPlaces.1.desc).map (fun d => d.parameters.length) = some 2 := by decide +kernel
theorem ki_MA_leadingPlaces : Cond.instanceMethod m_MA_leadingPlaces.1 ∈ xGT := x_in (i := 672) (w := .instanceMethod ⟨"PatternSearch$Matcher", "leadingPlaces", "(II)I"⟩) (by decide +kernel) rfl
theorem ks_MA_leadingPlaces : Cond.selects "PatternSearch$Matcher" m_MA_leadingPlaces.1 m_MA_leadingPlaces.1 ∈ xGT := x_in (i := 27) (w := .selects "PatternSearch$Matcher" ⟨"PatternSearch$Matcher", "leadingPlaces", "(II)I"⟩ ⟨"PatternSearch$Matcher", "leadingPlaces", "(II)I"⟩) (by decide +kernel) rfl
set_option maxRecDepth 100000 in
theorem kc_MA_seek : Cond.code m_MA_seek.1 m_MA_seek.2.1 m_MA_seek.2.2.1 m_MA_seek.2.2.2 ∈ xGT := List.mem_filter.mpr ⟨List.mem_of_getElem? (i := 677) (by rfl), rfl⟩
theorem kd_MA_seek : m_MA_seek.1.cls ≠ "java/lang/invoke/MethodHandle" ∧ m_MA_seek.1.cls ≠ "java/lang/invoke/VarHandle" ∧ (parseMethodDescriptor m_MA_seek.1.desc).map (fun d => d.parameters.length) = some 2 := by decide +kernel
theorem ki_MA_seek : Cond.instanceMethod m_MA_seek.1 ∈ xGT := x_in (i := 675) (w := .instanceMethod ⟨"PatternSearch$Matcher", "seek", "(ILPatternSearch$Bounds;)Z"⟩) (by decide +kernel) rfl
theorem ks_MA_seek : Cond.selects "PatternSearch$Matcher" m_MA_seek.1 m_MA_seek.1 ∈ xGT := x_in (i := 676) (w := .selects "PatternSearch$Matcher" ⟨"PatternSearch$Matcher", "seek", "(ILPatternSearch$Bounds;)Z"⟩ ⟨"PatternSearch$Matcher", "seek", "(ILPatternSearch$Bounds;)Z"⟩) (by decide +kernel) rfl
set_option maxRecDepth 100000 in
theorem kc_MA_leadsOn : Cond.code m_MA_leadsOn.1 m_MA_leadsOn.2.1 m_MA_leadsOn.2.2.1 m_MA_leadsOn.2.2.2 ∈ xGT := List.mem_filter.mpr ⟨List.mem_of_getElem? (i := 682) (by rfl), rfl⟩
theorem kd_MA_leadsOn : m_MA_leadsOn.1.cls ≠ "java/lang/invoke/MethodHandle" ∧ m_MA_leadsOn.1.cls ≠ "java/lang/invoke/VarHandle" ∧ (parseMethodDescriptor m_MA_leadsOn.1.desc).map (fun d => d.parameters.length) = some 1 := by decide +kernel
theorem ki_MA_leadsOn : Cond.instanceMethod m_MA_leadsOn.1 ∈ xGT := x_in (i := 680) (w := .instanceMethod ⟨"PatternSearch$Matcher", "leadsOn", "(I)Z"⟩) (by decide +kernel) rfl
theorem ks_MA_leadsOn : Cond.selects "PatternSearch$Matcher" m_MA_leadsOn.1 m_MA_leadsOn.1 ∈ xGT := x_in (i := 681) (w := .selects "PatternSearch$Matcher" ⟨"PatternSearch$Matcher", "leadsOn", "(I)Z"⟩ ⟨"PatternSearch$Matcher", "leadsOn", "(I)Z"⟩) (by decide +kernel) rfl
set_option maxRecDepth 100000 in
theorem kc_MA_leadsOnFrom : Cond.code m_MA_leadsOnFrom.1 m_MA_leadsOnFrom.2.1 m_MA_leadsOnFrom.2.2.1 m_MA_leadsOnFrom.2.2.2 ∈ xGT := List.mem_filter.mpr ⟨List.mem_of_getElem? (i := 686) (by rfl), rfl⟩
theorem kd_MA_leadsOnFrom : m_MA_leadsOnFrom.1.cls ≠ "java/lang/invoke/MethodHandle" ∧ m_MA_leadsOnFrom.1.cls ≠ "java/lang/invoke/VarHandle" ∧ (parseMethodDescriptor m_MA_leadsOnFrom.1.desc).map (fun d => d.parameters.length) = some 2 := by decide +kernel
theorem ki_MA_leadsOnFrom : Cond.instanceMethod m_MA_leadsOnFrom.1 ∈ xGT := x_in (i := 685) (w := .instanceMethod ⟨"PatternSearch$Matcher", "leadsOnFrom", "(II)Z"⟩) (by decide +kernel) rfl
theorem ks_MA_leadsOnFrom : Cond.selects "PatternSearch$Matcher" m_MA_leadsOnFrom.1 m_MA_leadsOnFrom.1 ∈ xGT := x_in (i := 28) (w := .selects "PatternSearch$Matcher" ⟨"PatternSearch$Matcher", "leadsOnFrom", "(II)Z"⟩ ⟨"PatternSearch$Matcher", "leadsOnFrom", "(II)Z"⟩) (by decide +kernel) rfl
set_option maxRecDepth 100000 in
theorem kc_MA_walk : Cond.code m_MA_walk.1 m_MA_walk.2.1 m_MA_walk.2.2.1 m_MA_walk.2.2.2 ∈ xGT := List.mem_filter.mpr ⟨List.mem_of_getElem? (i := 690) (by rfl), rfl⟩
theorem kd_MA_walk : m_MA_walk.1.cls ≠ "java/lang/invoke/MethodHandle" ∧ m_MA_walk.1.cls ≠ "java/lang/invoke/VarHandle" ∧ (parseMethodDescriptor m_MA_walk.1.desc).map (fun d => d.parameters.length) = some 2 := by decide +kernel
theorem ki_MA_walk : Cond.instanceMethod m_MA_walk.1 ∈ xGT := x_in (i := 689) (w := .instanceMethod ⟨"PatternSearch$Matcher", "walk", "(ILPatternSearch$Bounds;)V"⟩) (by decide +kernel) rfl
theorem ks_MA_walk : Cond.selects "PatternSearch$Matcher" m_MA_walk.1 m_MA_walk.1 ∈ xGT := x_in (i := 29) (w := .selects "PatternSearch$Matcher" ⟨"PatternSearch$Matcher", "walk", "(ILPatternSearch$Bounds;)V"⟩ ⟨"PatternSearch$Matcher", "walk", "(ILPatternSearch$Bounds;)V"⟩) (by decide +kernel) rfl
set_option maxRecDepth 100000 in
theorem kc_BO_mark : Cond.code m_BO_mark.1 m_BO_mark.2.1 m_BO_mark.2.2.1 m_BO_mark.2.2.2 ∈ xGT := List.mem_filter.mpr ⟨List.mem_of_getElem? (i := 694) (by rfl), rfl⟩
theorem kd_BO_mark : m_BO_mark.1.cls ≠ "java/lang/invoke/MethodHandle" ∧ m_BO_mark.1.cls ≠ "java/lang/invoke/VarHandle" ∧ (parseMethodDescriptor m_BO_mark.1.desc).map (fun d => d.parameters.length) = some 2 := by decide +kernel
theorem ki_BO_mark : Cond.instanceMethod m_BO_mark.1 ∈ xGT := x_in (i := 692) (w := .instanceMethod ⟨"PatternSearch$Bounds", "mark", "(II)V"⟩) (by decide +kernel) rfl
theorem ks_BO_mark : Cond.selects "PatternSearch$Bounds" m_BO_mark.1 m_BO_mark.1 ∈ xGT := x_in (i := 693) (w := .selects "PatternSearch$Bounds" ⟨"PatternSearch$Bounds", "mark", "(II)V"⟩ ⟨"PatternSearch$Bounds", "mark", "(II)V"⟩) (by decide +kernel) rfl
set_option maxRecDepth 100000 in
theorem kc_BO_begin : Cond.code m_BO_begin.1 m_BO_begin.2.1 m_BO_begin.2.2.1 m_BO_begin.2.2.2 ∈ xGT := List.mem_filter.mpr ⟨List.mem_of_getElem? (i := 700) (by rfl), rfl⟩
theorem kd_BO_begin : m_BO_begin.1.cls ≠ "java/lang/invoke/MethodHandle" ∧ m_BO_begin.1.cls ≠ "java/lang/invoke/VarHandle" ∧ (parseMethodDescriptor m_BO_begin.1.desc).map (fun d => d.parameters.length) = some 1 := by decide +kernel
theorem ki_BO_begin : Cond.instanceMethod m_BO_begin.1 ∈ xGT := x_in (i := 698) (w := .instanceMethod ⟨"PatternSearch$Bounds", "begin", "(I)I"⟩) (by decide +kernel) rfl
theorem ks_BO_begin : Cond.selects "PatternSearch$Bounds" m_BO_begin.1 m_BO_begin.1 ∈ xGT := x_in (i := 699) (w := .selects "PatternSearch$Bounds" ⟨"PatternSearch$Bounds", "begin", "(I)I"⟩ ⟨"PatternSearch$Bounds", "begin", "(I)I"⟩) (by decide +kernel) rfl
set_option maxRecDepth 100000 in
theorem kc_BO_inSlot : Cond.code m_BO_inSlot.1 m_BO_inSlot.2.1 m_BO_inSlot.2.2.1 m_BO_inSlot.2.2.2 ∈ xGT := List.mem_filter.mpr ⟨List.mem_of_getElem? (i := 705) (by rfl), rfl⟩
theorem kd_BO_inSlot : m_BO_inSlot.1.cls ≠ "java/lang/invoke/MethodHandle" ∧ m_BO_inSlot.1.cls ≠ "java/lang/invoke/VarHandle" ∧ (parseMethodDescriptor m_BO_inSlot.1.desc).map (fun d => d.parameters.length) = some 1 := by decide +kernel
theorem ki_BO_inSlot : Cond.instanceMethod m_BO_inSlot.1 ∈ xGT := x_in (i := 704) (w := .instanceMethod ⟨"PatternSearch$Bounds", "inSlot", "(I)I"⟩) (by decide +kernel) rfl
theorem ks_BO_inSlot : Cond.selects "PatternSearch$Bounds" m_BO_inSlot.1 m_BO_inSlot.1 ∈ xGT := x_in (i := 30) (w := .selects "PatternSearch$Bounds" ⟨"PatternSearch$Bounds", "inSlot", "(I)I"⟩ ⟨"PatternSearch$Bounds", "inSlot", "(I)I"⟩) (by decide +kernel) rfl
set_option maxRecDepth 100000 in
theorem kc_PS_group : Cond.code m_PS_group.1 m_PS_group.2.1 m_PS_group.2.2.1 m_PS_group.2.2.2 ∈ xGT := List.mem_filter.mpr ⟨List.mem_of_getElem? (i := 709) (by rfl), rfl⟩
theorem kd_PS_group : m_PS_group.1.cls ≠ "java/lang/invoke/MethodHandle" ∧ m_PS_group.1.cls ≠ "java/lang/invoke/VarHandle" ∧ (parseMethodDescriptor m_PS_group.1.desc).map (fun d => d.parameters.length) = some 2 := by decide +kernel
theorem ki_PS_group : Cond.instanceMethod m_PS_group.1 ∈ xGT := x_in (i := 707) (w := .instanceMethod ⟨"PatternSearch", "group", "(IZ)I"⟩) (by decide +kernel) rfl
theorem ks_PS_group : Cond.selects "PatternSearch" m_PS_group.1 m_PS_group.1 ∈ xGT := x_in (i := 708) (w := .selects "PatternSearch" ⟨"PatternSearch", "group", "(IZ)I"⟩ ⟨"PatternSearch", "group", "(IZ)I"⟩) (by decide +kernel) rfl
set_option maxRecDepth 100000 in
theorem kc_PS_isGroup : Cond.code m_PS_isGroup.1 m_PS_isGroup.2.1 m_PS_isGroup.2.2.1 m_PS_isGroup.2.2.2 ∈ xGT := List.mem_filter.mpr ⟨List.mem_of_getElem? (i := 712) (by rfl), rfl⟩
theorem kd_PS_isGroup : m_PS_isGroup.1.cls ≠ "java/lang/invoke/MethodHandle" ∧ m_PS_isGroup.1.cls ≠ "java/lang/invoke/VarHandle" ∧ (parseMethodDescriptor m_PS_isGroup.1.desc).map (fun d => d.parameters.length) = some 1 := by decide +kernel
theorem ki_PS_isGroup : Cond.static m_PS_isGroup.1 ∈ xGT := x_in (i := 711) (w := .static ⟨"PatternSearch", "isGroup", "(I)Z"⟩) (by decide +kernel) rfl
set_option maxRecDepth 100000 in
theorem kc_BO_end : Cond.code m_BO_end.1 m_BO_end.2.1 m_BO_end.2.2.1 m_BO_end.2.2.2 ∈ xGT := List.mem_filter.mpr ⟨List.mem_of_getElem? (i := 716) (by rfl), rfl⟩
theorem kd_BO_end : m_BO_end.1.cls ≠ "java/lang/invoke/MethodHandle" ∧ m_BO_end.1.cls ≠ "java/lang/invoke/VarHandle" ∧ (parseMethodDescriptor m_BO_end.1.desc).map (fun d => d.parameters.length) = some 1 := by decide +kernel
theorem ki_BO_end : Cond.instanceMethod m_BO_end.1 ∈ xGT := x_in (i := 714) (w := .instanceMethod ⟨"PatternSearch$Bounds", "end", "(I)I"⟩) (by decide +kernel) rfl
theorem ks_BO_end : Cond.selects "PatternSearch$Bounds" m_BO_end.1 m_BO_end.1 ∈ xGT := x_in (i := 715) (w := .selects "PatternSearch$Bounds" ⟨"PatternSearch$Bounds", "end", "(I)I"⟩ ⟨"PatternSearch$Bounds", "end", "(I)I"⟩) (by decide +kernel) rfl
set_option maxRecDepth 100000 in
theorem kc_PS_whole : Cond.code m_PS_whole.1 m_PS_whole.2.1 m_PS_whole.2.2.1 m_PS_whole.2.2.2 ∈ xGT := List.mem_filter.mpr ⟨List.mem_of_getElem? (i := 721) (by rfl), rfl⟩
theorem kd_PS_whole : m_PS_whole.1.cls ≠ "java/lang/invoke/MethodHandle" ∧ m_PS_whole.1.cls ≠ "java/lang/invoke/VarHandle" ∧ (parseMethodDescriptor m_PS_whole.1.desc).map (fun d => d.parameters.length) = some 2 := by decide +kernel
theorem ki_PS_whole : Cond.instanceMethod m_PS_whole.1 ∈ xGT := x_in (i := 719) (w := .instanceMethod ⟨"PatternSearch", "whole", "(II)I"⟩) (by decide +kernel) rfl
theorem ks_PS_whole : Cond.selects "PatternSearch" m_PS_whole.1 m_PS_whole.1 ∈ xGT := x_in (i := 720) (w := .selects "PatternSearch" ⟨"PatternSearch", "whole", "(II)I"⟩ ⟨"PatternSearch", "whole", "(II)I"⟩) (by decide +kernel) rfl
set_option maxRecDepth 100000 in
theorem kc_MA_aimAt : Cond.code m_MA_aimAt.1 m_MA_aimAt.2.1 m_MA_aimAt.2.2.1 m_MA_aimAt.2.2.2 ∈ xGT := List.mem_filter.mpr ⟨List.mem_of_getElem? (i := 725) (by rfl), rfl⟩
theorem kd_MA_aimAt : m_MA_aimAt.1.cls ≠ "java/lang/invoke/MethodHandle" ∧ m_MA_aimAt.1.cls ≠ "java/lang/invoke/VarHandle" ∧ (parseMethodDescriptor m_MA_aimAt.1.desc).map (fun d => d.parameters.length) = some 2 := by decide +kernel
theorem ki_MA_aimAt : Cond.instanceMethod m_MA_aimAt.1 ∈ xGT := x_in (i := 723) (w := .instanceMethod ⟨"PatternSearch$Matcher", "aimAt", "(LPatternSearch$Signs;I)V"⟩) (by decide +kernel) rfl
theorem ks_MA_aimAt : Cond.selects "PatternSearch$Matcher" m_MA_aimAt.1 m_MA_aimAt.1 ∈ xGT := x_in (i := 724) (w := .selects "PatternSearch$Matcher" ⟨"PatternSearch$Matcher", "aimAt", "(LPatternSearch$Signs;I)V"⟩ ⟨"PatternSearch$Matcher", "aimAt", "(LPatternSearch$Signs;I)V"⟩) (by decide +kernel) rfl
set_option maxRecDepth 100000 in
theorem kc_PS_matches : Cond.code m_PS_matches.1 m_PS_matches.2.1 m_PS_matches.2.2.1 m_PS_matches.2.2.2 ∈ xGT := List.mem_filter.mpr ⟨List.mem_of_getElem? (i := 730) (by rfl), rfl⟩
theorem kd_PS_matches : m_PS_matches.1.cls ≠ "java/lang/invoke/MethodHandle" ∧ m_PS_matches.1.cls ≠ "java/lang/invoke/VarHandle" ∧ (parseMethodDescriptor m_PS_matches.1.desc).map (fun d => d.parameters.length) = some 0 := by decide +kernel
theorem ki_PS_matches : Cond.instanceMethod m_PS_matches.1 ∈ xGT := x_in (i := 728) (w := .instanceMethod ⟨"PatternSearch", "matches", "()I"⟩) (by decide +kernel) rfl
theorem ks_PS_matches : Cond.selects "PatternSearch" m_PS_matches.1 m_PS_matches.1 ∈ xGT := x_in (i := 729) (w := .selects "PatternSearch" ⟨"PatternSearch", "matches", "()I"⟩ ⟨"PatternSearch", "matches", "()I"⟩) (by decide +kernel) rfl
set_option maxRecDepth 100000 in
theorem kc_BO_placeBehind : Cond.code m_BO_placeBehind.1 m_BO_placeBehind.2.1 m_BO_placeBehind.2.2.1 m_BO_placeBehind.2.2.2 ∈ xGT := List.mem_filter.mpr ⟨List.mem_of_getElem? (i := 734) (by rfl), rfl⟩
theorem kd_BO_placeBehind : m_BO_placeBehind.1.cls ≠ "java/lang/invoke/MethodHandle" ∧ m_BO_placeBehind.1.cls ≠ "java/lang/invoke/VarHandle" ∧ (parseMethodDescriptor m_BO_placeBehind.1.desc).map (fun d => d.parameters.length) = some 0 := by decide +kernel
theorem ki_BO_placeBehind : Cond.instanceMethod m_BO_placeBehind.1 ∈ xGT := x_in (i := 732) (w := .instanceMethod ⟨"PatternSearch$Bounds", "placeBehind", "()I"⟩) (by decide +kernel) rfl
theorem ks_BO_placeBehind : Cond.selects "PatternSearch$Bounds" m_BO_placeBehind.1 m_BO_placeBehind.1 ∈ xGT := x_in (i := 733) (w := .selects "PatternSearch$Bounds" ⟨"PatternSearch$Bounds", "placeBehind", "()I"⟩ ⟨"PatternSearch$Bounds", "placeBehind", "()I"⟩) (by decide +kernel) rfl
set_option maxRecDepth 100000 in
theorem kc_PS_replace : Cond.code m_PS_replace.1 m_PS_replace.2.1 m_PS_replace.2.2.1 m_PS_replace.2.2.2 ∈ xGT := List.mem_filter.mpr ⟨List.mem_of_getElem? (i := 740) (by rfl), rfl⟩
theorem kd_PS_replace : m_PS_replace.1.cls ≠ "java/lang/invoke/MethodHandle" ∧ m_PS_replace.1.cls ≠ "java/lang/invoke/VarHandle" ∧ (parseMethodDescriptor m_PS_replace.1.desc).map (fun d => d.parameters.length) = some 1 := by decide +kernel
theorem ki_PS_replace : Cond.instanceMethod m_PS_replace.1 ∈ xGT := x_in (i := 738) (w := .instanceMethod ⟨"PatternSearch", "replace", "(I)I"⟩) (by decide +kernel) rfl
theorem ks_PS_replace : Cond.selects "PatternSearch" m_PS_replace.1 m_PS_replace.1 ∈ xGT := x_in (i := 739) (w := .selects "PatternSearch" ⟨"PatternSearch", "replace", "(I)I"⟩ ⟨"PatternSearch", "replace", "(I)I"⟩) (by decide +kernel) rfl
set_option maxRecDepth 100000 in
theorem kc_SI_addStretch : Cond.code m_SI_addStretch.1 m_SI_addStretch.2.1 m_SI_addStretch.2.2.1 m_SI_addStretch.2.2.2 ∈ xGT := List.mem_filter.mpr ⟨List.mem_of_getElem? (i := 744) (by rfl), rfl⟩
theorem kd_SI_addStretch : m_SI_addStretch.1.cls ≠ "java/lang/invoke/MethodHandle" ∧ m_SI_addStretch.1.cls ≠ "java/lang/invoke/VarHandle" ∧ (parseMethodDescriptor m_SI_addStretch.1.desc).map (fun d => d.parameters.length) = some 3 := by decide +kernel
theorem ki_SI_addStretch : Cond.instanceMethod m_SI_addStretch.1 ∈ xGT := x_in (i := 742) (w := .instanceMethod ⟨"PatternSearch$Signs", "addStretch", "(LPatternSearch$Signs;II)V"⟩) (by decide +kernel) rfl
theorem ks_SI_addStretch : Cond.selects "PatternSearch$Signs" m_SI_addStretch.1 m_SI_addStretch.1 ∈ xGT := x_in (i := 743) (w := .selects "PatternSearch$Signs" ⟨"PatternSearch$Signs", "addStretch", "(LPatternSearch$Signs;II)V"⟩ ⟨"PatternSearch$Signs", "addStretch", "(LPatternSearch$Signs;II)V"⟩) (by decide +kernel) rfl
set_option maxRecDepth 100000 in
theorem kc_PS_output : Cond.code m_PS_output.1 m_PS_output.2.1 m_PS_output.2.2.1 m_PS_output.2.2.2 ∈ xGT := List.mem_filter.mpr ⟨List.mem_of_getElem? (i := 750) (by rfl), rfl⟩
theorem kd_PS_output : m_PS_output.1.cls ≠ "java/lang/invoke/MethodHandle" ∧ m_PS_output.1.cls ≠ "java/lang/invoke/VarHandle" ∧ (parseMethodDescriptor m_PS_output.1.desc).map (fun d => d.parameters.length) = some 1 := by decide +kernel
theorem ki_PS_output : Cond.instanceMethod m_PS_output.1 ∈ xGT := x_in (i := 748) (w := .instanceMethod ⟨"PatternSearch", "output", "(I)I"⟩) (by decide +kernel) rfl
theorem ks_PS_output : Cond.selects "PatternSearch" m_PS_output.1 m_PS_output.1 ∈ xGT := x_in (i := 749) (w := .selects "PatternSearch" ⟨"PatternSearch", "output", "(I)I"⟩ ⟨"PatternSearch", "output", "(I)I"⟩) (by decide +kernel) rfl
set_option maxRecDepth 100000 in
theorem kc_PS_state : Cond.code m_PS_state.1 m_PS_state.2.1 m_PS_state.2.2.1 m_PS_state.2.2.2 ∈ xGT := List.mem_filter.mpr ⟨List.mem_of_getElem? (i := 755) (by rfl), rfl⟩
theorem kd_PS_state : m_PS_state.1.cls ≠ "java/lang/invoke/MethodHandle" ∧ m_PS_state.1.cls ≠ "java/lang/invoke/VarHandle" ∧ (parseMethodDescriptor m_PS_state.1.desc).map (fun d => d.parameters.length) = some 1 := by decide +kernel
theorem ki_PS_state : Cond.instanceMethod m_PS_state.1 ∈ xGT := x_in (i := 753) (w := .instanceMethod ⟨"PatternSearch", "state", "(I)I"⟩) (by decide +kernel) rfl
theorem ks_PS_state : Cond.selects "PatternSearch" m_PS_state.1 m_PS_state.1 ∈ xGT := x_in (i := 754) (w := .selects "PatternSearch" ⟨"PatternSearch", "state", "(I)I"⟩ ⟨"PatternSearch", "state", "(I)I"⟩) (by decide +kernel) rfl
set_option maxRecDepth 100000 in
theorem kc_MO_init : Cond.code m_MO_init.1 m_MO_init.2.1 m_MO_init.2.2.1 m_MO_init.2.2.2 ∈ xGT := List.mem_filter.mpr ⟨List.mem_of_getElem? (i := 760) (by rfl), rfl⟩
theorem kd_MO_init : m_MO_init.1.cls ≠ "java/lang/invoke/MethodHandle" ∧ m_MO_init.1.cls ≠ "java/lang/invoke/VarHandle" ∧ (parseMethodDescriptor m_MO_init.1.desc).map (fun d => d.parameters.length) = some 0 := by decide +kernel
theorem ki_MO_init : Cond.instanceMethod m_MO_init.1 ∈ xGT := x_in (i := 759) (w := .instanceMethod ⟨"PatternSearchModel", "<init>", "()V"⟩) (by decide +kernel) rfl
set_option maxRecDepth 100000 in
theorem kc_MO_pattern : Cond.code m_MO_pattern.1 m_MO_pattern.2.1 m_MO_pattern.2.2.1 m_MO_pattern.2.2.2 ∈ xGT := List.mem_filter.mpr ⟨List.mem_of_getElem? (i := 860) (by rfl), rfl⟩
theorem kd_MO_pattern : m_MO_pattern.1.cls ≠ "java/lang/invoke/MethodHandle" ∧ m_MO_pattern.1.cls ≠ "java/lang/invoke/VarHandle" ∧ (parseMethodDescriptor m_MO_pattern.1.desc).map (fun d => d.parameters.length) = some 1 := by decide +kernel
theorem ki_MO_pattern : Cond.instanceMethod m_MO_pattern.1 ∈ xGT := x_in (i := 858) (w := .instanceMethod ⟨"PatternSearchModel", "pattern", "(I)I"⟩) (by decide +kernel) rfl
theorem ks_MO_pattern : Cond.selects "PatternSearchModel" m_MO_pattern.1 m_MO_pattern.1 ∈ xGT := x_in (i := 859) (w := .selects "PatternSearchModel" ⟨"PatternSearchModel", "pattern", "(I)I"⟩ ⟨"PatternSearchModel", "pattern", "(I)I"⟩) (by decide +kernel) rfl
set_option maxRecDepth 100000 in
theorem kc_MO_newPattern : Cond.code m_MO_newPattern.1 m_MO_newPattern.2.1 m_MO_newPattern.2.2.1 m_MO_newPattern.2.2.2 ∈ xGT := List.mem_filter.mpr ⟨List.mem_of_getElem? (i := 864) (by rfl), rfl⟩
theorem kd_MO_newPattern : m_MO_newPattern.1.cls ≠ "java/lang/invoke/MethodHandle" ∧ m_MO_newPattern.1.cls ≠ "java/lang/invoke/VarHandle" ∧ (parseMethodDescriptor m_MO_newPattern.1.desc).map (fun d => d.parameters.length) = some 0 := by decide +kernel
theorem ki_MO_newPattern : Cond.instanceMethod m_MO_newPattern.1 ∈ xGT := x_in (i := 862) (w := .instanceMethod ⟨"PatternSearchModel", "newPattern", "()I"⟩) (by decide +kernel) rfl
theorem ks_MO_newPattern : Cond.selects "PatternSearchModel" m_MO_newPattern.1 m_MO_newPattern.1 ∈ xGT := x_in (i := 863) (w := .selects "PatternSearchModel" ⟨"PatternSearchModel", "newPattern", "()I"⟩ ⟨"PatternSearchModel", "newPattern", "()I"⟩) (by decide +kernel) rfl
set_option maxRecDepth 100000 in
theorem kc_MO_compile : Cond.code m_MO_compile.1 m_MO_compile.2.1 m_MO_compile.2.2.1 m_MO_compile.2.2.2 ∈ xGT := List.mem_filter.mpr ⟨List.mem_of_getElem? (i := 868) (by rfl), rfl⟩
theorem kd_MO_compile : m_MO_compile.1.cls ≠ "java/lang/invoke/MethodHandle" ∧ m_MO_compile.1.cls ≠ "java/lang/invoke/VarHandle" ∧ (parseMethodDescriptor m_MO_compile.1.desc).map (fun d => d.parameters.length) = some 0 := by decide +kernel
theorem ki_MO_compile : Cond.instanceMethod m_MO_compile.1 ∈ xGT := x_in (i := 866) (w := .instanceMethod ⟨"PatternSearchModel", "compile", "()I"⟩) (by decide +kernel) rfl
theorem ks_MO_compile : Cond.selects "PatternSearchModel" m_MO_compile.1 m_MO_compile.1 ∈ xGT := x_in (i := 867) (w := .selects "PatternSearchModel" ⟨"PatternSearchModel", "compile", "()I"⟩ ⟨"PatternSearchModel", "compile", "()I"⟩) (by decide +kernel) rfl
set_option maxRecDepth 100000 in
theorem kc_MO_check : Cond.code m_MO_check.1 m_MO_check.2.1 m_MO_check.2.2.1 m_MO_check.2.2.2 ∈ xGT := List.mem_filter.mpr ⟨List.mem_of_getElem? (i := 872) (by rfl), rfl⟩
theorem kd_MO_check : m_MO_check.1.cls ≠ "java/lang/invoke/MethodHandle" ∧ m_MO_check.1.cls ≠ "java/lang/invoke/VarHandle" ∧ (parseMethodDescriptor m_MO_check.1.desc).map (fun d => d.parameters.length) = some 0 := by decide +kernel
theorem ki_MO_check : Cond.instanceMethod m_MO_check.1 ∈ xGT := x_in (i := 871) (w := .instanceMethod ⟨"PatternSearchModel", "check", "()I"⟩) (by decide +kernel) rfl
theorem ks_MO_check : Cond.selects "PatternSearchModel" m_MO_check.1 m_MO_check.1 ∈ xGT := x_in (i := 31) (w := .selects "PatternSearchModel" ⟨"PatternSearchModel", "check", "()I"⟩ ⟨"PatternSearchModel", "check", "()I"⟩) (by decide +kernel) rfl
set_option maxRecDepth 100000 in
theorem kc_MO_openRow : Cond.code m_MO_openRow.1 m_MO_openRow.2.1 m_MO_openRow.2.2.1 m_MO_openRow.2.2.2 ∈ xGT := List.mem_filter.mpr ⟨List.mem_of_getElem? (i := 876) (by rfl), rfl⟩
theorem kd_MO_openRow : m_MO_openRow.1.cls ≠ "java/lang/invoke/MethodHandle" ∧ m_MO_openRow.1.cls ≠ "java/lang/invoke/VarHandle" ∧ (parseMethodDescriptor m_MO_openRow.1.desc).map (fun d => d.parameters.length) = some 1 := by decide +kernel
theorem ki_MO_openRow : Cond.instanceMethod m_MO_openRow.1 ∈ xGT := x_in (i := 875) (w := .instanceMethod ⟨"PatternSearchModel", "openRow", "(I)V"⟩) (by decide +kernel) rfl
theorem ks_MO_openRow : Cond.selects "PatternSearchModel" m_MO_openRow.1 m_MO_openRow.1 ∈ xGT := x_in (i := 32) (w := .selects "PatternSearchModel" ⟨"PatternSearchModel", "openRow", "(I)V"⟩ ⟨"PatternSearchModel", "openRow", "(I)V"⟩) (by decide +kernel) rfl
set_option maxRecDepth 100000 in
theorem kc_MO_at : Cond.code m_MO_at.1 m_MO_at.2.1 m_MO_at.2.2.1 m_MO_at.2.2.2 ∈ xGT := List.mem_filter.mpr ⟨List.mem_of_getElem? (i := 880) (by rfl), rfl⟩
theorem kd_MO_at : m_MO_at.1.cls ≠ "java/lang/invoke/MethodHandle" ∧ m_MO_at.1.cls ≠ "java/lang/invoke/VarHandle" ∧ (parseMethodDescriptor m_MO_at.1.desc).map (fun d => d.parameters.length) = some 1 := by decide +kernel
theorem ki_MO_at : Cond.instanceMethod m_MO_at.1 ∈ xGT := x_in (i := 879) (w := .instanceMethod ⟨"PatternSearchModel", "at", "(I)I"⟩) (by decide +kernel) rfl
theorem ks_MO_at : Cond.selects "PatternSearchModel" m_MO_at.1 m_MO_at.1 ∈ xGT := x_in (i := 33) (w := .selects "PatternSearchModel" ⟨"PatternSearchModel", "at", "(I)I"⟩ ⟨"PatternSearchModel", "at", "(I)I"⟩) (by decide +kernel) rfl
set_option maxRecDepth 100000 in
theorem kc_MO_is : Cond.code m_MO_is.1 m_MO_is.2.1 m_MO_is.2.2.1 m_MO_is.2.2.2 ∈ xGT := List.mem_filter.mpr ⟨List.mem_of_getElem? (i := 883) (by rfl), rfl⟩
theorem kd_MO_is : m_MO_is.1.cls ≠ "java/lang/invoke/MethodHandle" ∧ m_MO_is.1.cls ≠ "java/lang/invoke/VarHandle" ∧ (parseMethodDescriptor m_MO_is.1.desc).map (fun d => d.parameters.length) = some 5 := by decide +kernel
theorem ki_MO_is : Cond.static m_MO_is.1 ∈ xGT := x_in (i := 882) (w := .static ⟨"PatternSearchModel", "is", "(IIIII)Z"⟩) (by decide +kernel) rfl
set_option maxRecDepth 100000 in
theorem kc_MO_passRepetition : Cond.code m_MO_passRepetition.1 m_MO_passRepetition.2.1 m_MO_passRepetition.2.2.1 m_MO_passRepetition.2.2.2 ∈ xGT := List.mem_filter.mpr ⟨List.mem_of_getElem? (i := 887) (by rfl), rfl⟩
theorem kd_MO_passRepetition : m_MO_passRepetition.1.cls ≠ "java/lang/invoke/MethodHandle" ∧ m_MO_passRepetition.1.cls ≠ "java/lang/invoke/VarHandle" ∧ (parseMethodDescriptor m_MO_passRepetition.1.desc).map (fun d => d.parameters.length) = some 1 := by decide +kernel
theorem ki_MO_passRepetition : Cond.instanceMethod m_MO_passRepetition.1 ∈ xGT := x_in (i := 886) (w := .instanceMethod ⟨"PatternSearchModel", "passRepetition", "(I)I"⟩) (by decide +kernel) rfl
theorem ks_MO_passRepetition : Cond.selects "PatternSearchModel" m_MO_passRepetition.1 m_MO_passRepetition.1 ∈ xGT := x_in (i := 34) (w := .selects "PatternSearchModel" ⟨"PatternSearchModel", "passRepetition", "(I)I"⟩ ⟨"PatternSearchModel", "passRepetition", "(I)I"⟩) (by decide +kernel) rfl
set_option maxRecDepth 100000 in
theorem kc_MO_passBraces : Cond.code m_MO_passBraces.1 m_MO_passBraces.2.1 m_MO_passBraces.2.2.1 m_MO_passBraces.2.2.2 ∈ xGT := List.mem_filter.mpr ⟨List.mem_of_getElem? (i := 891) (by rfl), rfl⟩
theorem kd_MO_passBraces : m_MO_passBraces.1.cls ≠ "java/lang/invoke/MethodHandle" ∧ m_MO_passBraces.1.cls ≠ "java/lang/invoke/VarHandle" ∧ (parseMethodDescriptor m_MO_passBraces.1.desc).map (fun d => d.parameters.length) = some 1 := by decide +kernel
theorem ki_MO_passBraces : Cond.instanceMethod m_MO_passBraces.1 ∈ xGT := x_in (i := 890) (w := .instanceMethod ⟨"PatternSearchModel", "passBraces", "(I)I"⟩) (by decide +kernel) rfl
theorem ks_MO_passBraces : Cond.selects "PatternSearchModel" m_MO_passBraces.1 m_MO_passBraces.1 ∈ xGT := x_in (i := 35) (w := .selects "PatternSearchModel" ⟨"PatternSearchModel", "passBraces", "(I)I"⟩ ⟨"PatternSearchModel", "passBraces", "(I)I"⟩) (by decide +kernel) rfl
set_option maxRecDepth 100000 in
theorem kc_MO_repeat : Cond.code m_MO_repeat.1 m_MO_repeat.2.1 m_MO_repeat.2.2.1 m_MO_repeat.2.2.2 ∈ xGT := List.mem_filter.mpr ⟨List.mem_of_getElem? (i := 895) (by rfl), rfl⟩
theorem kd_MO_repeat : m_MO_repeat.1.cls ≠ "java/lang/invoke/MethodHandle" ∧ m_MO_repeat.1.cls ≠ "java/lang/invoke/VarHandle" ∧ (parseMethodDescriptor m_MO_repeat.1.desc).map (fun d => d.parameters.length) = some 4 := by decide +kernel
theorem ki_MO_repeat : Cond.instanceMethod m_MO_repeat.1 ∈ xGT := x_in (i := 894) (w := .instanceMethod ⟨"PatternSearchModel", "repeat", "(IIZZ)V"⟩) (by decide +kernel) rfl
theorem ks_MO_repeat : Cond.selects "PatternSearchModel" m_MO_repeat.1 m_MO_repeat.1 ∈ xGT := x_in (i := 36) (w := .selects "PatternSearchModel" ⟨"PatternSearchModel", "repeat", "(IIZZ)V"⟩ ⟨"PatternSearchModel", "repeat", "(IIZZ)V"⟩) (by decide +kernel) rfl
set_option maxRecDepth 100000 in
theorem kc_MO_least : Cond.code m_MO_least.1 m_MO_least.2.1 m_MO_least.2.2.1 m_MO_least.2.2.2 ∈ xGT := List.mem_filter.mpr ⟨List.mem_of_getElem? (i := 898) (by rfl), rfl⟩
theorem kd_MO_least : m_MO_least.1.cls ≠ "java/lang/invoke/MethodHandle" ∧ m_MO_least.1.cls ≠ "java/lang/invoke/VarHandle" ∧ (parseMethodDescriptor m_MO_least.1.desc).map (fun d => d.parameters.length) = some 1 := by decide +kernel
theorem ki_MO_least : Cond.static m_MO_least.1 ∈ xGT := x_in (i := 897) (w := .static ⟨"PatternSearchModel", "least", "(I)I"⟩) (by decide +kernel) rfl
set_option maxRecDepth 100000 in
theorem kc_MO_closePiece : Cond.code m_MO_closePiece.1 m_MO_closePiece.2.1 m_MO_closePiece.2.2.1 m_MO_closePiece.2.2.2 ∈ xGT := List.mem_filter.mpr ⟨List.mem_of_getElem? (i := 902) (by rfl), rfl⟩
theorem kd_MO_closePiece : m_MO_closePiece.1.cls ≠ "java/lang/invoke/MethodHandle" ∧ m_MO_closePiece.1.cls ≠ "java/lang/invoke/VarHandle" ∧ (parseMethodDescriptor m_MO_closePiece.1.desc).map (fun d => d.parameters.length) = some 1 := by decide +kernel
theorem ki_MO_closePiece : Cond.instanceMethod m_MO_closePiece.1 ∈ xGT := x_in (i := 901) (w := .instanceMethod ⟨"PatternSearchModel", "closePiece", "(I)V"⟩) (by decide +kernel) rfl
theorem ks_MO_closePiece : Cond.selects "PatternSearchModel" m_MO_closePiece.1 m_MO_closePiece.1 ∈ xGT := x_in (i := 37) (w := .selects "PatternSearchModel" ⟨"PatternSearchModel", "closePiece", "(I)V"⟩ ⟨"PatternSearchModel", "closePiece", "(I)V"⟩) (by decide +kernel) rfl
set_option maxRecDepth 100000 in
theorem kc_MO_plain : Cond.code m_MO_plain.1 m_MO_plain.2.1 m_MO_plain.2.2.1 m_MO_plain.2.2.2 ∈ xGT := List.mem_filter.mpr ⟨List.mem_of_getElem? (i := 905) (by rfl), rfl⟩
theorem kd_MO_plain : m_MO_plain.1.cls ≠ "java/lang/invoke/MethodHandle" ∧ m_MO_plain.1.cls ≠ "java/lang/invoke/VarHandle" ∧ (parseMethodDescriptor m_MO_plain.1.desc).map (fun d => d.parameters.length) = some 1 := by decide +kernel
theorem ki_MO_plain : Cond.static m_MO_plain.1 ∈ xGT := x_in (i := 904) (w := .static ⟨"PatternSearchModel", "plain", "(I)Z"⟩) (by decide +kernel) rfl
set_option maxRecDepth 100000 in
theorem kc_MO_passClass : Cond.code m_MO_passClass.1 m_MO_passClass.2.1 m_MO_passClass.2.2.1 m_MO_passClass.2.2.2 ∈ xGT := List.mem_filter.mpr ⟨List.mem_of_getElem? (i := 909) (by rfl), rfl⟩
theorem kd_MO_passClass : m_MO_passClass.1.cls ≠ "java/lang/invoke/MethodHandle" ∧ m_MO_passClass.1.cls ≠ "java/lang/invoke/VarHandle" ∧ (parseMethodDescriptor m_MO_passClass.1.desc).map (fun d => d.parameters.length) = some 1 := by decide +kernel
theorem ki_MO_passClass : Cond.instanceMethod m_MO_passClass.1 ∈ xGT := x_in (i := 908) (w := .instanceMethod ⟨"PatternSearchModel", "passClass", "(I)I"⟩) (by decide +kernel) rfl
theorem ks_MO_passClass : Cond.selects "PatternSearchModel" m_MO_passClass.1 m_MO_passClass.1 ∈ xGT := x_in (i := 38) (w := .selects "PatternSearchModel" ⟨"PatternSearchModel", "passClass", "(I)I"⟩ ⟨"PatternSearchModel", "passClass", "(I)I"⟩) (by decide +kernel) rfl
set_option maxRecDepth 100000 in
theorem kc_MO_inClass : Cond.code m_MO_inClass.1 m_MO_inClass.2.1 m_MO_inClass.2.2.1 m_MO_inClass.2.2.2 ∈ xGT := List.mem_filter.mpr ⟨List.mem_of_getElem? (i := 912) (by rfl), rfl⟩
theorem kd_MO_inClass : m_MO_inClass.1.cls ≠ "java/lang/invoke/MethodHandle" ∧ m_MO_inClass.1.cls ≠ "java/lang/invoke/VarHandle" ∧ (parseMethodDescriptor m_MO_inClass.1.desc).map (fun d => d.parameters.length) = some 1 := by decide +kernel
theorem ki_MO_inClass : Cond.static m_MO_inClass.1 ∈ xGT := x_in (i := 911) (w := .static ⟨"PatternSearchModel", "inClass", "(I)Z"⟩) (by decide +kernel) rfl
set_option maxRecDepth 100000 in
theorem kc_MO_write : Cond.code m_MO_write.1 m_MO_write.2.1 m_MO_write.2.2.1 m_MO_write.2.2.2 ∈ xGT := List.mem_filter.mpr ⟨List.mem_of_getElem? (i := 916) (by rfl), rfl⟩
theorem kd_MO_write : m_MO_write.1.cls ≠ "java/lang/invoke/MethodHandle" ∧ m_MO_write.1.cls ≠ "java/lang/invoke/VarHandle" ∧ (parseMethodDescriptor m_MO_write.1.desc).map (fun d => d.parameters.length) = some 0 := by decide +kernel
theorem ki_MO_write : Cond.instanceMethod m_MO_write.1 ∈ xGT := x_in (i := 915) (w := .instanceMethod ⟨"PatternSearchModel", "write", "()V"⟩) (by decide +kernel) rfl
theorem ks_MO_write : Cond.selects "PatternSearchModel" m_MO_write.1 m_MO_write.1 ∈ xGT := x_in (i := 39) (w := .selects "PatternSearchModel" ⟨"PatternSearchModel", "write", "()V"⟩ ⟨"PatternSearchModel", "write", "()V"⟩) (by decide +kernel) rfl
set_option maxRecDepth 100000 in
theorem kc_MO_open : Cond.code m_MO_open.1 m_MO_open.2.1 m_MO_open.2.2.1 m_MO_open.2.2.2 ∈ xGT := List.mem_filter.mpr ⟨List.mem_of_getElem? (i := 920) (by rfl), rfl⟩
theorem kd_MO_open : m_MO_open.1.cls ≠ "java/lang/invoke/MethodHandle" ∧ m_MO_open.1.cls ≠ "java/lang/invoke/VarHandle" ∧ (parseMethodDescriptor m_MO_open.1.desc).map (fun d => d.parameters.length) = some 2 := by decide +kernel
theorem ki_MO_open : Cond.instanceMethod m_MO_open.1 ∈ xGT := x_in (i := 919) (w := .instanceMethod ⟨"PatternSearchModel", "open", "(II)V"⟩) (by decide +kernel) rfl
theorem ks_MO_open : Cond.selects "PatternSearchModel" m_MO_open.1 m_MO_open.1 ∈ xGT := x_in (i := 40) (w := .selects "PatternSearchModel" ⟨"PatternSearchModel", "open", "(II)V"⟩ ⟨"PatternSearchModel", "open", "(II)V"⟩) (by decide +kernel) rfl
set_option maxRecDepth 100000 in
theorem kc_MO_add : Cond.code m_MO_add.1 m_MO_add.2.1 m_MO_add.2.2.1 m_MO_add.2.2.2 ∈ xGT := List.mem_filter.mpr ⟨List.mem_of_getElem? (i := 924) (by rfl), rfl⟩
theorem kd_MO_add : m_MO_add.1.cls ≠ "java/lang/invoke/MethodHandle" ∧ m_MO_add.1.cls ≠ "java/lang/invoke/VarHandle" ∧ (parseMethodDescriptor m_MO_add.1.desc).map (fun d => d.parameters.length) = some 3 := by decide +kernel
theorem ki_MO_add : Cond.instanceMethod m_MO_add.1 ∈ xGT := x_in (i := 923) (w := .instanceMethod ⟨"PatternSearchModel", "add", "(III)V"⟩) (by decide +kernel) rfl
theorem ks_MO_add : Cond.selects "PatternSearchModel" m_MO_add.1 m_MO_add.1 ∈ xGT := x_in (i := 41) (w := .selects "PatternSearchModel" ⟨"PatternSearchModel", "add", "(III)V"⟩ ⟨"PatternSearchModel", "add", "(III)V"⟩) (by decide +kernel) rfl
set_option maxRecDepth 100000 in
theorem kc_MO_writeRepetition : Cond.code m_MO_writeRepetition.1 m_MO_writeRepetition.2.1 m_MO_writeRepetition.2.2.1 m_MO_writeRepetition.2.2.2 ∈ xGT := List.mem_filter.mpr ⟨List.mem_of_getElem? (i := 928) (by rfl), rfl⟩
theorem kd_MO_writeRepetition : m_MO_writeRepetition.1.cls ≠ "java/lang/invoke/MethodHandle" ∧ m_MO_writeRepetition.1.cls ≠ "java/lang/invoke/VarHandle" ∧ (parseMethodDescriptor m_MO_writeRepetition.1.desc).map (fun d => d.parameters.length) = some 2 := by decide +kernel
theorem ki_MO_writeRepetition : Cond.instanceMethod m_MO_writeRepetition.1 ∈ xGT := x_in (i := 927) (w := .instanceMethod ⟨"PatternSearchModel", "writeRepetition", "(II)I"⟩) (by decide +kernel) rfl
theorem ks_MO_writeRepetition : Cond.selects "PatternSearchModel" m_MO_writeRepetition.1 m_MO_writeRepetition.1 ∈ xGT := x_in (i := 42) (w := .selects "PatternSearchModel" ⟨"PatternSearchModel", "writeRepetition", "(II)I"⟩ ⟨"PatternSearchModel", "writeRepetition", "(II)I"⟩) (by decide +kernel) rfl
set_option maxRecDepth 100000 in
theorem kc_MO_insert : Cond.code m_MO_insert.1 m_MO_insert.2.1 m_MO_insert.2.2.1 m_MO_insert.2.2.2 ∈ xGT := List.mem_filter.mpr ⟨List.mem_of_getElem? (i := 932) (by rfl), rfl⟩
theorem kd_MO_insert : m_MO_insert.1.cls ≠ "java/lang/invoke/MethodHandle" ∧ m_MO_insert.1.cls ≠ "java/lang/invoke/VarHandle" ∧ (parseMethodDescriptor m_MO_insert.1.desc).map (fun d => d.parameters.length) = some 3 := by decide +kernel
theorem ki_MO_insert : Cond.instanceMethod m_MO_insert.1 ∈ xGT := x_in (i := 931) (w := .instanceMethod ⟨"PatternSearchModel", "insert", "(III)V"⟩) (by decide +kernel) rfl
theorem ks_MO_insert : Cond.selects "PatternSearchModel" m_MO_insert.1 m_MO_insert.1 ∈ xGT := x_in (i := 43) (w := .selects "PatternSearchModel" ⟨"PatternSearchModel", "insert", "(III)V"⟩ ⟨"PatternSearchModel", "insert", "(III)V"⟩) (by decide +kernel) rfl
set_option maxRecDepth 100000 in
theorem kc_MO_times : Cond.code m_MO_times.1 m_MO_times.2.1 m_MO_times.2.2.1 m_MO_times.2.2.2 ∈ xGT := List.mem_filter.mpr ⟨List.mem_of_getElem? (i := 936) (by rfl), rfl⟩
theorem kd_MO_times : m_MO_times.1.cls ≠ "java/lang/invoke/MethodHandle" ∧ m_MO_times.1.cls ≠ "java/lang/invoke/VarHandle" ∧ (parseMethodDescriptor m_MO_times.1.desc).map (fun d => d.parameters.length) = some 4 := by decide +kernel
theorem ki_MO_times : Cond.instanceMethod m_MO_times.1 ∈ xGT := x_in (i := 935) (w := .instanceMethod ⟨"PatternSearchModel", "times", "(IIIZ)V"⟩) (by decide +kernel) rfl
theorem ks_MO_times : Cond.selects "PatternSearchModel" m_MO_times.1 m_MO_times.1 ∈ xGT := x_in (i := 44) (w := .selects "PatternSearchModel" ⟨"PatternSearchModel", "times", "(IIIZ)V"⟩ ⟨"PatternSearchModel", "times", "(IIIZ)V"⟩) (by decide +kernel) rfl
set_option maxRecDepth 100000 in
theorem kc_MO_copy : Cond.code m_MO_copy.1 m_MO_copy.2.1 m_MO_copy.2.2.1 m_MO_copy.2.2.2 ∈ xGT := List.mem_filter.mpr ⟨List.mem_of_getElem? (i := 940) (by rfl), rfl⟩
theorem kd_MO_copy : m_MO_copy.1.cls ≠ "java/lang/invoke/MethodHandle" ∧ m_MO_copy.1.cls ≠ "java/lang/invoke/VarHandle" ∧ (parseMethodDescriptor m_MO_copy.1.desc).map (fun d => d.parameters.length) = some 2 := by decide +kernel
theorem ki_MO_copy : Cond.instanceMethod m_MO_copy.1 ∈ xGT := x_in (i := 939) (w := .instanceMethod ⟨"PatternSearchModel", "copy", "(II)V"⟩) (by decide +kernel) rfl
theorem ks_MO_copy : Cond.selects "PatternSearchModel" m_MO_copy.1 m_MO_copy.1 ∈ xGT := x_in (i := 45) (w := .selects "PatternSearchModel" ⟨"PatternSearchModel", "copy", "(II)V"⟩ ⟨"PatternSearchModel", "copy", "(II)V"⟩) (by decide +kernel) rfl
set_option maxRecDepth 100000 in
theorem kc_MO_nextRow : Cond.code m_MO_nextRow.1 m_MO_nextRow.2.1 m_MO_nextRow.2.2.1 m_MO_nextRow.2.2.2 ∈ xGT := List.mem_filter.mpr ⟨List.mem_of_getElem? (i := 944) (by rfl), rfl⟩
theorem kd_MO_nextRow : m_MO_nextRow.1.cls ≠ "java/lang/invoke/MethodHandle" ∧ m_MO_nextRow.1.cls ≠ "java/lang/invoke/VarHandle" ∧ (parseMethodDescriptor m_MO_nextRow.1.desc).map (fun d => d.parameters.length) = some 1 := by decide +kernel
theorem ki_MO_nextRow : Cond.instanceMethod m_MO_nextRow.1 ∈ xGT := x_in (i := 943) (w := .instanceMethod ⟨"PatternSearchModel", "nextRow", "(I)V"⟩) (by decide +kernel) rfl
theorem ks_MO_nextRow : Cond.selects "PatternSearchModel" m_MO_nextRow.1 m_MO_nextRow.1 ∈ xGT := x_in (i := 46) (w := .selects "PatternSearchModel" ⟨"PatternSearchModel", "nextRow", "(I)V"⟩ ⟨"PatternSearchModel", "nextRow", "(I)V"⟩) (by decide +kernel) rfl
set_option maxRecDepth 100000 in
theorem kc_MO_close : Cond.code m_MO_close.1 m_MO_close.2.1 m_MO_close.2.2.1 m_MO_close.2.2.2 ∈ xGT := List.mem_filter.mpr ⟨List.mem_of_getElem? (i := 948) (by rfl), rfl⟩
theorem kd_MO_close : m_MO_close.1.cls ≠ "java/lang/invoke/MethodHandle" ∧ m_MO_close.1.cls ≠ "java/lang/invoke/VarHandle" ∧ (parseMethodDescriptor m_MO_close.1.desc).map (fun d => d.parameters.length) = some 1 := by decide +kernel
theorem ki_MO_close : Cond.instanceMethod m_MO_close.1 ∈ xGT := x_in (i := 947) (w := .instanceMethod ⟨"PatternSearchModel", "close", "(I)V"⟩) (by decide +kernel) rfl
theorem ks_MO_close : Cond.selects "PatternSearchModel" m_MO_close.1 m_MO_close.1 ∈ xGT := x_in (i := 47) (w := .selects "PatternSearchModel" ⟨"PatternSearchModel", "close", "(I)V"⟩ ⟨"PatternSearchModel", "close", "(I)V"⟩) (by decide +kernel) rfl
set_option maxRecDepth 100000 in
theorem kc_MO_fault : Cond.code m_MO_fault.1 m_MO_fault.2.1 m_MO_fault.2.2.1 m_MO_fault.2.2.2 ∈ xGT := List.mem_filter.mpr ⟨List.mem_of_getElem? (i := 952) (by rfl), rfl⟩
theorem kd_MO_fault : m_MO_fault.1.cls ≠ "java/lang/invoke/MethodHandle" ∧ m_MO_fault.1.cls ≠ "java/lang/invoke/VarHandle" ∧ (parseMethodDescriptor m_MO_fault.1.desc).map (fun d => d.parameters.length) = some 0 := by decide +kernel
theorem ki_MO_fault : Cond.instanceMethod m_MO_fault.1 ∈ xGT := x_in (i := 950) (w := .instanceMethod ⟨"PatternSearchModel", "fault", "()I"⟩) (by decide +kernel) rfl
theorem ks_MO_fault : Cond.selects "PatternSearchModel" m_MO_fault.1 m_MO_fault.1 ∈ xGT := x_in (i := 951) (w := .selects "PatternSearchModel" ⟨"PatternSearchModel", "fault", "()I"⟩ ⟨"PatternSearchModel", "fault", "()I"⟩) (by decide +kernel) rfl
set_option maxRecDepth 100000 in
theorem kc_MO_text : Cond.code m_MO_text.1 m_MO_text.2.1 m_MO_text.2.2.1 m_MO_text.2.2.2 ∈ xGT := List.mem_filter.mpr ⟨List.mem_of_getElem? (i := 956) (by rfl), rfl⟩
theorem kd_MO_text : m_MO_text.1.cls ≠ "java/lang/invoke/MethodHandle" ∧ m_MO_text.1.cls ≠ "java/lang/invoke/VarHandle" ∧ (parseMethodDescriptor m_MO_text.1.desc).map (fun d => d.parameters.length) = some 1 := by decide +kernel
theorem ki_MO_text : Cond.instanceMethod m_MO_text.1 ∈ xGT := x_in (i := 954) (w := .instanceMethod ⟨"PatternSearchModel", "text", "(I)I"⟩) (by decide +kernel) rfl
theorem ks_MO_text : Cond.selects "PatternSearchModel" m_MO_text.1 m_MO_text.1 ∈ xGT := x_in (i := 955) (w := .selects "PatternSearchModel" ⟨"PatternSearchModel", "text", "(I)I"⟩ ⟨"PatternSearchModel", "text", "(I)I"⟩) (by decide +kernel) rfl
set_option maxRecDepth 100000 in
theorem kc_MO_newText : Cond.code m_MO_newText.1 m_MO_newText.2.1 m_MO_newText.2.2.1 m_MO_newText.2.2.2 ∈ xGT := List.mem_filter.mpr ⟨List.mem_of_getElem? (i := 960) (by rfl), rfl⟩
theorem kd_MO_newText : m_MO_newText.1.cls ≠ "java/lang/invoke/MethodHandle" ∧ m_MO_newText.1.cls ≠ "java/lang/invoke/VarHandle" ∧ (parseMethodDescriptor m_MO_newText.1.desc).map (fun d => d.parameters.length) = some 0 := by decide +kernel
theorem ki_MO_newText : Cond.instanceMethod m_MO_newText.1 ∈ xGT := x_in (i := 958) (w := .instanceMethod ⟨"PatternSearchModel", "newText", "()I"⟩) (by decide +kernel) rfl
theorem ks_MO_newText : Cond.selects "PatternSearchModel" m_MO_newText.1 m_MO_newText.1 ∈ xGT := x_in (i := 959) (w := .selects "PatternSearchModel" ⟨"PatternSearchModel", "newText", "()I"⟩ ⟨"PatternSearchModel", "newText", "()I"⟩) (by decide +kernel) rfl
set_option maxRecDepth 100000 in
theorem kc_MO_find : Cond.code m_MO_find.1 m_MO_find.2.1 m_MO_find.2.2.1 m_MO_find.2.2.2 ∈ xGT := List.mem_filter.mpr ⟨List.mem_of_getElem? (i := 964) (by rfl), rfl⟩
theorem kd_MO_find : m_MO_find.1.cls ≠ "java/lang/invoke/MethodHandle" ∧ m_MO_find.1.cls ≠ "java/lang/invoke/VarHandle" ∧ (parseMethodDescriptor m_MO_find.1.desc).map (fun d => d.parameters.length) = some 1 := by decide +kernel
theorem ki_MO_find : Cond.instanceMethod m_MO_find.1 ∈ xGT := x_in (i := 962) (w := .instanceMethod ⟨"PatternSearchModel", "find", "(I)I"⟩) (by decide +kernel) rfl
theorem ks_MO_find : Cond.selects "PatternSearchModel" m_MO_find.1 m_MO_find.1 ∈ xGT := x_in (i := 963) (w := .selects "PatternSearchModel" ⟨"PatternSearchModel", "find", "(I)I"⟩ ⟨"PatternSearchModel", "find", "(I)I"⟩) (by decide +kernel) rfl
set_option maxRecDepth 100000 in
theorem kc_MO_search : Cond.code m_MO_search.1 m_MO_search.2.1 m_MO_search.2.2.1 m_MO_search.2.2.2 ∈ xGT := List.mem_filter.mpr ⟨List.mem_of_getElem? (i := 968) (by rfl), rfl⟩
theorem kd_MO_search : m_MO_search.1.cls ≠ "java/lang/invoke/MethodHandle" ∧ m_MO_search.1.cls ≠ "java/lang/invoke/VarHandle" ∧ (parseMethodDescriptor m_MO_search.1.desc).map (fun d => d.parameters.length) = some 1 := by decide +kernel
theorem ki_MO_search : Cond.instanceMethod m_MO_search.1 ∈ xGT := x_in (i := 967) (w := .instanceMethod ⟨"PatternSearchModel", "search", "(I)I"⟩) (by decide +kernel) rfl
theorem ks_MO_search : Cond.selects "PatternSearchModel" m_MO_search.1 m_MO_search.1 ∈ xGT := x_in (i := 48) (w := .selects "PatternSearchModel" ⟨"PatternSearchModel", "search", "(I)I"⟩ ⟨"PatternSearchModel", "search", "(I)I"⟩) (by decide +kernel) rfl
set_option maxRecDepth 100000 in
theorem kc_MO_way : Cond.code m_MO_way.1 m_MO_way.2.1 m_MO_way.2.2.1 m_MO_way.2.2.2 ∈ xGT := List.mem_filter.mpr ⟨List.mem_of_getElem? (i := 972) (by rfl), rfl⟩
theorem kd_MO_way : m_MO_way.1.cls ≠ "java/lang/invoke/MethodHandle" ∧ m_MO_way.1.cls ≠ "java/lang/invoke/VarHandle" ∧ (parseMethodDescriptor m_MO_way.1.desc).map (fun d => d.parameters.length) = some 2 := by decide +kernel
theorem ki_MO_way : Cond.instanceMethod m_MO_way.1 ∈ xGT := x_in (i := 971) (w := .instanceMethod ⟨"PatternSearchModel", "way", "(II)I"⟩) (by decide +kernel) rfl
theorem ks_MO_way : Cond.selects "PatternSearchModel" m_MO_way.1 m_MO_way.1 ∈ xGT := x_in (i := 49) (w := .selects "PatternSearchModel" ⟨"PatternSearchModel", "way", "(II)I"⟩ ⟨"PatternSearchModel", "way", "(II)I"⟩) (by decide +kernel) rfl
set_option maxRecDepth 100000 in
theorem kc_MO_takes : Cond.code m_MO_takes.1 m_MO_takes.2.1 m_MO_takes.2.2.1 m_MO_takes.2.2.2 ∈ xGT := List.mem_filter.mpr ⟨List.mem_of_getElem? (i := 976) (by rfl), rfl⟩
theorem kd_MO_takes : m_MO_takes.1.cls ≠ "java/lang/invoke/MethodHandle" ∧ m_MO_takes.1.cls ≠ "java/lang/invoke/VarHandle" ∧ (parseMethodDescriptor m_MO_takes.1.desc).map (fun d => d.parameters.length) = some 2 := by decide +kernel
theorem ki_MO_takes : Cond.instanceMethod m_MO_takes.1 ∈ xGT := x_in (i := 975) (w := .instanceMethod ⟨"PatternSearchModel", "takes", "(II)Z"⟩) (by decide +kernel) rfl
theorem ks_MO_takes : Cond.selects "PatternSearchModel" m_MO_takes.1 m_MO_takes.1 ∈ xGT := x_in (i := 50) (w := .selects "PatternSearchModel" ⟨"PatternSearchModel", "takes", "(II)Z"⟩ ⟨"PatternSearchModel", "takes", "(II)Z"⟩) (by decide +kernel) rfl
set_option maxRecDepth 100000 in
theorem kc_MO_ofClass : Cond.code m_MO_ofClass.1 m_MO_ofClass.2.1 m_MO_ofClass.2.2.1 m_MO_ofClass.2.2.2 ∈ xGT := List.mem_filter.mpr ⟨List.mem_of_getElem? (i := 980) (by rfl), rfl⟩
theorem kd_MO_ofClass : m_MO_ofClass.1.cls ≠ "java/lang/invoke/MethodHandle" ∧ m_MO_ofClass.1.cls ≠ "java/lang/invoke/VarHandle" ∧ (parseMethodDescriptor m_MO_ofClass.1.desc).map (fun d => d.parameters.length) = some 2 := by decide +kernel
theorem ki_MO_ofClass : Cond.instanceMethod m_MO_ofClass.1 ∈ xGT := x_in (i := 979) (w := .instanceMethod ⟨"PatternSearchModel", "ofClass", "(II)Z"⟩) (by decide +kernel) rfl
theorem ks_MO_ofClass : Cond.selects "PatternSearchModel" m_MO_ofClass.1 m_MO_ofClass.1 ∈ xGT := x_in (i := 51) (w := .selects "PatternSearchModel" ⟨"PatternSearchModel", "ofClass", "(II)Z"⟩ ⟨"PatternSearchModel", "ofClass", "(II)Z"⟩) (by decide +kernel) rfl
set_option maxRecDepth 100000 in
theorem kc_MO_group : Cond.code m_MO_group.1 m_MO_group.2.1 m_MO_group.2.2.1 m_MO_group.2.2.2 ∈ xGT := List.mem_filter.mpr ⟨List.mem_of_getElem? (i := 984) (by rfl), rfl⟩
theorem kd_MO_group : m_MO_group.1.cls ≠ "java/lang/invoke/MethodHandle" ∧ m_MO_group.1.cls ≠ "java/lang/invoke/VarHandle" ∧ (parseMethodDescriptor m_MO_group.1.desc).map (fun d => d.parameters.length) = some 2 := by decide +kernel
theorem ki_MO_group : Cond.instanceMethod m_MO_group.1 ∈ xGT := x_in (i := 982) (w := .instanceMethod ⟨"PatternSearchModel", "group", "(IZ)I"⟩) (by decide +kernel) rfl
theorem ks_MO_group : Cond.selects "PatternSearchModel" m_MO_group.1 m_MO_group.1 ∈ xGT := x_in (i := 983) (w := .selects "PatternSearchModel" ⟨"PatternSearchModel", "group", "(IZ)I"⟩ ⟨"PatternSearchModel", "group", "(IZ)I"⟩) (by decide +kernel) rfl
set_option maxRecDepth 100000 in
theorem kc_MO_whole : Cond.code m_MO_whole.1 m_MO_whole.2.1 m_MO_whole.2.2.1 m_MO_whole.2.2.2 ∈ xGT := List.mem_filter.mpr ⟨List.mem_of_getElem? (i := 988) (by rfl), rfl⟩
theorem kd_MO_whole : m_MO_whole.1.cls ≠ "java/lang/invoke/MethodHandle" ∧ m_MO_whole.1.cls ≠ "java/lang/invoke/VarHandle" ∧ (parseMethodDescriptor m_MO_whole.1.desc).map (fun d => d.parameters.length) = some 2 := by decide +kernel
theorem ki_MO_whole : Cond.instanceMethod m_MO_whole.1 ∈ xGT := x_in (i := 986) (w := .instanceMethod ⟨"PatternSearchModel", "whole", "(II)I"⟩) (by decide +kernel) rfl
theorem ks_MO_whole : Cond.selects "PatternSearchModel" m_MO_whole.1 m_MO_whole.1 ∈ xGT := x_in (i := 987) (w := .selects "PatternSearchModel" ⟨"PatternSearchModel", "whole", "(II)I"⟩ ⟨"PatternSearchModel", "whole", "(II)I"⟩) (by decide +kernel) rfl
set_option maxRecDepth 100000 in
theorem kc_MO_matches : Cond.code m_MO_matches.1 m_MO_matches.2.1 m_MO_matches.2.2.1 m_MO_matches.2.2.2 ∈ xGT := List.mem_filter.mpr ⟨List.mem_of_getElem? (i := 992) (by rfl), rfl⟩
theorem kd_MO_matches : m_MO_matches.1.cls ≠ "java/lang/invoke/MethodHandle" ∧ m_MO_matches.1.cls ≠ "java/lang/invoke/VarHandle" ∧ (parseMethodDescriptor m_MO_matches.1.desc).map (fun d => d.parameters.length) = some 0 := by decide +kernel
theorem ki_MO_matches : Cond.instanceMethod m_MO_matches.1 ∈ xGT := x_in (i := 990) (w := .instanceMethod ⟨"PatternSearchModel", "matches", "()I"⟩) (by decide +kernel) rfl
theorem ks_MO_matches : Cond.selects "PatternSearchModel" m_MO_matches.1 m_MO_matches.1 ∈ xGT := x_in (i := 991) (w := .selects "PatternSearchModel" ⟨"PatternSearchModel", "matches", "()I"⟩ ⟨"PatternSearchModel", "matches", "()I"⟩) (by decide +kernel) rfl
set_option maxRecDepth 100000 in
theorem kc_MO_replace : Cond.code m_MO_replace.1 m_MO_replace.2.1 m_MO_replace.2.2.1 m_MO_replace.2.2.2 ∈ xGT := List.mem_filter.mpr ⟨List.mem_of_getElem? (i := 996) (by rfl), rfl⟩
theorem kd_MO_replace : m_MO_replace.1.cls ≠ "java/lang/invoke/MethodHandle" ∧ m_MO_replace.1.cls ≠ "java/lang/invoke/VarHandle" ∧ (parseMethodDescriptor m_MO_replace.1.desc).map (fun d => d.parameters.length) = some 1 := by decide +kernel
theorem ki_MO_replace : Cond.instanceMethod m_MO_replace.1 ∈ xGT := x_in (i := 994) (w := .instanceMethod ⟨"PatternSearchModel", "replace", "(I)I"⟩) (by decide +kernel) rfl
theorem ks_MO_replace : Cond.selects "PatternSearchModel" m_MO_replace.1 m_MO_replace.1 ∈ xGT := x_in (i := 995) (w := .selects "PatternSearchModel" ⟨"PatternSearchModel", "replace", "(I)I"⟩ ⟨"PatternSearchModel", "replace", "(I)I"⟩) (by decide +kernel) rfl
set_option maxRecDepth 100000 in
theorem kc_MO_put : Cond.code m_MO_put.1 m_MO_put.2.1 m_MO_put.2.2.1 m_MO_put.2.2.2 ∈ xGT := List.mem_filter.mpr ⟨List.mem_of_getElem? (i := 1000) (by rfl), rfl⟩
theorem kd_MO_put : m_MO_put.1.cls ≠ "java/lang/invoke/MethodHandle" ∧ m_MO_put.1.cls ≠ "java/lang/invoke/VarHandle" ∧ (parseMethodDescriptor m_MO_put.1.desc).map (fun d => d.parameters.length) = some 2 := by decide +kernel
theorem ki_MO_put : Cond.instanceMethod m_MO_put.1 ∈ xGT := x_in (i := 999) (w := .instanceMethod ⟨"PatternSearchModel", "put", "(II)V"⟩) (by decide +kernel) rfl
theorem ks_MO_put : Cond.selects "PatternSearchModel" m_MO_put.1 m_MO_put.1 ∈ xGT := x_in (i := 52) (w := .selects "PatternSearchModel" ⟨"PatternSearchModel", "put", "(II)V"⟩ ⟨"PatternSearchModel", "put", "(II)V"⟩) (by decide +kernel) rfl
set_option maxRecDepth 100000 in
theorem kc_MO_output : Cond.code m_MO_output.1 m_MO_output.2.1 m_MO_output.2.2.1 m_MO_output.2.2.2 ∈ xGT := List.mem_filter.mpr ⟨List.mem_of_getElem? (i := 1004) (by rfl), rfl⟩
theorem kd_MO_output : m_MO_output.1.cls ≠ "java/lang/invoke/MethodHandle" ∧ m_MO_output.1.cls ≠ "java/lang/invoke/VarHandle" ∧ (parseMethodDescriptor m_MO_output.1.desc).map (fun d => d.parameters.length) = some 1 := by decide +kernel
theorem ki_MO_output : Cond.instanceMethod m_MO_output.1 ∈ xGT := x_in (i := 1002) (w := .instanceMethod ⟨"PatternSearchModel", "output", "(I)I"⟩) (by decide +kernel) rfl
theorem ks_MO_output : Cond.selects "PatternSearchModel" m_MO_output.1 m_MO_output.1 ∈ xGT := x_in (i := 1003) (w := .selects "PatternSearchModel" ⟨"PatternSearchModel", "output", "(I)I"⟩ ⟨"PatternSearchModel", "output", "(I)I"⟩) (by decide +kernel) rfl
set_option maxRecDepth 100000 in
theorem kc_MO_state : Cond.code m_MO_state.1 m_MO_state.2.1 m_MO_state.2.2.1 m_MO_state.2.2.2 ∈ xGT := List.mem_filter.mpr ⟨List.mem_of_getElem? (i := 1008) (by rfl), rfl⟩
theorem kd_MO_state : m_MO_state.1.cls ≠ "java/lang/invoke/MethodHandle" ∧ m_MO_state.1.cls ≠ "java/lang/invoke/VarHandle" ∧ (parseMethodDescriptor m_MO_state.1.desc).map (fun d => d.parameters.length) = some 1 := by decide +kernel
theorem ki_MO_state : Cond.instanceMethod m_MO_state.1 ∈ xGT := x_in (i := 1006) (w := .instanceMethod ⟨"PatternSearchModel", "state", "(I)I"⟩) (by decide +kernel) rfl
theorem ks_MO_state : Cond.selects "PatternSearchModel" m_MO_state.1 m_MO_state.1 ∈ xGT := x_in (i := 1007) (w := .selects "PatternSearchModel" ⟨"PatternSearchModel", "state", "(I)I"⟩ ⟨"PatternSearchModel", "state", "(I)I"⟩) (by decide +kernel) rfl
theorem xg_AT : xG xT_AT 5 xt_AT := ⟨xo_AT, xn_AT⟩
theorem xg_BO : xG xT_BO 1 xt_BO := ⟨xo_BO, xn_BO⟩
theorem xg_CH : xG xT_CH 3 xt_CH := ⟨xo_CH, xn_CH⟩
theorem xg_MA : xG xT_MA 4 xt_MA := ⟨xo_MA, xn_MA⟩
theorem xg_PI : xG xT_PI 6 xt_PI := ⟨xo_PI, xn_PI⟩
theorem xg_PR : xG xT_PR 8 xt_PR := ⟨xo_PR, xn_PR⟩
theorem xg_RE : xG xT_RE 5 xt_RE := ⟨xo_RE, xn_RE⟩
theorem xg_RO : xG xT_RO 4 xt_RO := ⟨xo_RO, xn_RO⟩
theorem xg_SI : xG xT_SI 2 xt_SI := ⟨xo_SI, xn_SI⟩
theorem xg_PS : xG xT_PS 8 xt_PS := ⟨xo_PS, xn_PS⟩
theorem xg_MO : xG xT_MO 31 xt_MO := ⟨xo_MO, xn_MO⟩
theorem xf_PS_14 : xF "PatternSearch" 14 9 0 "PatternSearch" xT_PS 8 := ⟨rfl, by decide, xi_PS, Or.inl (x_in (i := 164) (by decide +kernel) rfl)⟩
theorem xf_PS_18 : xF "PatternSearch" 18 9 1 "PatternSearch" xT_PS 8 := ⟨rfl, by decide, xi_PS, Or.inl (x_in (i := 165) (by decide +kernel) rfl)⟩
theorem xf_PS_21 : xF "PatternSearch" 21 9 2 "PatternSearch" xT_PS 8 := ⟨rfl, by decide, xi_PS, Or.inl (x_in (i := 166) (by decide +kernel) rfl)⟩
theorem xf_PS_27 : xF "PatternSearch" 27 9 3 "PatternSearch" xT_PS 8 := ⟨rfl, by decide, xi_PS, Or.inl (x_in (i := 167) (by decide +kernel) rfl)⟩
theorem xf_PS_34 : xF "PatternSearch" 34 9 4 "PatternSearch" xT_PS 8 := ⟨rfl, by decide, xi_PS, Or.inl (x_in (i := 168) (by decide +kernel) rfl)⟩
theorem xf_PS_38 : xF "PatternSearch" 38 9 5 "PatternSearch" xT_PS 8 := ⟨rfl, by decide, xi_PS, Or.inl (x_in (i := 169) (by decide +kernel) rfl)⟩
theorem xf_PS_41 : xF "PatternSearch" 41 9 6 "PatternSearch" xT_PS 8 := ⟨rfl, by decide, xi_PS, Or.inl (x_in (i := 170) (by decide +kernel) rfl)⟩
theorem xf_PS_45 : xF "PatternSearch" 45 9 7 "PatternSearch" xT_PS 8 := ⟨rfl, by decide, xi_PS, Or.inl (x_in (i := 171) (by decide +kernel) rfl)⟩
theorem xf_AT_7 : xF "PatternSearch$Atom" 7 0 0 "PatternSearch$Atom" xT_AT 5 := ⟨rfl, by decide, xi_AT, Or.inl (x_in (i := 414) (by decide +kernel) rfl)⟩
theorem xf_AT_13 : xF "PatternSearch$Atom" 13 0 1 "PatternSearch$Atom" xT_AT 5 := ⟨rfl, by decide, xi_AT, Or.inl (x_in (i := 416) (by decide +kernel) rfl)⟩
theorem xf_AT_17 : xF "PatternSearch$Atom" 17 0 2 "PatternSearch$Atom" xT_AT 5 := ⟨rfl, by decide, xi_AT, Or.inl (x_in (i := 418) (by decide +kernel) rfl)⟩
theorem xf_AT_22 : xF "PatternSearch$Atom" 22 0 3 "PatternSearch$Atom" xT_AT 5 := ⟨rfl, by decide, xi_AT, Or.inl (x_in (i := 420) (by decide +kernel) rfl)⟩
theorem xf_AT_25 : xF "PatternSearch$Atom" 25 0 4 "PatternSearch$Atom" xT_AT 5 := ⟨rfl, by decide, xi_AT, Or.inl (x_in (i := 422) (by decide +kernel) rfl)⟩
theorem xf_BO_9 : xF "PatternSearch$Bounds" 9 1 0 "PatternSearch$Bounds" xT_BO 1 := ⟨rfl, by decide, xi_BO, Or.inl (x_in (i := 160) (by decide +kernel) rfl)⟩
theorem xf_CH_7 : xF "PatternSearch$Choice" 7 2 1 "PatternSearch$Choice" xT_CH 3 := ⟨rfl, by decide, xi_CH, Or.inl (x_in (i := 255) (by decide +kernel) rfl)⟩
theorem xf_CH_13 : xF "PatternSearch$Choice" 13 7 2 "PatternSearch$Row" xT_RO 4 := ⟨rfl, by decide, xi_RO, Or.inr ⟨"PatternSearch", List.mem_of_getElem? (i := 279) (by decide +kernel)⟩⟩
theorem xf_CH_16 : xF "PatternSearch$Choice" 16 2 0 "PatternSearch$Choice" xT_CH 3 := ⟨rfl, by decide, xi_CH, Or.inl (x_in (i := 253) (by decide +kernel) rfl)⟩
theorem xf_CH_20 : xF "PatternSearch$Choice" 20 2 2 "PatternSearch$Choice" xT_CH 3 := ⟨rfl, by decide, xi_CH, Or.inl (x_in (i := 256) (by decide +kernel) rfl)⟩
theorem xf_CH_24 : xF "PatternSearch$Choice" 24 7 3 "PatternSearch$Row" xT_RO 4 := ⟨rfl, by decide, xi_RO, Or.inr ⟨"PatternSearch", List.mem_of_getElem? (i := 281) (by decide +kernel)⟩⟩
theorem xf_CH_27 : xF "PatternSearch$Choice" 27 7 0 "PatternSearch$Row" xT_RO 4 := ⟨rfl, by decide, xi_RO, Or.inr ⟨"PatternSearch", List.mem_of_getElem? (i := 274) (by decide +kernel)⟩⟩
theorem xf_MA_12 : xF "PatternSearch$Matcher" 12 3 0 "PatternSearch$Matcher" xT_MA 4 := ⟨rfl, by decide, xi_MA, Or.inl (x_in (i := 138) (by decide +kernel) rfl)⟩
theorem xf_MA_18 : xF "PatternSearch$Matcher" 18 3 1 "PatternSearch$Matcher" xT_MA 4 := ⟨rfl, by decide, xi_MA, Or.inl (x_in (i := 139) (by decide +kernel) rfl)⟩
theorem xf_MA_22 : xF "PatternSearch$Matcher" 22 3 2 "PatternSearch$Matcher" xT_MA 4 := ⟨rfl, by decide, xi_MA, Or.inl (x_in (i := 140) (by decide +kernel) rfl)⟩
theorem xf_MA_33 : xF "PatternSearch$Matcher" 33 5 7 "PatternSearch$Program" xT_PR 8 := ⟨rfl, by decide, xi_PR, Or.inr ⟨"PatternSearch", List.mem_of_getElem? (i := 119) (by decide +kernel)⟩⟩
theorem xf_MA_46 : xF "PatternSearch$Matcher" 46 3 3 "PatternSearch$Matcher" xT_MA 4 := ⟨rfl, by decide, xi_MA, Or.inl (x_in (i := 141) (by decide +kernel) rfl)⟩
theorem xf_MA_62 : xF "PatternSearch$Matcher" 62 5 6 "PatternSearch$Program" xT_PR 8 := ⟨rfl, by decide, xi_PR, Or.inr ⟨"PatternSearch", List.mem_of_getElem? (i := 117) (by decide +kernel)⟩⟩
theorem xf_MA_65 : xF "PatternSearch$Matcher" 65 5 0 "PatternSearch$Program" xT_PR 8 := ⟨rfl, by decide, xi_PR, Or.inr ⟨"PatternSearch", List.mem_of_getElem? (i := 107) (by decide +kernel)⟩⟩
theorem xf_MA_86 : xF "PatternSearch$Matcher" 86 5 1 "PatternSearch$Program" xT_PR 8 := ⟨rfl, by decide, xi_PR, Or.inr ⟨"PatternSearch", List.mem_of_getElem? (i := 109) (by decide +kernel)⟩⟩
theorem xf_MA_89 : xF "PatternSearch$Matcher" 89 5 2 "PatternSearch$Program" xT_PR 8 := ⟨rfl, by decide, xi_PR, Or.inr ⟨"PatternSearch", List.mem_of_getElem? (i := 111) (by decide +kernel)⟩⟩
theorem xf_MA_92 : xF "PatternSearch$Matcher" 92 5 3 "PatternSearch$Program" xT_PR 8 := ⟨rfl, by decide, xi_PR, Or.inr ⟨"PatternSearch", List.mem_of_getElem? (i := 113) (by decide +kernel)⟩⟩
theorem xf_PI_7 : xF "PatternSearch$Piece" 7 4 2 "PatternSearch$Piece" xT_PI 6 := ⟨rfl, by decide, xi_PI, Or.inl (x_in (i := 485) (by decide +kernel) rfl)⟩
theorem xf_PI_13 : xF "PatternSearch$Piece" 13 4 3 "PatternSearch$Piece" xT_PI 6 := ⟨rfl, by decide, xi_PI, Or.inl (x_in (i := 487) (by decide +kernel) rfl)⟩
theorem xf_PI_16 : xF "PatternSearch$Piece" 16 4 0 "PatternSearch$Piece" xT_PI 6 := ⟨rfl, by decide, xi_PI, Or.inl (x_in (i := 481) (by decide +kernel) rfl)⟩
theorem xf_PI_20 : xF "PatternSearch$Piece" 20 4 4 "PatternSearch$Piece" xT_PI 6 := ⟨rfl, by decide, xi_PI, Or.inl (x_in (i := 489) (by decide +kernel) rfl)⟩
theorem xf_PR_11 : xF "PatternSearch$Program" 11 5 0 "PatternSearch$Program" xT_PR 8 := ⟨rfl, by decide, xi_PR, Or.inl (x_in (i := 106) (by decide +kernel) rfl)⟩
theorem xf_PR_15 : xF "PatternSearch$Program" 15 5 1 "PatternSearch$Program" xT_PR 8 := ⟨rfl, by decide, xi_PR, Or.inl (x_in (i := 108) (by decide +kernel) rfl)⟩
theorem xf_PR_18 : xF "PatternSearch$Program" 18 5 2 "PatternSearch$Program" xT_PR 8 := ⟨rfl, by decide, xi_PR, Or.inl (x_in (i := 110) (by decide +kernel) rfl)⟩
theorem xf_PR_21 : xF "PatternSearch$Program" 21 5 3 "PatternSearch$Program" xT_PR 8 := ⟨rfl, by decide, xi_PR, Or.inl (x_in (i := 112) (by decide +kernel) rfl)⟩
theorem xf_PR_24 : xF "PatternSearch$Program" 24 5 4 "PatternSearch$Program" xT_PR 8 := ⟨rfl, by decide, xi_PR, Or.inl (x_in (i := 114) (by decide +kernel) rfl)⟩
theorem xf_PR_28 : xF "PatternSearch$Program" 28 5 5 "PatternSearch$Program" xT_PR 8 := ⟨rfl, by decide, xi_PR, Or.inl (x_in (i := 115) (by decide +kernel) rfl)⟩
theorem xf_PR_31 : xF "PatternSearch$Program" 31 5 6 "PatternSearch$Program" xT_PR 8 := ⟨rfl, by decide, xi_PR, Or.inl (x_in (i := 116) (by decide +kernel) rfl)⟩
theorem xf_PR_43 : xF "PatternSearch$Program" 43 5 7 "PatternSearch$Program" xT_PR 8 := ⟨rfl, by decide, xi_PR, Or.inl (x_in (i := 118) (by decide +kernel) rfl)⟩
theorem xf_PR_46 : xF "PatternSearch$Program" 46 2 0 "PatternSearch$Choice" xT_CH 3 := ⟨rfl, by decide, xi_CH, Or.inr ⟨"PatternSearch", List.mem_of_getElem? (i := 254) (by decide +kernel)⟩⟩
theorem xf_PR_59 : xF "PatternSearch$Program" 59 7 0 "PatternSearch$Row" xT_RO 4 := ⟨rfl, by decide, xi_RO, Or.inr ⟨"PatternSearch", List.mem_of_getElem? (i := 275) (by decide +kernel)⟩⟩
theorem xf_PR_64 : xF "PatternSearch$Program" 64 7 1 "PatternSearch$Row" xT_RO 4 := ⟨rfl, by decide, xi_RO, Or.inr ⟨"PatternSearch", List.mem_of_getElem? (i := 277) (by decide +kernel)⟩⟩
theorem xf_PR_68 : xF "PatternSearch$Program" 68 4 4 "PatternSearch$Piece" xT_PI 6 := ⟨rfl, by decide, xi_PI, Or.inr ⟨"PatternSearch", List.mem_of_getElem? (i := 490) (by decide +kernel)⟩⟩
theorem xf_PR_81 : xF "PatternSearch$Program" 81 4 1 "PatternSearch$Piece" xT_PI 6 := ⟨rfl, by decide, xi_PI, Or.inr ⟨"PatternSearch", List.mem_of_getElem? (i := 484) (by decide +kernel)⟩⟩
theorem xf_PR_83 : xF "PatternSearch$Program" 83 4 0 "PatternSearch$Piece" xT_PI 6 := ⟨rfl, by decide, xi_PI, Or.inr ⟨"PatternSearch", List.mem_of_getElem? (i := 482) (by decide +kernel)⟩⟩
theorem xf_PR_91 : xF "PatternSearch$Program" 91 4 5 "PatternSearch$Piece" xT_PI 6 := ⟨rfl, by decide, xi_PI, Or.inr ⟨"PatternSearch", List.mem_of_getElem? (i := 491) (by decide +kernel)⟩⟩
theorem xf_PR_94 : xF "PatternSearch$Program" 94 4 2 "PatternSearch$Piece" xT_PI 6 := ⟨rfl, by decide, xi_PI, Or.inr ⟨"PatternSearch", List.mem_of_getElem? (i := 486) (by decide +kernel)⟩⟩
theorem xf_PR_97 : xF "PatternSearch$Program" 97 4 3 "PatternSearch$Piece" xT_PI 6 := ⟨rfl, by decide, xi_PI, Or.inr ⟨"PatternSearch", List.mem_of_getElem? (i := 488) (by decide +kernel)⟩⟩
theorem xf_PR_100 : xF "PatternSearch$Program" 100 0 4 "PatternSearch$Atom" xT_AT 5 := ⟨rfl, by decide, xi_AT, Or.inr ⟨"PatternSearch", List.mem_of_getElem? (i := 423) (by decide +kernel)⟩⟩
theorem xf_PR_109 : xF "PatternSearch$Program" 109 0 0 "PatternSearch$Atom" xT_AT 5 := ⟨rfl, by decide, xi_AT, Or.inr ⟨"PatternSearch", List.mem_of_getElem? (i := 415) (by decide +kernel)⟩⟩
theorem xf_PR_112 : xF "PatternSearch$Program" 112 0 1 "PatternSearch$Atom" xT_AT 5 := ⟨rfl, by decide, xi_AT, Or.inr ⟨"PatternSearch", List.mem_of_getElem? (i := 417) (by decide +kernel)⟩⟩
theorem xf_PR_116 : xF "PatternSearch$Program" 116 0 2 "PatternSearch$Atom" xT_AT 5 := ⟨rfl, by decide, xi_AT, Or.inr ⟨"PatternSearch", List.mem_of_getElem? (i := 419) (by decide +kernel)⟩⟩
theorem xf_PR_119 : xF "PatternSearch$Program" 119 0 3 "PatternSearch$Atom" xT_AT 5 := ⟨rfl, by decide, xi_AT, Or.inr ⟨"PatternSearch", List.mem_of_getElem? (i := 421) (by decide +kernel)⟩⟩
theorem xf_RE_9 : xF "PatternSearch$Reader" 9 6 0 "PatternSearch$Reader" xT_RE 5 := ⟨rfl, by decide, xi_RE, Or.inl (x_in (i := 227) (by decide +kernel) rfl)⟩
theorem xf_RE_15 : xF "PatternSearch$Reader" 15 6 4 "PatternSearch$Reader" xT_RE 5 := ⟨rfl, by decide, xi_RE, Or.inl (x_in (i := 231) (by decide +kernel) rfl)⟩
theorem xf_RE_19 : xF "PatternSearch$Reader" 19 6 1 "PatternSearch$Reader" xT_RE 5 := ⟨rfl, by decide, xi_RE, Or.inl (x_in (i := 228) (by decide +kernel) rfl)⟩
theorem xf_RE_29 : xF "PatternSearch$Reader" 29 6 3 "PatternSearch$Reader" xT_RE 5 := ⟨rfl, by decide, xi_RE, Or.inl (x_in (i := 230) (by decide +kernel) rfl)⟩
theorem xf_RE_32 : xF "PatternSearch$Reader" 32 6 2 "PatternSearch$Reader" xT_RE 5 := ⟨rfl, by decide, xi_RE, Or.inl (x_in (i := 229) (by decide +kernel) rfl)⟩
theorem xf_RE_79 : xF "PatternSearch$Reader" 79 4 5 "PatternSearch$Piece" xT_PI 6 := ⟨rfl, by decide, xi_PI, Or.inr ⟨"PatternSearch", List.mem_of_getElem? (i := 492) (by decide +kernel)⟩⟩
theorem xf_RO_7 : xF "PatternSearch$Row" 7 7 3 "PatternSearch$Row" xT_RO 4 := ⟨rfl, by decide, xi_RO, Or.inl (x_in (i := 280) (by decide +kernel) rfl)⟩
theorem xf_RO_13 : xF "PatternSearch$Row" 13 7 2 "PatternSearch$Row" xT_RO 4 := ⟨rfl, by decide, xi_RO, Or.inl (x_in (i := 278) (by decide +kernel) rfl)⟩
theorem xf_RO_25 : xF "PatternSearch$Row" 25 7 1 "PatternSearch$Row" xT_RO 4 := ⟨rfl, by decide, xi_RO, Or.inl (x_in (i := 276) (by decide +kernel) rfl)⟩
theorem xf_RO_29 : xF "PatternSearch$Row" 29 4 1 "PatternSearch$Piece" xT_PI 6 := ⟨rfl, by decide, xi_PI, Or.inr ⟨"PatternSearch", List.mem_of_getElem? (i := 483) (by decide +kernel)⟩⟩
theorem xf_SI_9 : xF "PatternSearch$Signs" 9 8 0 "PatternSearch$Signs" xT_SI 2 := ⟨rfl, by decide, xi_SI, Or.inl (x_in (i := 86) (by decide +kernel) rfl)⟩
theorem xf_SI_15 : xF "PatternSearch$Signs" 15 8 1 "PatternSearch$Signs" xT_SI 2 := ⟨rfl, by decide, xi_SI, Or.inl (x_in (i := 87) (by decide +kernel) rfl)⟩
theorem xf_MO_7 : xF "PatternSearchModel" 7 10 0 "PatternSearchModel" xT_MO 31 := ⟨rfl, by decide, xi_MO, Or.inl (x_in (i := 762) (by decide +kernel) rfl)⟩
theorem xf_MO_13 : xF "PatternSearchModel" 13 10 2 "PatternSearchModel" xT_MO 31 := ⟨rfl, by decide, xi_MO, Or.inl (x_in (i := 764) (by decide +kernel) rfl)⟩
theorem xf_MO_16 : xF "PatternSearchModel" 16 10 4 "PatternSearchModel" xT_MO 31 := ⟨rfl, by decide, xi_MO, Or.inl (x_in (i := 766) (by decide +kernel) rfl)⟩
theorem xf_MO_19 : xF "PatternSearchModel" 19 10 8 "PatternSearchModel" xT_MO 31 := ⟨rfl, by decide, xi_MO, Or.inl (x_in (i := 770) (by decide +kernel) rfl)⟩
theorem xf_MO_22 : xF "PatternSearchModel" 22 10 9 "PatternSearchModel" xT_MO 31 := ⟨rfl, by decide, xi_MO, Or.inl (x_in (i := 771) (by decide +kernel) rfl)⟩
theorem xf_MO_25 : xF "PatternSearchModel" 25 10 10 "PatternSearchModel" xT_MO 31 := ⟨rfl, by decide, xi_MO, Or.inl (x_in (i := 772) (by decide +kernel) rfl)⟩
theorem xf_MO_28 : xF "PatternSearchModel" 28 10 11 "PatternSearchModel" xT_MO 31 := ⟨rfl, by decide, xi_MO, Or.inl (x_in (i := 773) (by decide +kernel) rfl)⟩
theorem xf_MO_32 : xF "PatternSearchModel" 32 10 12 "PatternSearchModel" xT_MO 31 := ⟨rfl, by decide, xi_MO, Or.inl (x_in (i := 774) (by decide +kernel) rfl)⟩
theorem xf_MO_35 : xF "PatternSearchModel" 35 10 18 "PatternSearchModel" xT_MO 31 := ⟨rfl, by decide, xi_MO, Or.inl (x_in (i := 780) (by decide +kernel) rfl)⟩
theorem xf_MO_38 : xF "PatternSearchModel" 38 10 19 "PatternSearchModel" xT_MO 31 := ⟨rfl, by decide, xi_MO, Or.inl (x_in (i := 781) (by decide +kernel) rfl)⟩
theorem xf_MO_41 : xF "PatternSearchModel" 41 10 20 "PatternSearchModel" xT_MO 31 := ⟨rfl, by decide, xi_MO, Or.inl (x_in (i := 782) (by decide +kernel) rfl)⟩
theorem xf_MO_44 : xF "PatternSearchModel" 44 10 22 "PatternSearchModel" xT_MO 31 := ⟨rfl, by decide, xi_MO, Or.inl (x_in (i := 784) (by decide +kernel) rfl)⟩
theorem xf_MO_47 : xF "PatternSearchModel" 47 10 23 "PatternSearchModel" xT_MO 31 := ⟨rfl, by decide, xi_MO, Or.inl (x_in (i := 785) (by decide +kernel) rfl)⟩
theorem xf_MO_50 : xF "PatternSearchModel" 50 10 24 "PatternSearchModel" xT_MO 31 := ⟨rfl, by decide, xi_MO, Or.inl (x_in (i := 786) (by decide +kernel) rfl)⟩
theorem xf_MO_53 : xF "PatternSearchModel" 53 10 25 "PatternSearchModel" xT_MO 31 := ⟨rfl, by decide, xi_MO, Or.inl (x_in (i := 787) (by decide +kernel) rfl)⟩
theorem xf_MO_56 : xF "PatternSearchModel" 56 10 26 "PatternSearchModel" xT_MO 31 := ⟨rfl, by decide, xi_MO, Or.inl (x_in (i := 788) (by decide +kernel) rfl)⟩
theorem xf_MO_59 : xF "PatternSearchModel" 59 10 28 "PatternSearchModel" xT_MO 31 := ⟨rfl, by decide, xi_MO, Or.inl (x_in (i := 790) (by decide +kernel) rfl)⟩
theorem xf_MO_62 : xF "PatternSearchModel" 62 10 29 "PatternSearchModel" xT_MO 31 := ⟨rfl, by decide, xi_MO, Or.inl (x_in (i := 791) (by decide +kernel) rfl)⟩
theorem xf_MO_65 : xF "PatternSearchModel" 65 10 30 "PatternSearchModel" xT_MO 31 := ⟨rfl, by decide, xi_MO, Or.inl (x_in (i := 792) (by decide +kernel) rfl)⟩
theorem xf_MO_72 : xF "PatternSearchModel" 72 10 1 "PatternSearchModel" xT_MO 31 := ⟨rfl, by decide, xi_MO, Or.inl (x_in (i := 763) (by decide +kernel) rfl)⟩
theorem xf_MO_76 : xF "PatternSearchModel" 76 10 13 "PatternSearchModel" xT_MO 31 := ⟨rfl, by decide, xi_MO, Or.inl (x_in (i := 775) (by decide +kernel) rfl)⟩
theorem xf_MO_83 : xF "PatternSearchModel" 83 10 14 "PatternSearchModel" xT_MO 31 := ⟨rfl, by decide, xi_MO, Or.inl (x_in (i := 776) (by decide +kernel) rfl)⟩
theorem xf_MO_87 : xF "PatternSearchModel" 87 10 15 "PatternSearchModel" xT_MO 31 := ⟨rfl, by decide, xi_MO, Or.inl (x_in (i := 777) (by decide +kernel) rfl)⟩
theorem xf_MO_104 : xF "PatternSearchModel" 104 10 16 "PatternSearchModel" xT_MO 31 := ⟨rfl, by decide, xi_MO, Or.inl (x_in (i := 778) (by decide +kernel) rfl)⟩
theorem xf_MO_123 : xF "PatternSearchModel" 123 10 17 "PatternSearchModel" xT_MO 31 := ⟨rfl, by decide, xi_MO, Or.inl (x_in (i := 779) (by decide +kernel) rfl)⟩
theorem xf_MO_126 : xF "PatternSearchModel" 126 10 21 "PatternSearchModel" xT_MO 31 := ⟨rfl, by decide, xi_MO, Or.inl (x_in (i := 783) (by decide +kernel) rfl)⟩
theorem xf_MO_133 : xF "PatternSearchModel" 133 10 27 "PatternSearchModel" xT_MO 31 := ⟨rfl, by decide, xi_MO, Or.inl (x_in (i := 789) (by decide +kernel) rfl)⟩
theorem xf_MO_164 : xF "PatternSearchModel" 164 10 3 "PatternSearchModel" xT_MO 31 := ⟨rfl, by decide, xi_MO, Or.inl (x_in (i := 765) (by decide +kernel) rfl)⟩
theorem xf_MO_173 : xF "PatternSearchModel" 173 10 6 "PatternSearchModel" xT_MO 31 := ⟨rfl, by decide, xi_MO, Or.inl (x_in (i := 768) (by decide +kernel) rfl)⟩
theorem xf_MO_183 : xF "PatternSearchModel" 183 10 7 "PatternSearchModel" xT_MO 31 := ⟨rfl, by decide, xi_MO, Or.inl (x_in (i := 769) (by decide +kernel) rfl)⟩
theorem xf_MO_189 : xF "PatternSearchModel" 189 10 5 "PatternSearchModel" xT_MO 31 := ⟨rfl, by decide, xi_MO, Or.inl (x_in (i := 767) (by decide +kernel) rfl)⟩
theorem xw_PS_7 : xN "PatternSearch" 7 8 2 [.null, .int 0] := ⟨"PatternSearch$Signs", xT_SI, xt_SI, rfl, xi_SI, xo_SI, x_in (i := 80) (w := .classLink "PatternSearch" 7 "PatternSearch$Signs") (by decide +kernel) rfl, x_in (i := 81) (w := .instantiable "PatternSearch$Signs" 2) (by decide +kernel) rfl, x_in (i := 55) (w := .initialized "PatternSearch$Signs") (by decide +kernel) rfl, by decide +kernel⟩
theorem xw_PS_24 : xN "PatternSearch" 24 3 4 [.null, .null, .null, .int 0] := ⟨"PatternSearch$Matcher", xT_MA, xt_MA, rfl, xi_MA, xo_MA, x_in (i := 94) (w := .classLink "PatternSearch" 24 "PatternSearch$Matcher") (by decide +kernel) rfl, x_in (i := 95) (w := .instantiable "PatternSearch$Matcher" 4) (by decide +kernel) rfl, x_in (i := 56) (w := .initialized "PatternSearch$Matcher") (by decide +kernel) rfl, by decide +kernel⟩
theorem xw_PS_31 : xN "PatternSearch" 31 1 1 [.null] := ⟨"PatternSearch$Bounds", xT_BO, xt_BO, rfl, xi_BO, xo_BO, x_in (i := 151) (w := .classLink "PatternSearch" 31 "PatternSearch$Bounds") (by decide +kernel) rfl, x_in (i := 152) (w := .instantiable "PatternSearch$Bounds" 1) (by decide +kernel) rfl, x_in (i := 58) (w := .initialized "PatternSearch$Bounds") (by decide +kernel) rfl, by decide +kernel⟩
theorem xw_PS_67 : xN "PatternSearch" 67 6 5 [.null, .int 0, .int 0, .int 0, .int 0] := ⟨"PatternSearch$Reader", xT_RE, xt_RE, rfl, xi_RE, xo_RE, x_in (i := 221) (w := .classLink "PatternSearch" 67 "PatternSearch$Reader") (by decide +kernel) rfl, x_in (i := 222) (w := .instantiable "PatternSearch$Reader" 5) (by decide +kernel) rfl, x_in (i := 61) (w := .initialized "PatternSearch$Reader") (by decide +kernel) rfl, by decide +kernel⟩
theorem xw_MA_9 : xN "PatternSearch$Matcher" 9 5 8 [.null, .null, .null, .null, .null, .null, .int 0, .int 0] := ⟨"PatternSearch$Program", xT_PR, xt_PR, rfl, xi_PR, xo_PR, x_in (i := 100) (w := .classLink "PatternSearch$Matcher" 9 "PatternSearch$Program") (by decide +kernel) rfl, x_in (i := 101) (w := .instantiable "PatternSearch$Program" 8) (by decide +kernel) rfl, x_in (i := 57) (w := .initialized "PatternSearch$Program") (by decide +kernel) rfl, by decide +kernel⟩
theorem xw_RE_35 : xN "PatternSearch$Reader" 35 2 3 [.null, .int 0, .int 0] := ⟨"PatternSearch$Choice", xT_CH, xt_CH, rfl, xi_CH, xo_CH, x_in (i := 247) (w := .classLink "PatternSearch$Reader" 35 "PatternSearch$Choice") (by decide +kernel) rfl, x_in (i := 248) (w := .instantiable "PatternSearch$Choice" 3) (by decide +kernel) rfl, x_in (i := 62) (w := .initialized "PatternSearch$Choice") (by decide +kernel) rfl, by decide +kernel⟩
theorem xw_RE_50 : xN "PatternSearch$Reader" 50 7 4 [.null, .null, .int 0, .int 0] := ⟨"PatternSearch$Row", xT_RO, xt_RO, rfl, xi_RO, xo_RO, x_in (i := 268) (w := .classLink "PatternSearch$Reader" 50 "PatternSearch$Row") (by decide +kernel) rfl, x_in (i := 269) (w := .instantiable "PatternSearch$Row" 4) (by decide +kernel) rfl, x_in (i := 63) (w := .initialized "PatternSearch$Row") (by decide +kernel) rfl, by decide +kernel⟩
theorem xw_RE_66 : xN "PatternSearch$Reader" 66 4 6 [.null, .null, .int 0, .int 0, .int 0, .int 0] := ⟨"PatternSearch$Piece", xT_PI, xt_PI, rfl, xi_PI, xo_PI, x_in (i := 398) (w := .classLink "PatternSearch$Reader" 66 "PatternSearch$Piece") (by decide +kernel) rfl, x_in (i := 399) (w := .instantiable "PatternSearch$Piece" 6) (by decide +kernel) rfl, x_in (i := 70) (w := .initialized "PatternSearch$Piece") (by decide +kernel) rfl, by decide +kernel⟩
theorem xw_RE_116 : xN "PatternSearch$Reader" 116 0 5 [.int 0, .long 0, .long 0, .int 0, .null] := ⟨"PatternSearch$Atom", xT_AT, xt_AT, rfl, xi_AT, xo_AT, x_in (i := 408) (w := .classLink "PatternSearch$Reader" 116 "PatternSearch$Atom") (by decide +kernel) rfl, x_in (i := 409) (w := .instantiable "PatternSearch$Atom" 5) (by decide +kernel) rfl, x_in (i := 71) (w := .initialized "PatternSearch$Atom") (by decide +kernel) rfl, by decide +kernel⟩
theorem xw_LA_7 : xN "PatternSearchLaw" 7 9 8 [.null, .null, .null, .null, .null, .null, .int 0, .int 0] := ⟨"PatternSearch", xT_PS, xt_PS, rfl, xi_PS, xo_PS, x_in (i := 72) (w := .classLink "PatternSearchLaw" 7 "PatternSearch") (by decide +kernel) rfl, x_in (i := 73) (w := .instantiable "PatternSearch" 8) (by decide +kernel) rfl, x_in (i := 54) (w := .initialized "PatternSearch") (by decide +kernel) rfl, by decide +kernel⟩
theorem xw_LA_10 : xN "PatternSearchLaw" 10 10 31 [.null, .int 0, .null, .int 0, .null, .int 0, .int 0, .int 0, .null, .null, .null, .null, .null, .int 0, .int 0, .int 0, .int 0, .int 0, .null, .null, .null, .int 0, .null, .null, .null, .null, .null, .int 0, .null, .null, .null] := ⟨"PatternSearchModel", xT_MO, xt_MO, rfl, xi_MO, xo_MO, x_in (i := 756) (w := .classLink "PatternSearchLaw" 10 "PatternSearchModel") (by decide +kernel) rfl, x_in (i := 757) (w := .instantiable "PatternSearchModel" 31) (by decide +kernel) rfl, x_in (i := 60) (w := .initialized "PatternSearchModel") (by decide +kernel) rfl, by decide +kernel⟩
set_option maxRecDepth 100000 in
theorem kc_obj : Cond.code Lib.objectInit ⟨#[0xb1]⟩ 1 none ∈ xGT := List.mem_filter.mpr ⟨List.mem_of_getElem? (i := 79) (by rfl), rfl⟩
theorem ki_obj : Cond.instanceMethod Lib.objectInit ∈ xGT := x_in (i := 78) (w := .instanceMethod Lib.objectInit) (by decide +kernel) rfl
theorem xo_PS_1 : xO "PatternSearch" 1 := ⟨x_in (i := 77) (w := .methodLink "PatternSearch" 1 Lib.objectInit) (by decide +kernel) rfl, ki_obj, kc_obj⟩
theorem xc_PS_11 : xCI "PatternSearch" 11 m_SI_init 1 := ⟨⟨Or.inl (x_in (i := 82) (w := .methodLink "PatternSearch" 11 m_SI_init.1) (by decide +kernel) rfl), kz_SI, kc_SI_init, kd_SI_init, by decide⟩, ki_SI_init, rfl, rfl⟩
theorem xc_PS_26 : xCI "PatternSearch" 26 m_MA_init 0 := ⟨⟨Or.inr ⟨"PatternSearch", List.mem_of_getElem? (i := 96) (by decide +kernel)⟩, kz_MA, kc_MA_init, kd_MA_init, by decide⟩, ki_MA_init, rfl, rfl⟩
theorem xc_PS_33 : xCI "PatternSearch" 33 m_BO_init 0 := ⟨⟨Or.inl (x_in (i := 153) (w := .methodLink "PatternSearch" 33 m_BO_init.1) (by decide +kernel) rfl), kz_BO, kc_BO_init, kd_BO_init, by decide⟩, ki_BO_init, rfl, rfl⟩
theorem xc_PS_49 : xCS "PatternSearch" 49 m_PS_isSign 1 := ⟨⟨Or.inl (x_in (i := 193) (w := .methodLink "PatternSearch" 49 m_PS_isSign.1) (by decide +kernel) rfl), kz_PS, kc_PS_isSign, kd_PS_isSign, by decide⟩, ki_PS_isSign⟩
theorem xc_PS_53 : xCV "PatternSearch" 53 m_SI_isFull 0 8 := ⟨⟨Or.inl (x_in (i := 196) (w := .methodLink "PatternSearch" 53 m_SI_isFull.1) (by decide +kernel) rfl), kz_SI, kc_SI_isFull, kd_SI_isFull, by decide⟩, ⟨_, _, _, rfl, ks_SI_isFull⟩, ki_SI_isFull⟩
theorem xc_PS_57 : xCV "PatternSearch" 57 m_SI_add 1 8 := ⟨⟨Or.inl (x_in (i := 200) (w := .methodLink "PatternSearch" 57 m_SI_add.1) (by decide +kernel) rfl), kz_SI, kc_SI_add, kd_SI_add, by decide⟩, ⟨_, _, _, rfl, ks_SI_add⟩, ki_SI_add⟩
theorem xc_PS_60 : xCV "PatternSearch" 60 m_SI_length 0 8 := ⟨⟨Or.inl (x_in (i := 205) (w := .methodLink "PatternSearch" 60 m_SI_length.1) (by decide +kernel) rfl), kz_SI, kc_SI_length, kd_SI_length, by decide⟩, ⟨_, _, _, rfl, ks_SI_length⟩, ki_SI_length⟩
theorem xc_PS_64 : xCV "PatternSearch" 64 m_SI_clear 0 8 := ⟨⟨Or.inl (x_in (i := 213) (w := .methodLink "PatternSearch" 64 m_SI_clear.1) (by decide +kernel) rfl), kz_SI, kc_SI_clear, kd_SI_clear, by decide⟩, ⟨_, _, _, rfl, ks_SI_clear⟩, ki_SI_clear⟩
theorem xc_PS_69 : xCI "PatternSearch" 69 m_RE_init 1 := ⟨⟨Or.inl (x_in (i := 223) (w := .methodLink "PatternSearch" 69 m_RE_init.1) (by decide +kernel) rfl), kz_RE, kc_RE_init, kd_RE_init, by decide⟩, ki_RE_init, rfl, rfl⟩
theorem xc_PS_72 : xCV "PatternSearch" 72 m_RE_readChoice 0 6 := ⟨⟨Or.inr ⟨"PatternSearch", List.mem_of_getElem? (i := 243) (by decide +kernel)⟩, kz_RE, kc_RE_readChoice, kd_RE_readChoice, by decide⟩, ⟨_, _, _, rfl, ks_RE_readChoice⟩, ki_RE_readChoice⟩
theorem xc_PS_76 : xCV "PatternSearch" 76 m_RE_faultPlace 0 6 := ⟨⟨Or.inl (x_in (i := 563) (w := .methodLink "PatternSearch" 76 m_RE_faultPlace.1) (by decide +kernel) rfl), kz_RE, kc_RE_faultPlace, kd_RE_faultPlace, by decide⟩, ⟨_, _, _, rfl, ks_RE_faultPlace⟩, ki_RE_faultPlace⟩
theorem xc_PS_79 : xCV "PatternSearch" 79 m_RE_isEndless 0 6 := ⟨⟨Or.inl (x_in (i := 568) (w := .methodLink "PatternSearch" 79 m_RE_isEndless.1) (by decide +kernel) rfl), kz_RE, kc_RE_isEndless, kd_RE_isEndless, by decide⟩, ⟨_, _, _, rfl, ks_RE_isEndless⟩, ki_RE_isEndless⟩
theorem xc_PS_82 : xCV "PatternSearch" 82 m_CH_size 0 2 := ⟨⟨Or.inl (x_in (i := 572) (w := .methodLink "PatternSearch" 82 m_CH_size.1) (by decide +kernel) rfl), kz_CH, kc_CH_size, kd_CH_size, by decide⟩, ⟨_, _, _, rfl, ks_CH_size⟩, ki_CH_size⟩
theorem xc_PS_87 : xCV "PatternSearch" 87 m_MA_load 1 3 := ⟨⟨Or.inl (x_in (i := 573) (w := .methodLink "PatternSearch" 87 m_MA_load.1) (by decide +kernel) rfl), kz_MA, kc_MA_load, kd_MA_load, by decide⟩, ⟨_, _, _, rfl, ks_MA_load⟩, ki_MA_load⟩
theorem xc_PS_91 : xCV "PatternSearch" 91 m_BO_clear 0 1 := ⟨⟨Or.inl (x_in (i := 624) (w := .methodLink "PatternSearch" 91 m_BO_clear.1) (by decide +kernel) rfl), kz_BO, kc_BO_clear, kd_BO_clear, by decide⟩, ⟨_, _, _, rfl, ks_BO_clear⟩, ki_BO_clear⟩
theorem xc_PS_92 : xCV "PatternSearch" 92 m_RE_groupCount 0 6 := ⟨⟨Or.inl (x_in (i := 628) (w := .methodLink "PatternSearch" 92 m_RE_groupCount.1) (by decide +kernel) rfl), kz_RE, kc_RE_groupCount, kd_RE_groupCount, by decide⟩, ⟨_, _, _, rfl, ks_RE_groupCount⟩, ki_RE_groupCount⟩
theorem xc_PS_95 : xCV "PatternSearch" 95 m_MA_aimAnywhere 1 3 := ⟨⟨Or.inl (x_in (i := 648) (w := .methodLink "PatternSearch" 95 m_MA_aimAnywhere.1) (by decide +kernel) rfl), kz_MA, kc_MA_aimAnywhere, kd_MA_aimAnywhere, by decide⟩, ⟨_, _, _, rfl, ks_MA_aimAnywhere⟩, ki_MA_aimAnywhere⟩
theorem xc_PS_98 : xCV "PatternSearch" 98 m_MA_seek 2 3 := ⟨⟨Or.inl (x_in (i := 674) (w := .methodLink "PatternSearch" 98 m_MA_seek.1) (by decide +kernel) rfl), kz_MA, kc_MA_seek, kd_MA_seek, by decide⟩, ⟨_, _, _, rfl, ks_MA_seek⟩, ki_MA_seek⟩
theorem xc_PS_102 : xCV "PatternSearch" 102 m_BO_begin 1 1 := ⟨⟨Or.inl (x_in (i := 697) (w := .methodLink "PatternSearch" 102 m_BO_begin.1) (by decide +kernel) rfl), kz_BO, kc_BO_begin, kd_BO_begin, by decide⟩, ⟨_, _, _, rfl, ks_BO_begin⟩, ki_BO_begin⟩
theorem xc_PS_106 : xCS "PatternSearch" 106 m_PS_isGroup 1 := ⟨⟨Or.inl (x_in (i := 710) (w := .methodLink "PatternSearch" 106 m_PS_isGroup.1) (by decide +kernel) rfl), kz_PS, kc_PS_isGroup, kd_PS_isGroup, by decide⟩, ki_PS_isGroup⟩
theorem xc_PS_109 : xCV "PatternSearch" 109 m_BO_end 1 1 := ⟨⟨Or.inl (x_in (i := 713) (w := .methodLink "PatternSearch" 109 m_BO_end.1) (by decide +kernel) rfl), kz_BO, kc_BO_end, kd_BO_end, by decide⟩, ⟨_, _, _, rfl, ks_BO_end⟩, ki_BO_end⟩
theorem xc_PS_112 : xCV "PatternSearch" 112 m_MA_aimAt 2 3 := ⟨⟨Or.inl (x_in (i := 722) (w := .methodLink "PatternSearch" 112 m_MA_aimAt.1) (by decide +kernel) rfl), kz_MA, kc_MA_aimAt, kd_MA_aimAt, by decide⟩, ⟨_, _, _, rfl, ks_MA_aimAt⟩, ki_MA_aimAt⟩
theorem xc_PS_116 : xCV "PatternSearch" 116 m_MA_leadsOn 1 3 := ⟨⟨Or.inl (x_in (i := 726) (w := .methodLink "PatternSearch" 116 m_MA_leadsOn.1) (by decide +kernel) rfl), kz_MA, kc_MA_leadsOn, kd_MA_leadsOn, by decide⟩, ⟨_, _, _, rfl, ks_MA_leadsOn⟩, ki_MA_leadsOn⟩
theorem xc_PS_119 : xCV "PatternSearch" 119 m_BO_placeBehind 0 1 := ⟨⟨Or.inl (x_in (i := 731) (w := .methodLink "PatternSearch" 119 m_BO_placeBehind.1) (by decide +kernel) rfl), kz_BO, kc_BO_placeBehind, kd_BO_placeBehind, by decide⟩, ⟨_, _, _, rfl, ks_BO_placeBehind⟩, ki_BO_placeBehind⟩
theorem xc_PS_122 : xCV "PatternSearch" 122 m_SI_addStretch 3 8 := ⟨⟨Or.inl (x_in (i := 741) (w := .methodLink "PatternSearch" 122 m_SI_addStretch.1) (by decide +kernel) rfl), kz_SI, kc_SI_addStretch, kd_SI_addStretch, by decide⟩, ⟨_, _, _, rfl, ks_SI_addStretch⟩, ki_SI_addStretch⟩
theorem xc_PS_126 : xCV "PatternSearch" 126 m_SI_at 1 8 := ⟨⟨Or.inl (x_in (i := 751) (w := .methodLink "PatternSearch" 126 m_SI_at.1) (by decide +kernel) rfl), kz_SI, kc_SI_at, kd_SI_at, by decide⟩, ⟨_, _, _, rfl, ks_SI_at⟩, ki_SI_at⟩
theorem xo_AT_1 : xO "PatternSearch$Atom" 1 := ⟨x_in (i := 413) (w := .methodLink "PatternSearch$Atom" 1 Lib.objectInit) (by decide +kernel) rfl, ki_obj, kc_obj⟩
theorem xc_AT_29 : xCV "PatternSearch$Atom" 29 m_CH_size 0 2 := ⟨⟨Or.inl (x_in (i := 551) (w := .methodLink "PatternSearch$Atom" 29 m_CH_size.1) (by decide +kernel) rfl), kz_CH, kc_CH_size, kd_CH_size, by decide⟩, ⟨_, _, _, rfl, ks_CH_size⟩, ki_CH_size⟩
theorem xc_AT_37 : xCV "PatternSearch$Atom" 37 m_CH_canBeEmpty 0 2 := ⟨⟨Or.inl (x_in (i := 535) (w := .methodLink "PatternSearch$Atom" 37 m_CH_canBeEmpty.1) (by decide +kernel) rfl), kz_CH, kc_CH_canBeEmpty, kd_CH_canBeEmpty, by decide⟩, ⟨_, _, _, rfl, ks_CH_canBeEmpty⟩, ki_CH_canBeEmpty⟩
theorem xo_BO_3 : xO "PatternSearch$Bounds" 3 := ⟨x_in (i := 156) (w := .methodLink "PatternSearch$Bounds" 3 Lib.objectInit) (by decide +kernel) rfl, ki_obj, kc_obj⟩
theorem xc_BO_15 : xCS "PatternSearch$Bounds" 15 m_JA_fill 2 := ⟨⟨Or.inl (x_in (i := 157) (w := .methodLink "PatternSearch$Bounds" 15 m_JA_fill.1) (by decide +kernel) rfl), kz_JA, kc_JA_fill, kd_JA_fill, by decide⟩, ki_JA_fill⟩
theorem xc_BO_21 : xCS "PatternSearch$Bounds" 21 m_BO_beginSlot 1 := ⟨⟨Or.inl (x_in (i := 701) (w := .methodLink "PatternSearch$Bounds" 21 m_BO_beginSlot.1) (by decide +kernel) rfl), kz_BO, kc_BO_beginSlot, kd_BO_beginSlot, by decide⟩, ki_BO_beginSlot⟩
theorem xc_BO_25 : xCV "PatternSearch$Bounds" 25 m_BO_inSlot 1 1 := ⟨⟨Or.inl (x_in (i := 702) (w := .methodLink "PatternSearch$Bounds" 25 m_BO_inSlot.1) (by decide +kernel) rfl), kz_BO, kc_BO_inSlot, kd_BO_inSlot, by decide⟩, ⟨_, _, _, rfl, ks_BO_inSlot⟩, ki_BO_inSlot⟩
theorem xc_BO_28 : xCS "PatternSearch$Bounds" 28 m_BO_endSlot 1 := ⟨⟨Or.inl (x_in (i := 717) (w := .methodLink "PatternSearch$Bounds" 28 m_BO_endSlot.1) (by decide +kernel) rfl), kz_BO, kc_BO_endSlot, kd_BO_endSlot, by decide⟩, ki_BO_endSlot⟩
theorem xc_BO_31 : xCV "PatternSearch$Bounds" 31 m_BO_begin 1 1 := ⟨⟨Or.inl (x_in (i := 735) (w := .methodLink "PatternSearch$Bounds" 31 m_BO_begin.1) (by decide +kernel) rfl), kz_BO, kc_BO_begin, kd_BO_begin, by decide⟩, ⟨_, _, _, rfl, ks_BO_begin⟩, ki_BO_begin⟩
theorem xc_BO_34 : xCV "PatternSearch$Bounds" 34 m_BO_end 1 1 := ⟨⟨Or.inl (x_in (i := 736) (w := .methodLink "PatternSearch$Bounds" 34 m_BO_end.1) (by decide +kernel) rfl), kz_BO, kc_BO_end, kd_BO_end, by decide⟩, ⟨_, _, _, rfl, ks_BO_end⟩, ki_BO_end⟩
theorem xo_CH_1 : xO "PatternSearch$Choice" 1 := ⟨x_in (i := 252) (w := .methodLink "PatternSearch$Choice" 1 Lib.objectInit) (by decide +kernel) rfl, ki_obj, kc_obj⟩
theorem xo_MA_3 : xO "PatternSearch$Matcher" 3 := ⟨x_in (i := 99) (w := .methodLink "PatternSearch$Matcher" 3 Lib.objectInit) (by decide +kernel) rfl, ki_obj, kc_obj⟩
theorem xc_MA_11 : xCI "PatternSearch$Matcher" 11 m_PR_init 0 := ⟨⟨Or.inr ⟨"PatternSearch", List.mem_of_getElem? (i := 102) (by decide +kernel)⟩, kz_PR, kc_PR_init, kd_PR_init, by decide⟩, ki_PR_init, rfl, rfl⟩
theorem xc_MA_25 : xCV "PatternSearch$Matcher" 25 m_PR_build 1 5 := ⟨⟨Or.inl (x_in (i := 577) (w := .methodLink "PatternSearch$Matcher" 25 m_PR_build.1) (by decide +kernel) rfl), kz_PR, kc_PR_build, kd_PR_build, by decide⟩, ⟨_, _, _, rfl, ks_PR_build⟩, ki_PR_build⟩
theorem xc_MA_29 : xCV "PatternSearch$Matcher" 29 m_MA_aim 2 3 := ⟨⟨Or.inl (x_in (i := 652) (w := .methodLink "PatternSearch$Matcher" 29 m_MA_aim.1) (by decide +kernel) rfl), kz_MA, kc_MA_aim, kd_MA_aim, by decide⟩, ⟨_, _, _, rfl, ks_MA_aim⟩, ki_MA_aim⟩
theorem xc_MA_37 : xCV "PatternSearch$Matcher" 37 m_MA_leadsOnFrom 2 3 := ⟨⟨Or.inl (x_in (i := 683) (w := .methodLink "PatternSearch$Matcher" 37 m_MA_leadsOnFrom.1) (by decide +kernel) rfl), kz_MA, kc_MA_leadsOnFrom, kd_MA_leadsOnFrom, by decide⟩, ⟨_, _, _, rfl, ks_MA_leadsOnFrom⟩, ki_MA_leadsOnFrom⟩
theorem xc_MA_41 : xCV "PatternSearch$Matcher" 41 m_BO_clear 0 1 := ⟨⟨Or.inl (x_in (i := 678) (w := .methodLink "PatternSearch$Matcher" 41 m_BO_clear.1) (by decide +kernel) rfl), kz_BO, kc_BO_clear, kd_BO_clear, by decide⟩, ⟨_, _, _, rfl, ks_BO_clear⟩, ki_BO_clear⟩
theorem xc_MA_49 : xCV "PatternSearch$Matcher" 49 m_MA_leadsOn 1 3 := ⟨⟨Or.inl (x_in (i := 679) (w := .methodLink "PatternSearch$Matcher" 49 m_MA_leadsOn.1) (by decide +kernel) rfl), kz_MA, kc_MA_leadsOn, kd_MA_leadsOn, by decide⟩, ⟨_, _, _, rfl, ks_MA_leadsOn⟩, ki_MA_leadsOn⟩
theorem xc_MA_53 : xCV "PatternSearch$Matcher" 53 m_MA_walk 2 3 := ⟨⟨Or.inl (x_in (i := 687) (w := .methodLink "PatternSearch$Matcher" 53 m_MA_walk.1) (by decide +kernel) rfl), kz_MA, kc_MA_walk, kd_MA_walk, by decide⟩, ⟨_, _, _, rfl, ks_MA_walk⟩, ki_MA_walk⟩
theorem xc_MA_57 : xCV "PatternSearch$Matcher" 57 m_SI_length 0 8 := ⟨⟨Or.inl (x_in (i := 656) (w := .methodLink "PatternSearch$Matcher" 57 m_SI_length.1) (by decide +kernel) rfl), kz_SI, kc_SI_length, kd_SI_length, by decide⟩, ⟨_, _, _, rfl, ks_SI_length⟩, ki_SI_length⟩
theorem xc_MA_68 : xCV "PatternSearch$Matcher" 68 m_MA_fittingPlaces 2 3 := ⟨⟨Or.inl (x_in (i := 657) (w := .methodLink "PatternSearch$Matcher" 68 m_MA_fittingPlaces.1) (by decide +kernel) rfl), kz_MA, kc_MA_fittingPlaces, kd_MA_fittingPlaces, by decide⟩, ⟨_, _, _, rfl, ks_MA_fittingPlaces⟩, ki_MA_fittingPlaces⟩
theorem xc_MA_72 : xCV "PatternSearch$Matcher" 72 m_MA_spread 1 3 := ⟨⟨Or.inl (x_in (i := 666) (w := .methodLink "PatternSearch$Matcher" 72 m_MA_spread.1) (by decide +kernel) rfl), kz_MA, kc_MA_spread, kd_MA_spread, by decide⟩, ⟨_, _, _, rfl, ks_MA_spread⟩, ki_MA_spread⟩
theorem xc_MA_75 : xCV "PatternSearch$Matcher" 75 m_SI_at 1 8 := ⟨⟨Or.inl (x_in (i := 661) (w := .methodLink "PatternSearch$Matcher" 75 m_SI_at.1) (by decide +kernel) rfl), kz_SI, kc_SI_at, kd_SI_at, by decide⟩, ⟨_, _, _, rfl, ks_SI_at⟩, ki_SI_at⟩
theorem xc_MA_79 : xCV "PatternSearch$Matcher" 79 m_PR_takes 2 5 := ⟨⟨Or.inl (x_in (i := 662) (w := .methodLink "PatternSearch$Matcher" 79 m_PR_takes.1) (by decide +kernel) rfl), kz_PR, kc_PR_takes, kd_PR_takes, by decide⟩, ⟨_, _, _, rfl, ks_PR_takes⟩, ki_PR_takes⟩
theorem xc_MA_82 : xCV "PatternSearch$Matcher" 82 m_MA_leadingPlaces 2 3 := ⟨⟨Or.inl (x_in (i := 670) (w := .methodLink "PatternSearch$Matcher" 82 m_MA_leadingPlaces.1) (by decide +kernel) rfl), kz_MA, kc_MA_leadingPlaces, kd_MA_leadingPlaces, by decide⟩, ⟨_, _, _, rfl, ks_MA_leadingPlaces⟩, ki_MA_leadingPlaces⟩
theorem xc_MA_95 : xCV "PatternSearch$Matcher" 95 m_BO_mark 2 1 := ⟨⟨Or.inl (x_in (i := 691) (w := .methodLink "PatternSearch$Matcher" 95 m_BO_mark.1) (by decide +kernel) rfl), kz_BO, kc_BO_mark, kd_BO_mark, by decide⟩, ⟨_, _, _, rfl, ks_BO_mark⟩, ki_BO_mark⟩
theorem xc_MA_99 : xCS "PatternSearch$Matcher" 99 m_BO_beginSlot 1 := ⟨⟨Or.inl (x_in (i := 695) (w := .methodLink "PatternSearch$Matcher" 99 m_BO_beginSlot.1) (by decide +kernel) rfl), kz_BO, kc_BO_beginSlot, kd_BO_beginSlot, by decide⟩, ki_BO_beginSlot⟩
theorem xc_MA_102 : xCS "PatternSearch$Matcher" 102 m_BO_endSlot 1 := ⟨⟨Or.inl (x_in (i := 696) (w := .methodLink "PatternSearch$Matcher" 102 m_BO_endSlot.1) (by decide +kernel) rfl), kz_BO, kc_BO_endSlot, kd_BO_endSlot, by decide⟩, ki_BO_endSlot⟩
theorem xo_PI_1 : xO "PatternSearch$Piece" 1 := ⟨x_in (i := 480) (w := .methodLink "PatternSearch$Piece" 1 Lib.objectInit) (by decide +kernel) rfl, ki_obj, kc_obj⟩
theorem xc_PI_24 : xCV "PatternSearch$Piece" 24 m_AT_size 0 0 := ⟨⟨Or.inl (x_in (i := 547) (w := .methodLink "PatternSearch$Piece" 24 m_AT_size.1) (by decide +kernel) rfl), kz_AT, kc_AT_size, kd_AT_size, by decide⟩, ⟨_, _, _, rfl, ks_AT_size⟩, ki_AT_size⟩
theorem xc_PI_30 : xCV "PatternSearch$Piece" 30 m_AT_canBeEmpty 0 0 := ⟨⟨Or.inl (x_in (i := 531) (w := .methodLink "PatternSearch$Piece" 30 m_AT_canBeEmpty.1) (by decide +kernel) rfl), kz_AT, kc_AT_canBeEmpty, kd_AT_canBeEmpty, by decide⟩, ⟨_, _, _, rfl, ks_AT_canBeEmpty⟩, ki_AT_canBeEmpty⟩
theorem xo_PR_3 : xO "PatternSearch$Program" 3 := ⟨x_in (i := 105) (w := .methodLink "PatternSearch$Program" 3 Lib.objectInit) (by decide +kernel) rfl, ki_obj, kc_obj⟩
theorem xc_PR_35 : xCV "PatternSearch$Program" 35 m_PR_addStep 2 5 := ⟨⟨Or.inl (x_in (i := 581) (w := .methodLink "PatternSearch$Program" 35 m_PR_addStep.1) (by decide +kernel) rfl), kz_PR, kc_PR_addStep, kd_PR_addStep, by decide⟩, ⟨_, _, _, rfl, ks_PR_addStep⟩, ki_PR_addStep⟩
theorem xc_PR_39 : xCV "PatternSearch$Program" 39 m_PR_addChoice 3 5 := ⟨⟨Or.inl (x_in (i := 586) (w := .methodLink "PatternSearch$Program" 39 m_PR_addChoice.1) (by decide +kernel) rfl), kz_PR, kc_PR_addChoice, kd_PR_addChoice, by decide⟩, ⟨_, _, _, rfl, ks_PR_addChoice⟩, ki_PR_addChoice⟩
theorem xc_PR_52 : xCV "PatternSearch$Program" 52 m_PR_addRow 3 5 := ⟨⟨Or.inl (x_in (i := 590) (w := .methodLink "PatternSearch$Program" 52 m_PR_addRow.1) (by decide +kernel) rfl), kz_PR, kc_PR_addRow, kd_PR_addRow, by decide⟩, ⟨_, _, _, rfl, ks_PR_addRow⟩, ki_PR_addRow⟩
theorem xc_PR_56 : xCV "PatternSearch$Program" 56 m_PR_addFork 2 5 := ⟨⟨Or.inl (x_in (i := 598) (w := .methodLink "PatternSearch$Program" 56 m_PR_addFork.1) (by decide +kernel) rfl), kz_PR, kc_PR_addFork, kd_PR_addFork, by decide⟩, ⟨_, _, _, rfl, ks_PR_addFork⟩, ki_PR_addFork⟩
theorem xc_PR_74 : xCV "PatternSearch$Program" 74 m_PR_addLoop 3 5 := ⟨⟨Or.inl (x_in (i := 594) (w := .methodLink "PatternSearch$Program" 74 m_PR_addLoop.1) (by decide +kernel) rfl), kz_PR, kc_PR_addLoop, kd_PR_addLoop, by decide⟩, ⟨_, _, _, rfl, ks_PR_addLoop⟩, ki_PR_addLoop⟩
theorem xc_PR_78 : xCV "PatternSearch$Program" 78 m_PR_addCopies 3 5 := ⟨⟨Or.inl (x_in (i := 620) (w := .methodLink "PatternSearch$Program" 78 m_PR_addCopies.1) (by decide +kernel) rfl), kz_PR, kc_PR_addCopies, kd_PR_addCopies, by decide⟩, ⟨_, _, _, rfl, ks_PR_addCopies⟩, ki_PR_addCopies⟩
theorem xc_PR_87 : xCV "PatternSearch$Program" 87 m_PR_addAtom 3 5 := ⟨⟨Or.inl (x_in (i := 602) (w := .methodLink "PatternSearch$Program" 87 m_PR_addAtom.1) (by decide +kernel) rfl), kz_PR, kc_PR_addAtom, kd_PR_addAtom, by decide⟩, ⟨_, _, _, rfl, ks_PR_addAtom⟩, ki_PR_addAtom⟩
theorem xc_PR_106 : xCV "PatternSearch$Program" 106 m_PR_addGroup 3 5 := ⟨⟨Or.inl (x_in (i := 606) (w := .methodLink "PatternSearch$Program" 106 m_PR_addGroup.1) (by decide +kernel) rfl), kz_PR, kc_PR_addGroup, kd_PR_addGroup, by decide⟩, ⟨_, _, _, rfl, ks_PR_addGroup⟩, ki_PR_addGroup⟩
theorem xc_PR_122 : xCS "PatternSearch$Program" 122 m_BO_endSlot 1 := ⟨⟨Or.inl (x_in (i := 610) (w := .methodLink "PatternSearch$Program" 122 m_BO_endSlot.1) (by decide +kernel) rfl), kz_BO, kc_BO_endSlot, kd_BO_endSlot, by decide⟩, ki_BO_endSlot⟩
theorem xc_PR_128 : xCV "PatternSearch$Program" 128 m_PR_addMark 2 5 := ⟨⟨Or.inl (x_in (i := 613) (w := .methodLink "PatternSearch$Program" 128 m_PR_addMark.1) (by decide +kernel) rfl), kz_PR, kc_PR_addMark, kd_PR_addMark, by decide⟩, ⟨_, _, _, rfl, ks_PR_addMark⟩, ki_PR_addMark⟩
theorem xc_PR_131 : xCS "PatternSearch$Program" 131 m_BO_beginSlot 1 := ⟨⟨Or.inl (x_in (i := 617) (w := .methodLink "PatternSearch$Program" 131 m_BO_beginSlot.1) (by decide +kernel) rfl), kz_BO, kc_BO_beginSlot, kd_BO_beginSlot, by decide⟩, ki_BO_beginSlot⟩
theorem xc_PR_134 : xCS "PatternSearch$Program" 134 m_JM_min 2 := ⟨⟨Or.inl (x_in (i := 585) (w := .methodLink "PatternSearch$Program" 134 m_JM_min.1) (by decide +kernel) rfl), kz_JM, kc_JM_min, kd_JM_min, by decide⟩, ki_JM_min⟩
theorem xo_RE_3 : xO "PatternSearch$Reader" 3 := ⟨x_in (i := 226) (w := .methodLink "PatternSearch$Reader" 3 Lib.objectInit) (by decide +kernel) rfl, ki_obj, kc_obj⟩
theorem xc_RE_23 : xCV "PatternSearch$Reader" 23 m_SI_length 0 8 := ⟨⟨Or.inl (x_in (i := 567) (w := .methodLink "PatternSearch$Reader" 23 m_SI_length.1) (by decide +kernel) rfl), kz_SI, kc_SI_length, kd_SI_length, by decide⟩, ⟨_, _, _, rfl, ks_SI_length⟩, ki_SI_length⟩
theorem xc_RE_37 : xCI "PatternSearch$Reader" 37 m_CH_init 0 := ⟨⟨Or.inr ⟨"PatternSearch", List.mem_of_getElem? (i := 249) (by decide +kernel)⟩, kz_CH, kc_CH_init, kd_CH_init, by decide⟩, ki_CH_init, rfl, rfl⟩
theorem xc_RE_38 : xCV "PatternSearch$Reader" 38 m_RE_readRow 0 6 := ⟨⟨Or.inl (x_in (i := 264) (w := .methodLink "PatternSearch$Reader" 38 m_RE_readRow.1) (by decide +kernel) rfl), kz_RE, kc_RE_readRow, kd_RE_readRow, by decide⟩, ⟨_, _, _, rfl, ks_RE_readRow⟩, ki_RE_readRow⟩
theorem xc_RE_42 : xCV "PatternSearch$Reader" 42 m_CH_add 1 2 := ⟨⟨Or.inl (x_in (i := 559) (w := .methodLink "PatternSearch$Reader" 42 m_CH_add.1) (by decide +kernel) rfl), kz_CH, kc_CH_add, kd_CH_add, by decide⟩, ⟨_, _, _, rfl, ks_CH_add⟩, ki_CH_add⟩
theorem xc_RE_46 : xCV "PatternSearch$Reader" 46 m_RE_take 1 6 := ⟨⟨Or.inl (x_in (i := 445) (w := .methodLink "PatternSearch$Reader" 46 m_RE_take.1) (by decide +kernel) rfl), kz_RE, kc_RE_take, kd_RE_take, by decide⟩, ⟨_, _, _, rfl, ks_RE_take⟩, ki_RE_take⟩
theorem xc_RE_52 : xCI "PatternSearch$Reader" 52 m_RO_init 0 := ⟨⟨Or.inr ⟨"PatternSearch", List.mem_of_getElem? (i := 270) (by decide +kernel)⟩, kz_RO, kc_RO_init, kd_RO_init, by decide⟩, ki_RO_init, rfl, rfl⟩
theorem xc_RE_53 : xCV "PatternSearch$Reader" 53 m_RE_peek 0 6 := ⟨⟨Or.inl (x_in (i := 291) (w := .methodLink "PatternSearch$Reader" 53 m_RE_peek.1) (by decide +kernel) rfl), kz_RE, kc_RE_peek, kd_RE_peek, by decide⟩, ⟨_, _, _, rfl, ks_RE_peek⟩, ki_RE_peek⟩
theorem xc_RE_56 : xCV "PatternSearch$Reader" 56 m_RE_beginsAtom 1 6 := ⟨⟨Or.inl (x_in (i := 299) (w := .methodLink "PatternSearch$Reader" 56 m_RE_beginsAtom.1) (by decide +kernel) rfl), kz_RE, kc_RE_beginsAtom, kd_RE_beginsAtom, by decide⟩, ⟨_, _, _, rfl, ks_RE_beginsAtom⟩, ki_RE_beginsAtom⟩
theorem xc_RE_59 : xCV "PatternSearch$Reader" 59 m_RE_readPiece 0 6 := ⟨⟨Or.inl (x_in (i := 394) (w := .methodLink "PatternSearch$Reader" 59 m_RE_readPiece.1) (by decide +kernel) rfl), kz_RE, kc_RE_readPiece, kd_RE_readPiece, by decide⟩, ⟨_, _, _, rfl, ks_RE_readPiece⟩, ki_RE_readPiece⟩
theorem xc_RE_63 : xCV "PatternSearch$Reader" 63 m_RO_add 1 7 := ⟨⟨Or.inl (x_in (i := 539) (w := .methodLink "PatternSearch$Reader" 63 m_RO_add.1) (by decide +kernel) rfl), kz_RO, kc_RO_add, kd_RO_add, by decide⟩, ⟨_, _, _, rfl, ks_RO_add⟩, ki_RO_add⟩
theorem xc_RE_68 : xCV "PatternSearch$Reader" 68 m_RE_readAtom 0 6 := ⟨⟨Or.inl (x_in (i := 400) (w := .methodLink "PatternSearch$Reader" 68 m_RE_readAtom.1) (by decide +kernel) rfl), kz_RE, kc_RE_readAtom, kd_RE_readAtom, by decide⟩, ⟨_, _, _, rfl, ks_RE_readAtom⟩, ki_RE_readAtom⟩
theorem xc_RE_72 : xCI "PatternSearch$Reader" 72 m_PI_init 1 := ⟨⟨Or.inl (x_in (i := 477) (w := .methodLink "PatternSearch$Reader" 72 m_PI_init.1) (by decide +kernel) rfl), kz_PI, kc_PI_init, kd_PI_init, by decide⟩, ki_PI_init, rfl, rfl⟩
theorem xc_RE_75 : xCV "PatternSearch$Reader" 75 m_RE_readRepetition 1 6 := ⟨⟨Or.inl (x_in (i := 506) (w := .methodLink "PatternSearch$Reader" 75 m_RE_readRepetition.1) (by decide +kernel) rfl), kz_RE, kc_RE_readRepetition, kd_RE_readRepetition, by decide⟩, ⟨_, _, _, rfl, ks_RE_readRepetition⟩, ki_RE_readRepetition⟩
theorem xc_RE_82 : xCV "PatternSearch$Reader" 82 m_PI_isEndless 0 4 := ⟨⟨Or.inl (x_in (i := 527) (w := .methodLink "PatternSearch$Reader" 82 m_PI_isEndless.1) (by decide +kernel) rfl), kz_PI, kc_PI_isEndless, kd_PI_isEndless, by decide⟩, ⟨_, _, _, rfl, ks_PI_isEndless⟩, ki_PI_isEndless⟩
theorem xc_RE_86 : xCV "PatternSearch$Reader" 86 m_PI_repeatUnbounded 1 4 := ⟨⟨Or.inl (x_in (i := 510) (w := .methodLink "PatternSearch$Reader" 86 m_PI_repeatUnbounded.1) (by decide +kernel) rfl), kz_PI, kc_PI_repeatUnbounded, kd_PI_repeatUnbounded, by decide⟩, ⟨_, _, _, rfl, ks_PI_repeatUnbounded⟩, ki_PI_repeatUnbounded⟩
theorem xc_RE_90 : xCV "PatternSearch$Reader" 90 m_PI_repeat 2 4 := ⟨⟨Or.inl (x_in (i := 514) (w := .methodLink "PatternSearch$Reader" 90 m_PI_repeat.1) (by decide +kernel) rfl), kz_PI, kc_PI_repeat, kd_PI_repeat, by decide⟩, ⟨_, _, _, rfl, ks_PI_repeat⟩, ki_PI_repeat⟩
theorem xc_RE_94 : xCV "PatternSearch$Reader" 94 m_RE_readBraces 1 6 := ⟨⟨Or.inl (x_in (i := 518) (w := .methodLink "PatternSearch$Reader" 94 m_RE_readBraces.1) (by decide +kernel) rfl), kz_RE, kc_RE_readBraces, kd_RE_readBraces, by decide⟩, ⟨_, _, _, rfl, ks_RE_readBraces⟩, ki_RE_readBraces⟩
theorem xc_RE_97 : xCV "PatternSearch$Reader" 97 m_RE_readDigit 1 6 := ⟨⟨Or.inl (x_in (i := 522) (w := .methodLink "PatternSearch$Reader" 97 m_RE_readDigit.1) (by decide +kernel) rfl), kz_RE, kc_RE_readDigit, kd_RE_readDigit, by decide⟩, ⟨_, _, _, rfl, ks_RE_readDigit⟩, ki_RE_readDigit⟩
theorem xc_RE_101 : xCS "PatternSearch$Reader" 101 m_JM_max 2 := ⟨⟨Or.inl (x_in (i := 526) (w := .methodLink "PatternSearch$Reader" 101 m_JM_max.1) (by decide +kernel) rfl), kz_JM, kc_JM_max, kd_JM_max, by decide⟩, ki_JM_max⟩
theorem xc_RE_107 : xCV "PatternSearch$Reader" 107 m_RE_expect 1 6 := ⟨⟨Or.inl (x_in (i := 441) (w := .methodLink "PatternSearch$Reader" 107 m_RE_expect.1) (by decide +kernel) rfl), kz_RE, kc_RE_expect, kd_RE_expect, by decide⟩, ⟨_, _, _, rfl, ks_RE_expect⟩, ki_RE_expect⟩
theorem xc_RE_110 : xCV "PatternSearch$Reader" 110 m_RE_readGroup 0 6 := ⟨⟨Or.inl (x_in (i := 404) (w := .methodLink "PatternSearch$Reader" 110 m_RE_readGroup.1) (by decide +kernel) rfl), kz_RE, kc_RE_readGroup, kd_RE_readGroup, by decide⟩, ⟨_, _, _, rfl, ks_RE_readGroup⟩, ki_RE_readGroup⟩
theorem xc_RE_113 : xCV "PatternSearch$Reader" 113 m_RE_readClass 0 6 := ⟨⟨Or.inl (x_in (i := 449) (w := .methodLink "PatternSearch$Reader" 113 m_RE_readClass.1) (by decide +kernel) rfl), kz_RE, kc_RE_readClass, kd_RE_readClass, by decide⟩, ⟨_, _, _, rfl, ks_RE_readClass⟩, ki_RE_readClass⟩
theorem xc_RE_120 : xCI "PatternSearch$Reader" 120 m_AT_init 1 := ⟨⟨Or.inl (x_in (i := 410) (w := .methodLink "PatternSearch$Reader" 120 m_AT_init.1) (by decide +kernel) rfl), kz_AT, kc_AT_init, kd_AT_init, by decide⟩, ki_AT_init, rfl, rfl⟩
theorem xc_RE_122 : xCS "PatternSearch$Reader" 122 m_RE_signAtom 2 := ⟨⟨Or.inl (x_in (i := 474) (w := .methodLink "PatternSearch$Reader" 122 m_RE_signAtom.1) (by decide +kernel) rfl), kz_RE, kc_RE_signAtom, kd_RE_signAtom, by decide⟩, ki_RE_signAtom⟩
theorem xc_RE_126 : xCV "PatternSearch$Reader" 126 m_AT_takeSigns 2 0 := ⟨⟨Or.inl (x_in (i := 465) (w := .methodLink "PatternSearch$Reader" 126 m_AT_takeSigns.1) (by decide +kernel) rfl), kz_AT, kc_AT_takeSigns, kd_AT_takeSigns, by decide⟩, ⟨_, _, _, rfl, ks_AT_takeSigns⟩, ki_AT_takeSigns⟩
theorem xc_RE_129 : xCV "PatternSearch$Reader" 129 m_RE_readChoice 0 6 := ⟨⟨Or.inl (x_in (i := 436) (w := .methodLink "PatternSearch$Reader" 129 m_RE_readChoice.1) (by decide +kernel) rfl), kz_RE, kc_RE_readChoice, kd_RE_readChoice, by decide⟩, ⟨_, _, _, rfl, ks_RE_readChoice⟩, ki_RE_readChoice⟩
theorem xc_RE_133 : xCV "PatternSearch$Reader" 133 m_AT_enclose 2 0 := ⟨⟨Or.inl (x_in (i := 437) (w := .methodLink "PatternSearch$Reader" 133 m_AT_enclose.1) (by decide +kernel) rfl), kz_AT, kc_AT_enclose, kd_AT_enclose, by decide⟩, ⟨_, _, _, rfl, ks_AT_enclose⟩, ki_AT_enclose⟩
theorem xc_RE_137 : xCV "PatternSearch$Reader" 137 m_RE_readItem 1 6 := ⟨⟨Or.inl (x_in (i := 453) (w := .methodLink "PatternSearch$Reader" 137 m_RE_readItem.1) (by decide +kernel) rfl), kz_RE, kc_RE_readItem, kd_RE_readItem, by decide⟩, ⟨_, _, _, rfl, ks_RE_readItem⟩, ki_RE_readItem⟩
theorem xc_RE_140 : xCS "PatternSearch$Reader" 140 m_RE_isItemSign 1 := ⟨⟨Or.inl (x_in (i := 461) (w := .methodLink "PatternSearch$Reader" 140 m_RE_isItemSign.1) (by decide +kernel) rfl), kz_RE, kc_RE_isItemSign, kd_RE_isItemSign, by decide⟩, ki_RE_isItemSign⟩
theorem xc_RE_143 : xCV "PatternSearch$Reader" 143 m_AT_takeOthers 0 0 := ⟨⟨Or.inl (x_in (i := 469) (w := .methodLink "PatternSearch$Reader" 143 m_AT_takeOthers.1) (by decide +kernel) rfl), kz_AT, kc_AT_takeOthers, kd_AT_takeOthers, by decide⟩, ⟨_, _, _, rfl, ks_AT_takeOthers⟩, ki_AT_takeOthers⟩
theorem xc_RE_146 : xCV "PatternSearch$Reader" 146 m_RE_readItemSign 1 6 := ⟨⟨Or.inl (x_in (i := 457) (w := .methodLink "PatternSearch$Reader" 146 m_RE_readItemSign.1) (by decide +kernel) rfl), kz_RE, kc_RE_readItemSign, kd_RE_readItemSign, by decide⟩, ⟨_, _, _, rfl, ks_RE_readItemSign⟩, ki_RE_readItemSign⟩
theorem xc_RE_149 : xCS "PatternSearch$Reader" 149 m_RE_isPlain 1 := ⟨⟨Or.inl (x_in (i := 303) (w := .methodLink "PatternSearch$Reader" 149 m_RE_isPlain.1) (by decide +kernel) rfl), kz_RE, kc_RE_isPlain, kd_RE_isPlain, by decide⟩, ki_RE_isPlain⟩
theorem xc_RE_152 : xCS "PatternSearch$Reader" 152 m_PS_isSign 1 := ⟨⟨Or.inr ⟨"PatternSearch", List.mem_of_getElem? (i := 306) (by decide +kernel)⟩, kz_PS, kc_PS_isSign, kd_PS_isSign, by decide⟩, ki_PS_isSign⟩
theorem xc_RE_157 : xCall "PatternSearch$Reader" 157 m_JS_indexOf1 1 := ⟨Or.inl (x_in (i := 308) (w := .methodLink "PatternSearch$Reader" 157 m_JS_indexOf1.1) (by decide +kernel) rfl), kz_JS, kc_JS_indexOf1, kd_JS_indexOf1, by decide⟩
theorem xc_RE_164 : xCV "PatternSearch$Reader" 164 m_SI_at 1 8 := ⟨⟨Or.inl (x_in (i := 295) (w := .methodLink "PatternSearch$Reader" 164 m_SI_at.1) (by decide +kernel) rfl), kz_SI, kc_SI_at, kd_SI_at, by decide⟩, ⟨_, _, _, rfl, ks_SI_at⟩, ki_SI_at⟩
theorem xo_RO_1 : xO "PatternSearch$Row" 1 := ⟨x_in (i := 273) (w := .methodLink "PatternSearch$Row" 1 Lib.objectInit) (by decide +kernel) rfl, ki_obj, kc_obj⟩
theorem xc_RO_17 : xCV "PatternSearch$Row" 17 m_PI_size 0 4 := ⟨⟨Or.inl (x_in (i := 543) (w := .methodLink "PatternSearch$Row" 17 m_PI_size.1) (by decide +kernel) rfl), kz_PI, kc_PI_size, kd_PI_size, by decide⟩, ⟨_, _, _, rfl, ks_PI_size⟩, ki_PI_size⟩
theorem xc_RO_22 : xCV "PatternSearch$Row" 22 m_PI_canBeEmpty 0 4 := ⟨⟨Or.inl (x_in (i := 555) (w := .methodLink "PatternSearch$Row" 22 m_PI_canBeEmpty.1) (by decide +kernel) rfl), kz_PI, kc_PI_canBeEmpty, kd_PI_canBeEmpty, by decide⟩, ⟨_, _, _, rfl, ks_PI_canBeEmpty⟩, ki_PI_canBeEmpty⟩
theorem xo_SI_3 : xO "PatternSearch$Signs" 3 := ⟨x_in (i := 85) (w := .methodLink "PatternSearch$Signs" 3 Lib.objectInit) (by decide +kernel) rfl, ki_obj, kc_obj⟩
theorem xc_SI_19 : xCV "PatternSearch$Signs" 19 m_SI_isFull 0 8 := ⟨⟨Or.inl (x_in (i := 204) (w := .methodLink "PatternSearch$Signs" 19 m_SI_isFull.1) (by decide +kernel) rfl), kz_SI, kc_SI_isFull, kd_SI_isFull, by decide⟩, ⟨_, _, _, rfl, ks_SI_isFull⟩, ki_SI_isFull⟩
theorem xc_SI_23 : xCV "PatternSearch$Signs" 23 m_SI_at 1 8 := ⟨⟨Or.inl (x_in (i := 745) (w := .methodLink "PatternSearch$Signs" 23 m_SI_at.1) (by decide +kernel) rfl), kz_SI, kc_SI_at, kd_SI_at, by decide⟩, ⟨_, _, _, rfl, ks_SI_at⟩, ki_SI_at⟩
theorem xc_SI_27 : xCV "PatternSearch$Signs" 27 m_SI_add 1 8 := ⟨⟨Or.inl (x_in (i := 746) (w := .methodLink "PatternSearch$Signs" 27 m_SI_add.1) (by decide +kernel) rfl), kz_SI, kc_SI_add, kd_SI_add, by decide⟩, ⟨_, _, _, rfl, ks_SI_add⟩, ki_SI_add⟩
theorem xc_LA_9 : xCI "PatternSearchLaw" 9 m_PS_init 0 := ⟨⟨Or.inl (x_in (i := 74) (w := .methodLink "PatternSearchLaw" 9 m_PS_init.1) (by decide +kernel) rfl), kz_PS, kc_PS_init, kd_PS_init, by decide⟩, ki_PS_init, rfl, rfl⟩
theorem xc_LA_12 : xCI "PatternSearchLaw" 12 m_MO_init 0 := ⟨⟨Or.inl (x_in (i := 758) (w := .methodLink "PatternSearchLaw" 12 m_MO_init.1) (by decide +kernel) rfl), kz_MO, kc_MO_init, kd_MO_init, by decide⟩, ki_MO_init, rfl, rfl⟩
theorem xc_LA_13 : xCV "PatternSearchLaw" 13 m_PS_pattern 1 9 := ⟨⟨Or.inl (x_in (i := 189) (w := .methodLink "PatternSearchLaw" 13 m_PS_pattern.1) (by decide +kernel) rfl), kz_PS, kc_PS_pattern, kd_PS_pattern, by decide⟩, ⟨_, _, _, rfl, ks_PS_pattern⟩, ki_PS_pattern⟩
theorem xc_LA_17 : xCV "PatternSearchLaw" 17 m_MO_pattern 1 10 := ⟨⟨Or.inl (x_in (i := 857) (w := .methodLink "PatternSearchLaw" 17 m_MO_pattern.1) (by decide +kernel) rfl), kz_MO, kc_MO_pattern, kd_MO_pattern, by decide⟩, ⟨_, _, _, rfl, ks_MO_pattern⟩, ki_MO_pattern⟩
theorem xc_LA_18 : xCV "PatternSearchLaw" 18 m_PS_newPattern 0 9 := ⟨⟨Or.inl (x_in (i := 209) (w := .methodLink "PatternSearchLaw" 18 m_PS_newPattern.1) (by decide +kernel) rfl), kz_PS, kc_PS_newPattern, kd_PS_newPattern, by decide⟩, ⟨_, _, _, rfl, ks_PS_newPattern⟩, ki_PS_newPattern⟩
theorem xc_LA_22 : xCV "PatternSearchLaw" 22 m_MO_newPattern 0 10 := ⟨⟨Or.inl (x_in (i := 861) (w := .methodLink "PatternSearchLaw" 22 m_MO_newPattern.1) (by decide +kernel) rfl), kz_MO, kc_MO_newPattern, kd_MO_newPattern, by decide⟩, ⟨_, _, _, rfl, ks_MO_newPattern⟩, ki_MO_newPattern⟩
theorem xc_LA_23 : xCV "PatternSearchLaw" 23 m_PS_compile 0 9 := ⟨⟨Or.inl (x_in (i := 217) (w := .methodLink "PatternSearchLaw" 23 m_PS_compile.1) (by decide +kernel) rfl), kz_PS, kc_PS_compile, kd_PS_compile, by decide⟩, ⟨_, _, _, rfl, ks_PS_compile⟩, ki_PS_compile⟩
theorem xc_LA_26 : xCV "PatternSearchLaw" 26 m_MO_compile 0 10 := ⟨⟨Or.inl (x_in (i := 865) (w := .methodLink "PatternSearchLaw" 26 m_MO_compile.1) (by decide +kernel) rfl), kz_MO, kc_MO_compile, kd_MO_compile, by decide⟩, ⟨_, _, _, rfl, ks_MO_compile⟩, ki_MO_compile⟩
theorem xc_LA_27 : xCV "PatternSearchLaw" 27 m_PS_fault 0 9 := ⟨⟨Or.inl (x_in (i := 632) (w := .methodLink "PatternSearchLaw" 27 m_PS_fault.1) (by decide +kernel) rfl), kz_PS, kc_PS_fault, kd_PS_fault, by decide⟩, ⟨_, _, _, rfl, ks_PS_fault⟩, ki_PS_fault⟩
theorem xc_LA_30 : xCV "PatternSearchLaw" 30 m_MO_fault 0 10 := ⟨⟨Or.inl (x_in (i := 949) (w := .methodLink "PatternSearchLaw" 30 m_MO_fault.1) (by decide +kernel) rfl), kz_MO, kc_MO_fault, kd_MO_fault, by decide⟩, ⟨_, _, _, rfl, ks_MO_fault⟩, ki_MO_fault⟩
theorem xc_LA_31 : xCV "PatternSearchLaw" 31 m_PS_text 1 9 := ⟨⟨Or.inl (x_in (i := 636) (w := .methodLink "PatternSearchLaw" 31 m_PS_text.1) (by decide +kernel) rfl), kz_PS, kc_PS_text, kd_PS_text, by decide⟩, ⟨_, _, _, rfl, ks_PS_text⟩, ki_PS_text⟩
theorem xc_LA_34 : xCV "PatternSearchLaw" 34 m_MO_text 1 10 := ⟨⟨Or.inl (x_in (i := 953) (w := .methodLink "PatternSearchLaw" 34 m_MO_text.1) (by decide +kernel) rfl), kz_MO, kc_MO_text, kd_MO_text, by decide⟩, ⟨_, _, _, rfl, ks_MO_text⟩, ki_MO_text⟩
theorem xc_LA_35 : xCV "PatternSearchLaw" 35 m_PS_newText 0 9 := ⟨⟨Or.inl (x_in (i := 640) (w := .methodLink "PatternSearchLaw" 35 m_PS_newText.1) (by decide +kernel) rfl), kz_PS, kc_PS_newText, kd_PS_newText, by decide⟩, ⟨_, _, _, rfl, ks_PS_newText⟩, ki_PS_newText⟩
theorem xc_LA_38 : xCV "PatternSearchLaw" 38 m_MO_newText 0 10 := ⟨⟨Or.inl (x_in (i := 957) (w := .methodLink "PatternSearchLaw" 38 m_MO_newText.1) (by decide +kernel) rfl), kz_MO, kc_MO_newText, kd_MO_newText, by decide⟩, ⟨_, _, _, rfl, ks_MO_newText⟩, ki_MO_newText⟩
theorem xc_LA_39 : xCV "PatternSearchLaw" 39 m_PS_find 1 9 := ⟨⟨Or.inl (x_in (i := 644) (w := .methodLink "PatternSearchLaw" 39 m_PS_find.1) (by decide +kernel) rfl), kz_PS, kc_PS_find, kd_PS_find, by decide⟩, ⟨_, _, _, rfl, ks_PS_find⟩, ki_PS_find⟩
theorem xc_LA_42 : xCV "PatternSearchLaw" 42 m_MO_find 1 10 := ⟨⟨Or.inl (x_in (i := 961) (w := .methodLink "PatternSearchLaw" 42 m_MO_find.1) (by decide +kernel) rfl), kz_MO, kc_MO_find, kd_MO_find, by decide⟩, ⟨_, _, _, rfl, ks_MO_find⟩, ki_MO_find⟩
theorem xc_LA_43 : xCV "PatternSearchLaw" 43 m_PS_group 2 9 := ⟨⟨Or.inl (x_in (i := 706) (w := .methodLink "PatternSearchLaw" 43 m_PS_group.1) (by decide +kernel) rfl), kz_PS, kc_PS_group, kd_PS_group, by decide⟩, ⟨_, _, _, rfl, ks_PS_group⟩, ki_PS_group⟩
theorem xc_LA_47 : xCV "PatternSearchLaw" 47 m_MO_group 2 10 := ⟨⟨Or.inl (x_in (i := 981) (w := .methodLink "PatternSearchLaw" 47 m_MO_group.1) (by decide +kernel) rfl), kz_MO, kc_MO_group, kd_MO_group, by decide⟩, ⟨_, _, _, rfl, ks_MO_group⟩, ki_MO_group⟩
theorem xc_LA_48 : xCV "PatternSearchLaw" 48 m_PS_whole 2 9 := ⟨⟨Or.inl (x_in (i := 718) (w := .methodLink "PatternSearchLaw" 48 m_PS_whole.1) (by decide +kernel) rfl), kz_PS, kc_PS_whole, kd_PS_whole, by decide⟩, ⟨_, _, _, rfl, ks_PS_whole⟩, ki_PS_whole⟩
theorem xc_LA_52 : xCV "PatternSearchLaw" 52 m_MO_whole 2 10 := ⟨⟨Or.inl (x_in (i := 985) (w := .methodLink "PatternSearchLaw" 52 m_MO_whole.1) (by decide +kernel) rfl), kz_MO, kc_MO_whole, kd_MO_whole, by decide⟩, ⟨_, _, _, rfl, ks_MO_whole⟩, ki_MO_whole⟩
theorem xc_LA_53 : xCV "PatternSearchLaw" 53 m_PS_matches 0 9 := ⟨⟨Or.inl (x_in (i := 727) (w := .methodLink "PatternSearchLaw" 53 m_PS_matches.1) (by decide +kernel) rfl), kz_PS, kc_PS_matches, kd_PS_matches, by decide⟩, ⟨_, _, _, rfl, ks_PS_matches⟩, ki_PS_matches⟩
theorem xc_LA_56 : xCV "PatternSearchLaw" 56 m_MO_matches 0 10 := ⟨⟨Or.inl (x_in (i := 989) (w := .methodLink "PatternSearchLaw" 56 m_MO_matches.1) (by decide +kernel) rfl), kz_MO, kc_MO_matches, kd_MO_matches, by decide⟩, ⟨_, _, _, rfl, ks_MO_matches⟩, ki_MO_matches⟩
theorem xc_LA_57 : xCV "PatternSearchLaw" 57 m_PS_replace 1 9 := ⟨⟨Or.inl (x_in (i := 737) (w := .methodLink "PatternSearchLaw" 57 m_PS_replace.1) (by decide +kernel) rfl), kz_PS, kc_PS_replace, kd_PS_replace, by decide⟩, ⟨_, _, _, rfl, ks_PS_replace⟩, ki_PS_replace⟩
theorem xc_LA_60 : xCV "PatternSearchLaw" 60 m_MO_replace 1 10 := ⟨⟨Or.inl (x_in (i := 993) (w := .methodLink "PatternSearchLaw" 60 m_MO_replace.1) (by decide +kernel) rfl), kz_MO, kc_MO_replace, kd_MO_replace, by decide⟩, ⟨_, _, _, rfl, ks_MO_replace⟩, ki_MO_replace⟩
theorem xc_LA_61 : xCV "PatternSearchLaw" 61 m_PS_output 1 9 := ⟨⟨Or.inl (x_in (i := 747) (w := .methodLink "PatternSearchLaw" 61 m_PS_output.1) (by decide +kernel) rfl), kz_PS, kc_PS_output, kd_PS_output, by decide⟩, ⟨_, _, _, rfl, ks_PS_output⟩, ki_PS_output⟩
theorem xc_LA_64 : xCV "PatternSearchLaw" 64 m_MO_output 1 10 := ⟨⟨Or.inl (x_in (i := 1001) (w := .methodLink "PatternSearchLaw" 64 m_MO_output.1) (by decide +kernel) rfl), kz_MO, kc_MO_output, kd_MO_output, by decide⟩, ⟨_, _, _, rfl, ks_MO_output⟩, ki_MO_output⟩
theorem xc_LA_65 : xCV "PatternSearchLaw" 65 m_PS_state 1 9 := ⟨⟨Or.inl (x_in (i := 752) (w := .methodLink "PatternSearchLaw" 65 m_PS_state.1) (by decide +kernel) rfl), kz_PS, kc_PS_state, kd_PS_state, by decide⟩, ⟨_, _, _, rfl, ks_PS_state⟩, ki_PS_state⟩
theorem xc_LA_68 : xCV "PatternSearchLaw" 68 m_MO_state 1 10 := ⟨⟨Or.inl (x_in (i := 1005) (w := .methodLink "PatternSearchLaw" 68 m_MO_state.1) (by decide +kernel) rfl), kz_MO, kc_MO_state, kd_MO_state, by decide⟩, ⟨_, _, _, rfl, ks_MO_state⟩, ki_MO_state⟩
theorem xo_MO_1 : xO "PatternSearchModel" 1 := ⟨x_in (i := 761) (w := .methodLink "PatternSearchModel" 1 Lib.objectInit) (by decide +kernel) rfl, ki_obj, kc_obj⟩
theorem xc_MO_68 : xCS "PatternSearchModel" 68 m_MO_is 5 := ⟨⟨Or.inl (x_in (i := 881) (w := .methodLink "PatternSearchModel" 68 m_MO_is.1) (by decide +kernel) rfl), kz_MO, kc_MO_is, kd_MO_is, by decide⟩, ki_MO_is⟩
theorem xc_MO_79 : xCS "PatternSearchModel" 79 m_MO_least 1 := ⟨⟨Or.inl (x_in (i := 896) (w := .methodLink "PatternSearchModel" 79 m_MO_least.1) (by decide +kernel) rfl), kz_MO, kc_MO_least, kd_MO_least, by decide⟩, ki_MO_least⟩
theorem xc_MO_90 : xCV "PatternSearchModel" 90 m_MO_at 1 10 := ⟨⟨Or.inl (x_in (i := 877) (w := .methodLink "PatternSearchModel" 90 m_MO_at.1) (by decide +kernel) rfl), kz_MO, kc_MO_at, kd_MO_at, by decide⟩, ⟨_, _, _, rfl, ks_MO_at⟩, ki_MO_at⟩
theorem xc_MO_93 : xCS "PatternSearchModel" 93 m_MO_inClass 1 := ⟨⟨Or.inl (x_in (i := 910) (w := .methodLink "PatternSearchModel" 93 m_MO_inClass.1) (by decide +kernel) rfl), kz_MO, kc_MO_inClass, kd_MO_inClass, by decide⟩, ki_MO_inClass⟩
theorem xc_MO_97 : xCV "PatternSearchModel" 97 m_MO_repeat 4 10 := ⟨⟨Or.inl (x_in (i := 892) (w := .methodLink "PatternSearchModel" 97 m_MO_repeat.1) (by decide +kernel) rfl), kz_MO, kc_MO_repeat, kd_MO_repeat, by decide⟩, ⟨_, _, _, rfl, ks_MO_repeat⟩, ki_MO_repeat⟩
theorem xc_MO_101 : xCV "PatternSearchModel" 101 m_MO_passBraces 1 10 := ⟨⟨Or.inl (x_in (i := 888) (w := .methodLink "PatternSearchModel" 101 m_MO_passBraces.1) (by decide +kernel) rfl), kz_MO, kc_MO_passBraces, kd_MO_passBraces, by decide⟩, ⟨_, _, _, rfl, ks_MO_passBraces⟩, ki_MO_passBraces⟩
theorem xc_MO_107 : xCV "PatternSearchModel" 107 m_MO_openRow 1 10 := ⟨⟨Or.inl (x_in (i := 873) (w := .methodLink "PatternSearchModel" 107 m_MO_openRow.1) (by decide +kernel) rfl), kz_MO, kc_MO_openRow, kd_MO_openRow, by decide⟩, ⟨_, _, _, rfl, ks_MO_openRow⟩, ki_MO_openRow⟩
theorem xc_MO_111 : xCV "PatternSearchModel" 111 m_MO_passRepetition 1 10 := ⟨⟨Or.inl (x_in (i := 884) (w := .methodLink "PatternSearchModel" 111 m_MO_passRepetition.1) (by decide +kernel) rfl), kz_MO, kc_MO_passRepetition, kd_MO_passRepetition, by decide⟩, ⟨_, _, _, rfl, ks_MO_passRepetition⟩, ki_MO_passRepetition⟩
theorem xc_MO_114 : xCV "PatternSearchModel" 114 m_MO_closePiece 1 10 := ⟨⟨Or.inl (x_in (i := 899) (w := .methodLink "PatternSearchModel" 114 m_MO_closePiece.1) (by decide +kernel) rfl), kz_MO, kc_MO_closePiece, kd_MO_closePiece, by decide⟩, ⟨_, _, _, rfl, ks_MO_closePiece⟩, ki_MO_closePiece⟩
theorem xc_MO_117 : xCS "PatternSearchModel" 117 m_MO_plain 1 := ⟨⟨Or.inl (x_in (i := 903) (w := .methodLink "PatternSearchModel" 117 m_MO_plain.1) (by decide +kernel) rfl), kz_MO, kc_MO_plain, kd_MO_plain, by decide⟩, ki_MO_plain⟩
theorem xc_MO_120 : xCV "PatternSearchModel" 120 m_MO_passClass 1 10 := ⟨⟨Or.inl (x_in (i := 906) (w := .methodLink "PatternSearchModel" 120 m_MO_passClass.1) (by decide +kernel) rfl), kz_MO, kc_MO_passClass, kd_MO_passClass, by decide⟩, ⟨_, _, _, rfl, ks_MO_passClass⟩, ki_MO_passClass⟩
theorem xc_MO_129 : xCV "PatternSearchModel" 129 m_MO_add 3 10 := ⟨⟨Or.inl (x_in (i := 921) (w := .methodLink "PatternSearchModel" 129 m_MO_add.1) (by decide +kernel) rfl), kz_MO, kc_MO_add, kd_MO_add, by decide⟩, ⟨_, _, _, rfl, ks_MO_add⟩, ki_MO_add⟩
theorem xc_MO_136 : xCV "PatternSearchModel" 136 m_MO_insert 3 10 := ⟨⟨Or.inl (x_in (i := 929) (w := .methodLink "PatternSearchModel" 136 m_MO_insert.1) (by decide +kernel) rfl), kz_MO, kc_MO_insert, kd_MO_insert, by decide⟩, ⟨_, _, _, rfl, ks_MO_insert⟩, ki_MO_insert⟩
theorem xc_MO_139 : xCV "PatternSearchModel" 139 m_MO_copy 2 10 := ⟨⟨Or.inl (x_in (i := 937) (w := .methodLink "PatternSearchModel" 139 m_MO_copy.1) (by decide +kernel) rfl), kz_MO, kc_MO_copy, kd_MO_copy, by decide⟩, ⟨_, _, _, rfl, ks_MO_copy⟩, ki_MO_copy⟩
theorem xc_MO_143 : xCV "PatternSearchModel" 143 m_MO_times 4 10 := ⟨⟨Or.inl (x_in (i := 933) (w := .methodLink "PatternSearchModel" 143 m_MO_times.1) (by decide +kernel) rfl), kz_MO, kc_MO_times, kd_MO_times, by decide⟩, ⟨_, _, _, rfl, ks_MO_times⟩, ki_MO_times⟩
theorem xc_MO_147 : xCV "PatternSearchModel" 147 m_MO_open 2 10 := ⟨⟨Or.inl (x_in (i := 917) (w := .methodLink "PatternSearchModel" 147 m_MO_open.1) (by decide +kernel) rfl), kz_MO, kc_MO_open, kd_MO_open, by decide⟩, ⟨_, _, _, rfl, ks_MO_open⟩, ki_MO_open⟩
theorem xc_MO_150 : xCV "PatternSearchModel" 150 m_MO_writeRepetition 2 10 := ⟨⟨Or.inl (x_in (i := 925) (w := .methodLink "PatternSearchModel" 150 m_MO_writeRepetition.1) (by decide +kernel) rfl), kz_MO, kc_MO_writeRepetition, kd_MO_writeRepetition, by decide⟩, ⟨_, _, _, rfl, ks_MO_writeRepetition⟩, ki_MO_writeRepetition⟩
theorem xc_MO_154 : xCV "PatternSearchModel" 154 m_MO_nextRow 1 10 := ⟨⟨Or.inl (x_in (i := 941) (w := .methodLink "PatternSearchModel" 154 m_MO_nextRow.1) (by decide +kernel) rfl), kz_MO, kc_MO_nextRow, kd_MO_nextRow, by decide⟩, ⟨_, _, _, rfl, ks_MO_nextRow⟩, ki_MO_nextRow⟩
theorem xc_MO_157 : xCV "PatternSearchModel" 157 m_MO_close 1 10 := ⟨⟨Or.inl (x_in (i := 945) (w := .methodLink "PatternSearchModel" 157 m_MO_close.1) (by decide +kernel) rfl), kz_MO, kc_MO_close, kd_MO_close, by decide⟩, ⟨_, _, _, rfl, ks_MO_close⟩, ki_MO_close⟩
theorem xc_MO_160 : xCV "PatternSearchModel" 160 m_MO_ofClass 2 10 := ⟨⟨Or.inl (x_in (i := 977) (w := .methodLink "PatternSearchModel" 160 m_MO_ofClass.1) (by decide +kernel) rfl), kz_MO, kc_MO_ofClass, kd_MO_ofClass, by decide⟩, ⟨_, _, _, rfl, ks_MO_ofClass⟩, ki_MO_ofClass⟩
theorem xc_MO_167 : xCV "PatternSearchModel" 167 m_MO_takes 2 10 := ⟨⟨Or.inl (x_in (i := 973) (w := .methodLink "PatternSearchModel" 167 m_MO_takes.1) (by decide +kernel) rfl), kz_MO, kc_MO_takes, kd_MO_takes, by decide⟩, ⟨_, _, _, rfl, ks_MO_takes⟩, ki_MO_takes⟩
theorem xc_MO_170 : xCV "PatternSearchModel" 170 m_MO_way 2 10 := ⟨⟨Or.inl (x_in (i := 969) (w := .methodLink "PatternSearchModel" 170 m_MO_way.1) (by decide +kernel) rfl), kz_MO, kc_MO_way, kd_MO_way, by decide⟩, ⟨_, _, _, rfl, ks_MO_way⟩, ki_MO_way⟩
theorem xc_MO_176 : xCV "PatternSearchModel" 176 m_MO_check 0 10 := ⟨⟨Or.inl (x_in (i := 869) (w := .methodLink "PatternSearchModel" 176 m_MO_check.1) (by decide +kernel) rfl), kz_MO, kc_MO_check, kd_MO_check, by decide⟩, ⟨_, _, _, rfl, ks_MO_check⟩, ki_MO_check⟩
theorem xc_MO_180 : xCV "PatternSearchModel" 180 m_MO_write 0 10 := ⟨⟨Or.inl (x_in (i := 913) (w := .methodLink "PatternSearchModel" 180 m_MO_write.1) (by decide +kernel) rfl), kz_MO, kc_MO_write, kd_MO_write, by decide⟩, ⟨_, _, _, rfl, ks_MO_write⟩, ki_MO_write⟩
theorem xc_MO_186 : xCV "PatternSearchModel" 186 m_MO_search 1 10 := ⟨⟨Or.inl (x_in (i := 965) (w := .methodLink "PatternSearchModel" 186 m_MO_search.1) (by decide +kernel) rfl), kz_MO, kc_MO_search, kd_MO_search, by decide⟩, ⟨_, _, _, rfl, ks_MO_search⟩, ki_MO_search⟩
theorem xc_MO_192 : xCV "PatternSearchModel" 192 m_MO_put 2 10 := ⟨⟨Or.inl (x_in (i := 997) (w := .methodLink "PatternSearchModel" 192 m_MO_put.1) (by decide +kernel) rfl), kz_MO, kc_MO_put, kd_MO_put, by decide⟩, ⟨_, _, _, rfl, ks_MO_put⟩, ki_MO_put⟩
theorem ka_int : Cond.arrayClass .int ∈ xGT := x_in (i := 93) (w := .arrayClass .int) (by decide +kernel) rfl
theorem ka_long : Cond.arrayClass .long ∈ xGT := x_in (i := 137) (w := .arrayClass .long) (by decide +kernel) rfl
theorem ka_boolean : Cond.arrayClass .boolean ∈ xGT := x_in (i := 856) (w := .arrayClass .boolean) (by decide +kernel) rfl
end
section
theorem d_PS_init_0 : decode m_PS_init.2.1 0 = .ok (.aload_n 0, 1) := by decide +kernel
theorem d_PS_init_1 : decode m_PS_init.2.1 1 = .ok (.invokespecial 1, 3) := by decide +kernel
theorem d_PS_init_4 : decode m_PS_init.2.1 4 = .ok (.aload_n 0, 1) := by decide +kernel
theorem d_PS_init_5 : decode m_PS_init.2.1 5 = .ok (.new 7, 3) := by decide +kernel
theorem d_PS_init_8 : decode m_PS_init.2.1 8 = .ok (.dup, 1) := by decide +kernel
theorem d_PS_init_9 : decode m_PS_init.2.1 9 = .ok (.bipush 28, 2) := by decide +kernel
theorem d_PS_init_11 : decode m_PS_init.2.1 11 = .ok (.invokespecial 11, 3) := by decide +kernel
theorem d_PS_init_14 : decode m_PS_init.2.1 14 = .ok (.putfield 14, 3) := by decide +kernel
theorem d_PS_init_17 : decode m_PS_init.2.1 17 = .ok (.aload_n 0, 1) := by decide +kernel
theorem d_PS_init_18 : decode m_PS_init.2.1 18 = .ok (.new 7, 3) := by decide +kernel
theorem d_PS_init_21 : decode m_PS_init.2.1 21 = .ok (.dup, 1) := by decide +kernel
theorem d_PS_init_22 : decode m_PS_init.2.1 22 = .ok (.bipush 30, 2) := by decide +kernel
theorem d_PS_init_24 : decode m_PS_init.2.1 24 = .ok (.invokespecial 11, 3) := by decide +kernel
theorem d_PS_init_27 : decode m_PS_init.2.1 27 = .ok (.putfield 18, 3) := by decide +kernel
theorem d_PS_init_30 : decode m_PS_init.2.1 30 = .ok (.aload_n 0, 1) := by decide +kernel
theorem d_PS_init_31 : decode m_PS_init.2.1 31 = .ok (.new 7, 3) := by decide +kernel
theorem d_PS_init_34 : decode m_PS_init.2.1 34 = .ok (.dup, 1) := by decide +kernel
theorem d_PS_init_35 : decode m_PS_init.2.1 35 = .ok (.bipush 30, 2) := by decide +kernel
theorem d_PS_init_37 : decode m_PS_init.2.1 37 = .ok (.invokespecial 11, 3) := by decide +kernel
theorem d_PS_init_40 : decode m_PS_init.2.1 40 = .ok (.putfield 21, 3) := by decide +kernel
theorem d_PS_init_43 : decode m_PS_init.2.1 43 = .ok (.aload_n 0, 1) := by decide +kernel
theorem d_PS_init_44 : decode m_PS_init.2.1 44 = .ok (.new 24, 3) := by decide +kernel
theorem d_PS_init_47 : decode m_PS_init.2.1 47 = .ok (.dup, 1) := by decide +kernel
theorem d_PS_init_48 : decode m_PS_init.2.1 48 = .ok (.invokespecial 26, 3) := by decide +kernel
theorem d_PS_init_51 : decode m_PS_init.2.1 51 = .ok (.putfield 27, 3) := by decide +kernel
theorem d_PS_init_54 : decode m_PS_init.2.1 54 = .ok (.aload_n 0, 1) := by decide +kernel
theorem d_PS_init_55 : decode m_PS_init.2.1 55 = .ok (.new 31, 3) := by decide +kernel
theorem d_PS_init_58 : decode m_PS_init.2.1 58 = .ok (.dup, 1) := by decide +kernel
theorem d_PS_init_59 : decode m_PS_init.2.1 59 = .ok (.invokespecial 33, 3) := by decide +kernel
theorem d_PS_init_62 : decode m_PS_init.2.1 62 = .ok (.putfield 34, 3) := by decide +kernel
theorem d_PS_init_65 : decode m_PS_init.2.1 65 = .ok (.aload_n 0, 1) := by decide +kernel
theorem d_PS_init_66 : decode m_PS_init.2.1 66 = .ok (.new 31, 3) := by decide +kernel
theorem d_PS_init_69 : decode m_PS_init.2.1 69 = .ok (.dup, 1) := by decide +kernel
theorem d_PS_init_70 : decode m_PS_init.2.1 70 = .ok (.invokespecial 33, 3) := by decide +kernel
theorem d_PS_init_73 : decode m_PS_init.2.1 73 = .ok (.putfield 38, 3) := by decide +kernel
theorem d_PS_init_76 : decode m_PS_init.2.1 76 = .ok (.aload_n 0, 1) := by decide +kernel
theorem d_PS_init_77 : decode m_PS_init.2.1 77 = .ok (.iconst 0, 1) := by decide +kernel
theorem d_PS_init_78 : decode m_PS_init.2.1 78 = .ok (.putfield 41, 3) := by decide +kernel
theorem d_PS_init_81 : decode m_PS_init.2.1 81 = .ok (.aload_n 0, 1) := by decide +kernel
theorem d_PS_init_82 : decode m_PS_init.2.1 82 = .ok (.iconst 0, 1) := by decide +kernel
theorem d_PS_init_83 : decode m_PS_init.2.1 83 = .ok (.putfield 45, 3) := by decide +kernel
theorem d_PS_init_86 : decode m_PS_init.2.1 86 = .ok (.return_, 1) := by decide +kernel
theorem d_SI_init_0 : decode m_SI_init.2.1 0 = .ok (.aload_n 0, 1) := by decide +kernel
theorem d_SI_init_1 : decode m_SI_init.2.1 1 = .ok (.invokespecial 3, 3) := by decide +kernel
theorem d_SI_init_4 : decode m_SI_init.2.1 4 = .ok (.aload_n 0, 1) := by decide +kernel
theorem d_SI_init_5 : decode m_SI_init.2.1 5 = .ok (.iload_n 1, 1) := by decide +kernel
theorem d_SI_init_6 : decode m_SI_init.2.1 6 = .ok (.newarray .int, 2) := by decide +kernel
theorem d_SI_init_8 : decode m_SI_init.2.1 8 = .ok (.putfield 9, 3) := by decide +kernel
theorem d_SI_init_11 : decode m_SI_init.2.1 11 = .ok (.aload_n 0, 1) := by decide +kernel
theorem d_SI_init_12 : decode m_SI_init.2.1 12 = .ok (.iconst 0, 1) := by decide +kernel
theorem d_SI_init_13 : decode m_SI_init.2.1 13 = .ok (.putfield 15, 3) := by decide +kernel
theorem d_SI_init_16 : decode m_SI_init.2.1 16 = .ok (.return_, 1) := by decide +kernel
theorem d_BO_init_0 : decode m_BO_init.2.1 0 = .ok (.aload_n 0, 1) := by decide +kernel
theorem d_BO_init_1 : decode m_BO_init.2.1 1 = .ok (.invokespecial 3, 3) := by decide +kernel
theorem d_BO_init_4 : decode m_BO_init.2.1 4 = .ok (.aload_n 0, 1) := by decide +kernel
theorem d_BO_init_5 : decode m_BO_init.2.1 5 = .ok (.bipush 14, 2) := by decide +kernel
theorem d_BO_init_7 : decode m_BO_init.2.1 7 = .ok (.newarray .int, 2) := by decide +kernel
theorem d_BO_init_9 : decode m_BO_init.2.1 9 = .ok (.putfield 9, 3) := by decide +kernel
theorem d_BO_init_12 : decode m_BO_init.2.1 12 = .ok (.aload_n 0, 1) := by decide +kernel
theorem d_BO_init_13 : decode m_BO_init.2.1 13 = .ok (.getfield 9, 3) := by decide +kernel
theorem d_BO_init_16 : decode m_BO_init.2.1 16 = .ok (.bipush (-2), 2) := by decide +kernel
theorem d_BO_init_18 : decode m_BO_init.2.1 18 = .ok (.invokestatic 15, 3) := by decide +kernel
theorem d_BO_init_21 : decode m_BO_init.2.1 21 = .ok (.return_, 1) := by decide +kernel
theorem d_PS_pattern_0 : decode m_PS_pattern.2.1 0 = .ok (.iload_n 1, 1) := by decide +kernel
theorem d_PS_pattern_1 : decode m_PS_pattern.2.1 1 = .ok (.invokestatic 49, 3) := by decide +kernel
theorem d_PS_pattern_4 : decode m_PS_pattern.2.1 4 = .ok (.ifCond .eq 13, 3) := by decide +kernel
theorem d_PS_pattern_7 : decode m_PS_pattern.2.1 7 = .ok (.aload_n 0, 1) := by decide +kernel
theorem d_PS_pattern_8 : decode m_PS_pattern.2.1 8 = .ok (.getfield 14, 3) := by decide +kernel
theorem d_PS_pattern_11 : decode m_PS_pattern.2.1 11 = .ok (.invokevirtual 53, 3) := by decide +kernel
theorem d_PS_pattern_14 : decode m_PS_pattern.2.1 14 = .ok (.ifCond .eq 5, 3) := by decide +kernel
theorem d_PS_pattern_17 : decode m_PS_pattern.2.1 17 = .ok (.iconst (-1), 1) := by decide +kernel
theorem d_PS_pattern_18 : decode m_PS_pattern.2.1 18 = .ok (.ireturn, 1) := by decide +kernel
theorem d_PS_pattern_19 : decode m_PS_pattern.2.1 19 = .ok (.aload_n 0, 1) := by decide +kernel
theorem d_PS_pattern_20 : decode m_PS_pattern.2.1 20 = .ok (.getfield 14, 3) := by decide +kernel
theorem d_PS_pattern_23 : decode m_PS_pattern.2.1 23 = .ok (.iload_n 1, 1) := by decide +kernel
theorem d_PS_pattern_24 : decode m_PS_pattern.2.1 24 = .ok (.invokevirtual 57, 3) := by decide +kernel
theorem d_PS_pattern_27 : decode m_PS_pattern.2.1 27 = .ok (.aload_n 0, 1) := by decide +kernel
theorem d_PS_pattern_28 : decode m_PS_pattern.2.1 28 = .ok (.iconst 0, 1) := by decide +kernel
theorem d_PS_pattern_29 : decode m_PS_pattern.2.1 29 = .ok (.putfield 41, 3) := by decide +kernel
theorem d_PS_pattern_32 : decode m_PS_pattern.2.1 32 = .ok (.aload_n 0, 1) := by decide +kernel
theorem d_PS_pattern_33 : decode m_PS_pattern.2.1 33 = .ok (.getfield 14, 3) := by decide +kernel
theorem d_PS_pattern_36 : decode m_PS_pattern.2.1 36 = .ok (.invokevirtual 60, 3) := by decide +kernel
theorem d_PS_pattern_39 : decode m_PS_pattern.2.1 39 = .ok (.ireturn, 1) := by decide +kernel
theorem d_PS_isSign_0 : decode m_PS_isSign.2.1 0 = .ok (.iload_n 0, 1) := by decide +kernel
theorem d_PS_isSign_1 : decode m_PS_isSign.2.1 1 = .ok (.bipush 32, 2) := by decide +kernel
theorem d_PS_isSign_3 : decode m_PS_isSign.2.1 3 = .ok (.if_icmp .lt 13, 3) := by decide +kernel
theorem d_PS_isSign_6 : decode m_PS_isSign.2.1 6 = .ok (.iload_n 0, 1) := by decide +kernel
theorem d_PS_isSign_7 : decode m_PS_isSign.2.1 7 = .ok (.bipush 126, 2) := by decide +kernel
theorem d_PS_isSign_9 : decode m_PS_isSign.2.1 9 = .ok (.if_icmp .gt 7, 3) := by decide +kernel
theorem d_PS_isSign_12 : decode m_PS_isSign.2.1 12 = .ok (.iconst 1, 1) := by decide +kernel
theorem d_PS_isSign_13 : decode m_PS_isSign.2.1 13 = .ok (.goto 4, 3) := by decide +kernel
theorem d_PS_isSign_16 : decode m_PS_isSign.2.1 16 = .ok (.iconst 0, 1) := by decide +kernel
theorem d_PS_isSign_17 : decode m_PS_isSign.2.1 17 = .ok (.ireturn, 1) := by decide +kernel
theorem d_SI_isFull_0 : decode m_SI_isFull.2.1 0 = .ok (.aload_n 0, 1) := by decide +kernel
theorem d_SI_isFull_1 : decode m_SI_isFull.2.1 1 = .ok (.getfield 15, 3) := by decide +kernel
theorem d_SI_isFull_4 : decode m_SI_isFull.2.1 4 = .ok (.aload_n 0, 1) := by decide +kernel
theorem d_SI_isFull_5 : decode m_SI_isFull.2.1 5 = .ok (.getfield 9, 3) := by decide +kernel
theorem d_SI_isFull_8 : decode m_SI_isFull.2.1 8 = .ok (.arraylength, 1) := by decide +kernel
theorem d_SI_isFull_9 : decode m_SI_isFull.2.1 9 = .ok (.if_icmp .lt 7, 3) := by decide +kernel
theorem d_SI_isFull_12 : decode m_SI_isFull.2.1 12 = .ok (.iconst 1, 1) := by decide +kernel
theorem d_SI_isFull_13 : decode m_SI_isFull.2.1 13 = .ok (.goto 4, 3) := by decide +kernel
theorem d_SI_isFull_16 : decode m_SI_isFull.2.1 16 = .ok (.iconst 0, 1) := by decide +kernel
theorem d_SI_isFull_17 : decode m_SI_isFull.2.1 17 = .ok (.ireturn, 1) := by decide +kernel
theorem d_SI_add_0 : decode m_SI_add.2.1 0 = .ok (.aload_n 0, 1) := by decide +kernel
theorem d_SI_add_1 : decode m_SI_add.2.1 1 = .ok (.invokevirtual 19, 3) := by decide +kernel
theorem d_SI_add_4 : decode m_SI_add.2.1 4 = .ok (.ifCond .ne 23, 3) := by decide +kernel
theorem d_SI_add_7 : decode m_SI_add.2.1 7 = .ok (.aload_n 0, 1) := by decide +kernel
theorem d_SI_add_8 : decode m_SI_add.2.1 8 = .ok (.getfield 9, 3) := by decide +kernel
theorem d_SI_add_11 : decode m_SI_add.2.1 11 = .ok (.aload_n 0, 1) := by decide +kernel
theorem d_SI_add_12 : decode m_SI_add.2.1 12 = .ok (.getfield 15, 3) := by decide +kernel
theorem d_SI_add_15 : decode m_SI_add.2.1 15 = .ok (.iload_n 1, 1) := by decide +kernel
theorem d_SI_add_16 : decode m_SI_add.2.1 16 = .ok (.iastore, 1) := by decide +kernel
theorem d_SI_add_17 : decode m_SI_add.2.1 17 = .ok (.aload_n 0, 1) := by decide +kernel
theorem d_SI_add_18 : decode m_SI_add.2.1 18 = .ok (.dup, 1) := by decide +kernel
theorem d_SI_add_19 : decode m_SI_add.2.1 19 = .ok (.getfield 15, 3) := by decide +kernel
theorem d_SI_add_22 : decode m_SI_add.2.1 22 = .ok (.iconst 1, 1) := by decide +kernel
theorem d_SI_add_23 : decode m_SI_add.2.1 23 = .ok (.iadd, 1) := by decide +kernel
theorem d_SI_add_24 : decode m_SI_add.2.1 24 = .ok (.putfield 15, 3) := by decide +kernel
theorem d_SI_add_27 : decode m_SI_add.2.1 27 = .ok (.return_, 1) := by decide +kernel
theorem d_SI_length_0 : decode m_SI_length.2.1 0 = .ok (.aload_n 0, 1) := by decide +kernel
theorem d_SI_length_1 : decode m_SI_length.2.1 1 = .ok (.getfield 15, 3) := by decide +kernel
theorem d_SI_length_4 : decode m_SI_length.2.1 4 = .ok (.ireturn, 1) := by decide +kernel
theorem d_PS_newPattern_0 : decode m_PS_newPattern.2.1 0 = .ok (.aload_n 0, 1) := by decide +kernel
theorem d_PS_newPattern_1 : decode m_PS_newPattern.2.1 1 = .ok (.getfield 14, 3) := by decide +kernel
theorem d_PS_newPattern_4 : decode m_PS_newPattern.2.1 4 = .ok (.invokevirtual 64, 3) := by decide +kernel
theorem d_PS_newPattern_7 : decode m_PS_newPattern.2.1 7 = .ok (.aload_n 0, 1) := by decide +kernel
theorem d_PS_newPattern_8 : decode m_PS_newPattern.2.1 8 = .ok (.iconst 0, 1) := by decide +kernel
theorem d_PS_newPattern_9 : decode m_PS_newPattern.2.1 9 = .ok (.putfield 41, 3) := by decide +kernel
theorem d_PS_newPattern_12 : decode m_PS_newPattern.2.1 12 = .ok (.iconst 0, 1) := by decide +kernel
theorem d_PS_newPattern_13 : decode m_PS_newPattern.2.1 13 = .ok (.ireturn, 1) := by decide +kernel
theorem d_SI_clear_0 : decode m_SI_clear.2.1 0 = .ok (.aload_n 0, 1) := by decide +kernel
theorem d_SI_clear_1 : decode m_SI_clear.2.1 1 = .ok (.iconst 0, 1) := by decide +kernel
theorem d_SI_clear_2 : decode m_SI_clear.2.1 2 = .ok (.putfield 15, 3) := by decide +kernel
theorem d_SI_clear_5 : decode m_SI_clear.2.1 5 = .ok (.return_, 1) := by decide +kernel
theorem d_PS_compile_0 : decode m_PS_compile.2.1 0 = .ok (.aload_n 0, 1) := by decide +kernel
theorem d_PS_compile_1 : decode m_PS_compile.2.1 1 = .ok (.iconst 0, 1) := by decide +kernel
theorem d_PS_compile_2 : decode m_PS_compile.2.1 2 = .ok (.putfield 41, 3) := by decide +kernel
theorem d_PS_compile_5 : decode m_PS_compile.2.1 5 = .ok (.new 67, 3) := by decide +kernel
theorem d_PS_compile_8 : decode m_PS_compile.2.1 8 = .ok (.dup, 1) := by decide +kernel
theorem d_PS_compile_9 : decode m_PS_compile.2.1 9 = .ok (.aload_n 0, 1) := by decide +kernel
theorem d_PS_compile_10 : decode m_PS_compile.2.1 10 = .ok (.getfield 14, 3) := by decide +kernel
theorem d_PS_compile_13 : decode m_PS_compile.2.1 13 = .ok (.invokespecial 69, 3) := by decide +kernel
theorem d_PS_compile_16 : decode m_PS_compile.2.1 16 = .ok (.astore_n 1, 1) := by decide +kernel
theorem d_PS_compile_17 : decode m_PS_compile.2.1 17 = .ok (.aload_n 1, 1) := by decide +kernel
theorem d_PS_compile_18 : decode m_PS_compile.2.1 18 = .ok (.invokevirtual 72, 3) := by decide +kernel
theorem d_PS_compile_21 : decode m_PS_compile.2.1 21 = .ok (.astore_n 2, 1) := by decide +kernel
theorem d_PS_compile_22 : decode m_PS_compile.2.1 22 = .ok (.aload_n 1, 1) := by decide +kernel
theorem d_PS_compile_23 : decode m_PS_compile.2.1 23 = .ok (.invokevirtual 76, 3) := by decide +kernel
theorem d_PS_compile_26 : decode m_PS_compile.2.1 26 = .ok (.bipush (-2), 2) := by decide +kernel
theorem d_PS_compile_28 : decode m_PS_compile.2.1 28 = .ok (.if_icmp .eq 6, 3) := by decide +kernel
theorem d_PS_compile_31 : decode m_PS_compile.2.1 31 = .ok (.bipush (-3), 2) := by decide +kernel
theorem d_PS_compile_33 : decode m_PS_compile.2.1 33 = .ok (.ireturn, 1) := by decide +kernel
theorem d_PS_compile_34 : decode m_PS_compile.2.1 34 = .ok (.aload_n 1, 1) := by decide +kernel
theorem d_PS_compile_35 : decode m_PS_compile.2.1 35 = .ok (.invokevirtual 79, 3) := by decide +kernel
theorem d_PS_compile_38 : decode m_PS_compile.2.1 38 = .ok (.ifCond .eq 6, 3) := by decide +kernel
theorem d_PS_compile_41 : decode m_PS_compile.2.1 41 = .ok (.bipush (-4), 2) := by decide +kernel
theorem d_PS_compile_43 : decode m_PS_compile.2.1 43 = .ok (.ireturn, 1) := by decide +kernel
theorem d_PS_compile_44 : decode m_PS_compile.2.1 44 = .ok (.aload_n 2, 1) := by decide +kernel
theorem d_PS_compile_45 : decode m_PS_compile.2.1 45 = .ok (.invokevirtual 82, 3) := by decide +kernel
theorem d_PS_compile_48 : decode m_PS_compile.2.1 48 = .ok (.bipush 120, 2) := by decide +kernel
theorem d_PS_compile_50 : decode m_PS_compile.2.1 50 = .ok (.if_icmp .le 6, 3) := by decide +kernel
theorem d_PS_compile_53 : decode m_PS_compile.2.1 53 = .ok (.bipush (-5), 2) := by decide +kernel
theorem d_PS_compile_55 : decode m_PS_compile.2.1 55 = .ok (.ireturn, 1) := by decide +kernel
theorem d_PS_compile_56 : decode m_PS_compile.2.1 56 = .ok (.aload_n 0, 1) := by decide +kernel
theorem d_PS_compile_57 : decode m_PS_compile.2.1 57 = .ok (.getfield 27, 3) := by decide +kernel
theorem d_PS_compile_60 : decode m_PS_compile.2.1 60 = .ok (.aload_n 2, 1) := by decide +kernel
theorem d_PS_compile_61 : decode m_PS_compile.2.1 61 = .ok (.invokevirtual 87, 3) := by decide +kernel
theorem d_PS_compile_64 : decode m_PS_compile.2.1 64 = .ok (.aload_n 0, 1) := by decide +kernel
theorem d_PS_compile_65 : decode m_PS_compile.2.1 65 = .ok (.aload_n 2, 1) := by decide +kernel
theorem d_PS_compile_66 : decode m_PS_compile.2.1 66 = .ok (.invokevirtual 82, 3) := by decide +kernel
theorem d_PS_compile_69 : decode m_PS_compile.2.1 69 = .ok (.putfield 45, 3) := by decide +kernel
theorem d_PS_compile_72 : decode m_PS_compile.2.1 72 = .ok (.aload_n 0, 1) := by decide +kernel
theorem d_PS_compile_73 : decode m_PS_compile.2.1 73 = .ok (.iconst 1, 1) := by decide +kernel
theorem d_PS_compile_74 : decode m_PS_compile.2.1 74 = .ok (.putfield 41, 3) := by decide +kernel
theorem d_PS_compile_77 : decode m_PS_compile.2.1 77 = .ok (.aload_n 0, 1) := by decide +kernel
theorem d_PS_compile_78 : decode m_PS_compile.2.1 78 = .ok (.getfield 34, 3) := by decide +kernel
theorem d_PS_compile_81 : decode m_PS_compile.2.1 81 = .ok (.invokevirtual 91, 3) := by decide +kernel
theorem d_PS_compile_84 : decode m_PS_compile.2.1 84 = .ok (.aload_n 1, 1) := by decide +kernel
theorem d_PS_compile_85 : decode m_PS_compile.2.1 85 = .ok (.invokevirtual 92, 3) := by decide +kernel
theorem d_PS_compile_88 : decode m_PS_compile.2.1 88 = .ok (.ireturn, 1) := by decide +kernel
theorem d_CH_init_0 : decode m_CH_init.2.1 0 = .ok (.aload_n 0, 1) := by decide +kernel
theorem d_CH_init_1 : decode m_CH_init.2.1 1 = .ok (.invokespecial 1, 3) := by decide +kernel
theorem d_CH_init_4 : decode m_CH_init.2.1 4 = .ok (.return_, 1) := by decide +kernel
theorem d_RO_init_0 : decode m_RO_init.2.1 0 = .ok (.aload_n 0, 1) := by decide +kernel
theorem d_RO_init_1 : decode m_RO_init.2.1 1 = .ok (.invokespecial 1, 3) := by decide +kernel
theorem d_RO_init_4 : decode m_RO_init.2.1 4 = .ok (.aload_n 0, 1) := by decide +kernel
theorem d_RO_init_5 : decode m_RO_init.2.1 5 = .ok (.iconst 1, 1) := by decide +kernel
theorem d_RO_init_6 : decode m_RO_init.2.1 6 = .ok (.putfield 7, 3) := by decide +kernel
theorem d_RO_init_9 : decode m_RO_init.2.1 9 = .ok (.return_, 1) := by decide +kernel
theorem d_SI_at_0 : decode m_SI_at.2.1 0 = .ok (.iload_n 1, 1) := by decide +kernel
theorem d_SI_at_1 : decode m_SI_at.2.1 1 = .ok (.ifCond .lt 20, 3) := by decide +kernel
theorem d_SI_at_4 : decode m_SI_at.2.1 4 = .ok (.iload_n 1, 1) := by decide +kernel
theorem d_SI_at_5 : decode m_SI_at.2.1 5 = .ok (.aload_n 0, 1) := by decide +kernel
theorem d_SI_at_6 : decode m_SI_at.2.1 6 = .ok (.getfield 15, 3) := by decide +kernel
theorem d_SI_at_9 : decode m_SI_at.2.1 9 = .ok (.if_icmp .ge 12, 3) := by decide +kernel
theorem d_SI_at_12 : decode m_SI_at.2.1 12 = .ok (.aload_n 0, 1) := by decide +kernel
theorem d_SI_at_13 : decode m_SI_at.2.1 13 = .ok (.getfield 9, 3) := by decide +kernel
theorem d_SI_at_16 : decode m_SI_at.2.1 16 = .ok (.iload_n 1, 1) := by decide +kernel
theorem d_SI_at_17 : decode m_SI_at.2.1 17 = .ok (.iaload, 1) := by decide +kernel
theorem d_SI_at_18 : decode m_SI_at.2.1 18 = .ok (.goto 5, 3) := by decide +kernel
theorem d_SI_at_21 : decode m_SI_at.2.1 21 = .ok (.bipush (-2), 2) := by decide +kernel
theorem d_SI_at_23 : decode m_SI_at.2.1 23 = .ok (.ireturn, 1) := by decide +kernel
theorem d_AT_init_0 : decode m_AT_init.2.1 0 = .ok (.aload_n 0, 1) := by decide +kernel
theorem d_AT_init_1 : decode m_AT_init.2.1 1 = .ok (.invokespecial 1, 3) := by decide +kernel
theorem d_AT_init_4 : decode m_AT_init.2.1 4 = .ok (.aload_n 0, 1) := by decide +kernel
theorem d_AT_init_5 : decode m_AT_init.2.1 5 = .ok (.iload_n 1, 1) := by decide +kernel
theorem d_AT_init_6 : decode m_AT_init.2.1 6 = .ok (.putfield 7, 3) := by decide +kernel
theorem d_AT_init_9 : decode m_AT_init.2.1 9 = .ok (.return_, 1) := by decide +kernel
theorem d_AT_enclose_0 : decode m_AT_enclose.2.1 0 = .ok (.aload_n 0, 1) := by decide +kernel
theorem d_AT_enclose_1 : decode m_AT_enclose.2.1 1 = .ok (.iload_n 1, 1) := by decide +kernel
theorem d_AT_enclose_2 : decode m_AT_enclose.2.1 2 = .ok (.putfield 22, 3) := by decide +kernel
theorem d_AT_enclose_5 : decode m_AT_enclose.2.1 5 = .ok (.aload_n 0, 1) := by decide +kernel
theorem d_AT_enclose_6 : decode m_AT_enclose.2.1 6 = .ok (.aload_n 2, 1) := by decide +kernel
theorem d_AT_enclose_7 : decode m_AT_enclose.2.1 7 = .ok (.putfield 25, 3) := by decide +kernel
theorem d_AT_enclose_10 : decode m_AT_enclose.2.1 10 = .ok (.return_, 1) := by decide +kernel
theorem d_AT_takeSigns_0 : decode m_AT_takeSigns.2.1 0 = .ok (.iload_n 1, 1) := by decide +kernel
theorem d_AT_takeSigns_1 : decode m_AT_takeSigns.2.1 1 = .ok (.istore_n 3, 1) := by decide +kernel
theorem d_AT_takeSigns_2 : decode m_AT_takeSigns.2.1 2 = .ok (.iload_n 3, 1) := by decide +kernel
theorem d_AT_takeSigns_3 : decode m_AT_takeSigns.2.1 3 = .ok (.iload_n 2, 1) := by decide +kernel
theorem d_AT_takeSigns_4 : decode m_AT_takeSigns.2.1 4 = .ok (.if_icmp .gt 45, 3) := by decide +kernel
theorem d_AT_takeSigns_7 : decode m_AT_takeSigns.2.1 7 = .ok (.iload_n 3, 1) := by decide +kernel
theorem d_AT_takeSigns_8 : decode m_AT_takeSigns.2.1 8 = .ok (.bipush 64, 2) := by decide +kernel
theorem d_AT_takeSigns_10 : decode m_AT_takeSigns.2.1 10 = .ok (.if_icmp .ge 18, 3) := by decide +kernel
theorem d_AT_takeSigns_13 : decode m_AT_takeSigns.2.1 13 = .ok (.aload_n 0, 1) := by decide +kernel
theorem d_AT_takeSigns_14 : decode m_AT_takeSigns.2.1 14 = .ok (.dup, 1) := by decide +kernel
theorem d_AT_takeSigns_15 : decode m_AT_takeSigns.2.1 15 = .ok (.getfield 13, 3) := by decide +kernel
theorem d_AT_takeSigns_18 : decode m_AT_takeSigns.2.1 18 = .ok (.lconst 1, 1) := by decide +kernel
theorem d_AT_takeSigns_19 : decode m_AT_takeSigns.2.1 19 = .ok (.iload_n 3, 1) := by decide +kernel
theorem d_AT_takeSigns_20 : decode m_AT_takeSigns.2.1 20 = .ok (.lshl, 1) := by decide +kernel
theorem d_AT_takeSigns_21 : decode m_AT_takeSigns.2.1 21 = .ok (.lor, 1) := by decide +kernel
theorem d_AT_takeSigns_22 : decode m_AT_takeSigns.2.1 22 = .ok (.putfield 13, 3) := by decide +kernel
theorem d_AT_takeSigns_25 : decode m_AT_takeSigns.2.1 25 = .ok (.goto 18, 3) := by decide +kernel
theorem d_AT_takeSigns_28 : decode m_AT_takeSigns.2.1 28 = .ok (.aload_n 0, 1) := by decide +kernel
theorem d_AT_takeSigns_29 : decode m_AT_takeSigns.2.1 29 = .ok (.dup, 1) := by decide +kernel
theorem d_AT_takeSigns_30 : decode m_AT_takeSigns.2.1 30 = .ok (.getfield 17, 3) := by decide +kernel
theorem d_AT_takeSigns_33 : decode m_AT_takeSigns.2.1 33 = .ok (.lconst 1, 1) := by decide +kernel
theorem d_AT_takeSigns_34 : decode m_AT_takeSigns.2.1 34 = .ok (.iload_n 3, 1) := by decide +kernel
theorem d_AT_takeSigns_35 : decode m_AT_takeSigns.2.1 35 = .ok (.bipush 64, 2) := by decide +kernel
theorem d_AT_takeSigns_37 : decode m_AT_takeSigns.2.1 37 = .ok (.isub, 1) := by decide +kernel
theorem d_AT_takeSigns_38 : decode m_AT_takeSigns.2.1 38 = .ok (.lshl, 1) := by decide +kernel
theorem d_AT_takeSigns_39 : decode m_AT_takeSigns.2.1 39 = .ok (.lor, 1) := by decide +kernel
theorem d_AT_takeSigns_40 : decode m_AT_takeSigns.2.1 40 = .ok (.putfield 17, 3) := by decide +kernel
theorem d_AT_takeSigns_43 : decode m_AT_takeSigns.2.1 43 = .ok (.iinc 3 1, 3) := by decide +kernel
theorem d_AT_takeSigns_46 : decode m_AT_takeSigns.2.1 46 = .ok (.goto (-44), 3) := by decide +kernel
theorem d_AT_takeSigns_49 : decode m_AT_takeSigns.2.1 49 = .ok (.return_, 1) := by decide +kernel
theorem d_AT_takeOthers_0 : decode m_AT_takeOthers.2.1 0 = .ok (.aload_n 0, 1) := by decide +kernel
theorem d_AT_takeOthers_1 : decode m_AT_takeOthers.2.1 1 = .ok (.aload_n 0, 1) := by decide +kernel
theorem d_AT_takeOthers_2 : decode m_AT_takeOthers.2.1 2 = .ok (.getfield 13, 3) := by decide +kernel
theorem d_AT_takeOthers_5 : decode m_AT_takeOthers.2.1 5 = .ok (.ldc2_w 20, 3) := by decide +kernel
theorem d_AT_takeOthers_8 : decode m_AT_takeOthers.2.1 8 = .ok (.lxor, 1) := by decide +kernel
theorem d_AT_takeOthers_9 : decode m_AT_takeOthers.2.1 9 = .ok (.putfield 13, 3) := by decide +kernel
theorem d_AT_takeOthers_12 : decode m_AT_takeOthers.2.1 12 = .ok (.aload_n 0, 1) := by decide +kernel
theorem d_AT_takeOthers_13 : decode m_AT_takeOthers.2.1 13 = .ok (.aload_n 0, 1) := by decide +kernel
theorem d_AT_takeOthers_14 : decode m_AT_takeOthers.2.1 14 = .ok (.getfield 17, 3) := by decide +kernel
theorem d_AT_takeOthers_17 : decode m_AT_takeOthers.2.1 17 = .ok (.ldc2_w 20, 3) := by decide +kernel
theorem d_AT_takeOthers_20 : decode m_AT_takeOthers.2.1 20 = .ok (.lxor, 1) := by decide +kernel
theorem d_AT_takeOthers_21 : decode m_AT_takeOthers.2.1 21 = .ok (.putfield 17, 3) := by decide +kernel
theorem d_AT_takeOthers_24 : decode m_AT_takeOthers.2.1 24 = .ok (.return_, 1) := by decide +kernel
theorem d_PI_init_0 : decode m_PI_init.2.1 0 = .ok (.aload_n 0, 1) := by decide +kernel
theorem d_PI_init_1 : decode m_PI_init.2.1 1 = .ok (.invokespecial 1, 3) := by decide +kernel
theorem d_PI_init_4 : decode m_PI_init.2.1 4 = .ok (.aload_n 0, 1) := by decide +kernel
theorem d_PI_init_5 : decode m_PI_init.2.1 5 = .ok (.iconst 1, 1) := by decide +kernel
theorem d_PI_init_6 : decode m_PI_init.2.1 6 = .ok (.putfield 7, 3) := by decide +kernel
theorem d_PI_init_9 : decode m_PI_init.2.1 9 = .ok (.aload_n 0, 1) := by decide +kernel
theorem d_PI_init_10 : decode m_PI_init.2.1 10 = .ok (.iconst 1, 1) := by decide +kernel
theorem d_PI_init_11 : decode m_PI_init.2.1 11 = .ok (.putfield 13, 3) := by decide +kernel
theorem d_PI_init_14 : decode m_PI_init.2.1 14 = .ok (.aload_n 0, 1) := by decide +kernel
theorem d_PI_init_15 : decode m_PI_init.2.1 15 = .ok (.aload_n 1, 1) := by decide +kernel
theorem d_PI_init_16 : decode m_PI_init.2.1 16 = .ok (.putfield 16, 3) := by decide +kernel
theorem d_PI_init_19 : decode m_PI_init.2.1 19 = .ok (.return_, 1) := by decide +kernel
theorem d_PI_repeatUnbounded_0 : decode m_PI_repeatUnbounded.2.1 0 = .ok (.aload_n 0, 1) := by decide +kernel
theorem d_PI_repeatUnbounded_1 : decode m_PI_repeatUnbounded.2.1 1 = .ok (.iload_n 1, 1) := by decide +kernel
theorem d_PI_repeatUnbounded_2 : decode m_PI_repeatUnbounded.2.1 2 = .ok (.putfield 7, 3) := by decide +kernel
theorem d_PI_repeatUnbounded_5 : decode m_PI_repeatUnbounded.2.1 5 = .ok (.aload_n 0, 1) := by decide +kernel
theorem d_PI_repeatUnbounded_6 : decode m_PI_repeatUnbounded.2.1 6 = .ok (.iconst 1, 1) := by decide +kernel
theorem d_PI_repeatUnbounded_7 : decode m_PI_repeatUnbounded.2.1 7 = .ok (.putfield 20, 3) := by decide +kernel
theorem d_PI_repeatUnbounded_10 : decode m_PI_repeatUnbounded.2.1 10 = .ok (.return_, 1) := by decide +kernel
theorem d_PI_repeat_0 : decode m_PI_repeat.2.1 0 = .ok (.aload_n 0, 1) := by decide +kernel
theorem d_PI_repeat_1 : decode m_PI_repeat.2.1 1 = .ok (.iload_n 1, 1) := by decide +kernel
theorem d_PI_repeat_2 : decode m_PI_repeat.2.1 2 = .ok (.putfield 7, 3) := by decide +kernel
theorem d_PI_repeat_5 : decode m_PI_repeat.2.1 5 = .ok (.aload_n 0, 1) := by decide +kernel
theorem d_PI_repeat_6 : decode m_PI_repeat.2.1 6 = .ok (.iload_n 2, 1) := by decide +kernel
theorem d_PI_repeat_7 : decode m_PI_repeat.2.1 7 = .ok (.putfield 13, 3) := by decide +kernel
theorem d_PI_repeat_10 : decode m_PI_repeat.2.1 10 = .ok (.return_, 1) := by decide +kernel
theorem d_PI_isEndless_0 : decode m_PI_isEndless.2.1 0 = .ok (.aload_n 0, 1) := by decide +kernel
theorem d_PI_isEndless_1 : decode m_PI_isEndless.2.1 1 = .ok (.getfield 20, 3) := by decide +kernel
theorem d_PI_isEndless_4 : decode m_PI_isEndless.2.1 4 = .ok (.ifCond .eq 17, 3) := by decide +kernel
theorem d_PI_isEndless_7 : decode m_PI_isEndless.2.1 7 = .ok (.aload_n 0, 1) := by decide +kernel
theorem d_PI_isEndless_8 : decode m_PI_isEndless.2.1 8 = .ok (.getfield 16, 3) := by decide +kernel
theorem d_PI_isEndless_11 : decode m_PI_isEndless.2.1 11 = .ok (.invokevirtual 30, 3) := by decide +kernel
theorem d_PI_isEndless_14 : decode m_PI_isEndless.2.1 14 = .ok (.ifCond .eq 7, 3) := by decide +kernel
theorem d_PI_isEndless_17 : decode m_PI_isEndless.2.1 17 = .ok (.iconst 1, 1) := by decide +kernel
theorem d_PI_isEndless_18 : decode m_PI_isEndless.2.1 18 = .ok (.goto 4, 3) := by decide +kernel
theorem d_PI_isEndless_21 : decode m_PI_isEndless.2.1 21 = .ok (.iconst 0, 1) := by decide +kernel
theorem d_PI_isEndless_22 : decode m_PI_isEndless.2.1 22 = .ok (.ireturn, 1) := by decide +kernel
theorem d_AT_canBeEmpty_0 : decode m_AT_canBeEmpty.2.1 0 = .ok (.aload_n 0, 1) := by decide +kernel
theorem d_AT_canBeEmpty_1 : decode m_AT_canBeEmpty.2.1 1 = .ok (.getfield 25, 3) := by decide +kernel
theorem d_AT_canBeEmpty_4 : decode m_AT_canBeEmpty.2.1 4 = .ok (.ifnonnull 19, 3) := by decide +kernel
theorem d_AT_canBeEmpty_7 : decode m_AT_canBeEmpty.2.1 7 = .ok (.aload_n 0, 1) := by decide +kernel
theorem d_AT_canBeEmpty_8 : decode m_AT_canBeEmpty.2.1 8 = .ok (.getfield 7, 3) := by decide +kernel
theorem d_AT_canBeEmpty_11 : decode m_AT_canBeEmpty.2.1 11 = .ok (.iconst 1, 1) := by decide +kernel
theorem d_AT_canBeEmpty_12 : decode m_AT_canBeEmpty.2.1 12 = .ok (.if_icmp .eq 7, 3) := by decide +kernel
theorem d_AT_canBeEmpty_15 : decode m_AT_canBeEmpty.2.1 15 = .ok (.iconst 1, 1) := by decide +kernel
theorem d_AT_canBeEmpty_16 : decode m_AT_canBeEmpty.2.1 16 = .ok (.goto 14, 3) := by decide +kernel
theorem d_AT_canBeEmpty_19 : decode m_AT_canBeEmpty.2.1 19 = .ok (.iconst 0, 1) := by decide +kernel
theorem d_AT_canBeEmpty_20 : decode m_AT_canBeEmpty.2.1 20 = .ok (.goto 10, 3) := by decide +kernel
theorem d_AT_canBeEmpty_23 : decode m_AT_canBeEmpty.2.1 23 = .ok (.aload_n 0, 1) := by decide +kernel
theorem d_AT_canBeEmpty_24 : decode m_AT_canBeEmpty.2.1 24 = .ok (.getfield 25, 3) := by decide +kernel
theorem d_AT_canBeEmpty_27 : decode m_AT_canBeEmpty.2.1 27 = .ok (.invokevirtual 37, 3) := by decide +kernel
theorem d_AT_canBeEmpty_30 : decode m_AT_canBeEmpty.2.1 30 = .ok (.ireturn, 1) := by decide +kernel
theorem d_CH_canBeEmpty_0 : decode m_CH_canBeEmpty.2.1 0 = .ok (.aload_n 0, 1) := by decide +kernel
theorem d_CH_canBeEmpty_1 : decode m_CH_canBeEmpty.2.1 1 = .ok (.getfield 20, 3) := by decide +kernel
theorem d_CH_canBeEmpty_4 : decode m_CH_canBeEmpty.2.1 4 = .ok (.ireturn, 1) := by decide +kernel
theorem d_RO_add_0 : decode m_RO_add.2.1 0 = .ok (.aload_n 0, 1) := by decide +kernel
theorem d_RO_add_1 : decode m_RO_add.2.1 1 = .ok (.dup, 1) := by decide +kernel
theorem d_RO_add_2 : decode m_RO_add.2.1 2 = .ok (.getfield 13, 3) := by decide +kernel
theorem d_RO_add_5 : decode m_RO_add.2.1 5 = .ok (.aload_n 1, 1) := by decide +kernel
theorem d_RO_add_6 : decode m_RO_add.2.1 6 = .ok (.invokevirtual 17, 3) := by decide +kernel
theorem d_RO_add_9 : decode m_RO_add.2.1 9 = .ok (.iadd, 1) := by decide +kernel
theorem d_RO_add_10 : decode m_RO_add.2.1 10 = .ok (.putfield 13, 3) := by decide +kernel
theorem d_RO_add_13 : decode m_RO_add.2.1 13 = .ok (.aload_n 0, 1) := by decide +kernel
theorem d_RO_add_14 : decode m_RO_add.2.1 14 = .ok (.aload_n 0, 1) := by decide +kernel
theorem d_RO_add_15 : decode m_RO_add.2.1 15 = .ok (.getfield 7, 3) := by decide +kernel
theorem d_RO_add_18 : decode m_RO_add.2.1 18 = .ok (.ifCond .eq 14, 3) := by decide +kernel
theorem d_RO_add_21 : decode m_RO_add.2.1 21 = .ok (.aload_n 1, 1) := by decide +kernel
theorem d_RO_add_22 : decode m_RO_add.2.1 22 = .ok (.invokevirtual 22, 3) := by decide +kernel
theorem d_RO_add_25 : decode m_RO_add.2.1 25 = .ok (.ifCond .eq 7, 3) := by decide +kernel
theorem d_RO_add_28 : decode m_RO_add.2.1 28 = .ok (.iconst 1, 1) := by decide +kernel
theorem d_RO_add_29 : decode m_RO_add.2.1 29 = .ok (.goto 4, 3) := by decide +kernel
theorem d_RO_add_32 : decode m_RO_add.2.1 32 = .ok (.iconst 0, 1) := by decide +kernel
theorem d_RO_add_33 : decode m_RO_add.2.1 33 = .ok (.putfield 7, 3) := by decide +kernel
theorem d_RO_add_36 : decode m_RO_add.2.1 36 = .ok (.aload_n 1, 1) := by decide +kernel
theorem d_RO_add_37 : decode m_RO_add.2.1 37 = .ok (.aload_n 0, 1) := by decide +kernel
theorem d_RO_add_38 : decode m_RO_add.2.1 38 = .ok (.getfield 25, 3) := by decide +kernel
theorem d_RO_add_41 : decode m_RO_add.2.1 41 = .ok (.putfield 29, 3) := by decide +kernel
theorem d_RO_add_44 : decode m_RO_add.2.1 44 = .ok (.aload_n 0, 1) := by decide +kernel
theorem d_RO_add_45 : decode m_RO_add.2.1 45 = .ok (.aload_n 1, 1) := by decide +kernel
theorem d_RO_add_46 : decode m_RO_add.2.1 46 = .ok (.putfield 25, 3) := by decide +kernel
theorem d_RO_add_49 : decode m_RO_add.2.1 49 = .ok (.return_, 1) := by decide +kernel
theorem d_PI_size_0 : decode m_PI_size.2.1 0 = .ok (.aload_n 0, 1) := by decide +kernel
theorem d_PI_size_1 : decode m_PI_size.2.1 1 = .ok (.getfield 20, 3) := by decide +kernel
theorem d_PI_size_4 : decode m_PI_size.2.1 4 = .ok (.ifCond .eq 15, 3) := by decide +kernel
theorem d_PI_size_7 : decode m_PI_size.2.1 7 = .ok (.aload_n 0, 1) := by decide +kernel
theorem d_PI_size_8 : decode m_PI_size.2.1 8 = .ok (.getfield 16, 3) := by decide +kernel
theorem d_PI_size_11 : decode m_PI_size.2.1 11 = .ok (.invokevirtual 24, 3) := by decide +kernel
theorem d_PI_size_14 : decode m_PI_size.2.1 14 = .ok (.iconst 2, 1) := by decide +kernel
theorem d_PI_size_15 : decode m_PI_size.2.1 15 = .ok (.iadd, 1) := by decide +kernel
theorem d_PI_size_16 : decode m_PI_size.2.1 16 = .ok (.goto 27, 3) := by decide +kernel
theorem d_PI_size_19 : decode m_PI_size.2.1 19 = .ok (.aload_n 0, 1) := by decide +kernel
theorem d_PI_size_20 : decode m_PI_size.2.1 20 = .ok (.getfield 13, 3) := by decide +kernel
theorem d_PI_size_23 : decode m_PI_size.2.1 23 = .ok (.aload_n 0, 1) := by decide +kernel
theorem d_PI_size_24 : decode m_PI_size.2.1 24 = .ok (.getfield 16, 3) := by decide +kernel
theorem d_PI_size_27 : decode m_PI_size.2.1 27 = .ok (.invokevirtual 24, 3) := by decide +kernel
theorem d_PI_size_30 : decode m_PI_size.2.1 30 = .ok (.imul, 1) := by decide +kernel
theorem d_PI_size_31 : decode m_PI_size.2.1 31 = .ok (.iconst 2, 1) := by decide +kernel
theorem d_PI_size_32 : decode m_PI_size.2.1 32 = .ok (.aload_n 0, 1) := by decide +kernel
theorem d_PI_size_33 : decode m_PI_size.2.1 33 = .ok (.getfield 13, 3) := by decide +kernel
theorem d_PI_size_36 : decode m_PI_size.2.1 36 = .ok (.aload_n 0, 1) := by decide +kernel
theorem d_PI_size_37 : decode m_PI_size.2.1 37 = .ok (.getfield 7, 3) := by decide +kernel
theorem d_PI_size_40 : decode m_PI_size.2.1 40 = .ok (.isub, 1) := by decide +kernel
theorem d_PI_size_41 : decode m_PI_size.2.1 41 = .ok (.imul, 1) := by decide +kernel
theorem d_PI_size_42 : decode m_PI_size.2.1 42 = .ok (.iadd, 1) := by decide +kernel
theorem d_PI_size_43 : decode m_PI_size.2.1 43 = .ok (.ireturn, 1) := by decide +kernel
theorem d_AT_size_0 : decode m_AT_size.2.1 0 = .ok (.aload_n 0, 1) := by decide +kernel
theorem d_AT_size_1 : decode m_AT_size.2.1 1 = .ok (.getfield 25, 3) := by decide +kernel
theorem d_AT_size_4 : decode m_AT_size.2.1 4 = .ok (.ifnonnull 7, 3) := by decide +kernel
theorem d_AT_size_7 : decode m_AT_size.2.1 7 = .ok (.iconst 1, 1) := by decide +kernel
theorem d_AT_size_8 : decode m_AT_size.2.1 8 = .ok (.goto 12, 3) := by decide +kernel
theorem d_AT_size_11 : decode m_AT_size.2.1 11 = .ok (.aload_n 0, 1) := by decide +kernel
theorem d_AT_size_12 : decode m_AT_size.2.1 12 = .ok (.getfield 25, 3) := by decide +kernel
theorem d_AT_size_15 : decode m_AT_size.2.1 15 = .ok (.invokevirtual 29, 3) := by decide +kernel
theorem d_AT_size_18 : decode m_AT_size.2.1 18 = .ok (.iconst 2, 1) := by decide +kernel
theorem d_AT_size_19 : decode m_AT_size.2.1 19 = .ok (.iadd, 1) := by decide +kernel
theorem d_AT_size_20 : decode m_AT_size.2.1 20 = .ok (.ireturn, 1) := by decide +kernel
theorem d_CH_size_0 : decode m_CH_size.2.1 0 = .ok (.aload_n 0, 1) := by decide +kernel
theorem d_CH_size_1 : decode m_CH_size.2.1 1 = .ok (.getfield 7, 3) := by decide +kernel
theorem d_CH_size_4 : decode m_CH_size.2.1 4 = .ok (.ireturn, 1) := by decide +kernel
theorem d_PI_canBeEmpty_0 : decode m_PI_canBeEmpty.2.1 0 = .ok (.aload_n 0, 1) := by decide +kernel
theorem d_PI_canBeEmpty_1 : decode m_PI_canBeEmpty.2.1 1 = .ok (.getfield 7, 3) := by decide +kernel
theorem d_PI_canBeEmpty_4 : decode m_PI_canBeEmpty.2.1 4 = .ok (.ifCond .eq 13, 3) := by decide +kernel
theorem d_PI_canBeEmpty_7 : decode m_PI_canBeEmpty.2.1 7 = .ok (.aload_n 0, 1) := by decide +kernel
theorem d_PI_canBeEmpty_8 : decode m_PI_canBeEmpty.2.1 8 = .ok (.getfield 16, 3) := by decide +kernel
theorem d_PI_canBeEmpty_11 : decode m_PI_canBeEmpty.2.1 11 = .ok (.invokevirtual 30, 3) := by decide +kernel
theorem d_PI_canBeEmpty_14 : decode m_PI_canBeEmpty.2.1 14 = .ok (.ifCond .eq 7, 3) := by decide +kernel
theorem d_PI_canBeEmpty_17 : decode m_PI_canBeEmpty.2.1 17 = .ok (.iconst 1, 1) := by decide +kernel
theorem d_PI_canBeEmpty_18 : decode m_PI_canBeEmpty.2.1 18 = .ok (.goto 4, 3) := by decide +kernel
theorem d_PI_canBeEmpty_21 : decode m_PI_canBeEmpty.2.1 21 = .ok (.iconst 0, 1) := by decide +kernel
theorem d_PI_canBeEmpty_22 : decode m_PI_canBeEmpty.2.1 22 = .ok (.ireturn, 1) := by decide +kernel
theorem d_CH_add_0 : decode m_CH_add.2.1 0 = .ok (.aload_n 0, 1) := by decide +kernel
theorem d_CH_add_1 : decode m_CH_add.2.1 1 = .ok (.dup, 1) := by decide +kernel
theorem d_CH_add_2 : decode m_CH_add.2.1 2 = .ok (.getfield 7, 3) := by decide +kernel
theorem d_CH_add_5 : decode m_CH_add.2.1 5 = .ok (.aload_n 1, 1) := by decide +kernel
theorem d_CH_add_6 : decode m_CH_add.2.1 6 = .ok (.getfield 13, 3) := by decide +kernel
theorem d_CH_add_9 : decode m_CH_add.2.1 9 = .ok (.aload_n 0, 1) := by decide +kernel
theorem d_CH_add_10 : decode m_CH_add.2.1 10 = .ok (.getfield 16, 3) := by decide +kernel
theorem d_CH_add_13 : decode m_CH_add.2.1 13 = .ok (.ifnonnull 7, 3) := by decide +kernel
theorem d_CH_add_16 : decode m_CH_add.2.1 16 = .ok (.iconst 0, 1) := by decide +kernel
theorem d_CH_add_17 : decode m_CH_add.2.1 17 = .ok (.goto 4, 3) := by decide +kernel
theorem d_CH_add_20 : decode m_CH_add.2.1 20 = .ok (.iconst 2, 1) := by decide +kernel
theorem d_CH_add_21 : decode m_CH_add.2.1 21 = .ok (.iadd, 1) := by decide +kernel
theorem d_CH_add_22 : decode m_CH_add.2.1 22 = .ok (.iadd, 1) := by decide +kernel
theorem d_CH_add_23 : decode m_CH_add.2.1 23 = .ok (.putfield 7, 3) := by decide +kernel
theorem d_CH_add_26 : decode m_CH_add.2.1 26 = .ok (.aload_n 0, 1) := by decide +kernel
theorem d_CH_add_27 : decode m_CH_add.2.1 27 = .ok (.aload_n 0, 1) := by decide +kernel
theorem d_CH_add_28 : decode m_CH_add.2.1 28 = .ok (.getfield 20, 3) := by decide +kernel
theorem d_CH_add_31 : decode m_CH_add.2.1 31 = .ok (.ifCond .ne 10, 3) := by decide +kernel
theorem d_CH_add_34 : decode m_CH_add.2.1 34 = .ok (.aload_n 1, 1) := by decide +kernel
theorem d_CH_add_35 : decode m_CH_add.2.1 35 = .ok (.getfield 24, 3) := by decide +kernel
theorem d_CH_add_38 : decode m_CH_add.2.1 38 = .ok (.ifCond .eq 7, 3) := by decide +kernel
theorem d_CH_add_41 : decode m_CH_add.2.1 41 = .ok (.iconst 1, 1) := by decide +kernel
theorem d_CH_add_42 : decode m_CH_add.2.1 42 = .ok (.goto 4, 3) := by decide +kernel
theorem d_CH_add_45 : decode m_CH_add.2.1 45 = .ok (.iconst 0, 1) := by decide +kernel
theorem d_CH_add_46 : decode m_CH_add.2.1 46 = .ok (.putfield 20, 3) := by decide +kernel
theorem d_CH_add_49 : decode m_CH_add.2.1 49 = .ok (.aload_n 1, 1) := by decide +kernel
theorem d_CH_add_50 : decode m_CH_add.2.1 50 = .ok (.aload_n 0, 1) := by decide +kernel
theorem d_CH_add_51 : decode m_CH_add.2.1 51 = .ok (.getfield 16, 3) := by decide +kernel
theorem d_CH_add_54 : decode m_CH_add.2.1 54 = .ok (.putfield 27, 3) := by decide +kernel
theorem d_CH_add_57 : decode m_CH_add.2.1 57 = .ok (.aload_n 0, 1) := by decide +kernel
theorem d_CH_add_58 : decode m_CH_add.2.1 58 = .ok (.aload_n 1, 1) := by decide +kernel
theorem d_CH_add_59 : decode m_CH_add.2.1 59 = .ok (.putfield 16, 3) := by decide +kernel
theorem d_CH_add_62 : decode m_CH_add.2.1 62 = .ok (.return_, 1) := by decide +kernel
theorem d_BO_endSlot_0 : decode m_BO_endSlot.2.1 0 = .ok (.iconst 2, 1) := by decide +kernel
theorem d_BO_endSlot_1 : decode m_BO_endSlot.2.1 1 = .ok (.iload_n 0, 1) := by decide +kernel
theorem d_BO_endSlot_2 : decode m_BO_endSlot.2.1 2 = .ok (.imul, 1) := by decide +kernel
theorem d_BO_endSlot_3 : decode m_BO_endSlot.2.1 3 = .ok (.iconst 1, 1) := by decide +kernel
theorem d_BO_endSlot_4 : decode m_BO_endSlot.2.1 4 = .ok (.iadd, 1) := by decide +kernel
theorem d_BO_endSlot_5 : decode m_BO_endSlot.2.1 5 = .ok (.ireturn, 1) := by decide +kernel
theorem d_BO_beginSlot_0 : decode m_BO_beginSlot.2.1 0 = .ok (.iconst 2, 1) := by decide +kernel
theorem d_BO_beginSlot_1 : decode m_BO_beginSlot.2.1 1 = .ok (.iload_n 0, 1) := by decide +kernel
theorem d_BO_beginSlot_2 : decode m_BO_beginSlot.2.1 2 = .ok (.imul, 1) := by decide +kernel
theorem d_BO_beginSlot_3 : decode m_BO_beginSlot.2.1 3 = .ok (.ireturn, 1) := by decide +kernel
theorem d_BO_clear_0 : decode m_BO_clear.2.1 0 = .ok (.aload_n 0, 1) := by decide +kernel
theorem d_BO_clear_1 : decode m_BO_clear.2.1 1 = .ok (.getfield 9, 3) := by decide +kernel
theorem d_BO_clear_4 : decode m_BO_clear.2.1 4 = .ok (.bipush (-2), 2) := by decide +kernel
theorem d_BO_clear_6 : decode m_BO_clear.2.1 6 = .ok (.invokestatic 15, 3) := by decide +kernel
theorem d_BO_clear_9 : decode m_BO_clear.2.1 9 = .ok (.return_, 1) := by decide +kernel
theorem d_PS_fault_0 : decode m_PS_fault.2.1 0 = .ok (.new 67, 3) := by decide +kernel
theorem d_PS_fault_3 : decode m_PS_fault.2.1 3 = .ok (.dup, 1) := by decide +kernel
theorem d_PS_fault_4 : decode m_PS_fault.2.1 4 = .ok (.aload_n 0, 1) := by decide +kernel
theorem d_PS_fault_5 : decode m_PS_fault.2.1 5 = .ok (.getfield 14, 3) := by decide +kernel
theorem d_PS_fault_8 : decode m_PS_fault.2.1 8 = .ok (.invokespecial 69, 3) := by decide +kernel
theorem d_PS_fault_11 : decode m_PS_fault.2.1 11 = .ok (.astore_n 1, 1) := by decide +kernel
theorem d_PS_fault_12 : decode m_PS_fault.2.1 12 = .ok (.aload_n 1, 1) := by decide +kernel
theorem d_PS_fault_13 : decode m_PS_fault.2.1 13 = .ok (.invokevirtual 72, 3) := by decide +kernel
theorem d_PS_fault_16 : decode m_PS_fault.2.1 16 = .ok (.pop, 1) := by decide +kernel
theorem d_PS_fault_17 : decode m_PS_fault.2.1 17 = .ok (.aload_n 1, 1) := by decide +kernel
theorem d_PS_fault_18 : decode m_PS_fault.2.1 18 = .ok (.invokevirtual 76, 3) := by decide +kernel
theorem d_PS_fault_21 : decode m_PS_fault.2.1 21 = .ok (.ireturn, 1) := by decide +kernel
theorem d_PS_text_0 : decode m_PS_text.2.1 0 = .ok (.iload_n 1, 1) := by decide +kernel
theorem d_PS_text_1 : decode m_PS_text.2.1 1 = .ok (.invokestatic 49, 3) := by decide +kernel
theorem d_PS_text_4 : decode m_PS_text.2.1 4 = .ok (.ifCond .eq 13, 3) := by decide +kernel
theorem d_PS_text_7 : decode m_PS_text.2.1 7 = .ok (.aload_n 0, 1) := by decide +kernel
theorem d_PS_text_8 : decode m_PS_text.2.1 8 = .ok (.getfield 18, 3) := by decide +kernel
theorem d_PS_text_11 : decode m_PS_text.2.1 11 = .ok (.invokevirtual 53, 3) := by decide +kernel
theorem d_PS_text_14 : decode m_PS_text.2.1 14 = .ok (.ifCond .eq 5, 3) := by decide +kernel
theorem d_PS_text_17 : decode m_PS_text.2.1 17 = .ok (.iconst (-1), 1) := by decide +kernel
theorem d_PS_text_18 : decode m_PS_text.2.1 18 = .ok (.ireturn, 1) := by decide +kernel
theorem d_PS_text_19 : decode m_PS_text.2.1 19 = .ok (.aload_n 0, 1) := by decide +kernel
theorem d_PS_text_20 : decode m_PS_text.2.1 20 = .ok (.getfield 18, 3) := by decide +kernel
theorem d_PS_text_23 : decode m_PS_text.2.1 23 = .ok (.iload_n 1, 1) := by decide +kernel
theorem d_PS_text_24 : decode m_PS_text.2.1 24 = .ok (.invokevirtual 57, 3) := by decide +kernel
theorem d_PS_text_27 : decode m_PS_text.2.1 27 = .ok (.aload_n 0, 1) := by decide +kernel
theorem d_PS_text_28 : decode m_PS_text.2.1 28 = .ok (.getfield 34, 3) := by decide +kernel
theorem d_PS_text_31 : decode m_PS_text.2.1 31 = .ok (.invokevirtual 91, 3) := by decide +kernel
theorem d_PS_text_34 : decode m_PS_text.2.1 34 = .ok (.aload_n 0, 1) := by decide +kernel
theorem d_PS_text_35 : decode m_PS_text.2.1 35 = .ok (.getfield 18, 3) := by decide +kernel
theorem d_PS_text_38 : decode m_PS_text.2.1 38 = .ok (.invokevirtual 60, 3) := by decide +kernel
theorem d_PS_text_41 : decode m_PS_text.2.1 41 = .ok (.ireturn, 1) := by decide +kernel
theorem d_PS_newText_0 : decode m_PS_newText.2.1 0 = .ok (.aload_n 0, 1) := by decide +kernel
theorem d_PS_newText_1 : decode m_PS_newText.2.1 1 = .ok (.getfield 18, 3) := by decide +kernel
theorem d_PS_newText_4 : decode m_PS_newText.2.1 4 = .ok (.invokevirtual 64, 3) := by decide +kernel
theorem d_PS_newText_7 : decode m_PS_newText.2.1 7 = .ok (.aload_n 0, 1) := by decide +kernel
theorem d_PS_newText_8 : decode m_PS_newText.2.1 8 = .ok (.getfield 34, 3) := by decide +kernel
theorem d_PS_newText_11 : decode m_PS_newText.2.1 11 = .ok (.invokevirtual 91, 3) := by decide +kernel
theorem d_PS_newText_14 : decode m_PS_newText.2.1 14 = .ok (.iconst 0, 1) := by decide +kernel
theorem d_PS_newText_15 : decode m_PS_newText.2.1 15 = .ok (.ireturn, 1) := by decide +kernel
theorem d_PS_find_0 : decode m_PS_find.2.1 0 = .ok (.iload_n 1, 1) := by decide +kernel
theorem d_PS_find_1 : decode m_PS_find.2.1 1 = .ok (.ifCond .lt 21, 3) := by decide +kernel
theorem d_PS_find_4 : decode m_PS_find.2.1 4 = .ok (.iload_n 1, 1) := by decide +kernel
theorem d_PS_find_5 : decode m_PS_find.2.1 5 = .ok (.aload_n 0, 1) := by decide +kernel
theorem d_PS_find_6 : decode m_PS_find.2.1 6 = .ok (.getfield 18, 3) := by decide +kernel
theorem d_PS_find_9 : decode m_PS_find.2.1 9 = .ok (.invokevirtual 60, 3) := by decide +kernel
theorem d_PS_find_12 : decode m_PS_find.2.1 12 = .ok (.if_icmp .gt 10, 3) := by decide +kernel
theorem d_PS_find_15 : decode m_PS_find.2.1 15 = .ok (.aload_n 0, 1) := by decide +kernel
theorem d_PS_find_16 : decode m_PS_find.2.1 16 = .ok (.getfield 41, 3) := by decide +kernel
theorem d_PS_find_19 : decode m_PS_find.2.1 19 = .ok (.ifCond .ne 5, 3) := by decide +kernel
theorem d_PS_find_22 : decode m_PS_find.2.1 22 = .ok (.iconst (-1), 1) := by decide +kernel
theorem d_PS_find_23 : decode m_PS_find.2.1 23 = .ok (.ireturn, 1) := by decide +kernel
theorem d_PS_find_24 : decode m_PS_find.2.1 24 = .ok (.aload_n 0, 1) := by decide +kernel
theorem d_PS_find_25 : decode m_PS_find.2.1 25 = .ok (.getfield 27, 3) := by decide +kernel
theorem d_PS_find_28 : decode m_PS_find.2.1 28 = .ok (.aload_n 0, 1) := by decide +kernel
theorem d_PS_find_29 : decode m_PS_find.2.1 29 = .ok (.getfield 18, 3) := by decide +kernel
theorem d_PS_find_32 : decode m_PS_find.2.1 32 = .ok (.invokevirtual 95, 3) := by decide +kernel
theorem d_PS_find_35 : decode m_PS_find.2.1 35 = .ok (.aload_n 0, 1) := by decide +kernel
theorem d_PS_find_36 : decode m_PS_find.2.1 36 = .ok (.getfield 27, 3) := by decide +kernel
theorem d_PS_find_39 : decode m_PS_find.2.1 39 = .ok (.iload_n 1, 1) := by decide +kernel
theorem d_PS_find_40 : decode m_PS_find.2.1 40 = .ok (.aload_n 0, 1) := by decide +kernel
theorem d_PS_find_41 : decode m_PS_find.2.1 41 = .ok (.getfield 34, 3) := by decide +kernel
theorem d_PS_find_44 : decode m_PS_find.2.1 44 = .ok (.invokevirtual 98, 3) := by decide +kernel
theorem d_PS_find_47 : decode m_PS_find.2.1 47 = .ok (.pop, 1) := by decide +kernel
theorem d_PS_find_48 : decode m_PS_find.2.1 48 = .ok (.aload_n 0, 1) := by decide +kernel
theorem d_PS_find_49 : decode m_PS_find.2.1 49 = .ok (.getfield 34, 3) := by decide +kernel
theorem d_PS_find_52 : decode m_PS_find.2.1 52 = .ok (.iconst 0, 1) := by decide +kernel
theorem d_PS_find_53 : decode m_PS_find.2.1 53 = .ok (.invokevirtual 102, 3) := by decide +kernel
theorem d_PS_find_56 : decode m_PS_find.2.1 56 = .ok (.ireturn, 1) := by decide +kernel
theorem d_BO_mark_0 : decode m_BO_mark.2.1 0 = .ok (.iload_n 1, 1) := by decide +kernel
theorem d_BO_mark_1 : decode m_BO_mark.2.1 1 = .ok (.ifCond .lt 19, 3) := by decide +kernel
theorem d_BO_mark_4 : decode m_BO_mark.2.1 4 = .ok (.iload_n 1, 1) := by decide +kernel
theorem d_BO_mark_5 : decode m_BO_mark.2.1 5 = .ok (.aload_n 0, 1) := by decide +kernel
theorem d_BO_mark_6 : decode m_BO_mark.2.1 6 = .ok (.getfield 9, 3) := by decide +kernel
theorem d_BO_mark_9 : decode m_BO_mark.2.1 9 = .ok (.arraylength, 1) := by decide +kernel
theorem d_BO_mark_10 : decode m_BO_mark.2.1 10 = .ok (.if_icmp .ge 10, 3) := by decide +kernel
theorem d_BO_mark_13 : decode m_BO_mark.2.1 13 = .ok (.aload_n 0, 1) := by decide +kernel
theorem d_BO_mark_14 : decode m_BO_mark.2.1 14 = .ok (.getfield 9, 3) := by decide +kernel
theorem d_BO_mark_17 : decode m_BO_mark.2.1 17 = .ok (.iload_n 1, 1) := by decide +kernel
theorem d_BO_mark_18 : decode m_BO_mark.2.1 18 = .ok (.iload_n 2, 1) := by decide +kernel
theorem d_BO_mark_19 : decode m_BO_mark.2.1 19 = .ok (.iastore, 1) := by decide +kernel
theorem d_BO_mark_20 : decode m_BO_mark.2.1 20 = .ok (.return_, 1) := by decide +kernel
theorem d_BO_begin_0 : decode m_BO_begin.2.1 0 = .ok (.aload_n 0, 1) := by decide +kernel
theorem d_BO_begin_1 : decode m_BO_begin.2.1 1 = .ok (.iload_n 1, 1) := by decide +kernel
theorem d_BO_begin_2 : decode m_BO_begin.2.1 2 = .ok (.invokestatic 21, 3) := by decide +kernel
theorem d_BO_begin_5 : decode m_BO_begin.2.1 5 = .ok (.invokevirtual 25, 3) := by decide +kernel
theorem d_BO_begin_8 : decode m_BO_begin.2.1 8 = .ok (.ireturn, 1) := by decide +kernel
theorem d_BO_inSlot_0 : decode m_BO_inSlot.2.1 0 = .ok (.iload_n 1, 1) := by decide +kernel
theorem d_BO_inSlot_1 : decode m_BO_inSlot.2.1 1 = .ok (.ifCond .lt 21, 3) := by decide +kernel
theorem d_BO_inSlot_4 : decode m_BO_inSlot.2.1 4 = .ok (.iload_n 1, 1) := by decide +kernel
theorem d_BO_inSlot_5 : decode m_BO_inSlot.2.1 5 = .ok (.aload_n 0, 1) := by decide +kernel
theorem d_BO_inSlot_6 : decode m_BO_inSlot.2.1 6 = .ok (.getfield 9, 3) := by decide +kernel
theorem d_BO_inSlot_9 : decode m_BO_inSlot.2.1 9 = .ok (.arraylength, 1) := by decide +kernel
theorem d_BO_inSlot_10 : decode m_BO_inSlot.2.1 10 = .ok (.if_icmp .ge 12, 3) := by decide +kernel
theorem d_BO_inSlot_13 : decode m_BO_inSlot.2.1 13 = .ok (.aload_n 0, 1) := by decide +kernel
theorem d_BO_inSlot_14 : decode m_BO_inSlot.2.1 14 = .ok (.getfield 9, 3) := by decide +kernel
theorem d_BO_inSlot_17 : decode m_BO_inSlot.2.1 17 = .ok (.iload_n 1, 1) := by decide +kernel
theorem d_BO_inSlot_18 : decode m_BO_inSlot.2.1 18 = .ok (.iaload, 1) := by decide +kernel
theorem d_BO_inSlot_19 : decode m_BO_inSlot.2.1 19 = .ok (.goto 5, 3) := by decide +kernel
theorem d_BO_inSlot_22 : decode m_BO_inSlot.2.1 22 = .ok (.bipush (-2), 2) := by decide +kernel
theorem d_BO_inSlot_24 : decode m_BO_inSlot.2.1 24 = .ok (.ireturn, 1) := by decide +kernel
theorem d_PS_group_0 : decode m_PS_group.2.1 0 = .ok (.iload_n 1, 1) := by decide +kernel
theorem d_PS_group_1 : decode m_PS_group.2.1 1 = .ok (.invokestatic 106, 3) := by decide +kernel
theorem d_PS_group_4 : decode m_PS_group.2.1 4 = .ok (.ifCond .eq 10, 3) := by decide +kernel
theorem d_PS_group_7 : decode m_PS_group.2.1 7 = .ok (.aload_n 0, 1) := by decide +kernel
theorem d_PS_group_8 : decode m_PS_group.2.1 8 = .ok (.getfield 41, 3) := by decide +kernel
theorem d_PS_group_11 : decode m_PS_group.2.1 11 = .ok (.ifCond .ne 5, 3) := by decide +kernel
theorem d_PS_group_14 : decode m_PS_group.2.1 14 = .ok (.iconst (-1), 1) := by decide +kernel
theorem d_PS_group_15 : decode m_PS_group.2.1 15 = .ok (.ireturn, 1) := by decide +kernel
theorem d_PS_group_16 : decode m_PS_group.2.1 16 = .ok (.iload_n 2, 1) := by decide +kernel
theorem d_PS_group_17 : decode m_PS_group.2.1 17 = .ok (.ifCond .eq 14, 3) := by decide +kernel
theorem d_PS_group_20 : decode m_PS_group.2.1 20 = .ok (.aload_n 0, 1) := by decide +kernel
theorem d_PS_group_21 : decode m_PS_group.2.1 21 = .ok (.getfield 34, 3) := by decide +kernel
theorem d_PS_group_24 : decode m_PS_group.2.1 24 = .ok (.iload_n 1, 1) := by decide +kernel
theorem d_PS_group_25 : decode m_PS_group.2.1 25 = .ok (.invokevirtual 109, 3) := by decide +kernel
theorem d_PS_group_28 : decode m_PS_group.2.1 28 = .ok (.goto 11, 3) := by decide +kernel
theorem d_PS_group_31 : decode m_PS_group.2.1 31 = .ok (.aload_n 0, 1) := by decide +kernel
theorem d_PS_group_32 : decode m_PS_group.2.1 32 = .ok (.getfield 34, 3) := by decide +kernel
theorem d_PS_group_35 : decode m_PS_group.2.1 35 = .ok (.iload_n 1, 1) := by decide +kernel
theorem d_PS_group_36 : decode m_PS_group.2.1 36 = .ok (.invokevirtual 102, 3) := by decide +kernel
theorem d_PS_group_39 : decode m_PS_group.2.1 39 = .ok (.ireturn, 1) := by decide +kernel
theorem d_PS_isGroup_0 : decode m_PS_isGroup.2.1 0 = .ok (.iload_n 0, 1) := by decide +kernel
theorem d_PS_isGroup_1 : decode m_PS_isGroup.2.1 1 = .ok (.ifCond .lt 13, 3) := by decide +kernel
theorem d_PS_isGroup_4 : decode m_PS_isGroup.2.1 4 = .ok (.iload_n 0, 1) := by decide +kernel
theorem d_PS_isGroup_5 : decode m_PS_isGroup.2.1 5 = .ok (.bipush 6, 2) := by decide +kernel
theorem d_PS_isGroup_7 : decode m_PS_isGroup.2.1 7 = .ok (.if_icmp .gt 7, 3) := by decide +kernel
theorem d_PS_isGroup_10 : decode m_PS_isGroup.2.1 10 = .ok (.iconst 1, 1) := by decide +kernel
theorem d_PS_isGroup_11 : decode m_PS_isGroup.2.1 11 = .ok (.goto 4, 3) := by decide +kernel
theorem d_PS_isGroup_14 : decode m_PS_isGroup.2.1 14 = .ok (.iconst 0, 1) := by decide +kernel
theorem d_PS_isGroup_15 : decode m_PS_isGroup.2.1 15 = .ok (.ireturn, 1) := by decide +kernel
theorem d_BO_end_0 : decode m_BO_end.2.1 0 = .ok (.aload_n 0, 1) := by decide +kernel
theorem d_BO_end_1 : decode m_BO_end.2.1 1 = .ok (.iload_n 1, 1) := by decide +kernel
theorem d_BO_end_2 : decode m_BO_end.2.1 2 = .ok (.invokestatic 28, 3) := by decide +kernel
theorem d_BO_end_5 : decode m_BO_end.2.1 5 = .ok (.invokevirtual 25, 3) := by decide +kernel
theorem d_BO_end_8 : decode m_BO_end.2.1 8 = .ok (.ireturn, 1) := by decide +kernel
theorem d_PS_whole_0 : decode m_PS_whole.2.1 0 = .ok (.iload_n 1, 1) := by decide +kernel
theorem d_PS_whole_1 : decode m_PS_whole.2.1 1 = .ok (.ifCond .lt 26, 3) := by decide +kernel
theorem d_PS_whole_4 : decode m_PS_whole.2.1 4 = .ok (.iload_n 2, 1) := by decide +kernel
theorem d_PS_whole_5 : decode m_PS_whole.2.1 5 = .ok (.iload_n 1, 1) := by decide +kernel
theorem d_PS_whole_6 : decode m_PS_whole.2.1 6 = .ok (.if_icmp .lt 21, 3) := by decide +kernel
theorem d_PS_whole_9 : decode m_PS_whole.2.1 9 = .ok (.iload_n 2, 1) := by decide +kernel
theorem d_PS_whole_10 : decode m_PS_whole.2.1 10 = .ok (.aload_n 0, 1) := by decide +kernel
theorem d_PS_whole_11 : decode m_PS_whole.2.1 11 = .ok (.getfield 18, 3) := by decide +kernel
theorem d_PS_whole_14 : decode m_PS_whole.2.1 14 = .ok (.invokevirtual 60, 3) := by decide +kernel
theorem d_PS_whole_17 : decode m_PS_whole.2.1 17 = .ok (.if_icmp .gt 10, 3) := by decide +kernel
theorem d_PS_whole_20 : decode m_PS_whole.2.1 20 = .ok (.aload_n 0, 1) := by decide +kernel
theorem d_PS_whole_21 : decode m_PS_whole.2.1 21 = .ok (.getfield 41, 3) := by decide +kernel
theorem d_PS_whole_24 : decode m_PS_whole.2.1 24 = .ok (.ifCond .ne 5, 3) := by decide +kernel
theorem d_PS_whole_27 : decode m_PS_whole.2.1 27 = .ok (.iconst (-1), 1) := by decide +kernel
theorem d_PS_whole_28 : decode m_PS_whole.2.1 28 = .ok (.ireturn, 1) := by decide +kernel
theorem d_PS_whole_29 : decode m_PS_whole.2.1 29 = .ok (.aload_n 0, 1) := by decide +kernel
theorem d_PS_whole_30 : decode m_PS_whole.2.1 30 = .ok (.getfield 27, 3) := by decide +kernel
theorem d_PS_whole_33 : decode m_PS_whole.2.1 33 = .ok (.aload_n 0, 1) := by decide +kernel
theorem d_PS_whole_34 : decode m_PS_whole.2.1 34 = .ok (.getfield 18, 3) := by decide +kernel
theorem d_PS_whole_37 : decode m_PS_whole.2.1 37 = .ok (.iload_n 2, 1) := by decide +kernel
theorem d_PS_whole_38 : decode m_PS_whole.2.1 38 = .ok (.invokevirtual 112, 3) := by decide +kernel
theorem d_PS_whole_41 : decode m_PS_whole.2.1 41 = .ok (.aload_n 0, 1) := by decide +kernel
theorem d_PS_whole_42 : decode m_PS_whole.2.1 42 = .ok (.getfield 27, 3) := by decide +kernel
theorem d_PS_whole_45 : decode m_PS_whole.2.1 45 = .ok (.iload_n 1, 1) := by decide +kernel
theorem d_PS_whole_46 : decode m_PS_whole.2.1 46 = .ok (.invokevirtual 116, 3) := by decide +kernel
theorem d_PS_whole_49 : decode m_PS_whole.2.1 49 = .ok (.ifCond .eq 7, 3) := by decide +kernel
theorem d_PS_whole_52 : decode m_PS_whole.2.1 52 = .ok (.iconst 1, 1) := by decide +kernel
theorem d_PS_whole_53 : decode m_PS_whole.2.1 53 = .ok (.goto 4, 3) := by decide +kernel
theorem d_PS_whole_56 : decode m_PS_whole.2.1 56 = .ok (.iconst 0, 1) := by decide +kernel
theorem d_PS_whole_57 : decode m_PS_whole.2.1 57 = .ok (.ireturn, 1) := by decide +kernel
theorem d_PS_matches_0 : decode m_PS_matches.2.1 0 = .ok (.aload_n 0, 1) := by decide +kernel
theorem d_PS_matches_1 : decode m_PS_matches.2.1 1 = .ok (.getfield 41, 3) := by decide +kernel
theorem d_PS_matches_4 : decode m_PS_matches.2.1 4 = .ok (.ifCond .ne 5, 3) := by decide +kernel
theorem d_PS_matches_7 : decode m_PS_matches.2.1 7 = .ok (.iconst (-1), 1) := by decide +kernel
theorem d_PS_matches_8 : decode m_PS_matches.2.1 8 = .ok (.ireturn, 1) := by decide +kernel
theorem d_PS_matches_9 : decode m_PS_matches.2.1 9 = .ok (.aload_n 0, 1) := by decide +kernel
theorem d_PS_matches_10 : decode m_PS_matches.2.1 10 = .ok (.getfield 27, 3) := by decide +kernel
theorem d_PS_matches_13 : decode m_PS_matches.2.1 13 = .ok (.aload_n 0, 1) := by decide +kernel
theorem d_PS_matches_14 : decode m_PS_matches.2.1 14 = .ok (.getfield 18, 3) := by decide +kernel
theorem d_PS_matches_17 : decode m_PS_matches.2.1 17 = .ok (.invokevirtual 95, 3) := by decide +kernel
theorem d_PS_matches_20 : decode m_PS_matches.2.1 20 = .ok (.iconst 0, 1) := by decide +kernel
theorem d_PS_matches_21 : decode m_PS_matches.2.1 21 = .ok (.istore_n 1, 1) := by decide +kernel
theorem d_PS_matches_22 : decode m_PS_matches.2.1 22 = .ok (.iconst 0, 1) := by decide +kernel
theorem d_PS_matches_23 : decode m_PS_matches.2.1 23 = .ok (.istore_n 2, 1) := by decide +kernel
theorem d_PS_matches_24 : decode m_PS_matches.2.1 24 = .ok (.iload_n 1, 1) := by decide +kernel
theorem d_PS_matches_25 : decode m_PS_matches.2.1 25 = .ok (.bipush 30, 2) := by decide +kernel
theorem d_PS_matches_27 : decode m_PS_matches.2.1 27 = .ok (.if_icmp .gt 32, 3) := by decide +kernel
theorem d_PS_matches_30 : decode m_PS_matches.2.1 30 = .ok (.aload_n 0, 1) := by decide +kernel
theorem d_PS_matches_31 : decode m_PS_matches.2.1 31 = .ok (.getfield 27, 3) := by decide +kernel
theorem d_PS_matches_34 : decode m_PS_matches.2.1 34 = .ok (.iload_n 2, 1) := by decide +kernel
theorem d_PS_matches_35 : decode m_PS_matches.2.1 35 = .ok (.aload_n 0, 1) := by decide +kernel
theorem d_PS_matches_36 : decode m_PS_matches.2.1 36 = .ok (.getfield 38, 3) := by decide +kernel
theorem d_PS_matches_39 : decode m_PS_matches.2.1 39 = .ok (.invokevirtual 98, 3) := by decide +kernel
theorem d_PS_matches_42 : decode m_PS_matches.2.1 42 = .ok (.ifCond .eq 17, 3) := by decide +kernel
theorem d_PS_matches_45 : decode m_PS_matches.2.1 45 = .ok (.aload_n 0, 1) := by decide +kernel
theorem d_PS_matches_46 : decode m_PS_matches.2.1 46 = .ok (.getfield 38, 3) := by decide +kernel
theorem d_PS_matches_49 : decode m_PS_matches.2.1 49 = .ok (.invokevirtual 119, 3) := by decide +kernel
theorem d_PS_matches_52 : decode m_PS_matches.2.1 52 = .ok (.istore_n 2, 1) := by decide +kernel
theorem d_PS_matches_53 : decode m_PS_matches.2.1 53 = .ok (.iinc 1 1, 3) := by decide +kernel
theorem d_PS_matches_56 : decode m_PS_matches.2.1 56 = .ok (.goto (-32), 3) := by decide +kernel
theorem d_PS_matches_59 : decode m_PS_matches.2.1 59 = .ok (.iload_n 1, 1) := by decide +kernel
theorem d_PS_matches_60 : decode m_PS_matches.2.1 60 = .ok (.ireturn, 1) := by decide +kernel
theorem d_BO_placeBehind_0 : decode m_BO_placeBehind.2.1 0 = .ok (.aload_n 0, 1) := by decide +kernel
theorem d_BO_placeBehind_1 : decode m_BO_placeBehind.2.1 1 = .ok (.iconst 0, 1) := by decide +kernel
theorem d_BO_placeBehind_2 : decode m_BO_placeBehind.2.1 2 = .ok (.invokevirtual 31, 3) := by decide +kernel
theorem d_BO_placeBehind_5 : decode m_BO_placeBehind.2.1 5 = .ok (.aload_n 0, 1) := by decide +kernel
theorem d_BO_placeBehind_6 : decode m_BO_placeBehind.2.1 6 = .ok (.iconst 0, 1) := by decide +kernel
theorem d_BO_placeBehind_7 : decode m_BO_placeBehind.2.1 7 = .ok (.invokevirtual 34, 3) := by decide +kernel
theorem d_BO_placeBehind_10 : decode m_BO_placeBehind.2.1 10 = .ok (.if_icmp .ne 13, 3) := by decide +kernel
theorem d_BO_placeBehind_13 : decode m_BO_placeBehind.2.1 13 = .ok (.aload_n 0, 1) := by decide +kernel
theorem d_BO_placeBehind_14 : decode m_BO_placeBehind.2.1 14 = .ok (.iconst 0, 1) := by decide +kernel
theorem d_BO_placeBehind_15 : decode m_BO_placeBehind.2.1 15 = .ok (.invokevirtual 34, 3) := by decide +kernel
theorem d_BO_placeBehind_18 : decode m_BO_placeBehind.2.1 18 = .ok (.iconst 1, 1) := by decide +kernel
theorem d_BO_placeBehind_19 : decode m_BO_placeBehind.2.1 19 = .ok (.iadd, 1) := by decide +kernel
theorem d_BO_placeBehind_20 : decode m_BO_placeBehind.2.1 20 = .ok (.goto 8, 3) := by decide +kernel
theorem d_BO_placeBehind_23 : decode m_BO_placeBehind.2.1 23 = .ok (.aload_n 0, 1) := by decide +kernel
theorem d_BO_placeBehind_24 : decode m_BO_placeBehind.2.1 24 = .ok (.iconst 0, 1) := by decide +kernel
theorem d_BO_placeBehind_25 : decode m_BO_placeBehind.2.1 25 = .ok (.invokevirtual 34, 3) := by decide +kernel
theorem d_BO_placeBehind_28 : decode m_BO_placeBehind.2.1 28 = .ok (.ireturn, 1) := by decide +kernel
theorem d_PS_replace_0 : decode m_PS_replace.2.1 0 = .ok (.iload_n 1, 1) := by decide +kernel
theorem d_PS_replace_1 : decode m_PS_replace.2.1 1 = .ok (.invokestatic 106, 3) := by decide +kernel
theorem d_PS_replace_4 : decode m_PS_replace.2.1 4 = .ok (.ifCond .eq 10, 3) := by decide +kernel
theorem d_PS_replace_7 : decode m_PS_replace.2.1 7 = .ok (.aload_n 0, 1) := by decide +kernel
theorem d_PS_replace_8 : decode m_PS_replace.2.1 8 = .ok (.getfield 41, 3) := by decide +kernel
theorem d_PS_replace_11 : decode m_PS_replace.2.1 11 = .ok (.ifCond .ne 5, 3) := by decide +kernel
theorem d_PS_replace_14 : decode m_PS_replace.2.1 14 = .ok (.iconst (-1), 1) := by decide +kernel
theorem d_PS_replace_15 : decode m_PS_replace.2.1 15 = .ok (.ireturn, 1) := by decide +kernel
theorem d_PS_replace_16 : decode m_PS_replace.2.1 16 = .ok (.aload_n 0, 1) := by decide +kernel
theorem d_PS_replace_17 : decode m_PS_replace.2.1 17 = .ok (.getfield 27, 3) := by decide +kernel
theorem d_PS_replace_20 : decode m_PS_replace.2.1 20 = .ok (.aload_n 0, 1) := by decide +kernel
theorem d_PS_replace_21 : decode m_PS_replace.2.1 21 = .ok (.getfield 18, 3) := by decide +kernel
theorem d_PS_replace_24 : decode m_PS_replace.2.1 24 = .ok (.invokevirtual 95, 3) := by decide +kernel
theorem d_PS_replace_27 : decode m_PS_replace.2.1 27 = .ok (.aload_n 0, 1) := by decide +kernel
theorem d_PS_replace_28 : decode m_PS_replace.2.1 28 = .ok (.getfield 21, 3) := by decide +kernel
theorem d_PS_replace_31 : decode m_PS_replace.2.1 31 = .ok (.invokevirtual 64, 3) := by decide +kernel
theorem d_PS_replace_34 : decode m_PS_replace.2.1 34 = .ok (.iconst 0, 1) := by decide +kernel
theorem d_PS_replace_35 : decode m_PS_replace.2.1 35 = .ok (.istore_n 2, 1) := by decide +kernel
theorem d_PS_replace_36 : decode m_PS_replace.2.1 36 = .ok (.iconst 0, 1) := by decide +kernel
theorem d_PS_replace_37 : decode m_PS_replace.2.1 37 = .ok (.istore_n 3, 1) := by decide +kernel
theorem d_PS_replace_38 : decode m_PS_replace.2.1 38 = .ok (.iconst 0, 1) := by decide +kernel
theorem d_PS_replace_39 : decode m_PS_replace.2.1 39 = .ok (.istore 4, 2) := by decide +kernel
theorem d_PS_replace_41 : decode m_PS_replace.2.1 41 = .ok (.iload 4, 2) := by decide +kernel
theorem d_PS_replace_43 : decode m_PS_replace.2.1 43 = .ok (.bipush 30, 2) := by decide +kernel
theorem d_PS_replace_45 : decode m_PS_replace.2.1 45 = .ok (.if_icmp .gt 88, 3) := by decide +kernel
theorem d_PS_replace_48 : decode m_PS_replace.2.1 48 = .ok (.aload_n 0, 1) := by decide +kernel
theorem d_PS_replace_49 : decode m_PS_replace.2.1 49 = .ok (.getfield 27, 3) := by decide +kernel
theorem d_PS_replace_52 : decode m_PS_replace.2.1 52 = .ok (.iload_n 3, 1) := by decide +kernel
theorem d_PS_replace_53 : decode m_PS_replace.2.1 53 = .ok (.aload_n 0, 1) := by decide +kernel
theorem d_PS_replace_54 : decode m_PS_replace.2.1 54 = .ok (.getfield 38, 3) := by decide +kernel
theorem d_PS_replace_57 : decode m_PS_replace.2.1 57 = .ok (.invokevirtual 98, 3) := by decide +kernel
theorem d_PS_replace_60 : decode m_PS_replace.2.1 60 = .ok (.ifCond .eq 73, 3) := by decide +kernel
theorem d_PS_replace_63 : decode m_PS_replace.2.1 63 = .ok (.aload_n 0, 1) := by decide +kernel
theorem d_PS_replace_64 : decode m_PS_replace.2.1 64 = .ok (.getfield 21, 3) := by decide +kernel
theorem d_PS_replace_67 : decode m_PS_replace.2.1 67 = .ok (.aload_n 0, 1) := by decide +kernel
theorem d_PS_replace_68 : decode m_PS_replace.2.1 68 = .ok (.getfield 18, 3) := by decide +kernel
theorem d_PS_replace_71 : decode m_PS_replace.2.1 71 = .ok (.iload_n 2, 1) := by decide +kernel
theorem d_PS_replace_72 : decode m_PS_replace.2.1 72 = .ok (.aload_n 0, 1) := by decide +kernel
theorem d_PS_replace_73 : decode m_PS_replace.2.1 73 = .ok (.getfield 38, 3) := by decide +kernel
theorem d_PS_replace_76 : decode m_PS_replace.2.1 76 = .ok (.iconst 0, 1) := by decide +kernel
theorem d_PS_replace_77 : decode m_PS_replace.2.1 77 = .ok (.invokevirtual 102, 3) := by decide +kernel
theorem d_PS_replace_80 : decode m_PS_replace.2.1 80 = .ok (.invokevirtual 122, 3) := by decide +kernel
theorem d_PS_replace_83 : decode m_PS_replace.2.1 83 = .ok (.aload_n 0, 1) := by decide +kernel
theorem d_PS_replace_84 : decode m_PS_replace.2.1 84 = .ok (.getfield 21, 3) := by decide +kernel
theorem d_PS_replace_87 : decode m_PS_replace.2.1 87 = .ok (.aload_n 0, 1) := by decide +kernel
theorem d_PS_replace_88 : decode m_PS_replace.2.1 88 = .ok (.getfield 18, 3) := by decide +kernel
theorem d_PS_replace_91 : decode m_PS_replace.2.1 91 = .ok (.aload_n 0, 1) := by decide +kernel
theorem d_PS_replace_92 : decode m_PS_replace.2.1 92 = .ok (.getfield 38, 3) := by decide +kernel
theorem d_PS_replace_95 : decode m_PS_replace.2.1 95 = .ok (.iload_n 1, 1) := by decide +kernel
theorem d_PS_replace_96 : decode m_PS_replace.2.1 96 = .ok (.invokevirtual 102, 3) := by decide +kernel
theorem d_PS_replace_99 : decode m_PS_replace.2.1 99 = .ok (.aload_n 0, 1) := by decide +kernel
theorem d_PS_replace_100 : decode m_PS_replace.2.1 100 = .ok (.getfield 38, 3) := by decide +kernel
theorem d_PS_replace_103 : decode m_PS_replace.2.1 103 = .ok (.iload_n 1, 1) := by decide +kernel
theorem d_PS_replace_104 : decode m_PS_replace.2.1 104 = .ok (.invokevirtual 109, 3) := by decide +kernel
theorem d_PS_replace_107 : decode m_PS_replace.2.1 107 = .ok (.invokevirtual 122, 3) := by decide +kernel
theorem d_PS_replace_110 : decode m_PS_replace.2.1 110 = .ok (.aload_n 0, 1) := by decide +kernel
theorem d_PS_replace_111 : decode m_PS_replace.2.1 111 = .ok (.getfield 38, 3) := by decide +kernel
theorem d_PS_replace_114 : decode m_PS_replace.2.1 114 = .ok (.iconst 0, 1) := by decide +kernel
theorem d_PS_replace_115 : decode m_PS_replace.2.1 115 = .ok (.invokevirtual 109, 3) := by decide +kernel
theorem d_PS_replace_118 : decode m_PS_replace.2.1 118 = .ok (.istore_n 2, 1) := by decide +kernel
theorem d_PS_replace_119 : decode m_PS_replace.2.1 119 = .ok (.aload_n 0, 1) := by decide +kernel
theorem d_PS_replace_120 : decode m_PS_replace.2.1 120 = .ok (.getfield 38, 3) := by decide +kernel
theorem d_PS_replace_123 : decode m_PS_replace.2.1 123 = .ok (.invokevirtual 119, 3) := by decide +kernel
theorem d_PS_replace_126 : decode m_PS_replace.2.1 126 = .ok (.istore_n 3, 1) := by decide +kernel
theorem d_PS_replace_127 : decode m_PS_replace.2.1 127 = .ok (.iinc 4 1, 3) := by decide +kernel
theorem d_PS_replace_130 : decode m_PS_replace.2.1 130 = .ok (.goto (-89), 3) := by decide +kernel
theorem d_PS_replace_133 : decode m_PS_replace.2.1 133 = .ok (.aload_n 0, 1) := by decide +kernel
theorem d_PS_replace_134 : decode m_PS_replace.2.1 134 = .ok (.getfield 21, 3) := by decide +kernel
theorem d_PS_replace_137 : decode m_PS_replace.2.1 137 = .ok (.aload_n 0, 1) := by decide +kernel
theorem d_PS_replace_138 : decode m_PS_replace.2.1 138 = .ok (.getfield 18, 3) := by decide +kernel
theorem d_PS_replace_141 : decode m_PS_replace.2.1 141 = .ok (.iload_n 2, 1) := by decide +kernel
theorem d_PS_replace_142 : decode m_PS_replace.2.1 142 = .ok (.aload_n 0, 1) := by decide +kernel
theorem d_PS_replace_143 : decode m_PS_replace.2.1 143 = .ok (.getfield 18, 3) := by decide +kernel
theorem d_PS_replace_146 : decode m_PS_replace.2.1 146 = .ok (.invokevirtual 60, 3) := by decide +kernel
theorem d_PS_replace_149 : decode m_PS_replace.2.1 149 = .ok (.invokevirtual 122, 3) := by decide +kernel
theorem d_PS_replace_152 : decode m_PS_replace.2.1 152 = .ok (.aload_n 0, 1) := by decide +kernel
theorem d_PS_replace_153 : decode m_PS_replace.2.1 153 = .ok (.getfield 21, 3) := by decide +kernel
theorem d_PS_replace_156 : decode m_PS_replace.2.1 156 = .ok (.invokevirtual 60, 3) := by decide +kernel
theorem d_PS_replace_159 : decode m_PS_replace.2.1 159 = .ok (.ireturn, 1) := by decide +kernel
theorem d_SI_addStretch_0 : decode m_SI_addStretch.2.1 0 = .ok (.iload_n 2, 1) := by decide +kernel
theorem d_SI_addStretch_1 : decode m_SI_addStretch.2.1 1 = .ok (.istore 4, 2) := by decide +kernel
theorem d_SI_addStretch_3 : decode m_SI_addStretch.2.1 3 = .ok (.iload 4, 2) := by decide +kernel
theorem d_SI_addStretch_5 : decode m_SI_addStretch.2.1 5 = .ok (.iload_n 3, 1) := by decide +kernel
theorem d_SI_addStretch_6 : decode m_SI_addStretch.2.1 6 = .ok (.if_icmp .ge 19, 3) := by decide +kernel
theorem d_SI_addStretch_9 : decode m_SI_addStretch.2.1 9 = .ok (.aload_n 0, 1) := by decide +kernel
theorem d_SI_addStretch_10 : decode m_SI_addStretch.2.1 10 = .ok (.aload_n 1, 1) := by decide +kernel
theorem d_SI_addStretch_11 : decode m_SI_addStretch.2.1 11 = .ok (.iload 4, 2) := by decide +kernel
theorem d_SI_addStretch_13 : decode m_SI_addStretch.2.1 13 = .ok (.invokevirtual 23, 3) := by decide +kernel
theorem d_SI_addStretch_16 : decode m_SI_addStretch.2.1 16 = .ok (.invokevirtual 27, 3) := by decide +kernel
theorem d_SI_addStretch_19 : decode m_SI_addStretch.2.1 19 = .ok (.iinc 4 1, 3) := by decide +kernel
theorem d_SI_addStretch_22 : decode m_SI_addStretch.2.1 22 = .ok (.goto (-19), 3) := by decide +kernel
theorem d_SI_addStretch_25 : decode m_SI_addStretch.2.1 25 = .ok (.return_, 1) := by decide +kernel
theorem d_PS_output_0 : decode m_PS_output.2.1 0 = .ok (.aload_n 0, 1) := by decide +kernel
theorem d_PS_output_1 : decode m_PS_output.2.1 1 = .ok (.getfield 21, 3) := by decide +kernel
theorem d_PS_output_4 : decode m_PS_output.2.1 4 = .ok (.iload_n 1, 1) := by decide +kernel
theorem d_PS_output_5 : decode m_PS_output.2.1 5 = .ok (.invokevirtual 126, 3) := by decide +kernel
theorem d_PS_output_8 : decode m_PS_output.2.1 8 = .ok (.ireturn, 1) := by decide +kernel
theorem d_PS_state_0 : decode m_PS_state.2.1 0 = .ok (.iload_n 1, 1) := by decide +kernel
theorem d_PS_state_1 : decode m_PS_state.2.1 1 = .ok (.tableswitch 89 0 4 #[35, 43, 51, 59, 72], 35) := by decide +kernel
theorem d_PS_state_36 : decode m_PS_state.2.1 36 = .ok (.aload_n 0, 1) := by decide +kernel
theorem d_PS_state_37 : decode m_PS_state.2.1 37 = .ok (.getfield 14, 3) := by decide +kernel
theorem d_PS_state_40 : decode m_PS_state.2.1 40 = .ok (.invokevirtual 60, 3) := by decide +kernel
theorem d_PS_state_43 : decode m_PS_state.2.1 43 = .ok (.ireturn, 1) := by decide +kernel
theorem d_PS_state_44 : decode m_PS_state.2.1 44 = .ok (.aload_n 0, 1) := by decide +kernel
theorem d_PS_state_45 : decode m_PS_state.2.1 45 = .ok (.getfield 18, 3) := by decide +kernel
theorem d_PS_state_48 : decode m_PS_state.2.1 48 = .ok (.invokevirtual 60, 3) := by decide +kernel
theorem d_PS_state_51 : decode m_PS_state.2.1 51 = .ok (.ireturn, 1) := by decide +kernel
theorem d_PS_state_52 : decode m_PS_state.2.1 52 = .ok (.aload_n 0, 1) := by decide +kernel
theorem d_PS_state_53 : decode m_PS_state.2.1 53 = .ok (.getfield 21, 3) := by decide +kernel
theorem d_PS_state_56 : decode m_PS_state.2.1 56 = .ok (.invokevirtual 60, 3) := by decide +kernel
theorem d_PS_state_59 : decode m_PS_state.2.1 59 = .ok (.ireturn, 1) := by decide +kernel
theorem d_PS_state_60 : decode m_PS_state.2.1 60 = .ok (.aload_n 0, 1) := by decide +kernel
theorem d_PS_state_61 : decode m_PS_state.2.1 61 = .ok (.getfield 41, 3) := by decide +kernel
theorem d_PS_state_64 : decode m_PS_state.2.1 64 = .ok (.ifCond .eq 7, 3) := by decide +kernel
theorem d_PS_state_67 : decode m_PS_state.2.1 67 = .ok (.iconst 1, 1) := by decide +kernel
theorem d_PS_state_68 : decode m_PS_state.2.1 68 = .ok (.goto 4, 3) := by decide +kernel
theorem d_PS_state_71 : decode m_PS_state.2.1 71 = .ok (.iconst 0, 1) := by decide +kernel
theorem d_PS_state_72 : decode m_PS_state.2.1 72 = .ok (.ireturn, 1) := by decide +kernel
theorem d_PS_state_73 : decode m_PS_state.2.1 73 = .ok (.aload_n 0, 1) := by decide +kernel
theorem d_PS_state_74 : decode m_PS_state.2.1 74 = .ok (.getfield 41, 3) := by decide +kernel
theorem d_PS_state_77 : decode m_PS_state.2.1 77 = .ok (.ifCond .eq 10, 3) := by decide +kernel
theorem d_PS_state_80 : decode m_PS_state.2.1 80 = .ok (.aload_n 0, 1) := by decide +kernel
theorem d_PS_state_81 : decode m_PS_state.2.1 81 = .ok (.getfield 45, 3) := by decide +kernel
theorem d_PS_state_84 : decode m_PS_state.2.1 84 = .ok (.goto 5, 3) := by decide +kernel
theorem d_PS_state_87 : decode m_PS_state.2.1 87 = .ok (.bipush (-2), 2) := by decide +kernel
theorem d_PS_state_89 : decode m_PS_state.2.1 89 = .ok (.ireturn, 1) := by decide +kernel
theorem d_PS_state_90 : decode m_PS_state.2.1 90 = .ok (.iconst (-1), 1) := by decide +kernel
theorem d_PS_state_91 : decode m_PS_state.2.1 91 = .ok (.ireturn, 1) := by decide +kernel
end
section
theorem d_MA_init_0 : decode m_MA_init.2.1 0 = .ok (.aload_n 0, 1) := by decide +kernel
theorem d_MA_init_1 : decode m_MA_init.2.1 1 = .ok (.invokespecial 3, 3) := by decide +kernel
theorem d_MA_init_4 : decode m_MA_init.2.1 4 = .ok (.aload_n 0, 1) := by decide +kernel
theorem d_MA_init_5 : decode m_MA_init.2.1 5 = .ok (.new 9, 3) := by decide +kernel
theorem d_MA_init_8 : decode m_MA_init.2.1 8 = .ok (.dup, 1) := by decide +kernel
theorem d_MA_init_9 : decode m_MA_init.2.1 9 = .ok (.invokespecial 11, 3) := by decide +kernel
theorem d_MA_init_12 : decode m_MA_init.2.1 12 = .ok (.putfield 12, 3) := by decide +kernel
theorem d_MA_init_15 : decode m_MA_init.2.1 15 = .ok (.aload_n 0, 1) := by decide +kernel
theorem d_MA_init_16 : decode m_MA_init.2.1 16 = .ok (.bipush 121, 2) := by decide +kernel
theorem d_MA_init_18 : decode m_MA_init.2.1 18 = .ok (.newarray .int, 2) := by decide +kernel
theorem d_MA_init_20 : decode m_MA_init.2.1 20 = .ok (.putfield 18, 3) := by decide +kernel
theorem d_MA_init_23 : decode m_MA_init.2.1 23 = .ok (.aload_n 0, 1) := by decide +kernel
theorem d_MA_init_24 : decode m_MA_init.2.1 24 = .ok (.bipush 121, 2) := by decide +kernel
theorem d_MA_init_26 : decode m_MA_init.2.1 26 = .ok (.newarray .int, 2) := by decide +kernel
theorem d_MA_init_28 : decode m_MA_init.2.1 28 = .ok (.putfield 22, 3) := by decide +kernel
theorem d_MA_init_31 : decode m_MA_init.2.1 31 = .ok (.return_, 1) := by decide +kernel
theorem d_PR_init_0 : decode m_PR_init.2.1 0 = .ok (.aload_n 0, 1) := by decide +kernel
theorem d_PR_init_1 : decode m_PR_init.2.1 1 = .ok (.invokespecial 3, 3) := by decide +kernel
theorem d_PR_init_4 : decode m_PR_init.2.1 4 = .ok (.aload_n 0, 1) := by decide +kernel
theorem d_PR_init_5 : decode m_PR_init.2.1 5 = .ok (.bipush 121, 2) := by decide +kernel
theorem d_PR_init_7 : decode m_PR_init.2.1 7 = .ok (.newarray .int, 2) := by decide +kernel
theorem d_PR_init_9 : decode m_PR_init.2.1 9 = .ok (.putfield 11, 3) := by decide +kernel
theorem d_PR_init_12 : decode m_PR_init.2.1 12 = .ok (.aload_n 0, 1) := by decide +kernel
theorem d_PR_init_13 : decode m_PR_init.2.1 13 = .ok (.bipush 121, 2) := by decide +kernel
theorem d_PR_init_15 : decode m_PR_init.2.1 15 = .ok (.newarray .int, 2) := by decide +kernel
theorem d_PR_init_17 : decode m_PR_init.2.1 17 = .ok (.putfield 15, 3) := by decide +kernel
theorem d_PR_init_20 : decode m_PR_init.2.1 20 = .ok (.aload_n 0, 1) := by decide +kernel
theorem d_PR_init_21 : decode m_PR_init.2.1 21 = .ok (.bipush 121, 2) := by decide +kernel
theorem d_PR_init_23 : decode m_PR_init.2.1 23 = .ok (.newarray .int, 2) := by decide +kernel
theorem d_PR_init_25 : decode m_PR_init.2.1 25 = .ok (.putfield 18, 3) := by decide +kernel
theorem d_PR_init_28 : decode m_PR_init.2.1 28 = .ok (.aload_n 0, 1) := by decide +kernel
theorem d_PR_init_29 : decode m_PR_init.2.1 29 = .ok (.bipush 121, 2) := by decide +kernel
theorem d_PR_init_31 : decode m_PR_init.2.1 31 = .ok (.newarray .int, 2) := by decide +kernel
theorem d_PR_init_33 : decode m_PR_init.2.1 33 = .ok (.putfield 21, 3) := by decide +kernel
theorem d_PR_init_36 : decode m_PR_init.2.1 36 = .ok (.aload_n 0, 1) := by decide +kernel
theorem d_PR_init_37 : decode m_PR_init.2.1 37 = .ok (.bipush 121, 2) := by decide +kernel
theorem d_PR_init_39 : decode m_PR_init.2.1 39 = .ok (.newarray .long, 2) := by decide +kernel
theorem d_PR_init_41 : decode m_PR_init.2.1 41 = .ok (.putfield 24, 3) := by decide +kernel
theorem d_PR_init_44 : decode m_PR_init.2.1 44 = .ok (.aload_n 0, 1) := by decide +kernel
theorem d_PR_init_45 : decode m_PR_init.2.1 45 = .ok (.bipush 121, 2) := by decide +kernel
theorem d_PR_init_47 : decode m_PR_init.2.1 47 = .ok (.newarray .long, 2) := by decide +kernel
theorem d_PR_init_49 : decode m_PR_init.2.1 49 = .ok (.putfield 28, 3) := by decide +kernel
theorem d_PR_init_52 : decode m_PR_init.2.1 52 = .ok (.return_, 1) := by decide +kernel
theorem d_RE_init_0 : decode m_RE_init.2.1 0 = .ok (.aload_n 0, 1) := by decide +kernel
theorem d_RE_init_1 : decode m_RE_init.2.1 1 = .ok (.invokespecial 3, 3) := by decide +kernel
theorem d_RE_init_4 : decode m_RE_init.2.1 4 = .ok (.aload_n 0, 1) := by decide +kernel
theorem d_RE_init_5 : decode m_RE_init.2.1 5 = .ok (.aload_n 1, 1) := by decide +kernel
theorem d_RE_init_6 : decode m_RE_init.2.1 6 = .ok (.putfield 9, 3) := by decide +kernel
theorem d_RE_init_9 : decode m_RE_init.2.1 9 = .ok (.return_, 1) := by decide +kernel
theorem d_RE_readChoice_0 : decode m_RE_readChoice.2.1 0 = .ok (.new 35, 3) := by decide +kernel
theorem d_RE_readChoice_3 : decode m_RE_readChoice.2.1 3 = .ok (.dup, 1) := by decide +kernel
theorem d_RE_readChoice_4 : decode m_RE_readChoice.2.1 4 = .ok (.invokespecial 37, 3) := by decide +kernel
theorem d_RE_readChoice_7 : decode m_RE_readChoice.2.1 7 = .ok (.astore_n 1, 1) := by decide +kernel
theorem d_RE_readChoice_8 : decode m_RE_readChoice.2.1 8 = .ok (.aload_n 1, 1) := by decide +kernel
theorem d_RE_readChoice_9 : decode m_RE_readChoice.2.1 9 = .ok (.aload_n 0, 1) := by decide +kernel
theorem d_RE_readChoice_10 : decode m_RE_readChoice.2.1 10 = .ok (.invokevirtual 38, 3) := by decide +kernel
theorem d_RE_readChoice_13 : decode m_RE_readChoice.2.1 13 = .ok (.invokevirtual 42, 3) := by decide +kernel
theorem d_RE_readChoice_16 : decode m_RE_readChoice.2.1 16 = .ok (.iconst 0, 1) := by decide +kernel
theorem d_RE_readChoice_17 : decode m_RE_readChoice.2.1 17 = .ok (.istore_n 2, 1) := by decide +kernel
theorem d_RE_readChoice_18 : decode m_RE_readChoice.2.1 18 = .ok (.iload_n 2, 1) := by decide +kernel
theorem d_RE_readChoice_19 : decode m_RE_readChoice.2.1 19 = .ok (.bipush 28, 2) := by decide +kernel
theorem d_RE_readChoice_21 : decode m_RE_readChoice.2.1 21 = .ok (.if_icmp .ge 26, 3) := by decide +kernel
theorem d_RE_readChoice_24 : decode m_RE_readChoice.2.1 24 = .ok (.aload_n 0, 1) := by decide +kernel
theorem d_RE_readChoice_25 : decode m_RE_readChoice.2.1 25 = .ok (.bipush 124, 2) := by decide +kernel
theorem d_RE_readChoice_27 : decode m_RE_readChoice.2.1 27 = .ok (.invokevirtual 46, 3) := by decide +kernel
theorem d_RE_readChoice_30 : decode m_RE_readChoice.2.1 30 = .ok (.ifCond .eq 17, 3) := by decide +kernel
theorem d_RE_readChoice_33 : decode m_RE_readChoice.2.1 33 = .ok (.aload_n 1, 1) := by decide +kernel
theorem d_RE_readChoice_34 : decode m_RE_readChoice.2.1 34 = .ok (.aload_n 0, 1) := by decide +kernel
theorem d_RE_readChoice_35 : decode m_RE_readChoice.2.1 35 = .ok (.invokevirtual 38, 3) := by decide +kernel
theorem d_RE_readChoice_38 : decode m_RE_readChoice.2.1 38 = .ok (.invokevirtual 42, 3) := by decide +kernel
theorem d_RE_readChoice_41 : decode m_RE_readChoice.2.1 41 = .ok (.iinc 2 1, 3) := by decide +kernel
theorem d_RE_readChoice_44 : decode m_RE_readChoice.2.1 44 = .ok (.goto (-26), 3) := by decide +kernel
theorem d_RE_readChoice_47 : decode m_RE_readChoice.2.1 47 = .ok (.aload_n 1, 1) := by decide +kernel
theorem d_RE_readChoice_48 : decode m_RE_readChoice.2.1 48 = .ok (.areturn, 1) := by decide +kernel
theorem d_RE_readRow_0 : decode m_RE_readRow.2.1 0 = .ok (.new 50, 3) := by decide +kernel
theorem d_RE_readRow_3 : decode m_RE_readRow.2.1 3 = .ok (.dup, 1) := by decide +kernel
theorem d_RE_readRow_4 : decode m_RE_readRow.2.1 4 = .ok (.invokespecial 52, 3) := by decide +kernel
theorem d_RE_readRow_7 : decode m_RE_readRow.2.1 7 = .ok (.astore_n 1, 1) := by decide +kernel
theorem d_RE_readRow_8 : decode m_RE_readRow.2.1 8 = .ok (.iconst 0, 1) := by decide +kernel
theorem d_RE_readRow_9 : decode m_RE_readRow.2.1 9 = .ok (.istore_n 2, 1) := by decide +kernel
theorem d_RE_readRow_10 : decode m_RE_readRow.2.1 10 = .ok (.iload_n 2, 1) := by decide +kernel
theorem d_RE_readRow_11 : decode m_RE_readRow.2.1 11 = .ok (.bipush 28, 2) := by decide +kernel
theorem d_RE_readRow_13 : decode m_RE_readRow.2.1 13 = .ok (.if_icmp .ge 28, 3) := by decide +kernel
theorem d_RE_readRow_16 : decode m_RE_readRow.2.1 16 = .ok (.aload_n 0, 1) := by decide +kernel
theorem d_RE_readRow_17 : decode m_RE_readRow.2.1 17 = .ok (.aload_n 0, 1) := by decide +kernel
theorem d_RE_readRow_18 : decode m_RE_readRow.2.1 18 = .ok (.invokevirtual 53, 3) := by decide +kernel
theorem d_RE_readRow_21 : decode m_RE_readRow.2.1 21 = .ok (.invokevirtual 56, 3) := by decide +kernel
theorem d_RE_readRow_24 : decode m_RE_readRow.2.1 24 = .ok (.ifCond .eq 17, 3) := by decide +kernel
theorem d_RE_readRow_27 : decode m_RE_readRow.2.1 27 = .ok (.aload_n 1, 1) := by decide +kernel
theorem d_RE_readRow_28 : decode m_RE_readRow.2.1 28 = .ok (.aload_n 0, 1) := by decide +kernel
theorem d_RE_readRow_29 : decode m_RE_readRow.2.1 29 = .ok (.invokevirtual 59, 3) := by decide +kernel
theorem d_RE_readRow_32 : decode m_RE_readRow.2.1 32 = .ok (.invokevirtual 63, 3) := by decide +kernel
theorem d_RE_readRow_35 : decode m_RE_readRow.2.1 35 = .ok (.iinc 2 1, 3) := by decide +kernel
theorem d_RE_readRow_38 : decode m_RE_readRow.2.1 38 = .ok (.goto (-28), 3) := by decide +kernel
theorem d_RE_readRow_41 : decode m_RE_readRow.2.1 41 = .ok (.aload_n 1, 1) := by decide +kernel
theorem d_RE_readRow_42 : decode m_RE_readRow.2.1 42 = .ok (.areturn, 1) := by decide +kernel
theorem d_RE_peek_0 : decode m_RE_peek.2.1 0 = .ok (.aload_n 0, 1) := by decide +kernel
theorem d_RE_peek_1 : decode m_RE_peek.2.1 1 = .ok (.getfield 15, 3) := by decide +kernel
theorem d_RE_peek_4 : decode m_RE_peek.2.1 4 = .ok (.ifCond .eq 8, 3) := by decide +kernel
theorem d_RE_peek_7 : decode m_RE_peek.2.1 7 = .ok (.bipush (-2), 2) := by decide +kernel
theorem d_RE_peek_9 : decode m_RE_peek.2.1 9 = .ok (.goto 14, 3) := by decide +kernel
theorem d_RE_peek_12 : decode m_RE_peek.2.1 12 = .ok (.aload_n 0, 1) := by decide +kernel
theorem d_RE_peek_13 : decode m_RE_peek.2.1 13 = .ok (.getfield 9, 3) := by decide +kernel
theorem d_RE_peek_16 : decode m_RE_peek.2.1 16 = .ok (.aload_n 0, 1) := by decide +kernel
theorem d_RE_peek_17 : decode m_RE_peek.2.1 17 = .ok (.getfield 19, 3) := by decide +kernel
theorem d_RE_peek_20 : decode m_RE_peek.2.1 20 = .ok (.invokevirtual 164, 3) := by decide +kernel
theorem d_RE_peek_23 : decode m_RE_peek.2.1 23 = .ok (.ireturn, 1) := by decide +kernel
theorem d_RE_beginsAtom_0 : decode m_RE_beginsAtom.2.1 0 = .ok (.iload_n 1, 1) := by decide +kernel
theorem d_RE_beginsAtom_1 : decode m_RE_beginsAtom.2.1 1 = .ok (.bipush 40, 2) := by decide +kernel
theorem d_RE_beginsAtom_3 : decode m_RE_beginsAtom.2.1 3 = .ok (.if_icmp .ne 18, 3) := by decide +kernel
theorem d_RE_beginsAtom_6 : decode m_RE_beginsAtom.2.1 6 = .ok (.aload_n 0, 1) := by decide +kernel
theorem d_RE_beginsAtom_7 : decode m_RE_beginsAtom.2.1 7 = .ok (.getfield 32, 3) := by decide +kernel
theorem d_RE_beginsAtom_10 : decode m_RE_beginsAtom.2.1 10 = .ok (.bipush 6, 2) := by decide +kernel
theorem d_RE_beginsAtom_12 : decode m_RE_beginsAtom.2.1 12 = .ok (.if_icmp .ge 7, 3) := by decide +kernel
theorem d_RE_beginsAtom_15 : decode m_RE_beginsAtom.2.1 15 = .ok (.iconst 1, 1) := by decide +kernel
theorem d_RE_beginsAtom_16 : decode m_RE_beginsAtom.2.1 16 = .ok (.goto 4, 3) := by decide +kernel
theorem d_RE_beginsAtom_19 : decode m_RE_beginsAtom.2.1 19 = .ok (.iconst 0, 1) := by decide +kernel
theorem d_RE_beginsAtom_20 : decode m_RE_beginsAtom.2.1 20 = .ok (.ireturn, 1) := by decide +kernel
theorem d_RE_beginsAtom_21 : decode m_RE_beginsAtom.2.1 21 = .ok (.iload_n 1, 1) := by decide +kernel
theorem d_RE_beginsAtom_22 : decode m_RE_beginsAtom.2.1 22 = .ok (.bipush 91, 2) := by decide +kernel
theorem d_RE_beginsAtom_24 : decode m_RE_beginsAtom.2.1 24 = .ok (.if_icmp .eq 28, 3) := by decide +kernel
theorem d_RE_beginsAtom_27 : decode m_RE_beginsAtom.2.1 27 = .ok (.iload_n 1, 1) := by decide +kernel
theorem d_RE_beginsAtom_28 : decode m_RE_beginsAtom.2.1 28 = .ok (.bipush 46, 2) := by decide +kernel
theorem d_RE_beginsAtom_30 : decode m_RE_beginsAtom.2.1 30 = .ok (.if_icmp .eq 22, 3) := by decide +kernel
theorem d_RE_beginsAtom_33 : decode m_RE_beginsAtom.2.1 33 = .ok (.iload_n 1, 1) := by decide +kernel
theorem d_RE_beginsAtom_34 : decode m_RE_beginsAtom.2.1 34 = .ok (.bipush 94, 2) := by decide +kernel
theorem d_RE_beginsAtom_36 : decode m_RE_beginsAtom.2.1 36 = .ok (.if_icmp .eq 16, 3) := by decide +kernel
theorem d_RE_beginsAtom_39 : decode m_RE_beginsAtom.2.1 39 = .ok (.iload_n 1, 1) := by decide +kernel
theorem d_RE_beginsAtom_40 : decode m_RE_beginsAtom.2.1 40 = .ok (.bipush 36, 2) := by decide +kernel
theorem d_RE_beginsAtom_42 : decode m_RE_beginsAtom.2.1 42 = .ok (.if_icmp .eq 10, 3) := by decide +kernel
theorem d_RE_beginsAtom_45 : decode m_RE_beginsAtom.2.1 45 = .ok (.iload_n 1, 1) := by decide +kernel
theorem d_RE_beginsAtom_46 : decode m_RE_beginsAtom.2.1 46 = .ok (.invokestatic 149, 3) := by decide +kernel
theorem d_RE_beginsAtom_49 : decode m_RE_beginsAtom.2.1 49 = .ok (.ifCond .eq 7, 3) := by decide +kernel
theorem d_RE_beginsAtom_52 : decode m_RE_beginsAtom.2.1 52 = .ok (.iconst 1, 1) := by decide +kernel
theorem d_RE_beginsAtom_53 : decode m_RE_beginsAtom.2.1 53 = .ok (.goto 4, 3) := by decide +kernel
theorem d_RE_beginsAtom_56 : decode m_RE_beginsAtom.2.1 56 = .ok (.iconst 0, 1) := by decide +kernel
theorem d_RE_beginsAtom_57 : decode m_RE_beginsAtom.2.1 57 = .ok (.ireturn, 1) := by decide +kernel
theorem d_RE_isPlain_0 : decode m_RE_isPlain.2.1 0 = .ok (.iload_n 0, 1) := by decide +kernel
theorem d_RE_isPlain_1 : decode m_RE_isPlain.2.1 1 = .ok (.invokestatic 152, 3) := by decide +kernel
theorem d_RE_isPlain_4 : decode m_RE_isPlain.2.1 4 = .ok (.ifCond .eq 17, 3) := by decide +kernel
theorem d_RE_isPlain_7 : decode m_RE_isPlain.2.1 7 = .ok (.ldc 155, 2) := by decide +kernel
theorem d_RE_isPlain_9 : decode m_RE_isPlain.2.1 9 = .ok (.iload_n 0, 1) := by decide +kernel
theorem d_RE_isPlain_10 : decode m_RE_isPlain.2.1 10 = .ok (.i2c, 1) := by decide +kernel
theorem d_RE_isPlain_11 : decode m_RE_isPlain.2.1 11 = .ok (.invokevirtual 157, 3) := by decide +kernel
theorem d_RE_isPlain_14 : decode m_RE_isPlain.2.1 14 = .ok (.ifCond .ge 7, 3) := by decide +kernel
theorem d_RE_isPlain_17 : decode m_RE_isPlain.2.1 17 = .ok (.iconst 1, 1) := by decide +kernel
theorem d_RE_isPlain_18 : decode m_RE_isPlain.2.1 18 = .ok (.goto 4, 3) := by decide +kernel
theorem d_RE_isPlain_21 : decode m_RE_isPlain.2.1 21 = .ok (.iconst 0, 1) := by decide +kernel
theorem d_RE_isPlain_22 : decode m_RE_isPlain.2.1 22 = .ok (.ireturn, 1) := by decide +kernel
theorem d_RE_readPiece_0 : decode m_RE_readPiece.2.1 0 = .ok (.new 66, 3) := by decide +kernel
theorem d_RE_readPiece_3 : decode m_RE_readPiece.2.1 3 = .ok (.dup, 1) := by decide +kernel
theorem d_RE_readPiece_4 : decode m_RE_readPiece.2.1 4 = .ok (.aload_n 0, 1) := by decide +kernel
theorem d_RE_readPiece_5 : decode m_RE_readPiece.2.1 5 = .ok (.invokevirtual 68, 3) := by decide +kernel
theorem d_RE_readPiece_8 : decode m_RE_readPiece.2.1 8 = .ok (.invokespecial 72, 3) := by decide +kernel
theorem d_RE_readPiece_11 : decode m_RE_readPiece.2.1 11 = .ok (.astore_n 1, 1) := by decide +kernel
theorem d_RE_readPiece_12 : decode m_RE_readPiece.2.1 12 = .ok (.aload_n 0, 1) := by decide +kernel
theorem d_RE_readPiece_13 : decode m_RE_readPiece.2.1 13 = .ok (.aload_n 1, 1) := by decide +kernel
theorem d_RE_readPiece_14 : decode m_RE_readPiece.2.1 14 = .ok (.invokevirtual 75, 3) := by decide +kernel
theorem d_RE_readPiece_17 : decode m_RE_readPiece.2.1 17 = .ok (.ifCond .eq 13, 3) := by decide +kernel
theorem d_RE_readPiece_20 : decode m_RE_readPiece.2.1 20 = .ok (.aload_n 1, 1) := by decide +kernel
theorem d_RE_readPiece_21 : decode m_RE_readPiece.2.1 21 = .ok (.aload_n 0, 1) := by decide +kernel
theorem d_RE_readPiece_22 : decode m_RE_readPiece.2.1 22 = .ok (.bipush 63, 2) := by decide +kernel
theorem d_RE_readPiece_24 : decode m_RE_readPiece.2.1 24 = .ok (.invokevirtual 46, 3) := by decide +kernel
theorem d_RE_readPiece_27 : decode m_RE_readPiece.2.1 27 = .ok (.putfield 79, 3) := by decide +kernel
theorem d_RE_readPiece_30 : decode m_RE_readPiece.2.1 30 = .ok (.aload_n 0, 1) := by decide +kernel
theorem d_RE_readPiece_31 : decode m_RE_readPiece.2.1 31 = .ok (.aload_n 0, 1) := by decide +kernel
theorem d_RE_readPiece_32 : decode m_RE_readPiece.2.1 32 = .ok (.getfield 29, 3) := by decide +kernel
theorem d_RE_readPiece_35 : decode m_RE_readPiece.2.1 35 = .ok (.ifCond .ne 10, 3) := by decide +kernel
theorem d_RE_readPiece_38 : decode m_RE_readPiece.2.1 38 = .ok (.aload_n 1, 1) := by decide +kernel
theorem d_RE_readPiece_39 : decode m_RE_readPiece.2.1 39 = .ok (.invokevirtual 82, 3) := by decide +kernel
theorem d_RE_readPiece_42 : decode m_RE_readPiece.2.1 42 = .ok (.ifCond .eq 7, 3) := by decide +kernel
theorem d_RE_readPiece_45 : decode m_RE_readPiece.2.1 45 = .ok (.iconst 1, 1) := by decide +kernel
theorem d_RE_readPiece_46 : decode m_RE_readPiece.2.1 46 = .ok (.goto 4, 3) := by decide +kernel
theorem d_RE_readPiece_49 : decode m_RE_readPiece.2.1 49 = .ok (.iconst 0, 1) := by decide +kernel
theorem d_RE_readPiece_50 : decode m_RE_readPiece.2.1 50 = .ok (.putfield 29, 3) := by decide +kernel
theorem d_RE_readPiece_53 : decode m_RE_readPiece.2.1 53 = .ok (.aload_n 1, 1) := by decide +kernel
theorem d_RE_readPiece_54 : decode m_RE_readPiece.2.1 54 = .ok (.areturn, 1) := by decide +kernel
theorem d_RE_readAtom_0 : decode m_RE_readAtom.2.1 0 = .ok (.aload_n 0, 1) := by decide +kernel
theorem d_RE_readAtom_1 : decode m_RE_readAtom.2.1 1 = .ok (.invokevirtual 53, 3) := by decide +kernel
theorem d_RE_readAtom_4 : decode m_RE_readAtom.2.1 4 = .ok (.istore_n 1, 1) := by decide +kernel
theorem d_RE_readAtom_5 : decode m_RE_readAtom.2.1 5 = .ok (.aload_n 0, 1) := by decide +kernel
theorem d_RE_readAtom_6 : decode m_RE_readAtom.2.1 6 = .ok (.dup, 1) := by decide +kernel
theorem d_RE_readAtom_7 : decode m_RE_readAtom.2.1 7 = .ok (.getfield 19, 3) := by decide +kernel
theorem d_RE_readAtom_10 : decode m_RE_readAtom.2.1 10 = .ok (.iconst 1, 1) := by decide +kernel
theorem d_RE_readAtom_11 : decode m_RE_readAtom.2.1 11 = .ok (.iadd, 1) := by decide +kernel
theorem d_RE_readAtom_12 : decode m_RE_readAtom.2.1 12 = .ok (.putfield 19, 3) := by decide +kernel
theorem d_RE_readAtom_15 : decode m_RE_readAtom.2.1 15 = .ok (.iload_n 1, 1) := by decide +kernel
theorem d_RE_readAtom_16 : decode m_RE_readAtom.2.1 16 = .ok (.lookupswitch 88 #[(36, 71), (40, 52), (46, 80), (91, 57), (94, 62)], 52) := by decide +kernel
theorem d_RE_readAtom_68 : decode m_RE_readAtom.2.1 68 = .ok (.aload_n 0, 1) := by decide +kernel
theorem d_RE_readAtom_69 : decode m_RE_readAtom.2.1 69 = .ok (.invokevirtual 110, 3) := by decide +kernel
theorem d_RE_readAtom_72 : decode m_RE_readAtom.2.1 72 = .ok (.areturn, 1) := by decide +kernel
theorem d_RE_readAtom_73 : decode m_RE_readAtom.2.1 73 = .ok (.aload_n 0, 1) := by decide +kernel
theorem d_RE_readAtom_74 : decode m_RE_readAtom.2.1 74 = .ok (.invokevirtual 113, 3) := by decide +kernel
theorem d_RE_readAtom_77 : decode m_RE_readAtom.2.1 77 = .ok (.areturn, 1) := by decide +kernel
theorem d_RE_readAtom_78 : decode m_RE_readAtom.2.1 78 = .ok (.new 116, 3) := by decide +kernel
theorem d_RE_readAtom_81 : decode m_RE_readAtom.2.1 81 = .ok (.dup, 1) := by decide +kernel
theorem d_RE_readAtom_82 : decode m_RE_readAtom.2.1 82 = .ok (.iconst 2, 1) := by decide +kernel
theorem d_RE_readAtom_83 : decode m_RE_readAtom.2.1 83 = .ok (.invokespecial 120, 3) := by decide +kernel
theorem d_RE_readAtom_86 : decode m_RE_readAtom.2.1 86 = .ok (.areturn, 1) := by decide +kernel
theorem d_RE_readAtom_87 : decode m_RE_readAtom.2.1 87 = .ok (.new 116, 3) := by decide +kernel
theorem d_RE_readAtom_90 : decode m_RE_readAtom.2.1 90 = .ok (.dup, 1) := by decide +kernel
theorem d_RE_readAtom_91 : decode m_RE_readAtom.2.1 91 = .ok (.iconst 3, 1) := by decide +kernel
theorem d_RE_readAtom_92 : decode m_RE_readAtom.2.1 92 = .ok (.invokespecial 120, 3) := by decide +kernel
theorem d_RE_readAtom_95 : decode m_RE_readAtom.2.1 95 = .ok (.areturn, 1) := by decide +kernel
theorem d_RE_readAtom_96 : decode m_RE_readAtom.2.1 96 = .ok (.bipush 32, 2) := by decide +kernel
theorem d_RE_readAtom_98 : decode m_RE_readAtom.2.1 98 = .ok (.bipush 126, 2) := by decide +kernel
theorem d_RE_readAtom_100 : decode m_RE_readAtom.2.1 100 = .ok (.invokestatic 122, 3) := by decide +kernel
theorem d_RE_readAtom_103 : decode m_RE_readAtom.2.1 103 = .ok (.areturn, 1) := by decide +kernel
theorem d_RE_readAtom_104 : decode m_RE_readAtom.2.1 104 = .ok (.iload_n 1, 1) := by decide +kernel
theorem d_RE_readAtom_105 : decode m_RE_readAtom.2.1 105 = .ok (.iload_n 1, 1) := by decide +kernel
theorem d_RE_readAtom_106 : decode m_RE_readAtom.2.1 106 = .ok (.invokestatic 122, 3) := by decide +kernel
theorem d_RE_readAtom_109 : decode m_RE_readAtom.2.1 109 = .ok (.areturn, 1) := by decide +kernel
theorem d_RE_readGroup_0 : decode m_RE_readGroup.2.1 0 = .ok (.aload_n 0, 1) := by decide +kernel
theorem d_RE_readGroup_1 : decode m_RE_readGroup.2.1 1 = .ok (.dup, 1) := by decide +kernel
theorem d_RE_readGroup_2 : decode m_RE_readGroup.2.1 2 = .ok (.getfield 32, 3) := by decide +kernel
theorem d_RE_readGroup_5 : decode m_RE_readGroup.2.1 5 = .ok (.iconst 1, 1) := by decide +kernel
theorem d_RE_readGroup_6 : decode m_RE_readGroup.2.1 6 = .ok (.iadd, 1) := by decide +kernel
theorem d_RE_readGroup_7 : decode m_RE_readGroup.2.1 7 = .ok (.putfield 32, 3) := by decide +kernel
theorem d_RE_readGroup_10 : decode m_RE_readGroup.2.1 10 = .ok (.aload_n 0, 1) := by decide +kernel
theorem d_RE_readGroup_11 : decode m_RE_readGroup.2.1 11 = .ok (.getfield 32, 3) := by decide +kernel
theorem d_RE_readGroup_14 : decode m_RE_readGroup.2.1 14 = .ok (.istore_n 1, 1) := by decide +kernel
theorem d_RE_readGroup_15 : decode m_RE_readGroup.2.1 15 = .ok (.new 116, 3) := by decide +kernel
theorem d_RE_readGroup_18 : decode m_RE_readGroup.2.1 18 = .ok (.dup, 1) := by decide +kernel
theorem d_RE_readGroup_19 : decode m_RE_readGroup.2.1 19 = .ok (.iconst 4, 1) := by decide +kernel
theorem d_RE_readGroup_20 : decode m_RE_readGroup.2.1 20 = .ok (.invokespecial 120, 3) := by decide +kernel
theorem d_RE_readGroup_23 : decode m_RE_readGroup.2.1 23 = .ok (.astore_n 2, 1) := by decide +kernel
theorem d_RE_readGroup_24 : decode m_RE_readGroup.2.1 24 = .ok (.aload_n 2, 1) := by decide +kernel
theorem d_RE_readGroup_25 : decode m_RE_readGroup.2.1 25 = .ok (.iload_n 1, 1) := by decide +kernel
theorem d_RE_readGroup_26 : decode m_RE_readGroup.2.1 26 = .ok (.aload_n 0, 1) := by decide +kernel
theorem d_RE_readGroup_27 : decode m_RE_readGroup.2.1 27 = .ok (.invokevirtual 129, 3) := by decide +kernel
theorem d_RE_readGroup_30 : decode m_RE_readGroup.2.1 30 = .ok (.invokevirtual 133, 3) := by decide +kernel
theorem d_RE_readGroup_33 : decode m_RE_readGroup.2.1 33 = .ok (.aload_n 0, 1) := by decide +kernel
theorem d_RE_readGroup_34 : decode m_RE_readGroup.2.1 34 = .ok (.bipush 41, 2) := by decide +kernel
theorem d_RE_readGroup_36 : decode m_RE_readGroup.2.1 36 = .ok (.invokevirtual 107, 3) := by decide +kernel
theorem d_RE_readGroup_39 : decode m_RE_readGroup.2.1 39 = .ok (.aload_n 2, 1) := by decide +kernel
theorem d_RE_readGroup_40 : decode m_RE_readGroup.2.1 40 = .ok (.areturn, 1) := by decide +kernel
theorem d_RE_expect_0 : decode m_RE_expect.2.1 0 = .ok (.aload_n 0, 1) := by decide +kernel
theorem d_RE_expect_1 : decode m_RE_expect.2.1 1 = .ok (.iload_n 1, 1) := by decide +kernel
theorem d_RE_expect_2 : decode m_RE_expect.2.1 2 = .ok (.invokevirtual 46, 3) := by decide +kernel
theorem d_RE_expect_5 : decode m_RE_expect.2.1 5 = .ok (.ifCond .ne 8, 3) := by decide +kernel
theorem d_RE_expect_8 : decode m_RE_expect.2.1 8 = .ok (.aload_n 0, 1) := by decide +kernel
theorem d_RE_expect_9 : decode m_RE_expect.2.1 9 = .ok (.iconst 1, 1) := by decide +kernel
theorem d_RE_expect_10 : decode m_RE_expect.2.1 10 = .ok (.putfield 15, 3) := by decide +kernel
theorem d_RE_expect_13 : decode m_RE_expect.2.1 13 = .ok (.return_, 1) := by decide +kernel
theorem d_RE_take_0 : decode m_RE_take.2.1 0 = .ok (.aload_n 0, 1) := by decide +kernel
theorem d_RE_take_1 : decode m_RE_take.2.1 1 = .ok (.invokevirtual 53, 3) := by decide +kernel
theorem d_RE_take_4 : decode m_RE_take.2.1 4 = .ok (.iload_n 1, 1) := by decide +kernel
theorem d_RE_take_5 : decode m_RE_take.2.1 5 = .ok (.if_icmp .eq 5, 3) := by decide +kernel
theorem d_RE_take_8 : decode m_RE_take.2.1 8 = .ok (.iconst 0, 1) := by decide +kernel
theorem d_RE_take_9 : decode m_RE_take.2.1 9 = .ok (.ireturn, 1) := by decide +kernel
theorem d_RE_take_10 : decode m_RE_take.2.1 10 = .ok (.aload_n 0, 1) := by decide +kernel
theorem d_RE_take_11 : decode m_RE_take.2.1 11 = .ok (.dup, 1) := by decide +kernel
theorem d_RE_take_12 : decode m_RE_take.2.1 12 = .ok (.getfield 19, 3) := by decide +kernel
theorem d_RE_take_15 : decode m_RE_take.2.1 15 = .ok (.iconst 1, 1) := by decide +kernel
theorem d_RE_take_16 : decode m_RE_take.2.1 16 = .ok (.iadd, 1) := by decide +kernel
theorem d_RE_take_17 : decode m_RE_take.2.1 17 = .ok (.putfield 19, 3) := by decide +kernel
theorem d_RE_take_20 : decode m_RE_take.2.1 20 = .ok (.iconst 1, 1) := by decide +kernel
theorem d_RE_take_21 : decode m_RE_take.2.1 21 = .ok (.ireturn, 1) := by decide +kernel
theorem d_RE_readClass_0 : decode m_RE_readClass.2.1 0 = .ok (.new 116, 3) := by decide +kernel
theorem d_RE_readClass_3 : decode m_RE_readClass.2.1 3 = .ok (.dup, 1) := by decide +kernel
theorem d_RE_readClass_4 : decode m_RE_readClass.2.1 4 = .ok (.iconst 1, 1) := by decide +kernel
theorem d_RE_readClass_5 : decode m_RE_readClass.2.1 5 = .ok (.invokespecial 120, 3) := by decide +kernel
theorem d_RE_readClass_8 : decode m_RE_readClass.2.1 8 = .ok (.astore_n 1, 1) := by decide +kernel
theorem d_RE_readClass_9 : decode m_RE_readClass.2.1 9 = .ok (.aload_n 0, 1) := by decide +kernel
theorem d_RE_readClass_10 : decode m_RE_readClass.2.1 10 = .ok (.bipush 94, 2) := by decide +kernel
theorem d_RE_readClass_12 : decode m_RE_readClass.2.1 12 = .ok (.invokevirtual 46, 3) := by decide +kernel
theorem d_RE_readClass_15 : decode m_RE_readClass.2.1 15 = .ok (.istore_n 2, 1) := by decide +kernel
theorem d_RE_readClass_16 : decode m_RE_readClass.2.1 16 = .ok (.aload_n 0, 1) := by decide +kernel
theorem d_RE_readClass_17 : decode m_RE_readClass.2.1 17 = .ok (.aload_n 1, 1) := by decide +kernel
theorem d_RE_readClass_18 : decode m_RE_readClass.2.1 18 = .ok (.invokevirtual 137, 3) := by decide +kernel
theorem d_RE_readClass_21 : decode m_RE_readClass.2.1 21 = .ok (.iconst 1, 1) := by decide +kernel
theorem d_RE_readClass_22 : decode m_RE_readClass.2.1 22 = .ok (.istore_n 3, 1) := by decide +kernel
theorem d_RE_readClass_23 : decode m_RE_readClass.2.1 23 = .ok (.iload_n 3, 1) := by decide +kernel
theorem d_RE_readClass_24 : decode m_RE_readClass.2.1 24 = .ok (.bipush 28, 2) := by decide +kernel
theorem d_RE_readClass_26 : decode m_RE_readClass.2.1 26 = .ok (.if_icmp .ge 24, 3) := by decide +kernel
theorem d_RE_readClass_29 : decode m_RE_readClass.2.1 29 = .ok (.aload_n 0, 1) := by decide +kernel
theorem d_RE_readClass_30 : decode m_RE_readClass.2.1 30 = .ok (.invokevirtual 53, 3) := by decide +kernel
theorem d_RE_readClass_33 : decode m_RE_readClass.2.1 33 = .ok (.invokestatic 140, 3) := by decide +kernel
theorem d_RE_readClass_36 : decode m_RE_readClass.2.1 36 = .ok (.ifCond .eq 14, 3) := by decide +kernel
theorem d_RE_readClass_39 : decode m_RE_readClass.2.1 39 = .ok (.aload_n 0, 1) := by decide +kernel
theorem d_RE_readClass_40 : decode m_RE_readClass.2.1 40 = .ok (.aload_n 1, 1) := by decide +kernel
theorem d_RE_readClass_41 : decode m_RE_readClass.2.1 41 = .ok (.invokevirtual 137, 3) := by decide +kernel
theorem d_RE_readClass_44 : decode m_RE_readClass.2.1 44 = .ok (.iinc 3 1, 3) := by decide +kernel
theorem d_RE_readClass_47 : decode m_RE_readClass.2.1 47 = .ok (.goto (-24), 3) := by decide +kernel
theorem d_RE_readClass_50 : decode m_RE_readClass.2.1 50 = .ok (.aload_n 0, 1) := by decide +kernel
theorem d_RE_readClass_51 : decode m_RE_readClass.2.1 51 = .ok (.bipush 93, 2) := by decide +kernel
theorem d_RE_readClass_53 : decode m_RE_readClass.2.1 53 = .ok (.invokevirtual 107, 3) := by decide +kernel
theorem d_RE_readClass_56 : decode m_RE_readClass.2.1 56 = .ok (.iload_n 2, 1) := by decide +kernel
theorem d_RE_readClass_57 : decode m_RE_readClass.2.1 57 = .ok (.ifCond .eq 7, 3) := by decide +kernel
theorem d_RE_readClass_60 : decode m_RE_readClass.2.1 60 = .ok (.aload_n 1, 1) := by decide +kernel
theorem d_RE_readClass_61 : decode m_RE_readClass.2.1 61 = .ok (.invokevirtual 143, 3) := by decide +kernel
theorem d_RE_readClass_64 : decode m_RE_readClass.2.1 64 = .ok (.aload_n 1, 1) := by decide +kernel
theorem d_RE_readClass_65 : decode m_RE_readClass.2.1 65 = .ok (.areturn, 1) := by decide +kernel
theorem d_RE_readItem_0 : decode m_RE_readItem.2.1 0 = .ok (.aload_n 0, 1) := by decide +kernel
theorem d_RE_readItem_1 : decode m_RE_readItem.2.1 1 = .ok (.bipush 32, 2) := by decide +kernel
theorem d_RE_readItem_3 : decode m_RE_readItem.2.1 3 = .ok (.invokevirtual 146, 3) := by decide +kernel
theorem d_RE_readItem_6 : decode m_RE_readItem.2.1 6 = .ok (.istore_n 2, 1) := by decide +kernel
theorem d_RE_readItem_7 : decode m_RE_readItem.2.1 7 = .ok (.aload_n 0, 1) := by decide +kernel
theorem d_RE_readItem_8 : decode m_RE_readItem.2.1 8 = .ok (.bipush 45, 2) := by decide +kernel
theorem d_RE_readItem_10 : decode m_RE_readItem.2.1 10 = .ok (.invokevirtual 46, 3) := by decide +kernel
theorem d_RE_readItem_13 : decode m_RE_readItem.2.1 13 = .ok (.ifCond .eq 11, 3) := by decide +kernel
theorem d_RE_readItem_16 : decode m_RE_readItem.2.1 16 = .ok (.aload_n 0, 1) := by decide +kernel
theorem d_RE_readItem_17 : decode m_RE_readItem.2.1 17 = .ok (.iload_n 2, 1) := by decide +kernel
theorem d_RE_readItem_18 : decode m_RE_readItem.2.1 18 = .ok (.invokevirtual 146, 3) := by decide +kernel
theorem d_RE_readItem_21 : decode m_RE_readItem.2.1 21 = .ok (.goto 4, 3) := by decide +kernel
theorem d_RE_readItem_24 : decode m_RE_readItem.2.1 24 = .ok (.iload_n 2, 1) := by decide +kernel
theorem d_RE_readItem_25 : decode m_RE_readItem.2.1 25 = .ok (.istore_n 3, 1) := by decide +kernel
theorem d_RE_readItem_26 : decode m_RE_readItem.2.1 26 = .ok (.aload_n 1, 1) := by decide +kernel
theorem d_RE_readItem_27 : decode m_RE_readItem.2.1 27 = .ok (.iload_n 2, 1) := by decide +kernel
theorem d_RE_readItem_28 : decode m_RE_readItem.2.1 28 = .ok (.iload_n 3, 1) := by decide +kernel
theorem d_RE_readItem_29 : decode m_RE_readItem.2.1 29 = .ok (.invokevirtual 126, 3) := by decide +kernel
theorem d_RE_readItem_32 : decode m_RE_readItem.2.1 32 = .ok (.return_, 1) := by decide +kernel
theorem d_RE_readItemSign_0 : decode m_RE_readItemSign.2.1 0 = .ok (.aload_n 0, 1) := by decide +kernel
theorem d_RE_readItemSign_1 : decode m_RE_readItemSign.2.1 1 = .ok (.invokevirtual 53, 3) := by decide +kernel
theorem d_RE_readItemSign_4 : decode m_RE_readItemSign.2.1 4 = .ok (.istore_n 2, 1) := by decide +kernel
theorem d_RE_readItemSign_5 : decode m_RE_readItemSign.2.1 5 = .ok (.iload_n 2, 1) := by decide +kernel
theorem d_RE_readItemSign_6 : decode m_RE_readItemSign.2.1 6 = .ok (.invokestatic 140, 3) := by decide +kernel
theorem d_RE_readItemSign_9 : decode m_RE_readItemSign.2.1 9 = .ok (.ifCond .eq 8, 3) := by decide +kernel
theorem d_RE_readItemSign_12 : decode m_RE_readItemSign.2.1 12 = .ok (.iload_n 2, 1) := by decide +kernel
theorem d_RE_readItemSign_13 : decode m_RE_readItemSign.2.1 13 = .ok (.iload_n 1, 1) := by decide +kernel
theorem d_RE_readItemSign_14 : decode m_RE_readItemSign.2.1 14 = .ok (.if_icmp .ge 10, 3) := by decide +kernel
theorem d_RE_readItemSign_17 : decode m_RE_readItemSign.2.1 17 = .ok (.aload_n 0, 1) := by decide +kernel
theorem d_RE_readItemSign_18 : decode m_RE_readItemSign.2.1 18 = .ok (.iconst 1, 1) := by decide +kernel
theorem d_RE_readItemSign_19 : decode m_RE_readItemSign.2.1 19 = .ok (.putfield 15, 3) := by decide +kernel
theorem d_RE_readItemSign_22 : decode m_RE_readItemSign.2.1 22 = .ok (.iload_n 1, 1) := by decide +kernel
theorem d_RE_readItemSign_23 : decode m_RE_readItemSign.2.1 23 = .ok (.ireturn, 1) := by decide +kernel
theorem d_RE_readItemSign_24 : decode m_RE_readItemSign.2.1 24 = .ok (.aload_n 0, 1) := by decide +kernel
theorem d_RE_readItemSign_25 : decode m_RE_readItemSign.2.1 25 = .ok (.dup, 1) := by decide +kernel
theorem d_RE_readItemSign_26 : decode m_RE_readItemSign.2.1 26 = .ok (.getfield 19, 3) := by decide +kernel
theorem d_RE_readItemSign_29 : decode m_RE_readItemSign.2.1 29 = .ok (.iconst 1, 1) := by decide +kernel
theorem d_RE_readItemSign_30 : decode m_RE_readItemSign.2.1 30 = .ok (.iadd, 1) := by decide +kernel
theorem d_RE_readItemSign_31 : decode m_RE_readItemSign.2.1 31 = .ok (.putfield 19, 3) := by decide +kernel
theorem d_RE_readItemSign_34 : decode m_RE_readItemSign.2.1 34 = .ok (.iload_n 2, 1) := by decide +kernel
theorem d_RE_readItemSign_35 : decode m_RE_readItemSign.2.1 35 = .ok (.ireturn, 1) := by decide +kernel
theorem d_RE_isItemSign_0 : decode m_RE_isItemSign.2.1 0 = .ok (.iload_n 0, 1) := by decide +kernel
theorem d_RE_isItemSign_1 : decode m_RE_isItemSign.2.1 1 = .ok (.invokestatic 152, 3) := by decide +kernel
theorem d_RE_isItemSign_4 : decode m_RE_isItemSign.2.1 4 = .ok (.ifCond .eq 17, 3) := by decide +kernel
theorem d_RE_isItemSign_7 : decode m_RE_isItemSign.2.1 7 = .ok (.ldc 162, 2) := by decide +kernel
theorem d_RE_isItemSign_9 : decode m_RE_isItemSign.2.1 9 = .ok (.iload_n 0, 1) := by decide +kernel
theorem d_RE_isItemSign_10 : decode m_RE_isItemSign.2.1 10 = .ok (.i2c, 1) := by decide +kernel
theorem d_RE_isItemSign_11 : decode m_RE_isItemSign.2.1 11 = .ok (.invokevirtual 157, 3) := by decide +kernel
theorem d_RE_isItemSign_14 : decode m_RE_isItemSign.2.1 14 = .ok (.ifCond .ge 7, 3) := by decide +kernel
theorem d_RE_isItemSign_17 : decode m_RE_isItemSign.2.1 17 = .ok (.iconst 1, 1) := by decide +kernel
theorem d_RE_isItemSign_18 : decode m_RE_isItemSign.2.1 18 = .ok (.goto 4, 3) := by decide +kernel
theorem d_RE_isItemSign_21 : decode m_RE_isItemSign.2.1 21 = .ok (.iconst 0, 1) := by decide +kernel
theorem d_RE_isItemSign_22 : decode m_RE_isItemSign.2.1 22 = .ok (.ireturn, 1) := by decide +kernel
theorem d_RE_signAtom_0 : decode m_RE_signAtom.2.1 0 = .ok (.new 116, 3) := by decide +kernel
theorem d_RE_signAtom_3 : decode m_RE_signAtom.2.1 3 = .ok (.dup, 1) := by decide +kernel
theorem d_RE_signAtom_4 : decode m_RE_signAtom.2.1 4 = .ok (.iconst 1, 1) := by decide +kernel
theorem d_RE_signAtom_5 : decode m_RE_signAtom.2.1 5 = .ok (.invokespecial 120, 3) := by decide +kernel
theorem d_RE_signAtom_8 : decode m_RE_signAtom.2.1 8 = .ok (.astore_n 2, 1) := by decide +kernel
theorem d_RE_signAtom_9 : decode m_RE_signAtom.2.1 9 = .ok (.aload_n 2, 1) := by decide +kernel
theorem d_RE_signAtom_10 : decode m_RE_signAtom.2.1 10 = .ok (.iload_n 0, 1) := by decide +kernel
theorem d_RE_signAtom_11 : decode m_RE_signAtom.2.1 11 = .ok (.iload_n 1, 1) := by decide +kernel
theorem d_RE_signAtom_12 : decode m_RE_signAtom.2.1 12 = .ok (.invokevirtual 126, 3) := by decide +kernel
theorem d_RE_signAtom_15 : decode m_RE_signAtom.2.1 15 = .ok (.aload_n 2, 1) := by decide +kernel
theorem d_RE_signAtom_16 : decode m_RE_signAtom.2.1 16 = .ok (.areturn, 1) := by decide +kernel
theorem d_RE_readRepetition_0 : decode m_RE_readRepetition.2.1 0 = .ok (.aload_n 0, 1) := by decide +kernel
theorem d_RE_readRepetition_1 : decode m_RE_readRepetition.2.1 1 = .ok (.bipush 42, 2) := by decide +kernel
theorem d_RE_readRepetition_3 : decode m_RE_readRepetition.2.1 3 = .ok (.invokevirtual 46, 3) := by decide +kernel
theorem d_RE_readRepetition_6 : decode m_RE_readRepetition.2.1 6 = .ok (.ifCond .eq 11, 3) := by decide +kernel
theorem d_RE_readRepetition_9 : decode m_RE_readRepetition.2.1 9 = .ok (.aload_n 1, 1) := by decide +kernel
theorem d_RE_readRepetition_10 : decode m_RE_readRepetition.2.1 10 = .ok (.iconst 0, 1) := by decide +kernel
theorem d_RE_readRepetition_11 : decode m_RE_readRepetition.2.1 11 = .ok (.invokevirtual 86, 3) := by decide +kernel
theorem d_RE_readRepetition_14 : decode m_RE_readRepetition.2.1 14 = .ok (.goto 57, 3) := by decide +kernel
theorem d_RE_readRepetition_17 : decode m_RE_readRepetition.2.1 17 = .ok (.aload_n 0, 1) := by decide +kernel
theorem d_RE_readRepetition_18 : decode m_RE_readRepetition.2.1 18 = .ok (.bipush 43, 2) := by decide +kernel
theorem d_RE_readRepetition_20 : decode m_RE_readRepetition.2.1 20 = .ok (.invokevirtual 46, 3) := by decide +kernel
theorem d_RE_readRepetition_23 : decode m_RE_readRepetition.2.1 23 = .ok (.ifCond .eq 11, 3) := by decide +kernel
theorem d_RE_readRepetition_26 : decode m_RE_readRepetition.2.1 26 = .ok (.aload_n 1, 1) := by decide +kernel
theorem d_RE_readRepetition_27 : decode m_RE_readRepetition.2.1 27 = .ok (.iconst 1, 1) := by decide +kernel
theorem d_RE_readRepetition_28 : decode m_RE_readRepetition.2.1 28 = .ok (.invokevirtual 86, 3) := by decide +kernel
theorem d_RE_readRepetition_31 : decode m_RE_readRepetition.2.1 31 = .ok (.goto 40, 3) := by decide +kernel
theorem d_RE_readRepetition_34 : decode m_RE_readRepetition.2.1 34 = .ok (.aload_n 0, 1) := by decide +kernel
theorem d_RE_readRepetition_35 : decode m_RE_readRepetition.2.1 35 = .ok (.bipush 63, 2) := by decide +kernel
theorem d_RE_readRepetition_37 : decode m_RE_readRepetition.2.1 37 = .ok (.invokevirtual 46, 3) := by decide +kernel
theorem d_RE_readRepetition_40 : decode m_RE_readRepetition.2.1 40 = .ok (.ifCond .eq 12, 3) := by decide +kernel
theorem d_RE_readRepetition_43 : decode m_RE_readRepetition.2.1 43 = .ok (.aload_n 1, 1) := by decide +kernel
theorem d_RE_readRepetition_44 : decode m_RE_readRepetition.2.1 44 = .ok (.iconst 0, 1) := by decide +kernel
theorem d_RE_readRepetition_45 : decode m_RE_readRepetition.2.1 45 = .ok (.iconst 1, 1) := by decide +kernel
theorem d_RE_readRepetition_46 : decode m_RE_readRepetition.2.1 46 = .ok (.invokevirtual 90, 3) := by decide +kernel
theorem d_RE_readRepetition_49 : decode m_RE_readRepetition.2.1 49 = .ok (.goto 22, 3) := by decide +kernel
theorem d_RE_readRepetition_52 : decode m_RE_readRepetition.2.1 52 = .ok (.aload_n 0, 1) := by decide +kernel
theorem d_RE_readRepetition_53 : decode m_RE_readRepetition.2.1 53 = .ok (.bipush 123, 2) := by decide +kernel
theorem d_RE_readRepetition_55 : decode m_RE_readRepetition.2.1 55 = .ok (.invokevirtual 46, 3) := by decide +kernel
theorem d_RE_readRepetition_58 : decode m_RE_readRepetition.2.1 58 = .ok (.ifCond .eq 11, 3) := by decide +kernel
theorem d_RE_readRepetition_61 : decode m_RE_readRepetition.2.1 61 = .ok (.aload_n 0, 1) := by decide +kernel
theorem d_RE_readRepetition_62 : decode m_RE_readRepetition.2.1 62 = .ok (.aload_n 1, 1) := by decide +kernel
theorem d_RE_readRepetition_63 : decode m_RE_readRepetition.2.1 63 = .ok (.invokevirtual 94, 3) := by decide +kernel
theorem d_RE_readRepetition_66 : decode m_RE_readRepetition.2.1 66 = .ok (.goto 5, 3) := by decide +kernel
theorem d_RE_readRepetition_69 : decode m_RE_readRepetition.2.1 69 = .ok (.iconst 0, 1) := by decide +kernel
theorem d_RE_readRepetition_70 : decode m_RE_readRepetition.2.1 70 = .ok (.ireturn, 1) := by decide +kernel
theorem d_RE_readRepetition_71 : decode m_RE_readRepetition.2.1 71 = .ok (.iconst 1, 1) := by decide +kernel
theorem d_RE_readRepetition_72 : decode m_RE_readRepetition.2.1 72 = .ok (.ireturn, 1) := by decide +kernel
theorem d_RE_readBraces_0 : decode m_RE_readBraces.2.1 0 = .ok (.aload_n 0, 1) := by decide +kernel
theorem d_RE_readBraces_1 : decode m_RE_readBraces.2.1 1 = .ok (.iconst 0, 1) := by decide +kernel
theorem d_RE_readBraces_2 : decode m_RE_readBraces.2.1 2 = .ok (.invokevirtual 97, 3) := by decide +kernel
theorem d_RE_readBraces_5 : decode m_RE_readBraces.2.1 5 = .ok (.istore_n 2, 1) := by decide +kernel
theorem d_RE_readBraces_6 : decode m_RE_readBraces.2.1 6 = .ok (.iload_n 2, 1) := by decide +kernel
theorem d_RE_readBraces_7 : decode m_RE_readBraces.2.1 7 = .ok (.istore_n 3, 1) := by decide +kernel
theorem d_RE_readBraces_8 : decode m_RE_readBraces.2.1 8 = .ok (.aload_n 0, 1) := by decide +kernel
theorem d_RE_readBraces_9 : decode m_RE_readBraces.2.1 9 = .ok (.bipush 44, 2) := by decide +kernel
theorem d_RE_readBraces_11 : decode m_RE_readBraces.2.1 11 = .ok (.invokevirtual 46, 3) := by decide +kernel
theorem d_RE_readBraces_14 : decode m_RE_readBraces.2.1 14 = .ok (.ifCond .eq 16, 3) := by decide +kernel
theorem d_RE_readBraces_17 : decode m_RE_readBraces.2.1 17 = .ok (.aload_n 0, 1) := by decide +kernel
theorem d_RE_readBraces_18 : decode m_RE_readBraces.2.1 18 = .ok (.iconst 1, 1) := by decide +kernel
theorem d_RE_readBraces_19 : decode m_RE_readBraces.2.1 19 = .ok (.iload_n 2, 1) := by decide +kernel
theorem d_RE_readBraces_20 : decode m_RE_readBraces.2.1 20 = .ok (.invokestatic 101, 3) := by decide +kernel
theorem d_RE_readBraces_23 : decode m_RE_readBraces.2.1 23 = .ok (.invokevirtual 97, 3) := by decide +kernel
theorem d_RE_readBraces_26 : decode m_RE_readBraces.2.1 26 = .ok (.istore_n 3, 1) := by decide +kernel
theorem d_RE_readBraces_27 : decode m_RE_readBraces.2.1 27 = .ok (.goto 12, 3) := by decide +kernel
theorem d_RE_readBraces_30 : decode m_RE_readBraces.2.1 30 = .ok (.iload_n 2, 1) := by decide +kernel
theorem d_RE_readBraces_31 : decode m_RE_readBraces.2.1 31 = .ok (.ifCond .ne 8, 3) := by decide +kernel
theorem d_RE_readBraces_34 : decode m_RE_readBraces.2.1 34 = .ok (.aload_n 0, 1) := by decide +kernel
theorem d_RE_readBraces_35 : decode m_RE_readBraces.2.1 35 = .ok (.iconst 1, 1) := by decide +kernel
theorem d_RE_readBraces_36 : decode m_RE_readBraces.2.1 36 = .ok (.putfield 15, 3) := by decide +kernel
theorem d_RE_readBraces_39 : decode m_RE_readBraces.2.1 39 = .ok (.aload_n 0, 1) := by decide +kernel
theorem d_RE_readBraces_40 : decode m_RE_readBraces.2.1 40 = .ok (.bipush 125, 2) := by decide +kernel
theorem d_RE_readBraces_42 : decode m_RE_readBraces.2.1 42 = .ok (.invokevirtual 107, 3) := by decide +kernel
theorem d_RE_readBraces_45 : decode m_RE_readBraces.2.1 45 = .ok (.aload_n 1, 1) := by decide +kernel
theorem d_RE_readBraces_46 : decode m_RE_readBraces.2.1 46 = .ok (.iload_n 2, 1) := by decide +kernel
theorem d_RE_readBraces_47 : decode m_RE_readBraces.2.1 47 = .ok (.iload_n 3, 1) := by decide +kernel
theorem d_RE_readBraces_48 : decode m_RE_readBraces.2.1 48 = .ok (.invokevirtual 90, 3) := by decide +kernel
theorem d_RE_readBraces_51 : decode m_RE_readBraces.2.1 51 = .ok (.return_, 1) := by decide +kernel
theorem d_RE_readDigit_0 : decode m_RE_readDigit.2.1 0 = .ok (.aload_n 0, 1) := by decide +kernel
theorem d_RE_readDigit_1 : decode m_RE_readDigit.2.1 1 = .ok (.invokevirtual 53, 3) := by decide +kernel
theorem d_RE_readDigit_4 : decode m_RE_readDigit.2.1 4 = .ok (.bipush 48, 2) := by decide +kernel
theorem d_RE_readDigit_6 : decode m_RE_readDigit.2.1 6 = .ok (.isub, 1) := by decide +kernel
theorem d_RE_readDigit_7 : decode m_RE_readDigit.2.1 7 = .ok (.istore_n 2, 1) := by decide +kernel
theorem d_RE_readDigit_8 : decode m_RE_readDigit.2.1 8 = .ok (.iload_n 2, 1) := by decide +kernel
theorem d_RE_readDigit_9 : decode m_RE_readDigit.2.1 9 = .ok (.iload_n 1, 1) := by decide +kernel
theorem d_RE_readDigit_10 : decode m_RE_readDigit.2.1 10 = .ok (.if_icmp .lt 9, 3) := by decide +kernel
theorem d_RE_readDigit_13 : decode m_RE_readDigit.2.1 13 = .ok (.iload_n 2, 1) := by decide +kernel
theorem d_RE_readDigit_14 : decode m_RE_readDigit.2.1 14 = .ok (.bipush 6, 2) := by decide +kernel
theorem d_RE_readDigit_16 : decode m_RE_readDigit.2.1 16 = .ok (.if_icmp .le 10, 3) := by decide +kernel
theorem d_RE_readDigit_19 : decode m_RE_readDigit.2.1 19 = .ok (.aload_n 0, 1) := by decide +kernel
theorem d_RE_readDigit_20 : decode m_RE_readDigit.2.1 20 = .ok (.iconst 1, 1) := by decide +kernel
theorem d_RE_readDigit_21 : decode m_RE_readDigit.2.1 21 = .ok (.putfield 15, 3) := by decide +kernel
theorem d_RE_readDigit_24 : decode m_RE_readDigit.2.1 24 = .ok (.iload_n 1, 1) := by decide +kernel
theorem d_RE_readDigit_25 : decode m_RE_readDigit.2.1 25 = .ok (.ireturn, 1) := by decide +kernel
theorem d_RE_readDigit_26 : decode m_RE_readDigit.2.1 26 = .ok (.aload_n 0, 1) := by decide +kernel
theorem d_RE_readDigit_27 : decode m_RE_readDigit.2.1 27 = .ok (.dup, 1) := by decide +kernel
theorem d_RE_readDigit_28 : decode m_RE_readDigit.2.1 28 = .ok (.getfield 19, 3) := by decide +kernel
theorem d_RE_readDigit_31 : decode m_RE_readDigit.2.1 31 = .ok (.iconst 1, 1) := by decide +kernel
theorem d_RE_readDigit_32 : decode m_RE_readDigit.2.1 32 = .ok (.iadd, 1) := by decide +kernel
theorem d_RE_readDigit_33 : decode m_RE_readDigit.2.1 33 = .ok (.putfield 19, 3) := by decide +kernel
theorem d_RE_readDigit_36 : decode m_RE_readDigit.2.1 36 = .ok (.iload_n 2, 1) := by decide +kernel
theorem d_RE_readDigit_37 : decode m_RE_readDigit.2.1 37 = .ok (.ireturn, 1) := by decide +kernel
theorem d_RE_faultPlace_0 : decode m_RE_faultPlace.2.1 0 = .ok (.aload_n 0, 1) := by decide +kernel
theorem d_RE_faultPlace_1 : decode m_RE_faultPlace.2.1 1 = .ok (.getfield 15, 3) := by decide +kernel
theorem d_RE_faultPlace_4 : decode m_RE_faultPlace.2.1 4 = .ok (.ifCond .ne 17, 3) := by decide +kernel
theorem d_RE_faultPlace_7 : decode m_RE_faultPlace.2.1 7 = .ok (.aload_n 0, 1) := by decide +kernel
theorem d_RE_faultPlace_8 : decode m_RE_faultPlace.2.1 8 = .ok (.getfield 19, 3) := by decide +kernel
theorem d_RE_faultPlace_11 : decode m_RE_faultPlace.2.1 11 = .ok (.aload_n 0, 1) := by decide +kernel
theorem d_RE_faultPlace_12 : decode m_RE_faultPlace.2.1 12 = .ok (.getfield 9, 3) := by decide +kernel
theorem d_RE_faultPlace_15 : decode m_RE_faultPlace.2.1 15 = .ok (.invokevirtual 23, 3) := by decide +kernel
theorem d_RE_faultPlace_18 : decode m_RE_faultPlace.2.1 18 = .ok (.if_icmp .ge 10, 3) := by decide +kernel
theorem d_RE_faultPlace_21 : decode m_RE_faultPlace.2.1 21 = .ok (.aload_n 0, 1) := by decide +kernel
theorem d_RE_faultPlace_22 : decode m_RE_faultPlace.2.1 22 = .ok (.getfield 19, 3) := by decide +kernel
theorem d_RE_faultPlace_25 : decode m_RE_faultPlace.2.1 25 = .ok (.goto 5, 3) := by decide +kernel
theorem d_RE_faultPlace_28 : decode m_RE_faultPlace.2.1 28 = .ok (.bipush (-2), 2) := by decide +kernel
theorem d_RE_faultPlace_30 : decode m_RE_faultPlace.2.1 30 = .ok (.ireturn, 1) := by decide +kernel
theorem d_RE_isEndless_0 : decode m_RE_isEndless.2.1 0 = .ok (.aload_n 0, 1) := by decide +kernel
theorem d_RE_isEndless_1 : decode m_RE_isEndless.2.1 1 = .ok (.getfield 29, 3) := by decide +kernel
theorem d_RE_isEndless_4 : decode m_RE_isEndless.2.1 4 = .ok (.ireturn, 1) := by decide +kernel
theorem d_MA_load_0 : decode m_MA_load.2.1 0 = .ok (.aload_n 0, 1) := by decide +kernel
theorem d_MA_load_1 : decode m_MA_load.2.1 1 = .ok (.getfield 12, 3) := by decide +kernel
theorem d_MA_load_4 : decode m_MA_load.2.1 4 = .ok (.aload_n 1, 1) := by decide +kernel
theorem d_MA_load_5 : decode m_MA_load.2.1 5 = .ok (.invokevirtual 25, 3) := by decide +kernel
theorem d_MA_load_8 : decode m_MA_load.2.1 8 = .ok (.return_, 1) := by decide +kernel
theorem d_PR_build_0 : decode m_PR_build.2.1 0 = .ok (.aload_n 0, 1) := by decide +kernel
theorem d_PR_build_1 : decode m_PR_build.2.1 1 = .ok (.iconst 0, 1) := by decide +kernel
theorem d_PR_build_2 : decode m_PR_build.2.1 2 = .ok (.putfield 31, 3) := by decide +kernel
theorem d_PR_build_5 : decode m_PR_build.2.1 5 = .ok (.aload_n 0, 1) := by decide +kernel
theorem d_PR_build_6 : decode m_PR_build.2.1 6 = .ok (.iconst 0, 1) := by decide +kernel
theorem d_PR_build_7 : decode m_PR_build.2.1 7 = .ok (.iconst 0, 1) := by decide +kernel
theorem d_PR_build_8 : decode m_PR_build.2.1 8 = .ok (.invokevirtual 35, 3) := by decide +kernel
theorem d_PR_build_11 : decode m_PR_build.2.1 11 = .ok (.istore_n 2, 1) := by decide +kernel
theorem d_PR_build_12 : decode m_PR_build.2.1 12 = .ok (.aload_n 0, 1) := by decide +kernel
theorem d_PR_build_13 : decode m_PR_build.2.1 13 = .ok (.aload_n 0, 1) := by decide +kernel
theorem d_PR_build_14 : decode m_PR_build.2.1 14 = .ok (.aload_n 1, 1) := by decide +kernel
theorem d_PR_build_15 : decode m_PR_build.2.1 15 = .ok (.iload_n 2, 1) := by decide +kernel
theorem d_PR_build_16 : decode m_PR_build.2.1 16 = .ok (.iconst 0, 1) := by decide +kernel
theorem d_PR_build_17 : decode m_PR_build.2.1 17 = .ok (.invokevirtual 39, 3) := by decide +kernel
theorem d_PR_build_20 : decode m_PR_build.2.1 20 = .ok (.putfield 43, 3) := by decide +kernel
theorem d_PR_build_23 : decode m_PR_build.2.1 23 = .ok (.return_, 1) := by decide +kernel
theorem d_PR_addStep_0 : decode m_PR_addStep.2.1 0 = .ok (.aload_n 0, 1) := by decide +kernel
theorem d_PR_addStep_1 : decode m_PR_addStep.2.1 1 = .ok (.getfield 31, 3) := by decide +kernel
theorem d_PR_addStep_4 : decode m_PR_addStep.2.1 4 = .ok (.bipush 120, 2) := by decide +kernel
theorem d_PR_addStep_6 : decode m_PR_addStep.2.1 6 = .ok (.invokestatic 134, 3) := by decide +kernel
theorem d_PR_addStep_9 : decode m_PR_addStep.2.1 9 = .ok (.istore_n 3, 1) := by decide +kernel
theorem d_PR_addStep_10 : decode m_PR_addStep.2.1 10 = .ok (.aload_n 0, 1) := by decide +kernel
theorem d_PR_addStep_11 : decode m_PR_addStep.2.1 11 = .ok (.getfield 11, 3) := by decide +kernel
theorem d_PR_addStep_14 : decode m_PR_addStep.2.1 14 = .ok (.iload_n 3, 1) := by decide +kernel
theorem d_PR_addStep_15 : decode m_PR_addStep.2.1 15 = .ok (.iload_n 1, 1) := by decide +kernel
theorem d_PR_addStep_16 : decode m_PR_addStep.2.1 16 = .ok (.iastore, 1) := by decide +kernel
theorem d_PR_addStep_17 : decode m_PR_addStep.2.1 17 = .ok (.aload_n 0, 1) := by decide +kernel
theorem d_PR_addStep_18 : decode m_PR_addStep.2.1 18 = .ok (.getfield 15, 3) := by decide +kernel
theorem d_PR_addStep_21 : decode m_PR_addStep.2.1 21 = .ok (.iload_n 3, 1) := by decide +kernel
theorem d_PR_addStep_22 : decode m_PR_addStep.2.1 22 = .ok (.iload_n 2, 1) := by decide +kernel
theorem d_PR_addStep_23 : decode m_PR_addStep.2.1 23 = .ok (.iastore, 1) := by decide +kernel
theorem d_PR_addStep_24 : decode m_PR_addStep.2.1 24 = .ok (.aload_n 0, 1) := by decide +kernel
theorem d_PR_addStep_25 : decode m_PR_addStep.2.1 25 = .ok (.iload_n 3, 1) := by decide +kernel
theorem d_PR_addStep_26 : decode m_PR_addStep.2.1 26 = .ok (.iconst 1, 1) := by decide +kernel
theorem d_PR_addStep_27 : decode m_PR_addStep.2.1 27 = .ok (.iadd, 1) := by decide +kernel
theorem d_PR_addStep_28 : decode m_PR_addStep.2.1 28 = .ok (.putfield 31, 3) := by decide +kernel
theorem d_PR_addStep_31 : decode m_PR_addStep.2.1 31 = .ok (.iload_n 3, 1) := by decide +kernel
theorem d_PR_addStep_32 : decode m_PR_addStep.2.1 32 = .ok (.ireturn, 1) := by decide +kernel
theorem d_PR_addChoice_0 : decode m_PR_addChoice.2.1 0 = .ok (.iload_n 2, 1) := by decide +kernel
theorem d_PR_addChoice_1 : decode m_PR_addChoice.2.1 1 = .ok (.istore 4, 2) := by decide +kernel
theorem d_PR_addChoice_3 : decode m_PR_addChoice.2.1 3 = .ok (.aload_n 1, 1) := by decide +kernel
theorem d_PR_addChoice_4 : decode m_PR_addChoice.2.1 4 = .ok (.getfield 46, 3) := by decide +kernel
theorem d_PR_addChoice_7 : decode m_PR_addChoice.2.1 7 = .ok (.astore 5, 2) := by decide +kernel
theorem d_PR_addChoice_9 : decode m_PR_addChoice.2.1 9 = .ok (.aload 5, 2) := by decide +kernel
theorem d_PR_addChoice_11 : decode m_PR_addChoice.2.1 11 = .ok (.ifnull 47, 3) := by decide +kernel
theorem d_PR_addChoice_14 : decode m_PR_addChoice.2.1 14 = .ok (.aload_n 0, 1) := by decide +kernel
theorem d_PR_addChoice_15 : decode m_PR_addChoice.2.1 15 = .ok (.aload 5, 2) := by decide +kernel
theorem d_PR_addChoice_17 : decode m_PR_addChoice.2.1 17 = .ok (.iload_n 2, 1) := by decide +kernel
theorem d_PR_addChoice_18 : decode m_PR_addChoice.2.1 18 = .ok (.iload_n 3, 1) := by decide +kernel
theorem d_PR_addChoice_19 : decode m_PR_addChoice.2.1 19 = .ok (.invokevirtual 52, 3) := by decide +kernel
theorem d_PR_addChoice_22 : decode m_PR_addChoice.2.1 22 = .ok (.istore 6, 2) := by decide +kernel
theorem d_PR_addChoice_24 : decode m_PR_addChoice.2.1 24 = .ok (.aload 5, 2) := by decide +kernel
theorem d_PR_addChoice_26 : decode m_PR_addChoice.2.1 26 = .ok (.aload_n 1, 1) := by decide +kernel
theorem d_PR_addChoice_27 : decode m_PR_addChoice.2.1 27 = .ok (.getfield 46, 3) := by decide +kernel
theorem d_PR_addChoice_30 : decode m_PR_addChoice.2.1 30 = .ok (.if_acmp .ne 8, 3) := by decide +kernel
theorem d_PR_addChoice_33 : decode m_PR_addChoice.2.1 33 = .ok (.iload 6, 2) := by decide +kernel
theorem d_PR_addChoice_35 : decode m_PR_addChoice.2.1 35 = .ok (.goto 11, 3) := by decide +kernel
theorem d_PR_addChoice_38 : decode m_PR_addChoice.2.1 38 = .ok (.aload_n 0, 1) := by decide +kernel
theorem d_PR_addChoice_39 : decode m_PR_addChoice.2.1 39 = .ok (.iload 6, 2) := by decide +kernel
theorem d_PR_addChoice_41 : decode m_PR_addChoice.2.1 41 = .ok (.iload 4, 2) := by decide +kernel
theorem d_PR_addChoice_43 : decode m_PR_addChoice.2.1 43 = .ok (.invokevirtual 56, 3) := by decide +kernel
theorem d_PR_addChoice_46 : decode m_PR_addChoice.2.1 46 = .ok (.istore 4, 2) := by decide +kernel
theorem d_PR_addChoice_48 : decode m_PR_addChoice.2.1 48 = .ok (.aload 5, 2) := by decide +kernel
theorem d_PR_addChoice_50 : decode m_PR_addChoice.2.1 50 = .ok (.getfield 59, 3) := by decide +kernel
theorem d_PR_addChoice_53 : decode m_PR_addChoice.2.1 53 = .ok (.astore 5, 2) := by decide +kernel
theorem d_PR_addChoice_55 : decode m_PR_addChoice.2.1 55 = .ok (.goto (-46), 3) := by decide +kernel
theorem d_PR_addChoice_58 : decode m_PR_addChoice.2.1 58 = .ok (.iload 4, 2) := by decide +kernel
theorem d_PR_addChoice_60 : decode m_PR_addChoice.2.1 60 = .ok (.ireturn, 1) := by decide +kernel
theorem d_PR_addRow_0 : decode m_PR_addRow.2.1 0 = .ok (.iload_n 2, 1) := by decide +kernel
theorem d_PR_addRow_1 : decode m_PR_addRow.2.1 1 = .ok (.istore 4, 2) := by decide +kernel
theorem d_PR_addRow_3 : decode m_PR_addRow.2.1 3 = .ok (.aload_n 1, 1) := by decide +kernel
theorem d_PR_addRow_4 : decode m_PR_addRow.2.1 4 = .ok (.getfield 64, 3) := by decide +kernel
theorem d_PR_addRow_7 : decode m_PR_addRow.2.1 7 = .ok (.astore 5, 2) := by decide +kernel
theorem d_PR_addRow_9 : decode m_PR_addRow.2.1 9 = .ok (.aload 5, 2) := by decide +kernel
theorem d_PR_addRow_11 : decode m_PR_addRow.2.1 11 = .ok (.ifnull 44, 3) := by decide +kernel
theorem d_PR_addRow_14 : decode m_PR_addRow.2.1 14 = .ok (.aload 5, 2) := by decide +kernel
theorem d_PR_addRow_16 : decode m_PR_addRow.2.1 16 = .ok (.getfield 68, 3) := by decide +kernel
theorem d_PR_addRow_19 : decode m_PR_addRow.2.1 19 = .ok (.ifCond .eq 15, 3) := by decide +kernel
theorem d_PR_addRow_22 : decode m_PR_addRow.2.1 22 = .ok (.aload_n 0, 1) := by decide +kernel
theorem d_PR_addRow_23 : decode m_PR_addRow.2.1 23 = .ok (.aload 5, 2) := by decide +kernel
theorem d_PR_addRow_25 : decode m_PR_addRow.2.1 25 = .ok (.iload 4, 2) := by decide +kernel
theorem d_PR_addRow_27 : decode m_PR_addRow.2.1 27 = .ok (.iload_n 3, 1) := by decide +kernel
theorem d_PR_addRow_28 : decode m_PR_addRow.2.1 28 = .ok (.invokevirtual 74, 3) := by decide +kernel
theorem d_PR_addRow_31 : decode m_PR_addRow.2.1 31 = .ok (.goto 12, 3) := by decide +kernel
theorem d_PR_addRow_34 : decode m_PR_addRow.2.1 34 = .ok (.aload_n 0, 1) := by decide +kernel
theorem d_PR_addRow_35 : decode m_PR_addRow.2.1 35 = .ok (.aload 5, 2) := by decide +kernel
theorem d_PR_addRow_37 : decode m_PR_addRow.2.1 37 = .ok (.iload 4, 2) := by decide +kernel
theorem d_PR_addRow_39 : decode m_PR_addRow.2.1 39 = .ok (.iload_n 3, 1) := by decide +kernel
theorem d_PR_addRow_40 : decode m_PR_addRow.2.1 40 = .ok (.invokevirtual 78, 3) := by decide +kernel
theorem d_PR_addRow_43 : decode m_PR_addRow.2.1 43 = .ok (.istore 4, 2) := by decide +kernel
theorem d_PR_addRow_45 : decode m_PR_addRow.2.1 45 = .ok (.aload 5, 2) := by decide +kernel
theorem d_PR_addRow_47 : decode m_PR_addRow.2.1 47 = .ok (.getfield 81, 3) := by decide +kernel
theorem d_PR_addRow_50 : decode m_PR_addRow.2.1 50 = .ok (.astore 5, 2) := by decide +kernel
theorem d_PR_addRow_52 : decode m_PR_addRow.2.1 52 = .ok (.goto (-43), 3) := by decide +kernel
theorem d_PR_addRow_55 : decode m_PR_addRow.2.1 55 = .ok (.iload 4, 2) := by decide +kernel
theorem d_PR_addRow_57 : decode m_PR_addRow.2.1 57 = .ok (.ireturn, 1) := by decide +kernel
theorem d_PR_addLoop_0 : decode m_PR_addLoop.2.1 0 = .ok (.aload_n 0, 1) := by decide +kernel
theorem d_PR_addLoop_1 : decode m_PR_addLoop.2.1 1 = .ok (.iload_n 2, 1) := by decide +kernel
theorem d_PR_addLoop_2 : decode m_PR_addLoop.2.1 2 = .ok (.iload_n 2, 1) := by decide +kernel
theorem d_PR_addLoop_3 : decode m_PR_addLoop.2.1 3 = .ok (.invokevirtual 56, 3) := by decide +kernel
theorem d_PR_addLoop_6 : decode m_PR_addLoop.2.1 6 = .ok (.istore 4, 2) := by decide +kernel
theorem d_PR_addLoop_8 : decode m_PR_addLoop.2.1 8 = .ok (.aload_n 0, 1) := by decide +kernel
theorem d_PR_addLoop_9 : decode m_PR_addLoop.2.1 9 = .ok (.aload_n 1, 1) := by decide +kernel
theorem d_PR_addLoop_10 : decode m_PR_addLoop.2.1 10 = .ok (.getfield 83, 3) := by decide +kernel
theorem d_PR_addLoop_13 : decode m_PR_addLoop.2.1 13 = .ok (.iload 4, 2) := by decide +kernel
theorem d_PR_addLoop_15 : decode m_PR_addLoop.2.1 15 = .ok (.iload_n 3, 1) := by decide +kernel
theorem d_PR_addLoop_16 : decode m_PR_addLoop.2.1 16 = .ok (.invokevirtual 87, 3) := by decide +kernel
theorem d_PR_addLoop_19 : decode m_PR_addLoop.2.1 19 = .ok (.istore 5, 2) := by decide +kernel
theorem d_PR_addLoop_21 : decode m_PR_addLoop.2.1 21 = .ok (.aload_n 1, 1) := by decide +kernel
theorem d_PR_addLoop_22 : decode m_PR_addLoop.2.1 22 = .ok (.getfield 91, 3) := by decide +kernel
theorem d_PR_addLoop_25 : decode m_PR_addLoop.2.1 25 = .ok (.ifCond .eq 15, 3) := by decide +kernel
theorem d_PR_addLoop_28 : decode m_PR_addLoop.2.1 28 = .ok (.aload_n 0, 1) := by decide +kernel
theorem d_PR_addLoop_29 : decode m_PR_addLoop.2.1 29 = .ok (.getfield 18, 3) := by decide +kernel
theorem d_PR_addLoop_32 : decode m_PR_addLoop.2.1 32 = .ok (.iload 4, 2) := by decide +kernel
theorem d_PR_addLoop_34 : decode m_PR_addLoop.2.1 34 = .ok (.iload 5, 2) := by decide +kernel
theorem d_PR_addLoop_36 : decode m_PR_addLoop.2.1 36 = .ok (.iastore, 1) := by decide +kernel
theorem d_PR_addLoop_37 : decode m_PR_addLoop.2.1 37 = .ok (.goto 12, 3) := by decide +kernel
theorem d_PR_addLoop_40 : decode m_PR_addLoop.2.1 40 = .ok (.aload_n 0, 1) := by decide +kernel
theorem d_PR_addLoop_41 : decode m_PR_addLoop.2.1 41 = .ok (.getfield 15, 3) := by decide +kernel
theorem d_PR_addLoop_44 : decode m_PR_addLoop.2.1 44 = .ok (.iload 4, 2) := by decide +kernel
theorem d_PR_addLoop_46 : decode m_PR_addLoop.2.1 46 = .ok (.iload 5, 2) := by decide +kernel
theorem d_PR_addLoop_48 : decode m_PR_addLoop.2.1 48 = .ok (.iastore, 1) := by decide +kernel
theorem d_PR_addLoop_49 : decode m_PR_addLoop.2.1 49 = .ok (.aload_n 1, 1) := by decide +kernel
theorem d_PR_addLoop_50 : decode m_PR_addLoop.2.1 50 = .ok (.getfield 94, 3) := by decide +kernel
theorem d_PR_addLoop_53 : decode m_PR_addLoop.2.1 53 = .ok (.ifCond .ne 8, 3) := by decide +kernel
theorem d_PR_addLoop_56 : decode m_PR_addLoop.2.1 56 = .ok (.iload 4, 2) := by decide +kernel
theorem d_PR_addLoop_58 : decode m_PR_addLoop.2.1 58 = .ok (.goto 5, 3) := by decide +kernel
theorem d_PR_addLoop_61 : decode m_PR_addLoop.2.1 61 = .ok (.iload 5, 2) := by decide +kernel
theorem d_PR_addLoop_63 : decode m_PR_addLoop.2.1 63 = .ok (.ireturn, 1) := by decide +kernel
theorem d_PR_addFork_0 : decode m_PR_addFork.2.1 0 = .ok (.aload_n 0, 1) := by decide +kernel
theorem d_PR_addFork_1 : decode m_PR_addFork.2.1 1 = .ok (.iconst 5, 1) := by decide +kernel
theorem d_PR_addFork_2 : decode m_PR_addFork.2.1 2 = .ok (.iload_n 1, 1) := by decide +kernel
theorem d_PR_addFork_3 : decode m_PR_addFork.2.1 3 = .ok (.invokevirtual 35, 3) := by decide +kernel
theorem d_PR_addFork_6 : decode m_PR_addFork.2.1 6 = .ok (.istore_n 3, 1) := by decide +kernel
theorem d_PR_addFork_7 : decode m_PR_addFork.2.1 7 = .ok (.aload_n 0, 1) := by decide +kernel
theorem d_PR_addFork_8 : decode m_PR_addFork.2.1 8 = .ok (.getfield 18, 3) := by decide +kernel
theorem d_PR_addFork_11 : decode m_PR_addFork.2.1 11 = .ok (.iload_n 3, 1) := by decide +kernel
theorem d_PR_addFork_12 : decode m_PR_addFork.2.1 12 = .ok (.iload_n 2, 1) := by decide +kernel
theorem d_PR_addFork_13 : decode m_PR_addFork.2.1 13 = .ok (.iastore, 1) := by decide +kernel
theorem d_PR_addFork_14 : decode m_PR_addFork.2.1 14 = .ok (.iload_n 3, 1) := by decide +kernel
theorem d_PR_addFork_15 : decode m_PR_addFork.2.1 15 = .ok (.ireturn, 1) := by decide +kernel
theorem d_PR_addAtom_0 : decode m_PR_addAtom.2.1 0 = .ok (.aload_n 1, 1) := by decide +kernel
theorem d_PR_addAtom_1 : decode m_PR_addAtom.2.1 1 = .ok (.getfield 100, 3) := by decide +kernel
theorem d_PR_addAtom_4 : decode m_PR_addAtom.2.1 4 = .ok (.ifnull 11, 3) := by decide +kernel
theorem d_PR_addAtom_7 : decode m_PR_addAtom.2.1 7 = .ok (.aload_n 0, 1) := by decide +kernel
theorem d_PR_addAtom_8 : decode m_PR_addAtom.2.1 8 = .ok (.aload_n 1, 1) := by decide +kernel
theorem d_PR_addAtom_9 : decode m_PR_addAtom.2.1 9 = .ok (.iload_n 2, 1) := by decide +kernel
theorem d_PR_addAtom_10 : decode m_PR_addAtom.2.1 10 = .ok (.iload_n 3, 1) := by decide +kernel
theorem d_PR_addAtom_11 : decode m_PR_addAtom.2.1 11 = .ok (.invokevirtual 106, 3) := by decide +kernel
theorem d_PR_addAtom_14 : decode m_PR_addAtom.2.1 14 = .ok (.ireturn, 1) := by decide +kernel
theorem d_PR_addAtom_15 : decode m_PR_addAtom.2.1 15 = .ok (.aload_n 0, 1) := by decide +kernel
theorem d_PR_addAtom_16 : decode m_PR_addAtom.2.1 16 = .ok (.aload_n 1, 1) := by decide +kernel
theorem d_PR_addAtom_17 : decode m_PR_addAtom.2.1 17 = .ok (.getfield 109, 3) := by decide +kernel
theorem d_PR_addAtom_20 : decode m_PR_addAtom.2.1 20 = .ok (.iload_n 2, 1) := by decide +kernel
theorem d_PR_addAtom_21 : decode m_PR_addAtom.2.1 21 = .ok (.invokevirtual 35, 3) := by decide +kernel
theorem d_PR_addAtom_24 : decode m_PR_addAtom.2.1 24 = .ok (.istore 4, 2) := by decide +kernel
theorem d_PR_addAtom_26 : decode m_PR_addAtom.2.1 26 = .ok (.aload_n 0, 1) := by decide +kernel
theorem d_PR_addAtom_27 : decode m_PR_addAtom.2.1 27 = .ok (.getfield 24, 3) := by decide +kernel
theorem d_PR_addAtom_30 : decode m_PR_addAtom.2.1 30 = .ok (.iload 4, 2) := by decide +kernel
theorem d_PR_addAtom_32 : decode m_PR_addAtom.2.1 32 = .ok (.aload_n 1, 1) := by decide +kernel
theorem d_PR_addAtom_33 : decode m_PR_addAtom.2.1 33 = .ok (.getfield 112, 3) := by decide +kernel
theorem d_PR_addAtom_36 : decode m_PR_addAtom.2.1 36 = .ok (.lastore, 1) := by decide +kernel
theorem d_PR_addAtom_37 : decode m_PR_addAtom.2.1 37 = .ok (.aload_n 0, 1) := by decide +kernel
theorem d_PR_addAtom_38 : decode m_PR_addAtom.2.1 38 = .ok (.getfield 28, 3) := by decide +kernel
theorem d_PR_addAtom_41 : decode m_PR_addAtom.2.1 41 = .ok (.iload 4, 2) := by decide +kernel
theorem d_PR_addAtom_43 : decode m_PR_addAtom.2.1 43 = .ok (.aload_n 1, 1) := by decide +kernel
theorem d_PR_addAtom_44 : decode m_PR_addAtom.2.1 44 = .ok (.getfield 116, 3) := by decide +kernel
theorem d_PR_addAtom_47 : decode m_PR_addAtom.2.1 47 = .ok (.lastore, 1) := by decide +kernel
theorem d_PR_addAtom_48 : decode m_PR_addAtom.2.1 48 = .ok (.iload 4, 2) := by decide +kernel
theorem d_PR_addAtom_50 : decode m_PR_addAtom.2.1 50 = .ok (.ireturn, 1) := by decide +kernel
theorem d_PR_addGroup_0 : decode m_PR_addGroup.2.1 0 = .ok (.iload_n 3, 1) := by decide +kernel
theorem d_PR_addGroup_1 : decode m_PR_addGroup.2.1 1 = .ok (.bipush 6, 2) := by decide +kernel
theorem d_PR_addGroup_3 : decode m_PR_addGroup.2.1 3 = .ok (.if_icmp .lt 5, 3) := by decide +kernel
theorem d_PR_addGroup_6 : decode m_PR_addGroup.2.1 6 = .ok (.iload_n 2, 1) := by decide +kernel
theorem d_PR_addGroup_7 : decode m_PR_addGroup.2.1 7 = .ok (.ireturn, 1) := by decide +kernel
theorem d_PR_addGroup_8 : decode m_PR_addGroup.2.1 8 = .ok (.aload_n 0, 1) := by decide +kernel
theorem d_PR_addGroup_9 : decode m_PR_addGroup.2.1 9 = .ok (.aload_n 1, 1) := by decide +kernel
theorem d_PR_addGroup_10 : decode m_PR_addGroup.2.1 10 = .ok (.getfield 119, 3) := by decide +kernel
theorem d_PR_addGroup_13 : decode m_PR_addGroup.2.1 13 = .ok (.invokestatic 122, 3) := by decide +kernel
theorem d_PR_addGroup_16 : decode m_PR_addGroup.2.1 16 = .ok (.iload_n 2, 1) := by decide +kernel
theorem d_PR_addGroup_17 : decode m_PR_addGroup.2.1 17 = .ok (.invokevirtual 128, 3) := by decide +kernel
theorem d_PR_addGroup_20 : decode m_PR_addGroup.2.1 20 = .ok (.istore 4, 2) := by decide +kernel
theorem d_PR_addGroup_22 : decode m_PR_addGroup.2.1 22 = .ok (.aload_n 0, 1) := by decide +kernel
theorem d_PR_addGroup_23 : decode m_PR_addGroup.2.1 23 = .ok (.aload_n 1, 1) := by decide +kernel
theorem d_PR_addGroup_24 : decode m_PR_addGroup.2.1 24 = .ok (.getfield 100, 3) := by decide +kernel
theorem d_PR_addGroup_27 : decode m_PR_addGroup.2.1 27 = .ok (.iload 4, 2) := by decide +kernel
theorem d_PR_addGroup_29 : decode m_PR_addGroup.2.1 29 = .ok (.iload_n 3, 1) := by decide +kernel
theorem d_PR_addGroup_30 : decode m_PR_addGroup.2.1 30 = .ok (.iconst 1, 1) := by decide +kernel
theorem d_PR_addGroup_31 : decode m_PR_addGroup.2.1 31 = .ok (.iadd, 1) := by decide +kernel
theorem d_PR_addGroup_32 : decode m_PR_addGroup.2.1 32 = .ok (.invokevirtual 39, 3) := by decide +kernel
theorem d_PR_addGroup_35 : decode m_PR_addGroup.2.1 35 = .ok (.istore 5, 2) := by decide +kernel
theorem d_PR_addGroup_37 : decode m_PR_addGroup.2.1 37 = .ok (.aload_n 0, 1) := by decide +kernel
theorem d_PR_addGroup_38 : decode m_PR_addGroup.2.1 38 = .ok (.aload_n 1, 1) := by decide +kernel
theorem d_PR_addGroup_39 : decode m_PR_addGroup.2.1 39 = .ok (.getfield 119, 3) := by decide +kernel
theorem d_PR_addGroup_42 : decode m_PR_addGroup.2.1 42 = .ok (.invokestatic 131, 3) := by decide +kernel
theorem d_PR_addGroup_45 : decode m_PR_addGroup.2.1 45 = .ok (.iload 5, 2) := by decide +kernel
theorem d_PR_addGroup_47 : decode m_PR_addGroup.2.1 47 = .ok (.invokevirtual 128, 3) := by decide +kernel
theorem d_PR_addGroup_50 : decode m_PR_addGroup.2.1 50 = .ok (.ireturn, 1) := by decide +kernel
theorem d_PR_addMark_0 : decode m_PR_addMark.2.1 0 = .ok (.aload_n 0, 1) := by decide +kernel
theorem d_PR_addMark_1 : decode m_PR_addMark.2.1 1 = .ok (.iconst 4, 1) := by decide +kernel
theorem d_PR_addMark_2 : decode m_PR_addMark.2.1 2 = .ok (.iload_n 2, 1) := by decide +kernel
theorem d_PR_addMark_3 : decode m_PR_addMark.2.1 3 = .ok (.invokevirtual 35, 3) := by decide +kernel
theorem d_PR_addMark_6 : decode m_PR_addMark.2.1 6 = .ok (.istore_n 3, 1) := by decide +kernel
theorem d_PR_addMark_7 : decode m_PR_addMark.2.1 7 = .ok (.aload_n 0, 1) := by decide +kernel
theorem d_PR_addMark_8 : decode m_PR_addMark.2.1 8 = .ok (.getfield 21, 3) := by decide +kernel
theorem d_PR_addMark_11 : decode m_PR_addMark.2.1 11 = .ok (.iload_n 3, 1) := by decide +kernel
theorem d_PR_addMark_12 : decode m_PR_addMark.2.1 12 = .ok (.iload_n 1, 1) := by decide +kernel
theorem d_PR_addMark_13 : decode m_PR_addMark.2.1 13 = .ok (.iastore, 1) := by decide +kernel
theorem d_PR_addMark_14 : decode m_PR_addMark.2.1 14 = .ok (.iload_n 3, 1) := by decide +kernel
theorem d_PR_addMark_15 : decode m_PR_addMark.2.1 15 = .ok (.ireturn, 1) := by decide +kernel
theorem d_PR_addCopies_0 : decode m_PR_addCopies.2.1 0 = .ok (.iload_n 2, 1) := by decide +kernel
theorem d_PR_addCopies_1 : decode m_PR_addCopies.2.1 1 = .ok (.istore 4, 2) := by decide +kernel
theorem d_PR_addCopies_3 : decode m_PR_addCopies.2.1 3 = .ok (.aload_n 1, 1) := by decide +kernel
theorem d_PR_addCopies_4 : decode m_PR_addCopies.2.1 4 = .ok (.getfield 94, 3) := by decide +kernel
theorem d_PR_addCopies_7 : decode m_PR_addCopies.2.1 7 = .ok (.istore 5, 2) := by decide +kernel
theorem d_PR_addCopies_9 : decode m_PR_addCopies.2.1 9 = .ok (.iload 5, 2) := by decide +kernel
theorem d_PR_addCopies_11 : decode m_PR_addCopies.2.1 11 = .ok (.aload_n 1, 1) := by decide +kernel
theorem d_PR_addCopies_12 : decode m_PR_addCopies.2.1 12 = .ok (.getfield 97, 3) := by decide +kernel
theorem d_PR_addCopies_15 : decode m_PR_addCopies.2.1 15 = .ok (.if_icmp .ge 48, 3) := by decide +kernel
theorem d_PR_addCopies_18 : decode m_PR_addCopies.2.1 18 = .ok (.aload_n 0, 1) := by decide +kernel
theorem d_PR_addCopies_19 : decode m_PR_addCopies.2.1 19 = .ok (.aload_n 1, 1) := by decide +kernel
theorem d_PR_addCopies_20 : decode m_PR_addCopies.2.1 20 = .ok (.getfield 83, 3) := by decide +kernel
theorem d_PR_addCopies_23 : decode m_PR_addCopies.2.1 23 = .ok (.iload 4, 2) := by decide +kernel
theorem d_PR_addCopies_25 : decode m_PR_addCopies.2.1 25 = .ok (.iload_n 3, 1) := by decide +kernel
theorem d_PR_addCopies_26 : decode m_PR_addCopies.2.1 26 = .ok (.invokevirtual 87, 3) := by decide +kernel
theorem d_PR_addCopies_29 : decode m_PR_addCopies.2.1 29 = .ok (.istore 6, 2) := by decide +kernel
theorem d_PR_addCopies_31 : decode m_PR_addCopies.2.1 31 = .ok (.aload_n 1, 1) := by decide +kernel
theorem d_PR_addCopies_32 : decode m_PR_addCopies.2.1 32 = .ok (.getfield 91, 3) := by decide +kernel
theorem d_PR_addCopies_35 : decode m_PR_addCopies.2.1 35 = .ok (.ifCond .eq 13, 3) := by decide +kernel
theorem d_PR_addCopies_38 : decode m_PR_addCopies.2.1 38 = .ok (.aload_n 0, 1) := by decide +kernel
theorem d_PR_addCopies_39 : decode m_PR_addCopies.2.1 39 = .ok (.iload_n 2, 1) := by decide +kernel
theorem d_PR_addCopies_40 : decode m_PR_addCopies.2.1 40 = .ok (.iload 6, 2) := by decide +kernel
theorem d_PR_addCopies_42 : decode m_PR_addCopies.2.1 42 = .ok (.invokevirtual 56, 3) := by decide +kernel
theorem d_PR_addCopies_45 : decode m_PR_addCopies.2.1 45 = .ok (.goto 10, 3) := by decide +kernel
theorem d_PR_addCopies_48 : decode m_PR_addCopies.2.1 48 = .ok (.aload_n 0, 1) := by decide +kernel
theorem d_PR_addCopies_49 : decode m_PR_addCopies.2.1 49 = .ok (.iload 6, 2) := by decide +kernel
theorem d_PR_addCopies_51 : decode m_PR_addCopies.2.1 51 = .ok (.iload_n 2, 1) := by decide +kernel
theorem d_PR_addCopies_52 : decode m_PR_addCopies.2.1 52 = .ok (.invokevirtual 56, 3) := by decide +kernel
theorem d_PR_addCopies_55 : decode m_PR_addCopies.2.1 55 = .ok (.istore 4, 2) := by decide +kernel
theorem d_PR_addCopies_57 : decode m_PR_addCopies.2.1 57 = .ok (.iinc 5 1, 3) := by decide +kernel
theorem d_PR_addCopies_60 : decode m_PR_addCopies.2.1 60 = .ok (.goto (-51), 3) := by decide +kernel
theorem d_PR_addCopies_63 : decode m_PR_addCopies.2.1 63 = .ok (.iconst 0, 1) := by decide +kernel
theorem d_PR_addCopies_64 : decode m_PR_addCopies.2.1 64 = .ok (.istore 5, 2) := by decide +kernel
theorem d_PR_addCopies_66 : decode m_PR_addCopies.2.1 66 = .ok (.iload 5, 2) := by decide +kernel
theorem d_PR_addCopies_68 : decode m_PR_addCopies.2.1 68 = .ok (.aload_n 1, 1) := by decide +kernel
theorem d_PR_addCopies_69 : decode m_PR_addCopies.2.1 69 = .ok (.getfield 94, 3) := by decide +kernel
theorem d_PR_addCopies_72 : decode m_PR_addCopies.2.1 72 = .ok (.if_icmp .ge 22, 3) := by decide +kernel
theorem d_PR_addCopies_75 : decode m_PR_addCopies.2.1 75 = .ok (.aload_n 0, 1) := by decide +kernel
theorem d_PR_addCopies_76 : decode m_PR_addCopies.2.1 76 = .ok (.aload_n 1, 1) := by decide +kernel
theorem d_PR_addCopies_77 : decode m_PR_addCopies.2.1 77 = .ok (.getfield 83, 3) := by decide +kernel
theorem d_PR_addCopies_80 : decode m_PR_addCopies.2.1 80 = .ok (.iload 4, 2) := by decide +kernel
theorem d_PR_addCopies_82 : decode m_PR_addCopies.2.1 82 = .ok (.iload_n 3, 1) := by decide +kernel
theorem d_PR_addCopies_83 : decode m_PR_addCopies.2.1 83 = .ok (.invokevirtual 87, 3) := by decide +kernel
theorem d_PR_addCopies_86 : decode m_PR_addCopies.2.1 86 = .ok (.istore 4, 2) := by decide +kernel
theorem d_PR_addCopies_88 : decode m_PR_addCopies.2.1 88 = .ok (.iinc 5 1, 3) := by decide +kernel
theorem d_PR_addCopies_91 : decode m_PR_addCopies.2.1 91 = .ok (.goto (-25), 3) := by decide +kernel
theorem d_PR_addCopies_94 : decode m_PR_addCopies.2.1 94 = .ok (.iload 4, 2) := by decide +kernel
theorem d_PR_addCopies_96 : decode m_PR_addCopies.2.1 96 = .ok (.ireturn, 1) := by decide +kernel
theorem d_RE_groupCount_0 : decode m_RE_groupCount.2.1 0 = .ok (.aload_n 0, 1) := by decide +kernel
theorem d_RE_groupCount_1 : decode m_RE_groupCount.2.1 1 = .ok (.getfield 32, 3) := by decide +kernel
theorem d_RE_groupCount_4 : decode m_RE_groupCount.2.1 4 = .ok (.ireturn, 1) := by decide +kernel
theorem d_MA_aimAnywhere_0 : decode m_MA_aimAnywhere.2.1 0 = .ok (.aload_n 0, 1) := by decide +kernel
theorem d_MA_aimAnywhere_1 : decode m_MA_aimAnywhere.2.1 1 = .ok (.aload_n 1, 1) := by decide +kernel
theorem d_MA_aimAnywhere_2 : decode m_MA_aimAnywhere.2.1 2 = .ok (.iconst (-1), 1) := by decide +kernel
theorem d_MA_aimAnywhere_3 : decode m_MA_aimAnywhere.2.1 3 = .ok (.invokevirtual 29, 3) := by decide +kernel
theorem d_MA_aimAnywhere_6 : decode m_MA_aimAnywhere.2.1 6 = .ok (.return_, 1) := by decide +kernel
theorem d_MA_aim_0 : decode m_MA_aim.2.1 0 = .ok (.aload_n 0, 1) := by decide +kernel
theorem d_MA_aim_1 : decode m_MA_aim.2.1 1 = .ok (.aload_n 1, 1) := by decide +kernel
theorem d_MA_aim_2 : decode m_MA_aim.2.1 2 = .ok (.invokevirtual 57, 3) := by decide +kernel
theorem d_MA_aim_5 : decode m_MA_aim.2.1 5 = .ok (.putfield 46, 3) := by decide +kernel
theorem d_MA_aim_8 : decode m_MA_aim.2.1 8 = .ok (.iconst 0, 1) := by decide +kernel
theorem d_MA_aim_9 : decode m_MA_aim.2.1 9 = .ok (.istore_n 3, 1) := by decide +kernel
theorem d_MA_aim_10 : decode m_MA_aim.2.1 10 = .ok (.iload_n 3, 1) := by decide +kernel
theorem d_MA_aim_11 : decode m_MA_aim.2.1 11 = .ok (.aload_n 0, 1) := by decide +kernel
theorem d_MA_aim_12 : decode m_MA_aim.2.1 12 = .ok (.getfield 12, 3) := by decide +kernel
theorem d_MA_aim_15 : decode m_MA_aim.2.1 15 = .ok (.getfield 62, 3) := by decide +kernel
theorem d_MA_aim_18 : decode m_MA_aim.2.1 18 = .ok (.if_icmp .ge 45, 3) := by decide +kernel
theorem d_MA_aim_21 : decode m_MA_aim.2.1 21 = .ok (.aload_n 0, 1) := by decide +kernel
theorem d_MA_aim_22 : decode m_MA_aim.2.1 22 = .ok (.getfield 18, 3) := by decide +kernel
theorem d_MA_aim_25 : decode m_MA_aim.2.1 25 = .ok (.iload_n 3, 1) := by decide +kernel
theorem d_MA_aim_26 : decode m_MA_aim.2.1 26 = .ok (.aload_n 0, 1) := by decide +kernel
theorem d_MA_aim_27 : decode m_MA_aim.2.1 27 = .ok (.getfield 12, 3) := by decide +kernel
theorem d_MA_aim_30 : decode m_MA_aim.2.1 30 = .ok (.getfield 65, 3) := by decide +kernel
theorem d_MA_aim_33 : decode m_MA_aim.2.1 33 = .ok (.iload_n 3, 1) := by decide +kernel
theorem d_MA_aim_34 : decode m_MA_aim.2.1 34 = .ok (.iaload, 1) := by decide +kernel
theorem d_MA_aim_35 : decode m_MA_aim.2.1 35 = .ok (.iconst 1, 1) := by decide +kernel
theorem d_MA_aim_36 : decode m_MA_aim.2.1 36 = .ok (.if_icmp .ne 12, 3) := by decide +kernel
theorem d_MA_aim_39 : decode m_MA_aim.2.1 39 = .ok (.aload_n 0, 1) := by decide +kernel
theorem d_MA_aim_40 : decode m_MA_aim.2.1 40 = .ok (.iload_n 3, 1) := by decide +kernel
theorem d_MA_aim_41 : decode m_MA_aim.2.1 41 = .ok (.aload_n 1, 1) := by decide +kernel
theorem d_MA_aim_42 : decode m_MA_aim.2.1 42 = .ok (.invokevirtual 68, 3) := by decide +kernel
theorem d_MA_aim_45 : decode m_MA_aim.2.1 45 = .ok (.goto 4, 3) := by decide +kernel
theorem d_MA_aim_48 : decode m_MA_aim.2.1 48 = .ok (.iconst 0, 1) := by decide +kernel
theorem d_MA_aim_49 : decode m_MA_aim.2.1 49 = .ok (.iastore, 1) := by decide +kernel
theorem d_MA_aim_50 : decode m_MA_aim.2.1 50 = .ok (.aload_n 0, 1) := by decide +kernel
theorem d_MA_aim_51 : decode m_MA_aim.2.1 51 = .ok (.getfield 22, 3) := by decide +kernel
theorem d_MA_aim_54 : decode m_MA_aim.2.1 54 = .ok (.iload_n 3, 1) := by decide +kernel
theorem d_MA_aim_55 : decode m_MA_aim.2.1 55 = .ok (.iconst 0, 1) := by decide +kernel
theorem d_MA_aim_56 : decode m_MA_aim.2.1 56 = .ok (.iastore, 1) := by decide +kernel
theorem d_MA_aim_57 : decode m_MA_aim.2.1 57 = .ok (.iinc 3 1, 3) := by decide +kernel
theorem d_MA_aim_60 : decode m_MA_aim.2.1 60 = .ok (.goto (-50), 3) := by decide +kernel
theorem d_MA_aim_63 : decode m_MA_aim.2.1 63 = .ok (.iconst 1, 1) := by decide +kernel
theorem d_MA_aim_64 : decode m_MA_aim.2.1 64 = .ok (.istore_n 3, 1) := by decide +kernel
theorem d_MA_aim_65 : decode m_MA_aim.2.1 65 = .ok (.iconst 0, 1) := by decide +kernel
theorem d_MA_aim_66 : decode m_MA_aim.2.1 66 = .ok (.istore 4, 2) := by decide +kernel
theorem d_MA_aim_68 : decode m_MA_aim.2.1 68 = .ok (.iload_n 3, 1) := by decide +kernel
theorem d_MA_aim_69 : decode m_MA_aim.2.1 69 = .ok (.ifCond .eq 23, 3) := by decide +kernel
theorem d_MA_aim_72 : decode m_MA_aim.2.1 72 = .ok (.iload 4, 2) := by decide +kernel
theorem d_MA_aim_74 : decode m_MA_aim.2.1 74 = .ok (.sipush 3751, 3) := by decide +kernel
theorem d_MA_aim_77 : decode m_MA_aim.2.1 77 = .ok (.if_icmp .gt 15, 3) := by decide +kernel
theorem d_MA_aim_80 : decode m_MA_aim.2.1 80 = .ok (.aload_n 0, 1) := by decide +kernel
theorem d_MA_aim_81 : decode m_MA_aim.2.1 81 = .ok (.iload_n 2, 1) := by decide +kernel
theorem d_MA_aim_82 : decode m_MA_aim.2.1 82 = .ok (.invokevirtual 72, 3) := by decide +kernel
theorem d_MA_aim_85 : decode m_MA_aim.2.1 85 = .ok (.istore_n 3, 1) := by decide +kernel
theorem d_MA_aim_86 : decode m_MA_aim.2.1 86 = .ok (.iinc 4 1, 3) := by decide +kernel
theorem d_MA_aim_89 : decode m_MA_aim.2.1 89 = .ok (.goto (-21), 3) := by decide +kernel
theorem d_MA_aim_92 : decode m_MA_aim.2.1 92 = .ok (.return_, 1) := by decide +kernel
theorem d_MA_fittingPlaces_0 : decode m_MA_fittingPlaces.2.1 0 = .ok (.iconst 0, 1) := by decide +kernel
theorem d_MA_fittingPlaces_1 : decode m_MA_fittingPlaces.2.1 1 = .ok (.istore_n 3, 1) := by decide +kernel
theorem d_MA_fittingPlaces_2 : decode m_MA_fittingPlaces.2.1 2 = .ok (.iconst 0, 1) := by decide +kernel
theorem d_MA_fittingPlaces_3 : decode m_MA_fittingPlaces.2.1 3 = .ok (.istore 4, 2) := by decide +kernel
theorem d_MA_fittingPlaces_5 : decode m_MA_fittingPlaces.2.1 5 = .ok (.iload 4, 2) := by decide +kernel
theorem d_MA_fittingPlaces_7 : decode m_MA_fittingPlaces.2.1 7 = .ok (.aload_n 0, 1) := by decide +kernel
theorem d_MA_fittingPlaces_8 : decode m_MA_fittingPlaces.2.1 8 = .ok (.getfield 46, 3) := by decide +kernel
theorem d_MA_fittingPlaces_11 : decode m_MA_fittingPlaces.2.1 11 = .ok (.if_icmp .ge 33, 3) := by decide +kernel
theorem d_MA_fittingPlaces_14 : decode m_MA_fittingPlaces.2.1 14 = .ok (.aload_n 0, 1) := by decide +kernel
theorem d_MA_fittingPlaces_15 : decode m_MA_fittingPlaces.2.1 15 = .ok (.getfield 12, 3) := by decide +kernel
theorem d_MA_fittingPlaces_18 : decode m_MA_fittingPlaces.2.1 18 = .ok (.iload_n 1, 1) := by decide +kernel
theorem d_MA_fittingPlaces_19 : decode m_MA_fittingPlaces.2.1 19 = .ok (.aload_n 2, 1) := by decide +kernel
theorem d_MA_fittingPlaces_20 : decode m_MA_fittingPlaces.2.1 20 = .ok (.iload 4, 2) := by decide +kernel
theorem d_MA_fittingPlaces_22 : decode m_MA_fittingPlaces.2.1 22 = .ok (.invokevirtual 75, 3) := by decide +kernel
theorem d_MA_fittingPlaces_25 : decode m_MA_fittingPlaces.2.1 25 = .ok (.invokevirtual 79, 3) := by decide +kernel
theorem d_MA_fittingPlaces_28 : decode m_MA_fittingPlaces.2.1 28 = .ok (.ifCond .eq 10, 3) := by decide +kernel
theorem d_MA_fittingPlaces_31 : decode m_MA_fittingPlaces.2.1 31 = .ok (.iload_n 3, 1) := by decide +kernel
theorem d_MA_fittingPlaces_32 : decode m_MA_fittingPlaces.2.1 32 = .ok (.iconst 1, 1) := by decide +kernel
theorem d_MA_fittingPlaces_33 : decode m_MA_fittingPlaces.2.1 33 = .ok (.iload 4, 2) := by decide +kernel
theorem d_MA_fittingPlaces_35 : decode m_MA_fittingPlaces.2.1 35 = .ok (.ishl, 1) := by decide +kernel
theorem d_MA_fittingPlaces_36 : decode m_MA_fittingPlaces.2.1 36 = .ok (.ior, 1) := by decide +kernel
theorem d_MA_fittingPlaces_37 : decode m_MA_fittingPlaces.2.1 37 = .ok (.istore_n 3, 1) := by decide +kernel
theorem d_MA_fittingPlaces_38 : decode m_MA_fittingPlaces.2.1 38 = .ok (.iinc 4 1, 3) := by decide +kernel
theorem d_MA_fittingPlaces_41 : decode m_MA_fittingPlaces.2.1 41 = .ok (.goto (-36), 3) := by decide +kernel
theorem d_MA_fittingPlaces_44 : decode m_MA_fittingPlaces.2.1 44 = .ok (.iload_n 3, 1) := by decide +kernel
theorem d_MA_fittingPlaces_45 : decode m_MA_fittingPlaces.2.1 45 = .ok (.ireturn, 1) := by decide +kernel
theorem d_PR_takes_0 : decode m_PR_takes.2.1 0 = .ok (.iload_n 2, 1) := by decide +kernel
theorem d_PR_takes_1 : decode m_PR_takes.2.1 1 = .ok (.bipush 64, 2) := by decide +kernel
theorem d_PR_takes_3 : decode m_PR_takes.2.1 3 = .ok (.if_icmp .ge 14, 3) := by decide +kernel
theorem d_PR_takes_6 : decode m_PR_takes.2.1 6 = .ok (.aload_n 0, 1) := by decide +kernel
theorem d_PR_takes_7 : decode m_PR_takes.2.1 7 = .ok (.getfield 24, 3) := by decide +kernel
theorem d_PR_takes_10 : decode m_PR_takes.2.1 10 = .ok (.iload_n 1, 1) := by decide +kernel
theorem d_PR_takes_11 : decode m_PR_takes.2.1 11 = .ok (.laload, 1) := by decide +kernel
theorem d_PR_takes_12 : decode m_PR_takes.2.1 12 = .ok (.iload_n 2, 1) := by decide +kernel
theorem d_PR_takes_13 : decode m_PR_takes.2.1 13 = .ok (.lushr, 1) := by decide +kernel
theorem d_PR_takes_14 : decode m_PR_takes.2.1 14 = .ok (.goto 14, 3) := by decide +kernel
theorem d_PR_takes_17 : decode m_PR_takes.2.1 17 = .ok (.aload_n 0, 1) := by decide +kernel
theorem d_PR_takes_18 : decode m_PR_takes.2.1 18 = .ok (.getfield 28, 3) := by decide +kernel
theorem d_PR_takes_21 : decode m_PR_takes.2.1 21 = .ok (.iload_n 1, 1) := by decide +kernel
theorem d_PR_takes_22 : decode m_PR_takes.2.1 22 = .ok (.laload, 1) := by decide +kernel
theorem d_PR_takes_23 : decode m_PR_takes.2.1 23 = .ok (.iload_n 2, 1) := by decide +kernel
theorem d_PR_takes_24 : decode m_PR_takes.2.1 24 = .ok (.bipush 64, 2) := by decide +kernel
theorem d_PR_takes_26 : decode m_PR_takes.2.1 26 = .ok (.isub, 1) := by decide +kernel
theorem d_PR_takes_27 : decode m_PR_takes.2.1 27 = .ok (.lushr, 1) := by decide +kernel
theorem d_PR_takes_28 : decode m_PR_takes.2.1 28 = .ok (.lstore_n 3, 1) := by decide +kernel
theorem d_PR_takes_29 : decode m_PR_takes.2.1 29 = .ok (.lload_n 3, 1) := by decide +kernel
theorem d_PR_takes_30 : decode m_PR_takes.2.1 30 = .ok (.lconst 1, 1) := by decide +kernel
theorem d_PR_takes_31 : decode m_PR_takes.2.1 31 = .ok (.land, 1) := by decide +kernel
theorem d_PR_takes_32 : decode m_PR_takes.2.1 32 = .ok (.lconst 1, 1) := by decide +kernel
theorem d_PR_takes_33 : decode m_PR_takes.2.1 33 = .ok (.lcmp, 1) := by decide +kernel
theorem d_PR_takes_34 : decode m_PR_takes.2.1 34 = .ok (.ifCond .ne 7, 3) := by decide +kernel
theorem d_PR_takes_37 : decode m_PR_takes.2.1 37 = .ok (.iconst 1, 1) := by decide +kernel
theorem d_PR_takes_38 : decode m_PR_takes.2.1 38 = .ok (.goto 4, 3) := by decide +kernel
theorem d_PR_takes_41 : decode m_PR_takes.2.1 41 = .ok (.iconst 0, 1) := by decide +kernel
theorem d_PR_takes_42 : decode m_PR_takes.2.1 42 = .ok (.ireturn, 1) := by decide +kernel
theorem d_MA_spread_0 : decode m_MA_spread.2.1 0 = .ok (.iconst 0, 1) := by decide +kernel
theorem d_MA_spread_1 : decode m_MA_spread.2.1 1 = .ok (.istore_n 2, 1) := by decide +kernel
theorem d_MA_spread_2 : decode m_MA_spread.2.1 2 = .ok (.iconst 0, 1) := by decide +kernel
theorem d_MA_spread_3 : decode m_MA_spread.2.1 3 = .ok (.istore_n 3, 1) := by decide +kernel
theorem d_MA_spread_4 : decode m_MA_spread.2.1 4 = .ok (.iload_n 3, 1) := by decide +kernel
theorem d_MA_spread_5 : decode m_MA_spread.2.1 5 = .ok (.aload_n 0, 1) := by decide +kernel
theorem d_MA_spread_6 : decode m_MA_spread.2.1 6 = .ok (.getfield 12, 3) := by decide +kernel
theorem d_MA_spread_9 : decode m_MA_spread.2.1 9 = .ok (.getfield 62, 3) := by decide +kernel
theorem d_MA_spread_12 : decode m_MA_spread.2.1 12 = .ok (.if_icmp .ge 46, 3) := by decide +kernel
theorem d_MA_spread_15 : decode m_MA_spread.2.1 15 = .ok (.aload_n 0, 1) := by decide +kernel
theorem d_MA_spread_16 : decode m_MA_spread.2.1 16 = .ok (.iload_n 3, 1) := by decide +kernel
theorem d_MA_spread_17 : decode m_MA_spread.2.1 17 = .ok (.iload_n 1, 1) := by decide +kernel
theorem d_MA_spread_18 : decode m_MA_spread.2.1 18 = .ok (.invokevirtual 82, 3) := by decide +kernel
theorem d_MA_spread_21 : decode m_MA_spread.2.1 21 = .ok (.istore 4, 2) := by decide +kernel
theorem d_MA_spread_23 : decode m_MA_spread.2.1 23 = .ok (.iload_n 2, 1) := by decide +kernel
theorem d_MA_spread_24 : decode m_MA_spread.2.1 24 = .ok (.ifCond .ne 14, 3) := by decide +kernel
theorem d_MA_spread_27 : decode m_MA_spread.2.1 27 = .ok (.iload 4, 2) := by decide +kernel
theorem d_MA_spread_29 : decode m_MA_spread.2.1 29 = .ok (.aload_n 0, 1) := by decide +kernel
theorem d_MA_spread_30 : decode m_MA_spread.2.1 30 = .ok (.getfield 22, 3) := by decide +kernel
theorem d_MA_spread_33 : decode m_MA_spread.2.1 33 = .ok (.iload_n 3, 1) := by decide +kernel
theorem d_MA_spread_34 : decode m_MA_spread.2.1 34 = .ok (.iaload, 1) := by decide +kernel
theorem d_MA_spread_35 : decode m_MA_spread.2.1 35 = .ok (.if_icmp .eq 7, 3) := by decide +kernel
theorem d_MA_spread_38 : decode m_MA_spread.2.1 38 = .ok (.iconst 1, 1) := by decide +kernel
theorem d_MA_spread_39 : decode m_MA_spread.2.1 39 = .ok (.goto 4, 3) := by decide +kernel
theorem d_MA_spread_42 : decode m_MA_spread.2.1 42 = .ok (.iconst 0, 1) := by decide +kernel
theorem d_MA_spread_43 : decode m_MA_spread.2.1 43 = .ok (.istore_n 2, 1) := by decide +kernel
theorem d_MA_spread_44 : decode m_MA_spread.2.1 44 = .ok (.aload_n 0, 1) := by decide +kernel
theorem d_MA_spread_45 : decode m_MA_spread.2.1 45 = .ok (.getfield 22, 3) := by decide +kernel
theorem d_MA_spread_48 : decode m_MA_spread.2.1 48 = .ok (.iload_n 3, 1) := by decide +kernel
theorem d_MA_spread_49 : decode m_MA_spread.2.1 49 = .ok (.iload 4, 2) := by decide +kernel
theorem d_MA_spread_51 : decode m_MA_spread.2.1 51 = .ok (.iastore, 1) := by decide +kernel
theorem d_MA_spread_52 : decode m_MA_spread.2.1 52 = .ok (.iinc 3 1, 3) := by decide +kernel
theorem d_MA_spread_55 : decode m_MA_spread.2.1 55 = .ok (.goto (-51), 3) := by decide +kernel
theorem d_MA_spread_58 : decode m_MA_spread.2.1 58 = .ok (.iload_n 2, 1) := by decide +kernel
theorem d_MA_spread_59 : decode m_MA_spread.2.1 59 = .ok (.ireturn, 1) := by decide +kernel
theorem d_MA_leadingPlaces_0 : decode m_MA_leadingPlaces.2.1 0 = .ok (.aload_n 0, 1) := by decide +kernel
theorem d_MA_leadingPlaces_1 : decode m_MA_leadingPlaces.2.1 1 = .ok (.getfield 22, 3) := by decide +kernel
theorem d_MA_leadingPlaces_4 : decode m_MA_leadingPlaces.2.1 4 = .ok (.aload_n 0, 1) := by decide +kernel
theorem d_MA_leadingPlaces_5 : decode m_MA_leadingPlaces.2.1 5 = .ok (.getfield 12, 3) := by decide +kernel
theorem d_MA_leadingPlaces_8 : decode m_MA_leadingPlaces.2.1 8 = .ok (.getfield 86, 3) := by decide +kernel
theorem d_MA_leadingPlaces_11 : decode m_MA_leadingPlaces.2.1 11 = .ok (.iload_n 1, 1) := by decide +kernel
theorem d_MA_leadingPlaces_12 : decode m_MA_leadingPlaces.2.1 12 = .ok (.iaload, 1) := by decide +kernel
theorem d_MA_leadingPlaces_13 : decode m_MA_leadingPlaces.2.1 13 = .ok (.iaload, 1) := by decide +kernel
theorem d_MA_leadingPlaces_14 : decode m_MA_leadingPlaces.2.1 14 = .ok (.istore_n 3, 1) := by decide +kernel
theorem d_MA_leadingPlaces_15 : decode m_MA_leadingPlaces.2.1 15 = .ok (.aload_n 0, 1) := by decide +kernel
theorem d_MA_leadingPlaces_16 : decode m_MA_leadingPlaces.2.1 16 = .ok (.getfield 12, 3) := by decide +kernel
theorem d_MA_leadingPlaces_19 : decode m_MA_leadingPlaces.2.1 19 = .ok (.getfield 65, 3) := by decide +kernel
theorem d_MA_leadingPlaces_22 : decode m_MA_leadingPlaces.2.1 22 = .ok (.iload_n 1, 1) := by decide +kernel
theorem d_MA_leadingPlaces_23 : decode m_MA_leadingPlaces.2.1 23 = .ok (.iaload, 1) := by decide +kernel
theorem d_MA_leadingPlaces_24 : decode m_MA_leadingPlaces.2.1 24 = .ok (.tableswitch 83 0 5 #[40, 42, 53, 57, 83, 66], 40) := by decide +kernel
theorem d_MA_leadingPlaces_64 : decode m_MA_leadingPlaces.2.1 64 = .ok (.iload_n 2, 1) := by decide +kernel
theorem d_MA_leadingPlaces_65 : decode m_MA_leadingPlaces.2.1 65 = .ok (.ireturn, 1) := by decide +kernel
theorem d_MA_leadingPlaces_66 : decode m_MA_leadingPlaces.2.1 66 = .ok (.iload_n 3, 1) := by decide +kernel
theorem d_MA_leadingPlaces_67 : decode m_MA_leadingPlaces.2.1 67 = .ok (.iconst 1, 1) := by decide +kernel
theorem d_MA_leadingPlaces_68 : decode m_MA_leadingPlaces.2.1 68 = .ok (.iushr, 1) := by decide +kernel
theorem d_MA_leadingPlaces_69 : decode m_MA_leadingPlaces.2.1 69 = .ok (.aload_n 0, 1) := by decide +kernel
theorem d_MA_leadingPlaces_70 : decode m_MA_leadingPlaces.2.1 70 = .ok (.getfield 18, 3) := by decide +kernel
theorem d_MA_leadingPlaces_73 : decode m_MA_leadingPlaces.2.1 73 = .ok (.iload_n 1, 1) := by decide +kernel
theorem d_MA_leadingPlaces_74 : decode m_MA_leadingPlaces.2.1 74 = .ok (.iaload, 1) := by decide +kernel
theorem d_MA_leadingPlaces_75 : decode m_MA_leadingPlaces.2.1 75 = .ok (.iand, 1) := by decide +kernel
theorem d_MA_leadingPlaces_76 : decode m_MA_leadingPlaces.2.1 76 = .ok (.ireturn, 1) := by decide +kernel
theorem d_MA_leadingPlaces_77 : decode m_MA_leadingPlaces.2.1 77 = .ok (.iload_n 3, 1) := by decide +kernel
theorem d_MA_leadingPlaces_78 : decode m_MA_leadingPlaces.2.1 78 = .ok (.iconst 1, 1) := by decide +kernel
theorem d_MA_leadingPlaces_79 : decode m_MA_leadingPlaces.2.1 79 = .ok (.iand, 1) := by decide +kernel
theorem d_MA_leadingPlaces_80 : decode m_MA_leadingPlaces.2.1 80 = .ok (.ireturn, 1) := by decide +kernel
theorem d_MA_leadingPlaces_81 : decode m_MA_leadingPlaces.2.1 81 = .ok (.iload_n 3, 1) := by decide +kernel
theorem d_MA_leadingPlaces_82 : decode m_MA_leadingPlaces.2.1 82 = .ok (.iconst 1, 1) := by decide +kernel
theorem d_MA_leadingPlaces_83 : decode m_MA_leadingPlaces.2.1 83 = .ok (.aload_n 0, 1) := by decide +kernel
theorem d_MA_leadingPlaces_84 : decode m_MA_leadingPlaces.2.1 84 = .ok (.getfield 46, 3) := by decide +kernel
theorem d_MA_leadingPlaces_87 : decode m_MA_leadingPlaces.2.1 87 = .ok (.ishl, 1) := by decide +kernel
theorem d_MA_leadingPlaces_88 : decode m_MA_leadingPlaces.2.1 88 = .ok (.iand, 1) := by decide +kernel
theorem d_MA_leadingPlaces_89 : decode m_MA_leadingPlaces.2.1 89 = .ok (.ireturn, 1) := by decide +kernel
theorem d_MA_leadingPlaces_90 : decode m_MA_leadingPlaces.2.1 90 = .ok (.iload_n 3, 1) := by decide +kernel
theorem d_MA_leadingPlaces_91 : decode m_MA_leadingPlaces.2.1 91 = .ok (.aload_n 0, 1) := by decide +kernel
theorem d_MA_leadingPlaces_92 : decode m_MA_leadingPlaces.2.1 92 = .ok (.getfield 22, 3) := by decide +kernel
theorem d_MA_leadingPlaces_95 : decode m_MA_leadingPlaces.2.1 95 = .ok (.aload_n 0, 1) := by decide +kernel
theorem d_MA_leadingPlaces_96 : decode m_MA_leadingPlaces.2.1 96 = .ok (.getfield 12, 3) := by decide +kernel
theorem d_MA_leadingPlaces_99 : decode m_MA_leadingPlaces.2.1 99 = .ok (.getfield 89, 3) := by decide +kernel
theorem d_MA_leadingPlaces_102 : decode m_MA_leadingPlaces.2.1 102 = .ok (.iload_n 1, 1) := by decide +kernel
theorem d_MA_leadingPlaces_103 : decode m_MA_leadingPlaces.2.1 103 = .ok (.iaload, 1) := by decide +kernel
theorem d_MA_leadingPlaces_104 : decode m_MA_leadingPlaces.2.1 104 = .ok (.iaload, 1) := by decide +kernel
theorem d_MA_leadingPlaces_105 : decode m_MA_leadingPlaces.2.1 105 = .ok (.ior, 1) := by decide +kernel
theorem d_MA_leadingPlaces_106 : decode m_MA_leadingPlaces.2.1 106 = .ok (.ireturn, 1) := by decide +kernel
theorem d_MA_leadingPlaces_107 : decode m_MA_leadingPlaces.2.1 107 = .ok (.iload_n 3, 1) := by decide +kernel
theorem d_MA_leadingPlaces_108 : decode m_MA_leadingPlaces.2.1 108 = .ok (.ireturn, 1) := by decide +kernel
theorem d_MA_seek_0 : decode m_MA_seek.2.1 0 = .ok (.aload_n 2, 1) := by decide +kernel
theorem d_MA_seek_1 : decode m_MA_seek.2.1 1 = .ok (.invokevirtual 41, 3) := by decide +kernel
theorem d_MA_seek_4 : decode m_MA_seek.2.1 4 = .ok (.iload_n 1, 1) := by decide +kernel
theorem d_MA_seek_5 : decode m_MA_seek.2.1 5 = .ok (.istore_n 3, 1) := by decide +kernel
theorem d_MA_seek_6 : decode m_MA_seek.2.1 6 = .ok (.iload_n 3, 1) := by decide +kernel
theorem d_MA_seek_7 : decode m_MA_seek.2.1 7 = .ok (.aload_n 0, 1) := by decide +kernel
theorem d_MA_seek_8 : decode m_MA_seek.2.1 8 = .ok (.getfield 46, 3) := by decide +kernel
theorem d_MA_seek_11 : decode m_MA_seek.2.1 11 = .ok (.if_icmp .gt 25, 3) := by decide +kernel
theorem d_MA_seek_14 : decode m_MA_seek.2.1 14 = .ok (.aload_n 0, 1) := by decide +kernel
theorem d_MA_seek_15 : decode m_MA_seek.2.1 15 = .ok (.iload_n 3, 1) := by decide +kernel
theorem d_MA_seek_16 : decode m_MA_seek.2.1 16 = .ok (.invokevirtual 49, 3) := by decide +kernel
theorem d_MA_seek_19 : decode m_MA_seek.2.1 19 = .ok (.ifCond .eq 11, 3) := by decide +kernel
theorem d_MA_seek_22 : decode m_MA_seek.2.1 22 = .ok (.aload_n 0, 1) := by decide +kernel
theorem d_MA_seek_23 : decode m_MA_seek.2.1 23 = .ok (.iload_n 3, 1) := by decide +kernel
theorem d_MA_seek_24 : decode m_MA_seek.2.1 24 = .ok (.aload_n 2, 1) := by decide +kernel
theorem d_MA_seek_25 : decode m_MA_seek.2.1 25 = .ok (.invokevirtual 53, 3) := by decide +kernel
theorem d_MA_seek_28 : decode m_MA_seek.2.1 28 = .ok (.iconst 1, 1) := by decide +kernel
theorem d_MA_seek_29 : decode m_MA_seek.2.1 29 = .ok (.ireturn, 1) := by decide +kernel
theorem d_MA_seek_30 : decode m_MA_seek.2.1 30 = .ok (.iinc 3 1, 3) := by decide +kernel
theorem d_MA_seek_33 : decode m_MA_seek.2.1 33 = .ok (.goto (-27), 3) := by decide +kernel
theorem d_MA_seek_36 : decode m_MA_seek.2.1 36 = .ok (.iconst 0, 1) := by decide +kernel
theorem d_MA_seek_37 : decode m_MA_seek.2.1 37 = .ok (.ireturn, 1) := by decide +kernel
theorem d_MA_leadsOn_0 : decode m_MA_leadsOn.2.1 0 = .ok (.aload_n 0, 1) := by decide +kernel
theorem d_MA_leadsOn_1 : decode m_MA_leadsOn.2.1 1 = .ok (.aload_n 0, 1) := by decide +kernel
theorem d_MA_leadsOn_2 : decode m_MA_leadsOn.2.1 2 = .ok (.getfield 12, 3) := by decide +kernel
theorem d_MA_leadsOn_5 : decode m_MA_leadsOn.2.1 5 = .ok (.getfield 33, 3) := by decide +kernel
theorem d_MA_leadsOn_8 : decode m_MA_leadsOn.2.1 8 = .ok (.iload_n 1, 1) := by decide +kernel
theorem d_MA_leadsOn_9 : decode m_MA_leadsOn.2.1 9 = .ok (.invokevirtual 37, 3) := by decide +kernel
theorem d_MA_leadsOn_12 : decode m_MA_leadsOn.2.1 12 = .ok (.ireturn, 1) := by decide +kernel
theorem d_MA_leadsOnFrom_0 : decode m_MA_leadsOnFrom.2.1 0 = .ok (.aload_n 0, 1) := by decide +kernel
theorem d_MA_leadsOnFrom_1 : decode m_MA_leadsOnFrom.2.1 1 = .ok (.getfield 22, 3) := by decide +kernel
theorem d_MA_leadsOnFrom_4 : decode m_MA_leadsOnFrom.2.1 4 = .ok (.iload_n 1, 1) := by decide +kernel
theorem d_MA_leadsOnFrom_5 : decode m_MA_leadsOnFrom.2.1 5 = .ok (.iaload, 1) := by decide +kernel
theorem d_MA_leadsOnFrom_6 : decode m_MA_leadsOnFrom.2.1 6 = .ok (.iload_n 2, 1) := by decide +kernel
theorem d_MA_leadsOnFrom_7 : decode m_MA_leadsOnFrom.2.1 7 = .ok (.iushr, 1) := by decide +kernel
theorem d_MA_leadsOnFrom_8 : decode m_MA_leadsOnFrom.2.1 8 = .ok (.iconst 1, 1) := by decide +kernel
theorem d_MA_leadsOnFrom_9 : decode m_MA_leadsOnFrom.2.1 9 = .ok (.iand, 1) := by decide +kernel
theorem d_MA_leadsOnFrom_10 : decode m_MA_leadsOnFrom.2.1 10 = .ok (.iconst 1, 1) := by decide +kernel
theorem d_MA_leadsOnFrom_11 : decode m_MA_leadsOnFrom.2.1 11 = .ok (.if_icmp .ne 7, 3) := by decide +kernel
theorem d_MA_leadsOnFrom_14 : decode m_MA_leadsOnFrom.2.1 14 = .ok (.iconst 1, 1) := by decide +kernel
theorem d_MA_leadsOnFrom_15 : decode m_MA_leadsOnFrom.2.1 15 = .ok (.goto 4, 3) := by decide +kernel
theorem d_MA_leadsOnFrom_18 : decode m_MA_leadsOnFrom.2.1 18 = .ok (.iconst 0, 1) := by decide +kernel
theorem d_MA_leadsOnFrom_19 : decode m_MA_leadsOnFrom.2.1 19 = .ok (.ireturn, 1) := by decide +kernel
theorem d_MA_walk_0 : decode m_MA_walk.2.1 0 = .ok (.iload_n 1, 1) := by decide +kernel
theorem d_MA_walk_1 : decode m_MA_walk.2.1 1 = .ok (.istore_n 3, 1) := by decide +kernel
theorem d_MA_walk_2 : decode m_MA_walk.2.1 2 = .ok (.aload_n 0, 1) := by decide +kernel
theorem d_MA_walk_3 : decode m_MA_walk.2.1 3 = .ok (.getfield 12, 3) := by decide +kernel
theorem d_MA_walk_6 : decode m_MA_walk.2.1 6 = .ok (.getfield 33, 3) := by decide +kernel
theorem d_MA_walk_9 : decode m_MA_walk.2.1 9 = .ok (.istore 4, 2) := by decide +kernel
theorem d_MA_walk_11 : decode m_MA_walk.2.1 11 = .ok (.iconst 0, 1) := by decide +kernel
theorem d_MA_walk_12 : decode m_MA_walk.2.1 12 = .ok (.istore 5, 2) := by decide +kernel
theorem d_MA_walk_14 : decode m_MA_walk.2.1 14 = .ok (.iload 5, 2) := by decide +kernel
theorem d_MA_walk_16 : decode m_MA_walk.2.1 16 = .ok (.sipush 3751, 3) := by decide +kernel
theorem d_MA_walk_19 : decode m_MA_walk.2.1 19 = .ok (.if_icmp .ge 128, 3) := by decide +kernel
theorem d_MA_walk_22 : decode m_MA_walk.2.1 22 = .ok (.aload_n 0, 1) := by decide +kernel
theorem d_MA_walk_23 : decode m_MA_walk.2.1 23 = .ok (.getfield 12, 3) := by decide +kernel
theorem d_MA_walk_26 : decode m_MA_walk.2.1 26 = .ok (.getfield 65, 3) := by decide +kernel
theorem d_MA_walk_29 : decode m_MA_walk.2.1 29 = .ok (.iload 4, 2) := by decide +kernel
theorem d_MA_walk_31 : decode m_MA_walk.2.1 31 = .ok (.iaload, 1) := by decide +kernel
theorem d_MA_walk_32 : decode m_MA_walk.2.1 32 = .ok (.ifCond .eq 115, 3) := by decide +kernel
theorem d_MA_walk_35 : decode m_MA_walk.2.1 35 = .ok (.aload_n 0, 1) := by decide +kernel
theorem d_MA_walk_36 : decode m_MA_walk.2.1 36 = .ok (.getfield 12, 3) := by decide +kernel
theorem d_MA_walk_39 : decode m_MA_walk.2.1 39 = .ok (.getfield 65, 3) := by decide +kernel
theorem d_MA_walk_42 : decode m_MA_walk.2.1 42 = .ok (.iload 4, 2) := by decide +kernel
theorem d_MA_walk_44 : decode m_MA_walk.2.1 44 = .ok (.iaload, 1) := by decide +kernel
theorem d_MA_walk_45 : decode m_MA_walk.2.1 45 = .ok (.istore 6, 2) := by decide +kernel
theorem d_MA_walk_47 : decode m_MA_walk.2.1 47 = .ok (.iload 6, 2) := by decide +kernel
theorem d_MA_walk_49 : decode m_MA_walk.2.1 49 = .ok (.iconst 1, 1) := by decide +kernel
theorem d_MA_walk_50 : decode m_MA_walk.2.1 50 = .ok (.if_icmp .ne 9, 3) := by decide +kernel
theorem d_MA_walk_53 : decode m_MA_walk.2.1 53 = .ok (.iinc 3 1, 3) := by decide +kernel
theorem d_MA_walk_56 : decode m_MA_walk.2.1 56 = .ok (.goto 24, 3) := by decide +kernel
theorem d_MA_walk_59 : decode m_MA_walk.2.1 59 = .ok (.iload 6, 2) := by decide +kernel
theorem d_MA_walk_61 : decode m_MA_walk.2.1 61 = .ok (.iconst 4, 1) := by decide +kernel
theorem d_MA_walk_62 : decode m_MA_walk.2.1 62 = .ok (.if_icmp .ne 18, 3) := by decide +kernel
theorem d_MA_walk_65 : decode m_MA_walk.2.1 65 = .ok (.aload_n 2, 1) := by decide +kernel
theorem d_MA_walk_66 : decode m_MA_walk.2.1 66 = .ok (.aload_n 0, 1) := by decide +kernel
theorem d_MA_walk_67 : decode m_MA_walk.2.1 67 = .ok (.getfield 12, 3) := by decide +kernel
theorem d_MA_walk_70 : decode m_MA_walk.2.1 70 = .ok (.getfield 92, 3) := by decide +kernel
theorem d_MA_walk_73 : decode m_MA_walk.2.1 73 = .ok (.iload 4, 2) := by decide +kernel
theorem d_MA_walk_75 : decode m_MA_walk.2.1 75 = .ok (.iaload, 1) := by decide +kernel
theorem d_MA_walk_76 : decode m_MA_walk.2.1 76 = .ok (.iload_n 3, 1) := by decide +kernel
theorem d_MA_walk_77 : decode m_MA_walk.2.1 77 = .ok (.invokevirtual 95, 3) := by decide +kernel
theorem d_MA_walk_80 : decode m_MA_walk.2.1 80 = .ok (.iload 6, 2) := by decide +kernel
theorem d_MA_walk_82 : decode m_MA_walk.2.1 82 = .ok (.iconst 5, 1) := by decide +kernel
theorem d_MA_walk_83 : decode m_MA_walk.2.1 83 = .ok (.if_icmp .ne 25, 3) := by decide +kernel
theorem d_MA_walk_86 : decode m_MA_walk.2.1 86 = .ok (.aload_n 0, 1) := by decide +kernel
theorem d_MA_walk_87 : decode m_MA_walk.2.1 87 = .ok (.aload_n 0, 1) := by decide +kernel
theorem d_MA_walk_88 : decode m_MA_walk.2.1 88 = .ok (.getfield 12, 3) := by decide +kernel
theorem d_MA_walk_91 : decode m_MA_walk.2.1 91 = .ok (.getfield 86, 3) := by decide +kernel
theorem d_MA_walk_94 : decode m_MA_walk.2.1 94 = .ok (.iload 4, 2) := by decide +kernel
theorem d_MA_walk_96 : decode m_MA_walk.2.1 96 = .ok (.iaload, 1) := by decide +kernel
theorem d_MA_walk_97 : decode m_MA_walk.2.1 97 = .ok (.iload_n 3, 1) := by decide +kernel
theorem d_MA_walk_98 : decode m_MA_walk.2.1 98 = .ok (.invokevirtual 37, 3) := by decide +kernel
theorem d_MA_walk_101 : decode m_MA_walk.2.1 101 = .ok (.ifCond .ne 7, 3) := by decide +kernel
theorem d_MA_walk_104 : decode m_MA_walk.2.1 104 = .ok (.iconst 1, 1) := by decide +kernel
theorem d_MA_walk_105 : decode m_MA_walk.2.1 105 = .ok (.goto 4, 3) := by decide +kernel
theorem d_MA_walk_108 : decode m_MA_walk.2.1 108 = .ok (.iconst 0, 1) := by decide +kernel
theorem d_MA_walk_109 : decode m_MA_walk.2.1 109 = .ok (.istore 7, 2) := by decide +kernel
theorem d_MA_walk_111 : decode m_MA_walk.2.1 111 = .ok (.iload 7, 2) := by decide +kernel
theorem d_MA_walk_113 : decode m_MA_walk.2.1 113 = .ok (.ifCond .eq 16, 3) := by decide +kernel
theorem d_MA_walk_116 : decode m_MA_walk.2.1 116 = .ok (.aload_n 0, 1) := by decide +kernel
theorem d_MA_walk_117 : decode m_MA_walk.2.1 117 = .ok (.getfield 12, 3) := by decide +kernel
theorem d_MA_walk_120 : decode m_MA_walk.2.1 120 = .ok (.getfield 89, 3) := by decide +kernel
theorem d_MA_walk_123 : decode m_MA_walk.2.1 123 = .ok (.iload 4, 2) := by decide +kernel
theorem d_MA_walk_125 : decode m_MA_walk.2.1 125 = .ok (.iaload, 1) := by decide +kernel
theorem d_MA_walk_126 : decode m_MA_walk.2.1 126 = .ok (.goto 13, 3) := by decide +kernel
theorem d_MA_walk_129 : decode m_MA_walk.2.1 129 = .ok (.aload_n 0, 1) := by decide +kernel
theorem d_MA_walk_130 : decode m_MA_walk.2.1 130 = .ok (.getfield 12, 3) := by decide +kernel
theorem d_MA_walk_133 : decode m_MA_walk.2.1 133 = .ok (.getfield 86, 3) := by decide +kernel
theorem d_MA_walk_136 : decode m_MA_walk.2.1 136 = .ok (.iload 4, 2) := by decide +kernel
theorem d_MA_walk_138 : decode m_MA_walk.2.1 138 = .ok (.iaload, 1) := by decide +kernel
theorem d_MA_walk_139 : decode m_MA_walk.2.1 139 = .ok (.istore 4, 2) := by decide +kernel
theorem d_MA_walk_141 : decode m_MA_walk.2.1 141 = .ok (.iinc 5 1, 3) := by decide +kernel
theorem d_MA_walk_144 : decode m_MA_walk.2.1 144 = .ok (.goto (-130), 3) := by decide +kernel
theorem d_MA_walk_147 : decode m_MA_walk.2.1 147 = .ok (.aload_n 2, 1) := by decide +kernel
theorem d_MA_walk_148 : decode m_MA_walk.2.1 148 = .ok (.iconst 0, 1) := by decide +kernel
theorem d_MA_walk_149 : decode m_MA_walk.2.1 149 = .ok (.invokestatic 99, 3) := by decide +kernel
theorem d_MA_walk_152 : decode m_MA_walk.2.1 152 = .ok (.iload_n 1, 1) := by decide +kernel
theorem d_MA_walk_153 : decode m_MA_walk.2.1 153 = .ok (.invokevirtual 95, 3) := by decide +kernel
theorem d_MA_walk_156 : decode m_MA_walk.2.1 156 = .ok (.aload_n 2, 1) := by decide +kernel
theorem d_MA_walk_157 : decode m_MA_walk.2.1 157 = .ok (.iconst 0, 1) := by decide +kernel
theorem d_MA_walk_158 : decode m_MA_walk.2.1 158 = .ok (.invokestatic 102, 3) := by decide +kernel
theorem d_MA_walk_161 : decode m_MA_walk.2.1 161 = .ok (.iload_n 3, 1) := by decide +kernel
theorem d_MA_walk_162 : decode m_MA_walk.2.1 162 = .ok (.invokevirtual 95, 3) := by decide +kernel
theorem d_MA_walk_165 : decode m_MA_walk.2.1 165 = .ok (.return_, 1) := by decide +kernel
theorem d_MA_aimAt_0 : decode m_MA_aimAt.2.1 0 = .ok (.aload_n 0, 1) := by decide +kernel
theorem d_MA_aimAt_1 : decode m_MA_aimAt.2.1 1 = .ok (.aload_n 1, 1) := by decide +kernel
theorem d_MA_aimAt_2 : decode m_MA_aimAt.2.1 2 = .ok (.iconst 1, 1) := by decide +kernel
theorem d_MA_aimAt_3 : decode m_MA_aimAt.2.1 3 = .ok (.iload_n 2, 1) := by decide +kernel
theorem d_MA_aimAt_4 : decode m_MA_aimAt.2.1 4 = .ok (.ishl, 1) := by decide +kernel
theorem d_MA_aimAt_5 : decode m_MA_aimAt.2.1 5 = .ok (.invokevirtual 29, 3) := by decide +kernel
theorem d_MA_aimAt_8 : decode m_MA_aimAt.2.1 8 = .ok (.return_, 1) := by decide +kernel
end
section
theorem d_MO_init_0 : decode m_MO_init.2.1 0 = .ok (.aload_n 0, 1) := by decide +kernel
theorem d_MO_init_1 : decode m_MO_init.2.1 1 = .ok (.invokespecial 1, 3) := by decide +kernel
theorem d_MO_init_4 : decode m_MO_init.2.1 4 = .ok (.aload_n 0, 1) := by decide +kernel
theorem d_MO_init_5 : decode m_MO_init.2.1 5 = .ok (.bipush 28, 2) := by decide +kernel
theorem d_MO_init_7 : decode m_MO_init.2.1 7 = .ok (.newarray .int, 2) := by decide +kernel
theorem d_MO_init_9 : decode m_MO_init.2.1 9 = .ok (.putfield 7, 3) := by decide +kernel
theorem d_MO_init_12 : decode m_MO_init.2.1 12 = .ok (.aload_n 0, 1) := by decide +kernel
theorem d_MO_init_13 : decode m_MO_init.2.1 13 = .ok (.bipush 30, 2) := by decide +kernel
theorem d_MO_init_15 : decode m_MO_init.2.1 15 = .ok (.newarray .int, 2) := by decide +kernel
theorem d_MO_init_17 : decode m_MO_init.2.1 17 = .ok (.putfield 13, 3) := by decide +kernel
theorem d_MO_init_20 : decode m_MO_init.2.1 20 = .ok (.aload_n 0, 1) := by decide +kernel
theorem d_MO_init_21 : decode m_MO_init.2.1 21 = .ok (.bipush 30, 2) := by decide +kernel
theorem d_MO_init_23 : decode m_MO_init.2.1 23 = .ok (.newarray .int, 2) := by decide +kernel
theorem d_MO_init_25 : decode m_MO_init.2.1 25 = .ok (.putfield 16, 3) := by decide +kernel
theorem d_MO_init_28 : decode m_MO_init.2.1 28 = .ok (.aload_n 0, 1) := by decide +kernel
theorem d_MO_init_29 : decode m_MO_init.2.1 29 = .ok (.bipush 14, 2) := by decide +kernel
theorem d_MO_init_31 : decode m_MO_init.2.1 31 = .ok (.newarray .int, 2) := by decide +kernel
theorem d_MO_init_33 : decode m_MO_init.2.1 33 = .ok (.putfield 19, 3) := by decide +kernel
theorem d_MO_init_36 : decode m_MO_init.2.1 36 = .ok (.aload_n 0, 1) := by decide +kernel
theorem d_MO_init_37 : decode m_MO_init.2.1 37 = .ok (.bipush 8, 2) := by decide +kernel
theorem d_MO_init_39 : decode m_MO_init.2.1 39 = .ok (.newarray .int, 2) := by decide +kernel
theorem d_MO_init_41 : decode m_MO_init.2.1 41 = .ok (.putfield 22, 3) := by decide +kernel
theorem d_MO_init_44 : decode m_MO_init.2.1 44 = .ok (.aload_n 0, 1) := by decide +kernel
theorem d_MO_init_45 : decode m_MO_init.2.1 45 = .ok (.bipush 8, 2) := by decide +kernel
theorem d_MO_init_47 : decode m_MO_init.2.1 47 = .ok (.newarray .int, 2) := by decide +kernel
theorem d_MO_init_49 : decode m_MO_init.2.1 49 = .ok (.putfield 25, 3) := by decide +kernel
theorem d_MO_init_52 : decode m_MO_init.2.1 52 = .ok (.aload_n 0, 1) := by decide +kernel
theorem d_MO_init_53 : decode m_MO_init.2.1 53 = .ok (.bipush 8, 2) := by decide +kernel
theorem d_MO_init_55 : decode m_MO_init.2.1 55 = .ok (.newarray .boolean, 2) := by decide +kernel
theorem d_MO_init_57 : decode m_MO_init.2.1 57 = .ok (.putfield 28, 3) := by decide +kernel
theorem d_MO_init_60 : decode m_MO_init.2.1 60 = .ok (.aload_n 0, 1) := by decide +kernel
theorem d_MO_init_61 : decode m_MO_init.2.1 61 = .ok (.bipush 8, 2) := by decide +kernel
theorem d_MO_init_63 : decode m_MO_init.2.1 63 = .ok (.newarray .boolean, 2) := by decide +kernel
theorem d_MO_init_65 : decode m_MO_init.2.1 65 = .ok (.putfield 32, 3) := by decide +kernel
theorem d_MO_init_68 : decode m_MO_init.2.1 68 = .ok (.aload_n 0, 1) := by decide +kernel
theorem d_MO_init_69 : decode m_MO_init.2.1 69 = .ok (.sipush 130, 3) := by decide +kernel
theorem d_MO_init_72 : decode m_MO_init.2.1 72 = .ok (.newarray .int, 2) := by decide +kernel
theorem d_MO_init_74 : decode m_MO_init.2.1 74 = .ok (.putfield 35, 3) := by decide +kernel
theorem d_MO_init_77 : decode m_MO_init.2.1 77 = .ok (.aload_n 0, 1) := by decide +kernel
theorem d_MO_init_78 : decode m_MO_init.2.1 78 = .ok (.sipush 130, 3) := by decide +kernel
theorem d_MO_init_81 : decode m_MO_init.2.1 81 = .ok (.newarray .int, 2) := by decide +kernel
theorem d_MO_init_83 : decode m_MO_init.2.1 83 = .ok (.putfield 38, 3) := by decide +kernel
theorem d_MO_init_86 : decode m_MO_init.2.1 86 = .ok (.aload_n 0, 1) := by decide +kernel
theorem d_MO_init_87 : decode m_MO_init.2.1 87 = .ok (.sipush 130, 3) := by decide +kernel
theorem d_MO_init_90 : decode m_MO_init.2.1 90 = .ok (.newarray .int, 2) := by decide +kernel
theorem d_MO_init_92 : decode m_MO_init.2.1 92 = .ok (.putfield 41, 3) := by decide +kernel
theorem d_MO_init_95 : decode m_MO_init.2.1 95 = .ok (.aload_n 0, 1) := by decide +kernel
theorem d_MO_init_96 : decode m_MO_init.2.1 96 = .ok (.bipush 8, 2) := by decide +kernel
theorem d_MO_init_98 : decode m_MO_init.2.1 98 = .ok (.newarray .int, 2) := by decide +kernel
theorem d_MO_init_100 : decode m_MO_init.2.1 100 = .ok (.putfield 44, 3) := by decide +kernel
theorem d_MO_init_103 : decode m_MO_init.2.1 103 = .ok (.aload_n 0, 1) := by decide +kernel
theorem d_MO_init_104 : decode m_MO_init.2.1 104 = .ok (.bipush 8, 2) := by decide +kernel
theorem d_MO_init_106 : decode m_MO_init.2.1 106 = .ok (.newarray .int, 2) := by decide +kernel
theorem d_MO_init_108 : decode m_MO_init.2.1 108 = .ok (.putfield 47, 3) := by decide +kernel
theorem d_MO_init_111 : decode m_MO_init.2.1 111 = .ok (.aload_n 0, 1) := by decide +kernel
theorem d_MO_init_112 : decode m_MO_init.2.1 112 = .ok (.bipush 8, 2) := by decide +kernel
theorem d_MO_init_114 : decode m_MO_init.2.1 114 = .ok (.newarray .int, 2) := by decide +kernel
theorem d_MO_init_116 : decode m_MO_init.2.1 116 = .ok (.putfield 50, 3) := by decide +kernel
theorem d_MO_init_119 : decode m_MO_init.2.1 119 = .ok (.aload_n 0, 1) := by decide +kernel
theorem d_MO_init_120 : decode m_MO_init.2.1 120 = .ok (.bipush 8, 2) := by decide +kernel
theorem d_MO_init_122 : decode m_MO_init.2.1 122 = .ok (.newarray .int, 2) := by decide +kernel
theorem d_MO_init_124 : decode m_MO_init.2.1 124 = .ok (.putfield 53, 3) := by decide +kernel
theorem d_MO_init_127 : decode m_MO_init.2.1 127 = .ok (.aload_n 0, 1) := by decide +kernel
theorem d_MO_init_128 : decode m_MO_init.2.1 128 = .ok (.bipush 30, 2) := by decide +kernel
theorem d_MO_init_130 : decode m_MO_init.2.1 130 = .ok (.newarray .int, 2) := by decide +kernel
theorem d_MO_init_132 : decode m_MO_init.2.1 132 = .ok (.putfield 56, 3) := by decide +kernel
theorem d_MO_init_135 : decode m_MO_init.2.1 135 = .ok (.aload_n 0, 1) := by decide +kernel
theorem d_MO_init_136 : decode m_MO_init.2.1 136 = .ok (.sipush 4030, 3) := by decide +kernel
theorem d_MO_init_139 : decode m_MO_init.2.1 139 = .ok (.newarray .boolean, 2) := by decide +kernel
theorem d_MO_init_141 : decode m_MO_init.2.1 141 = .ok (.putfield 59, 3) := by decide +kernel
theorem d_MO_init_144 : decode m_MO_init.2.1 144 = .ok (.aload_n 0, 1) := by decide +kernel
theorem d_MO_init_145 : decode m_MO_init.2.1 145 = .ok (.sipush 4030, 3) := by decide +kernel
theorem d_MO_init_148 : decode m_MO_init.2.1 148 = .ok (.newarray .int, 2) := by decide +kernel
theorem d_MO_init_150 : decode m_MO_init.2.1 150 = .ok (.putfield 62, 3) := by decide +kernel
theorem d_MO_init_153 : decode m_MO_init.2.1 153 = .ok (.aload_n 0, 1) := by decide +kernel
theorem d_MO_init_154 : decode m_MO_init.2.1 154 = .ok (.bipush 14, 2) := by decide +kernel
theorem d_MO_init_156 : decode m_MO_init.2.1 156 = .ok (.newarray .int, 2) := by decide +kernel
theorem d_MO_init_158 : decode m_MO_init.2.1 158 = .ok (.putfield 65, 3) := by decide +kernel
theorem d_MO_init_161 : decode m_MO_init.2.1 161 = .ok (.return_, 1) := by decide +kernel
theorem d_MO_pattern_0 : decode m_MO_pattern.2.1 0 = .ok (.iload_n 1, 1) := by decide +kernel
theorem d_MO_pattern_1 : decode m_MO_pattern.2.1 1 = .ok (.bipush 32, 2) := by decide +kernel
theorem d_MO_pattern_3 : decode m_MO_pattern.2.1 3 = .ok (.if_icmp .lt 18, 3) := by decide +kernel
theorem d_MO_pattern_6 : decode m_MO_pattern.2.1 6 = .ok (.iload_n 1, 1) := by decide +kernel
theorem d_MO_pattern_7 : decode m_MO_pattern.2.1 7 = .ok (.bipush 126, 2) := by decide +kernel
theorem d_MO_pattern_9 : decode m_MO_pattern.2.1 9 = .ok (.if_icmp .gt 12, 3) := by decide +kernel
theorem d_MO_pattern_12 : decode m_MO_pattern.2.1 12 = .ok (.aload_n 0, 1) := by decide +kernel
theorem d_MO_pattern_13 : decode m_MO_pattern.2.1 13 = .ok (.getfield 72, 3) := by decide +kernel
theorem d_MO_pattern_16 : decode m_MO_pattern.2.1 16 = .ok (.bipush 28, 2) := by decide +kernel
theorem d_MO_pattern_18 : decode m_MO_pattern.2.1 18 = .ok (.if_icmp .ne 5, 3) := by decide +kernel
theorem d_MO_pattern_21 : decode m_MO_pattern.2.1 21 = .ok (.iconst (-1), 1) := by decide +kernel
theorem d_MO_pattern_22 : decode m_MO_pattern.2.1 22 = .ok (.ireturn, 1) := by decide +kernel
theorem d_MO_pattern_23 : decode m_MO_pattern.2.1 23 = .ok (.aload_n 0, 1) := by decide +kernel
theorem d_MO_pattern_24 : decode m_MO_pattern.2.1 24 = .ok (.getfield 7, 3) := by decide +kernel
theorem d_MO_pattern_27 : decode m_MO_pattern.2.1 27 = .ok (.aload_n 0, 1) := by decide +kernel
theorem d_MO_pattern_28 : decode m_MO_pattern.2.1 28 = .ok (.getfield 72, 3) := by decide +kernel
theorem d_MO_pattern_31 : decode m_MO_pattern.2.1 31 = .ok (.iload_n 1, 1) := by decide +kernel
theorem d_MO_pattern_32 : decode m_MO_pattern.2.1 32 = .ok (.iastore, 1) := by decide +kernel
theorem d_MO_pattern_33 : decode m_MO_pattern.2.1 33 = .ok (.aload_n 0, 1) := by decide +kernel
theorem d_MO_pattern_34 : decode m_MO_pattern.2.1 34 = .ok (.dup, 1) := by decide +kernel
theorem d_MO_pattern_35 : decode m_MO_pattern.2.1 35 = .ok (.getfield 72, 3) := by decide +kernel
theorem d_MO_pattern_38 : decode m_MO_pattern.2.1 38 = .ok (.iconst 1, 1) := by decide +kernel
theorem d_MO_pattern_39 : decode m_MO_pattern.2.1 39 = .ok (.iadd, 1) := by decide +kernel
theorem d_MO_pattern_40 : decode m_MO_pattern.2.1 40 = .ok (.putfield 72, 3) := by decide +kernel
theorem d_MO_pattern_43 : decode m_MO_pattern.2.1 43 = .ok (.aload_n 0, 1) := by decide +kernel
theorem d_MO_pattern_44 : decode m_MO_pattern.2.1 44 = .ok (.iconst 0, 1) := by decide +kernel
theorem d_MO_pattern_45 : decode m_MO_pattern.2.1 45 = .ok (.putfield 173, 3) := by decide +kernel
theorem d_MO_pattern_48 : decode m_MO_pattern.2.1 48 = .ok (.aload_n 0, 1) := by decide +kernel
theorem d_MO_pattern_49 : decode m_MO_pattern.2.1 49 = .ok (.getfield 72, 3) := by decide +kernel
theorem d_MO_pattern_52 : decode m_MO_pattern.2.1 52 = .ok (.ireturn, 1) := by decide +kernel
theorem d_MO_newPattern_0 : decode m_MO_newPattern.2.1 0 = .ok (.aload_n 0, 1) := by decide +kernel
theorem d_MO_newPattern_1 : decode m_MO_newPattern.2.1 1 = .ok (.iconst 0, 1) := by decide +kernel
theorem d_MO_newPattern_2 : decode m_MO_newPattern.2.1 2 = .ok (.putfield 72, 3) := by decide +kernel
theorem d_MO_newPattern_5 : decode m_MO_newPattern.2.1 5 = .ok (.aload_n 0, 1) := by decide +kernel
theorem d_MO_newPattern_6 : decode m_MO_newPattern.2.1 6 = .ok (.iconst 0, 1) := by decide +kernel
theorem d_MO_newPattern_7 : decode m_MO_newPattern.2.1 7 = .ok (.putfield 173, 3) := by decide +kernel
theorem d_MO_newPattern_10 : decode m_MO_newPattern.2.1 10 = .ok (.iconst 0, 1) := by decide +kernel
theorem d_MO_newPattern_11 : decode m_MO_newPattern.2.1 11 = .ok (.ireturn, 1) := by decide +kernel
theorem d_MO_compile_0 : decode m_MO_compile.2.1 0 = .ok (.aload_n 0, 1) := by decide +kernel
theorem d_MO_compile_1 : decode m_MO_compile.2.1 1 = .ok (.iconst 0, 1) := by decide +kernel
theorem d_MO_compile_2 : decode m_MO_compile.2.1 2 = .ok (.putfield 173, 3) := by decide +kernel
theorem d_MO_compile_5 : decode m_MO_compile.2.1 5 = .ok (.aload_n 0, 1) := by decide +kernel
theorem d_MO_compile_6 : decode m_MO_compile.2.1 6 = .ok (.invokevirtual 176, 3) := by decide +kernel
theorem d_MO_compile_9 : decode m_MO_compile.2.1 9 = .ok (.bipush (-2), 2) := by decide +kernel
theorem d_MO_compile_11 : decode m_MO_compile.2.1 11 = .ok (.if_icmp .eq 6, 3) := by decide +kernel
theorem d_MO_compile_14 : decode m_MO_compile.2.1 14 = .ok (.bipush (-3), 2) := by decide +kernel
theorem d_MO_compile_16 : decode m_MO_compile.2.1 16 = .ok (.ireturn, 1) := by decide +kernel
theorem d_MO_compile_17 : decode m_MO_compile.2.1 17 = .ok (.aload_n 0, 1) := by decide +kernel
theorem d_MO_compile_18 : decode m_MO_compile.2.1 18 = .ok (.getfield 87, 3) := by decide +kernel
theorem d_MO_compile_21 : decode m_MO_compile.2.1 21 = .ok (.ifCond .eq 6, 3) := by decide +kernel
theorem d_MO_compile_24 : decode m_MO_compile.2.1 24 = .ok (.bipush (-4), 2) := by decide +kernel
theorem d_MO_compile_26 : decode m_MO_compile.2.1 26 = .ok (.ireturn, 1) := by decide +kernel
theorem d_MO_compile_27 : decode m_MO_compile.2.1 27 = .ok (.aload_n 0, 1) := by decide +kernel
theorem d_MO_compile_28 : decode m_MO_compile.2.1 28 = .ok (.getfield 123, 3) := by decide +kernel
theorem d_MO_compile_31 : decode m_MO_compile.2.1 31 = .ok (.bipush 120, 2) := by decide +kernel
theorem d_MO_compile_33 : decode m_MO_compile.2.1 33 = .ok (.if_icmp .le 6, 3) := by decide +kernel
theorem d_MO_compile_36 : decode m_MO_compile.2.1 36 = .ok (.bipush (-5), 2) := by decide +kernel
theorem d_MO_compile_38 : decode m_MO_compile.2.1 38 = .ok (.ireturn, 1) := by decide +kernel
theorem d_MO_compile_39 : decode m_MO_compile.2.1 39 = .ok (.aload_n 0, 1) := by decide +kernel
theorem d_MO_compile_40 : decode m_MO_compile.2.1 40 = .ok (.invokevirtual 180, 3) := by decide +kernel
theorem d_MO_compile_43 : decode m_MO_compile.2.1 43 = .ok (.aload_n 0, 1) := by decide +kernel
theorem d_MO_compile_44 : decode m_MO_compile.2.1 44 = .ok (.iconst 1, 1) := by decide +kernel
theorem d_MO_compile_45 : decode m_MO_compile.2.1 45 = .ok (.putfield 173, 3) := by decide +kernel
theorem d_MO_compile_48 : decode m_MO_compile.2.1 48 = .ok (.aload_n 0, 1) := by decide +kernel
theorem d_MO_compile_49 : decode m_MO_compile.2.1 49 = .ok (.iconst 0, 1) := by decide +kernel
theorem d_MO_compile_50 : decode m_MO_compile.2.1 50 = .ok (.putfield 183, 3) := by decide +kernel
theorem d_MO_compile_53 : decode m_MO_compile.2.1 53 = .ok (.aload_n 0, 1) := by decide +kernel
theorem d_MO_compile_54 : decode m_MO_compile.2.1 54 = .ok (.getfield 104, 3) := by decide +kernel
theorem d_MO_compile_57 : decode m_MO_compile.2.1 57 = .ok (.ireturn, 1) := by decide +kernel
theorem d_MO_openRow_0 : decode m_MO_openRow.2.1 0 = .ok (.aload_n 0, 1) := by decide +kernel
theorem d_MO_openRow_1 : decode m_MO_openRow.2.1 1 = .ok (.getfield 25, 3) := by decide +kernel
theorem d_MO_openRow_4 : decode m_MO_openRow.2.1 4 = .ok (.iload_n 1, 1) := by decide +kernel
theorem d_MO_openRow_5 : decode m_MO_openRow.2.1 5 = .ok (.iconst 0, 1) := by decide +kernel
theorem d_MO_openRow_6 : decode m_MO_openRow.2.1 6 = .ok (.iastore, 1) := by decide +kernel
theorem d_MO_openRow_7 : decode m_MO_openRow.2.1 7 = .ok (.aload_n 0, 1) := by decide +kernel
theorem d_MO_openRow_8 : decode m_MO_openRow.2.1 8 = .ok (.getfield 28, 3) := by decide +kernel
theorem d_MO_openRow_11 : decode m_MO_openRow.2.1 11 = .ok (.iload_n 1, 1) := by decide +kernel
theorem d_MO_openRow_12 : decode m_MO_openRow.2.1 12 = .ok (.iconst 1, 1) := by decide +kernel
theorem d_MO_openRow_13 : decode m_MO_openRow.2.1 13 = .ok (.bastore, 1) := by decide +kernel
theorem d_MO_openRow_14 : decode m_MO_openRow.2.1 14 = .ok (.return_, 1) := by decide +kernel
theorem d_MO_at_0 : decode m_MO_at.2.1 0 = .ok (.iload_n 1, 1) := by decide +kernel
theorem d_MO_at_1 : decode m_MO_at.2.1 1 = .ok (.aload_n 0, 1) := by decide +kernel
theorem d_MO_at_2 : decode m_MO_at.2.1 2 = .ok (.getfield 72, 3) := by decide +kernel
theorem d_MO_at_5 : decode m_MO_at.2.1 5 = .ok (.if_icmp .ge 12, 3) := by decide +kernel
theorem d_MO_at_8 : decode m_MO_at.2.1 8 = .ok (.aload_n 0, 1) := by decide +kernel
theorem d_MO_at_9 : decode m_MO_at.2.1 9 = .ok (.getfield 7, 3) := by decide +kernel
theorem d_MO_at_12 : decode m_MO_at.2.1 12 = .ok (.iload_n 1, 1) := by decide +kernel
theorem d_MO_at_13 : decode m_MO_at.2.1 13 = .ok (.iaload, 1) := by decide +kernel
theorem d_MO_at_14 : decode m_MO_at.2.1 14 = .ok (.goto 4, 3) := by decide +kernel
theorem d_MO_at_17 : decode m_MO_at.2.1 17 = .ok (.iconst (-1), 1) := by decide +kernel
theorem d_MO_at_18 : decode m_MO_at.2.1 18 = .ok (.ireturn, 1) := by decide +kernel
theorem d_MO_is_0 : decode m_MO_is.2.1 0 = .ok (.iload_n 0, 1) := by decide +kernel
theorem d_MO_is_1 : decode m_MO_is.2.1 1 = .ok (.iload_n 1, 1) := by decide +kernel
theorem d_MO_is_2 : decode m_MO_is.2.1 2 = .ok (.if_icmp .eq 19, 3) := by decide +kernel
theorem d_MO_is_5 : decode m_MO_is.2.1 5 = .ok (.iload_n 0, 1) := by decide +kernel
theorem d_MO_is_6 : decode m_MO_is.2.1 6 = .ok (.iload_n 2, 1) := by decide +kernel
theorem d_MO_is_7 : decode m_MO_is.2.1 7 = .ok (.if_icmp .eq 14, 3) := by decide +kernel
theorem d_MO_is_10 : decode m_MO_is.2.1 10 = .ok (.iload_n 0, 1) := by decide +kernel
theorem d_MO_is_11 : decode m_MO_is.2.1 11 = .ok (.iload_n 3, 1) := by decide +kernel
theorem d_MO_is_12 : decode m_MO_is.2.1 12 = .ok (.if_icmp .eq 9, 3) := by decide +kernel
theorem d_MO_is_15 : decode m_MO_is.2.1 15 = .ok (.iload_n 0, 1) := by decide +kernel
theorem d_MO_is_16 : decode m_MO_is.2.1 16 = .ok (.iload 4, 2) := by decide +kernel
theorem d_MO_is_18 : decode m_MO_is.2.1 18 = .ok (.if_icmp .ne 7, 3) := by decide +kernel
theorem d_MO_is_21 : decode m_MO_is.2.1 21 = .ok (.iconst 1, 1) := by decide +kernel
theorem d_MO_is_22 : decode m_MO_is.2.1 22 = .ok (.goto 4, 3) := by decide +kernel
theorem d_MO_is_25 : decode m_MO_is.2.1 25 = .ok (.iconst 0, 1) := by decide +kernel
theorem d_MO_is_26 : decode m_MO_is.2.1 26 = .ok (.ireturn, 1) := by decide +kernel
theorem d_MO_passRepetition_0 : decode m_MO_passRepetition.2.1 0 = .ok (.aload_n 0, 1) := by decide +kernel
theorem d_MO_passRepetition_1 : decode m_MO_passRepetition.2.1 1 = .ok (.iload_n 1, 1) := by decide +kernel
theorem d_MO_passRepetition_2 : decode m_MO_passRepetition.2.1 2 = .ok (.invokevirtual 90, 3) := by decide +kernel
theorem d_MO_passRepetition_5 : decode m_MO_passRepetition.2.1 5 = .ok (.istore_n 2, 1) := by decide +kernel
theorem d_MO_passRepetition_6 : decode m_MO_passRepetition.2.1 6 = .ok (.iload_n 1, 1) := by decide +kernel
theorem d_MO_passRepetition_7 : decode m_MO_passRepetition.2.1 7 = .ok (.iconst 1, 1) := by decide +kernel
theorem d_MO_passRepetition_8 : decode m_MO_passRepetition.2.1 8 = .ok (.iadd, 1) := by decide +kernel
theorem d_MO_passRepetition_9 : decode m_MO_passRepetition.2.1 9 = .ok (.istore_n 3, 1) := by decide +kernel
theorem d_MO_passRepetition_10 : decode m_MO_passRepetition.2.1 10 = .ok (.iload_n 2, 1) := by decide +kernel
theorem d_MO_passRepetition_11 : decode m_MO_passRepetition.2.1 11 = .ok (.bipush 123, 2) := by decide +kernel
theorem d_MO_passRepetition_13 : decode m_MO_passRepetition.2.1 13 = .ok (.if_icmp .ne 12, 3) := by decide +kernel
theorem d_MO_passRepetition_16 : decode m_MO_passRepetition.2.1 16 = .ok (.aload_n 0, 1) := by decide +kernel
theorem d_MO_passRepetition_17 : decode m_MO_passRepetition.2.1 17 = .ok (.iload_n 1, 1) := by decide +kernel
theorem d_MO_passRepetition_18 : decode m_MO_passRepetition.2.1 18 = .ok (.invokevirtual 101, 3) := by decide +kernel
theorem d_MO_passRepetition_21 : decode m_MO_passRepetition.2.1 21 = .ok (.istore_n 3, 1) := by decide +kernel
theorem d_MO_passRepetition_22 : decode m_MO_passRepetition.2.1 22 = .ok (.goto 31, 3) := by decide +kernel
theorem d_MO_passRepetition_25 : decode m_MO_passRepetition.2.1 25 = .ok (.aload_n 0, 1) := by decide +kernel
theorem d_MO_passRepetition_26 : decode m_MO_passRepetition.2.1 26 = .ok (.iconst 1, 1) := by decide +kernel
theorem d_MO_passRepetition_27 : decode m_MO_passRepetition.2.1 27 = .ok (.iconst 2, 1) := by decide +kernel
theorem d_MO_passRepetition_28 : decode m_MO_passRepetition.2.1 28 = .ok (.iload_n 2, 1) := by decide +kernel
theorem d_MO_passRepetition_29 : decode m_MO_passRepetition.2.1 29 = .ok (.bipush 43, 2) := by decide +kernel
theorem d_MO_passRepetition_31 : decode m_MO_passRepetition.2.1 31 = .ok (.if_icmp .eq 7, 3) := by decide +kernel
theorem d_MO_passRepetition_34 : decode m_MO_passRepetition.2.1 34 = .ok (.iconst 1, 1) := by decide +kernel
theorem d_MO_passRepetition_35 : decode m_MO_passRepetition.2.1 35 = .ok (.goto 4, 3) := by decide +kernel
theorem d_MO_passRepetition_38 : decode m_MO_passRepetition.2.1 38 = .ok (.iconst 0, 1) := by decide +kernel
theorem d_MO_passRepetition_39 : decode m_MO_passRepetition.2.1 39 = .ok (.iload_n 2, 1) := by decide +kernel
theorem d_MO_passRepetition_40 : decode m_MO_passRepetition.2.1 40 = .ok (.bipush 63, 2) := by decide +kernel
theorem d_MO_passRepetition_42 : decode m_MO_passRepetition.2.1 42 = .ok (.if_icmp .eq 7, 3) := by decide +kernel
theorem d_MO_passRepetition_45 : decode m_MO_passRepetition.2.1 45 = .ok (.iconst 1, 1) := by decide +kernel
theorem d_MO_passRepetition_46 : decode m_MO_passRepetition.2.1 46 = .ok (.goto 4, 3) := by decide +kernel
theorem d_MO_passRepetition_49 : decode m_MO_passRepetition.2.1 49 = .ok (.iconst 0, 1) := by decide +kernel
theorem d_MO_passRepetition_50 : decode m_MO_passRepetition.2.1 50 = .ok (.invokevirtual 97, 3) := by decide +kernel
theorem d_MO_passRepetition_53 : decode m_MO_passRepetition.2.1 53 = .ok (.iload_n 3, 1) := by decide +kernel
theorem d_MO_passRepetition_54 : decode m_MO_passRepetition.2.1 54 = .ok (.ifCond .lt 19, 3) := by decide +kernel
theorem d_MO_passRepetition_57 : decode m_MO_passRepetition.2.1 57 = .ok (.aload_n 0, 1) := by decide +kernel
theorem d_MO_passRepetition_58 : decode m_MO_passRepetition.2.1 58 = .ok (.iload_n 3, 1) := by decide +kernel
theorem d_MO_passRepetition_59 : decode m_MO_passRepetition.2.1 59 = .ok (.invokevirtual 90, 3) := by decide +kernel
theorem d_MO_passRepetition_62 : decode m_MO_passRepetition.2.1 62 = .ok (.bipush 63, 2) := by decide +kernel
theorem d_MO_passRepetition_64 : decode m_MO_passRepetition.2.1 64 = .ok (.if_icmp .ne 9, 3) := by decide +kernel
theorem d_MO_passRepetition_67 : decode m_MO_passRepetition.2.1 67 = .ok (.iload_n 3, 1) := by decide +kernel
theorem d_MO_passRepetition_68 : decode m_MO_passRepetition.2.1 68 = .ok (.iconst 1, 1) := by decide +kernel
theorem d_MO_passRepetition_69 : decode m_MO_passRepetition.2.1 69 = .ok (.iadd, 1) := by decide +kernel
theorem d_MO_passRepetition_70 : decode m_MO_passRepetition.2.1 70 = .ok (.goto 4, 3) := by decide +kernel
theorem d_MO_passRepetition_73 : decode m_MO_passRepetition.2.1 73 = .ok (.iload_n 3, 1) := by decide +kernel
theorem d_MO_passRepetition_74 : decode m_MO_passRepetition.2.1 74 = .ok (.ireturn, 1) := by decide +kernel
theorem d_MO_passBraces_0 : decode m_MO_passBraces.2.1 0 = .ok (.iload_n 1, 1) := by decide +kernel
theorem d_MO_passBraces_1 : decode m_MO_passBraces.2.1 1 = .ok (.iconst 1, 1) := by decide +kernel
theorem d_MO_passBraces_2 : decode m_MO_passBraces.2.1 2 = .ok (.iadd, 1) := by decide +kernel
theorem d_MO_passBraces_3 : decode m_MO_passBraces.2.1 3 = .ok (.istore_n 2, 1) := by decide +kernel
theorem d_MO_passBraces_4 : decode m_MO_passBraces.2.1 4 = .ok (.iload_n 2, 1) := by decide +kernel
theorem d_MO_passBraces_5 : decode m_MO_passBraces.2.1 5 = .ok (.aload_n 0, 1) := by decide +kernel
theorem d_MO_passBraces_6 : decode m_MO_passBraces.2.1 6 = .ok (.getfield 72, 3) := by decide +kernel
theorem d_MO_passBraces_9 : decode m_MO_passBraces.2.1 9 = .ok (.if_icmp .ge 23, 3) := by decide +kernel
theorem d_MO_passBraces_12 : decode m_MO_passBraces.2.1 12 = .ok (.aload_n 0, 1) := by decide +kernel
theorem d_MO_passBraces_13 : decode m_MO_passBraces.2.1 13 = .ok (.iload_n 2, 1) := by decide +kernel
theorem d_MO_passBraces_14 : decode m_MO_passBraces.2.1 14 = .ok (.invokevirtual 90, 3) := by decide +kernel
theorem d_MO_passBraces_17 : decode m_MO_passBraces.2.1 17 = .ok (.bipush 48, 2) := by decide +kernel
theorem d_MO_passBraces_19 : decode m_MO_passBraces.2.1 19 = .ok (.if_icmp .lt 13, 3) := by decide +kernel
theorem d_MO_passBraces_22 : decode m_MO_passBraces.2.1 22 = .ok (.aload_n 0, 1) := by decide +kernel
theorem d_MO_passBraces_23 : decode m_MO_passBraces.2.1 23 = .ok (.iload_n 2, 1) := by decide +kernel
theorem d_MO_passBraces_24 : decode m_MO_passBraces.2.1 24 = .ok (.invokevirtual 90, 3) := by decide +kernel
theorem d_MO_passBraces_27 : decode m_MO_passBraces.2.1 27 = .ok (.bipush 54, 2) := by decide +kernel
theorem d_MO_passBraces_29 : decode m_MO_passBraces.2.1 29 = .ok (.if_icmp .le 7, 3) := by decide +kernel
theorem d_MO_passBraces_32 : decode m_MO_passBraces.2.1 32 = .ok (.iconst (-1), 1) := by decide +kernel
theorem d_MO_passBraces_33 : decode m_MO_passBraces.2.1 33 = .ok (.iload_n 2, 1) := by decide +kernel
theorem d_MO_passBraces_34 : decode m_MO_passBraces.2.1 34 = .ok (.isub, 1) := by decide +kernel
theorem d_MO_passBraces_35 : decode m_MO_passBraces.2.1 35 = .ok (.ireturn, 1) := by decide +kernel
theorem d_MO_passBraces_36 : decode m_MO_passBraces.2.1 36 = .ok (.aload_n 0, 1) := by decide +kernel
theorem d_MO_passBraces_37 : decode m_MO_passBraces.2.1 37 = .ok (.iload_n 2, 1) := by decide +kernel
theorem d_MO_passBraces_38 : decode m_MO_passBraces.2.1 38 = .ok (.invokevirtual 90, 3) := by decide +kernel
theorem d_MO_passBraces_41 : decode m_MO_passBraces.2.1 41 = .ok (.bipush 48, 2) := by decide +kernel
theorem d_MO_passBraces_43 : decode m_MO_passBraces.2.1 43 = .ok (.isub, 1) := by decide +kernel
theorem d_MO_passBraces_44 : decode m_MO_passBraces.2.1 44 = .ok (.istore_n 3, 1) := by decide +kernel
theorem d_MO_passBraces_45 : decode m_MO_passBraces.2.1 45 = .ok (.iinc 2 1, 3) := by decide +kernel
theorem d_MO_passBraces_48 : decode m_MO_passBraces.2.1 48 = .ok (.aload_n 0, 1) := by decide +kernel
theorem d_MO_passBraces_49 : decode m_MO_passBraces.2.1 49 = .ok (.iload_n 2, 1) := by decide +kernel
theorem d_MO_passBraces_50 : decode m_MO_passBraces.2.1 50 = .ok (.invokevirtual 90, 3) := by decide +kernel
theorem d_MO_passBraces_53 : decode m_MO_passBraces.2.1 53 = .ok (.bipush 125, 2) := by decide +kernel
theorem d_MO_passBraces_55 : decode m_MO_passBraces.2.1 55 = .ok (.if_icmp .ne 19, 3) := by decide +kernel
theorem d_MO_passBraces_58 : decode m_MO_passBraces.2.1 58 = .ok (.iload_n 3, 1) := by decide +kernel
theorem d_MO_passBraces_59 : decode m_MO_passBraces.2.1 59 = .ok (.ifCond .le 15, 3) := by decide +kernel
theorem d_MO_passBraces_62 : decode m_MO_passBraces.2.1 62 = .ok (.aload_n 0, 1) := by decide +kernel
theorem d_MO_passBraces_63 : decode m_MO_passBraces.2.1 63 = .ok (.iload_n 3, 1) := by decide +kernel
theorem d_MO_passBraces_64 : decode m_MO_passBraces.2.1 64 = .ok (.iconst 0, 1) := by decide +kernel
theorem d_MO_passBraces_65 : decode m_MO_passBraces.2.1 65 = .ok (.iconst 0, 1) := by decide +kernel
theorem d_MO_passBraces_66 : decode m_MO_passBraces.2.1 66 = .ok (.iconst 0, 1) := by decide +kernel
theorem d_MO_passBraces_67 : decode m_MO_passBraces.2.1 67 = .ok (.invokevirtual 97, 3) := by decide +kernel
theorem d_MO_passBraces_70 : decode m_MO_passBraces.2.1 70 = .ok (.iload_n 2, 1) := by decide +kernel
theorem d_MO_passBraces_71 : decode m_MO_passBraces.2.1 71 = .ok (.iconst 1, 1) := by decide +kernel
theorem d_MO_passBraces_72 : decode m_MO_passBraces.2.1 72 = .ok (.iadd, 1) := by decide +kernel
theorem d_MO_passBraces_73 : decode m_MO_passBraces.2.1 73 = .ok (.ireturn, 1) := by decide +kernel
theorem d_MO_passBraces_74 : decode m_MO_passBraces.2.1 74 = .ok (.aload_n 0, 1) := by decide +kernel
theorem d_MO_passBraces_75 : decode m_MO_passBraces.2.1 75 = .ok (.iload_n 2, 1) := by decide +kernel
theorem d_MO_passBraces_76 : decode m_MO_passBraces.2.1 76 = .ok (.invokevirtual 90, 3) := by decide +kernel
theorem d_MO_passBraces_79 : decode m_MO_passBraces.2.1 79 = .ok (.bipush 44, 2) := by decide +kernel
theorem d_MO_passBraces_81 : decode m_MO_passBraces.2.1 81 = .ok (.if_icmp .eq 7, 3) := by decide +kernel
theorem d_MO_passBraces_84 : decode m_MO_passBraces.2.1 84 = .ok (.iconst (-1), 1) := by decide +kernel
theorem d_MO_passBraces_85 : decode m_MO_passBraces.2.1 85 = .ok (.iload_n 2, 1) := by decide +kernel
theorem d_MO_passBraces_86 : decode m_MO_passBraces.2.1 86 = .ok (.isub, 1) := by decide +kernel
theorem d_MO_passBraces_87 : decode m_MO_passBraces.2.1 87 = .ok (.ireturn, 1) := by decide +kernel
theorem d_MO_passBraces_88 : decode m_MO_passBraces.2.1 88 = .ok (.iinc 2 1, 3) := by decide +kernel
theorem d_MO_passBraces_91 : decode m_MO_passBraces.2.1 91 = .ok (.aload_n 0, 1) := by decide +kernel
theorem d_MO_passBraces_92 : decode m_MO_passBraces.2.1 92 = .ok (.iload_n 2, 1) := by decide +kernel
theorem d_MO_passBraces_93 : decode m_MO_passBraces.2.1 93 = .ok (.invokevirtual 90, 3) := by decide +kernel
theorem d_MO_passBraces_96 : decode m_MO_passBraces.2.1 96 = .ok (.bipush 48, 2) := by decide +kernel
theorem d_MO_passBraces_98 : decode m_MO_passBraces.2.1 98 = .ok (.isub, 1) := by decide +kernel
theorem d_MO_passBraces_99 : decode m_MO_passBraces.2.1 99 = .ok (.istore 4, 2) := by decide +kernel
theorem d_MO_passBraces_101 : decode m_MO_passBraces.2.1 101 = .ok (.iload_n 2, 1) := by decide +kernel
theorem d_MO_passBraces_102 : decode m_MO_passBraces.2.1 102 = .ok (.aload_n 0, 1) := by decide +kernel
theorem d_MO_passBraces_103 : decode m_MO_passBraces.2.1 103 = .ok (.getfield 72, 3) := by decide +kernel
theorem d_MO_passBraces_106 : decode m_MO_passBraces.2.1 106 = .ok (.if_icmp .ge 22, 3) := by decide +kernel
theorem d_MO_passBraces_109 : decode m_MO_passBraces.2.1 109 = .ok (.iload 4, 2) := by decide +kernel
theorem d_MO_passBraces_111 : decode m_MO_passBraces.2.1 111 = .ok (.iconst 1, 1) := by decide +kernel
theorem d_MO_passBraces_112 : decode m_MO_passBraces.2.1 112 = .ok (.if_icmp .lt 16, 3) := by decide +kernel
theorem d_MO_passBraces_115 : decode m_MO_passBraces.2.1 115 = .ok (.iload 4, 2) := by decide +kernel
theorem d_MO_passBraces_117 : decode m_MO_passBraces.2.1 117 = .ok (.bipush 6, 2) := by decide +kernel
theorem d_MO_passBraces_119 : decode m_MO_passBraces.2.1 119 = .ok (.if_icmp .gt 9, 3) := by decide +kernel
theorem d_MO_passBraces_122 : decode m_MO_passBraces.2.1 122 = .ok (.iload 4, 2) := by decide +kernel
theorem d_MO_passBraces_124 : decode m_MO_passBraces.2.1 124 = .ok (.iload_n 3, 1) := by decide +kernel
theorem d_MO_passBraces_125 : decode m_MO_passBraces.2.1 125 = .ok (.if_icmp .ge 7, 3) := by decide +kernel
theorem d_MO_passBraces_128 : decode m_MO_passBraces.2.1 128 = .ok (.iconst (-1), 1) := by decide +kernel
theorem d_MO_passBraces_129 : decode m_MO_passBraces.2.1 129 = .ok (.iload_n 2, 1) := by decide +kernel
theorem d_MO_passBraces_130 : decode m_MO_passBraces.2.1 130 = .ok (.isub, 1) := by decide +kernel
theorem d_MO_passBraces_131 : decode m_MO_passBraces.2.1 131 = .ok (.ireturn, 1) := by decide +kernel
theorem d_MO_passBraces_132 : decode m_MO_passBraces.2.1 132 = .ok (.iinc 2 1, 3) := by decide +kernel
theorem d_MO_passBraces_135 : decode m_MO_passBraces.2.1 135 = .ok (.aload_n 0, 1) := by decide +kernel
theorem d_MO_passBraces_136 : decode m_MO_passBraces.2.1 136 = .ok (.iload_n 2, 1) := by decide +kernel
theorem d_MO_passBraces_137 : decode m_MO_passBraces.2.1 137 = .ok (.invokevirtual 90, 3) := by decide +kernel
theorem d_MO_passBraces_140 : decode m_MO_passBraces.2.1 140 = .ok (.bipush 125, 2) := by decide +kernel
theorem d_MO_passBraces_142 : decode m_MO_passBraces.2.1 142 = .ok (.if_icmp .eq 7, 3) := by decide +kernel
theorem d_MO_passBraces_145 : decode m_MO_passBraces.2.1 145 = .ok (.iconst (-1), 1) := by decide +kernel
theorem d_MO_passBraces_146 : decode m_MO_passBraces.2.1 146 = .ok (.iload_n 2, 1) := by decide +kernel
theorem d_MO_passBraces_147 : decode m_MO_passBraces.2.1 147 = .ok (.isub, 1) := by decide +kernel
theorem d_MO_passBraces_148 : decode m_MO_passBraces.2.1 148 = .ok (.ireturn, 1) := by decide +kernel
theorem d_MO_passBraces_149 : decode m_MO_passBraces.2.1 149 = .ok (.aload_n 0, 1) := by decide +kernel
theorem d_MO_passBraces_150 : decode m_MO_passBraces.2.1 150 = .ok (.iload 4, 2) := by decide +kernel
theorem d_MO_passBraces_152 : decode m_MO_passBraces.2.1 152 = .ok (.iconst 2, 1) := by decide +kernel
theorem d_MO_passBraces_153 : decode m_MO_passBraces.2.1 153 = .ok (.iload 4, 2) := by decide +kernel
theorem d_MO_passBraces_155 : decode m_MO_passBraces.2.1 155 = .ok (.iload_n 3, 1) := by decide +kernel
theorem d_MO_passBraces_156 : decode m_MO_passBraces.2.1 156 = .ok (.isub, 1) := by decide +kernel
theorem d_MO_passBraces_157 : decode m_MO_passBraces.2.1 157 = .ok (.imul, 1) := by decide +kernel
theorem d_MO_passBraces_158 : decode m_MO_passBraces.2.1 158 = .ok (.iload_n 3, 1) := by decide +kernel
theorem d_MO_passBraces_159 : decode m_MO_passBraces.2.1 159 = .ok (.ifCond .ne 7, 3) := by decide +kernel
theorem d_MO_passBraces_162 : decode m_MO_passBraces.2.1 162 = .ok (.iconst 1, 1) := by decide +kernel
theorem d_MO_passBraces_163 : decode m_MO_passBraces.2.1 163 = .ok (.goto 4, 3) := by decide +kernel
theorem d_MO_passBraces_166 : decode m_MO_passBraces.2.1 166 = .ok (.iconst 0, 1) := by decide +kernel
theorem d_MO_passBraces_167 : decode m_MO_passBraces.2.1 167 = .ok (.iconst 0, 1) := by decide +kernel
theorem d_MO_passBraces_168 : decode m_MO_passBraces.2.1 168 = .ok (.invokevirtual 97, 3) := by decide +kernel
theorem d_MO_passBraces_171 : decode m_MO_passBraces.2.1 171 = .ok (.iload_n 2, 1) := by decide +kernel
theorem d_MO_passBraces_172 : decode m_MO_passBraces.2.1 172 = .ok (.iconst 1, 1) := by decide +kernel
theorem d_MO_passBraces_173 : decode m_MO_passBraces.2.1 173 = .ok (.iadd, 1) := by decide +kernel
theorem d_MO_passBraces_174 : decode m_MO_passBraces.2.1 174 = .ok (.ireturn, 1) := by decide +kernel
theorem d_MO_repeat_0 : decode m_MO_repeat.2.1 0 = .ok (.iload 4, 2) := by decide +kernel
theorem d_MO_repeat_2 : decode m_MO_repeat.2.1 2 = .ok (.ifCond .eq 15, 3) := by decide +kernel
theorem d_MO_repeat_5 : decode m_MO_repeat.2.1 5 = .ok (.aload_n 0, 1) := by decide +kernel
theorem d_MO_repeat_6 : decode m_MO_repeat.2.1 6 = .ok (.getfield 83, 3) := by decide +kernel
theorem d_MO_repeat_9 : decode m_MO_repeat.2.1 9 = .ok (.ifCond .eq 8, 3) := by decide +kernel
theorem d_MO_repeat_12 : decode m_MO_repeat.2.1 12 = .ok (.aload_n 0, 1) := by decide +kernel
theorem d_MO_repeat_13 : decode m_MO_repeat.2.1 13 = .ok (.iconst 1, 1) := by decide +kernel
theorem d_MO_repeat_14 : decode m_MO_repeat.2.1 14 = .ok (.putfield 87, 3) := by decide +kernel
theorem d_MO_repeat_17 : decode m_MO_repeat.2.1 17 = .ok (.aload_n 0, 1) := by decide +kernel
theorem d_MO_repeat_18 : decode m_MO_repeat.2.1 18 = .ok (.aload_n 0, 1) := by decide +kernel
theorem d_MO_repeat_19 : decode m_MO_repeat.2.1 19 = .ok (.getfield 76, 3) := by decide +kernel
theorem d_MO_repeat_22 : decode m_MO_repeat.2.1 22 = .ok (.iload_n 1, 1) := by decide +kernel
theorem d_MO_repeat_23 : decode m_MO_repeat.2.1 23 = .ok (.imul, 1) := by decide +kernel
theorem d_MO_repeat_24 : decode m_MO_repeat.2.1 24 = .ok (.iload_n 2, 1) := by decide +kernel
theorem d_MO_repeat_25 : decode m_MO_repeat.2.1 25 = .ok (.iadd, 1) := by decide +kernel
theorem d_MO_repeat_26 : decode m_MO_repeat.2.1 26 = .ok (.invokestatic 79, 3) := by decide +kernel
theorem d_MO_repeat_29 : decode m_MO_repeat.2.1 29 = .ok (.putfield 76, 3) := by decide +kernel
theorem d_MO_repeat_32 : decode m_MO_repeat.2.1 32 = .ok (.aload_n 0, 1) := by decide +kernel
theorem d_MO_repeat_33 : decode m_MO_repeat.2.1 33 = .ok (.dup, 1) := by decide +kernel
theorem d_MO_repeat_34 : decode m_MO_repeat.2.1 34 = .ok (.getfield 83, 3) := by decide +kernel
theorem d_MO_repeat_37 : decode m_MO_repeat.2.1 37 = .ok (.iload_n 3, 1) := by decide +kernel
theorem d_MO_repeat_38 : decode m_MO_repeat.2.1 38 = .ok (.ior, 1) := by decide +kernel
theorem d_MO_repeat_39 : decode m_MO_repeat.2.1 39 = .ok (.putfield 83, 3) := by decide +kernel
theorem d_MO_repeat_42 : decode m_MO_repeat.2.1 42 = .ok (.return_, 1) := by decide +kernel
theorem d_MO_least_0 : decode m_MO_least.2.1 0 = .ok (.iload_n 0, 1) := by decide +kernel
theorem d_MO_least_1 : decode m_MO_least.2.1 1 = .ok (.sipush 1000, 3) := by decide +kernel
theorem d_MO_least_4 : decode m_MO_least.2.1 4 = .ok (.if_icmp .le 9, 3) := by decide +kernel
theorem d_MO_least_7 : decode m_MO_least.2.1 7 = .ok (.sipush 1000, 3) := by decide +kernel
theorem d_MO_least_10 : decode m_MO_least.2.1 10 = .ok (.goto 4, 3) := by decide +kernel
theorem d_MO_least_13 : decode m_MO_least.2.1 13 = .ok (.iload_n 0, 1) := by decide +kernel
theorem d_MO_least_14 : decode m_MO_least.2.1 14 = .ok (.ireturn, 1) := by decide +kernel
theorem d_MO_closePiece_0 : decode m_MO_closePiece.2.1 0 = .ok (.aload_n 0, 1) := by decide +kernel
theorem d_MO_closePiece_1 : decode m_MO_closePiece.2.1 1 = .ok (.getfield 25, 3) := by decide +kernel
theorem d_MO_closePiece_4 : decode m_MO_closePiece.2.1 4 = .ok (.iload_n 1, 1) := by decide +kernel
theorem d_MO_closePiece_5 : decode m_MO_closePiece.2.1 5 = .ok (.aload_n 0, 1) := by decide +kernel
theorem d_MO_closePiece_6 : decode m_MO_closePiece.2.1 6 = .ok (.getfield 25, 3) := by decide +kernel
theorem d_MO_closePiece_9 : decode m_MO_closePiece.2.1 9 = .ok (.iload_n 1, 1) := by decide +kernel
theorem d_MO_closePiece_10 : decode m_MO_closePiece.2.1 10 = .ok (.iaload, 1) := by decide +kernel
theorem d_MO_closePiece_11 : decode m_MO_closePiece.2.1 11 = .ok (.aload_n 0, 1) := by decide +kernel
theorem d_MO_closePiece_12 : decode m_MO_closePiece.2.1 12 = .ok (.getfield 76, 3) := by decide +kernel
theorem d_MO_closePiece_15 : decode m_MO_closePiece.2.1 15 = .ok (.iadd, 1) := by decide +kernel
theorem d_MO_closePiece_16 : decode m_MO_closePiece.2.1 16 = .ok (.invokestatic 79, 3) := by decide +kernel
theorem d_MO_closePiece_19 : decode m_MO_closePiece.2.1 19 = .ok (.iastore, 1) := by decide +kernel
theorem d_MO_closePiece_20 : decode m_MO_closePiece.2.1 20 = .ok (.aload_n 0, 1) := by decide +kernel
theorem d_MO_closePiece_21 : decode m_MO_closePiece.2.1 21 = .ok (.getfield 28, 3) := by decide +kernel
theorem d_MO_closePiece_24 : decode m_MO_closePiece.2.1 24 = .ok (.iload_n 1, 1) := by decide +kernel
theorem d_MO_closePiece_25 : decode m_MO_closePiece.2.1 25 = .ok (.dup2, 1) := by decide +kernel
theorem d_MO_closePiece_26 : decode m_MO_closePiece.2.1 26 = .ok (.baload, 1) := by decide +kernel
theorem d_MO_closePiece_27 : decode m_MO_closePiece.2.1 27 = .ok (.aload_n 0, 1) := by decide +kernel
theorem d_MO_closePiece_28 : decode m_MO_closePiece.2.1 28 = .ok (.getfield 83, 3) := by decide +kernel
theorem d_MO_closePiece_31 : decode m_MO_closePiece.2.1 31 = .ok (.iand, 1) := by decide +kernel
theorem d_MO_closePiece_32 : decode m_MO_closePiece.2.1 32 = .ok (.bastore, 1) := by decide +kernel
theorem d_MO_closePiece_33 : decode m_MO_closePiece.2.1 33 = .ok (.aload_n 0, 1) := by decide +kernel
theorem d_MO_closePiece_34 : decode m_MO_closePiece.2.1 34 = .ok (.iconst 0, 1) := by decide +kernel
theorem d_MO_closePiece_35 : decode m_MO_closePiece.2.1 35 = .ok (.putfield 76, 3) := by decide +kernel
theorem d_MO_closePiece_38 : decode m_MO_closePiece.2.1 38 = .ok (.aload_n 0, 1) := by decide +kernel
theorem d_MO_closePiece_39 : decode m_MO_closePiece.2.1 39 = .ok (.iconst 1, 1) := by decide +kernel
theorem d_MO_closePiece_40 : decode m_MO_closePiece.2.1 40 = .ok (.putfield 83, 3) := by decide +kernel
theorem d_MO_closePiece_43 : decode m_MO_closePiece.2.1 43 = .ok (.return_, 1) := by decide +kernel
theorem d_MO_plain_0 : decode m_MO_plain.2.1 0 = .ok (.iload_n 0, 1) := by decide +kernel
theorem d_MO_plain_1 : decode m_MO_plain.2.1 1 = .ok (.bipush 46, 2) := by decide +kernel
theorem d_MO_plain_3 : decode m_MO_plain.2.1 3 = .ok (.bipush 91, 2) := by decide +kernel
theorem d_MO_plain_5 : decode m_MO_plain.2.1 5 = .ok (.bipush 93, 2) := by decide +kernel
theorem d_MO_plain_7 : decode m_MO_plain.2.1 7 = .ok (.bipush 94, 2) := by decide +kernel
theorem d_MO_plain_9 : decode m_MO_plain.2.1 9 = .ok (.invokestatic 68, 3) := by decide +kernel
theorem d_MO_plain_12 : decode m_MO_plain.2.1 12 = .ok (.ifCond .ne 33, 3) := by decide +kernel
theorem d_MO_plain_15 : decode m_MO_plain.2.1 15 = .ok (.iload_n 0, 1) := by decide +kernel
theorem d_MO_plain_16 : decode m_MO_plain.2.1 16 = .ok (.bipush 36, 2) := by decide +kernel
theorem d_MO_plain_18 : decode m_MO_plain.2.1 18 = .ok (.bipush 124, 2) := by decide +kernel
theorem d_MO_plain_20 : decode m_MO_plain.2.1 20 = .ok (.bipush 40, 2) := by decide +kernel
theorem d_MO_plain_22 : decode m_MO_plain.2.1 22 = .ok (.bipush 41, 2) := by decide +kernel
theorem d_MO_plain_24 : decode m_MO_plain.2.1 24 = .ok (.invokestatic 68, 3) := by decide +kernel
theorem d_MO_plain_27 : decode m_MO_plain.2.1 27 = .ok (.ifCond .ne 18, 3) := by decide +kernel
theorem d_MO_plain_30 : decode m_MO_plain.2.1 30 = .ok (.iload_n 0, 1) := by decide +kernel
theorem d_MO_plain_31 : decode m_MO_plain.2.1 31 = .ok (.bipush 42, 2) := by decide +kernel
theorem d_MO_plain_33 : decode m_MO_plain.2.1 33 = .ok (.bipush 43, 2) := by decide +kernel
theorem d_MO_plain_35 : decode m_MO_plain.2.1 35 = .ok (.bipush 63, 2) := by decide +kernel
theorem d_MO_plain_37 : decode m_MO_plain.2.1 37 = .ok (.bipush 123, 2) := by decide +kernel
theorem d_MO_plain_39 : decode m_MO_plain.2.1 39 = .ok (.invokestatic 68, 3) := by decide +kernel
theorem d_MO_plain_42 : decode m_MO_plain.2.1 42 = .ok (.ifCond .eq 7, 3) := by decide +kernel
theorem d_MO_plain_45 : decode m_MO_plain.2.1 45 = .ok (.iconst 1, 1) := by decide +kernel
theorem d_MO_plain_46 : decode m_MO_plain.2.1 46 = .ok (.goto 4, 3) := by decide +kernel
theorem d_MO_plain_49 : decode m_MO_plain.2.1 49 = .ok (.iconst 0, 1) := by decide +kernel
theorem d_MO_plain_50 : decode m_MO_plain.2.1 50 = .ok (.istore_n 1, 1) := by decide +kernel
theorem d_MO_plain_51 : decode m_MO_plain.2.1 51 = .ok (.iload_n 1, 1) := by decide +kernel
theorem d_MO_plain_52 : decode m_MO_plain.2.1 52 = .ok (.ifCond .ne 13, 3) := by decide +kernel
theorem d_MO_plain_55 : decode m_MO_plain.2.1 55 = .ok (.iload_n 0, 1) := by decide +kernel
theorem d_MO_plain_56 : decode m_MO_plain.2.1 56 = .ok (.bipush 125, 2) := by decide +kernel
theorem d_MO_plain_58 : decode m_MO_plain.2.1 58 = .ok (.if_icmp .eq 7, 3) := by decide +kernel
theorem d_MO_plain_61 : decode m_MO_plain.2.1 61 = .ok (.iconst 1, 1) := by decide +kernel
theorem d_MO_plain_62 : decode m_MO_plain.2.1 62 = .ok (.goto 4, 3) := by decide +kernel
theorem d_MO_plain_65 : decode m_MO_plain.2.1 65 = .ok (.iconst 0, 1) := by decide +kernel
theorem d_MO_plain_66 : decode m_MO_plain.2.1 66 = .ok (.ireturn, 1) := by decide +kernel
theorem d_MO_passClass_0 : decode m_MO_passClass.2.1 0 = .ok (.iload_n 1, 1) := by decide +kernel
theorem d_MO_passClass_1 : decode m_MO_passClass.2.1 1 = .ok (.iconst 1, 1) := by decide +kernel
theorem d_MO_passClass_2 : decode m_MO_passClass.2.1 2 = .ok (.iadd, 1) := by decide +kernel
theorem d_MO_passClass_3 : decode m_MO_passClass.2.1 3 = .ok (.istore_n 2, 1) := by decide +kernel
theorem d_MO_passClass_4 : decode m_MO_passClass.2.1 4 = .ok (.aload_n 0, 1) := by decide +kernel
theorem d_MO_passClass_5 : decode m_MO_passClass.2.1 5 = .ok (.iload_n 2, 1) := by decide +kernel
theorem d_MO_passClass_6 : decode m_MO_passClass.2.1 6 = .ok (.invokevirtual 90, 3) := by decide +kernel
theorem d_MO_passClass_9 : decode m_MO_passClass.2.1 9 = .ok (.bipush 94, 2) := by decide +kernel
theorem d_MO_passClass_11 : decode m_MO_passClass.2.1 11 = .ok (.if_icmp .ne 6, 3) := by decide +kernel
theorem d_MO_passClass_14 : decode m_MO_passClass.2.1 14 = .ok (.iinc 2 1, 3) := by decide +kernel
theorem d_MO_passClass_17 : decode m_MO_passClass.2.1 17 = .ok (.iconst 0, 1) := by decide +kernel
theorem d_MO_passClass_18 : decode m_MO_passClass.2.1 18 = .ok (.istore_n 3, 1) := by decide +kernel
theorem d_MO_passClass_19 : decode m_MO_passClass.2.1 19 = .ok (.iload_n 2, 1) := by decide +kernel
theorem d_MO_passClass_20 : decode m_MO_passClass.2.1 20 = .ok (.aload_n 0, 1) := by decide +kernel
theorem d_MO_passClass_21 : decode m_MO_passClass.2.1 21 = .ok (.getfield 72, 3) := by decide +kernel
theorem d_MO_passClass_24 : decode m_MO_passClass.2.1 24 = .ok (.if_icmp .ge 103, 3) := by decide +kernel
theorem d_MO_passClass_27 : decode m_MO_passClass.2.1 27 = .ok (.aload_n 0, 1) := by decide +kernel
theorem d_MO_passClass_28 : decode m_MO_passClass.2.1 28 = .ok (.iload_n 2, 1) := by decide +kernel
theorem d_MO_passClass_29 : decode m_MO_passClass.2.1 29 = .ok (.invokevirtual 90, 3) := by decide +kernel
theorem d_MO_passClass_32 : decode m_MO_passClass.2.1 32 = .ok (.bipush 93, 2) := by decide +kernel
theorem d_MO_passClass_34 : decode m_MO_passClass.2.1 34 = .ok (.if_icmp .eq 93, 3) := by decide +kernel
theorem d_MO_passClass_37 : decode m_MO_passClass.2.1 37 = .ok (.aload_n 0, 1) := by decide +kernel
theorem d_MO_passClass_38 : decode m_MO_passClass.2.1 38 = .ok (.iload_n 2, 1) := by decide +kernel
theorem d_MO_passClass_39 : decode m_MO_passClass.2.1 39 = .ok (.invokevirtual 90, 3) := by decide +kernel
theorem d_MO_passClass_42 : decode m_MO_passClass.2.1 42 = .ok (.invokestatic 93, 3) := by decide +kernel
theorem d_MO_passClass_45 : decode m_MO_passClass.2.1 45 = .ok (.ifCond .ne 7, 3) := by decide +kernel
theorem d_MO_passClass_48 : decode m_MO_passClass.2.1 48 = .ok (.iconst (-1), 1) := by decide +kernel
theorem d_MO_passClass_49 : decode m_MO_passClass.2.1 49 = .ok (.iload_n 2, 1) := by decide +kernel
theorem d_MO_passClass_50 : decode m_MO_passClass.2.1 50 = .ok (.isub, 1) := by decide +kernel
theorem d_MO_passClass_51 : decode m_MO_passClass.2.1 51 = .ok (.ireturn, 1) := by decide +kernel
theorem d_MO_passClass_52 : decode m_MO_passClass.2.1 52 = .ok (.iinc 3 1, 3) := by decide +kernel
theorem d_MO_passClass_55 : decode m_MO_passClass.2.1 55 = .ok (.aload_n 0, 1) := by decide +kernel
theorem d_MO_passClass_56 : decode m_MO_passClass.2.1 56 = .ok (.iload_n 2, 1) := by decide +kernel
theorem d_MO_passClass_57 : decode m_MO_passClass.2.1 57 = .ok (.iconst 1, 1) := by decide +kernel
theorem d_MO_passClass_58 : decode m_MO_passClass.2.1 58 = .ok (.iadd, 1) := by decide +kernel
theorem d_MO_passClass_59 : decode m_MO_passClass.2.1 59 = .ok (.invokevirtual 90, 3) := by decide +kernel
theorem d_MO_passClass_62 : decode m_MO_passClass.2.1 62 = .ok (.bipush 45, 2) := by decide +kernel
theorem d_MO_passClass_64 : decode m_MO_passClass.2.1 64 = .ok (.if_icmp .ne 57, 3) := by decide +kernel
theorem d_MO_passClass_67 : decode m_MO_passClass.2.1 67 = .ok (.iload_n 2, 1) := by decide +kernel
theorem d_MO_passClass_68 : decode m_MO_passClass.2.1 68 = .ok (.iconst 2, 1) := by decide +kernel
theorem d_MO_passClass_69 : decode m_MO_passClass.2.1 69 = .ok (.iadd, 1) := by decide +kernel
theorem d_MO_passClass_70 : decode m_MO_passClass.2.1 70 = .ok (.aload_n 0, 1) := by decide +kernel
theorem d_MO_passClass_71 : decode m_MO_passClass.2.1 71 = .ok (.getfield 72, 3) := by decide +kernel
theorem d_MO_passClass_74 : decode m_MO_passClass.2.1 74 = .ok (.if_icmp .lt 10, 3) := by decide +kernel
theorem d_MO_passClass_77 : decode m_MO_passClass.2.1 77 = .ok (.iconst (-1), 1) := by decide +kernel
theorem d_MO_passClass_78 : decode m_MO_passClass.2.1 78 = .ok (.aload_n 0, 1) := by decide +kernel
theorem d_MO_passClass_79 : decode m_MO_passClass.2.1 79 = .ok (.getfield 72, 3) := by decide +kernel
theorem d_MO_passClass_82 : decode m_MO_passClass.2.1 82 = .ok (.isub, 1) := by decide +kernel
theorem d_MO_passClass_83 : decode m_MO_passClass.2.1 83 = .ok (.ireturn, 1) := by decide +kernel
theorem d_MO_passClass_84 : decode m_MO_passClass.2.1 84 = .ok (.aload_n 0, 1) := by decide +kernel
theorem d_MO_passClass_85 : decode m_MO_passClass.2.1 85 = .ok (.iload_n 2, 1) := by decide +kernel
theorem d_MO_passClass_86 : decode m_MO_passClass.2.1 86 = .ok (.iconst 2, 1) := by decide +kernel
theorem d_MO_passClass_87 : decode m_MO_passClass.2.1 87 = .ok (.iadd, 1) := by decide +kernel
theorem d_MO_passClass_88 : decode m_MO_passClass.2.1 88 = .ok (.invokevirtual 90, 3) := by decide +kernel
theorem d_MO_passClass_91 : decode m_MO_passClass.2.1 91 = .ok (.invokestatic 93, 3) := by decide +kernel
theorem d_MO_passClass_94 : decode m_MO_passClass.2.1 94 = .ok (.ifCond .eq 18, 3) := by decide +kernel
theorem d_MO_passClass_97 : decode m_MO_passClass.2.1 97 = .ok (.aload_n 0, 1) := by decide +kernel
theorem d_MO_passClass_98 : decode m_MO_passClass.2.1 98 = .ok (.iload_n 2, 1) := by decide +kernel
theorem d_MO_passClass_99 : decode m_MO_passClass.2.1 99 = .ok (.iconst 2, 1) := by decide +kernel
theorem d_MO_passClass_100 : decode m_MO_passClass.2.1 100 = .ok (.iadd, 1) := by decide +kernel
theorem d_MO_passClass_101 : decode m_MO_passClass.2.1 101 = .ok (.invokevirtual 90, 3) := by decide +kernel
theorem d_MO_passClass_104 : decode m_MO_passClass.2.1 104 = .ok (.aload_n 0, 1) := by decide +kernel
theorem d_MO_passClass_105 : decode m_MO_passClass.2.1 105 = .ok (.iload_n 2, 1) := by decide +kernel
theorem d_MO_passClass_106 : decode m_MO_passClass.2.1 106 = .ok (.invokevirtual 90, 3) := by decide +kernel
theorem d_MO_passClass_109 : decode m_MO_passClass.2.1 109 = .ok (.if_icmp .ge 9, 3) := by decide +kernel
theorem d_MO_passClass_112 : decode m_MO_passClass.2.1 112 = .ok (.iconst (-1), 1) := by decide +kernel
theorem d_MO_passClass_113 : decode m_MO_passClass.2.1 113 = .ok (.iload_n 2, 1) := by decide +kernel
theorem d_MO_passClass_114 : decode m_MO_passClass.2.1 114 = .ok (.iconst 2, 1) := by decide +kernel
theorem d_MO_passClass_115 : decode m_MO_passClass.2.1 115 = .ok (.iadd, 1) := by decide +kernel
theorem d_MO_passClass_116 : decode m_MO_passClass.2.1 116 = .ok (.isub, 1) := by decide +kernel
theorem d_MO_passClass_117 : decode m_MO_passClass.2.1 117 = .ok (.ireturn, 1) := by decide +kernel
theorem d_MO_passClass_118 : decode m_MO_passClass.2.1 118 = .ok (.iinc 2 2, 3) := by decide +kernel
theorem d_MO_passClass_121 : decode m_MO_passClass.2.1 121 = .ok (.iinc 2 1, 3) := by decide +kernel
theorem d_MO_passClass_124 : decode m_MO_passClass.2.1 124 = .ok (.goto (-105), 3) := by decide +kernel
theorem d_MO_passClass_127 : decode m_MO_passClass.2.1 127 = .ok (.iload_n 2, 1) := by decide +kernel
theorem d_MO_passClass_128 : decode m_MO_passClass.2.1 128 = .ok (.aload_n 0, 1) := by decide +kernel
theorem d_MO_passClass_129 : decode m_MO_passClass.2.1 129 = .ok (.getfield 72, 3) := by decide +kernel
theorem d_MO_passClass_132 : decode m_MO_passClass.2.1 132 = .ok (.if_icmp .lt 12, 3) := by decide +kernel
theorem d_MO_passClass_135 : decode m_MO_passClass.2.1 135 = .ok (.iconst (-1), 1) := by decide +kernel
theorem d_MO_passClass_136 : decode m_MO_passClass.2.1 136 = .ok (.aload_n 0, 1) := by decide +kernel
theorem d_MO_passClass_137 : decode m_MO_passClass.2.1 137 = .ok (.getfield 72, 3) := by decide +kernel
theorem d_MO_passClass_140 : decode m_MO_passClass.2.1 140 = .ok (.isub, 1) := by decide +kernel
theorem d_MO_passClass_141 : decode m_MO_passClass.2.1 141 = .ok (.goto 16, 3) := by decide +kernel
theorem d_MO_passClass_144 : decode m_MO_passClass.2.1 144 = .ok (.iload_n 3, 1) := by decide +kernel
theorem d_MO_passClass_145 : decode m_MO_passClass.2.1 145 = .ok (.ifCond .ne 9, 3) := by decide +kernel
theorem d_MO_passClass_148 : decode m_MO_passClass.2.1 148 = .ok (.iconst (-1), 1) := by decide +kernel
theorem d_MO_passClass_149 : decode m_MO_passClass.2.1 149 = .ok (.iload_n 2, 1) := by decide +kernel
theorem d_MO_passClass_150 : decode m_MO_passClass.2.1 150 = .ok (.isub, 1) := by decide +kernel
theorem d_MO_passClass_151 : decode m_MO_passClass.2.1 151 = .ok (.goto 6, 3) := by decide +kernel
theorem d_MO_passClass_154 : decode m_MO_passClass.2.1 154 = .ok (.iload_n 2, 1) := by decide +kernel
theorem d_MO_passClass_155 : decode m_MO_passClass.2.1 155 = .ok (.iconst 1, 1) := by decide +kernel
theorem d_MO_passClass_156 : decode m_MO_passClass.2.1 156 = .ok (.iadd, 1) := by decide +kernel
theorem d_MO_passClass_157 : decode m_MO_passClass.2.1 157 = .ok (.ireturn, 1) := by decide +kernel
theorem d_MO_inClass_0 : decode m_MO_inClass.2.1 0 = .ok (.iload_n 0, 1) := by decide +kernel
theorem d_MO_inClass_1 : decode m_MO_inClass.2.1 1 = .ok (.bipush 91, 2) := by decide +kernel
theorem d_MO_inClass_3 : decode m_MO_inClass.2.1 3 = .ok (.bipush 93, 2) := by decide +kernel
theorem d_MO_inClass_5 : decode m_MO_inClass.2.1 5 = .ok (.bipush 94, 2) := by decide +kernel
theorem d_MO_inClass_7 : decode m_MO_inClass.2.1 7 = .ok (.bipush 45, 2) := by decide +kernel
theorem d_MO_inClass_9 : decode m_MO_inClass.2.1 9 = .ok (.invokestatic 68, 3) := by decide +kernel
theorem d_MO_inClass_12 : decode m_MO_inClass.2.1 12 = .ok (.ifCond .ne 7, 3) := by decide +kernel
theorem d_MO_inClass_15 : decode m_MO_inClass.2.1 15 = .ok (.iconst 1, 1) := by decide +kernel
theorem d_MO_inClass_16 : decode m_MO_inClass.2.1 16 = .ok (.goto 4, 3) := by decide +kernel
theorem d_MO_inClass_19 : decode m_MO_inClass.2.1 19 = .ok (.iconst 0, 1) := by decide +kernel
theorem d_MO_inClass_20 : decode m_MO_inClass.2.1 20 = .ok (.ireturn, 1) := by decide +kernel
theorem d_MO_write_0 : decode m_MO_write.2.1 0 = .ok (.aload_n 0, 1) := by decide +kernel
theorem d_MO_write_1 : decode m_MO_write.2.1 1 = .ok (.iconst 0, 1) := by decide +kernel
theorem d_MO_write_2 : decode m_MO_write.2.1 2 = .ok (.putfield 126, 3) := by decide +kernel
theorem d_MO_write_5 : decode m_MO_write.2.1 5 = .ok (.aload_n 0, 1) := by decide +kernel
theorem d_MO_write_6 : decode m_MO_write.2.1 6 = .ok (.iconst 0, 1) := by decide +kernel
theorem d_MO_write_7 : decode m_MO_write.2.1 7 = .ok (.putfield 133, 3) := by decide +kernel
theorem d_MO_write_10 : decode m_MO_write.2.1 10 = .ok (.iconst 0, 1) := by decide +kernel
theorem d_MO_write_11 : decode m_MO_write.2.1 11 = .ok (.istore_n 1, 1) := by decide +kernel
theorem d_MO_write_12 : decode m_MO_write.2.1 12 = .ok (.iconst 0, 1) := by decide +kernel
theorem d_MO_write_13 : decode m_MO_write.2.1 13 = .ok (.istore_n 2, 1) := by decide +kernel
theorem d_MO_write_14 : decode m_MO_write.2.1 14 = .ok (.iconst 0, 1) := by decide +kernel
theorem d_MO_write_15 : decode m_MO_write.2.1 15 = .ok (.istore_n 3, 1) := by decide +kernel
theorem d_MO_write_16 : decode m_MO_write.2.1 16 = .ok (.aload_n 0, 1) := by decide +kernel
theorem d_MO_write_17 : decode m_MO_write.2.1 17 = .ok (.iconst 0, 1) := by decide +kernel
theorem d_MO_write_18 : decode m_MO_write.2.1 18 = .ok (.iconst 0, 1) := by decide +kernel
theorem d_MO_write_19 : decode m_MO_write.2.1 19 = .ok (.invokevirtual 147, 3) := by decide +kernel
theorem d_MO_write_22 : decode m_MO_write.2.1 22 = .ok (.iconst 0, 1) := by decide +kernel
theorem d_MO_write_23 : decode m_MO_write.2.1 23 = .ok (.istore 4, 2) := by decide +kernel
theorem d_MO_write_25 : decode m_MO_write.2.1 25 = .ok (.iload 4, 2) := by decide +kernel
theorem d_MO_write_27 : decode m_MO_write.2.1 27 = .ok (.aload_n 0, 1) := by decide +kernel
theorem d_MO_write_28 : decode m_MO_write.2.1 28 = .ok (.getfield 72, 3) := by decide +kernel
theorem d_MO_write_31 : decode m_MO_write.2.1 31 = .ok (.if_icmp .ge 200, 3) := by decide +kernel
theorem d_MO_write_34 : decode m_MO_write.2.1 34 = .ok (.aload_n 0, 1) := by decide +kernel
theorem d_MO_write_35 : decode m_MO_write.2.1 35 = .ok (.iload 4, 2) := by decide +kernel
theorem d_MO_write_37 : decode m_MO_write.2.1 37 = .ok (.invokevirtual 90, 3) := by decide +kernel
theorem d_MO_write_40 : decode m_MO_write.2.1 40 = .ok (.istore 5, 2) := by decide +kernel
theorem d_MO_write_42 : decode m_MO_write.2.1 42 = .ok (.iload 5, 2) := by decide +kernel
theorem d_MO_write_44 : decode m_MO_write.2.1 44 = .ok (.bipush 42, 2) := by decide +kernel
theorem d_MO_write_46 : decode m_MO_write.2.1 46 = .ok (.bipush 43, 2) := by decide +kernel
theorem d_MO_write_48 : decode m_MO_write.2.1 48 = .ok (.bipush 63, 2) := by decide +kernel
theorem d_MO_write_50 : decode m_MO_write.2.1 50 = .ok (.bipush 123, 2) := by decide +kernel
theorem d_MO_write_52 : decode m_MO_write.2.1 52 = .ok (.invokestatic 68, 3) := by decide +kernel
theorem d_MO_write_55 : decode m_MO_write.2.1 55 = .ok (.ifCond .eq 15, 3) := by decide +kernel
theorem d_MO_write_58 : decode m_MO_write.2.1 58 = .ok (.aload_n 0, 1) := by decide +kernel
theorem d_MO_write_59 : decode m_MO_write.2.1 59 = .ok (.iload 4, 2) := by decide +kernel
theorem d_MO_write_61 : decode m_MO_write.2.1 61 = .ok (.iload_n 3, 1) := by decide +kernel
theorem d_MO_write_62 : decode m_MO_write.2.1 62 = .ok (.invokevirtual 150, 3) := by decide +kernel
theorem d_MO_write_65 : decode m_MO_write.2.1 65 = .ok (.istore 4, 2) := by decide +kernel
theorem d_MO_write_67 : decode m_MO_write.2.1 67 = .ok (.goto 161, 3) := by decide +kernel
theorem d_MO_write_70 : decode m_MO_write.2.1 70 = .ok (.iload 5, 2) := by decide +kernel
theorem d_MO_write_72 : decode m_MO_write.2.1 72 = .ok (.bipush 124, 2) := by decide +kernel
theorem d_MO_write_74 : decode m_MO_write.2.1 74 = .ok (.if_icmp .ne 11, 3) := by decide +kernel
theorem d_MO_write_77 : decode m_MO_write.2.1 77 = .ok (.aload_n 0, 1) := by decide +kernel
theorem d_MO_write_78 : decode m_MO_write.2.1 78 = .ok (.iload_n 1, 1) := by decide +kernel
theorem d_MO_write_79 : decode m_MO_write.2.1 79 = .ok (.invokevirtual 154, 3) := by decide +kernel
theorem d_MO_write_82 : decode m_MO_write.2.1 82 = .ok (.goto 143, 3) := by decide +kernel
theorem d_MO_write_85 : decode m_MO_write.2.1 85 = .ok (.iload 5, 2) := by decide +kernel
theorem d_MO_write_87 : decode m_MO_write.2.1 87 = .ok (.bipush 40, 2) := by decide +kernel
theorem d_MO_write_89 : decode m_MO_write.2.1 89 = .ok (.if_icmp .ne 18, 3) := by decide +kernel
theorem d_MO_write_92 : decode m_MO_write.2.1 92 = .ok (.iinc 1 1, 3) := by decide +kernel
theorem d_MO_write_95 : decode m_MO_write.2.1 95 = .ok (.iinc 2 1, 3) := by decide +kernel
theorem d_MO_write_98 : decode m_MO_write.2.1 98 = .ok (.aload_n 0, 1) := by decide +kernel
theorem d_MO_write_99 : decode m_MO_write.2.1 99 = .ok (.iload_n 1, 1) := by decide +kernel
theorem d_MO_write_100 : decode m_MO_write.2.1 100 = .ok (.iload_n 2, 1) := by decide +kernel
theorem d_MO_write_101 : decode m_MO_write.2.1 101 = .ok (.invokevirtual 147, 3) := by decide +kernel
theorem d_MO_write_104 : decode m_MO_write.2.1 104 = .ok (.goto 121, 3) := by decide +kernel
theorem d_MO_write_107 : decode m_MO_write.2.1 107 = .ok (.iload 5, 2) := by decide +kernel
theorem d_MO_write_109 : decode m_MO_write.2.1 109 = .ok (.bipush 41, 2) := by decide +kernel
theorem d_MO_write_111 : decode m_MO_write.2.1 111 = .ok (.if_icmp .ne 21, 3) := by decide +kernel
theorem d_MO_write_114 : decode m_MO_write.2.1 114 = .ok (.aload_n 0, 1) := by decide +kernel
theorem d_MO_write_115 : decode m_MO_write.2.1 115 = .ok (.iload_n 1, 1) := by decide +kernel
theorem d_MO_write_116 : decode m_MO_write.2.1 116 = .ok (.invokevirtual 157, 3) := by decide +kernel
theorem d_MO_write_119 : decode m_MO_write.2.1 119 = .ok (.aload_n 0, 1) := by decide +kernel
theorem d_MO_write_120 : decode m_MO_write.2.1 120 = .ok (.getfield 44, 3) := by decide +kernel
theorem d_MO_write_123 : decode m_MO_write.2.1 123 = .ok (.iload_n 1, 1) := by decide +kernel
theorem d_MO_write_124 : decode m_MO_write.2.1 124 = .ok (.iaload, 1) := by decide +kernel
theorem d_MO_write_125 : decode m_MO_write.2.1 125 = .ok (.istore_n 3, 1) := by decide +kernel
theorem d_MO_write_126 : decode m_MO_write.2.1 126 = .ok (.iinc 1 (-1), 3) := by decide +kernel
theorem d_MO_write_129 : decode m_MO_write.2.1 129 = .ok (.goto 96, 3) := by decide +kernel
theorem d_MO_write_132 : decode m_MO_write.2.1 132 = .ok (.aload_n 0, 1) := by decide +kernel
theorem d_MO_write_133 : decode m_MO_write.2.1 133 = .ok (.getfield 126, 3) := by decide +kernel
theorem d_MO_write_136 : decode m_MO_write.2.1 136 = .ok (.istore_n 3, 1) := by decide +kernel
theorem d_MO_write_137 : decode m_MO_write.2.1 137 = .ok (.aload_n 0, 1) := by decide +kernel
theorem d_MO_write_138 : decode m_MO_write.2.1 138 = .ok (.iload 5, 2) := by decide +kernel
theorem d_MO_write_140 : decode m_MO_write.2.1 140 = .ok (.bipush 46, 2) := by decide +kernel
theorem d_MO_write_142 : decode m_MO_write.2.1 142 = .ok (.if_icmp .ne 7, 3) := by decide +kernel
theorem d_MO_write_145 : decode m_MO_write.2.1 145 = .ok (.iconst 1, 1) := by decide +kernel
theorem d_MO_write_146 : decode m_MO_write.2.1 146 = .ok (.goto 37, 3) := by decide +kernel
theorem d_MO_write_149 : decode m_MO_write.2.1 149 = .ok (.iload 5, 2) := by decide +kernel
theorem d_MO_write_151 : decode m_MO_write.2.1 151 = .ok (.bipush 91, 2) := by decide +kernel
theorem d_MO_write_153 : decode m_MO_write.2.1 153 = .ok (.if_icmp .ne 7, 3) := by decide +kernel
theorem d_MO_write_156 : decode m_MO_write.2.1 156 = .ok (.iconst 2, 1) := by decide +kernel
theorem d_MO_write_157 : decode m_MO_write.2.1 157 = .ok (.goto 26, 3) := by decide +kernel
theorem d_MO_write_160 : decode m_MO_write.2.1 160 = .ok (.iload 5, 2) := by decide +kernel
theorem d_MO_write_162 : decode m_MO_write.2.1 162 = .ok (.bipush 94, 2) := by decide +kernel
theorem d_MO_write_164 : decode m_MO_write.2.1 164 = .ok (.if_icmp .ne 7, 3) := by decide +kernel
theorem d_MO_write_167 : decode m_MO_write.2.1 167 = .ok (.iconst 3, 1) := by decide +kernel
theorem d_MO_write_168 : decode m_MO_write.2.1 168 = .ok (.goto 15, 3) := by decide +kernel
theorem d_MO_write_171 : decode m_MO_write.2.1 171 = .ok (.iload 5, 2) := by decide +kernel
theorem d_MO_write_173 : decode m_MO_write.2.1 173 = .ok (.bipush 36, 2) := by decide +kernel
theorem d_MO_write_175 : decode m_MO_write.2.1 175 = .ok (.if_icmp .ne 7, 3) := by decide +kernel
theorem d_MO_write_178 : decode m_MO_write.2.1 178 = .ok (.iconst 4, 1) := by decide +kernel
theorem d_MO_write_179 : decode m_MO_write.2.1 179 = .ok (.goto 4, 3) := by decide +kernel
theorem d_MO_write_182 : decode m_MO_write.2.1 182 = .ok (.iconst 0, 1) := by decide +kernel
theorem d_MO_write_183 : decode m_MO_write.2.1 183 = .ok (.iload 5, 2) := by decide +kernel
theorem d_MO_write_185 : decode m_MO_write.2.1 185 = .ok (.bipush 91, 2) := by decide +kernel
theorem d_MO_write_187 : decode m_MO_write.2.1 187 = .ok (.if_icmp .ne 8, 3) := by decide +kernel
theorem d_MO_write_190 : decode m_MO_write.2.1 190 = .ok (.iload 4, 2) := by decide +kernel
theorem d_MO_write_192 : decode m_MO_write.2.1 192 = .ok (.goto 5, 3) := by decide +kernel
theorem d_MO_write_195 : decode m_MO_write.2.1 195 = .ok (.iload 5, 2) := by decide +kernel
theorem d_MO_write_197 : decode m_MO_write.2.1 197 = .ok (.iconst 0, 1) := by decide +kernel
theorem d_MO_write_198 : decode m_MO_write.2.1 198 = .ok (.invokevirtual 129, 3) := by decide +kernel
theorem d_MO_write_201 : decode m_MO_write.2.1 201 = .ok (.iload 5, 2) := by decide +kernel
theorem d_MO_write_203 : decode m_MO_write.2.1 203 = .ok (.bipush 91, 2) := by decide +kernel
theorem d_MO_write_205 : decode m_MO_write.2.1 205 = .ok (.if_icmp .ne 20, 3) := by decide +kernel
theorem d_MO_write_208 : decode m_MO_write.2.1 208 = .ok (.aload_n 0, 1) := by decide +kernel
theorem d_MO_write_209 : decode m_MO_write.2.1 209 = .ok (.iload 4, 2) := by decide +kernel
theorem d_MO_write_211 : decode m_MO_write.2.1 211 = .ok (.invokevirtual 90, 3) := by decide +kernel
theorem d_MO_write_214 : decode m_MO_write.2.1 214 = .ok (.bipush 93, 2) := by decide +kernel
theorem d_MO_write_216 : decode m_MO_write.2.1 216 = .ok (.if_icmp .eq 9, 3) := by decide +kernel
theorem d_MO_write_219 : decode m_MO_write.2.1 219 = .ok (.iinc 4 1, 3) := by decide +kernel
theorem d_MO_write_222 : decode m_MO_write.2.1 222 = .ok (.goto (-14), 3) := by decide +kernel
theorem d_MO_write_225 : decode m_MO_write.2.1 225 = .ok (.iinc 4 1, 3) := by decide +kernel
theorem d_MO_write_228 : decode m_MO_write.2.1 228 = .ok (.goto (-203), 3) := by decide +kernel
theorem d_MO_write_231 : decode m_MO_write.2.1 231 = .ok (.aload_n 0, 1) := by decide +kernel
theorem d_MO_write_232 : decode m_MO_write.2.1 232 = .ok (.iconst 0, 1) := by decide +kernel
theorem d_MO_write_233 : decode m_MO_write.2.1 233 = .ok (.invokevirtual 157, 3) := by decide +kernel
theorem d_MO_write_236 : decode m_MO_write.2.1 236 = .ok (.aload_n 0, 1) := by decide +kernel
theorem d_MO_write_237 : decode m_MO_write.2.1 237 = .ok (.bipush 8, 2) := by decide +kernel
theorem d_MO_write_239 : decode m_MO_write.2.1 239 = .ok (.iconst 0, 1) := by decide +kernel
theorem d_MO_write_240 : decode m_MO_write.2.1 240 = .ok (.iconst 0, 1) := by decide +kernel
theorem d_MO_write_241 : decode m_MO_write.2.1 241 = .ok (.invokevirtual 129, 3) := by decide +kernel
theorem d_MO_write_244 : decode m_MO_write.2.1 244 = .ok (.return_, 1) := by decide +kernel
theorem d_MO_open_0 : decode m_MO_open.2.1 0 = .ok (.aload_n 0, 1) := by decide +kernel
theorem d_MO_open_1 : decode m_MO_open.2.1 1 = .ok (.getfield 50, 3) := by decide +kernel
theorem d_MO_open_4 : decode m_MO_open.2.1 4 = .ok (.iload_n 1, 1) := by decide +kernel
theorem d_MO_open_5 : decode m_MO_open.2.1 5 = .ok (.iload_n 2, 1) := by decide +kernel
theorem d_MO_open_6 : decode m_MO_open.2.1 6 = .ok (.iastore, 1) := by decide +kernel
theorem d_MO_open_7 : decode m_MO_open.2.1 7 = .ok (.aload_n 0, 1) := by decide +kernel
theorem d_MO_open_8 : decode m_MO_open.2.1 8 = .ok (.getfield 44, 3) := by decide +kernel
theorem d_MO_open_11 : decode m_MO_open.2.1 11 = .ok (.iload_n 1, 1) := by decide +kernel
theorem d_MO_open_12 : decode m_MO_open.2.1 12 = .ok (.aload_n 0, 1) := by decide +kernel
theorem d_MO_open_13 : decode m_MO_open.2.1 13 = .ok (.getfield 126, 3) := by decide +kernel
theorem d_MO_open_16 : decode m_MO_open.2.1 16 = .ok (.iastore, 1) := by decide +kernel
theorem d_MO_open_17 : decode m_MO_open.2.1 17 = .ok (.iload_n 2, 1) := by decide +kernel
theorem d_MO_open_18 : decode m_MO_open.2.1 18 = .ok (.ifCond .le 12, 3) := by decide +kernel
theorem d_MO_open_21 : decode m_MO_open.2.1 21 = .ok (.aload_n 0, 1) := by decide +kernel
theorem d_MO_open_22 : decode m_MO_open.2.1 22 = .ok (.iconst 5, 1) := by decide +kernel
theorem d_MO_open_23 : decode m_MO_open.2.1 23 = .ok (.iconst 2, 1) := by decide +kernel
theorem d_MO_open_24 : decode m_MO_open.2.1 24 = .ok (.iload_n 2, 1) := by decide +kernel
theorem d_MO_open_25 : decode m_MO_open.2.1 25 = .ok (.imul, 1) := by decide +kernel
theorem d_MO_open_26 : decode m_MO_open.2.1 26 = .ok (.iconst 0, 1) := by decide +kernel
theorem d_MO_open_27 : decode m_MO_open.2.1 27 = .ok (.invokevirtual 129, 3) := by decide +kernel
theorem d_MO_open_30 : decode m_MO_open.2.1 30 = .ok (.aload_n 0, 1) := by decide +kernel
theorem d_MO_open_31 : decode m_MO_open.2.1 31 = .ok (.getfield 47, 3) := by decide +kernel
theorem d_MO_open_34 : decode m_MO_open.2.1 34 = .ok (.iload_n 1, 1) := by decide +kernel
theorem d_MO_open_35 : decode m_MO_open.2.1 35 = .ok (.aload_n 0, 1) := by decide +kernel
theorem d_MO_open_36 : decode m_MO_open.2.1 36 = .ok (.getfield 126, 3) := by decide +kernel
theorem d_MO_open_39 : decode m_MO_open.2.1 39 = .ok (.iastore, 1) := by decide +kernel
theorem d_MO_open_40 : decode m_MO_open.2.1 40 = .ok (.aload_n 0, 1) := by decide +kernel
theorem d_MO_open_41 : decode m_MO_open.2.1 41 = .ok (.getfield 53, 3) := by decide +kernel
theorem d_MO_open_44 : decode m_MO_open.2.1 44 = .ok (.iload_n 1, 1) := by decide +kernel
theorem d_MO_open_45 : decode m_MO_open.2.1 45 = .ok (.aload_n 0, 1) := by decide +kernel
theorem d_MO_open_46 : decode m_MO_open.2.1 46 = .ok (.getfield 133, 3) := by decide +kernel
theorem d_MO_open_49 : decode m_MO_open.2.1 49 = .ok (.iastore, 1) := by decide +kernel
theorem d_MO_open_50 : decode m_MO_open.2.1 50 = .ok (.return_, 1) := by decide +kernel
theorem d_MO_add_0 : decode m_MO_add.2.1 0 = .ok (.aload_n 0, 1) := by decide +kernel
theorem d_MO_add_1 : decode m_MO_add.2.1 1 = .ok (.getfield 35, 3) := by decide +kernel
theorem d_MO_add_4 : decode m_MO_add.2.1 4 = .ok (.aload_n 0, 1) := by decide +kernel
theorem d_MO_add_5 : decode m_MO_add.2.1 5 = .ok (.getfield 126, 3) := by decide +kernel
theorem d_MO_add_8 : decode m_MO_add.2.1 8 = .ok (.iload_n 1, 1) := by decide +kernel
theorem d_MO_add_9 : decode m_MO_add.2.1 9 = .ok (.iastore, 1) := by decide +kernel
theorem d_MO_add_10 : decode m_MO_add.2.1 10 = .ok (.aload_n 0, 1) := by decide +kernel
theorem d_MO_add_11 : decode m_MO_add.2.1 11 = .ok (.getfield 38, 3) := by decide +kernel
theorem d_MO_add_14 : decode m_MO_add.2.1 14 = .ok (.aload_n 0, 1) := by decide +kernel
theorem d_MO_add_15 : decode m_MO_add.2.1 15 = .ok (.getfield 126, 3) := by decide +kernel
theorem d_MO_add_18 : decode m_MO_add.2.1 18 = .ok (.iload_n 2, 1) := by decide +kernel
theorem d_MO_add_19 : decode m_MO_add.2.1 19 = .ok (.iastore, 1) := by decide +kernel
theorem d_MO_add_20 : decode m_MO_add.2.1 20 = .ok (.aload_n 0, 1) := by decide +kernel
theorem d_MO_add_21 : decode m_MO_add.2.1 21 = .ok (.getfield 41, 3) := by decide +kernel
theorem d_MO_add_24 : decode m_MO_add.2.1 24 = .ok (.aload_n 0, 1) := by decide +kernel
theorem d_MO_add_25 : decode m_MO_add.2.1 25 = .ok (.getfield 126, 3) := by decide +kernel
theorem d_MO_add_28 : decode m_MO_add.2.1 28 = .ok (.iload_n 3, 1) := by decide +kernel
theorem d_MO_add_29 : decode m_MO_add.2.1 29 = .ok (.iastore, 1) := by decide +kernel
theorem d_MO_add_30 : decode m_MO_add.2.1 30 = .ok (.aload_n 0, 1) := by decide +kernel
theorem d_MO_add_31 : decode m_MO_add.2.1 31 = .ok (.dup, 1) := by decide +kernel
theorem d_MO_add_32 : decode m_MO_add.2.1 32 = .ok (.getfield 126, 3) := by decide +kernel
theorem d_MO_add_35 : decode m_MO_add.2.1 35 = .ok (.iconst 1, 1) := by decide +kernel
theorem d_MO_add_36 : decode m_MO_add.2.1 36 = .ok (.iadd, 1) := by decide +kernel
theorem d_MO_add_37 : decode m_MO_add.2.1 37 = .ok (.putfield 126, 3) := by decide +kernel
theorem d_MO_add_40 : decode m_MO_add.2.1 40 = .ok (.return_, 1) := by decide +kernel
theorem d_MO_writeRepetition_0 : decode m_MO_writeRepetition.2.1 0 = .ok (.aload_n 0, 1) := by decide +kernel
theorem d_MO_writeRepetition_1 : decode m_MO_writeRepetition.2.1 1 = .ok (.iload_n 1, 1) := by decide +kernel
theorem d_MO_writeRepetition_2 : decode m_MO_writeRepetition.2.1 2 = .ok (.invokevirtual 90, 3) := by decide +kernel
theorem d_MO_writeRepetition_5 : decode m_MO_writeRepetition.2.1 5 = .ok (.istore_n 3, 1) := by decide +kernel
theorem d_MO_writeRepetition_6 : decode m_MO_writeRepetition.2.1 6 = .ok (.iload_n 1, 1) := by decide +kernel
theorem d_MO_writeRepetition_7 : decode m_MO_writeRepetition.2.1 7 = .ok (.iconst 1, 1) := by decide +kernel
theorem d_MO_writeRepetition_8 : decode m_MO_writeRepetition.2.1 8 = .ok (.iadd, 1) := by decide +kernel
theorem d_MO_writeRepetition_9 : decode m_MO_writeRepetition.2.1 9 = .ok (.istore 4, 2) := by decide +kernel
theorem d_MO_writeRepetition_11 : decode m_MO_writeRepetition.2.1 11 = .ok (.iload_n 3, 1) := by decide +kernel
theorem d_MO_writeRepetition_12 : decode m_MO_writeRepetition.2.1 12 = .ok (.bipush 123, 2) := by decide +kernel
theorem d_MO_writeRepetition_14 : decode m_MO_writeRepetition.2.1 14 = .ok (.if_icmp .ne 22, 3) := by decide +kernel
theorem d_MO_writeRepetition_17 : decode m_MO_writeRepetition.2.1 17 = .ok (.aload_n 0, 1) := by decide +kernel
theorem d_MO_writeRepetition_18 : decode m_MO_writeRepetition.2.1 18 = .ok (.iload 4, 2) := by decide +kernel
theorem d_MO_writeRepetition_20 : decode m_MO_writeRepetition.2.1 20 = .ok (.iconst 1, 1) := by decide +kernel
theorem d_MO_writeRepetition_21 : decode m_MO_writeRepetition.2.1 21 = .ok (.isub, 1) := by decide +kernel
theorem d_MO_writeRepetition_22 : decode m_MO_writeRepetition.2.1 22 = .ok (.invokevirtual 90, 3) := by decide +kernel
theorem d_MO_writeRepetition_25 : decode m_MO_writeRepetition.2.1 25 = .ok (.bipush 125, 2) := by decide +kernel
theorem d_MO_writeRepetition_27 : decode m_MO_writeRepetition.2.1 27 = .ok (.if_icmp .eq 9, 3) := by decide +kernel
theorem d_MO_writeRepetition_30 : decode m_MO_writeRepetition.2.1 30 = .ok (.iinc 4 1, 3) := by decide +kernel
theorem d_MO_writeRepetition_33 : decode m_MO_writeRepetition.2.1 33 = .ok (.goto (-16), 3) := by decide +kernel
theorem d_MO_writeRepetition_36 : decode m_MO_writeRepetition.2.1 36 = .ok (.aload_n 0, 1) := by decide +kernel
theorem d_MO_writeRepetition_37 : decode m_MO_writeRepetition.2.1 37 = .ok (.iload 4, 2) := by decide +kernel
theorem d_MO_writeRepetition_39 : decode m_MO_writeRepetition.2.1 39 = .ok (.invokevirtual 90, 3) := by decide +kernel
theorem d_MO_writeRepetition_42 : decode m_MO_writeRepetition.2.1 42 = .ok (.bipush 63, 2) := by decide +kernel
theorem d_MO_writeRepetition_44 : decode m_MO_writeRepetition.2.1 44 = .ok (.if_icmp .ne 7, 3) := by decide +kernel
theorem d_MO_writeRepetition_47 : decode m_MO_writeRepetition.2.1 47 = .ok (.iconst 1, 1) := by decide +kernel
theorem d_MO_writeRepetition_48 : decode m_MO_writeRepetition.2.1 48 = .ok (.goto 4, 3) := by decide +kernel
theorem d_MO_writeRepetition_51 : decode m_MO_writeRepetition.2.1 51 = .ok (.iconst 0, 1) := by decide +kernel
theorem d_MO_writeRepetition_52 : decode m_MO_writeRepetition.2.1 52 = .ok (.istore 5, 2) := by decide +kernel
theorem d_MO_writeRepetition_54 : decode m_MO_writeRepetition.2.1 54 = .ok (.aload_n 0, 1) := by decide +kernel
theorem d_MO_writeRepetition_55 : decode m_MO_writeRepetition.2.1 55 = .ok (.getfield 126, 3) := by decide +kernel
theorem d_MO_writeRepetition_58 : decode m_MO_writeRepetition.2.1 58 = .ok (.iload_n 2, 1) := by decide +kernel
theorem d_MO_writeRepetition_59 : decode m_MO_writeRepetition.2.1 59 = .ok (.isub, 1) := by decide +kernel
theorem d_MO_writeRepetition_60 : decode m_MO_writeRepetition.2.1 60 = .ok (.istore 6, 2) := by decide +kernel
theorem d_MO_writeRepetition_62 : decode m_MO_writeRepetition.2.1 62 = .ok (.iload_n 3, 1) := by decide +kernel
theorem d_MO_writeRepetition_63 : decode m_MO_writeRepetition.2.1 63 = .ok (.bipush 63, 2) := by decide +kernel
theorem d_MO_writeRepetition_65 : decode m_MO_writeRepetition.2.1 65 = .ok (.if_icmp .ne 34, 3) := by decide +kernel
theorem d_MO_writeRepetition_68 : decode m_MO_writeRepetition.2.1 68 = .ok (.aload_n 0, 1) := by decide +kernel
theorem d_MO_writeRepetition_69 : decode m_MO_writeRepetition.2.1 69 = .ok (.iload_n 2, 1) := by decide +kernel
theorem d_MO_writeRepetition_70 : decode m_MO_writeRepetition.2.1 70 = .ok (.iload 5, 2) := by decide +kernel
theorem d_MO_writeRepetition_72 : decode m_MO_writeRepetition.2.1 72 = .ok (.ifCond .eq 10, 3) := by decide +kernel
theorem d_MO_writeRepetition_75 : decode m_MO_writeRepetition.2.1 75 = .ok (.iload 6, 2) := by decide +kernel
theorem d_MO_writeRepetition_77 : decode m_MO_writeRepetition.2.1 77 = .ok (.iconst 1, 1) := by decide +kernel
theorem d_MO_writeRepetition_78 : decode m_MO_writeRepetition.2.1 78 = .ok (.iadd, 1) := by decide +kernel
theorem d_MO_writeRepetition_79 : decode m_MO_writeRepetition.2.1 79 = .ok (.goto 4, 3) := by decide +kernel
theorem d_MO_writeRepetition_82 : decode m_MO_writeRepetition.2.1 82 = .ok (.iconst 1, 1) := by decide +kernel
theorem d_MO_writeRepetition_83 : decode m_MO_writeRepetition.2.1 83 = .ok (.iload 5, 2) := by decide +kernel
theorem d_MO_writeRepetition_85 : decode m_MO_writeRepetition.2.1 85 = .ok (.ifCond .eq 7, 3) := by decide +kernel
theorem d_MO_writeRepetition_88 : decode m_MO_writeRepetition.2.1 88 = .ok (.iconst 1, 1) := by decide +kernel
theorem d_MO_writeRepetition_89 : decode m_MO_writeRepetition.2.1 89 = .ok (.goto 7, 3) := by decide +kernel
theorem d_MO_writeRepetition_92 : decode m_MO_writeRepetition.2.1 92 = .ok (.iload 6, 2) := by decide +kernel
theorem d_MO_writeRepetition_94 : decode m_MO_writeRepetition.2.1 94 = .ok (.iconst 1, 1) := by decide +kernel
theorem d_MO_writeRepetition_95 : decode m_MO_writeRepetition.2.1 95 = .ok (.iadd, 1) := by decide +kernel
theorem d_MO_writeRepetition_96 : decode m_MO_writeRepetition.2.1 96 = .ok (.invokevirtual 136, 3) := by decide +kernel
theorem d_MO_writeRepetition_99 : decode m_MO_writeRepetition.2.1 99 = .ok (.iload_n 3, 1) := by decide +kernel
theorem d_MO_writeRepetition_100 : decode m_MO_writeRepetition.2.1 100 = .ok (.bipush 42, 2) := by decide +kernel
theorem d_MO_writeRepetition_102 : decode m_MO_writeRepetition.2.1 102 = .ok (.if_icmp .ne 46, 3) := by decide +kernel
theorem d_MO_writeRepetition_105 : decode m_MO_writeRepetition.2.1 105 = .ok (.aload_n 0, 1) := by decide +kernel
theorem d_MO_writeRepetition_106 : decode m_MO_writeRepetition.2.1 106 = .ok (.iload_n 2, 1) := by decide +kernel
theorem d_MO_writeRepetition_107 : decode m_MO_writeRepetition.2.1 107 = .ok (.iload 5, 2) := by decide +kernel
theorem d_MO_writeRepetition_109 : decode m_MO_writeRepetition.2.1 109 = .ok (.ifCond .eq 10, 3) := by decide +kernel
theorem d_MO_writeRepetition_112 : decode m_MO_writeRepetition.2.1 112 = .ok (.iload 6, 2) := by decide +kernel
theorem d_MO_writeRepetition_114 : decode m_MO_writeRepetition.2.1 114 = .ok (.iconst 2, 1) := by decide +kernel
theorem d_MO_writeRepetition_115 : decode m_MO_writeRepetition.2.1 115 = .ok (.iadd, 1) := by decide +kernel
theorem d_MO_writeRepetition_116 : decode m_MO_writeRepetition.2.1 116 = .ok (.goto 4, 3) := by decide +kernel
theorem d_MO_writeRepetition_119 : decode m_MO_writeRepetition.2.1 119 = .ok (.iconst 1, 1) := by decide +kernel
theorem d_MO_writeRepetition_120 : decode m_MO_writeRepetition.2.1 120 = .ok (.iload 5, 2) := by decide +kernel
theorem d_MO_writeRepetition_122 : decode m_MO_writeRepetition.2.1 122 = .ok (.ifCond .eq 7, 3) := by decide +kernel
theorem d_MO_writeRepetition_125 : decode m_MO_writeRepetition.2.1 125 = .ok (.iconst 1, 1) := by decide +kernel
theorem d_MO_writeRepetition_126 : decode m_MO_writeRepetition.2.1 126 = .ok (.goto 7, 3) := by decide +kernel
theorem d_MO_writeRepetition_129 : decode m_MO_writeRepetition.2.1 129 = .ok (.iload 6, 2) := by decide +kernel
theorem d_MO_writeRepetition_131 : decode m_MO_writeRepetition.2.1 131 = .ok (.iconst 2, 1) := by decide +kernel
theorem d_MO_writeRepetition_132 : decode m_MO_writeRepetition.2.1 132 = .ok (.iadd, 1) := by decide +kernel
theorem d_MO_writeRepetition_133 : decode m_MO_writeRepetition.2.1 133 = .ok (.invokevirtual 136, 3) := by decide +kernel
theorem d_MO_writeRepetition_136 : decode m_MO_writeRepetition.2.1 136 = .ok (.aload_n 0, 1) := by decide +kernel
theorem d_MO_writeRepetition_137 : decode m_MO_writeRepetition.2.1 137 = .ok (.bipush 7, 2) := by decide +kernel
theorem d_MO_writeRepetition_139 : decode m_MO_writeRepetition.2.1 139 = .ok (.iload 6, 2) := by decide +kernel
theorem d_MO_writeRepetition_141 : decode m_MO_writeRepetition.2.1 141 = .ok (.ineg, 1) := by decide +kernel
theorem d_MO_writeRepetition_142 : decode m_MO_writeRepetition.2.1 142 = .ok (.iconst 1, 1) := by decide +kernel
theorem d_MO_writeRepetition_143 : decode m_MO_writeRepetition.2.1 143 = .ok (.isub, 1) := by decide +kernel
theorem d_MO_writeRepetition_144 : decode m_MO_writeRepetition.2.1 144 = .ok (.iconst 0, 1) := by decide +kernel
theorem d_MO_writeRepetition_145 : decode m_MO_writeRepetition.2.1 145 = .ok (.invokevirtual 129, 3) := by decide +kernel
theorem d_MO_writeRepetition_148 : decode m_MO_writeRepetition.2.1 148 = .ok (.iload_n 3, 1) := by decide +kernel
theorem d_MO_writeRepetition_149 : decode m_MO_writeRepetition.2.1 149 = .ok (.bipush 43, 2) := by decide +kernel
theorem d_MO_writeRepetition_151 : decode m_MO_writeRepetition.2.1 151 = .ok (.if_icmp .ne 33, 3) := by decide +kernel
theorem d_MO_writeRepetition_154 : decode m_MO_writeRepetition.2.1 154 = .ok (.aload_n 0, 1) := by decide +kernel
theorem d_MO_writeRepetition_155 : decode m_MO_writeRepetition.2.1 155 = .ok (.bipush 6, 2) := by decide +kernel
theorem d_MO_writeRepetition_157 : decode m_MO_writeRepetition.2.1 157 = .ok (.iload 5, 2) := by decide +kernel
theorem d_MO_writeRepetition_159 : decode m_MO_writeRepetition.2.1 159 = .ok (.ifCond .eq 7, 3) := by decide +kernel
theorem d_MO_writeRepetition_162 : decode m_MO_writeRepetition.2.1 162 = .ok (.iconst 1, 1) := by decide +kernel
theorem d_MO_writeRepetition_163 : decode m_MO_writeRepetition.2.1 163 = .ok (.goto 6, 3) := by decide +kernel
theorem d_MO_writeRepetition_166 : decode m_MO_writeRepetition.2.1 166 = .ok (.iload 6, 2) := by decide +kernel
theorem d_MO_writeRepetition_168 : decode m_MO_writeRepetition.2.1 168 = .ok (.ineg, 1) := by decide +kernel
theorem d_MO_writeRepetition_169 : decode m_MO_writeRepetition.2.1 169 = .ok (.iload 5, 2) := by decide +kernel
theorem d_MO_writeRepetition_171 : decode m_MO_writeRepetition.2.1 171 = .ok (.ifCond .eq 9, 3) := by decide +kernel
theorem d_MO_writeRepetition_174 : decode m_MO_writeRepetition.2.1 174 = .ok (.iload 6, 2) := by decide +kernel
theorem d_MO_writeRepetition_176 : decode m_MO_writeRepetition.2.1 176 = .ok (.ineg, 1) := by decide +kernel
theorem d_MO_writeRepetition_177 : decode m_MO_writeRepetition.2.1 177 = .ok (.goto 4, 3) := by decide +kernel
theorem d_MO_writeRepetition_180 : decode m_MO_writeRepetition.2.1 180 = .ok (.iconst 1, 1) := by decide +kernel
theorem d_MO_writeRepetition_181 : decode m_MO_writeRepetition.2.1 181 = .ok (.invokevirtual 129, 3) := by decide +kernel
theorem d_MO_writeRepetition_184 : decode m_MO_writeRepetition.2.1 184 = .ok (.iload_n 3, 1) := by decide +kernel
theorem d_MO_writeRepetition_185 : decode m_MO_writeRepetition.2.1 185 = .ok (.bipush 123, 2) := by decide +kernel
theorem d_MO_writeRepetition_187 : decode m_MO_writeRepetition.2.1 187 = .ok (.if_icmp .ne 31, 3) := by decide +kernel
theorem d_MO_writeRepetition_190 : decode m_MO_writeRepetition.2.1 190 = .ok (.aload_n 0, 1) := by decide +kernel
theorem d_MO_writeRepetition_191 : decode m_MO_writeRepetition.2.1 191 = .ok (.iload_n 2, 1) := by decide +kernel
theorem d_MO_writeRepetition_192 : decode m_MO_writeRepetition.2.1 192 = .ok (.aload_n 0, 1) := by decide +kernel
theorem d_MO_writeRepetition_193 : decode m_MO_writeRepetition.2.1 193 = .ok (.iload_n 1, 1) := by decide +kernel
theorem d_MO_writeRepetition_194 : decode m_MO_writeRepetition.2.1 194 = .ok (.iconst 1, 1) := by decide +kernel
theorem d_MO_writeRepetition_195 : decode m_MO_writeRepetition.2.1 195 = .ok (.iadd, 1) := by decide +kernel
theorem d_MO_writeRepetition_196 : decode m_MO_writeRepetition.2.1 196 = .ok (.invokevirtual 90, 3) := by decide +kernel
theorem d_MO_writeRepetition_199 : decode m_MO_writeRepetition.2.1 199 = .ok (.bipush 48, 2) := by decide +kernel
theorem d_MO_writeRepetition_201 : decode m_MO_writeRepetition.2.1 201 = .ok (.isub, 1) := by decide +kernel
theorem d_MO_writeRepetition_202 : decode m_MO_writeRepetition.2.1 202 = .ok (.aload_n 0, 1) := by decide +kernel
theorem d_MO_writeRepetition_203 : decode m_MO_writeRepetition.2.1 203 = .ok (.iload 4, 2) := by decide +kernel
theorem d_MO_writeRepetition_205 : decode m_MO_writeRepetition.2.1 205 = .ok (.iconst 2, 1) := by decide +kernel
theorem d_MO_writeRepetition_206 : decode m_MO_writeRepetition.2.1 206 = .ok (.isub, 1) := by decide +kernel
theorem d_MO_writeRepetition_207 : decode m_MO_writeRepetition.2.1 207 = .ok (.invokevirtual 90, 3) := by decide +kernel
theorem d_MO_writeRepetition_210 : decode m_MO_writeRepetition.2.1 210 = .ok (.bipush 48, 2) := by decide +kernel
theorem d_MO_writeRepetition_212 : decode m_MO_writeRepetition.2.1 212 = .ok (.isub, 1) := by decide +kernel
theorem d_MO_writeRepetition_213 : decode m_MO_writeRepetition.2.1 213 = .ok (.iload 5, 2) := by decide +kernel
theorem d_MO_writeRepetition_215 : decode m_MO_writeRepetition.2.1 215 = .ok (.invokevirtual 143, 3) := by decide +kernel
theorem d_MO_writeRepetition_218 : decode m_MO_writeRepetition.2.1 218 = .ok (.iload 5, 2) := by decide +kernel
theorem d_MO_writeRepetition_220 : decode m_MO_writeRepetition.2.1 220 = .ok (.ifCond .eq 10, 3) := by decide +kernel
theorem d_MO_writeRepetition_223 : decode m_MO_writeRepetition.2.1 223 = .ok (.iload 4, 2) := by decide +kernel
theorem d_MO_writeRepetition_225 : decode m_MO_writeRepetition.2.1 225 = .ok (.iconst 1, 1) := by decide +kernel
theorem d_MO_writeRepetition_226 : decode m_MO_writeRepetition.2.1 226 = .ok (.iadd, 1) := by decide +kernel
theorem d_MO_writeRepetition_227 : decode m_MO_writeRepetition.2.1 227 = .ok (.goto 5, 3) := by decide +kernel
theorem d_MO_writeRepetition_230 : decode m_MO_writeRepetition.2.1 230 = .ok (.iload 4, 2) := by decide +kernel
theorem d_MO_writeRepetition_232 : decode m_MO_writeRepetition.2.1 232 = .ok (.ireturn, 1) := by decide +kernel
theorem d_MO_insert_0 : decode m_MO_insert.2.1 0 = .ok (.aload_n 0, 1) := by decide +kernel
theorem d_MO_insert_1 : decode m_MO_insert.2.1 1 = .ok (.getfield 126, 3) := by decide +kernel
theorem d_MO_insert_4 : decode m_MO_insert.2.1 4 = .ok (.istore 4, 2) := by decide +kernel
theorem d_MO_insert_6 : decode m_MO_insert.2.1 6 = .ok (.iload 4, 2) := by decide +kernel
theorem d_MO_insert_8 : decode m_MO_insert.2.1 8 = .ok (.iload_n 1, 1) := by decide +kernel
theorem d_MO_insert_9 : decode m_MO_insert.2.1 9 = .ok (.if_icmp .le 57, 3) := by decide +kernel
theorem d_MO_insert_12 : decode m_MO_insert.2.1 12 = .ok (.aload_n 0, 1) := by decide +kernel
theorem d_MO_insert_13 : decode m_MO_insert.2.1 13 = .ok (.getfield 35, 3) := by decide +kernel
theorem d_MO_insert_16 : decode m_MO_insert.2.1 16 = .ok (.iload 4, 2) := by decide +kernel
theorem d_MO_insert_18 : decode m_MO_insert.2.1 18 = .ok (.aload_n 0, 1) := by decide +kernel
theorem d_MO_insert_19 : decode m_MO_insert.2.1 19 = .ok (.getfield 35, 3) := by decide +kernel
theorem d_MO_insert_22 : decode m_MO_insert.2.1 22 = .ok (.iload 4, 2) := by decide +kernel
theorem d_MO_insert_24 : decode m_MO_insert.2.1 24 = .ok (.iconst 1, 1) := by decide +kernel
theorem d_MO_insert_25 : decode m_MO_insert.2.1 25 = .ok (.isub, 1) := by decide +kernel
theorem d_MO_insert_26 : decode m_MO_insert.2.1 26 = .ok (.iaload, 1) := by decide +kernel
theorem d_MO_insert_27 : decode m_MO_insert.2.1 27 = .ok (.iastore, 1) := by decide +kernel
theorem d_MO_insert_28 : decode m_MO_insert.2.1 28 = .ok (.aload_n 0, 1) := by decide +kernel
theorem d_MO_insert_29 : decode m_MO_insert.2.1 29 = .ok (.getfield 38, 3) := by decide +kernel
theorem d_MO_insert_32 : decode m_MO_insert.2.1 32 = .ok (.iload 4, 2) := by decide +kernel
theorem d_MO_insert_34 : decode m_MO_insert.2.1 34 = .ok (.aload_n 0, 1) := by decide +kernel
theorem d_MO_insert_35 : decode m_MO_insert.2.1 35 = .ok (.getfield 38, 3) := by decide +kernel
theorem d_MO_insert_38 : decode m_MO_insert.2.1 38 = .ok (.iload 4, 2) := by decide +kernel
theorem d_MO_insert_40 : decode m_MO_insert.2.1 40 = .ok (.iconst 1, 1) := by decide +kernel
theorem d_MO_insert_41 : decode m_MO_insert.2.1 41 = .ok (.isub, 1) := by decide +kernel
theorem d_MO_insert_42 : decode m_MO_insert.2.1 42 = .ok (.iaload, 1) := by decide +kernel
theorem d_MO_insert_43 : decode m_MO_insert.2.1 43 = .ok (.iastore, 1) := by decide +kernel
theorem d_MO_insert_44 : decode m_MO_insert.2.1 44 = .ok (.aload_n 0, 1) := by decide +kernel
theorem d_MO_insert_45 : decode m_MO_insert.2.1 45 = .ok (.getfield 41, 3) := by decide +kernel
theorem d_MO_insert_48 : decode m_MO_insert.2.1 48 = .ok (.iload 4, 2) := by decide +kernel
theorem d_MO_insert_50 : decode m_MO_insert.2.1 50 = .ok (.aload_n 0, 1) := by decide +kernel
theorem d_MO_insert_51 : decode m_MO_insert.2.1 51 = .ok (.getfield 41, 3) := by decide +kernel
theorem d_MO_insert_54 : decode m_MO_insert.2.1 54 = .ok (.iload 4, 2) := by decide +kernel
theorem d_MO_insert_56 : decode m_MO_insert.2.1 56 = .ok (.iconst 1, 1) := by decide +kernel
theorem d_MO_insert_57 : decode m_MO_insert.2.1 57 = .ok (.isub, 1) := by decide +kernel
theorem d_MO_insert_58 : decode m_MO_insert.2.1 58 = .ok (.iaload, 1) := by decide +kernel
theorem d_MO_insert_59 : decode m_MO_insert.2.1 59 = .ok (.iastore, 1) := by decide +kernel
theorem d_MO_insert_60 : decode m_MO_insert.2.1 60 = .ok (.iinc 4 (-1), 3) := by decide +kernel
theorem d_MO_insert_63 : decode m_MO_insert.2.1 63 = .ok (.goto (-57), 3) := by decide +kernel
theorem d_MO_insert_66 : decode m_MO_insert.2.1 66 = .ok (.aload_n 0, 1) := by decide +kernel
theorem d_MO_insert_67 : decode m_MO_insert.2.1 67 = .ok (.dup, 1) := by decide +kernel
theorem d_MO_insert_68 : decode m_MO_insert.2.1 68 = .ok (.getfield 126, 3) := by decide +kernel
theorem d_MO_insert_71 : decode m_MO_insert.2.1 71 = .ok (.iconst 1, 1) := by decide +kernel
theorem d_MO_insert_72 : decode m_MO_insert.2.1 72 = .ok (.iadd, 1) := by decide +kernel
theorem d_MO_insert_73 : decode m_MO_insert.2.1 73 = .ok (.putfield 126, 3) := by decide +kernel
theorem d_MO_insert_76 : decode m_MO_insert.2.1 76 = .ok (.aload_n 0, 1) := by decide +kernel
theorem d_MO_insert_77 : decode m_MO_insert.2.1 77 = .ok (.getfield 35, 3) := by decide +kernel
theorem d_MO_insert_80 : decode m_MO_insert.2.1 80 = .ok (.iload_n 1, 1) := by decide +kernel
theorem d_MO_insert_81 : decode m_MO_insert.2.1 81 = .ok (.bipush 6, 2) := by decide +kernel
theorem d_MO_insert_83 : decode m_MO_insert.2.1 83 = .ok (.iastore, 1) := by decide +kernel
theorem d_MO_insert_84 : decode m_MO_insert.2.1 84 = .ok (.aload_n 0, 1) := by decide +kernel
theorem d_MO_insert_85 : decode m_MO_insert.2.1 85 = .ok (.getfield 38, 3) := by decide +kernel
theorem d_MO_insert_88 : decode m_MO_insert.2.1 88 = .ok (.iload_n 1, 1) := by decide +kernel
theorem d_MO_insert_89 : decode m_MO_insert.2.1 89 = .ok (.iload_n 2, 1) := by decide +kernel
theorem d_MO_insert_90 : decode m_MO_insert.2.1 90 = .ok (.iastore, 1) := by decide +kernel
theorem d_MO_insert_91 : decode m_MO_insert.2.1 91 = .ok (.aload_n 0, 1) := by decide +kernel
theorem d_MO_insert_92 : decode m_MO_insert.2.1 92 = .ok (.getfield 41, 3) := by decide +kernel
theorem d_MO_insert_95 : decode m_MO_insert.2.1 95 = .ok (.iload_n 1, 1) := by decide +kernel
theorem d_MO_insert_96 : decode m_MO_insert.2.1 96 = .ok (.iload_n 3, 1) := by decide +kernel
theorem d_MO_insert_97 : decode m_MO_insert.2.1 97 = .ok (.iastore, 1) := by decide +kernel
theorem d_MO_insert_98 : decode m_MO_insert.2.1 98 = .ok (.return_, 1) := by decide +kernel
theorem d_MO_times_0 : decode m_MO_times.2.1 0 = .ok (.aload_n 0, 1) := by decide +kernel
theorem d_MO_times_1 : decode m_MO_times.2.1 1 = .ok (.getfield 126, 3) := by decide +kernel
theorem d_MO_times_4 : decode m_MO_times.2.1 4 = .ok (.iload_n 1, 1) := by decide +kernel
theorem d_MO_times_5 : decode m_MO_times.2.1 5 = .ok (.isub, 1) := by decide +kernel
theorem d_MO_times_6 : decode m_MO_times.2.1 6 = .ok (.istore 5, 2) := by decide +kernel
theorem d_MO_times_8 : decode m_MO_times.2.1 8 = .ok (.iload_n 1, 1) := by decide +kernel
theorem d_MO_times_9 : decode m_MO_times.2.1 9 = .ok (.istore 6, 2) := by decide +kernel
theorem d_MO_times_11 : decode m_MO_times.2.1 11 = .ok (.iload_n 3, 1) := by decide +kernel
theorem d_MO_times_12 : decode m_MO_times.2.1 12 = .ok (.iload_n 2, 1) := by decide +kernel
theorem d_MO_times_13 : decode m_MO_times.2.1 13 = .ok (.isub, 1) := by decide +kernel
theorem d_MO_times_14 : decode m_MO_times.2.1 14 = .ok (.istore 7, 2) := by decide +kernel
theorem d_MO_times_16 : decode m_MO_times.2.1 16 = .ok (.iconst 1, 1) := by decide +kernel
theorem d_MO_times_17 : decode m_MO_times.2.1 17 = .ok (.istore 8, 2) := by decide +kernel
theorem d_MO_times_19 : decode m_MO_times.2.1 19 = .ok (.iload 8, 2) := by decide +kernel
theorem d_MO_times_21 : decode m_MO_times.2.1 21 = .ok (.iload_n 2, 1) := by decide +kernel
theorem d_MO_times_22 : decode m_MO_times.2.1 22 = .ok (.if_icmp .ge 16, 3) := by decide +kernel
theorem d_MO_times_25 : decode m_MO_times.2.1 25 = .ok (.aload_n 0, 1) := by decide +kernel
theorem d_MO_times_26 : decode m_MO_times.2.1 26 = .ok (.iload_n 1, 1) := by decide +kernel
theorem d_MO_times_27 : decode m_MO_times.2.1 27 = .ok (.iload 5, 2) := by decide +kernel
theorem d_MO_times_29 : decode m_MO_times.2.1 29 = .ok (.invokevirtual 139, 3) := by decide +kernel
theorem d_MO_times_32 : decode m_MO_times.2.1 32 = .ok (.iinc 8 1, 3) := by decide +kernel
theorem d_MO_times_35 : decode m_MO_times.2.1 35 = .ok (.goto (-16), 3) := by decide +kernel
theorem d_MO_times_38 : decode m_MO_times.2.1 38 = .ok (.iconst 0, 1) := by decide +kernel
theorem d_MO_times_39 : decode m_MO_times.2.1 39 = .ok (.istore 8, 2) := by decide +kernel
theorem d_MO_times_41 : decode m_MO_times.2.1 41 = .ok (.iload 8, 2) := by decide +kernel
theorem d_MO_times_43 : decode m_MO_times.2.1 43 = .ok (.iload 7, 2) := by decide +kernel
theorem d_MO_times_45 : decode m_MO_times.2.1 45 = .ok (.if_icmp .ge 91, 3) := by decide +kernel
theorem d_MO_times_48 : decode m_MO_times.2.1 48 = .ok (.iload 7, 2) := by decide +kernel
theorem d_MO_times_50 : decode m_MO_times.2.1 50 = .ok (.iload 8, 2) := by decide +kernel
theorem d_MO_times_52 : decode m_MO_times.2.1 52 = .ok (.isub, 1) := by decide +kernel
theorem d_MO_times_53 : decode m_MO_times.2.1 53 = .ok (.iload 5, 2) := by decide +kernel
theorem d_MO_times_55 : decode m_MO_times.2.1 55 = .ok (.iconst 1, 1) := by decide +kernel
theorem d_MO_times_56 : decode m_MO_times.2.1 56 = .ok (.iadd, 1) := by decide +kernel
theorem d_MO_times_57 : decode m_MO_times.2.1 57 = .ok (.imul, 1) := by decide +kernel
theorem d_MO_times_58 : decode m_MO_times.2.1 58 = .ok (.istore 9, 2) := by decide +kernel
theorem d_MO_times_60 : decode m_MO_times.2.1 60 = .ok (.iload 4, 2) := by decide +kernel
theorem d_MO_times_62 : decode m_MO_times.2.1 62 = .ok (.ifCond .eq 8, 3) := by decide +kernel
theorem d_MO_times_65 : decode m_MO_times.2.1 65 = .ok (.iload 9, 2) := by decide +kernel
theorem d_MO_times_67 : decode m_MO_times.2.1 67 = .ok (.goto 4, 3) := by decide +kernel
theorem d_MO_times_70 : decode m_MO_times.2.1 70 = .ok (.iconst 1, 1) := by decide +kernel
theorem d_MO_times_71 : decode m_MO_times.2.1 71 = .ok (.istore 10, 2) := by decide +kernel
theorem d_MO_times_73 : decode m_MO_times.2.1 73 = .ok (.iload 4, 2) := by decide +kernel
theorem d_MO_times_75 : decode m_MO_times.2.1 75 = .ok (.ifCond .eq 7, 3) := by decide +kernel
theorem d_MO_times_78 : decode m_MO_times.2.1 78 = .ok (.iconst 1, 1) := by decide +kernel
theorem d_MO_times_79 : decode m_MO_times.2.1 79 = .ok (.goto 5, 3) := by decide +kernel
theorem d_MO_times_82 : decode m_MO_times.2.1 82 = .ok (.iload 9, 2) := by decide +kernel
theorem d_MO_times_84 : decode m_MO_times.2.1 84 = .ok (.istore 11, 2) := by decide +kernel
theorem d_MO_times_86 : decode m_MO_times.2.1 86 = .ok (.iload_n 2, 1) := by decide +kernel
theorem d_MO_times_87 : decode m_MO_times.2.1 87 = .ok (.ifCond .ne 25, 3) := by decide +kernel
theorem d_MO_times_90 : decode m_MO_times.2.1 90 = .ok (.iload 8, 2) := by decide +kernel
theorem d_MO_times_92 : decode m_MO_times.2.1 92 = .ok (.ifCond .ne 20, 3) := by decide +kernel
theorem d_MO_times_95 : decode m_MO_times.2.1 95 = .ok (.aload_n 0, 1) := by decide +kernel
theorem d_MO_times_96 : decode m_MO_times.2.1 96 = .ok (.iload_n 1, 1) := by decide +kernel
theorem d_MO_times_97 : decode m_MO_times.2.1 97 = .ok (.iload 10, 2) := by decide +kernel
theorem d_MO_times_99 : decode m_MO_times.2.1 99 = .ok (.iload 11, 2) := by decide +kernel
theorem d_MO_times_101 : decode m_MO_times.2.1 101 = .ok (.invokevirtual 136, 3) := by decide +kernel
theorem d_MO_times_104 : decode m_MO_times.2.1 104 = .ok (.iload_n 1, 1) := by decide +kernel
theorem d_MO_times_105 : decode m_MO_times.2.1 105 = .ok (.iconst 1, 1) := by decide +kernel
theorem d_MO_times_106 : decode m_MO_times.2.1 106 = .ok (.iadd, 1) := by decide +kernel
theorem d_MO_times_107 : decode m_MO_times.2.1 107 = .ok (.istore 6, 2) := by decide +kernel
theorem d_MO_times_109 : decode m_MO_times.2.1 109 = .ok (.goto 21, 3) := by decide +kernel
theorem d_MO_times_112 : decode m_MO_times.2.1 112 = .ok (.aload_n 0, 1) := by decide +kernel
theorem d_MO_times_113 : decode m_MO_times.2.1 113 = .ok (.bipush 6, 2) := by decide +kernel
theorem d_MO_times_115 : decode m_MO_times.2.1 115 = .ok (.iload 10, 2) := by decide +kernel
theorem d_MO_times_117 : decode m_MO_times.2.1 117 = .ok (.iload 11, 2) := by decide +kernel
theorem d_MO_times_119 : decode m_MO_times.2.1 119 = .ok (.invokevirtual 129, 3) := by decide +kernel
theorem d_MO_times_122 : decode m_MO_times.2.1 122 = .ok (.aload_n 0, 1) := by decide +kernel
theorem d_MO_times_123 : decode m_MO_times.2.1 123 = .ok (.iload 6, 2) := by decide +kernel
theorem d_MO_times_125 : decode m_MO_times.2.1 125 = .ok (.iload 5, 2) := by decide +kernel
theorem d_MO_times_127 : decode m_MO_times.2.1 127 = .ok (.invokevirtual 139, 3) := by decide +kernel
theorem d_MO_times_130 : decode m_MO_times.2.1 130 = .ok (.iinc 8 1, 3) := by decide +kernel
theorem d_MO_times_133 : decode m_MO_times.2.1 133 = .ok (.goto (-92), 3) := by decide +kernel
theorem d_MO_times_136 : decode m_MO_times.2.1 136 = .ok (.return_, 1) := by decide +kernel
theorem d_MO_copy_0 : decode m_MO_copy.2.1 0 = .ok (.iload_n 1, 1) := by decide +kernel
theorem d_MO_copy_1 : decode m_MO_copy.2.1 1 = .ok (.istore_n 3, 1) := by decide +kernel
theorem d_MO_copy_2 : decode m_MO_copy.2.1 2 = .ok (.iload_n 3, 1) := by decide +kernel
theorem d_MO_copy_3 : decode m_MO_copy.2.1 3 = .ok (.iload_n 1, 1) := by decide +kernel
theorem d_MO_copy_4 : decode m_MO_copy.2.1 4 = .ok (.iload_n 2, 1) := by decide +kernel
theorem d_MO_copy_5 : decode m_MO_copy.2.1 5 = .ok (.iadd, 1) := by decide +kernel
theorem d_MO_copy_6 : decode m_MO_copy.2.1 6 = .ok (.if_icmp .ge 31, 3) := by decide +kernel
theorem d_MO_copy_9 : decode m_MO_copy.2.1 9 = .ok (.aload_n 0, 1) := by decide +kernel
theorem d_MO_copy_10 : decode m_MO_copy.2.1 10 = .ok (.aload_n 0, 1) := by decide +kernel
theorem d_MO_copy_11 : decode m_MO_copy.2.1 11 = .ok (.getfield 35, 3) := by decide +kernel
theorem d_MO_copy_14 : decode m_MO_copy.2.1 14 = .ok (.iload_n 3, 1) := by decide +kernel
theorem d_MO_copy_15 : decode m_MO_copy.2.1 15 = .ok (.iaload, 1) := by decide +kernel
theorem d_MO_copy_16 : decode m_MO_copy.2.1 16 = .ok (.aload_n 0, 1) := by decide +kernel
theorem d_MO_copy_17 : decode m_MO_copy.2.1 17 = .ok (.getfield 38, 3) := by decide +kernel
theorem d_MO_copy_20 : decode m_MO_copy.2.1 20 = .ok (.iload_n 3, 1) := by decide +kernel
theorem d_MO_copy_21 : decode m_MO_copy.2.1 21 = .ok (.iaload, 1) := by decide +kernel
theorem d_MO_copy_22 : decode m_MO_copy.2.1 22 = .ok (.aload_n 0, 1) := by decide +kernel
theorem d_MO_copy_23 : decode m_MO_copy.2.1 23 = .ok (.getfield 41, 3) := by decide +kernel
theorem d_MO_copy_26 : decode m_MO_copy.2.1 26 = .ok (.iload_n 3, 1) := by decide +kernel
theorem d_MO_copy_27 : decode m_MO_copy.2.1 27 = .ok (.iaload, 1) := by decide +kernel
theorem d_MO_copy_28 : decode m_MO_copy.2.1 28 = .ok (.invokevirtual 129, 3) := by decide +kernel
theorem d_MO_copy_31 : decode m_MO_copy.2.1 31 = .ok (.iinc 3 1, 3) := by decide +kernel
theorem d_MO_copy_34 : decode m_MO_copy.2.1 34 = .ok (.goto (-32), 3) := by decide +kernel
theorem d_MO_copy_37 : decode m_MO_copy.2.1 37 = .ok (.return_, 1) := by decide +kernel
theorem d_MO_nextRow_0 : decode m_MO_nextRow.2.1 0 = .ok (.aload_n 0, 1) := by decide +kernel
theorem d_MO_nextRow_1 : decode m_MO_nextRow.2.1 1 = .ok (.getfield 126, 3) := by decide +kernel
theorem d_MO_nextRow_4 : decode m_MO_nextRow.2.1 4 = .ok (.aload_n 0, 1) := by decide +kernel
theorem d_MO_nextRow_5 : decode m_MO_nextRow.2.1 5 = .ok (.getfield 47, 3) := by decide +kernel
theorem d_MO_nextRow_8 : decode m_MO_nextRow.2.1 8 = .ok (.iload_n 1, 1) := by decide +kernel
theorem d_MO_nextRow_9 : decode m_MO_nextRow.2.1 9 = .ok (.iaload, 1) := by decide +kernel
theorem d_MO_nextRow_10 : decode m_MO_nextRow.2.1 10 = .ok (.isub, 1) := by decide +kernel
theorem d_MO_nextRow_11 : decode m_MO_nextRow.2.1 11 = .ok (.istore_n 2, 1) := by decide +kernel
theorem d_MO_nextRow_12 : decode m_MO_nextRow.2.1 12 = .ok (.aload_n 0, 1) := by decide +kernel
theorem d_MO_nextRow_13 : decode m_MO_nextRow.2.1 13 = .ok (.aload_n 0, 1) := by decide +kernel
theorem d_MO_nextRow_14 : decode m_MO_nextRow.2.1 14 = .ok (.getfield 47, 3) := by decide +kernel
theorem d_MO_nextRow_17 : decode m_MO_nextRow.2.1 17 = .ok (.iload_n 1, 1) := by decide +kernel
theorem d_MO_nextRow_18 : decode m_MO_nextRow.2.1 18 = .ok (.iaload, 1) := by decide +kernel
theorem d_MO_nextRow_19 : decode m_MO_nextRow.2.1 19 = .ok (.iconst 1, 1) := by decide +kernel
theorem d_MO_nextRow_20 : decode m_MO_nextRow.2.1 20 = .ok (.iload_n 2, 1) := by decide +kernel
theorem d_MO_nextRow_21 : decode m_MO_nextRow.2.1 21 = .ok (.iconst 2, 1) := by decide +kernel
theorem d_MO_nextRow_22 : decode m_MO_nextRow.2.1 22 = .ok (.iadd, 1) := by decide +kernel
theorem d_MO_nextRow_23 : decode m_MO_nextRow.2.1 23 = .ok (.invokevirtual 136, 3) := by decide +kernel
theorem d_MO_nextRow_26 : decode m_MO_nextRow.2.1 26 = .ok (.aload_n 0, 1) := by decide +kernel
theorem d_MO_nextRow_27 : decode m_MO_nextRow.2.1 27 = .ok (.getfield 56, 3) := by decide +kernel
theorem d_MO_nextRow_30 : decode m_MO_nextRow.2.1 30 = .ok (.aload_n 0, 1) := by decide +kernel
theorem d_MO_nextRow_31 : decode m_MO_nextRow.2.1 31 = .ok (.getfield 133, 3) := by decide +kernel
theorem d_MO_nextRow_34 : decode m_MO_nextRow.2.1 34 = .ok (.aload_n 0, 1) := by decide +kernel
theorem d_MO_nextRow_35 : decode m_MO_nextRow.2.1 35 = .ok (.getfield 126, 3) := by decide +kernel
theorem d_MO_nextRow_38 : decode m_MO_nextRow.2.1 38 = .ok (.iastore, 1) := by decide +kernel
theorem d_MO_nextRow_39 : decode m_MO_nextRow.2.1 39 = .ok (.aload_n 0, 1) := by decide +kernel
theorem d_MO_nextRow_40 : decode m_MO_nextRow.2.1 40 = .ok (.dup, 1) := by decide +kernel
theorem d_MO_nextRow_41 : decode m_MO_nextRow.2.1 41 = .ok (.getfield 133, 3) := by decide +kernel
theorem d_MO_nextRow_44 : decode m_MO_nextRow.2.1 44 = .ok (.iconst 1, 1) := by decide +kernel
theorem d_MO_nextRow_45 : decode m_MO_nextRow.2.1 45 = .ok (.iadd, 1) := by decide +kernel
theorem d_MO_nextRow_46 : decode m_MO_nextRow.2.1 46 = .ok (.putfield 133, 3) := by decide +kernel
theorem d_MO_nextRow_49 : decode m_MO_nextRow.2.1 49 = .ok (.aload_n 0, 1) := by decide +kernel
theorem d_MO_nextRow_50 : decode m_MO_nextRow.2.1 50 = .ok (.bipush 7, 2) := by decide +kernel
theorem d_MO_nextRow_52 : decode m_MO_nextRow.2.1 52 = .ok (.iconst 0, 1) := by decide +kernel
theorem d_MO_nextRow_53 : decode m_MO_nextRow.2.1 53 = .ok (.iconst 0, 1) := by decide +kernel
theorem d_MO_nextRow_54 : decode m_MO_nextRow.2.1 54 = .ok (.invokevirtual 129, 3) := by decide +kernel
theorem d_MO_nextRow_57 : decode m_MO_nextRow.2.1 57 = .ok (.aload_n 0, 1) := by decide +kernel
theorem d_MO_nextRow_58 : decode m_MO_nextRow.2.1 58 = .ok (.getfield 47, 3) := by decide +kernel
theorem d_MO_nextRow_61 : decode m_MO_nextRow.2.1 61 = .ok (.iload_n 1, 1) := by decide +kernel
theorem d_MO_nextRow_62 : decode m_MO_nextRow.2.1 62 = .ok (.aload_n 0, 1) := by decide +kernel
theorem d_MO_nextRow_63 : decode m_MO_nextRow.2.1 63 = .ok (.getfield 126, 3) := by decide +kernel
theorem d_MO_nextRow_66 : decode m_MO_nextRow.2.1 66 = .ok (.iastore, 1) := by decide +kernel
theorem d_MO_nextRow_67 : decode m_MO_nextRow.2.1 67 = .ok (.return_, 1) := by decide +kernel
theorem d_MO_close_0 : decode m_MO_close.2.1 0 = .ok (.aload_n 0, 1) := by decide +kernel
theorem d_MO_close_1 : decode m_MO_close.2.1 1 = .ok (.getfield 53, 3) := by decide +kernel
theorem d_MO_close_4 : decode m_MO_close.2.1 4 = .ok (.iload_n 1, 1) := by decide +kernel
theorem d_MO_close_5 : decode m_MO_close.2.1 5 = .ok (.iaload, 1) := by decide +kernel
theorem d_MO_close_6 : decode m_MO_close.2.1 6 = .ok (.istore_n 2, 1) := by decide +kernel
theorem d_MO_close_7 : decode m_MO_close.2.1 7 = .ok (.iload_n 2, 1) := by decide +kernel
theorem d_MO_close_8 : decode m_MO_close.2.1 8 = .ok (.aload_n 0, 1) := by decide +kernel
theorem d_MO_close_9 : decode m_MO_close.2.1 9 = .ok (.getfield 133, 3) := by decide +kernel
theorem d_MO_close_12 : decode m_MO_close.2.1 12 = .ok (.if_icmp .ge 31, 3) := by decide +kernel
theorem d_MO_close_15 : decode m_MO_close.2.1 15 = .ok (.aload_n 0, 1) := by decide +kernel
theorem d_MO_close_16 : decode m_MO_close.2.1 16 = .ok (.getfield 38, 3) := by decide +kernel
theorem d_MO_close_19 : decode m_MO_close.2.1 19 = .ok (.aload_n 0, 1) := by decide +kernel
theorem d_MO_close_20 : decode m_MO_close.2.1 20 = .ok (.getfield 56, 3) := by decide +kernel
theorem d_MO_close_23 : decode m_MO_close.2.1 23 = .ok (.iload_n 2, 1) := by decide +kernel
theorem d_MO_close_24 : decode m_MO_close.2.1 24 = .ok (.iaload, 1) := by decide +kernel
theorem d_MO_close_25 : decode m_MO_close.2.1 25 = .ok (.aload_n 0, 1) := by decide +kernel
theorem d_MO_close_26 : decode m_MO_close.2.1 26 = .ok (.getfield 126, 3) := by decide +kernel
theorem d_MO_close_29 : decode m_MO_close.2.1 29 = .ok (.aload_n 0, 1) := by decide +kernel
theorem d_MO_close_30 : decode m_MO_close.2.1 30 = .ok (.getfield 56, 3) := by decide +kernel
theorem d_MO_close_33 : decode m_MO_close.2.1 33 = .ok (.iload_n 2, 1) := by decide +kernel
theorem d_MO_close_34 : decode m_MO_close.2.1 34 = .ok (.iaload, 1) := by decide +kernel
theorem d_MO_close_35 : decode m_MO_close.2.1 35 = .ok (.isub, 1) := by decide +kernel
theorem d_MO_close_36 : decode m_MO_close.2.1 36 = .ok (.iastore, 1) := by decide +kernel
theorem d_MO_close_37 : decode m_MO_close.2.1 37 = .ok (.iinc 2 1, 3) := by decide +kernel
theorem d_MO_close_40 : decode m_MO_close.2.1 40 = .ok (.goto (-33), 3) := by decide +kernel
theorem d_MO_close_43 : decode m_MO_close.2.1 43 = .ok (.aload_n 0, 1) := by decide +kernel
theorem d_MO_close_44 : decode m_MO_close.2.1 44 = .ok (.aload_n 0, 1) := by decide +kernel
theorem d_MO_close_45 : decode m_MO_close.2.1 45 = .ok (.getfield 53, 3) := by decide +kernel
theorem d_MO_close_48 : decode m_MO_close.2.1 48 = .ok (.iload_n 1, 1) := by decide +kernel
theorem d_MO_close_49 : decode m_MO_close.2.1 49 = .ok (.iaload, 1) := by decide +kernel
theorem d_MO_close_50 : decode m_MO_close.2.1 50 = .ok (.putfield 133, 3) := by decide +kernel
theorem d_MO_close_53 : decode m_MO_close.2.1 53 = .ok (.aload_n 0, 1) := by decide +kernel
theorem d_MO_close_54 : decode m_MO_close.2.1 54 = .ok (.getfield 50, 3) := by decide +kernel
theorem d_MO_close_57 : decode m_MO_close.2.1 57 = .ok (.iload_n 1, 1) := by decide +kernel
theorem d_MO_close_58 : decode m_MO_close.2.1 58 = .ok (.iaload, 1) := by decide +kernel
theorem d_MO_close_59 : decode m_MO_close.2.1 59 = .ok (.ifCond .le 19, 3) := by decide +kernel
theorem d_MO_close_62 : decode m_MO_close.2.1 62 = .ok (.aload_n 0, 1) := by decide +kernel
theorem d_MO_close_63 : decode m_MO_close.2.1 63 = .ok (.iconst 5, 1) := by decide +kernel
theorem d_MO_close_64 : decode m_MO_close.2.1 64 = .ok (.iconst 2, 1) := by decide +kernel
theorem d_MO_close_65 : decode m_MO_close.2.1 65 = .ok (.aload_n 0, 1) := by decide +kernel
theorem d_MO_close_66 : decode m_MO_close.2.1 66 = .ok (.getfield 50, 3) := by decide +kernel
theorem d_MO_close_69 : decode m_MO_close.2.1 69 = .ok (.iload_n 1, 1) := by decide +kernel
theorem d_MO_close_70 : decode m_MO_close.2.1 70 = .ok (.iaload, 1) := by decide +kernel
theorem d_MO_close_71 : decode m_MO_close.2.1 71 = .ok (.imul, 1) := by decide +kernel
theorem d_MO_close_72 : decode m_MO_close.2.1 72 = .ok (.iconst 1, 1) := by decide +kernel
theorem d_MO_close_73 : decode m_MO_close.2.1 73 = .ok (.iadd, 1) := by decide +kernel
theorem d_MO_close_74 : decode m_MO_close.2.1 74 = .ok (.iconst 0, 1) := by decide +kernel
theorem d_MO_close_75 : decode m_MO_close.2.1 75 = .ok (.invokevirtual 129, 3) := by decide +kernel
theorem d_MO_close_78 : decode m_MO_close.2.1 78 = .ok (.return_, 1) := by decide +kernel
theorem d_MO_fault_0 : decode m_MO_fault.2.1 0 = .ok (.aload_n 0, 1) := by decide +kernel
theorem d_MO_fault_1 : decode m_MO_fault.2.1 1 = .ok (.invokevirtual 176, 3) := by decide +kernel
theorem d_MO_fault_4 : decode m_MO_fault.2.1 4 = .ok (.ireturn, 1) := by decide +kernel
theorem d_MO_text_0 : decode m_MO_text.2.1 0 = .ok (.iload_n 1, 1) := by decide +kernel
theorem d_MO_text_1 : decode m_MO_text.2.1 1 = .ok (.bipush 32, 2) := by decide +kernel
theorem d_MO_text_3 : decode m_MO_text.2.1 3 = .ok (.if_icmp .lt 18, 3) := by decide +kernel
theorem d_MO_text_6 : decode m_MO_text.2.1 6 = .ok (.iload_n 1, 1) := by decide +kernel
theorem d_MO_text_7 : decode m_MO_text.2.1 7 = .ok (.bipush 126, 2) := by decide +kernel
theorem d_MO_text_9 : decode m_MO_text.2.1 9 = .ok (.if_icmp .gt 12, 3) := by decide +kernel
theorem d_MO_text_12 : decode m_MO_text.2.1 12 = .ok (.aload_n 0, 1) := by decide +kernel
theorem d_MO_text_13 : decode m_MO_text.2.1 13 = .ok (.getfield 164, 3) := by decide +kernel
theorem d_MO_text_16 : decode m_MO_text.2.1 16 = .ok (.bipush 30, 2) := by decide +kernel
theorem d_MO_text_18 : decode m_MO_text.2.1 18 = .ok (.if_icmp .ne 5, 3) := by decide +kernel
theorem d_MO_text_21 : decode m_MO_text.2.1 21 = .ok (.iconst (-1), 1) := by decide +kernel
theorem d_MO_text_22 : decode m_MO_text.2.1 22 = .ok (.ireturn, 1) := by decide +kernel
theorem d_MO_text_23 : decode m_MO_text.2.1 23 = .ok (.aload_n 0, 1) := by decide +kernel
theorem d_MO_text_24 : decode m_MO_text.2.1 24 = .ok (.getfield 13, 3) := by decide +kernel
theorem d_MO_text_27 : decode m_MO_text.2.1 27 = .ok (.aload_n 0, 1) := by decide +kernel
theorem d_MO_text_28 : decode m_MO_text.2.1 28 = .ok (.getfield 164, 3) := by decide +kernel
theorem d_MO_text_31 : decode m_MO_text.2.1 31 = .ok (.iload_n 1, 1) := by decide +kernel
theorem d_MO_text_32 : decode m_MO_text.2.1 32 = .ok (.iastore, 1) := by decide +kernel
theorem d_MO_text_33 : decode m_MO_text.2.1 33 = .ok (.aload_n 0, 1) := by decide +kernel
theorem d_MO_text_34 : decode m_MO_text.2.1 34 = .ok (.dup, 1) := by decide +kernel
theorem d_MO_text_35 : decode m_MO_text.2.1 35 = .ok (.getfield 164, 3) := by decide +kernel
theorem d_MO_text_38 : decode m_MO_text.2.1 38 = .ok (.iconst 1, 1) := by decide +kernel
theorem d_MO_text_39 : decode m_MO_text.2.1 39 = .ok (.iadd, 1) := by decide +kernel
theorem d_MO_text_40 : decode m_MO_text.2.1 40 = .ok (.putfield 164, 3) := by decide +kernel
theorem d_MO_text_43 : decode m_MO_text.2.1 43 = .ok (.aload_n 0, 1) := by decide +kernel
theorem d_MO_text_44 : decode m_MO_text.2.1 44 = .ok (.iconst 0, 1) := by decide +kernel
theorem d_MO_text_45 : decode m_MO_text.2.1 45 = .ok (.putfield 183, 3) := by decide +kernel
theorem d_MO_text_48 : decode m_MO_text.2.1 48 = .ok (.aload_n 0, 1) := by decide +kernel
theorem d_MO_text_49 : decode m_MO_text.2.1 49 = .ok (.getfield 164, 3) := by decide +kernel
theorem d_MO_text_52 : decode m_MO_text.2.1 52 = .ok (.ireturn, 1) := by decide +kernel
theorem d_MO_newText_0 : decode m_MO_newText.2.1 0 = .ok (.aload_n 0, 1) := by decide +kernel
theorem d_MO_newText_1 : decode m_MO_newText.2.1 1 = .ok (.iconst 0, 1) := by decide +kernel
theorem d_MO_newText_2 : decode m_MO_newText.2.1 2 = .ok (.putfield 164, 3) := by decide +kernel
theorem d_MO_newText_5 : decode m_MO_newText.2.1 5 = .ok (.aload_n 0, 1) := by decide +kernel
theorem d_MO_newText_6 : decode m_MO_newText.2.1 6 = .ok (.iconst 0, 1) := by decide +kernel
theorem d_MO_newText_7 : decode m_MO_newText.2.1 7 = .ok (.putfield 183, 3) := by decide +kernel
theorem d_MO_newText_10 : decode m_MO_newText.2.1 10 = .ok (.iconst 0, 1) := by decide +kernel
theorem d_MO_newText_11 : decode m_MO_newText.2.1 11 = .ok (.ireturn, 1) := by decide +kernel
theorem d_MO_find_0 : decode m_MO_find.2.1 0 = .ok (.iload_n 1, 1) := by decide +kernel
theorem d_MO_find_1 : decode m_MO_find.2.1 1 = .ok (.ifCond .lt 18, 3) := by decide +kernel
theorem d_MO_find_4 : decode m_MO_find.2.1 4 = .ok (.iload_n 1, 1) := by decide +kernel
theorem d_MO_find_5 : decode m_MO_find.2.1 5 = .ok (.aload_n 0, 1) := by decide +kernel
theorem d_MO_find_6 : decode m_MO_find.2.1 6 = .ok (.getfield 164, 3) := by decide +kernel
theorem d_MO_find_9 : decode m_MO_find.2.1 9 = .ok (.if_icmp .gt 10, 3) := by decide +kernel
theorem d_MO_find_12 : decode m_MO_find.2.1 12 = .ok (.aload_n 0, 1) := by decide +kernel
theorem d_MO_find_13 : decode m_MO_find.2.1 13 = .ok (.getfield 173, 3) := by decide +kernel
theorem d_MO_find_16 : decode m_MO_find.2.1 16 = .ok (.ifCond .ne 5, 3) := by decide +kernel
theorem d_MO_find_19 : decode m_MO_find.2.1 19 = .ok (.iconst (-1), 1) := by decide +kernel
theorem d_MO_find_20 : decode m_MO_find.2.1 20 = .ok (.ireturn, 1) := by decide +kernel
theorem d_MO_find_21 : decode m_MO_find.2.1 21 = .ok (.aload_n 0, 1) := by decide +kernel
theorem d_MO_find_22 : decode m_MO_find.2.1 22 = .ok (.iload_n 1, 1) := by decide +kernel
theorem d_MO_find_23 : decode m_MO_find.2.1 23 = .ok (.invokevirtual 186, 3) := by decide +kernel
theorem d_MO_find_26 : decode m_MO_find.2.1 26 = .ok (.istore_n 2, 1) := by decide +kernel
theorem d_MO_find_27 : decode m_MO_find.2.1 27 = .ok (.aload_n 0, 1) := by decide +kernel
theorem d_MO_find_28 : decode m_MO_find.2.1 28 = .ok (.iload_n 2, 1) := by decide +kernel
theorem d_MO_find_29 : decode m_MO_find.2.1 29 = .ok (.ifCond .lt 7, 3) := by decide +kernel
theorem d_MO_find_32 : decode m_MO_find.2.1 32 = .ok (.iconst 1, 1) := by decide +kernel
theorem d_MO_find_33 : decode m_MO_find.2.1 33 = .ok (.goto 4, 3) := by decide +kernel
theorem d_MO_find_36 : decode m_MO_find.2.1 36 = .ok (.iconst 0, 1) := by decide +kernel
theorem d_MO_find_37 : decode m_MO_find.2.1 37 = .ok (.putfield 183, 3) := by decide +kernel
theorem d_MO_find_40 : decode m_MO_find.2.1 40 = .ok (.iconst 0, 1) := by decide +kernel
theorem d_MO_find_41 : decode m_MO_find.2.1 41 = .ok (.istore_n 3, 1) := by decide +kernel
theorem d_MO_find_42 : decode m_MO_find.2.1 42 = .ok (.iload_n 3, 1) := by decide +kernel
theorem d_MO_find_43 : decode m_MO_find.2.1 43 = .ok (.bipush 14, 2) := by decide +kernel
theorem d_MO_find_45 : decode m_MO_find.2.1 45 = .ok (.if_icmp .ge 21, 3) := by decide +kernel
theorem d_MO_find_48 : decode m_MO_find.2.1 48 = .ok (.aload_n 0, 1) := by decide +kernel
theorem d_MO_find_49 : decode m_MO_find.2.1 49 = .ok (.getfield 19, 3) := by decide +kernel
theorem d_MO_find_52 : decode m_MO_find.2.1 52 = .ok (.iload_n 3, 1) := by decide +kernel
theorem d_MO_find_53 : decode m_MO_find.2.1 53 = .ok (.aload_n 0, 1) := by decide +kernel
theorem d_MO_find_54 : decode m_MO_find.2.1 54 = .ok (.getfield 65, 3) := by decide +kernel
theorem d_MO_find_57 : decode m_MO_find.2.1 57 = .ok (.iload_n 3, 1) := by decide +kernel
theorem d_MO_find_58 : decode m_MO_find.2.1 58 = .ok (.iaload, 1) := by decide +kernel
theorem d_MO_find_59 : decode m_MO_find.2.1 59 = .ok (.iastore, 1) := by decide +kernel
theorem d_MO_find_60 : decode m_MO_find.2.1 60 = .ok (.iinc 3 1, 3) := by decide +kernel
theorem d_MO_find_63 : decode m_MO_find.2.1 63 = .ok (.goto (-21), 3) := by decide +kernel
theorem d_MO_find_66 : decode m_MO_find.2.1 66 = .ok (.aload_n 0, 1) := by decide +kernel
theorem d_MO_find_67 : decode m_MO_find.2.1 67 = .ok (.getfield 183, 3) := by decide +kernel
theorem d_MO_find_70 : decode m_MO_find.2.1 70 = .ok (.ifCond .eq 7, 3) := by decide +kernel
theorem d_MO_find_73 : decode m_MO_find.2.1 73 = .ok (.iload_n 2, 1) := by decide +kernel
theorem d_MO_find_74 : decode m_MO_find.2.1 74 = .ok (.goto 5, 3) := by decide +kernel
theorem d_MO_find_77 : decode m_MO_find.2.1 77 = .ok (.bipush (-2), 2) := by decide +kernel
theorem d_MO_find_79 : decode m_MO_find.2.1 79 = .ok (.ireturn, 1) := by decide +kernel
theorem d_MO_search_0 : decode m_MO_search.2.1 0 = .ok (.iload_n 1, 1) := by decide +kernel
theorem d_MO_search_1 : decode m_MO_search.2.1 1 = .ok (.istore_n 2, 1) := by decide +kernel
theorem d_MO_search_2 : decode m_MO_search.2.1 2 = .ok (.iload_n 2, 1) := by decide +kernel
theorem d_MO_search_3 : decode m_MO_search.2.1 3 = .ok (.aload_n 0, 1) := by decide +kernel
theorem d_MO_search_4 : decode m_MO_search.2.1 4 = .ok (.getfield 164, 3) := by decide +kernel
theorem d_MO_search_7 : decode m_MO_search.2.1 7 = .ok (.if_icmp .gt 36, 3) := by decide +kernel
theorem d_MO_search_10 : decode m_MO_search.2.1 10 = .ok (.aload_n 0, 1) := by decide +kernel
theorem d_MO_search_11 : decode m_MO_search.2.1 11 = .ok (.iload_n 2, 1) := by decide +kernel
theorem d_MO_search_12 : decode m_MO_search.2.1 12 = .ok (.iconst (-1), 1) := by decide +kernel
theorem d_MO_search_13 : decode m_MO_search.2.1 13 = .ok (.invokevirtual 170, 3) := by decide +kernel
theorem d_MO_search_16 : decode m_MO_search.2.1 16 = .ok (.istore_n 3, 1) := by decide +kernel
theorem d_MO_search_17 : decode m_MO_search.2.1 17 = .ok (.iload_n 3, 1) := by decide +kernel
theorem d_MO_search_18 : decode m_MO_search.2.1 18 = .ok (.ifCond .lt 19, 3) := by decide +kernel
theorem d_MO_search_21 : decode m_MO_search.2.1 21 = .ok (.aload_n 0, 1) := by decide +kernel
theorem d_MO_search_22 : decode m_MO_search.2.1 22 = .ok (.getfield 65, 3) := by decide +kernel
theorem d_MO_search_25 : decode m_MO_search.2.1 25 = .ok (.iconst 0, 1) := by decide +kernel
theorem d_MO_search_26 : decode m_MO_search.2.1 26 = .ok (.iload_n 2, 1) := by decide +kernel
theorem d_MO_search_27 : decode m_MO_search.2.1 27 = .ok (.iastore, 1) := by decide +kernel
theorem d_MO_search_28 : decode m_MO_search.2.1 28 = .ok (.aload_n 0, 1) := by decide +kernel
theorem d_MO_search_29 : decode m_MO_search.2.1 29 = .ok (.getfield 65, 3) := by decide +kernel
theorem d_MO_search_32 : decode m_MO_search.2.1 32 = .ok (.iconst 1, 1) := by decide +kernel
theorem d_MO_search_33 : decode m_MO_search.2.1 33 = .ok (.iload_n 3, 1) := by decide +kernel
theorem d_MO_search_34 : decode m_MO_search.2.1 34 = .ok (.iastore, 1) := by decide +kernel
theorem d_MO_search_35 : decode m_MO_search.2.1 35 = .ok (.iload_n 2, 1) := by decide +kernel
theorem d_MO_search_36 : decode m_MO_search.2.1 36 = .ok (.ireturn, 1) := by decide +kernel
theorem d_MO_search_37 : decode m_MO_search.2.1 37 = .ok (.iinc 2 1, 3) := by decide +kernel
theorem d_MO_search_40 : decode m_MO_search.2.1 40 = .ok (.goto (-38), 3) := by decide +kernel
theorem d_MO_search_43 : decode m_MO_search.2.1 43 = .ok (.iconst (-1), 1) := by decide +kernel
theorem d_MO_search_44 : decode m_MO_search.2.1 44 = .ok (.ireturn, 1) := by decide +kernel
theorem d_MO_takes_0 : decode m_MO_takes.2.1 0 = .ok (.aload_n 0, 1) := by decide +kernel
theorem d_MO_takes_1 : decode m_MO_takes.2.1 1 = .ok (.getfield 35, 3) := by decide +kernel
theorem d_MO_takes_4 : decode m_MO_takes.2.1 4 = .ok (.iload_n 1, 1) := by decide +kernel
theorem d_MO_takes_5 : decode m_MO_takes.2.1 5 = .ok (.iaload, 1) := by decide +kernel
theorem d_MO_takes_6 : decode m_MO_takes.2.1 6 = .ok (.ifCond .ne 19, 3) := by decide +kernel
theorem d_MO_takes_9 : decode m_MO_takes.2.1 9 = .ok (.aload_n 0, 1) := by decide +kernel
theorem d_MO_takes_10 : decode m_MO_takes.2.1 10 = .ok (.getfield 38, 3) := by decide +kernel
theorem d_MO_takes_13 : decode m_MO_takes.2.1 13 = .ok (.iload_n 1, 1) := by decide +kernel
theorem d_MO_takes_14 : decode m_MO_takes.2.1 14 = .ok (.iaload, 1) := by decide +kernel
theorem d_MO_takes_15 : decode m_MO_takes.2.1 15 = .ok (.iload_n 2, 1) := by decide +kernel
theorem d_MO_takes_16 : decode m_MO_takes.2.1 16 = .ok (.if_icmp .ne 7, 3) := by decide +kernel
theorem d_MO_takes_19 : decode m_MO_takes.2.1 19 = .ok (.iconst 1, 1) := by decide +kernel
theorem d_MO_takes_20 : decode m_MO_takes.2.1 20 = .ok (.goto 4, 3) := by decide +kernel
theorem d_MO_takes_23 : decode m_MO_takes.2.1 23 = .ok (.iconst 0, 1) := by decide +kernel
theorem d_MO_takes_24 : decode m_MO_takes.2.1 24 = .ok (.ireturn, 1) := by decide +kernel
theorem d_MO_takes_25 : decode m_MO_takes.2.1 25 = .ok (.aload_n 0, 1) := by decide +kernel
theorem d_MO_takes_26 : decode m_MO_takes.2.1 26 = .ok (.getfield 35, 3) := by decide +kernel
theorem d_MO_takes_29 : decode m_MO_takes.2.1 29 = .ok (.iload_n 1, 1) := by decide +kernel
theorem d_MO_takes_30 : decode m_MO_takes.2.1 30 = .ok (.iaload, 1) := by decide +kernel
theorem d_MO_takes_31 : decode m_MO_takes.2.1 31 = .ok (.iconst 1, 1) := by decide +kernel
theorem d_MO_takes_32 : decode m_MO_takes.2.1 32 = .ok (.if_icmp .eq 27, 3) := by decide +kernel
theorem d_MO_takes_35 : decode m_MO_takes.2.1 35 = .ok (.aload_n 0, 1) := by decide +kernel
theorem d_MO_takes_36 : decode m_MO_takes.2.1 36 = .ok (.getfield 35, 3) := by decide +kernel
theorem d_MO_takes_39 : decode m_MO_takes.2.1 39 = .ok (.iload_n 1, 1) := by decide +kernel
theorem d_MO_takes_40 : decode m_MO_takes.2.1 40 = .ok (.iaload, 1) := by decide +kernel
theorem d_MO_takes_41 : decode m_MO_takes.2.1 41 = .ok (.iconst 2, 1) := by decide +kernel
theorem d_MO_takes_42 : decode m_MO_takes.2.1 42 = .ok (.if_icmp .ne 21, 3) := by decide +kernel
theorem d_MO_takes_45 : decode m_MO_takes.2.1 45 = .ok (.aload_n 0, 1) := by decide +kernel
theorem d_MO_takes_46 : decode m_MO_takes.2.1 46 = .ok (.aload_n 0, 1) := by decide +kernel
theorem d_MO_takes_47 : decode m_MO_takes.2.1 47 = .ok (.getfield 38, 3) := by decide +kernel
theorem d_MO_takes_50 : decode m_MO_takes.2.1 50 = .ok (.iload_n 1, 1) := by decide +kernel
theorem d_MO_takes_51 : decode m_MO_takes.2.1 51 = .ok (.iaload, 1) := by decide +kernel
theorem d_MO_takes_52 : decode m_MO_takes.2.1 52 = .ok (.iload_n 2, 1) := by decide +kernel
theorem d_MO_takes_53 : decode m_MO_takes.2.1 53 = .ok (.invokevirtual 160, 3) := by decide +kernel
theorem d_MO_takes_56 : decode m_MO_takes.2.1 56 = .ok (.ifCond .eq 7, 3) := by decide +kernel
theorem d_MO_takes_59 : decode m_MO_takes.2.1 59 = .ok (.iconst 1, 1) := by decide +kernel
theorem d_MO_takes_60 : decode m_MO_takes.2.1 60 = .ok (.goto 4, 3) := by decide +kernel
theorem d_MO_takes_63 : decode m_MO_takes.2.1 63 = .ok (.iconst 0, 1) := by decide +kernel
theorem d_MO_takes_64 : decode m_MO_takes.2.1 64 = .ok (.ireturn, 1) := by decide +kernel
theorem d_MO_ofClass_0 : decode m_MO_ofClass.2.1 0 = .ok (.iload_n 1, 1) := by decide +kernel
theorem d_MO_ofClass_1 : decode m_MO_ofClass.2.1 1 = .ok (.iconst 1, 1) := by decide +kernel
theorem d_MO_ofClass_2 : decode m_MO_ofClass.2.1 2 = .ok (.iadd, 1) := by decide +kernel
theorem d_MO_ofClass_3 : decode m_MO_ofClass.2.1 3 = .ok (.istore_n 3, 1) := by decide +kernel
theorem d_MO_ofClass_4 : decode m_MO_ofClass.2.1 4 = .ok (.aload_n 0, 1) := by decide +kernel
theorem d_MO_ofClass_5 : decode m_MO_ofClass.2.1 5 = .ok (.iload_n 3, 1) := by decide +kernel
theorem d_MO_ofClass_6 : decode m_MO_ofClass.2.1 6 = .ok (.invokevirtual 90, 3) := by decide +kernel
theorem d_MO_ofClass_9 : decode m_MO_ofClass.2.1 9 = .ok (.bipush 94, 2) := by decide +kernel
theorem d_MO_ofClass_11 : decode m_MO_ofClass.2.1 11 = .ok (.if_icmp .ne 7, 3) := by decide +kernel
theorem d_MO_ofClass_14 : decode m_MO_ofClass.2.1 14 = .ok (.iconst 1, 1) := by decide +kernel
theorem d_MO_ofClass_15 : decode m_MO_ofClass.2.1 15 = .ok (.goto 4, 3) := by decide +kernel
theorem d_MO_ofClass_18 : decode m_MO_ofClass.2.1 18 = .ok (.iconst 0, 1) := by decide +kernel
theorem d_MO_ofClass_19 : decode m_MO_ofClass.2.1 19 = .ok (.istore 4, 2) := by decide +kernel
theorem d_MO_ofClass_21 : decode m_MO_ofClass.2.1 21 = .ok (.iload 4, 2) := by decide +kernel
theorem d_MO_ofClass_23 : decode m_MO_ofClass.2.1 23 = .ok (.ifCond .eq 6, 3) := by decide +kernel
theorem d_MO_ofClass_26 : decode m_MO_ofClass.2.1 26 = .ok (.iinc 3 1, 3) := by decide +kernel
theorem d_MO_ofClass_29 : decode m_MO_ofClass.2.1 29 = .ok (.iconst 0, 1) := by decide +kernel
theorem d_MO_ofClass_30 : decode m_MO_ofClass.2.1 30 = .ok (.istore 5, 2) := by decide +kernel
theorem d_MO_ofClass_32 : decode m_MO_ofClass.2.1 32 = .ok (.aload_n 0, 1) := by decide +kernel
theorem d_MO_ofClass_33 : decode m_MO_ofClass.2.1 33 = .ok (.iload_n 3, 1) := by decide +kernel
theorem d_MO_ofClass_34 : decode m_MO_ofClass.2.1 34 = .ok (.invokevirtual 90, 3) := by decide +kernel
theorem d_MO_ofClass_37 : decode m_MO_ofClass.2.1 37 = .ok (.bipush 93, 2) := by decide +kernel
theorem d_MO_ofClass_39 : decode m_MO_ofClass.2.1 39 = .ok (.if_icmp .eq 78, 3) := by decide +kernel
theorem d_MO_ofClass_42 : decode m_MO_ofClass.2.1 42 = .ok (.aload_n 0, 1) := by decide +kernel
theorem d_MO_ofClass_43 : decode m_MO_ofClass.2.1 43 = .ok (.iload_n 3, 1) := by decide +kernel
theorem d_MO_ofClass_44 : decode m_MO_ofClass.2.1 44 = .ok (.iconst 1, 1) := by decide +kernel
theorem d_MO_ofClass_45 : decode m_MO_ofClass.2.1 45 = .ok (.iadd, 1) := by decide +kernel
theorem d_MO_ofClass_46 : decode m_MO_ofClass.2.1 46 = .ok (.invokevirtual 90, 3) := by decide +kernel
theorem d_MO_ofClass_49 : decode m_MO_ofClass.2.1 49 = .ok (.bipush 45, 2) := by decide +kernel
theorem d_MO_ofClass_51 : decode m_MO_ofClass.2.1 51 = .ok (.if_icmp .ne 7, 3) := by decide +kernel
theorem d_MO_ofClass_54 : decode m_MO_ofClass.2.1 54 = .ok (.iconst 1, 1) := by decide +kernel
theorem d_MO_ofClass_55 : decode m_MO_ofClass.2.1 55 = .ok (.goto 4, 3) := by decide +kernel
theorem d_MO_ofClass_58 : decode m_MO_ofClass.2.1 58 = .ok (.iconst 0, 1) := by decide +kernel
theorem d_MO_ofClass_59 : decode m_MO_ofClass.2.1 59 = .ok (.istore 6, 2) := by decide +kernel
theorem d_MO_ofClass_61 : decode m_MO_ofClass.2.1 61 = .ok (.iload 6, 2) := by decide +kernel
theorem d_MO_ofClass_63 : decode m_MO_ofClass.2.1 63 = .ok (.ifCond .eq 13, 3) := by decide +kernel
theorem d_MO_ofClass_66 : decode m_MO_ofClass.2.1 66 = .ok (.aload_n 0, 1) := by decide +kernel
theorem d_MO_ofClass_67 : decode m_MO_ofClass.2.1 67 = .ok (.iload_n 3, 1) := by decide +kernel
theorem d_MO_ofClass_68 : decode m_MO_ofClass.2.1 68 = .ok (.iconst 2, 1) := by decide +kernel
theorem d_MO_ofClass_69 : decode m_MO_ofClass.2.1 69 = .ok (.iadd, 1) := by decide +kernel
theorem d_MO_ofClass_70 : decode m_MO_ofClass.2.1 70 = .ok (.invokevirtual 90, 3) := by decide +kernel
theorem d_MO_ofClass_73 : decode m_MO_ofClass.2.1 73 = .ok (.goto 8, 3) := by decide +kernel
theorem d_MO_ofClass_76 : decode m_MO_ofClass.2.1 76 = .ok (.aload_n 0, 1) := by decide +kernel
theorem d_MO_ofClass_77 : decode m_MO_ofClass.2.1 77 = .ok (.iload_n 3, 1) := by decide +kernel
theorem d_MO_ofClass_78 : decode m_MO_ofClass.2.1 78 = .ok (.invokevirtual 90, 3) := by decide +kernel
theorem d_MO_ofClass_81 : decode m_MO_ofClass.2.1 81 = .ok (.istore 7, 2) := by decide +kernel
theorem d_MO_ofClass_83 : decode m_MO_ofClass.2.1 83 = .ok (.iload_n 2, 1) := by decide +kernel
theorem d_MO_ofClass_84 : decode m_MO_ofClass.2.1 84 = .ok (.aload_n 0, 1) := by decide +kernel
theorem d_MO_ofClass_85 : decode m_MO_ofClass.2.1 85 = .ok (.iload_n 3, 1) := by decide +kernel
theorem d_MO_ofClass_86 : decode m_MO_ofClass.2.1 86 = .ok (.invokevirtual 90, 3) := by decide +kernel
theorem d_MO_ofClass_89 : decode m_MO_ofClass.2.1 89 = .ok (.if_icmp .lt 12, 3) := by decide +kernel
theorem d_MO_ofClass_92 : decode m_MO_ofClass.2.1 92 = .ok (.iload_n 2, 1) := by decide +kernel
theorem d_MO_ofClass_93 : decode m_MO_ofClass.2.1 93 = .ok (.iload 7, 2) := by decide +kernel
theorem d_MO_ofClass_95 : decode m_MO_ofClass.2.1 95 = .ok (.if_icmp .gt 6, 3) := by decide +kernel
theorem d_MO_ofClass_98 : decode m_MO_ofClass.2.1 98 = .ok (.iconst 1, 1) := by decide +kernel
theorem d_MO_ofClass_99 : decode m_MO_ofClass.2.1 99 = .ok (.istore 5, 2) := by decide +kernel
theorem d_MO_ofClass_101 : decode m_MO_ofClass.2.1 101 = .ok (.iload_n 3, 1) := by decide +kernel
theorem d_MO_ofClass_102 : decode m_MO_ofClass.2.1 102 = .ok (.iload 6, 2) := by decide +kernel
theorem d_MO_ofClass_104 : decode m_MO_ofClass.2.1 104 = .ok (.ifCond .eq 7, 3) := by decide +kernel
theorem d_MO_ofClass_107 : decode m_MO_ofClass.2.1 107 = .ok (.iconst 3, 1) := by decide +kernel
theorem d_MO_ofClass_108 : decode m_MO_ofClass.2.1 108 = .ok (.goto 4, 3) := by decide +kernel
theorem d_MO_ofClass_111 : decode m_MO_ofClass.2.1 111 = .ok (.iconst 1, 1) := by decide +kernel
theorem d_MO_ofClass_112 : decode m_MO_ofClass.2.1 112 = .ok (.iadd, 1) := by decide +kernel
theorem d_MO_ofClass_113 : decode m_MO_ofClass.2.1 113 = .ok (.istore_n 3, 1) := by decide +kernel
theorem d_MO_ofClass_114 : decode m_MO_ofClass.2.1 114 = .ok (.goto (-82), 3) := by decide +kernel
theorem d_MO_ofClass_117 : decode m_MO_ofClass.2.1 117 = .ok (.iload 5, 2) := by decide +kernel
theorem d_MO_ofClass_119 : decode m_MO_ofClass.2.1 119 = .ok (.iload 4, 2) := by decide +kernel
theorem d_MO_ofClass_121 : decode m_MO_ofClass.2.1 121 = .ok (.if_icmp .eq 7, 3) := by decide +kernel
theorem d_MO_ofClass_124 : decode m_MO_ofClass.2.1 124 = .ok (.iconst 1, 1) := by decide +kernel
theorem d_MO_ofClass_125 : decode m_MO_ofClass.2.1 125 = .ok (.goto 4, 3) := by decide +kernel
theorem d_MO_ofClass_128 : decode m_MO_ofClass.2.1 128 = .ok (.iconst 0, 1) := by decide +kernel
theorem d_MO_ofClass_129 : decode m_MO_ofClass.2.1 129 = .ok (.ireturn, 1) := by decide +kernel
theorem d_MO_group_0 : decode m_MO_group.2.1 0 = .ok (.iload_n 1, 1) := by decide +kernel
theorem d_MO_group_1 : decode m_MO_group.2.1 1 = .ok (.ifCond .lt 16, 3) := by decide +kernel
theorem d_MO_group_4 : decode m_MO_group.2.1 4 = .ok (.iload_n 1, 1) := by decide +kernel
theorem d_MO_group_5 : decode m_MO_group.2.1 5 = .ok (.bipush 6, 2) := by decide +kernel
theorem d_MO_group_7 : decode m_MO_group.2.1 7 = .ok (.if_icmp .gt 10, 3) := by decide +kernel
theorem d_MO_group_10 : decode m_MO_group.2.1 10 = .ok (.aload_n 0, 1) := by decide +kernel
theorem d_MO_group_11 : decode m_MO_group.2.1 11 = .ok (.getfield 173, 3) := by decide +kernel
theorem d_MO_group_14 : decode m_MO_group.2.1 14 = .ok (.ifCond .ne 5, 3) := by decide +kernel
theorem d_MO_group_17 : decode m_MO_group.2.1 17 = .ok (.iconst (-1), 1) := by decide +kernel
theorem d_MO_group_18 : decode m_MO_group.2.1 18 = .ok (.ireturn, 1) := by decide +kernel
theorem d_MO_group_19 : decode m_MO_group.2.1 19 = .ok (.aload_n 0, 1) := by decide +kernel
theorem d_MO_group_20 : decode m_MO_group.2.1 20 = .ok (.getfield 183, 3) := by decide +kernel
theorem d_MO_group_23 : decode m_MO_group.2.1 23 = .ok (.ifCond .eq 16, 3) := by decide +kernel
theorem d_MO_group_26 : decode m_MO_group.2.1 26 = .ok (.aload_n 0, 1) := by decide +kernel
theorem d_MO_group_27 : decode m_MO_group.2.1 27 = .ok (.getfield 19, 3) := by decide +kernel
theorem d_MO_group_30 : decode m_MO_group.2.1 30 = .ok (.iconst 2, 1) := by decide +kernel
theorem d_MO_group_31 : decode m_MO_group.2.1 31 = .ok (.iload_n 1, 1) := by decide +kernel
theorem d_MO_group_32 : decode m_MO_group.2.1 32 = .ok (.imul, 1) := by decide +kernel
theorem d_MO_group_33 : decode m_MO_group.2.1 33 = .ok (.iconst 1, 1) := by decide +kernel
theorem d_MO_group_34 : decode m_MO_group.2.1 34 = .ok (.iadd, 1) := by decide +kernel
theorem d_MO_group_35 : decode m_MO_group.2.1 35 = .ok (.iaload, 1) := by decide +kernel
theorem d_MO_group_36 : decode m_MO_group.2.1 36 = .ok (.ifCond .ge 6, 3) := by decide +kernel
theorem d_MO_group_39 : decode m_MO_group.2.1 39 = .ok (.bipush (-2), 2) := by decide +kernel
theorem d_MO_group_41 : decode m_MO_group.2.1 41 = .ok (.ireturn, 1) := by decide +kernel
theorem d_MO_group_42 : decode m_MO_group.2.1 42 = .ok (.aload_n 0, 1) := by decide +kernel
theorem d_MO_group_43 : decode m_MO_group.2.1 43 = .ok (.getfield 19, 3) := by decide +kernel
theorem d_MO_group_46 : decode m_MO_group.2.1 46 = .ok (.iconst 2, 1) := by decide +kernel
theorem d_MO_group_47 : decode m_MO_group.2.1 47 = .ok (.iload_n 1, 1) := by decide +kernel
theorem d_MO_group_48 : decode m_MO_group.2.1 48 = .ok (.imul, 1) := by decide +kernel
theorem d_MO_group_49 : decode m_MO_group.2.1 49 = .ok (.iload_n 2, 1) := by decide +kernel
theorem d_MO_group_50 : decode m_MO_group.2.1 50 = .ok (.ifCond .eq 7, 3) := by decide +kernel
theorem d_MO_group_53 : decode m_MO_group.2.1 53 = .ok (.iconst 1, 1) := by decide +kernel
theorem d_MO_group_54 : decode m_MO_group.2.1 54 = .ok (.goto 4, 3) := by decide +kernel
theorem d_MO_group_57 : decode m_MO_group.2.1 57 = .ok (.iconst 0, 1) := by decide +kernel
theorem d_MO_group_58 : decode m_MO_group.2.1 58 = .ok (.iadd, 1) := by decide +kernel
theorem d_MO_group_59 : decode m_MO_group.2.1 59 = .ok (.iaload, 1) := by decide +kernel
theorem d_MO_group_60 : decode m_MO_group.2.1 60 = .ok (.ireturn, 1) := by decide +kernel
theorem d_MO_whole_0 : decode m_MO_whole.2.1 0 = .ok (.iload_n 1, 1) := by decide +kernel
theorem d_MO_whole_1 : decode m_MO_whole.2.1 1 = .ok (.ifCond .lt 31, 3) := by decide +kernel
theorem d_MO_whole_4 : decode m_MO_whole.2.1 4 = .ok (.iload_n 1, 1) := by decide +kernel
theorem d_MO_whole_5 : decode m_MO_whole.2.1 5 = .ok (.aload_n 0, 1) := by decide +kernel
theorem d_MO_whole_6 : decode m_MO_whole.2.1 6 = .ok (.getfield 164, 3) := by decide +kernel
theorem d_MO_whole_9 : decode m_MO_whole.2.1 9 = .ok (.if_icmp .gt 23, 3) := by decide +kernel
theorem d_MO_whole_12 : decode m_MO_whole.2.1 12 = .ok (.iload_n 2, 1) := by decide +kernel
theorem d_MO_whole_13 : decode m_MO_whole.2.1 13 = .ok (.iload_n 1, 1) := by decide +kernel
theorem d_MO_whole_14 : decode m_MO_whole.2.1 14 = .ok (.if_icmp .lt 18, 3) := by decide +kernel
theorem d_MO_whole_17 : decode m_MO_whole.2.1 17 = .ok (.iload_n 2, 1) := by decide +kernel
theorem d_MO_whole_18 : decode m_MO_whole.2.1 18 = .ok (.aload_n 0, 1) := by decide +kernel
theorem d_MO_whole_19 : decode m_MO_whole.2.1 19 = .ok (.getfield 164, 3) := by decide +kernel
theorem d_MO_whole_22 : decode m_MO_whole.2.1 22 = .ok (.if_icmp .gt 10, 3) := by decide +kernel
theorem d_MO_whole_25 : decode m_MO_whole.2.1 25 = .ok (.aload_n 0, 1) := by decide +kernel
theorem d_MO_whole_26 : decode m_MO_whole.2.1 26 = .ok (.getfield 173, 3) := by decide +kernel
theorem d_MO_whole_29 : decode m_MO_whole.2.1 29 = .ok (.ifCond .ne 5, 3) := by decide +kernel
theorem d_MO_whole_32 : decode m_MO_whole.2.1 32 = .ok (.iconst (-1), 1) := by decide +kernel
theorem d_MO_whole_33 : decode m_MO_whole.2.1 33 = .ok (.ireturn, 1) := by decide +kernel
theorem d_MO_whole_34 : decode m_MO_whole.2.1 34 = .ok (.aload_n 0, 1) := by decide +kernel
theorem d_MO_whole_35 : decode m_MO_whole.2.1 35 = .ok (.iload_n 1, 1) := by decide +kernel
theorem d_MO_whole_36 : decode m_MO_whole.2.1 36 = .ok (.iload_n 2, 1) := by decide +kernel
theorem d_MO_whole_37 : decode m_MO_whole.2.1 37 = .ok (.invokevirtual 170, 3) := by decide +kernel
theorem d_MO_whole_40 : decode m_MO_whole.2.1 40 = .ok (.ifCond .lt 7, 3) := by decide +kernel
theorem d_MO_whole_43 : decode m_MO_whole.2.1 43 = .ok (.iconst 1, 1) := by decide +kernel
theorem d_MO_whole_44 : decode m_MO_whole.2.1 44 = .ok (.goto 4, 3) := by decide +kernel
theorem d_MO_whole_47 : decode m_MO_whole.2.1 47 = .ok (.iconst 0, 1) := by decide +kernel
theorem d_MO_whole_48 : decode m_MO_whole.2.1 48 = .ok (.ireturn, 1) := by decide +kernel
theorem d_MO_matches_0 : decode m_MO_matches.2.1 0 = .ok (.aload_n 0, 1) := by decide +kernel
theorem d_MO_matches_1 : decode m_MO_matches.2.1 1 = .ok (.getfield 173, 3) := by decide +kernel
theorem d_MO_matches_4 : decode m_MO_matches.2.1 4 = .ok (.ifCond .ne 5, 3) := by decide +kernel
theorem d_MO_matches_7 : decode m_MO_matches.2.1 7 = .ok (.iconst (-1), 1) := by decide +kernel
theorem d_MO_matches_8 : decode m_MO_matches.2.1 8 = .ok (.ireturn, 1) := by decide +kernel
theorem d_MO_matches_9 : decode m_MO_matches.2.1 9 = .ok (.iconst 0, 1) := by decide +kernel
theorem d_MO_matches_10 : decode m_MO_matches.2.1 10 = .ok (.istore_n 1, 1) := by decide +kernel
theorem d_MO_matches_11 : decode m_MO_matches.2.1 11 = .ok (.iconst 0, 1) := by decide +kernel
theorem d_MO_matches_12 : decode m_MO_matches.2.1 12 = .ok (.istore_n 2, 1) := by decide +kernel
theorem d_MO_matches_13 : decode m_MO_matches.2.1 13 = .ok (.iload_n 2, 1) := by decide +kernel
theorem d_MO_matches_14 : decode m_MO_matches.2.1 14 = .ok (.aload_n 0, 1) := by decide +kernel
theorem d_MO_matches_15 : decode m_MO_matches.2.1 15 = .ok (.getfield 164, 3) := by decide +kernel
theorem d_MO_matches_18 : decode m_MO_matches.2.1 18 = .ok (.if_icmp .gt 50, 3) := by decide +kernel
theorem d_MO_matches_21 : decode m_MO_matches.2.1 21 = .ok (.aload_n 0, 1) := by decide +kernel
theorem d_MO_matches_22 : decode m_MO_matches.2.1 22 = .ok (.iload_n 2, 1) := by decide +kernel
theorem d_MO_matches_23 : decode m_MO_matches.2.1 23 = .ok (.invokevirtual 186, 3) := by decide +kernel
theorem d_MO_matches_26 : decode m_MO_matches.2.1 26 = .ok (.ifCond .lt 42, 3) := by decide +kernel
theorem d_MO_matches_29 : decode m_MO_matches.2.1 29 = .ok (.iinc 1 1, 3) := by decide +kernel
theorem d_MO_matches_32 : decode m_MO_matches.2.1 32 = .ok (.aload_n 0, 1) := by decide +kernel
theorem d_MO_matches_33 : decode m_MO_matches.2.1 33 = .ok (.getfield 65, 3) := by decide +kernel
theorem d_MO_matches_36 : decode m_MO_matches.2.1 36 = .ok (.iconst 1, 1) := by decide +kernel
theorem d_MO_matches_37 : decode m_MO_matches.2.1 37 = .ok (.iaload, 1) := by decide +kernel
theorem d_MO_matches_38 : decode m_MO_matches.2.1 38 = .ok (.aload_n 0, 1) := by decide +kernel
theorem d_MO_matches_39 : decode m_MO_matches.2.1 39 = .ok (.getfield 65, 3) := by decide +kernel
theorem d_MO_matches_42 : decode m_MO_matches.2.1 42 = .ok (.iconst 0, 1) := by decide +kernel
theorem d_MO_matches_43 : decode m_MO_matches.2.1 43 = .ok (.iaload, 1) := by decide +kernel
theorem d_MO_matches_44 : decode m_MO_matches.2.1 44 = .ok (.if_icmp .le 12, 3) := by decide +kernel
theorem d_MO_matches_47 : decode m_MO_matches.2.1 47 = .ok (.aload_n 0, 1) := by decide +kernel
theorem d_MO_matches_48 : decode m_MO_matches.2.1 48 = .ok (.getfield 65, 3) := by decide +kernel
theorem d_MO_matches_51 : decode m_MO_matches.2.1 51 = .ok (.iconst 1, 1) := by decide +kernel
theorem d_MO_matches_52 : decode m_MO_matches.2.1 52 = .ok (.iaload, 1) := by decide +kernel
theorem d_MO_matches_53 : decode m_MO_matches.2.1 53 = .ok (.goto 11, 3) := by decide +kernel
theorem d_MO_matches_56 : decode m_MO_matches.2.1 56 = .ok (.aload_n 0, 1) := by decide +kernel
theorem d_MO_matches_57 : decode m_MO_matches.2.1 57 = .ok (.getfield 65, 3) := by decide +kernel
theorem d_MO_matches_60 : decode m_MO_matches.2.1 60 = .ok (.iconst 1, 1) := by decide +kernel
theorem d_MO_matches_61 : decode m_MO_matches.2.1 61 = .ok (.iaload, 1) := by decide +kernel
theorem d_MO_matches_62 : decode m_MO_matches.2.1 62 = .ok (.iconst 1, 1) := by decide +kernel
theorem d_MO_matches_63 : decode m_MO_matches.2.1 63 = .ok (.iadd, 1) := by decide +kernel
theorem d_MO_matches_64 : decode m_MO_matches.2.1 64 = .ok (.istore_n 2, 1) := by decide +kernel
theorem d_MO_matches_65 : decode m_MO_matches.2.1 65 = .ok (.goto (-52), 3) := by decide +kernel
theorem d_MO_matches_68 : decode m_MO_matches.2.1 68 = .ok (.iload_n 1, 1) := by decide +kernel
theorem d_MO_matches_69 : decode m_MO_matches.2.1 69 = .ok (.ireturn, 1) := by decide +kernel
theorem d_MO_replace_0 : decode m_MO_replace.2.1 0 = .ok (.iload_n 1, 1) := by decide +kernel
theorem d_MO_replace_1 : decode m_MO_replace.2.1 1 = .ok (.ifCond .lt 16, 3) := by decide +kernel
theorem d_MO_replace_4 : decode m_MO_replace.2.1 4 = .ok (.iload_n 1, 1) := by decide +kernel
theorem d_MO_replace_5 : decode m_MO_replace.2.1 5 = .ok (.bipush 6, 2) := by decide +kernel
theorem d_MO_replace_7 : decode m_MO_replace.2.1 7 = .ok (.if_icmp .gt 10, 3) := by decide +kernel
theorem d_MO_replace_10 : decode m_MO_replace.2.1 10 = .ok (.aload_n 0, 1) := by decide +kernel
theorem d_MO_replace_11 : decode m_MO_replace.2.1 11 = .ok (.getfield 173, 3) := by decide +kernel
theorem d_MO_replace_14 : decode m_MO_replace.2.1 14 = .ok (.ifCond .ne 5, 3) := by decide +kernel
theorem d_MO_replace_17 : decode m_MO_replace.2.1 17 = .ok (.iconst (-1), 1) := by decide +kernel
theorem d_MO_replace_18 : decode m_MO_replace.2.1 18 = .ok (.ireturn, 1) := by decide +kernel
theorem d_MO_replace_19 : decode m_MO_replace.2.1 19 = .ok (.aload_n 0, 1) := by decide +kernel
theorem d_MO_replace_20 : decode m_MO_replace.2.1 20 = .ok (.iconst 0, 1) := by decide +kernel
theorem d_MO_replace_21 : decode m_MO_replace.2.1 21 = .ok (.putfield 189, 3) := by decide +kernel
theorem d_MO_replace_24 : decode m_MO_replace.2.1 24 = .ok (.iconst 0, 1) := by decide +kernel
theorem d_MO_replace_25 : decode m_MO_replace.2.1 25 = .ok (.istore_n 2, 1) := by decide +kernel
theorem d_MO_replace_26 : decode m_MO_replace.2.1 26 = .ok (.iconst 0, 1) := by decide +kernel
theorem d_MO_replace_27 : decode m_MO_replace.2.1 27 = .ok (.istore_n 3, 1) := by decide +kernel
theorem d_MO_replace_28 : decode m_MO_replace.2.1 28 = .ok (.iload_n 2, 1) := by decide +kernel
theorem d_MO_replace_29 : decode m_MO_replace.2.1 29 = .ok (.aload_n 0, 1) := by decide +kernel
theorem d_MO_replace_30 : decode m_MO_replace.2.1 30 = .ok (.getfield 164, 3) := by decide +kernel
theorem d_MO_replace_33 : decode m_MO_replace.2.1 33 = .ok (.if_icmp .gt 100, 3) := by decide +kernel
theorem d_MO_replace_36 : decode m_MO_replace.2.1 36 = .ok (.aload_n 0, 1) := by decide +kernel
theorem d_MO_replace_37 : decode m_MO_replace.2.1 37 = .ok (.iload_n 2, 1) := by decide +kernel
theorem d_MO_replace_38 : decode m_MO_replace.2.1 38 = .ok (.invokevirtual 186, 3) := by decide +kernel
theorem d_MO_replace_41 : decode m_MO_replace.2.1 41 = .ok (.ifCond .lt 92, 3) := by decide +kernel
theorem d_MO_replace_44 : decode m_MO_replace.2.1 44 = .ok (.aload_n 0, 1) := by decide +kernel
theorem d_MO_replace_45 : decode m_MO_replace.2.1 45 = .ok (.iload_n 3, 1) := by decide +kernel
theorem d_MO_replace_46 : decode m_MO_replace.2.1 46 = .ok (.aload_n 0, 1) := by decide +kernel
theorem d_MO_replace_47 : decode m_MO_replace.2.1 47 = .ok (.getfield 65, 3) := by decide +kernel
theorem d_MO_replace_50 : decode m_MO_replace.2.1 50 = .ok (.iconst 0, 1) := by decide +kernel
theorem d_MO_replace_51 : decode m_MO_replace.2.1 51 = .ok (.iaload, 1) := by decide +kernel
theorem d_MO_replace_52 : decode m_MO_replace.2.1 52 = .ok (.invokevirtual 192, 3) := by decide +kernel
theorem d_MO_replace_55 : decode m_MO_replace.2.1 55 = .ok (.aload_n 0, 1) := by decide +kernel
theorem d_MO_replace_56 : decode m_MO_replace.2.1 56 = .ok (.getfield 65, 3) := by decide +kernel
theorem d_MO_replace_59 : decode m_MO_replace.2.1 59 = .ok (.iconst 2, 1) := by decide +kernel
theorem d_MO_replace_60 : decode m_MO_replace.2.1 60 = .ok (.iload_n 1, 1) := by decide +kernel
theorem d_MO_replace_61 : decode m_MO_replace.2.1 61 = .ok (.imul, 1) := by decide +kernel
theorem d_MO_replace_62 : decode m_MO_replace.2.1 62 = .ok (.iconst 1, 1) := by decide +kernel
theorem d_MO_replace_63 : decode m_MO_replace.2.1 63 = .ok (.iadd, 1) := by decide +kernel
theorem d_MO_replace_64 : decode m_MO_replace.2.1 64 = .ok (.iaload, 1) := by decide +kernel
theorem d_MO_replace_65 : decode m_MO_replace.2.1 65 = .ok (.ifCond .lt 25, 3) := by decide +kernel
theorem d_MO_replace_68 : decode m_MO_replace.2.1 68 = .ok (.aload_n 0, 1) := by decide +kernel
theorem d_MO_replace_69 : decode m_MO_replace.2.1 69 = .ok (.aload_n 0, 1) := by decide +kernel
theorem d_MO_replace_70 : decode m_MO_replace.2.1 70 = .ok (.getfield 65, 3) := by decide +kernel
theorem d_MO_replace_73 : decode m_MO_replace.2.1 73 = .ok (.iconst 2, 1) := by decide +kernel
theorem d_MO_replace_74 : decode m_MO_replace.2.1 74 = .ok (.iload_n 1, 1) := by decide +kernel
theorem d_MO_replace_75 : decode m_MO_replace.2.1 75 = .ok (.imul, 1) := by decide +kernel
theorem d_MO_replace_76 : decode m_MO_replace.2.1 76 = .ok (.iaload, 1) := by decide +kernel
theorem d_MO_replace_77 : decode m_MO_replace.2.1 77 = .ok (.aload_n 0, 1) := by decide +kernel
theorem d_MO_replace_78 : decode m_MO_replace.2.1 78 = .ok (.getfield 65, 3) := by decide +kernel
theorem d_MO_replace_81 : decode m_MO_replace.2.1 81 = .ok (.iconst 2, 1) := by decide +kernel
theorem d_MO_replace_82 : decode m_MO_replace.2.1 82 = .ok (.iload_n 1, 1) := by decide +kernel
theorem d_MO_replace_83 : decode m_MO_replace.2.1 83 = .ok (.imul, 1) := by decide +kernel
theorem d_MO_replace_84 : decode m_MO_replace.2.1 84 = .ok (.iconst 1, 1) := by decide +kernel
theorem d_MO_replace_85 : decode m_MO_replace.2.1 85 = .ok (.iadd, 1) := by decide +kernel
theorem d_MO_replace_86 : decode m_MO_replace.2.1 86 = .ok (.iaload, 1) := by decide +kernel
theorem d_MO_replace_87 : decode m_MO_replace.2.1 87 = .ok (.invokevirtual 192, 3) := by decide +kernel
theorem d_MO_replace_90 : decode m_MO_replace.2.1 90 = .ok (.aload_n 0, 1) := by decide +kernel
theorem d_MO_replace_91 : decode m_MO_replace.2.1 91 = .ok (.getfield 65, 3) := by decide +kernel
theorem d_MO_replace_94 : decode m_MO_replace.2.1 94 = .ok (.iconst 1, 1) := by decide +kernel
theorem d_MO_replace_95 : decode m_MO_replace.2.1 95 = .ok (.iaload, 1) := by decide +kernel
theorem d_MO_replace_96 : decode m_MO_replace.2.1 96 = .ok (.istore_n 3, 1) := by decide +kernel
theorem d_MO_replace_97 : decode m_MO_replace.2.1 97 = .ok (.aload_n 0, 1) := by decide +kernel
theorem d_MO_replace_98 : decode m_MO_replace.2.1 98 = .ok (.getfield 65, 3) := by decide +kernel
theorem d_MO_replace_101 : decode m_MO_replace.2.1 101 = .ok (.iconst 1, 1) := by decide +kernel
theorem d_MO_replace_102 : decode m_MO_replace.2.1 102 = .ok (.iaload, 1) := by decide +kernel
theorem d_MO_replace_103 : decode m_MO_replace.2.1 103 = .ok (.aload_n 0, 1) := by decide +kernel
theorem d_MO_replace_104 : decode m_MO_replace.2.1 104 = .ok (.getfield 65, 3) := by decide +kernel
theorem d_MO_replace_107 : decode m_MO_replace.2.1 107 = .ok (.iconst 0, 1) := by decide +kernel
theorem d_MO_replace_108 : decode m_MO_replace.2.1 108 = .ok (.iaload, 1) := by decide +kernel
theorem d_MO_replace_109 : decode m_MO_replace.2.1 109 = .ok (.if_icmp .le 12, 3) := by decide +kernel
theorem d_MO_replace_112 : decode m_MO_replace.2.1 112 = .ok (.aload_n 0, 1) := by decide +kernel
theorem d_MO_replace_113 : decode m_MO_replace.2.1 113 = .ok (.getfield 65, 3) := by decide +kernel
theorem d_MO_replace_116 : decode m_MO_replace.2.1 116 = .ok (.iconst 1, 1) := by decide +kernel
theorem d_MO_replace_117 : decode m_MO_replace.2.1 117 = .ok (.iaload, 1) := by decide +kernel
theorem d_MO_replace_118 : decode m_MO_replace.2.1 118 = .ok (.goto 11, 3) := by decide +kernel
theorem d_MO_replace_121 : decode m_MO_replace.2.1 121 = .ok (.aload_n 0, 1) := by decide +kernel
theorem d_MO_replace_122 : decode m_MO_replace.2.1 122 = .ok (.getfield 65, 3) := by decide +kernel
theorem d_MO_replace_125 : decode m_MO_replace.2.1 125 = .ok (.iconst 1, 1) := by decide +kernel
theorem d_MO_replace_126 : decode m_MO_replace.2.1 126 = .ok (.iaload, 1) := by decide +kernel
theorem d_MO_replace_127 : decode m_MO_replace.2.1 127 = .ok (.iconst 1, 1) := by decide +kernel
theorem d_MO_replace_128 : decode m_MO_replace.2.1 128 = .ok (.iadd, 1) := by decide +kernel
theorem d_MO_replace_129 : decode m_MO_replace.2.1 129 = .ok (.istore_n 2, 1) := by decide +kernel
theorem d_MO_replace_130 : decode m_MO_replace.2.1 130 = .ok (.goto (-102), 3) := by decide +kernel
theorem d_MO_replace_133 : decode m_MO_replace.2.1 133 = .ok (.aload_n 0, 1) := by decide +kernel
theorem d_MO_replace_134 : decode m_MO_replace.2.1 134 = .ok (.iload_n 3, 1) := by decide +kernel
theorem d_MO_replace_135 : decode m_MO_replace.2.1 135 = .ok (.aload_n 0, 1) := by decide +kernel
theorem d_MO_replace_136 : decode m_MO_replace.2.1 136 = .ok (.getfield 164, 3) := by decide +kernel
theorem d_MO_replace_139 : decode m_MO_replace.2.1 139 = .ok (.invokevirtual 192, 3) := by decide +kernel
theorem d_MO_replace_142 : decode m_MO_replace.2.1 142 = .ok (.aload_n 0, 1) := by decide +kernel
theorem d_MO_replace_143 : decode m_MO_replace.2.1 143 = .ok (.getfield 189, 3) := by decide +kernel
theorem d_MO_replace_146 : decode m_MO_replace.2.1 146 = .ok (.ireturn, 1) := by decide +kernel
theorem d_MO_put_0 : decode m_MO_put.2.1 0 = .ok (.iload_n 1, 1) := by decide +kernel
theorem d_MO_put_1 : decode m_MO_put.2.1 1 = .ok (.istore_n 3, 1) := by decide +kernel
theorem d_MO_put_2 : decode m_MO_put.2.1 2 = .ok (.iload_n 3, 1) := by decide +kernel
theorem d_MO_put_3 : decode m_MO_put.2.1 3 = .ok (.iload_n 2, 1) := by decide +kernel
theorem d_MO_put_4 : decode m_MO_put.2.1 4 = .ok (.if_icmp .ge 34, 3) := by decide +kernel
theorem d_MO_put_7 : decode m_MO_put.2.1 7 = .ok (.aload_n 0, 1) := by decide +kernel
theorem d_MO_put_8 : decode m_MO_put.2.1 8 = .ok (.getfield 16, 3) := by decide +kernel
theorem d_MO_put_11 : decode m_MO_put.2.1 11 = .ok (.aload_n 0, 1) := by decide +kernel
theorem d_MO_put_12 : decode m_MO_put.2.1 12 = .ok (.getfield 189, 3) := by decide +kernel
theorem d_MO_put_15 : decode m_MO_put.2.1 15 = .ok (.aload_n 0, 1) := by decide +kernel
theorem d_MO_put_16 : decode m_MO_put.2.1 16 = .ok (.getfield 13, 3) := by decide +kernel
theorem d_MO_put_19 : decode m_MO_put.2.1 19 = .ok (.iload_n 3, 1) := by decide +kernel
theorem d_MO_put_20 : decode m_MO_put.2.1 20 = .ok (.iaload, 1) := by decide +kernel
theorem d_MO_put_21 : decode m_MO_put.2.1 21 = .ok (.iastore, 1) := by decide +kernel
theorem d_MO_put_22 : decode m_MO_put.2.1 22 = .ok (.aload_n 0, 1) := by decide +kernel
theorem d_MO_put_23 : decode m_MO_put.2.1 23 = .ok (.dup, 1) := by decide +kernel
theorem d_MO_put_24 : decode m_MO_put.2.1 24 = .ok (.getfield 189, 3) := by decide +kernel
theorem d_MO_put_27 : decode m_MO_put.2.1 27 = .ok (.iconst 1, 1) := by decide +kernel
theorem d_MO_put_28 : decode m_MO_put.2.1 28 = .ok (.iadd, 1) := by decide +kernel
theorem d_MO_put_29 : decode m_MO_put.2.1 29 = .ok (.putfield 189, 3) := by decide +kernel
theorem d_MO_put_32 : decode m_MO_put.2.1 32 = .ok (.iinc 3 1, 3) := by decide +kernel
theorem d_MO_put_35 : decode m_MO_put.2.1 35 = .ok (.goto (-33), 3) := by decide +kernel
theorem d_MO_put_38 : decode m_MO_put.2.1 38 = .ok (.return_, 1) := by decide +kernel
theorem d_MO_output_0 : decode m_MO_output.2.1 0 = .ok (.iload_n 1, 1) := by decide +kernel
theorem d_MO_output_1 : decode m_MO_output.2.1 1 = .ok (.ifCond .lt 11, 3) := by decide +kernel
theorem d_MO_output_4 : decode m_MO_output.2.1 4 = .ok (.iload_n 1, 1) := by decide +kernel
theorem d_MO_output_5 : decode m_MO_output.2.1 5 = .ok (.aload_n 0, 1) := by decide +kernel
theorem d_MO_output_6 : decode m_MO_output.2.1 6 = .ok (.getfield 189, 3) := by decide +kernel
theorem d_MO_output_9 : decode m_MO_output.2.1 9 = .ok (.if_icmp .lt 8, 3) := by decide +kernel
theorem d_MO_output_12 : decode m_MO_output.2.1 12 = .ok (.bipush (-2), 2) := by decide +kernel
theorem d_MO_output_14 : decode m_MO_output.2.1 14 = .ok (.goto 9, 3) := by decide +kernel
theorem d_MO_output_17 : decode m_MO_output.2.1 17 = .ok (.aload_n 0, 1) := by decide +kernel
theorem d_MO_output_18 : decode m_MO_output.2.1 18 = .ok (.getfield 16, 3) := by decide +kernel
theorem d_MO_output_21 : decode m_MO_output.2.1 21 = .ok (.iload_n 1, 1) := by decide +kernel
theorem d_MO_output_22 : decode m_MO_output.2.1 22 = .ok (.iaload, 1) := by decide +kernel
theorem d_MO_output_23 : decode m_MO_output.2.1 23 = .ok (.ireturn, 1) := by decide +kernel
theorem d_MO_state_0 : decode m_MO_state.2.1 0 = .ok (.iload_n 1, 1) := by decide +kernel
theorem d_MO_state_1 : decode m_MO_state.2.1 1 = .ok (.ifCond .ne 8, 3) := by decide +kernel
theorem d_MO_state_4 : decode m_MO_state.2.1 4 = .ok (.aload_n 0, 1) := by decide +kernel
theorem d_MO_state_5 : decode m_MO_state.2.1 5 = .ok (.getfield 72, 3) := by decide +kernel
theorem d_MO_state_8 : decode m_MO_state.2.1 8 = .ok (.ireturn, 1) := by decide +kernel
theorem d_MO_state_9 : decode m_MO_state.2.1 9 = .ok (.iload_n 1, 1) := by decide +kernel
theorem d_MO_state_10 : decode m_MO_state.2.1 10 = .ok (.iconst 1, 1) := by decide +kernel
theorem d_MO_state_11 : decode m_MO_state.2.1 11 = .ok (.if_icmp .ne 8, 3) := by decide +kernel
theorem d_MO_state_14 : decode m_MO_state.2.1 14 = .ok (.aload_n 0, 1) := by decide +kernel
theorem d_MO_state_15 : decode m_MO_state.2.1 15 = .ok (.getfield 164, 3) := by decide +kernel
theorem d_MO_state_18 : decode m_MO_state.2.1 18 = .ok (.ireturn, 1) := by decide +kernel
theorem d_MO_state_19 : decode m_MO_state.2.1 19 = .ok (.iload_n 1, 1) := by decide +kernel
theorem d_MO_state_20 : decode m_MO_state.2.1 20 = .ok (.iconst 2, 1) := by decide +kernel
theorem d_MO_state_21 : decode m_MO_state.2.1 21 = .ok (.if_icmp .ne 8, 3) := by decide +kernel
theorem d_MO_state_24 : decode m_MO_state.2.1 24 = .ok (.aload_n 0, 1) := by decide +kernel
theorem d_MO_state_25 : decode m_MO_state.2.1 25 = .ok (.getfield 189, 3) := by decide +kernel
theorem d_MO_state_28 : decode m_MO_state.2.1 28 = .ok (.ireturn, 1) := by decide +kernel
theorem d_MO_state_29 : decode m_MO_state.2.1 29 = .ok (.iload_n 1, 1) := by decide +kernel
theorem d_MO_state_30 : decode m_MO_state.2.1 30 = .ok (.iconst 3, 1) := by decide +kernel
theorem d_MO_state_31 : decode m_MO_state.2.1 31 = .ok (.if_icmp .ne 16, 3) := by decide +kernel
theorem d_MO_state_34 : decode m_MO_state.2.1 34 = .ok (.aload_n 0, 1) := by decide +kernel
theorem d_MO_state_35 : decode m_MO_state.2.1 35 = .ok (.getfield 173, 3) := by decide +kernel
theorem d_MO_state_38 : decode m_MO_state.2.1 38 = .ok (.ifCond .eq 7, 3) := by decide +kernel
theorem d_MO_state_41 : decode m_MO_state.2.1 41 = .ok (.iconst 1, 1) := by decide +kernel
theorem d_MO_state_42 : decode m_MO_state.2.1 42 = .ok (.goto 4, 3) := by decide +kernel
theorem d_MO_state_45 : decode m_MO_state.2.1 45 = .ok (.iconst 0, 1) := by decide +kernel
theorem d_MO_state_46 : decode m_MO_state.2.1 46 = .ok (.ireturn, 1) := by decide +kernel
theorem d_MO_state_47 : decode m_MO_state.2.1 47 = .ok (.iload_n 1, 1) := by decide +kernel
theorem d_MO_state_48 : decode m_MO_state.2.1 48 = .ok (.iconst 4, 1) := by decide +kernel
theorem d_MO_state_49 : decode m_MO_state.2.1 49 = .ok (.if_icmp .ne 22, 3) := by decide +kernel
theorem d_MO_state_52 : decode m_MO_state.2.1 52 = .ok (.aload_n 0, 1) := by decide +kernel
theorem d_MO_state_53 : decode m_MO_state.2.1 53 = .ok (.getfield 173, 3) := by decide +kernel
theorem d_MO_state_56 : decode m_MO_state.2.1 56 = .ok (.ifCond .eq 10, 3) := by decide +kernel
theorem d_MO_state_59 : decode m_MO_state.2.1 59 = .ok (.aload_n 0, 1) := by decide +kernel
theorem d_MO_state_60 : decode m_MO_state.2.1 60 = .ok (.getfield 123, 3) := by decide +kernel
theorem d_MO_state_63 : decode m_MO_state.2.1 63 = .ok (.goto 9, 3) := by decide +kernel
theorem d_MO_state_66 : decode m_MO_state.2.1 66 = .ok (.bipush (-2), 2) := by decide +kernel
theorem d_MO_state_68 : decode m_MO_state.2.1 68 = .ok (.goto 4, 3) := by decide +kernel
theorem d_MO_state_71 : decode m_MO_state.2.1 71 = .ok (.iconst (-1), 1) := by decide +kernel
theorem d_MO_state_72 : decode m_MO_state.2.1 72 = .ok (.ireturn, 1) := by decide +kernel
end
section
theorem d_MO_way_0 : decode m_MO_way.2.1 0 = .ok (.iconst 0, 1) := by decide +kernel
theorem d_MO_way_1 : decode m_MO_way.2.1 1 = .ok (.istore_n 3, 1) := by decide +kernel
theorem d_MO_way_2 : decode m_MO_way.2.1 2 = .ok (.iload_n 3, 1) := by decide +kernel
theorem d_MO_way_3 : decode m_MO_way.2.1 3 = .ok (.sipush 4030, 3) := by decide +kernel
theorem d_MO_way_6 : decode m_MO_way.2.1 6 = .ok (.if_icmp .ge 16, 3) := by decide +kernel
theorem d_MO_way_9 : decode m_MO_way.2.1 9 = .ok (.aload_n 0, 1) := by decide +kernel
theorem d_MO_way_10 : decode m_MO_way.2.1 10 = .ok (.getfield 59, 3) := by decide +kernel
theorem d_MO_way_13 : decode m_MO_way.2.1 13 = .ok (.iload_n 3, 1) := by decide +kernel
theorem d_MO_way_14 : decode m_MO_way.2.1 14 = .ok (.iconst 0, 1) := by decide +kernel
theorem d_MO_way_15 : decode m_MO_way.2.1 15 = .ok (.bastore, 1) := by decide +kernel
theorem d_MO_way_16 : decode m_MO_way.2.1 16 = .ok (.iinc 3 1, 3) := by decide +kernel
theorem d_MO_way_19 : decode m_MO_way.2.1 19 = .ok (.goto (-17), 3) := by decide +kernel
theorem d_MO_way_22 : decode m_MO_way.2.1 22 = .ok (.iconst 0, 1) := by decide +kernel
theorem d_MO_way_23 : decode m_MO_way.2.1 23 = .ok (.istore_n 3, 1) := by decide +kernel
theorem d_MO_way_24 : decode m_MO_way.2.1 24 = .ok (.iload_n 3, 1) := by decide +kernel
theorem d_MO_way_25 : decode m_MO_way.2.1 25 = .ok (.bipush 14, 2) := by decide +kernel
theorem d_MO_way_27 : decode m_MO_way.2.1 27 = .ok (.if_icmp .ge 16, 3) := by decide +kernel
theorem d_MO_way_30 : decode m_MO_way.2.1 30 = .ok (.aload_n 0, 1) := by decide +kernel
theorem d_MO_way_31 : decode m_MO_way.2.1 31 = .ok (.getfield 65, 3) := by decide +kernel
theorem d_MO_way_34 : decode m_MO_way.2.1 34 = .ok (.iload_n 3, 1) := by decide +kernel
theorem d_MO_way_35 : decode m_MO_way.2.1 35 = .ok (.iconst (-1), 1) := by decide +kernel
theorem d_MO_way_36 : decode m_MO_way.2.1 36 = .ok (.iastore, 1) := by decide +kernel
theorem d_MO_way_37 : decode m_MO_way.2.1 37 = .ok (.iinc 3 1, 3) := by decide +kernel
theorem d_MO_way_40 : decode m_MO_way.2.1 40 = .ok (.goto (-16), 3) := by decide +kernel
theorem d_MO_way_43 : decode m_MO_way.2.1 43 = .ok (.iconst 1, 1) := by decide +kernel
theorem d_MO_way_44 : decode m_MO_way.2.1 44 = .ok (.istore_n 3, 1) := by decide +kernel
theorem d_MO_way_45 : decode m_MO_way.2.1 45 = .ok (.aload_n 0, 1) := by decide +kernel
theorem d_MO_way_46 : decode m_MO_way.2.1 46 = .ok (.getfield 62, 3) := by decide +kernel
theorem d_MO_way_49 : decode m_MO_way.2.1 49 = .ok (.iconst 0, 1) := by decide +kernel
theorem d_MO_way_50 : decode m_MO_way.2.1 50 = .ok (.iload_n 1, 1) := by decide +kernel
theorem d_MO_way_51 : decode m_MO_way.2.1 51 = .ok (.iastore, 1) := by decide +kernel
theorem d_MO_way_52 : decode m_MO_way.2.1 52 = .ok (.iload_n 3, 1) := by decide +kernel
theorem d_MO_way_53 : decode m_MO_way.2.1 53 = .ok (.ifCond .le 412, 3) := by decide +kernel
theorem d_MO_way_56 : decode m_MO_way.2.1 56 = .ok (.iinc 3 (-1), 3) := by decide +kernel
theorem d_MO_way_59 : decode m_MO_way.2.1 59 = .ok (.aload_n 0, 1) := by decide +kernel
theorem d_MO_way_60 : decode m_MO_way.2.1 60 = .ok (.getfield 62, 3) := by decide +kernel
theorem d_MO_way_63 : decode m_MO_way.2.1 63 = .ok (.iload_n 3, 1) := by decide +kernel
theorem d_MO_way_64 : decode m_MO_way.2.1 64 = .ok (.iaload, 1) := by decide +kernel
theorem d_MO_way_65 : decode m_MO_way.2.1 65 = .ok (.istore 4, 2) := by decide +kernel
theorem d_MO_way_67 : decode m_MO_way.2.1 67 = .ok (.iload 4, 2) := by decide +kernel
theorem d_MO_way_69 : decode m_MO_way.2.1 69 = .ok (.ifCond .ge 29, 3) := by decide +kernel
theorem d_MO_way_72 : decode m_MO_way.2.1 72 = .ok (.iconst (-1), 1) := by decide +kernel
theorem d_MO_way_73 : decode m_MO_way.2.1 73 = .ok (.iload 4, 2) := by decide +kernel
theorem d_MO_way_75 : decode m_MO_way.2.1 75 = .ok (.isub, 1) := by decide +kernel
theorem d_MO_way_76 : decode m_MO_way.2.1 76 = .ok (.istore 5, 2) := by decide +kernel
theorem d_MO_way_78 : decode m_MO_way.2.1 78 = .ok (.aload_n 0, 1) := by decide +kernel
theorem d_MO_way_79 : decode m_MO_way.2.1 79 = .ok (.getfield 65, 3) := by decide +kernel
theorem d_MO_way_82 : decode m_MO_way.2.1 82 = .ok (.iload 5, 2) := by decide +kernel
theorem d_MO_way_84 : decode m_MO_way.2.1 84 = .ok (.bipush 64, 2) := by decide +kernel
theorem d_MO_way_86 : decode m_MO_way.2.1 86 = .ok (.idiv, 1) := by decide +kernel
theorem d_MO_way_87 : decode m_MO_way.2.1 87 = .ok (.iload 5, 2) := by decide +kernel
theorem d_MO_way_89 : decode m_MO_way.2.1 89 = .ok (.bipush 64, 2) := by decide +kernel
theorem d_MO_way_91 : decode m_MO_way.2.1 91 = .ok (.irem, 1) := by decide +kernel
theorem d_MO_way_92 : decode m_MO_way.2.1 92 = .ok (.iconst 1, 1) := by decide +kernel
theorem d_MO_way_93 : decode m_MO_way.2.1 93 = .ok (.isub, 1) := by decide +kernel
theorem d_MO_way_94 : decode m_MO_way.2.1 94 = .ok (.iastore, 1) := by decide +kernel
theorem d_MO_way_95 : decode m_MO_way.2.1 95 = .ok (.goto 367, 3) := by decide +kernel
theorem d_MO_way_98 : decode m_MO_way.2.1 98 = .ok (.iload 4, 2) := by decide +kernel
theorem d_MO_way_100 : decode m_MO_way.2.1 100 = .ok (.bipush 32, 2) := by decide +kernel
theorem d_MO_way_102 : decode m_MO_way.2.1 102 = .ok (.idiv, 1) := by decide +kernel
theorem d_MO_way_103 : decode m_MO_way.2.1 103 = .ok (.istore 5, 2) := by decide +kernel
theorem d_MO_way_105 : decode m_MO_way.2.1 105 = .ok (.iload 4, 2) := by decide +kernel
theorem d_MO_way_107 : decode m_MO_way.2.1 107 = .ok (.bipush 32, 2) := by decide +kernel
theorem d_MO_way_109 : decode m_MO_way.2.1 109 = .ok (.irem, 1) := by decide +kernel
theorem d_MO_way_110 : decode m_MO_way.2.1 110 = .ok (.istore 6, 2) := by decide +kernel
theorem d_MO_way_112 : decode m_MO_way.2.1 112 = .ok (.iconst 1, 1) := by decide +kernel
theorem d_MO_way_113 : decode m_MO_way.2.1 113 = .ok (.istore 7, 2) := by decide +kernel
theorem d_MO_way_115 : decode m_MO_way.2.1 115 = .ok (.iload 7, 2) := by decide +kernel
theorem d_MO_way_117 : decode m_MO_way.2.1 117 = .ok (.ifCond .eq 345, 3) := by decide +kernel
theorem d_MO_way_120 : decode m_MO_way.2.1 120 = .ok (.aload_n 0, 1) := by decide +kernel
theorem d_MO_way_121 : decode m_MO_way.2.1 121 = .ok (.getfield 59, 3) := by decide +kernel
theorem d_MO_way_124 : decode m_MO_way.2.1 124 = .ok (.iload 5, 2) := by decide +kernel
theorem d_MO_way_126 : decode m_MO_way.2.1 126 = .ok (.bipush 31, 2) := by decide +kernel
theorem d_MO_way_128 : decode m_MO_way.2.1 128 = .ok (.imul, 1) := by decide +kernel
theorem d_MO_way_129 : decode m_MO_way.2.1 129 = .ok (.iload 6, 2) := by decide +kernel
theorem d_MO_way_131 : decode m_MO_way.2.1 131 = .ok (.iadd, 1) := by decide +kernel
theorem d_MO_way_132 : decode m_MO_way.2.1 132 = .ok (.baload, 1) := by decide +kernel
theorem d_MO_way_133 : decode m_MO_way.2.1 133 = .ok (.ifCond .ne 7, 3) := by decide +kernel
theorem d_MO_way_136 : decode m_MO_way.2.1 136 = .ok (.iconst 1, 1) := by decide +kernel
theorem d_MO_way_137 : decode m_MO_way.2.1 137 = .ok (.goto 4, 3) := by decide +kernel
theorem d_MO_way_140 : decode m_MO_way.2.1 140 = .ok (.iconst 0, 1) := by decide +kernel
theorem d_MO_way_141 : decode m_MO_way.2.1 141 = .ok (.istore 7, 2) := by decide +kernel
theorem d_MO_way_143 : decode m_MO_way.2.1 143 = .ok (.aload_n 0, 1) := by decide +kernel
theorem d_MO_way_144 : decode m_MO_way.2.1 144 = .ok (.getfield 59, 3) := by decide +kernel
theorem d_MO_way_147 : decode m_MO_way.2.1 147 = .ok (.iload 5, 2) := by decide +kernel
theorem d_MO_way_149 : decode m_MO_way.2.1 149 = .ok (.bipush 31, 2) := by decide +kernel
theorem d_MO_way_151 : decode m_MO_way.2.1 151 = .ok (.imul, 1) := by decide +kernel
theorem d_MO_way_152 : decode m_MO_way.2.1 152 = .ok (.iload 6, 2) := by decide +kernel
theorem d_MO_way_154 : decode m_MO_way.2.1 154 = .ok (.iadd, 1) := by decide +kernel
theorem d_MO_way_155 : decode m_MO_way.2.1 155 = .ok (.iconst 1, 1) := by decide +kernel
theorem d_MO_way_156 : decode m_MO_way.2.1 156 = .ok (.bastore, 1) := by decide +kernel
theorem d_MO_way_157 : decode m_MO_way.2.1 157 = .ok (.iload 7, 2) := by decide +kernel
theorem d_MO_way_159 : decode m_MO_way.2.1 159 = .ok (.ifCond .eq 34, 3) := by decide +kernel
theorem d_MO_way_162 : decode m_MO_way.2.1 162 = .ok (.aload_n 0, 1) := by decide +kernel
theorem d_MO_way_163 : decode m_MO_way.2.1 163 = .ok (.getfield 35, 3) := by decide +kernel
theorem d_MO_way_166 : decode m_MO_way.2.1 166 = .ok (.iload 5, 2) := by decide +kernel
theorem d_MO_way_168 : decode m_MO_way.2.1 168 = .ok (.iaload, 1) := by decide +kernel
theorem d_MO_way_169 : decode m_MO_way.2.1 169 = .ok (.bipush 8, 2) := by decide +kernel
theorem d_MO_way_171 : decode m_MO_way.2.1 171 = .ok (.if_icmp .ne 22, 3) := by decide +kernel
theorem d_MO_way_174 : decode m_MO_way.2.1 174 = .ok (.iload_n 2, 1) := by decide +kernel
theorem d_MO_way_175 : decode m_MO_way.2.1 175 = .ok (.ifCond .lt 9, 3) := by decide +kernel
theorem d_MO_way_178 : decode m_MO_way.2.1 178 = .ok (.iload 6, 2) := by decide +kernel
theorem d_MO_way_180 : decode m_MO_way.2.1 180 = .ok (.iload_n 2, 1) := by decide +kernel
theorem d_MO_way_181 : decode m_MO_way.2.1 181 = .ok (.if_icmp .ne 6, 3) := by decide +kernel
theorem d_MO_way_184 : decode m_MO_way.2.1 184 = .ok (.iload 6, 2) := by decide +kernel
theorem d_MO_way_186 : decode m_MO_way.2.1 186 = .ok (.ireturn, 1) := by decide +kernel
theorem d_MO_way_187 : decode m_MO_way.2.1 187 = .ok (.iconst 0, 1) := by decide +kernel
theorem d_MO_way_188 : decode m_MO_way.2.1 188 = .ok (.istore 7, 2) := by decide +kernel
theorem d_MO_way_190 : decode m_MO_way.2.1 190 = .ok (.goto (-75), 3) := by decide +kernel
theorem d_MO_way_193 : decode m_MO_way.2.1 193 = .ok (.iload 7, 2) := by decide +kernel
theorem d_MO_way_195 : decode m_MO_way.2.1 195 = .ok (.ifCond .eq 70, 3) := by decide +kernel
theorem d_MO_way_198 : decode m_MO_way.2.1 198 = .ok (.aload_n 0, 1) := by decide +kernel
theorem d_MO_way_199 : decode m_MO_way.2.1 199 = .ok (.getfield 35, 3) := by decide +kernel
theorem d_MO_way_202 : decode m_MO_way.2.1 202 = .ok (.iload 5, 2) := by decide +kernel
theorem d_MO_way_204 : decode m_MO_way.2.1 204 = .ok (.iaload, 1) := by decide +kernel
theorem d_MO_way_205 : decode m_MO_way.2.1 205 = .ok (.iconst 5, 1) := by decide +kernel
theorem d_MO_way_206 : decode m_MO_way.2.1 206 = .ok (.if_icmp .ne 59, 3) := by decide +kernel
theorem d_MO_way_209 : decode m_MO_way.2.1 209 = .ok (.aload_n 0, 1) := by decide +kernel
theorem d_MO_way_210 : decode m_MO_way.2.1 210 = .ok (.getfield 62, 3) := by decide +kernel
theorem d_MO_way_213 : decode m_MO_way.2.1 213 = .ok (.iload_n 3, 1) := by decide +kernel
theorem d_MO_way_214 : decode m_MO_way.2.1 214 = .ok (.iconst (-1), 1) := by decide +kernel
theorem d_MO_way_215 : decode m_MO_way.2.1 215 = .ok (.aload_n 0, 1) := by decide +kernel
theorem d_MO_way_216 : decode m_MO_way.2.1 216 = .ok (.getfield 38, 3) := by decide +kernel
theorem d_MO_way_219 : decode m_MO_way.2.1 219 = .ok (.iload 5, 2) := by decide +kernel
theorem d_MO_way_221 : decode m_MO_way.2.1 221 = .ok (.iaload, 1) := by decide +kernel
theorem d_MO_way_222 : decode m_MO_way.2.1 222 = .ok (.bipush 64, 2) := by decide +kernel
theorem d_MO_way_224 : decode m_MO_way.2.1 224 = .ok (.imul, 1) := by decide +kernel
theorem d_MO_way_225 : decode m_MO_way.2.1 225 = .ok (.aload_n 0, 1) := by decide +kernel
theorem d_MO_way_226 : decode m_MO_way.2.1 226 = .ok (.getfield 65, 3) := by decide +kernel
theorem d_MO_way_229 : decode m_MO_way.2.1 229 = .ok (.aload_n 0, 1) := by decide +kernel
theorem d_MO_way_230 : decode m_MO_way.2.1 230 = .ok (.getfield 38, 3) := by decide +kernel
theorem d_MO_way_233 : decode m_MO_way.2.1 233 = .ok (.iload 5, 2) := by decide +kernel
theorem d_MO_way_235 : decode m_MO_way.2.1 235 = .ok (.iaload, 1) := by decide +kernel
theorem d_MO_way_236 : decode m_MO_way.2.1 236 = .ok (.iaload, 1) := by decide +kernel
theorem d_MO_way_237 : decode m_MO_way.2.1 237 = .ok (.iadd, 1) := by decide +kernel
theorem d_MO_way_238 : decode m_MO_way.2.1 238 = .ok (.iconst 1, 1) := by decide +kernel
theorem d_MO_way_239 : decode m_MO_way.2.1 239 = .ok (.iadd, 1) := by decide +kernel
theorem d_MO_way_240 : decode m_MO_way.2.1 240 = .ok (.isub, 1) := by decide +kernel
theorem d_MO_way_241 : decode m_MO_way.2.1 241 = .ok (.iastore, 1) := by decide +kernel
theorem d_MO_way_242 : decode m_MO_way.2.1 242 = .ok (.iinc 3 1, 3) := by decide +kernel
theorem d_MO_way_245 : decode m_MO_way.2.1 245 = .ok (.aload_n 0, 1) := by decide +kernel
theorem d_MO_way_246 : decode m_MO_way.2.1 246 = .ok (.getfield 65, 3) := by decide +kernel
theorem d_MO_way_249 : decode m_MO_way.2.1 249 = .ok (.aload_n 0, 1) := by decide +kernel
theorem d_MO_way_250 : decode m_MO_way.2.1 250 = .ok (.getfield 38, 3) := by decide +kernel
theorem d_MO_way_253 : decode m_MO_way.2.1 253 = .ok (.iload 5, 2) := by decide +kernel
theorem d_MO_way_255 : decode m_MO_way.2.1 255 = .ok (.iaload, 1) := by decide +kernel
theorem d_MO_way_256 : decode m_MO_way.2.1 256 = .ok (.iload 6, 2) := by decide +kernel
theorem d_MO_way_258 : decode m_MO_way.2.1 258 = .ok (.iastore, 1) := by decide +kernel
theorem d_MO_way_259 : decode m_MO_way.2.1 259 = .ok (.iinc 5 1, 3) := by decide +kernel
theorem d_MO_way_262 : decode m_MO_way.2.1 262 = .ok (.goto (-147), 3) := by decide +kernel
theorem d_MO_way_265 : decode m_MO_way.2.1 265 = .ok (.iload 7, 2) := by decide +kernel
theorem d_MO_way_267 : decode m_MO_way.2.1 267 = .ok (.ifCond .eq 55, 3) := by decide +kernel
theorem d_MO_way_270 : decode m_MO_way.2.1 270 = .ok (.aload_n 0, 1) := by decide +kernel
theorem d_MO_way_271 : decode m_MO_way.2.1 271 = .ok (.getfield 35, 3) := by decide +kernel
theorem d_MO_way_274 : decode m_MO_way.2.1 274 = .ok (.iload 5, 2) := by decide +kernel
theorem d_MO_way_276 : decode m_MO_way.2.1 276 = .ok (.iaload, 1) := by decide +kernel
theorem d_MO_way_277 : decode m_MO_way.2.1 277 = .ok (.bipush 6, 2) := by decide +kernel
theorem d_MO_way_279 : decode m_MO_way.2.1 279 = .ok (.if_icmp .ne 43, 3) := by decide +kernel
theorem d_MO_way_282 : decode m_MO_way.2.1 282 = .ok (.aload_n 0, 1) := by decide +kernel
theorem d_MO_way_283 : decode m_MO_way.2.1 283 = .ok (.getfield 62, 3) := by decide +kernel
theorem d_MO_way_286 : decode m_MO_way.2.1 286 = .ok (.iload_n 3, 1) := by decide +kernel
theorem d_MO_way_287 : decode m_MO_way.2.1 287 = .ok (.iload 5, 2) := by decide +kernel
theorem d_MO_way_289 : decode m_MO_way.2.1 289 = .ok (.aload_n 0, 1) := by decide +kernel
theorem d_MO_way_290 : decode m_MO_way.2.1 290 = .ok (.getfield 41, 3) := by decide +kernel
theorem d_MO_way_293 : decode m_MO_way.2.1 293 = .ok (.iload 5, 2) := by decide +kernel
theorem d_MO_way_295 : decode m_MO_way.2.1 295 = .ok (.iaload, 1) := by decide +kernel
theorem d_MO_way_296 : decode m_MO_way.2.1 296 = .ok (.iadd, 1) := by decide +kernel
theorem d_MO_way_297 : decode m_MO_way.2.1 297 = .ok (.bipush 32, 2) := by decide +kernel
theorem d_MO_way_299 : decode m_MO_way.2.1 299 = .ok (.imul, 1) := by decide +kernel
theorem d_MO_way_300 : decode m_MO_way.2.1 300 = .ok (.iload 6, 2) := by decide +kernel
theorem d_MO_way_302 : decode m_MO_way.2.1 302 = .ok (.iadd, 1) := by decide +kernel
theorem d_MO_way_303 : decode m_MO_way.2.1 303 = .ok (.iastore, 1) := by decide +kernel
theorem d_MO_way_304 : decode m_MO_way.2.1 304 = .ok (.iinc 3 1, 3) := by decide +kernel
theorem d_MO_way_307 : decode m_MO_way.2.1 307 = .ok (.iload 5, 2) := by decide +kernel
theorem d_MO_way_309 : decode m_MO_way.2.1 309 = .ok (.aload_n 0, 1) := by decide +kernel
theorem d_MO_way_310 : decode m_MO_way.2.1 310 = .ok (.getfield 38, 3) := by decide +kernel
theorem d_MO_way_313 : decode m_MO_way.2.1 313 = .ok (.iload 5, 2) := by decide +kernel
theorem d_MO_way_315 : decode m_MO_way.2.1 315 = .ok (.iaload, 1) := by decide +kernel
theorem d_MO_way_316 : decode m_MO_way.2.1 316 = .ok (.iadd, 1) := by decide +kernel
theorem d_MO_way_317 : decode m_MO_way.2.1 317 = .ok (.istore 5, 2) := by decide +kernel
theorem d_MO_way_319 : decode m_MO_way.2.1 319 = .ok (.goto (-204), 3) := by decide +kernel
theorem d_MO_way_322 : decode m_MO_way.2.1 322 = .ok (.iload 7, 2) := by decide +kernel
theorem d_MO_way_324 : decode m_MO_way.2.1 324 = .ok (.ifCond .eq 30, 3) := by decide +kernel
theorem d_MO_way_327 : decode m_MO_way.2.1 327 = .ok (.aload_n 0, 1) := by decide +kernel
theorem d_MO_way_328 : decode m_MO_way.2.1 328 = .ok (.getfield 35, 3) := by decide +kernel
theorem d_MO_way_331 : decode m_MO_way.2.1 331 = .ok (.iload 5, 2) := by decide +kernel
theorem d_MO_way_333 : decode m_MO_way.2.1 333 = .ok (.iaload, 1) := by decide +kernel
theorem d_MO_way_334 : decode m_MO_way.2.1 334 = .ok (.bipush 7, 2) := by decide +kernel
theorem d_MO_way_336 : decode m_MO_way.2.1 336 = .ok (.if_icmp .ne 18, 3) := by decide +kernel
theorem d_MO_way_339 : decode m_MO_way.2.1 339 = .ok (.iload 5, 2) := by decide +kernel
theorem d_MO_way_341 : decode m_MO_way.2.1 341 = .ok (.aload_n 0, 1) := by decide +kernel
theorem d_MO_way_342 : decode m_MO_way.2.1 342 = .ok (.getfield 38, 3) := by decide +kernel
theorem d_MO_way_345 : decode m_MO_way.2.1 345 = .ok (.iload 5, 2) := by decide +kernel
theorem d_MO_way_347 : decode m_MO_way.2.1 347 = .ok (.iaload, 1) := by decide +kernel
theorem d_MO_way_348 : decode m_MO_way.2.1 348 = .ok (.iadd, 1) := by decide +kernel
theorem d_MO_way_349 : decode m_MO_way.2.1 349 = .ok (.istore 5, 2) := by decide +kernel
theorem d_MO_way_351 : decode m_MO_way.2.1 351 = .ok (.goto (-236), 3) := by decide +kernel
theorem d_MO_way_354 : decode m_MO_way.2.1 354 = .ok (.iload 7, 2) := by decide +kernel
theorem d_MO_way_356 : decode m_MO_way.2.1 356 = .ok (.ifCond .eq 60, 3) := by decide +kernel
theorem d_MO_way_359 : decode m_MO_way.2.1 359 = .ok (.aload_n 0, 1) := by decide +kernel
theorem d_MO_way_360 : decode m_MO_way.2.1 360 = .ok (.getfield 35, 3) := by decide +kernel
theorem d_MO_way_363 : decode m_MO_way.2.1 363 = .ok (.iload 5, 2) := by decide +kernel
theorem d_MO_way_365 : decode m_MO_way.2.1 365 = .ok (.iaload, 1) := by decide +kernel
theorem d_MO_way_366 : decode m_MO_way.2.1 366 = .ok (.iconst 3, 1) := by decide +kernel
theorem d_MO_way_367 : decode m_MO_way.2.1 367 = .ok (.if_icmp .lt 49, 3) := by decide +kernel
theorem d_MO_way_370 : decode m_MO_way.2.1 370 = .ok (.aload_n 0, 1) := by decide +kernel
theorem d_MO_way_371 : decode m_MO_way.2.1 371 = .ok (.getfield 35, 3) := by decide +kernel
theorem d_MO_way_374 : decode m_MO_way.2.1 374 = .ok (.iload 5, 2) := by decide +kernel
theorem d_MO_way_376 : decode m_MO_way.2.1 376 = .ok (.iaload, 1) := by decide +kernel
theorem d_MO_way_377 : decode m_MO_way.2.1 377 = .ok (.iconst 3, 1) := by decide +kernel
theorem d_MO_way_378 : decode m_MO_way.2.1 378 = .ok (.if_icmp .ne 16, 3) := by decide +kernel
theorem d_MO_way_381 : decode m_MO_way.2.1 381 = .ok (.iload 6, 2) := by decide +kernel
theorem d_MO_way_383 : decode m_MO_way.2.1 383 = .ok (.ifCond .ne 7, 3) := by decide +kernel
theorem d_MO_way_386 : decode m_MO_way.2.1 386 = .ok (.iconst 1, 1) := by decide +kernel
theorem d_MO_way_387 : decode m_MO_way.2.1 387 = .ok (.goto 21, 3) := by decide +kernel
theorem d_MO_way_390 : decode m_MO_way.2.1 390 = .ok (.iconst 0, 1) := by decide +kernel
theorem d_MO_way_391 : decode m_MO_way.2.1 391 = .ok (.goto 17, 3) := by decide +kernel
theorem d_MO_way_394 : decode m_MO_way.2.1 394 = .ok (.iload 6, 2) := by decide +kernel
theorem d_MO_way_396 : decode m_MO_way.2.1 396 = .ok (.aload_n 0, 1) := by decide +kernel
theorem d_MO_way_397 : decode m_MO_way.2.1 397 = .ok (.getfield 164, 3) := by decide +kernel
theorem d_MO_way_400 : decode m_MO_way.2.1 400 = .ok (.if_icmp .ne 7, 3) := by decide +kernel
theorem d_MO_way_403 : decode m_MO_way.2.1 403 = .ok (.iconst 1, 1) := by decide +kernel
theorem d_MO_way_404 : decode m_MO_way.2.1 404 = .ok (.goto 4, 3) := by decide +kernel
theorem d_MO_way_407 : decode m_MO_way.2.1 407 = .ok (.iconst 0, 1) := by decide +kernel
theorem d_MO_way_408 : decode m_MO_way.2.1 408 = .ok (.istore 7, 2) := by decide +kernel
theorem d_MO_way_410 : decode m_MO_way.2.1 410 = .ok (.iinc 5 1, 3) := by decide +kernel
theorem d_MO_way_413 : decode m_MO_way.2.1 413 = .ok (.goto (-298), 3) := by decide +kernel
theorem d_MO_way_416 : decode m_MO_way.2.1 416 = .ok (.iload 7, 2) := by decide +kernel
theorem d_MO_way_418 : decode m_MO_way.2.1 418 = .ok (.ifCond .eq (-303), 3) := by decide +kernel
theorem d_MO_way_421 : decode m_MO_way.2.1 421 = .ok (.iload 6, 2) := by decide +kernel
theorem d_MO_way_423 : decode m_MO_way.2.1 423 = .ok (.aload_n 0, 1) := by decide +kernel
theorem d_MO_way_424 : decode m_MO_way.2.1 424 = .ok (.getfield 164, 3) := by decide +kernel
theorem d_MO_way_427 : decode m_MO_way.2.1 427 = .ok (.if_icmp .ge 23, 3) := by decide +kernel
theorem d_MO_way_430 : decode m_MO_way.2.1 430 = .ok (.aload_n 0, 1) := by decide +kernel
theorem d_MO_way_431 : decode m_MO_way.2.1 431 = .ok (.iload 5, 2) := by decide +kernel
theorem d_MO_way_433 : decode m_MO_way.2.1 433 = .ok (.aload_n 0, 1) := by decide +kernel
theorem d_MO_way_434 : decode m_MO_way.2.1 434 = .ok (.getfield 13, 3) := by decide +kernel
theorem d_MO_way_437 : decode m_MO_way.2.1 437 = .ok (.iload 6, 2) := by decide +kernel
theorem d_MO_way_439 : decode m_MO_way.2.1 439 = .ok (.iaload, 1) := by decide +kernel
theorem d_MO_way_440 : decode m_MO_way.2.1 440 = .ok (.invokevirtual 167, 3) := by decide +kernel
theorem d_MO_way_443 : decode m_MO_way.2.1 443 = .ok (.ifCond .eq 7, 3) := by decide +kernel
theorem d_MO_way_446 : decode m_MO_way.2.1 446 = .ok (.iconst 1, 1) := by decide +kernel
theorem d_MO_way_447 : decode m_MO_way.2.1 447 = .ok (.goto 4, 3) := by decide +kernel
theorem d_MO_way_450 : decode m_MO_way.2.1 450 = .ok (.iconst 0, 1) := by decide +kernel
theorem d_MO_way_451 : decode m_MO_way.2.1 451 = .ok (.istore 7, 2) := by decide +kernel
theorem d_MO_way_453 : decode m_MO_way.2.1 453 = .ok (.iinc 5 1, 3) := by decide +kernel
theorem d_MO_way_456 : decode m_MO_way.2.1 456 = .ok (.iinc 6 1, 3) := by decide +kernel
theorem d_MO_way_459 : decode m_MO_way.2.1 459 = .ok (.goto (-344), 3) := by decide +kernel
theorem d_MO_way_462 : decode m_MO_way.2.1 462 = .ok (.goto (-410), 3) := by decide +kernel
theorem d_MO_way_465 : decode m_MO_way.2.1 465 = .ok (.iconst (-1), 1) := by decide +kernel
theorem d_MO_way_466 : decode m_MO_way.2.1 466 = .ok (.ireturn, 1) := by decide +kernel
theorem d_MO_check_0 : decode m_MO_check.2.1 0 = .ok (.iconst 0, 1) := by decide +kernel
theorem d_MO_check_1 : decode m_MO_check.2.1 1 = .ok (.istore_n 1, 1) := by decide +kernel
theorem d_MO_check_2 : decode m_MO_check.2.1 2 = .ok (.aload_n 0, 1) := by decide +kernel
theorem d_MO_check_3 : decode m_MO_check.2.1 3 = .ok (.iconst 0, 1) := by decide +kernel
theorem d_MO_check_4 : decode m_MO_check.2.1 4 = .ok (.putfield 104, 3) := by decide +kernel
theorem d_MO_check_7 : decode m_MO_check.2.1 7 = .ok (.aload_n 0, 1) := by decide +kernel
theorem d_MO_check_8 : decode m_MO_check.2.1 8 = .ok (.iconst 0, 1) := by decide +kernel
theorem d_MO_check_9 : decode m_MO_check.2.1 9 = .ok (.putfield 87, 3) := by decide +kernel
theorem d_MO_check_12 : decode m_MO_check.2.1 12 = .ok (.aload_n 0, 1) := by decide +kernel
theorem d_MO_check_13 : decode m_MO_check.2.1 13 = .ok (.getfield 22, 3) := by decide +kernel
theorem d_MO_check_16 : decode m_MO_check.2.1 16 = .ok (.iconst 0, 1) := by decide +kernel
theorem d_MO_check_17 : decode m_MO_check.2.1 17 = .ok (.iconst 0, 1) := by decide +kernel
theorem d_MO_check_18 : decode m_MO_check.2.1 18 = .ok (.iastore, 1) := by decide +kernel
theorem d_MO_check_19 : decode m_MO_check.2.1 19 = .ok (.aload_n 0, 1) := by decide +kernel
theorem d_MO_check_20 : decode m_MO_check.2.1 20 = .ok (.getfield 32, 3) := by decide +kernel
theorem d_MO_check_23 : decode m_MO_check.2.1 23 = .ok (.iconst 0, 1) := by decide +kernel
theorem d_MO_check_24 : decode m_MO_check.2.1 24 = .ok (.iconst 0, 1) := by decide +kernel
theorem d_MO_check_25 : decode m_MO_check.2.1 25 = .ok (.bastore, 1) := by decide +kernel
theorem d_MO_check_26 : decode m_MO_check.2.1 26 = .ok (.aload_n 0, 1) := by decide +kernel
theorem d_MO_check_27 : decode m_MO_check.2.1 27 = .ok (.iconst 0, 1) := by decide +kernel
theorem d_MO_check_28 : decode m_MO_check.2.1 28 = .ok (.invokevirtual 107, 3) := by decide +kernel
theorem d_MO_check_31 : decode m_MO_check.2.1 31 = .ok (.aload_n 0, 1) := by decide +kernel
theorem d_MO_check_32 : decode m_MO_check.2.1 32 = .ok (.iconst 0, 1) := by decide +kernel
theorem d_MO_check_33 : decode m_MO_check.2.1 33 = .ok (.putfield 76, 3) := by decide +kernel
theorem d_MO_check_36 : decode m_MO_check.2.1 36 = .ok (.aload_n 0, 1) := by decide +kernel
theorem d_MO_check_37 : decode m_MO_check.2.1 37 = .ok (.iconst 1, 1) := by decide +kernel
theorem d_MO_check_38 : decode m_MO_check.2.1 38 = .ok (.putfield 83, 3) := by decide +kernel
theorem d_MO_check_41 : decode m_MO_check.2.1 41 = .ok (.iconst 0, 1) := by decide +kernel
theorem d_MO_check_42 : decode m_MO_check.2.1 42 = .ok (.istore_n 2, 1) := by decide +kernel
theorem d_MO_check_43 : decode m_MO_check.2.1 43 = .ok (.iconst 0, 1) := by decide +kernel
theorem d_MO_check_44 : decode m_MO_check.2.1 44 = .ok (.istore_n 3, 1) := by decide +kernel
theorem d_MO_check_45 : decode m_MO_check.2.1 45 = .ok (.iload_n 3, 1) := by decide +kernel
theorem d_MO_check_46 : decode m_MO_check.2.1 46 = .ok (.aload_n 0, 1) := by decide +kernel
theorem d_MO_check_47 : decode m_MO_check.2.1 47 = .ok (.getfield 72, 3) := by decide +kernel
theorem d_MO_check_50 : decode m_MO_check.2.1 50 = .ok (.if_icmp .ge 336, 3) := by decide +kernel
theorem d_MO_check_53 : decode m_MO_check.2.1 53 = .ok (.aload_n 0, 1) := by decide +kernel
theorem d_MO_check_54 : decode m_MO_check.2.1 54 = .ok (.iload_n 3, 1) := by decide +kernel
theorem d_MO_check_55 : decode m_MO_check.2.1 55 = .ok (.invokevirtual 90, 3) := by decide +kernel
theorem d_MO_check_58 : decode m_MO_check.2.1 58 = .ok (.istore 4, 2) := by decide +kernel
theorem d_MO_check_60 : decode m_MO_check.2.1 60 = .ok (.iload_n 3, 1) := by decide +kernel
theorem d_MO_check_61 : decode m_MO_check.2.1 61 = .ok (.iconst 1, 1) := by decide +kernel
theorem d_MO_check_62 : decode m_MO_check.2.1 62 = .ok (.iadd, 1) := by decide +kernel
theorem d_MO_check_63 : decode m_MO_check.2.1 63 = .ok (.istore 5, 2) := by decide +kernel
theorem d_MO_check_65 : decode m_MO_check.2.1 65 = .ok (.iload 4, 2) := by decide +kernel
theorem d_MO_check_67 : decode m_MO_check.2.1 67 = .ok (.bipush 42, 2) := by decide +kernel
theorem d_MO_check_69 : decode m_MO_check.2.1 69 = .ok (.bipush 43, 2) := by decide +kernel
theorem d_MO_check_71 : decode m_MO_check.2.1 71 = .ok (.bipush 63, 2) := by decide +kernel
theorem d_MO_check_73 : decode m_MO_check.2.1 73 = .ok (.bipush 123, 2) := by decide +kernel
theorem d_MO_check_75 : decode m_MO_check.2.1 75 = .ok (.invokestatic 68, 3) := by decide +kernel
theorem d_MO_check_78 : decode m_MO_check.2.1 78 = .ok (.ifCond .eq 21, 3) := by decide +kernel
theorem d_MO_check_81 : decode m_MO_check.2.1 81 = .ok (.iload_n 2, 1) := by decide +kernel
theorem d_MO_check_82 : decode m_MO_check.2.1 82 = .ok (.ifCond .ne 5, 3) := by decide +kernel
theorem d_MO_check_85 : decode m_MO_check.2.1 85 = .ok (.iload_n 3, 1) := by decide +kernel
theorem d_MO_check_86 : decode m_MO_check.2.1 86 = .ok (.ireturn, 1) := by decide +kernel
theorem d_MO_check_87 : decode m_MO_check.2.1 87 = .ok (.aload_n 0, 1) := by decide +kernel
theorem d_MO_check_88 : decode m_MO_check.2.1 88 = .ok (.iload_n 3, 1) := by decide +kernel
theorem d_MO_check_89 : decode m_MO_check.2.1 89 = .ok (.invokevirtual 111, 3) := by decide +kernel
theorem d_MO_check_92 : decode m_MO_check.2.1 92 = .ok (.istore 5, 2) := by decide +kernel
theorem d_MO_check_94 : decode m_MO_check.2.1 94 = .ok (.iconst 0, 1) := by decide +kernel
theorem d_MO_check_95 : decode m_MO_check.2.1 95 = .ok (.istore_n 2, 1) := by decide +kernel
theorem d_MO_check_96 : decode m_MO_check.2.1 96 = .ok (.goto 274, 3) := by decide +kernel
theorem d_MO_check_99 : decode m_MO_check.2.1 99 = .ok (.iload 4, 2) := by decide +kernel
theorem d_MO_check_101 : decode m_MO_check.2.1 101 = .ok (.bipush 124, 2) := by decide +kernel
theorem d_MO_check_103 : decode m_MO_check.2.1 103 = .ok (.if_icmp .ne 57, 3) := by decide +kernel
theorem d_MO_check_106 : decode m_MO_check.2.1 106 = .ok (.aload_n 0, 1) := by decide +kernel
theorem d_MO_check_107 : decode m_MO_check.2.1 107 = .ok (.iload_n 1, 1) := by decide +kernel
theorem d_MO_check_108 : decode m_MO_check.2.1 108 = .ok (.invokevirtual 114, 3) := by decide +kernel
theorem d_MO_check_111 : decode m_MO_check.2.1 111 = .ok (.aload_n 0, 1) := by decide +kernel
theorem d_MO_check_112 : decode m_MO_check.2.1 112 = .ok (.getfield 22, 3) := by decide +kernel
theorem d_MO_check_115 : decode m_MO_check.2.1 115 = .ok (.iload_n 1, 1) := by decide +kernel
theorem d_MO_check_116 : decode m_MO_check.2.1 116 = .ok (.aload_n 0, 1) := by decide +kernel
theorem d_MO_check_117 : decode m_MO_check.2.1 117 = .ok (.getfield 22, 3) := by decide +kernel
theorem d_MO_check_120 : decode m_MO_check.2.1 120 = .ok (.iload_n 1, 1) := by decide +kernel
theorem d_MO_check_121 : decode m_MO_check.2.1 121 = .ok (.iaload, 1) := by decide +kernel
theorem d_MO_check_122 : decode m_MO_check.2.1 122 = .ok (.aload_n 0, 1) := by decide +kernel
theorem d_MO_check_123 : decode m_MO_check.2.1 123 = .ok (.getfield 25, 3) := by decide +kernel
theorem d_MO_check_126 : decode m_MO_check.2.1 126 = .ok (.iload_n 1, 1) := by decide +kernel
theorem d_MO_check_127 : decode m_MO_check.2.1 127 = .ok (.iaload, 1) := by decide +kernel
theorem d_MO_check_128 : decode m_MO_check.2.1 128 = .ok (.iadd, 1) := by decide +kernel
theorem d_MO_check_129 : decode m_MO_check.2.1 129 = .ok (.iconst 2, 1) := by decide +kernel
theorem d_MO_check_130 : decode m_MO_check.2.1 130 = .ok (.iadd, 1) := by decide +kernel
theorem d_MO_check_131 : decode m_MO_check.2.1 131 = .ok (.invokestatic 79, 3) := by decide +kernel
theorem d_MO_check_134 : decode m_MO_check.2.1 134 = .ok (.iastore, 1) := by decide +kernel
theorem d_MO_check_135 : decode m_MO_check.2.1 135 = .ok (.aload_n 0, 1) := by decide +kernel
theorem d_MO_check_136 : decode m_MO_check.2.1 136 = .ok (.getfield 32, 3) := by decide +kernel
theorem d_MO_check_139 : decode m_MO_check.2.1 139 = .ok (.iload_n 1, 1) := by decide +kernel
theorem d_MO_check_140 : decode m_MO_check.2.1 140 = .ok (.dup2, 1) := by decide +kernel
theorem d_MO_check_141 : decode m_MO_check.2.1 141 = .ok (.baload, 1) := by decide +kernel
theorem d_MO_check_142 : decode m_MO_check.2.1 142 = .ok (.aload_n 0, 1) := by decide +kernel
theorem d_MO_check_143 : decode m_MO_check.2.1 143 = .ok (.getfield 28, 3) := by decide +kernel
theorem d_MO_check_146 : decode m_MO_check.2.1 146 = .ok (.iload_n 1, 1) := by decide +kernel
theorem d_MO_check_147 : decode m_MO_check.2.1 147 = .ok (.baload, 1) := by decide +kernel
theorem d_MO_check_148 : decode m_MO_check.2.1 148 = .ok (.ior, 1) := by decide +kernel
theorem d_MO_check_149 : decode m_MO_check.2.1 149 = .ok (.bastore, 1) := by decide +kernel
theorem d_MO_check_150 : decode m_MO_check.2.1 150 = .ok (.aload_n 0, 1) := by decide +kernel
theorem d_MO_check_151 : decode m_MO_check.2.1 151 = .ok (.iload_n 1, 1) := by decide +kernel
theorem d_MO_check_152 : decode m_MO_check.2.1 152 = .ok (.invokevirtual 107, 3) := by decide +kernel
theorem d_MO_check_155 : decode m_MO_check.2.1 155 = .ok (.iconst 0, 1) := by decide +kernel
theorem d_MO_check_156 : decode m_MO_check.2.1 156 = .ok (.istore_n 2, 1) := by decide +kernel
theorem d_MO_check_157 : decode m_MO_check.2.1 157 = .ok (.goto 213, 3) := by decide +kernel
theorem d_MO_check_160 : decode m_MO_check.2.1 160 = .ok (.iload 4, 2) := by decide +kernel
theorem d_MO_check_162 : decode m_MO_check.2.1 162 = .ok (.bipush 40, 2) := by decide +kernel
theorem d_MO_check_164 : decode m_MO_check.2.1 164 = .ok (.if_icmp .ne 56, 3) := by decide +kernel
theorem d_MO_check_167 : decode m_MO_check.2.1 167 = .ok (.aload_n 0, 1) := by decide +kernel
theorem d_MO_check_168 : decode m_MO_check.2.1 168 = .ok (.getfield 104, 3) := by decide +kernel
theorem d_MO_check_171 : decode m_MO_check.2.1 171 = .ok (.bipush 6, 2) := by decide +kernel
theorem d_MO_check_173 : decode m_MO_check.2.1 173 = .ok (.if_icmp .ne 5, 3) := by decide +kernel
theorem d_MO_check_176 : decode m_MO_check.2.1 176 = .ok (.iload_n 3, 1) := by decide +kernel
theorem d_MO_check_177 : decode m_MO_check.2.1 177 = .ok (.ireturn, 1) := by decide +kernel
theorem d_MO_check_178 : decode m_MO_check.2.1 178 = .ok (.aload_n 0, 1) := by decide +kernel
theorem d_MO_check_179 : decode m_MO_check.2.1 179 = .ok (.iload_n 1, 1) := by decide +kernel
theorem d_MO_check_180 : decode m_MO_check.2.1 180 = .ok (.invokevirtual 114, 3) := by decide +kernel
theorem d_MO_check_183 : decode m_MO_check.2.1 183 = .ok (.aload_n 0, 1) := by decide +kernel
theorem d_MO_check_184 : decode m_MO_check.2.1 184 = .ok (.dup, 1) := by decide +kernel
theorem d_MO_check_185 : decode m_MO_check.2.1 185 = .ok (.getfield 104, 3) := by decide +kernel
theorem d_MO_check_188 : decode m_MO_check.2.1 188 = .ok (.iconst 1, 1) := by decide +kernel
theorem d_MO_check_189 : decode m_MO_check.2.1 189 = .ok (.iadd, 1) := by decide +kernel
theorem d_MO_check_190 : decode m_MO_check.2.1 190 = .ok (.putfield 104, 3) := by decide +kernel
theorem d_MO_check_193 : decode m_MO_check.2.1 193 = .ok (.iinc 1 1, 3) := by decide +kernel
theorem d_MO_check_196 : decode m_MO_check.2.1 196 = .ok (.aload_n 0, 1) := by decide +kernel
theorem d_MO_check_197 : decode m_MO_check.2.1 197 = .ok (.getfield 22, 3) := by decide +kernel
theorem d_MO_check_200 : decode m_MO_check.2.1 200 = .ok (.iload_n 1, 1) := by decide +kernel
theorem d_MO_check_201 : decode m_MO_check.2.1 201 = .ok (.iconst 0, 1) := by decide +kernel
theorem d_MO_check_202 : decode m_MO_check.2.1 202 = .ok (.iastore, 1) := by decide +kernel
theorem d_MO_check_203 : decode m_MO_check.2.1 203 = .ok (.aload_n 0, 1) := by decide +kernel
theorem d_MO_check_204 : decode m_MO_check.2.1 204 = .ok (.getfield 32, 3) := by decide +kernel
theorem d_MO_check_207 : decode m_MO_check.2.1 207 = .ok (.iload_n 1, 1) := by decide +kernel
theorem d_MO_check_208 : decode m_MO_check.2.1 208 = .ok (.iconst 0, 1) := by decide +kernel
theorem d_MO_check_209 : decode m_MO_check.2.1 209 = .ok (.bastore, 1) := by decide +kernel
theorem d_MO_check_210 : decode m_MO_check.2.1 210 = .ok (.aload_n 0, 1) := by decide +kernel
theorem d_MO_check_211 : decode m_MO_check.2.1 211 = .ok (.iload_n 1, 1) := by decide +kernel
theorem d_MO_check_212 : decode m_MO_check.2.1 212 = .ok (.invokevirtual 107, 3) := by decide +kernel
theorem d_MO_check_215 : decode m_MO_check.2.1 215 = .ok (.iconst 0, 1) := by decide +kernel
theorem d_MO_check_216 : decode m_MO_check.2.1 216 = .ok (.istore_n 2, 1) := by decide +kernel
theorem d_MO_check_217 : decode m_MO_check.2.1 217 = .ok (.goto 153, 3) := by decide +kernel
theorem d_MO_check_220 : decode m_MO_check.2.1 220 = .ok (.iload 4, 2) := by decide +kernel
theorem d_MO_check_222 : decode m_MO_check.2.1 222 = .ok (.bipush 41, 2) := by decide +kernel
theorem d_MO_check_224 : decode m_MO_check.2.1 224 = .ok (.if_icmp .ne 71, 3) := by decide +kernel
theorem d_MO_check_227 : decode m_MO_check.2.1 227 = .ok (.iload_n 1, 1) := by decide +kernel
theorem d_MO_check_228 : decode m_MO_check.2.1 228 = .ok (.ifCond .ne 5, 3) := by decide +kernel
theorem d_MO_check_231 : decode m_MO_check.2.1 231 = .ok (.iload_n 3, 1) := by decide +kernel
theorem d_MO_check_232 : decode m_MO_check.2.1 232 = .ok (.ireturn, 1) := by decide +kernel
theorem d_MO_check_233 : decode m_MO_check.2.1 233 = .ok (.aload_n 0, 1) := by decide +kernel
theorem d_MO_check_234 : decode m_MO_check.2.1 234 = .ok (.iload_n 1, 1) := by decide +kernel
theorem d_MO_check_235 : decode m_MO_check.2.1 235 = .ok (.invokevirtual 114, 3) := by decide +kernel
theorem d_MO_check_238 : decode m_MO_check.2.1 238 = .ok (.aload_n 0, 1) := by decide +kernel
theorem d_MO_check_239 : decode m_MO_check.2.1 239 = .ok (.iconst 2, 1) := by decide +kernel
theorem d_MO_check_240 : decode m_MO_check.2.1 240 = .ok (.aload_n 0, 1) := by decide +kernel
theorem d_MO_check_241 : decode m_MO_check.2.1 241 = .ok (.getfield 22, 3) := by decide +kernel
theorem d_MO_check_244 : decode m_MO_check.2.1 244 = .ok (.iload_n 1, 1) := by decide +kernel
theorem d_MO_check_245 : decode m_MO_check.2.1 245 = .ok (.iaload, 1) := by decide +kernel
theorem d_MO_check_246 : decode m_MO_check.2.1 246 = .ok (.iadd, 1) := by decide +kernel
theorem d_MO_check_247 : decode m_MO_check.2.1 247 = .ok (.aload_n 0, 1) := by decide +kernel
theorem d_MO_check_248 : decode m_MO_check.2.1 248 = .ok (.getfield 25, 3) := by decide +kernel
theorem d_MO_check_251 : decode m_MO_check.2.1 251 = .ok (.iload_n 1, 1) := by decide +kernel
theorem d_MO_check_252 : decode m_MO_check.2.1 252 = .ok (.iaload, 1) := by decide +kernel
theorem d_MO_check_253 : decode m_MO_check.2.1 253 = .ok (.iadd, 1) := by decide +kernel
theorem d_MO_check_254 : decode m_MO_check.2.1 254 = .ok (.invokestatic 79, 3) := by decide +kernel
theorem d_MO_check_257 : decode m_MO_check.2.1 257 = .ok (.putfield 76, 3) := by decide +kernel
theorem d_MO_check_260 : decode m_MO_check.2.1 260 = .ok (.aload_n 0, 1) := by decide +kernel
theorem d_MO_check_261 : decode m_MO_check.2.1 261 = .ok (.aload_n 0, 1) := by decide +kernel
theorem d_MO_check_262 : decode m_MO_check.2.1 262 = .ok (.getfield 32, 3) := by decide +kernel
theorem d_MO_check_265 : decode m_MO_check.2.1 265 = .ok (.iload_n 1, 1) := by decide +kernel
theorem d_MO_check_266 : decode m_MO_check.2.1 266 = .ok (.baload, 1) := by decide +kernel
theorem d_MO_check_267 : decode m_MO_check.2.1 267 = .ok (.ifCond .ne 12, 3) := by decide +kernel
theorem d_MO_check_270 : decode m_MO_check.2.1 270 = .ok (.aload_n 0, 1) := by decide +kernel
theorem d_MO_check_271 : decode m_MO_check.2.1 271 = .ok (.getfield 28, 3) := by decide +kernel
theorem d_MO_check_274 : decode m_MO_check.2.1 274 = .ok (.iload_n 1, 1) := by decide +kernel
theorem d_MO_check_275 : decode m_MO_check.2.1 275 = .ok (.baload, 1) := by decide +kernel
theorem d_MO_check_276 : decode m_MO_check.2.1 276 = .ok (.ifCond .eq 7, 3) := by decide +kernel
theorem d_MO_check_279 : decode m_MO_check.2.1 279 = .ok (.iconst 1, 1) := by decide +kernel
theorem d_MO_check_280 : decode m_MO_check.2.1 280 = .ok (.goto 4, 3) := by decide +kernel
theorem d_MO_check_283 : decode m_MO_check.2.1 283 = .ok (.iconst 0, 1) := by decide +kernel
theorem d_MO_check_284 : decode m_MO_check.2.1 284 = .ok (.putfield 83, 3) := by decide +kernel
theorem d_MO_check_287 : decode m_MO_check.2.1 287 = .ok (.iinc 1 (-1), 3) := by decide +kernel
theorem d_MO_check_290 : decode m_MO_check.2.1 290 = .ok (.iconst 1, 1) := by decide +kernel
theorem d_MO_check_291 : decode m_MO_check.2.1 291 = .ok (.istore_n 2, 1) := by decide +kernel
theorem d_MO_check_292 : decode m_MO_check.2.1 292 = .ok (.goto 78, 3) := by decide +kernel
theorem d_MO_check_295 : decode m_MO_check.2.1 295 = .ok (.iload 4, 2) := by decide +kernel
theorem d_MO_check_297 : decode m_MO_check.2.1 297 = .ok (.invokestatic 117, 3) := by decide +kernel
theorem d_MO_check_300 : decode m_MO_check.2.1 300 = .ok (.ifCond .ne 21, 3) := by decide +kernel
theorem d_MO_check_303 : decode m_MO_check.2.1 303 = .ok (.iload 4, 2) := by decide +kernel
theorem d_MO_check_305 : decode m_MO_check.2.1 305 = .ok (.bipush 46, 2) := by decide +kernel
theorem d_MO_check_307 : decode m_MO_check.2.1 307 = .ok (.bipush 94, 2) := by decide +kernel
theorem d_MO_check_309 : decode m_MO_check.2.1 309 = .ok (.bipush 36, 2) := by decide +kernel
theorem d_MO_check_311 : decode m_MO_check.2.1 311 = .ok (.bipush 91, 2) := by decide +kernel
theorem d_MO_check_313 : decode m_MO_check.2.1 313 = .ok (.invokestatic 68, 3) := by decide +kernel
theorem d_MO_check_316 : decode m_MO_check.2.1 316 = .ok (.ifCond .ne 5, 3) := by decide +kernel
theorem d_MO_check_319 : decode m_MO_check.2.1 319 = .ok (.iload_n 3, 1) := by decide +kernel
theorem d_MO_check_320 : decode m_MO_check.2.1 320 = .ok (.ireturn, 1) := by decide +kernel
theorem d_MO_check_321 : decode m_MO_check.2.1 321 = .ok (.aload_n 0, 1) := by decide +kernel
theorem d_MO_check_322 : decode m_MO_check.2.1 322 = .ok (.iload_n 1, 1) := by decide +kernel
theorem d_MO_check_323 : decode m_MO_check.2.1 323 = .ok (.invokevirtual 114, 3) := by decide +kernel
theorem d_MO_check_326 : decode m_MO_check.2.1 326 = .ok (.aload_n 0, 1) := by decide +kernel
theorem d_MO_check_327 : decode m_MO_check.2.1 327 = .ok (.iconst 1, 1) := by decide +kernel
theorem d_MO_check_328 : decode m_MO_check.2.1 328 = .ok (.putfield 76, 3) := by decide +kernel
theorem d_MO_check_331 : decode m_MO_check.2.1 331 = .ok (.aload_n 0, 1) := by decide +kernel
theorem d_MO_check_332 : decode m_MO_check.2.1 332 = .ok (.iload 4, 2) := by decide +kernel
theorem d_MO_check_334 : decode m_MO_check.2.1 334 = .ok (.bipush 94, 2) := by decide +kernel
theorem d_MO_check_336 : decode m_MO_check.2.1 336 = .ok (.if_icmp .eq 10, 3) := by decide +kernel
theorem d_MO_check_339 : decode m_MO_check.2.1 339 = .ok (.iload 4, 2) := by decide +kernel
theorem d_MO_check_341 : decode m_MO_check.2.1 341 = .ok (.bipush 36, 2) := by decide +kernel
theorem d_MO_check_343 : decode m_MO_check.2.1 343 = .ok (.if_icmp .ne 7, 3) := by decide +kernel
theorem d_MO_check_346 : decode m_MO_check.2.1 346 = .ok (.iconst 1, 1) := by decide +kernel
theorem d_MO_check_347 : decode m_MO_check.2.1 347 = .ok (.goto 4, 3) := by decide +kernel
theorem d_MO_check_350 : decode m_MO_check.2.1 350 = .ok (.iconst 0, 1) := by decide +kernel
theorem d_MO_check_351 : decode m_MO_check.2.1 351 = .ok (.putfield 83, 3) := by decide +kernel
theorem d_MO_check_354 : decode m_MO_check.2.1 354 = .ok (.iload 4, 2) := by decide +kernel
theorem d_MO_check_356 : decode m_MO_check.2.1 356 = .ok (.bipush 91, 2) := by decide +kernel
theorem d_MO_check_358 : decode m_MO_check.2.1 358 = .ok (.if_icmp .ne 10, 3) := by decide +kernel
theorem d_MO_check_361 : decode m_MO_check.2.1 361 = .ok (.aload_n 0, 1) := by decide +kernel
theorem d_MO_check_362 : decode m_MO_check.2.1 362 = .ok (.iload_n 3, 1) := by decide +kernel
theorem d_MO_check_363 : decode m_MO_check.2.1 363 = .ok (.invokevirtual 120, 3) := by decide +kernel
theorem d_MO_check_366 : decode m_MO_check.2.1 366 = .ok (.istore 5, 2) := by decide +kernel
theorem d_MO_check_368 : decode m_MO_check.2.1 368 = .ok (.iconst 1, 1) := by decide +kernel
theorem d_MO_check_369 : decode m_MO_check.2.1 369 = .ok (.istore_n 2, 1) := by decide +kernel
theorem d_MO_check_370 : decode m_MO_check.2.1 370 = .ok (.iload 5, 2) := by decide +kernel
theorem d_MO_check_372 : decode m_MO_check.2.1 372 = .ok (.ifCond .ge 8, 3) := by decide +kernel
theorem d_MO_check_375 : decode m_MO_check.2.1 375 = .ok (.iconst (-1), 1) := by decide +kernel
theorem d_MO_check_376 : decode m_MO_check.2.1 376 = .ok (.iload 5, 2) := by decide +kernel
theorem d_MO_check_378 : decode m_MO_check.2.1 378 = .ok (.isub, 1) := by decide +kernel
theorem d_MO_check_379 : decode m_MO_check.2.1 379 = .ok (.ireturn, 1) := by decide +kernel
theorem d_MO_check_380 : decode m_MO_check.2.1 380 = .ok (.iload 5, 2) := by decide +kernel
theorem d_MO_check_382 : decode m_MO_check.2.1 382 = .ok (.istore_n 3, 1) := by decide +kernel
theorem d_MO_check_383 : decode m_MO_check.2.1 383 = .ok (.goto (-338), 3) := by decide +kernel
theorem d_MO_check_386 : decode m_MO_check.2.1 386 = .ok (.aload_n 0, 1) := by decide +kernel
theorem d_MO_check_387 : decode m_MO_check.2.1 387 = .ok (.iconst 0, 1) := by decide +kernel
theorem d_MO_check_388 : decode m_MO_check.2.1 388 = .ok (.invokevirtual 114, 3) := by decide +kernel
theorem d_MO_check_391 : decode m_MO_check.2.1 391 = .ok (.aload_n 0, 1) := by decide +kernel
theorem d_MO_check_392 : decode m_MO_check.2.1 392 = .ok (.aload_n 0, 1) := by decide +kernel
theorem d_MO_check_393 : decode m_MO_check.2.1 393 = .ok (.getfield 22, 3) := by decide +kernel
theorem d_MO_check_396 : decode m_MO_check.2.1 396 = .ok (.iconst 0, 1) := by decide +kernel
theorem d_MO_check_397 : decode m_MO_check.2.1 397 = .ok (.iaload, 1) := by decide +kernel
theorem d_MO_check_398 : decode m_MO_check.2.1 398 = .ok (.aload_n 0, 1) := by decide +kernel
theorem d_MO_check_399 : decode m_MO_check.2.1 399 = .ok (.getfield 25, 3) := by decide +kernel
theorem d_MO_check_402 : decode m_MO_check.2.1 402 = .ok (.iconst 0, 1) := by decide +kernel
theorem d_MO_check_403 : decode m_MO_check.2.1 403 = .ok (.iaload, 1) := by decide +kernel
theorem d_MO_check_404 : decode m_MO_check.2.1 404 = .ok (.iadd, 1) := by decide +kernel
theorem d_MO_check_405 : decode m_MO_check.2.1 405 = .ok (.invokestatic 79, 3) := by decide +kernel
theorem d_MO_check_408 : decode m_MO_check.2.1 408 = .ok (.putfield 123, 3) := by decide +kernel
theorem d_MO_check_411 : decode m_MO_check.2.1 411 = .ok (.iload_n 1, 1) := by decide +kernel
theorem d_MO_check_412 : decode m_MO_check.2.1 412 = .ok (.ifCond .ne 8, 3) := by decide +kernel
theorem d_MO_check_415 : decode m_MO_check.2.1 415 = .ok (.bipush (-2), 2) := by decide +kernel
theorem d_MO_check_417 : decode m_MO_check.2.1 417 = .ok (.goto 7, 3) := by decide +kernel
theorem d_MO_check_420 : decode m_MO_check.2.1 420 = .ok (.aload_n 0, 1) := by decide +kernel
theorem d_MO_check_421 : decode m_MO_check.2.1 421 = .ok (.getfield 72, 3) := by decide +kernel
theorem d_MO_check_424 : decode m_MO_check.2.1 424 = .ok (.ireturn, 1) := by decide +kernel
theorem d_law_0 : decode m_law.2.1 0 = .ok (.new 7, 3) := by decide +kernel
theorem d_law_3 : decode m_law.2.1 3 = .ok (.dup, 1) := by decide +kernel
theorem d_law_4 : decode m_law.2.1 4 = .ok (.invokespecial 9, 3) := by decide +kernel
theorem d_law_7 : decode m_law.2.1 7 = .ok (.astore_n 1, 1) := by decide +kernel
theorem d_law_8 : decode m_law.2.1 8 = .ok (.new 10, 3) := by decide +kernel
theorem d_law_11 : decode m_law.2.1 11 = .ok (.dup, 1) := by decide +kernel
theorem d_law_12 : decode m_law.2.1 12 = .ok (.invokespecial 12, 3) := by decide +kernel
theorem d_law_15 : decode m_law.2.1 15 = .ok (.astore_n 2, 1) := by decide +kernel
theorem d_law_16 : decode m_law.2.1 16 = .ok (.iconst 0, 1) := by decide +kernel
theorem d_law_17 : decode m_law.2.1 17 = .ok (.istore_n 3, 1) := by decide +kernel
theorem d_law_18 : decode m_law.2.1 18 = .ok (.iload_n 3, 1) := by decide +kernel
theorem d_law_19 : decode m_law.2.1 19 = .ok (.aload_n 0, 1) := by decide +kernel
theorem d_law_20 : decode m_law.2.1 20 = .ok (.arraylength, 1) := by decide +kernel
theorem d_law_21 : decode m_law.2.1 21 = .ok (.iconst 3, 1) := by decide +kernel
theorem d_law_22 : decode m_law.2.1 22 = .ok (.isub, 1) := by decide +kernel
theorem d_law_23 : decode m_law.2.1 23 = .ok (.if_icmp .gt 368, 3) := by decide +kernel
theorem d_law_26 : decode m_law.2.1 26 = .ok (.aload_n 0, 1) := by decide +kernel
theorem d_law_27 : decode m_law.2.1 27 = .ok (.iload_n 3, 1) := by decide +kernel
theorem d_law_28 : decode m_law.2.1 28 = .ok (.iaload, 1) := by decide +kernel
theorem d_law_29 : decode m_law.2.1 29 = .ok (.bipush 15, 2) := by decide +kernel
theorem d_law_31 : decode m_law.2.1 31 = .ok (.iand, 1) := by decide +kernel
theorem d_law_32 : decode m_law.2.1 32 = .ok (.tableswitch 353 0 12 #[68, 91, 104, 117, 130, 153, 166, 189, 238, 271, 284, 307, 330], 68) := by decide +kernel
theorem d_law_100 : decode m_law.2.1 100 = .ok (.aload_n 1, 1) := by decide +kernel
theorem d_law_101 : decode m_law.2.1 101 = .ok (.aload_n 0, 1) := by decide +kernel
theorem d_law_102 : decode m_law.2.1 102 = .ok (.iload_n 3, 1) := by decide +kernel
theorem d_law_103 : decode m_law.2.1 103 = .ok (.iconst 1, 1) := by decide +kernel
theorem d_law_104 : decode m_law.2.1 104 = .ok (.iadd, 1) := by decide +kernel
theorem d_law_105 : decode m_law.2.1 105 = .ok (.iaload, 1) := by decide +kernel
theorem d_law_106 : decode m_law.2.1 106 = .ok (.invokevirtual 13, 3) := by decide +kernel
theorem d_law_109 : decode m_law.2.1 109 = .ok (.aload_n 2, 1) := by decide +kernel
theorem d_law_110 : decode m_law.2.1 110 = .ok (.aload_n 0, 1) := by decide +kernel
theorem d_law_111 : decode m_law.2.1 111 = .ok (.iload_n 3, 1) := by decide +kernel
theorem d_law_112 : decode m_law.2.1 112 = .ok (.iconst 1, 1) := by decide +kernel
theorem d_law_113 : decode m_law.2.1 113 = .ok (.iadd, 1) := by decide +kernel
theorem d_law_114 : decode m_law.2.1 114 = .ok (.iaload, 1) := by decide +kernel
theorem d_law_115 : decode m_law.2.1 115 = .ok (.invokevirtual 17, 3) := by decide +kernel
theorem d_law_118 : decode m_law.2.1 118 = .ok (.if_icmp .eq 267, 3) := by decide +kernel
theorem d_law_121 : decode m_law.2.1 121 = .ok (.iconst 0, 1) := by decide +kernel
theorem d_law_122 : decode m_law.2.1 122 = .ok (.ireturn, 1) := by decide +kernel
theorem d_law_123 : decode m_law.2.1 123 = .ok (.aload_n 1, 1) := by decide +kernel
theorem d_law_124 : decode m_law.2.1 124 = .ok (.invokevirtual 18, 3) := by decide +kernel
theorem d_law_127 : decode m_law.2.1 127 = .ok (.aload_n 2, 1) := by decide +kernel
theorem d_law_128 : decode m_law.2.1 128 = .ok (.invokevirtual 22, 3) := by decide +kernel
theorem d_law_131 : decode m_law.2.1 131 = .ok (.if_icmp .eq 254, 3) := by decide +kernel
theorem d_law_134 : decode m_law.2.1 134 = .ok (.iconst 0, 1) := by decide +kernel
theorem d_law_135 : decode m_law.2.1 135 = .ok (.ireturn, 1) := by decide +kernel
theorem d_law_136 : decode m_law.2.1 136 = .ok (.aload_n 1, 1) := by decide +kernel
theorem d_law_137 : decode m_law.2.1 137 = .ok (.invokevirtual 23, 3) := by decide +kernel
theorem d_law_140 : decode m_law.2.1 140 = .ok (.aload_n 2, 1) := by decide +kernel
theorem d_law_141 : decode m_law.2.1 141 = .ok (.invokevirtual 26, 3) := by decide +kernel
theorem d_law_144 : decode m_law.2.1 144 = .ok (.if_icmp .eq 241, 3) := by decide +kernel
theorem d_law_147 : decode m_law.2.1 147 = .ok (.iconst 0, 1) := by decide +kernel
theorem d_law_148 : decode m_law.2.1 148 = .ok (.ireturn, 1) := by decide +kernel
theorem d_law_149 : decode m_law.2.1 149 = .ok (.aload_n 1, 1) := by decide +kernel
theorem d_law_150 : decode m_law.2.1 150 = .ok (.invokevirtual 27, 3) := by decide +kernel
theorem d_law_153 : decode m_law.2.1 153 = .ok (.aload_n 2, 1) := by decide +kernel
theorem d_law_154 : decode m_law.2.1 154 = .ok (.invokevirtual 30, 3) := by decide +kernel
theorem d_law_157 : decode m_law.2.1 157 = .ok (.if_icmp .eq 228, 3) := by decide +kernel
theorem d_law_160 : decode m_law.2.1 160 = .ok (.iconst 0, 1) := by decide +kernel
theorem d_law_161 : decode m_law.2.1 161 = .ok (.ireturn, 1) := by decide +kernel
theorem d_law_162 : decode m_law.2.1 162 = .ok (.aload_n 1, 1) := by decide +kernel
theorem d_law_163 : decode m_law.2.1 163 = .ok (.aload_n 0, 1) := by decide +kernel
theorem d_law_164 : decode m_law.2.1 164 = .ok (.iload_n 3, 1) := by decide +kernel
theorem d_law_165 : decode m_law.2.1 165 = .ok (.iconst 1, 1) := by decide +kernel
theorem d_law_166 : decode m_law.2.1 166 = .ok (.iadd, 1) := by decide +kernel
theorem d_law_167 : decode m_law.2.1 167 = .ok (.iaload, 1) := by decide +kernel
theorem d_law_168 : decode m_law.2.1 168 = .ok (.invokevirtual 31, 3) := by decide +kernel
theorem d_law_171 : decode m_law.2.1 171 = .ok (.aload_n 2, 1) := by decide +kernel
theorem d_law_172 : decode m_law.2.1 172 = .ok (.aload_n 0, 1) := by decide +kernel
theorem d_law_173 : decode m_law.2.1 173 = .ok (.iload_n 3, 1) := by decide +kernel
theorem d_law_174 : decode m_law.2.1 174 = .ok (.iconst 1, 1) := by decide +kernel
theorem d_law_175 : decode m_law.2.1 175 = .ok (.iadd, 1) := by decide +kernel
theorem d_law_176 : decode m_law.2.1 176 = .ok (.iaload, 1) := by decide +kernel
theorem d_law_177 : decode m_law.2.1 177 = .ok (.invokevirtual 34, 3) := by decide +kernel
theorem d_law_180 : decode m_law.2.1 180 = .ok (.if_icmp .eq 205, 3) := by decide +kernel
theorem d_law_183 : decode m_law.2.1 183 = .ok (.iconst 0, 1) := by decide +kernel
theorem d_law_184 : decode m_law.2.1 184 = .ok (.ireturn, 1) := by decide +kernel
theorem d_law_185 : decode m_law.2.1 185 = .ok (.aload_n 1, 1) := by decide +kernel
theorem d_law_186 : decode m_law.2.1 186 = .ok (.invokevirtual 35, 3) := by decide +kernel
theorem d_law_189 : decode m_law.2.1 189 = .ok (.aload_n 2, 1) := by decide +kernel
theorem d_law_190 : decode m_law.2.1 190 = .ok (.invokevirtual 38, 3) := by decide +kernel
theorem d_law_193 : decode m_law.2.1 193 = .ok (.if_icmp .eq 192, 3) := by decide +kernel
theorem d_law_196 : decode m_law.2.1 196 = .ok (.iconst 0, 1) := by decide +kernel
theorem d_law_197 : decode m_law.2.1 197 = .ok (.ireturn, 1) := by decide +kernel
theorem d_law_198 : decode m_law.2.1 198 = .ok (.aload_n 1, 1) := by decide +kernel
theorem d_law_199 : decode m_law.2.1 199 = .ok (.aload_n 0, 1) := by decide +kernel
theorem d_law_200 : decode m_law.2.1 200 = .ok (.iload_n 3, 1) := by decide +kernel
theorem d_law_201 : decode m_law.2.1 201 = .ok (.iconst 1, 1) := by decide +kernel
theorem d_law_202 : decode m_law.2.1 202 = .ok (.iadd, 1) := by decide +kernel
theorem d_law_203 : decode m_law.2.1 203 = .ok (.iaload, 1) := by decide +kernel
theorem d_law_204 : decode m_law.2.1 204 = .ok (.invokevirtual 39, 3) := by decide +kernel
theorem d_law_207 : decode m_law.2.1 207 = .ok (.aload_n 2, 1) := by decide +kernel
theorem d_law_208 : decode m_law.2.1 208 = .ok (.aload_n 0, 1) := by decide +kernel
theorem d_law_209 : decode m_law.2.1 209 = .ok (.iload_n 3, 1) := by decide +kernel
theorem d_law_210 : decode m_law.2.1 210 = .ok (.iconst 1, 1) := by decide +kernel
theorem d_law_211 : decode m_law.2.1 211 = .ok (.iadd, 1) := by decide +kernel
theorem d_law_212 : decode m_law.2.1 212 = .ok (.iaload, 1) := by decide +kernel
theorem d_law_213 : decode m_law.2.1 213 = .ok (.invokevirtual 42, 3) := by decide +kernel
theorem d_law_216 : decode m_law.2.1 216 = .ok (.if_icmp .eq 169, 3) := by decide +kernel
theorem d_law_219 : decode m_law.2.1 219 = .ok (.iconst 0, 1) := by decide +kernel
theorem d_law_220 : decode m_law.2.1 220 = .ok (.ireturn, 1) := by decide +kernel
theorem d_law_221 : decode m_law.2.1 221 = .ok (.aload_n 1, 1) := by decide +kernel
theorem d_law_222 : decode m_law.2.1 222 = .ok (.aload_n 0, 1) := by decide +kernel
theorem d_law_223 : decode m_law.2.1 223 = .ok (.iload_n 3, 1) := by decide +kernel
theorem d_law_224 : decode m_law.2.1 224 = .ok (.iconst 1, 1) := by decide +kernel
theorem d_law_225 : decode m_law.2.1 225 = .ok (.iadd, 1) := by decide +kernel
theorem d_law_226 : decode m_law.2.1 226 = .ok (.iaload, 1) := by decide +kernel
theorem d_law_227 : decode m_law.2.1 227 = .ok (.aload_n 0, 1) := by decide +kernel
theorem d_law_228 : decode m_law.2.1 228 = .ok (.iload_n 3, 1) := by decide +kernel
theorem d_law_229 : decode m_law.2.1 229 = .ok (.iconst 2, 1) := by decide +kernel
theorem d_law_230 : decode m_law.2.1 230 = .ok (.iadd, 1) := by decide +kernel
theorem d_law_231 : decode m_law.2.1 231 = .ok (.iaload, 1) := by decide +kernel
theorem d_law_232 : decode m_law.2.1 232 = .ok (.ifCond .eq 7, 3) := by decide +kernel
theorem d_law_235 : decode m_law.2.1 235 = .ok (.iconst 1, 1) := by decide +kernel
theorem d_law_236 : decode m_law.2.1 236 = .ok (.goto 4, 3) := by decide +kernel
theorem d_law_239 : decode m_law.2.1 239 = .ok (.iconst 0, 1) := by decide +kernel
theorem d_law_240 : decode m_law.2.1 240 = .ok (.invokevirtual 43, 3) := by decide +kernel
theorem d_law_243 : decode m_law.2.1 243 = .ok (.aload_n 2, 1) := by decide +kernel
theorem d_law_244 : decode m_law.2.1 244 = .ok (.aload_n 0, 1) := by decide +kernel
theorem d_law_245 : decode m_law.2.1 245 = .ok (.iload_n 3, 1) := by decide +kernel
theorem d_law_246 : decode m_law.2.1 246 = .ok (.iconst 1, 1) := by decide +kernel
theorem d_law_247 : decode m_law.2.1 247 = .ok (.iadd, 1) := by decide +kernel
theorem d_law_248 : decode m_law.2.1 248 = .ok (.iaload, 1) := by decide +kernel
theorem d_law_249 : decode m_law.2.1 249 = .ok (.aload_n 0, 1) := by decide +kernel
theorem d_law_250 : decode m_law.2.1 250 = .ok (.iload_n 3, 1) := by decide +kernel
theorem d_law_251 : decode m_law.2.1 251 = .ok (.iconst 2, 1) := by decide +kernel
theorem d_law_252 : decode m_law.2.1 252 = .ok (.iadd, 1) := by decide +kernel
theorem d_law_253 : decode m_law.2.1 253 = .ok (.iaload, 1) := by decide +kernel
theorem d_law_254 : decode m_law.2.1 254 = .ok (.ifCond .eq 7, 3) := by decide +kernel
theorem d_law_257 : decode m_law.2.1 257 = .ok (.iconst 1, 1) := by decide +kernel
theorem d_law_258 : decode m_law.2.1 258 = .ok (.goto 4, 3) := by decide +kernel
theorem d_law_261 : decode m_law.2.1 261 = .ok (.iconst 0, 1) := by decide +kernel
theorem d_law_262 : decode m_law.2.1 262 = .ok (.invokevirtual 47, 3) := by decide +kernel
theorem d_law_265 : decode m_law.2.1 265 = .ok (.if_icmp .eq 120, 3) := by decide +kernel
theorem d_law_268 : decode m_law.2.1 268 = .ok (.iconst 0, 1) := by decide +kernel
theorem d_law_269 : decode m_law.2.1 269 = .ok (.ireturn, 1) := by decide +kernel
theorem d_law_270 : decode m_law.2.1 270 = .ok (.aload_n 1, 1) := by decide +kernel
theorem d_law_271 : decode m_law.2.1 271 = .ok (.aload_n 0, 1) := by decide +kernel
theorem d_law_272 : decode m_law.2.1 272 = .ok (.iload_n 3, 1) := by decide +kernel
theorem d_law_273 : decode m_law.2.1 273 = .ok (.iconst 1, 1) := by decide +kernel
theorem d_law_274 : decode m_law.2.1 274 = .ok (.iadd, 1) := by decide +kernel
theorem d_law_275 : decode m_law.2.1 275 = .ok (.iaload, 1) := by decide +kernel
theorem d_law_276 : decode m_law.2.1 276 = .ok (.aload_n 0, 1) := by decide +kernel
theorem d_law_277 : decode m_law.2.1 277 = .ok (.iload_n 3, 1) := by decide +kernel
theorem d_law_278 : decode m_law.2.1 278 = .ok (.iconst 2, 1) := by decide +kernel
theorem d_law_279 : decode m_law.2.1 279 = .ok (.iadd, 1) := by decide +kernel
theorem d_law_280 : decode m_law.2.1 280 = .ok (.iaload, 1) := by decide +kernel
theorem d_law_281 : decode m_law.2.1 281 = .ok (.invokevirtual 48, 3) := by decide +kernel
theorem d_law_284 : decode m_law.2.1 284 = .ok (.aload_n 2, 1) := by decide +kernel
theorem d_law_285 : decode m_law.2.1 285 = .ok (.aload_n 0, 1) := by decide +kernel
theorem d_law_286 : decode m_law.2.1 286 = .ok (.iload_n 3, 1) := by decide +kernel
theorem d_law_287 : decode m_law.2.1 287 = .ok (.iconst 1, 1) := by decide +kernel
theorem d_law_288 : decode m_law.2.1 288 = .ok (.iadd, 1) := by decide +kernel
theorem d_law_289 : decode m_law.2.1 289 = .ok (.iaload, 1) := by decide +kernel
theorem d_law_290 : decode m_law.2.1 290 = .ok (.aload_n 0, 1) := by decide +kernel
theorem d_law_291 : decode m_law.2.1 291 = .ok (.iload_n 3, 1) := by decide +kernel
theorem d_law_292 : decode m_law.2.1 292 = .ok (.iconst 2, 1) := by decide +kernel
theorem d_law_293 : decode m_law.2.1 293 = .ok (.iadd, 1) := by decide +kernel
theorem d_law_294 : decode m_law.2.1 294 = .ok (.iaload, 1) := by decide +kernel
theorem d_law_295 : decode m_law.2.1 295 = .ok (.invokevirtual 52, 3) := by decide +kernel
theorem d_law_298 : decode m_law.2.1 298 = .ok (.if_icmp .eq 87, 3) := by decide +kernel
theorem d_law_301 : decode m_law.2.1 301 = .ok (.iconst 0, 1) := by decide +kernel
theorem d_law_302 : decode m_law.2.1 302 = .ok (.ireturn, 1) := by decide +kernel
theorem d_law_303 : decode m_law.2.1 303 = .ok (.aload_n 1, 1) := by decide +kernel
theorem d_law_304 : decode m_law.2.1 304 = .ok (.invokevirtual 53, 3) := by decide +kernel
theorem d_law_307 : decode m_law.2.1 307 = .ok (.aload_n 2, 1) := by decide +kernel
theorem d_law_308 : decode m_law.2.1 308 = .ok (.invokevirtual 56, 3) := by decide +kernel
theorem d_law_311 : decode m_law.2.1 311 = .ok (.if_icmp .eq 74, 3) := by decide +kernel
theorem d_law_314 : decode m_law.2.1 314 = .ok (.iconst 0, 1) := by decide +kernel
theorem d_law_315 : decode m_law.2.1 315 = .ok (.ireturn, 1) := by decide +kernel
theorem d_law_316 : decode m_law.2.1 316 = .ok (.aload_n 1, 1) := by decide +kernel
theorem d_law_317 : decode m_law.2.1 317 = .ok (.aload_n 0, 1) := by decide +kernel
theorem d_law_318 : decode m_law.2.1 318 = .ok (.iload_n 3, 1) := by decide +kernel
theorem d_law_319 : decode m_law.2.1 319 = .ok (.iconst 1, 1) := by decide +kernel
theorem d_law_320 : decode m_law.2.1 320 = .ok (.iadd, 1) := by decide +kernel
theorem d_law_321 : decode m_law.2.1 321 = .ok (.iaload, 1) := by decide +kernel
theorem d_law_322 : decode m_law.2.1 322 = .ok (.invokevirtual 57, 3) := by decide +kernel
theorem d_law_325 : decode m_law.2.1 325 = .ok (.aload_n 2, 1) := by decide +kernel
theorem d_law_326 : decode m_law.2.1 326 = .ok (.aload_n 0, 1) := by decide +kernel
theorem d_law_327 : decode m_law.2.1 327 = .ok (.iload_n 3, 1) := by decide +kernel
theorem d_law_328 : decode m_law.2.1 328 = .ok (.iconst 1, 1) := by decide +kernel
theorem d_law_329 : decode m_law.2.1 329 = .ok (.iadd, 1) := by decide +kernel
theorem d_law_330 : decode m_law.2.1 330 = .ok (.iaload, 1) := by decide +kernel
theorem d_law_331 : decode m_law.2.1 331 = .ok (.invokevirtual 60, 3) := by decide +kernel
theorem d_law_334 : decode m_law.2.1 334 = .ok (.if_icmp .eq 51, 3) := by decide +kernel
theorem d_law_337 : decode m_law.2.1 337 = .ok (.iconst 0, 1) := by decide +kernel
theorem d_law_338 : decode m_law.2.1 338 = .ok (.ireturn, 1) := by decide +kernel
theorem d_law_339 : decode m_law.2.1 339 = .ok (.aload_n 1, 1) := by decide +kernel
theorem d_law_340 : decode m_law.2.1 340 = .ok (.aload_n 0, 1) := by decide +kernel
theorem d_law_341 : decode m_law.2.1 341 = .ok (.iload_n 3, 1) := by decide +kernel
theorem d_law_342 : decode m_law.2.1 342 = .ok (.iconst 1, 1) := by decide +kernel
theorem d_law_343 : decode m_law.2.1 343 = .ok (.iadd, 1) := by decide +kernel
theorem d_law_344 : decode m_law.2.1 344 = .ok (.iaload, 1) := by decide +kernel
theorem d_law_345 : decode m_law.2.1 345 = .ok (.invokevirtual 61, 3) := by decide +kernel
theorem d_law_348 : decode m_law.2.1 348 = .ok (.aload_n 2, 1) := by decide +kernel
theorem d_law_349 : decode m_law.2.1 349 = .ok (.aload_n 0, 1) := by decide +kernel
theorem d_law_350 : decode m_law.2.1 350 = .ok (.iload_n 3, 1) := by decide +kernel
theorem d_law_351 : decode m_law.2.1 351 = .ok (.iconst 1, 1) := by decide +kernel
theorem d_law_352 : decode m_law.2.1 352 = .ok (.iadd, 1) := by decide +kernel
theorem d_law_353 : decode m_law.2.1 353 = .ok (.iaload, 1) := by decide +kernel
theorem d_law_354 : decode m_law.2.1 354 = .ok (.invokevirtual 64, 3) := by decide +kernel
theorem d_law_357 : decode m_law.2.1 357 = .ok (.if_icmp .eq 28, 3) := by decide +kernel
theorem d_law_360 : decode m_law.2.1 360 = .ok (.iconst 0, 1) := by decide +kernel
theorem d_law_361 : decode m_law.2.1 361 = .ok (.ireturn, 1) := by decide +kernel
theorem d_law_362 : decode m_law.2.1 362 = .ok (.aload_n 1, 1) := by decide +kernel
theorem d_law_363 : decode m_law.2.1 363 = .ok (.aload_n 0, 1) := by decide +kernel
theorem d_law_364 : decode m_law.2.1 364 = .ok (.iload_n 3, 1) := by decide +kernel
theorem d_law_365 : decode m_law.2.1 365 = .ok (.iconst 1, 1) := by decide +kernel
theorem d_law_366 : decode m_law.2.1 366 = .ok (.iadd, 1) := by decide +kernel
theorem d_law_367 : decode m_law.2.1 367 = .ok (.iaload, 1) := by decide +kernel
theorem d_law_368 : decode m_law.2.1 368 = .ok (.invokevirtual 65, 3) := by decide +kernel
theorem d_law_371 : decode m_law.2.1 371 = .ok (.aload_n 2, 1) := by decide +kernel
theorem d_law_372 : decode m_law.2.1 372 = .ok (.aload_n 0, 1) := by decide +kernel
theorem d_law_373 : decode m_law.2.1 373 = .ok (.iload_n 3, 1) := by decide +kernel
theorem d_law_374 : decode m_law.2.1 374 = .ok (.iconst 1, 1) := by decide +kernel
theorem d_law_375 : decode m_law.2.1 375 = .ok (.iadd, 1) := by decide +kernel
theorem d_law_376 : decode m_law.2.1 376 = .ok (.iaload, 1) := by decide +kernel
theorem d_law_377 : decode m_law.2.1 377 = .ok (.invokevirtual 68, 3) := by decide +kernel
theorem d_law_380 : decode m_law.2.1 380 = .ok (.if_icmp .eq 5, 3) := by decide +kernel
theorem d_law_383 : decode m_law.2.1 383 = .ok (.iconst 0, 1) := by decide +kernel
theorem d_law_384 : decode m_law.2.1 384 = .ok (.ireturn, 1) := by decide +kernel
theorem d_law_385 : decode m_law.2.1 385 = .ok (.iinc 3 3, 3) := by decide +kernel
theorem d_law_388 : decode m_law.2.1 388 = .ok (.goto (-370), 3) := by decide +kernel
theorem d_law_391 : decode m_law.2.1 391 = .ok (.iconst 1, 1) := by decide +kernel
theorem d_law_392 : decode m_law.2.1 392 = .ok (.ireturn, 1) := by decide +kernel
end
section
/-! calls by the number of arguments; stores in boolean arrays; frames. Own work. -/
section XQ
variable {E : xE} {d : Nat} {M : xM} {pc : Nat} {lo : List (Nat × Value)} {st : List Value} {h : xH} {P P' : Option Value → xH → Prop} {M' : xM} {rest : List Value} {a ci idx dc : Nat} {fs : List Value} {v1 v2 v3 v4 v5 : Value}
theorem wp_callV0 (hc : xCV M.1.cls idx M' 0 ci) (hd : decode M.2.1 pc = .ok (.invokevirtual idx, 3)) (hcat : (rest.map fun v => v.category).sum ≤ 8) (ha : h.2.2 a = some (.inr (ci, fs))) (k : wpc E dc M' [.ref a] h P') (hdd : dc + 1 ≤ d) (kk : ∀ r h1, P' r h1 → wp E d M (pc + 3) lo (r.toList ++ rest) h1 P) : wp E d M pc lo (.ref a :: rest) h P := wp_callV (As := []) hc hd rfl rfl hcat ha k hdd kk
theorem wp_callV1 (hc : xCV M.1.cls idx M' 1 ci) (hd : decode M.2.1 pc = .ok (.invokevirtual idx, 3)) (hcat : (rest.map fun v => v.category).sum ≤ 8) (ha : h.2.2 a = some (.inr (ci, fs))) (k : wpc E dc M' [.ref a, v1] h P') (hdd : dc + 1 ≤ d) (kk : ∀ r h1, P' r h1 → wp E d M (pc + 3) lo (r.toList ++ rest) h1 P) : wp E d M pc lo (v1 :: .ref a :: rest) h P := wp_callV (As := [v1]) hc hd rfl rfl hcat ha k hdd kk
theorem wp_callV2 (hc : xCV M.1.cls idx M' 2 ci) (hd : decode M.2.1 pc = .ok (.invokevirtual idx, 3)) (hcat : (rest.map fun v => v.category).sum ≤ 8) (ha : h.2.2 a = some (.inr (ci, fs))) (k : wpc E dc M' [.ref a, v1, v2] h P') (hdd : dc + 1 ≤ d) (kk : ∀ r h1, P' r h1 → wp E d M (pc + 3) lo (r.toList ++ rest) h1 P) : wp E d M pc lo (v2 :: v1 :: .ref a :: rest) h P := wp_callV (As := [v1, v2]) hc hd rfl rfl hcat ha k hdd kk
theorem wp_callV3 (hc : xCV M.1.cls idx M' 3 ci) (hd : decode M.2.1 pc = .ok (.invokevirtual idx, 3)) (hcat : (rest.map fun v => v.category).sum ≤ 8) (ha : h.2.2 a = some (.inr (ci, fs))) (k : wpc E dc M' [.ref a, v1, v2, v3] h P') (hdd : dc + 1 ≤ d) (kk : ∀ r h1, P' r h1 → wp E d M (pc + 3) lo (r.toList ++ rest) h1 P) : wp E d M pc lo (v3 :: v2 :: v1 :: .ref a :: rest) h P := wp_callV (As := [v1, v2, v3]) hc hd rfl rfl hcat ha k hdd kk
theorem wp_callV4 (hc : xCV M.1.cls idx M' 4 ci) (hd : decode M.2.1 pc = .ok (.invokevirtual idx, 3)) (hcat : (rest.map fun v => v.category).sum ≤ 8) (ha : h.2.2 a = some (.inr (ci, fs))) (k : wpc E dc M' [.ref a, v1, v2, v3, v4] h P') (hdd : dc + 1 ≤ d) (kk : ∀ r h1, P' r h1 → wp E d M (pc + 3) lo (r.toList ++ rest) h1 P) : wp E d M pc lo (v4 :: v3 :: v2 :: v1 :: .ref a :: rest) h P := wp_callV (As := [v1, v2, v3, v4]) hc hd rfl rfl hcat ha k hdd kk
theorem wp_callS1 (hc : xCS M.1.cls idx M' 1) (hd : decode M.2.1 pc = .ok (.invokestatic idx, 3)) (hcat : (rest.map fun v => v.category).sum ≤ 8) (k : wpc E dc M' [v1] h P') (hdd : dc + 1 ≤ d) (kk : ∀ r h1, P' r h1 → wp E d M (pc + 3) lo (r.toList ++ rest) h1 P) : wp E d M pc lo (v1 :: rest) h P := wp_callS (As := [v1]) hc hd rfl rfl hcat k hdd kk
theorem wp_callS2 (hc : xCS M.1.cls idx M' 2) (hd : decode M.2.1 pc = .ok (.invokestatic idx, 3)) (hcat : (rest.map fun v => v.category).sum ≤ 8) (k : wpc E dc M' [v1, v2] h P') (hdd : dc + 1 ≤ d) (kk : ∀ r h1, P' r h1 → wp E d M (pc + 3) lo (r.toList ++ rest) h1 P) : wp E d M pc lo (v2 :: v1 :: rest) h P := wp_callS (As := [v1, v2]) hc hd rfl rfl hcat k hdd kk
theorem wp_callS4 (hc : xCS M.1.cls idx M' 4) (hd : decode M.2.1 pc = .ok (.invokestatic idx, 3)) (hcat : (rest.map fun v => v.category).sum ≤ 8) (k : wpc E dc M' [v1, v2, v3, v4] h P') (hdd : dc + 1 ≤ d) (kk : ∀ r h1, P' r h1 → wp E d M (pc + 3) lo (r.toList ++ rest) h1 P) : wp E d M pc lo (v4 :: v3 :: v2 :: v1 :: rest) h P := wp_callS (As := [v1, v2, v3, v4]) hc hd rfl rfl hcat k hdd kk
theorem wp_callS5 (hc : xCS M.1.cls idx M' 5) (hd : decode M.2.1 pc = .ok (.invokestatic idx, 3)) (hcat : (rest.map fun v => v.category).sum ≤ 8) (k : wpc E dc M' [v1, v2, v3, v4, v5] h P') (hdd : dc + 1 ≤ d) (kk : ∀ r h1, P' r h1 → wp E d M (pc + 3) lo (r.toList ++ rest) h1 P) : wp E d M pc lo (v5 :: v4 :: v3 :: v2 :: v1 :: rest) h P := wp_callS (As := [v1, v2, v3, v4, v5]) hc hd rfl rfl hcat k hdd kk
theorem wp_callI0 (hc : xCI M.1.cls idx M' 0) (hd : decode M.2.1 pc = .ok (.invokespecial idx, 3)) (hcat : (rest.map fun v => v.category).sum ≤ 8) (k : wpc E dc M' [.ref a] h P') (hdd : dc + 1 ≤ d) (kk : ∀ r h1, P' r h1 → wp E d M (pc + 3) lo (r.toList ++ rest) h1 P) : wp E d M pc lo (.ref a :: rest) h P := wp_callI (As := []) hc hd rfl rfl hcat k hdd kk
theorem wp_callI1 (hc : xCI M.1.cls idx M' 1) (hd : decode M.2.1 pc = .ok (.invokespecial idx, 3)) (hcat : (rest.map fun v => v.category).sum ≤ 8) (k : wpc E dc M' [.ref a, v1] h P') (hdd : dc + 1 ≤ d) (kk : ∀ r h1, P' r h1 → wp E d M (pc + 3) lo (r.toList ++ rest) h1 P) : wp E d M pc lo (v1 :: .ref a :: rest) h P := wp_callI (As := [v1]) hc hd rfl rfl hcat k hdd kk
theorem wp_aln {t n : Nat} {cA : ClassId} {x : (Nat → Int32) ⊕ (Nat → Int64) ⊕ (Nat → UInt32) ⊕ (Nat → UInt64) ⊕ (Nat → Option Nat)} {ty : FieldType} (hd : decode M.2.1 pc = .ok (.arraylength, 1)) (ha : h.2.2 a = some (.inl (cA, n, x))) (ht : E.2.2[t]? = some (cA, ty))
    (kk : wp E d M (pc + 1) lo (.int (nI n) :: st) h P) : wp E d M pc lo (.ref a :: st) h P := wp_alen hd ha ht kk
theorem wp_zast {t n : Nat} {cA : ClassId} {f : Nat → Int32} {i x : Int32} (hd : decode M.2.1 pc = .ok (.bastore, 1)) (ha : h.2.2 a = some (.inl (cA, n, .inl f))) (ht : E.2.2[t]? = some (cA, .boolean)) (hi : vp_in i n) (hx01 : x = 0 ∨ x = 1)
    (kk : wp E d M (pc + 1) lo st (xput h a (.inl (cA, n, .inl (upd f i.toNatClampNeg x)))) P) : wp E d M pc lo (.int x :: .int i :: .ref a :: st) h P := by
  refine wp_al (h2 := xput h a (.inl (cA, n, .inl (upd f i.toNatClampNeg x)))) 0 0 rfl rfl (fun p l e R s m args below meth c Q cells slots H locs ls C _ _ _ _ hR hlo hls kk => ?_) kk
  have hK := C.2.2.2.2.2.2.1.1
  have hn2 : narrow .boolean (.int x) = .int x := by rcases hx01 with rfl | rfl <;> rfl
  refine W.zast C.1 C.2.1 (hR.2.1 a _ ha).2 ((hK.2 t _ ht).1 n (fun j => .int (f j))) (fun q => by cases q) (by show ¬ (i < 0 ∨ (arrV _ _ _).slots.size ≤ _); rw [arrV_size]; exact hi) rfl rfl hd fun H1 e z oq => ?_
  rw [hn2] at e
  refine kk H1 _ (hR.put (hR.2.1 a _ ha).1 ?_ z oq) (fun q hq => ?_)
  · show H1[a]? = some (vp_cell _ _)
    rw [e]
    rw [vp_cell_i, vp_cell_i, arrV_store]
    congr 2
    funext q
    by_cases hq : q = i.toNatClampNeg
    · subst hq
      simp [updV, upd]
    · simp [updV, upd, hq]
  · rcases List.mem_append.mp hq with h9 | h9
    · exact hlo q h9
    · rw [List.mem_singleton.mp h9]
      exact (hR.2.1 a _ ha).1
end XQ
/-- new cells, and beyond the addresses in S no old one has changed -/
def xgr (E : xE) (S : List Nat) (k s : Nat) (h h' : xH) : Prop := h'.1 = h.1 + k ∧ h'.2.1 = h.2.1 + s ∧ ∀ q : Nat, q < xb E + h.1 → q ∉ S → h'.2.2 q = h.2.2 q
theorem xgr.at {E : xE} {S : List Nat} {k s : Nat} {h h' : xH} (a : xgr E S k s h h') {q : Nat} (h1 : q < xb E + h.1) (hq : q ∉ S) {v : Option va_E} (hv : h.2.2 q = v) : h'.2.2 q = v := (a.2.2 q h1 hq).trans hv
/-- beyond the addresses in S nothing has changed -/
def xfr (S : List Nat) (h h' : xH) : Prop := h'.1 = h.1 ∧ h'.2.1 = h.2.1 ∧ ∀ q : Nat, q ∉ S → h'.2.2 q = h.2.2 q
theorem xfr.rf {S : List Nat} {h : xH} : xfr S h h := ⟨rfl, rfl, fun _ _ => rfl⟩
theorem xfr.tr {S : List Nat} {h h' h'' : xH} (a : xfr S h h') (b : xfr S h' h'') : xfr S h h'' := ⟨b.1.trans a.1, b.2.1.trans a.2.1, fun q hq => (b.2.2 q hq).trans (a.2.2 q hq)⟩
theorem xfr.put {S : List Nat} {h h' : xH} (a : xfr S h h') {b : Nat} {e : va_E} (hb : b ∈ S) : xfr S h (xput h' b e) := ⟨a.1, a.2.1, fun q hq => by
  rw [← a.2.2 q hq]
  exact xg_ne (fun e => hq (e ▸ hb)) rfl⟩
theorem xfr.sub {S S' : List Nat} {h h' : xH} (a : xfr S h h') (hs : ∀ q ∈ S, q ∈ S') : xfr S' h h' := ⟨a.1, a.2.1, fun q hq => a.2.2 q (fun z => hq (hs q z))⟩
theorem xfr.at {S : List Nat} {h h' : xH} (a : xfr S h h') {q : Nat} (hq : q ∉ S) {v : Option va_E} (hv : h.2.2 q = v) : h'.2.2 q = v := (a.2.2 q hq).trans hv
end
section
/-! PatternSearch$Signs: a row of signs -/
/-- the cells of a row of signs: the object at a, its array at r, of n places, the first len of them f's -/
def Sg (E : xE) (h : xH) (a r n : Nat) (f : Nat → Int32) (len : Nat) : Prop := h.2.2 a = some (ob 8 [.ref r, .int (nI len)]) ∧ h.2.2 r = some (aI E n f) ∧ a ≠ r ∧ len ≤ n ∧ n ≤ 1000
def sgAt (f : Nat → Int32) (len : Nat) (p : Int32) : Int32 := if p < 0 then -2 else if nI len ≤ p then -2 else f p.toNatClampNeg
section SI
variable {E : xE} (hE : xOK E) {h : xH} {a r n len : Nat} {f : Nat → Int32}
theorem c_SI_length (hs : Sg E h a r n f len) : wpc E 0 m_SI_length [.ref a] h (fun r' h' => r' = some (.int (nI len)) ∧ h' = h) := by
  obtain ⟨h1, h2, h3, h4, h5⟩ := hs
  refine wpc_of rfl (Nat.le_of_ble_eq_true rfl) ?_
  refine wp_aload_n d_SI_length_0 rfl rfl ?_
  refine wp_get xf_SI_15 d_SI_length_1 (by repeat first | assumption | exact xg_eq | exact xn_eq (by first | rfl | omega) | refine xg_ne (by first | assumption | omega | (simp only [xput, xnew]; omega)) ?_ | refine xn_ne (by first | assumption | omega | (simp only [xput, xnew]; omega)) ?_ | exact rfl) (by rfl) ?_
  refine wp_ireturn d_SI_length_4 rfl (by first | rfl | assumption) ?_
  exact ⟨rfl, rfl⟩
theorem c_SI_clear (hs : Sg E h a r n f len) : wpc E 0 m_SI_clear [.ref a] h (fun r' h' => r' = none ∧ h' = xput h a (ob 8 [.ref r, .int (nI 0)])) := by
  obtain ⟨h1, h2, h3, h4, h5⟩ := hs
  refine wpc_of rfl (Nat.le_of_ble_eq_true rfl) ?_
  refine wp_aload_n d_SI_clear_0 rfl rfl ?_
  refine wp_iconst (v := 0) d_SI_clear_1 (by rfl) ?_
  refine wp_put xf_SI_15 xg_SI (Or.inl rfl) d_SI_clear_2 (by repeat first | assumption | exact xg_eq | exact xn_eq (by first | rfl | omega) | refine xg_ne (by first | assumption | omega | (simp only [xput, xnew]; omega)) ?_ | refine xn_ne (by first | assumption | omega | (simp only [xput, xnew]; omega)) ?_ | exact rfl) (by first | rfl | assumption) (by first | rfl | assumption) (Nat.le_of_ble_eq_true rfl) ?_
  refine wp_return d_SI_clear_5 rfl ?_
  exact ⟨rfl, rfl⟩
theorem c_SI_isFull (hE : xOK E) (hs : Sg E h a r n f len) : wpc E 0 m_SI_isFull [.ref a] h (fun r' h' => r' = some (.int (if n ≤ len then 1 else 0)) ∧ h' = h) := by
  obtain ⟨h1, h2, h3, h4, h5⟩ := hs
  refine wpc_of rfl (Nat.le_of_ble_eq_true rfl) ?_
  refine wp_aload_n d_SI_isFull_0 rfl rfl ?_
  refine wp_get xf_SI_15 d_SI_isFull_1 (by repeat first | assumption | exact xg_eq | exact xn_eq (by first | rfl | omega) | refine xg_ne (by first | assumption | omega | (simp only [xput, xnew]; omega)) ?_ | refine xn_ne (by first | assumption | omega | (simp only [xput, xnew]; omega)) ?_ | exact rfl) (by rfl) ?_
  refine wp_aload_n d_SI_isFull_4 rfl rfl ?_
  refine wp_get xf_SI_9 d_SI_isFull_5 (by repeat first | assumption | exact xg_eq | exact xn_eq (by first | rfl | omega) | refine xg_ne (by first | assumption | omega | (simp only [xput, xnew]; omega)) ?_ | refine xn_ne (by first | assumption | omega | (simp only [xput, xnew]; omega)) ?_ | exact rfl) (by rfl) ?_
  refine wp_aln d_SI_isFull_8 (by repeat first | assumption | exact xg_eq | exact xn_eq (by first | rfl | omega) | refine xg_ne (by first | assumption | omega | (simp only [xput, xnew]; omega)) ?_ | refine xn_ne (by first | assumption | omega | (simp only [xput, xnew]; omega)) ?_ | exact rfl) (by first | exact hE.i | exact hE.j | exact hE.z) ?_
  refine wp_icmp_lt (tgt := 16) d_SI_isFull_9 (by decide) (fun hc => ?_) (fun hc => ?_)
  · rw [nI_ltI (by omega) (by omega)] at hc
    refine wp_iconst (v := 0) d_SI_isFull_16 (by rfl) ?_
    refine wp_ireturn d_SI_isFull_17 rfl (by first | rfl | assumption) ?_
    rw [if_neg (by omega)]
    exact ⟨rfl, rfl⟩
  · rw [nI_ltI (by omega) (by omega)] at hc
    refine wp_iconst (v := 1) d_SI_isFull_12 (by rfl) ?_
    refine wp_goto (tgt := 17) d_SI_isFull_13 (by decide) ?_
    refine wp_ireturn d_SI_isFull_17 rfl (by first | rfl | assumption) ?_
    rw [if_pos (by omega)]
    exact ⟨rfl, rfl⟩
theorem c_SI_at (hE : xOK E) (hs : Sg E h a r n f len) (p : Int32) : wpc E 0 m_SI_at [.ref a, .int p] h (fun r' h' => r' = some (.int (sgAt f len p)) ∧ h' = h) := by
  obtain ⟨h1, h2, h3, h4, h5⟩ := hs
  refine wpc_of rfl (Nat.le_of_ble_eq_true rfl) ?_
  refine wp_iload_n d_SI_at_0 rfl rfl ?_
  refine wp_if_lt (tgt := 21) d_SI_at_1 (by decide) (fun hc => ?_) (fun hc => ?_)
  · refine wp_bipush (v := (-2)) d_SI_at_21 (by rfl) ?_
    refine wp_ireturn d_SI_at_23 rfl (by first | rfl | assumption) ?_
    rw [sgAt, if_pos hc]
    exact ⟨rfl, rfl⟩
  · refine wp_iload_n d_SI_at_4 rfl rfl ?_
    refine wp_aload_n d_SI_at_5 rfl rfl ?_
    refine wp_get xf_SI_15 d_SI_at_6 (by repeat first | assumption | exact xg_eq | exact xn_eq (by first | rfl | omega) | refine xg_ne (by first | assumption | omega | (simp only [xput, xnew]; omega)) ?_ | refine xn_ne (by first | assumption | omega | (simp only [xput, xnew]; omega)) ?_ | exact rfl) (by rfl) ?_
    refine wp_icmp_ge (tgt := 21) d_SI_at_9 (by decide) (fun hc2 => ?_) (fun hc2 => ?_)
    · refine wp_bipush (v := (-2)) d_SI_at_21 (by rfl) ?_
      refine wp_ireturn d_SI_at_23 rfl (by first | rfl | assumption) ?_
      rw [sgAt, if_neg hc, if_pos hc2]
      exact ⟨rfl, rfl⟩
    · refine wp_aload_n d_SI_at_12 rfl rfl ?_
      refine wp_get xf_SI_9 d_SI_at_13 (by repeat first | assumption | exact xg_eq | exact xn_eq (by first | rfl | omega) | refine xg_ne (by first | assumption | omega | (simp only [xput, xnew]; omega)) ?_ | refine xn_ne (by first | assumption | omega | (simp only [xput, xnew]; omega)) ?_ | exact rfl) (by rfl) ?_
      refine wp_iload_n d_SI_at_16 rfl rfl ?_
      obtain ⟨j, hj, rfl⟩ := nI_of hc
      rw [nI_leI (by omega) hj] at hc2
      refine wp_iald d_SI_at_17 (by repeat first | assumption | exact xg_eq | exact xn_eq (by first | rfl | omega) | refine xg_ne (by first | assumption | omega | (simp only [xput, xnew]; omega)) ?_ | refine xn_ne (by first | assumption | omega | (simp only [xput, xnew]; omega)) ?_ | exact rfl) hE.i (vp_in_nI (by omega) (by omega)) ?_
      refine wp_goto (tgt := 23) d_SI_at_18 (by decide) ?_
      refine wp_ireturn d_SI_at_23 rfl (by first | rfl | assumption) ?_
      rw [sgAt, if_neg hc, if_neg (by rw [nI_leI (by omega) hj]; exact hc2)]
      exact ⟨rfl, rfl⟩
theorem c_SI_add (hE : xOK E) (hs : Sg E h a r n f len) (v : Int32) : wpc E 1 m_SI_add [.ref a, .int v] h (fun r' h' => r' = none ∧ h' = if n ≤ len then h else xput (xput h r (aI E n (upd f len v))) a (ob 8 [.ref r, .int (nI (len + 1))])) := by
  obtain ⟨h1, h2, h3, h4, h5⟩ := id hs
  refine wpc_of rfl (Nat.le_of_ble_eq_true rfl) ?_
  refine wp_aload_n d_SI_add_0 rfl rfl ?_
  refine wp_callV0 xc_SI_19 d_SI_add_1 (Nat.le_of_ble_eq_true rfl) (by repeat first | assumption | exact xg_eq | exact xn_eq (by first | rfl | omega) | refine xg_ne (by first | assumption | omega | (simp only [xput, xnew]; omega)) ?_ | refine xn_ne (by first | assumption | omega | (simp only [xput, xnew]; omega)) ?_ | exact rfl) (c_SI_isFull hE hs) (by omega) (fun r hh hp => ?_)
  obtain ⟨rfl, rfl⟩ := hp
  refine wp_if_ne (tgt := 27) d_SI_add_4 (by decide) (fun hc => ?_) (fun hc => ?_)
  · refine wp_return d_SI_add_27 rfl ?_
    have : n ≤ len := Nat.not_lt.mp (fun q => hc (if_neg (by omega)))
    rw [if_pos this]
    exact ⟨rfl, rfl⟩
  · have hlt : ¬ n ≤ len := fun q => by rw [if_pos q] at hc; cases hc
    refine wp_aload_n d_SI_add_7 rfl rfl ?_
    refine wp_get xf_SI_9 d_SI_add_8 (by repeat first | assumption | exact xg_eq | exact xn_eq (by first | rfl | omega) | refine xg_ne (by first | assumption | omega | (simp only [xput, xnew]; omega)) ?_ | refine xn_ne (by first | assumption | omega | (simp only [xput, xnew]; omega)) ?_ | exact rfl) (by rfl) ?_
    refine wp_aload_n d_SI_add_11 rfl rfl ?_
    refine wp_get xf_SI_15 d_SI_add_12 (by repeat first | assumption | exact xg_eq | exact xn_eq (by first | rfl | omega) | refine xg_ne (by first | assumption | omega | (simp only [xput, xnew]; omega)) ?_ | refine xn_ne (by first | assumption | omega | (simp only [xput, xnew]; omega)) ?_ | exact rfl) (by rfl) ?_
    refine wp_iload_n d_SI_add_15 rfl rfl ?_
    refine wp_iast d_SI_add_16 (by repeat first | assumption | exact xg_eq | exact xn_eq (by first | rfl | omega) | refine xg_ne (by first | assumption | omega | (simp only [xput, xnew]; omega)) ?_ | refine xn_ne (by first | assumption | omega | (simp only [xput, xnew]; omega)) ?_ | exact rfl) hE.i (vp_in_nI (by omega) (by omega)) ?_
    refine wp_aload_n d_SI_add_17 rfl rfl ?_
    refine wp_dup d_SI_add_18 rfl ?_
    refine wp_get xf_SI_15 d_SI_add_19 (by repeat first | assumption | exact xg_eq | exact xn_eq (by first | rfl | omega) | refine xg_ne (by first | assumption | omega | (simp only [xput, xnew]; omega)) ?_ | refine xn_ne (by first | assumption | omega | (simp only [xput, xnew]; omega)) ?_ | exact rfl) (by rfl) ?_
    refine wp_iconst (v := 1) d_SI_add_22 (by rfl) ?_
    refine wp_iadd d_SI_add_23 ?_
    refine wp_put xf_SI_15 xg_SI (Or.inl rfl) d_SI_add_24 (by repeat first | assumption | exact xg_eq | exact xn_eq (by first | rfl | omega) | refine xg_ne (by first | assumption | omega | (simp only [xput, xnew]; omega)) ?_ | refine xn_ne (by first | assumption | omega | (simp only [xput, xnew]; omega)) ?_ | exact rfl) (by first | rfl | assumption) (by first | rfl | assumption) (Nat.le_of_ble_eq_true rfl) ?_
    refine wp_return d_SI_add_27 rfl ?_
    rw [if_neg hlt, nI_clamp (by omega), nI_1]
    exact ⟨rfl, rfl⟩
end SI
end
section
theorem d_JA_fill_0 : decode m_JA_fill.2.1 0 = .ok (.iconst 0, 1) := by decide +kernel
theorem d_JA_fill_1 : decode m_JA_fill.2.1 1 = .ok (.istore_n 2, 1) := by decide +kernel
theorem d_JA_fill_2 : decode m_JA_fill.2.1 2 = .ok (.aload_n 0, 1) := by decide +kernel
theorem d_JA_fill_3 : decode m_JA_fill.2.1 3 = .ok (.arraylength, 1) := by decide +kernel
theorem d_JA_fill_4 : decode m_JA_fill.2.1 4 = .ok (.istore_n 3, 1) := by decide +kernel
theorem d_JA_fill_5 : decode m_JA_fill.2.1 5 = .ok (.iload_n 2, 1) := by decide +kernel
theorem d_JA_fill_6 : decode m_JA_fill.2.1 6 = .ok (.iload_n 3, 1) := by decide +kernel
theorem d_JA_fill_7 : decode m_JA_fill.2.1 7 = .ok (.if_icmp .ge 13, 3) := by decide +kernel
theorem d_JA_fill_10 : decode m_JA_fill.2.1 10 = .ok (.aload_n 0, 1) := by decide +kernel
theorem d_JA_fill_11 : decode m_JA_fill.2.1 11 = .ok (.iload_n 2, 1) := by decide +kernel
theorem d_JA_fill_12 : decode m_JA_fill.2.1 12 = .ok (.iload_n 1, 1) := by decide +kernel
theorem d_JA_fill_13 : decode m_JA_fill.2.1 13 = .ok (.iastore, 1) := by decide +kernel
theorem d_JA_fill_14 : decode m_JA_fill.2.1 14 = .ok (.iinc 2 1, 3) := by decide +kernel
theorem d_JA_fill_17 : decode m_JA_fill.2.1 17 = .ok (.goto (-12), 3) := by decide +kernel
theorem d_JA_fill_20 : decode m_JA_fill.2.1 20 = .ok (.return_, 1) := by decide +kernel
theorem d_JS_indexOf1_0 : decode m_JS_indexOf1.2.1 0 = .ok (.aload_n 0, 1) := by decide +kernel
theorem d_JS_indexOf1_1 : decode m_JS_indexOf1.2.1 1 = .ok (.iload_n 1, 1) := by decide +kernel
theorem d_JS_indexOf1_2 : decode m_JS_indexOf1.2.1 2 = .ok (.iconst 0, 1) := by decide +kernel
theorem d_JS_indexOf1_3 : decode m_JS_indexOf1.2.1 3 = .ok (.invokevirtual 633, 3) := by decide +kernel
theorem d_JS_indexOf1_6 : decode m_JS_indexOf1.2.1 6 = .ok (.ireturn, 1) := by decide +kernel
theorem d_JS_indexOf2_0 : decode m_JS_indexOf2.2.1 0 = .ok (.aload_n 0, 1) := by decide +kernel
theorem d_JS_indexOf2_1 : decode m_JS_indexOf2.2.1 1 = .ok (.invokevirtual 492, 3) := by decide +kernel
theorem d_JS_indexOf2_4 : decode m_JS_indexOf2.2.1 4 = .ok (.ifCond .eq 19, 3) := by decide +kernel
theorem d_JS_indexOf2_7 : decode m_JS_indexOf2.2.1 7 = .ok (.aload_n 0, 1) := by decide +kernel
theorem d_JS_indexOf2_8 : decode m_JS_indexOf2.2.1 8 = .ok (.getfield 9, 3) := by decide +kernel
theorem d_JS_indexOf2_11 : decode m_JS_indexOf2.2.1 11 = .ok (.iload_n 1, 1) := by decide +kernel
theorem d_JS_indexOf2_12 : decode m_JS_indexOf2.2.1 12 = .ok (.iload_n 2, 1) := by decide +kernel
theorem d_JS_indexOf2_13 : decode m_JS_indexOf2.2.1 13 = .ok (.aload_n 0, 1) := by decide +kernel
theorem d_JS_indexOf2_14 : decode m_JS_indexOf2.2.1 14 = .ok (.invokevirtual 505, 3) := by decide +kernel
theorem d_JS_indexOf2_17 : decode m_JS_indexOf2.2.1 17 = .ok (.invokestatic 637, 3) := by decide +kernel
theorem d_JS_indexOf2_20 : decode m_JS_indexOf2.2.1 20 = .ok (.goto 16, 3) := by decide +kernel
theorem d_JS_indexOf2_23 : decode m_JS_indexOf2.2.1 23 = .ok (.aload_n 0, 1) := by decide +kernel
theorem d_JS_indexOf2_24 : decode m_JS_indexOf2.2.1 24 = .ok (.getfield 9, 3) := by decide +kernel
theorem d_JS_indexOf2_27 : decode m_JS_indexOf2.2.1 27 = .ok (.iload_n 1, 1) := by decide +kernel
theorem d_JS_indexOf2_28 : decode m_JS_indexOf2.2.1 28 = .ok (.iload_n 2, 1) := by decide +kernel
theorem d_JS_indexOf2_29 : decode m_JS_indexOf2.2.1 29 = .ok (.aload_n 0, 1) := by decide +kernel
theorem d_JS_indexOf2_30 : decode m_JS_indexOf2.2.1 30 = .ok (.invokevirtual 505, 3) := by decide +kernel
theorem d_JS_indexOf2_33 : decode m_JS_indexOf2.2.1 33 = .ok (.invokestatic 640, 3) := by decide +kernel
theorem d_JS_indexOf2_36 : decode m_JS_indexOf2.2.1 36 = .ok (.ireturn, 1) := by decide +kernel
theorem d_JS_isLatin1_0 : decode m_JS_isLatin1.2.1 0 = .ok (.getstatic 38, 3) := by decide +kernel
theorem d_JS_isLatin1_3 : decode m_JS_isLatin1.2.1 3 = .ok (.ifCond .eq 14, 3) := by decide +kernel
theorem d_JS_isLatin1_6 : decode m_JS_isLatin1.2.1 6 = .ok (.aload_n 0, 1) := by decide +kernel
theorem d_JS_isLatin1_7 : decode m_JS_isLatin1.2.1 7 = .ok (.getfield 15, 3) := by decide +kernel
theorem d_JS_isLatin1_10 : decode m_JS_isLatin1.2.1 10 = .ok (.ifCond .ne 7, 3) := by decide +kernel
theorem d_JS_isLatin1_13 : decode m_JS_isLatin1.2.1 13 = .ok (.iconst 1, 1) := by decide +kernel
theorem d_JS_isLatin1_14 : decode m_JS_isLatin1.2.1 14 = .ok (.goto 4, 3) := by decide +kernel
theorem d_JS_isLatin1_17 : decode m_JS_isLatin1.2.1 17 = .ok (.iconst 0, 1) := by decide +kernel
theorem d_JS_isLatin1_18 : decode m_JS_isLatin1.2.1 18 = .ok (.ireturn, 1) := by decide +kernel
theorem d_JS_length_0 : decode m_JS_length.2.1 0 = .ok (.aload_n 0, 1) := by decide +kernel
theorem d_JS_length_1 : decode m_JS_length.2.1 1 = .ok (.getfield 9, 3) := by decide +kernel
theorem d_JS_length_4 : decode m_JS_length.2.1 4 = .ok (.arraylength, 1) := by decide +kernel
theorem d_JS_length_5 : decode m_JS_length.2.1 5 = .ok (.aload_n 0, 1) := by decide +kernel
theorem d_JS_length_6 : decode m_JS_length.2.1 6 = .ok (.invokevirtual 335, 3) := by decide +kernel
theorem d_JS_length_9 : decode m_JS_length.2.1 9 = .ok (.ishr, 1) := by decide +kernel
theorem d_JS_length_10 : decode m_JS_length.2.1 10 = .ok (.ireturn, 1) := by decide +kernel
theorem d_JS_coder_0 : decode m_JS_coder.2.1 0 = .ok (.getstatic 38, 3) := by decide +kernel
theorem d_JS_coder_3 : decode m_JS_coder.2.1 3 = .ok (.ifCond .eq 10, 3) := by decide +kernel
theorem d_JS_coder_6 : decode m_JS_coder.2.1 6 = .ok (.aload_n 0, 1) := by decide +kernel
theorem d_JS_coder_7 : decode m_JS_coder.2.1 7 = .ok (.getfield 15, 3) := by decide +kernel
theorem d_JS_coder_10 : decode m_JS_coder.2.1 10 = .ok (.goto 4, 3) := by decide +kernel
theorem d_JS_coder_13 : decode m_JS_coder.2.1 13 = .ok (.iconst 1, 1) := by decide +kernel
theorem d_JS_coder_14 : decode m_JS_coder.2.1 14 = .ok (.ireturn, 1) := by decide +kernel
theorem d_JL_indexOf_0 : decode m_JL_indexOf.2.1 0 = .ok (.iload_n 1, 1) := by decide +kernel
theorem d_JL_indexOf_1 : decode m_JL_indexOf.2.1 1 = .ok (.invokestatic 88, 3) := by decide +kernel
theorem d_JL_indexOf_4 : decode m_JL_indexOf.2.1 4 = .ok (.ifCond .ne 5, 3) := by decide +kernel
theorem d_JL_indexOf_7 : decode m_JL_indexOf.2.1 7 = .ok (.iconst (-1), 1) := by decide +kernel
theorem d_JL_indexOf_8 : decode m_JL_indexOf.2.1 8 = .ok (.ireturn, 1) := by decide +kernel
theorem d_JL_indexOf_9 : decode m_JL_indexOf.2.1 9 = .ok (.iload_n 2, 1) := by decide +kernel
theorem d_JL_indexOf_10 : decode m_JL_indexOf.2.1 10 = .ok (.iconst 0, 1) := by decide +kernel
theorem d_JL_indexOf_11 : decode m_JL_indexOf.2.1 11 = .ok (.invokestatic 92, 3) := by decide +kernel
theorem d_JL_indexOf_14 : decode m_JL_indexOf.2.1 14 = .ok (.istore_n 2, 1) := by decide +kernel
theorem d_JL_indexOf_15 : decode m_JL_indexOf.2.1 15 = .ok (.iload_n 3, 1) := by decide +kernel
theorem d_JL_indexOf_16 : decode m_JL_indexOf.2.1 16 = .ok (.aload_n 0, 1) := by decide +kernel
theorem d_JL_indexOf_17 : decode m_JL_indexOf.2.1 17 = .ok (.arraylength, 1) := by decide +kernel
theorem d_JL_indexOf_18 : decode m_JL_indexOf.2.1 18 = .ok (.invokestatic 38, 3) := by decide +kernel
theorem d_JL_indexOf_21 : decode m_JL_indexOf.2.1 21 = .ok (.istore_n 3, 1) := by decide +kernel
theorem d_JL_indexOf_22 : decode m_JL_indexOf.2.1 22 = .ok (.iload_n 2, 1) := by decide +kernel
theorem d_JL_indexOf_23 : decode m_JL_indexOf.2.1 23 = .ok (.iload_n 3, 1) := by decide +kernel
theorem d_JL_indexOf_24 : decode m_JL_indexOf.2.1 24 = .ok (.if_icmp .lt 5, 3) := by decide +kernel
theorem d_JL_indexOf_27 : decode m_JL_indexOf.2.1 27 = .ok (.iconst (-1), 1) := by decide +kernel
theorem d_JL_indexOf_28 : decode m_JL_indexOf.2.1 28 = .ok (.ireturn, 1) := by decide +kernel
theorem d_JL_indexOf_29 : decode m_JL_indexOf.2.1 29 = .ok (.aload_n 0, 1) := by decide +kernel
theorem d_JL_indexOf_30 : decode m_JL_indexOf.2.1 30 = .ok (.iload_n 1, 1) := by decide +kernel
theorem d_JL_indexOf_31 : decode m_JL_indexOf.2.1 31 = .ok (.iload_n 2, 1) := by decide +kernel
theorem d_JL_indexOf_32 : decode m_JL_indexOf.2.1 32 = .ok (.iload_n 3, 1) := by decide +kernel
theorem d_JL_indexOf_33 : decode m_JL_indexOf.2.1 33 = .ok (.invokestatic 95, 3) := by decide +kernel
theorem d_JL_indexOf_36 : decode m_JL_indexOf.2.1 36 = .ok (.ireturn, 1) := by decide +kernel
theorem d_JL_canEncode_0 : decode m_JL_canEncode.2.1 0 = .ok (.iload_n 0, 1) := by decide +kernel
theorem d_JL_canEncode_1 : decode m_JL_canEncode.2.1 1 = .ok (.ifCond .lt 14, 3) := by decide +kernel
theorem d_JL_canEncode_4 : decode m_JL_canEncode.2.1 4 = .ok (.iload_n 0, 1) := by decide +kernel
theorem d_JL_canEncode_5 : decode m_JL_canEncode.2.1 5 = .ok (.sipush 255, 3) := by decide +kernel
theorem d_JL_canEncode_8 : decode m_JL_canEncode.2.1 8 = .ok (.if_icmp .gt 7, 3) := by decide +kernel
theorem d_JL_canEncode_11 : decode m_JL_canEncode.2.1 11 = .ok (.iconst 1, 1) := by decide +kernel
theorem d_JL_canEncode_12 : decode m_JL_canEncode.2.1 12 = .ok (.goto 4, 3) := by decide +kernel
theorem d_JL_canEncode_15 : decode m_JL_canEncode.2.1 15 = .ok (.iconst 0, 1) := by decide +kernel
theorem d_JL_canEncode_16 : decode m_JL_canEncode.2.1 16 = .ok (.ireturn, 1) := by decide +kernel
theorem d_JL_indexOfChar_0 : decode m_JL_indexOfChar.2.1 0 = .ok (.iload_n 1, 1) := by decide +kernel
theorem d_JL_indexOfChar_1 : decode m_JL_indexOfChar.2.1 1 = .ok (.i2b, 1) := by decide +kernel
theorem d_JL_indexOfChar_2 : decode m_JL_indexOfChar.2.1 2 = .ok (.istore 4, 2) := by decide +kernel
theorem d_JL_indexOfChar_4 : decode m_JL_indexOfChar.2.1 4 = .ok (.iload_n 2, 1) := by decide +kernel
theorem d_JL_indexOfChar_5 : decode m_JL_indexOfChar.2.1 5 = .ok (.istore 5, 2) := by decide +kernel
theorem d_JL_indexOfChar_7 : decode m_JL_indexOfChar.2.1 7 = .ok (.iload 5, 2) := by decide +kernel
theorem d_JL_indexOfChar_9 : decode m_JL_indexOfChar.2.1 9 = .ok (.iload_n 3, 1) := by decide +kernel
theorem d_JL_indexOfChar_10 : decode m_JL_indexOfChar.2.1 10 = .ok (.if_icmp .ge 21, 3) := by decide +kernel
theorem d_JL_indexOfChar_13 : decode m_JL_indexOfChar.2.1 13 = .ok (.aload_n 0, 1) := by decide +kernel
theorem d_JL_indexOfChar_14 : decode m_JL_indexOfChar.2.1 14 = .ok (.iload 5, 2) := by decide +kernel
theorem d_JL_indexOfChar_16 : decode m_JL_indexOfChar.2.1 16 = .ok (.baload, 1) := by decide +kernel
theorem d_JL_indexOfChar_17 : decode m_JL_indexOfChar.2.1 17 = .ok (.iload 4, 2) := by decide +kernel
theorem d_JL_indexOfChar_19 : decode m_JL_indexOfChar.2.1 19 = .ok (.if_icmp .ne 6, 3) := by decide +kernel
theorem d_JL_indexOfChar_22 : decode m_JL_indexOfChar.2.1 22 = .ok (.iload 5, 2) := by decide +kernel
theorem d_JL_indexOfChar_24 : decode m_JL_indexOfChar.2.1 24 = .ok (.ireturn, 1) := by decide +kernel
theorem d_JL_indexOfChar_25 : decode m_JL_indexOfChar.2.1 25 = .ok (.iinc 5 1, 3) := by decide +kernel
theorem d_JL_indexOfChar_28 : decode m_JL_indexOfChar.2.1 28 = .ok (.goto (-21), 3) := by decide +kernel
theorem d_JL_indexOfChar_31 : decode m_JL_indexOfChar.2.1 31 = .ok (.iconst (-1), 1) := by decide +kernel
theorem d_JL_indexOfChar_32 : decode m_JL_indexOfChar.2.1 32 = .ok (.ireturn, 1) := by decide +kernel
theorem d_JM_max_0 : decode m_JM_max.2.1 0 = .ok (.iload_n 0, 1) := by decide +kernel
theorem d_JM_max_1 : decode m_JM_max.2.1 1 = .ok (.iload_n 1, 1) := by decide +kernel
theorem d_JM_max_2 : decode m_JM_max.2.1 2 = .ok (.if_icmp .lt 7, 3) := by decide +kernel
theorem d_JM_max_5 : decode m_JM_max.2.1 5 = .ok (.iload_n 0, 1) := by decide +kernel
theorem d_JM_max_6 : decode m_JM_max.2.1 6 = .ok (.goto 4, 3) := by decide +kernel
theorem d_JM_max_9 : decode m_JM_max.2.1 9 = .ok (.iload_n 1, 1) := by decide +kernel
theorem d_JM_max_10 : decode m_JM_max.2.1 10 = .ok (.ireturn, 1) := by decide +kernel
theorem d_JM_min_0 : decode m_JM_min.2.1 0 = .ok (.iload_n 0, 1) := by decide +kernel
theorem d_JM_min_1 : decode m_JM_min.2.1 1 = .ok (.iload_n 1, 1) := by decide +kernel
theorem d_JM_min_2 : decode m_JM_min.2.1 2 = .ok (.if_icmp .gt 7, 3) := by decide +kernel
theorem d_JM_min_5 : decode m_JM_min.2.1 5 = .ok (.iload_n 0, 1) := by decide +kernel
theorem d_JM_min_6 : decode m_JM_min.2.1 6 = .ok (.goto 4, 3) := by decide +kernel
theorem d_JM_min_9 : decode m_JM_min.2.1 9 = .ok (.iload_n 1, 1) := by decide +kernel
theorem d_JM_min_10 : decode m_JM_min.2.1 10 = .ok (.ireturn, 1) := by decide +kernel
end
section
/-! java.util.Arrays.fill, java.lang.Math.max and min; PatternSearch$Bounds -/
section JA
variable {E : xE} {h : xH} {a n : Nat} {f : Nat → Int32}
def filled (n : Nat) (v : Int32) (f : Nat → Int32) : Nat → Int32 := fun k => if k < n then v else f k
theorem filled_step {i : Nat} {v : Int32} {f : Nat → Int32} : upd (filled i v f) i v = filled (i + 1) v f := by
  funext k
  simp only [upd, filled]
  by_cases h1 : k = i
  · rw [if_pos h1, if_pos (by omega)]
  · rw [if_neg h1]
    by_cases h2 : k < i
    · rw [if_pos h2, if_pos (by omega)]
    · rw [if_neg h2, if_neg (by omega)]
theorem filled_0 {v : Int32} {f : Nat → Int32} : filled 0 v f = f := rfl
theorem xput2 {h : xH} {a : Nat} {e e' : va_E} : xput (xput h a e) a e' = xput h a e' := by
  simp only [xput, Prod.mk.injEq, true_and]
  exact bx_uu _ _ _ _
theorem xput_self {h : xH} {a : Nat} {e : va_E} (ha : h.2.2 a = some e) : xput h a e = h := by
  obtain ⟨n, s, f⟩ := h
  simp only [xput, Prod.mk.injEq, true_and]
  funext j
  by_cases hj : j = a
  · subst hj; simp only [va_up, if_pos]; exact ha.symm
  · simp only [va_up, if_neg hj]
theorem c_JA_fill (hE : xOK E) (hn : n < 2 ^ 31) (ha : h.2.2 a = some (aI E n f)) (v : Int32) : wpc E 0 m_JA_fill [.ref a, .int v] h (fun r' h' => r' = none ∧ h' = xput h a (aI E n (filled n v f))) := by
  refine wpc_of rfl (Nat.le_of_ble_eq_true rfl) ?_
  refine wp_iconst (v := 0) d_JA_fill_0 (by rfl) ?_
  refine wp_istore_n d_JA_fill_1 rfl (by decide) rfl ?_
  refine wp_aload_n d_JA_fill_2 rfl rfl ?_
  refine wp_aln d_JA_fill_3 (by repeat first | assumption | exact xg_eq | exact xn_eq (by first | rfl | omega) | refine xg_ne (by first | assumption | omega | (simp only [xput, xnew]; omega)) ?_ | refine xn_ne (by first | assumption | omega | (simp only [xput, xnew]; omega)) ?_ | exact rfl) (by first | exact hE.i | exact hE.j | exact hE.z) ?_
  refine wp_istore_n d_JA_fill_4 rfl (by decide) rfl ?_
  have key : ∀ (k i : Nat), n - i ≤ k → i ≤ n → wp E 0 m_JA_fill 5 [(0, .ref a), (1, .int v), (2, .int (nI i)), (3, .int (nI n))] [] (xput h a (aI E n (filled i v f))) (fun r' h' => r' = none ∧ h' = xput h a (aI E n (filled n v f))) := by
    intro k
    induction k with
    | zero =>
      intro i h1 h2
      have : i = n := by omega
      subst this
      refine wp_iload_n d_JA_fill_5 rfl rfl ?_
      refine wp_iload_n d_JA_fill_6 rfl rfl ?_
      refine wp_icmp_ge (tgt := 20) d_JA_fill_7 (by decide) (fun hc => ?_) (fun hc => ?_)
      · refine wp_return d_JA_fill_20 rfl ?_
        exact ⟨rfl, rfl⟩
      · exact absurd (nI_le (Nat.le_refl _) hn) hc
    | succ k ih =>
      intro i h1 h2
      refine wp_iload_n d_JA_fill_5 rfl rfl ?_
      refine wp_iload_n d_JA_fill_6 rfl rfl ?_
      refine wp_icmp_ge (tgt := 20) d_JA_fill_7 (by decide) (fun hc => ?_) (fun hc => ?_)
      · rw [nI_leI hn (by omega)] at hc
        have : i = n := by omega
        subst this
        refine wp_return d_JA_fill_20 rfl ?_
        exact ⟨rfl, rfl⟩
      · rw [nI_leI hn (by omega)] at hc
        refine wp_aload_n d_JA_fill_10 rfl rfl ?_
        refine wp_iload_n d_JA_fill_11 rfl rfl ?_
        refine wp_iload_n d_JA_fill_12 rfl rfl ?_
        refine wp_iast d_JA_fill_13 (by repeat first | assumption | exact xg_eq | exact xn_eq (by first | rfl | omega) | refine xg_ne (by first | assumption | omega | (simp only [xput, xnew]; omega)) ?_ | refine xn_ne (by first | assumption | omega | (simp only [xput, xnew]; omega)) ?_ | exact rfl) hE.i (vp_in_nI (by omega) hn) ?_
        refine wp_iinc d_JA_fill_14 rfl rfl (by decide) rfl ?_
        refine wp_goto (tgt := 5) d_JA_fill_17 (by decide) ?_
        rw [nI_clamp (by omega), xput2, filled_step]
        have := ih (i + 1) (by omega) (by omega)
        rw [nI_succ] at this
        exact this
  have := key n 0 (by omega) (by omega)
  rw [filled_0, xput_self ha] at this
  exact this
theorem wp_mmax {d : Nat} {M : xM} {pc idx : Nat} {lo : List (Nat × Value)} {st : List Value} {P : Option Value → xH → Prop} {x y : Int32} (hl : Cond.methodLink M.1.cls idx m_JM_max.1 ∈ xGT) (hd : decode M.2.1 pc = .ok (.invokestatic idx, 3)) (hcat : (st.map fun v => v.category).sum ≤ 8) (hdd : 1 ≤ d)
    (k : wp E d M (pc + 3) lo (.int (if x < y then y else x) :: st) h P) : wp E d M pc lo (.int y :: .int x :: st) h P := by
  refine wp_al (h2 := h) 0 0 rfl rfl (fun p l e R s m args below meth c Q cells slots H locs ls C a1 a2 b1 b2 hR hlo hls kk => ?_) k
  obtain ⟨hx, hb, hr, hml, hown, hlk, hK, hnm⟩ := C
  have hts := x_hts hK (args := args)
  exact va_mmax hx hb (hml.trans hls.1.symm) hown (hts _ hl) (hts _ ki_JM_max) (hts _ kz_JM) (hts _ kc_JM_max) (by omega) (by omega) b1 b2 hd (kk H locs hR hlo)
theorem wp_mmin {d : Nat} {M : xM} {pc idx : Nat} {lo : List (Nat × Value)} {st : List Value} {P : Option Value → xH → Prop} {x y : Int32} (hl : Cond.methodLink M.1.cls idx m_JM_min.1 ∈ xGT) (hd : decode M.2.1 pc = .ok (.invokestatic idx, 3)) (hcat : (st.map fun v => v.category).sum ≤ 8) (hdd : 1 ≤ d)
    (k : wp E d M (pc + 3) lo (.int (if y < x then y else x) :: st) h P) : wp E d M pc lo (.int y :: .int x :: st) h P := by
  refine wp_al (h2 := h) 0 0 rfl rfl (fun p l e R s m args below meth c Q cells slots H locs ls C a1 a2 b1 b2 hR hlo hls kk => ?_) k
  obtain ⟨hx, hb, hr, hml, hown, hlk, hK, hnm⟩ := C
  have hts := x_hts hK (args := args)
  exact va_mmin hx hb (hml.trans hls.1.symm) hown (hts _ hl) (hts _ ki_JM_min) (hts _ kz_JM) (hts _ kc_JM_min) (by omega) (by omega) b1 b2 hd (kk H locs hR hlo)
end JA
/-- the cells of Bounds: the object at a, its array of 14 places at r -/
def Bd (E : xE) (h : xH) (a r : Nat) (f : Nat → Int32) : Prop := h.2.2 a = some (ob 1 [.ref r]) ∧ h.2.2 r = some (aI E 14 f) ∧ a ≠ r
def bdAt (f : Nat → Int32) (s : Int32) : Int32 := if s < 0 then -2 else if nI 14 ≤ s then -2 else f s.toNatClampNeg
section BO
variable {E : xE} {h : xH} {a r : Nat} {f : Nat → Int32}
theorem c_BO_beginSlot (x : Int32) : wpc E 0 m_BO_beginSlot [.int x] h (fun r' h' => r' = some (.int (2 * x)) ∧ h' = h) := by
  refine wpc_of rfl (Nat.le_of_ble_eq_true rfl) ?_
  refine wp_iconst (v := 2) d_BO_beginSlot_0 (by rfl) ?_
  refine wp_iload_n d_BO_beginSlot_1 rfl rfl ?_
  refine wp_imul d_BO_beginSlot_2 ?_
  refine wp_ireturn d_BO_beginSlot_3 rfl (by first | rfl | assumption) ?_
  exact ⟨rfl, rfl⟩
theorem c_BO_endSlot (x : Int32) : wpc E 0 m_BO_endSlot [.int x] h (fun r' h' => r' = some (.int (2 * x + 1)) ∧ h' = h) := by
  refine wpc_of rfl (Nat.le_of_ble_eq_true rfl) ?_
  refine wp_iconst (v := 2) d_BO_endSlot_0 (by rfl) ?_
  refine wp_iload_n d_BO_endSlot_1 rfl rfl ?_
  refine wp_imul d_BO_endSlot_2 ?_
  refine wp_iconst (v := 1) d_BO_endSlot_3 (by rfl) ?_
  refine wp_iadd d_BO_endSlot_4 ?_
  refine wp_ireturn d_BO_endSlot_5 rfl (by first | rfl | assumption) ?_
  exact ⟨rfl, rfl⟩
theorem c_BO_inSlot (hE : xOK E) (hs : Bd E h a r f) (x : Int32) : wpc E 0 m_BO_inSlot [.ref a, .int x] h (fun r' h' => r' = some (.int (bdAt f x)) ∧ h' = h) := by
  obtain ⟨h1, h2, h3⟩ := hs
  refine wpc_of rfl (Nat.le_of_ble_eq_true rfl) ?_
  refine wp_iload_n d_BO_inSlot_0 rfl rfl ?_
  refine wp_if_lt (tgt := 22) d_BO_inSlot_1 (by decide) (fun hc => ?_) (fun hc => ?_)
  · refine wp_bipush (v := (-2)) d_BO_inSlot_22 (by rfl) ?_
    refine wp_ireturn d_BO_inSlot_24 rfl (by first | rfl | assumption) ?_
    rw [bdAt, if_pos hc]
    exact ⟨rfl, rfl⟩
  · refine wp_iload_n d_BO_inSlot_4 rfl rfl ?_
    refine wp_aload_n d_BO_inSlot_5 rfl rfl ?_
    refine wp_get xf_BO_9 d_BO_inSlot_6 (by repeat first | assumption | exact xg_eq | exact xn_eq (by first | rfl | omega) | refine xg_ne (by first | assumption | omega | (simp only [xput, xnew]; omega)) ?_ | refine xn_ne (by first | assumption | omega | (simp only [xput, xnew]; omega)) ?_ | exact rfl) (by rfl) ?_
    refine wp_aln d_BO_inSlot_9 (by repeat first | assumption | exact xg_eq | exact xn_eq (by first | rfl | omega) | refine xg_ne (by first | assumption | omega | (simp only [xput, xnew]; omega)) ?_ | refine xn_ne (by first | assumption | omega | (simp only [xput, xnew]; omega)) ?_ | exact rfl) (by first | exact hE.i | exact hE.j | exact hE.z) ?_
    refine wp_icmp_ge (tgt := 22) d_BO_inSlot_10 (by decide) (fun hc2 => ?_) (fun hc2 => ?_)
    · refine wp_bipush (v := (-2)) d_BO_inSlot_22 (by rfl) ?_
      refine wp_ireturn d_BO_inSlot_24 rfl (by first | rfl | assumption) ?_
      rw [bdAt, if_neg hc, if_pos hc2]
      exact ⟨rfl, rfl⟩
    · refine wp_aload_n d_BO_inSlot_13 rfl rfl ?_
      refine wp_get xf_BO_9 d_BO_inSlot_14 (by repeat first | assumption | exact xg_eq | exact xn_eq (by first | rfl | omega) | refine xg_ne (by first | assumption | omega | (simp only [xput, xnew]; omega)) ?_ | refine xn_ne (by first | assumption | omega | (simp only [xput, xnew]; omega)) ?_ | exact rfl) (by rfl) ?_
      refine wp_iload_n d_BO_inSlot_17 rfl rfl ?_
      obtain ⟨j, hj, rfl⟩ := nI_of hc
      have hc3 := hc2
      rw [nI_leI (by decide) hj] at hc2
      refine wp_iald d_BO_inSlot_18 (by repeat first | assumption | exact xg_eq | exact xn_eq (by first | rfl | omega) | refine xg_ne (by first | assumption | omega | (simp only [xput, xnew]; omega)) ?_ | refine xn_ne (by first | assumption | omega | (simp only [xput, xnew]; omega)) ?_ | exact rfl) hE.i (vp_in_nI (by omega) (by omega)) ?_
      refine wp_goto (tgt := 24) d_BO_inSlot_19 (by decide) ?_
      refine wp_ireturn d_BO_inSlot_24 rfl (by first | rfl | assumption) ?_
      rw [bdAt, if_neg hc, if_neg hc3]
      exact ⟨rfl, rfl⟩
theorem c_BO_begin (hE : xOK E) (hs : Bd E h a r f) (x : Int32) : wpc E 1 m_BO_begin [.ref a, .int x] h (fun r' h' => r' = some (.int (bdAt f (2 * x))) ∧ h' = h) := by
  obtain ⟨h1, h2, h3⟩ := id hs
  refine wpc_of rfl (Nat.le_of_ble_eq_true rfl) ?_
  refine wp_aload_n d_BO_begin_0 rfl rfl ?_
  refine wp_iload_n d_BO_begin_1 rfl rfl ?_
  refine wp_callS1 xc_BO_21 d_BO_begin_2 (Nat.le_of_ble_eq_true rfl) (c_BO_beginSlot x) (by omega) (fun r hh hp => ?_)
  obtain ⟨rfl, rfl⟩ := hp
  refine wp_callV1 xc_BO_25 d_BO_begin_5 (Nat.le_of_ble_eq_true rfl) (by repeat first | assumption | exact xg_eq | exact xn_eq (by first | rfl | omega) | refine xg_ne (by first | assumption | omega | (simp only [xput, xnew]; omega)) ?_ | refine xn_ne (by first | assumption | omega | (simp only [xput, xnew]; omega)) ?_ | exact rfl) (c_BO_inSlot hE hs _) (by omega) (fun r hh hp => ?_)
  obtain ⟨rfl, rfl⟩ := hp
  refine wp_ireturn d_BO_begin_8 rfl (by first | rfl | assumption) ?_
  exact ⟨rfl, rfl⟩
theorem c_BO_end (hE : xOK E) (hs : Bd E h a r f) (x : Int32) : wpc E 1 m_BO_end [.ref a, .int x] h (fun r' h' => r' = some (.int (bdAt f (2 * x + 1))) ∧ h' = h) := by
  obtain ⟨h1, h2, h3⟩ := id hs
  refine wpc_of rfl (Nat.le_of_ble_eq_true rfl) ?_
  refine wp_aload_n d_BO_end_0 rfl rfl ?_
  refine wp_iload_n d_BO_end_1 rfl rfl ?_
  refine wp_callS1 xc_BO_28 d_BO_end_2 (Nat.le_of_ble_eq_true rfl) (c_BO_endSlot x) (by omega) (fun r hh hp => ?_)
  obtain ⟨rfl, rfl⟩ := hp
  refine wp_callV1 xc_BO_25 d_BO_end_5 (Nat.le_of_ble_eq_true rfl) (by repeat first | assumption | exact xg_eq | exact xn_eq (by first | rfl | omega) | refine xg_ne (by first | assumption | omega | (simp only [xput, xnew]; omega)) ?_ | refine xn_ne (by first | assumption | omega | (simp only [xput, xnew]; omega)) ?_ | exact rfl) (c_BO_inSlot hE hs _) (by omega) (fun r hh hp => ?_)
  obtain ⟨rfl, rfl⟩ := hp
  refine wp_ireturn d_BO_end_8 rfl (by first | rfl | assumption) ?_
  exact ⟨rfl, rfl⟩
theorem c_BO_clear (hE : xOK E) (hs : Bd E h a r f) : wpc E 1 m_BO_clear [.ref a] h (fun r' h' => r' = none ∧ h' = xput h r (aI E 14 (filled 14 (-2) f))) := by
  obtain ⟨h1, h2, h3⟩ := id hs
  refine wpc_of rfl (Nat.le_of_ble_eq_true rfl) ?_
  refine wp_aload_n d_BO_clear_0 rfl rfl ?_
  refine wp_get xf_BO_9 d_BO_clear_1 (by repeat first | assumption | exact xg_eq | exact xn_eq (by first | rfl | omega) | refine xg_ne (by first | assumption | omega | (simp only [xput, xnew]; omega)) ?_ | refine xn_ne (by first | assumption | omega | (simp only [xput, xnew]; omega)) ?_ | exact rfl) (by rfl) ?_
  refine wp_bipush (v := (-2)) d_BO_clear_4 (by rfl) ?_
  refine wp_callS2 xc_BO_15 d_BO_clear_6 (Nat.le_of_ble_eq_true rfl) (c_JA_fill hE (by decide) h2 _) (by omega) (fun r hh hp => ?_)
  obtain ⟨rfl, rfl⟩ := hp
  refine wp_return d_BO_clear_9 rfl ?_
  exact ⟨rfl, rfl⟩
/-- a mark, if there is such a slot -/
def bdSet (f : Nat → Int32) (s v : Int32) : Nat → Int32 := if s < 0 then f else if nI 14 ≤ s then f else upd f s.toNatClampNeg v
theorem c_BO_mark (hE : xOK E) (hs : Bd E h a r f) (x v : Int32) : wpc E 0 m_BO_mark [.ref a, .int x, .int v] h (fun r' h' => r' = none ∧ h' = xput h r (aI E 14 (bdSet f x v))) := by
  obtain ⟨h1, h2, h3⟩ := hs
  refine wpc_of rfl (Nat.le_of_ble_eq_true rfl) ?_
  refine wp_iload_n d_BO_mark_0 rfl rfl ?_
  refine wp_if_lt (tgt := 20) d_BO_mark_1 (by decide) (fun hc => ?_) (fun hc => ?_)
  · refine wp_return d_BO_mark_20 rfl ?_
    rw [bdSet, if_pos hc, xput_self h2]
    exact ⟨rfl, rfl⟩
  · refine wp_iload_n d_BO_mark_4 rfl rfl ?_
    refine wp_aload_n d_BO_mark_5 rfl rfl ?_
    refine wp_get xf_BO_9 d_BO_mark_6 (by repeat first | assumption | exact xg_eq | exact xn_eq (by first | rfl | omega) | refine xg_ne (by first | assumption | omega | (simp only [xput, xnew]; omega)) ?_ | refine xn_ne (by first | assumption | omega | (simp only [xput, xnew]; omega)) ?_ | exact rfl) (by rfl) ?_
    refine wp_aln d_BO_mark_9 (by repeat first | assumption | exact xg_eq | exact xn_eq (by first | rfl | omega) | refine xg_ne (by first | assumption | omega | (simp only [xput, xnew]; omega)) ?_ | refine xn_ne (by first | assumption | omega | (simp only [xput, xnew]; omega)) ?_ | exact rfl) (by first | exact hE.i | exact hE.j | exact hE.z) ?_
    refine wp_icmp_ge (tgt := 20) d_BO_mark_10 (by decide) (fun hc2 => ?_) (fun hc2 => ?_)
    · refine wp_return d_BO_mark_20 rfl ?_
      rw [bdSet, if_neg hc, if_pos hc2, xput_self h2]
      exact ⟨rfl, rfl⟩
    · refine wp_aload_n d_BO_mark_13 rfl rfl ?_
      refine wp_get xf_BO_9 d_BO_mark_14 (by repeat first | assumption | exact xg_eq | exact xn_eq (by first | rfl | omega) | refine xg_ne (by first | assumption | omega | (simp only [xput, xnew]; omega)) ?_ | refine xn_ne (by first | assumption | omega | (simp only [xput, xnew]; omega)) ?_ | exact rfl) (by rfl) ?_
      refine wp_iload_n d_BO_mark_17 rfl rfl ?_
      refine wp_iload_n d_BO_mark_18 rfl rfl ?_
      obtain ⟨j, hj, rfl⟩ := nI_of hc
      have hc3 := hc2
      rw [nI_leI (by decide) hj] at hc2
      refine wp_iast d_BO_mark_19 (by repeat first | assumption | exact xg_eq | exact xn_eq (by first | rfl | omega) | refine xg_ne (by first | assumption | omega | (simp only [xput, xnew]; omega)) ?_ | refine xn_ne (by first | assumption | omega | (simp only [xput, xnew]; omega)) ?_ | exact rfl) hE.i (vp_in_nI (by omega) (by omega)) ?_
      refine wp_return d_BO_mark_20 rfl ?_
      rw [bdSet, if_neg hc, if_neg hc3]
      exact ⟨rfl, rfl⟩
theorem c_BO_placeBehind (hE : xOK E) (hs : Bd E h a r f) : wpc E 2 m_BO_placeBehind [.ref a] h (fun r' h' => r' = some (.int (if f 0 = f 1 then f 1 + 1 else f 1)) ∧ h' = h) := by
  obtain ⟨h1, h2, h3⟩ := id hs
  refine wpc_of rfl (Nat.le_of_ble_eq_true rfl) ?_
  refine wp_aload_n d_BO_placeBehind_0 rfl rfl ?_
  refine wp_iconst (v := 0) d_BO_placeBehind_1 (by rfl) ?_
  refine wp_callV1 xc_BO_31 d_BO_placeBehind_2 (Nat.le_of_ble_eq_true rfl) (by repeat first | assumption | exact xg_eq | exact xn_eq (by first | rfl | omega) | refine xg_ne (by first | assumption | omega | (simp only [xput, xnew]; omega)) ?_ | refine xn_ne (by first | assumption | omega | (simp only [xput, xnew]; omega)) ?_ | exact rfl) (c_BO_begin hE hs _) (by omega) (fun r hh hp => ?_)
  obtain ⟨rfl, rfl⟩ := hp
  refine wp_aload_n d_BO_placeBehind_5 rfl rfl ?_
  refine wp_iconst (v := 0) d_BO_placeBehind_6 (by rfl) ?_
  refine wp_callV1 xc_BO_34 d_BO_placeBehind_7 (Nat.le_of_ble_eq_true rfl) (by repeat first | assumption | exact xg_eq | exact xn_eq (by first | rfl | omega) | refine xg_ne (by first | assumption | omega | (simp only [xput, xnew]; omega)) ?_ | refine xn_ne (by first | assumption | omega | (simp only [xput, xnew]; omega)) ?_ | exact rfl) (c_BO_end hE hs _) (by omega) (fun r hh hp => ?_)
  obtain ⟨rfl, rfl⟩ := hp
  have e0 : bdAt f (2 * 0) = f 0 := rfl
  have e1 : bdAt f (2 * 0 + 1) = f 1 := rfl
  rw [e0, e1]
  refine wp_icmp_ne (tgt := 23) d_BO_placeBehind_10 (by decide) (fun hc => ?_) (fun hc => ?_)
  · refine wp_aload_n d_BO_placeBehind_23 rfl rfl ?_
    refine wp_iconst (v := 0) d_BO_placeBehind_24 (by rfl) ?_
    refine wp_callV1 xc_BO_34 d_BO_placeBehind_25 (Nat.le_of_ble_eq_true rfl) (by repeat first | assumption | exact xg_eq | exact xn_eq (by first | rfl | omega) | refine xg_ne (by first | assumption | omega | (simp only [xput, xnew]; omega)) ?_ | refine xn_ne (by first | assumption | omega | (simp only [xput, xnew]; omega)) ?_ | exact rfl) (c_BO_end hE hs _) (by omega) (fun r hh hp => ?_)
    obtain ⟨rfl, rfl⟩ := hp
    refine wp_ireturn d_BO_placeBehind_28 rfl (by first | rfl | assumption) ?_
    rw [if_neg hc, e1]
    exact ⟨rfl, rfl⟩
  · refine wp_aload_n d_BO_placeBehind_13 rfl rfl ?_
    refine wp_iconst (v := 0) d_BO_placeBehind_14 (by rfl) ?_
    refine wp_callV1 xc_BO_34 d_BO_placeBehind_15 (Nat.le_of_ble_eq_true rfl) (by repeat first | assumption | exact xg_eq | exact xn_eq (by first | rfl | omega) | refine xg_ne (by first | assumption | omega | (simp only [xput, xnew]; omega)) ?_ | refine xn_ne (by first | assumption | omega | (simp only [xput, xnew]; omega)) ?_ | exact rfl) (c_BO_end hE hs _) (by omega) (fun r hh hp => ?_)
    obtain ⟨rfl, rfl⟩ := hp
    refine wp_iconst (v := 1) d_BO_placeBehind_18 (by rfl) ?_
    refine wp_iadd d_BO_placeBehind_19 ?_
    refine wp_goto (tgt := 28) d_BO_placeBehind_20 (by decide) ?_
    refine wp_ireturn d_BO_placeBehind_28 rfl (by first | rfl | assumption) ?_
    rw [if_pos hc, e1]
    exact ⟨rfl, rfl⟩
theorem c_BO_init (hE : xOK E) (h1 : h.2.2 a = some (ob 1 [.null])) (h2 : a < xb E + h.1) : wpc E 1 m_BO_init [.ref a] h (fun r' h' => r' = none ∧ xgr E [a] 1 14 h h' ∧ Bd E h' a (xb E + h.1) (filled 14 (-2) (fun _ => 0))) := by
  refine wpc_of rfl (Nat.le_of_ble_eq_true rfl) ?_
  refine wp_aload_n d_BO_init_0 rfl rfl ?_
  refine wp_objInit xo_BO_3 d_BO_init_1 (Nat.le_of_ble_eq_true rfl) (by omega) ?_
  refine wp_aload_n d_BO_init_4 rfl rfl ?_
  refine wp_bipush (v := 14) d_BO_init_5 (by rfl) ?_
  refine wp_newa (ty := .int) (N := 14) (a0 := (14, .inl (fun _ => 0))) rfl ka_int d_BO_init_7 hE.i rfl (fun _ h9 => h9) (by decide) (by decide) (by decide) ?_
  refine wp_put xf_BO_9 xg_BO (Or.inr ⟨rfl, rfl, rfl⟩) d_BO_init_9 (by repeat first | assumption | exact xg_eq | exact xn_eq (by first | rfl | omega) | refine xg_ne (by first | assumption | omega | (simp only [xput, xnew]; omega)) ?_ | refine xn_ne (by first | assumption | omega | (simp only [xput, xnew]; omega)) ?_ | exact rfl) (by first | rfl | assumption) (by first | rfl | assumption) (Nat.le_of_ble_eq_true rfl) ?_
  refine wp_aload_n d_BO_init_12 rfl rfl ?_
  refine wp_get xf_BO_9 d_BO_init_13 (by repeat first | assumption | exact xg_eq | exact xn_eq (by first | rfl | omega) | refine xg_ne (by first | assumption | omega | (simp only [xput, xnew]; omega)) ?_ | refine xn_ne (by first | assumption | omega | (simp only [xput, xnew]; omega)) ?_ | exact rfl) (by rfl) ?_
  refine wp_bipush (v := (-2)) d_BO_init_16 (by rfl) ?_
  refine wp_callS2 xc_BO_15 d_BO_init_18 (Nat.le_of_ble_eq_true rfl) (c_JA_fill hE (n := 14) (by decide) (by repeat first | assumption | exact xg_eq | exact xn_eq (by first | rfl | omega) | refine xg_ne (by first | assumption | omega | (simp only [xput, xnew]; omega)) ?_ | refine xn_ne (by first | assumption | omega | (simp only [xput, xnew]; omega)) ?_ | exact rfl) _) (by omega) (fun r hh hp => ?_)
  obtain ⟨rfl, rfl⟩ := hp
  refine wp_return d_BO_init_21 rfl ?_
  refine ⟨rfl, ⟨rfl, rfl, fun q q1 q2 => ?_⟩, (by repeat first | assumption | exact xg_eq | exact xn_eq (by first | rfl | omega) | refine xg_ne (by first | assumption | omega | (simp only [xput, xnew]; omega)) ?_ | refine xn_ne (by first | assumption | omega | (simp only [xput, xnew]; omega)) ?_ | exact rfl), (by repeat first | assumption | exact xg_eq | exact xn_eq (by first | rfl | omega) | refine xg_ne (by first | assumption | omega | (simp only [xput, xnew]; omega)) ?_ | refine xn_ne (by first | assumption | omega | (simp only [xput, xnew]; omega)) ?_ | exact rfl), by omega⟩
  have q3 : q ≠ a := fun e => q2 (by rw [e]; exact List.mem_singleton.mpr rfl)
  exact (by repeat first | assumption | exact xg_eq | exact xn_eq (by first | rfl | omega) | refine xg_ne (by first | assumption | omega | (simp only [xput, xnew]; omega)) ?_ | refine xn_ne (by first | assumption | omega | (simp only [xput, xnew]; omega)) ?_ | exact rfl)
end BO
end
section
/-! PatternSearch$Signs as lists -/
/-- the signs at a (array r, n places) are the list xs -/
def SgL (E : xE) (h : xH) (a r n : Nat) (xs : List Int32) : Prop := ∃ f : Nat → Int32, Sg E h a r n f xs.length ∧ ∀ k : Nat, k < xs.length → f k = xs.getD k (-2)
def lAt (xs : List Int32) (p : Int32) : Int32 := if p < 0 then -2 else xs.getD p.toNatClampNeg (-2)
theorem lAt_nI (xs : List Int32) {i : Nat} (hi : i < 2 ^ 31) : lAt xs (nI i) = xs.getD i (-2) := by
  rw [lAt, if_neg (nI_pos hi), nI_clamp hi]
section SL
variable {E : xE} {h : xH} {a r n : Nat} {xs : List Int32}
theorem SgL.len (hs : SgL E h a r n xs) : xs.length ≤ n ∧ n ≤ 1000 := by
  obtain ⟨f, hf, -⟩ := hs
  exact ⟨hf.2.2.2.1, hf.2.2.2.2⟩
theorem SgL.obj (hs : SgL E h a r n xs) : h.2.2 a = some (ob 8 [.ref r, .int (nI xs.length)]) := by
  obtain ⟨f, hf, -⟩ := hs
  exact hf.1
theorem SgL.ne (hs : SgL E h a r n xs) : a ≠ r := by
  obtain ⟨f, hf, -⟩ := hs
  exact hf.2.2.1
theorem SgL.mv {h' : xH} (hs : SgL E h a r n xs) (h1 : h'.2.2 a = h.2.2 a) (h2 : h'.2.2 r = h.2.2 r) : SgL E h' a r n xs := by
  obtain ⟨f, ⟨q1, q2, q3⟩, hf⟩ := hs
  exact ⟨f, ⟨h1.trans q1, h2.trans q2, q3⟩, hf⟩
theorem c_SI_lengthL (hs : SgL E h a r n xs) : wpc E 0 m_SI_length [.ref a] h (fun r' h' => r' = some (.int (nI xs.length)) ∧ h' = h) := by
  obtain ⟨f, hf, -⟩ := hs
  exact c_SI_length hf
theorem c_SI_isFullL (hE : xOK E) (hs : SgL E h a r n xs) : wpc E 0 m_SI_isFull [.ref a] h (fun r' h' => r' = some (.int (if n ≤ xs.length then 1 else 0)) ∧ h' = h) := by
  obtain ⟨f, hf, -⟩ := hs
  exact c_SI_isFull hE hf
theorem c_SI_atL (hE : xOK E) (hs : SgL E h a r n xs) (p : Int32) : wpc E 0 m_SI_at [.ref a, .int p] h (fun r' h' => r' = some (.int (lAt xs p)) ∧ h' = h) := by
  have hl := hs.len
  obtain ⟨f, hf, hx⟩ := hs
  refine (c_SI_at hE hf p).mono ?_
  rintro r' h' ⟨rfl, rfl⟩
  refine ⟨?_, rfl⟩
  rw [sgAt, lAt]
  by_cases h1 : p < 0
  · rw [if_pos h1, if_pos h1]
  · rw [if_neg h1, if_neg h1]
    obtain ⟨j, hj, rfl⟩ := nI_of h1
    rw [nI_clamp hj]
    by_cases h2 : xs.length ≤ j
    · rw [if_pos (nI_le h2 hj), List.getD_eq_getElem?_getD, List.getElem?_eq_none h2]; rfl
    · rw [if_neg (by rw [nI_leI (by omega) hj]; exact h2), hx j (by omega)]
theorem c_SI_clearL (hs : SgL E h a r n xs) : wpc E 0 m_SI_clear [.ref a] h (fun r' h' => r' = none ∧ xfr [a] h h' ∧ SgL E h' a r n []) := by
  obtain ⟨f, hf, hx⟩ := hs
  refine (c_SI_clear hf).mono ?_
  rintro r' h' ⟨rfl, rfl⟩
  obtain ⟨h1, h2, h3, h4, h5⟩ := hf
  exact ⟨rfl, xfr.rf.put (by simp), f, ⟨(by repeat first | assumption | exact xg_eq | exact xn_eq (by first | rfl | omega) | refine xg_ne (by first | assumption | omega | (simp only [xput, xnew]; omega)) ?_ | refine xn_ne (by first | assumption | omega | (simp only [xput, xnew]; omega)) ?_ | exact rfl), (by repeat first | assumption | exact xg_eq | exact xn_eq (by first | rfl | omega) | refine xg_ne (by first | assumption | omega | (simp only [xput, xnew]; omega)) ?_ | refine xn_ne (by first | assumption | omega | (simp only [xput, xnew]; omega)) ?_ | exact rfl), h3, Nat.zero_le _, h5⟩, fun k hk => absurd hk (Nat.not_lt_zero k)⟩
theorem c_SI_addL (hE : xOK E) (hs : SgL E h a r n xs) (hlt : xs.length < n) (v : Int32) : wpc E 1 m_SI_add [.ref a, .int v] h (fun r' h' => r' = none ∧ xfr [a, r] h h' ∧ SgL E h' a r n (xs ++ [v])) := by
  obtain ⟨f, hf, hx⟩ := hs
  refine (c_SI_add hE hf v).mono ?_
  rintro r' h' ⟨rfl, rfl⟩
  rw [if_neg (by omega)]
  obtain ⟨h1, h2, h3, h4, h5⟩ := hf
  refine ⟨rfl, (xfr.rf.put (by simp)).put (by simp), upd f xs.length v, ⟨?_, (by repeat first | assumption | exact xg_eq | exact xn_eq (by first | rfl | omega) | refine xg_ne (by first | assumption | omega | (simp only [xput, xnew]; omega)) ?_ | refine xn_ne (by first | assumption | omega | (simp only [xput, xnew]; omega)) ?_ | exact rfl), h3, by rw [List.length_append]; exact hlt, h5⟩, fun k hk => ?_⟩
  · rw [List.length_append]
    exact (by repeat first | assumption | exact xg_eq | exact xn_eq (by first | rfl | omega) | refine xg_ne (by first | assumption | omega | (simp only [xput, xnew]; omega)) ?_ | refine xn_ne (by first | assumption | omega | (simp only [xput, xnew]; omega)) ?_ | exact rfl)
  · rw [List.length_append, List.length_singleton] at hk
    by_cases hk2 : k = xs.length
    · subst hk2
      rw [List.getD_eq_getElem?_getD, List.getElem?_concat_length]
      exact pk_us
    · rw [pk_un hk2, hx k (by omega), List.getD_eq_getElem?_getD, List.getD_eq_getElem?_getD, List.getElem?_append_left (by omega)]
theorem c_SI_init (hE : xOK E) (hn : n ≤ 1000) (h1 : h.2.2 a = some (ob 8 [.null, .int 0])) (h2 : a < xb E + h.1) : wpc E 1 m_SI_init [.ref a, .int (nI n)] h (fun r' h' => r' = none ∧ xgr E [a] 1 n h h' ∧ SgL E h' a (xb E + h.1) n []) := by
  refine wpc_of rfl (Nat.le_of_ble_eq_true rfl) ?_
  refine wp_aload_n d_SI_init_0 rfl rfl ?_
  refine wp_objInit xo_SI_3 d_SI_init_1 (Nat.le_of_ble_eq_true rfl) (by omega) ?_
  refine wp_aload_n d_SI_init_4 rfl rfl ?_
  refine wp_iload_n d_SI_init_5 rfl rfl ?_
  refine wp_newa (ty := .int) (N := n) (a0 := (n, .inl (fun _ => 0))) rfl ka_int d_SI_init_6 hE.i rfl (fun _ h9 => h9) (nI_pos (by omega)) (nI_clamp (by omega)) (by show n * 4 ≤ _; omega) ?_
  refine wp_put xf_SI_9 xg_SI (Or.inr ⟨rfl, rfl, rfl⟩) d_SI_init_8 (by repeat first | assumption | exact xg_eq | exact xn_eq (by first | rfl | omega) | refine xg_ne (by first | assumption | omega | (simp only [xput, xnew]; omega)) ?_ | refine xn_ne (by first | assumption | omega | (simp only [xput, xnew]; omega)) ?_ | exact rfl) (by first | rfl | assumption) (by first | rfl | assumption) (Nat.le_of_ble_eq_true rfl) ?_
  refine wp_aload_n d_SI_init_11 rfl rfl ?_
  refine wp_iconst (v := 0) d_SI_init_12 (by rfl) ?_
  refine wp_put xf_SI_15 xg_SI (Or.inl rfl) d_SI_init_13 (by repeat first | assumption | exact xg_eq | exact xn_eq (by first | rfl | omega) | refine xg_ne (by first | assumption | omega | (simp only [xput, xnew]; omega)) ?_ | refine xn_ne (by first | assumption | omega | (simp only [xput, xnew]; omega)) ?_ | exact rfl) (by first | rfl | assumption) (by first | rfl | assumption) (Nat.le_of_ble_eq_true rfl) ?_
  refine wp_return d_SI_init_16 rfl ?_
  refine ⟨rfl, ⟨rfl, rfl, fun q q1 q2 => ?_⟩, fun _ => 0, ⟨(by repeat first | assumption | exact xg_eq | exact xn_eq (by first | rfl | omega) | refine xg_ne (by first | assumption | omega | (simp only [xput, xnew]; omega)) ?_ | refine xn_ne (by first | assumption | omega | (simp only [xput, xnew]; omega)) ?_ | exact rfl), (by repeat first | assumption | exact xg_eq | exact xn_eq (by first | rfl | omega) | refine xg_ne (by first | assumption | omega | (simp only [xput, xnew]; omega)) ?_ | refine xn_ne (by first | assumption | omega | (simp only [xput, xnew]; omega)) ?_ | exact rfl), by omega, Nat.zero_le _, hn⟩, fun k hk => absurd hk (Nat.not_lt_zero k)⟩
  have q3 : q ≠ a := fun e => q2 (by rw [e]; exact List.mem_singleton.mpr rfl)
  exact (by repeat first | assumption | exact xg_eq | exact xn_eq (by first | rfl | omega) | refine xg_ne (by first | assumption | omega | (simp only [xput, xnew]; omega)) ?_ | refine xn_ne (by first | assumption | omega | (simp only [xput, xnew]; omega)) ?_ | exact rfl)
theorem getD_take_succ {ys : List Int32} {i k : Nat} (h : i + k < ys.length) : (ys.drop i).take k ++ [ys.getD (i + k) (-2)] = (ys.drop i).take (k + 1) := by
  rw [List.take_succ, List.getElem?_drop, List.getD_eq_getElem?_getD, List.getElem?_eq_getElem h]
  rfl
theorem c_SI_addStretch (hE : xOK E) {a2 r2 n2 : Nat} {ys : List Int32} (hs : SgL E h a r n xs) (ht : SgL E h a2 r2 n2 ys) (h1 : a2 ≠ a) (h2 : a2 ≠ r) (h3 : r2 ≠ a) (h4 : r2 ≠ r) {i j : Nat} (hij : i ≤ j) (hj : j ≤ ys.length) (hroom : xs.length + (j - i) ≤ n) :
    wpc E 2 m_SI_addStretch [.ref a, .ref a2, .int (nI i), .int (nI j)] h (fun r' h' => r' = none ∧ xfr [a, r] h h' ∧ SgL E h' a r n (xs ++ (ys.drop i).take (j - i))) := by
  have hl := hs.len
  have hl2 := ht.len
  have key : ∀ (q k : Nat) (h' : xH), q + k = j - i → xfr [a, r] h h' → SgL E h' a r n (xs ++ (ys.drop i).take k) → wp E 2 m_SI_addStretch 3 [(0, .ref a), (1, .ref a2), (2, .int (nI i)), (3, .int (nI j)), (4, .int (nI (i + k)))] [] h' (fun r' h' => r' = none ∧ xfr [a, r] h h' ∧ SgL E h' a r n (xs ++ (ys.drop i).take (j - i))) := by
    intro q
    induction q with
    | zero =>
      intro k h' hk hf hg
      have : k = j - i := by omega
      subst this
      refine wp_iload d_SI_addStretch_3 rfl ?_
      refine wp_iload_n d_SI_addStretch_5 rfl rfl ?_
      refine wp_icmp_ge (tgt := 25) d_SI_addStretch_6 (by decide) (fun hc => ?_) (fun hc => ?_)
      · refine wp_return d_SI_addStretch_25 rfl ?_
        exact ⟨rfl, hf, hg⟩
      · exact absurd (nI_le (by omega) (by omega)) hc
    | succ q ih =>
      intro k h' hk hf hg
      have ht' : SgL E h' a2 r2 n2 ys := ht.mv (hf.2.2 _ (by simp [h1, h2])) (hf.2.2 _ (by simp [h3, h4]))
      have o1 := hg.obj
      have o2 := ht'.obj
      refine wp_iload d_SI_addStretch_3 rfl ?_
      refine wp_iload_n d_SI_addStretch_5 rfl rfl ?_
      refine wp_icmp_ge (tgt := 25) d_SI_addStretch_6 (by decide) (fun hc => ?_) (fun hc => ?_)
      · exact absurd hc (nI_ge (by omega) (by omega))
      · refine wp_aload_n d_SI_addStretch_9 rfl rfl ?_
        refine wp_aload_n d_SI_addStretch_10 rfl rfl ?_
        refine wp_iload d_SI_addStretch_11 rfl ?_
        refine wp_callV1 xc_SI_23 d_SI_addStretch_13 (Nat.le_of_ble_eq_true rfl) (by repeat first | assumption | exact xg_eq | exact xn_eq (by first | rfl | omega) | refine xg_ne (by first | assumption | omega | (simp only [xput, xnew]; omega)) ?_ | refine xn_ne (by first | assumption | omega | (simp only [xput, xnew]; omega)) ?_ | exact rfl) (c_SI_atL hE ht' _) (by omega) (fun r hh hp => ?_)
        obtain ⟨rfl, rfl⟩ := hp
        rw [lAt_nI _ (by omega)]
        refine wp_callV1 xc_SI_27 d_SI_addStretch_16 (Nat.le_of_ble_eq_true rfl) (by repeat first | assumption | exact xg_eq | exact xn_eq (by first | rfl | omega) | refine xg_ne (by first | assumption | omega | (simp only [xput, xnew]; omega)) ?_ | refine xn_ne (by first | assumption | omega | (simp only [xput, xnew]; omega)) ?_ | exact rfl) (c_SI_addL hE hg (by rw [List.length_append, List.length_take]; omega) _) (by omega) (fun r hh hp => ?_)
        obtain ⟨rfl, hf2, hg2⟩ := hp
        rw [List.append_assoc, getD_take_succ (by omega)] at hg2
        refine wp_iinc d_SI_addStretch_19 rfl rfl (by decide) rfl ?_
        refine wp_goto (tgt := 3) d_SI_addStretch_22 (by decide) ?_
        rw [show nI (i + k) + Int32.ofInt 1 = nI (i + (k + 1)) from (nI_succ (i + k)).symm]
        exact ih (k + 1) hh (by omega) (hf.tr hf2) hg2
  refine wpc_of rfl (Nat.le_of_ble_eq_true rfl) ?_
  refine wp_iload_n d_SI_addStretch_0 rfl rfl ?_
  refine wp_istore d_SI_addStretch_1 (by decide) rfl ?_
  exact key (j - i) 0 h rfl xfr.rf (by simpa using hs)
/-- no stretch: nothing is added -/
theorem c_SI_addStretchN {a2 : Nat} {x y : Int32} (hxy : ¬ x < y) : wpc E 2 m_SI_addStretch [.ref a, .ref a2, .int x, .int y] h (fun r' h' => r' = none ∧ h' = h) := by
  refine wpc_of rfl (Nat.le_of_ble_eq_true rfl) ?_
  refine wp_iload_n d_SI_addStretch_0 rfl rfl ?_
  refine wp_istore d_SI_addStretch_1 (by decide) rfl ?_
  refine wp_iload d_SI_addStretch_3 rfl ?_
  refine wp_iload_n d_SI_addStretch_5 rfl rfl ?_
  refine wp_icmp_ge (tgt := 25) d_SI_addStretch_6 (by decide) (fun hc => ?_) (fun hc => ?_)
  · refine wp_return d_SI_addStretch_25 rfl ?_
    exact ⟨rfl, rfl⟩
  · exact absurd (Int32.not_lt.mp hxy) hc
end SL
end
section
/-! the tree's cells: PatternSearch$Atom, Piece, Row, Choice -/
def bI (b : Bool) : Int32 := if b then 1 else 0
theorem b_t {b : Bool} (h : ¬ b = false) : b = true := by cases b <;> simp_all
theorem bI_z (b : Bool) : narrow .boolean (.int (bI b)) = .int (bI b) := by cases b <;> rfl
theorem bI_f (b : Bool) : fits .boolean (.int (bI b)) = true := by cases b <;> rfl
theorem bI_0 {b : Bool} : bI b = 0 ↔ b = false := by cases b <;> decide
theorem bI_1 {b : Bool} : bI b = 1 ↔ b = true := by cases b <;> decide
theorem wp_ldc2 {E : xE} {d : Nat} {M : xM} {pc idx : Nat} {lo : List (Nat × Value)} {st : List Value} {h : xH} {P : Option Value → xH → Prop} {v : Int64} (hw : Cond.constantLong M.1.cls idx v ∈ xGT) (hd : decode M.2.1 pc = .ok (.ldc2_w idx, 3)) (k : wp E d M (pc + 3) lo (.long v :: st) h P) : wp E d M pc lo st h P :=
  wp_go (fun p l e R s m args below meth c Q cells slots H locs ls C _ _ _ hl kk => W.ldc2 C.1 C.2.1 C.2.2.2.2.1 (x_hts C.2.2.2.2.2.2.1 _ hw) rfl hd (kk ls hl)) k
theorem kl_AT_20 : Cond.constantLong "PatternSearch$Atom" 20 (-1) ∈ xGT := x_in (i := 473) (by decide +kernel) rfl
section TR
variable {E : xE} {h : xH} {a r : Nat}
theorem c_AT_init (k : Int32) (h1 : h.2.2 a = some (ob 0 [.int 0, .long 0, .long 0, .int 0, .null])) : wpc E 1 m_AT_init [.ref a, .int k] h (fun r' h' => r' = none ∧ h' = xput h a (ob 0 [.int k, .long 0, .long 0, .int 0, .null])) := by
  refine wpc_of rfl (Nat.le_of_ble_eq_true rfl) ?_
  refine wp_aload_n d_AT_init_0 rfl rfl ?_
  refine wp_objInit xo_AT_1 d_AT_init_1 (Nat.le_of_ble_eq_true rfl) (by omega) ?_
  refine wp_aload_n d_AT_init_4 rfl rfl ?_
  refine wp_iload_n d_AT_init_5 rfl rfl ?_
  refine wp_put xf_AT_7 xg_AT (Or.inr ⟨rfl, rfl, rfl⟩) d_AT_init_6 (by repeat first | assumption | exact xg_eq | exact xn_eq (by first | rfl | omega) | refine xg_ne (by first | assumption | omega | (simp only [xput, xnew]; omega)) ?_ | refine xn_ne (by first | assumption | omega | (simp only [xput, xnew]; omega)) ?_ | exact rfl) (by first | rfl | assumption) (by first | rfl | assumption) (Nat.le_of_ble_eq_true rfl) ?_
  refine wp_return d_AT_init_9 rfl ?_
  exact ⟨rfl, rfl⟩
theorem c_AT_enclose {k g0 g : Int32} {lo hi : Int64} {v : Value} {c : Nat} (h1 : h.2.2 a = some (ob 0 [.int k, .long lo, .long hi, .int g0, v])) : wpc E 0 m_AT_enclose [.ref a, .int g, .ref c] h (fun r' h' => r' = none ∧ h' = xput h a (ob 0 [.int k, .long lo, .long hi, .int g, .ref c])) := by
  refine wpc_of rfl (Nat.le_of_ble_eq_true rfl) ?_
  refine wp_aload_n d_AT_enclose_0 rfl rfl ?_
  refine wp_iload_n d_AT_enclose_1 rfl rfl ?_
  refine wp_put xf_AT_22 xg_AT (Or.inl rfl) d_AT_enclose_2 (by repeat first | assumption | exact xg_eq | exact xn_eq (by first | rfl | omega) | refine xg_ne (by first | assumption | omega | (simp only [xput, xnew]; omega)) ?_ | refine xn_ne (by first | assumption | omega | (simp only [xput, xnew]; omega)) ?_ | exact rfl) (by first | rfl | assumption) (by first | rfl | assumption) (Nat.le_of_ble_eq_true rfl) ?_
  refine wp_aload_n d_AT_enclose_5 rfl rfl ?_
  refine wp_aload_n d_AT_enclose_6 rfl rfl ?_
  refine wp_put xf_AT_25 xg_AT (Or.inl rfl) d_AT_enclose_7 (by repeat first | assumption | exact xg_eq | exact xn_eq (by first | rfl | omega) | refine xg_ne (by first | assumption | omega | (simp only [xput, xnew]; omega)) ?_ | refine xn_ne (by first | assumption | omega | (simp only [xput, xnew]; omega)) ?_ | exact rfl) (by first | rfl | assumption) (by first | rfl | assumption) (Nat.le_of_ble_eq_true rfl) ?_
  refine wp_return d_AT_enclose_10 rfl ?_
  exact ⟨rfl, xput2⟩
theorem c_AT_takeOthers {k g : Int32} {lo hi : Int64} {v : Value} (h1 : h.2.2 a = some (ob 0 [.int k, .long lo, .long hi, .int g, v])) : wpc E 0 m_AT_takeOthers [.ref a] h (fun r' h' => r' = none ∧ h' = xput h a (ob 0 [.int k, .long (lo ^^^ (-1)), .long (hi ^^^ (-1)), .int g, v])) := by
  refine wpc_of rfl (Nat.le_of_ble_eq_true rfl) ?_
  refine wp_aload_n d_AT_takeOthers_0 rfl rfl ?_
  refine wp_aload_n d_AT_takeOthers_1 rfl rfl ?_
  refine wp_get xf_AT_13 d_AT_takeOthers_2 (by repeat first | assumption | exact xg_eq | exact xn_eq (by first | rfl | omega) | refine xg_ne (by first | assumption | omega | (simp only [xput, xnew]; omega)) ?_ | refine xn_ne (by first | assumption | omega | (simp only [xput, xnew]; omega)) ?_ | exact rfl) (by rfl) ?_
  refine wp_ldc2 kl_AT_20 d_AT_takeOthers_5 ?_
  refine wp_lxor d_AT_takeOthers_8 ?_
  refine wp_put xf_AT_13 xg_AT (Or.inl rfl) d_AT_takeOthers_9 (by repeat first | assumption | exact xg_eq | exact xn_eq (by first | rfl | omega) | refine xg_ne (by first | assumption | omega | (simp only [xput, xnew]; omega)) ?_ | refine xn_ne (by first | assumption | omega | (simp only [xput, xnew]; omega)) ?_ | exact rfl) (by first | rfl | assumption) (by first | rfl | assumption) (Nat.le_of_ble_eq_true rfl) ?_
  refine wp_aload_n d_AT_takeOthers_12 rfl rfl ?_
  refine wp_aload_n d_AT_takeOthers_13 rfl rfl ?_
  refine wp_get xf_AT_17 d_AT_takeOthers_14 (by repeat first | assumption | exact xg_eq | exact xn_eq (by first | rfl | omega) | refine xg_ne (by first | assumption | omega | (simp only [xput, xnew]; omega)) ?_ | refine xn_ne (by first | assumption | omega | (simp only [xput, xnew]; omega)) ?_ | exact rfl) (by rfl) ?_
  refine wp_ldc2 kl_AT_20 d_AT_takeOthers_17 ?_
  refine wp_lxor d_AT_takeOthers_20 ?_
  refine wp_put xf_AT_17 xg_AT (Or.inl rfl) d_AT_takeOthers_21 (by repeat first | assumption | exact xg_eq | exact xn_eq (by first | rfl | omega) | refine xg_ne (by first | assumption | omega | (simp only [xput, xnew]; omega)) ?_ | refine xn_ne (by first | assumption | omega | (simp only [xput, xnew]; omega)) ?_ | exact rfl) (by first | rfl | assumption) (by first | rfl | assumption) (Nat.le_of_ble_eq_true rfl) ?_
  refine wp_return d_AT_takeOthers_24 rfl ?_
  exact ⟨rfl, xput2⟩
/-- the bits that takeSigns sets, from place i on, k of them -/
def tkS : Nat → Nat → Int64 × Int64 → Int64 × Int64
  | 0, _, b => b
  | k + 1, i, b => tkS k (i + 1) (if i < 64 then (b.1 ||| ((1 : Int64) <<< ((nI i).toInt64 &&& 63)), b.2) else (b.1, b.2 ||| ((1 : Int64) <<< ((nI i - 64).toInt64 &&& 63))))
theorem c_AT_takeSigns {k g : Int32} {v : Value} {i j : Nat} (hij : i ≤ 1000) (hj : j ≤ 1000) (lo hi : Int64) (h1 : h.2.2 a = some (ob 0 [.int k, .long lo, .long hi, .int g, v])) :
    wpc E 0 m_AT_takeSigns [.ref a, .int (nI i), .int (nI j)] h (fun r' h' => r' = none ∧ h' = xput h a (ob 0 [.int k, .long (tkS (j + 1 - i) i (lo, hi)).1, .long (tkS (j + 1 - i) i (lo, hi)).2, .int g, v])) := by
  · have key : ∀ (q i' : Nat) (b : Int64 × Int64), i' ≤ 2000 → q = j + 1 - i' → wp E 0 m_AT_takeSigns 2 [(0, .ref a), (1, .int (nI i)), (2, .int (nI j)), (3, .int (nI i'))] [] (xput h a (ob 0 [.int k, .long b.1, .long b.2, .int g, v])) (fun r' h' => r' = none ∧ h' = xput h a (ob 0 [.int k, .long (tkS q i' b).1, .long (tkS q i' b).2, .int g, v])) := by
      intro q
      induction q with
      | zero =>
        intro i' b hi hq
        refine wp_iload_n d_AT_takeSigns_2 rfl rfl ?_
        refine wp_iload_n d_AT_takeSigns_3 rfl rfl ?_
        refine wp_icmp_gt (tgt := 49) d_AT_takeSigns_4 (by decide) (fun hc => ?_) (fun hc => ?_)
        · refine wp_return d_AT_takeSigns_49 rfl ?_
          exact ⟨rfl, rfl⟩
        · exact absurd (nI_lt (by omega) (by omega)) hc
      | succ q ih =>
        intro i' b hi hq
        refine wp_iload_n d_AT_takeSigns_2 rfl rfl ?_
        refine wp_iload_n d_AT_takeSigns_3 rfl rfl ?_
        refine wp_icmp_gt (tgt := 49) d_AT_takeSigns_4 (by decide) (fun hc => ?_) (fun hc => ?_)
        · exact absurd hc (nI_nlt (by omega) (by omega))
        · refine wp_iload_n d_AT_takeSigns_7 rfl rfl ?_
          refine wp_bipush (v := 64) d_AT_takeSigns_8 (by rfl) ?_
          refine wp_icmp_ge (tgt := 28) d_AT_takeSigns_10 (by decide) (fun hc2 => ?_) (fun hc2 => ?_)
          · have h64 : ¬ i' < 64 := Nat.not_lt.mpr ((nI_leI (a := 64) (by decide) (by omega)).mp hc2)
            refine wp_aload_n d_AT_takeSigns_28 rfl rfl ?_
            refine wp_dup d_AT_takeSigns_29 rfl ?_
            refine wp_get xf_AT_17 d_AT_takeSigns_30 (by repeat first | assumption | exact xg_eq | exact xn_eq (by first | rfl | omega) | refine xg_ne (by first | assumption | omega | (simp only [xput, xnew]; omega)) ?_ | refine xn_ne (by first | assumption | omega | (simp only [xput, xnew]; omega)) ?_ | exact rfl) (by rfl) ?_
            refine wp_lconst (v := 1) d_AT_takeSigns_33 (by rfl) ?_
            refine wp_iload_n d_AT_takeSigns_34 rfl rfl ?_
            refine wp_bipush (v := 64) d_AT_takeSigns_35 (by rfl) ?_
            refine wp_isub d_AT_takeSigns_37 ?_
            refine wp_lshl d_AT_takeSigns_38 ?_
            refine wp_lor d_AT_takeSigns_39 ?_
            refine wp_put xf_AT_17 xg_AT (Or.inl rfl) d_AT_takeSigns_40 (by repeat first | assumption | exact xg_eq | exact xn_eq (by first | rfl | omega) | refine xg_ne (by first | assumption | omega | (simp only [xput, xnew]; omega)) ?_ | refine xn_ne (by first | assumption | omega | (simp only [xput, xnew]; omega)) ?_ | exact rfl) (by first | rfl | assumption) (by first | rfl | assumption) (Nat.le_of_ble_eq_true rfl) ?_
            refine wp_iinc d_AT_takeSigns_43 rfl rfl (by decide) rfl ?_
            refine wp_goto (tgt := 2) d_AT_takeSigns_46 (by decide) ?_
            rw [xput2, tkS, if_neg h64]
            have := ih (i' + 1) (b.1, b.2 ||| ((1 : Int64) <<< ((nI i' - 64).toInt64 &&& 63))) (by omega) (by omega)
            rw [nI_succ] at this
            exact this
          · have h64 : i' < 64 := Nat.not_le.mp (fun q => hc2 ((nI_leI (a := 64) (by decide) (by omega)).mpr q))
            refine wp_aload_n d_AT_takeSigns_13 rfl rfl ?_
            refine wp_dup d_AT_takeSigns_14 rfl ?_
            refine wp_get xf_AT_13 d_AT_takeSigns_15 (by repeat first | assumption | exact xg_eq | exact xn_eq (by first | rfl | omega) | refine xg_ne (by first | assumption | omega | (simp only [xput, xnew]; omega)) ?_ | refine xn_ne (by first | assumption | omega | (simp only [xput, xnew]; omega)) ?_ | exact rfl) (by rfl) ?_
            refine wp_lconst (v := 1) d_AT_takeSigns_18 (by rfl) ?_
            refine wp_iload_n d_AT_takeSigns_19 rfl rfl ?_
            refine wp_lshl d_AT_takeSigns_20 ?_
            refine wp_lor d_AT_takeSigns_21 ?_
            refine wp_put xf_AT_13 xg_AT (Or.inl rfl) d_AT_takeSigns_22 (by repeat first | assumption | exact xg_eq | exact xn_eq (by first | rfl | omega) | refine xg_ne (by first | assumption | omega | (simp only [xput, xnew]; omega)) ?_ | refine xn_ne (by first | assumption | omega | (simp only [xput, xnew]; omega)) ?_ | exact rfl) (by first | rfl | assumption) (by first | rfl | assumption) (Nat.le_of_ble_eq_true rfl) ?_
            refine wp_goto (tgt := 43) d_AT_takeSigns_25 (by decide) ?_
            refine wp_iinc d_AT_takeSigns_43 rfl rfl (by decide) rfl ?_
            refine wp_goto (tgt := 2) d_AT_takeSigns_46 (by decide) ?_
            rw [xput2, tkS, if_pos h64]
            have := ih (i' + 1) (b.1 ||| ((1 : Int64) <<< ((nI i').toInt64 &&& 63)), b.2) (by omega) (by omega)
            rw [nI_succ] at this
            exact this
    refine wpc_of rfl (Nat.le_of_ble_eq_true rfl) ?_
    refine wp_iload_n d_AT_takeSigns_0 rfl rfl ?_
    refine wp_istore_n d_AT_takeSigns_1 rfl (by decide) rfl ?_
    have := key (j + 1 - i) i (lo, hi) (by omega) rfl
    rw [xput_self h1] at this
    exact this
/-- a reference or null in a field -/
theorem rf_n (C : String) (o : Option Nat) : narrow (.object C) (va_rf o) = va_rf o := by cases o <;> rfl
theorem rf_f (C : String) (o : Option Nat) : fits (.object C) (va_rf o) = true := by cases o <;> rfl
theorem c_CH_init (h1 : h.2.2 a = some (ob 2 [.null, .int 0, .int 0])) : wpc E 1 m_CH_init [.ref a] h (fun r' h' => r' = none ∧ h' = h) := by
  refine wpc_of rfl (Nat.le_of_ble_eq_true rfl) ?_
  refine wp_aload_n d_CH_init_0 rfl rfl ?_
  refine wp_objInit xo_CH_1 d_CH_init_1 (Nat.le_of_ble_eq_true rfl) (by omega) ?_
  refine wp_return d_CH_init_4 rfl ?_
  exact ⟨rfl, rfl⟩
theorem c_CH_size {v : Value} {s e : Int32} (h1 : h.2.2 a = some (ob 2 [v, .int s, .int e])) : wpc E 0 m_CH_size [.ref a] h (fun r' h' => r' = some (.int s) ∧ h' = h) := by
  refine wpc_of rfl (Nat.le_of_ble_eq_true rfl) ?_
  refine wp_aload_n d_CH_size_0 rfl rfl ?_
  refine wp_get xf_CH_7 d_CH_size_1 (by repeat first | assumption | exact xg_eq | exact xn_eq (by first | rfl | omega) | refine xg_ne (by first | assumption | omega | (simp only [xput, xnew]; omega)) ?_ | refine xn_ne (by first | assumption | omega | (simp only [xput, xnew]; omega)) ?_ | exact rfl) (by rfl) ?_
  refine wp_ireturn d_CH_size_4 rfl (by first | rfl | assumption) ?_
  exact ⟨rfl, rfl⟩
theorem c_CH_canBeEmpty {v : Value} {s : Int32} {e : Bool} (h1 : h.2.2 a = some (ob 2 [v, .int s, .int (bI e)])) : wpc E 0 m_CH_canBeEmpty [.ref a] h (fun r' h' => r' = some (.int (bI e)) ∧ h' = h) := by
  have hz := bI_z e
  refine wpc_of rfl (Nat.le_of_ble_eq_true rfl) ?_
  refine wp_aload_n d_CH_canBeEmpty_0 rfl rfl ?_
  refine wp_get xf_CH_20 d_CH_canBeEmpty_1 (by repeat first | assumption | exact xg_eq | exact xn_eq (by first | rfl | omega) | refine xg_ne (by first | assumption | omega | (simp only [xput, xnew]; omega)) ?_ | refine xn_ne (by first | assumption | omega | (simp only [xput, xnew]; omega)) ?_ | exact rfl) (by rfl) ?_
  refine wp_ireturn d_CH_canBeEmpty_4 rfl (by first | rfl | assumption) ?_
  exact ⟨rfl, rfl⟩
theorem c_AT_sizeL {k g : Int32} {lo hi : Int64} (h1 : h.2.2 a = some (ob 0 [.int k, .long lo, .long hi, .int g, .null])) : wpc E 1 m_AT_size [.ref a] h (fun r' h' => r' = some (.int 1) ∧ h' = h) := by
  refine wpc_of rfl (Nat.le_of_ble_eq_true rfl) ?_
  refine wp_aload_n d_AT_size_0 rfl rfl ?_
  refine wp_get xf_AT_25 d_AT_size_1 (by repeat first | assumption | exact xg_eq | exact xn_eq (by first | rfl | omega) | refine xg_ne (by first | assumption | omega | (simp only [xput, xnew]; omega)) ?_ | refine xn_ne (by first | assumption | omega | (simp only [xput, xnew]; omega)) ?_ | exact rfl) (by rfl) ?_
  refine wp_ifnonnullN d_AT_size_4 ?_
  refine wp_iconst (v := 1) d_AT_size_7 (by rfl) ?_
  refine wp_goto (tgt := 20) d_AT_size_8 (by decide) ?_
  refine wp_ireturn d_AT_size_20 rfl (by first | rfl | assumption) ?_
  exact ⟨rfl, rfl⟩
theorem c_AT_sizeG {k g s e : Int32} {lo hi : Int64} {c : Nat} {v : Value} (h1 : h.2.2 a = some (ob 0 [.int k, .long lo, .long hi, .int g, .ref c])) (h2 : h.2.2 c = some (ob 2 [v, .int s, .int e])) : wpc E 1 m_AT_size [.ref a] h (fun r' h' => r' = some (.int (s + 2)) ∧ h' = h) := by
  refine wpc_of rfl (Nat.le_of_ble_eq_true rfl) ?_
  refine wp_aload_n d_AT_size_0 rfl rfl ?_
  refine wp_get xf_AT_25 d_AT_size_1 (by repeat first | assumption | exact xg_eq | exact xn_eq (by first | rfl | omega) | refine xg_ne (by first | assumption | omega | (simp only [xput, xnew]; omega)) ?_ | refine xn_ne (by first | assumption | omega | (simp only [xput, xnew]; omega)) ?_ | exact rfl) (by rfl) ?_
  refine wp_ifnonnull (tgt := 11) d_AT_size_4 (by decide) ?_
  refine wp_aload_n d_AT_size_11 rfl rfl ?_
  refine wp_get xf_AT_25 d_AT_size_12 (by repeat first | assumption | exact xg_eq | exact xn_eq (by first | rfl | omega) | refine xg_ne (by first | assumption | omega | (simp only [xput, xnew]; omega)) ?_ | refine xn_ne (by first | assumption | omega | (simp only [xput, xnew]; omega)) ?_ | exact rfl) (by rfl) ?_
  refine wp_callV0 xc_AT_29 d_AT_size_15 (Nat.le_of_ble_eq_true rfl) (by repeat first | assumption | exact xg_eq | exact xn_eq (by first | rfl | omega) | refine xg_ne (by first | assumption | omega | (simp only [xput, xnew]; omega)) ?_ | refine xn_ne (by first | assumption | omega | (simp only [xput, xnew]; omega)) ?_ | exact rfl) (c_CH_size h2) (by omega) (fun r hh hp => ?_)
  obtain ⟨rfl, rfl⟩ := hp
  refine wp_iconst (v := 2) d_AT_size_18 (by rfl) ?_
  refine wp_iadd d_AT_size_19 ?_
  refine wp_ireturn d_AT_size_20 rfl (by first | rfl | assumption) ?_
  exact ⟨rfl, rfl⟩
theorem c_AT_canBeEmptyL {k g : Int32} {lo hi : Int64} (h1 : h.2.2 a = some (ob 0 [.int k, .long lo, .long hi, .int g, .null])) : wpc E 1 m_AT_canBeEmpty [.ref a] h (fun r' h' => r' = some (.int (bI (!decide (k = 1)))) ∧ h' = h) := by
  refine wpc_of rfl (Nat.le_of_ble_eq_true rfl) ?_
  refine wp_aload_n d_AT_canBeEmpty_0 rfl rfl ?_
  refine wp_get xf_AT_25 d_AT_canBeEmpty_1 (by repeat first | assumption | exact xg_eq | exact xn_eq (by first | rfl | omega) | refine xg_ne (by first | assumption | omega | (simp only [xput, xnew]; omega)) ?_ | refine xn_ne (by first | assumption | omega | (simp only [xput, xnew]; omega)) ?_ | exact rfl) (by rfl) ?_
  refine wp_ifnonnullN d_AT_canBeEmpty_4 ?_
  refine wp_aload_n d_AT_canBeEmpty_7 rfl rfl ?_
  refine wp_get xf_AT_7 d_AT_canBeEmpty_8 (by repeat first | assumption | exact xg_eq | exact xn_eq (by first | rfl | omega) | refine xg_ne (by first | assumption | omega | (simp only [xput, xnew]; omega)) ?_ | refine xn_ne (by first | assumption | omega | (simp only [xput, xnew]; omega)) ?_ | exact rfl) (by rfl) ?_
  refine wp_iconst (v := 1) d_AT_canBeEmpty_11 (by rfl) ?_
  refine wp_icmp_eq (tgt := 19) d_AT_canBeEmpty_12 (by decide) (fun hc => ?_) (fun hc => ?_)
  · refine wp_iconst (v := 0) d_AT_canBeEmpty_19 (by rfl) ?_
    refine wp_goto (tgt := 30) d_AT_canBeEmpty_20 (by decide) ?_
    refine wp_ireturn d_AT_canBeEmpty_30 rfl (by first | rfl | assumption) ?_
    rw [decide_eq_true hc]
    exact ⟨rfl, rfl⟩
  · refine wp_iconst (v := 1) d_AT_canBeEmpty_15 (by rfl) ?_
    refine wp_goto (tgt := 30) d_AT_canBeEmpty_16 (by decide) ?_
    refine wp_ireturn d_AT_canBeEmpty_30 rfl (by first | rfl | assumption) ?_
    rw [decide_eq_false hc]
    exact ⟨rfl, rfl⟩
theorem c_AT_canBeEmptyG {k g s : Int32} {lo hi : Int64} {c : Nat} {v : Value} {e : Bool} (h1 : h.2.2 a = some (ob 0 [.int k, .long lo, .long hi, .int g, .ref c])) (h2 : h.2.2 c = some (ob 2 [v, .int s, .int (bI e)])) : wpc E 1 m_AT_canBeEmpty [.ref a] h (fun r' h' => r' = some (.int (bI e)) ∧ h' = h) := by
  have hz := bI_z e
  refine wpc_of rfl (Nat.le_of_ble_eq_true rfl) ?_
  refine wp_aload_n d_AT_canBeEmpty_0 rfl rfl ?_
  refine wp_get xf_AT_25 d_AT_canBeEmpty_1 (by repeat first | assumption | exact xg_eq | exact xn_eq (by first | rfl | omega) | refine xg_ne (by first | assumption | omega | (simp only [xput, xnew]; omega)) ?_ | refine xn_ne (by first | assumption | omega | (simp only [xput, xnew]; omega)) ?_ | exact rfl) (by rfl) ?_
  refine wp_ifnonnull (tgt := 23) d_AT_canBeEmpty_4 (by decide) ?_
  refine wp_aload_n d_AT_canBeEmpty_23 rfl rfl ?_
  refine wp_get xf_AT_25 d_AT_canBeEmpty_24 (by repeat first | assumption | exact xg_eq | exact xn_eq (by first | rfl | omega) | refine xg_ne (by first | assumption | omega | (simp only [xput, xnew]; omega)) ?_ | refine xn_ne (by first | assumption | omega | (simp only [xput, xnew]; omega)) ?_ | exact rfl) (by rfl) ?_
  refine wp_callV0 xc_AT_37 d_AT_canBeEmpty_27 (Nat.le_of_ble_eq_true rfl) (by repeat first | assumption | exact xg_eq | exact xn_eq (by first | rfl | omega) | refine xg_ne (by first | assumption | omega | (simp only [xput, xnew]; omega)) ?_ | refine xn_ne (by first | assumption | omega | (simp only [xput, xnew]; omega)) ?_ | exact rfl) (c_CH_canBeEmpty h2) (by omega) (fun r hh hp => ?_)
  obtain ⟨rfl, rfl⟩ := hp
  refine wp_ireturn d_AT_canBeEmpty_30 rfl (by first | rfl | assumption) ?_
  exact ⟨rfl, rfl⟩
-- Piece
theorem c_PI_init (c : Nat) (h1 : h.2.2 a = some (ob 4 [.null, .null, .int 0, .int 0, .int 0, .int 0])) : wpc E 1 m_PI_init [.ref a, .ref c] h (fun r' h' => r' = none ∧ h' = xput h a (ob 4 [.ref c, .null, .int 1, .int 1, .int 0, .int 0])) := by
  refine wpc_of rfl (Nat.le_of_ble_eq_true rfl) ?_
  refine wp_aload_n d_PI_init_0 rfl rfl ?_
  refine wp_objInit xo_PI_1 d_PI_init_1 (Nat.le_of_ble_eq_true rfl) (by omega) ?_
  refine wp_aload_n d_PI_init_4 rfl rfl ?_
  refine wp_iconst (v := 1) d_PI_init_5 (by rfl) ?_
  refine wp_put xf_PI_7 xg_PI (Or.inl rfl) d_PI_init_6 (by repeat first | assumption | exact xg_eq | exact xn_eq (by first | rfl | omega) | refine xg_ne (by first | assumption | omega | (simp only [xput, xnew]; omega)) ?_ | refine xn_ne (by first | assumption | omega | (simp only [xput, xnew]; omega)) ?_ | exact rfl) (by first | rfl | assumption) (by first | rfl | assumption) (Nat.le_of_ble_eq_true rfl) ?_
  refine wp_aload_n d_PI_init_9 rfl rfl ?_
  refine wp_iconst (v := 1) d_PI_init_10 (by rfl) ?_
  refine wp_put xf_PI_13 xg_PI (Or.inl rfl) d_PI_init_11 (by repeat first | assumption | exact xg_eq | exact xn_eq (by first | rfl | omega) | refine xg_ne (by first | assumption | omega | (simp only [xput, xnew]; omega)) ?_ | refine xn_ne (by first | assumption | omega | (simp only [xput, xnew]; omega)) ?_ | exact rfl) (by first | rfl | assumption) (by first | rfl | assumption) (Nat.le_of_ble_eq_true rfl) ?_
  refine wp_aload_n d_PI_init_14 rfl rfl ?_
  refine wp_aload_n d_PI_init_15 rfl rfl ?_
  refine wp_put xf_PI_16 xg_PI (Or.inr ⟨rfl, rfl, rfl⟩) d_PI_init_16 (by repeat first | assumption | exact xg_eq | exact xn_eq (by first | rfl | omega) | refine xg_ne (by first | assumption | omega | (simp only [xput, xnew]; omega)) ?_ | refine xn_ne (by first | assumption | omega | (simp only [xput, xnew]; omega)) ?_ | exact rfl) (by first | rfl | assumption) (by first | rfl | assumption) (Nat.le_of_ble_eq_true rfl) ?_
  refine wp_return d_PI_init_19 rfl ?_
  exact ⟨rfl, by rw [xput2, xput2]; rfl⟩
theorem c_PI_repeat {v w : Value} {l m u s : Int32} (x y : Int32) (h1 : h.2.2 a = some (ob 4 [v, w, .int l, .int m, .int u, .int s])) : wpc E 0 m_PI_repeat [.ref a, .int x, .int y] h (fun r' h' => r' = none ∧ h' = xput h a (ob 4 [v, w, .int x, .int y, .int u, .int s])) := by
  refine wpc_of rfl (Nat.le_of_ble_eq_true rfl) ?_
  refine wp_aload_n d_PI_repeat_0 rfl rfl ?_
  refine wp_iload_n d_PI_repeat_1 rfl rfl ?_
  refine wp_put xf_PI_7 xg_PI (Or.inl rfl) d_PI_repeat_2 (by repeat first | assumption | exact xg_eq | exact xn_eq (by first | rfl | omega) | refine xg_ne (by first | assumption | omega | (simp only [xput, xnew]; omega)) ?_ | refine xn_ne (by first | assumption | omega | (simp only [xput, xnew]; omega)) ?_ | exact rfl) (by first | rfl | assumption) (by first | rfl | assumption) (Nat.le_of_ble_eq_true rfl) ?_
  refine wp_aload_n d_PI_repeat_5 rfl rfl ?_
  refine wp_iload_n d_PI_repeat_6 rfl rfl ?_
  refine wp_put xf_PI_13 xg_PI (Or.inl rfl) d_PI_repeat_7 (by repeat first | assumption | exact xg_eq | exact xn_eq (by first | rfl | omega) | refine xg_ne (by first | assumption | omega | (simp only [xput, xnew]; omega)) ?_ | refine xn_ne (by first | assumption | omega | (simp only [xput, xnew]; omega)) ?_ | exact rfl) (by first | rfl | assumption) (by first | rfl | assumption) (Nat.le_of_ble_eq_true rfl) ?_
  refine wp_return d_PI_repeat_10 rfl ?_
  exact ⟨rfl, xput2⟩
theorem c_PI_repeatUnbounded {v w : Value} {l m u s : Int32} (x : Int32) (h1 : h.2.2 a = some (ob 4 [v, w, .int l, .int m, .int u, .int s])) : wpc E 0 m_PI_repeatUnbounded [.ref a, .int x] h (fun r' h' => r' = none ∧ h' = xput h a (ob 4 [v, w, .int x, .int m, .int 1, .int s])) := by
  refine wpc_of rfl (Nat.le_of_ble_eq_true rfl) ?_
  refine wp_aload_n d_PI_repeatUnbounded_0 rfl rfl ?_
  refine wp_iload_n d_PI_repeatUnbounded_1 rfl rfl ?_
  refine wp_put xf_PI_7 xg_PI (Or.inl rfl) d_PI_repeatUnbounded_2 (by repeat first | assumption | exact xg_eq | exact xn_eq (by first | rfl | omega) | refine xg_ne (by first | assumption | omega | (simp only [xput, xnew]; omega)) ?_ | refine xn_ne (by first | assumption | omega | (simp only [xput, xnew]; omega)) ?_ | exact rfl) (by first | rfl | assumption) (by first | rfl | assumption) (Nat.le_of_ble_eq_true rfl) ?_
  refine wp_aload_n d_PI_repeatUnbounded_5 rfl rfl ?_
  refine wp_iconst (v := 1) d_PI_repeatUnbounded_6 (by rfl) ?_
  refine wp_put xf_PI_20 xg_PI (Or.inl rfl) d_PI_repeatUnbounded_7 (by repeat first | assumption | exact xg_eq | exact xn_eq (by first | rfl | omega) | refine xg_ne (by first | assumption | omega | (simp only [xput, xnew]; omega)) ?_ | refine xn_ne (by first | assumption | omega | (simp only [xput, xnew]; omega)) ?_ | exact rfl) (by first | rfl | assumption) (by first | rfl | assumption) (Nat.le_of_ble_eq_true rfl) ?_
  refine wp_return d_PI_repeatUnbounded_10 rfl ?_
  exact ⟨rfl, xput2⟩
/-- what an atom answers of itself -/
def atQ (E : xE) (h : xH) (c : Nat) (s : Int32) (e : Bool) : Prop := (∃ k lo hi g, h.2.2 c = some (ob 0 [.int k, .long lo, .long hi, .int g, .null]) ∧ s = 1 ∧ e = !decide (k = 1)) ∨ (∃ k lo hi g i v s', h.2.2 c = some (ob 0 [.int k, .long lo, .long hi, .int g, .ref i]) ∧ h.2.2 i = some (ob 2 [v, .int s', .int (bI e)]) ∧ s = s' + 2)
theorem c_AT_size {c : Nat} {s : Int32} {e : Bool} (hq : atQ E h c s e) : wpc E 1 m_AT_size [.ref c] h (fun r' h' => r' = some (.int s) ∧ h' = h) := by
  rcases hq with ⟨k, lo, hi, g, h1, rfl, rfl⟩ | ⟨k, lo, hi, g, i, v, s', h1, h2, rfl⟩
  · exact c_AT_sizeL h1
  · exact c_AT_sizeG h1 h2
theorem c_AT_canBeEmpty {c : Nat} {s : Int32} {e : Bool} (hq : atQ E h c s e) : wpc E 1 m_AT_canBeEmpty [.ref c] h (fun r' h' => r' = some (.int (bI e)) ∧ h' = h) := by
  rcases hq with ⟨k, lo, hi, g, h1, rfl, rfl⟩ | ⟨k, lo, hi, g, i, v, s', h1, h2, rfl⟩
  · exact c_AT_canBeEmptyL h1
  · exact c_AT_canBeEmptyG h1 h2
theorem atQ.obj {c : Nat} {s : Int32} {e : Bool} (hq : atQ E h c s e) : ∃ fs, h.2.2 c = some (ob 0 fs) := by
  rcases hq with ⟨k, lo, hi, g, h1, -⟩ | ⟨k, lo, hi, g, i, v, s', h1, -⟩ <;> exact ⟨_, h1⟩
theorem c_PI_size {c : Nat} {w : Value} {l m sp s : Int32} {e u : Bool} (h1 : h.2.2 a = some (ob 4 [.ref c, w, .int l, .int m, .int (bI u), .int sp])) (hq : atQ E h c s e) : wpc E 2 m_PI_size [.ref a] h (fun r' h' => r' = some (.int (if u then s + 2 else m * s + 2 * (m - l))) ∧ h' = h) := by
  obtain ⟨fs, ho⟩ := hq.obj
  refine wpc_of rfl (Nat.le_of_ble_eq_true rfl) ?_
  refine wp_aload_n d_PI_size_0 rfl rfl ?_
  refine wp_get xf_PI_20 d_PI_size_1 (by repeat first | assumption | exact xg_eq | exact xn_eq (by first | rfl | omega) | refine xg_ne (by first | assumption | omega | (simp only [xput, xnew]; omega)) ?_ | refine xn_ne (by first | assumption | omega | (simp only [xput, xnew]; omega)) ?_ | exact rfl) (by rfl) ?_
  refine wp_if_eq (tgt := 19) d_PI_size_4 (by decide) (fun hc => ?_) (fun hc => ?_)
  · rw [bI_0] at hc
    subst hc
    refine wp_aload_n d_PI_size_19 rfl rfl ?_
    refine wp_get xf_PI_13 d_PI_size_20 (by repeat first | assumption | exact xg_eq | exact xn_eq (by first | rfl | omega) | refine xg_ne (by first | assumption | omega | (simp only [xput, xnew]; omega)) ?_ | refine xn_ne (by first | assumption | omega | (simp only [xput, xnew]; omega)) ?_ | exact rfl) (by rfl) ?_
    refine wp_aload_n d_PI_size_23 rfl rfl ?_
    refine wp_get xf_PI_16 d_PI_size_24 (by repeat first | assumption | exact xg_eq | exact xn_eq (by first | rfl | omega) | refine xg_ne (by first | assumption | omega | (simp only [xput, xnew]; omega)) ?_ | refine xn_ne (by first | assumption | omega | (simp only [xput, xnew]; omega)) ?_ | exact rfl) (by rfl) ?_
    refine wp_callV0 xc_PI_24 d_PI_size_27 (Nat.le_of_ble_eq_true rfl) (by repeat first | assumption | exact xg_eq | exact xn_eq (by first | rfl | omega) | refine xg_ne (by first | assumption | omega | (simp only [xput, xnew]; omega)) ?_ | refine xn_ne (by first | assumption | omega | (simp only [xput, xnew]; omega)) ?_ | exact rfl) (c_AT_size hq) (by omega) (fun r hh hp => ?_)
    obtain ⟨rfl, rfl⟩ := hp
    refine wp_imul d_PI_size_30 ?_
    refine wp_iconst (v := 2) d_PI_size_31 (by rfl) ?_
    refine wp_aload_n d_PI_size_32 rfl rfl ?_
    refine wp_get xf_PI_13 d_PI_size_33 (by repeat first | assumption | exact xg_eq | exact xn_eq (by first | rfl | omega) | refine xg_ne (by first | assumption | omega | (simp only [xput, xnew]; omega)) ?_ | refine xn_ne (by first | assumption | omega | (simp only [xput, xnew]; omega)) ?_ | exact rfl) (by rfl) ?_
    refine wp_aload_n d_PI_size_36 rfl rfl ?_
    refine wp_get xf_PI_7 d_PI_size_37 (by repeat first | assumption | exact xg_eq | exact xn_eq (by first | rfl | omega) | refine xg_ne (by first | assumption | omega | (simp only [xput, xnew]; omega)) ?_ | refine xn_ne (by first | assumption | omega | (simp only [xput, xnew]; omega)) ?_ | exact rfl) (by rfl) ?_
    refine wp_isub d_PI_size_40 ?_
    refine wp_imul d_PI_size_41 ?_
    refine wp_iadd d_PI_size_42 ?_
    refine wp_ireturn d_PI_size_43 rfl (by first | rfl | assumption) ?_
    exact ⟨rfl, rfl⟩
  · rw [bI_0] at hc
    have hc : u = true := by cases u <;> simp_all
    subst hc
    refine wp_aload_n d_PI_size_7 rfl rfl ?_
    refine wp_get xf_PI_16 d_PI_size_8 (by repeat first | assumption | exact xg_eq | exact xn_eq (by first | rfl | omega) | refine xg_ne (by first | assumption | omega | (simp only [xput, xnew]; omega)) ?_ | refine xn_ne (by first | assumption | omega | (simp only [xput, xnew]; omega)) ?_ | exact rfl) (by rfl) ?_
    refine wp_callV0 xc_PI_24 d_PI_size_11 (Nat.le_of_ble_eq_true rfl) (by repeat first | assumption | exact xg_eq | exact xn_eq (by first | rfl | omega) | refine xg_ne (by first | assumption | omega | (simp only [xput, xnew]; omega)) ?_ | refine xn_ne (by first | assumption | omega | (simp only [xput, xnew]; omega)) ?_ | exact rfl) (c_AT_size hq) (by omega) (fun r hh hp => ?_)
    obtain ⟨rfl, rfl⟩ := hp
    refine wp_iconst (v := 2) d_PI_size_14 (by rfl) ?_
    refine wp_iadd d_PI_size_15 ?_
    refine wp_goto (tgt := 43) d_PI_size_16 (by decide) ?_
    refine wp_ireturn d_PI_size_43 rfl (by first | rfl | assumption) ?_
    exact ⟨rfl, rfl⟩
theorem c_PI_canBeEmpty {c : Nat} {w : Value} {l m u sp s : Int32} {e : Bool} (h1 : h.2.2 a = some (ob 4 [.ref c, w, .int l, .int m, .int u, .int sp])) (hq : atQ E h c s e) : wpc E 2 m_PI_canBeEmpty [.ref a] h (fun r' h' => r' = some (.int (bI (decide (l = 0) || e))) ∧ h' = h) := by
  obtain ⟨fs, ho⟩ := hq.obj
  refine wpc_of rfl (Nat.le_of_ble_eq_true rfl) ?_
  refine wp_aload_n d_PI_canBeEmpty_0 rfl rfl ?_
  refine wp_get xf_PI_7 d_PI_canBeEmpty_1 (by repeat first | assumption | exact xg_eq | exact xn_eq (by first | rfl | omega) | refine xg_ne (by first | assumption | omega | (simp only [xput, xnew]; omega)) ?_ | refine xn_ne (by first | assumption | omega | (simp only [xput, xnew]; omega)) ?_ | exact rfl) (by rfl) ?_
  refine wp_if_eq (tgt := 17) d_PI_canBeEmpty_4 (by decide) (fun hc => ?_) (fun hc => ?_)
  · refine wp_iconst (v := 1) d_PI_canBeEmpty_17 (by rfl) ?_
    refine wp_goto (tgt := 22) d_PI_canBeEmpty_18 (by decide) ?_
    refine wp_ireturn d_PI_canBeEmpty_22 rfl (by first | rfl | assumption) ?_
    rw [decide_eq_true hc]
    exact ⟨rfl, rfl⟩
  · refine wp_aload_n d_PI_canBeEmpty_7 rfl rfl ?_
    refine wp_get xf_PI_16 d_PI_canBeEmpty_8 (by repeat first | assumption | exact xg_eq | exact xn_eq (by first | rfl | omega) | refine xg_ne (by first | assumption | omega | (simp only [xput, xnew]; omega)) ?_ | refine xn_ne (by first | assumption | omega | (simp only [xput, xnew]; omega)) ?_ | exact rfl) (by rfl) ?_
    refine wp_callV0 xc_PI_30 d_PI_canBeEmpty_11 (Nat.le_of_ble_eq_true rfl) (by repeat first | assumption | exact xg_eq | exact xn_eq (by first | rfl | omega) | refine xg_ne (by first | assumption | omega | (simp only [xput, xnew]; omega)) ?_ | refine xn_ne (by first | assumption | omega | (simp only [xput, xnew]; omega)) ?_ | exact rfl) (c_AT_canBeEmpty hq) (by omega) (fun r hh hp => ?_)
    obtain ⟨rfl, rfl⟩ := hp
    rw [decide_eq_false hc]
    refine wp_if_eq (tgt := 21) d_PI_canBeEmpty_14 (by decide) (fun hc2 => ?_) (fun hc2 => ?_)
    · rw [bI_0] at hc2
      subst hc2
      refine wp_iconst (v := 0) d_PI_canBeEmpty_21 (by rfl) ?_
      refine wp_ireturn d_PI_canBeEmpty_22 rfl (by first | rfl | assumption) ?_
      exact ⟨rfl, rfl⟩
    · rw [bI_0] at hc2
      have hc2 : e = true := by cases e <;> simp_all
      subst hc2
      refine wp_iconst (v := 1) d_PI_canBeEmpty_17 (by rfl) ?_
      refine wp_goto (tgt := 22) d_PI_canBeEmpty_18 (by decide) ?_
      refine wp_ireturn d_PI_canBeEmpty_22 rfl (by first | rfl | assumption) ?_
      exact ⟨rfl, rfl⟩
theorem c_PI_isEndless {c : Nat} {w : Value} {l m sp s : Int32} {e u : Bool} (h1 : h.2.2 a = some (ob 4 [.ref c, w, .int l, .int m, .int (bI u), .int sp])) (hq : atQ E h c s e) : wpc E 2 m_PI_isEndless [.ref a] h (fun r' h' => r' = some (.int (bI (u && e))) ∧ h' = h) := by
  obtain ⟨fs, ho⟩ := hq.obj
  refine wpc_of rfl (Nat.le_of_ble_eq_true rfl) ?_
  refine wp_aload_n d_PI_isEndless_0 rfl rfl ?_
  refine wp_get xf_PI_20 d_PI_isEndless_1 (by repeat first | assumption | exact xg_eq | exact xn_eq (by first | rfl | omega) | refine xg_ne (by first | assumption | omega | (simp only [xput, xnew]; omega)) ?_ | refine xn_ne (by first | assumption | omega | (simp only [xput, xnew]; omega)) ?_ | exact rfl) (by rfl) ?_
  refine wp_if_eq (tgt := 21) d_PI_isEndless_4 (by decide) (fun hc => ?_) (fun hc => ?_)
  · rw [bI_0] at hc
    subst hc
    refine wp_iconst (v := 0) d_PI_isEndless_21 (by rfl) ?_
    refine wp_ireturn d_PI_isEndless_22 rfl (by first | rfl | assumption) ?_
    exact ⟨rfl, rfl⟩
  · rw [bI_0] at hc
    have hc : u = true := by cases u <;> simp_all
    subst hc
    refine wp_aload_n d_PI_isEndless_7 rfl rfl ?_
    refine wp_get xf_PI_16 d_PI_isEndless_8 (by repeat first | assumption | exact xg_eq | exact xn_eq (by first | rfl | omega) | refine xg_ne (by first | assumption | omega | (simp only [xput, xnew]; omega)) ?_ | refine xn_ne (by first | assumption | omega | (simp only [xput, xnew]; omega)) ?_ | exact rfl) (by rfl) ?_
    refine wp_callV0 xc_PI_30 d_PI_isEndless_11 (Nat.le_of_ble_eq_true rfl) (by repeat first | assumption | exact xg_eq | exact xn_eq (by first | rfl | omega) | refine xg_ne (by first | assumption | omega | (simp only [xput, xnew]; omega)) ?_ | refine xn_ne (by first | assumption | omega | (simp only [xput, xnew]; omega)) ?_ | exact rfl) (c_AT_canBeEmpty hq) (by omega) (fun r hh hp => ?_)
    obtain ⟨rfl, rfl⟩ := hp
    refine wp_if_eq (tgt := 21) d_PI_isEndless_14 (by decide) (fun hc2 => ?_) (fun hc2 => ?_)
    · rw [bI_0] at hc2
      subst hc2
      refine wp_iconst (v := 0) d_PI_isEndless_21 (by rfl) ?_
      refine wp_ireturn d_PI_isEndless_22 rfl (by first | rfl | assumption) ?_
      exact ⟨rfl, rfl⟩
    · rw [bI_0] at hc2
      have hc2 : e = true := by cases e <;> simp_all
      subst hc2
      refine wp_iconst (v := 1) d_PI_isEndless_17 (by rfl) ?_
      refine wp_goto (tgt := 22) d_PI_isEndless_18 (by decide) ?_
      refine wp_ireturn d_PI_isEndless_22 rfl (by first | rfl | assumption) ?_
      exact ⟨rfl, rfl⟩
-- Row
theorem c_RO_init (h1 : h.2.2 a = some (ob 7 [.null, .null, .int 0, .int 0])) : wpc E 1 m_RO_init [.ref a] h (fun r' h' => r' = none ∧ h' = xput h a (ob 7 [.null, .null, .int 0, .int 1])) := by
  refine wpc_of rfl (Nat.le_of_ble_eq_true rfl) ?_
  refine wp_aload_n d_RO_init_0 rfl rfl ?_
  refine wp_objInit xo_RO_1 d_RO_init_1 (Nat.le_of_ble_eq_true rfl) (by omega) ?_
  refine wp_aload_n d_RO_init_4 rfl rfl ?_
  refine wp_iconst (v := 1) d_RO_init_5 (by rfl) ?_
  refine wp_put xf_RO_7 xg_RO (Or.inl rfl) d_RO_init_6 (by repeat first | assumption | exact xg_eq | exact xn_eq (by first | rfl | omega) | refine xg_ne (by first | assumption | omega | (simp only [xput, xnew]; omega)) ?_ | refine xn_ne (by first | assumption | omega | (simp only [xput, xnew]; omega)) ?_ | exact rfl) (by first | rfl | assumption) (by first | rfl | assumption) (Nat.le_of_ble_eq_true rfl) ?_
  refine wp_return d_RO_init_9 rfl ?_
  exact ⟨rfl, rfl⟩
theorem c_RO_add {p c : Nat} {b : Value} {o : Option Nat} {z l m sp s : Int32} {re e u : Bool} (hap : a ≠ p) (hac : a ≠ c) (hpc : p ≠ c) (h1 : h.2.2 a = some (ob 7 [b, va_rf o, .int z, .int (bI re)])) (h2 : h.2.2 p = some (ob 4 [.ref c, .null, .int l, .int m, .int (bI u), .int sp])) (hq : atQ E h c s e) (hq2 : ∀ h', (∀ q, q ≠ a → h'.2.2 q = h.2.2 q) → atQ E h' c s e) :
    wpc E 3 m_RO_add [.ref a, .ref p] h (fun r' h' => r' = none ∧ xfr [a, p] h h' ∧ h'.2.2 a = some (ob 7 [b, .ref p, .int (z + (if u then s + 2 else m * s + 2 * (m - l))), .int (bI (re && (decide (l = 0) || e)))]) ∧ h'.2.2 p = some (ob 4 [.ref c, va_rf o, .int l, .int m, .int (bI u), .int sp])) := by
  have hrf := rf_n "PatternSearch$Piece" o
  have hrf2 := rf_f "PatternSearch$Piece" o
  refine wpc_of rfl (Nat.le_of_ble_eq_true rfl) ?_
  refine wp_aload_n d_RO_add_0 rfl rfl ?_
  refine wp_dup d_RO_add_1 rfl ?_
  refine wp_get xf_RO_13 d_RO_add_2 (by repeat first | assumption | exact xg_eq | exact xn_eq (by first | rfl | omega) | refine xg_ne (by first | assumption | omega | (simp only [xput, xnew]; omega)) ?_ | refine xn_ne (by first | assumption | omega | (simp only [xput, xnew]; omega)) ?_ | exact rfl) (by rfl) ?_
  refine wp_aload_n d_RO_add_5 rfl rfl ?_
  refine wp_callV0 xc_RO_17 d_RO_add_6 (Nat.le_of_ble_eq_true rfl) (by repeat first | assumption | exact xg_eq | exact xn_eq (by first | rfl | omega) | refine xg_ne (by first | assumption | omega | (simp only [xput, xnew]; omega)) ?_ | refine xn_ne (by first | assumption | omega | (simp only [xput, xnew]; omega)) ?_ | exact rfl) (c_PI_size h2 hq) (by omega) (fun r hh hp => ?_)
  obtain ⟨rfl, hz0⟩ := hp; have hz0 := hz0.symm; subst hz0
  refine wp_iadd d_RO_add_9 ?_
  refine wp_put xf_RO_13 xg_RO (Or.inl rfl) d_RO_add_10 (by repeat first | assumption | exact xg_eq | exact xn_eq (by first | rfl | omega) | refine xg_ne (by first | assumption | omega | (simp only [xput, xnew]; omega)) ?_ | refine xn_ne (by first | assumption | omega | (simp only [xput, xnew]; omega)) ?_ | exact rfl) (by first | rfl | assumption) (by first | rfl | assumption) (Nat.le_of_ble_eq_true rfl) ?_
  refine wp_aload_n d_RO_add_13 rfl rfl ?_
  refine wp_aload_n d_RO_add_14 rfl rfl ?_
  refine wp_get xf_RO_7 d_RO_add_15 (by repeat first | assumption | exact xg_eq | exact xn_eq (by first | rfl | omega) | refine xg_ne (by first | assumption | omega | (simp only [xput, xnew]; omega)) ?_ | refine xn_ne (by first | assumption | omega | (simp only [xput, xnew]; omega)) ?_ | exact rfl) (by rfl) ?_
  generalize hz : z + (if u then s + 2 else m * s + 2 * (m - l)) = z'
  have hq3 := hq2 (xput h a (ob 7 [b, va_rf o, .int z', .int (bI re)])) (fun q hq => xg_ne hq rfl)
  have fin : ∀ x : Bool, x = (re && (decide (l = 0) || e)) → wp E 3 m_RO_add 33 (lv_args 0 [.ref a, .ref p]) [.int (bI x), .ref a] (xput h a (ob 7 [b, va_rf o, .int z', .int (bI re)])) (fun r' h' => r' = none ∧ xfr [a, p] h h' ∧ h'.2.2 a = some (ob 7 [b, .ref p, .int z', .int (bI (re && (decide (l = 0) || e)))]) ∧ h'.2.2 p = some (ob 4 [.ref c, va_rf o, .int l, .int m, .int (bI u), .int sp])) := by
    intro x hx
    subst hx
    have hb1 := bI_z (re && (decide (l = 0) || e))
    have hb2 := bI_f (re && (decide (l = 0) || e))
    refine wp_put xf_RO_7 xg_RO (Or.inl rfl) d_RO_add_33 (by repeat first | assumption | exact xg_eq | exact xn_eq (by first | rfl | omega) | refine xg_ne (by first | assumption | omega | (simp only [xput, xnew]; omega)) ?_ | refine xn_ne (by first | assumption | omega | (simp only [xput, xnew]; omega)) ?_ | exact rfl) (by first | rfl | assumption) (by first | rfl | assumption) (Nat.le_of_ble_eq_true rfl) ?_
    refine wp_aload_n d_RO_add_36 rfl rfl ?_
    refine wp_aload_n d_RO_add_37 rfl rfl ?_
    refine wp_get xf_RO_25 d_RO_add_38 (by repeat first | assumption | exact xg_eq | exact xn_eq (by first | rfl | omega) | refine xg_ne (by first | assumption | omega | (simp only [xput, xnew]; omega)) ?_ | refine xn_ne (by first | assumption | omega | (simp only [xput, xnew]; omega)) ?_ | exact rfl) (by rfl) ?_
    refine wp_put xf_RO_29 xg_PI (Or.inl rfl) d_RO_add_41 (by repeat first | assumption | exact xg_eq | exact xn_eq (by first | rfl | omega) | refine xg_ne (by first | assumption | omega | (simp only [xput, xnew]; omega)) ?_ | refine xn_ne (by first | assumption | omega | (simp only [xput, xnew]; omega)) ?_ | exact rfl) (by first | rfl | assumption) (by first | rfl | assumption) (Nat.le_of_ble_eq_true rfl) ?_
    refine wp_aload_n d_RO_add_44 rfl rfl ?_
    refine wp_aload_n d_RO_add_45 rfl rfl ?_
    refine wp_put xf_RO_25 xg_RO (Or.inl rfl) d_RO_add_46 (by repeat first | assumption | exact xg_eq | exact xn_eq (by first | rfl | omega) | refine xg_ne (by first | assumption | omega | (simp only [xput, xnew]; omega)) ?_ | refine xn_ne (by first | assumption | omega | (simp only [xput, xnew]; omega)) ?_ | exact rfl) (by first | rfl | assumption) (by first | rfl | assumption) (Nat.le_of_ble_eq_true rfl) ?_
    refine wp_return d_RO_add_49 rfl ?_
    exact ⟨rfl, (((xfr.rf.put (by simp)).put (by simp)).put (by simp)).put (by simp), (by repeat first | assumption | exact xg_eq | exact xn_eq (by first | rfl | omega) | refine xg_ne (by first | assumption | omega | (simp only [xput, xnew]; omega)) ?_ | refine xn_ne (by first | assumption | omega | (simp only [xput, xnew]; omega)) ?_ | exact rfl), (by repeat first | assumption | exact xg_eq | exact xn_eq (by first | rfl | omega) | refine xg_ne (by first | assumption | omega | (simp only [xput, xnew]; omega)) ?_ | refine xn_ne (by first | assumption | omega | (simp only [xput, xnew]; omega)) ?_ | exact rfl)⟩
  refine wp_if_eq (tgt := 32) d_RO_add_18 (by decide) (fun hc => ?_) (fun hc => ?_)
  · rw [bI_0] at hc
    subst hc
    refine wp_iconst (v := 0) d_RO_add_32 (by rfl) ?_
    exact fin false rfl
  · rw [bI_0] at hc
    have hc : re = true := by cases re <;> simp_all
    subst hc
    refine wp_aload_n d_RO_add_21 rfl rfl ?_
    refine wp_callV0 xc_RO_22 d_RO_add_22 (Nat.le_of_ble_eq_true rfl) (by repeat first | assumption | exact xg_eq | exact xn_eq (by first | rfl | omega) | refine xg_ne (by first | assumption | omega | (simp only [xput, xnew]; omega)) ?_ | refine xn_ne (by first | assumption | omega | (simp only [xput, xnew]; omega)) ?_ | exact rfl) (c_PI_canBeEmpty (l := l) (e := e) (by repeat first | assumption | exact xg_eq | exact xn_eq (by first | rfl | omega) | refine xg_ne (by first | assumption | omega | (simp only [xput, xnew]; omega)) ?_ | refine xn_ne (by first | assumption | omega | (simp only [xput, xnew]; omega)) ?_ | exact rfl) hq3) (by omega) (fun r hh hp => ?_)
    obtain ⟨rfl, hz0⟩ := hp; have hz0 := hz0.symm; subst hz0
    refine wp_if_eq (tgt := 32) d_RO_add_25 (by decide) (fun hc2 => ?_) (fun hc2 => ?_)
    · rw [bI_0] at hc2
      refine wp_iconst (v := 0) d_RO_add_32 (by rfl) ?_
      exact fin false (by rw [hc2]; rfl)
    · rw [bI_0] at hc2
      refine wp_iconst (v := 1) d_RO_add_28 (by rfl) ?_
      refine wp_goto (tgt := 33) d_RO_add_29 (by decide) ?_
      exact fin true (by rw [b_t hc2]; rfl)
theorem c_CH_add {o : Option Nat} {lp : Value} {sz rs : Int32} {e re : Bool} (har : a ≠ r) (h1 : h.2.2 a = some (ob 2 [va_rf o, .int sz, .int (bI e)])) (h2 : h.2.2 r = some (ob 7 [.null, lp, .int rs, .int (bI re)])) :
    wpc E 0 m_CH_add [.ref a, .ref r] h (fun r' h' => r' = none ∧ xfr [a, r] h h' ∧ h'.2.2 a = some (ob 2 [.ref r, .int (sz + (rs + (if o = none then 0 else 2))), .int (bI (e || re))]) ∧ h'.2.2 r = some (ob 7 [va_rf o, lp, .int rs, .int (bI re)])) := by
  have hrf := rf_n "PatternSearch$Row" o
  have hrf2 := rf_f "PatternSearch$Row" o
  have key : ∀ (x : Int32), x = (if o = none then 0 else 2) → wp E 0 m_CH_add 21 (lv_args 0 [.ref a, .ref r]) [.int x, .int rs, .int sz, .ref a] h (fun r' h' => r' = none ∧ xfr [a, r] h h' ∧ h'.2.2 a = some (ob 2 [.ref r, .int (sz + (rs + (if o = none then 0 else 2))), .int (bI (e || re))]) ∧ h'.2.2 r = some (ob 7 [va_rf o, lp, .int rs, .int (bI re)])) := by
    intro x hx
    subst hx
    refine wp_iadd d_CH_add_21 ?_
    refine wp_iadd d_CH_add_22 ?_
    refine wp_put xf_CH_7 xg_CH (Or.inl rfl) d_CH_add_23 (by repeat first | assumption | exact xg_eq | exact xn_eq (by first | rfl | omega) | refine xg_ne (by first | assumption | omega | (simp only [xput, xnew]; omega)) ?_ | refine xn_ne (by first | assumption | omega | (simp only [xput, xnew]; omega)) ?_ | exact rfl) (by first | rfl | assumption) (by first | rfl | assumption) (Nat.le_of_ble_eq_true rfl) ?_
    refine wp_aload_n d_CH_add_26 rfl rfl ?_
    refine wp_aload_n d_CH_add_27 rfl rfl ?_
    refine wp_get xf_CH_20 d_CH_add_28 (by repeat first | assumption | exact xg_eq | exact xn_eq (by first | rfl | omega) | refine xg_ne (by first | assumption | omega | (simp only [xput, xnew]; omega)) ?_ | refine xn_ne (by first | assumption | omega | (simp only [xput, xnew]; omega)) ?_ | exact rfl) (by rfl) ?_
    have fin : ∀ x : Bool, x = (e || re) → wp E 0 m_CH_add 46 (lv_args 0 [.ref a, .ref r]) [.int (bI x), .ref a] (xput h a (ob 2 [va_rf o, .int (sz + (rs + (if o = none then 0 else 2))), .int (bI e)])) (fun r' h' => r' = none ∧ xfr [a, r] h h' ∧ h'.2.2 a = some (ob 2 [.ref r, .int (sz + (rs + (if o = none then 0 else 2))), .int (bI (e || re))]) ∧ h'.2.2 r = some (ob 7 [va_rf o, lp, .int rs, .int (bI re)])) := by
      intro x hx
      subst hx
      have hb1 := bI_z (e || re)
      have hb2 := bI_f (e || re)
      refine wp_put xf_CH_20 xg_CH (Or.inl rfl) d_CH_add_46 (by repeat first | assumption | exact xg_eq | exact xn_eq (by first | rfl | omega) | refine xg_ne (by first | assumption | omega | (simp only [xput, xnew]; omega)) ?_ | refine xn_ne (by first | assumption | omega | (simp only [xput, xnew]; omega)) ?_ | exact rfl) (by first | rfl | assumption) (by first | rfl | assumption) (Nat.le_of_ble_eq_true rfl) ?_
      refine wp_aload_n d_CH_add_49 rfl rfl ?_
      refine wp_aload_n d_CH_add_50 rfl rfl ?_
      refine wp_get xf_CH_16 d_CH_add_51 (by repeat first | assumption | exact xg_eq | exact xn_eq (by first | rfl | omega) | refine xg_ne (by first | assumption | omega | (simp only [xput, xnew]; omega)) ?_ | refine xn_ne (by first | assumption | omega | (simp only [xput, xnew]; omega)) ?_ | exact rfl) (by rfl) ?_
      refine wp_put xf_CH_27 xg_RO (Or.inl rfl) d_CH_add_54 (by repeat first | assumption | exact xg_eq | exact xn_eq (by first | rfl | omega) | refine xg_ne (by first | assumption | omega | (simp only [xput, xnew]; omega)) ?_ | refine xn_ne (by first | assumption | omega | (simp only [xput, xnew]; omega)) ?_ | exact rfl) (by first | rfl | assumption) (by first | rfl | assumption) (Nat.le_of_ble_eq_true rfl) ?_
      refine wp_aload_n d_CH_add_57 rfl rfl ?_
      refine wp_aload_n d_CH_add_58 rfl rfl ?_
      refine wp_put xf_CH_16 xg_CH (Or.inl rfl) d_CH_add_59 (by repeat first | assumption | exact xg_eq | exact xn_eq (by first | rfl | omega) | refine xg_ne (by first | assumption | omega | (simp only [xput, xnew]; omega)) ?_ | refine xn_ne (by first | assumption | omega | (simp only [xput, xnew]; omega)) ?_ | exact rfl) (by first | rfl | assumption) (by first | rfl | assumption) (Nat.le_of_ble_eq_true rfl) ?_
      refine wp_return d_CH_add_62 rfl ?_
      exact ⟨rfl, (((xfr.rf.put (by simp)).put (by simp)).put (by simp)).put (by simp), (by repeat first | assumption | exact xg_eq | exact xn_eq (by first | rfl | omega) | refine xg_ne (by first | assumption | omega | (simp only [xput, xnew]; omega)) ?_ | refine xn_ne (by first | assumption | omega | (simp only [xput, xnew]; omega)) ?_ | exact rfl), (by repeat first | assumption | exact xg_eq | exact xn_eq (by first | rfl | omega) | refine xg_ne (by first | assumption | omega | (simp only [xput, xnew]; omega)) ?_ | refine xn_ne (by first | assumption | omega | (simp only [xput, xnew]; omega)) ?_ | exact rfl)⟩
    refine wp_if_ne (tgt := 41) d_CH_add_31 (by decide) (fun hc => ?_) (fun hc => ?_)
    · rw [bI_0] at hc
      refine wp_iconst (v := 1) d_CH_add_41 (by rfl) ?_
      refine wp_goto (tgt := 46) d_CH_add_42 (by decide) ?_
      exact fin true (by rw [b_t hc]; rfl)
    · rw [bI_0] at hc
      refine wp_aload_n d_CH_add_34 rfl rfl ?_
      refine wp_get xf_CH_24 d_CH_add_35 (by repeat first | assumption | exact xg_eq | exact xn_eq (by first | rfl | omega) | refine xg_ne (by first | assumption | omega | (simp only [xput, xnew]; omega)) ?_ | refine xn_ne (by first | assumption | omega | (simp only [xput, xnew]; omega)) ?_ | exact rfl) (by rfl) ?_
      refine wp_if_eq (tgt := 45) d_CH_add_38 (by decide) (fun hc2 => ?_) (fun hc2 => ?_)
      · rw [bI_0] at hc2
        refine wp_iconst (v := 0) d_CH_add_45 (by rfl) ?_
        exact fin false (by rw [hc, hc2]; rfl)
      · rw [bI_0] at hc2
        refine wp_iconst (v := 1) d_CH_add_41 (by rfl) ?_
        refine wp_goto (tgt := 46) d_CH_add_42 (by decide) ?_
        exact fin true (by rw [b_t hc2]; simp)
  refine wpc_of rfl (Nat.le_of_ble_eq_true rfl) ?_
  refine wp_aload_n d_CH_add_0 rfl rfl ?_
  refine wp_dup d_CH_add_1 rfl ?_
  refine wp_get xf_CH_7 d_CH_add_2 (by repeat first | assumption | exact xg_eq | exact xn_eq (by first | rfl | omega) | refine xg_ne (by first | assumption | omega | (simp only [xput, xnew]; omega)) ?_ | refine xn_ne (by first | assumption | omega | (simp only [xput, xnew]; omega)) ?_ | exact rfl) (by rfl) ?_
  refine wp_aload_n d_CH_add_5 rfl rfl ?_
  refine wp_get xf_CH_13 d_CH_add_6 (by repeat first | assumption | exact xg_eq | exact xn_eq (by first | rfl | omega) | refine xg_ne (by first | assumption | omega | (simp only [xput, xnew]; omega)) ?_ | refine xn_ne (by first | assumption | omega | (simp only [xput, xnew]; omega)) ?_ | exact rfl) (by rfl) ?_
  refine wp_aload_n d_CH_add_9 rfl rfl ?_
  refine wp_get xf_CH_16 d_CH_add_10 (by repeat first | assumption | exact xg_eq | exact xn_eq (by first | rfl | omega) | refine xg_ne (by first | assumption | omega | (simp only [xput, xnew]; omega)) ?_ | refine xn_ne (by first | assumption | omega | (simp only [xput, xnew]; omega)) ?_ | exact rfl) (by rfl) ?_
  cases o with
  | none =>
    refine wp_ifnonnullN d_CH_add_13 ?_
    refine wp_iconst (v := 0) d_CH_add_16 (by rfl) ?_
    refine wp_goto (tgt := 21) d_CH_add_17 (by decide) ?_
    exact key 0 rfl
  | some q =>
    refine wp_ifnonnull (tgt := 20) d_CH_add_13 (by decide) ?_
    refine wp_iconst (v := 2) d_CH_add_20 (by rfl) ?_
    exact key 2 rfl
end TR
end
section
/-! the two constant texts of PatternSearch$Reader: java.lang.String.indexOf on them -/
def xLen : List Nat := [13, 4]
def xByt : List (List Int32) := [[46, 91, 93, 94, 36, 124, 40, 41, 42, 43, 63, 123, 125], [91, 93, 94, 45]]
/-- what the start says of the constant texts and of COMPACT_STRINGS -/
def xStr (E : xE) (kA kV : Nat → Nat) : Prop := vk_S 2 xLen xByt kA kV (xfree E) E.1 E.1.heap ∧ vk_R "PatternSearch$Reader" 155 ".[]^$|()*+?{}" (kA 0) E.1 ∧ vk_R "PatternSearch$Reader" 162 "[]^-" (kA 1) E.1 ∧ va_Z "java/lang/String" "COMPACT_STRINGS" "Z" (.int 1) (xfree E) E.1 E.1.heap
theorem xHR.low {E : xE} {h : xH} {H : Heap} (hR : xHR E h H) : ∀ a : Nat, a < E.1.heap.size → ¬ xfree E a → H[a]? = E.1.heap[a]? := fun a ha _ => hR.2.2 a ha
section XX
variable {E : xE} {d : Nat} {M : xM} {pc : Nat} {lo : List (Nat × Value)} {st : List Value} {h : xH} {P P' : Option Value → xH → Prop} {kA kV : Nat → Nat}
theorem wp_ldcS {tx : String} {idx q : Nat} (hZ : vk_R M.1.cls idx tx q E.1) (hd : decode M.2.1 pc = .ok (.ldc idx, 2)) (k : wp E d M (pc + 2) lo (.ref q :: st) h P) : wp E d M pc lo st h P :=
  wp_go (fun p l e R s m args below meth c Q cells slots H locs ls C _ _ _ hl kk => va_ldcS C.1 C.2.1 C.2.2.2.2.1 (hZ.warm C.2.2.2.2.2.2.1.2.1) hd (kk ls hl)) k
theorem wp_getX {o n ds : String} {idx q : Nat} {v : Value} (hZ : va_OF o n ds v q (xfree E) E.1 E.1.heap) (hl : Cond.fieldLink M.1.cls idx o n ds ∈ xGT) (hd : decode M.2.1 pc = .ok (.getfield idx, 3)) (k : wp E d M (pc + 3) lo (v :: st) h P) : wp E d M pc lo (.ref q :: st) h P :=
  wp_go (fun p l e R s m args below meth c Q cells slots H locs ls C _ _ hR hls kk => by
    obtain ⟨hx, hb, hr, hml, hown, hlk, hK, hnm⟩ := C
    obtain ⟨cf, k, fi, f, cell, h1, h2, h3, h4, h5, h6⟩ := (hZ.moved hK.2.1.alike).kept hR.low
    exact W.getf hx hb hown (x_hts hK _ hl) h1 h2 h3 h4 (v := v) h5 rfl rfl hd (kk ls hls)) k
theorem wp_getZ {o n ds : String} {idx : Nat} {v : Value} (hZ : va_Z o n ds v (xfree E) E.1 E.1.heap) (hl : Cond.fieldLink M.1.cls idx o n ds ∈ xGT) (hd : decode M.2.1 pc = .ok (.getstatic idx, 3)) (k : wp E d M (pc + 3) lo (v :: st) h P) : wp E d M pc lo st h P :=
  wp_go (fun p l e R s m args below meth c Q cells slots H locs ls C _ _ hR hls kk => by
    obtain ⟨hx, hb, hr, hml, hown, hlk, hK, hnm⟩ := C
    obtain ⟨cf, kf, fi, f, a, cell, h1, h2, h3, h4, h5, h6, h7, h8⟩ := (hZ.moved hK.2.1.alike).kept hR.low
    exact W.gets hx hb hown (x_hts hK _ hl) h1 h2 h3 h4 h5 (fun e => by rw [e] at h6; cases h6) h7 rfl hd (kk ls hls)) k
theorem wp_lenX {t N : Nat} {f : Nat → Value} (hT : va_T .byte t N f (xfree E) E.1 E.1.heap) (hd : decode M.2.1 pc = .ok (.arraylength, 1)) (k : wp E d M (pc + 1) lo (.int (nI N) :: st) h P) : wp E d M pc lo (.ref t :: st) h P :=
  wp_go (fun p l e R s m args below meth c Q cells slots H locs ls C _ _ hR hls kk => by
    obtain ⟨hx, hb, hr, hml, hown, hlk, hK, hnm⟩ := C
    obtain ⟨cell, h1, h2, h3, h4, h5, h6, h7⟩ := (hT.moved hK.2.1.alike).kept hR.low
    exact W.alen hx hb h1 h2 h5 rfl rfl hd (kk ls hls)) k
theorem wp_baldX {t N : Nat} {f : Nat → Value} {i : Nat} {v : Value} (hT : va_T .byte t N f (xfree E) E.1 E.1.heap) (hi : i < N) (hN : N < 2 ^ 31) (hv : f i = v) (hd : decode M.2.1 pc = .ok (.baload, 1)) (k : wp E d M (pc + 1) lo (v :: st) h P) : wp E d M pc lo (.int (nI i) :: .ref t :: st) h P :=
  wp_go (fun p l e R s m args below meth c Q cells slots H locs ls C _ _ hR hls kk => by
    obtain ⟨hx, hb, hr, hml, hown, hlk, hK, hnm⟩ := C
    obtain ⟨cell, h1, h2, h3, h4, h5, h6, h7⟩ := (hT.moved hK.2.1.alike).kept hR.low
    exact W.bald hx hb h1 h2 h3 (by rw [nI_clamp (by omega)]; rintro (q | q); exact nI_pos (by omega) q; omega) (by rw [nI_clamp (by omega), h6 i hi, hv]) rfl rfl hd (kk ls hls)) k
theorem wp_callX {M' : xM} {As rest : List Value} {a idx n dc : Nat} {C : String} (hc : xCall M.1.cls idx M' n) (hi : Cond.instanceMethod M'.1 ∈ xGT) (hsel : Cond.selects C M'.1 M'.1 ∈ xGT) (hd : decode M.2.1 pc = .ok (.invokevirtual idx, 3)) (hst : As.reverse ++ .ref a :: rest = st) (hn : As.length = n) (hcat : (rest.map fun v => v.category).sum ≤ 8)
    (ha : va_O C a (xfree E) E.1 E.1.heap) (k : wpc E dc M' (.ref a :: As) h P') (hdd : dc + 1 ≤ d) (kk : ∀ r h1, P' r h1 → wp E d M (pc + 3) lo (r.toList ++ rest) h1 P) : wp E d M pc lo st h P := by
  subst hst
  refine wp_call hdd k kk (fun r h1 p l e R s m args below meth c cells slots H locs ls Cx a1 a2 a3 a4 hR hls hM => ?_)
  obtain ⟨hx, hb, hr, hml, hown, hlk, hK, hnm⟩ := Cx
  have hts := x_hts hK (args := args)
  have hpre := x_pre (As := .ref a :: As) hK hR
  have hpv : PreV s H C a (xPc E (.ref a :: As) h) As := ⟨hpre.1, by
    obtain ⟨cell, q1, q2, q3, -⟩ := (ha.moved hK.2.1.alike).kept hR.low
    exact ⟨cell, q1, q2, q3⟩, hpre.2⟩
  rcases x_cw (mc := h1.1 - h.1) (ms := h1.2.1 - h.2.1) (args := args) hc hK a1 a2 with cw | ⟨host, cw⟩
  · exact va_runV ⟨hx, hb, hml, hown, hts⟩ hM ⟨cw, hts _ hi, hts _ hsel⟩ hpv rfl hn hls.1 rfl (lv_room hcat) hd ⟨a3, a4⟩
  · exact va_runVN ⟨hx, hb, hml, hown, hts⟩ hM ⟨cw, hts _ hi, hts _ hsel⟩ hpv rfl hn hls.1 rfl (lv_room hcat) hd ⟨a3, a4⟩
end XX
theorem fl_JS_15 : Cond.fieldLink "java/lang/String" 15 "java/lang/String" "coder" "B" ∈ xGT := x_in (i := 1009) (by decide +kernel) rfl
theorem fl_JS_9 : Cond.fieldLink "java/lang/String" 9 "java/lang/String" "value" "[B" ∈ xGT := x_in (i := 1010) (by decide +kernel) rfl
theorem fl_JS_38 : Cond.fieldLink "java/lang/String" 38 "java/lang/String" "COMPACT_STRINGS" "Z" ∈ xGT := x_in (i := 320) (by decide +kernel) rfl
theorem xc_JS_633 : xCall "java/lang/String" 633 m_JS_indexOf2 2 := ⟨Or.inl (x_in (i := 312) (by decide +kernel) rfl), kz_JS, kc_JS_indexOf2, kd_JS_indexOf2, by decide⟩
theorem xc_JS_492 : xCall "java/lang/String" 492 m_JS_isLatin1 0 := ⟨Or.inl (x_in (i := 316) (by decide +kernel) rfl), kz_JS, kc_JS_isLatin1, kd_JS_isLatin1, by decide⟩
theorem xc_JS_505 : xCall "java/lang/String" 505 m_JS_length 0 := ⟨Or.inl (x_in (i := 322) (by decide +kernel) rfl), kz_JS, kc_JS_length, kd_JS_length, by decide⟩
theorem xc_JS_335 : xCall "java/lang/String" 335 m_JS_coder 0 := ⟨Or.inl (x_in (i := 326) (by decide +kernel) rfl), kz_JS, kc_JS_coder, kd_JS_coder, by decide⟩
theorem xc_JS_637 : xCS "java/lang/String" 637 m_JL_indexOf 4 := ⟨⟨Or.inl (x_in (i := 330) (by decide +kernel) rfl), kz_JL, kc_JL_indexOf, kd_JL_indexOf, by decide⟩, ki_JL_indexOf⟩
theorem xc_JL_88 : xCS "java/lang/StringLatin1" 88 m_JL_canEncode 1 := ⟨⟨Or.inl (x_in (i := 333) (by decide +kernel) rfl), kz_JL, kc_JL_canEncode, kd_JL_canEncode, by decide⟩, ki_JL_canEncode⟩
theorem xc_JL_95 : xCS "java/lang/StringLatin1" 95 m_JL_indexOfChar 4 := ⟨⟨Or.inl (x_in (i := 342) (by decide +kernel) rfl), kz_JL, kc_JL_indexOfChar, kd_JL_indexOfChar, by decide⟩, ki_JL_indexOfChar⟩
theorem ml_JL_92 : Cond.methodLink "java/lang/StringLatin1" 92 m_JM_max.1 ∈ xGT := x_in (i := 336) (by decide +kernel) rfl
theorem ml_JL_38 : Cond.methodLink "java/lang/StringLatin1" 38 m_JM_min.1 ∈ xGT := x_in (i := 339) (by decide +kernel) rfl
theorem b_i8 : ∀ c : Nat, c < 128 → (nI c).toInt8.toInt32 = nI c := by decide
section JSX
variable {E : xE} {h : xH} {kA kV : Nat → Nat}
theorem c_JL_canEncode {c : Nat} (hc0 : c < 256) : wpc E 0 m_JL_canEncode [.int (nI c)] h (fun r' h' => r' = some (.int 1) ∧ h' = h) := by
  refine wpc_of rfl (Nat.le_of_ble_eq_true rfl) ?_
  refine wp_iload_n d_JL_canEncode_0 rfl rfl ?_
  refine wp_if_lt (tgt := 15) d_JL_canEncode_1 (by decide) (fun hc => ?_) (fun hc => ?_)
  · exact absurd hc (nI_pos (by omega))
  · refine wp_iload_n d_JL_canEncode_4 rfl rfl ?_
    refine wp_sipush (v := 255) d_JL_canEncode_5 (by rfl) ?_
    refine wp_icmp_gt (tgt := 15) d_JL_canEncode_8 (by decide) (fun hc2 => ?_) (fun hc2 => ?_)
    · exact absurd hc2 (nI_nlt (b := c) (a := 255) (by omega) (by omega))
    · refine wp_iconst (v := 1) d_JL_canEncode_11 (by rfl) ?_
      refine wp_goto (tgt := 16) d_JL_canEncode_12 (by decide) ?_
      refine wp_ireturn d_JL_canEncode_16 rfl (by first | rfl | assumption) ?_
      exact ⟨rfl, rfl⟩
theorem c_JL_indexOfChar {t N c : Nat} {bs : List Int32} (hT : va_T .byte t N (fun j => .int (bs.getD j 0)) (xfree E) E.1 E.1.heap) (hN : bs.length = N) (hN2 : N < 1000) (hc0 : c < 128) :
    wpc E 0 m_JL_indexOfChar [.ref t, .int (nI c), .int 0, .int (nI N)] h (fun r' h' => (∃ v : Int32, r' = some (.int v) ∧ (0 ≤ v ↔ nI c ∈ bs)) ∧ h' = h) := by
  have key : ∀ (k i : Nat), k + i = N → (∀ j, j < i → bs.getD j 0 ≠ nI c) → wp E 0 m_JL_indexOfChar 7 [(0, .ref t), (1, .int (nI c)), (2, .int 0), (3, .int (nI N)), (4, .int (nI c)), (5, .int (nI i))] [] h (fun r' h' => (∃ v : Int32, r' = some (.int v) ∧ (0 ≤ v ↔ nI c ∈ bs)) ∧ h' = h) := by
    intro k
    induction k with
    | zero =>
      intro i hi hb
      refine wp_iload d_JL_indexOfChar_7 rfl ?_
      refine wp_iload_n d_JL_indexOfChar_9 rfl rfl ?_
      refine wp_icmp_ge (tgt := 31) d_JL_indexOfChar_10 (by decide) (fun hc => ?_) (fun hc => ?_)
      · refine wp_iconst (v := (-1)) d_JL_indexOfChar_31 (by rfl) ?_
        refine wp_ireturn d_JL_indexOfChar_32 rfl (by first | rfl | assumption) ?_
        refine ⟨⟨_, rfl, ?_⟩, rfl⟩
        constructor
        · intro q; exact absurd q (by decide)
        · intro q
          obtain ⟨j, hj⟩ := List.getElem?_of_mem q
          have hl := (List.getElem?_eq_some_iff.mp hj).1
          exact absurd (by rw [List.getD_eq_getElem?_getD, hj]; rfl) (hb j (by omega))
      · exact absurd (nI_le (by omega) (by omega)) hc
    | succ k ih =>
      intro i hi hb
      refine wp_iload d_JL_indexOfChar_7 rfl ?_
      refine wp_iload_n d_JL_indexOfChar_9 rfl rfl ?_
      refine wp_icmp_ge (tgt := 31) d_JL_indexOfChar_10 (by decide) (fun hc => ?_) (fun hc => ?_)
      · exact absurd hc (nI_ge (by omega) (by omega))
      · refine wp_aload_n d_JL_indexOfChar_13 rfl rfl ?_
        refine wp_iload d_JL_indexOfChar_14 rfl ?_
        refine wp_baldX (v := .int (bs.getD i 0)) hT (by omega) (by omega) rfl d_JL_indexOfChar_16 ?_
        refine wp_iload d_JL_indexOfChar_17 rfl ?_
        refine wp_icmp_ne (tgt := 25) d_JL_indexOfChar_19 (by decide) (fun hc2 => ?_) (fun hc2 => ?_)
        · refine wp_iinc d_JL_indexOfChar_25 rfl rfl (by decide) rfl ?_
          refine wp_goto (tgt := 7) d_JL_indexOfChar_28 (by decide) ?_
          rw [show nI i + Int32.ofInt 1 = nI (i + 1) from (nI_succ i).symm]
          refine ih (i + 1) (by omega) (fun j hj => ?_)
          by_cases hji : j = i
          · rw [hji]; exact hc2
          · exact hb j (by omega)
        · refine wp_iload d_JL_indexOfChar_22 rfl ?_
          refine wp_ireturn d_JL_indexOfChar_24 rfl (by first | rfl | assumption) ?_
          refine ⟨⟨_, rfl, ?_⟩, rfl⟩
          constructor
          · intro _
            rw [← hc2, List.getD_eq_getElem?_getD, List.getElem?_eq_getElem (by omega)]
            exact List.getElem_mem _
          · intro _; exact nI_pos' (by omega)
  refine wpc_of rfl (Nat.le_of_ble_eq_true rfl) ?_
  refine wp_iload_n d_JL_indexOfChar_0 rfl rfl ?_
  refine wp_i2b d_JL_indexOfChar_1 ?_
  refine wp_istore d_JL_indexOfChar_2 (by decide) rfl ?_
  refine wp_iload_n d_JL_indexOfChar_4 rfl rfl ?_
  refine wp_istore d_JL_indexOfChar_5 (by decide) rfl ?_
  rw [b_i8 c hc0]
  exact key N 0 rfl (fun j hj => absurd hj (Nat.not_lt_zero j))
theorem c_JL_indexOf {t N c : Nat} {bs : List Int32} (hT : va_T .byte t N (fun j => .int (bs.getD j 0)) (xfree E) E.1 E.1.heap) (hN : bs.length = N) (hN0 : 0 < N) (hN2 : N < 1000) (hc0 : c < 128) :
    wpc E 1 m_JL_indexOf [.ref t, .int (nI c), .int 0, .int (nI N)] h (fun r' h' => (∃ v : Int32, r' = some (.int v) ∧ (0 ≤ v ↔ nI c ∈ bs)) ∧ h' = h) := by
  refine wpc_of rfl (Nat.le_of_ble_eq_true rfl) ?_
  refine wp_iload_n d_JL_indexOf_0 rfl rfl ?_
  refine wp_callS1 xc_JL_88 d_JL_indexOf_1 (Nat.le_of_ble_eq_true rfl) (c_JL_canEncode (by omega)) (by omega) (fun r hh hp => ?_)
  obtain ⟨rfl, hz0⟩ := hp; have hz0 := hz0.symm; subst hz0
  refine wp_if_ne (tgt := 9) d_JL_indexOf_4 (by decide) (fun hc => ?_) (fun hc => ?_)
  · refine wp_iload_n d_JL_indexOf_9 rfl rfl ?_
    refine wp_iconst (v := 0) d_JL_indexOf_10 (by rfl) ?_
    refine wp_mmax ml_JL_92 d_JL_indexOf_11 (Nat.le_of_ble_eq_true rfl) (by omega) ?_
    rw [if_neg (by decide)]
    refine wp_istore_n d_JL_indexOf_14 rfl (by decide) rfl ?_
    refine wp_iload_n d_JL_indexOf_15 rfl rfl ?_
    refine wp_aload_n d_JL_indexOf_16 rfl rfl ?_
    refine wp_lenX hT d_JL_indexOf_17 ?_
    refine wp_mmin ml_JL_38 d_JL_indexOf_18 (Nat.le_of_ble_eq_true rfl) (by omega) ?_
    rw [if_neg (Int32.lt_irrefl)]
    refine wp_istore_n d_JL_indexOf_21 rfl (by decide) rfl ?_
    refine wp_iload_n d_JL_indexOf_22 rfl rfl ?_
    refine wp_iload_n d_JL_indexOf_23 rfl rfl ?_
    refine wp_icmp_lt (tgt := 29) d_JL_indexOf_24 (by decide) (fun hc2 => ?_) (fun hc2 => ?_)
    · refine wp_aload_n d_JL_indexOf_29 rfl rfl ?_
      refine wp_iload_n d_JL_indexOf_30 rfl rfl ?_
      refine wp_iload_n d_JL_indexOf_31 rfl rfl ?_
      refine wp_iload_n d_JL_indexOf_32 rfl rfl ?_
      refine wp_callS4 xc_JL_95 d_JL_indexOf_33 (Nat.le_of_ble_eq_true rfl) (c_JL_indexOfChar hT hN hN2 hc0) (by omega) (fun r hh hp => ?_)
      obtain ⟨⟨v, rfl, hv⟩, hz0⟩ := hp
      refine wp_ireturn d_JL_indexOf_36 rfl (by first | rfl | assumption) ?_
      exact ⟨⟨v, rfl, hv⟩, hz0⟩
    · exact absurd (nI_lt (a := 0) hN0 (by omega)) hc2
  · exact absurd hc (by decide)
theorem c_JS_isLatin1 (hX : xStr E kA kV) {i : Nat} (hi : i < 2) : wpc E 0 m_JS_isLatin1 [.ref (kA i)] h (fun r' h' => r' = some (.int 1) ∧ h' = h) := by
  refine wpc_of rfl (Nat.le_of_ble_eq_true rfl) ?_
  refine wp_getZ hX.2.2.2 fl_JS_38 d_JS_isLatin1_0 ?_
  refine wp_if_eq (tgt := 17) d_JS_isLatin1_3 (by decide) (fun hc => ?_) (fun hc => ?_)
  · exact absurd hc (by decide)
  · refine wp_aload_n d_JS_isLatin1_6 rfl rfl ?_
    refine wp_getX (hX.1.1 i hi).2.1 fl_JS_15 d_JS_isLatin1_7 ?_
    refine wp_if_ne (tgt := 17) d_JS_isLatin1_10 (by decide) (fun hc2 => ?_) (fun hc2 => ?_)
    · exact absurd rfl hc2
    · refine wp_iconst (v := 1) d_JS_isLatin1_13 (by rfl) ?_
      refine wp_goto (tgt := 18) d_JS_isLatin1_14 (by decide) ?_
      refine wp_ireturn d_JS_isLatin1_18 rfl (by first | rfl | assumption) ?_
      exact ⟨rfl, rfl⟩
theorem c_JS_coder (hX : xStr E kA kV) {i : Nat} (hi : i < 2) : wpc E 0 m_JS_coder [.ref (kA i)] h (fun r' h' => r' = some (.int 0) ∧ h' = h) := by
  refine wpc_of rfl (Nat.le_of_ble_eq_true rfl) ?_
  refine wp_getZ hX.2.2.2 fl_JS_38 d_JS_coder_0 ?_
  refine wp_if_eq (tgt := 13) d_JS_coder_3 (by decide) (fun hc => ?_) (fun hc => ?_)
  · exact absurd hc (by decide)
  · refine wp_aload_n d_JS_coder_6 rfl rfl ?_
    refine wp_getX (hX.1.1 i hi).2.1 fl_JS_15 d_JS_coder_7 ?_
    refine wp_goto (tgt := 14) d_JS_coder_10 (by decide) ?_
    refine wp_ireturn d_JS_coder_14 rfl (by first | rfl | assumption) ?_
    exact ⟨rfl, rfl⟩
theorem c_JS_length (hX : xStr E kA kV) {i : Nat} (hi : i < 2) : wpc E 1 m_JS_length [.ref (kA i)] h (fun r' h' => r' = some (.int (nI (xLen.getD i 0))) ∧ h' = h) := by
  refine wpc_of rfl (Nat.le_of_ble_eq_true rfl) ?_
  refine wp_aload_n d_JS_length_0 rfl rfl ?_
  refine wp_getX (hX.1.1 i hi).2.2.1 fl_JS_9 d_JS_length_1 ?_
  refine wp_lenX (hX.1.1 i hi).2.2.2 d_JS_length_4 ?_
  refine wp_aload_n d_JS_length_5 rfl rfl ?_
  refine wp_callX (As := []) xc_JS_335 ki_JS_coder ks_JS_coder d_JS_length_6 rfl rfl (Nat.le_of_ble_eq_true rfl) (hX.1.1 i hi).1 (c_JS_coder hX hi) (by omega) (fun r hh hp => ?_)
  obtain ⟨rfl, hz0⟩ := hp; have hz0 := hz0.symm; subst hz0
  refine wp_ishr d_JS_length_9 ?_
  refine wp_ireturn d_JS_length_10 rfl (by first | rfl | assumption) ?_
  refine ⟨?_, rfl⟩
  rw [sc_shr0]
  rcases (show i = 0 ∨ i = 1 by omega) with rfl | rfl <;> decide
theorem c_JS_indexOf2 (hX : xStr E kA kV) {i : Nat} (hi : i < 2) {c : Nat} (hc0 : c < 128) : wpc E 2 m_JS_indexOf2 [.ref (kA i), .int (nI c), .int 0] h (fun r' h' => (∃ v : Int32, r' = some (.int v) ∧ (0 ≤ v ↔ nI c ∈ xByt.getD i [])) ∧ h' = h) := by
  refine wpc_of rfl (Nat.le_of_ble_eq_true rfl) ?_
  refine wp_aload_n d_JS_indexOf2_0 rfl rfl ?_
  refine wp_callX (As := []) xc_JS_492 ki_JS_isLatin1 ks_JS_isLatin1 d_JS_indexOf2_1 rfl rfl (Nat.le_of_ble_eq_true rfl) (hX.1.1 i hi).1 (c_JS_isLatin1 hX hi) (by omega) (fun r hh hp => ?_)
  obtain ⟨rfl, hz0⟩ := hp; have hz0 := hz0.symm; subst hz0
  refine wp_if_eq (tgt := 23) d_JS_indexOf2_4 (by decide) (fun hc => ?_) (fun hc => ?_)
  · exact absurd hc (by decide)
  · refine wp_aload_n d_JS_indexOf2_7 rfl rfl ?_
    refine wp_getX (hX.1.1 i hi).2.2.1 fl_JS_9 d_JS_indexOf2_8 ?_
    refine wp_iload_n d_JS_indexOf2_11 rfl rfl ?_
    refine wp_iload_n d_JS_indexOf2_12 rfl rfl ?_
    refine wp_aload_n d_JS_indexOf2_13 rfl rfl ?_
    refine wp_callX (As := []) xc_JS_505 ki_JS_length ks_JS_length d_JS_indexOf2_14 rfl rfl (Nat.le_of_ble_eq_true rfl) (hX.1.1 i hi).1 (c_JS_length hX hi) (by omega) (fun r hh hp => ?_)
    obtain ⟨rfl, hz0⟩ := hp; have hz0 := hz0.symm; subst hz0
    refine wp_callS4 xc_JS_637 d_JS_indexOf2_17 (Nat.le_of_ble_eq_true rfl) (c_JL_indexOf (hX.1.1 i hi).2.2.2 (by rcases (show i = 0 ∨ i = 1 by omega) with rfl | rfl <;> rfl) (by rcases (show i = 0 ∨ i = 1 by omega) with rfl | rfl <;> decide) (by rcases (show i = 0 ∨ i = 1 by omega) with rfl | rfl <;> decide) hc0) (by omega) (fun r hh hp => ?_)
    obtain ⟨⟨v, rfl, hv⟩, hz0⟩ := hp
    refine wp_goto (tgt := 36) d_JS_indexOf2_20 (by decide) ?_
    refine wp_ireturn d_JS_indexOf2_36 rfl (by first | rfl | assumption) ?_
    exact ⟨⟨v, rfl, hv⟩, hz0⟩
theorem c_JS_indexOf1 (hX : xStr E kA kV) {i : Nat} (hi : i < 2) {c : Nat} (hc0 : c < 128) : wpc E 3 m_JS_indexOf1 [.ref (kA i), .int (nI c)] h (fun r' h' => (∃ v : Int32, r' = some (.int v) ∧ (0 ≤ v ↔ nI c ∈ xByt.getD i [])) ∧ h' = h) := by
  refine wpc_of rfl (Nat.le_of_ble_eq_true rfl) ?_
  refine wp_aload_n d_JS_indexOf1_0 rfl rfl ?_
  refine wp_iload_n d_JS_indexOf1_1 rfl rfl ?_
  refine wp_iconst (v := 0) d_JS_indexOf1_2 (by rfl) ?_
  refine wp_callX (As := [.int (nI c), .int 0]) xc_JS_633 ki_JS_indexOf2 ks_JS_indexOf2 d_JS_indexOf1_3 rfl rfl (Nat.le_of_ble_eq_true rfl) (hX.1.1 i hi).1 (c_JS_indexOf2 hX hi hc0) (by omega) (fun r hh hp => ?_)
  obtain ⟨⟨v, rfl, hv⟩, hz0⟩ := hp
  refine wp_ireturn d_JS_indexOf1_6 rfl (by first | rfl | assumption) ?_
  exact ⟨⟨v, rfl, hv⟩, hz0⟩
end JSX
end
section
/-! the reader as functions -/
abbrev RS : Type := Nat × Nat × Bool × Bool
abbrev Lf : Type := Nat × Int64 × Int64
abbrev At (X : Type) : Type := Lf ⊕ (Nat × X)
abbrev Rp : Type := Nat × Nat × Bool × Bool
abbrev Pc (X : Type) : Type := At X × Rp
abbrev Cc (X : Type) : Type := List (List (Pc X))
/-- trees of at most n groups one in another -/
def Ch : Nat → Type
  | 0 => Unit
  | n + 1 => Cc (Ch n)
def isSg (c : Int32) : Bool := decide (32 ≤ c) && decide (c ≤ 126)
def plainB (c : Int32) : Bool := isSg c && !decide (c ∈ xByt.getD 0 [])
def itemB (c : Int32) : Bool := isSg c && !decide (c ∈ xByt.getD 1 [])
section PU
variable {X : Type} (sX : X → Nat) (eX : X → Bool)
def atS : At X → Nat
  | .inl _ => 1
  | .inr q => sX q.2 + 2
def atE : At X → Bool
  | .inl q => !decide (q.1 = 1)
  | .inr q => eX q.2
def pcS (p : Pc X) : Nat := if p.2.2.2.1 then atS sX p.1 + 2 else p.2.2.1 * atS sX p.1 + 2 * (p.2.2.1 - p.2.1)
def pcE (p : Pc X) : Bool := decide (p.2.1 = 0) || atE eX p.1
def rwS (ps : List (Pc X)) : Nat := (ps.map (pcS sX)).sum
def rwE (ps : List (Pc X)) : Bool := ps.all (pcE eX)
def ccS (rs : Cc X) : Nat := (rs.map (rwS sX)).sum + 2 * (rs.length - 1)
def ccE (rs : Cc X) : Bool := rs.any (rwE eX)
end PU
def szT : (n : Nat) → Ch n → Nat
  | 0, _ => 0
  | n + 1, x => ccS (szT n) x
def emT : (n : Nat) → Ch n → Bool
  | 0, _ => false
  | n + 1, x => ccE (emT n) x
def rStk (s : RS) : RS := (s.1, s.2.1, s.2.2.1, true)
def rInc (s : RS) : RS := (s.1 + 1, s.2)
section PR
variable (xs : List Int32)
def rPk (s : RS) : Int32 := if s.2.2.2 then -2 else xs.getD s.1 (-2)
def rTk (c : Int32) (s : RS) : Bool × RS := if rPk xs s = c then (true, rInc s) else (false, s)
def rEx (c : Int32) (s : RS) : RS := if rPk xs s = c then rInc s else rStk s
def rIs (l : Nat) (s : RS) : Nat × RS := if itemB (rPk xs s) = false ∨ rPk xs s < nI l then (l, rStk s) else ((rPk xs s).toNatClampNeg, rInc s)
def rIt (b : Int64 × Int64) (s : RS) : (Int64 × Int64) × RS :=
  let f := rIs xs 32 s
  let t := rTk xs 45 f.2
  let g := if t.1 then rIs xs f.1 t.2 else (f.1, t.2)
  (tkS (g.1 + 1 - f.1) f.1 b, g.2)
def rIts : Nat → (Int64 × Int64) × RS → (Int64 × Int64) × RS
  | 0, q => q
  | k + 1, q => if itemB (rPk xs q.2) then rIts k (rIt xs q.1 q.2) else q
def rCl (s : RS) : (Int64 × Int64) × RS :=
  let o := rTk xs 94 s
  let q := rIts xs 27 (rIt xs (0, 0) o.2)
  (if o.1 then (q.1.1 ^^^ (-1), q.1.2 ^^^ (-1)) else q.1, rEx xs 93 q.2)
def rDg (l : Nat) (s : RS) : Nat × RS := if rPk xs s - 48 < nI l ∨ 6 < rPk xs s - 48 then (l, rStk s) else ((rPk xs s - 48).toNatClampNeg, rInc s)
def rBr (s : RS) : (Nat × Nat) × RS :=
  let a := rDg xs 0 s
  let t := rTk xs 44 a.2
  let r := if t.1 then rDg xs (max 1 a.1) t.2 else (a.1, if a.1 = 0 then rStk t.2 else t.2)
  ((a.1, r.1), rEx xs 125 r.2)
def rRp (s : RS) : Bool × (Nat × Nat × Bool) × RS :=
  if rPk xs s = 42 then (true, (0, 1, true), rInc s)
  else if rPk xs s = 43 then (true, (1, 1, true), rInc s)
  else if rPk xs s = 63 then (true, (0, 1, false), rInc s)
  else if rPk xs s = 123 then (true, ((rBr xs (rInc s)).1.1, (rBr xs (rInc s)).1.2, false), (rBr xs (rInc s)).2)
  else (false, (1, 1, false), s)
def rBg (g : Nat) (c : Int32) : Bool := if c = 40 then decide (g < 6) else (decide (c = 91) || decide (c = 46) || decide (c = 94) || decide (c = 36) || plainB c)
variable {X : Type} (eX : X → Bool) (inn : RS → X × RS)
def rAt (s : RS) : At X × RS :=
  let c := rPk xs s
  let s1 := rInc s
  if c = 40 then
    let q := inn (s1.1, s1.2.1 + 1, s1.2.2)
    (.inr (s1.2.1 + 1, q.1), rEx xs 41 q.2)
  else if c = 91 then (.inl (1, (rCl xs s1).1), (rCl xs s1).2)
  else if c = 94 then (.inl (2, 0, 0), s1)
  else if c = 36 then (.inl (3, 0, 0), s1)
  else if c = 46 then (.inl (1, tkS 95 32 (0, 0)), s1)
  else (.inl (1, tkS 1 c.toNatClampNeg (0, 0)), s1)
def rEnd (b : Bool) (s : RS) : RS := (s.1, s.2.1, s.2.2.1 || b, s.2.2.2)
def rPc (s : RS) : Pc X × RS :=
  let a := rAt xs inn s
  let r := rRp xs a.2
  let t := if r.1 then rTk xs 63 r.2.2 else (false, r.2.2)
  ((a.1, (r.2.1.1, r.2.1.2.1, r.2.1.2.2, t.1)), rEnd (r.2.1.2.2 && atE eX a.1) t.2)
def rRw : Nat → List (Pc X) × RS → List (Pc X) × RS
  | 0, q => q
  | k + 1, q => if rBg q.2.2.1 (rPk xs q.2) then rRw k (q.1 ++ [(rPc xs eX inn q.2).1], (rPc xs eX inn q.2).2) else q
def rCc : Nat → Cc X × RS → Cc X × RS
  | 0, q => q
  | k + 1, q => if rPk xs q.2 = 124 then rCc k (q.1 ++ [(rRw xs eX inn 28 ([], rInc q.2)).1], (rRw xs eX inn 28 ([], rInc q.2)).2) else q
def rCh (s : RS) : Cc X × RS := rCc xs eX inn 28 ([(rRw xs eX inn 28 ([], s)).1], (rRw xs eX inn 28 ([], s)).2)
end PR
def pCh (xs : List Int32) : (n : Nat) → RS → Ch n × RS
  | 0, s => ((), s)
  | n + 1, s => rCh xs (emT n) (pCh xs n) s
-- the small tests
section TS
variable {E : xE} {h : xH} {kA kV : Nat → Nat}
theorem c_PS_isSign (x : Int32) : wpc E 0 m_PS_isSign [.int x] h (fun r' h' => r' = some (.int (bI (isSg x))) ∧ h' = h) := by
  refine wpc_of rfl (Nat.le_of_ble_eq_true rfl) ?_
  refine wp_iload_n d_PS_isSign_0 rfl rfl ?_
  refine wp_bipush (v := 32) d_PS_isSign_1 (by rfl) ?_
  refine wp_icmp_lt (tgt := 16) d_PS_isSign_3 (by decide) (fun hc => ?_) (fun hc => ?_)
  · refine wp_iconst (v := 0) d_PS_isSign_16 (by rfl) ?_
    refine wp_ireturn d_PS_isSign_17 rfl (by first | rfl | assumption) ?_
    rw [isSg, decide_eq_false (Int32.not_le.mpr hc)]
    exact ⟨rfl, rfl⟩
  · refine wp_iload_n d_PS_isSign_6 rfl rfl ?_
    refine wp_bipush (v := 126) d_PS_isSign_7 (by rfl) ?_
    refine wp_icmp_gt (tgt := 16) d_PS_isSign_9 (by decide) (fun hc2 => ?_) (fun hc2 => ?_)
    · refine wp_iconst (v := 0) d_PS_isSign_16 (by rfl) ?_
      refine wp_ireturn d_PS_isSign_17 rfl (by first | rfl | assumption) ?_
      rw [isSg, decide_eq_true (Int32.not_lt.mp hc), decide_eq_false (Int32.not_le.mpr hc2)]
      exact ⟨rfl, rfl⟩
    · refine wp_iconst (v := 1) d_PS_isSign_12 (by rfl) ?_
      refine wp_goto (tgt := 17) d_PS_isSign_13 (by decide) ?_
      refine wp_ireturn d_PS_isSign_17 rfl (by first | rfl | assumption) ?_
      rw [isSg, decide_eq_true (Int32.not_lt.mp hc), decide_eq_true (Int32.not_lt.mp hc2)]
      exact ⟨rfl, rfl⟩
def isGr (x : Int32) : Bool := decide (0 ≤ x) && decide (x ≤ 6)
theorem c_PS_isGroup (x : Int32) : wpc E 0 m_PS_isGroup [.int x] h (fun r' h' => r' = some (.int (bI (isGr x))) ∧ h' = h) := by
  refine wpc_of rfl (Nat.le_of_ble_eq_true rfl) ?_
  refine wp_iload_n d_PS_isGroup_0 rfl rfl ?_
  refine wp_if_lt (tgt := 14) d_PS_isGroup_1 (by decide) (fun hc => ?_) (fun hc => ?_)
  · refine wp_iconst (v := 0) d_PS_isGroup_14 (by rfl) ?_
    refine wp_ireturn d_PS_isGroup_15 rfl (by first | rfl | assumption) ?_
    rw [isGr, decide_eq_false (Int32.not_le.mpr hc)]
    exact ⟨rfl, rfl⟩
  · refine wp_iload_n d_PS_isGroup_4 rfl rfl ?_
    refine wp_bipush (v := 6) d_PS_isGroup_5 (by rfl) ?_
    refine wp_icmp_gt (tgt := 14) d_PS_isGroup_7 (by decide) (fun hc2 => ?_) (fun hc2 => ?_)
    · refine wp_iconst (v := 0) d_PS_isGroup_14 (by rfl) ?_
      refine wp_ireturn d_PS_isGroup_15 rfl (by first | rfl | assumption) ?_
      rw [isGr, decide_eq_true (Int32.not_lt.mp hc), decide_eq_false (Int32.not_le.mpr hc2)]
      exact ⟨rfl, rfl⟩
    · refine wp_iconst (v := 1) d_PS_isGroup_10 (by rfl) ?_
      refine wp_goto (tgt := 15) d_PS_isGroup_11 (by decide) ?_
      refine wp_ireturn d_PS_isGroup_15 rfl (by first | rfl | assumption) ?_
      rw [isGr, decide_eq_true (Int32.not_lt.mp hc), decide_eq_true (Int32.not_lt.mp hc2)]
      exact ⟨rfl, rfl⟩
theorem isSg_n {x : Int32} (hx : isSg x = true) : ∃ c : Nat, 32 ≤ c ∧ c ≤ 126 ∧ x = nI c := by
  simp only [isSg, Bool.and_eq_true, decide_eq_true_eq] at hx
  obtain ⟨h1, h2⟩ := hx
  obtain ⟨c, h3, rfl⟩ := nI_of2 (M := 126) (n := 126) rfl (Int32.not_lt.mpr (Int32.le_trans (by decide) h1)) h2
  exact ⟨c, (nI_leI (a := 32) (by decide) (by omega)).mp h1, h3, rfl⟩
theorem c_RE_isPlain (hX : xStr E kA kV) (x : Int32) : wpc E 4 m_RE_isPlain [.int x] h (fun r' h' => r' = some (.int (bI (plainB x))) ∧ h' = h) := by
  refine wpc_of rfl (Nat.le_of_ble_eq_true rfl) ?_
  refine wp_iload_n d_RE_isPlain_0 rfl rfl ?_
  refine wp_callS1 xc_RE_152 d_RE_isPlain_1 (Nat.le_of_ble_eq_true rfl) (c_PS_isSign x) (by omega) (fun r hh hp => ?_)
  obtain ⟨rfl, hz0⟩ := hp; have hz0 := hz0.symm; subst hz0
  refine wp_if_eq (tgt := 21) d_RE_isPlain_4 (by decide) (fun hc => ?_) (fun hc => ?_)
  · rw [bI_0] at hc
    refine wp_iconst (v := 0) d_RE_isPlain_21 (by rfl) ?_
    refine wp_ireturn d_RE_isPlain_22 rfl (by first | rfl | assumption) ?_
    rw [plainB, hc]
    exact ⟨rfl, rfl⟩
  · rw [bI_0] at hc
    have hc := b_t hc
    obtain ⟨c, q1, q2, rfl⟩ := isSg_n hc
    refine wp_ldcS hX.2.1 d_RE_isPlain_7 ?_
    refine wp_iload_n d_RE_isPlain_9 rfl rfl ?_
    refine wp_i2c d_RE_isPlain_10 ?_
    rw [(sb_byte c (by omega)).2.1]
    refine wp_callX (As := [.int (nI c)]) xc_RE_157 ki_JS_indexOf1 ks_JS_indexOf1 d_RE_isPlain_11 rfl rfl (Nat.le_of_ble_eq_true rfl) (hX.1.1 0 (by decide)).1 (c_JS_indexOf1 hX (by decide) (by omega)) (by omega) (fun r hh hp => ?_)
    obtain ⟨⟨v, rfl, hv⟩, hz0⟩ := hp
    have hz0 := hz0.symm; subst hz0
    refine wp_if_ge (tgt := 21) d_RE_isPlain_14 (by decide) (fun hc2 => ?_) (fun hc2 => ?_)
    · refine wp_iconst (v := 0) d_RE_isPlain_21 (by rfl) ?_
      refine wp_ireturn d_RE_isPlain_22 rfl (by first | rfl | assumption) ?_
      rw [plainB, hc, decide_eq_true (hv.mp hc2)]
      exact ⟨rfl, rfl⟩
    · refine wp_iconst (v := 1) d_RE_isPlain_17 (by rfl) ?_
      refine wp_goto (tgt := 22) d_RE_isPlain_18 (by decide) ?_
      refine wp_ireturn d_RE_isPlain_22 rfl (by first | rfl | assumption) ?_
      rw [plainB, hc, decide_eq_false (fun q => hc2 (hv.mpr q))]
      exact ⟨rfl, rfl⟩
theorem c_RE_isItemSign (hX : xStr E kA kV) (x : Int32) : wpc E 4 m_RE_isItemSign [.int x] h (fun r' h' => r' = some (.int (bI (itemB x))) ∧ h' = h) := by
  refine wpc_of rfl (Nat.le_of_ble_eq_true rfl) ?_
  refine wp_iload_n d_RE_isItemSign_0 rfl rfl ?_
  refine wp_callS1 xc_RE_152 d_RE_isItemSign_1 (Nat.le_of_ble_eq_true rfl) (c_PS_isSign x) (by omega) (fun r hh hp => ?_)
  obtain ⟨rfl, hz0⟩ := hp; have hz0 := hz0.symm; subst hz0
  refine wp_if_eq (tgt := 21) d_RE_isItemSign_4 (by decide) (fun hc => ?_) (fun hc => ?_)
  · rw [bI_0] at hc
    refine wp_iconst (v := 0) d_RE_isItemSign_21 (by rfl) ?_
    refine wp_ireturn d_RE_isItemSign_22 rfl (by first | rfl | assumption) ?_
    rw [itemB, hc]
    exact ⟨rfl, rfl⟩
  · rw [bI_0] at hc
    have hc := b_t hc
    obtain ⟨c, q1, q2, rfl⟩ := isSg_n hc
    refine wp_ldcS hX.2.2.1 d_RE_isItemSign_7 ?_
    refine wp_iload_n d_RE_isItemSign_9 rfl rfl ?_
    refine wp_i2c d_RE_isItemSign_10 ?_
    rw [(sb_byte c (by omega)).2.1]
    refine wp_callX (As := [.int (nI c)]) xc_RE_157 ki_JS_indexOf1 ks_JS_indexOf1 d_RE_isItemSign_11 rfl rfl (Nat.le_of_ble_eq_true rfl) (hX.1.1 1 (by decide)).1 (c_JS_indexOf1 hX (by decide) (by omega)) (by omega) (fun r hh hp => ?_)
    obtain ⟨⟨v, rfl, hv⟩, hz0⟩ := hp
    have hz0 := hz0.symm; subst hz0
    refine wp_if_ge (tgt := 21) d_RE_isItemSign_14 (by decide) (fun hc2 => ?_) (fun hc2 => ?_)
    · refine wp_iconst (v := 0) d_RE_isItemSign_21 (by rfl) ?_
      refine wp_ireturn d_RE_isItemSign_22 rfl (by first | rfl | assumption) ?_
      rw [itemB, hc, decide_eq_true (hv.mp hc2)]
      exact ⟨rfl, rfl⟩
    · refine wp_iconst (v := 1) d_RE_isItemSign_17 (by rfl) ?_
      refine wp_goto (tgt := 22) d_RE_isItemSign_18 (by decide) ?_
      refine wp_ireturn d_RE_isItemSign_22 rfl (by first | rfl | assumption) ?_
      rw [itemB, hc, decide_eq_false (fun q => hc2 (hv.mpr q))]
      exact ⟨rfl, rfl⟩
end TS
end
section
/-! PatternSearch$Reader: the calls that don't go in circles -/
/-- the reader at ra stands in the signs xs (object sa, array sr) with the state s -/
def Rd (E : xE) (h : xH) (ra sa sr n : Nat) (xs : List Int32) (s : RS) : Prop := h.2.2 ra = some (ob 6 [.ref sa, .int (nI s.1), .int (nI s.2.1), .int (bI s.2.2.1), .int (bI s.2.2.2)]) ∧ SgL E h sa sr n xs ∧ ra ≠ sa ∧ ra ≠ sr ∧ s.1 ≤ xs.length
theorem rPk_lt {xs : List Int32} {s : RS} (h : rPk xs s ≠ -2) : s.1 < xs.length := by
  rw [rPk] at h
  by_cases hs : s.2.2.2
  · rw [if_pos hs] at h; exact absurd rfl h
  · rw [if_neg hs] at h
    refine Nat.not_le.mp (fun q => h ?_)
    rw [List.getD_eq_getElem?_getD, List.getElem?_eq_none q]; rfl
theorem isSg_ne {x : Int32} (h : isSg x = true) : x ≠ -2 := by
  intro q; subst q; exact absurd h (by decide)
theorem itemB_sg {x : Int32} (h : itemB x = true) : isSg x = true := by
  simp only [itemB, Bool.and_eq_true] at h; exact h.1
theorem mx1 : ∀ a : Nat, a < 7 → (if (1 : Int32) < nI a then nI a else 1) = nI (max 1 a) := by decide
theorem ml_RE_101 : Cond.methodLink "PatternSearch$Reader" 101 m_JM_max.1 ∈ xGT := x_in (i := 526) (by decide +kernel) rfl
section RE
variable {E : xE} {h : xH} {kA kV : Nat → Nat} {ra sa sr n : Nat} {xs : List Int32} {s : RS}
theorem Rd.len (hr : Rd E h ra sa sr n xs s) : xs.length ≤ n ∧ n ≤ 1000 ∧ s.1 ≤ xs.length := ⟨hr.2.1.len.1, hr.2.1.len.2, hr.2.2.2.2⟩
/-- the reader's own cell changes -/
theorem Rd.set {s' : RS} {h' : xH} (hr : Rd E h ra sa sr n xs s) (hf : xfr [ra] h h') (h1 : h'.2.2 ra = some (ob 6 [.ref sa, .int (nI s'.1), .int (nI s'.2.1), .int (bI s'.2.2.1), .int (bI s'.2.2.2)])) (hl : s'.1 ≤ xs.length) : Rd E h' ra sa sr n xs s' :=
  ⟨h1, hr.2.1.mv (hf.2.2 _ (by simp [hr.2.2.1.symm])) (hf.2.2 _ (by simp [hr.2.2.2.1.symm])), hr.2.2.1, hr.2.2.2.1, hl⟩
theorem c_RE_peek (hE : xOK E) (hr : Rd E h ra sa sr n xs s) : wpc E 1 m_RE_peek [.ref ra] h (fun r' h' => r' = some (.int (rPk xs s)) ∧ h' = h) := by
  have hl := hr.len
  obtain ⟨h1, h2, h3, h4, h5⟩ := hr
  have o1 := h2.obj
  refine wpc_of rfl (Nat.le_of_ble_eq_true rfl) ?_
  refine wp_aload_n d_RE_peek_0 rfl rfl ?_
  refine wp_get xf_RE_15 d_RE_peek_1 (by repeat first | assumption | exact xg_eq | exact xn_eq (by first | rfl | omega) | refine xg_ne (by first | assumption | omega | (simp only [xput, xnew]; omega)) ?_ | refine xn_ne (by first | assumption | omega | (simp only [xput, xnew]; omega)) ?_ | exact rfl) (by rfl) ?_
  refine wp_if_eq (tgt := 12) d_RE_peek_4 (by decide) (fun hc => ?_) (fun hc => ?_)
  · rw [bI_0] at hc
    refine wp_aload_n d_RE_peek_12 rfl rfl ?_
    refine wp_get xf_RE_9 d_RE_peek_13 (by repeat first | assumption | exact xg_eq | exact xn_eq (by first | rfl | omega) | refine xg_ne (by first | assumption | omega | (simp only [xput, xnew]; omega)) ?_ | refine xn_ne (by first | assumption | omega | (simp only [xput, xnew]; omega)) ?_ | exact rfl) (by rfl) ?_
    refine wp_aload_n d_RE_peek_16 rfl rfl ?_
    refine wp_get xf_RE_19 d_RE_peek_17 (by repeat first | assumption | exact xg_eq | exact xn_eq (by first | rfl | omega) | refine xg_ne (by first | assumption | omega | (simp only [xput, xnew]; omega)) ?_ | refine xn_ne (by first | assumption | omega | (simp only [xput, xnew]; omega)) ?_ | exact rfl) (by rfl) ?_
    refine wp_callV1 xc_RE_164 d_RE_peek_20 (Nat.le_of_ble_eq_true rfl) (by repeat first | assumption | exact xg_eq | exact xn_eq (by first | rfl | omega) | refine xg_ne (by first | assumption | omega | (simp only [xput, xnew]; omega)) ?_ | refine xn_ne (by first | assumption | omega | (simp only [xput, xnew]; omega)) ?_ | exact rfl) (c_SI_atL hE h2 _) (by omega) (fun r hh hp => ?_)
    obtain ⟨rfl, hz0⟩ := hp; have hz0 := hz0.symm; subst hz0
    refine wp_ireturn d_RE_peek_23 rfl (by first | rfl | assumption) ?_
    rw [lAt_nI _ (by omega), rPk, hc]
    exact ⟨rfl, rfl⟩
  · rw [bI_0] at hc
    refine wp_bipush (v := (-2)) d_RE_peek_7 (by rfl) ?_
    refine wp_goto (tgt := 23) d_RE_peek_9 (by decide) ?_
    refine wp_ireturn d_RE_peek_23 rfl (by first | rfl | assumption) ?_
    rw [rPk, b_t hc]
    exact ⟨rfl, rfl⟩
theorem c_RE_take (hE : xOK E) (hr : Rd E h ra sa sr n xs s) {c : Int32} (hc0 : c ≠ -2) : wpc E 2 m_RE_take [.ref ra, .int c] h (fun r' h' => r' = some (.int (bI (rTk xs c s).1)) ∧ xfr [ra] h h' ∧ Rd E h' ra sa sr n xs (rTk xs c s).2) := by
  obtain ⟨h1, h2, h3, h4, h5⟩ := id hr
  refine wpc_of rfl (Nat.le_of_ble_eq_true rfl) ?_
  refine wp_aload_n d_RE_take_0 rfl rfl ?_
  refine wp_callV0 xc_RE_53 d_RE_take_1 (Nat.le_of_ble_eq_true rfl) (by repeat first | assumption | exact xg_eq | exact xn_eq (by first | rfl | omega) | refine xg_ne (by first | assumption | omega | (simp only [xput, xnew]; omega)) ?_ | refine xn_ne (by first | assumption | omega | (simp only [xput, xnew]; omega)) ?_ | exact rfl) (c_RE_peek hE hr) (by omega) (fun r hh hp => ?_)
  obtain ⟨rfl, hz0⟩ := hp; have hz0 := hz0.symm; subst hz0
  refine wp_iload_n d_RE_take_4 rfl rfl ?_
  refine wp_icmp_eq (tgt := 10) d_RE_take_5 (by decide) (fun hc => ?_) (fun hc => ?_)
  · have hlt := rPk_lt (xs := xs) (s := s) (by rw [hc]; exact hc0)
    refine wp_aload_n d_RE_take_10 rfl rfl ?_
    refine wp_dup d_RE_take_11 rfl ?_
    refine wp_get xf_RE_19 d_RE_take_12 (by repeat first | assumption | exact xg_eq | exact xn_eq (by first | rfl | omega) | refine xg_ne (by first | assumption | omega | (simp only [xput, xnew]; omega)) ?_ | refine xn_ne (by first | assumption | omega | (simp only [xput, xnew]; omega)) ?_ | exact rfl) (by rfl) ?_
    refine wp_iconst (v := 1) d_RE_take_15 (by rfl) ?_
    refine wp_iadd d_RE_take_16 ?_
    refine wp_put xf_RE_19 xg_RE (Or.inl rfl) d_RE_take_17 (by repeat first | assumption | exact xg_eq | exact xn_eq (by first | rfl | omega) | refine xg_ne (by first | assumption | omega | (simp only [xput, xnew]; omega)) ?_ | refine xn_ne (by first | assumption | omega | (simp only [xput, xnew]; omega)) ?_ | exact rfl) (by first | rfl | assumption) (by first | rfl | assumption) (Nat.le_of_ble_eq_true rfl) ?_
    refine wp_iconst (v := 1) d_RE_take_20 (by rfl) ?_
    refine wp_ireturn d_RE_take_21 rfl (by first | rfl | assumption) ?_
    rw [rTk, if_pos hc]
    refine ⟨rfl, xfr.rf.put (by simp), hr.set (xfr.rf.put (by simp)) ?_ hlt⟩
    rw [rInc, nI_succ]
    exact (by repeat first | assumption | exact xg_eq | exact xn_eq (by first | rfl | omega) | refine xg_ne (by first | assumption | omega | (simp only [xput, xnew]; omega)) ?_ | refine xn_ne (by first | assumption | omega | (simp only [xput, xnew]; omega)) ?_ | exact rfl)
  · refine wp_iconst (v := 0) d_RE_take_8 (by rfl) ?_
    refine wp_ireturn d_RE_take_9 rfl (by first | rfl | assumption) ?_
    rw [rTk, if_neg hc]
    exact ⟨rfl, xfr.rf, hr⟩
theorem c_RE_expect (hE : xOK E) (hr : Rd E h ra sa sr n xs s) {c : Int32} (hc0 : c ≠ -2) : wpc E 3 m_RE_expect [.ref ra, .int c] h (fun r' h' => r' = none ∧ xfr [ra] h h' ∧ Rd E h' ra sa sr n xs (rEx xs c s)) := by
  obtain ⟨h1, h2, h3, h4, h5⟩ := id hr
  refine wpc_of rfl (Nat.le_of_ble_eq_true rfl) ?_
  refine wp_aload_n d_RE_expect_0 rfl rfl ?_
  refine wp_iload_n d_RE_expect_1 rfl rfl ?_
  refine wp_callV1 xc_RE_46 d_RE_expect_2 (Nat.le_of_ble_eq_true rfl) (by repeat first | assumption | exact xg_eq | exact xn_eq (by first | rfl | omega) | refine xg_ne (by first | assumption | omega | (simp only [xput, xnew]; omega)) ?_ | refine xn_ne (by first | assumption | omega | (simp only [xput, xnew]; omega)) ?_ | exact rfl) (c_RE_take hE hr hc0) (by omega) (fun r hh hp => ?_)
  obtain ⟨rfl, hf, hr'⟩ := hp
  obtain ⟨k1, k2, k3, k4, k5⟩ := id hr'
  refine wp_if_ne (tgt := 13) d_RE_expect_5 (by decide) (fun hc => ?_) (fun hc => ?_)
  · refine wp_return d_RE_expect_13 rfl ?_
    rw [bI_0] at hc
    rw [rTk] at hc hr'
    rw [rEx]
    by_cases hq : rPk xs s = c
    · rw [if_pos hq] at hr' ⊢; exact ⟨rfl, hf, hr'⟩
    · rw [if_neg hq] at hc; exact absurd rfl hc
  · rw [bI_0] at hc
    refine wp_aload_n d_RE_expect_8 rfl rfl ?_
    refine wp_iconst (v := 1) d_RE_expect_9 (by rfl) ?_
    refine wp_put xf_RE_15 xg_RE (Or.inl rfl) d_RE_expect_10 (by repeat first | assumption | exact xg_eq | exact xn_eq (by first | rfl | omega) | refine xg_ne (by first | assumption | omega | (simp only [xput, xnew]; omega)) ?_ | refine xn_ne (by first | assumption | omega | (simp only [xput, xnew]; omega)) ?_ | exact rfl) (by first | rfl | assumption) (by first | rfl | assumption) (Nat.le_of_ble_eq_true rfl) ?_
    refine wp_return d_RE_expect_13 rfl ?_
    rw [rTk] at hc hr'
    rw [rEx]
    by_cases hq : rPk xs s = c
    · rw [if_pos hq] at hc; exact absurd hc (by simp)
    · rw [if_neg hq] at hr' ⊢
      rw [rTk, if_neg hq] at k1
      refine ⟨rfl, hf.put (by simp), hr'.set (xfr.rf.put (by simp)) ?_ h5⟩
      rw [rTk, if_neg hq]
      exact (by repeat first | assumption | exact xg_eq | exact xn_eq (by first | rfl | omega) | refine xg_ne (by first | assumption | omega | (simp only [xput, xnew]; omega)) ?_ | refine xn_ne (by first | assumption | omega | (simp only [xput, xnew]; omega)) ?_ | exact rfl)
theorem c_RE_readItemSign (hE : xOK E) (hX : xStr E kA kV) (hr : Rd E h ra sa sr n xs s) {l : Nat} (hl0 : l ≤ 126) : wpc E 5 m_RE_readItemSign [.ref ra, .int (nI l)] h (fun r' h' => r' = some (.int (nI (rIs xs l s).1)) ∧ xfr [ra] h h' ∧ Rd E h' ra sa sr n xs (rIs xs l s).2 ∧ (rIs xs l s).1 ≤ 126 ∧ l ≤ (rIs xs l s).1) := by
  obtain ⟨h1, h2, h3, h4, h5⟩ := id hr
  have bad : (itemB (rPk xs s) = false ∨ rPk xs s < nI l) → wp E 5 m_RE_readItemSign 17 [(0, .ref ra), (1, .int (nI l)), (2, .int (rPk xs s))] [] h (fun r' h' => r' = some (.int (nI (rIs xs l s).1)) ∧ xfr [ra] h h' ∧ Rd E h' ra sa sr n xs (rIs xs l s).2 ∧ (rIs xs l s).1 ≤ 126 ∧ l ≤ (rIs xs l s).1) := by
    intro hb
    refine wp_aload_n d_RE_readItemSign_17 rfl rfl ?_
    refine wp_iconst (v := 1) d_RE_readItemSign_18 (by rfl) ?_
    refine wp_put xf_RE_15 xg_RE (Or.inl rfl) d_RE_readItemSign_19 (by repeat first | assumption | exact xg_eq | exact xn_eq (by first | rfl | omega) | refine xg_ne (by first | assumption | omega | (simp only [xput, xnew]; omega)) ?_ | refine xn_ne (by first | assumption | omega | (simp only [xput, xnew]; omega)) ?_ | exact rfl) (by first | rfl | assumption) (by first | rfl | assumption) (Nat.le_of_ble_eq_true rfl) ?_
    refine wp_iload_n d_RE_readItemSign_22 rfl rfl ?_
    refine wp_ireturn d_RE_readItemSign_23 rfl (by first | rfl | assumption) ?_
    rw [rIs, if_pos hb]
    exact ⟨rfl, xfr.rf.put (by simp), hr.set (xfr.rf.put (by simp)) (by repeat first | assumption | exact xg_eq | exact xn_eq (by first | rfl | omega) | refine xg_ne (by first | assumption | omega | (simp only [xput, xnew]; omega)) ?_ | refine xn_ne (by first | assumption | omega | (simp only [xput, xnew]; omega)) ?_ | exact rfl) h5, hl0, Nat.le_refl _⟩
  refine wpc_of rfl (Nat.le_of_ble_eq_true rfl) ?_
  refine wp_aload_n d_RE_readItemSign_0 rfl rfl ?_
  refine wp_callV0 xc_RE_53 d_RE_readItemSign_1 (Nat.le_of_ble_eq_true rfl) (by repeat first | assumption | exact xg_eq | exact xn_eq (by first | rfl | omega) | refine xg_ne (by first | assumption | omega | (simp only [xput, xnew]; omega)) ?_ | refine xn_ne (by first | assumption | omega | (simp only [xput, xnew]; omega)) ?_ | exact rfl) (c_RE_peek hE hr) (by omega) (fun r hh hp => ?_)
  obtain ⟨rfl, hz0⟩ := hp; have hz0 := hz0.symm; subst hz0
  refine wp_istore_n d_RE_readItemSign_4 rfl (by decide) rfl ?_
  refine wp_iload_n d_RE_readItemSign_5 rfl rfl ?_
  refine wp_callS1 xc_RE_140 d_RE_readItemSign_6 (Nat.le_of_ble_eq_true rfl) (c_RE_isItemSign hX _) (by omega) (fun r hh hp => ?_)
  obtain ⟨rfl, hz0⟩ := hp; have hz0 := hz0.symm; subst hz0
  refine wp_if_eq (tgt := 17) d_RE_readItemSign_9 (by decide) (fun hc => ?_) (fun hc => ?_)
  · rw [bI_0] at hc
    exact bad (Or.inl hc)
  · rw [bI_0] at hc
    have hc := b_t hc
    refine wp_iload_n d_RE_readItemSign_12 rfl rfl ?_
    refine wp_iload_n d_RE_readItemSign_13 rfl rfl ?_
    refine wp_icmp_ge (tgt := 24) d_RE_readItemSign_14 (by decide) (fun hc2 => ?_) (fun hc2 => ?_)
    · have hlt := rPk_lt (isSg_ne (itemB_sg hc))
      obtain ⟨c, q1, q2, q3⟩ := isSg_n (itemB_sg hc)
      refine wp_aload_n d_RE_readItemSign_24 rfl rfl ?_
      refine wp_dup d_RE_readItemSign_25 rfl ?_
      refine wp_get xf_RE_19 d_RE_readItemSign_26 (by repeat first | assumption | exact xg_eq | exact xn_eq (by first | rfl | omega) | refine xg_ne (by first | assumption | omega | (simp only [xput, xnew]; omega)) ?_ | refine xn_ne (by first | assumption | omega | (simp only [xput, xnew]; omega)) ?_ | exact rfl) (by rfl) ?_
      refine wp_iconst (v := 1) d_RE_readItemSign_29 (by rfl) ?_
      refine wp_iadd d_RE_readItemSign_30 ?_
      refine wp_put xf_RE_19 xg_RE (Or.inl rfl) d_RE_readItemSign_31 (by repeat first | assumption | exact xg_eq | exact xn_eq (by first | rfl | omega) | refine xg_ne (by first | assumption | omega | (simp only [xput, xnew]; omega)) ?_ | refine xn_ne (by first | assumption | omega | (simp only [xput, xnew]; omega)) ?_ | exact rfl) (by first | rfl | assumption) (by first | rfl | assumption) (Nat.le_of_ble_eq_true rfl) ?_
      refine wp_iload_n d_RE_readItemSign_34 rfl rfl ?_
      refine wp_ireturn d_RE_readItemSign_35 rfl (by first | rfl | assumption) ?_
      rw [rIs, if_neg (by rw [hc]; rintro (q | q); cases q; exact absurd q (Int32.not_lt.mpr hc2))]
      rw [q3] at hc2 ⊢
      rw [nI_clamp (by omega)]
      rw [nI_leI (by omega) (by omega)] at hc2
      refine ⟨rfl, xfr.rf.put (by simp), hr.set (xfr.rf.put (by simp)) ?_ hlt, q2, hc2⟩
      rw [rInc, nI_succ]
      exact (by repeat first | assumption | exact xg_eq | exact xn_eq (by first | rfl | omega) | refine xg_ne (by first | assumption | omega | (simp only [xput, xnew]; omega)) ?_ | refine xn_ne (by first | assumption | omega | (simp only [xput, xnew]; omega)) ?_ | exact rfl)
    · exact bad (Or.inr (Int32.not_le.mp hc2))
theorem c_RE_readDigit (hE : xOK E) (hr : Rd E h ra sa sr n xs s) {l : Nat} (hl0 : l ≤ 6) : wpc E 2 m_RE_readDigit [.ref ra, .int (nI l)] h (fun r' h' => r' = some (.int (nI (rDg xs l s).1)) ∧ xfr [ra] h h' ∧ Rd E h' ra sa sr n xs (rDg xs l s).2 ∧ (rDg xs l s).1 ≤ 6 ∧ l ≤ (rDg xs l s).1) := by
  obtain ⟨h1, h2, h3, h4, h5⟩ := id hr
  have bad : (rPk xs s - 48 < nI l ∨ 6 < rPk xs s - 48) → wp E 2 m_RE_readDigit 19 [(0, .ref ra), (1, .int (nI l)), (2, .int (rPk xs s - 48))] [] h (fun r' h' => r' = some (.int (nI (rDg xs l s).1)) ∧ xfr [ra] h h' ∧ Rd E h' ra sa sr n xs (rDg xs l s).2 ∧ (rDg xs l s).1 ≤ 6 ∧ l ≤ (rDg xs l s).1) := by
    intro hb
    refine wp_aload_n d_RE_readDigit_19 rfl rfl ?_
    refine wp_iconst (v := 1) d_RE_readDigit_20 (by rfl) ?_
    refine wp_put xf_RE_15 xg_RE (Or.inl rfl) d_RE_readDigit_21 (by repeat first | assumption | exact xg_eq | exact xn_eq (by first | rfl | omega) | refine xg_ne (by first | assumption | omega | (simp only [xput, xnew]; omega)) ?_ | refine xn_ne (by first | assumption | omega | (simp only [xput, xnew]; omega)) ?_ | exact rfl) (by first | rfl | assumption) (by first | rfl | assumption) (Nat.le_of_ble_eq_true rfl) ?_
    refine wp_iload_n d_RE_readDigit_24 rfl rfl ?_
    refine wp_ireturn d_RE_readDigit_25 rfl (by first | rfl | assumption) ?_
    rw [rDg, if_pos hb]
    exact ⟨rfl, xfr.rf.put (by simp), hr.set (xfr.rf.put (by simp)) (by repeat first | assumption | exact xg_eq | exact xn_eq (by first | rfl | omega) | refine xg_ne (by first | assumption | omega | (simp only [xput, xnew]; omega)) ?_ | refine xn_ne (by first | assumption | omega | (simp only [xput, xnew]; omega)) ?_ | exact rfl) h5, hl0, Nat.le_refl _⟩
  refine wpc_of rfl (Nat.le_of_ble_eq_true rfl) ?_
  refine wp_aload_n d_RE_readDigit_0 rfl rfl ?_
  refine wp_callV0 xc_RE_53 d_RE_readDigit_1 (Nat.le_of_ble_eq_true rfl) (by repeat first | assumption | exact xg_eq | exact xn_eq (by first | rfl | omega) | refine xg_ne (by first | assumption | omega | (simp only [xput, xnew]; omega)) ?_ | refine xn_ne (by first | assumption | omega | (simp only [xput, xnew]; omega)) ?_ | exact rfl) (c_RE_peek hE hr) (by omega) (fun r hh hp => ?_)
  obtain ⟨rfl, hz0⟩ := hp; have hz0 := hz0.symm; subst hz0
  refine wp_bipush (v := 48) d_RE_readDigit_4 (by rfl) ?_
  refine wp_isub d_RE_readDigit_6 ?_
  refine wp_istore_n d_RE_readDigit_7 rfl (by decide) rfl ?_
  refine wp_iload_n d_RE_readDigit_8 rfl rfl ?_
  refine wp_iload_n d_RE_readDigit_9 rfl rfl ?_
  refine wp_icmp_lt (tgt := 19) d_RE_readDigit_10 (by decide) (fun hc => ?_) (fun hc => ?_)
  · exact bad (Or.inl hc)
  · refine wp_iload_n d_RE_readDigit_13 rfl rfl ?_
    refine wp_bipush (v := 6) d_RE_readDigit_14 (by rfl) ?_
    refine wp_icmp_le (tgt := 26) d_RE_readDigit_16 (by decide) (fun hc2 => ?_) (fun hc2 => ?_)
    · have hge : ¬ rPk xs s - 48 < 0 := fun q => hc (Int32.lt_of_lt_of_le q (nI_pos' (by omega)))
      obtain ⟨c, q2, q3⟩ := nI_of2 (M := 6) (n := 6) rfl hge hc2
      have hne : rPk xs s ≠ -2 := fun q => by rw [q] at hge; exact hge (by decide)
      have hlt := rPk_lt hne
      refine wp_aload_n d_RE_readDigit_26 rfl rfl ?_
      refine wp_dup d_RE_readDigit_27 rfl ?_
      refine wp_get xf_RE_19 d_RE_readDigit_28 (by repeat first | assumption | exact xg_eq | exact xn_eq (by first | rfl | omega) | refine xg_ne (by first | assumption | omega | (simp only [xput, xnew]; omega)) ?_ | refine xn_ne (by first | assumption | omega | (simp only [xput, xnew]; omega)) ?_ | exact rfl) (by rfl) ?_
      refine wp_iconst (v := 1) d_RE_readDigit_31 (by rfl) ?_
      refine wp_iadd d_RE_readDigit_32 ?_
      refine wp_put xf_RE_19 xg_RE (Or.inl rfl) d_RE_readDigit_33 (by repeat first | assumption | exact xg_eq | exact xn_eq (by first | rfl | omega) | refine xg_ne (by first | assumption | omega | (simp only [xput, xnew]; omega)) ?_ | refine xn_ne (by first | assumption | omega | (simp only [xput, xnew]; omega)) ?_ | exact rfl) (by first | rfl | assumption) (by first | rfl | assumption) (Nat.le_of_ble_eq_true rfl) ?_
      refine wp_iload_n d_RE_readDigit_36 rfl rfl ?_
      refine wp_ireturn d_RE_readDigit_37 rfl (by first | rfl | assumption) ?_
      rw [rDg, if_neg (by rintro (q | q); exact hc q; exact absurd q (Int32.not_lt.mpr hc2))]
      rw [q3] at hc ⊢
      rw [nI_clamp (by omega)]
      rw [nI_ltI (by omega) (by omega)] at hc
      refine ⟨rfl, xfr.rf.put (by simp), hr.set (xfr.rf.put (by simp)) ?_ hlt, q2, by omega⟩
      rw [rInc, nI_succ]
      exact (by repeat first | assumption | exact xg_eq | exact xn_eq (by first | rfl | omega) | refine xg_ne (by first | assumption | omega | (simp only [xput, xnew]; omega)) ?_ | refine xn_ne (by first | assumption | omega | (simp only [xput, xnew]; omega)) ?_ | exact rfl)
    · exact bad (Or.inr (Int32.not_le.mp hc2))
theorem c_RE_readItem (hE : xOK E) (hX : xStr E kA kV) (hr : Rd E h ra sa sr n xs s) {a : Nat} {k g : Int32} {v : Value} (lo hi : Int64) (h1 : h.2.2 a = some (ob 0 [.int k, .long lo, .long hi, .int g, v])) (ha1 : a ≠ ra) (ha2 : a ≠ sa) (ha3 : a ≠ sr) :
    wpc E 6 m_RE_readItem [.ref ra, .ref a] h (fun r' h' => r' = none ∧ xfr [ra, a] h h' ∧ Rd E h' ra sa sr n xs (rIt xs (lo, hi) s).2 ∧ h'.2.2 a = some (ob 0 [.int k, .long (rIt xs (lo, hi) s).1.1, .long (rIt xs (lo, hi) s).1.2, .int g, v])) := by
  obtain ⟨k1, k2, k3, k4, k5⟩ := id hr
  have fin : ∀ (h2 : xH) (f : Nat) (q : Nat × RS), xfr [ra] h h2 → Rd E h2 ra sa sr n xs q.2 → f ≤ 126 → q.1 ≤ 126 → (tkS (q.1 + 1 - f) f (lo, hi), q.2) = rIt xs (lo, hi) s → wp E 6 m_RE_readItem 25 [(0, .ref ra), (1, .ref a), (2, .int (nI f))] [.int (nI q.1)] h2 (fun r' h' => r' = none ∧ xfr [ra, a] h h' ∧ Rd E h' ra sa sr n xs (rIt xs (lo, hi) s).2 ∧ h'.2.2 a = some (ob 0 [.int k, .long (rIt xs (lo, hi) s).1.1, .long (rIt xs (lo, hi) s).1.2, .int g, v])) := by
    intro h2 f q hf hr2 q1 q2 hq
    have o1 : h2.2.2 a = some (ob 0 [.int k, .long lo, .long hi, .int g, v]) := hf.at (by simp [ha1]) h1
    refine wp_istore_n d_RE_readItem_25 rfl (by decide) rfl ?_
    refine wp_aload_n d_RE_readItem_26 rfl rfl ?_
    refine wp_iload_n d_RE_readItem_27 rfl rfl ?_
    refine wp_iload_n d_RE_readItem_28 rfl rfl ?_
    refine wp_callV2 xc_RE_126 d_RE_readItem_29 (Nat.le_of_ble_eq_true rfl) (by repeat first | assumption | exact xg_eq | exact xn_eq (by first | rfl | omega) | refine xg_ne (by first | assumption | omega | (simp only [xput, xnew]; omega)) ?_ | refine xn_ne (by first | assumption | omega | (simp only [xput, xnew]; omega)) ?_ | exact rfl) (c_AT_takeSigns (by omega) (by omega) lo hi o1) (by omega) (fun r hh hp => ?_)
    obtain ⟨rfl, rfl⟩ := hp
    refine wp_return d_RE_readItem_32 rfl ?_
    rw [← hq]
    exact ⟨rfl, (hf.sub (by simp)).put (by simp), ⟨xg_ne ha1.symm hr2.1, hr2.2.1.mv (xg_ne ha2.symm rfl) (xg_ne ha3.symm rfl), hr2.2.2⟩, xg_eq⟩
  refine wpc_of rfl (Nat.le_of_ble_eq_true rfl) ?_
  refine wp_aload_n d_RE_readItem_0 rfl rfl ?_
  refine wp_bipush (v := 32) d_RE_readItem_1 (by rfl) ?_
  refine wp_callV1 xc_RE_146 d_RE_readItem_3 (Nat.le_of_ble_eq_true rfl) (by repeat first | assumption | exact xg_eq | exact xn_eq (by first | rfl | omega) | refine xg_ne (by first | assumption | omega | (simp only [xput, xnew]; omega)) ?_ | refine xn_ne (by first | assumption | omega | (simp only [xput, xnew]; omega)) ?_ | exact rfl) (c_RE_readItemSign hE hX hr (l := 32) (by decide)) (by omega) (fun r hh hp => ?_)
  obtain ⟨rfl, hf, hr2, b1, b2⟩ := hp
  obtain ⟨m1, m2, m3, m4, m5⟩ := id hr2
  refine wp_istore_n d_RE_readItem_6 rfl (by decide) rfl ?_
  refine wp_aload_n d_RE_readItem_7 rfl rfl ?_
  refine wp_bipush (v := 45) d_RE_readItem_8 (by rfl) ?_
  refine wp_callV1 xc_RE_46 d_RE_readItem_10 (Nat.le_of_ble_eq_true rfl) (by repeat first | assumption | exact xg_eq | exact xn_eq (by first | rfl | omega) | refine xg_ne (by first | assumption | omega | (simp only [xput, xnew]; omega)) ?_ | refine xn_ne (by first | assumption | omega | (simp only [xput, xnew]; omega)) ?_ | exact rfl) (c_RE_take hE hr2 (by decide)) (by omega) (fun r hh hp => ?_)
  obtain ⟨rfl, hf3, hr3⟩ := hp
  obtain ⟨l1, l2, l3, l4, l5⟩ := id hr3
  refine wp_if_eq (tgt := 24) d_RE_readItem_13 (by decide) (fun hc => ?_) (fun hc => ?_)
  · rw [bI_0] at hc
    refine wp_iload_n d_RE_readItem_24 rfl rfl ?_
    exact fin _ _ ((rIs xs 32 s).1, (rTk xs 45 (rIs xs 32 s).2).2) (hf.tr hf3) hr3 b1 b1 (by simp only [rIt, hc]; rfl)
  · rw [bI_0] at hc
    have hc := b_t hc
    refine wp_aload_n d_RE_readItem_16 rfl rfl ?_
    refine wp_iload_n d_RE_readItem_17 rfl rfl ?_
    refine wp_callV1 xc_RE_146 d_RE_readItem_18 (Nat.le_of_ble_eq_true rfl) (by repeat first | assumption | exact xg_eq | exact xn_eq (by first | rfl | omega) | refine xg_ne (by first | assumption | omega | (simp only [xput, xnew]; omega)) ?_ | refine xn_ne (by first | assumption | omega | (simp only [xput, xnew]; omega)) ?_ | exact rfl) (c_RE_readItemSign hE hX hr3 b1) (by omega) (fun r hh hp => ?_)
    obtain ⟨rfl, hf4, hr4, b3, b4⟩ := hp
    refine wp_goto (tgt := 25) d_RE_readItem_21 (by decide) ?_
    exact fin _ _ (rIs xs (rIs xs 32 s).1 (rTk xs 45 (rIs xs 32 s).2).2) ((hf.tr hf3).tr hf4) hr4 b1 b3 (by simp only [rIt, hc]; rfl)
theorem c_RE_readBraces (hE : xOK E) (hr : Rd E h ra sa sr n xs s) {a : Nat} {v w : Value} {l m u sp : Int32} (h1 : h.2.2 a = some (ob 4 [v, w, .int l, .int m, .int u, .int sp])) (ha1 : a ≠ ra) (ha2 : a ≠ sa) (ha3 : a ≠ sr) :
    wpc E 4 m_RE_readBraces [.ref ra, .ref a] h (fun r' h' => r' = none ∧ xfr [ra, a] h h' ∧ Rd E h' ra sa sr n xs (rBr xs s).2 ∧ h'.2.2 a = some (ob 4 [v, w, .int (nI (rBr xs s).1.1), .int (nI (rBr xs s).1.2), .int u, .int sp]) ∧ (rBr xs s).1.1 ≤ (rBr xs s).1.2) := by
  obtain ⟨k1, k2, k3, k4, k5⟩ := id hr
  have fin : ∀ (h2 : xH) (f : Nat) (q : Nat × RS), xfr [ra] h h2 → Rd E h2 ra sa sr n xs q.2 → f ≤ q.1 → ((f, q.1), rEx xs 125 q.2) = rBr xs s → wp E 4 m_RE_readBraces 39 [(0, .ref ra), (1, .ref a), (2, .int (nI f)), (3, .int (nI q.1))] [] h2 (fun r' h' => r' = none ∧ xfr [ra, a] h h' ∧ Rd E h' ra sa sr n xs (rBr xs s).2 ∧ h'.2.2 a = some (ob 4 [v, w, .int (nI (rBr xs s).1.1), .int (nI (rBr xs s).1.2), .int u, .int sp]) ∧ (rBr xs s).1.1 ≤ (rBr xs s).1.2) := by
    intro h2 f q hf hr2 hfq hq
    obtain ⟨l1, l2, l3, l4, l5⟩ := id hr2
    refine wp_aload_n d_RE_readBraces_39 rfl rfl ?_
    refine wp_bipush (v := 125) d_RE_readBraces_40 (by rfl) ?_
    refine wp_callV1 xc_RE_107 d_RE_readBraces_42 (Nat.le_of_ble_eq_true rfl) (by repeat first | assumption | exact xg_eq | exact xn_eq (by first | rfl | omega) | refine xg_ne (by first | assumption | omega | (simp only [xput, xnew]; omega)) ?_ | refine xn_ne (by first | assumption | omega | (simp only [xput, xnew]; omega)) ?_ | exact rfl) (c_RE_expect hE hr2 (by decide)) (by omega) (fun r hh hp => ?_)
    obtain ⟨rfl, hf3, hr3⟩ := hp
    have o1 : hh.2.2 a = some (ob 4 [v, w, .int l, .int m, .int u, .int sp]) := (hf.tr hf3).at (by simp [ha1]) h1
    refine wp_aload_n d_RE_readBraces_45 rfl rfl ?_
    refine wp_iload_n d_RE_readBraces_46 rfl rfl ?_
    refine wp_iload_n d_RE_readBraces_47 rfl rfl ?_
    refine wp_callV2 xc_RE_90 d_RE_readBraces_48 (Nat.le_of_ble_eq_true rfl) (by repeat first | assumption | exact xg_eq | exact xn_eq (by first | rfl | omega) | refine xg_ne (by first | assumption | omega | (simp only [xput, xnew]; omega)) ?_ | refine xn_ne (by first | assumption | omega | (simp only [xput, xnew]; omega)) ?_ | exact rfl) (c_PI_repeat _ _ o1) (by omega) (fun r hh hp => ?_)
    obtain ⟨rfl, rfl⟩ := hp
    refine wp_return d_RE_readBraces_51 rfl ?_
    rw [← hq]
    exact ⟨rfl, ((hf.tr hf3).sub (by simp)).put (by simp), ⟨xg_ne ha1.symm hr3.1, hr3.2.1.mv (xg_ne ha2.symm rfl) (xg_ne ha3.symm rfl), hr3.2.2⟩, xg_eq, hfq⟩
  refine wpc_of rfl (Nat.le_of_ble_eq_true rfl) ?_
  refine wp_aload_n d_RE_readBraces_0 rfl rfl ?_
  refine wp_iconst (v := 0) d_RE_readBraces_1 (by rfl) ?_
  refine wp_callV1 xc_RE_97 d_RE_readBraces_2 (Nat.le_of_ble_eq_true rfl) (by repeat first | assumption | exact xg_eq | exact xn_eq (by first | rfl | omega) | refine xg_ne (by first | assumption | omega | (simp only [xput, xnew]; omega)) ?_ | refine xn_ne (by first | assumption | omega | (simp only [xput, xnew]; omega)) ?_ | exact rfl) (c_RE_readDigit hE hr (l := 0) (by decide)) (by omega) (fun r hh hp => ?_)
  obtain ⟨rfl, hf, hr2, b1, b2⟩ := hp
  obtain ⟨m1, m2, m3, m4, m5⟩ := id hr2
  refine wp_istore_n d_RE_readBraces_5 rfl (by decide) rfl ?_
  refine wp_iload_n d_RE_readBraces_6 rfl rfl ?_
  refine wp_istore_n d_RE_readBraces_7 rfl (by decide) rfl ?_
  refine wp_aload_n d_RE_readBraces_8 rfl rfl ?_
  refine wp_bipush (v := 44) d_RE_readBraces_9 (by rfl) ?_
  refine wp_callV1 xc_RE_46 d_RE_readBraces_11 (Nat.le_of_ble_eq_true rfl) (by repeat first | assumption | exact xg_eq | exact xn_eq (by first | rfl | omega) | refine xg_ne (by first | assumption | omega | (simp only [xput, xnew]; omega)) ?_ | refine xn_ne (by first | assumption | omega | (simp only [xput, xnew]; omega)) ?_ | exact rfl) (c_RE_take hE hr2 (by decide)) (by omega) (fun r hh hp => ?_)
  obtain ⟨rfl, hf3, hr3⟩ := hp
  obtain ⟨l1, l2, l3, l4, l5⟩ := id hr3
  refine wp_if_eq (tgt := 30) d_RE_readBraces_14 (by decide) (fun hc => ?_) (fun hc => ?_)
  · rw [bI_0] at hc
    refine wp_iload_n d_RE_readBraces_30 rfl rfl ?_
    refine wp_if_ne (tgt := 39) d_RE_readBraces_31 (by decide) (fun hc2 => ?_) (fun hc2 => ?_)
    · have hz : ¬ (rDg xs 0 s).1 = 0 := fun q => hc2 (by rw [q]; rfl)
      exact fin _ _ ((rDg xs 0 s).1, (rTk xs 44 (rDg xs 0 s).2).2) (hf.tr hf3) hr3 (Nat.le_refl _) (by simp only [rBr, hc, if_neg hz]; rfl)
    · have hz : (rDg xs 0 s).1 = 0 := (nI_eq (by omega) (by decide)).mp hc2
      refine wp_aload_n d_RE_readBraces_34 rfl rfl ?_
      refine wp_iconst (v := 1) d_RE_readBraces_35 (by rfl) ?_
      refine wp_put xf_RE_15 xg_RE (Or.inl rfl) d_RE_readBraces_36 (by repeat first | assumption | exact xg_eq | exact xn_eq (by first | rfl | omega) | refine xg_ne (by first | assumption | omega | (simp only [xput, xnew]; omega)) ?_ | refine xn_ne (by first | assumption | omega | (simp only [xput, xnew]; omega)) ?_ | exact rfl) (by first | rfl | assumption) (by first | rfl | assumption) (Nat.le_of_ble_eq_true rfl) ?_
      refine fin _ _ ((rDg xs 0 s).1, rStk (rTk xs 44 (rDg xs 0 s).2).2) ((hf.tr hf3).put (by simp)) (hr3.set (xfr.rf.put (by simp)) (by repeat first | assumption | exact xg_eq | exact xn_eq (by first | rfl | omega) | refine xg_ne (by first | assumption | omega | (simp only [xput, xnew]; omega)) ?_ | refine xn_ne (by first | assumption | omega | (simp only [xput, xnew]; omega)) ?_ | exact rfl) l5) (Nat.le_refl _) (by simp only [rBr, hc, if_pos hz]; rfl)
  · rw [bI_0] at hc
    have hc := b_t hc
    refine wp_aload_n d_RE_readBraces_17 rfl rfl ?_
    refine wp_iconst (v := 1) d_RE_readBraces_18 (by rfl) ?_
    refine wp_iload_n d_RE_readBraces_19 rfl rfl ?_
    refine wp_mmax ml_RE_101 d_RE_readBraces_20 (Nat.le_of_ble_eq_true rfl) (by omega) ?_
    have hmx := mx1 (rDg xs 0 s).1 (by omega)
    rw [hmx]
    refine wp_callV1 xc_RE_97 d_RE_readBraces_23 (Nat.le_of_ble_eq_true rfl) (by repeat first | assumption | exact xg_eq | exact xn_eq (by first | rfl | omega) | refine xg_ne (by first | assumption | omega | (simp only [xput, xnew]; omega)) ?_ | refine xn_ne (by first | assumption | omega | (simp only [xput, xnew]; omega)) ?_ | exact rfl) (c_RE_readDigit hE hr3 (by omega)) (by omega) (fun r hh hp => ?_)
    obtain ⟨rfl, hf4, hr4, b3, b4⟩ := hp
    refine wp_istore_n d_RE_readBraces_26 rfl (by decide) rfl ?_
    refine wp_goto (tgt := 39) d_RE_readBraces_27 (by decide) ?_
    exact fin _ _ (rDg xs (max 1 (rDg xs 0 s).1) (rTk xs 44 (rDg xs 0 s).2).2) ((hf.tr hf3).tr hf4) hr4 (by omega) (by simp only [rBr, hc]; rfl)
end RE
end
section
/-! PatternSearch$Reader: repetitions, classes, atoms of one sign -/
section RF
variable {E : xE} {h : xH} {kA kV : Nat → Nat} {ra sa sr n : Nat} {xs : List Int32} {s : RS}
theorem c_RE_beginsAtom (hE : xOK E) (hX : xStr E kA kV) (hr : Rd E h ra sa sr n xs s) (hg : s.2.1 ≤ 1000) (c : Int32) : wpc E 5 m_RE_beginsAtom [.ref ra, .int c] h (fun r' h' => r' = some (.int (bI (rBg s.2.1 c))) ∧ h' = h) := by
  obtain ⟨h1, h2, h3, h4, h5⟩ := id hr
  have yes : rBg s.2.1 c = true → wp E 5 m_RE_beginsAtom 52 [(0, .ref ra), (1, .int c)] [] h (fun r' h' => r' = some (.int (bI (rBg s.2.1 c))) ∧ h' = h) := by
    intro hb
    refine wp_iconst (v := 1) d_RE_beginsAtom_52 (by rfl) ?_
    refine wp_goto (tgt := 57) d_RE_beginsAtom_53 (by decide) ?_
    refine wp_ireturn d_RE_beginsAtom_57 rfl (by first | rfl | assumption) ?_
    rw [hb]
    exact ⟨rfl, rfl⟩
  refine wpc_of rfl (Nat.le_of_ble_eq_true rfl) ?_
  refine wp_iload_n d_RE_beginsAtom_0 rfl rfl ?_
  refine wp_bipush (v := 40) d_RE_beginsAtom_1 (by rfl) ?_
  refine wp_icmp_ne (tgt := 21) d_RE_beginsAtom_3 (by decide) (fun hc => ?_) (fun hc => ?_)
  · refine wp_iload_n d_RE_beginsAtom_21 rfl rfl ?_
    refine wp_bipush (v := 91) d_RE_beginsAtom_22 (by rfl) ?_
    refine wp_icmp_eq (tgt := 52) d_RE_beginsAtom_24 (by decide) (fun c1 => ?_) (fun c1 => ?_)
    · exact yes (by rw [rBg, if_neg hc, decide_eq_true c1]; rfl)
    · refine wp_iload_n d_RE_beginsAtom_27 rfl rfl ?_
      refine wp_bipush (v := 46) d_RE_beginsAtom_28 (by rfl) ?_
      refine wp_icmp_eq (tgt := 52) d_RE_beginsAtom_30 (by decide) (fun c2 => ?_) (fun c2 => ?_)
      · exact yes (by rw [rBg, if_neg hc, decide_eq_true c2]; simp)
      · refine wp_iload_n d_RE_beginsAtom_33 rfl rfl ?_
        refine wp_bipush (v := 94) d_RE_beginsAtom_34 (by rfl) ?_
        refine wp_icmp_eq (tgt := 52) d_RE_beginsAtom_36 (by decide) (fun c3 => ?_) (fun c3 => ?_)
        · exact yes (by rw [rBg, if_neg hc, decide_eq_true c3]; simp)
        · refine wp_iload_n d_RE_beginsAtom_39 rfl rfl ?_
          refine wp_bipush (v := 36) d_RE_beginsAtom_40 (by rfl) ?_
          refine wp_icmp_eq (tgt := 52) d_RE_beginsAtom_42 (by decide) (fun c4 => ?_) (fun c4 => ?_)
          · exact yes (by rw [rBg, if_neg hc, decide_eq_true c4]; simp)
          · refine wp_iload_n d_RE_beginsAtom_45 rfl rfl ?_
            refine wp_callS1 xc_RE_149 d_RE_beginsAtom_46 (Nat.le_of_ble_eq_true rfl) (c_RE_isPlain hX c) (by omega) (fun r hh hp => ?_)
            obtain ⟨rfl, hz0⟩ := hp; have hz0 := hz0.symm; subst hz0
            have e : rBg s.2.1 c = plainB c := by rw [rBg, if_neg hc, decide_eq_false c1, decide_eq_false c2, decide_eq_false c3, decide_eq_false c4]; simp
            refine wp_if_eq (tgt := 56) d_RE_beginsAtom_49 (by decide) (fun c5 => ?_) (fun c5 => ?_)
            · rw [bI_0] at c5
              refine wp_iconst (v := 0) d_RE_beginsAtom_56 (by rfl) ?_
              refine wp_ireturn d_RE_beginsAtom_57 rfl (by first | rfl | assumption) ?_
              rw [e, c5]
              exact ⟨rfl, rfl⟩
            · rw [bI_0] at c5
              exact yes (by rw [e]; exact b_t c5)
  · refine wp_aload_n d_RE_beginsAtom_6 rfl rfl ?_
    refine wp_get xf_RE_32 d_RE_beginsAtom_7 (by repeat first | assumption | exact xg_eq | exact xn_eq (by first | rfl | omega) | refine xg_ne (by first | assumption | omega | (simp only [xput, xnew]; omega)) ?_ | refine xn_ne (by first | assumption | omega | (simp only [xput, xnew]; omega)) ?_ | exact rfl) (by rfl) ?_
    refine wp_bipush (v := 6) d_RE_beginsAtom_10 (by rfl) ?_
    refine wp_icmp_ge (tgt := 19) d_RE_beginsAtom_12 (by decide) (fun c1 => ?_) (fun c1 => ?_)
    · have c2 : ¬ s.2.1 < 6 := Nat.not_lt.mpr ((nI_leI (a := 6) (by decide) (by omega)).mp c1)
      refine wp_iconst (v := 0) d_RE_beginsAtom_19 (by rfl) ?_
      refine wp_ireturn d_RE_beginsAtom_20 rfl (by first | rfl | assumption) ?_
      rw [rBg, if_pos hc, decide_eq_false c2]
      exact ⟨rfl, rfl⟩
    · have c2 : s.2.1 < 6 := Nat.not_le.mp (fun q => c1 ((nI_leI (a := 6) (by decide) (by omega)).mpr q))
      refine wp_iconst (v := 1) d_RE_beginsAtom_15 (by rfl) ?_
      refine wp_goto (tgt := 20) d_RE_beginsAtom_16 (by decide) ?_
      refine wp_ireturn d_RE_beginsAtom_20 rfl (by first | rfl | assumption) ?_
      rw [rBg, if_pos hc, decide_eq_true c2]
      exact ⟨rfl, rfl⟩
theorem c_RE_readRepetition (hE : xOK E) (hr : Rd E h ra sa sr n xs s) {a : Nat} {v w : Value} {sp : Int32} (h1 : h.2.2 a = some (ob 4 [v, w, .int 1, .int 1, .int 0, .int sp])) (ha1 : a ≠ ra) (ha2 : a ≠ sa) (ha3 : a ≠ sr) :
    wpc E 5 m_RE_readRepetition [.ref ra, .ref a] h (fun r' h' => r' = some (.int (bI (rRp xs s).1)) ∧ xfr [ra, a] h h' ∧ Rd E h' ra sa sr n xs (rRp xs s).2.2 ∧ h'.2.2 a = some (ob 4 [v, w, .int (nI (rRp xs s).2.1.1), .int (nI (rRp xs s).2.1.2.1), .int (bI (rRp xs s).2.1.2.2), .int sp]) ∧ (rRp xs s).2.1.1 ≤ (rRp xs s).2.1.2.1) := by
  obtain ⟨k1, k2, k3, k4, k5⟩ := id hr
  refine wpc_of rfl (Nat.le_of_ble_eq_true rfl) ?_
  refine wp_aload_n d_RE_readRepetition_0 rfl rfl ?_
  refine wp_bipush (v := 42) d_RE_readRepetition_1 (by rfl) ?_
  refine wp_callV1 xc_RE_46 d_RE_readRepetition_3 (Nat.le_of_ble_eq_true rfl) (by repeat first | assumption | exact xg_eq | exact xn_eq (by first | rfl | omega) | refine xg_ne (by first | assumption | omega | (simp only [xput, xnew]; omega)) ?_ | refine xn_ne (by first | assumption | omega | (simp only [xput, xnew]; omega)) ?_ | exact rfl) (c_RE_take hE hr (by decide)) (by omega) (fun r hh hp => ?_)
  obtain ⟨rfl, f1, r1⟩ := hp
  have o1 := f1.at (by simp [ha1]) h1
  by_cases q1 : rPk xs s = 42
  · rw [rTk, if_pos q1] at r1 ⊢
    refine wp_if_eq (tgt := 17) d_RE_readRepetition_6 (by decide) (fun hc => ?_) (fun hc => ?_)
    · exact absurd hc (show ¬ (1 : Int32) = 0 by decide)
    · refine wp_aload_n d_RE_readRepetition_9 rfl rfl ?_
      refine wp_iconst (v := 0) d_RE_readRepetition_10 (by rfl) ?_
      refine wp_callV1 xc_RE_86 d_RE_readRepetition_11 (Nat.le_of_ble_eq_true rfl) (by repeat first | assumption | exact xg_eq | exact xn_eq (by first | rfl | omega) | refine xg_ne (by first | assumption | omega | (simp only [xput, xnew]; omega)) ?_ | refine xn_ne (by first | assumption | omega | (simp only [xput, xnew]; omega)) ?_ | exact rfl) (c_PI_repeatUnbounded _ o1) (by omega) (fun r hh hp => ?_)
      obtain ⟨rfl, rfl⟩ := hp
      refine wp_goto (tgt := 71) d_RE_readRepetition_14 (by decide) ?_
      refine wp_iconst (v := 1) d_RE_readRepetition_71 (by rfl) ?_
      refine wp_ireturn d_RE_readRepetition_72 rfl (by first | rfl | assumption) ?_
      rw [rRp, if_pos q1]
      exact ⟨rfl, (f1.sub (by simp)).put (by simp), ⟨xg_ne ha1.symm r1.1, r1.2.1.mv (xg_ne ha2.symm rfl) (xg_ne ha3.symm rfl), r1.2.2⟩, xg_eq, Nat.le_of_ble_eq_true rfl⟩
  rw [rTk, if_neg q1] at r1 ⊢
  obtain ⟨m1, m2, m3, m4, m5⟩ := id r1
  refine wp_if_eq (tgt := 17) d_RE_readRepetition_6 (by decide) (fun hc => ?_) (fun hc => ?_)
  rotate_left
  · exact absurd rfl hc
  refine wp_aload_n d_RE_readRepetition_17 rfl rfl ?_
  refine wp_bipush (v := 43) d_RE_readRepetition_18 (by rfl) ?_
  refine wp_callV1 xc_RE_46 d_RE_readRepetition_20 (Nat.le_of_ble_eq_true rfl) (by repeat first | assumption | exact xg_eq | exact xn_eq (by first | rfl | omega) | refine xg_ne (by first | assumption | omega | (simp only [xput, xnew]; omega)) ?_ | refine xn_ne (by first | assumption | omega | (simp only [xput, xnew]; omega)) ?_ | exact rfl) (c_RE_take hE r1 (by decide)) (by omega) (fun r hh hp => ?_)
  obtain ⟨rfl, f2, r2⟩ := hp
  have o2 := f2.at (by simp [ha1]) o1
  by_cases q2 : rPk xs s = 43
  · rw [rTk, if_pos q2] at r2 ⊢
    refine wp_if_eq (tgt := 34) d_RE_readRepetition_23 (by decide) (fun hc2 => ?_) (fun hc2 => ?_)
    · exact absurd hc2 (show ¬ (1 : Int32) = 0 by decide)
    · refine wp_aload_n d_RE_readRepetition_26 rfl rfl ?_
      refine wp_iconst (v := 1) d_RE_readRepetition_27 (by rfl) ?_
      refine wp_callV1 xc_RE_86 d_RE_readRepetition_28 (Nat.le_of_ble_eq_true rfl) (by repeat first | assumption | exact xg_eq | exact xn_eq (by first | rfl | omega) | refine xg_ne (by first | assumption | omega | (simp only [xput, xnew]; omega)) ?_ | refine xn_ne (by first | assumption | omega | (simp only [xput, xnew]; omega)) ?_ | exact rfl) (c_PI_repeatUnbounded _ o2) (by omega) (fun r hh hp => ?_)
      obtain ⟨rfl, rfl⟩ := hp
      refine wp_goto (tgt := 71) d_RE_readRepetition_31 (by decide) ?_
      refine wp_iconst (v := 1) d_RE_readRepetition_71 (by rfl) ?_
      refine wp_ireturn d_RE_readRepetition_72 rfl (by first | rfl | assumption) ?_
      rw [rRp, if_neg q1, if_pos q2]
      exact ⟨rfl, ((f1.tr f2).sub (by simp)).put (by simp), ⟨xg_ne ha1.symm r2.1, r2.2.1.mv (xg_ne ha2.symm rfl) (xg_ne ha3.symm rfl), r2.2.2⟩, xg_eq, Nat.le_of_ble_eq_true rfl⟩
  rw [rTk, if_neg q2] at r2 ⊢
  obtain ⟨n1, n2, n3, n4, n5⟩ := id r2
  refine wp_if_eq (tgt := 34) d_RE_readRepetition_23 (by decide) (fun hc2 => ?_) (fun hc2 => ?_)
  rotate_left
  · exact absurd rfl hc2
  refine wp_aload_n d_RE_readRepetition_34 rfl rfl ?_
  refine wp_bipush (v := 63) d_RE_readRepetition_35 (by rfl) ?_
  refine wp_callV1 xc_RE_46 d_RE_readRepetition_37 (Nat.le_of_ble_eq_true rfl) (by repeat first | assumption | exact xg_eq | exact xn_eq (by first | rfl | omega) | refine xg_ne (by first | assumption | omega | (simp only [xput, xnew]; omega)) ?_ | refine xn_ne (by first | assumption | omega | (simp only [xput, xnew]; omega)) ?_ | exact rfl) (c_RE_take hE r2 (by decide)) (by omega) (fun r hh hp => ?_)
  obtain ⟨rfl, f3, r3⟩ := hp
  have o3 := f3.at (by simp [ha1]) o2
  by_cases q3 : rPk xs s = 63
  · rw [rTk, if_pos q3] at r3 ⊢
    refine wp_if_eq (tgt := 52) d_RE_readRepetition_40 (by decide) (fun hc3 => ?_) (fun hc3 => ?_)
    · exact absurd hc3 (show ¬ (1 : Int32) = 0 by decide)
    · refine wp_aload_n d_RE_readRepetition_43 rfl rfl ?_
      refine wp_iconst (v := 0) d_RE_readRepetition_44 (by rfl) ?_
      refine wp_iconst (v := 1) d_RE_readRepetition_45 (by rfl) ?_
      refine wp_callV2 xc_RE_90 d_RE_readRepetition_46 (Nat.le_of_ble_eq_true rfl) (by repeat first | assumption | exact xg_eq | exact xn_eq (by first | rfl | omega) | refine xg_ne (by first | assumption | omega | (simp only [xput, xnew]; omega)) ?_ | refine xn_ne (by first | assumption | omega | (simp only [xput, xnew]; omega)) ?_ | exact rfl) (c_PI_repeat _ _ o3) (by omega) (fun r hh hp => ?_)
      obtain ⟨rfl, rfl⟩ := hp
      refine wp_goto (tgt := 71) d_RE_readRepetition_49 (by decide) ?_
      refine wp_iconst (v := 1) d_RE_readRepetition_71 (by rfl) ?_
      refine wp_ireturn d_RE_readRepetition_72 rfl (by first | rfl | assumption) ?_
      rw [rRp, if_neg q1, if_neg q2, if_pos q3]
      exact ⟨rfl, (((f1.tr f2).tr f3).sub (by simp)).put (by simp), ⟨xg_ne ha1.symm r3.1, r3.2.1.mv (xg_ne ha2.symm rfl) (xg_ne ha3.symm rfl), r3.2.2⟩, xg_eq, Nat.le_of_ble_eq_true rfl⟩
  rw [rTk, if_neg q3] at r3 ⊢
  obtain ⟨p1, p2, p3, p4, p5⟩ := id r3
  refine wp_if_eq (tgt := 52) d_RE_readRepetition_40 (by decide) (fun hc3 => ?_) (fun hc3 => ?_)
  rotate_left
  · exact absurd rfl hc3
  refine wp_aload_n d_RE_readRepetition_52 rfl rfl ?_
  refine wp_bipush (v := 123) d_RE_readRepetition_53 (by rfl) ?_
  refine wp_callV1 xc_RE_46 d_RE_readRepetition_55 (Nat.le_of_ble_eq_true rfl) (by repeat first | assumption | exact xg_eq | exact xn_eq (by first | rfl | omega) | refine xg_ne (by first | assumption | omega | (simp only [xput, xnew]; omega)) ?_ | refine xn_ne (by first | assumption | omega | (simp only [xput, xnew]; omega)) ?_ | exact rfl) (c_RE_take hE r3 (by decide)) (by omega) (fun r hh hp => ?_)
  obtain ⟨rfl, f4, r4⟩ := hp
  have o4 := f4.at (by simp [ha1]) o3
  by_cases q4 : rPk xs s = 123
  · rw [rTk, if_pos q4] at r4 ⊢
    obtain ⟨t1, t2, t3, t4, t5⟩ := id r4
    refine wp_if_eq (tgt := 69) d_RE_readRepetition_58 (by decide) (fun hc4 => ?_) (fun hc4 => ?_)
    · exact absurd hc4 (show ¬ (1 : Int32) = 0 by decide)
    · refine wp_aload_n d_RE_readRepetition_61 rfl rfl ?_
      refine wp_aload_n d_RE_readRepetition_62 rfl rfl ?_
      refine wp_callV1 xc_RE_94 d_RE_readRepetition_63 (Nat.le_of_ble_eq_true rfl) (by repeat first | assumption | exact xg_eq | exact xn_eq (by first | rfl | omega) | refine xg_ne (by first | assumption | omega | (simp only [xput, xnew]; omega)) ?_ | refine xn_ne (by first | assumption | omega | (simp only [xput, xnew]; omega)) ?_ | exact rfl) (c_RE_readBraces hE r4 o4 ha1 ha2 ha3) (by omega) (fun r hh hp => ?_)
      obtain ⟨rfl, f5, r5, o5, b5⟩ := hp
      refine wp_goto (tgt := 71) d_RE_readRepetition_66 (by decide) ?_
      refine wp_iconst (v := 1) d_RE_readRepetition_71 (by rfl) ?_
      refine wp_ireturn d_RE_readRepetition_72 rfl (by first | rfl | assumption) ?_
      rw [rRp, if_neg q1, if_neg q2, if_neg q3, if_pos q4]
      exact ⟨rfl, ((((f1.tr f2).tr f3).tr f4).sub (by simp)).tr f5, r5, o5, b5⟩
  rw [rTk, if_neg q4] at r4 ⊢
  refine wp_if_eq (tgt := 69) d_RE_readRepetition_58 (by decide) (fun hc4 => ?_) (fun hc4 => ?_)
  rotate_left
  · exact absurd rfl hc4
  refine wp_iconst (v := 0) d_RE_readRepetition_69 (by rfl) ?_
  refine wp_ireturn d_RE_readRepetition_70 rfl (by first | rfl | assumption) ?_
  rw [rRp, if_neg q1, if_neg q2, if_neg q3, if_neg q4]
  exact ⟨rfl, (((f1.tr f2).tr f3).tr f4).sub (by simp), r4, o4, Nat.le_of_ble_eq_true rfl⟩
theorem c_RE_signAtom (hE : xOK E) {i j : Nat} (hi : i ≤ 1000) (hj : j ≤ 1000) : wpc E 2 m_RE_signAtom [.int (nI i), .int (nI j)] h (fun r' h' => r' = some (.ref (xb E + h.1)) ∧ xgr E [] 1 5 h h' ∧ h'.2.2 (xb E + h.1) = some (ob 0 [.int 1, .long (tkS (j + 1 - i) i (0, 0)).1, .long (tkS (j + 1 - i) i (0, 0)).2, .int 0, .null])) := by
  refine wpc_of rfl (Nat.le_of_ble_eq_true rfl) ?_
  refine wp_new xw_RE_116 d_RE_signAtom_0 ?_
  refine wp_dup d_RE_signAtom_3 rfl ?_
  refine wp_iconst (v := 1) d_RE_signAtom_4 (by rfl) ?_
  refine wp_callI1 xc_RE_120 d_RE_signAtom_5 (Nat.le_of_ble_eq_true rfl) (c_AT_init _ (by repeat first | assumption | exact xg_eq | exact xn_eq (by first | rfl | omega) | refine xg_ne (by first | assumption | omega | (simp only [xput, xnew]; omega)) ?_ | refine xn_ne (by first | assumption | omega | (simp only [xput, xnew]; omega)) ?_ | exact rfl)) (by omega) (fun r hh hp => ?_)
  obtain ⟨rfl, rfl⟩ := hp
  refine wp_astore_n d_RE_signAtom_8 rfl (by decide) rfl ?_
  refine wp_aload_n d_RE_signAtom_9 rfl rfl ?_
  refine wp_iload_n d_RE_signAtom_10 rfl rfl ?_
  refine wp_iload_n d_RE_signAtom_11 rfl rfl ?_
  refine wp_callV2 xc_RE_126 d_RE_signAtom_12 (Nat.le_of_ble_eq_true rfl) (by repeat first | assumption | exact xg_eq | exact xn_eq (by first | rfl | omega) | refine xg_ne (by first | assumption | omega | (simp only [xput, xnew]; omega)) ?_ | refine xn_ne (by first | assumption | omega | (simp only [xput, xnew]; omega)) ?_ | exact rfl) (c_AT_takeSigns (i := i) (j := j) hi hj 0 0 (by repeat first | assumption | exact xg_eq | exact xn_eq (by first | rfl | omega) | refine xg_ne (by first | assumption | omega | (simp only [xput, xnew]; omega)) ?_ | refine xn_ne (by first | assumption | omega | (simp only [xput, xnew]; omega)) ?_ | exact rfl)) (by omega) (fun r hh hp => ?_)
  obtain ⟨rfl, rfl⟩ := hp
  refine wp_aload_n d_RE_signAtom_15 rfl rfl ?_
  refine wp_areturn d_RE_signAtom_16 rfl (Or.inl ⟨_, rfl⟩) (Or.inr ⟨_, rfl⟩) ?_
  refine ⟨rfl, ⟨rfl, rfl, fun q q1 _ => (by repeat first | assumption | exact xg_eq | exact xn_eq (by first | rfl | omega) | refine xg_ne (by first | assumption | omega | (simp only [xput, xnew]; omega)) ?_ | refine xn_ne (by first | assumption | omega | (simp only [xput, xnew]; omega)) ?_ | exact rfl)⟩, (by repeat first | assumption | exact xg_eq | exact xn_eq (by first | rfl | omega) | refine xg_ne (by first | assumption | omega | (simp only [xput, xnew]; omega)) ?_ | refine xn_ne (by first | assumption | omega | (simp only [xput, xnew]; omega)) ?_ | exact rfl)⟩
theorem c_RE_readClass (hE : xOK E) (hX : xStr E kA kV) (hr : Rd E h ra sa sr n xs s) (hl1 : ra < xb E + h.1) (hl2 : sa < xb E + h.1) (hl3 : sr < xb E + h.1) :
    wpc E 7 m_RE_readClass [.ref ra] h (fun r' h' => r' = some (.ref (xb E + h.1)) ∧ xgr E [ra] 1 5 h h' ∧ Rd E h' ra sa sr n xs (rCl xs s).2 ∧ h'.2.2 (xb E + h.1) = some (ob 0 [.int 1, .long (rCl xs s).1.1, .long (rCl xs s).1.2, .int 0, .null])) := by
  obtain ⟨k1, k2, k3, k4, k5⟩ := id hr
  have a1 : xb E + h.1 ≠ ra := by omega
  have a2 : xb E + h.1 ≠ sa := by omega
  have a3 : xb E + h.1 ≠ sr := by omega
  generalize ha : xb E + h.1 = a at *
  -- behind the items
  have fin : ∀ (h2 : xH) (o : Bool) (q : (Int64 × Int64) × RS) (i : Int32), xgr E [ra] 1 5 h h2 → Rd E h2 ra sa sr n xs q.2 → h2.2.2 a = some (ob 0 [.int 1, .long q.1.1, .long q.1.2, .int 0, .null]) → (if o then (q.1.1 ^^^ (-1), q.1.2 ^^^ (-1)) else q.1, rEx xs 93 q.2) = rCl xs s →
      wp E 7 m_RE_readClass 50 [(0, .ref ra), (1, .ref a), (2, .int (bI o)), (3, .int i)] [] h2 (fun r' h' => r' = some (.ref a) ∧ xgr E [ra] 1 5 h h' ∧ Rd E h' ra sa sr n xs (rCl xs s).2 ∧ h'.2.2 a = some (ob 0 [.int 1, .long (rCl xs s).1.1, .long (rCl xs s).1.2, .int 0, .null])) := by
    intro h2 o q i g2 r2 o2 hq
    obtain ⟨m1, m2, m3, m4, m5⟩ := id r2
    refine wp_aload_n d_RE_readClass_50 rfl rfl ?_
    refine wp_bipush (v := 93) d_RE_readClass_51 (by rfl) ?_
    refine wp_callV1 xc_RE_107 d_RE_readClass_53 (Nat.le_of_ble_eq_true rfl) (by repeat first | assumption | exact xg_eq | exact xn_eq (by first | rfl | omega) | refine xg_ne (by first | assumption | omega | (simp only [xput, xnew]; omega)) ?_ | refine xn_ne (by first | assumption | omega | (simp only [xput, xnew]; omega)) ?_ | exact rfl) (c_RE_expect hE r2 (by decide)) (by omega) (fun r hh hp => ?_)
    obtain ⟨rfl, f3, r3⟩ := hp
    have o3 := f3.at (by simp [a1]) o2
    have g3 : xgr E [ra] 1 5 h hh := ⟨f3.1.trans g2.1, f3.2.1.trans g2.2.1, fun q q1 q2 => (f3.2.2 q q2).trans (g2.2.2 q q1 q2)⟩
    refine wp_iload_n d_RE_readClass_56 rfl rfl ?_
    refine wp_if_eq (tgt := 64) d_RE_readClass_57 (by decide) (fun hc => ?_) (fun hc => ?_)
    · rw [bI_0] at hc
      refine wp_aload_n d_RE_readClass_64 rfl rfl ?_
      refine wp_areturn d_RE_readClass_65 rfl (Or.inl ⟨_, rfl⟩) (Or.inr ⟨_, rfl⟩) ?_
      rw [hc] at hq
      rw [← hq]
      exact ⟨rfl, g3, r3, o3⟩
    · rw [bI_0] at hc
      refine wp_aload_n d_RE_readClass_60 rfl rfl ?_
      refine wp_callV0 xc_RE_143 d_RE_readClass_61 (Nat.le_of_ble_eq_true rfl) (by repeat first | assumption | exact xg_eq | exact xn_eq (by first | rfl | omega) | refine xg_ne (by first | assumption | omega | (simp only [xput, xnew]; omega)) ?_ | refine xn_ne (by first | assumption | omega | (simp only [xput, xnew]; omega)) ?_ | exact rfl) (c_AT_takeOthers o3) (by omega) (fun r hh hp => ?_)
      obtain ⟨rfl, rfl⟩ := hp
      refine wp_aload_n d_RE_readClass_64 rfl rfl ?_
      refine wp_areturn d_RE_readClass_65 rfl (Or.inl ⟨_, rfl⟩) (Or.inr ⟨_, rfl⟩) ?_
      rw [b_t hc] at hq
      rw [← hq]
      exact ⟨rfl, ⟨g3.1, g3.2.1, fun q q1 q2 => xg_ne (by omega) (g3.2.2 q q1 q2)⟩, ⟨xg_ne a1.symm r3.1, r3.2.1.mv (xg_ne a2.symm rfl) (xg_ne a3.symm rfl), r3.2.2⟩, xg_eq⟩
  -- the items
  have lp : ∀ (k : Nat) (h2 : xH) (o : Bool) (q : (Int64 × Int64) × RS), k ≤ 27 → xgr E [ra] 1 5 h h2 → Rd E h2 ra sa sr n xs q.2 → h2.2.2 a = some (ob 0 [.int 1, .long q.1.1, .long q.1.2, .int 0, .null]) → (if o then ((rIts xs k q).1.1 ^^^ (-1), (rIts xs k q).1.2 ^^^ (-1)) else (rIts xs k q).1, rEx xs 93 (rIts xs k q).2) = rCl xs s →
      wp E 7 m_RE_readClass 23 [(0, .ref ra), (1, .ref a), (2, .int (bI o)), (3, .int (nI (28 - k)))] [] h2 (fun r' h' => r' = some (.ref a) ∧ xgr E [ra] 1 5 h h' ∧ Rd E h' ra sa sr n xs (rCl xs s).2 ∧ h'.2.2 a = some (ob 0 [.int 1, .long (rCl xs s).1.1, .long (rCl xs s).1.2, .int 0, .null])) := by
    intro k
    induction k with
    | zero =>
      intro h2 o q hk g2 r2 o2 hq
      refine wp_iload_n d_RE_readClass_23 rfl rfl ?_
      refine wp_bipush (v := 28) d_RE_readClass_24 (by rfl) ?_
      refine wp_icmp_ge (tgt := 50) d_RE_readClass_26 (by decide) (fun hc => ?_) (fun hc => ?_)
      · exact fin h2 o q _ g2 r2 o2 hq
      · exact absurd (show (28 : Int32) ≤ nI (28 - 0) by decide) hc
    | succ k ih =>
      intro h2 o q hk g2 r2 o2 hq
      obtain ⟨m1, m2, m3, m4, m5⟩ := id r2
      refine wp_iload_n d_RE_readClass_23 rfl rfl ?_
      refine wp_bipush (v := 28) d_RE_readClass_24 (by rfl) ?_
      refine wp_icmp_ge (tgt := 50) d_RE_readClass_26 (by decide) (fun hc => ?_) (fun hc => ?_)
      · exact absurd ((nI_leI (a := 28) (by decide) (by omega)).mp hc) (by omega)
      · refine wp_aload_n d_RE_readClass_29 rfl rfl ?_
        refine wp_callV0 xc_RE_53 d_RE_readClass_30 (Nat.le_of_ble_eq_true rfl) (by repeat first | assumption | exact xg_eq | exact xn_eq (by first | rfl | omega) | refine xg_ne (by first | assumption | omega | (simp only [xput, xnew]; omega)) ?_ | refine xn_ne (by first | assumption | omega | (simp only [xput, xnew]; omega)) ?_ | exact rfl) (c_RE_peek hE r2) (by omega) (fun r hh hp => ?_)
        obtain ⟨rfl, hz0⟩ := hp; have hz0 := hz0.symm; subst hz0
        refine wp_callS1 xc_RE_140 d_RE_readClass_33 (Nat.le_of_ble_eq_true rfl) (c_RE_isItemSign hX _) (by omega) (fun r hh hp => ?_)
        obtain ⟨rfl, hz0⟩ := hp; have hz0 := hz0.symm; subst hz0
        refine wp_if_eq (tgt := 50) d_RE_readClass_36 (by decide) (fun hc2 => ?_) (fun hc2 => ?_)
        · rw [bI_0] at hc2
          rw [rIts, hc2] at hq
          exact fin h2 o q _ g2 r2 o2 hq
        · rw [bI_0] at hc2
          rw [rIts, b_t hc2] at hq
          refine wp_aload_n d_RE_readClass_39 rfl rfl ?_
          refine wp_aload_n d_RE_readClass_40 rfl rfl ?_
          refine wp_callV1 xc_RE_137 d_RE_readClass_41 (Nat.le_of_ble_eq_true rfl) (by repeat first | assumption | exact xg_eq | exact xn_eq (by first | rfl | omega) | refine xg_ne (by first | assumption | omega | (simp only [xput, xnew]; omega)) ?_ | refine xn_ne (by first | assumption | omega | (simp only [xput, xnew]; omega)) ?_ | exact rfl) (c_RE_readItem hE hX r2 _ _ o2 a1 a2 a3) (by omega) (fun r hh hp => ?_)
          obtain ⟨rfl, f3, r3, o3⟩ := hp
          refine wp_iinc d_RE_readClass_44 rfl rfl (by decide) rfl ?_
          refine wp_goto (tgt := 23) d_RE_readClass_47 (by decide) ?_
          rw [show nI (28 - (k + 1)) + Int32.ofInt 1 = nI (28 - k) from by rw [show 28 - k = (28 - (k + 1)) + 1 by omega, nI_succ]; rfl]
          exact ih hh o (rIt xs q.1 q.2) (by omega) ⟨f3.1.trans g2.1, f3.2.1.trans g2.2.1, fun q q1 q2 => (f3.2.2 q (by simp only [List.mem_cons, List.not_mem_nil, or_false, not_or]; exact ⟨fun e => q2 (by simp [e]), by omega⟩)).trans (g2.2.2 q q1 q2)⟩ r3 o3 hq
  subst ha
  refine wpc_of rfl (Nat.le_of_ble_eq_true rfl) ?_
  refine wp_new xw_RE_116 d_RE_readClass_0 ?_
  refine wp_dup d_RE_readClass_3 rfl ?_
  refine wp_iconst (v := 1) d_RE_readClass_4 (by rfl) ?_
  refine wp_callI1 xc_RE_120 d_RE_readClass_5 (Nat.le_of_ble_eq_true rfl) (c_AT_init _ (by repeat first | assumption | exact xg_eq | exact xn_eq (by first | rfl | omega) | refine xg_ne (by first | assumption | omega | (simp only [xput, xnew]; omega)) ?_ | refine xn_ne (by first | assumption | omega | (simp only [xput, xnew]; omega)) ?_ | exact rfl)) (by omega) (fun r hh hp => ?_)
  obtain ⟨rfl, rfl⟩ := hp
  generalize hh2 : xput (xnew E h 5 (ob 0 [.int 0, .long 0, .long 0, .int 0, .null])) (xb E + h.1) (ob 0 [.int 1, .long 0, .long 0, .int 0, .null]) = h2
  have o2 : h2.2.2 (xb E + h.1) = some (ob 0 [.int 1, .long 0, .long 0, .int 0, .null]) := by rw [← hh2]; exact (by repeat first | assumption | exact xg_eq | exact xn_eq (by first | rfl | omega) | refine xg_ne (by first | assumption | omega | (simp only [xput, xnew]; omega)) ?_ | refine xn_ne (by first | assumption | omega | (simp only [xput, xnew]; omega)) ?_ | exact rfl)
  have g2 : xgr E [ra] 1 5 h h2 := by rw [← hh2]; exact ⟨rfl, rfl, fun q q1 _ => (by repeat first | assumption | exact xg_eq | exact xn_eq (by first | rfl | omega) | refine xg_ne (by first | assumption | omega | (simp only [xput, xnew]; omega)) ?_ | refine xn_ne (by first | assumption | omega | (simp only [xput, xnew]; omega)) ?_ | exact rfl)⟩
  have r2 : Rd E h2 ra sa sr n xs s := ⟨(by rw [← hh2]; exact (by repeat first | assumption | exact xg_eq | exact xn_eq (by first | rfl | omega) | refine xg_ne (by first | assumption | omega | (simp only [xput, xnew]; omega)) ?_ | refine xn_ne (by first | assumption | omega | (simp only [xput, xnew]; omega)) ?_ | exact rfl)), k2.mv (by rw [← hh2]; exact (by repeat first | assumption | exact xg_eq | exact xn_eq (by first | rfl | omega) | refine xg_ne (by first | assumption | omega | (simp only [xput, xnew]; omega)) ?_ | refine xn_ne (by first | assumption | omega | (simp only [xput, xnew]; omega)) ?_ | exact rfl)) (by rw [← hh2]; exact (by repeat first | assumption | exact xg_eq | exact xn_eq (by first | rfl | omega) | refine xg_ne (by first | assumption | omega | (simp only [xput, xnew]; omega)) ?_ | refine xn_ne (by first | assumption | omega | (simp only [xput, xnew]; omega)) ?_ | exact rfl)), k3, k4, k5⟩
  have w1 := r2.1
  refine wp_astore_n d_RE_readClass_8 rfl (by decide) rfl ?_
  refine wp_aload_n d_RE_readClass_9 rfl rfl ?_
  refine wp_bipush (v := 94) d_RE_readClass_10 (by rfl) ?_
  refine wp_callV1 xc_RE_46 d_RE_readClass_12 (Nat.le_of_ble_eq_true rfl) (by repeat first | assumption | exact xg_eq | exact xn_eq (by first | rfl | omega) | refine xg_ne (by first | assumption | omega | (simp only [xput, xnew]; omega)) ?_ | refine xn_ne (by first | assumption | omega | (simp only [xput, xnew]; omega)) ?_ | exact rfl) (c_RE_take hE r2 (by decide)) (by omega) (fun r hh hp => ?_)
  obtain ⟨rfl, f3, r3⟩ := hp
  have o3 := f3.at (by simp [a1]) o2
  obtain ⟨m1, m2, m3, m4, m5⟩ := id r3
  refine wp_istore_n d_RE_readClass_15 rfl (by decide) rfl ?_
  refine wp_aload_n d_RE_readClass_16 rfl rfl ?_
  refine wp_aload_n d_RE_readClass_17 rfl rfl ?_
  refine wp_callV1 xc_RE_137 d_RE_readClass_18 (Nat.le_of_ble_eq_true rfl) (by repeat first | assumption | exact xg_eq | exact xn_eq (by first | rfl | omega) | refine xg_ne (by first | assumption | omega | (simp only [xput, xnew]; omega)) ?_ | refine xn_ne (by first | assumption | omega | (simp only [xput, xnew]; omega)) ?_ | exact rfl) (c_RE_readItem hE hX r3 _ _ o3 a1 a2 a3) (by omega) (fun r hh hp => ?_)
  obtain ⟨rfl, f4, r4, o4⟩ := hp
  refine wp_iconst (v := 1) d_RE_readClass_21 (by rfl) ?_
  refine wp_istore_n d_RE_readClass_22 rfl (by decide) rfl ?_
  exact lp 27 hh (rTk xs 94 s).1 (rIt xs (0, 0) (rTk xs 94 s).2) (by decide) ⟨f4.1.trans (f3.1.trans g2.1), f4.2.1.trans (f3.2.1.trans g2.2.1), fun q q1 q2 => (f4.2.2 q (by simp only [List.mem_cons, List.not_mem_nil, or_false, not_or]; exact ⟨fun e => q2 (by simp [e]), by omega⟩)).trans ((f3.2.2 q q2).trans (g2.2.2 q q1 q2))⟩ r4 o4 rfl
end RF
end
section
/-! trees in the heap; how far the reader goes -/
section TP
variable {X : Type} (sX : X → Nat) (eX : X → Bool) (tX : xH → Nat → Nat → Nat → X → Prop)
def tAt (h : xH) (lo hi a : Nat) : At X → Prop
  | .inl q => lo ≤ a ∧ a < hi ∧ q.1 ≤ 3 ∧ h.2.2 a = some (ob 0 [.int (nI q.1), .long q.2.1, .long q.2.2, .int 0, .null])
  | .inr q => lo ≤ a ∧ a < hi ∧ ∃ c, h.2.2 a = some (ob 0 [.int 4, .long 0, .long 0, .int (nI q.1), .ref c]) ∧ tX h lo hi c q.2
/-- a chain of pieces, the last one first -/
def tPl (h : xH) (lo hi : Nat) : Option Nat → List (Pc X) → Prop
  | o, [] => o = none
  | o, p :: ps => ∃ (a c : Nat) (o' : Option Nat), o = some a ∧ lo ≤ a ∧ a < hi ∧ h.2.2 a = some (ob 4 [.ref c, va_rf o', .int (nI p.2.1), .int (nI p.2.2.1), .int (bI p.2.2.2.1), .int (bI p.2.2.2.2)]) ∧ tAt tX h lo hi c p.1 ∧ p.2.1 ≤ p.2.2.1 ∧ tPl h lo hi o' ps
/-- a row at a, before it b -/
def tRw (h : xH) (lo hi a : Nat) (b : Option Nat) (ps : List (Pc X)) : Prop := lo ≤ a ∧ a < hi ∧ ∃ lp : Option Nat, h.2.2 a = some (ob 7 [va_rf b, va_rf lp, .int (nI (rwS sX ps)), .int (bI (rwE eX ps))]) ∧ tPl tX h lo hi lp ps.reverse
def tRl (h : xH) (lo hi : Nat) : Option Nat → Cc X → Prop
  | o, [] => o = none
  | o, r :: rs => ∃ (a : Nat) (o' : Option Nat), o = some a ∧ tRw sX eX tX h lo hi a o' r ∧ tRl h lo hi o' rs
def tCc (h : xH) (lo hi c : Nat) (rs : Cc X) : Prop := lo ≤ c ∧ c < hi ∧ ∃ lr : Option Nat, h.2.2 c = some (ob 2 [va_rf lr, .int (nI (ccS sX rs)), .int (bI (ccE eX rs))]) ∧ tRl sX eX tX h lo hi lr rs.reverse
variable {sX eX tX}
/-- a tree stays where its cells stay -/
def tMv (tX : xH → Nat → Nat → Nat → X → Prop) : Prop := ∀ (h h' : xH) (lo hi lo' hi' c : Nat) (x : X), (∀ q, lo ≤ q → q < hi → h'.2.2 q = h.2.2 q) → lo' ≤ lo → hi ≤ hi' → tX h lo hi c x → tX h' lo' hi' c x
theorem tAt.mv (hm : tMv tX) {h h' : xH} {lo hi lo' hi' a : Nat} {x : At X} (hq : ∀ q, lo ≤ q → q < hi → h'.2.2 q = h.2.2 q) (h1 : lo' ≤ lo) (h2 : hi ≤ hi') (ht : tAt tX h lo hi a x) : tAt tX h' lo' hi' a x := by
  cases x with
  | inl q =>
    obtain ⟨q1, q2, q3, q4⟩ := ht
    exact ⟨by omega, by omega, q3, (hq a q1 q2).trans q4⟩
  | inr q =>
    obtain ⟨q1, q2, c, q3, q4⟩ := ht
    exact ⟨by omega, by omega, c, (hq a q1 q2).trans q3, hm _ _ _ _ _ _ _ _ hq h1 h2 q4⟩
theorem tPl.mv (hm : tMv tX) {h h' : xH} {lo hi lo' hi' : Nat} (hq : ∀ q, lo ≤ q → q < hi → h'.2.2 q = h.2.2 q) (h1 : lo' ≤ lo) (h2 : hi ≤ hi') : ∀ {ps : List (Pc X)} {o : Option Nat}, tPl tX h lo hi o ps → tPl tX h' lo' hi' o ps
  | [], _, ht => ht
  | p :: ps, o, ht => by
    obtain ⟨a, c, o', q1, q2, q3, q4, q5, q6, q7⟩ := ht
    exact ⟨a, c, o', q1, by omega, by omega, (hq a q2 q3).trans q4, q5.mv hm hq h1 h2, q6, tPl.mv hm hq h1 h2 q7⟩
theorem tRw.mv (hm : tMv tX) {h h' : xH} {lo hi lo' hi' a : Nat} {b : Option Nat} {ps : List (Pc X)} (hq : ∀ q, lo ≤ q → q < hi → h'.2.2 q = h.2.2 q) (h1 : lo' ≤ lo) (h2 : hi ≤ hi') (ht : tRw sX eX tX h lo hi a b ps) : tRw sX eX tX h' lo' hi' a b ps := by
  obtain ⟨q1, q2, lp, q3, q4⟩ := ht
  exact ⟨by omega, by omega, lp, (hq a q1 q2).trans q3, q4.mv hm hq h1 h2⟩
theorem tRl.mv (hm : tMv tX) {h h' : xH} {lo hi lo' hi' : Nat} (hq : ∀ q, lo ≤ q → q < hi → h'.2.2 q = h.2.2 q) (h1 : lo' ≤ lo) (h2 : hi ≤ hi') : ∀ {rs : Cc X} {o : Option Nat}, tRl sX eX tX h lo hi o rs → tRl sX eX tX h' lo' hi' o rs
  | [], _, ht => ht
  | r :: rs, o, ht => by
    obtain ⟨a, o', q1, q2, q3⟩ := ht
    exact ⟨a, o', q1, q2.mv hm hq h1 h2, tRl.mv hm hq h1 h2 q3⟩
theorem tCc.mv (hm : tMv tX) : tMv (tCc sX eX tX) := fun h h' lo hi lo' hi' c rs hq h1 h2 ht => by
  obtain ⟨q1, q2, lr, q3, q4⟩ := ht
  exact ⟨by omega, by omega, lr, (hq c q1 q2).trans q3, q4.mv hm hq h1 h2⟩
/-- what a choice answers of itself -/
def tCell (sX : X → Nat) (eX : X → Bool) (tX : xH → Nat → Nat → Nat → X → Prop) : Prop := ∀ (h : xH) (lo hi c : Nat) (x : X), tX h lo hi c x → ∃ v, h.2.2 c = some (ob 2 [v, .int (nI (sX x)), .int (bI (eX x))])
theorem tCc.cell : tCell (ccS sX) (ccE eX) (tCc sX eX tX) := fun h lo hi c rs ht => by
  obtain ⟨q1, q2, lr, q3, q4⟩ := ht
  exact ⟨_, q3⟩
theorem tAt.q {E : xE} (hc : tCell sX eX tX) {h : xH} {lo hi a : Nat} {x : At X} (ht : tAt tX h lo hi a x) : atQ E h a (nI (atS sX x)) (atE eX x) := by
  cases x with
  | inl q =>
    obtain ⟨q1, q2, q3, q4⟩ := ht
    refine Or.inl ⟨_, _, _, _, q4, rfl, ?_⟩
    show (!decide (q.1 = 1)) = !decide (nI q.1 = 1)
    congr 1
    exact decide_eq_decide.mpr (nI_eq (b := 1) (by omega) (by decide)).symm
  | inr q =>
    obtain ⟨q1, q2, c, q3, q4⟩ := ht
    obtain ⟨v, hv⟩ := hc _ _ _ _ _ q4
    exact Or.inr ⟨_, _, _, _, c, v, _, q3, hv, by show nI (sX q.2 + 2) = _; rw [← nI_add]; rfl⟩
end TP
def tT : (n : Nat) → xH → Nat → Nat → Nat → Ch n → Prop
  | 0 => fun _ _ _ _ _ => False
  | n + 1 => tCc (szT n) (emT n) (tT n)
theorem tT.mv : ∀ n, tMv (tT n)
  | 0 => fun _ _ _ _ _ _ _ _ _ _ _ h => h.elim
  | n + 1 => tCc.mv (tT.mv n)
theorem tT.cell : ∀ n, tCell (szT n) (emT n) (tT n)
  | 0 => fun _ _ _ _ _ h => h.elim
  | n + 1 => tCc.cell
-- how far
def sLe (s s' : RS) : Prop := s.1 ≤ s'.1 ∧ s'.2.1 = s.2.1
theorem sLe.rf {s : RS} : sLe s s := ⟨Nat.le_refl _, rfl⟩
theorem sLe.tr {a b c : RS} (h1 : sLe a b) (h2 : sLe b c) : sLe a c := ⟨Nat.le_trans h1.1 h2.1, h2.2.trans h1.2⟩
theorem sLe.inc {s : RS} : sLe s (rInc s) := ⟨Nat.le_succ _, rfl⟩
theorem sLe.stk {s : RS} : sLe s (rStk s) := ⟨Nat.le_refl _, rfl⟩
section HF
variable (xs : List Int32)
theorem rTk_le (c : Int32) (s : RS) : sLe s (rTk xs c s).2 := by
  rw [rTk]; split
  · exact sLe.inc
  · exact sLe.rf
theorem rEx_le (c : Int32) (s : RS) : sLe s (rEx xs c s) := by
  rw [rEx]; split
  · exact sLe.inc
  · exact sLe.stk
theorem rIs_le (l : Nat) (s : RS) : sLe s (rIs xs l s).2 := by
  rw [rIs]; split
  · exact sLe.stk
  · exact sLe.inc
theorem rDg_le (l : Nat) (s : RS) : sLe s (rDg xs l s).2 := by
  rw [rDg]; split
  · exact sLe.stk
  · exact sLe.inc
theorem rIt_le (b : Int64 × Int64) (s : RS) : sLe s (rIt xs b s).2 := by
  simp only [rIt]
  refine ((rIs_le xs 32 s).tr (rTk_le xs 45 _)).tr ?_
  split
  · exact rIs_le xs _ _
  · exact sLe.rf
theorem rIts_le : ∀ (k : Nat) (q : (Int64 × Int64) × RS), sLe q.2 (rIts xs k q).2
  | 0, _ => sLe.rf
  | k + 1, q => by
    rw [rIts]; split
    · exact (rIt_le xs _ _).tr (rIts_le k _)
    · exact sLe.rf
theorem rCl_le (s : RS) : sLe s (rCl xs s).2 := by
  simp only [rCl]
  exact (((rTk_le xs 94 s).tr (rIt_le xs _ _)).tr (rIts_le xs 27 _)).tr (rEx_le xs 93 _)
theorem rBr_le (s : RS) : sLe s (rBr xs s).2 := by
  simp only [rBr]
  refine (((rDg_le xs 0 s).tr (rTk_le xs 44 _)).tr ?_).tr (rEx_le xs 125 _)
  split
  · exact rDg_le xs _ _
  · show sLe _ (if _ then _ else _)
    split
    · exact sLe.stk
    · exact sLe.rf
theorem rRp_le (s : RS) : sLe s (rRp xs s).2.2 := by
  rw [rRp]; split
  · exact sLe.inc
  · split
    · exact sLe.inc
    · split
      · exact sLe.inc
      · split
        · exact sLe.inc.tr (rBr_le xs _)
        · exact sLe.rf
end HF
end
section
/-! PatternSearch$Reader: the calls that go in circles, over a choice's reader given -/
def xgw (E : xE) (ra k : Nat) (h h' : xH) : Prop := h.1 ≤ h'.1 ∧ h'.1 ≤ h.1 + k ∧ h.2.1 ≤ h'.2.1 ∧ h'.2.1 + 6 * h.1 ≤ h.2.1 + 6 * h'.1 ∧ ∀ q : Nat, q < xb E + h.1 → q ≠ ra → h'.2.2 q = h.2.2 q
theorem xgw.rf {E : xE} {ra : Nat} {h : xH} : xgw E ra 0 h h := ⟨Nat.le_refl _, Nat.le_refl _, Nat.le_refl _, Nat.le_refl _, fun _ _ _ => rfl⟩
theorem xgw.tr {E : xE} {ra k1 k2 : Nat} {h h1 h2 : xH} (a : xgw E ra k1 h h1) (b : xgw E ra k2 h1 h2) : xgw E ra (k1 + k2) h h2 := by
  obtain ⟨a1, a2, a3, a4, a5⟩ := a
  obtain ⟨b1, b2, b3, b4, b5⟩ := b
  exact ⟨by omega, by omega, by omega, by omega, fun q q1 q2 => (b5 q (by omega) q2).trans (a5 q q1 q2)⟩
theorem xgw.le {E : xE} {ra k1 k2 : Nat} {h h1 : xH} (a : xgw E ra k1 h h1) (hk : k1 ≤ k2) : xgw E ra k2 h h1 := ⟨a.1, Nat.le_trans a.2.1 (by omega), a.2.2⟩
/-- changes of the reader's cell and of cells that are newer than h0 -/
theorem xgw.fr {E : xE} {ra k : Nat} {h0 h h1 : xH} {S : List Nat} (a : xgw E ra k h0 h) (b : xfr S h h1) (hS : ∀ q ∈ S, q = ra ∨ xb E + h0.1 ≤ q) : xgw E ra k h0 h1 := by
  obtain ⟨a1, a2, a3, a4, a5⟩ := a
  obtain ⟨b1, b2, b3⟩ := b
  refine ⟨by omega, by omega, by omega, by omega, fun q q1 q2 => (b3 q (fun z => ?_)).trans (a5 q q1 q2)⟩
  rcases hS q z with e | e
  · exact q2 e
  · omega
theorem xgw.put {E : xE} {ra k : Nat} {h0 h : xH} {b : Nat} {e : va_E} (a : xgw E ra k h0 h) (hb : b = ra ∨ xb E + h0.1 ≤ b) : xgw E ra k h0 (xput h b e) :=
  a.fr (S := [b]) (xfr.rf.put (by simp)) (fun q hq => by rw [List.mem_singleton.mp hq]; exact hb)
theorem xgw.new {E : xE} {ra k n : Nat} {h0 h : xH} {e : va_E} (a : xgw E ra k h0 h) (hn : n ≤ 6) : xgw E ra (k + 1) h0 (xnew E h n e) := by
  obtain ⟨a1, a2, a3, a4, a5⟩ := a
  refine ⟨by show h0.1 ≤ h.1 + 1; omega, by show h.1 + 1 ≤ _; omega, by show h0.2.1 ≤ h.2.1 + n; omega, by show h.2.1 + n + _ ≤ _ + 6 * (h.1 + 1); omega, fun q q1 q2 => xn_ne (by omega) (a5 q q1 q2)⟩
theorem Rd.gw {E : xE} {h h' : xH} {ra sa sr n : Nat} {xs : List Int32} {s s' : RS} (hr : Rd E h ra sa sr n xs s) (h2 : sa < xb E + h.1) (h3 : sr < xb E + h.1) (q : ∀ q : Nat, q < xb E + h.1 → q ≠ ra → h'.2.2 q = h.2.2 q) (h1 : h'.2.2 ra = some (ob 6 [.ref sa, .int (nI s'.1), .int (nI s'.2.1), .int (bI s'.2.2.1), .int (bI s'.2.2.2)])) (hl : s'.1 ≤ xs.length) : Rd E h' ra sa sr n xs s' :=
  ⟨h1, hr.2.1.mv (q sa h2 hr.2.2.1.symm) (q sr h3 hr.2.2.2.1.symm), hr.2.2.1, hr.2.2.2.1, hl⟩
theorem lk_def0 : ∀ k : Nat, k < 127 → (k = 36 ∨ k = 40 ∨ k = 46 ∨ k = 91 ∨ k = 94 ∨ Op.lookupswitch.offset [(36, 71), (40, 52), (46, 80), (91, 57), (94, 62)] 88 (k : Int) = 88) := by decide
theorem lk_def (k : Nat) (h : k < 127) (h1 : k ≠ 36) (h2 : k ≠ 40) (h3 : k ≠ 46) (h4 : k ≠ 91) (h5 : k ≠ 94) : Op.lookupswitch.offset [(36, 71), (40, 52), (46, 80), (91, 57), (94, 62)] 88 (k : Int) = 88 := by
  rcases lk_def0 k h with q | q | q | q | q | q
  · exact absurd q h1
  · exact absurd q h2
  · exact absurd q h3
  · exact absurd q h4
  · exact absurd q h5
  · exact q
section RG
variable {E : xE} {kA kV : Nat → Nat} {ra sa sr n : Nat} {xs : List Int32} {X : Type} {sX : X → Nat} {eX : X → Bool} {tX : xH → Nat → Nat → Nat → X → Prop} {inn : RS → X × RS} {N D : Nat}
/-- what is taken of the reader of a choice -/
def rIH (E : xE) (ra sa sr n : Nat) (xs : List Int32) (tX : xH → Nat → Nat → Nat → X → Prop) (inn : RS → X × RS) (N D : Nat) : Prop :=
  ∀ (h : xH) (s : RS), Rd E h ra sa sr n xs s → ra < xb E + h.1 → sa < xb E + h.1 → sr < xb E + h.1 → s.2.1 ≤ 6 → 7 ≤ N + s.2.1 →
    wpc E D m_RE_readChoice [.ref ra] h (fun r' h' => r' = some (.ref (xb E + h.1)) ∧ xgw E ra (2 + 4 * ((inn s).2.1 - s.1)) h h' ∧ Rd E h' ra sa sr n xs (inn s).2 ∧ s.1 ≤ (inn s).2.1 ∧ s.2.1 ≤ (inn s).2.2.1 ∧ (inn s).2.2.1 ≤ 6 ∧ tX h' (xb E + h.1) (xb E + h'.1) (xb E + h.1) (inn s).1)
variable (hE : xOK E) (hX : xStr E kA kV) (hm : tMv tX) (hcell : tCell sX eX tX) (ih : rIH E ra sa sr n xs tX inn N D) (hD : 8 ≤ D)
theorem c_RE_readGroup (hE : xOK E) (hm : tMv tX) (ih : rIH E ra sa sr n xs tX inn N D) (hD : 8 ≤ D) {h : xH} {s : RS} (hr : Rd E h ra sa sr n xs s) (l1 : ra < xb E + h.1) (l2 : sa < xb E + h.1) (l3 : sr < xb E + h.1) (hg : s.2.1 < 6) (hN : 7 ≤ N + 1 + s.2.1) :
    wpc E (D + 1) m_RE_readGroup [.ref ra] h (fun r' h' => r' = some (.ref (xb E + h.1)) ∧ xgw E ra (3 + 4 * ((inn (s.1, s.2.1 + 1, s.2.2)).2.1 - s.1)) h h' ∧ Rd E h' ra sa sr n xs (rEx xs 41 (inn (s.1, s.2.1 + 1, s.2.2)).2) ∧ s.1 ≤ (inn (s.1, s.2.1 + 1, s.2.2)).2.1 ∧ s.2.1 ≤ (inn (s.1, s.2.1 + 1, s.2.2)).2.2.1 ∧ (inn (s.1, s.2.1 + 1, s.2.2)).2.2.1 ≤ 6 ∧ tAt tX h' (xb E + h.1) (xb E + h'.1) (xb E + h.1) (.inr (s.2.1 + 1, (inn (s.1, s.2.1 + 1, s.2.2)).1))) := by
  obtain ⟨k1, k2, k3, k4, k5⟩ := id hr
  refine wpc_of rfl (Nat.le_of_ble_eq_true rfl) ?_
  refine wp_aload_n d_RE_readGroup_0 rfl rfl ?_
  refine wp_dup d_RE_readGroup_1 rfl ?_
  refine wp_get xf_RE_32 d_RE_readGroup_2 (by repeat first | assumption | exact xg_eq | exact xn_eq (by first | rfl | omega) | refine xg_ne (by first | assumption | omega | (simp only [xput, xnew]; omega)) ?_ | refine xn_ne (by first | assumption | omega | (simp only [xput, xnew]; omega)) ?_ | exact rfl) (by rfl) ?_
  refine wp_iconst (v := 1) d_RE_readGroup_5 (by rfl) ?_
  refine wp_iadd d_RE_readGroup_6 ?_
  refine wp_put xf_RE_32 xg_RE (Or.inl rfl) d_RE_readGroup_7 (by repeat first | assumption | exact xg_eq | exact xn_eq (by first | rfl | omega) | refine xg_ne (by first | assumption | omega | (simp only [xput, xnew]; omega)) ?_ | refine xn_ne (by first | assumption | omega | (simp only [xput, xnew]; omega)) ?_ | exact rfl) (by first | rfl | assumption) (by first | rfl | assumption) (Nat.le_of_ble_eq_true rfl) ?_
  refine wp_aload_n d_RE_readGroup_10 rfl rfl ?_
  refine wp_get xf_RE_32 d_RE_readGroup_11 (by repeat first | assumption | exact xg_eq | exact xn_eq (by first | rfl | omega) | refine xg_ne (by first | assumption | omega | (simp only [xput, xnew]; omega)) ?_ | refine xn_ne (by first | assumption | omega | (simp only [xput, xnew]; omega)) ?_ | exact rfl) (by rfl) ?_
  refine wp_istore_n d_RE_readGroup_14 rfl (by decide) rfl ?_
  refine wp_new xw_RE_116 d_RE_readGroup_15 ?_
  refine wp_dup d_RE_readGroup_18 rfl ?_
  refine wp_iconst (v := 4) d_RE_readGroup_19 (by rfl) ?_
  refine wp_callI1 xc_RE_120 d_RE_readGroup_20 (Nat.le_of_ble_eq_true rfl) (c_AT_init _ (by repeat first | assumption | exact xg_eq | exact xn_eq (by first | rfl | omega) | refine xg_ne (by first | assumption | omega | (simp only [xput, xnew]; omega)) ?_ | refine xn_ne (by first | assumption | omega | (simp only [xput, xnew]; omega)) ?_ | exact rfl)) (by omega) (fun r hh hp => ?_)
  obtain ⟨rfl, rfl⟩ := hp
  rw [show nI s.2.1 + 1 = nI (s.2.1 + 1) from (nI_succ _).symm]
  refine wp_astore_n d_RE_readGroup_23 rfl (by decide) rfl ?_
  refine wp_aload_n d_RE_readGroup_24 rfl rfl ?_
  refine wp_iload_n d_RE_readGroup_25 rfl rfl ?_
  refine wp_aload_n d_RE_readGroup_26 rfl rfl ?_
  generalize hh2 : xput (xnew E (xput h ra _) 5 _) _ _ = h2
  have e0 : h2.1 = h.1 + 1 := by rw [← hh2]; rfl
  have g2 : xgw E ra 1 h h2 := by rw [← hh2]; exact (((xgw.rf (ra := ra)).put (Or.inl rfl)).new (by decide)).put (Or.inr (Nat.le_refl _))
  have o2 : h2.2.2 (xb E + h.1) = some (ob 0 [.int 4, .long 0, .long 0, .int 0, .null]) := by rw [← hh2]; exact (by repeat first | assumption | exact xg_eq | exact xn_eq (by first | rfl | omega) | refine xg_ne (by first | assumption | omega | (simp only [xput, xnew]; omega)) ?_ | refine xn_ne (by first | assumption | omega | (simp only [xput, xnew]; omega)) ?_ | exact rfl)
  have r2 : Rd E h2 ra sa sr n xs (s.1, s.2.1 + 1, s.2.2) := hr.gw l2 l3 g2.2.2.2.2 (by rw [← hh2]; exact (by repeat first | assumption | exact xg_eq | exact xn_eq (by first | rfl | omega) | refine xg_ne (by first | assumption | omega | (simp only [xput, xnew]; omega)) ?_ | refine xn_ne (by first | assumption | omega | (simp only [xput, xnew]; omega)) ?_ | exact rfl)) k5
  clear hh2
  have w1 := r2.1
  refine wp_callV0 xc_RE_129 d_RE_readGroup_27 (Nat.le_of_ble_eq_true rfl) (by repeat first | assumption | exact xg_eq | exact xn_eq (by first | rfl | omega) | refine xg_ne (by first | assumption | omega | (simp only [xput, xnew]; omega)) ?_ | refine xn_ne (by first | assumption | omega | (simp only [xput, xnew]; omega)) ?_ | exact rfl) (ih h2 _ r2 (by omega) (by omega) (by omega) (by show s.2.1 + 1 ≤ 6; omega) (by show 7 ≤ N + (s.2.1 + 1); omega)) (by omega) (fun r hh hp => ?_)
  obtain ⟨rfl, g3, r3, p1, p2, p3, t3⟩ := hp
  have o3 : hh.2.2 (xb E + h.1) = some (ob 0 [.int 4, .long 0, .long 0, .int 0, .null]) := (g3.2.2.2.2 _ (by omega) (by omega)).trans o2
  refine wp_callV2 xc_RE_133 d_RE_readGroup_30 (Nat.le_of_ble_eq_true rfl) (by repeat first | assumption | exact xg_eq | exact xn_eq (by first | rfl | omega) | refine xg_ne (by first | assumption | omega | (simp only [xput, xnew]; omega)) ?_ | refine xn_ne (by first | assumption | omega | (simp only [xput, xnew]; omega)) ?_ | exact rfl) (c_AT_enclose o3) (by omega) (fun r hh hp => ?_)
  obtain ⟨rfl, rfl⟩ := hp
  have r4 : Rd E (xput hh (xb E + h.1) (ob 0 [.int 4, .long 0, .long 0, .int (nI (s.2.1 + 1)), .ref (xb E + h2.1)])) ra sa sr n xs (inn (s.1, s.2.1 + 1, s.2.2)).2 := ⟨xg_ne (by omega) r3.1, r3.2.1.mv (xg_ne (by omega) rfl) (xg_ne (by omega) rfl), r3.2.2⟩
  have w4 := r4.1
  refine wp_aload_n d_RE_readGroup_33 rfl rfl ?_
  refine wp_bipush (v := 41) d_RE_readGroup_34 (by rfl) ?_
  refine wp_callV1 xc_RE_107 d_RE_readGroup_36 (Nat.le_of_ble_eq_true rfl) (by repeat first | assumption | exact xg_eq | exact xn_eq (by first | rfl | omega) | refine xg_ne (by first | assumption | omega | (simp only [xput, xnew]; omega)) ?_ | refine xn_ne (by first | assumption | omega | (simp only [xput, xnew]; omega)) ?_ | exact rfl) (c_RE_expect hE r4 (by decide)) (by omega) (fun r hh hp => ?_)
  obtain ⟨rfl, f5, r5⟩ := hp
  rename_i h4
  refine wp_aload_n d_RE_readGroup_39 rfl rfl ?_
  refine wp_areturn d_RE_readGroup_40 rfl (Or.inl ⟨_, rfl⟩) (Or.inr ⟨_, rfl⟩) ?_
  have o5 : hh.2.2 (xb E + h.1) = some (ob 0 [.int 4, .long 0, .long 0, .int (nI (s.2.1 + 1)), .ref (xb E + h2.1)]) := f5.at (by simp; omega) xg_eq
  have e5 : hh.1 = h4.1 := f5.1
  have q5 : ∀ q, xb E + h2.1 ≤ q → hh.2.2 q = h4.2.2 q := fun q hq => f5.at (by simp; omega) (xg_ne (by omega) rfl)
  refine ⟨rfl, (((g2.tr g3).put (Or.inr (Nat.le_refl _))).fr f5 (by simp)).le (by show 1 + (2 + 4 * ((inn (s.1, s.2.1 + 1, s.2.2)).2.1 - s.1)) ≤ _; omega), r5, p1, Nat.le_of_succ_le p2, p3, Nat.le_refl _, by have := g3.1; omega, xb E + h2.1, o5, ?_⟩
  exact hm _ _ _ _ _ _ _ _ (fun q q1 q2 => q5 q q1) (by omega) (by omega) t3
theorem c_RE_readAtom (hE : xOK E) (hX : xStr E kA kV) (hm : tMv tX) (ih : rIH E ra sa sr n xs tX inn N D) (hD : 8 ≤ D) {h : xH} {s : RS} (hr : Rd E h ra sa sr n xs s) (l1 : ra < xb E + h.1) (l2 : sa < xb E + h.1) (l3 : sr < xb E + h.1) (hg : s.2.1 ≤ 6) (hN : 7 ≤ N + 1 + s.2.1) (hb : rBg s.2.1 (rPk xs s) = true) :
    wpc E (D + 2) m_RE_readAtom [.ref ra] h (fun r' h' => r' = some (.ref (xb E + h.1)) ∧ xgw E ra (4 * ((rAt xs inn s).2.1 - s.1) - 1) h h' ∧ Rd E h' ra sa sr n xs (rAt xs inn s).2 ∧ s.1 < (rAt xs inn s).2.1 ∧ s.2.1 ≤ (rAt xs inn s).2.2.1 ∧ (rAt xs inn s).2.2.1 ≤ 6 ∧ tAt tX h' (xb E + h.1) (xb E + h'.1) (xb E + h.1) (rAt xs inn s).1) := by
  obtain ⟨k1, k2, k3, k4, k5⟩ := id hr
  have hne : rPk xs s ≠ -2 := fun q => by rw [q] at hb; exact absurd hb (by rw [rBg, if_neg (by decide)]; decide)
  have hlt := rPk_lt hne
  refine wpc_of rfl (Nat.le_of_ble_eq_true rfl) ?_
  refine wp_aload_n d_RE_readAtom_0 rfl rfl ?_
  refine wp_callV0 xc_RE_53 d_RE_readAtom_1 (Nat.le_of_ble_eq_true rfl) (by repeat first | assumption | exact xg_eq | exact xn_eq (by first | rfl | omega) | refine xg_ne (by first | assumption | omega | (simp only [xput, xnew]; omega)) ?_ | refine xn_ne (by first | assumption | omega | (simp only [xput, xnew]; omega)) ?_ | exact rfl) (c_RE_peek hE hr) (by omega) (fun r hh hp => ?_)
  obtain ⟨rfl, hz0⟩ := hp; have hz0 := hz0.symm; subst hz0
  refine wp_istore_n d_RE_readAtom_4 rfl (by decide) rfl ?_
  refine wp_aload_n d_RE_readAtom_5 rfl rfl ?_
  refine wp_dup d_RE_readAtom_6 rfl ?_
  refine wp_get xf_RE_19 d_RE_readAtom_7 (by repeat first | assumption | exact xg_eq | exact xn_eq (by first | rfl | omega) | refine xg_ne (by first | assumption | omega | (simp only [xput, xnew]; omega)) ?_ | refine xn_ne (by first | assumption | omega | (simp only [xput, xnew]; omega)) ?_ | exact rfl) (by rfl) ?_
  refine wp_iconst (v := 1) d_RE_readAtom_10 (by rfl) ?_
  refine wp_iadd d_RE_readAtom_11 ?_
  refine wp_put xf_RE_19 xg_RE (Or.inl rfl) d_RE_readAtom_12 (by repeat first | assumption | exact xg_eq | exact xn_eq (by first | rfl | omega) | refine xg_ne (by first | assumption | omega | (simp only [xput, xnew]; omega)) ?_ | refine xn_ne (by first | assumption | omega | (simp only [xput, xnew]; omega)) ?_ | exact rfl) (by first | rfl | assumption) (by first | rfl | assumption) (Nat.le_of_ble_eq_true rfl) ?_
  refine wp_iload_n d_RE_readAtom_15 rfl rfl ?_
  generalize hh2 : xput h ra _ = h2
  have e0 : h2.1 = h.1 := by rw [← hh2]; rfl
  have g2 : xgw E ra 0 h h2 := by rw [← hh2]; exact (xgw.rf (ra := ra)).put (Or.inl rfl)
  have r2 : Rd E h2 ra sa sr n xs (rInc s) := hr.gw l2 l3 g2.2.2.2.2 (by rw [← hh2, rInc, nI_succ]; exact (by repeat first | assumption | exact xg_eq | exact xn_eq (by first | rfl | omega) | refine xg_ne (by first | assumption | omega | (simp only [xput, xnew]; omega)) ?_ | refine xn_ne (by first | assumption | omega | (simp only [xput, xnew]; omega)) ?_ | exact rfl)) hlt
  clear hh2
  have w1 := r2.1
  -- a leaf that a call made
  have leaf : ∀ (x : Lf) (s' : RS) (h' : xH), rAt xs inn s = (.inl x, s') → x.1 ≤ 3 → sLe (rInc s) s' → xgr E [ra] 1 5 h2 h' → Rd E h' ra sa sr n xs s' → h'.2.2 (xb E + h.1) = some (ob 0 [.int (nI x.1), .long x.2.1, .long x.2.2, .int 0, .null]) →
      xgw E ra (4 * ((rAt xs inn s).2.1 - s.1) - 1) h h' ∧ Rd E h' ra sa sr n xs (rAt xs inn s).2 ∧ s.1 < (rAt xs inn s).2.1 ∧ s.2.1 ≤ (rAt xs inn s).2.2.1 ∧ (rAt xs inn s).2.2.1 ≤ 6 ∧ tAt tX h' (xb E + h.1) (xb E + h'.1) (xb E + h.1) (rAt xs inn s).1 := by
    intro x s' h' he hx hs gg rr oo
    rw [he]
    obtain ⟨a1, a2, a3⟩ := gg
    obtain ⟨b1, b2, b3, b4, b5⟩ := g2
    have c1 : s.1 + 1 ≤ s'.1 := hs.1
    have c2 : s'.2.1 = s.2.1 := hs.2
    refine ⟨⟨by omega, by show h'.1 ≤ h.1 + (4 * (s'.1 - s.1) - 1); omega, by omega, by omega, fun q q1 q2 => (a3 q (by omega) (by simpa using q2)).trans (b5 q q1 q2)⟩, rr, c1, by show s.2.1 ≤ s'.2.1; omega, by show s'.2.1 ≤ 6; omega, Nat.le_refl _, by omega, hx, oo⟩
  by_cases q40 : rPk xs s = 40
  · rw [q40]
    refine wp_lookup (off := 52) (tgt := 68) d_RE_readAtom_16 (by decide) (by decide) (by decide) ?_
    have hg6 : s.2.1 < 6 := by rw [rBg, if_pos q40] at hb; exact of_decide_eq_true hb
    refine wp_aload_n d_RE_readAtom_68 rfl rfl ?_
    refine wp_callV0 xc_RE_110 d_RE_readAtom_69 (Nat.le_of_ble_eq_true rfl) (by repeat first | assumption | exact xg_eq | exact xn_eq (by first | rfl | omega) | refine xg_ne (by first | assumption | omega | (simp only [xput, xnew]; omega)) ?_ | refine xn_ne (by first | assumption | omega | (simp only [xput, xnew]; omega)) ?_ | exact rfl) (c_RE_readGroup hE hm ih hD r2 (by omega) (by omega) (by omega) hg6 hN) (by omega) (fun r hh hp => ?_)
    obtain ⟨rfl, g3, r3, p1, p2, p3, t3⟩ := hp
    refine wp_areturn d_RE_readAtom_72 rfl (Or.inl ⟨_, rfl⟩) (Or.inr ⟨_, rfl⟩) ?_
    have he : rAt xs inn s = (.inr (s.2.1 + 1, (inn (s.1 + 1, s.2.1 + 1, s.2.2)).1), rEx xs 41 (inn (s.1 + 1, s.2.1 + 1, s.2.2)).2) := by rw [rAt, if_pos q40]; rfl
    have hx := rEx_le xs 41 (inn (s.1 + 1, s.2.1 + 1, s.2.2)).2
    have p1' : s.1 + 1 ≤ (inn (s.1 + 1, s.2.1 + 1, s.2.2)).2.1 := p1
    have p2' : s.2.1 ≤ (inn (s.1 + 1, s.2.1 + 1, s.2.2)).2.2.1 := p2
    rw [he, e0]
    refine ⟨rfl, ((g2.tr g3).le ?_), r3, ?_, ?_, ?_, ?_⟩
    · show 0 + (3 + 4 * ((inn (s.1 + 1, s.2.1 + 1, s.2.2)).2.1 - (s.1 + 1))) ≤ 4 * ((rEx xs 41 (inn (s.1 + 1, s.2.1 + 1, s.2.2)).2).1 - s.1) - 1
      have := hx.1
      omega
    · exact Nat.lt_of_lt_of_le p1' hx.1
    · show s.2.1 ≤ (rEx xs 41 _).2.1; rw [hx.2]; exact p2'
    · show (rEx xs 41 _).2.1 ≤ 6; rw [hx.2]; exact p3
    · rw [e0] at t3; exact t3
  by_cases q91 : rPk xs s = 91
  · rw [q91]
    refine wp_lookup (off := 57) (tgt := 73) d_RE_readAtom_16 (by decide) (by decide) (by decide) ?_
    refine wp_aload_n d_RE_readAtom_73 rfl rfl ?_
    refine wp_callV0 xc_RE_113 d_RE_readAtom_74 (Nat.le_of_ble_eq_true rfl) (by repeat first | assumption | exact xg_eq | exact xn_eq (by first | rfl | omega) | refine xg_ne (by first | assumption | omega | (simp only [xput, xnew]; omega)) ?_ | refine xn_ne (by first | assumption | omega | (simp only [xput, xnew]; omega)) ?_ | exact rfl) (c_RE_readClass hE hX r2 (by omega) (by omega) (by omega)) (by omega) (fun r hh hp => ?_)
    obtain ⟨rfl, g3, r3, o3⟩ := hp
    refine wp_areturn d_RE_readAtom_77 rfl (Or.inl ⟨_, rfl⟩) (Or.inr ⟨_, rfl⟩) ?_
    rw [e0]
    exact ⟨rfl, leaf (1, (rCl xs (rInc s)).1) (rCl xs (rInc s)).2 hh (by rw [rAt, if_neg q40, if_pos q91]) (Nat.le_of_ble_eq_true rfl) (rCl_le xs _) g3 r3 (by rw [← e0]; exact o3)⟩
  by_cases q94 : rPk xs s = 94
  · rw [q94]
    refine wp_lookup (off := 62) (tgt := 78) d_RE_readAtom_16 (by decide) (by decide) (by decide) ?_
    refine wp_new xw_RE_116 d_RE_readAtom_78 ?_
    refine wp_dup d_RE_readAtom_81 rfl ?_
    refine wp_iconst (v := 2) d_RE_readAtom_82 (by rfl) ?_
    refine wp_callI1 xc_RE_120 d_RE_readAtom_83 (Nat.le_of_ble_eq_true rfl) (c_AT_init _ (by repeat first | assumption | exact xg_eq | exact xn_eq (by first | rfl | omega) | refine xg_ne (by first | assumption | omega | (simp only [xput, xnew]; omega)) ?_ | refine xn_ne (by first | assumption | omega | (simp only [xput, xnew]; omega)) ?_ | exact rfl)) (by omega) (fun r hh hp => ?_)
    obtain ⟨rfl, rfl⟩ := hp
    refine wp_areturn d_RE_readAtom_86 rfl (Or.inl ⟨_, rfl⟩) (Or.inr ⟨_, rfl⟩) ?_
    rw [e0]
    exact ⟨rfl, leaf (2, 0, 0) (rInc s) _ (by rw [rAt, if_neg q40, if_neg q91, if_pos q94]) (by decide) sLe.rf ⟨rfl, rfl, fun q q1 _ => (by repeat first | assumption | exact xg_eq | exact xn_eq (by first | rfl | omega) | refine xg_ne (by first | assumption | omega | (simp only [xput, xnew]; omega)) ?_ | refine xn_ne (by first | assumption | omega | (simp only [xput, xnew]; omega)) ?_ | exact rfl)⟩ (r2.gw (by omega) (by omega) (fun q q1 _ => (by repeat first | assumption | exact xg_eq | exact xn_eq (by first | rfl | omega) | refine xg_ne (by first | assumption | omega | (simp only [xput, xnew]; omega)) ?_ | refine xn_ne (by first | assumption | omega | (simp only [xput, xnew]; omega)) ?_ | exact rfl)) (by repeat first | assumption | exact xg_eq | exact xn_eq (by first | rfl | omega) | refine xg_ne (by first | assumption | omega | (simp only [xput, xnew]; omega)) ?_ | refine xn_ne (by first | assumption | omega | (simp only [xput, xnew]; omega)) ?_ | exact rfl) hlt) (by repeat first | assumption | exact xg_eq | exact xn_eq (by first | rfl | omega) | refine xg_ne (by first | assumption | omega | (simp only [xput, xnew]; omega)) ?_ | refine xn_ne (by first | assumption | omega | (simp only [xput, xnew]; omega)) ?_ | exact rfl)⟩
  by_cases q36 : rPk xs s = 36
  · rw [q36]
    refine wp_lookup (off := 71) (tgt := 87) d_RE_readAtom_16 (by decide) (by decide) (by decide) ?_
    refine wp_new xw_RE_116 d_RE_readAtom_87 ?_
    refine wp_dup d_RE_readAtom_90 rfl ?_
    refine wp_iconst (v := 3) d_RE_readAtom_91 (by rfl) ?_
    refine wp_callI1 xc_RE_120 d_RE_readAtom_92 (Nat.le_of_ble_eq_true rfl) (c_AT_init _ (by repeat first | assumption | exact xg_eq | exact xn_eq (by first | rfl | omega) | refine xg_ne (by first | assumption | omega | (simp only [xput, xnew]; omega)) ?_ | refine xn_ne (by first | assumption | omega | (simp only [xput, xnew]; omega)) ?_ | exact rfl)) (by omega) (fun r hh hp => ?_)
    obtain ⟨rfl, rfl⟩ := hp
    refine wp_areturn d_RE_readAtom_95 rfl (Or.inl ⟨_, rfl⟩) (Or.inr ⟨_, rfl⟩) ?_
    rw [e0]
    exact ⟨rfl, leaf (3, 0, 0) (rInc s) _ (by rw [rAt, if_neg q40, if_neg q91, if_neg q94, if_pos q36]) (by decide) sLe.rf ⟨rfl, rfl, fun q q1 _ => (by repeat first | assumption | exact xg_eq | exact xn_eq (by first | rfl | omega) | refine xg_ne (by first | assumption | omega | (simp only [xput, xnew]; omega)) ?_ | refine xn_ne (by first | assumption | omega | (simp only [xput, xnew]; omega)) ?_ | exact rfl)⟩ (r2.gw (by omega) (by omega) (fun q q1 _ => (by repeat first | assumption | exact xg_eq | exact xn_eq (by first | rfl | omega) | refine xg_ne (by first | assumption | omega | (simp only [xput, xnew]; omega)) ?_ | refine xn_ne (by first | assumption | omega | (simp only [xput, xnew]; omega)) ?_ | exact rfl)) (by repeat first | assumption | exact xg_eq | exact xn_eq (by first | rfl | omega) | refine xg_ne (by first | assumption | omega | (simp only [xput, xnew]; omega)) ?_ | refine xn_ne (by first | assumption | omega | (simp only [xput, xnew]; omega)) ?_ | exact rfl) hlt) (by repeat first | assumption | exact xg_eq | exact xn_eq (by first | rfl | omega) | refine xg_ne (by first | assumption | omega | (simp only [xput, xnew]; omega)) ?_ | refine xn_ne (by first | assumption | omega | (simp only [xput, xnew]; omega)) ?_ | exact rfl)⟩
  by_cases q46 : rPk xs s = 46
  · rw [q46]
    refine wp_lookup (off := 80) (tgt := 96) d_RE_readAtom_16 (by decide) (by decide) (by decide) ?_
    refine wp_bipush (v := 32) d_RE_readAtom_96 (by rfl) ?_
    refine wp_bipush (v := 126) d_RE_readAtom_98 (by rfl) ?_
    refine wp_callS2 xc_RE_122 d_RE_readAtom_100 (Nat.le_of_ble_eq_true rfl) (c_RE_signAtom hE (i := 32) (j := 126) (by decide) (by decide)) (by omega) (fun r hh hp => ?_)
    obtain ⟨rfl, g3, o3⟩ := hp
    refine wp_areturn d_RE_readAtom_103 rfl (Or.inl ⟨_, rfl⟩) (Or.inr ⟨_, rfl⟩) ?_
    rw [e0]
    exact ⟨rfl, leaf (1, tkS 95 32 (0, 0)) (rInc s) hh (by rw [rAt, if_neg q40, if_neg q91, if_neg q94, if_neg q36, if_pos q46]) (by decide) sLe.rf ⟨g3.1, g3.2.1, fun q q1 _ => g3.2.2 q q1 (by simp)⟩ (r2.gw (by omega) (by omega) (fun q q1 _ => g3.2.2 q q1 (by simp)) ((g3.2.2 ra (by omega) (by simp)).trans w1) hlt) (by rw [← e0]; exact o3)⟩
  · have hp : plainB (rPk xs s) = true := by
      rw [rBg, if_neg q40, decide_eq_false q91, decide_eq_false q46, decide_eq_false q94, decide_eq_false q36] at hb
      simpa using hb
    obtain ⟨c, c1, c2, c3⟩ := isSg_n (x := rPk xs s) (by rw [plainB, Bool.and_eq_true] at hp; exact hp.1)
    rw [c3]
    refine wp_lookup (off := 88) (tgt := 104) d_RE_readAtom_16 (by decide) (by rw [nI_toInt (by omega)]; exact lk_def c (by omega) (fun e => q36 (by rw [c3, e]; rfl)) (fun e => q40 (by rw [c3, e]; rfl)) (fun e => q46 (by rw [c3, e]; rfl)) (fun e => q91 (by rw [c3, e]; rfl)) (fun e => q94 (by rw [c3, e]; rfl))) (by decide) ?_
    refine wp_iload_n d_RE_readAtom_104 rfl rfl ?_
    refine wp_iload_n d_RE_readAtom_105 rfl rfl ?_
    refine wp_callS2 xc_RE_122 d_RE_readAtom_106 (Nat.le_of_ble_eq_true rfl) (c_RE_signAtom hE (i := c) (j := c) (by omega) (by omega)) (by omega) (fun r hh hp => ?_)
    obtain ⟨rfl, g3, o3⟩ := hp
    refine wp_areturn d_RE_readAtom_109 rfl (Or.inl ⟨_, rfl⟩) (Or.inr ⟨_, rfl⟩) ?_
    rw [e0]
    rw [show c + 1 - c = 1 by omega] at o3
    exact ⟨rfl, leaf (1, tkS 1 c (0, 0)) (rInc s) hh (by rw [rAt, if_neg q40, if_neg q91, if_neg q94, if_neg q36, if_neg q46, c3, nI_clamp (by omega)]) (Nat.le_of_ble_eq_true rfl) sLe.rf ⟨g3.1, g3.2.1, fun q q1 _ => g3.2.2 q q1 (by simp)⟩ (r2.gw (by omega) (by omega) (fun q q1 _ => g3.2.2 q q1 (by simp)) ((g3.2.2 ra (by omega) (by simp)).trans w1) hlt) (by rw [← e0]; exact o3)⟩
end RG
end
section
/-! PatternSearch$Reader: pieces, rows, choices -/
theorem clamp_le {x : Int32} {n : Nat} (M : Int32) (hM : M.toInt = n) (h : ¬ M < x) : x.toNatClampNeg ≤ n := by
  by_cases h0 : x < 0
  · have : x.toInt < 0 := Int32.lt_iff_toInt_lt.mp h0
    have e : x.toNatClampNeg = x.toInt.toNat := rfl
    omega
  · obtain ⟨j, h1, rfl⟩ := nI_of2 hM h0 (Int32.not_lt.mp h)
    by_cases hj : j < 2 ^ 31
    · rw [nI_clamp hj]; exact h1
    · have := M.toInt_lt
      omega
theorem rDg_6 (xs : List Int32) {l : Nat} (hl : l ≤ 6) (s : RS) : (rDg xs l s).1 ≤ 6 := by
  rw [rDg]; split
  · exact hl
  · rename_i h
    exact clamp_le 6 rfl (fun q => h (Or.inr q))
theorem rRp_6 (xs : List Int32) (s : RS) : (rRp xs s).2.1.1 ≤ 6 := by
  rw [rRp]; split
  · exact Nat.zero_le _
  · split
    · exact Nat.le_of_ble_eq_true rfl
    · split
      · exact Nat.zero_le _
      · split
        · exact rDg_6 xs (by decide) _
        · exact Nat.le_of_ble_eq_true rfl
section RH
variable {E : xE} {kA kV : Nat → Nat} {ra sa sr n : Nat} {xs : List Int32} {X : Type} {sX : X → Nat} {eX : X → Bool} {tX : xH → Nat → Nat → Nat → X → Prop} {inn : RS → X × RS} {N D : Nat}
theorem pc_sz (p : Pc X) (hl : p.2.1 ≤ p.2.2.1) : (if p.2.2.2.1 then nI (atS sX p.1) + 2 else nI p.2.2.1 * nI (atS sX p.1) + 2 * (nI p.2.2.1 - nI p.2.1)) = nI (pcS sX p) := by
  rw [pcS]
  by_cases hu : p.2.2.2.1
  · rw [if_pos hu, if_pos hu, ← nI_add]; rfl
  · rw [if_neg hu, if_neg hu, pk_sub hl, pk_mul, ← nI_add, ← pk_mul 2]; rfl
/-- the cells of a piece that is read: itself at a, its atom at a + 1 and behind -/
def tPc (tX : xH → Nat → Nat → Nat → X → Prop) (h : xH) (a hi : Nat) (p : Pc X) : Prop := h.2.2 a = some (ob 4 [.ref (a + 1), .null, .int (nI p.2.1), .int (nI p.2.2.1), .int (bI p.2.2.2.1), .int (bI p.2.2.2.2)]) ∧ tAt tX h (a + 1) hi (a + 1) p.1 ∧ p.2.1 ≤ p.2.2.1 ∧ p.2.1 ≤ 6
theorem c_RE_readPiece (hE : xOK E) (hX : xStr E kA kV) (hm : tMv tX) (hcell : tCell sX eX tX) (ih : rIH E ra sa sr n xs tX inn N D) (hD : 8 ≤ D) {h : xH} {s : RS} (hr : Rd E h ra sa sr n xs s) (l1 : ra < xb E + h.1) (l2 : sa < xb E + h.1) (l3 : sr < xb E + h.1) (hg : s.2.1 ≤ 6) (hN : 7 ≤ N + 1 + s.2.1) (hb : rBg s.2.1 (rPk xs s) = true) :
    wpc E (D + 3) m_RE_readPiece [.ref ra] h (fun r' h' => r' = some (.ref (xb E + h.1)) ∧ xgw E ra (4 * ((rPc xs eX inn s).2.1 - s.1)) h h' ∧ Rd E h' ra sa sr n xs (rPc xs eX inn s).2 ∧ s.1 < (rPc xs eX inn s).2.1 ∧ s.2.1 ≤ (rPc xs eX inn s).2.2.1 ∧ (rPc xs eX inn s).2.2.1 ≤ 6 ∧ xb E + h.1 + 1 < xb E + h'.1 ∧ tPc tX h' (xb E + h.1) (xb E + h'.1) (rPc xs eX inn s).1) := by
  obtain ⟨k1, k2, k3, k4, k5⟩ := id hr
  refine wpc_of rfl (Nat.le_of_ble_eq_true rfl) ?_
  refine wp_new xw_RE_66 d_RE_readPiece_0 ?_
  refine wp_dup d_RE_readPiece_3 rfl ?_
  refine wp_aload_n d_RE_readPiece_4 rfl rfl ?_
  generalize hh2 : xnew E h 6 _ = h2
  have e0 : h2.1 = h.1 + 1 := by rw [← hh2]; rfl
  have g2 : xgw E ra 1 h h2 := by rw [← hh2]; exact (xgw.rf (ra := ra)).new (by decide)
  have o2 : h2.2.2 (xb E + h.1) = some (ob 4 [.null, .null, .int 0, .int 0, .int 0, .int 0]) := by rw [← hh2]; exact (by repeat first | assumption | exact xg_eq | exact xn_eq (by first | rfl | omega) | refine xg_ne (by first | assumption | omega | (simp only [xput, xnew]; omega)) ?_ | refine xn_ne (by first | assumption | omega | (simp only [xput, xnew]; omega)) ?_ | exact rfl)
  have r2 : Rd E h2 ra sa sr n xs s := hr.gw l2 l3 g2.2.2.2.2 (by rw [← hh2]; exact (by repeat first | assumption | exact xg_eq | exact xn_eq (by first | rfl | omega) | refine xg_ne (by first | assumption | omega | (simp only [xput, xnew]; omega)) ?_ | refine xn_ne (by first | assumption | omega | (simp only [xput, xnew]; omega)) ?_ | exact rfl)) k5
  clear hh2
  have w1 := r2.1
  refine wp_callV0 xc_RE_68 d_RE_readPiece_5 (Nat.le_of_ble_eq_true rfl) (by repeat first | assumption | exact xg_eq | exact xn_eq (by first | rfl | omega) | refine xg_ne (by first | assumption | omega | (simp only [xput, xnew]; omega)) ?_ | refine xn_ne (by first | assumption | omega | (simp only [xput, xnew]; omega)) ?_ | exact rfl) (c_RE_readAtom hE hX hm ih hD r2 (by omega) (by omega) (by omega) hg hN hb) (by omega) (fun r h3 hp => ?_)
  obtain ⟨rfl, g3, r3, p1, p2, p3, t3⟩ := hp
  have ea : xb E + h2.1 = xb E + h.1 + 1 := by omega
  rw [ea] at t3 ⊢
  have b3 := g3.1
  have c3 := t3
  have o3 : h3.2.2 (xb E + h.1) = some (ob 4 [.null, .null, .int 0, .int 0, .int 0, .int 0]) := (g3.2.2.2.2 _ (by omega) (by omega)).trans o2
  have hi3 : xb E + h.1 + 1 < xb E + h3.1 := by
    cases hx : (rAt xs inn s).1 <;> (rw [hx] at c3; obtain ⟨-, q, -⟩ := c3; exact q)
  refine wp_callI1 xc_RE_72 d_RE_readPiece_8 (Nat.le_of_ble_eq_true rfl) (c_PI_init _ o3) (by omega) (fun r hh hp => ?_)
  obtain ⟨rfl, rfl⟩ := hp
  generalize hh4 : xput h3 (xb E + h.1) _ = h4
  have o4 : h4.2.2 (xb E + h.1) = some (ob 4 [.ref (xb E + h.1 + 1), .null, .int 1, .int 1, .int 0, .int 0]) := by rw [← hh4]; exact xg_eq
  have f4 : xfr [xb E + h.1] h3 h4 := by rw [← hh4]; exact xfr.rf.put (by simp)
  have r4 : Rd E h4 ra sa sr n xs (rAt xs inn s).2 := by rw [← hh4]; exact ⟨xg_ne (by omega) r3.1, r3.2.1.mv (xg_ne (by omega) rfl) (xg_ne (by omega) rfl), r3.2.2⟩
  clear hh4
  have w4 := r4.1
  refine wp_astore_n d_RE_readPiece_11 rfl (by decide) rfl ?_
  refine wp_aload_n d_RE_readPiece_12 rfl rfl ?_
  refine wp_aload_n d_RE_readPiece_13 rfl rfl ?_
  refine wp_callV1 xc_RE_75 d_RE_readPiece_14 (Nat.le_of_ble_eq_true rfl) (by repeat first | assumption | exact xg_eq | exact xn_eq (by first | rfl | omega) | refine xg_ne (by first | assumption | omega | (simp only [xput, xnew]; omega)) ?_ | refine xn_ne (by first | assumption | omega | (simp only [xput, xnew]; omega)) ?_ | exact rfl) (c_RE_readRepetition hE r4 o4 (by omega) (by omega) (by omega)) (by omega) (fun r h5 hp => ?_)
  obtain ⟨rfl, f5, r5, o5, b5⟩ := hp
  have w5 := r5.1
  have b6 := rRp_6 xs (rAt xs inn s).2
  have l5 := rRp_le xs (rAt xs inn s).2
  -- behind the sparing sign: t says whether it stood there
  have fin : ∀ (h6 : xH) (t : Bool × RS), (if (rRp xs (rAt xs inn s).2).1 then rTk xs 63 (rRp xs (rAt xs inn s).2).2.2 else (false, (rRp xs (rAt xs inn s).2).2.2)) = t → sLe (rRp xs (rAt xs inn s).2).2.2 t.2 → xfr [ra, xb E + h.1] h5 h6 → Rd E h6 ra sa sr n xs t.2 → h6.2.2 (xb E + h.1) = some (ob 4 [.ref (xb E + h.1 + 1), .null, .int (nI (rRp xs (rAt xs inn s).2).2.1.1), .int (nI (rRp xs (rAt xs inn s).2).2.1.2.1), .int (bI (rRp xs (rAt xs inn s).2).2.1.2.2), .int (bI t.1)]) →
      wp E (D + 3) m_RE_readPiece 30 [(0, .ref ra), (1, .ref (xb E + h.1))] [] h6 (fun r' h' => r' = some (.ref (xb E + h.1)) ∧ xgw E ra (4 * ((rPc xs eX inn s).2.1 - s.1)) h h' ∧ Rd E h' ra sa sr n xs (rPc xs eX inn s).2 ∧ s.1 < (rPc xs eX inn s).2.1 ∧ s.2.1 ≤ (rPc xs eX inn s).2.2.1 ∧ (rPc xs eX inn s).2.2.1 ≤ 6 ∧ xb E + h.1 + 1 < xb E + h'.1 ∧ tPc tX h' (xb E + h.1) (xb E + h'.1) (rPc xs eX inn s).1) := by
    intro h6 t ht hle f6 r6 o6
    have w6 := r6.1
    have he : rPc xs eX inn s = (((rAt xs inn s).1, ((rRp xs (rAt xs inn s).2).2.1.1, (rRp xs (rAt xs inn s).2).2.1.2.1, (rRp xs (rAt xs inn s).2).2.1.2.2, t.1)), rEnd ((rRp xs (rAt xs inn s).2).2.1.2.2 && atE eX (rAt xs inn s).1) t.2) := by simp only [rPc, ht]
    have q6 : ∀ q, xb E + h.1 + 1 ≤ q → h6.2.2 q = h3.2.2 q := fun q hq => (f6.2.2 q (by simp; omega)).trans ((f5.2.2 q (by simp; omega)).trans (f4.2.2 q (by simp; omega)))
    have e6 : h6.1 = h3.1 := f6.1.trans (f5.1.trans f4.1)
    have t6 : tAt tX h6 (xb E + h.1 + 1) (xb E + h3.1) (xb E + h.1 + 1) (rAt xs inn s).1 := t3.mv hm (fun q q1 _ => q6 q q1) (Nat.le_refl _) (Nat.le_refl _)
    have last : ∀ (h7 : xH) (eb : Bool), eb = (t.2.2.2.1 || ((rRp xs (rAt xs inn s).2).2.1.2.2 && atE eX (rAt xs inn s).1)) → h7 = xput h6 ra (ob 6 [.ref sa, .int (nI t.2.1), .int (nI t.2.2.1), .int (bI eb), .int (bI t.2.2.2.2)]) →
        wp E (D + 3) m_RE_readPiece 53 [(0, .ref ra), (1, .ref (xb E + h.1))] [] h7 (fun r' h' => r' = some (.ref (xb E + h.1)) ∧ xgw E ra (4 * ((rPc xs eX inn s).2.1 - s.1)) h h' ∧ Rd E h' ra sa sr n xs (rPc xs eX inn s).2 ∧ s.1 < (rPc xs eX inn s).2.1 ∧ s.2.1 ≤ (rPc xs eX inn s).2.2.1 ∧ (rPc xs eX inn s).2.2.1 ≤ 6 ∧ xb E + h.1 + 1 < xb E + h'.1 ∧ tPc tX h' (xb E + h.1) (xb E + h'.1) (rPc xs eX inn s).1) := by
      intro h7 eb heb hh7
      subst hh7
      subst heb
      refine wp_aload_n d_RE_readPiece_53 rfl rfl ?_
      refine wp_areturn d_RE_readPiece_54 rfl (Or.inl ⟨_, rfl⟩) (Or.inr ⟨_, rfl⟩) ?_
      have hle2 := l5.tr hle
      have x1 : (rAt xs inn s).2.1 ≤ t.2.1 := hle2.1
      have x2 : t.2.2.1 = (rAt xs inn s).2.2.1 := hle2.2
      have gw : xgw E ra (1 + (4 * ((rAt xs inn s).2.1 - s.1) - 1)) h (xput h6 ra (ob 6 [.ref sa, .int (nI t.2.1), .int (nI t.2.2.1), .int (bI (t.2.2.2.1 || ((rRp xs (rAt xs inn s).2).2.1.2.2 && atE eX (rAt xs inn s).1))), .int (bI t.2.2.2.2)])) :=
        ((((g2.tr g3).fr f4 (by simp)).fr f5 (by simp)).fr f6 (by simp)).put (Or.inl rfl)
      rw [he]
      refine ⟨rfl, gw.le (by show _ ≤ 4 * (t.2.1 - s.1); omega), ⟨xg_eq, r6.2.1.mv (xg_ne r6.2.2.1.symm rfl) (xg_ne r6.2.2.2.1.symm rfl), r6.2.2⟩, by show s.1 < t.2.1; omega, by show s.2.1 ≤ t.2.2.1; omega, by show t.2.2.1 ≤ 6; omega, by show _ < xb E + h6.1; omega, xg_ne (by omega) o6, ?_, b5, b6⟩
      rw [show (xput h6 ra (ob 6 [.ref sa, .int (nI t.2.1), .int (nI t.2.2.1), .int (bI (t.2.2.2.1 || ((rRp xs (rAt xs inn s).2).2.1.2.2 && atE eX (rAt xs inn s).1))), .int (bI t.2.2.2.2)])).1 = h3.1 from e6]
      exact t6.mv hm (fun q q1 _ => xg_ne (by omega) rfl) (Nat.le_refl _) (Nat.le_refl _)
    have hq := t6.q (E := E) hcell
    have endput : ∀ eb : Bool, eb = (t.2.2.2.1 || ((rRp xs (rAt xs inn s).2).2.1.2.2 && atE eX (rAt xs inn s).1)) → wp E (D + 3) m_RE_readPiece 50 [(0, .ref ra), (1, .ref (xb E + h.1))] [.int (bI eb), .ref ra] h6 (fun r' h' => r' = some (.ref (xb E + h.1)) ∧ xgw E ra (4 * ((rPc xs eX inn s).2.1 - s.1)) h h' ∧ Rd E h' ra sa sr n xs (rPc xs eX inn s).2 ∧ s.1 < (rPc xs eX inn s).2.1 ∧ s.2.1 ≤ (rPc xs eX inn s).2.2.1 ∧ (rPc xs eX inn s).2.2.1 ≤ 6 ∧ xb E + h.1 + 1 < xb E + h'.1 ∧ tPc tX h' (xb E + h.1) (xb E + h'.1) (rPc xs eX inn s).1) := by
      intro eb heb
      have z1 := bI_z eb
      have z2 := bI_f eb
      refine wp_put xf_RE_29 xg_RE (Or.inl rfl) d_RE_readPiece_50 (by repeat first | assumption | exact xg_eq | exact xn_eq (by first | rfl | omega) | refine xg_ne (by first | assumption | omega | (simp only [xput, xnew]; omega)) ?_ | refine xn_ne (by first | assumption | omega | (simp only [xput, xnew]; omega)) ?_ | exact rfl) (by first | rfl | assumption) (by first | rfl | assumption) (Nat.le_of_ble_eq_true rfl) ?_
      exact last _ eb heb rfl
    refine wp_aload_n d_RE_readPiece_30 rfl rfl ?_
    refine wp_aload_n d_RE_readPiece_31 rfl rfl ?_
    refine wp_get xf_RE_29 d_RE_readPiece_32 (by repeat first | assumption | exact xg_eq | exact xn_eq (by first | rfl | omega) | refine xg_ne (by first | assumption | omega | (simp only [xput, xnew]; omega)) ?_ | refine xn_ne (by first | assumption | omega | (simp only [xput, xnew]; omega)) ?_ | exact rfl) (by rfl) ?_
    refine wp_if_ne (tgt := 45) d_RE_readPiece_35 (by decide) (fun hc => ?_) (fun hc => ?_)
    · rw [bI_0] at hc
      refine wp_iconst (v := 1) d_RE_readPiece_45 (by rfl) ?_
      refine wp_goto (tgt := 50) d_RE_readPiece_46 (by decide) ?_
      exact endput true (by rw [b_t hc]; rfl)
    · rw [bI_0] at hc
      refine wp_aload_n d_RE_readPiece_38 rfl rfl ?_
      refine wp_callV0 xc_RE_82 d_RE_readPiece_39 (Nat.le_of_ble_eq_true rfl) (by repeat first | assumption | exact xg_eq | exact xn_eq (by first | rfl | omega) | refine xg_ne (by first | assumption | omega | (simp only [xput, xnew]; omega)) ?_ | refine xn_ne (by first | assumption | omega | (simp only [xput, xnew]; omega)) ?_ | exact rfl) (c_PI_isEndless o6 hq) (by omega) (fun r hh hp => ?_)
      obtain ⟨rfl, hz0⟩ := hp; have hz0 := hz0.symm; subst hz0
      refine wp_if_eq (tgt := 49) d_RE_readPiece_42 (by decide) (fun hc2 => ?_) (fun hc2 => ?_)
      · rw [bI_0] at hc2
        refine wp_iconst (v := 0) d_RE_readPiece_49 (by rfl) ?_
        exact endput false (by rw [hc, hc2]; rfl)
      · rw [bI_0] at hc2
        refine wp_iconst (v := 1) d_RE_readPiece_45 (by rfl) ?_
        refine wp_goto (tgt := 50) d_RE_readPiece_46 (by decide) ?_
        exact endput true (by rw [hc, b_t hc2]; rfl)
  refine wp_if_eq (tgt := 30) d_RE_readPiece_17 (by decide) (fun hc => ?_) (fun hc => ?_)
  · rw [bI_0] at hc
    exact fin h5 (false, (rRp xs (rAt xs inn s).2).2.2) (by rw [hc]; rfl) sLe.rf xfr.rf r5 o5
  · rw [bI_0] at hc
    refine wp_aload_n d_RE_readPiece_20 rfl rfl ?_
    refine wp_aload_n d_RE_readPiece_21 rfl rfl ?_
    refine wp_bipush (v := 63) d_RE_readPiece_22 (by rfl) ?_
    refine wp_callV1 xc_RE_46 d_RE_readPiece_24 (Nat.le_of_ble_eq_true rfl) (by repeat first | assumption | exact xg_eq | exact xn_eq (by first | rfl | omega) | refine xg_ne (by first | assumption | omega | (simp only [xput, xnew]; omega)) ?_ | refine xn_ne (by first | assumption | omega | (simp only [xput, xnew]; omega)) ?_ | exact rfl) (c_RE_take hE r5 (by decide)) (by omega) (fun r h6 hp => ?_)
    obtain ⟨rfl, f6, r6⟩ := hp
    have o6 := f6.at (by simp; omega) o5
    have z1 := bI_z (rTk xs 63 (rRp xs (rAt xs inn s).2).2.2).1
    have z2 := bI_f (rTk xs 63 (rRp xs (rAt xs inn s).2).2.2).1
    refine wp_put xf_RE_79 xg_PI (Or.inl rfl) d_RE_readPiece_27 (by repeat first | assumption | exact xg_eq | exact xn_eq (by first | rfl | omega) | refine xg_ne (by first | assumption | omega | (simp only [xput, xnew]; omega)) ?_ | refine xn_ne (by first | assumption | omega | (simp only [xput, xnew]; omega)) ?_ | exact rfl) (by first | rfl | assumption) (by first | rfl | assumption) (Nat.le_of_ble_eq_true rfl) ?_
    exact fin _ (rTk xs 63 (rRp xs (rAt xs inn s).2).2.2) (by rw [b_t hc]; rfl) (rTk_le xs 63 _) ((f6.sub (by simp)).put (by simp)) ⟨xg_ne (by omega) r6.1, r6.2.1.mv (xg_ne (by omega) rfl) (xg_ne (by omega) rfl), r6.2.2⟩ xg_eq
end RH
end
section
/-! PatternSearch$Reader: rows and choices; all of it by the depth -/
section RI
variable {E : xE} {kA kV : Nat → Nat} {ra sa sr n : Nat} {xs : List Int32} {X : Type} {sX : X → Nat} {eX : X → Bool} {tX : xH → Nat → Nat → Nat → X → Prop} {inn : RS → X × RS} {N D : Nat}
theorem rwS_add (ps : List (Pc X)) (p : Pc X) : rwS sX (ps ++ [p]) = rwS sX ps + pcS sX p := by simp [rwS]
theorem rwE_add (ps : List (Pc X)) (p : Pc X) : rwE eX (ps ++ [p]) = (rwE eX ps && pcE eX p) := by simp [rwE]
/-- the cells of a row that is read: itself at a, its pieces behind -/
def tRo (sX : X → Nat) (eX : X → Bool) (tX : xH → Nat → Nat → Nat → X → Prop) (h : xH) (a hi : Nat) (ps : List (Pc X)) : Prop := ∃ lp : Option Nat, h.2.2 a = some (ob 7 [.null, va_rf lp, .int (nI (rwS sX ps)), .int (bI (rwE eX ps))]) ∧ tPl tX h (a + 1) hi lp ps.reverse
theorem c_RE_readRow (hE : xOK E) (hX : xStr E kA kV) (hm : tMv tX) (hcell : tCell sX eX tX) (ih : rIH E ra sa sr n xs tX inn N D) (hD : 8 ≤ D) {h : xH} {s : RS} (hr : Rd E h ra sa sr n xs s) (l1 : ra < xb E + h.1) (l2 : sa < xb E + h.1) (l3 : sr < xb E + h.1) (hg : s.2.1 ≤ 6) (hN : 7 ≤ N + 1 + s.2.1) :
    wpc E (D + 4) m_RE_readRow [.ref ra] h (fun r' h' => r' = some (.ref (xb E + h.1)) ∧ xgw E ra (1 + 4 * ((rRw xs eX inn 28 ([], s)).2.1 - s.1)) h h' ∧ Rd E h' ra sa sr n xs (rRw xs eX inn 28 ([], s)).2 ∧ s.1 ≤ (rRw xs eX inn 28 ([], s)).2.1 ∧ s.2.1 ≤ (rRw xs eX inn 28 ([], s)).2.2.1 ∧ (rRw xs eX inn 28 ([], s)).2.2.1 ≤ 6 ∧ xb E + h.1 < xb E + h'.1 ∧ tRo sX eX tX h' (xb E + h.1) (xb E + h'.1) (rRw xs eX inn 28 ([], s)).1) := by
  obtain ⟨k1, k2, k3, k4, k5⟩ := id hr
  have fin : ∀ (h2 : xH) (q : List (Pc X) × RS) (i : Int32), rRw xs eX inn 28 ([], s) = q → xgw E ra (1 + 4 * (q.2.1 - s.1)) h h2 → Rd E h2 ra sa sr n xs q.2 → s.1 ≤ q.2.1 → s.2.1 ≤ q.2.2.1 → q.2.2.1 ≤ 6 → h.1 < h2.1 → tRo sX eX tX h2 (xb E + h.1) (xb E + h2.1) q.1 →
      wp E (D + 4) m_RE_readRow 41 [(0, .ref ra), (1, .ref (xb E + h.1)), (2, .int i)] [] h2 (fun r' h' => r' = some (.ref (xb E + h.1)) ∧ xgw E ra (1 + 4 * ((rRw xs eX inn 28 ([], s)).2.1 - s.1)) h h' ∧ Rd E h' ra sa sr n xs (rRw xs eX inn 28 ([], s)).2 ∧ s.1 ≤ (rRw xs eX inn 28 ([], s)).2.1 ∧ s.2.1 ≤ (rRw xs eX inn 28 ([], s)).2.2.1 ∧ (rRw xs eX inn 28 ([], s)).2.2.1 ≤ 6 ∧ xb E + h.1 < xb E + h'.1 ∧ tRo sX eX tX h' (xb E + h.1) (xb E + h'.1) (rRw xs eX inn 28 ([], s)).1) := by
    intro h2 q i hq g2 r2 a1 a2 a3 a4 t2
    refine wp_aload_n d_RE_readRow_41 rfl rfl ?_
    refine wp_areturn d_RE_readRow_42 rfl (Or.inl ⟨_, rfl⟩) (Or.inr ⟨_, rfl⟩) ?_
    rw [hq]
    exact ⟨rfl, g2, r2, a1, a2, a3, by omega, t2⟩
  have lp : ∀ (k : Nat) (h2 : xH) (q : List (Pc X) × RS), k ≤ 28 → rRw xs eX inn 28 ([], s) = rRw xs eX inn k q → xgw E ra (1 + 4 * (q.2.1 - s.1)) h h2 → Rd E h2 ra sa sr n xs q.2 → s.1 ≤ q.2.1 → s.2.1 ≤ q.2.2.1 → q.2.2.1 ≤ 6 → h.1 < h2.1 → tRo sX eX tX h2 (xb E + h.1) (xb E + h2.1) q.1 →
      wp E (D + 4) m_RE_readRow 10 [(0, .ref ra), (1, .ref (xb E + h.1)), (2, .int (nI (28 - k)))] [] h2 (fun r' h' => r' = some (.ref (xb E + h.1)) ∧ xgw E ra (1 + 4 * ((rRw xs eX inn 28 ([], s)).2.1 - s.1)) h h' ∧ Rd E h' ra sa sr n xs (rRw xs eX inn 28 ([], s)).2 ∧ s.1 ≤ (rRw xs eX inn 28 ([], s)).2.1 ∧ s.2.1 ≤ (rRw xs eX inn 28 ([], s)).2.2.1 ∧ (rRw xs eX inn 28 ([], s)).2.2.1 ≤ 6 ∧ xb E + h.1 < xb E + h'.1 ∧ tRo sX eX tX h' (xb E + h.1) (xb E + h'.1) (rRw xs eX inn 28 ([], s)).1) := by
    intro k
    induction k with
    | zero =>
      intro h2 q hk hq g2 r2 a1 a2 a3 a4 t2
      refine wp_iload_n d_RE_readRow_10 rfl rfl ?_
      refine wp_bipush (v := 28) d_RE_readRow_11 (by rfl) ?_
      refine wp_icmp_ge (tgt := 41) d_RE_readRow_13 (by decide) (fun hc => ?_) (fun hc => ?_)
      · exact fin h2 q _ hq g2 r2 a1 a2 a3 a4 t2
      · exact absurd (show (28 : Int32) ≤ nI (28 - 0) by decide) hc
    | succ k ihk =>
      intro h2 q hk hq g2 r2 a1 a2 a3 a4 t2
      have w2 := r2.1
      refine wp_iload_n d_RE_readRow_10 rfl rfl ?_
      refine wp_bipush (v := 28) d_RE_readRow_11 (by rfl) ?_
      refine wp_icmp_ge (tgt := 41) d_RE_readRow_13 (by decide) (fun hc => ?_) (fun hc => ?_)
      · exact absurd ((nI_leI (a := 28) (by decide) (by omega)).mp hc) (by omega)
      · refine wp_aload_n d_RE_readRow_16 rfl rfl ?_
        refine wp_aload_n d_RE_readRow_17 rfl rfl ?_
        refine wp_callV0 xc_RE_53 d_RE_readRow_18 (Nat.le_of_ble_eq_true rfl) (by repeat first | assumption | exact xg_eq | exact xn_eq (by first | rfl | omega) | refine xg_ne (by first | assumption | omega | (simp only [xput, xnew]; omega)) ?_ | refine xn_ne (by first | assumption | omega | (simp only [xput, xnew]; omega)) ?_ | exact rfl) (c_RE_peek hE r2) (by omega) (fun r hh hp => ?_)
        obtain ⟨rfl, hz0⟩ := hp; have hz0 := hz0.symm; subst hz0
        refine wp_callV1 xc_RE_56 d_RE_readRow_21 (Nat.le_of_ble_eq_true rfl) (by repeat first | assumption | exact xg_eq | exact xn_eq (by first | rfl | omega) | refine xg_ne (by first | assumption | omega | (simp only [xput, xnew]; omega)) ?_ | refine xn_ne (by first | assumption | omega | (simp only [xput, xnew]; omega)) ?_ | exact rfl) (c_RE_beginsAtom hE hX r2 (by omega) _) (by omega) (fun r hh hp => ?_)
        obtain ⟨rfl, hz0⟩ := hp; have hz0 := hz0.symm; subst hz0
        refine wp_if_eq (tgt := 41) d_RE_readRow_24 (by decide) (fun hc2 => ?_) (fun hc2 => ?_)
        · rw [bI_0] at hc2
          have hq := hq.trans (show rRw xs eX inn (k + 1) q = q by rw [rRw, hc2]; rfl)
          exact fin h2 q _ hq g2 r2 a1 a2 a3 a4 t2
        · rw [bI_0] at hc2
          have hc2 := b_t hc2
          have hq := hq.trans (show rRw xs eX inn (k + 1) q = rRw xs eX inn k (q.1 ++ [(rPc xs eX inn q.2).1], (rPc xs eX inn q.2).2) by rw [rRw, hc2]; rfl)
          obtain ⟨lp, o2, c2⟩ := t2
          refine wp_aload_n d_RE_readRow_27 rfl rfl ?_
          refine wp_aload_n d_RE_readRow_28 rfl rfl ?_
          refine wp_callV0 xc_RE_59 d_RE_readRow_29 (Nat.le_of_ble_eq_true rfl) (by repeat first | assumption | exact xg_eq | exact xn_eq (by first | rfl | omega) | refine xg_ne (by first | assumption | omega | (simp only [xput, xnew]; omega)) ?_ | refine xn_ne (by first | assumption | omega | (simp only [xput, xnew]; omega)) ?_ | exact rfl) (c_RE_readPiece (sX := sX) (eX := eX) hE hX hm hcell ih hD r2 (by have := g2.1; omega) (by have := g2.1; omega) (by have := g2.1; omega) a3 (by omega) hc2) (by omega) (fun r h3 hp => ?_)
          obtain ⟨rfl, g3, r3, p1, p2, p3, p4, q1, q2, q3, q4⟩ := hp
          have o3 : h3.2.2 (xb E + h.1) = some (ob 7 [.null, va_rf lp, .int (nI (rwS sX q.1)), .int (bI (rwE eX q.1))]) := (g3.2.2.2.2 _ (by omega) (by omega)).trans o2
          have hq3 := q2.q (E := E) hcell
          refine wp_callV1 xc_RE_63 d_RE_readRow_32 (Nat.le_of_ble_eq_true rfl) (by repeat first | assumption | exact xg_eq | exact xn_eq (by first | rfl | omega) | refine xg_ne (by first | assumption | omega | (simp only [xput, xnew]; omega)) ?_ | refine xn_ne (by first | assumption | omega | (simp only [xput, xnew]; omega)) ?_ | exact rfl) (c_RO_add (a := xb E + h.1) (p := xb E + h2.1) (c := xb E + h2.1 + 1) (by omega) (by omega) (by omega) o3 q1 hq3 (fun h' hh' => (q2.mv hm (fun z z1 _ => hh' z (by omega)) (Nat.le_refl _) (Nat.le_refl _)).q (E := E) hcell)) (by omega) (fun r h4 hp => ?_)
          obtain ⟨rfl, f4, o4, o5⟩ := hp
          rw [pc_sz _ q3] at o4
          have e4 : h4.1 = h3.1 := f4.1
          have b3 := g3.1
          have g4 : xgw E ra (1 + 4 * (q.2.1 - s.1) + 4 * ((rPc xs eX inn q.2).2.1 - q.2.1)) h h4 := (g2.tr g3).fr f4 (by have := g2.1; simp; omega)
          refine wp_iinc d_RE_readRow_35 rfl rfl (by decide) rfl ?_
          refine wp_goto (tgt := 10) d_RE_readRow_38 (by decide) ?_
          rw [show nI (28 - (k + 1)) + Int32.ofInt 1 = nI (28 - k) from by rw [show 28 - k = (28 - (k + 1)) + 1 by omega, nI_succ]; rfl]
          refine ihk h4 (q.1 ++ [(rPc xs eX inn q.2).1], (rPc xs eX inn q.2).2) (by omega) hq (g4.le (by show _ ≤ 1 + 4 * ((rPc xs eX inn q.2).2.1 - s.1); omega)) ⟨f4.at (by have := g2.1; simp; omega) r3.1, r3.2.1.mv (f4.2.2 _ (by have := g2.1; simp; omega)) (f4.2.2 _ (by have := g2.1; simp; omega)), r3.2.2⟩ (by show s.1 ≤ (rPc xs eX inn q.2).2.1; omega) (by show s.2.1 ≤ (rPc xs eX inn q.2).2.2.1; omega) p3 (by omega) ⟨some (xb E + h2.1), ?_, ?_⟩
          · rw [o4, rwS_add, rwE_add, ← nI_add, pcE, show decide (nI (rPc xs eX inn q.2).1.2.1 = 0) = decide ((rPc xs eX inn q.2).1.2.1 = 0) from decide_eq_decide.mpr (nI_eq (b := 0) (by omega) (by decide))]
            rfl
          · rw [List.reverse_append, List.reverse_singleton, List.singleton_append]
            refine ⟨xb E + h2.1, xb E + h2.1 + 1, lp, rfl, by omega, by omega, o5, q2.mv hm (fun z z1 _ => f4.2.2 z (by simp; omega)) (by omega) (by omega), q3, c2.mv hm (fun z z1 z2 => (f4.2.2 z (by simp; omega)).trans (g3.2.2.2.2 z (by omega) (by have := g2.1; omega))) (Nat.le_refl _) (by omega)⟩
  refine wpc_of rfl (Nat.le_of_ble_eq_true rfl) ?_
  refine wp_new xw_RE_50 d_RE_readRow_0 ?_
  refine wp_dup d_RE_readRow_3 rfl ?_
  refine wp_callI0 xc_RE_52 d_RE_readRow_4 (Nat.le_of_ble_eq_true rfl) (c_RO_init (by repeat first | assumption | exact xg_eq | exact xn_eq (by first | rfl | omega) | refine xg_ne (by first | assumption | omega | (simp only [xput, xnew]; omega)) ?_ | refine xn_ne (by first | assumption | omega | (simp only [xput, xnew]; omega)) ?_ | exact rfl)) (by omega) (fun r hh hp => ?_)
  obtain ⟨rfl, rfl⟩ := hp
  generalize hh2 : xput (xnew E h 4 _) _ _ = h2
  have e0 : h2.1 = h.1 + 1 := by rw [← hh2]; rfl
  have g2 : xgw E ra 1 h h2 := by rw [← hh2]; exact ((xgw.rf (ra := ra)).new (by decide)).put (Or.inr (Nat.le_refl _))
  have o2 : h2.2.2 (xb E + h.1) = some (ob 7 [.null, .null, .int 0, .int 1]) := by rw [← hh2]; exact (by repeat first | assumption | exact xg_eq | exact xn_eq (by first | rfl | omega) | refine xg_ne (by first | assumption | omega | (simp only [xput, xnew]; omega)) ?_ | refine xn_ne (by first | assumption | omega | (simp only [xput, xnew]; omega)) ?_ | exact rfl)
  have r2 : Rd E h2 ra sa sr n xs s := hr.gw l2 l3 g2.2.2.2.2 (by rw [← hh2]; exact (by repeat first | assumption | exact xg_eq | exact xn_eq (by first | rfl | omega) | refine xg_ne (by first | assumption | omega | (simp only [xput, xnew]; omega)) ?_ | refine xn_ne (by first | assumption | omega | (simp only [xput, xnew]; omega)) ?_ | exact rfl)) k5
  clear hh2
  refine wp_astore_n d_RE_readRow_7 rfl (by decide) rfl ?_
  refine wp_iconst (v := 0) d_RE_readRow_8 (by rfl) ?_
  refine wp_istore_n d_RE_readRow_9 rfl (by decide) rfl ?_
  exact lp 28 h2 ([], s) (Nat.le_refl _) rfl (g2.le (by omega)) r2 (Nat.le_refl _) (Nat.le_refl _) hg (by omega) ⟨none, o2, rfl⟩
theorem ccS_add (rs : Cc X) (r : List (Pc X)) (h : rs ≠ []) : ccS sX (rs ++ [r]) = ccS sX rs + (rwS sX r + 2) := by
  have : 0 < rs.length := List.length_pos_iff.mpr h
  simp only [ccS, List.map_append, List.sum_append, List.map_cons, List.map_nil, List.sum_cons, List.sum_nil, List.length_append, List.length_singleton]
  omega
theorem ccE_add (rs : Cc X) (r : List (Pc X)) : ccE eX (rs ++ [r]) = (ccE eX rs || rwE eX r) := by simp [ccE]
/-- the cells of a choice that is read: itself at c, its rows behind -/
def tCo (sX : X → Nat) (eX : X → Bool) (tX : xH → Nat → Nat → Nat → X → Prop) (h : xH) (c hi : Nat) (rs : Cc X) : Prop := ∃ lr : Option Nat, h.2.2 c = some (ob 2 [va_rf lr, .int (nI (ccS sX rs)), .int (bI (ccE eX rs))]) ∧ tRl sX eX tX h (c + 1) hi lr rs.reverse
/-- a row comes behind the others -/
theorem tCo_add (hm : tMv tX) {h h' h2 : xH} {c r hi : Nat} {rs : Cc X} {ps : List (Pc X)} {lr lp : Option Nat} (hc : c < r) (hr : r < hi) (h1 : tRl sX eX tX h (c + 1) r lr rs.reverse) (hk : ∀ q, c < q → q < r → h2.2.2 q = h.2.2 q)
    (p1 : tPl tX h' (r + 1) hi lp ps.reverse) (f : xfr [c, r] h' h2) (o1 : h2.2.2 r = some (ob 7 [va_rf lr, va_rf lp, .int (nI (rwS sX ps)), .int (bI (rwE eX ps))])) : tRl sX eX tX h2 (c + 1) hi (some r) (rs ++ [ps]).reverse := by
  rw [List.reverse_append, List.reverse_singleton, List.singleton_append]
  exact ⟨r, lr, rfl, ⟨by omega, hr, lp, o1, p1.mv hm (fun q q1 q2 => f.2.2 q (by simp; omega)) (by omega) (Nat.le_refl _)⟩, h1.mv hm (fun q q1 q2 => hk q (by omega) q2) (Nat.le_refl _) (by omega)⟩
theorem c_RE_readChoice0 (hE : xOK E) (hX : xStr E kA kV) (hm : tMv tX) (hcell : tCell sX eX tX) (ih : rIH E ra sa sr n xs tX inn N D) (hD : 8 ≤ D) : rIH E ra sa sr n xs (tCc sX eX tX) (rCh xs eX inn) (N + 1) (D + 5) := by
  intro h s hr l1 l2 l3 hg hN
  obtain ⟨k1, k2, k3, k4, k5⟩ := id hr
  have fin : ∀ (h2 : xH) (q : Cc X × RS) (i : Int32), rCh xs eX inn s = q → xgw E ra (2 + 4 * (q.2.1 - s.1)) h h2 → Rd E h2 ra sa sr n xs q.2 → s.1 ≤ q.2.1 → s.2.1 ≤ q.2.2.1 → q.2.2.1 ≤ 6 → h.1 < h2.1 → tCo sX eX tX h2 (xb E + h.1) (xb E + h2.1) q.1 →
      wp E (D + 5) m_RE_readChoice 47 [(0, .ref ra), (1, .ref (xb E + h.1)), (2, .int i)] [] h2 (fun r' h' => r' = some (.ref (xb E + h.1)) ∧ xgw E ra (2 + 4 * ((rCh xs eX inn s).2.1 - s.1)) h h' ∧ Rd E h' ra sa sr n xs (rCh xs eX inn s).2 ∧ s.1 ≤ (rCh xs eX inn s).2.1 ∧ s.2.1 ≤ (rCh xs eX inn s).2.2.1 ∧ (rCh xs eX inn s).2.2.1 ≤ 6 ∧ tCc sX eX tX h' (xb E + h.1) (xb E + h'.1) (xb E + h.1) (rCh xs eX inn s).1) := by
    intro h2 q i hq g2 r2 a1 a2 a3 a4 t2
    refine wp_aload_n d_RE_readChoice_47 rfl rfl ?_
    refine wp_areturn d_RE_readChoice_48 rfl (Or.inl ⟨_, rfl⟩) (Or.inr ⟨_, rfl⟩) ?_
    obtain ⟨lr, o2, c2⟩ := t2
    rw [hq]
    exact ⟨rfl, g2, r2, a1, a2, a3, Nat.le_refl _, by omega, lr, o2, c2.mv hm (fun _ _ _ => rfl) (by omega) (Nat.le_refl _)⟩
  -- a row is read and added
  have add : ∀ (h2 : xH) (rs : Cc X) (s2 : RS) (lr : Option Nat) (sz : Nat) (st : List Value) (lo : List (Nat × Value)) (pc : Nat) (P : Option Value → xH → Prop), (pc = 10 ∨ pc = 35) → (lr = none ↔ rs = []) → sz = ccS sX rs → xgw E ra (1 + 4 * (s2.1 - s.1)) h h2 → Rd E h2 ra sa sr n xs s2 → s.1 ≤ s2.1 → s.2.1 ≤ s2.2.1 → s2.2.1 ≤ 6 → h.1 < h2.1 → h2.2.2 (xb E + h.1) = some (ob 2 [va_rf lr, .int (nI sz), .int (bI (ccE eX rs))]) → tRl sX eX tX h2 (xb E + h.1 + 1) (xb E + h2.1) lr rs.reverse →
      (∀ h4, xgw E ra (2 + 4 * ((rRw xs eX inn 28 ([], s2)).2.1 - s.1)) h h4 → Rd E h4 ra sa sr n xs (rRw xs eX inn 28 ([], s2)).2 → s.1 ≤ (rRw xs eX inn 28 ([], s2)).2.1 → s.2.1 ≤ (rRw xs eX inn 28 ([], s2)).2.2.1 → (rRw xs eX inn 28 ([], s2)).2.2.1 ≤ 6 → h.1 < h4.1 → tCo sX eX tX h4 (xb E + h.1) (xb E + h4.1) (rs ++ [(rRw xs eX inn 28 ([], s2)).1]) → wp E (D + 5) m_RE_readChoice (pc + 3 + 3) lo [] h4 P) →
      wp E (D + 5) m_RE_readChoice pc lo [.ref ra, .ref (xb E + h.1)] h2 P := by
    intro h2 rs s2 lr sz st lo pc P hpc hlr hsz g2 r2 a1 a2 a3 a4 o2 c2 K
    have w2 := r2.1
    have b2 := g2.1
    have d1 : decode m_RE_readChoice.2.1 pc = .ok (.invokevirtual 38, 3) := by rcases hpc with rfl | rfl; exact d_RE_readChoice_10; exact d_RE_readChoice_35
    have d2 : decode m_RE_readChoice.2.1 (pc + 3) = .ok (.invokevirtual 42, 3) := by rcases hpc with rfl | rfl; exact d_RE_readChoice_13; exact d_RE_readChoice_38
    refine wp_callV0 xc_RE_38 d1 (Nat.le_of_ble_eq_true rfl) (by repeat first | assumption | exact xg_eq | exact xn_eq (by first | rfl | omega) | refine xg_ne (by first | assumption | omega | (simp only [xput, xnew]; omega)) ?_ | refine xn_ne (by first | assumption | omega | (simp only [xput, xnew]; omega)) ?_ | exact rfl) (c_RE_readRow (sX := sX) (eX := eX) hE hX hm hcell ih hD r2 (by omega) (by omega) (by omega) a3 (by omega)) (by omega) (fun r h3 hp => ?_)
    obtain ⟨rfl, g3, r3, p1, p2, p3, p4, lp, o3, c3⟩ := hp
    have b3 := g3.1
    have o3' : h3.2.2 (xb E + h.1) = some (ob 2 [va_rf lr, .int (nI sz), .int (bI (ccE eX rs))]) := (g3.2.2.2.2 _ (by omega) (by omega)).trans o2
    refine wp_callV1 xc_RE_42 d2 (Nat.le_of_ble_eq_true rfl) (by repeat first | assumption | exact xg_eq | exact xn_eq (by first | rfl | omega) | refine xg_ne (by first | assumption | omega | (simp only [xput, xnew]; omega)) ?_ | refine xn_ne (by first | assumption | omega | (simp only [xput, xnew]; omega)) ?_ | exact rfl) (c_CH_add (a := xb E + h.1) (r := xb E + h2.1) (by omega) o3' o3) (by omega) (fun r h4 hp => ?_)
    obtain ⟨rfl, f4, o4, o5⟩ := hp
    have e4 : h4.1 = h3.1 := f4.1
    refine K h4 (((g2.tr g3).fr f4 (by simp; omega)).le (by omega)) ⟨f4.at (by simp; omega) r3.1, r3.2.1.mv (f4.2.2 _ (by simp; omega)) (f4.2.2 _ (by simp; omega)), r3.2.2⟩ (by omega) (by omega) p3 (by omega) ⟨some (xb E + h2.1), ?_, ?_⟩
    · rw [o4, ccE_add]
      congr 5
      by_cases hrs : rs = []
      · subst hrs
        rw [if_pos (hlr.mpr rfl), hsz]
        show nI 0 + (nI _ + 0) = nI (ccS sX [_])
        rw [ccS]
        simp [nI_0]
      · rw [if_neg (fun z => hrs (hlr.mp z)), ccS_add _ _ hrs, hsz, ← nI_add, ← nI_add]; rfl
    · rw [e4]
      exact tCo_add hm (by omega) (by omega) c2 (fun q q1 q2 => (f4.2.2 q (by simp; omega)).trans (g3.2.2.2.2 q (by omega) (by omega))) c3 f4 o5
  have lp : ∀ (k : Nat) (h2 : xH) (q : Cc X × RS), k ≤ 28 → rCh xs eX inn s = rCc xs eX inn k q → q.1 ≠ [] → xgw E ra (2 + 4 * (q.2.1 - s.1)) h h2 → Rd E h2 ra sa sr n xs q.2 → s.1 ≤ q.2.1 → s.2.1 ≤ q.2.2.1 → q.2.2.1 ≤ 6 → h.1 < h2.1 → tCo sX eX tX h2 (xb E + h.1) (xb E + h2.1) q.1 →
      wp E (D + 5) m_RE_readChoice 18 [(0, .ref ra), (1, .ref (xb E + h.1)), (2, .int (nI (28 - k)))] [] h2 (fun r' h' => r' = some (.ref (xb E + h.1)) ∧ xgw E ra (2 + 4 * ((rCh xs eX inn s).2.1 - s.1)) h h' ∧ Rd E h' ra sa sr n xs (rCh xs eX inn s).2 ∧ s.1 ≤ (rCh xs eX inn s).2.1 ∧ s.2.1 ≤ (rCh xs eX inn s).2.2.1 ∧ (rCh xs eX inn s).2.2.1 ≤ 6 ∧ tCc sX eX tX h' (xb E + h.1) (xb E + h'.1) (xb E + h.1) (rCh xs eX inn s).1) := by
    intro k
    induction k with
    | zero =>
      intro h2 q hk hq hne g2 r2 a1 a2 a3 a4 t2
      refine wp_iload_n d_RE_readChoice_18 rfl rfl ?_
      refine wp_bipush (v := 28) d_RE_readChoice_19 (by rfl) ?_
      refine wp_icmp_ge (tgt := 47) d_RE_readChoice_21 (by decide) (fun hc => ?_) (fun hc => ?_)
      · exact fin h2 q _ hq g2 r2 a1 a2 a3 a4 t2
      · exact absurd (show (28 : Int32) ≤ nI (28 - 0) by decide) hc
    | succ k ihk =>
      intro h2 q hk hq hne g2 r2 a1 a2 a3 a4 t2
      have w2 := r2.1
      refine wp_iload_n d_RE_readChoice_18 rfl rfl ?_
      refine wp_bipush (v := 28) d_RE_readChoice_19 (by rfl) ?_
      refine wp_icmp_ge (tgt := 47) d_RE_readChoice_21 (by decide) (fun hc => ?_) (fun hc => ?_)
      · exact absurd ((nI_leI (a := 28) (by decide) (by omega)).mp hc) (by omega)
      · refine wp_aload_n d_RE_readChoice_24 rfl rfl ?_
        refine wp_bipush (v := 124) d_RE_readChoice_25 (by rfl) ?_
        refine wp_callV1 xc_RE_46 d_RE_readChoice_27 (Nat.le_of_ble_eq_true rfl) (by repeat first | assumption | exact xg_eq | exact xn_eq (by first | rfl | omega) | refine xg_ne (by first | assumption | omega | (simp only [xput, xnew]; omega)) ?_ | refine xn_ne (by first | assumption | omega | (simp only [xput, xnew]; omega)) ?_ | exact rfl) (c_RE_take hE r2 (by decide)) (by omega) (fun r h3 hp => ?_)
        obtain ⟨rfl, f3, r3⟩ := hp
        have e3 : h3.1 = h2.1 := f3.1
        have g3 : xgw E ra (2 + 4 * (q.2.1 - s.1)) h h3 := g2.fr f3 (by simp)
        obtain ⟨lr, o2, c2⟩ := t2
        have o3 := f3.at (by simp; omega) o2
        have c3 : tRl sX eX tX h3 (xb E + h.1 + 1) (xb E + h3.1) lr q.1.reverse := by rw [e3]; exact c2.mv hm (fun z z1 z2 => f3.2.2 z (by simp; omega)) (Nat.le_refl _) (Nat.le_refl _)
        by_cases hb : rPk xs q.2 = 124
        · rw [rTk, if_pos hb] at r3 ⊢
          have hq := hq.trans (show rCc xs eX inn (k + 1) q = rCc xs eX inn k (q.1 ++ [(rRw xs eX inn 28 ([], rInc q.2)).1], (rRw xs eX inn 28 ([], rInc q.2)).2) by rw [rCc, if_pos hb])
          refine wp_if_eq (tgt := 47) d_RE_readChoice_30 (by decide) (fun hc2 => ?_) (fun hc2 => ?_)
          · exact absurd hc2 (show ¬ (1 : Int32) = 0 by decide)
          · refine wp_aload_n d_RE_readChoice_33 rfl rfl ?_
            refine wp_aload_n d_RE_readChoice_34 rfl rfl ?_
            refine add h3 q.1 (rInc q.2) lr (ccS sX q.1) [] _ 35 _ (Or.inr rfl) ?_ rfl (g3.le (by show _ ≤ 1 + 4 * (q.2.1 + 1 - s.1); omega)) r3 (by show s.1 ≤ q.2.1 + 1; omega) a2 a3 (by omega) o3 c3 (fun h4 g4 r4 p1 p2 p3 p4 t4 => ?_)
            · constructor
              · intro z; subst z
                exact absurd (List.reverse_eq_nil_iff.mp (by cases hrv : q.1.reverse with | nil => rfl | cons x y => rw [hrv] at c3; obtain ⟨_, _, z, _⟩ := c3; cases z)) hne
              · intro z; exact absurd z hne
            · refine wp_iinc d_RE_readChoice_41 rfl rfl (by decide) rfl ?_
              refine wp_goto (tgt := 18) d_RE_readChoice_44 (by decide) ?_
              rw [show nI (28 - (k + 1)) + Int32.ofInt 1 = nI (28 - k) from by rw [show 28 - k = (28 - (k + 1)) + 1 by omega, nI_succ]; rfl]
              exact ihk h4 (q.1 ++ [(rRw xs eX inn 28 ([], rInc q.2)).1], (rRw xs eX inn 28 ([], rInc q.2)).2) (by omega) hq (by simp) g4 r4 p1 p2 p3 p4 t4
        · rw [rTk, if_neg hb] at r3 ⊢
          have hq := hq.trans (show rCc xs eX inn (k + 1) q = q by rw [rCc, if_neg hb])
          refine wp_if_eq (tgt := 47) d_RE_readChoice_30 (by decide) (fun hc2 => ?_) (fun hc2 => ?_)
          · exact fin h3 q _ hq g3 r3 a1 a2 a3 (by omega) ⟨lr, o3, c3⟩
          · exact absurd rfl hc2
  refine wpc_of rfl (Nat.le_of_ble_eq_true rfl) ?_
  refine wp_new xw_RE_35 d_RE_readChoice_0 ?_
  refine wp_dup d_RE_readChoice_3 rfl ?_
  refine wp_callI0 xc_RE_37 d_RE_readChoice_4 (Nat.le_of_ble_eq_true rfl) (c_CH_init (by repeat first | assumption | exact xg_eq | exact xn_eq (by first | rfl | omega) | refine xg_ne (by first | assumption | omega | (simp only [xput, xnew]; omega)) ?_ | refine xn_ne (by first | assumption | omega | (simp only [xput, xnew]; omega)) ?_ | exact rfl)) (by omega) (fun r hh hp => ?_)
  obtain ⟨rfl, hz0⟩ := hp; have hz0 := hz0.symm; subst hz0
  generalize hh2 : xnew E h 3 _ = h2
  have e0 : h2.1 = h.1 + 1 := by rw [← hh2]; rfl
  have g2 : xgw E ra 1 h h2 := by rw [← hh2]; exact (xgw.rf (ra := ra)).new (by decide)
  have o2 : h2.2.2 (xb E + h.1) = some (ob 2 [.null, .int 0, .int 0]) := by rw [← hh2]; exact (by repeat first | assumption | exact xg_eq | exact xn_eq (by first | rfl | omega) | refine xg_ne (by first | assumption | omega | (simp only [xput, xnew]; omega)) ?_ | refine xn_ne (by first | assumption | omega | (simp only [xput, xnew]; omega)) ?_ | exact rfl)
  have r2 : Rd E h2 ra sa sr n xs s := hr.gw l2 l3 g2.2.2.2.2 (by rw [← hh2]; exact (by repeat first | assumption | exact xg_eq | exact xn_eq (by first | rfl | omega) | refine xg_ne (by first | assumption | omega | (simp only [xput, xnew]; omega)) ?_ | refine xn_ne (by first | assumption | omega | (simp only [xput, xnew]; omega)) ?_ | exact rfl)) k5
  clear hh2
  refine wp_astore_n d_RE_readChoice_7 rfl (by decide) rfl ?_
  refine wp_aload_n d_RE_readChoice_8 rfl rfl ?_
  refine wp_aload_n d_RE_readChoice_9 rfl rfl ?_
  refine add h2 [] s none 0 [] _ 10 _ (Or.inl rfl) (by simp) (by simp [ccS]) (g2.le (by omega)) r2 (Nat.le_refl _) (Nat.le_refl _) hg (by omega) o2 rfl (fun h4 g4 r4 p1 p2 p3 p4 t4 => ?_)
  refine wp_iconst (v := 0) d_RE_readChoice_16 (by rfl) ?_
  refine wp_istore_n d_RE_readChoice_17 rfl (by decide) rfl ?_
  exact lp 28 h4 ([(rRw xs eX inn 28 ([], s)).1], (rRw xs eX inn 28 ([], s)).2) (Nat.le_refl _) rfl (by simp) g4 r4 p1 p2 p3 p4 t4
end RI
/-- the reader of a choice, all the way down -/
theorem c_RE_readChoice {E : xE} {kA kV : Nat → Nat} {ra sa sr n : Nat} {xs : List Int32} (hE : xOK E) (hX : xStr E kA kV) : ∀ N, rIH E ra sa sr n xs (tT N) (pCh xs N) N (8 + 5 * N)
  | 0 => fun h s _ _ _ _ h1 h2 => absurd h2 (by omega)
  | N + 1 => (c_RE_readChoice0 (sX := szT N) (eX := emT N) hE hX (tT.mv N) (tT.cell N) (c_RE_readChoice hE hX N) (by omega) : rIH E ra sa sr n xs (tT (N + 1)) (pCh xs (N + 1)) (N + 1) (8 + 5 * N + 5))
end

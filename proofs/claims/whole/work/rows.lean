section
-- ===== PART A: goes FIRST, ahead of the names: the tables' words, and 'selects' of the private methods out of them =====
/-- a private method of a class that the tables say can be made, by its rows of tables_1 -/
def lw_okq (q : MethodName × Nat) : Prop := (q.1.cls ≠ "java/lang/invoke/MethodHandle" ∧ q.1.cls ≠ "java/lang/invoke/VarHandle") ∧ Cond.instantiable q.1.cls q.2 ∈ tables_1 ∧ Cond.privateMethod q.1 ∈ tables_1 ∧ Cond.instanceMethod q.1 ∈ tables_1
theorem lw_p0 : lw_okq (⟨"NamedAgain", "cardOf", "(II)LNamedAgain$Card;"⟩, 10) := ⟨⟨by decide +kernel, by decide +kernel⟩, List.mem_of_getElem? (i := 17) (by decide +kernel), List.mem_of_getElem? (i := 282) (by decide +kernel), List.mem_of_getElem? (i := 283) (by decide +kernel)⟩
theorem lw_p1 : lw_okq (⟨"NamedAgain", "barOf", "(ILNamedAgain$Card;)I"⟩, 10) := ⟨⟨by decide +kernel, by decide +kernel⟩, List.mem_of_getElem? (i := 17) (by decide +kernel), List.mem_of_getElem? (i := 396) (by decide +kernel), List.mem_of_getElem? (i := 397) (by decide +kernel)⟩
theorem lw_p2 : lw_okq (⟨"NamedAgain$Card", "toothCameBack", "(LNamedAgain$Card;)Z"⟩, 8) := ⟨⟨by decide +kernel, by decide +kernel⟩, List.mem_of_getElem? (i := 32) (by decide +kernel), List.mem_of_getElem? (i := 406) (by decide +kernel), List.mem_of_getElem? (i := 407) (by decide +kernel)⟩
theorem lw_p3 : lw_okq (⟨"NamedAgain$Card", "strangeToParent", "(LNamedAgain$Card;)Z"⟩, 8) := ⟨⟨by decide +kernel, by decide +kernel⟩, List.mem_of_getElem? (i := 32) (by decide +kernel), List.mem_of_getElem? (i := 411) (by decide +kernel), List.mem_of_getElem? (i := 412) (by decide +kernel)⟩
theorem lw_p4 : lw_okq (⟨"NamedAgain$Law", "weighTeeth", "(LNamedAgain$Card;LNamedAgain$Card;)I"⟩, 4) := ⟨⟨by decide +kernel, by decide +kernel⟩, List.mem_of_getElem? (i := 211) (by decide +kernel), List.mem_of_getElem? (i := 428) (by decide +kernel), List.mem_of_getElem? (i := 429) (by decide +kernel)⟩
theorem lw_p5 : lw_okq (⟨"NamedAgain$Law", "weighMarks", "(LNamedAgain$Card;LNamedAgain$Card;)I"⟩, 4) := ⟨⟨by decide +kernel, by decide +kernel⟩, List.mem_of_getElem? (i := 211) (by decide +kernel), List.mem_of_getElem? (i := 433) (by decide +kernel), List.mem_of_getElem? (i := 434) (by decide +kernel)⟩
theorem lw_p6 : lw_okq (⟨"NamedAgain$Law", "weighSheets", "(LNamedAgain$Card;LNamedAgain$Card;)I"⟩, 4) := ⟨⟨by decide +kernel, by decide +kernel⟩, List.mem_of_getElem? (i := 211) (by decide +kernel), List.mem_of_getElem? (i := 437) (by decide +kernel), List.mem_of_getElem? (i := 438) (by decide +kernel)⟩
theorem lw_p7 : lw_okq (⟨"NamedAgain", "pairUp", "()V"⟩, 10) := ⟨⟨by decide +kernel, by decide +kernel⟩, List.mem_of_getElem? (i := 17) (by decide +kernel), List.mem_of_getElem? (i := 446) (by decide +kernel), List.mem_of_getElem? (i := 447) (by decide +kernel)⟩
theorem lw_p8 : lw_okq (⟨"NamedAgain$Pairing", "appraise", "()V"⟩, 10) := ⟨⟨by decide +kernel, by decide +kernel⟩, List.mem_of_getElem? (i := 124) (by decide +kernel), List.mem_of_getElem? (i := 462) (by decide +kernel), List.mem_of_getElem? (i := 463) (by decide +kernel)⟩
theorem lw_p9 : lw_okq (⟨"NamedAgain$Pairing", "place", "(I)V"⟩, 10) := ⟨⟨by decide +kernel, by decide +kernel⟩, List.mem_of_getElem? (i := 124) (by decide +kernel), List.mem_of_getElem? (i := 468) (by decide +kernel), List.mem_of_getElem? (i := 469) (by decide +kernel)⟩
theorem lw_p10 : lw_okq (⟨"NamedAgain$Pairing", "measure", "(I)V"⟩, 10) := ⟨⟨by decide +kernel, by decide +kernel⟩, List.mem_of_getElem? (i := 124) (by decide +kernel), List.mem_of_getElem? (i := 473) (by decide +kernel), List.mem_of_getElem? (i := 474) (by decide +kernel)⟩
theorem lw_p11 : lw_okq (⟨"NamedAgain$Pairing", "nearest", "()I"⟩, 10) := ⟨⟨by decide +kernel, by decide +kernel⟩, List.mem_of_getElem? (i := 124) (by decide +kernel), List.mem_of_getElem? (i := 477) (by decide +kernel), List.mem_of_getElem? (i := 478) (by decide +kernel)⟩
theorem lw_p12 : lw_okq (⟨"NamedAgain$Pairing", "shiftPrices", "(J)V"⟩, 10) := ⟨⟨by decide +kernel, by decide +kernel⟩, List.mem_of_getElem? (i := 124) (by decide +kernel), List.mem_of_getElem? (i := 481) (by decide +kernel), List.mem_of_getElem? (i := 482) (by decide +kernel)⟩
theorem lw_p13 : lw_okq (⟨"NamedAgain$Pairing", "readOff", "()V"⟩, 10) := ⟨⟨by decide +kernel, by decide +kernel⟩, List.mem_of_getElem? (i := 124) (by decide +kernel), List.mem_of_getElem? (i := 485) (by decide +kernel), List.mem_of_getElem? (i := 486) (by decide +kernel)⟩
theorem lw_p14 : lw_okq (⟨"NamedAgain", "inDoubt", "(I)Z"⟩, 10) := ⟨⟨by decide +kernel, by decide +kernel⟩, List.mem_of_getElem? (i := 17) (by decide +kernel), List.mem_of_getElem? (i := 525) (by decide +kernel), List.mem_of_getElem? (i := 526) (by decide +kernel)⟩
theorem lw_p15 : lw_okq (⟨"NamedAgain$Reader", "skipBlanks", "()V"⟩, 5) := ⟨⟨by decide +kernel, by decide +kernel⟩, List.mem_of_getElem? (i := 186) (by decide +kernel), List.mem_of_getElem? (i := 555) (by decide +kernel), List.mem_of_getElem? (i := 556) (by decide +kernel)⟩
def lw_privs_1 : List (MethodName × Nat) := [(⟨"NamedAgain", "cardOf", "(II)LNamedAgain$Card;"⟩, 10), (⟨"NamedAgain", "barOf", "(ILNamedAgain$Card;)I"⟩, 10), (⟨"NamedAgain$Card", "toothCameBack", "(LNamedAgain$Card;)Z"⟩, 8), (⟨"NamedAgain$Card", "strangeToParent", "(LNamedAgain$Card;)Z"⟩, 8), (⟨"NamedAgain$Law", "weighTeeth", "(LNamedAgain$Card;LNamedAgain$Card;)I"⟩, 4), (⟨"NamedAgain$Law", "weighMarks", "(LNamedAgain$Card;LNamedAgain$Card;)I"⟩, 4), (⟨"NamedAgain$Law", "weighSheets", "(LNamedAgain$Card;LNamedAgain$Card;)I"⟩, 4), (⟨"NamedAgain", "pairUp", "()V"⟩, 10), (⟨"NamedAgain$Pairing", "appraise", "()V"⟩, 10), (⟨"NamedAgain$Pairing", "place", "(I)V"⟩, 10), (⟨"NamedAgain$Pairing", "measure", "(I)V"⟩, 10), (⟨"NamedAgain$Pairing", "nearest", "()I"⟩, 10), (⟨"NamedAgain$Pairing", "shiftPrices", "(J)V"⟩, 10), (⟨"NamedAgain$Pairing", "readOff", "()V"⟩, 10), (⟨"NamedAgain", "inDoubt", "(I)Z"⟩, 10), (⟨"NamedAgain$Reader", "skipBlanks", "()V"⟩, 5)]
theorem lw_r1 : ∀ q ∈ lw_privs_1, lw_okq q := List.forall_mem_cons.mpr ⟨lw_p0, List.forall_mem_cons.mpr ⟨lw_p1, List.forall_mem_cons.mpr ⟨lw_p2, List.forall_mem_cons.mpr ⟨lw_p3, List.forall_mem_cons.mpr ⟨lw_p4, List.forall_mem_cons.mpr ⟨lw_p5, List.forall_mem_cons.mpr ⟨lw_p6, List.forall_mem_cons.mpr ⟨lw_p7, List.forall_mem_cons.mpr ⟨lw_p8, List.forall_mem_cons.mpr ⟨lw_p9, List.forall_mem_cons.mpr ⟨lw_p10, List.forall_mem_cons.mpr ⟨lw_p11, List.forall_mem_cons.mpr ⟨lw_p12, List.forall_mem_cons.mpr ⟨lw_p13, List.forall_mem_cons.mpr ⟨lw_p14, List.forall_mem_cons.mpr ⟨lw_p15, fun _ h => absurd h List.not_mem_nil⟩⟩⟩⟩⟩⟩⟩⟩⟩⟩⟩⟩⟩⟩⟩⟩
theorem lw_p16 : lw_okq (⟨"NamedAgain$Reader", "takeStatement", "(LNamedAgain$Law;)Z"⟩, 5) := ⟨⟨by decide +kernel, by decide +kernel⟩, List.mem_of_getElem? (i := 186) (by decide +kernel), List.mem_of_getElem? (i := 559) (by decide +kernel), List.mem_of_getElem? (i := 560) (by decide +kernel)⟩
theorem lw_p17 : lw_okq (⟨"NamedAgain$Reader", "takeWord", "(Ljava/lang/String;)Z"⟩, 5) := ⟨⟨by decide +kernel, by decide +kernel⟩, List.mem_of_getElem? (i := 186) (by decide +kernel), List.mem_of_getElem? (i := 564) (by decide +kernel), List.mem_of_getElem? (i := 565) (by decide +kernel)⟩
theorem lw_p18 : lw_okq (⟨"NamedAgain$Reader", "endOfRun", "(CC)I"⟩, 5) := ⟨⟨by decide +kernel, by decide +kernel⟩, List.mem_of_getElem? (i := 186) (by decide +kernel), List.mem_of_getElem? (i := 568) (by decide +kernel), List.mem_of_getElem? (i := 569) (by decide +kernel)⟩
theorem lw_p19 : lw_okq (⟨"NamedAgain$Reader", "takeEntry", "([III)Z"⟩, 5) := ⟨⟨by decide +kernel, by decide +kernel⟩, List.mem_of_getElem? (i := 186) (by decide +kernel), List.mem_of_getElem? (i := 621) (by decide +kernel), List.mem_of_getElem? (i := 622) (by decide +kernel)⟩
theorem lw_p20 : lw_okq (⟨"NamedAgain$Reader", "takeNumber", "(II)Z"⟩, 5) := ⟨⟨by decide +kernel, by decide +kernel⟩, List.mem_of_getElem? (i := 186) (by decide +kernel), List.mem_of_getElem? (i := 625) (by decide +kernel), List.mem_of_getElem? (i := 626) (by decide +kernel)⟩
theorem lw_p21 : lw_okq (⟨"NamedAgain$Reader", "takeEnd", "()Z"⟩, 5) := ⟨⟨by decide +kernel, by decide +kernel⟩, List.mem_of_getElem? (i := 186) (by decide +kernel), List.mem_of_getElem? (i := 630) (by decide +kernel), List.mem_of_getElem? (i := 631) (by decide +kernel)⟩
theorem lw_p22 : lw_okq (⟨"NamedAgain$Reader", "takeTerm", "([IIII)Z"⟩, 5) := ⟨⟨by decide +kernel, by decide +kernel⟩, List.mem_of_getElem? (i := 186) (by decide +kernel), List.mem_of_getElem? (i := 637) (by decide +kernel), List.mem_of_getElem? (i := 638) (by decide +kernel)⟩
theorem lw_p23 : lw_okq (⟨"NamedAgain", "howManyInDoubt", "()I"⟩, 10) := ⟨⟨by decide +kernel, by decide +kernel⟩, List.mem_of_getElem? (i := 17) (by decide +kernel), List.mem_of_getElem? (i := 661) (by decide +kernel), List.mem_of_getElem? (i := 662) (by decide +kernel)⟩
theorem lw_p24 : lw_okq (⟨"NamedAgain", "howManyUnpaired", "()I"⟩, 10) := ⟨⟨by decide +kernel, by decide +kernel⟩, List.mem_of_getElem? (i := 17) (by decide +kernel), List.mem_of_getElem? (i := 665) (by decide +kernel), List.mem_of_getElem? (i := 666) (by decide +kernel)⟩
theorem lw_p25 : lw_okq (⟨"NamedAgainModel", "isFile", "(II)Z"⟩, 23) := ⟨⟨by decide +kernel, by decide +kernel⟩, List.mem_of_getElem? (i := 669) (by decide +kernel), List.mem_of_getElem? (i := 757) (by decide +kernel), List.mem_of_getElem? (i := 758) (by decide +kernel)⟩
theorem lw_p26 : lw_okq (⟨"NamedAgainModel", "mends", "(IIII)Z"⟩, 23) := ⟨⟨by decide +kernel, by decide +kernel⟩, List.mem_of_getElem? (i := 669) (by decide +kernel), List.mem_of_getElem? (i := 761) (by decide +kernel), List.mem_of_getElem? (i := 762) (by decide +kernel)⟩
theorem lw_p27 : lw_okq (⟨"NamedAgainModel", "piecesOf", "(I)I"⟩, 23) := ⟨⟨by decide +kernel, by decide +kernel⟩, List.mem_of_getElem? (i := 669) (by decide +kernel), List.mem_of_getElem? (i := 787) (by decide +kernel), List.mem_of_getElem? (i := 788) (by decide +kernel)⟩
theorem lw_p28 : lw_okq (⟨"NamedAgainModel", "ofBody", "(II)I"⟩, 23) := ⟨⟨by decide +kernel, by decide +kernel⟩, List.mem_of_getElem? (i := 669) (by decide +kernel), List.mem_of_getElem? (i := 795) (by decide +kernel), List.mem_of_getElem? (i := 796) (by decide +kernel)⟩
theorem lw_p29 : lw_okq (⟨"NamedAgainModel", "ageOf", "(IZ)I"⟩, 23) := ⟨⟨by decide +kernel, by decide +kernel⟩, List.mem_of_getElem? (i := 669) (by decide +kernel), List.mem_of_getElem? (i := 802) (by decide +kernel), List.mem_of_getElem? (i := 803) (by decide +kernel)⟩
theorem lw_p30 : lw_okq (⟨"NamedAgainModel", "sizeOf", "(I)I"⟩, 23) := ⟨⟨by decide +kernel, by decide +kernel⟩, List.mem_of_getElem? (i := 669) (by decide +kernel), List.mem_of_getElem? (i := 819) (by decide +kernel), List.mem_of_getElem? (i := 820) (by decide +kernel)⟩
theorem lw_p31 : lw_okq (⟨"NamedAgainModel", "isPair", "(II)Z"⟩, 23) := ⟨⟨by decide +kernel, by decide +kernel⟩, List.mem_of_getElem? (i := 669) (by decide +kernel), List.mem_of_getElem? (i := 830) (by decide +kernel), List.mem_of_getElem? (i := 831) (by decide +kernel)⟩
def lw_privs_2 : List (MethodName × Nat) := [(⟨"NamedAgain$Reader", "takeStatement", "(LNamedAgain$Law;)Z"⟩, 5), (⟨"NamedAgain$Reader", "takeWord", "(Ljava/lang/String;)Z"⟩, 5), (⟨"NamedAgain$Reader", "endOfRun", "(CC)I"⟩, 5), (⟨"NamedAgain$Reader", "takeEntry", "([III)Z"⟩, 5), (⟨"NamedAgain$Reader", "takeNumber", "(II)Z"⟩, 5), (⟨"NamedAgain$Reader", "takeEnd", "()Z"⟩, 5), (⟨"NamedAgain$Reader", "takeTerm", "([IIII)Z"⟩, 5), (⟨"NamedAgain", "howManyInDoubt", "()I"⟩, 10), (⟨"NamedAgain", "howManyUnpaired", "()I"⟩, 10), (⟨"NamedAgainModel", "isFile", "(II)Z"⟩, 23), (⟨"NamedAgainModel", "mends", "(IIII)Z"⟩, 23), (⟨"NamedAgainModel", "piecesOf", "(I)I"⟩, 23), (⟨"NamedAgainModel", "ofBody", "(II)I"⟩, 23), (⟨"NamedAgainModel", "ageOf", "(IZ)I"⟩, 23), (⟨"NamedAgainModel", "sizeOf", "(I)I"⟩, 23), (⟨"NamedAgainModel", "isPair", "(II)Z"⟩, 23)]
theorem lw_r2 : ∀ q ∈ lw_privs_2, lw_okq q := List.forall_mem_cons.mpr ⟨lw_p16, List.forall_mem_cons.mpr ⟨lw_p17, List.forall_mem_cons.mpr ⟨lw_p18, List.forall_mem_cons.mpr ⟨lw_p19, List.forall_mem_cons.mpr ⟨lw_p20, List.forall_mem_cons.mpr ⟨lw_p21, List.forall_mem_cons.mpr ⟨lw_p22, List.forall_mem_cons.mpr ⟨lw_p23, List.forall_mem_cons.mpr ⟨lw_p24, List.forall_mem_cons.mpr ⟨lw_p25, List.forall_mem_cons.mpr ⟨lw_p26, List.forall_mem_cons.mpr ⟨lw_p27, List.forall_mem_cons.mpr ⟨lw_p28, List.forall_mem_cons.mpr ⟨lw_p29, List.forall_mem_cons.mpr ⟨lw_p30, List.forall_mem_cons.mpr ⟨lw_p31, fun _ h => absurd h List.not_mem_nil⟩⟩⟩⟩⟩⟩⟩⟩⟩⟩⟩⟩⟩⟩⟩⟩
theorem lw_p32 : lw_okq (⟨"NamedAgainModel", "shutOf", "(II)I"⟩, 23) := ⟨⟨by decide +kernel, by decide +kernel⟩, List.mem_of_getElem? (i := 669) (by decide +kernel), List.mem_of_getElem? (i := 834) (by decide +kernel), List.mem_of_getElem? (i := 835) (by decide +kernel)⟩
theorem lw_p33 : lw_okq (⟨"NamedAgainModel", "ofMissing", "(II)I"⟩, 23) := ⟨⟨by decide +kernel, by decide +kernel⟩, List.mem_of_getElem? (i := 669) (by decide +kernel), List.mem_of_getElem? (i := 838) (by decide +kernel), List.mem_of_getElem? (i := 839) (by decide +kernel)⟩
theorem lw_p34 : lw_okq (⟨"NamedAgainModel", "pointsOf", "(II)I"⟩, 23) := ⟨⟨by decide +kernel, by decide +kernel⟩, List.mem_of_getElem? (i := 669) (by decide +kernel), List.mem_of_getElem? (i := 849) (by decide +kernel), List.mem_of_getElem? (i := 850) (by decide +kernel)⟩
theorem lw_p35 : lw_okq (⟨"NamedAgainModel", "shares", "()V"⟩, 23) := ⟨⟨by decide +kernel, by decide +kernel⟩, List.mem_of_getElem? (i := 669) (by decide +kernel), List.mem_of_getElem? (i := 858) (by decide +kernel), List.mem_of_getElem? (i := 859) (by decide +kernel)⟩
theorem lw_p36 : lw_okq (⟨"NamedAgainModel", "measures", "()V"⟩, 23) := ⟨⟨by decide +kernel, by decide +kernel⟩, List.mem_of_getElem? (i := 669) (by decide +kernel), List.mem_of_getElem? (i := 862) (by decide +kernel), List.mem_of_getElem? (i := 863) (by decide +kernel)⟩
theorem lw_p37 : lw_okq (⟨"NamedAgainModel", "isNamed", "(I)Z"⟩, 23) := ⟨⟨by decide +kernel, by decide +kernel⟩, List.mem_of_getElem? (i := 669) (by decide +kernel), List.mem_of_getElem? (i := 866) (by decide +kernel), List.mem_of_getElem? (i := 867) (by decide +kernel)⟩
theorem lw_p38 : lw_okq (⟨"NamedAgainModel", "pairs", "()I"⟩, 23) := ⟨⟨by decide +kernel, by decide +kernel⟩, List.mem_of_getElem? (i := 669) (by decide +kernel), List.mem_of_getElem? (i := 870) (by decide +kernel), List.mem_of_getElem? (i := 871) (by decide +kernel)⟩
theorem lw_p39 : lw_okq (⟨"NamedAgainModel", "marginOf", "(I)I"⟩, 23) := ⟨⟨by decide +kernel, by decide +kernel⟩, List.mem_of_getElem? (i := 669) (by decide +kernel), List.mem_of_getElem? (i := 878) (by decide +kernel), List.mem_of_getElem? (i := 879) (by decide +kernel)⟩
theorem lw_p40 : lw_okq (⟨"NamedAgainModel", "sealed", "(II)I"⟩, 23) := ⟨⟨by decide +kernel, by decide +kernel⟩, List.mem_of_getElem? (i := 669) (by decide +kernel), List.mem_of_getElem? (i := 886) (by decide +kernel), List.mem_of_getElem? (i := 887) (by decide +kernel)⟩
theorem lw_p41 : lw_okq (⟨"NamedAgainModel", "isDoubted", "(I)Z"⟩, 23) := ⟨⟨by decide +kernel, by decide +kernel⟩, List.mem_of_getElem? (i := 669) (by decide +kernel), List.mem_of_getElem? (i := 901) (by decide +kernel), List.mem_of_getElem? (i := 902) (by decide +kernel)⟩
theorem lw_p42 : lw_okq (⟨"NamedAgainModel", "four", "(I)V"⟩, 23) := ⟨⟨by decide +kernel, by decide +kernel⟩, List.mem_of_getElem? (i := 669) (by decide +kernel), List.mem_of_getElem? (i := 913) (by decide +kernel), List.mem_of_getElem? (i := 914) (by decide +kernel)⟩
theorem lw_p43 : lw_okq (⟨"NamedAgainModel", "blanks", "()V"⟩, 23) := ⟨⟨by decide +kernel, by decide +kernel⟩, List.mem_of_getElem? (i := 669) (by decide +kernel), List.mem_of_getElem? (i := 924) (by decide +kernel), List.mem_of_getElem? (i := 925) (by decide +kernel)⟩
theorem lw_p44 : lw_okq (⟨"NamedAgainModel", "statement", "()Z"⟩, 23) := ⟨⟨by decide +kernel, by decide +kernel⟩, List.mem_of_getElem? (i := 669) (by decide +kernel), List.mem_of_getElem? (i := 928) (by decide +kernel), List.mem_of_getElem? (i := 929) (by decide +kernel)⟩
theorem lw_p45 : lw_okq (⟨"NamedAgainModel", "takes", "(J)Z"⟩, 23) := ⟨⟨by decide +kernel, by decide +kernel⟩, List.mem_of_getElem? (i := 669) (by decide +kernel), List.mem_of_getElem? (i := 933) (by decide +kernel), List.mem_of_getElem? (i := 934) (by decide +kernel)⟩
theorem lw_p46 : lw_okq (⟨"NamedAgainModel", "word", "()J"⟩, 23) := ⟨⟨by decide +kernel, by decide +kernel⟩, List.mem_of_getElem? (i := 669) (by decide +kernel), List.mem_of_getElem? (i := 937) (by decide +kernel), List.mem_of_getElem? (i := 938) (by decide +kernel)⟩
theorem lw_p47 : lw_okq (⟨"NamedAgainModel", "takesNumber", "(II)Z"⟩, 23) := ⟨⟨by decide +kernel, by decide +kernel⟩, List.mem_of_getElem? (i := 669) (by decide +kernel), List.mem_of_getElem? (i := 943) (by decide +kernel), List.mem_of_getElem? (i := 944) (by decide +kernel)⟩
def lw_privs_3 : List (MethodName × Nat) := [(⟨"NamedAgainModel", "shutOf", "(II)I"⟩, 23), (⟨"NamedAgainModel", "ofMissing", "(II)I"⟩, 23), (⟨"NamedAgainModel", "pointsOf", "(II)I"⟩, 23), (⟨"NamedAgainModel", "shares", "()V"⟩, 23), (⟨"NamedAgainModel", "measures", "()V"⟩, 23), (⟨"NamedAgainModel", "isNamed", "(I)Z"⟩, 23), (⟨"NamedAgainModel", "pairs", "()I"⟩, 23), (⟨"NamedAgainModel", "marginOf", "(I)I"⟩, 23), (⟨"NamedAgainModel", "sealed", "(II)I"⟩, 23), (⟨"NamedAgainModel", "isDoubted", "(I)Z"⟩, 23), (⟨"NamedAgainModel", "four", "(I)V"⟩, 23), (⟨"NamedAgainModel", "blanks", "()V"⟩, 23), (⟨"NamedAgainModel", "statement", "()Z"⟩, 23), (⟨"NamedAgainModel", "takes", "(J)Z"⟩, 23), (⟨"NamedAgainModel", "word", "()J"⟩, 23), (⟨"NamedAgainModel", "takesNumber", "(II)Z"⟩, 23)]
theorem lw_r3 : ∀ q ∈ lw_privs_3, lw_okq q := List.forall_mem_cons.mpr ⟨lw_p32, List.forall_mem_cons.mpr ⟨lw_p33, List.forall_mem_cons.mpr ⟨lw_p34, List.forall_mem_cons.mpr ⟨lw_p35, List.forall_mem_cons.mpr ⟨lw_p36, List.forall_mem_cons.mpr ⟨lw_p37, List.forall_mem_cons.mpr ⟨lw_p38, List.forall_mem_cons.mpr ⟨lw_p39, List.forall_mem_cons.mpr ⟨lw_p40, List.forall_mem_cons.mpr ⟨lw_p41, List.forall_mem_cons.mpr ⟨lw_p42, List.forall_mem_cons.mpr ⟨lw_p43, List.forall_mem_cons.mpr ⟨lw_p44, List.forall_mem_cons.mpr ⟨lw_p45, List.forall_mem_cons.mpr ⟨lw_p46, List.forall_mem_cons.mpr ⟨lw_p47, fun _ h => absurd h List.not_mem_nil⟩⟩⟩⟩⟩⟩⟩⟩⟩⟩⟩⟩⟩⟩⟩⟩
theorem lw_p48 : lw_okq (⟨"NamedAgainModel", "bodies", "()I"⟩, 23) := ⟨⟨by decide +kernel, by decide +kernel⟩, List.mem_of_getElem? (i := 669) (by decide +kernel), List.mem_of_getElem? (i := 960) (by decide +kernel), List.mem_of_getElem? (i := 961) (by decide +kernel)⟩
theorem lw_p49 : lw_okq (⟨"NamedAgainModel", "names", "(Z)I"⟩, 23) := ⟨⟨by decide +kernel, by decide +kernel⟩, List.mem_of_getElem? (i := 669) (by decide +kernel), List.mem_of_getElem? (i := 964) (by decide +kernel), List.mem_of_getElem? (i := 965) (by decide +kernel)⟩
theorem lw_p50 : lw_okq (⟨"NamedAgainModel", "alone", "()I"⟩, 23) := ⟨⟨by decide +kernel, by decide +kernel⟩, List.mem_of_getElem? (i := 669) (by decide +kernel), List.mem_of_getElem? (i := 968) (by decide +kernel), List.mem_of_getElem? (i := 969) (by decide +kernel)⟩
def lw_privs_4 : List (MethodName × Nat) := [(⟨"NamedAgainModel", "bodies", "()I"⟩, 23), (⟨"NamedAgainModel", "names", "(Z)I"⟩, 23), (⟨"NamedAgainModel", "alone", "()I"⟩, 23)]
theorem lw_r4 : ∀ q ∈ lw_privs_4, lw_okq q := List.forall_mem_cons.mpr ⟨lw_p48, List.forall_mem_cons.mpr ⟨lw_p49, List.forall_mem_cons.mpr ⟨lw_p50, fun _ h => absurd h List.not_mem_nil⟩⟩⟩
def lw_privs : List (MethodName × Nat) := lw_privs_1 ++ (lw_privs_2 ++ (lw_privs_3 ++ (lw_privs_4)))
def lw_tbl : List Cond := k2_sels lw_privs ++ tables_1
theorem lw_privs_ok : ∀ q ∈ lw_privs, lw_okq q := by
  show ∀ q ∈ lw_privs_1 ++ (lw_privs_2 ++ (lw_privs_3 ++ (lw_privs_4))), lw_okq q
  exact List.forall_mem_append.mpr ⟨lw_r1, List.forall_mem_append.mpr ⟨lw_r2, List.forall_mem_append.mpr ⟨lw_r3, lw_r4⟩⟩⟩
-- ===== end of PART A; then your names; then what follows =====
end
section
/-! ===== BEGIN printed: names, fields, word lists, decode rows ===== -/
def RX0 : String := "NamedAgain$Bodies"
def TX0 : u_T := fun k => match k with
  | 0 => ("NamedAgain$Bodies", "files", "LNamedAgain$Heap;", true)
  | 1 => ("NamedAgain$Bodies", "leaders", "[I", true)
  | _ => ("NamedAgain$Bodies", "names", "[I", true)
def tyX0 : Nat → FieldType := fun k => match k with
  | 0 => .object "NamedAgain$Heap"
  | 1 => .array .int
  | _ => .array .int
abbrev wsX00 : List Cond := u_ws RX0 TX0 3
theorem nmX0 : ∀ a, a < 3 → ∀ b, b < 3 → a ≠ b → (TX0 a).2.1 ≠ (TX0 b).2.1 := by decide +kernel
theorem tyX0_ok : ∀ k, k < 3 → parseFieldDescriptor (TX0 k).2.2.1 = some (tyX0 k) := by decide +kernel
abbrev cX0_init : ByteArray := prog_2_method_1_code
def yX0_init : MethodName := ⟨RX0, "<init>", "()V"⟩
abbrev cX0_leaderOf : ByteArray := prog_2_method_2_code
def yX0_leaderOf : MethodName := ⟨RX0, "leaderOf", "(I)I"⟩
abbrev cX0_leads : ByteArray := prog_2_method_3_code
def yX0_leads : MethodName := ⟨RX0, "leads", "(I)Z"⟩
abbrev cX0_unite : ByteArray := prog_2_method_4_code
def yX0_unite : MethodName := ⟨RX0, "unite", "(II)V"⟩
abbrev cX0_gather : ByteArray := prog_2_method_5_code
def yX0_gather : MethodName := ⟨RX0, "gather", "(ILNamedAgain$Card;)V"⟩
abbrev cX0_piecesBeside : ByteArray := prog_2_method_6_code
def yX0_piecesBeside : MethodName := ⟨RX0, "piecesBeside", "(I)I"⟩
abbrev cX0_sizeOf : ByteArray := prog_2_method_7_code
def yX0_sizeOf : MethodName := ⟨RX0, "sizeOf", "(I)I"⟩
abbrev cX0_howMany : ByteArray := prog_2_method_8_code
def yX0_howMany : MethodName := ⟨RX0, "howMany", "()I"⟩
abbrev cX0_howManyNamed : ByteArray := prog_2_method_9_code
def yX0_howManyNamed : MethodName := ⟨RX0, "howManyNamed", "()I"⟩
abbrev cX0_hasGiven : ByteArray := prog_2_method_10_code
def yX0_hasGiven : MethodName := ⟨RX0, "hasGiven", "(I)Z"⟩
def RX1 : String := "NamedAgain$Card"
def TX1 : u_T := fun k => match k with
  | 0 => ("NamedAgain$Card", "sex", "I", false)
  | 1 => ("NamedAgain$Card", "from", "I", false)
  | 2 => ("NamedAgain$Card", "to", "I", false)
  | 3 => ("NamedAgain$Card", "pieces", "I", false)
  | 4 => ("NamedAgain$Card", "teeth", "[I", true)
  | 5 => ("NamedAgain$Card", "marks", "[I", true)
  | 6 => ("NamedAgain$Card", "sheets", "[I", true)
  | _ => ("NamedAgain$Card", "parent", "[I", true)
def tyX1 : Nat → FieldType := fun k => match k with
  | 0 => .int
  | 1 => .int
  | 2 => .int
  | 3 => .int
  | 4 => .array .int
  | 5 => .array .int
  | 6 => .array .int
  | _ => .array .int
abbrev wsX10 : List Cond := u_ws RX1 TX1 8
theorem nmX1 : ∀ a, a < 8 → ∀ b, b < 8 → a ≠ b → (TX1 a).2.1 ≠ (TX1 b).2.1 := by decide +kernel
theorem tyX1_ok : ∀ k, k < 8 → parseFieldDescriptor (TX1 k).2.2.1 = some (tyX1 k) := by decide +kernel
abbrev cX1_init : ByteArray := prog_3_method_1_code
def yX1_init : MethodName := ⟨RX1, "<init>", "()V"⟩
abbrev cX1_forget : ByteArray := prog_3_method_2_code
def yX1_forget : MethodName := ⟨RX1, "forget", "()V"⟩
abbrev cX1_learn : ByteArray := prog_3_method_3_code
def yX1_learn : MethodName := ⟨RX1, "learn", "(LNamedAgain$Card;)V"⟩
abbrev cX1_answer : ByteArray := prog_3_method_4_code
def yX1_answer : MethodName := ⟨RX1, "answer", "(I)I"⟩
abbrev cX1_barFrom : ByteArray := prog_3_method_5_code
def yX1_barFrom : MethodName := ⟨RX1, "barFrom", "(LNamedAgain$Card;)I"⟩
abbrev cX1_sexUnlike : ByteArray := prog_3_method_6_code
def yX1_sexUnlike : MethodName := ⟨RX1, "sexUnlike", "(LNamedAgain$Card;)Z"⟩
abbrev cX1_ageMeets : ByteArray := prog_3_method_7_code
def yX1_ageMeets : MethodName := ⟨RX1, "ageMeets", "(LNamedAgain$Card;)Z"⟩
abbrev cX1_sheetUnlike : ByteArray := prog_3_method_8_code
def yX1_sheetUnlike : MethodName := ⟨RX1, "sheetUnlike", "(LNamedAgain$Card;)Z"⟩
abbrev cX1_toothCameBack : ByteArray := prog_3_method_9_code
def yX1_toothCameBack : MethodName := ⟨RX1, "toothCameBack", "(LNamedAgain$Card;)Z"⟩
abbrev cX1_strangeToParent : ByteArray := prog_3_method_10_code
def yX1_strangeToParent : MethodName := ⟨RX1, "strangeToParent", "(LNamedAgain$Card;)Z"⟩
abbrev cX1_has : ByteArray := prog_3_method_11_code
def yX1_has : MethodName := ⟨RX1, "has", "(II)Z"⟩
abbrev cX1_forgetRow : ByteArray := prog_3_method_12_code
def yX1_forgetRow : MethodName := ⟨RX1, "forgetRow", "([I)V"⟩
abbrev cX1_learnRow : ByteArray := prog_3_method_13_code
def yX1_learnRow : MethodName := ⟨RX1, "learnRow", "([I[I)V"⟩
def RX2 : String := "NamedAgain$Heap"
def TX2 : u_T := fun k => match k with
  | 0 => ("NamedAgain$Heap", "cards", "[LNamedAgain$Card;", true)
  | _ => ("NamedAgain$Heap", "size", "I", false)
def tyX2 : Nat → FieldType := fun k => match k with
  | 0 => .array (.object "NamedAgain$Card")
  | _ => .int
abbrev wsX20 : List Cond := u_ws RX2 TX2 2
theorem nmX2 : ∀ a, a < 2 → ∀ b, b < 2 → a ≠ b → (TX2 a).2.1 ≠ (TX2 b).2.1 := by decide +kernel
theorem tyX2_ok : ∀ k, k < 2 → parseFieldDescriptor (TX2 k).2.2.1 = some (tyX2 k) := by decide +kernel
abbrev cX2_init : ByteArray := prog_4_method_1_code
def yX2_init : MethodName := ⟨RX2, "<init>", "()V"⟩
abbrev cX2_open : ByteArray := prog_4_method_2_code
def yX2_open : MethodName := ⟨RX2, "open", "()I"⟩
abbrev cX2_find : ByteArray := prog_4_method_3_code
def yX2_find : MethodName := ⟨RX2, "find", "(I)LNamedAgain$Card;"⟩
def RX3 : String := "NamedAgain$Law"
def TX3 : u_T := fun k => match k with
  | 0 => ("NamedAgain$Law", "tooth", "[I", true)
  | 1 => ("NamedAgain$Law", "mark", "[I", true)
  | 2 => ("NamedAgain$Law", "tissue", "[I", true)
  | _ => ("NamedAgain$Law", "terms", "[I", true)
def tyX3 : Nat → FieldType := fun k => match k with
  | 0 => .array .int
  | 1 => .array .int
  | 2 => .array .int
  | _ => .array .int
abbrev wsX30 : List Cond := u_ws RX3 TX3 4
theorem nmX3 : ∀ a, a < 4 → ∀ b, b < 4 → a ≠ b → (TX3 a).2.1 ≠ (TX3 b).2.1 := by decide +kernel
theorem tyX3_ok : ∀ k, k < 4 → parseFieldDescriptor (TX3 k).2.2.1 = some (tyX3 k) := by decide +kernel
abbrev cX3_init : ByteArray := prog_5_method_1_code
def yX3_init : MethodName := ⟨RX3, "<init>", "()V"⟩
abbrev cX3_reset : ByteArray := prog_5_method_2_code
def yX3_reset : MethodName := ⟨RX3, "reset", "()V"⟩
abbrev cX3_weigh : ByteArray := prog_5_method_3_code
def yX3_weigh : MethodName := ⟨RX3, "weigh", "(LNamedAgain$Card;LNamedAgain$Card;)I"⟩
abbrev cX3_weighTeeth : ByteArray := prog_5_method_4_code
def yX3_weighTeeth : MethodName := ⟨RX3, "weighTeeth", "(LNamedAgain$Card;LNamedAgain$Card;)I"⟩
abbrev cX3_weighMarks : ByteArray := prog_5_method_5_code
def yX3_weighMarks : MethodName := ⟨RX3, "weighMarks", "(LNamedAgain$Card;LNamedAgain$Card;)I"⟩
abbrev cX3_weighSheets : ByteArray := prog_5_method_6_code
def yX3_weighSheets : MethodName := ⟨RX3, "weighSheets", "(LNamedAgain$Card;LNamedAgain$Card;)I"⟩
def RX4 : String := "NamedAgain$Pairing"
def TX4 : u_T := fun k => match k with
  | 0 => ("NamedAgain$Pairing", "points", "[[I", true)
  | 1 => ("NamedAgain$Pairing", "partner", "[I", true)
  | 2 => ("NamedAgain$Pairing", "sum", "I", false)
  | 3 => ("NamedAgain$Pairing", "worth", "[[J", true)
  | 4 => ("NamedAgain$Pairing", "rowIn", "[I", true)
  | 5 => ("NamedAgain$Pairing", "rowPrices", "[J", true)
  | 6 => ("NamedAgain$Pairing", "columnPrices", "[J", true)
  | 7 => ("NamedAgain$Pairing", "gaps", "[J", true)
  | 8 => ("NamedAgain$Pairing", "reachedFrom", "[I", true)
  | _ => ("NamedAgain$Pairing", "reached", "[Z", true)
def tyX4 : Nat → FieldType := fun k => match k with
  | 0 => .array (.array .int)
  | 1 => .array .int
  | 2 => .int
  | 3 => .array (.array .long)
  | 4 => .array .int
  | 5 => .array .long
  | 6 => .array .long
  | 7 => .array .long
  | 8 => .array .int
  | _ => .array .boolean
abbrev wsX40 : List Cond := u_ws RX4 TX4 10
theorem nmX4 : ∀ a, a < 10 → ∀ b, b < 10 → a ≠ b → (TX4 a).2.1 ≠ (TX4 b).2.1 := by decide +kernel
theorem tyX4_ok : ∀ k, k < 10 → parseFieldDescriptor (TX4 k).2.2.1 = some (tyX4 k) := by decide +kernel
abbrev cX4_init : ByteArray := prog_6_method_1_code
def yX4_init : MethodName := ⟨RX4, "<init>", "()V"⟩
abbrev cX4_settle : ByteArray := prog_6_method_2_code
def yX4_settle : MethodName := ⟨RX4, "settle", "()V"⟩
abbrev cX4_lossWithout : ByteArray := prog_6_method_3_code
def yX4_lossWithout : MethodName := ⟨RX4, "lossWithout", "(I)I"⟩
abbrev cX4_appraise : ByteArray := prog_6_method_4_code
def yX4_appraise : MethodName := ⟨RX4, "appraise", "()V"⟩
abbrev cX4_readOff : ByteArray := prog_6_method_5_code
def yX4_readOff : MethodName := ⟨RX4, "readOff", "()V"⟩
abbrev cX4_place : ByteArray := prog_6_method_6_code
def yX4_place : MethodName := ⟨RX4, "place", "(I)V"⟩
abbrev cX4_measure : ByteArray := prog_6_method_7_code
def yX4_measure : MethodName := ⟨RX4, "measure", "(I)V"⟩
abbrev cX4_nearest : ByteArray := prog_6_method_8_code
def yX4_nearest : MethodName := ⟨RX4, "nearest", "()I"⟩
abbrev cX4_shiftPrices : ByteArray := prog_6_method_9_code
def yX4_shiftPrices : MethodName := ⟨RX4, "shiftPrices", "(J)V"⟩
def RX5 : String := "NamedAgain$Reader"
def TX5 : u_T := fun k => match k with
  | 0 => ("NamedAgain$Reader", "text", "[B", false)
  | 1 => ("NamedAgain$Reader", "length", "I", false)
  | 2 => ("NamedAgain$Reader", "at", "I", false)
  | 3 => ("NamedAgain$Reader", "number", "I", false)
  | _ => ("NamedAgain$Reader", "faultPlace", "I", false)
def tyX5 : Nat → FieldType := fun k => match k with
  | 0 => .array .byte
  | 1 => .int
  | 2 => .int
  | 3 => .int
  | _ => .int
abbrev wsX50 : List Cond := u_ws RX5 TX5 5
theorem nmX5 : ∀ a, a < 5 → ∀ b, b < 5 → a ≠ b → (TX5 a).2.1 ≠ (TX5 b).2.1 := by decide +kernel
theorem tyX5_ok : ∀ k, k < 5 → parseFieldDescriptor (TX5 k).2.2.1 = some (tyX5 k) := by decide +kernel
abbrev cX5_init : ByteArray := prog_7_method_1_code
def yX5_init : MethodName := ⟨RX5, "<init>", "()V"⟩
abbrev cX5_read : ByteArray := prog_7_method_2_code
def yX5_read : MethodName := ⟨RX5, "read", "([BILNamedAgain$Law;)I"⟩
abbrev cX5_takeStatement : ByteArray := prog_7_method_3_code
def yX5_takeStatement : MethodName := ⟨RX5, "takeStatement", "(LNamedAgain$Law;)Z"⟩
abbrev cX5_takeEntry : ByteArray := prog_7_method_4_code
def yX5_takeEntry : MethodName := ⟨RX5, "takeEntry", "([III)Z"⟩
abbrev cX5_takeTerm : ByteArray := prog_7_method_5_code
def yX5_takeTerm : MethodName := ⟨RX5, "takeTerm", "([IIII)Z"⟩
abbrev cX5_takeWord : ByteArray := prog_7_method_6_code
def yX5_takeWord : MethodName := ⟨RX5, "takeWord", "(Ljava/lang/String;)Z"⟩
abbrev cX5_takeNumber : ByteArray := prog_7_method_7_code
def yX5_takeNumber : MethodName := ⟨RX5, "takeNumber", "(II)Z"⟩
abbrev cX5_takeEnd : ByteArray := prog_7_method_8_code
def yX5_takeEnd : MethodName := ⟨RX5, "takeEnd", "()Z"⟩
abbrev cX5_skipBlanks : ByteArray := prog_7_method_9_code
def yX5_skipBlanks : MethodName := ⟨RX5, "skipBlanks", "()V"⟩
abbrev cX5_endOfRun : ByteArray := prog_7_method_10_code
def yX5_endOfRun : MethodName := ⟨RX5, "endOfRun", "(CC)I"⟩
def RX6 : String := "NamedAgain$Seals"
def TX6 : u_T := fun k => match k with
  | 0 => ("NamedAgain$Seals", "pairs", "[I", true)
  | 1 => ("NamedAgain$Seals", "persons", "[I", true)
  | _ => ("NamedAgain$Seals", "size", "I", false)
def tyX6 : Nat → FieldType := fun k => match k with
  | 0 => .array .int
  | 1 => .array .int
  | _ => .int
abbrev wsX60 : List Cond := u_ws RX6 TX6 3
theorem nmX6 : ∀ a, a < 3 → ∀ b, b < 3 → a ≠ b → (TX6 a).2.1 ≠ (TX6 b).2.1 := by decide +kernel
theorem tyX6_ok : ∀ k, k < 3 → parseFieldDescriptor (TX6 k).2.2.1 = some (tyX6 k) := by decide +kernel
abbrev cX6_init : ByteArray := prog_8_method_1_code
def yX6_init : MethodName := ⟨RX6, "<init>", "()V"⟩
abbrev cX6_bears : ByteArray := prog_8_method_2_code
def yX6_bears : MethodName := ⟨RX6, "bears", "(III)Z"⟩
abbrev cX6_personsOn : ByteArray := prog_8_method_3_code
def yX6_personsOn : MethodName := ⟨RX6, "personsOn", "(II)I"⟩
abbrev cX6_put : ByteArray := prog_8_method_4_code
def yX6_put : MethodName := ⟨RX6, "put", "(III)Z"⟩
abbrev cX6_pairOf : ByteArray := prog_8_method_5_code
def yX6_pairOf : MethodName := ⟨RX6, "pairOf", "(II)I"⟩
def RX7 : String := "NamedAgain$Tape"
def TX7 : u_T := fun k => match k with
  | 0 => ("NamedAgain$Tape", "bytes", "[B", true)
  | _ => ("NamedAgain$Tape", "length", "I", false)
def tyX7 : Nat → FieldType := fun k => match k with
  | 0 => .array .byte
  | _ => .int
abbrev wsX70 : List Cond := u_ws RX7 TX7 2
theorem nmX7 : ∀ a, a < 2 → ∀ b, b < 2 → a ≠ b → (TX7 a).2.1 ≠ (TX7 b).2.1 := by decide +kernel
theorem tyX7_ok : ∀ k, k < 2 → parseFieldDescriptor (TX7 k).2.2.1 = some (tyX7 k) := by decide +kernel
abbrev cX7_init : ByteArray := prog_9_method_1_code
def yX7_init : MethodName := ⟨RX7, "<init>", "()V"⟩
abbrev cX7_hasRoomFor : ByteArray := prog_9_method_2_code
def yX7_hasRoomFor : MethodName := ⟨RX7, "hasRoomFor", "(I)Z"⟩
abbrev cX7_put : ByteArray := prog_9_method_3_code
def yX7_put : MethodName := ⟨RX7, "put", "(I)V"⟩
def RX8 : String := "NamedAgain"
def TX8 : u_T := fun k => match k with
  | 0 => ("NamedAgain", "lost", "LNamedAgain$Heap;", true)
  | 1 => ("NamedAgain", "bodies", "LNamedAgain$Bodies;", true)
  | 2 => ("NamedAgain", "seals", "LNamedAgain$Seals;", true)
  | 3 => ("NamedAgain", "pairs", "LNamedAgain$Pairing;", true)
  | 4 => ("NamedAgain", "tape", "LNamedAgain$Tape;", true)
  | 5 => ("NamedAgain", "reader", "LNamedAgain$Reader;", true)
  | 6 => ("NamedAgain", "seen", "LNamedAgain$Card;", true)
  | 7 => ("NamedAgain", "seenToo", "LNamedAgain$Card;", true)
  | 8 => ("NamedAgain", "inForce", "LNamedAgain$Law;", false)
  | _ => ("NamedAgain", "draft", "LNamedAgain$Law;", false)
def tyX8 : Nat → FieldType := fun k => match k with
  | 0 => .object "NamedAgain$Heap"
  | 1 => .object "NamedAgain$Bodies"
  | 2 => .object "NamedAgain$Seals"
  | 3 => .object "NamedAgain$Pairing"
  | 4 => .object "NamedAgain$Tape"
  | 5 => .object "NamedAgain$Reader"
  | 6 => .object "NamedAgain$Card"
  | 7 => .object "NamedAgain$Card"
  | 8 => .object "NamedAgain$Law"
  | _ => .object "NamedAgain$Law"
abbrev wsX80 : List Cond := u_ws RX8 TX8 10
theorem nmX8 : ∀ a, a < 10 → ∀ b, b < 10 → a ≠ b → (TX8 a).2.1 ≠ (TX8 b).2.1 := by decide +kernel
theorem tyX8_ok : ∀ k, k < 10 → parseFieldDescriptor (TX8 k).2.2.1 = some (tyX8 k) := by decide +kernel
abbrev cX8_init : ByteArray := prog_1_method_1_code
def yX8_init : MethodName := ⟨RX8, "<init>", "()V"⟩
abbrev cX8_file : ByteArray := prog_1_method_2_code
def yX8_file : MethodName := ⟨RX8, "file", "(I)I"⟩
abbrev cX8_sex : ByteArray := prog_1_method_3_code
def yX8_sex : MethodName := ⟨RX8, "sex", "(III)Z"⟩
abbrev cX8_age : ByteArray := prog_1_method_4_code
def yX8_age : MethodName := ⟨RX8, "age", "(IIII)Z"⟩
abbrev cX8_tooth : ByteArray := prog_1_method_5_code
def yX8_tooth : MethodName := ⟨RX8, "tooth", "(IIII)Z"⟩
abbrev cX8_mark : ByteArray := prog_1_method_6_code
def yX8_mark : MethodName := ⟨RX8, "mark", "(IIII)Z"⟩
abbrev cX8_tissue : ByteArray := prog_1_method_7_code
def yX8_tissue : MethodName := ⟨RX8, "tissue", "(IIIII)Z"⟩
abbrev cX8_pieces : ByteArray := prog_1_method_8_code
def yX8_pieces : MethodName := ⟨RX8, "pieces", "(II)Z"⟩
abbrev cX8_unfit : ByteArray := prog_1_method_9_code
def yX8_unfit : MethodName := ⟨RX8, "unfit", "(II)I"⟩
abbrev cX8_join : ByteArray := prog_1_method_10_code
def yX8_join : MethodName := ⟨RX8, "join", "(II)Z"⟩
abbrev cX8_body : ByteArray := prog_1_method_11_code
def yX8_body : MethodName := ⟨RX8, "body", "(I)I"⟩
abbrev cX8_told : ByteArray := prog_1_method_12_code
def yX8_told : MethodName := ⟨RX8, "told", "(II)I"⟩
abbrev cX8_shut : ByteArray := prog_1_method_13_code
def yX8_shut : MethodName := ⟨RX8, "shut", "(II)I"⟩
abbrev cX8_points : ByteArray := prog_1_method_14_code
def yX8_points : MethodName := ⟨RX8, "points", "(II)I"⟩
abbrev cX8_pairing : ByteArray := prog_1_method_15_code
def yX8_pairing : MethodName := ⟨RX8, "pairing", "(I)I"⟩
abbrev cX8_margin : ByteArray := prog_1_method_16_code
def yX8_margin : MethodName := ⟨RX8, "margin", "(I)I"⟩
abbrev cX8_seal : ByteArray := prog_1_method_17_code
def yX8_seal : MethodName := ⟨RX8, "seal", "(III)I"⟩
abbrev cX8_give : ByteArray := prog_1_method_18_code
def yX8_give : MethodName := ⟨RX8, "give", "(I)I"⟩
abbrev cX8_named : ByteArray := prog_1_method_19_code
def yX8_named : MethodName := ⟨RX8, "named", "(II)I"⟩
abbrev cX8_unname : ByteArray := prog_1_method_20_code
def yX8_unname : MethodName := ⟨RX8, "unname", "(I)Z"⟩
abbrev cX8_feed : ByteArray := prog_1_method_21_code
def yX8_feed : MethodName := ⟨RX8, "feed", "(IIIII)I"⟩
abbrev cX8_law : ByteArray := prog_1_method_22_code
def yX8_law : MethodName := ⟨RX8, "law", "(I)I"⟩
abbrev cX8_fault : ByteArray := prog_1_method_23_code
def yX8_fault : MethodName := ⟨RX8, "fault", "()I"⟩
abbrev cX8_count : ByteArray := prog_1_method_24_code
def yX8_count : MethodName := ⟨RX8, "count", "(I)I"⟩
abbrev cX8_within : ByteArray := prog_1_method_25_code
def yX8_within : MethodName := ⟨RX8, "within", "(III)Z"⟩
abbrev cX8_cardOf : ByteArray := prog_1_method_26_code
def yX8_cardOf : MethodName := ⟨RX8, "cardOf", "(II)LNamedAgain$Card;"⟩
abbrev cX8_barOf : ByteArray := prog_1_method_27_code
def yX8_barOf : MethodName := ⟨RX8, "barOf", "(ILNamedAgain$Card;)I"⟩
abbrev cX8_inDoubt : ByteArray := prog_1_method_28_code
def yX8_inDoubt : MethodName := ⟨RX8, "inDoubt", "(I)Z"⟩
abbrev cX8_howManyInDoubt : ByteArray := prog_1_method_29_code
def yX8_howManyInDoubt : MethodName := ⟨RX8, "howManyInDoubt", "()I"⟩
abbrev cX8_howManyUnpaired : ByteArray := prog_1_method_30_code
def yX8_howManyUnpaired : MethodName := ⟨RX8, "howManyUnpaired", "()I"⟩
abbrev cX8_pairUp : ByteArray := prog_1_method_31_code
def yX8_pairUp : MethodName := ⟨RX8, "pairUp", "()V"⟩
def RX9 : String := "NamedAgainModel"
def TX9 : u_T := fun k => match k with
  | 0 => ("NamedAgainModel", "files", "[I", true)
  | 1 => ("NamedAgainModel", "known", "[I", true)
  | 2 => ("NamedAgainModel", "from", "[I", true)
  | 3 => ("NamedAgainModel", "to", "[I", true)
  | 4 => ("NamedAgainModel", "pieces", "[I", true)
  | 5 => ("NamedAgainModel", "bodyOf", "[I", true)
  | 6 => ("NamedAgainModel", "name", "[I", true)
  | 7 => ("NamedAgainModel", "point", "[I", true)
  | 8 => ("NamedAgainModel", "sums", "[I", true)
  | 9 => ("NamedAgainModel", "mine", "[I", true)
  | 10 => ("NamedAgainModel", "seals", "I", false)
  | 11 => ("NamedAgainModel", "sealBody", "[I", true)
  | 12 => ("NamedAgainModel", "sealMissing", "[I", true)
  | 13 => ("NamedAgainModel", "sealPerson", "[I", true)
  | 14 => ("NamedAgainModel", "told", "[I", true)
  | 15 => ("NamedAgainModel", "tape", "[B", true)
  | 16 => ("NamedAgainModel", "text", "[B", true)
  | 17 => ("NamedAgainModel", "taped", "I", false)
  | 18 => ("NamedAgainModel", "size", "I", false)
  | 19 => ("NamedAgainModel", "at", "I", false)
  | 20 => ("NamedAgainModel", "fault", "I", false)
  | 21 => ("NamedAgainModel", "wordEnd", "I", false)
  | _ => ("NamedAgainModel", "number", "I", false)
def tyX9 : Nat → FieldType := fun k => match k with
  | 0 => .array .int
  | 1 => .array .int
  | 2 => .array .int
  | 3 => .array .int
  | 4 => .array .int
  | 5 => .array .int
  | 6 => .array .int
  | 7 => .array .int
  | 8 => .array .int
  | 9 => .array .int
  | 10 => .int
  | 11 => .array .int
  | 12 => .array .int
  | 13 => .array .int
  | 14 => .array .int
  | 15 => .array .byte
  | 16 => .array .byte
  | 17 => .int
  | 18 => .int
  | 19 => .int
  | 20 => .int
  | 21 => .int
  | _ => .int
abbrev wsX90 : List Cond := u_ws RX9 TX9 23
theorem nmX9 : ∀ a, a < 23 → ∀ b, b < 23 → a ≠ b → (TX9 a).2.1 ≠ (TX9 b).2.1 := by decide +kernel
theorem tyX9_ok : ∀ k, k < 23 → parseFieldDescriptor (TX9 k).2.2.1 = some (tyX9 k) := by decide +kernel
abbrev cX9_init : ByteArray := prog_11_method_1_code
def yX9_init : MethodName := ⟨RX9, "<init>", "()V"⟩
abbrev cX9_isIn : ByteArray := prog_11_method_2_code
def yX9_isIn : MethodName := ⟨RX9, "isIn", "(III)Z"⟩
abbrev cX9_one : ByteArray := prog_11_method_3_code
def yX9_one : MethodName := ⟨RX9, "one", "(Z)I"⟩
abbrev cX9_isFile : ByteArray := prog_11_method_4_code
def yX9_isFile : MethodName := ⟨RX9, "isFile", "(II)Z"⟩
abbrev cX9_file : ByteArray := prog_11_method_5_code
def yX9_file : MethodName := ⟨RX9, "file", "(I)I"⟩
abbrev cX9_mends : ByteArray := prog_11_method_6_code
def yX9_mends : MethodName := ⟨RX9, "mends", "(IIII)Z"⟩
abbrev cX9_sex : ByteArray := prog_11_method_7_code
def yX9_sex : MethodName := ⟨RX9, "sex", "(III)Z"⟩
abbrev cX9_age : ByteArray := prog_11_method_8_code
def yX9_age : MethodName := ⟨RX9, "age", "(IIII)Z"⟩
abbrev cX9_tooth : ByteArray := prog_11_method_9_code
def yX9_tooth : MethodName := ⟨RX9, "tooth", "(IIII)Z"⟩
abbrev cX9_mark : ByteArray := prog_11_method_10_code
def yX9_mark : MethodName := ⟨RX9, "mark", "(IIII)Z"⟩
abbrev cX9_tissue : ByteArray := prog_11_method_11_code
def yX9_tissue : MethodName := ⟨RX9, "tissue", "(IIIII)Z"⟩
abbrev cX9_piecesOf : ByteArray := prog_11_method_12_code
def yX9_piecesOf : MethodName := ⟨RX9, "piecesOf", "(I)I"⟩
abbrev cX9_pieces : ByteArray := prog_11_method_13_code
def yX9_pieces : MethodName := ⟨RX9, "pieces", "(II)Z"⟩
abbrev cX9_ofBody : ByteArray := prog_11_method_14_code
def yX9_ofBody : MethodName := ⟨RX9, "ofBody", "(II)I"⟩
abbrev cX9_ageOf : ByteArray := prog_11_method_15_code
def yX9_ageOf : MethodName := ⟨RX9, "ageOf", "(IZ)I"⟩
abbrev cX9_areUnlike : ByteArray := prog_11_method_16_code
def yX9_areUnlike : MethodName := ⟨RX9, "areUnlike", "(II)Z"⟩
abbrev cX9_unfit : ByteArray := prog_11_method_17_code
def yX9_unfit : MethodName := ⟨RX9, "unfit", "(II)I"⟩
abbrev cX9_join : ByteArray := prog_11_method_18_code
def yX9_join : MethodName := ⟨RX9, "join", "(II)Z"⟩
abbrev cX9_body : ByteArray := prog_11_method_19_code
def yX9_body : MethodName := ⟨RX9, "body", "(I)I"⟩
abbrev cX9_sizeOf : ByteArray := prog_11_method_20_code
def yX9_sizeOf : MethodName := ⟨RX9, "sizeOf", "(I)I"⟩
abbrev cX9_told : ByteArray := prog_11_method_21_code
def yX9_told : MethodName := ⟨RX9, "told", "(II)I"⟩
abbrev cX9_ofMissing : ByteArray := prog_11_method_22_code
def yX9_ofMissing : MethodName := ⟨RX9, "ofMissing", "(II)I"⟩
abbrev cX9_sharesNone : ByteArray := prog_11_method_23_code
def yX9_sharesNone : MethodName := ⟨RX9, "sharesNone", "(II)Z"⟩
abbrev cX9_shutOf : ByteArray := prog_11_method_24_code
def yX9_shutOf : MethodName := ⟨RX9, "shutOf", "(II)I"⟩
abbrev cX9_isPair : ByteArray := prog_11_method_25_code
def yX9_isPair : MethodName := ⟨RX9, "isPair", "(II)Z"⟩
abbrev cX9_shut : ByteArray := prog_11_method_26_code
def yX9_shut : MethodName := ⟨RX9, "shut", "(II)I"⟩
abbrev cX9_pointsOf : ByteArray := prog_11_method_27_code
def yX9_pointsOf : MethodName := ⟨RX9, "pointsOf", "(II)I"⟩
abbrev cX9_points : ByteArray := prog_11_method_28_code
def yX9_points : MethodName := ⟨RX9, "points", "(II)I"⟩
abbrev cX9_isNamed : ByteArray := prog_11_method_29_code
def yX9_isNamed : MethodName := ⟨RX9, "isNamed", "(I)Z"⟩
abbrev cX9_measures : ByteArray := prog_11_method_30_code
def yX9_measures : MethodName := ⟨RX9, "measures", "()V"⟩
abbrev cX9_pairs : ByteArray := prog_11_method_31_code
def yX9_pairs : MethodName := ⟨RX9, "pairs", "()I"⟩
abbrev cX9_shares : ByteArray := prog_11_method_32_code
def yX9_shares : MethodName := ⟨RX9, "shares", "()V"⟩
abbrev cX9_pairing : ByteArray := prog_11_method_33_code
def yX9_pairing : MethodName := ⟨RX9, "pairing", "(I)I"⟩
abbrev cX9_marginOf : ByteArray := prog_11_method_34_code
def yX9_marginOf : MethodName := ⟨RX9, "marginOf", "(I)I"⟩
abbrev cX9_margin : ByteArray := prog_11_method_35_code
def yX9_margin : MethodName := ⟨RX9, "margin", "(I)I"⟩
abbrev cX9_sealed : ByteArray := prog_11_method_36_code
def yX9_sealed : MethodName := ⟨RX9, "sealed", "(II)I"⟩
abbrev cX9_bits : ByteArray := prog_11_method_37_code
def yX9_bits : MethodName := ⟨RX9, "bits", "(I)I"⟩
abbrev cX9_seal : ByteArray := prog_11_method_38_code
def yX9_seal : MethodName := ⟨RX9, "seal", "(III)I"⟩
abbrev cX9_give : ByteArray := prog_11_method_39_code
def yX9_give : MethodName := ⟨RX9, "give", "(I)I"⟩
abbrev cX9_isDoubted : ByteArray := prog_11_method_40_code
def yX9_isDoubted : MethodName := ⟨RX9, "isDoubted", "(I)Z"⟩
abbrev cX9_named : ByteArray := prog_11_method_41_code
def yX9_named : MethodName := ⟨RX9, "named", "(II)I"⟩
abbrev cX9_unname : ByteArray := prog_11_method_42_code
def yX9_unname : MethodName := ⟨RX9, "unname", "(I)Z"⟩
abbrev cX9_feed : ByteArray := prog_11_method_43_code
def yX9_feed : MethodName := ⟨RX9, "feed", "(IIIII)I"⟩
abbrev cX9_four : ByteArray := prog_11_method_44_code
def yX9_four : MethodName := ⟨RX9, "four", "(I)V"⟩
abbrev cX9_blanks : ByteArray := prog_11_method_45_code
def yX9_blanks : MethodName := ⟨RX9, "blanks", "()V"⟩
abbrev cX9_word : ByteArray := prog_11_method_46_code
def yX9_word : MethodName := ⟨RX9, "word", "()J"⟩
abbrev cX9_takes : ByteArray := prog_11_method_47_code
def yX9_takes : MethodName := ⟨RX9, "takes", "(J)Z"⟩
abbrev cX9_takesNumber : ByteArray := prog_11_method_48_code
def yX9_takesNumber : MethodName := ⟨RX9, "takesNumber", "(II)Z"⟩
abbrev cX9_statement : ByteArray := prog_11_method_49_code
def yX9_statement : MethodName := ⟨RX9, "statement", "()Z"⟩
abbrev cX9_plain : ByteArray := prog_11_method_50_code
def yX9_plain : MethodName := ⟨RX9, "plain", "(I)I"⟩
abbrev cX9_law : ByteArray := prog_11_method_51_code
def yX9_law : MethodName := ⟨RX9, "law", "(I)I"⟩
abbrev cX9_fault : ByteArray := prog_11_method_52_code
def yX9_fault : MethodName := ⟨RX9, "fault", "()I"⟩
abbrev cX9_bodies : ByteArray := prog_11_method_53_code
def yX9_bodies : MethodName := ⟨RX9, "bodies", "()I"⟩
abbrev cX9_names : ByteArray := prog_11_method_54_code
def yX9_names : MethodName := ⟨RX9, "names", "(Z)I"⟩
abbrev cX9_alone : ByteArray := prog_11_method_55_code
def yX9_alone : MethodName := ⟨RX9, "alone", "()I"⟩
abbrev cX9_count : ByteArray := prog_11_method_56_code
def yX9_count : MethodName := ⟨RX9, "count", "(I)I"⟩
def RJ9 : String := "java/lang/Math"
def TJ9 : u_T := fun k => match k with
  | _ => ("", "", "", false)
def tyJ9 : Nat → FieldType := fun k => match k with
  | _ => .int
abbrev wsJ90 : List Cond := u_ws RJ9 TJ9 0
theorem nmJ9 : ∀ a, a < 0 → ∀ b, b < 0 → a ≠ b → (TJ9 a).2.1 ≠ (TJ9 b).2.1 := by decide +kernel
theorem tyJ9_ok : ∀ k, k < 0 → parseFieldDescriptor (TJ9 k).2.2.1 = some (tyJ9 k) := by decide +kernel
abbrev cJ9_max_7cf53 : ByteArray := prog_12_method_65_code
def yJ9_max_7cf53 : MethodName := ⟨RJ9, "max", "(II)I"⟩
abbrev cJ9_min_7cf53 : ByteArray := prog_12_method_69_code
def yJ9_min_7cf53 : MethodName := ⟨RJ9, "min", "(II)I"⟩
def RJ0 : String := "java/lang/String"
def TJ0 : u_T := fun k => match k with
  | _ => ("", "", "", false)
def tyJ0 : Nat → FieldType := fun k => match k with
  | _ => .int
abbrev wsJ00 : List Cond := u_ws RJ0 TJ0 0
theorem nmJ0 : ∀ a, a < 0 → ∀ b, b < 0 → a ≠ b → (TJ0 a).2.1 ≠ (TJ0 b).2.1 := by decide +kernel
theorem tyJ0_ok : ∀ k, k < 0 → parseFieldDescriptor (TJ0 k).2.2.1 = some (tyJ0 k) := by decide +kernel
abbrev cJ0_length_8abf5 : ByteArray := prog_13_method_54_code
def yJ0_length_8abf5 : MethodName := ⟨RJ0, "length", "()I"⟩
abbrev cJ0_charAt_5068e : ByteArray := prog_13_method_56_code
def yJ0_charAt_5068e : MethodName := ⟨RJ0, "charAt", "(I)C"⟩
abbrev cJ0_coder_7d493 : ByteArray := prog_13_method_152_code
def yJ0_coder_7d493 : MethodName := ⟨RJ0, "coder", "()B"⟩
abbrev cJ0_isLatin1_aae02 : ByteArray := prog_13_method_154_code
def yJ0_isLatin1_aae02 : MethodName := ⟨RJ0, "isLatin1", "()Z"⟩
abbrev cJ0_checkIndex_df160 : ByteArray := prog_13_method_155_code
def yJ0_checkIndex_df160 : MethodName := ⟨RJ0, "checkIndex", "(II)V"⟩
def RJ1 : String := "java/lang/StringLatin1"
def TJ1 : u_T := fun k => match k with
  | _ => ("", "", "", false)
def tyJ1 : Nat → FieldType := fun k => match k with
  | _ => .int
abbrev wsJ10 : List Cond := u_ws RJ1 TJ1 0
theorem nmJ1 : ∀ a, a < 0 → ∀ b, b < 0 → a ≠ b → (TJ1 a).2.1 ≠ (TJ1 b).2.1 := by decide +kernel
theorem tyJ1_ok : ∀ k, k < 0 → parseFieldDescriptor (TJ1 k).2.2.1 = some (tyJ1 k) := by decide +kernel
abbrev cJ1_charAt_3b067 : ByteArray := prog_14_method_2_code
def yJ1_charAt_3b067 : MethodName := ⟨RJ1, "charAt", "([BI)C"⟩
def RJ2 : String := "java/lang/StringUTF16"
def TJ2 : u_T := fun k => match k with
  | _ => ("", "", "", false)
def tyJ2 : Nat → FieldType := fun k => match k with
  | _ => .int
abbrev wsJ20 : List Cond := u_ws RJ2 TJ2 0
theorem nmJ2 : ∀ a, a < 0 → ∀ b, b < 0 → a ≠ b → (TJ2 a).2.1 ≠ (TJ2 b).2.1 := by decide +kernel
theorem tyJ2_ok : ∀ k, k < 0 → parseFieldDescriptor (TJ2 k).2.2.1 = some (tyJ2 k) := by decide +kernel
abbrev cJ2_getChar_3b067 : ByteArray := prog_15_method_5_code
def yJ2_getChar_3b067 : MethodName := ⟨RJ2, "getChar", "([BI)C"⟩
abbrev cJ2_length_9d52b : ByteArray := prog_15_method_6_code
def yJ2_length_9d52b : MethodName := ⟨RJ2, "length", "([B)I"⟩
abbrev cJ2_charAt_3b067 : ByteArray := prog_15_method_83_code
def yJ2_charAt_3b067 : MethodName := ⟨RJ2, "charAt", "([BI)C"⟩
abbrev cJ2_checkIndex_2214a : ByteArray := prog_15_method_91_code
def yJ2_checkIndex_2214a : MethodName := ⟨RJ2, "checkIndex", "(I[B)V"⟩
def RJ3 : String := "jdk/internal/util/Preconditions"
def TJ3 : u_T := fun k => match k with
  | _ => ("", "", "", false)
def tyJ3 : Nat → FieldType := fun k => match k with
  | _ => .int
abbrev wsJ30 : List Cond := u_ws RJ3 TJ3 0
theorem nmJ3 : ∀ a, a < 0 → ∀ b, b < 0 → a ≠ b → (TJ3 a).2.1 ≠ (TJ3 b).2.1 := by decide +kernel
theorem tyJ3_ok : ∀ k, k < 0 → parseFieldDescriptor (TJ3 k).2.2.1 = some (tyJ3 k) := by decide +kernel
abbrev cJ3_checkIndex_8e157 : ByteArray := prog_16_method_11_code
def yJ3_checkIndex_8e157 : MethodName := ⟨RJ3, "checkIndex", "(IILjava/util/function/BiFunction;)I"⟩
def RL : String := "NamedAgainLaw"
abbrev cL_law : ByteArray := code
def yL_law : MethodName := ⟨RL, "law", "([I)Z"⟩
abbrev vwCl : List vw_C := [(RX0, TX0, 3), (RX1, TX1, 8), (RX2, TX2, 2), (RX3, TX3, 4), (RX4, TX4, 10), (RX5, TX5, 5), (RX6, TX6, 3), (RX7, TX7, 2), (RX8, TX8, 10), (RX9, TX9, 23)]
end
section
theorem dX0_init_0 : decode cX0_init 0 = .ok (.aload_n 0, 1) := by decide +kernel
theorem dX0_init_1 : decode cX0_init 1 = .ok (.invokespecial 3, 3) := by decide +kernel
theorem dX0_init_4 : decode cX0_init 4 = .ok (.aload_n 0, 1) := by decide +kernel
theorem dX0_init_5 : decode cX0_init 5 = .ok (.new 9, 3) := by decide +kernel
theorem dX0_init_8 : decode cX0_init 8 = .ok (.dup, 1) := by decide +kernel
theorem dX0_init_9 : decode cX0_init 9 = .ok (.invokespecial 11, 3) := by decide +kernel
theorem dX0_init_12 : decode cX0_init 12 = .ok (.putfield 12, 3) := by decide +kernel
theorem dX0_init_15 : decode cX0_init 15 = .ok (.aload_n 0, 1) := by decide +kernel
theorem dX0_init_16 : decode cX0_init 16 = .ok (.bipush 12, 2) := by decide +kernel
theorem dX0_init_18 : decode cX0_init 18 = .ok (.newarray .int, 2) := by decide +kernel
theorem dX0_init_20 : decode cX0_init 20 = .ok (.putfield 18, 3) := by decide +kernel
theorem dX0_init_23 : decode cX0_init 23 = .ok (.aload_n 0, 1) := by decide +kernel
theorem dX0_init_24 : decode cX0_init 24 = .ok (.bipush 12, 2) := by decide +kernel
theorem dX0_init_26 : decode cX0_init 26 = .ok (.newarray .int, 2) := by decide +kernel
theorem dX0_init_28 : decode cX0_init 28 = .ok (.putfield 22, 3) := by decide +kernel
theorem dX0_init_31 : decode cX0_init 31 = .ok (.iconst 0, 1) := by decide +kernel
theorem dX0_init_32 : decode cX0_init 32 = .ok (.istore_n 1, 1) := by decide +kernel
theorem dX0_init_33 : decode cX0_init 33 = .ok (.iload_n 1, 1) := by decide +kernel
theorem dX0_init_34 : decode cX0_init 34 = .ok (.bipush 12, 2) := by decide +kernel
theorem dX0_init_36 : decode cX0_init 36 = .ok (.if_icmp .ge 23, 3) := by decide +kernel
theorem dX0_init_39 : decode cX0_init 39 = .ok (.aload_n 0, 1) := by decide +kernel
theorem dX0_init_40 : decode cX0_init 40 = .ok (.getfield 18, 3) := by decide +kernel
theorem dX0_init_43 : decode cX0_init 43 = .ok (.iload_n 1, 1) := by decide +kernel
theorem dX0_init_44 : decode cX0_init 44 = .ok (.iload_n 1, 1) := by decide +kernel
theorem dX0_init_45 : decode cX0_init 45 = .ok (.iastore, 1) := by decide +kernel
theorem dX0_init_46 : decode cX0_init 46 = .ok (.aload_n 0, 1) := by decide +kernel
theorem dX0_init_47 : decode cX0_init 47 = .ok (.getfield 22, 3) := by decide +kernel
theorem dX0_init_50 : decode cX0_init 50 = .ok (.iload_n 1, 1) := by decide +kernel
theorem dX0_init_51 : decode cX0_init 51 = .ok (.iconst (-1), 1) := by decide +kernel
theorem dX0_init_52 : decode cX0_init 52 = .ok (.iastore, 1) := by decide +kernel
theorem dX0_init_53 : decode cX0_init 53 = .ok (.iinc 1 1, 3) := by decide +kernel
theorem dX0_init_56 : decode cX0_init 56 = .ok (.goto (-23), 3) := by decide +kernel
theorem dX0_init_59 : decode cX0_init 59 = .ok (.return_, 1) := by decide +kernel
theorem dX0_leaderOf_0 : decode cX0_leaderOf 0 = .ok (.iload_n 1, 1) := by decide +kernel
theorem dX0_leaderOf_1 : decode cX0_leaderOf 1 = .ok (.ifCond .lt 23, 3) := by decide +kernel
theorem dX0_leaderOf_4 : decode cX0_leaderOf 4 = .ok (.iload_n 1, 1) := by decide +kernel
theorem dX0_leaderOf_5 : decode cX0_leaderOf 5 = .ok (.aload_n 0, 1) := by decide +kernel
theorem dX0_leaderOf_6 : decode cX0_leaderOf 6 = .ok (.getfield 12, 3) := by decide +kernel
theorem dX0_leaderOf_9 : decode cX0_leaderOf 9 = .ok (.getfield 25, 3) := by decide +kernel
theorem dX0_leaderOf_12 : decode cX0_leaderOf 12 = .ok (.if_icmp .ge 12, 3) := by decide +kernel
theorem dX0_leaderOf_15 : decode cX0_leaderOf 15 = .ok (.aload_n 0, 1) := by decide +kernel
theorem dX0_leaderOf_16 : decode cX0_leaderOf 16 = .ok (.getfield 18, 3) := by decide +kernel
theorem dX0_leaderOf_19 : decode cX0_leaderOf 19 = .ok (.iload_n 1, 1) := by decide +kernel
theorem dX0_leaderOf_20 : decode cX0_leaderOf 20 = .ok (.iaload, 1) := by decide +kernel
theorem dX0_leaderOf_21 : decode cX0_leaderOf 21 = .ok (.goto 4, 3) := by decide +kernel
theorem dX0_leaderOf_24 : decode cX0_leaderOf 24 = .ok (.iconst (-1), 1) := by decide +kernel
theorem dX0_leaderOf_25 : decode cX0_leaderOf 25 = .ok (.ireturn, 1) := by decide +kernel
theorem dX0_leads_0 : decode cX0_leads 0 = .ok (.iload_n 1, 1) := by decide +kernel
theorem dX0_leads_1 : decode cX0_leads 1 = .ok (.ifCond .lt 16, 3) := by decide +kernel
theorem dX0_leads_4 : decode cX0_leads 4 = .ok (.aload_n 0, 1) := by decide +kernel
theorem dX0_leads_5 : decode cX0_leads 5 = .ok (.iload_n 1, 1) := by decide +kernel
theorem dX0_leads_6 : decode cX0_leads 6 = .ok (.invokevirtual 29, 3) := by decide +kernel
theorem dX0_leads_9 : decode cX0_leads 9 = .ok (.iload_n 1, 1) := by decide +kernel
theorem dX0_leads_10 : decode cX0_leads 10 = .ok (.if_icmp .ne 7, 3) := by decide +kernel
theorem dX0_leads_13 : decode cX0_leads 13 = .ok (.iconst 1, 1) := by decide +kernel
theorem dX0_leads_14 : decode cX0_leads 14 = .ok (.goto 4, 3) := by decide +kernel
theorem dX0_leads_17 : decode cX0_leads 17 = .ok (.iconst 0, 1) := by decide +kernel
theorem dX0_leads_18 : decode cX0_leads 18 = .ok (.ireturn, 1) := by decide +kernel
theorem dX0_unite_0 : decode cX0_unite 0 = .ok (.iload_n 1, 1) := by decide +kernel
theorem dX0_unite_1 : decode cX0_unite 1 = .ok (.iload_n 2, 1) := by decide +kernel
theorem dX0_unite_2 : decode cX0_unite 2 = .ok (.invokestatic 33, 3) := by decide +kernel
theorem dX0_unite_5 : decode cX0_unite 5 = .ok (.istore_n 3, 1) := by decide +kernel
theorem dX0_unite_6 : decode cX0_unite 6 = .ok (.iload_n 1, 1) := by decide +kernel
theorem dX0_unite_7 : decode cX0_unite 7 = .ok (.iload_n 2, 1) := by decide +kernel
theorem dX0_unite_8 : decode cX0_unite 8 = .ok (.invokestatic 39, 3) := by decide +kernel
theorem dX0_unite_11 : decode cX0_unite 11 = .ok (.istore 4, 2) := by decide +kernel
theorem dX0_unite_13 : decode cX0_unite 13 = .ok (.iconst 0, 1) := by decide +kernel
theorem dX0_unite_14 : decode cX0_unite 14 = .ok (.istore 5, 2) := by decide +kernel
theorem dX0_unite_16 : decode cX0_unite 16 = .ok (.iload 5, 2) := by decide +kernel
theorem dX0_unite_18 : decode cX0_unite 18 = .ok (.aload_n 0, 1) := by decide +kernel
theorem dX0_unite_19 : decode cX0_unite 19 = .ok (.getfield 12, 3) := by decide +kernel
theorem dX0_unite_22 : decode cX0_unite 22 = .ok (.getfield 25, 3) := by decide +kernel
theorem dX0_unite_25 : decode cX0_unite 25 = .ok (.if_icmp .ge 29, 3) := by decide +kernel
theorem dX0_unite_28 : decode cX0_unite 28 = .ok (.aload_n 0, 1) := by decide +kernel
theorem dX0_unite_29 : decode cX0_unite 29 = .ok (.getfield 18, 3) := by decide +kernel
theorem dX0_unite_32 : decode cX0_unite 32 = .ok (.iload 5, 2) := by decide +kernel
theorem dX0_unite_34 : decode cX0_unite 34 = .ok (.iaload, 1) := by decide +kernel
theorem dX0_unite_35 : decode cX0_unite 35 = .ok (.iload 4, 2) := by decide +kernel
theorem dX0_unite_37 : decode cX0_unite 37 = .ok (.if_icmp .ne 11, 3) := by decide +kernel
theorem dX0_unite_40 : decode cX0_unite 40 = .ok (.aload_n 0, 1) := by decide +kernel
theorem dX0_unite_41 : decode cX0_unite 41 = .ok (.getfield 18, 3) := by decide +kernel
theorem dX0_unite_44 : decode cX0_unite 44 = .ok (.iload 5, 2) := by decide +kernel
theorem dX0_unite_46 : decode cX0_unite 46 = .ok (.iload_n 3, 1) := by decide +kernel
theorem dX0_unite_47 : decode cX0_unite 47 = .ok (.iastore, 1) := by decide +kernel
theorem dX0_unite_48 : decode cX0_unite 48 = .ok (.iinc 5 1, 3) := by decide +kernel
theorem dX0_unite_51 : decode cX0_unite 51 = .ok (.goto (-35), 3) := by decide +kernel
theorem dX0_unite_54 : decode cX0_unite 54 = .ok (.return_, 1) := by decide +kernel
theorem dX0_gather_0 : decode cX0_gather 0 = .ok (.aload_n 2, 1) := by decide +kernel
theorem dX0_gather_1 : decode cX0_gather 1 = .ok (.invokevirtual 42, 3) := by decide +kernel
theorem dX0_gather_4 : decode cX0_gather 4 = .ok (.iconst 0, 1) := by decide +kernel
theorem dX0_gather_5 : decode cX0_gather 5 = .ok (.istore_n 3, 1) := by decide +kernel
theorem dX0_gather_6 : decode cX0_gather 6 = .ok (.iload_n 3, 1) := by decide +kernel
theorem dX0_gather_7 : decode cX0_gather 7 = .ok (.aload_n 0, 1) := by decide +kernel
theorem dX0_gather_8 : decode cX0_gather 8 = .ok (.getfield 12, 3) := by decide +kernel
theorem dX0_gather_11 : decode cX0_gather 11 = .ok (.getfield 25, 3) := by decide +kernel
theorem dX0_gather_14 : decode cX0_gather 14 = .ok (.if_icmp .ge 32, 3) := by decide +kernel
theorem dX0_gather_17 : decode cX0_gather 17 = .ok (.aload_n 0, 1) := by decide +kernel
theorem dX0_gather_18 : decode cX0_gather 18 = .ok (.getfield 18, 3) := by decide +kernel
theorem dX0_gather_21 : decode cX0_gather 21 = .ok (.iload_n 3, 1) := by decide +kernel
theorem dX0_gather_22 : decode cX0_gather 22 = .ok (.iaload, 1) := by decide +kernel
theorem dX0_gather_23 : decode cX0_gather 23 = .ok (.iload_n 1, 1) := by decide +kernel
theorem dX0_gather_24 : decode cX0_gather 24 = .ok (.if_icmp .ne 16, 3) := by decide +kernel
theorem dX0_gather_27 : decode cX0_gather 27 = .ok (.aload_n 2, 1) := by decide +kernel
theorem dX0_gather_28 : decode cX0_gather 28 = .ok (.aload_n 0, 1) := by decide +kernel
theorem dX0_gather_29 : decode cX0_gather 29 = .ok (.getfield 12, 3) := by decide +kernel
theorem dX0_gather_32 : decode cX0_gather 32 = .ok (.getfield 47, 3) := by decide +kernel
theorem dX0_gather_35 : decode cX0_gather 35 = .ok (.iload_n 3, 1) := by decide +kernel
theorem dX0_gather_36 : decode cX0_gather 36 = .ok (.aaload, 1) := by decide +kernel
theorem dX0_gather_37 : decode cX0_gather 37 = .ok (.invokevirtual 51, 3) := by decide +kernel
theorem dX0_gather_40 : decode cX0_gather 40 = .ok (.iinc 3 1, 3) := by decide +kernel
theorem dX0_gather_43 : decode cX0_gather 43 = .ok (.goto (-37), 3) := by decide +kernel
theorem dX0_gather_46 : decode cX0_gather 46 = .ok (.return_, 1) := by decide +kernel
theorem dX0_piecesBeside_0 : decode cX0_piecesBeside 0 = .ok (.iconst 0, 1) := by decide +kernel
theorem dX0_piecesBeside_1 : decode cX0_piecesBeside 1 = .ok (.istore_n 2, 1) := by decide +kernel
theorem dX0_piecesBeside_2 : decode cX0_piecesBeside 2 = .ok (.aload_n 0, 1) := by decide +kernel
theorem dX0_piecesBeside_3 : decode cX0_piecesBeside 3 = .ok (.iload_n 1, 1) := by decide +kernel
theorem dX0_piecesBeside_4 : decode cX0_piecesBeside 4 = .ok (.invokevirtual 29, 3) := by decide +kernel
theorem dX0_piecesBeside_7 : decode cX0_piecesBeside 7 = .ok (.istore_n 3, 1) := by decide +kernel
theorem dX0_piecesBeside_8 : decode cX0_piecesBeside 8 = .ok (.iconst 0, 1) := by decide +kernel
theorem dX0_piecesBeside_9 : decode cX0_piecesBeside 9 = .ok (.istore 4, 2) := by decide +kernel
theorem dX0_piecesBeside_11 : decode cX0_piecesBeside 11 = .ok (.iload 4, 2) := by decide +kernel
theorem dX0_piecesBeside_13 : decode cX0_piecesBeside 13 = .ok (.aload_n 0, 1) := by decide +kernel
theorem dX0_piecesBeside_14 : decode cX0_piecesBeside 14 = .ok (.getfield 12, 3) := by decide +kernel
theorem dX0_piecesBeside_17 : decode cX0_piecesBeside 17 = .ok (.getfield 25, 3) := by decide +kernel
theorem dX0_piecesBeside_20 : decode cX0_piecesBeside 20 = .ok (.if_icmp .ge 42, 3) := by decide +kernel
theorem dX0_piecesBeside_23 : decode cX0_piecesBeside 23 = .ok (.iload 4, 2) := by decide +kernel
theorem dX0_piecesBeside_25 : decode cX0_piecesBeside 25 = .ok (.iload_n 1, 1) := by decide +kernel
theorem dX0_piecesBeside_26 : decode cX0_piecesBeside 26 = .ok (.if_icmp .eq 30, 3) := by decide +kernel
theorem dX0_piecesBeside_29 : decode cX0_piecesBeside 29 = .ok (.aload_n 0, 1) := by decide +kernel
theorem dX0_piecesBeside_30 : decode cX0_piecesBeside 30 = .ok (.getfield 18, 3) := by decide +kernel
theorem dX0_piecesBeside_33 : decode cX0_piecesBeside 33 = .ok (.iload 4, 2) := by decide +kernel
theorem dX0_piecesBeside_35 : decode cX0_piecesBeside 35 = .ok (.iaload, 1) := by decide +kernel
theorem dX0_piecesBeside_36 : decode cX0_piecesBeside 36 = .ok (.iload_n 3, 1) := by decide +kernel
theorem dX0_piecesBeside_37 : decode cX0_piecesBeside 37 = .ok (.if_icmp .ne 19, 3) := by decide +kernel
theorem dX0_piecesBeside_40 : decode cX0_piecesBeside 40 = .ok (.iload_n 2, 1) := by decide +kernel
theorem dX0_piecesBeside_41 : decode cX0_piecesBeside 41 = .ok (.aload_n 0, 1) := by decide +kernel
theorem dX0_piecesBeside_42 : decode cX0_piecesBeside 42 = .ok (.getfield 12, 3) := by decide +kernel
theorem dX0_piecesBeside_45 : decode cX0_piecesBeside 45 = .ok (.getfield 47, 3) := by decide +kernel
theorem dX0_piecesBeside_48 : decode cX0_piecesBeside 48 = .ok (.iload 4, 2) := by decide +kernel
theorem dX0_piecesBeside_50 : decode cX0_piecesBeside 50 = .ok (.aaload, 1) := by decide +kernel
theorem dX0_piecesBeside_51 : decode cX0_piecesBeside 51 = .ok (.getfield 55, 3) := by decide +kernel
theorem dX0_piecesBeside_54 : decode cX0_piecesBeside 54 = .ok (.ior, 1) := by decide +kernel
theorem dX0_piecesBeside_55 : decode cX0_piecesBeside 55 = .ok (.istore_n 2, 1) := by decide +kernel
theorem dX0_piecesBeside_56 : decode cX0_piecesBeside 56 = .ok (.iinc 4 1, 3) := by decide +kernel
theorem dX0_piecesBeside_59 : decode cX0_piecesBeside 59 = .ok (.goto (-48), 3) := by decide +kernel
theorem dX0_piecesBeside_62 : decode cX0_piecesBeside 62 = .ok (.iload_n 2, 1) := by decide +kernel
theorem dX0_piecesBeside_63 : decode cX0_piecesBeside 63 = .ok (.ireturn, 1) := by decide +kernel
theorem dX0_sizeOf_0 : decode cX0_sizeOf 0 = .ok (.iconst 0, 1) := by decide +kernel
theorem dX0_sizeOf_1 : decode cX0_sizeOf 1 = .ok (.istore_n 2, 1) := by decide +kernel
theorem dX0_sizeOf_2 : decode cX0_sizeOf 2 = .ok (.iconst 0, 1) := by decide +kernel
theorem dX0_sizeOf_3 : decode cX0_sizeOf 3 = .ok (.istore_n 3, 1) := by decide +kernel
theorem dX0_sizeOf_4 : decode cX0_sizeOf 4 = .ok (.iload_n 3, 1) := by decide +kernel
theorem dX0_sizeOf_5 : decode cX0_sizeOf 5 = .ok (.aload_n 0, 1) := by decide +kernel
theorem dX0_sizeOf_6 : decode cX0_sizeOf 6 = .ok (.getfield 12, 3) := by decide +kernel
theorem dX0_sizeOf_9 : decode cX0_sizeOf 9 = .ok (.getfield 25, 3) := by decide +kernel
theorem dX0_sizeOf_12 : decode cX0_sizeOf 12 = .ok (.if_icmp .ge 22, 3) := by decide +kernel
theorem dX0_sizeOf_15 : decode cX0_sizeOf 15 = .ok (.aload_n 0, 1) := by decide +kernel
theorem dX0_sizeOf_16 : decode cX0_sizeOf 16 = .ok (.getfield 18, 3) := by decide +kernel
theorem dX0_sizeOf_19 : decode cX0_sizeOf 19 = .ok (.iload_n 3, 1) := by decide +kernel
theorem dX0_sizeOf_20 : decode cX0_sizeOf 20 = .ok (.iaload, 1) := by decide +kernel
theorem dX0_sizeOf_21 : decode cX0_sizeOf 21 = .ok (.iload_n 1, 1) := by decide +kernel
theorem dX0_sizeOf_22 : decode cX0_sizeOf 22 = .ok (.if_icmp .ne 6, 3) := by decide +kernel
theorem dX0_sizeOf_25 : decode cX0_sizeOf 25 = .ok (.iinc 2 1, 3) := by decide +kernel
theorem dX0_sizeOf_28 : decode cX0_sizeOf 28 = .ok (.iinc 3 1, 3) := by decide +kernel
theorem dX0_sizeOf_31 : decode cX0_sizeOf 31 = .ok (.goto (-27), 3) := by decide +kernel
theorem dX0_sizeOf_34 : decode cX0_sizeOf 34 = .ok (.iload_n 2, 1) := by decide +kernel
theorem dX0_sizeOf_35 : decode cX0_sizeOf 35 = .ok (.ireturn, 1) := by decide +kernel
theorem dX0_howMany_0 : decode cX0_howMany 0 = .ok (.iconst 0, 1) := by decide +kernel
theorem dX0_howMany_1 : decode cX0_howMany 1 = .ok (.istore_n 1, 1) := by decide +kernel
theorem dX0_howMany_2 : decode cX0_howMany 2 = .ok (.iconst 0, 1) := by decide +kernel
theorem dX0_howMany_3 : decode cX0_howMany 3 = .ok (.istore_n 2, 1) := by decide +kernel
theorem dX0_howMany_4 : decode cX0_howMany 4 = .ok (.iload_n 2, 1) := by decide +kernel
theorem dX0_howMany_5 : decode cX0_howMany 5 = .ok (.aload_n 0, 1) := by decide +kernel
theorem dX0_howMany_6 : decode cX0_howMany 6 = .ok (.getfield 12, 3) := by decide +kernel
theorem dX0_howMany_9 : decode cX0_howMany 9 = .ok (.getfield 25, 3) := by decide +kernel
theorem dX0_howMany_12 : decode cX0_howMany 12 = .ok (.if_icmp .ge 20, 3) := by decide +kernel
theorem dX0_howMany_15 : decode cX0_howMany 15 = .ok (.aload_n 0, 1) := by decide +kernel
theorem dX0_howMany_16 : decode cX0_howMany 16 = .ok (.iload_n 2, 1) := by decide +kernel
theorem dX0_howMany_17 : decode cX0_howMany 17 = .ok (.invokevirtual 58, 3) := by decide +kernel
theorem dX0_howMany_20 : decode cX0_howMany 20 = .ok (.ifCond .eq 6, 3) := by decide +kernel
theorem dX0_howMany_23 : decode cX0_howMany 23 = .ok (.iinc 1 1, 3) := by decide +kernel
theorem dX0_howMany_26 : decode cX0_howMany 26 = .ok (.iinc 2 1, 3) := by decide +kernel
theorem dX0_howMany_29 : decode cX0_howMany 29 = .ok (.goto (-25), 3) := by decide +kernel
theorem dX0_howMany_32 : decode cX0_howMany 32 = .ok (.iload_n 1, 1) := by decide +kernel
theorem dX0_howMany_33 : decode cX0_howMany 33 = .ok (.ireturn, 1) := by decide +kernel
theorem dX0_howManyNamed_0 : decode cX0_howManyNamed 0 = .ok (.iconst 0, 1) := by decide +kernel
theorem dX0_howManyNamed_1 : decode cX0_howManyNamed 1 = .ok (.istore_n 1, 1) := by decide +kernel
theorem dX0_howManyNamed_2 : decode cX0_howManyNamed 2 = .ok (.iconst 0, 1) := by decide +kernel
theorem dX0_howManyNamed_3 : decode cX0_howManyNamed 3 = .ok (.istore_n 2, 1) := by decide +kernel
theorem dX0_howManyNamed_4 : decode cX0_howManyNamed 4 = .ok (.iload_n 2, 1) := by decide +kernel
theorem dX0_howManyNamed_5 : decode cX0_howManyNamed 5 = .ok (.bipush 12, 2) := by decide +kernel
theorem dX0_howManyNamed_7 : decode cX0_howManyNamed 7 = .ok (.if_icmp .ge 22, 3) := by decide +kernel
theorem dX0_howManyNamed_10 : decode cX0_howManyNamed 10 = .ok (.aload_n 0, 1) := by decide +kernel
theorem dX0_howManyNamed_11 : decode cX0_howManyNamed 11 = .ok (.getfield 22, 3) := by decide +kernel
theorem dX0_howManyNamed_14 : decode cX0_howManyNamed 14 = .ok (.iload_n 2, 1) := by decide +kernel
theorem dX0_howManyNamed_15 : decode cX0_howManyNamed 15 = .ok (.iaload, 1) := by decide +kernel
theorem dX0_howManyNamed_16 : decode cX0_howManyNamed 16 = .ok (.iconst (-1), 1) := by decide +kernel
theorem dX0_howManyNamed_17 : decode cX0_howManyNamed 17 = .ok (.if_icmp .eq 6, 3) := by decide +kernel
theorem dX0_howManyNamed_20 : decode cX0_howManyNamed 20 = .ok (.iinc 1 1, 3) := by decide +kernel
theorem dX0_howManyNamed_23 : decode cX0_howManyNamed 23 = .ok (.iinc 2 1, 3) := by decide +kernel
theorem dX0_howManyNamed_26 : decode cX0_howManyNamed 26 = .ok (.goto (-22), 3) := by decide +kernel
theorem dX0_howManyNamed_29 : decode cX0_howManyNamed 29 = .ok (.iload_n 1, 1) := by decide +kernel
theorem dX0_howManyNamed_30 : decode cX0_howManyNamed 30 = .ok (.ireturn, 1) := by decide +kernel
theorem dX0_hasGiven_0 : decode cX0_hasGiven 0 = .ok (.iconst 0, 1) := by decide +kernel
theorem dX0_hasGiven_1 : decode cX0_hasGiven 1 = .ok (.istore_n 2, 1) := by decide +kernel
theorem dX0_hasGiven_2 : decode cX0_hasGiven 2 = .ok (.iload_n 2, 1) := by decide +kernel
theorem dX0_hasGiven_3 : decode cX0_hasGiven 3 = .ok (.bipush 12, 2) := by decide +kernel
theorem dX0_hasGiven_5 : decode cX0_hasGiven 5 = .ok (.if_icmp .ge 21, 3) := by decide +kernel
theorem dX0_hasGiven_8 : decode cX0_hasGiven 8 = .ok (.aload_n 0, 1) := by decide +kernel
theorem dX0_hasGiven_9 : decode cX0_hasGiven 9 = .ok (.getfield 22, 3) := by decide +kernel
theorem dX0_hasGiven_12 : decode cX0_hasGiven 12 = .ok (.iload_n 2, 1) := by decide +kernel
theorem dX0_hasGiven_13 : decode cX0_hasGiven 13 = .ok (.iaload, 1) := by decide +kernel
theorem dX0_hasGiven_14 : decode cX0_hasGiven 14 = .ok (.iload_n 1, 1) := by decide +kernel
theorem dX0_hasGiven_15 : decode cX0_hasGiven 15 = .ok (.if_icmp .ne 5, 3) := by decide +kernel
theorem dX0_hasGiven_18 : decode cX0_hasGiven 18 = .ok (.iconst 1, 1) := by decide +kernel
theorem dX0_hasGiven_19 : decode cX0_hasGiven 19 = .ok (.ireturn, 1) := by decide +kernel
theorem dX0_hasGiven_20 : decode cX0_hasGiven 20 = .ok (.iinc 2 1, 3) := by decide +kernel
theorem dX0_hasGiven_23 : decode cX0_hasGiven 23 = .ok (.goto (-21), 3) := by decide +kernel
theorem dX0_hasGiven_26 : decode cX0_hasGiven 26 = .ok (.iconst 0, 1) := by decide +kernel
theorem dX0_hasGiven_27 : decode cX0_hasGiven 27 = .ok (.ireturn, 1) := by decide +kernel
theorem dX1_init_0 : decode cX1_init 0 = .ok (.aload_n 0, 1) := by decide +kernel
theorem dX1_init_1 : decode cX1_init 1 = .ok (.invokespecial 3, 3) := by decide +kernel
theorem dX1_init_4 : decode cX1_init 4 = .ok (.aload_n 0, 1) := by decide +kernel
theorem dX1_init_5 : decode cX1_init 5 = .ok (.bipush 120, 2) := by decide +kernel
theorem dX1_init_7 : decode cX1_init 7 = .ok (.putfield 9, 3) := by decide +kernel
theorem dX1_init_10 : decode cX1_init 10 = .ok (.aload_n 0, 1) := by decide +kernel
theorem dX1_init_11 : decode cX1_init 11 = .ok (.bipush 8, 2) := by decide +kernel
theorem dX1_init_13 : decode cX1_init 13 = .ok (.newarray .int, 2) := by decide +kernel
theorem dX1_init_15 : decode cX1_init 15 = .ok (.putfield 15, 3) := by decide +kernel
theorem dX1_init_18 : decode cX1_init 18 = .ok (.aload_n 0, 1) := by decide +kernel
theorem dX1_init_19 : decode cX1_init 19 = .ok (.iconst 4, 1) := by decide +kernel
theorem dX1_init_20 : decode cX1_init 20 = .ok (.newarray .int, 2) := by decide +kernel
theorem dX1_init_22 : decode cX1_init 22 = .ok (.putfield 19, 3) := by decide +kernel
theorem dX1_init_25 : decode cX1_init 25 = .ok (.aload_n 0, 1) := by decide +kernel
theorem dX1_init_26 : decode cX1_init 26 = .ok (.iconst 3, 1) := by decide +kernel
theorem dX1_init_27 : decode cX1_init 27 = .ok (.newarray .int, 2) := by decide +kernel
theorem dX1_init_29 : decode cX1_init 29 = .ok (.putfield 22, 3) := by decide +kernel
theorem dX1_init_32 : decode cX1_init 32 = .ok (.aload_n 0, 1) := by decide +kernel
theorem dX1_init_33 : decode cX1_init 33 = .ok (.iconst 3, 1) := by decide +kernel
theorem dX1_init_34 : decode cX1_init 34 = .ok (.newarray .int, 2) := by decide +kernel
theorem dX1_init_36 : decode cX1_init 36 = .ok (.putfield 25, 3) := by decide +kernel
theorem dX1_init_39 : decode cX1_init 39 = .ok (.return_, 1) := by decide +kernel
theorem dX1_forget_0 : decode cX1_forget 0 = .ok (.aload_n 0, 1) := by decide +kernel
theorem dX1_forget_1 : decode cX1_forget 1 = .ok (.iconst 0, 1) := by decide +kernel
theorem dX1_forget_2 : decode cX1_forget 2 = .ok (.putfield 28, 3) := by decide +kernel
theorem dX1_forget_5 : decode cX1_forget 5 = .ok (.aload_n 0, 1) := by decide +kernel
theorem dX1_forget_6 : decode cX1_forget 6 = .ok (.iconst 0, 1) := by decide +kernel
theorem dX1_forget_7 : decode cX1_forget 7 = .ok (.putfield 31, 3) := by decide +kernel
theorem dX1_forget_10 : decode cX1_forget 10 = .ok (.aload_n 0, 1) := by decide +kernel
theorem dX1_forget_11 : decode cX1_forget 11 = .ok (.bipush 120, 2) := by decide +kernel
theorem dX1_forget_13 : decode cX1_forget 13 = .ok (.putfield 9, 3) := by decide +kernel
theorem dX1_forget_16 : decode cX1_forget 16 = .ok (.aload_n 0, 1) := by decide +kernel
theorem dX1_forget_17 : decode cX1_forget 17 = .ok (.iconst 0, 1) := by decide +kernel
theorem dX1_forget_18 : decode cX1_forget 18 = .ok (.putfield 34, 3) := by decide +kernel
theorem dX1_forget_21 : decode cX1_forget 21 = .ok (.aload_n 0, 1) := by decide +kernel
theorem dX1_forget_22 : decode cX1_forget 22 = .ok (.getfield 15, 3) := by decide +kernel
theorem dX1_forget_25 : decode cX1_forget 25 = .ok (.invokestatic 37, 3) := by decide +kernel
theorem dX1_forget_28 : decode cX1_forget 28 = .ok (.aload_n 0, 1) := by decide +kernel
theorem dX1_forget_29 : decode cX1_forget 29 = .ok (.getfield 19, 3) := by decide +kernel
theorem dX1_forget_32 : decode cX1_forget 32 = .ok (.invokestatic 37, 3) := by decide +kernel
theorem dX1_forget_35 : decode cX1_forget 35 = .ok (.aload_n 0, 1) := by decide +kernel
theorem dX1_forget_36 : decode cX1_forget 36 = .ok (.getfield 22, 3) := by decide +kernel
theorem dX1_forget_39 : decode cX1_forget 39 = .ok (.invokestatic 37, 3) := by decide +kernel
theorem dX1_forget_42 : decode cX1_forget 42 = .ok (.return_, 1) := by decide +kernel
theorem dX1_learn_0 : decode cX1_learn 0 = .ok (.aload_n 0, 1) := by decide +kernel
theorem dX1_learn_1 : decode cX1_learn 1 = .ok (.getfield 28, 3) := by decide +kernel
theorem dX1_learn_4 : decode cX1_learn 4 = .ok (.ifCond .ne 11, 3) := by decide +kernel
theorem dX1_learn_7 : decode cX1_learn 7 = .ok (.aload_n 0, 1) := by decide +kernel
theorem dX1_learn_8 : decode cX1_learn 8 = .ok (.aload_n 1, 1) := by decide +kernel
theorem dX1_learn_9 : decode cX1_learn 9 = .ok (.getfield 28, 3) := by decide +kernel
theorem dX1_learn_12 : decode cX1_learn 12 = .ok (.putfield 28, 3) := by decide +kernel
theorem dX1_learn_15 : decode cX1_learn 15 = .ok (.aload_n 0, 1) := by decide +kernel
theorem dX1_learn_16 : decode cX1_learn 16 = .ok (.aload_n 0, 1) := by decide +kernel
theorem dX1_learn_17 : decode cX1_learn 17 = .ok (.getfield 31, 3) := by decide +kernel
theorem dX1_learn_20 : decode cX1_learn 20 = .ok (.aload_n 1, 1) := by decide +kernel
theorem dX1_learn_21 : decode cX1_learn 21 = .ok (.getfield 31, 3) := by decide +kernel
theorem dX1_learn_24 : decode cX1_learn 24 = .ok (.invokestatic 41, 3) := by decide +kernel
theorem dX1_learn_27 : decode cX1_learn 27 = .ok (.putfield 31, 3) := by decide +kernel
theorem dX1_learn_30 : decode cX1_learn 30 = .ok (.aload_n 0, 1) := by decide +kernel
theorem dX1_learn_31 : decode cX1_learn 31 = .ok (.aload_n 0, 1) := by decide +kernel
theorem dX1_learn_32 : decode cX1_learn 32 = .ok (.getfield 9, 3) := by decide +kernel
theorem dX1_learn_35 : decode cX1_learn 35 = .ok (.aload_n 1, 1) := by decide +kernel
theorem dX1_learn_36 : decode cX1_learn 36 = .ok (.getfield 9, 3) := by decide +kernel
theorem dX1_learn_39 : decode cX1_learn 39 = .ok (.invokestatic 47, 3) := by decide +kernel
theorem dX1_learn_42 : decode cX1_learn 42 = .ok (.putfield 9, 3) := by decide +kernel
theorem dX1_learn_45 : decode cX1_learn 45 = .ok (.aload_n 0, 1) := by decide +kernel
theorem dX1_learn_46 : decode cX1_learn 46 = .ok (.dup, 1) := by decide +kernel
theorem dX1_learn_47 : decode cX1_learn 47 = .ok (.getfield 34, 3) := by decide +kernel
theorem dX1_learn_50 : decode cX1_learn 50 = .ok (.aload_n 1, 1) := by decide +kernel
theorem dX1_learn_51 : decode cX1_learn 51 = .ok (.getfield 34, 3) := by decide +kernel
theorem dX1_learn_54 : decode cX1_learn 54 = .ok (.ior, 1) := by decide +kernel
theorem dX1_learn_55 : decode cX1_learn 55 = .ok (.putfield 34, 3) := by decide +kernel
theorem dX1_learn_58 : decode cX1_learn 58 = .ok (.aload_n 0, 1) := by decide +kernel
theorem dX1_learn_59 : decode cX1_learn 59 = .ok (.getfield 15, 3) := by decide +kernel
theorem dX1_learn_62 : decode cX1_learn 62 = .ok (.aload_n 1, 1) := by decide +kernel
theorem dX1_learn_63 : decode cX1_learn 63 = .ok (.getfield 15, 3) := by decide +kernel
theorem dX1_learn_66 : decode cX1_learn 66 = .ok (.invokestatic 50, 3) := by decide +kernel
theorem dX1_learn_69 : decode cX1_learn 69 = .ok (.aload_n 0, 1) := by decide +kernel
theorem dX1_learn_70 : decode cX1_learn 70 = .ok (.getfield 19, 3) := by decide +kernel
theorem dX1_learn_73 : decode cX1_learn 73 = .ok (.aload_n 1, 1) := by decide +kernel
theorem dX1_learn_74 : decode cX1_learn 74 = .ok (.getfield 19, 3) := by decide +kernel
theorem dX1_learn_77 : decode cX1_learn 77 = .ok (.invokestatic 50, 3) := by decide +kernel
theorem dX1_learn_80 : decode cX1_learn 80 = .ok (.aload_n 0, 1) := by decide +kernel
theorem dX1_learn_81 : decode cX1_learn 81 = .ok (.getfield 22, 3) := by decide +kernel
theorem dX1_learn_84 : decode cX1_learn 84 = .ok (.aload_n 1, 1) := by decide +kernel
theorem dX1_learn_85 : decode cX1_learn 85 = .ok (.getfield 22, 3) := by decide +kernel
theorem dX1_learn_88 : decode cX1_learn 88 = .ok (.invokestatic 50, 3) := by decide +kernel
theorem dX1_learn_91 : decode cX1_learn 91 = .ok (.return_, 1) := by decide +kernel
theorem dX1_answer_0 : decode cX1_answer 0 = .ok (.iload_n 1, 1) := by decide +kernel
theorem dX1_answer_1 : decode cX1_answer 1 = .ok (.bipush 10, 2) := by decide +kernel
theorem dX1_answer_3 : decode cX1_answer 3 = .ok (.bipush 17, 2) := by decide +kernel
theorem dX1_answer_5 : decode cX1_answer 5 = .ok (.invokestatic 54, 3) := by decide +kernel
theorem dX1_answer_8 : decode cX1_answer 8 = .ok (.ifCond .eq 13, 3) := by decide +kernel
theorem dX1_answer_11 : decode cX1_answer 11 = .ok (.aload_n 0, 1) := by decide +kernel
theorem dX1_answer_12 : decode cX1_answer 12 = .ok (.getfield 15, 3) := by decide +kernel
theorem dX1_answer_15 : decode cX1_answer 15 = .ok (.iload_n 1, 1) := by decide +kernel
theorem dX1_answer_16 : decode cX1_answer 16 = .ok (.bipush 10, 2) := by decide +kernel
theorem dX1_answer_18 : decode cX1_answer 18 = .ok (.isub, 1) := by decide +kernel
theorem dX1_answer_19 : decode cX1_answer 19 = .ok (.iaload, 1) := by decide +kernel
theorem dX1_answer_20 : decode cX1_answer 20 = .ok (.ireturn, 1) := by decide +kernel
theorem dX1_answer_21 : decode cX1_answer 21 = .ok (.iload_n 1, 1) := by decide +kernel
theorem dX1_answer_22 : decode cX1_answer 22 = .ok (.bipush 20, 2) := by decide +kernel
theorem dX1_answer_24 : decode cX1_answer 24 = .ok (.bipush 23, 2) := by decide +kernel
theorem dX1_answer_26 : decode cX1_answer 26 = .ok (.invokestatic 54, 3) := by decide +kernel
theorem dX1_answer_29 : decode cX1_answer 29 = .ok (.ifCond .eq 13, 3) := by decide +kernel
theorem dX1_answer_32 : decode cX1_answer 32 = .ok (.aload_n 0, 1) := by decide +kernel
theorem dX1_answer_33 : decode cX1_answer 33 = .ok (.getfield 19, 3) := by decide +kernel
theorem dX1_answer_36 : decode cX1_answer 36 = .ok (.iload_n 1, 1) := by decide +kernel
theorem dX1_answer_37 : decode cX1_answer 37 = .ok (.bipush 20, 2) := by decide +kernel
theorem dX1_answer_39 : decode cX1_answer 39 = .ok (.isub, 1) := by decide +kernel
theorem dX1_answer_40 : decode cX1_answer 40 = .ok (.iaload, 1) := by decide +kernel
theorem dX1_answer_41 : decode cX1_answer 41 = .ok (.ireturn, 1) := by decide +kernel
theorem dX1_answer_42 : decode cX1_answer 42 = .ok (.iload_n 1, 1) := by decide +kernel
theorem dX1_answer_43 : decode cX1_answer 43 = .ok (.bipush 30, 2) := by decide +kernel
theorem dX1_answer_45 : decode cX1_answer 45 = .ok (.bipush 32, 2) := by decide +kernel
theorem dX1_answer_47 : decode cX1_answer 47 = .ok (.invokestatic 54, 3) := by decide +kernel
theorem dX1_answer_50 : decode cX1_answer 50 = .ok (.ifCond .eq 13, 3) := by decide +kernel
theorem dX1_answer_53 : decode cX1_answer 53 = .ok (.aload_n 0, 1) := by decide +kernel
theorem dX1_answer_54 : decode cX1_answer 54 = .ok (.getfield 22, 3) := by decide +kernel
theorem dX1_answer_57 : decode cX1_answer 57 = .ok (.iload_n 1, 1) := by decide +kernel
theorem dX1_answer_58 : decode cX1_answer 58 = .ok (.bipush 30, 2) := by decide +kernel
theorem dX1_answer_60 : decode cX1_answer 60 = .ok (.isub, 1) := by decide +kernel
theorem dX1_answer_61 : decode cX1_answer 61 = .ok (.iaload, 1) := by decide +kernel
theorem dX1_answer_62 : decode cX1_answer 62 = .ok (.ireturn, 1) := by decide +kernel
theorem dX1_answer_63 : decode cX1_answer 63 = .ok (.iload_n 1, 1) := by decide +kernel
theorem dX1_answer_64 : decode cX1_answer 64 = .ok (.tableswitch 52 0 3 #[32, 37, 42, 47], 32) := by decide +kernel
theorem dX1_answer_96 : decode cX1_answer 96 = .ok (.aload_n 0, 1) := by decide +kernel
theorem dX1_answer_97 : decode cX1_answer 97 = .ok (.getfield 28, 3) := by decide +kernel
theorem dX1_answer_100 : decode cX1_answer 100 = .ok (.ireturn, 1) := by decide +kernel
theorem dX1_answer_101 : decode cX1_answer 101 = .ok (.aload_n 0, 1) := by decide +kernel
theorem dX1_answer_102 : decode cX1_answer 102 = .ok (.getfield 31, 3) := by decide +kernel
theorem dX1_answer_105 : decode cX1_answer 105 = .ok (.ireturn, 1) := by decide +kernel
theorem dX1_answer_106 : decode cX1_answer 106 = .ok (.aload_n 0, 1) := by decide +kernel
theorem dX1_answer_107 : decode cX1_answer 107 = .ok (.getfield 9, 3) := by decide +kernel
theorem dX1_answer_110 : decode cX1_answer 110 = .ok (.ireturn, 1) := by decide +kernel
theorem dX1_answer_111 : decode cX1_answer 111 = .ok (.aload_n 0, 1) := by decide +kernel
theorem dX1_answer_112 : decode cX1_answer 112 = .ok (.getfield 34, 3) := by decide +kernel
theorem dX1_answer_115 : decode cX1_answer 115 = .ok (.ireturn, 1) := by decide +kernel
theorem dX1_answer_116 : decode cX1_answer 116 = .ok (.iconst (-1), 1) := by decide +kernel
theorem dX1_answer_117 : decode cX1_answer 117 = .ok (.ireturn, 1) := by decide +kernel
theorem dX1_barFrom_0 : decode cX1_barFrom 0 = .ok (.aload_n 0, 1) := by decide +kernel
theorem dX1_barFrom_1 : decode cX1_barFrom 1 = .ok (.aload_n 1, 1) := by decide +kernel
theorem dX1_barFrom_2 : decode cX1_barFrom 2 = .ok (.invokevirtual 58, 3) := by decide +kernel
theorem dX1_barFrom_5 : decode cX1_barFrom 5 = .ok (.ifCond .eq 5, 3) := by decide +kernel
theorem dX1_barFrom_8 : decode cX1_barFrom 8 = .ok (.iconst 1, 1) := by decide +kernel
theorem dX1_barFrom_9 : decode cX1_barFrom 9 = .ok (.ireturn, 1) := by decide +kernel
theorem dX1_barFrom_10 : decode cX1_barFrom 10 = .ok (.aload_n 0, 1) := by decide +kernel
theorem dX1_barFrom_11 : decode cX1_barFrom 11 = .ok (.aload_n 1, 1) := by decide +kernel
theorem dX1_barFrom_12 : decode cX1_barFrom 12 = .ok (.invokevirtual 62, 3) := by decide +kernel
theorem dX1_barFrom_15 : decode cX1_barFrom 15 = .ok (.ifCond .ne 5, 3) := by decide +kernel
theorem dX1_barFrom_18 : decode cX1_barFrom 18 = .ok (.iconst 2, 1) := by decide +kernel
theorem dX1_barFrom_19 : decode cX1_barFrom 19 = .ok (.ireturn, 1) := by decide +kernel
theorem dX1_barFrom_20 : decode cX1_barFrom 20 = .ok (.aload_n 0, 1) := by decide +kernel
theorem dX1_barFrom_21 : decode cX1_barFrom 21 = .ok (.aload_n 1, 1) := by decide +kernel
theorem dX1_barFrom_22 : decode cX1_barFrom 22 = .ok (.invokevirtual 65, 3) := by decide +kernel
theorem dX1_barFrom_25 : decode cX1_barFrom 25 = .ok (.ifCond .eq 5, 3) := by decide +kernel
theorem dX1_barFrom_28 : decode cX1_barFrom 28 = .ok (.iconst 3, 1) := by decide +kernel
theorem dX1_barFrom_29 : decode cX1_barFrom 29 = .ok (.ireturn, 1) := by decide +kernel
theorem dX1_barFrom_30 : decode cX1_barFrom 30 = .ok (.aload_n 0, 1) := by decide +kernel
theorem dX1_barFrom_31 : decode cX1_barFrom 31 = .ok (.aload_n 1, 1) := by decide +kernel
theorem dX1_barFrom_32 : decode cX1_barFrom 32 = .ok (.invokevirtual 68, 3) := by decide +kernel
theorem dX1_barFrom_35 : decode cX1_barFrom 35 = .ok (.ifCond .eq 5, 3) := by decide +kernel
theorem dX1_barFrom_38 : decode cX1_barFrom 38 = .ok (.iconst 4, 1) := by decide +kernel
theorem dX1_barFrom_39 : decode cX1_barFrom 39 = .ok (.ireturn, 1) := by decide +kernel
theorem dX1_barFrom_40 : decode cX1_barFrom 40 = .ok (.aload_n 0, 1) := by decide +kernel
theorem dX1_barFrom_41 : decode cX1_barFrom 41 = .ok (.aload_n 1, 1) := by decide +kernel
theorem dX1_barFrom_42 : decode cX1_barFrom 42 = .ok (.invokevirtual 71, 3) := by decide +kernel
theorem dX1_barFrom_45 : decode cX1_barFrom 45 = .ok (.ifCond .eq 7, 3) := by decide +kernel
theorem dX1_barFrom_48 : decode cX1_barFrom 48 = .ok (.iconst 5, 1) := by decide +kernel
theorem dX1_barFrom_49 : decode cX1_barFrom 49 = .ok (.goto 4, 3) := by decide +kernel
theorem dX1_barFrom_52 : decode cX1_barFrom 52 = .ok (.iconst 0, 1) := by decide +kernel
theorem dX1_barFrom_53 : decode cX1_barFrom 53 = .ok (.ireturn, 1) := by decide +kernel
theorem dX1_sexUnlike_0 : decode cX1_sexUnlike 0 = .ok (.aload_n 0, 1) := by decide +kernel
theorem dX1_sexUnlike_1 : decode cX1_sexUnlike 1 = .ok (.getfield 28, 3) := by decide +kernel
theorem dX1_sexUnlike_4 : decode cX1_sexUnlike 4 = .ok (.ifCond .eq 25, 3) := by decide +kernel
theorem dX1_sexUnlike_7 : decode cX1_sexUnlike 7 = .ok (.aload_n 1, 1) := by decide +kernel
theorem dX1_sexUnlike_8 : decode cX1_sexUnlike 8 = .ok (.getfield 28, 3) := by decide +kernel
theorem dX1_sexUnlike_11 : decode cX1_sexUnlike 11 = .ok (.ifCond .eq 18, 3) := by decide +kernel
theorem dX1_sexUnlike_14 : decode cX1_sexUnlike 14 = .ok (.aload_n 0, 1) := by decide +kernel
theorem dX1_sexUnlike_15 : decode cX1_sexUnlike 15 = .ok (.getfield 28, 3) := by decide +kernel
theorem dX1_sexUnlike_18 : decode cX1_sexUnlike 18 = .ok (.aload_n 1, 1) := by decide +kernel
theorem dX1_sexUnlike_19 : decode cX1_sexUnlike 19 = .ok (.getfield 28, 3) := by decide +kernel
theorem dX1_sexUnlike_22 : decode cX1_sexUnlike 22 = .ok (.if_icmp .eq 7, 3) := by decide +kernel
theorem dX1_sexUnlike_25 : decode cX1_sexUnlike 25 = .ok (.iconst 1, 1) := by decide +kernel
theorem dX1_sexUnlike_26 : decode cX1_sexUnlike 26 = .ok (.goto 4, 3) := by decide +kernel
theorem dX1_sexUnlike_29 : decode cX1_sexUnlike 29 = .ok (.iconst 0, 1) := by decide +kernel
theorem dX1_sexUnlike_30 : decode cX1_sexUnlike 30 = .ok (.ireturn, 1) := by decide +kernel
theorem dX1_ageMeets_0 : decode cX1_ageMeets 0 = .ok (.aload_n 0, 1) := by decide +kernel
theorem dX1_ageMeets_1 : decode cX1_ageMeets 1 = .ok (.getfield 31, 3) := by decide +kernel
theorem dX1_ageMeets_4 : decode cX1_ageMeets 4 = .ok (.aload_n 1, 1) := by decide +kernel
theorem dX1_ageMeets_5 : decode cX1_ageMeets 5 = .ok (.getfield 31, 3) := by decide +kernel
theorem dX1_ageMeets_8 : decode cX1_ageMeets 8 = .ok (.invokestatic 41, 3) := by decide +kernel
theorem dX1_ageMeets_11 : decode cX1_ageMeets 11 = .ok (.aload_n 0, 1) := by decide +kernel
theorem dX1_ageMeets_12 : decode cX1_ageMeets 12 = .ok (.getfield 9, 3) := by decide +kernel
theorem dX1_ageMeets_15 : decode cX1_ageMeets 15 = .ok (.aload_n 1, 1) := by decide +kernel
theorem dX1_ageMeets_16 : decode cX1_ageMeets 16 = .ok (.getfield 9, 3) := by decide +kernel
theorem dX1_ageMeets_19 : decode cX1_ageMeets 19 = .ok (.invokestatic 47, 3) := by decide +kernel
theorem dX1_ageMeets_22 : decode cX1_ageMeets 22 = .ok (.if_icmp .gt 7, 3) := by decide +kernel
theorem dX1_ageMeets_25 : decode cX1_ageMeets 25 = .ok (.iconst 1, 1) := by decide +kernel
theorem dX1_ageMeets_26 : decode cX1_ageMeets 26 = .ok (.goto 4, 3) := by decide +kernel
theorem dX1_ageMeets_29 : decode cX1_ageMeets 29 = .ok (.iconst 0, 1) := by decide +kernel
theorem dX1_ageMeets_30 : decode cX1_ageMeets 30 = .ok (.ireturn, 1) := by decide +kernel
theorem dX1_sheetUnlike_0 : decode cX1_sheetUnlike 0 = .ok (.iconst 0, 1) := by decide +kernel
theorem dX1_sheetUnlike_1 : decode cX1_sheetUnlike 1 = .ok (.istore_n 2, 1) := by decide +kernel
theorem dX1_sheetUnlike_2 : decode cX1_sheetUnlike 2 = .ok (.iload_n 2, 1) := by decide +kernel
theorem dX1_sheetUnlike_3 : decode cX1_sheetUnlike 3 = .ok (.iconst 3, 1) := by decide +kernel
theorem dX1_sheetUnlike_4 : decode cX1_sheetUnlike 4 = .ok (.if_icmp .ge 41, 3) := by decide +kernel
theorem dX1_sheetUnlike_7 : decode cX1_sheetUnlike 7 = .ok (.aload_n 0, 1) := by decide +kernel
theorem dX1_sheetUnlike_8 : decode cX1_sheetUnlike 8 = .ok (.getfield 22, 3) := by decide +kernel
theorem dX1_sheetUnlike_11 : decode cX1_sheetUnlike 11 = .ok (.iload_n 2, 1) := by decide +kernel
theorem dX1_sheetUnlike_12 : decode cX1_sheetUnlike 12 = .ok (.iaload, 1) := by decide +kernel
theorem dX1_sheetUnlike_13 : decode cX1_sheetUnlike 13 = .ok (.istore_n 3, 1) := by decide +kernel
theorem dX1_sheetUnlike_14 : decode cX1_sheetUnlike 14 = .ok (.aload_n 1, 1) := by decide +kernel
theorem dX1_sheetUnlike_15 : decode cX1_sheetUnlike 15 = .ok (.getfield 22, 3) := by decide +kernel
theorem dX1_sheetUnlike_18 : decode cX1_sheetUnlike 18 = .ok (.iload_n 2, 1) := by decide +kernel
theorem dX1_sheetUnlike_19 : decode cX1_sheetUnlike 19 = .ok (.iaload, 1) := by decide +kernel
theorem dX1_sheetUnlike_20 : decode cX1_sheetUnlike 20 = .ok (.istore 4, 2) := by decide +kernel
theorem dX1_sheetUnlike_22 : decode cX1_sheetUnlike 22 = .ok (.iload_n 3, 1) := by decide +kernel
theorem dX1_sheetUnlike_23 : decode cX1_sheetUnlike 23 = .ok (.ifCond .eq 16, 3) := by decide +kernel
theorem dX1_sheetUnlike_26 : decode cX1_sheetUnlike 26 = .ok (.iload 4, 2) := by decide +kernel
theorem dX1_sheetUnlike_28 : decode cX1_sheetUnlike 28 = .ok (.ifCond .eq 11, 3) := by decide +kernel
theorem dX1_sheetUnlike_31 : decode cX1_sheetUnlike 31 = .ok (.iload_n 3, 1) := by decide +kernel
theorem dX1_sheetUnlike_32 : decode cX1_sheetUnlike 32 = .ok (.iload 4, 2) := by decide +kernel
theorem dX1_sheetUnlike_34 : decode cX1_sheetUnlike 34 = .ok (.if_icmp .eq 5, 3) := by decide +kernel
theorem dX1_sheetUnlike_37 : decode cX1_sheetUnlike 37 = .ok (.iconst 1, 1) := by decide +kernel
theorem dX1_sheetUnlike_38 : decode cX1_sheetUnlike 38 = .ok (.ireturn, 1) := by decide +kernel
theorem dX1_sheetUnlike_39 : decode cX1_sheetUnlike 39 = .ok (.iinc 2 1, 3) := by decide +kernel
theorem dX1_sheetUnlike_42 : decode cX1_sheetUnlike 42 = .ok (.goto (-40), 3) := by decide +kernel
theorem dX1_sheetUnlike_45 : decode cX1_sheetUnlike 45 = .ok (.iconst 0, 1) := by decide +kernel
theorem dX1_sheetUnlike_46 : decode cX1_sheetUnlike 46 = .ok (.ireturn, 1) := by decide +kernel
theorem dX1_toothCameBack_0 : decode cX1_toothCameBack 0 = .ok (.iconst 0, 1) := by decide +kernel
theorem dX1_toothCameBack_1 : decode cX1_toothCameBack 1 = .ok (.istore_n 2, 1) := by decide +kernel
theorem dX1_toothCameBack_2 : decode cX1_toothCameBack 2 = .ok (.iload_n 2, 1) := by decide +kernel
theorem dX1_toothCameBack_3 : decode cX1_toothCameBack 3 = .ok (.bipush 8, 2) := by decide +kernel
theorem dX1_toothCameBack_5 : decode cX1_toothCameBack 5 = .ok (.if_icmp .ge 35, 3) := by decide +kernel
theorem dX1_toothCameBack_8 : decode cX1_toothCameBack 8 = .ok (.aload_n 0, 1) := by decide +kernel
theorem dX1_toothCameBack_9 : decode cX1_toothCameBack 9 = .ok (.getfield 15, 3) := by decide +kernel
theorem dX1_toothCameBack_12 : decode cX1_toothCameBack 12 = .ok (.iload_n 2, 1) := by decide +kernel
theorem dX1_toothCameBack_13 : decode cX1_toothCameBack 13 = .ok (.iaload, 1) := by decide +kernel
theorem dX1_toothCameBack_14 : decode cX1_toothCameBack 14 = .ok (.ifCond .eq 20, 3) := by decide +kernel
theorem dX1_toothCameBack_17 : decode cX1_toothCameBack 17 = .ok (.aload_n 0, 1) := by decide +kernel
theorem dX1_toothCameBack_18 : decode cX1_toothCameBack 18 = .ok (.getfield 15, 3) := by decide +kernel
theorem dX1_toothCameBack_21 : decode cX1_toothCameBack 21 = .ok (.iload_n 2, 1) := by decide +kernel
theorem dX1_toothCameBack_22 : decode cX1_toothCameBack 22 = .ok (.iaload, 1) := by decide +kernel
theorem dX1_toothCameBack_23 : decode cX1_toothCameBack 23 = .ok (.aload_n 1, 1) := by decide +kernel
theorem dX1_toothCameBack_24 : decode cX1_toothCameBack 24 = .ok (.getfield 15, 3) := by decide +kernel
theorem dX1_toothCameBack_27 : decode cX1_toothCameBack 27 = .ok (.iload_n 2, 1) := by decide +kernel
theorem dX1_toothCameBack_28 : decode cX1_toothCameBack 28 = .ok (.iaload, 1) := by decide +kernel
theorem dX1_toothCameBack_29 : decode cX1_toothCameBack 29 = .ok (.if_icmp .ge 5, 3) := by decide +kernel
theorem dX1_toothCameBack_32 : decode cX1_toothCameBack 32 = .ok (.iconst 1, 1) := by decide +kernel
theorem dX1_toothCameBack_33 : decode cX1_toothCameBack 33 = .ok (.ireturn, 1) := by decide +kernel
theorem dX1_toothCameBack_34 : decode cX1_toothCameBack 34 = .ok (.iinc 2 1, 3) := by decide +kernel
theorem dX1_toothCameBack_37 : decode cX1_toothCameBack 37 = .ok (.goto (-35), 3) := by decide +kernel
theorem dX1_toothCameBack_40 : decode cX1_toothCameBack 40 = .ok (.iconst 0, 1) := by decide +kernel
theorem dX1_toothCameBack_41 : decode cX1_toothCameBack 41 = .ok (.ireturn, 1) := by decide +kernel
theorem dX1_strangeToParent_0 : decode cX1_strangeToParent 0 = .ok (.iconst 0, 1) := by decide +kernel
theorem dX1_strangeToParent_1 : decode cX1_strangeToParent 1 = .ok (.istore_n 2, 1) := by decide +kernel
theorem dX1_strangeToParent_2 : decode cX1_strangeToParent 2 = .ok (.iload_n 2, 1) := by decide +kernel
theorem dX1_strangeToParent_3 : decode cX1_strangeToParent 3 = .ok (.iconst 3, 1) := by decide +kernel
theorem dX1_strangeToParent_4 : decode cX1_strangeToParent 4 = .ok (.if_icmp .ge 59, 3) := by decide +kernel
theorem dX1_strangeToParent_7 : decode cX1_strangeToParent 7 = .ok (.aload_n 0, 1) := by decide +kernel
theorem dX1_strangeToParent_8 : decode cX1_strangeToParent 8 = .ok (.getfield 22, 3) := by decide +kernel
theorem dX1_strangeToParent_11 : decode cX1_strangeToParent 11 = .ok (.iload_n 2, 1) := by decide +kernel
theorem dX1_strangeToParent_12 : decode cX1_strangeToParent 12 = .ok (.iaload, 1) := by decide +kernel
theorem dX1_strangeToParent_13 : decode cX1_strangeToParent 13 = .ok (.istore_n 3, 1) := by decide +kernel
theorem dX1_strangeToParent_14 : decode cX1_strangeToParent 14 = .ok (.aload_n 1, 1) := by decide +kernel
theorem dX1_strangeToParent_15 : decode cX1_strangeToParent 15 = .ok (.getfield 25, 3) := by decide +kernel
theorem dX1_strangeToParent_18 : decode cX1_strangeToParent 18 = .ok (.iload_n 2, 1) := by decide +kernel
theorem dX1_strangeToParent_19 : decode cX1_strangeToParent 19 = .ok (.iaload, 1) := by decide +kernel
theorem dX1_strangeToParent_20 : decode cX1_strangeToParent 20 = .ok (.istore 4, 2) := by decide +kernel
theorem dX1_strangeToParent_22 : decode cX1_strangeToParent 22 = .ok (.iload_n 3, 1) := by decide +kernel
theorem dX1_strangeToParent_23 : decode cX1_strangeToParent 23 = .ok (.ifCond .eq 34, 3) := by decide +kernel
theorem dX1_strangeToParent_26 : decode cX1_strangeToParent 26 = .ok (.iload 4, 2) := by decide +kernel
theorem dX1_strangeToParent_28 : decode cX1_strangeToParent 28 = .ok (.ifCond .eq 29, 3) := by decide +kernel
theorem dX1_strangeToParent_31 : decode cX1_strangeToParent 31 = .ok (.iload 4, 2) := by decide +kernel
theorem dX1_strangeToParent_33 : decode cX1_strangeToParent 33 = .ok (.iload_n 3, 1) := by decide +kernel
theorem dX1_strangeToParent_34 : decode cX1_strangeToParent 34 = .ok (.bipush 10, 2) := by decide +kernel
theorem dX1_strangeToParent_36 : decode cX1_strangeToParent 36 = .ok (.idiv, 1) := by decide +kernel
theorem dX1_strangeToParent_37 : decode cX1_strangeToParent 37 = .ok (.invokestatic 74, 3) := by decide +kernel
theorem dX1_strangeToParent_40 : decode cX1_strangeToParent 40 = .ok (.ifCond .ne 17, 3) := by decide +kernel
theorem dX1_strangeToParent_43 : decode cX1_strangeToParent 43 = .ok (.iload 4, 2) := by decide +kernel
theorem dX1_strangeToParent_45 : decode cX1_strangeToParent 45 = .ok (.iload_n 3, 1) := by decide +kernel
theorem dX1_strangeToParent_46 : decode cX1_strangeToParent 46 = .ok (.bipush 10, 2) := by decide +kernel
theorem dX1_strangeToParent_48 : decode cX1_strangeToParent 48 = .ok (.irem, 1) := by decide +kernel
theorem dX1_strangeToParent_49 : decode cX1_strangeToParent 49 = .ok (.invokestatic 74, 3) := by decide +kernel
theorem dX1_strangeToParent_52 : decode cX1_strangeToParent 52 = .ok (.ifCond .ne 5, 3) := by decide +kernel
theorem dX1_strangeToParent_55 : decode cX1_strangeToParent 55 = .ok (.iconst 1, 1) := by decide +kernel
theorem dX1_strangeToParent_56 : decode cX1_strangeToParent 56 = .ok (.ireturn, 1) := by decide +kernel
theorem dX1_strangeToParent_57 : decode cX1_strangeToParent 57 = .ok (.iinc 2 1, 3) := by decide +kernel
theorem dX1_strangeToParent_60 : decode cX1_strangeToParent 60 = .ok (.goto (-58), 3) := by decide +kernel
theorem dX1_strangeToParent_63 : decode cX1_strangeToParent 63 = .ok (.iconst 0, 1) := by decide +kernel
theorem dX1_strangeToParent_64 : decode cX1_strangeToParent 64 = .ok (.ireturn, 1) := by decide +kernel
theorem dX1_has_0 : decode cX1_has 0 = .ok (.iload_n 0, 1) := by decide +kernel
theorem dX1_has_1 : decode cX1_has 1 = .ok (.bipush 10, 2) := by decide +kernel
theorem dX1_has_3 : decode cX1_has 3 = .ok (.idiv, 1) := by decide +kernel
theorem dX1_has_4 : decode cX1_has 4 = .ok (.iload_n 1, 1) := by decide +kernel
theorem dX1_has_5 : decode cX1_has 5 = .ok (.if_icmp .eq 11, 3) := by decide +kernel
theorem dX1_has_8 : decode cX1_has 8 = .ok (.iload_n 0, 1) := by decide +kernel
theorem dX1_has_9 : decode cX1_has 9 = .ok (.bipush 10, 2) := by decide +kernel
theorem dX1_has_11 : decode cX1_has 11 = .ok (.irem, 1) := by decide +kernel
theorem dX1_has_12 : decode cX1_has 12 = .ok (.iload_n 1, 1) := by decide +kernel
theorem dX1_has_13 : decode cX1_has 13 = .ok (.if_icmp .ne 7, 3) := by decide +kernel
theorem dX1_has_16 : decode cX1_has 16 = .ok (.iconst 1, 1) := by decide +kernel
theorem dX1_has_17 : decode cX1_has 17 = .ok (.goto 4, 3) := by decide +kernel
theorem dX1_has_20 : decode cX1_has 20 = .ok (.iconst 0, 1) := by decide +kernel
theorem dX1_has_21 : decode cX1_has 21 = .ok (.ireturn, 1) := by decide +kernel
theorem dX1_forgetRow_0 : decode cX1_forgetRow 0 = .ok (.iconst 0, 1) := by decide +kernel
theorem dX1_forgetRow_1 : decode cX1_forgetRow 1 = .ok (.istore_n 1, 1) := by decide +kernel
theorem dX1_forgetRow_2 : decode cX1_forgetRow 2 = .ok (.iload_n 1, 1) := by decide +kernel
theorem dX1_forgetRow_3 : decode cX1_forgetRow 3 = .ok (.aload_n 0, 1) := by decide +kernel
theorem dX1_forgetRow_4 : decode cX1_forgetRow 4 = .ok (.arraylength, 1) := by decide +kernel
theorem dX1_forgetRow_5 : decode cX1_forgetRow 5 = .ok (.if_icmp .ge 13, 3) := by decide +kernel
theorem dX1_forgetRow_8 : decode cX1_forgetRow 8 = .ok (.aload_n 0, 1) := by decide +kernel
theorem dX1_forgetRow_9 : decode cX1_forgetRow 9 = .ok (.iload_n 1, 1) := by decide +kernel
theorem dX1_forgetRow_10 : decode cX1_forgetRow 10 = .ok (.iconst 0, 1) := by decide +kernel
theorem dX1_forgetRow_11 : decode cX1_forgetRow 11 = .ok (.iastore, 1) := by decide +kernel
theorem dX1_forgetRow_12 : decode cX1_forgetRow 12 = .ok (.iinc 1 1, 3) := by decide +kernel
theorem dX1_forgetRow_15 : decode cX1_forgetRow 15 = .ok (.goto (-13), 3) := by decide +kernel
theorem dX1_forgetRow_18 : decode cX1_forgetRow 18 = .ok (.return_, 1) := by decide +kernel
theorem dX1_learnRow_0 : decode cX1_learnRow 0 = .ok (.iconst 0, 1) := by decide +kernel
theorem dX1_learnRow_1 : decode cX1_learnRow 1 = .ok (.istore_n 2, 1) := by decide +kernel
theorem dX1_learnRow_2 : decode cX1_learnRow 2 = .ok (.iload_n 2, 1) := by decide +kernel
theorem dX1_learnRow_3 : decode cX1_learnRow 3 = .ok (.aload_n 0, 1) := by decide +kernel
theorem dX1_learnRow_4 : decode cX1_learnRow 4 = .ok (.arraylength, 1) := by decide +kernel
theorem dX1_learnRow_5 : decode cX1_learnRow 5 = .ok (.if_icmp .ge 27, 3) := by decide +kernel
theorem dX1_learnRow_8 : decode cX1_learnRow 8 = .ok (.iload_n 2, 1) := by decide +kernel
theorem dX1_learnRow_9 : decode cX1_learnRow 9 = .ok (.aload_n 1, 1) := by decide +kernel
theorem dX1_learnRow_10 : decode cX1_learnRow 10 = .ok (.arraylength, 1) := by decide +kernel
theorem dX1_learnRow_11 : decode cX1_learnRow 11 = .ok (.if_icmp .ge 21, 3) := by decide +kernel
theorem dX1_learnRow_14 : decode cX1_learnRow 14 = .ok (.aload_n 0, 1) := by decide +kernel
theorem dX1_learnRow_15 : decode cX1_learnRow 15 = .ok (.iload_n 2, 1) := by decide +kernel
theorem dX1_learnRow_16 : decode cX1_learnRow 16 = .ok (.iaload, 1) := by decide +kernel
theorem dX1_learnRow_17 : decode cX1_learnRow 17 = .ok (.ifCond .ne 9, 3) := by decide +kernel
theorem dX1_learnRow_20 : decode cX1_learnRow 20 = .ok (.aload_n 0, 1) := by decide +kernel
theorem dX1_learnRow_21 : decode cX1_learnRow 21 = .ok (.iload_n 2, 1) := by decide +kernel
theorem dX1_learnRow_22 : decode cX1_learnRow 22 = .ok (.aload_n 1, 1) := by decide +kernel
theorem dX1_learnRow_23 : decode cX1_learnRow 23 = .ok (.iload_n 2, 1) := by decide +kernel
theorem dX1_learnRow_24 : decode cX1_learnRow 24 = .ok (.iaload, 1) := by decide +kernel
theorem dX1_learnRow_25 : decode cX1_learnRow 25 = .ok (.iastore, 1) := by decide +kernel
theorem dX1_learnRow_26 : decode cX1_learnRow 26 = .ok (.iinc 2 1, 3) := by decide +kernel
theorem dX1_learnRow_29 : decode cX1_learnRow 29 = .ok (.goto (-27), 3) := by decide +kernel
theorem dX1_learnRow_32 : decode cX1_learnRow 32 = .ok (.return_, 1) := by decide +kernel
theorem dX2_init_0 : decode cX2_init 0 = .ok (.aload_n 0, 1) := by decide +kernel
theorem dX2_init_1 : decode cX2_init 1 = .ok (.invokespecial 3, 3) := by decide +kernel
theorem dX2_init_4 : decode cX2_init 4 = .ok (.aload_n 0, 1) := by decide +kernel
theorem dX2_init_5 : decode cX2_init 5 = .ok (.bipush 12, 2) := by decide +kernel
theorem dX2_init_7 : decode cX2_init 7 = .ok (.anewarray 9, 3) := by decide +kernel
theorem dX2_init_10 : decode cX2_init 10 = .ok (.putfield 11, 3) := by decide +kernel
theorem dX2_init_13 : decode cX2_init 13 = .ok (.iconst 0, 1) := by decide +kernel
theorem dX2_init_14 : decode cX2_init 14 = .ok (.istore_n 1, 1) := by decide +kernel
theorem dX2_init_15 : decode cX2_init 15 = .ok (.iload_n 1, 1) := by decide +kernel
theorem dX2_init_16 : decode cX2_init 16 = .ok (.bipush 12, 2) := by decide +kernel
theorem dX2_init_18 : decode cX2_init 18 = .ok (.if_icmp .ge 22, 3) := by decide +kernel
theorem dX2_init_21 : decode cX2_init 21 = .ok (.aload_n 0, 1) := by decide +kernel
theorem dX2_init_22 : decode cX2_init 22 = .ok (.getfield 11, 3) := by decide +kernel
theorem dX2_init_25 : decode cX2_init 25 = .ok (.iload_n 1, 1) := by decide +kernel
theorem dX2_init_26 : decode cX2_init 26 = .ok (.new 9, 3) := by decide +kernel
theorem dX2_init_29 : decode cX2_init 29 = .ok (.dup, 1) := by decide +kernel
theorem dX2_init_30 : decode cX2_init 30 = .ok (.invokespecial 17, 3) := by decide +kernel
theorem dX2_init_33 : decode cX2_init 33 = .ok (.aastore, 1) := by decide +kernel
theorem dX2_init_34 : decode cX2_init 34 = .ok (.iinc 1 1, 3) := by decide +kernel
theorem dX2_init_37 : decode cX2_init 37 = .ok (.goto (-22), 3) := by decide +kernel
theorem dX2_init_40 : decode cX2_init 40 = .ok (.return_, 1) := by decide +kernel
theorem dX2_open_0 : decode cX2_open 0 = .ok (.aload_n 0, 1) := by decide +kernel
theorem dX2_open_1 : decode cX2_open 1 = .ok (.getfield 18, 3) := by decide +kernel
theorem dX2_open_4 : decode cX2_open 4 = .ok (.bipush 12, 2) := by decide +kernel
theorem dX2_open_6 : decode cX2_open 6 = .ok (.if_icmp .lt 5, 3) := by decide +kernel
theorem dX2_open_9 : decode cX2_open 9 = .ok (.iconst (-1), 1) := by decide +kernel
theorem dX2_open_10 : decode cX2_open 10 = .ok (.ireturn, 1) := by decide +kernel
theorem dX2_open_11 : decode cX2_open 11 = .ok (.aload_n 0, 1) := by decide +kernel
theorem dX2_open_12 : decode cX2_open 12 = .ok (.dup, 1) := by decide +kernel
theorem dX2_open_13 : decode cX2_open 13 = .ok (.getfield 18, 3) := by decide +kernel
theorem dX2_open_16 : decode cX2_open 16 = .ok (.iconst 1, 1) := by decide +kernel
theorem dX2_open_17 : decode cX2_open 17 = .ok (.iadd, 1) := by decide +kernel
theorem dX2_open_18 : decode cX2_open 18 = .ok (.putfield 18, 3) := by decide +kernel
theorem dX2_open_21 : decode cX2_open 21 = .ok (.aload_n 0, 1) := by decide +kernel
theorem dX2_open_22 : decode cX2_open 22 = .ok (.getfield 18, 3) := by decide +kernel
theorem dX2_open_25 : decode cX2_open 25 = .ok (.iconst 1, 1) := by decide +kernel
theorem dX2_open_26 : decode cX2_open 26 = .ok (.isub, 1) := by decide +kernel
theorem dX2_open_27 : decode cX2_open 27 = .ok (.ireturn, 1) := by decide +kernel
theorem dX2_find_0 : decode cX2_find 0 = .ok (.iload_n 1, 1) := by decide +kernel
theorem dX2_find_1 : decode cX2_find 1 = .ok (.ifCond .lt 20, 3) := by decide +kernel
theorem dX2_find_4 : decode cX2_find 4 = .ok (.iload_n 1, 1) := by decide +kernel
theorem dX2_find_5 : decode cX2_find 5 = .ok (.aload_n 0, 1) := by decide +kernel
theorem dX2_find_6 : decode cX2_find 6 = .ok (.getfield 18, 3) := by decide +kernel
theorem dX2_find_9 : decode cX2_find 9 = .ok (.if_icmp .ge 12, 3) := by decide +kernel
theorem dX2_find_12 : decode cX2_find 12 = .ok (.aload_n 0, 1) := by decide +kernel
theorem dX2_find_13 : decode cX2_find 13 = .ok (.getfield 11, 3) := by decide +kernel
theorem dX2_find_16 : decode cX2_find 16 = .ok (.iload_n 1, 1) := by decide +kernel
theorem dX2_find_17 : decode cX2_find 17 = .ok (.aaload, 1) := by decide +kernel
theorem dX2_find_18 : decode cX2_find 18 = .ok (.goto 4, 3) := by decide +kernel
theorem dX2_find_21 : decode cX2_find 21 = .ok (.aconst_null, 1) := by decide +kernel
theorem dX2_find_22 : decode cX2_find 22 = .ok (.areturn, 1) := by decide +kernel
theorem dX3_init_0 : decode cX3_init 0 = .ok (.aload_n 0, 1) := by decide +kernel
theorem dX3_init_1 : decode cX3_init 1 = .ok (.invokespecial 3, 3) := by decide +kernel
theorem dX3_init_4 : decode cX3_init 4 = .ok (.aload_n 0, 1) := by decide +kernel
theorem dX3_init_5 : decode cX3_init 5 = .ok (.iconst 4, 1) := by decide +kernel
theorem dX3_init_6 : decode cX3_init 6 = .ok (.newarray .int, 2) := by decide +kernel
theorem dX3_init_8 : decode cX3_init 8 = .ok (.putfield 9, 3) := by decide +kernel
theorem dX3_init_11 : decode cX3_init 11 = .ok (.aload_n 0, 1) := by decide +kernel
theorem dX3_init_12 : decode cX3_init 12 = .ok (.iconst 4, 1) := by decide +kernel
theorem dX3_init_13 : decode cX3_init 13 = .ok (.newarray .int, 2) := by decide +kernel
theorem dX3_init_15 : decode cX3_init 15 = .ok (.putfield 15, 3) := by decide +kernel
theorem dX3_init_18 : decode cX3_init 18 = .ok (.aload_n 0, 1) := by decide +kernel
theorem dX3_init_19 : decode cX3_init 19 = .ok (.bipush 10, 2) := by decide +kernel
theorem dX3_init_21 : decode cX3_init 21 = .ok (.newarray .int, 2) := by decide +kernel
theorem dX3_init_23 : decode cX3_init 23 = .ok (.putfield 18, 3) := by decide +kernel
theorem dX3_init_26 : decode cX3_init 26 = .ok (.aload_n 0, 1) := by decide +kernel
theorem dX3_init_27 : decode cX3_init 27 = .ok (.iconst 4, 1) := by decide +kernel
theorem dX3_init_28 : decode cX3_init 28 = .ok (.newarray .int, 2) := by decide +kernel
theorem dX3_init_30 : decode cX3_init 30 = .ok (.putfield 21, 3) := by decide +kernel
theorem dX3_init_33 : decode cX3_init 33 = .ok (.aload_n 0, 1) := by decide +kernel
theorem dX3_init_34 : decode cX3_init 34 = .ok (.invokevirtual 24, 3) := by decide +kernel
theorem dX3_init_37 : decode cX3_init 37 = .ok (.return_, 1) := by decide +kernel
theorem dX3_reset_0 : decode cX3_reset 0 = .ok (.aload_n 0, 1) := by decide +kernel
theorem dX3_reset_1 : decode cX3_reset 1 = .ok (.getfield 9, 3) := by decide +kernel
theorem dX3_reset_4 : decode cX3_reset 4 = .ok (.iconst 1, 1) := by decide +kernel
theorem dX3_reset_5 : decode cX3_reset 5 = .ok (.iconst 1, 1) := by decide +kernel
theorem dX3_reset_6 : decode cX3_reset 6 = .ok (.iastore, 1) := by decide +kernel
theorem dX3_reset_7 : decode cX3_reset 7 = .ok (.aload_n 0, 1) := by decide +kernel
theorem dX3_reset_8 : decode cX3_reset 8 = .ok (.getfield 9, 3) := by decide +kernel
theorem dX3_reset_11 : decode cX3_reset 11 = .ok (.iconst 2, 1) := by decide +kernel
theorem dX3_reset_12 : decode cX3_reset 12 = .ok (.iconst 4, 1) := by decide +kernel
theorem dX3_reset_13 : decode cX3_reset 13 = .ok (.iastore, 1) := by decide +kernel
theorem dX3_reset_14 : decode cX3_reset 14 = .ok (.aload_n 0, 1) := by decide +kernel
theorem dX3_reset_15 : decode cX3_reset 15 = .ok (.getfield 9, 3) := by decide +kernel
theorem dX3_reset_18 : decode cX3_reset 18 = .ok (.iconst 3, 1) := by decide +kernel
theorem dX3_reset_19 : decode cX3_reset 19 = .ok (.bipush 6, 2) := by decide +kernel
theorem dX3_reset_21 : decode cX3_reset 21 = .ok (.iastore, 1) := by decide +kernel
theorem dX3_reset_22 : decode cX3_reset 22 = .ok (.iconst 0, 1) := by decide +kernel
theorem dX3_reset_23 : decode cX3_reset 23 = .ok (.istore_n 1, 1) := by decide +kernel
theorem dX3_reset_24 : decode cX3_reset 24 = .ok (.iload_n 1, 1) := by decide +kernel
theorem dX3_reset_25 : decode cX3_reset 25 = .ok (.iconst 4, 1) := by decide +kernel
theorem dX3_reset_26 : decode cX3_reset 26 = .ok (.if_icmp .ge 16, 3) := by decide +kernel
theorem dX3_reset_29 : decode cX3_reset 29 = .ok (.aload_n 0, 1) := by decide +kernel
theorem dX3_reset_30 : decode cX3_reset 30 = .ok (.getfield 15, 3) := by decide +kernel
theorem dX3_reset_33 : decode cX3_reset 33 = .ok (.iload_n 1, 1) := by decide +kernel
theorem dX3_reset_34 : decode cX3_reset 34 = .ok (.iconst 5, 1) := by decide +kernel
theorem dX3_reset_35 : decode cX3_reset 35 = .ok (.iastore, 1) := by decide +kernel
theorem dX3_reset_36 : decode cX3_reset 36 = .ok (.iinc 1 1, 3) := by decide +kernel
theorem dX3_reset_39 : decode cX3_reset 39 = .ok (.goto (-15), 3) := by decide +kernel
theorem dX3_reset_42 : decode cX3_reset 42 = .ok (.iconst 1, 1) := by decide +kernel
theorem dX3_reset_43 : decode cX3_reset 43 = .ok (.istore_n 1, 1) := by decide +kernel
theorem dX3_reset_44 : decode cX3_reset 44 = .ok (.iload_n 1, 1) := by decide +kernel
theorem dX3_reset_45 : decode cX3_reset 45 = .ok (.bipush 9, 2) := by decide +kernel
theorem dX3_reset_47 : decode cX3_reset 47 = .ok (.if_icmp .gt 16, 3) := by decide +kernel
theorem dX3_reset_50 : decode cX3_reset 50 = .ok (.aload_n 0, 1) := by decide +kernel
theorem dX3_reset_51 : decode cX3_reset 51 = .ok (.getfield 18, 3) := by decide +kernel
theorem dX3_reset_54 : decode cX3_reset 54 = .ok (.iload_n 1, 1) := by decide +kernel
theorem dX3_reset_55 : decode cX3_reset 55 = .ok (.iconst 3, 1) := by decide +kernel
theorem dX3_reset_56 : decode cX3_reset 56 = .ok (.iastore, 1) := by decide +kernel
theorem dX3_reset_57 : decode cX3_reset 57 = .ok (.iinc 1 1, 3) := by decide +kernel
theorem dX3_reset_60 : decode cX3_reset 60 = .ok (.goto (-16), 3) := by decide +kernel
theorem dX3_reset_63 : decode cX3_reset 63 = .ok (.aload_n 0, 1) := by decide +kernel
theorem dX3_reset_64 : decode cX3_reset 64 = .ok (.getfield 21, 3) := by decide +kernel
theorem dX3_reset_67 : decode cX3_reset 67 = .ok (.iconst 0, 1) := by decide +kernel
theorem dX3_reset_68 : decode cX3_reset 68 = .ok (.iconst 2, 1) := by decide +kernel
theorem dX3_reset_69 : decode cX3_reset 69 = .ok (.iastore, 1) := by decide +kernel
theorem dX3_reset_70 : decode cX3_reset 70 = .ok (.aload_n 0, 1) := by decide +kernel
theorem dX3_reset_71 : decode cX3_reset 71 = .ok (.getfield 21, 3) := by decide +kernel
theorem dX3_reset_74 : decode cX3_reset 74 = .ok (.iconst 1, 1) := by decide +kernel
theorem dX3_reset_75 : decode cX3_reset 75 = .ok (.bipush 20, 2) := by decide +kernel
theorem dX3_reset_77 : decode cX3_reset 77 = .ok (.iastore, 1) := by decide +kernel
theorem dX3_reset_78 : decode cX3_reset 78 = .ok (.aload_n 0, 1) := by decide +kernel
theorem dX3_reset_79 : decode cX3_reset 79 = .ok (.getfield 21, 3) := by decide +kernel
theorem dX3_reset_82 : decode cX3_reset 82 = .ok (.iconst 2, 1) := by decide +kernel
theorem dX3_reset_83 : decode cX3_reset 83 = .ok (.iconst 5, 1) := by decide +kernel
theorem dX3_reset_84 : decode cX3_reset 84 = .ok (.iastore, 1) := by decide +kernel
theorem dX3_reset_85 : decode cX3_reset 85 = .ok (.aload_n 0, 1) := by decide +kernel
theorem dX3_reset_86 : decode cX3_reset 86 = .ok (.getfield 21, 3) := by decide +kernel
theorem dX3_reset_89 : decode cX3_reset 89 = .ok (.iconst 3, 1) := by decide +kernel
theorem dX3_reset_90 : decode cX3_reset 90 = .ok (.iconst 2, 1) := by decide +kernel
theorem dX3_reset_91 : decode cX3_reset 91 = .ok (.iastore, 1) := by decide +kernel
theorem dX3_reset_92 : decode cX3_reset 92 = .ok (.return_, 1) := by decide +kernel
theorem dX3_weigh_0 : decode cX3_weigh 0 = .ok (.aload_n 1, 1) := by decide +kernel
theorem dX3_weigh_1 : decode cX3_weigh 1 = .ok (.aload_n 2, 1) := by decide +kernel
theorem dX3_weigh_2 : decode cX3_weigh 2 = .ok (.invokevirtual 27, 3) := by decide +kernel
theorem dX3_weigh_5 : decode cX3_weigh 5 = .ok (.ifCond .eq 6, 3) := by decide +kernel
theorem dX3_weigh_8 : decode cX3_weigh 8 = .ok (.ldc 33, 2) := by decide +kernel
theorem dX3_weigh_10 : decode cX3_weigh 10 = .ok (.ireturn, 1) := by decide +kernel
theorem dX3_weigh_11 : decode cX3_weigh 11 = .ok (.aload_n 0, 1) := by decide +kernel
theorem dX3_weigh_12 : decode cX3_weigh 12 = .ok (.aload_n 1, 1) := by decide +kernel
theorem dX3_weigh_13 : decode cX3_weigh 13 = .ok (.aload_n 2, 1) := by decide +kernel
theorem dX3_weigh_14 : decode cX3_weigh 14 = .ok (.invokevirtual 34, 3) := by decide +kernel
theorem dX3_weigh_17 : decode cX3_weigh 17 = .ok (.aload_n 0, 1) := by decide +kernel
theorem dX3_weigh_18 : decode cX3_weigh 18 = .ok (.aload_n 1, 1) := by decide +kernel
theorem dX3_weigh_19 : decode cX3_weigh 19 = .ok (.aload_n 2, 1) := by decide +kernel
theorem dX3_weigh_20 : decode cX3_weigh 20 = .ok (.invokevirtual 38, 3) := by decide +kernel
theorem dX3_weigh_23 : decode cX3_weigh 23 = .ok (.iadd, 1) := by decide +kernel
theorem dX3_weigh_24 : decode cX3_weigh 24 = .ok (.aload_n 0, 1) := by decide +kernel
theorem dX3_weigh_25 : decode cX3_weigh 25 = .ok (.aload_n 1, 1) := by decide +kernel
theorem dX3_weigh_26 : decode cX3_weigh 26 = .ok (.aload_n 2, 1) := by decide +kernel
theorem dX3_weigh_27 : decode cX3_weigh 27 = .ok (.invokevirtual 41, 3) := by decide +kernel
theorem dX3_weigh_30 : decode cX3_weigh 30 = .ok (.iadd, 1) := by decide +kernel
theorem dX3_weigh_31 : decode cX3_weigh 31 = .ok (.ireturn, 1) := by decide +kernel
theorem dX3_weighTeeth_0 : decode cX3_weighTeeth 0 = .ok (.iconst 0, 1) := by decide +kernel
theorem dX3_weighTeeth_1 : decode cX3_weighTeeth 1 = .ok (.istore_n 3, 1) := by decide +kernel
theorem dX3_weighTeeth_2 : decode cX3_weighTeeth 2 = .ok (.iconst 0, 1) := by decide +kernel
theorem dX3_weighTeeth_3 : decode cX3_weighTeeth 3 = .ok (.istore 4, 2) := by decide +kernel
theorem dX3_weighTeeth_5 : decode cX3_weighTeeth 5 = .ok (.iload 4, 2) := by decide +kernel
theorem dX3_weighTeeth_7 : decode cX3_weighTeeth 7 = .ok (.bipush 8, 2) := by decide +kernel
theorem dX3_weighTeeth_9 : decode cX3_weighTeeth 9 = .ok (.if_icmp .ge 50, 3) := by decide +kernel
theorem dX3_weighTeeth_12 : decode cX3_weighTeeth 12 = .ok (.aload_n 1, 1) := by decide +kernel
theorem dX3_weighTeeth_13 : decode cX3_weighTeeth 13 = .ok (.getfield 44, 3) := by decide +kernel
theorem dX3_weighTeeth_16 : decode cX3_weighTeeth 16 = .ok (.iload 4, 2) := by decide +kernel
theorem dX3_weighTeeth_18 : decode cX3_weighTeeth 18 = .ok (.iaload, 1) := by decide +kernel
theorem dX3_weighTeeth_19 : decode cX3_weighTeeth 19 = .ok (.istore 5, 2) := by decide +kernel
theorem dX3_weighTeeth_21 : decode cX3_weighTeeth 21 = .ok (.iload 5, 2) := by decide +kernel
theorem dX3_weighTeeth_23 : decode cX3_weighTeeth 23 = .ok (.iconst 1, 1) := by decide +kernel
theorem dX3_weighTeeth_24 : decode cX3_weighTeeth 24 = .ok (.iconst 3, 1) := by decide +kernel
theorem dX3_weighTeeth_25 : decode cX3_weighTeeth 25 = .ok (.invokestatic 47, 3) := by decide +kernel
theorem dX3_weighTeeth_28 : decode cX3_weighTeeth 28 = .ok (.ifCond .eq 25, 3) := by decide +kernel
theorem dX3_weighTeeth_31 : decode cX3_weighTeeth 31 = .ok (.iload 5, 2) := by decide +kernel
theorem dX3_weighTeeth_33 : decode cX3_weighTeeth 33 = .ok (.aload_n 2, 1) := by decide +kernel
theorem dX3_weighTeeth_34 : decode cX3_weighTeeth 34 = .ok (.getfield 44, 3) := by decide +kernel
theorem dX3_weighTeeth_37 : decode cX3_weighTeeth 37 = .ok (.iload 4, 2) := by decide +kernel
theorem dX3_weighTeeth_39 : decode cX3_weighTeeth 39 = .ok (.iaload, 1) := by decide +kernel
theorem dX3_weighTeeth_40 : decode cX3_weighTeeth 40 = .ok (.if_icmp .ne 13, 3) := by decide +kernel
theorem dX3_weighTeeth_43 : decode cX3_weighTeeth 43 = .ok (.iload_n 3, 1) := by decide +kernel
theorem dX3_weighTeeth_44 : decode cX3_weighTeeth 44 = .ok (.aload_n 0, 1) := by decide +kernel
theorem dX3_weighTeeth_45 : decode cX3_weighTeeth 45 = .ok (.getfield 9, 3) := by decide +kernel
theorem dX3_weighTeeth_48 : decode cX3_weighTeeth 48 = .ok (.iload 5, 2) := by decide +kernel
theorem dX3_weighTeeth_50 : decode cX3_weighTeeth 50 = .ok (.iaload, 1) := by decide +kernel
theorem dX3_weighTeeth_51 : decode cX3_weighTeeth 51 = .ok (.iadd, 1) := by decide +kernel
theorem dX3_weighTeeth_52 : decode cX3_weighTeeth 52 = .ok (.istore_n 3, 1) := by decide +kernel
theorem dX3_weighTeeth_53 : decode cX3_weighTeeth 53 = .ok (.iinc 4 1, 3) := by decide +kernel
theorem dX3_weighTeeth_56 : decode cX3_weighTeeth 56 = .ok (.goto (-51), 3) := by decide +kernel
theorem dX3_weighTeeth_59 : decode cX3_weighTeeth 59 = .ok (.iload_n 3, 1) := by decide +kernel
theorem dX3_weighTeeth_60 : decode cX3_weighTeeth 60 = .ok (.ireturn, 1) := by decide +kernel
theorem dX3_weighMarks_0 : decode cX3_weighMarks 0 = .ok (.iconst 0, 1) := by decide +kernel
theorem dX3_weighMarks_1 : decode cX3_weighMarks 1 = .ok (.istore_n 3, 1) := by decide +kernel
theorem dX3_weighMarks_2 : decode cX3_weighMarks 2 = .ok (.iconst 0, 1) := by decide +kernel
theorem dX3_weighMarks_3 : decode cX3_weighMarks 3 = .ok (.istore 4, 2) := by decide +kernel
theorem dX3_weighMarks_5 : decode cX3_weighMarks 5 = .ok (.iload 4, 2) := by decide +kernel
theorem dX3_weighMarks_7 : decode cX3_weighMarks 7 = .ok (.iconst 4, 1) := by decide +kernel
theorem dX3_weighMarks_8 : decode cX3_weighMarks 8 = .ok (.if_icmp .ge 67, 3) := by decide +kernel
theorem dX3_weighMarks_11 : decode cX3_weighMarks 11 = .ok (.aload_n 1, 1) := by decide +kernel
theorem dX3_weighMarks_12 : decode cX3_weighMarks 12 = .ok (.getfield 51, 3) := by decide +kernel
theorem dX3_weighMarks_15 : decode cX3_weighMarks 15 = .ok (.iload 4, 2) := by decide +kernel
theorem dX3_weighMarks_17 : decode cX3_weighMarks 17 = .ok (.iaload, 1) := by decide +kernel
theorem dX3_weighMarks_18 : decode cX3_weighMarks 18 = .ok (.ifCond .eq 51, 3) := by decide +kernel
theorem dX3_weighMarks_21 : decode cX3_weighMarks 21 = .ok (.aload_n 2, 1) := by decide +kernel
theorem dX3_weighMarks_22 : decode cX3_weighMarks 22 = .ok (.getfield 51, 3) := by decide +kernel
theorem dX3_weighMarks_25 : decode cX3_weighMarks 25 = .ok (.iload 4, 2) := by decide +kernel
theorem dX3_weighMarks_27 : decode cX3_weighMarks 27 = .ok (.iaload, 1) := by decide +kernel
theorem dX3_weighMarks_28 : decode cX3_weighMarks 28 = .ok (.ifCond .eq 41, 3) := by decide +kernel
theorem dX3_weighMarks_31 : decode cX3_weighMarks 31 = .ok (.iload_n 3, 1) := by decide +kernel
theorem dX3_weighMarks_32 : decode cX3_weighMarks 32 = .ok (.aload_n 1, 1) := by decide +kernel
theorem dX3_weighMarks_33 : decode cX3_weighMarks 33 = .ok (.getfield 51, 3) := by decide +kernel
theorem dX3_weighMarks_36 : decode cX3_weighMarks 36 = .ok (.iload 4, 2) := by decide +kernel
theorem dX3_weighMarks_38 : decode cX3_weighMarks 38 = .ok (.iaload, 1) := by decide +kernel
theorem dX3_weighMarks_39 : decode cX3_weighMarks 39 = .ok (.aload_n 2, 1) := by decide +kernel
theorem dX3_weighMarks_40 : decode cX3_weighMarks 40 = .ok (.getfield 51, 3) := by decide +kernel
theorem dX3_weighMarks_43 : decode cX3_weighMarks 43 = .ok (.iload 4, 2) := by decide +kernel
theorem dX3_weighMarks_45 : decode cX3_weighMarks 45 = .ok (.iaload, 1) := by decide +kernel
theorem dX3_weighMarks_46 : decode cX3_weighMarks 46 = .ok (.if_icmp .ne 13, 3) := by decide +kernel
theorem dX3_weighMarks_49 : decode cX3_weighMarks 49 = .ok (.aload_n 0, 1) := by decide +kernel
theorem dX3_weighMarks_50 : decode cX3_weighMarks 50 = .ok (.getfield 15, 3) := by decide +kernel
theorem dX3_weighMarks_53 : decode cX3_weighMarks 53 = .ok (.iload 4, 2) := by decide +kernel
theorem dX3_weighMarks_55 : decode cX3_weighMarks 55 = .ok (.iaload, 1) := by decide +kernel
theorem dX3_weighMarks_56 : decode cX3_weighMarks 56 = .ok (.goto 11, 3) := by decide +kernel
theorem dX3_weighMarks_59 : decode cX3_weighMarks 59 = .ok (.aload_n 0, 1) := by decide +kernel
theorem dX3_weighMarks_60 : decode cX3_weighMarks 60 = .ok (.getfield 15, 3) := by decide +kernel
theorem dX3_weighMarks_63 : decode cX3_weighMarks 63 = .ok (.iload 4, 2) := by decide +kernel
theorem dX3_weighMarks_65 : decode cX3_weighMarks 65 = .ok (.iaload, 1) := by decide +kernel
theorem dX3_weighMarks_66 : decode cX3_weighMarks 66 = .ok (.ineg, 1) := by decide +kernel
theorem dX3_weighMarks_67 : decode cX3_weighMarks 67 = .ok (.iadd, 1) := by decide +kernel
theorem dX3_weighMarks_68 : decode cX3_weighMarks 68 = .ok (.istore_n 3, 1) := by decide +kernel
theorem dX3_weighMarks_69 : decode cX3_weighMarks 69 = .ok (.iinc 4 1, 3) := by decide +kernel
theorem dX3_weighMarks_72 : decode cX3_weighMarks 72 = .ok (.goto (-67), 3) := by decide +kernel
theorem dX3_weighMarks_75 : decode cX3_weighMarks 75 = .ok (.iload_n 3, 1) := by decide +kernel
theorem dX3_weighMarks_76 : decode cX3_weighMarks 76 = .ok (.ireturn, 1) := by decide +kernel
theorem dX3_weighSheets_0 : decode cX3_weighSheets 0 = .ok (.iconst 0, 1) := by decide +kernel
theorem dX3_weighSheets_1 : decode cX3_weighSheets 1 = .ok (.istore_n 3, 1) := by decide +kernel
theorem dX3_weighSheets_2 : decode cX3_weighSheets 2 = .ok (.iconst 0, 1) := by decide +kernel
theorem dX3_weighSheets_3 : decode cX3_weighSheets 3 = .ok (.istore 4, 2) := by decide +kernel
theorem dX3_weighSheets_5 : decode cX3_weighSheets 5 = .ok (.iload 4, 2) := by decide +kernel
theorem dX3_weighSheets_7 : decode cX3_weighSheets 7 = .ok (.iconst 3, 1) := by decide +kernel
theorem dX3_weighSheets_8 : decode cX3_weighSheets 8 = .ok (.if_icmp .ge 86, 3) := by decide +kernel
theorem dX3_weighSheets_11 : decode cX3_weighSheets 11 = .ok (.aload_n 1, 1) := by decide +kernel
theorem dX3_weighSheets_12 : decode cX3_weighSheets 12 = .ok (.getfield 54, 3) := by decide +kernel
theorem dX3_weighSheets_15 : decode cX3_weighSheets 15 = .ok (.iload 4, 2) := by decide +kernel
theorem dX3_weighSheets_17 : decode cX3_weighSheets 17 = .ok (.iaload, 1) := by decide +kernel
theorem dX3_weighSheets_18 : decode cX3_weighSheets 18 = .ok (.istore 5, 2) := by decide +kernel
theorem dX3_weighSheets_20 : decode cX3_weighSheets 20 = .ok (.iload 5, 2) := by decide +kernel
theorem dX3_weighSheets_22 : decode cX3_weighSheets 22 = .ok (.bipush 11, 2) := by decide +kernel
theorem dX3_weighSheets_24 : decode cX3_weighSheets 24 = .ok (.bipush 99, 2) := by decide +kernel
theorem dX3_weighSheets_26 : decode cX3_weighSheets 26 = .ok (.invokestatic 47, 3) := by decide +kernel
theorem dX3_weighSheets_29 : decode cX3_weighSheets 29 = .ok (.ifCond .ne 6, 3) := by decide +kernel
theorem dX3_weighSheets_32 : decode cX3_weighSheets 32 = .ok (.goto 56, 3) := by decide +kernel
theorem dX3_weighSheets_35 : decode cX3_weighSheets 35 = .ok (.aload_n 2, 1) := by decide +kernel
theorem dX3_weighSheets_36 : decode cX3_weighSheets 36 = .ok (.getfield 54, 3) := by decide +kernel
theorem dX3_weighSheets_39 : decode cX3_weighSheets 39 = .ok (.iload 4, 2) := by decide +kernel
theorem dX3_weighSheets_41 : decode cX3_weighSheets 41 = .ok (.iaload, 1) := by decide +kernel
theorem dX3_weighSheets_42 : decode cX3_weighSheets 42 = .ok (.ifCond .eq 27, 3) := by decide +kernel
theorem dX3_weighSheets_45 : decode cX3_weighSheets 45 = .ok (.iload_n 3, 1) := by decide +kernel
theorem dX3_weighSheets_46 : decode cX3_weighSheets 46 = .ok (.aload_n 0, 1) := by decide +kernel
theorem dX3_weighSheets_47 : decode cX3_weighSheets 47 = .ok (.getfield 18, 3) := by decide +kernel
theorem dX3_weighSheets_50 : decode cX3_weighSheets 50 = .ok (.iload 5, 2) := by decide +kernel
theorem dX3_weighSheets_52 : decode cX3_weighSheets 52 = .ok (.bipush 10, 2) := by decide +kernel
theorem dX3_weighSheets_54 : decode cX3_weighSheets 54 = .ok (.idiv, 1) := by decide +kernel
theorem dX3_weighSheets_55 : decode cX3_weighSheets 55 = .ok (.iaload, 1) := by decide +kernel
theorem dX3_weighSheets_56 : decode cX3_weighSheets 56 = .ok (.aload_n 0, 1) := by decide +kernel
theorem dX3_weighSheets_57 : decode cX3_weighSheets 57 = .ok (.getfield 18, 3) := by decide +kernel
theorem dX3_weighSheets_60 : decode cX3_weighSheets 60 = .ok (.iload 5, 2) := by decide +kernel
theorem dX3_weighSheets_62 : decode cX3_weighSheets 62 = .ok (.bipush 10, 2) := by decide +kernel
theorem dX3_weighSheets_64 : decode cX3_weighSheets 64 = .ok (.irem, 1) := by decide +kernel
theorem dX3_weighSheets_65 : decode cX3_weighSheets 65 = .ok (.iaload, 1) := by decide +kernel
theorem dX3_weighSheets_66 : decode cX3_weighSheets 66 = .ok (.iadd, 1) := by decide +kernel
theorem dX3_weighSheets_67 : decode cX3_weighSheets 67 = .ok (.iadd, 1) := by decide +kernel
theorem dX3_weighSheets_68 : decode cX3_weighSheets 68 = .ok (.istore_n 3, 1) := by decide +kernel
theorem dX3_weighSheets_69 : decode cX3_weighSheets 69 = .ok (.aload_n 2, 1) := by decide +kernel
theorem dX3_weighSheets_70 : decode cX3_weighSheets 70 = .ok (.getfield 57, 3) := by decide +kernel
theorem dX3_weighSheets_73 : decode cX3_weighSheets 73 = .ok (.iload 4, 2) := by decide +kernel
theorem dX3_weighSheets_75 : decode cX3_weighSheets 75 = .ok (.iaload, 1) := by decide +kernel
theorem dX3_weighSheets_76 : decode cX3_weighSheets 76 = .ok (.ifCond .eq 12, 3) := by decide +kernel
theorem dX3_weighSheets_79 : decode cX3_weighSheets 79 = .ok (.iload_n 3, 1) := by decide +kernel
theorem dX3_weighSheets_80 : decode cX3_weighSheets 80 = .ok (.aload_n 0, 1) := by decide +kernel
theorem dX3_weighSheets_81 : decode cX3_weighSheets 81 = .ok (.getfield 21, 3) := by decide +kernel
theorem dX3_weighSheets_84 : decode cX3_weighSheets 84 = .ok (.iconst 0, 1) := by decide +kernel
theorem dX3_weighSheets_85 : decode cX3_weighSheets 85 = .ok (.iaload, 1) := by decide +kernel
theorem dX3_weighSheets_86 : decode cX3_weighSheets 86 = .ok (.iadd, 1) := by decide +kernel
theorem dX3_weighSheets_87 : decode cX3_weighSheets 87 = .ok (.istore_n 3, 1) := by decide +kernel
theorem dX3_weighSheets_88 : decode cX3_weighSheets 88 = .ok (.iinc 4 1, 3) := by decide +kernel
theorem dX3_weighSheets_91 : decode cX3_weighSheets 91 = .ok (.goto (-86), 3) := by decide +kernel
theorem dX3_weighSheets_94 : decode cX3_weighSheets 94 = .ok (.iload_n 3, 1) := by decide +kernel
theorem dX3_weighSheets_95 : decode cX3_weighSheets 95 = .ok (.ireturn, 1) := by decide +kernel
theorem dX4_init_0 : decode cX4_init 0 = .ok (.aload_n 0, 1) := by decide +kernel
theorem dX4_init_1 : decode cX4_init 1 = .ok (.invokespecial 3, 3) := by decide +kernel
theorem dX4_init_4 : decode cX4_init 4 = .ok (.aload_n 0, 1) := by decide +kernel
theorem dX4_init_5 : decode cX4_init 5 = .ok (.bipush 12, 2) := by decide +kernel
theorem dX4_init_7 : decode cX4_init 7 = .ok (.bipush 12, 2) := by decide +kernel
theorem dX4_init_9 : decode cX4_init 9 = .ok (.multianewarray 9 2, 4) := by decide +kernel
theorem dX4_init_13 : decode cX4_init 13 = .ok (.putfield 11, 3) := by decide +kernel
theorem dX4_init_16 : decode cX4_init 16 = .ok (.aload_n 0, 1) := by decide +kernel
theorem dX4_init_17 : decode cX4_init 17 = .ok (.bipush 12, 2) := by decide +kernel
theorem dX4_init_19 : decode cX4_init 19 = .ok (.newarray .int, 2) := by decide +kernel
theorem dX4_init_21 : decode cX4_init 21 = .ok (.putfield 16, 3) := by decide +kernel
theorem dX4_init_24 : decode cX4_init 24 = .ok (.aload_n 0, 1) := by decide +kernel
theorem dX4_init_25 : decode cX4_init 25 = .ok (.bipush 13, 2) := by decide +kernel
theorem dX4_init_27 : decode cX4_init 27 = .ok (.bipush 13, 2) := by decide +kernel
theorem dX4_init_29 : decode cX4_init 29 = .ok (.multianewarray 20 2, 4) := by decide +kernel
theorem dX4_init_33 : decode cX4_init 33 = .ok (.putfield 22, 3) := by decide +kernel
theorem dX4_init_36 : decode cX4_init 36 = .ok (.aload_n 0, 1) := by decide +kernel
theorem dX4_init_37 : decode cX4_init 37 = .ok (.bipush 13, 2) := by decide +kernel
theorem dX4_init_39 : decode cX4_init 39 = .ok (.newarray .int, 2) := by decide +kernel
theorem dX4_init_41 : decode cX4_init 41 = .ok (.putfield 25, 3) := by decide +kernel
theorem dX4_init_44 : decode cX4_init 44 = .ok (.aload_n 0, 1) := by decide +kernel
theorem dX4_init_45 : decode cX4_init 45 = .ok (.bipush 13, 2) := by decide +kernel
theorem dX4_init_47 : decode cX4_init 47 = .ok (.newarray .long, 2) := by decide +kernel
theorem dX4_init_49 : decode cX4_init 49 = .ok (.putfield 28, 3) := by decide +kernel
theorem dX4_init_52 : decode cX4_init 52 = .ok (.aload_n 0, 1) := by decide +kernel
theorem dX4_init_53 : decode cX4_init 53 = .ok (.bipush 13, 2) := by decide +kernel
theorem dX4_init_55 : decode cX4_init 55 = .ok (.newarray .long, 2) := by decide +kernel
theorem dX4_init_57 : decode cX4_init 57 = .ok (.putfield 32, 3) := by decide +kernel
theorem dX4_init_60 : decode cX4_init 60 = .ok (.aload_n 0, 1) := by decide +kernel
theorem dX4_init_61 : decode cX4_init 61 = .ok (.bipush 13, 2) := by decide +kernel
theorem dX4_init_63 : decode cX4_init 63 = .ok (.newarray .long, 2) := by decide +kernel
theorem dX4_init_65 : decode cX4_init 65 = .ok (.putfield 35, 3) := by decide +kernel
theorem dX4_init_68 : decode cX4_init 68 = .ok (.aload_n 0, 1) := by decide +kernel
theorem dX4_init_69 : decode cX4_init 69 = .ok (.bipush 13, 2) := by decide +kernel
theorem dX4_init_71 : decode cX4_init 71 = .ok (.newarray .int, 2) := by decide +kernel
theorem dX4_init_73 : decode cX4_init 73 = .ok (.putfield 38, 3) := by decide +kernel
theorem dX4_init_76 : decode cX4_init 76 = .ok (.aload_n 0, 1) := by decide +kernel
theorem dX4_init_77 : decode cX4_init 77 = .ok (.bipush 13, 2) := by decide +kernel
theorem dX4_init_79 : decode cX4_init 79 = .ok (.newarray .boolean, 2) := by decide +kernel
theorem dX4_init_81 : decode cX4_init 81 = .ok (.putfield 41, 3) := by decide +kernel
theorem dX4_init_84 : decode cX4_init 84 = .ok (.return_, 1) := by decide +kernel
theorem dX4_settle_0 : decode cX4_settle 0 = .ok (.aload_n 0, 1) := by decide +kernel
theorem dX4_settle_1 : decode cX4_settle 1 = .ok (.invokevirtual 45, 3) := by decide +kernel
theorem dX4_settle_4 : decode cX4_settle 4 = .ok (.iconst 0, 1) := by decide +kernel
theorem dX4_settle_5 : decode cX4_settle 5 = .ok (.istore_n 1, 1) := by decide +kernel
theorem dX4_settle_6 : decode cX4_settle 6 = .ok (.iload_n 1, 1) := by decide +kernel
theorem dX4_settle_7 : decode cX4_settle 7 = .ok (.bipush 13, 2) := by decide +kernel
theorem dX4_settle_9 : decode cX4_settle 9 = .ok (.if_icmp .ge 30, 3) := by decide +kernel
theorem dX4_settle_12 : decode cX4_settle 12 = .ok (.aload_n 0, 1) := by decide +kernel
theorem dX4_settle_13 : decode cX4_settle 13 = .ok (.getfield 25, 3) := by decide +kernel
theorem dX4_settle_16 : decode cX4_settle 16 = .ok (.iload_n 1, 1) := by decide +kernel
theorem dX4_settle_17 : decode cX4_settle 17 = .ok (.iconst 0, 1) := by decide +kernel
theorem dX4_settle_18 : decode cX4_settle 18 = .ok (.iastore, 1) := by decide +kernel
theorem dX4_settle_19 : decode cX4_settle 19 = .ok (.aload_n 0, 1) := by decide +kernel
theorem dX4_settle_20 : decode cX4_settle 20 = .ok (.getfield 28, 3) := by decide +kernel
theorem dX4_settle_23 : decode cX4_settle 23 = .ok (.iload_n 1, 1) := by decide +kernel
theorem dX4_settle_24 : decode cX4_settle 24 = .ok (.lconst 0, 1) := by decide +kernel
theorem dX4_settle_25 : decode cX4_settle 25 = .ok (.lastore, 1) := by decide +kernel
theorem dX4_settle_26 : decode cX4_settle 26 = .ok (.aload_n 0, 1) := by decide +kernel
theorem dX4_settle_27 : decode cX4_settle 27 = .ok (.getfield 32, 3) := by decide +kernel
theorem dX4_settle_30 : decode cX4_settle 30 = .ok (.iload_n 1, 1) := by decide +kernel
theorem dX4_settle_31 : decode cX4_settle 31 = .ok (.lconst 0, 1) := by decide +kernel
theorem dX4_settle_32 : decode cX4_settle 32 = .ok (.lastore, 1) := by decide +kernel
theorem dX4_settle_33 : decode cX4_settle 33 = .ok (.iinc 1 1, 3) := by decide +kernel
theorem dX4_settle_36 : decode cX4_settle 36 = .ok (.goto (-30), 3) := by decide +kernel
theorem dX4_settle_39 : decode cX4_settle 39 = .ok (.iconst 1, 1) := by decide +kernel
theorem dX4_settle_40 : decode cX4_settle 40 = .ok (.istore_n 1, 1) := by decide +kernel
theorem dX4_settle_41 : decode cX4_settle 41 = .ok (.iload_n 1, 1) := by decide +kernel
theorem dX4_settle_42 : decode cX4_settle 42 = .ok (.bipush 13, 2) := by decide +kernel
theorem dX4_settle_44 : decode cX4_settle 44 = .ok (.if_icmp .ge 14, 3) := by decide +kernel
theorem dX4_settle_47 : decode cX4_settle 47 = .ok (.aload_n 0, 1) := by decide +kernel
theorem dX4_settle_48 : decode cX4_settle 48 = .ok (.iload_n 1, 1) := by decide +kernel
theorem dX4_settle_49 : decode cX4_settle 49 = .ok (.invokevirtual 48, 3) := by decide +kernel
theorem dX4_settle_52 : decode cX4_settle 52 = .ok (.iinc 1 1, 3) := by decide +kernel
theorem dX4_settle_55 : decode cX4_settle 55 = .ok (.goto (-14), 3) := by decide +kernel
theorem dX4_settle_58 : decode cX4_settle 58 = .ok (.aload_n 0, 1) := by decide +kernel
theorem dX4_settle_59 : decode cX4_settle 59 = .ok (.invokevirtual 52, 3) := by decide +kernel
theorem dX4_settle_62 : decode cX4_settle 62 = .ok (.return_, 1) := by decide +kernel
theorem dX4_lossWithout_0 : decode cX4_lossWithout 0 = .ok (.aload_n 0, 1) := by decide +kernel
theorem dX4_lossWithout_1 : decode cX4_lossWithout 1 = .ok (.getfield 16, 3) := by decide +kernel
theorem dX4_lossWithout_4 : decode cX4_lossWithout 4 = .ok (.iload_n 1, 1) := by decide +kernel
theorem dX4_lossWithout_5 : decode cX4_lossWithout 5 = .ok (.iaload, 1) := by decide +kernel
theorem dX4_lossWithout_6 : decode cX4_lossWithout 6 = .ok (.iconst (-1), 1) := by decide +kernel
theorem dX4_lossWithout_7 : decode cX4_lossWithout 7 = .ok (.if_icmp .ne 5, 3) := by decide +kernel
theorem dX4_lossWithout_10 : decode cX4_lossWithout 10 = .ok (.iconst 0, 1) := by decide +kernel
theorem dX4_lossWithout_11 : decode cX4_lossWithout 11 = .ok (.ireturn, 1) := by decide +kernel
theorem dX4_lossWithout_12 : decode cX4_lossWithout 12 = .ok (.aload_n 0, 1) := by decide +kernel
theorem dX4_lossWithout_13 : decode cX4_lossWithout 13 = .ok (.getfield 55, 3) := by decide +kernel
theorem dX4_lossWithout_16 : decode cX4_lossWithout 16 = .ok (.istore_n 2, 1) := by decide +kernel
theorem dX4_lossWithout_17 : decode cX4_lossWithout 17 = .ok (.aload_n 0, 1) := by decide +kernel
theorem dX4_lossWithout_18 : decode cX4_lossWithout 18 = .ok (.getfield 11, 3) := by decide +kernel
theorem dX4_lossWithout_21 : decode cX4_lossWithout 21 = .ok (.iload_n 1, 1) := by decide +kernel
theorem dX4_lossWithout_22 : decode cX4_lossWithout 22 = .ok (.aaload, 1) := by decide +kernel
theorem dX4_lossWithout_23 : decode cX4_lossWithout 23 = .ok (.aload_n 0, 1) := by decide +kernel
theorem dX4_lossWithout_24 : decode cX4_lossWithout 24 = .ok (.getfield 16, 3) := by decide +kernel
theorem dX4_lossWithout_27 : decode cX4_lossWithout 27 = .ok (.iload_n 1, 1) := by decide +kernel
theorem dX4_lossWithout_28 : decode cX4_lossWithout 28 = .ok (.iaload, 1) := by decide +kernel
theorem dX4_lossWithout_29 : decode cX4_lossWithout 29 = .ok (.iconst 0, 1) := by decide +kernel
theorem dX4_lossWithout_30 : decode cX4_lossWithout 30 = .ok (.iastore, 1) := by decide +kernel
theorem dX4_lossWithout_31 : decode cX4_lossWithout 31 = .ok (.aload_n 0, 1) := by decide +kernel
theorem dX4_lossWithout_32 : decode cX4_lossWithout 32 = .ok (.invokevirtual 59, 3) := by decide +kernel
theorem dX4_lossWithout_35 : decode cX4_lossWithout 35 = .ok (.iload_n 2, 1) := by decide +kernel
theorem dX4_lossWithout_36 : decode cX4_lossWithout 36 = .ok (.aload_n 0, 1) := by decide +kernel
theorem dX4_lossWithout_37 : decode cX4_lossWithout 37 = .ok (.getfield 55, 3) := by decide +kernel
theorem dX4_lossWithout_40 : decode cX4_lossWithout 40 = .ok (.isub, 1) := by decide +kernel
theorem dX4_lossWithout_41 : decode cX4_lossWithout 41 = .ok (.ireturn, 1) := by decide +kernel
theorem dX4_appraise_0 : decode cX4_appraise 0 = .ok (.ldc2_w 62, 3) := by decide +kernel
theorem dX4_appraise_3 : decode cX4_appraise 3 = .ok (.lstore_n 1, 1) := by decide +kernel
theorem dX4_appraise_4 : decode cX4_appraise 4 = .ok (.iconst 0, 1) := by decide +kernel
theorem dX4_appraise_5 : decode cX4_appraise 5 = .ok (.istore_n 3, 1) := by decide +kernel
theorem dX4_appraise_6 : decode cX4_appraise 6 = .ok (.iload_n 3, 1) := by decide +kernel
theorem dX4_appraise_7 : decode cX4_appraise 7 = .ok (.bipush 12, 2) := by decide +kernel
theorem dX4_appraise_9 : decode cX4_appraise 9 = .ok (.if_icmp .ge 80, 3) := by decide +kernel
theorem dX4_appraise_12 : decode cX4_appraise 12 = .ok (.lload_n 1, 1) := by decide +kernel
theorem dX4_appraise_13 : decode cX4_appraise 13 = .ok (.ldc2_w 64, 3) := by decide +kernel
theorem dX4_appraise_16 : decode cX4_appraise 16 = .ok (.ldiv, 1) := by decide +kernel
theorem dX4_appraise_17 : decode cX4_appraise 17 = .ok (.lstore_n 1, 1) := by decide +kernel
theorem dX4_appraise_18 : decode cX4_appraise 18 = .ok (.iconst 0, 1) := by decide +kernel
theorem dX4_appraise_19 : decode cX4_appraise 19 = .ok (.istore 4, 2) := by decide +kernel
theorem dX4_appraise_21 : decode cX4_appraise 21 = .ok (.iload 4, 2) := by decide +kernel
theorem dX4_appraise_23 : decode cX4_appraise 23 = .ok (.bipush 12, 2) := by decide +kernel
theorem dX4_appraise_25 : decode cX4_appraise 25 = .ok (.if_icmp .ge 58, 3) := by decide +kernel
theorem dX4_appraise_28 : decode cX4_appraise 28 = .ok (.aload_n 0, 1) := by decide +kernel
theorem dX4_appraise_29 : decode cX4_appraise 29 = .ok (.getfield 11, 3) := by decide +kernel
theorem dX4_appraise_32 : decode cX4_appraise 32 = .ok (.iload_n 3, 1) := by decide +kernel
theorem dX4_appraise_33 : decode cX4_appraise 33 = .ok (.aaload, 1) := by decide +kernel
theorem dX4_appraise_34 : decode cX4_appraise 34 = .ok (.iload 4, 2) := by decide +kernel
theorem dX4_appraise_36 : decode cX4_appraise 36 = .ok (.iaload, 1) := by decide +kernel
theorem dX4_appraise_37 : decode cX4_appraise 37 = .ok (.istore 5, 2) := by decide +kernel
theorem dX4_appraise_39 : decode cX4_appraise 39 = .ok (.aload_n 0, 1) := by decide +kernel
theorem dX4_appraise_40 : decode cX4_appraise 40 = .ok (.getfield 22, 3) := by decide +kernel
theorem dX4_appraise_43 : decode cX4_appraise 43 = .ok (.iload_n 3, 1) := by decide +kernel
theorem dX4_appraise_44 : decode cX4_appraise 44 = .ok (.iconst 1, 1) := by decide +kernel
theorem dX4_appraise_45 : decode cX4_appraise 45 = .ok (.iadd, 1) := by decide +kernel
theorem dX4_appraise_46 : decode cX4_appraise 46 = .ok (.aaload, 1) := by decide +kernel
theorem dX4_appraise_47 : decode cX4_appraise 47 = .ok (.iload 4, 2) := by decide +kernel
theorem dX4_appraise_49 : decode cX4_appraise 49 = .ok (.iconst 1, 1) := by decide +kernel
theorem dX4_appraise_50 : decode cX4_appraise 50 = .ok (.iadd, 1) := by decide +kernel
theorem dX4_appraise_51 : decode cX4_appraise 51 = .ok (.iload 5, 2) := by decide +kernel
theorem dX4_appraise_53 : decode cX4_appraise 53 = .ok (.ifCond .le 22, 3) := by decide +kernel
theorem dX4_appraise_56 : decode cX4_appraise 56 = .ok (.iload 5, 2) := by decide +kernel
theorem dX4_appraise_58 : decode cX4_appraise 58 = .ok (.i2l, 1) := by decide +kernel
theorem dX4_appraise_59 : decode cX4_appraise 59 = .ok (.ldc2_w 62, 3) := by decide +kernel
theorem dX4_appraise_62 : decode cX4_appraise 62 = .ok (.lmul, 1) := by decide +kernel
theorem dX4_appraise_63 : decode cX4_appraise 63 = .ok (.bipush 12, 2) := by decide +kernel
theorem dX4_appraise_65 : decode cX4_appraise 65 = .ok (.iload 4, 2) := by decide +kernel
theorem dX4_appraise_67 : decode cX4_appraise 67 = .ok (.isub, 1) := by decide +kernel
theorem dX4_appraise_68 : decode cX4_appraise 68 = .ok (.i2l, 1) := by decide +kernel
theorem dX4_appraise_69 : decode cX4_appraise 69 = .ok (.lload_n 1, 1) := by decide +kernel
theorem dX4_appraise_70 : decode cX4_appraise 70 = .ok (.lmul, 1) := by decide +kernel
theorem dX4_appraise_71 : decode cX4_appraise 71 = .ok (.ladd, 1) := by decide +kernel
theorem dX4_appraise_72 : decode cX4_appraise 72 = .ok (.goto 4, 3) := by decide +kernel
theorem dX4_appraise_75 : decode cX4_appraise 75 = .ok (.lconst 0, 1) := by decide +kernel
theorem dX4_appraise_76 : decode cX4_appraise 76 = .ok (.lastore, 1) := by decide +kernel
theorem dX4_appraise_77 : decode cX4_appraise 77 = .ok (.iinc 4 1, 3) := by decide +kernel
theorem dX4_appraise_80 : decode cX4_appraise 80 = .ok (.goto (-59), 3) := by decide +kernel
theorem dX4_appraise_83 : decode cX4_appraise 83 = .ok (.iinc 3 1, 3) := by decide +kernel
theorem dX4_appraise_86 : decode cX4_appraise 86 = .ok (.goto (-80), 3) := by decide +kernel
theorem dX4_appraise_89 : decode cX4_appraise 89 = .ok (.return_, 1) := by decide +kernel
theorem dX4_readOff_0 : decode cX4_readOff 0 = .ok (.aload_n 0, 1) := by decide +kernel
theorem dX4_readOff_1 : decode cX4_readOff 1 = .ok (.iconst 0, 1) := by decide +kernel
theorem dX4_readOff_2 : decode cX4_readOff 2 = .ok (.putfield 55, 3) := by decide +kernel
theorem dX4_readOff_5 : decode cX4_readOff 5 = .ok (.iconst 0, 1) := by decide +kernel
theorem dX4_readOff_6 : decode cX4_readOff 6 = .ok (.istore_n 1, 1) := by decide +kernel
theorem dX4_readOff_7 : decode cX4_readOff 7 = .ok (.iload_n 1, 1) := by decide +kernel
theorem dX4_readOff_8 : decode cX4_readOff 8 = .ok (.bipush 12, 2) := by decide +kernel
theorem dX4_readOff_10 : decode cX4_readOff 10 = .ok (.if_icmp .ge 16, 3) := by decide +kernel
theorem dX4_readOff_13 : decode cX4_readOff 13 = .ok (.aload_n 0, 1) := by decide +kernel
theorem dX4_readOff_14 : decode cX4_readOff 14 = .ok (.getfield 16, 3) := by decide +kernel
theorem dX4_readOff_17 : decode cX4_readOff 17 = .ok (.iload_n 1, 1) := by decide +kernel
theorem dX4_readOff_18 : decode cX4_readOff 18 = .ok (.iconst (-1), 1) := by decide +kernel
theorem dX4_readOff_19 : decode cX4_readOff 19 = .ok (.iastore, 1) := by decide +kernel
theorem dX4_readOff_20 : decode cX4_readOff 20 = .ok (.iinc 1 1, 3) := by decide +kernel
theorem dX4_readOff_23 : decode cX4_readOff 23 = .ok (.goto (-16), 3) := by decide +kernel
theorem dX4_readOff_26 : decode cX4_readOff 26 = .ok (.iconst 1, 1) := by decide +kernel
theorem dX4_readOff_27 : decode cX4_readOff 27 = .ok (.istore_n 1, 1) := by decide +kernel
theorem dX4_readOff_28 : decode cX4_readOff 28 = .ok (.iload_n 1, 1) := by decide +kernel
theorem dX4_readOff_29 : decode cX4_readOff 29 = .ok (.bipush 13, 2) := by decide +kernel
theorem dX4_readOff_31 : decode cX4_readOff 31 = .ok (.if_icmp .ge 63, 3) := by decide +kernel
theorem dX4_readOff_34 : decode cX4_readOff 34 = .ok (.aload_n 0, 1) := by decide +kernel
theorem dX4_readOff_35 : decode cX4_readOff 35 = .ok (.getfield 25, 3) := by decide +kernel
theorem dX4_readOff_38 : decode cX4_readOff 38 = .ok (.iload_n 1, 1) := by decide +kernel
theorem dX4_readOff_39 : decode cX4_readOff 39 = .ok (.iaload, 1) := by decide +kernel
theorem dX4_readOff_40 : decode cX4_readOff 40 = .ok (.iconst 1, 1) := by decide +kernel
theorem dX4_readOff_41 : decode cX4_readOff 41 = .ok (.isub, 1) := by decide +kernel
theorem dX4_readOff_42 : decode cX4_readOff 42 = .ok (.istore_n 2, 1) := by decide +kernel
theorem dX4_readOff_43 : decode cX4_readOff 43 = .ok (.iload_n 2, 1) := by decide +kernel
theorem dX4_readOff_44 : decode cX4_readOff 44 = .ok (.ifCond .lt 44, 3) := by decide +kernel
theorem dX4_readOff_47 : decode cX4_readOff 47 = .ok (.aload_n 0, 1) := by decide +kernel
theorem dX4_readOff_48 : decode cX4_readOff 48 = .ok (.getfield 11, 3) := by decide +kernel
theorem dX4_readOff_51 : decode cX4_readOff 51 = .ok (.iload_n 2, 1) := by decide +kernel
theorem dX4_readOff_52 : decode cX4_readOff 52 = .ok (.aaload, 1) := by decide +kernel
theorem dX4_readOff_53 : decode cX4_readOff 53 = .ok (.iload_n 1, 1) := by decide +kernel
theorem dX4_readOff_54 : decode cX4_readOff 54 = .ok (.iconst 1, 1) := by decide +kernel
theorem dX4_readOff_55 : decode cX4_readOff 55 = .ok (.isub, 1) := by decide +kernel
theorem dX4_readOff_56 : decode cX4_readOff 56 = .ok (.iaload, 1) := by decide +kernel
theorem dX4_readOff_57 : decode cX4_readOff 57 = .ok (.ifCond .le 31, 3) := by decide +kernel
theorem dX4_readOff_60 : decode cX4_readOff 60 = .ok (.aload_n 0, 1) := by decide +kernel
theorem dX4_readOff_61 : decode cX4_readOff 61 = .ok (.getfield 16, 3) := by decide +kernel
theorem dX4_readOff_64 : decode cX4_readOff 64 = .ok (.iload_n 2, 1) := by decide +kernel
theorem dX4_readOff_65 : decode cX4_readOff 65 = .ok (.iload_n 1, 1) := by decide +kernel
theorem dX4_readOff_66 : decode cX4_readOff 66 = .ok (.iconst 1, 1) := by decide +kernel
theorem dX4_readOff_67 : decode cX4_readOff 67 = .ok (.isub, 1) := by decide +kernel
theorem dX4_readOff_68 : decode cX4_readOff 68 = .ok (.iastore, 1) := by decide +kernel
theorem dX4_readOff_69 : decode cX4_readOff 69 = .ok (.aload_n 0, 1) := by decide +kernel
theorem dX4_readOff_70 : decode cX4_readOff 70 = .ok (.dup, 1) := by decide +kernel
theorem dX4_readOff_71 : decode cX4_readOff 71 = .ok (.getfield 55, 3) := by decide +kernel
theorem dX4_readOff_74 : decode cX4_readOff 74 = .ok (.aload_n 0, 1) := by decide +kernel
theorem dX4_readOff_75 : decode cX4_readOff 75 = .ok (.getfield 11, 3) := by decide +kernel
theorem dX4_readOff_78 : decode cX4_readOff 78 = .ok (.iload_n 2, 1) := by decide +kernel
theorem dX4_readOff_79 : decode cX4_readOff 79 = .ok (.aaload, 1) := by decide +kernel
theorem dX4_readOff_80 : decode cX4_readOff 80 = .ok (.iload_n 1, 1) := by decide +kernel
theorem dX4_readOff_81 : decode cX4_readOff 81 = .ok (.iconst 1, 1) := by decide +kernel
theorem dX4_readOff_82 : decode cX4_readOff 82 = .ok (.isub, 1) := by decide +kernel
theorem dX4_readOff_83 : decode cX4_readOff 83 = .ok (.iaload, 1) := by decide +kernel
theorem dX4_readOff_84 : decode cX4_readOff 84 = .ok (.iadd, 1) := by decide +kernel
theorem dX4_readOff_85 : decode cX4_readOff 85 = .ok (.putfield 55, 3) := by decide +kernel
theorem dX4_readOff_88 : decode cX4_readOff 88 = .ok (.iinc 1 1, 3) := by decide +kernel
theorem dX4_readOff_91 : decode cX4_readOff 91 = .ok (.goto (-63), 3) := by decide +kernel
theorem dX4_readOff_94 : decode cX4_readOff 94 = .ok (.return_, 1) := by decide +kernel
theorem dX4_place_0 : decode cX4_place 0 = .ok (.iconst 0, 1) := by decide +kernel
theorem dX4_place_1 : decode cX4_place 1 = .ok (.istore_n 2, 1) := by decide +kernel
theorem dX4_place_2 : decode cX4_place 2 = .ok (.iload_n 2, 1) := by decide +kernel
theorem dX4_place_3 : decode cX4_place 3 = .ok (.bipush 13, 2) := by decide +kernel
theorem dX4_place_5 : decode cX4_place 5 = .ok (.if_icmp .ge 25, 3) := by decide +kernel
theorem dX4_place_8 : decode cX4_place 8 = .ok (.aload_n 0, 1) := by decide +kernel
theorem dX4_place_9 : decode cX4_place 9 = .ok (.getfield 35, 3) := by decide +kernel
theorem dX4_place_12 : decode cX4_place 12 = .ok (.iload_n 2, 1) := by decide +kernel
theorem dX4_place_13 : decode cX4_place 13 = .ok (.ldc2_w 66, 3) := by decide +kernel
theorem dX4_place_16 : decode cX4_place 16 = .ok (.lastore, 1) := by decide +kernel
theorem dX4_place_17 : decode cX4_place 17 = .ok (.aload_n 0, 1) := by decide +kernel
theorem dX4_place_18 : decode cX4_place 18 = .ok (.getfield 41, 3) := by decide +kernel
theorem dX4_place_21 : decode cX4_place 21 = .ok (.iload_n 2, 1) := by decide +kernel
theorem dX4_place_22 : decode cX4_place 22 = .ok (.iconst 0, 1) := by decide +kernel
theorem dX4_place_23 : decode cX4_place 23 = .ok (.bastore, 1) := by decide +kernel
theorem dX4_place_24 : decode cX4_place 24 = .ok (.iinc 2 1, 3) := by decide +kernel
theorem dX4_place_27 : decode cX4_place 27 = .ok (.goto (-25), 3) := by decide +kernel
theorem dX4_place_30 : decode cX4_place 30 = .ok (.aload_n 0, 1) := by decide +kernel
theorem dX4_place_31 : decode cX4_place 31 = .ok (.getfield 25, 3) := by decide +kernel
theorem dX4_place_34 : decode cX4_place 34 = .ok (.iconst 0, 1) := by decide +kernel
theorem dX4_place_35 : decode cX4_place 35 = .ok (.iload_n 1, 1) := by decide +kernel
theorem dX4_place_36 : decode cX4_place 36 = .ok (.iastore, 1) := by decide +kernel
theorem dX4_place_37 : decode cX4_place 37 = .ok (.iconst 0, 1) := by decide +kernel
theorem dX4_place_38 : decode cX4_place 38 = .ok (.istore_n 2, 1) := by decide +kernel
theorem dX4_place_39 : decode cX4_place 39 = .ok (.iconst 0, 1) := by decide +kernel
theorem dX4_place_40 : decode cX4_place 40 = .ok (.istore_n 3, 1) := by decide +kernel
theorem dX4_place_41 : decode cX4_place 41 = .ok (.iload_n 3, 1) := by decide +kernel
theorem dX4_place_42 : decode cX4_place 42 = .ok (.bipush 13, 2) := by decide +kernel
theorem dX4_place_44 : decode cX4_place 44 = .ok (.if_icmp .ge 45, 3) := by decide +kernel
theorem dX4_place_47 : decode cX4_place 47 = .ok (.aload_n 0, 1) := by decide +kernel
theorem dX4_place_48 : decode cX4_place 48 = .ok (.getfield 25, 3) := by decide +kernel
theorem dX4_place_51 : decode cX4_place 51 = .ok (.iload_n 2, 1) := by decide +kernel
theorem dX4_place_52 : decode cX4_place 52 = .ok (.iaload, 1) := by decide +kernel
theorem dX4_place_53 : decode cX4_place 53 = .ok (.ifCond .eq 36, 3) := by decide +kernel
theorem dX4_place_56 : decode cX4_place 56 = .ok (.aload_n 0, 1) := by decide +kernel
theorem dX4_place_57 : decode cX4_place 57 = .ok (.getfield 41, 3) := by decide +kernel
theorem dX4_place_60 : decode cX4_place 60 = .ok (.iload_n 2, 1) := by decide +kernel
theorem dX4_place_61 : decode cX4_place 61 = .ok (.iconst 1, 1) := by decide +kernel
theorem dX4_place_62 : decode cX4_place 62 = .ok (.bastore, 1) := by decide +kernel
theorem dX4_place_63 : decode cX4_place 63 = .ok (.aload_n 0, 1) := by decide +kernel
theorem dX4_place_64 : decode cX4_place 64 = .ok (.iload_n 2, 1) := by decide +kernel
theorem dX4_place_65 : decode cX4_place 65 = .ok (.invokevirtual 68, 3) := by decide +kernel
theorem dX4_place_68 : decode cX4_place 68 = .ok (.aload_n 0, 1) := by decide +kernel
theorem dX4_place_69 : decode cX4_place 69 = .ok (.invokevirtual 71, 3) := by decide +kernel
theorem dX4_place_72 : decode cX4_place 72 = .ok (.istore_n 2, 1) := by decide +kernel
theorem dX4_place_73 : decode cX4_place 73 = .ok (.aload_n 0, 1) := by decide +kernel
theorem dX4_place_74 : decode cX4_place 74 = .ok (.aload_n 0, 1) := by decide +kernel
theorem dX4_place_75 : decode cX4_place 75 = .ok (.getfield 35, 3) := by decide +kernel
theorem dX4_place_78 : decode cX4_place 78 = .ok (.iload_n 2, 1) := by decide +kernel
theorem dX4_place_79 : decode cX4_place 79 = .ok (.laload, 1) := by decide +kernel
theorem dX4_place_80 : decode cX4_place 80 = .ok (.invokevirtual 75, 3) := by decide +kernel
theorem dX4_place_83 : decode cX4_place 83 = .ok (.iinc 3 1, 3) := by decide +kernel
theorem dX4_place_86 : decode cX4_place 86 = .ok (.goto (-45), 3) := by decide +kernel
theorem dX4_place_89 : decode cX4_place 89 = .ok (.iconst 0, 1) := by decide +kernel
theorem dX4_place_90 : decode cX4_place 90 = .ok (.istore_n 3, 1) := by decide +kernel
theorem dX4_place_91 : decode cX4_place 91 = .ok (.iload_n 3, 1) := by decide +kernel
theorem dX4_place_92 : decode cX4_place 92 = .ok (.bipush 13, 2) := by decide +kernel
theorem dX4_place_94 : decode cX4_place 94 = .ok (.if_icmp .ge 37, 3) := by decide +kernel
theorem dX4_place_97 : decode cX4_place 97 = .ok (.iload_n 2, 1) := by decide +kernel
theorem dX4_place_98 : decode cX4_place 98 = .ok (.ifCond .eq 33, 3) := by decide +kernel
theorem dX4_place_101 : decode cX4_place 101 = .ok (.aload_n 0, 1) := by decide +kernel
theorem dX4_place_102 : decode cX4_place 102 = .ok (.getfield 38, 3) := by decide +kernel
theorem dX4_place_105 : decode cX4_place 105 = .ok (.iload_n 2, 1) := by decide +kernel
theorem dX4_place_106 : decode cX4_place 106 = .ok (.iaload, 1) := by decide +kernel
theorem dX4_place_107 : decode cX4_place 107 = .ok (.istore 4, 2) := by decide +kernel
theorem dX4_place_109 : decode cX4_place 109 = .ok (.aload_n 0, 1) := by decide +kernel
theorem dX4_place_110 : decode cX4_place 110 = .ok (.getfield 25, 3) := by decide +kernel
theorem dX4_place_113 : decode cX4_place 113 = .ok (.iload_n 2, 1) := by decide +kernel
theorem dX4_place_114 : decode cX4_place 114 = .ok (.aload_n 0, 1) := by decide +kernel
theorem dX4_place_115 : decode cX4_place 115 = .ok (.getfield 25, 3) := by decide +kernel
theorem dX4_place_118 : decode cX4_place 118 = .ok (.iload 4, 2) := by decide +kernel
theorem dX4_place_120 : decode cX4_place 120 = .ok (.iaload, 1) := by decide +kernel
theorem dX4_place_121 : decode cX4_place 121 = .ok (.iastore, 1) := by decide +kernel
theorem dX4_place_122 : decode cX4_place 122 = .ok (.iload 4, 2) := by decide +kernel
theorem dX4_place_124 : decode cX4_place 124 = .ok (.istore_n 2, 1) := by decide +kernel
theorem dX4_place_125 : decode cX4_place 125 = .ok (.iinc 3 1, 3) := by decide +kernel
theorem dX4_place_128 : decode cX4_place 128 = .ok (.goto (-37), 3) := by decide +kernel
theorem dX4_place_131 : decode cX4_place 131 = .ok (.return_, 1) := by decide +kernel
theorem dX4_measure_0 : decode cX4_measure 0 = .ok (.aload_n 0, 1) := by decide +kernel
theorem dX4_measure_1 : decode cX4_measure 1 = .ok (.getfield 25, 3) := by decide +kernel
theorem dX4_measure_4 : decode cX4_measure 4 = .ok (.iload_n 1, 1) := by decide +kernel
theorem dX4_measure_5 : decode cX4_measure 5 = .ok (.iaload, 1) := by decide +kernel
theorem dX4_measure_6 : decode cX4_measure 6 = .ok (.istore_n 2, 1) := by decide +kernel
theorem dX4_measure_7 : decode cX4_measure 7 = .ok (.iconst 1, 1) := by decide +kernel
theorem dX4_measure_8 : decode cX4_measure 8 = .ok (.istore_n 3, 1) := by decide +kernel
theorem dX4_measure_9 : decode cX4_measure 9 = .ok (.iload_n 3, 1) := by decide +kernel
theorem dX4_measure_10 : decode cX4_measure 10 = .ok (.bipush 13, 2) := by decide +kernel
theorem dX4_measure_12 : decode cX4_measure 12 = .ok (.if_icmp .ge 70, 3) := by decide +kernel
theorem dX4_measure_15 : decode cX4_measure 15 = .ok (.aload_n 0, 1) := by decide +kernel
theorem dX4_measure_16 : decode cX4_measure 16 = .ok (.getfield 22, 3) := by decide +kernel
theorem dX4_measure_19 : decode cX4_measure 19 = .ok (.iload_n 2, 1) := by decide +kernel
theorem dX4_measure_20 : decode cX4_measure 20 = .ok (.aaload, 1) := by decide +kernel
theorem dX4_measure_21 : decode cX4_measure 21 = .ok (.iload_n 3, 1) := by decide +kernel
theorem dX4_measure_22 : decode cX4_measure 22 = .ok (.laload, 1) := by decide +kernel
theorem dX4_measure_23 : decode cX4_measure 23 = .ok (.lneg, 1) := by decide +kernel
theorem dX4_measure_24 : decode cX4_measure 24 = .ok (.aload_n 0, 1) := by decide +kernel
theorem dX4_measure_25 : decode cX4_measure 25 = .ok (.getfield 28, 3) := by decide +kernel
theorem dX4_measure_28 : decode cX4_measure 28 = .ok (.iload_n 2, 1) := by decide +kernel
theorem dX4_measure_29 : decode cX4_measure 29 = .ok (.laload, 1) := by decide +kernel
theorem dX4_measure_30 : decode cX4_measure 30 = .ok (.lsub, 1) := by decide +kernel
theorem dX4_measure_31 : decode cX4_measure 31 = .ok (.aload_n 0, 1) := by decide +kernel
theorem dX4_measure_32 : decode cX4_measure 32 = .ok (.getfield 32, 3) := by decide +kernel
theorem dX4_measure_35 : decode cX4_measure 35 = .ok (.iload_n 3, 1) := by decide +kernel
theorem dX4_measure_36 : decode cX4_measure 36 = .ok (.laload, 1) := by decide +kernel
theorem dX4_measure_37 : decode cX4_measure 37 = .ok (.lsub, 1) := by decide +kernel
theorem dX4_measure_38 : decode cX4_measure 38 = .ok (.lstore 4, 2) := by decide +kernel
theorem dX4_measure_40 : decode cX4_measure 40 = .ok (.aload_n 0, 1) := by decide +kernel
theorem dX4_measure_41 : decode cX4_measure 41 = .ok (.getfield 41, 3) := by decide +kernel
theorem dX4_measure_44 : decode cX4_measure 44 = .ok (.iload_n 3, 1) := by decide +kernel
theorem dX4_measure_45 : decode cX4_measure 45 = .ok (.baload, 1) := by decide +kernel
theorem dX4_measure_46 : decode cX4_measure 46 = .ok (.ifCond .ne 30, 3) := by decide +kernel
theorem dX4_measure_49 : decode cX4_measure 49 = .ok (.lload 4, 2) := by decide +kernel
theorem dX4_measure_51 : decode cX4_measure 51 = .ok (.aload_n 0, 1) := by decide +kernel
theorem dX4_measure_52 : decode cX4_measure 52 = .ok (.getfield 35, 3) := by decide +kernel
theorem dX4_measure_55 : decode cX4_measure 55 = .ok (.iload_n 3, 1) := by decide +kernel
theorem dX4_measure_56 : decode cX4_measure 56 = .ok (.laload, 1) := by decide +kernel
theorem dX4_measure_57 : decode cX4_measure 57 = .ok (.lcmp, 1) := by decide +kernel
theorem dX4_measure_58 : decode cX4_measure 58 = .ok (.ifCond .ge 18, 3) := by decide +kernel
theorem dX4_measure_61 : decode cX4_measure 61 = .ok (.aload_n 0, 1) := by decide +kernel
theorem dX4_measure_62 : decode cX4_measure 62 = .ok (.getfield 35, 3) := by decide +kernel
theorem dX4_measure_65 : decode cX4_measure 65 = .ok (.iload_n 3, 1) := by decide +kernel
theorem dX4_measure_66 : decode cX4_measure 66 = .ok (.lload 4, 2) := by decide +kernel
theorem dX4_measure_68 : decode cX4_measure 68 = .ok (.lastore, 1) := by decide +kernel
theorem dX4_measure_69 : decode cX4_measure 69 = .ok (.aload_n 0, 1) := by decide +kernel
theorem dX4_measure_70 : decode cX4_measure 70 = .ok (.getfield 38, 3) := by decide +kernel
theorem dX4_measure_73 : decode cX4_measure 73 = .ok (.iload_n 3, 1) := by decide +kernel
theorem dX4_measure_74 : decode cX4_measure 74 = .ok (.iload_n 1, 1) := by decide +kernel
theorem dX4_measure_75 : decode cX4_measure 75 = .ok (.iastore, 1) := by decide +kernel
theorem dX4_measure_76 : decode cX4_measure 76 = .ok (.iinc 3 1, 3) := by decide +kernel
theorem dX4_measure_79 : decode cX4_measure 79 = .ok (.goto (-70), 3) := by decide +kernel
theorem dX4_measure_82 : decode cX4_measure 82 = .ok (.return_, 1) := by decide +kernel
theorem dX4_nearest_0 : decode cX4_nearest 0 = .ok (.iconst 0, 1) := by decide +kernel
theorem dX4_nearest_1 : decode cX4_nearest 1 = .ok (.istore_n 1, 1) := by decide +kernel
theorem dX4_nearest_2 : decode cX4_nearest 2 = .ok (.iconst 1, 1) := by decide +kernel
theorem dX4_nearest_3 : decode cX4_nearest 3 = .ok (.istore_n 2, 1) := by decide +kernel
theorem dX4_nearest_4 : decode cX4_nearest 4 = .ok (.iload_n 2, 1) := by decide +kernel
theorem dX4_nearest_5 : decode cX4_nearest 5 = .ok (.bipush 13, 2) := by decide +kernel
theorem dX4_nearest_7 : decode cX4_nearest 7 = .ok (.if_icmp .ge 40, 3) := by decide +kernel
theorem dX4_nearest_10 : decode cX4_nearest 10 = .ok (.aload_n 0, 1) := by decide +kernel
theorem dX4_nearest_11 : decode cX4_nearest 11 = .ok (.getfield 41, 3) := by decide +kernel
theorem dX4_nearest_14 : decode cX4_nearest 14 = .ok (.iload_n 2, 1) := by decide +kernel
theorem dX4_nearest_15 : decode cX4_nearest 15 = .ok (.baload, 1) := by decide +kernel
theorem dX4_nearest_16 : decode cX4_nearest 16 = .ok (.ifCond .ne 25, 3) := by decide +kernel
theorem dX4_nearest_19 : decode cX4_nearest 19 = .ok (.iload_n 1, 1) := by decide +kernel
theorem dX4_nearest_20 : decode cX4_nearest 20 = .ok (.ifCond .eq 19, 3) := by decide +kernel
theorem dX4_nearest_23 : decode cX4_nearest 23 = .ok (.aload_n 0, 1) := by decide +kernel
theorem dX4_nearest_24 : decode cX4_nearest 24 = .ok (.getfield 35, 3) := by decide +kernel
theorem dX4_nearest_27 : decode cX4_nearest 27 = .ok (.iload_n 2, 1) := by decide +kernel
theorem dX4_nearest_28 : decode cX4_nearest 28 = .ok (.laload, 1) := by decide +kernel
theorem dX4_nearest_29 : decode cX4_nearest 29 = .ok (.aload_n 0, 1) := by decide +kernel
theorem dX4_nearest_30 : decode cX4_nearest 30 = .ok (.getfield 35, 3) := by decide +kernel
theorem dX4_nearest_33 : decode cX4_nearest 33 = .ok (.iload_n 1, 1) := by decide +kernel
theorem dX4_nearest_34 : decode cX4_nearest 34 = .ok (.laload, 1) := by decide +kernel
theorem dX4_nearest_35 : decode cX4_nearest 35 = .ok (.lcmp, 1) := by decide +kernel
theorem dX4_nearest_36 : decode cX4_nearest 36 = .ok (.ifCond .ge 5, 3) := by decide +kernel
theorem dX4_nearest_39 : decode cX4_nearest 39 = .ok (.iload_n 2, 1) := by decide +kernel
theorem dX4_nearest_40 : decode cX4_nearest 40 = .ok (.istore_n 1, 1) := by decide +kernel
theorem dX4_nearest_41 : decode cX4_nearest 41 = .ok (.iinc 2 1, 3) := by decide +kernel
theorem dX4_nearest_44 : decode cX4_nearest 44 = .ok (.goto (-40), 3) := by decide +kernel
theorem dX4_nearest_47 : decode cX4_nearest 47 = .ok (.iload_n 1, 1) := by decide +kernel
theorem dX4_nearest_48 : decode cX4_nearest 48 = .ok (.ireturn, 1) := by decide +kernel
theorem dX4_shiftPrices_0 : decode cX4_shiftPrices 0 = .ok (.iconst 0, 1) := by decide +kernel
theorem dX4_shiftPrices_1 : decode cX4_shiftPrices 1 = .ok (.istore_n 3, 1) := by decide +kernel
theorem dX4_shiftPrices_2 : decode cX4_shiftPrices 2 = .ok (.iload_n 3, 1) := by decide +kernel
theorem dX4_shiftPrices_3 : decode cX4_shiftPrices 3 = .ok (.bipush 13, 2) := by decide +kernel
theorem dX4_shiftPrices_5 : decode cX4_shiftPrices 5 = .ok (.if_icmp .ge 56, 3) := by decide +kernel
theorem dX4_shiftPrices_8 : decode cX4_shiftPrices 8 = .ok (.aload_n 0, 1) := by decide +kernel
theorem dX4_shiftPrices_9 : decode cX4_shiftPrices 9 = .ok (.getfield 41, 3) := by decide +kernel
theorem dX4_shiftPrices_12 : decode cX4_shiftPrices 12 = .ok (.iload_n 3, 1) := by decide +kernel
theorem dX4_shiftPrices_13 : decode cX4_shiftPrices 13 = .ok (.baload, 1) := by decide +kernel
theorem dX4_shiftPrices_14 : decode cX4_shiftPrices 14 = .ok (.ifCond .eq 31, 3) := by decide +kernel
theorem dX4_shiftPrices_17 : decode cX4_shiftPrices 17 = .ok (.aload_n 0, 1) := by decide +kernel
theorem dX4_shiftPrices_18 : decode cX4_shiftPrices 18 = .ok (.getfield 28, 3) := by decide +kernel
theorem dX4_shiftPrices_21 : decode cX4_shiftPrices 21 = .ok (.aload_n 0, 1) := by decide +kernel
theorem dX4_shiftPrices_22 : decode cX4_shiftPrices 22 = .ok (.getfield 25, 3) := by decide +kernel
theorem dX4_shiftPrices_25 : decode cX4_shiftPrices 25 = .ok (.iload_n 3, 1) := by decide +kernel
theorem dX4_shiftPrices_26 : decode cX4_shiftPrices 26 = .ok (.iaload, 1) := by decide +kernel
theorem dX4_shiftPrices_27 : decode cX4_shiftPrices 27 = .ok (.dup2, 1) := by decide +kernel
theorem dX4_shiftPrices_28 : decode cX4_shiftPrices 28 = .ok (.laload, 1) := by decide +kernel
theorem dX4_shiftPrices_29 : decode cX4_shiftPrices 29 = .ok (.lload_n 1, 1) := by decide +kernel
theorem dX4_shiftPrices_30 : decode cX4_shiftPrices 30 = .ok (.ladd, 1) := by decide +kernel
theorem dX4_shiftPrices_31 : decode cX4_shiftPrices 31 = .ok (.lastore, 1) := by decide +kernel
theorem dX4_shiftPrices_32 : decode cX4_shiftPrices 32 = .ok (.aload_n 0, 1) := by decide +kernel
theorem dX4_shiftPrices_33 : decode cX4_shiftPrices 33 = .ok (.getfield 32, 3) := by decide +kernel
theorem dX4_shiftPrices_36 : decode cX4_shiftPrices 36 = .ok (.iload_n 3, 1) := by decide +kernel
theorem dX4_shiftPrices_37 : decode cX4_shiftPrices 37 = .ok (.dup2, 1) := by decide +kernel
theorem dX4_shiftPrices_38 : decode cX4_shiftPrices 38 = .ok (.laload, 1) := by decide +kernel
theorem dX4_shiftPrices_39 : decode cX4_shiftPrices 39 = .ok (.lload_n 1, 1) := by decide +kernel
theorem dX4_shiftPrices_40 : decode cX4_shiftPrices 40 = .ok (.lsub, 1) := by decide +kernel
theorem dX4_shiftPrices_41 : decode cX4_shiftPrices 41 = .ok (.lastore, 1) := by decide +kernel
theorem dX4_shiftPrices_42 : decode cX4_shiftPrices 42 = .ok (.goto 13, 3) := by decide +kernel
theorem dX4_shiftPrices_45 : decode cX4_shiftPrices 45 = .ok (.aload_n 0, 1) := by decide +kernel
theorem dX4_shiftPrices_46 : decode cX4_shiftPrices 46 = .ok (.getfield 35, 3) := by decide +kernel
theorem dX4_shiftPrices_49 : decode cX4_shiftPrices 49 = .ok (.iload_n 3, 1) := by decide +kernel
theorem dX4_shiftPrices_50 : decode cX4_shiftPrices 50 = .ok (.dup2, 1) := by decide +kernel
theorem dX4_shiftPrices_51 : decode cX4_shiftPrices 51 = .ok (.laload, 1) := by decide +kernel
theorem dX4_shiftPrices_52 : decode cX4_shiftPrices 52 = .ok (.lload_n 1, 1) := by decide +kernel
theorem dX4_shiftPrices_53 : decode cX4_shiftPrices 53 = .ok (.lsub, 1) := by decide +kernel
theorem dX4_shiftPrices_54 : decode cX4_shiftPrices 54 = .ok (.lastore, 1) := by decide +kernel
theorem dX4_shiftPrices_55 : decode cX4_shiftPrices 55 = .ok (.iinc 3 1, 3) := by decide +kernel
theorem dX4_shiftPrices_58 : decode cX4_shiftPrices 58 = .ok (.goto (-56), 3) := by decide +kernel
theorem dX4_shiftPrices_61 : decode cX4_shiftPrices 61 = .ok (.return_, 1) := by decide +kernel
theorem dX5_init_0 : decode cX5_init 0 = .ok (.aload_n 0, 1) := by decide +kernel
theorem dX5_init_1 : decode cX5_init 1 = .ok (.invokespecial 3, 3) := by decide +kernel
theorem dX5_init_4 : decode cX5_init 4 = .ok (.aload_n 0, 1) := by decide +kernel
theorem dX5_init_5 : decode cX5_init 5 = .ok (.iconst 0, 1) := by decide +kernel
theorem dX5_init_6 : decode cX5_init 6 = .ok (.newarray .byte, 2) := by decide +kernel
theorem dX5_init_8 : decode cX5_init 8 = .ok (.putfield 9, 3) := by decide +kernel
theorem dX5_init_11 : decode cX5_init 11 = .ok (.aload_n 0, 1) := by decide +kernel
theorem dX5_init_12 : decode cX5_init 12 = .ok (.iconst (-1), 1) := by decide +kernel
theorem dX5_init_13 : decode cX5_init 13 = .ok (.putfield 15, 3) := by decide +kernel
theorem dX5_init_16 : decode cX5_init 16 = .ok (.return_, 1) := by decide +kernel
theorem dX5_read_0 : decode cX5_read 0 = .ok (.aload_n 0, 1) := by decide +kernel
theorem dX5_read_1 : decode cX5_read 1 = .ok (.aload_n 1, 1) := by decide +kernel
theorem dX5_read_2 : decode cX5_read 2 = .ok (.putfield 9, 3) := by decide +kernel
theorem dX5_read_5 : decode cX5_read 5 = .ok (.aload_n 0, 1) := by decide +kernel
theorem dX5_read_6 : decode cX5_read 6 = .ok (.iload_n 2, 1) := by decide +kernel
theorem dX5_read_7 : decode cX5_read 7 = .ok (.aload_n 1, 1) := by decide +kernel
theorem dX5_read_8 : decode cX5_read 8 = .ok (.arraylength, 1) := by decide +kernel
theorem dX5_read_9 : decode cX5_read 9 = .ok (.invokestatic 19, 3) := by decide +kernel
theorem dX5_read_12 : decode cX5_read 12 = .ok (.putfield 25, 3) := by decide +kernel
theorem dX5_read_15 : decode cX5_read 15 = .ok (.aload_n 0, 1) := by decide +kernel
theorem dX5_read_16 : decode cX5_read 16 = .ok (.iconst 0, 1) := by decide +kernel
theorem dX5_read_17 : decode cX5_read 17 = .ok (.putfield 28, 3) := by decide +kernel
theorem dX5_read_20 : decode cX5_read 20 = .ok (.aload_n 3, 1) := by decide +kernel
theorem dX5_read_21 : decode cX5_read 21 = .ok (.invokevirtual 31, 3) := by decide +kernel
theorem dX5_read_24 : decode cX5_read 24 = .ok (.iconst 0, 1) := by decide +kernel
theorem dX5_read_25 : decode cX5_read 25 = .ok (.istore 4, 2) := by decide +kernel
theorem dX5_read_27 : decode cX5_read 27 = .ok (.iconst 1, 1) := by decide +kernel
theorem dX5_read_28 : decode cX5_read 28 = .ok (.istore 5, 2) := by decide +kernel
theorem dX5_read_30 : decode cX5_read 30 = .ok (.aload_n 0, 1) := by decide +kernel
theorem dX5_read_31 : decode cX5_read 31 = .ok (.invokevirtual 36, 3) := by decide +kernel
theorem dX5_read_34 : decode cX5_read 34 = .ok (.iload 5, 2) := by decide +kernel
theorem dX5_read_36 : decode cX5_read 36 = .ok (.ifCond .eq 38, 3) := by decide +kernel
theorem dX5_read_39 : decode cX5_read 39 = .ok (.aload_n 0, 1) := by decide +kernel
theorem dX5_read_40 : decode cX5_read 40 = .ok (.getfield 28, 3) := by decide +kernel
theorem dX5_read_43 : decode cX5_read 43 = .ok (.aload_n 0, 1) := by decide +kernel
theorem dX5_read_44 : decode cX5_read 44 = .ok (.getfield 25, 3) := by decide +kernel
theorem dX5_read_47 : decode cX5_read 47 = .ok (.if_icmp .ge 27, 3) := by decide +kernel
theorem dX5_read_50 : decode cX5_read 50 = .ok (.iload 4, 2) := by decide +kernel
theorem dX5_read_52 : decode cX5_read 52 = .ok (.bipush 20, 2) := by decide +kernel
theorem dX5_read_54 : decode cX5_read 54 = .ok (.if_icmp .ge 20, 3) := by decide +kernel
theorem dX5_read_57 : decode cX5_read 57 = .ok (.iinc 4 1, 3) := by decide +kernel
theorem dX5_read_60 : decode cX5_read 60 = .ok (.aload_n 0, 1) := by decide +kernel
theorem dX5_read_61 : decode cX5_read 61 = .ok (.aload_n 3, 1) := by decide +kernel
theorem dX5_read_62 : decode cX5_read 62 = .ok (.invokevirtual 39, 3) := by decide +kernel
theorem dX5_read_65 : decode cX5_read 65 = .ok (.istore 5, 2) := by decide +kernel
theorem dX5_read_67 : decode cX5_read 67 = .ok (.aload_n 0, 1) := by decide +kernel
theorem dX5_read_68 : decode cX5_read 68 = .ok (.invokevirtual 36, 3) := by decide +kernel
theorem dX5_read_71 : decode cX5_read 71 = .ok (.goto (-37), 3) := by decide +kernel
theorem dX5_read_74 : decode cX5_read 74 = .ok (.aload_n 0, 1) := by decide +kernel
theorem dX5_read_75 : decode cX5_read 75 = .ok (.aload_n 0, 1) := by decide +kernel
theorem dX5_read_76 : decode cX5_read 76 = .ok (.getfield 28, 3) := by decide +kernel
theorem dX5_read_79 : decode cX5_read 79 = .ok (.aload_n 0, 1) := by decide +kernel
theorem dX5_read_80 : decode cX5_read 80 = .ok (.getfield 25, 3) := by decide +kernel
theorem dX5_read_83 : decode cX5_read 83 = .ok (.if_icmp .lt 8, 3) := by decide +kernel
theorem dX5_read_86 : decode cX5_read 86 = .ok (.iload 5, 2) := by decide +kernel
theorem dX5_read_88 : decode cX5_read 88 = .ok (.ifCond .ne 10, 3) := by decide +kernel
theorem dX5_read_91 : decode cX5_read 91 = .ok (.aload_n 0, 1) := by decide +kernel
theorem dX5_read_92 : decode cX5_read 92 = .ok (.getfield 28, 3) := by decide +kernel
theorem dX5_read_95 : decode cX5_read 95 = .ok (.goto 4, 3) := by decide +kernel
theorem dX5_read_98 : decode cX5_read 98 = .ok (.iconst (-1), 1) := by decide +kernel
theorem dX5_read_99 : decode cX5_read 99 = .ok (.putfield 15, 3) := by decide +kernel
theorem dX5_read_102 : decode cX5_read 102 = .ok (.aload_n 0, 1) := by decide +kernel
theorem dX5_read_103 : decode cX5_read 103 = .ok (.getfield 15, 3) := by decide +kernel
theorem dX5_read_106 : decode cX5_read 106 = .ok (.iconst (-1), 1) := by decide +kernel
theorem dX5_read_107 : decode cX5_read 107 = .ok (.if_icmp .ne 8, 3) := by decide +kernel
theorem dX5_read_110 : decode cX5_read 110 = .ok (.iload 4, 2) := by decide +kernel
theorem dX5_read_112 : decode cX5_read 112 = .ok (.goto 4, 3) := by decide +kernel
theorem dX5_read_115 : decode cX5_read 115 = .ok (.iconst (-1), 1) := by decide +kernel
theorem dX5_read_116 : decode cX5_read 116 = .ok (.ireturn, 1) := by decide +kernel
theorem dX5_takeStatement_0 : decode cX5_takeStatement 0 = .ok (.aload_n 0, 1) := by decide +kernel
theorem dX5_takeStatement_1 : decode cX5_takeStatement 1 = .ok (.ldc 43, 2) := by decide +kernel
theorem dX5_takeStatement_3 : decode cX5_takeStatement 3 = .ok (.invokevirtual 45, 3) := by decide +kernel
theorem dX5_takeStatement_6 : decode cX5_takeStatement 6 = .ok (.ifCond .eq 14, 3) := by decide +kernel
theorem dX5_takeStatement_9 : decode cX5_takeStatement 9 = .ok (.aload_n 0, 1) := by decide +kernel
theorem dX5_takeStatement_10 : decode cX5_takeStatement 10 = .ok (.aload_n 1, 1) := by decide +kernel
theorem dX5_takeStatement_11 : decode cX5_takeStatement 11 = .ok (.getfield 49, 3) := by decide +kernel
theorem dX5_takeStatement_14 : decode cX5_takeStatement 14 = .ok (.iconst 1, 1) := by decide +kernel
theorem dX5_takeStatement_15 : decode cX5_takeStatement 15 = .ok (.iconst 3, 1) := by decide +kernel
theorem dX5_takeStatement_16 : decode cX5_takeStatement 16 = .ok (.invokevirtual 52, 3) := by decide +kernel
theorem dX5_takeStatement_19 : decode cX5_takeStatement 19 = .ok (.ireturn, 1) := by decide +kernel
theorem dX5_takeStatement_20 : decode cX5_takeStatement 20 = .ok (.aload_n 0, 1) := by decide +kernel
theorem dX5_takeStatement_21 : decode cX5_takeStatement 21 = .ok (.ldc 56, 2) := by decide +kernel
theorem dX5_takeStatement_23 : decode cX5_takeStatement 23 = .ok (.invokevirtual 45, 3) := by decide +kernel
theorem dX5_takeStatement_26 : decode cX5_takeStatement 26 = .ok (.ifCond .eq 14, 3) := by decide +kernel
theorem dX5_takeStatement_29 : decode cX5_takeStatement 29 = .ok (.aload_n 0, 1) := by decide +kernel
theorem dX5_takeStatement_30 : decode cX5_takeStatement 30 = .ok (.aload_n 1, 1) := by decide +kernel
theorem dX5_takeStatement_31 : decode cX5_takeStatement 31 = .ok (.getfield 58, 3) := by decide +kernel
theorem dX5_takeStatement_34 : decode cX5_takeStatement 34 = .ok (.iconst 0, 1) := by decide +kernel
theorem dX5_takeStatement_35 : decode cX5_takeStatement 35 = .ok (.iconst 3, 1) := by decide +kernel
theorem dX5_takeStatement_36 : decode cX5_takeStatement 36 = .ok (.invokevirtual 52, 3) := by decide +kernel
theorem dX5_takeStatement_39 : decode cX5_takeStatement 39 = .ok (.ireturn, 1) := by decide +kernel
theorem dX5_takeStatement_40 : decode cX5_takeStatement 40 = .ok (.aload_n 0, 1) := by decide +kernel
theorem dX5_takeStatement_41 : decode cX5_takeStatement 41 = .ok (.ldc 60, 2) := by decide +kernel
theorem dX5_takeStatement_43 : decode cX5_takeStatement 43 = .ok (.invokevirtual 45, 3) := by decide +kernel
theorem dX5_takeStatement_46 : decode cX5_takeStatement 46 = .ok (.ifCond .eq 15, 3) := by decide +kernel
theorem dX5_takeStatement_49 : decode cX5_takeStatement 49 = .ok (.aload_n 0, 1) := by decide +kernel
theorem dX5_takeStatement_50 : decode cX5_takeStatement 50 = .ok (.aload_n 1, 1) := by decide +kernel
theorem dX5_takeStatement_51 : decode cX5_takeStatement 51 = .ok (.getfield 62, 3) := by decide +kernel
theorem dX5_takeStatement_54 : decode cX5_takeStatement 54 = .ok (.iconst 1, 1) := by decide +kernel
theorem dX5_takeStatement_55 : decode cX5_takeStatement 55 = .ok (.bipush 9, 2) := by decide +kernel
theorem dX5_takeStatement_57 : decode cX5_takeStatement 57 = .ok (.invokevirtual 52, 3) := by decide +kernel
theorem dX5_takeStatement_60 : decode cX5_takeStatement 60 = .ok (.ireturn, 1) := by decide +kernel
theorem dX5_takeStatement_61 : decode cX5_takeStatement 61 = .ok (.aload_n 0, 1) := by decide +kernel
theorem dX5_takeStatement_62 : decode cX5_takeStatement 62 = .ok (.ldc 64, 2) := by decide +kernel
theorem dX5_takeStatement_64 : decode cX5_takeStatement 64 = .ok (.invokevirtual 45, 3) := by decide +kernel
theorem dX5_takeStatement_67 : decode cX5_takeStatement 67 = .ok (.ifCond .eq 17, 3) := by decide +kernel
theorem dX5_takeStatement_70 : decode cX5_takeStatement 70 = .ok (.aload_n 0, 1) := by decide +kernel
theorem dX5_takeStatement_71 : decode cX5_takeStatement 71 = .ok (.aload_n 1, 1) := by decide +kernel
theorem dX5_takeStatement_72 : decode cX5_takeStatement 72 = .ok (.getfield 66, 3) := by decide +kernel
theorem dX5_takeStatement_75 : decode cX5_takeStatement 75 = .ok (.iconst 0, 1) := by decide +kernel
theorem dX5_takeStatement_76 : decode cX5_takeStatement 76 = .ok (.iconst 0, 1) := by decide +kernel
theorem dX5_takeStatement_77 : decode cX5_takeStatement 77 = .ok (.sipush 999, 3) := by decide +kernel
theorem dX5_takeStatement_80 : decode cX5_takeStatement 80 = .ok (.invokevirtual 69, 3) := by decide +kernel
theorem dX5_takeStatement_83 : decode cX5_takeStatement 83 = .ok (.ireturn, 1) := by decide +kernel
theorem dX5_takeStatement_84 : decode cX5_takeStatement 84 = .ok (.aload_n 0, 1) := by decide +kernel
theorem dX5_takeStatement_85 : decode cX5_takeStatement 85 = .ok (.ldc 73, 2) := by decide +kernel
theorem dX5_takeStatement_87 : decode cX5_takeStatement 87 = .ok (.invokevirtual 45, 3) := by decide +kernel
theorem dX5_takeStatement_90 : decode cX5_takeStatement 90 = .ok (.ifCond .eq 17, 3) := by decide +kernel
theorem dX5_takeStatement_93 : decode cX5_takeStatement 93 = .ok (.aload_n 0, 1) := by decide +kernel
theorem dX5_takeStatement_94 : decode cX5_takeStatement 94 = .ok (.aload_n 1, 1) := by decide +kernel
theorem dX5_takeStatement_95 : decode cX5_takeStatement 95 = .ok (.getfield 66, 3) := by decide +kernel
theorem dX5_takeStatement_98 : decode cX5_takeStatement 98 = .ok (.iconst 1, 1) := by decide +kernel
theorem dX5_takeStatement_99 : decode cX5_takeStatement 99 = .ok (.iconst 0, 1) := by decide +kernel
theorem dX5_takeStatement_100 : decode cX5_takeStatement 100 = .ok (.sipush 999, 3) := by decide +kernel
theorem dX5_takeStatement_103 : decode cX5_takeStatement 103 = .ok (.invokevirtual 69, 3) := by decide +kernel
theorem dX5_takeStatement_106 : decode cX5_takeStatement 106 = .ok (.ireturn, 1) := by decide +kernel
theorem dX5_takeStatement_107 : decode cX5_takeStatement 107 = .ok (.aload_n 0, 1) := by decide +kernel
theorem dX5_takeStatement_108 : decode cX5_takeStatement 108 = .ok (.ldc 75, 2) := by decide +kernel
theorem dX5_takeStatement_110 : decode cX5_takeStatement 110 = .ok (.invokevirtual 45, 3) := by decide +kernel
theorem dX5_takeStatement_113 : decode cX5_takeStatement 113 = .ok (.ifCond .eq 17, 3) := by decide +kernel
theorem dX5_takeStatement_116 : decode cX5_takeStatement 116 = .ok (.aload_n 0, 1) := by decide +kernel
theorem dX5_takeStatement_117 : decode cX5_takeStatement 117 = .ok (.aload_n 1, 1) := by decide +kernel
theorem dX5_takeStatement_118 : decode cX5_takeStatement 118 = .ok (.getfield 66, 3) := by decide +kernel
theorem dX5_takeStatement_121 : decode cX5_takeStatement 121 = .ok (.iconst 2, 1) := by decide +kernel
theorem dX5_takeStatement_122 : decode cX5_takeStatement 122 = .ok (.iconst 0, 1) := by decide +kernel
theorem dX5_takeStatement_123 : decode cX5_takeStatement 123 = .ok (.sipush 999, 3) := by decide +kernel
theorem dX5_takeStatement_126 : decode cX5_takeStatement 126 = .ok (.invokevirtual 69, 3) := by decide +kernel
theorem dX5_takeStatement_129 : decode cX5_takeStatement 129 = .ok (.ireturn, 1) := by decide +kernel
theorem dX5_takeStatement_130 : decode cX5_takeStatement 130 = .ok (.aload_n 0, 1) := by decide +kernel
theorem dX5_takeStatement_131 : decode cX5_takeStatement 131 = .ok (.ldc 77, 2) := by decide +kernel
theorem dX5_takeStatement_133 : decode cX5_takeStatement 133 = .ok (.invokevirtual 45, 3) := by decide +kernel
theorem dX5_takeStatement_136 : decode cX5_takeStatement 136 = .ok (.ifCond .eq 21, 3) := by decide +kernel
theorem dX5_takeStatement_139 : decode cX5_takeStatement 139 = .ok (.aload_n 0, 1) := by decide +kernel
theorem dX5_takeStatement_140 : decode cX5_takeStatement 140 = .ok (.aload_n 1, 1) := by decide +kernel
theorem dX5_takeStatement_141 : decode cX5_takeStatement 141 = .ok (.getfield 66, 3) := by decide +kernel
theorem dX5_takeStatement_144 : decode cX5_takeStatement 144 = .ok (.iconst 3, 1) := by decide +kernel
theorem dX5_takeStatement_145 : decode cX5_takeStatement 145 = .ok (.iconst 1, 1) := by decide +kernel
theorem dX5_takeStatement_146 : decode cX5_takeStatement 146 = .ok (.iconst 5, 1) := by decide +kernel
theorem dX5_takeStatement_147 : decode cX5_takeStatement 147 = .ok (.invokevirtual 69, 3) := by decide +kernel
theorem dX5_takeStatement_150 : decode cX5_takeStatement 150 = .ok (.ifCond .eq 7, 3) := by decide +kernel
theorem dX5_takeStatement_153 : decode cX5_takeStatement 153 = .ok (.iconst 1, 1) := by decide +kernel
theorem dX5_takeStatement_154 : decode cX5_takeStatement 154 = .ok (.goto 4, 3) := by decide +kernel
theorem dX5_takeStatement_157 : decode cX5_takeStatement 157 = .ok (.iconst 0, 1) := by decide +kernel
theorem dX5_takeStatement_158 : decode cX5_takeStatement 158 = .ok (.ireturn, 1) := by decide +kernel
theorem dX5_takeEntry_0 : decode cX5_takeEntry 0 = .ok (.aload_n 0, 1) := by decide +kernel
theorem dX5_takeEntry_1 : decode cX5_takeEntry 1 = .ok (.iload_n 2, 1) := by decide +kernel
theorem dX5_takeEntry_2 : decode cX5_takeEntry 2 = .ok (.iload_n 3, 1) := by decide +kernel
theorem dX5_takeEntry_3 : decode cX5_takeEntry 3 = .ok (.aload_n 1, 1) := by decide +kernel
theorem dX5_takeEntry_4 : decode cX5_takeEntry 4 = .ok (.arraylength, 1) := by decide +kernel
theorem dX5_takeEntry_5 : decode cX5_takeEntry 5 = .ok (.iconst 1, 1) := by decide +kernel
theorem dX5_takeEntry_6 : decode cX5_takeEntry 6 = .ok (.isub, 1) := by decide +kernel
theorem dX5_takeEntry_7 : decode cX5_takeEntry 7 = .ok (.invokestatic 19, 3) := by decide +kernel
theorem dX5_takeEntry_10 : decode cX5_takeEntry 10 = .ok (.invokevirtual 79, 3) := by decide +kernel
theorem dX5_takeEntry_13 : decode cX5_takeEntry 13 = .ok (.ifCond .ne 5, 3) := by decide +kernel
theorem dX5_takeEntry_16 : decode cX5_takeEntry 16 = .ok (.iconst 0, 1) := by decide +kernel
theorem dX5_takeEntry_17 : decode cX5_takeEntry 17 = .ok (.ireturn, 1) := by decide +kernel
theorem dX5_takeEntry_18 : decode cX5_takeEntry 18 = .ok (.aload_n 0, 1) := by decide +kernel
theorem dX5_takeEntry_19 : decode cX5_takeEntry 19 = .ok (.getfield 83, 3) := by decide +kernel
theorem dX5_takeEntry_22 : decode cX5_takeEntry 22 = .ok (.istore 4, 2) := by decide +kernel
theorem dX5_takeEntry_24 : decode cX5_takeEntry 24 = .ok (.aload_n 0, 1) := by decide +kernel
theorem dX5_takeEntry_25 : decode cX5_takeEntry 25 = .ok (.ldc 86, 2) := by decide +kernel
theorem dX5_takeEntry_27 : decode cX5_takeEntry 27 = .ok (.invokevirtual 45, 3) := by decide +kernel
theorem dX5_takeEntry_30 : decode cX5_takeEntry 30 = .ok (.ifCond .eq 14, 3) := by decide +kernel
theorem dX5_takeEntry_33 : decode cX5_takeEntry 33 = .ok (.aload_n 0, 1) := by decide +kernel
theorem dX5_takeEntry_34 : decode cX5_takeEntry 34 = .ok (.iconst 0, 1) := by decide +kernel
theorem dX5_takeEntry_35 : decode cX5_takeEntry 35 = .ok (.sipush 999, 3) := by decide +kernel
theorem dX5_takeEntry_38 : decode cX5_takeEntry 38 = .ok (.invokevirtual 79, 3) := by decide +kernel
theorem dX5_takeEntry_41 : decode cX5_takeEntry 41 = .ok (.ifCond .ne 5, 3) := by decide +kernel
theorem dX5_takeEntry_44 : decode cX5_takeEntry 44 = .ok (.iconst 0, 1) := by decide +kernel
theorem dX5_takeEntry_45 : decode cX5_takeEntry 45 = .ok (.ireturn, 1) := by decide +kernel
theorem dX5_takeEntry_46 : decode cX5_takeEntry 46 = .ok (.aload_n 1, 1) := by decide +kernel
theorem dX5_takeEntry_47 : decode cX5_takeEntry 47 = .ok (.iload 4, 2) := by decide +kernel
theorem dX5_takeEntry_49 : decode cX5_takeEntry 49 = .ok (.aload_n 0, 1) := by decide +kernel
theorem dX5_takeEntry_50 : decode cX5_takeEntry 50 = .ok (.getfield 83, 3) := by decide +kernel
theorem dX5_takeEntry_53 : decode cX5_takeEntry 53 = .ok (.iastore, 1) := by decide +kernel
theorem dX5_takeEntry_54 : decode cX5_takeEntry 54 = .ok (.aload_n 0, 1) := by decide +kernel
theorem dX5_takeEntry_55 : decode cX5_takeEntry 55 = .ok (.invokevirtual 88, 3) := by decide +kernel
theorem dX5_takeEntry_58 : decode cX5_takeEntry 58 = .ok (.ireturn, 1) := by decide +kernel
theorem dX5_takeTerm_0 : decode cX5_takeTerm 0 = .ok (.aload_n 0, 1) := by decide +kernel
theorem dX5_takeTerm_1 : decode cX5_takeTerm 1 = .ok (.iload_n 3, 1) := by decide +kernel
theorem dX5_takeTerm_2 : decode cX5_takeTerm 2 = .ok (.iload 4, 2) := by decide +kernel
theorem dX5_takeTerm_4 : decode cX5_takeTerm 4 = .ok (.invokevirtual 79, 3) := by decide +kernel
theorem dX5_takeTerm_7 : decode cX5_takeTerm 7 = .ok (.ifCond .ne 5, 3) := by decide +kernel
theorem dX5_takeTerm_10 : decode cX5_takeTerm 10 = .ok (.iconst 0, 1) := by decide +kernel
theorem dX5_takeTerm_11 : decode cX5_takeTerm 11 = .ok (.ireturn, 1) := by decide +kernel
theorem dX5_takeTerm_12 : decode cX5_takeTerm 12 = .ok (.aload_n 1, 1) := by decide +kernel
theorem dX5_takeTerm_13 : decode cX5_takeTerm 13 = .ok (.iload_n 2, 1) := by decide +kernel
theorem dX5_takeTerm_14 : decode cX5_takeTerm 14 = .ok (.aload_n 0, 1) := by decide +kernel
theorem dX5_takeTerm_15 : decode cX5_takeTerm 15 = .ok (.getfield 83, 3) := by decide +kernel
theorem dX5_takeTerm_18 : decode cX5_takeTerm 18 = .ok (.iastore, 1) := by decide +kernel
theorem dX5_takeTerm_19 : decode cX5_takeTerm 19 = .ok (.aload_n 0, 1) := by decide +kernel
theorem dX5_takeTerm_20 : decode cX5_takeTerm 20 = .ok (.invokevirtual 88, 3) := by decide +kernel
theorem dX5_takeTerm_23 : decode cX5_takeTerm 23 = .ok (.ireturn, 1) := by decide +kernel
theorem dX5_takeWord_0 : decode cX5_takeWord 0 = .ok (.aload_n 0, 1) := by decide +kernel
theorem dX5_takeWord_1 : decode cX5_takeWord 1 = .ok (.invokevirtual 36, 3) := by decide +kernel
theorem dX5_takeWord_4 : decode cX5_takeWord 4 = .ok (.aload_n 0, 1) := by decide +kernel
theorem dX5_takeWord_5 : decode cX5_takeWord 5 = .ok (.bipush 97, 2) := by decide +kernel
theorem dX5_takeWord_7 : decode cX5_takeWord 7 = .ok (.bipush 122, 2) := by decide +kernel
theorem dX5_takeWord_9 : decode cX5_takeWord 9 = .ok (.invokevirtual 92, 3) := by decide +kernel
theorem dX5_takeWord_12 : decode cX5_takeWord 12 = .ok (.istore_n 2, 1) := by decide +kernel
theorem dX5_takeWord_13 : decode cX5_takeWord 13 = .ok (.iload_n 2, 1) := by decide +kernel
theorem dX5_takeWord_14 : decode cX5_takeWord 14 = .ok (.aload_n 0, 1) := by decide +kernel
theorem dX5_takeWord_15 : decode cX5_takeWord 15 = .ok (.getfield 28, 3) := by decide +kernel
theorem dX5_takeWord_18 : decode cX5_takeWord 18 = .ok (.isub, 1) := by decide +kernel
theorem dX5_takeWord_19 : decode cX5_takeWord 19 = .ok (.aload_n 1, 1) := by decide +kernel
theorem dX5_takeWord_20 : decode cX5_takeWord 20 = .ok (.invokevirtual 96, 3) := by decide +kernel
theorem dX5_takeWord_23 : decode cX5_takeWord 23 = .ok (.if_icmp .eq 5, 3) := by decide +kernel
theorem dX5_takeWord_26 : decode cX5_takeWord 26 = .ok (.iconst 0, 1) := by decide +kernel
theorem dX5_takeWord_27 : decode cX5_takeWord 27 = .ok (.ireturn, 1) := by decide +kernel
theorem dX5_takeWord_28 : decode cX5_takeWord 28 = .ok (.iconst 0, 1) := by decide +kernel
theorem dX5_takeWord_29 : decode cX5_takeWord 29 = .ok (.istore_n 3, 1) := by decide +kernel
theorem dX5_takeWord_30 : decode cX5_takeWord 30 = .ok (.iload_n 3, 1) := by decide +kernel
theorem dX5_takeWord_31 : decode cX5_takeWord 31 = .ok (.aload_n 1, 1) := by decide +kernel
theorem dX5_takeWord_32 : decode cX5_takeWord 32 = .ok (.invokevirtual 96, 3) := by decide +kernel
theorem dX5_takeWord_35 : decode cX5_takeWord 35 = .ok (.if_icmp .ge 30, 3) := by decide +kernel
theorem dX5_takeWord_38 : decode cX5_takeWord 38 = .ok (.aload_n 0, 1) := by decide +kernel
theorem dX5_takeWord_39 : decode cX5_takeWord 39 = .ok (.getfield 9, 3) := by decide +kernel
theorem dX5_takeWord_42 : decode cX5_takeWord 42 = .ok (.aload_n 0, 1) := by decide +kernel
theorem dX5_takeWord_43 : decode cX5_takeWord 43 = .ok (.getfield 28, 3) := by decide +kernel
theorem dX5_takeWord_46 : decode cX5_takeWord 46 = .ok (.iload_n 3, 1) := by decide +kernel
theorem dX5_takeWord_47 : decode cX5_takeWord 47 = .ok (.iadd, 1) := by decide +kernel
theorem dX5_takeWord_48 : decode cX5_takeWord 48 = .ok (.baload, 1) := by decide +kernel
theorem dX5_takeWord_49 : decode cX5_takeWord 49 = .ok (.aload_n 1, 1) := by decide +kernel
theorem dX5_takeWord_50 : decode cX5_takeWord 50 = .ok (.iload_n 3, 1) := by decide +kernel
theorem dX5_takeWord_51 : decode cX5_takeWord 51 = .ok (.invokevirtual 101, 3) := by decide +kernel
theorem dX5_takeWord_54 : decode cX5_takeWord 54 = .ok (.if_icmp .eq 5, 3) := by decide +kernel
theorem dX5_takeWord_57 : decode cX5_takeWord 57 = .ok (.iconst 0, 1) := by decide +kernel
theorem dX5_takeWord_58 : decode cX5_takeWord 58 = .ok (.ireturn, 1) := by decide +kernel
theorem dX5_takeWord_59 : decode cX5_takeWord 59 = .ok (.iinc 3 1, 3) := by decide +kernel
theorem dX5_takeWord_62 : decode cX5_takeWord 62 = .ok (.goto (-32), 3) := by decide +kernel
theorem dX5_takeWord_65 : decode cX5_takeWord 65 = .ok (.aload_n 0, 1) := by decide +kernel
theorem dX5_takeWord_66 : decode cX5_takeWord 66 = .ok (.iload_n 2, 1) := by decide +kernel
theorem dX5_takeWord_67 : decode cX5_takeWord 67 = .ok (.putfield 28, 3) := by decide +kernel
theorem dX5_takeWord_70 : decode cX5_takeWord 70 = .ok (.iconst 1, 1) := by decide +kernel
theorem dX5_takeWord_71 : decode cX5_takeWord 71 = .ok (.ireturn, 1) := by decide +kernel
theorem dX5_takeNumber_0 : decode cX5_takeNumber 0 = .ok (.aload_n 0, 1) := by decide +kernel
theorem dX5_takeNumber_1 : decode cX5_takeNumber 1 = .ok (.invokevirtual 36, 3) := by decide +kernel
theorem dX5_takeNumber_4 : decode cX5_takeNumber 4 = .ok (.aload_n 0, 1) := by decide +kernel
theorem dX5_takeNumber_5 : decode cX5_takeNumber 5 = .ok (.bipush 48, 2) := by decide +kernel
theorem dX5_takeNumber_7 : decode cX5_takeNumber 7 = .ok (.bipush 57, 2) := by decide +kernel
theorem dX5_takeNumber_9 : decode cX5_takeNumber 9 = .ok (.invokevirtual 92, 3) := by decide +kernel
theorem dX5_takeNumber_12 : decode cX5_takeNumber 12 = .ok (.istore_n 3, 1) := by decide +kernel
theorem dX5_takeNumber_13 : decode cX5_takeNumber 13 = .ok (.iload_n 3, 1) := by decide +kernel
theorem dX5_takeNumber_14 : decode cX5_takeNumber 14 = .ok (.aload_n 0, 1) := by decide +kernel
theorem dX5_takeNumber_15 : decode cX5_takeNumber 15 = .ok (.getfield 28, 3) := by decide +kernel
theorem dX5_takeNumber_18 : decode cX5_takeNumber 18 = .ok (.if_icmp .eq 13, 3) := by decide +kernel
theorem dX5_takeNumber_21 : decode cX5_takeNumber 21 = .ok (.iload_n 3, 1) := by decide +kernel
theorem dX5_takeNumber_22 : decode cX5_takeNumber 22 = .ok (.aload_n 0, 1) := by decide +kernel
theorem dX5_takeNumber_23 : decode cX5_takeNumber 23 = .ok (.getfield 28, 3) := by decide +kernel
theorem dX5_takeNumber_26 : decode cX5_takeNumber 26 = .ok (.isub, 1) := by decide +kernel
theorem dX5_takeNumber_27 : decode cX5_takeNumber 27 = .ok (.iconst 3, 1) := by decide +kernel
theorem dX5_takeNumber_28 : decode cX5_takeNumber 28 = .ok (.if_icmp .le 5, 3) := by decide +kernel
theorem dX5_takeNumber_31 : decode cX5_takeNumber 31 = .ok (.iconst 0, 1) := by decide +kernel
theorem dX5_takeNumber_32 : decode cX5_takeNumber 32 = .ok (.ireturn, 1) := by decide +kernel
theorem dX5_takeNumber_33 : decode cX5_takeNumber 33 = .ok (.iconst 0, 1) := by decide +kernel
theorem dX5_takeNumber_34 : decode cX5_takeNumber 34 = .ok (.istore 4, 2) := by decide +kernel
theorem dX5_takeNumber_36 : decode cX5_takeNumber 36 = .ok (.aload_n 0, 1) := by decide +kernel
theorem dX5_takeNumber_37 : decode cX5_takeNumber 37 = .ok (.getfield 28, 3) := by decide +kernel
theorem dX5_takeNumber_40 : decode cX5_takeNumber 40 = .ok (.istore 5, 2) := by decide +kernel
theorem dX5_takeNumber_42 : decode cX5_takeNumber 42 = .ok (.iload 5, 2) := by decide +kernel
theorem dX5_takeNumber_44 : decode cX5_takeNumber 44 = .ok (.iload_n 3, 1) := by decide +kernel
theorem dX5_takeNumber_45 : decode cX5_takeNumber 45 = .ok (.if_icmp .ge 27, 3) := by decide +kernel
theorem dX5_takeNumber_48 : decode cX5_takeNumber 48 = .ok (.bipush 10, 2) := by decide +kernel
theorem dX5_takeNumber_50 : decode cX5_takeNumber 50 = .ok (.iload 4, 2) := by decide +kernel
theorem dX5_takeNumber_52 : decode cX5_takeNumber 52 = .ok (.imul, 1) := by decide +kernel
theorem dX5_takeNumber_53 : decode cX5_takeNumber 53 = .ok (.aload_n 0, 1) := by decide +kernel
theorem dX5_takeNumber_54 : decode cX5_takeNumber 54 = .ok (.getfield 9, 3) := by decide +kernel
theorem dX5_takeNumber_57 : decode cX5_takeNumber 57 = .ok (.iload 5, 2) := by decide +kernel
theorem dX5_takeNumber_59 : decode cX5_takeNumber 59 = .ok (.baload, 1) := by decide +kernel
theorem dX5_takeNumber_60 : decode cX5_takeNumber 60 = .ok (.iadd, 1) := by decide +kernel
theorem dX5_takeNumber_61 : decode cX5_takeNumber 61 = .ok (.bipush 48, 2) := by decide +kernel
theorem dX5_takeNumber_63 : decode cX5_takeNumber 63 = .ok (.isub, 1) := by decide +kernel
theorem dX5_takeNumber_64 : decode cX5_takeNumber 64 = .ok (.istore 4, 2) := by decide +kernel
theorem dX5_takeNumber_66 : decode cX5_takeNumber 66 = .ok (.iinc 5 1, 3) := by decide +kernel
theorem dX5_takeNumber_69 : decode cX5_takeNumber 69 = .ok (.goto (-27), 3) := by decide +kernel
theorem dX5_takeNumber_72 : decode cX5_takeNumber 72 = .ok (.iload 4, 2) := by decide +kernel
theorem dX5_takeNumber_74 : decode cX5_takeNumber 74 = .ok (.iload_n 1, 1) := by decide +kernel
theorem dX5_takeNumber_75 : decode cX5_takeNumber 75 = .ok (.iload_n 2, 1) := by decide +kernel
theorem dX5_takeNumber_76 : decode cX5_takeNumber 76 = .ok (.invokestatic 105, 3) := by decide +kernel
theorem dX5_takeNumber_79 : decode cX5_takeNumber 79 = .ok (.ifCond .ne 5, 3) := by decide +kernel
theorem dX5_takeNumber_82 : decode cX5_takeNumber 82 = .ok (.iconst 0, 1) := by decide +kernel
theorem dX5_takeNumber_83 : decode cX5_takeNumber 83 = .ok (.ireturn, 1) := by decide +kernel
theorem dX5_takeNumber_84 : decode cX5_takeNumber 84 = .ok (.aload_n 0, 1) := by decide +kernel
theorem dX5_takeNumber_85 : decode cX5_takeNumber 85 = .ok (.iload 4, 2) := by decide +kernel
theorem dX5_takeNumber_87 : decode cX5_takeNumber 87 = .ok (.putfield 83, 3) := by decide +kernel
theorem dX5_takeNumber_90 : decode cX5_takeNumber 90 = .ok (.aload_n 0, 1) := by decide +kernel
theorem dX5_takeNumber_91 : decode cX5_takeNumber 91 = .ok (.iload_n 3, 1) := by decide +kernel
theorem dX5_takeNumber_92 : decode cX5_takeNumber 92 = .ok (.putfield 28, 3) := by decide +kernel
theorem dX5_takeNumber_95 : decode cX5_takeNumber 95 = .ok (.iconst 1, 1) := by decide +kernel
theorem dX5_takeNumber_96 : decode cX5_takeNumber 96 = .ok (.ireturn, 1) := by decide +kernel
theorem dX5_takeEnd_0 : decode cX5_takeEnd 0 = .ok (.aload_n 0, 1) := by decide +kernel
theorem dX5_takeEnd_1 : decode cX5_takeEnd 1 = .ok (.invokevirtual 36, 3) := by decide +kernel
theorem dX5_takeEnd_4 : decode cX5_takeEnd 4 = .ok (.aload_n 0, 1) := by decide +kernel
theorem dX5_takeEnd_5 : decode cX5_takeEnd 5 = .ok (.getfield 28, 3) := by decide +kernel
theorem dX5_takeEnd_8 : decode cX5_takeEnd 8 = .ok (.aload_n 0, 1) := by decide +kernel
theorem dX5_takeEnd_9 : decode cX5_takeEnd 9 = .ok (.getfield 25, 3) := by decide +kernel
theorem dX5_takeEnd_12 : decode cX5_takeEnd 12 = .ok (.if_icmp .ge 17, 3) := by decide +kernel
theorem dX5_takeEnd_15 : decode cX5_takeEnd 15 = .ok (.aload_n 0, 1) := by decide +kernel
theorem dX5_takeEnd_16 : decode cX5_takeEnd 16 = .ok (.getfield 9, 3) := by decide +kernel
theorem dX5_takeEnd_19 : decode cX5_takeEnd 19 = .ok (.aload_n 0, 1) := by decide +kernel
theorem dX5_takeEnd_20 : decode cX5_takeEnd 20 = .ok (.getfield 28, 3) := by decide +kernel
theorem dX5_takeEnd_23 : decode cX5_takeEnd 23 = .ok (.baload, 1) := by decide +kernel
theorem dX5_takeEnd_24 : decode cX5_takeEnd 24 = .ok (.bipush 59, 2) := by decide +kernel
theorem dX5_takeEnd_26 : decode cX5_takeEnd 26 = .ok (.if_icmp .eq 5, 3) := by decide +kernel
theorem dX5_takeEnd_29 : decode cX5_takeEnd 29 = .ok (.iconst 0, 1) := by decide +kernel
theorem dX5_takeEnd_30 : decode cX5_takeEnd 30 = .ok (.ireturn, 1) := by decide +kernel
theorem dX5_takeEnd_31 : decode cX5_takeEnd 31 = .ok (.aload_n 0, 1) := by decide +kernel
theorem dX5_takeEnd_32 : decode cX5_takeEnd 32 = .ok (.dup, 1) := by decide +kernel
theorem dX5_takeEnd_33 : decode cX5_takeEnd 33 = .ok (.getfield 28, 3) := by decide +kernel
theorem dX5_takeEnd_36 : decode cX5_takeEnd 36 = .ok (.iconst 1, 1) := by decide +kernel
theorem dX5_takeEnd_37 : decode cX5_takeEnd 37 = .ok (.iadd, 1) := by decide +kernel
theorem dX5_takeEnd_38 : decode cX5_takeEnd 38 = .ok (.putfield 28, 3) := by decide +kernel
theorem dX5_takeEnd_41 : decode cX5_takeEnd 41 = .ok (.iconst 1, 1) := by decide +kernel
theorem dX5_takeEnd_42 : decode cX5_takeEnd 42 = .ok (.ireturn, 1) := by decide +kernel
theorem dX5_skipBlanks_0 : decode cX5_skipBlanks 0 = .ok (.aload_n 0, 1) := by decide +kernel
theorem dX5_skipBlanks_1 : decode cX5_skipBlanks 1 = .ok (.getfield 28, 3) := by decide +kernel
theorem dX5_skipBlanks_4 : decode cX5_skipBlanks 4 = .ok (.aload_n 0, 1) := by decide +kernel
theorem dX5_skipBlanks_5 : decode cX5_skipBlanks 5 = .ok (.getfield 25, 3) := by decide +kernel
theorem dX5_skipBlanks_8 : decode cX5_skipBlanks 8 = .ok (.if_icmp .ge 44, 3) := by decide +kernel
theorem dX5_skipBlanks_11 : decode cX5_skipBlanks 11 = .ok (.aload_n 0, 1) := by decide +kernel
theorem dX5_skipBlanks_12 : decode cX5_skipBlanks 12 = .ok (.getfield 9, 3) := by decide +kernel
end
section
theorem dX5_skipBlanks_15 : decode cX5_skipBlanks 15 = .ok (.aload_n 0, 1) := by decide +kernel
theorem dX5_skipBlanks_16 : decode cX5_skipBlanks 16 = .ok (.getfield 28, 3) := by decide +kernel
theorem dX5_skipBlanks_19 : decode cX5_skipBlanks 19 = .ok (.baload, 1) := by decide +kernel
theorem dX5_skipBlanks_20 : decode cX5_skipBlanks 20 = .ok (.bipush 32, 2) := by decide +kernel
theorem dX5_skipBlanks_22 : decode cX5_skipBlanks 22 = .ok (.if_icmp .eq 17, 3) := by decide +kernel
theorem dX5_skipBlanks_25 : decode cX5_skipBlanks 25 = .ok (.aload_n 0, 1) := by decide +kernel
theorem dX5_skipBlanks_26 : decode cX5_skipBlanks 26 = .ok (.getfield 9, 3) := by decide +kernel
theorem dX5_skipBlanks_29 : decode cX5_skipBlanks 29 = .ok (.aload_n 0, 1) := by decide +kernel
theorem dX5_skipBlanks_30 : decode cX5_skipBlanks 30 = .ok (.getfield 28, 3) := by decide +kernel
theorem dX5_skipBlanks_33 : decode cX5_skipBlanks 33 = .ok (.baload, 1) := by decide +kernel
theorem dX5_skipBlanks_34 : decode cX5_skipBlanks 34 = .ok (.bipush 10, 2) := by decide +kernel
theorem dX5_skipBlanks_36 : decode cX5_skipBlanks 36 = .ok (.if_icmp .ne 16, 3) := by decide +kernel
theorem dX5_skipBlanks_39 : decode cX5_skipBlanks 39 = .ok (.aload_n 0, 1) := by decide +kernel
theorem dX5_skipBlanks_40 : decode cX5_skipBlanks 40 = .ok (.dup, 1) := by decide +kernel
theorem dX5_skipBlanks_41 : decode cX5_skipBlanks 41 = .ok (.getfield 28, 3) := by decide +kernel
theorem dX5_skipBlanks_44 : decode cX5_skipBlanks 44 = .ok (.iconst 1, 1) := by decide +kernel
theorem dX5_skipBlanks_45 : decode cX5_skipBlanks 45 = .ok (.iadd, 1) := by decide +kernel
theorem dX5_skipBlanks_46 : decode cX5_skipBlanks 46 = .ok (.putfield 28, 3) := by decide +kernel
theorem dX5_skipBlanks_49 : decode cX5_skipBlanks 49 = .ok (.goto (-49), 3) := by decide +kernel
theorem dX5_skipBlanks_52 : decode cX5_skipBlanks 52 = .ok (.return_, 1) := by decide +kernel
theorem dX5_endOfRun_0 : decode cX5_endOfRun 0 = .ok (.aload_n 0, 1) := by decide +kernel
theorem dX5_endOfRun_1 : decode cX5_endOfRun 1 = .ok (.getfield 28, 3) := by decide +kernel
theorem dX5_endOfRun_4 : decode cX5_endOfRun 4 = .ok (.istore_n 3, 1) := by decide +kernel
theorem dX5_endOfRun_5 : decode cX5_endOfRun 5 = .ok (.iload_n 3, 1) := by decide +kernel
theorem dX5_endOfRun_6 : decode cX5_endOfRun 6 = .ok (.aload_n 0, 1) := by decide +kernel
theorem dX5_endOfRun_7 : decode cX5_endOfRun 7 = .ok (.getfield 25, 3) := by decide +kernel
theorem dX5_endOfRun_10 : decode cX5_endOfRun 10 = .ok (.if_icmp .ge 23, 3) := by decide +kernel
theorem dX5_endOfRun_13 : decode cX5_endOfRun 13 = .ok (.aload_n 0, 1) := by decide +kernel
theorem dX5_endOfRun_14 : decode cX5_endOfRun 14 = .ok (.getfield 9, 3) := by decide +kernel
theorem dX5_endOfRun_17 : decode cX5_endOfRun 17 = .ok (.iload_n 3, 1) := by decide +kernel
theorem dX5_endOfRun_18 : decode cX5_endOfRun 18 = .ok (.baload, 1) := by decide +kernel
theorem dX5_endOfRun_19 : decode cX5_endOfRun 19 = .ok (.iload_n 1, 1) := by decide +kernel
theorem dX5_endOfRun_20 : decode cX5_endOfRun 20 = .ok (.iload_n 2, 1) := by decide +kernel
theorem dX5_endOfRun_21 : decode cX5_endOfRun 21 = .ok (.invokestatic 105, 3) := by decide +kernel
theorem dX5_endOfRun_24 : decode cX5_endOfRun 24 = .ok (.ifCond .eq 9, 3) := by decide +kernel
theorem dX5_endOfRun_27 : decode cX5_endOfRun 27 = .ok (.iinc 3 1, 3) := by decide +kernel
theorem dX5_endOfRun_30 : decode cX5_endOfRun 30 = .ok (.goto (-25), 3) := by decide +kernel
theorem dX5_endOfRun_33 : decode cX5_endOfRun 33 = .ok (.iload_n 3, 1) := by decide +kernel
theorem dX5_endOfRun_34 : decode cX5_endOfRun 34 = .ok (.ireturn, 1) := by decide +kernel
theorem dX6_init_0 : decode cX6_init 0 = .ok (.aload_n 0, 1) := by decide +kernel
theorem dX6_init_1 : decode cX6_init 1 = .ok (.invokespecial 3, 3) := by decide +kernel
theorem dX6_init_4 : decode cX6_init 4 = .ok (.aload_n 0, 1) := by decide +kernel
theorem dX6_init_5 : decode cX6_init 5 = .ok (.bipush 60, 2) := by decide +kernel
theorem dX6_init_7 : decode cX6_init 7 = .ok (.newarray .int, 2) := by decide +kernel
theorem dX6_init_9 : decode cX6_init 9 = .ok (.putfield 9, 3) := by decide +kernel
theorem dX6_init_12 : decode cX6_init 12 = .ok (.aload_n 0, 1) := by decide +kernel
theorem dX6_init_13 : decode cX6_init 13 = .ok (.bipush 60, 2) := by decide +kernel
theorem dX6_init_15 : decode cX6_init 15 = .ok (.newarray .int, 2) := by decide +kernel
theorem dX6_init_17 : decode cX6_init 17 = .ok (.putfield 15, 3) := by decide +kernel
theorem dX6_init_20 : decode cX6_init 20 = .ok (.return_, 1) := by decide +kernel
theorem dX6_bears_0 : decode cX6_bears 0 = .ok (.iconst 0, 1) := by decide +kernel
theorem dX6_bears_1 : decode cX6_bears 1 = .ok (.istore 4, 2) := by decide +kernel
theorem dX6_bears_3 : decode cX6_bears 3 = .ok (.iload 4, 2) := by decide +kernel
theorem dX6_bears_5 : decode cX6_bears 5 = .ok (.aload_n 0, 1) := by decide +kernel
theorem dX6_bears_6 : decode cX6_bears 6 = .ok (.getfield 18, 3) := by decide +kernel
theorem dX6_bears_9 : decode cX6_bears 9 = .ok (.if_icmp .ge 37, 3) := by decide +kernel
theorem dX6_bears_12 : decode cX6_bears 12 = .ok (.aload_n 0, 1) := by decide +kernel
theorem dX6_bears_13 : decode cX6_bears 13 = .ok (.getfield 9, 3) := by decide +kernel
theorem dX6_bears_16 : decode cX6_bears 16 = .ok (.iload 4, 2) := by decide +kernel
theorem dX6_bears_18 : decode cX6_bears 18 = .ok (.iaload, 1) := by decide +kernel
theorem dX6_bears_19 : decode cX6_bears 19 = .ok (.iload_n 1, 1) := by decide +kernel
theorem dX6_bears_20 : decode cX6_bears 20 = .ok (.iload_n 2, 1) := by decide +kernel
theorem dX6_bears_21 : decode cX6_bears 21 = .ok (.invokestatic 22, 3) := by decide +kernel
theorem dX6_bears_24 : decode cX6_bears 24 = .ok (.if_icmp .ne 16, 3) := by decide +kernel
theorem dX6_bears_27 : decode cX6_bears 27 = .ok (.aload_n 0, 1) := by decide +kernel
theorem dX6_bears_28 : decode cX6_bears 28 = .ok (.getfield 15, 3) := by decide +kernel
theorem dX6_bears_31 : decode cX6_bears 31 = .ok (.iload 4, 2) := by decide +kernel
theorem dX6_bears_33 : decode cX6_bears 33 = .ok (.iaload, 1) := by decide +kernel
theorem dX6_bears_34 : decode cX6_bears 34 = .ok (.iload_n 3, 1) := by decide +kernel
theorem dX6_bears_35 : decode cX6_bears 35 = .ok (.if_icmp .ne 5, 3) := by decide +kernel
theorem dX6_bears_38 : decode cX6_bears 38 = .ok (.iconst 1, 1) := by decide +kernel
theorem dX6_bears_39 : decode cX6_bears 39 = .ok (.ireturn, 1) := by decide +kernel
theorem dX6_bears_40 : decode cX6_bears 40 = .ok (.iinc 4 1, 3) := by decide +kernel
theorem dX6_bears_43 : decode cX6_bears 43 = .ok (.goto (-40), 3) := by decide +kernel
theorem dX6_bears_46 : decode cX6_bears 46 = .ok (.iconst 0, 1) := by decide +kernel
theorem dX6_bears_47 : decode cX6_bears 47 = .ok (.ireturn, 1) := by decide +kernel
theorem dX6_personsOn_0 : decode cX6_personsOn 0 = .ok (.iconst 0, 1) := by decide +kernel
theorem dX6_personsOn_1 : decode cX6_personsOn 1 = .ok (.istore_n 3, 1) := by decide +kernel
theorem dX6_personsOn_2 : decode cX6_personsOn 2 = .ok (.iconst 0, 1) := by decide +kernel
theorem dX6_personsOn_3 : decode cX6_personsOn 3 = .ok (.istore 4, 2) := by decide +kernel
theorem dX6_personsOn_5 : decode cX6_personsOn 5 = .ok (.iload 4, 2) := by decide +kernel
theorem dX6_personsOn_7 : decode cX6_personsOn 7 = .ok (.aload_n 0, 1) := by decide +kernel
theorem dX6_personsOn_8 : decode cX6_personsOn 8 = .ok (.getfield 18, 3) := by decide +kernel
theorem dX6_personsOn_11 : decode cX6_personsOn 11 = .ok (.if_icmp .ge 27, 3) := by decide +kernel
theorem dX6_personsOn_14 : decode cX6_personsOn 14 = .ok (.aload_n 0, 1) := by decide +kernel
theorem dX6_personsOn_15 : decode cX6_personsOn 15 = .ok (.getfield 9, 3) := by decide +kernel
theorem dX6_personsOn_18 : decode cX6_personsOn 18 = .ok (.iload 4, 2) := by decide +kernel
theorem dX6_personsOn_20 : decode cX6_personsOn 20 = .ok (.iaload, 1) := by decide +kernel
theorem dX6_personsOn_21 : decode cX6_personsOn 21 = .ok (.iload_n 1, 1) := by decide +kernel
theorem dX6_personsOn_22 : decode cX6_personsOn 22 = .ok (.iload_n 2, 1) := by decide +kernel
theorem dX6_personsOn_23 : decode cX6_personsOn 23 = .ok (.invokestatic 22, 3) := by decide +kernel
theorem dX6_personsOn_26 : decode cX6_personsOn 26 = .ok (.if_icmp .ne 6, 3) := by decide +kernel
theorem dX6_personsOn_29 : decode cX6_personsOn 29 = .ok (.iinc 3 1, 3) := by decide +kernel
theorem dX6_personsOn_32 : decode cX6_personsOn 32 = .ok (.iinc 4 1, 3) := by decide +kernel
theorem dX6_personsOn_35 : decode cX6_personsOn 35 = .ok (.goto (-30), 3) := by decide +kernel
theorem dX6_personsOn_38 : decode cX6_personsOn 38 = .ok (.iload_n 3, 1) := by decide +kernel
theorem dX6_personsOn_39 : decode cX6_personsOn 39 = .ok (.ireturn, 1) := by decide +kernel
theorem dX6_put_0 : decode cX6_put 0 = .ok (.aload_n 0, 1) := by decide +kernel
theorem dX6_put_1 : decode cX6_put 1 = .ok (.getfield 18, 3) := by decide +kernel
theorem dX6_put_4 : decode cX6_put 4 = .ok (.bipush 60, 2) := by decide +kernel
theorem dX6_put_6 : decode cX6_put 6 = .ok (.if_icmp .lt 5, 3) := by decide +kernel
theorem dX6_put_9 : decode cX6_put 9 = .ok (.iconst 0, 1) := by decide +kernel
theorem dX6_put_10 : decode cX6_put 10 = .ok (.ireturn, 1) := by decide +kernel
theorem dX6_put_11 : decode cX6_put 11 = .ok (.aload_n 0, 1) := by decide +kernel
theorem dX6_put_12 : decode cX6_put 12 = .ok (.getfield 9, 3) := by decide +kernel
theorem dX6_put_15 : decode cX6_put 15 = .ok (.aload_n 0, 1) := by decide +kernel
theorem dX6_put_16 : decode cX6_put 16 = .ok (.getfield 18, 3) := by decide +kernel
theorem dX6_put_19 : decode cX6_put 19 = .ok (.iload_n 1, 1) := by decide +kernel
theorem dX6_put_20 : decode cX6_put 20 = .ok (.iload_n 2, 1) := by decide +kernel
theorem dX6_put_21 : decode cX6_put 21 = .ok (.invokestatic 22, 3) := by decide +kernel
theorem dX6_put_24 : decode cX6_put 24 = .ok (.iastore, 1) := by decide +kernel
theorem dX6_put_25 : decode cX6_put 25 = .ok (.aload_n 0, 1) := by decide +kernel
theorem dX6_put_26 : decode cX6_put 26 = .ok (.getfield 15, 3) := by decide +kernel
theorem dX6_put_29 : decode cX6_put 29 = .ok (.aload_n 0, 1) := by decide +kernel
theorem dX6_put_30 : decode cX6_put 30 = .ok (.getfield 18, 3) := by decide +kernel
theorem dX6_put_33 : decode cX6_put 33 = .ok (.iload_n 3, 1) := by decide +kernel
theorem dX6_put_34 : decode cX6_put 34 = .ok (.iastore, 1) := by decide +kernel
theorem dX6_put_35 : decode cX6_put 35 = .ok (.aload_n 0, 1) := by decide +kernel
theorem dX6_put_36 : decode cX6_put 36 = .ok (.dup, 1) := by decide +kernel
theorem dX6_put_37 : decode cX6_put 37 = .ok (.getfield 18, 3) := by decide +kernel
theorem dX6_put_40 : decode cX6_put 40 = .ok (.iconst 1, 1) := by decide +kernel
theorem dX6_put_41 : decode cX6_put 41 = .ok (.iadd, 1) := by decide +kernel
theorem dX6_put_42 : decode cX6_put 42 = .ok (.putfield 18, 3) := by decide +kernel
theorem dX6_put_45 : decode cX6_put 45 = .ok (.iconst 1, 1) := by decide +kernel
theorem dX6_put_46 : decode cX6_put 46 = .ok (.ireturn, 1) := by decide +kernel
theorem dX6_pairOf_0 : decode cX6_pairOf 0 = .ok (.iload_n 0, 1) := by decide +kernel
theorem dX6_pairOf_1 : decode cX6_pairOf 1 = .ok (.bipush 12, 2) := by decide +kernel
theorem dX6_pairOf_3 : decode cX6_pairOf 3 = .ok (.imul, 1) := by decide +kernel
theorem dX6_pairOf_4 : decode cX6_pairOf 4 = .ok (.iload_n 1, 1) := by decide +kernel
theorem dX6_pairOf_5 : decode cX6_pairOf 5 = .ok (.iadd, 1) := by decide +kernel
theorem dX6_pairOf_6 : decode cX6_pairOf 6 = .ok (.ireturn, 1) := by decide +kernel
theorem dX7_init_0 : decode cX7_init 0 = .ok (.aload_n 0, 1) := by decide +kernel
theorem dX7_init_1 : decode cX7_init 1 = .ok (.invokespecial 3, 3) := by decide +kernel
theorem dX7_init_4 : decode cX7_init 4 = .ok (.aload_n 0, 1) := by decide +kernel
theorem dX7_init_5 : decode cX7_init 5 = .ok (.sipush 500, 3) := by decide +kernel
theorem dX7_init_8 : decode cX7_init 8 = .ok (.newarray .byte, 2) := by decide +kernel
theorem dX7_init_10 : decode cX7_init 10 = .ok (.putfield 9, 3) := by decide +kernel
theorem dX7_init_13 : decode cX7_init 13 = .ok (.return_, 1) := by decide +kernel
theorem dX7_hasRoomFor_0 : decode cX7_hasRoomFor 0 = .ok (.aload_n 0, 1) := by decide +kernel
theorem dX7_hasRoomFor_1 : decode cX7_hasRoomFor 1 = .ok (.getfield 15, 3) := by decide +kernel
theorem dX7_hasRoomFor_4 : decode cX7_hasRoomFor 4 = .ok (.iload_n 1, 1) := by decide +kernel
theorem dX7_hasRoomFor_5 : decode cX7_hasRoomFor 5 = .ok (.iadd, 1) := by decide +kernel
theorem dX7_hasRoomFor_6 : decode cX7_hasRoomFor 6 = .ok (.sipush 500, 3) := by decide +kernel
theorem dX7_hasRoomFor_9 : decode cX7_hasRoomFor 9 = .ok (.if_icmp .gt 7, 3) := by decide +kernel
theorem dX7_hasRoomFor_12 : decode cX7_hasRoomFor 12 = .ok (.iconst 1, 1) := by decide +kernel
theorem dX7_hasRoomFor_13 : decode cX7_hasRoomFor 13 = .ok (.goto 4, 3) := by decide +kernel
theorem dX7_hasRoomFor_16 : decode cX7_hasRoomFor 16 = .ok (.iconst 0, 1) := by decide +kernel
theorem dX7_hasRoomFor_17 : decode cX7_hasRoomFor 17 = .ok (.ireturn, 1) := by decide +kernel
theorem dX7_put_0 : decode cX7_put 0 = .ok (.bipush 24, 2) := by decide +kernel
theorem dX7_put_2 : decode cX7_put 2 = .ok (.istore_n 2, 1) := by decide +kernel
theorem dX7_put_3 : decode cX7_put 3 = .ok (.iload_n 2, 1) := by decide +kernel
theorem dX7_put_4 : decode cX7_put 4 = .ok (.ifCond .lt 42, 3) := by decide +kernel
theorem dX7_put_7 : decode cX7_put 7 = .ok (.aload_n 0, 1) := by decide +kernel
theorem dX7_put_8 : decode cX7_put 8 = .ok (.getfield 15, 3) := by decide +kernel
theorem dX7_put_11 : decode cX7_put 11 = .ok (.sipush 500, 3) := by decide +kernel
theorem dX7_put_14 : decode cX7_put 14 = .ok (.if_icmp .ge 32, 3) := by decide +kernel
theorem dX7_put_17 : decode cX7_put 17 = .ok (.aload_n 0, 1) := by decide +kernel
theorem dX7_put_18 : decode cX7_put 18 = .ok (.getfield 9, 3) := by decide +kernel
theorem dX7_put_21 : decode cX7_put 21 = .ok (.aload_n 0, 1) := by decide +kernel
theorem dX7_put_22 : decode cX7_put 22 = .ok (.getfield 15, 3) := by decide +kernel
theorem dX7_put_25 : decode cX7_put 25 = .ok (.iload_n 1, 1) := by decide +kernel
theorem dX7_put_26 : decode cX7_put 26 = .ok (.iload_n 2, 1) := by decide +kernel
theorem dX7_put_27 : decode cX7_put 27 = .ok (.ishr, 1) := by decide +kernel
theorem dX7_put_28 : decode cX7_put 28 = .ok (.i2b, 1) := by decide +kernel
theorem dX7_put_29 : decode cX7_put 29 = .ok (.bastore, 1) := by decide +kernel
theorem dX7_put_30 : decode cX7_put 30 = .ok (.aload_n 0, 1) := by decide +kernel
theorem dX7_put_31 : decode cX7_put 31 = .ok (.dup, 1) := by decide +kernel
theorem dX7_put_32 : decode cX7_put 32 = .ok (.getfield 15, 3) := by decide +kernel
theorem dX7_put_35 : decode cX7_put 35 = .ok (.iconst 1, 1) := by decide +kernel
theorem dX7_put_36 : decode cX7_put 36 = .ok (.iadd, 1) := by decide +kernel
theorem dX7_put_37 : decode cX7_put 37 = .ok (.putfield 15, 3) := by decide +kernel
theorem dX7_put_40 : decode cX7_put 40 = .ok (.iinc 2 (-8), 3) := by decide +kernel
theorem dX7_put_43 : decode cX7_put 43 = .ok (.goto (-40), 3) := by decide +kernel
theorem dX7_put_46 : decode cX7_put 46 = .ok (.return_, 1) := by decide +kernel
theorem dX8_init_0 : decode cX8_init 0 = .ok (.aload_n 0, 1) := by decide +kernel
theorem dX8_init_1 : decode cX8_init 1 = .ok (.invokespecial 1, 3) := by decide +kernel
theorem dX8_init_4 : decode cX8_init 4 = .ok (.aload_n 0, 1) := by decide +kernel
theorem dX8_init_5 : decode cX8_init 5 = .ok (.new 7, 3) := by decide +kernel
theorem dX8_init_8 : decode cX8_init 8 = .ok (.dup, 1) := by decide +kernel
theorem dX8_init_9 : decode cX8_init 9 = .ok (.invokespecial 9, 3) := by decide +kernel
theorem dX8_init_12 : decode cX8_init 12 = .ok (.putfield 10, 3) := by decide +kernel
theorem dX8_init_15 : decode cX8_init 15 = .ok (.aload_n 0, 1) := by decide +kernel
theorem dX8_init_16 : decode cX8_init 16 = .ok (.new 16, 3) := by decide +kernel
theorem dX8_init_19 : decode cX8_init 19 = .ok (.dup, 1) := by decide +kernel
theorem dX8_init_20 : decode cX8_init 20 = .ok (.invokespecial 18, 3) := by decide +kernel
theorem dX8_init_23 : decode cX8_init 23 = .ok (.putfield 19, 3) := by decide +kernel
theorem dX8_init_26 : decode cX8_init 26 = .ok (.aload_n 0, 1) := by decide +kernel
theorem dX8_init_27 : decode cX8_init 27 = .ok (.new 23, 3) := by decide +kernel
theorem dX8_init_30 : decode cX8_init 30 = .ok (.dup, 1) := by decide +kernel
theorem dX8_init_31 : decode cX8_init 31 = .ok (.invokespecial 25, 3) := by decide +kernel
theorem dX8_init_34 : decode cX8_init 34 = .ok (.putfield 26, 3) := by decide +kernel
theorem dX8_init_37 : decode cX8_init 37 = .ok (.aload_n 0, 1) := by decide +kernel
theorem dX8_init_38 : decode cX8_init 38 = .ok (.new 30, 3) := by decide +kernel
theorem dX8_init_41 : decode cX8_init 41 = .ok (.dup, 1) := by decide +kernel
theorem dX8_init_42 : decode cX8_init 42 = .ok (.invokespecial 32, 3) := by decide +kernel
theorem dX8_init_45 : decode cX8_init 45 = .ok (.putfield 33, 3) := by decide +kernel
theorem dX8_init_48 : decode cX8_init 48 = .ok (.aload_n 0, 1) := by decide +kernel
theorem dX8_init_49 : decode cX8_init 49 = .ok (.new 37, 3) := by decide +kernel
theorem dX8_init_52 : decode cX8_init 52 = .ok (.dup, 1) := by decide +kernel
theorem dX8_init_53 : decode cX8_init 53 = .ok (.invokespecial 39, 3) := by decide +kernel
theorem dX8_init_56 : decode cX8_init 56 = .ok (.putfield 40, 3) := by decide +kernel
theorem dX8_init_59 : decode cX8_init 59 = .ok (.aload_n 0, 1) := by decide +kernel
theorem dX8_init_60 : decode cX8_init 60 = .ok (.new 44, 3) := by decide +kernel
theorem dX8_init_63 : decode cX8_init 63 = .ok (.dup, 1) := by decide +kernel
theorem dX8_init_64 : decode cX8_init 64 = .ok (.invokespecial 46, 3) := by decide +kernel
theorem dX8_init_67 : decode cX8_init 67 = .ok (.putfield 47, 3) := by decide +kernel
theorem dX8_init_70 : decode cX8_init 70 = .ok (.aload_n 0, 1) := by decide +kernel
theorem dX8_init_71 : decode cX8_init 71 = .ok (.new 51, 3) := by decide +kernel
theorem dX8_init_74 : decode cX8_init 74 = .ok (.dup, 1) := by decide +kernel
theorem dX8_init_75 : decode cX8_init 75 = .ok (.invokespecial 53, 3) := by decide +kernel
theorem dX8_init_78 : decode cX8_init 78 = .ok (.putfield 54, 3) := by decide +kernel
theorem dX8_init_81 : decode cX8_init 81 = .ok (.aload_n 0, 1) := by decide +kernel
theorem dX8_init_82 : decode cX8_init 82 = .ok (.new 51, 3) := by decide +kernel
theorem dX8_init_85 : decode cX8_init 85 = .ok (.dup, 1) := by decide +kernel
theorem dX8_init_86 : decode cX8_init 86 = .ok (.invokespecial 53, 3) := by decide +kernel
theorem dX8_init_89 : decode cX8_init 89 = .ok (.putfield 58, 3) := by decide +kernel
theorem dX8_init_92 : decode cX8_init 92 = .ok (.aload_n 0, 1) := by decide +kernel
theorem dX8_init_93 : decode cX8_init 93 = .ok (.new 61, 3) := by decide +kernel
theorem dX8_init_96 : decode cX8_init 96 = .ok (.dup, 1) := by decide +kernel
theorem dX8_init_97 : decode cX8_init 97 = .ok (.invokespecial 63, 3) := by decide +kernel
theorem dX8_init_100 : decode cX8_init 100 = .ok (.putfield 64, 3) := by decide +kernel
theorem dX8_init_103 : decode cX8_init 103 = .ok (.aload_n 0, 1) := by decide +kernel
theorem dX8_init_104 : decode cX8_init 104 = .ok (.new 61, 3) := by decide +kernel
theorem dX8_init_107 : decode cX8_init 107 = .ok (.dup, 1) := by decide +kernel
theorem dX8_init_108 : decode cX8_init 108 = .ok (.invokespecial 63, 3) := by decide +kernel
theorem dX8_init_111 : decode cX8_init 111 = .ok (.putfield 68, 3) := by decide +kernel
theorem dX8_init_114 : decode cX8_init 114 = .ok (.return_, 1) := by decide +kernel
theorem dX8_file_0 : decode cX8_file 0 = .ok (.iload_n 1, 1) := by decide +kernel
theorem dX8_file_1 : decode cX8_file 1 = .ok (.ifCond .ne 11, 3) := by decide +kernel
theorem dX8_file_4 : decode cX8_file 4 = .ok (.aload_n 0, 1) := by decide +kernel
theorem dX8_file_5 : decode cX8_file 5 = .ok (.getfield 10, 3) := by decide +kernel
theorem dX8_file_8 : decode cX8_file 8 = .ok (.invokevirtual 71, 3) := by decide +kernel
theorem dX8_file_11 : decode cX8_file 11 = .ok (.ireturn, 1) := by decide +kernel
theorem dX8_file_12 : decode cX8_file 12 = .ok (.iload_n 1, 1) := by decide +kernel
theorem dX8_file_13 : decode cX8_file 13 = .ok (.iconst 1, 1) := by decide +kernel
theorem dX8_file_14 : decode cX8_file 14 = .ok (.if_icmp .ne 14, 3) := by decide +kernel
theorem dX8_file_17 : decode cX8_file 17 = .ok (.aload_n 0, 1) := by decide +kernel
theorem dX8_file_18 : decode cX8_file 18 = .ok (.getfield 19, 3) := by decide +kernel
theorem dX8_file_21 : decode cX8_file 21 = .ok (.getfield 75, 3) := by decide +kernel
theorem dX8_file_24 : decode cX8_file 24 = .ok (.invokevirtual 71, 3) := by decide +kernel
theorem dX8_file_27 : decode cX8_file 27 = .ok (.ireturn, 1) := by decide +kernel
theorem dX8_file_28 : decode cX8_file 28 = .ok (.iconst (-1), 1) := by decide +kernel
theorem dX8_file_29 : decode cX8_file 29 = .ok (.ireturn, 1) := by decide +kernel
theorem dX8_sex_0 : decode cX8_sex 0 = .ok (.aload_n 0, 1) := by decide +kernel
theorem dX8_sex_1 : decode cX8_sex 1 = .ok (.iload_n 1, 1) := by decide +kernel
theorem dX8_sex_2 : decode cX8_sex 2 = .ok (.iload_n 2, 1) := by decide +kernel
theorem dX8_sex_3 : decode cX8_sex 3 = .ok (.invokevirtual 78, 3) := by decide +kernel
theorem dX8_sex_6 : decode cX8_sex 6 = .ok (.astore 4, 2) := by decide +kernel
theorem dX8_sex_8 : decode cX8_sex 8 = .ok (.aload 4, 2) := by decide +kernel
theorem dX8_sex_10 : decode cX8_sex 10 = .ok (.ifnull 12, 3) := by decide +kernel
theorem dX8_sex_13 : decode cX8_sex 13 = .ok (.iload_n 3, 1) := by decide +kernel
theorem dX8_sex_14 : decode cX8_sex 14 = .ok (.iconst 0, 1) := by decide +kernel
theorem dX8_sex_15 : decode cX8_sex 15 = .ok (.iconst 2, 1) := by decide +kernel
theorem dX8_sex_16 : decode cX8_sex 16 = .ok (.invokestatic 82, 3) := by decide +kernel
theorem dX8_sex_19 : decode cX8_sex 19 = .ok (.ifCond .ne 5, 3) := by decide +kernel
theorem dX8_sex_22 : decode cX8_sex 22 = .ok (.iconst 0, 1) := by decide +kernel
theorem dX8_sex_23 : decode cX8_sex 23 = .ok (.ireturn, 1) := by decide +kernel
theorem dX8_sex_24 : decode cX8_sex 24 = .ok (.aload 4, 2) := by decide +kernel
theorem dX8_sex_26 : decode cX8_sex 26 = .ok (.iload_n 3, 1) := by decide +kernel
theorem dX8_sex_27 : decode cX8_sex 27 = .ok (.putfield 86, 3) := by decide +kernel
theorem dX8_sex_30 : decode cX8_sex 30 = .ok (.iconst 1, 1) := by decide +kernel
theorem dX8_sex_31 : decode cX8_sex 31 = .ok (.ireturn, 1) := by decide +kernel
theorem dX8_age_0 : decode cX8_age 0 = .ok (.aload_n 0, 1) := by decide +kernel
theorem dX8_age_1 : decode cX8_age 1 = .ok (.iload_n 1, 1) := by decide +kernel
theorem dX8_age_2 : decode cX8_age 2 = .ok (.iload_n 2, 1) := by decide +kernel
theorem dX8_age_3 : decode cX8_age 3 = .ok (.invokevirtual 78, 3) := by decide +kernel
theorem dX8_age_6 : decode cX8_age 6 = .ok (.astore 5, 2) := by decide +kernel
theorem dX8_age_8 : decode cX8_age 8 = .ok (.aload 5, 2) := by decide +kernel
theorem dX8_age_10 : decode cX8_age 10 = .ok (.ifnull 20, 3) := by decide +kernel
theorem dX8_age_13 : decode cX8_age 13 = .ok (.iload_n 3, 1) := by decide +kernel
theorem dX8_age_14 : decode cX8_age 14 = .ok (.ifCond .lt 16, 3) := by decide +kernel
theorem dX8_age_17 : decode cX8_age 17 = .ok (.iload_n 3, 1) := by decide +kernel
theorem dX8_age_18 : decode cX8_age 18 = .ok (.iload 4, 2) := by decide +kernel
theorem dX8_age_20 : decode cX8_age 20 = .ok (.if_icmp .gt 10, 3) := by decide +kernel
theorem dX8_age_23 : decode cX8_age 23 = .ok (.iload 4, 2) := by decide +kernel
theorem dX8_age_25 : decode cX8_age 25 = .ok (.bipush 120, 2) := by decide +kernel
theorem dX8_age_27 : decode cX8_age 27 = .ok (.if_icmp .le 5, 3) := by decide +kernel
theorem dX8_age_30 : decode cX8_age 30 = .ok (.iconst 0, 1) := by decide +kernel
theorem dX8_age_31 : decode cX8_age 31 = .ok (.ireturn, 1) := by decide +kernel
theorem dX8_age_32 : decode cX8_age 32 = .ok (.aload 5, 2) := by decide +kernel
theorem dX8_age_34 : decode cX8_age 34 = .ok (.iload_n 3, 1) := by decide +kernel
theorem dX8_age_35 : decode cX8_age 35 = .ok (.putfield 90, 3) := by decide +kernel
theorem dX8_age_38 : decode cX8_age 38 = .ok (.aload 5, 2) := by decide +kernel
theorem dX8_age_40 : decode cX8_age 40 = .ok (.iload 4, 2) := by decide +kernel
theorem dX8_age_42 : decode cX8_age 42 = .ok (.putfield 93, 3) := by decide +kernel
theorem dX8_age_45 : decode cX8_age 45 = .ok (.iconst 1, 1) := by decide +kernel
theorem dX8_age_46 : decode cX8_age 46 = .ok (.ireturn, 1) := by decide +kernel
theorem dX8_tooth_0 : decode cX8_tooth 0 = .ok (.aload_n 0, 1) := by decide +kernel
theorem dX8_tooth_1 : decode cX8_tooth 1 = .ok (.iload_n 1, 1) := by decide +kernel
theorem dX8_tooth_2 : decode cX8_tooth 2 = .ok (.iload_n 2, 1) := by decide +kernel
theorem dX8_tooth_3 : decode cX8_tooth 3 = .ok (.invokevirtual 78, 3) := by decide +kernel
theorem dX8_tooth_6 : decode cX8_tooth 6 = .ok (.astore 5, 2) := by decide +kernel
theorem dX8_tooth_8 : decode cX8_tooth 8 = .ok (.aload 5, 2) := by decide +kernel
theorem dX8_tooth_10 : decode cX8_tooth 10 = .ok (.ifnull 23, 3) := by decide +kernel
theorem dX8_tooth_13 : decode cX8_tooth 13 = .ok (.iload_n 3, 1) := by decide +kernel
theorem dX8_tooth_14 : decode cX8_tooth 14 = .ok (.iconst 0, 1) := by decide +kernel
theorem dX8_tooth_15 : decode cX8_tooth 15 = .ok (.bipush 7, 2) := by decide +kernel
theorem dX8_tooth_17 : decode cX8_tooth 17 = .ok (.invokestatic 82, 3) := by decide +kernel
theorem dX8_tooth_20 : decode cX8_tooth 20 = .ok (.ifCond .eq 13, 3) := by decide +kernel
theorem dX8_tooth_23 : decode cX8_tooth 23 = .ok (.iload 4, 2) := by decide +kernel
theorem dX8_tooth_25 : decode cX8_tooth 25 = .ok (.iconst 0, 1) := by decide +kernel
theorem dX8_tooth_26 : decode cX8_tooth 26 = .ok (.iconst 3, 1) := by decide +kernel
theorem dX8_tooth_27 : decode cX8_tooth 27 = .ok (.invokestatic 82, 3) := by decide +kernel
theorem dX8_tooth_30 : decode cX8_tooth 30 = .ok (.ifCond .ne 5, 3) := by decide +kernel
theorem dX8_tooth_33 : decode cX8_tooth 33 = .ok (.iconst 0, 1) := by decide +kernel
theorem dX8_tooth_34 : decode cX8_tooth 34 = .ok (.ireturn, 1) := by decide +kernel
theorem dX8_tooth_35 : decode cX8_tooth 35 = .ok (.aload 5, 2) := by decide +kernel
theorem dX8_tooth_37 : decode cX8_tooth 37 = .ok (.getfield 96, 3) := by decide +kernel
theorem dX8_tooth_40 : decode cX8_tooth 40 = .ok (.iload_n 3, 1) := by decide +kernel
theorem dX8_tooth_41 : decode cX8_tooth 41 = .ok (.iload 4, 2) := by decide +kernel
theorem dX8_tooth_43 : decode cX8_tooth 43 = .ok (.iastore, 1) := by decide +kernel
theorem dX8_tooth_44 : decode cX8_tooth 44 = .ok (.iconst 1, 1) := by decide +kernel
theorem dX8_tooth_45 : decode cX8_tooth 45 = .ok (.ireturn, 1) := by decide +kernel
theorem dX8_mark_0 : decode cX8_mark 0 = .ok (.aload_n 0, 1) := by decide +kernel
theorem dX8_mark_1 : decode cX8_mark 1 = .ok (.iload_n 1, 1) := by decide +kernel
theorem dX8_mark_2 : decode cX8_mark 2 = .ok (.iload_n 2, 1) := by decide +kernel
theorem dX8_mark_3 : decode cX8_mark 3 = .ok (.invokevirtual 78, 3) := by decide +kernel
theorem dX8_mark_6 : decode cX8_mark 6 = .ok (.astore 5, 2) := by decide +kernel
theorem dX8_mark_8 : decode cX8_mark 8 = .ok (.aload 5, 2) := by decide +kernel
theorem dX8_mark_10 : decode cX8_mark 10 = .ok (.ifnull 23, 3) := by decide +kernel
theorem dX8_mark_13 : decode cX8_mark 13 = .ok (.iload_n 3, 1) := by decide +kernel
theorem dX8_mark_14 : decode cX8_mark 14 = .ok (.iconst 0, 1) := by decide +kernel
theorem dX8_mark_15 : decode cX8_mark 15 = .ok (.iconst 3, 1) := by decide +kernel
theorem dX8_mark_16 : decode cX8_mark 16 = .ok (.invokestatic 82, 3) := by decide +kernel
theorem dX8_mark_19 : decode cX8_mark 19 = .ok (.ifCond .eq 14, 3) := by decide +kernel
theorem dX8_mark_22 : decode cX8_mark 22 = .ok (.iload 4, 2) := by decide +kernel
theorem dX8_mark_24 : decode cX8_mark 24 = .ok (.iconst 0, 1) := by decide +kernel
theorem dX8_mark_25 : decode cX8_mark 25 = .ok (.bipush 9, 2) := by decide +kernel
theorem dX8_mark_27 : decode cX8_mark 27 = .ok (.invokestatic 82, 3) := by decide +kernel
theorem dX8_mark_30 : decode cX8_mark 30 = .ok (.ifCond .ne 5, 3) := by decide +kernel
theorem dX8_mark_33 : decode cX8_mark 33 = .ok (.iconst 0, 1) := by decide +kernel
theorem dX8_mark_34 : decode cX8_mark 34 = .ok (.ireturn, 1) := by decide +kernel
theorem dX8_mark_35 : decode cX8_mark 35 = .ok (.aload 5, 2) := by decide +kernel
theorem dX8_mark_37 : decode cX8_mark 37 = .ok (.getfield 100, 3) := by decide +kernel
theorem dX8_mark_40 : decode cX8_mark 40 = .ok (.iload_n 3, 1) := by decide +kernel
theorem dX8_mark_41 : decode cX8_mark 41 = .ok (.iload 4, 2) := by decide +kernel
theorem dX8_mark_43 : decode cX8_mark 43 = .ok (.iastore, 1) := by decide +kernel
theorem dX8_mark_44 : decode cX8_mark 44 = .ok (.iconst 1, 1) := by decide +kernel
theorem dX8_mark_45 : decode cX8_mark 45 = .ok (.ireturn, 1) := by decide +kernel
theorem dX8_tissue_0 : decode cX8_tissue 0 = .ok (.iload_n 1, 1) := by decide +kernel
theorem dX8_tissue_1 : decode cX8_tissue 1 = .ok (.iconst 2, 1) := by decide +kernel
theorem dX8_tissue_2 : decode cX8_tissue 2 = .ok (.if_icmp .ne 7, 3) := by decide +kernel
theorem dX8_tissue_5 : decode cX8_tissue 5 = .ok (.iconst 1, 1) := by decide +kernel
theorem dX8_tissue_6 : decode cX8_tissue 6 = .ok (.goto 4, 3) := by decide +kernel
theorem dX8_tissue_9 : decode cX8_tissue 9 = .ok (.iconst 0, 1) := by decide +kernel
theorem dX8_tissue_10 : decode cX8_tissue 10 = .ok (.istore 6, 2) := by decide +kernel
theorem dX8_tissue_12 : decode cX8_tissue 12 = .ok (.aload_n 0, 1) := by decide +kernel
theorem dX8_tissue_13 : decode cX8_tissue 13 = .ok (.iload 6, 2) := by decide +kernel
theorem dX8_tissue_15 : decode cX8_tissue 15 = .ok (.ifCond .eq 7, 3) := by decide +kernel
theorem dX8_tissue_18 : decode cX8_tissue 18 = .ok (.iconst 0, 1) := by decide +kernel
theorem dX8_tissue_19 : decode cX8_tissue 19 = .ok (.goto 4, 3) := by decide +kernel
theorem dX8_tissue_22 : decode cX8_tissue 22 = .ok (.iload_n 1, 1) := by decide +kernel
theorem dX8_tissue_23 : decode cX8_tissue 23 = .ok (.iload_n 2, 1) := by decide +kernel
theorem dX8_tissue_24 : decode cX8_tissue 24 = .ok (.invokevirtual 78, 3) := by decide +kernel
theorem dX8_tissue_27 : decode cX8_tissue 27 = .ok (.astore 7, 2) := by decide +kernel
theorem dX8_tissue_29 : decode cX8_tissue 29 = .ok (.aload 7, 2) := by decide +kernel
theorem dX8_tissue_31 : decode cX8_tissue 31 = .ok (.ifnull 12, 3) := by decide +kernel
theorem dX8_tissue_34 : decode cX8_tissue 34 = .ok (.iload_n 3, 1) := by decide +kernel
theorem dX8_tissue_35 : decode cX8_tissue 35 = .ok (.iconst 0, 1) := by decide +kernel
theorem dX8_tissue_36 : decode cX8_tissue 36 = .ok (.iconst 2, 1) := by decide +kernel
theorem dX8_tissue_37 : decode cX8_tissue 37 = .ok (.invokestatic 82, 3) := by decide +kernel
theorem dX8_tissue_40 : decode cX8_tissue 40 = .ok (.ifCond .ne 5, 3) := by decide +kernel
theorem dX8_tissue_43 : decode cX8_tissue 43 = .ok (.iconst 0, 1) := by decide +kernel
theorem dX8_tissue_44 : decode cX8_tissue 44 = .ok (.ireturn, 1) := by decide +kernel
theorem dX8_tissue_45 : decode cX8_tissue 45 = .ok (.iload 4, 2) := by decide +kernel
theorem dX8_tissue_47 : decode cX8_tissue 47 = .ok (.ifCond .eq 27, 3) := by decide +kernel
theorem dX8_tissue_50 : decode cX8_tissue 50 = .ok (.iload 4, 2) := by decide +kernel
theorem dX8_tissue_52 : decode cX8_tissue 52 = .ok (.iconst 1, 1) := by decide +kernel
theorem dX8_tissue_53 : decode cX8_tissue 53 = .ok (.bipush 9, 2) := by decide +kernel
theorem dX8_tissue_55 : decode cX8_tissue 55 = .ok (.invokestatic 82, 3) := by decide +kernel
theorem dX8_tissue_58 : decode cX8_tissue 58 = .ok (.ifCond .eq 14, 3) := by decide +kernel
theorem dX8_tissue_61 : decode cX8_tissue 61 = .ok (.iload 5, 2) := by decide +kernel
theorem dX8_tissue_63 : decode cX8_tissue 63 = .ok (.iconst 1, 1) := by decide +kernel
theorem dX8_tissue_64 : decode cX8_tissue 64 = .ok (.bipush 9, 2) := by decide +kernel
theorem dX8_tissue_66 : decode cX8_tissue 66 = .ok (.invokestatic 82, 3) := by decide +kernel
theorem dX8_tissue_69 : decode cX8_tissue 69 = .ok (.ifCond .ne 5, 3) := by decide +kernel
theorem dX8_tissue_72 : decode cX8_tissue 72 = .ok (.iconst 0, 1) := by decide +kernel
theorem dX8_tissue_73 : decode cX8_tissue 73 = .ok (.ireturn, 1) := by decide +kernel
theorem dX8_tissue_74 : decode cX8_tissue 74 = .ok (.iload 6, 2) := by decide +kernel
theorem dX8_tissue_76 : decode cX8_tissue 76 = .ok (.ifCond .eq 11, 3) := by decide +kernel
theorem dX8_tissue_79 : decode cX8_tissue 79 = .ok (.aload 7, 2) := by decide +kernel
theorem dX8_tissue_81 : decode cX8_tissue 81 = .ok (.getfield 103, 3) := by decide +kernel
theorem dX8_tissue_84 : decode cX8_tissue 84 = .ok (.goto 8, 3) := by decide +kernel
theorem dX8_tissue_87 : decode cX8_tissue 87 = .ok (.aload 7, 2) := by decide +kernel
theorem dX8_tissue_89 : decode cX8_tissue 89 = .ok (.getfield 106, 3) := by decide +kernel
theorem dX8_tissue_92 : decode cX8_tissue 92 = .ok (.astore 8, 2) := by decide +kernel
theorem dX8_tissue_94 : decode cX8_tissue 94 = .ok (.aload 8, 2) := by decide +kernel
theorem dX8_tissue_96 : decode cX8_tissue 96 = .ok (.iload_n 3, 1) := by decide +kernel
theorem dX8_tissue_97 : decode cX8_tissue 97 = .ok (.iload 4, 2) := by decide +kernel
theorem dX8_tissue_99 : decode cX8_tissue 99 = .ok (.ifCond .ne 7, 3) := by decide +kernel
theorem dX8_tissue_102 : decode cX8_tissue 102 = .ok (.iconst 0, 1) := by decide +kernel
theorem dX8_tissue_103 : decode cX8_tissue 103 = .ok (.goto 21, 3) := by decide +kernel
theorem dX8_tissue_106 : decode cX8_tissue 106 = .ok (.bipush 10, 2) := by decide +kernel
theorem dX8_tissue_108 : decode cX8_tissue 108 = .ok (.iload 4, 2) := by decide +kernel
theorem dX8_tissue_110 : decode cX8_tissue 110 = .ok (.iload 5, 2) := by decide +kernel
theorem dX8_tissue_112 : decode cX8_tissue 112 = .ok (.invokestatic 109, 3) := by decide +kernel
theorem dX8_tissue_115 : decode cX8_tissue 115 = .ok (.imul, 1) := by decide +kernel
theorem dX8_tissue_116 : decode cX8_tissue 116 = .ok (.iload 4, 2) := by decide +kernel
theorem dX8_tissue_118 : decode cX8_tissue 118 = .ok (.iload 5, 2) := by decide +kernel
theorem dX8_tissue_120 : decode cX8_tissue 120 = .ok (.invokestatic 115, 3) := by decide +kernel
theorem dX8_tissue_123 : decode cX8_tissue 123 = .ok (.iadd, 1) := by decide +kernel
theorem dX8_tissue_124 : decode cX8_tissue 124 = .ok (.iastore, 1) := by decide +kernel
theorem dX8_tissue_125 : decode cX8_tissue 125 = .ok (.iconst 1, 1) := by decide +kernel
theorem dX8_tissue_126 : decode cX8_tissue 126 = .ok (.ireturn, 1) := by decide +kernel
theorem dX8_pieces_0 : decode cX8_pieces 0 = .ok (.aload_n 0, 1) := by decide +kernel
theorem dX8_pieces_1 : decode cX8_pieces 1 = .ok (.getfield 19, 3) := by decide +kernel
theorem dX8_pieces_4 : decode cX8_pieces 4 = .ok (.getfield 75, 3) := by decide +kernel
theorem dX8_pieces_7 : decode cX8_pieces 7 = .ok (.iload_n 1, 1) := by decide +kernel
theorem dX8_pieces_8 : decode cX8_pieces 8 = .ok (.invokevirtual 118, 3) := by decide +kernel
theorem dX8_pieces_11 : decode cX8_pieces 11 = .ok (.astore_n 3, 1) := by decide +kernel
theorem dX8_pieces_12 : decode cX8_pieces 12 = .ok (.aload_n 3, 1) := by decide +kernel
theorem dX8_pieces_13 : decode cX8_pieces 13 = .ok (.ifnull 14, 3) := by decide +kernel
theorem dX8_pieces_16 : decode cX8_pieces 16 = .ok (.iload_n 2, 1) := by decide +kernel
theorem dX8_pieces_17 : decode cX8_pieces 17 = .ok (.iconst 0, 1) := by decide +kernel
theorem dX8_pieces_18 : decode cX8_pieces 18 = .ok (.sipush 255, 3) := by decide +kernel
theorem dX8_pieces_21 : decode cX8_pieces 21 = .ok (.invokestatic 82, 3) := by decide +kernel
theorem dX8_pieces_24 : decode cX8_pieces 24 = .ok (.ifCond .ne 5, 3) := by decide +kernel
theorem dX8_pieces_27 : decode cX8_pieces 27 = .ok (.iconst 0, 1) := by decide +kernel
theorem dX8_pieces_28 : decode cX8_pieces 28 = .ok (.ireturn, 1) := by decide +kernel
theorem dX8_pieces_29 : decode cX8_pieces 29 = .ok (.aload_n 0, 1) := by decide +kernel
theorem dX8_pieces_30 : decode cX8_pieces 30 = .ok (.getfield 19, 3) := by decide +kernel
theorem dX8_pieces_33 : decode cX8_pieces 33 = .ok (.iload_n 1, 1) := by decide +kernel
theorem dX8_pieces_34 : decode cX8_pieces 34 = .ok (.invokevirtual 122, 3) := by decide +kernel
theorem dX8_pieces_37 : decode cX8_pieces 37 = .ok (.iload_n 2, 1) := by decide +kernel
theorem dX8_pieces_38 : decode cX8_pieces 38 = .ok (.iand, 1) := by decide +kernel
theorem dX8_pieces_39 : decode cX8_pieces 39 = .ok (.ifCond .eq 5, 3) := by decide +kernel
theorem dX8_pieces_42 : decode cX8_pieces 42 = .ok (.iconst 0, 1) := by decide +kernel
theorem dX8_pieces_43 : decode cX8_pieces 43 = .ok (.ireturn, 1) := by decide +kernel
theorem dX8_pieces_44 : decode cX8_pieces 44 = .ok (.aload_n 3, 1) := by decide +kernel
theorem dX8_pieces_45 : decode cX8_pieces 45 = .ok (.iload_n 2, 1) := by decide +kernel
theorem dX8_pieces_46 : decode cX8_pieces 46 = .ok (.putfield 126, 3) := by decide +kernel
theorem dX8_pieces_49 : decode cX8_pieces 49 = .ok (.iconst 1, 1) := by decide +kernel
theorem dX8_pieces_50 : decode cX8_pieces 50 = .ok (.ireturn, 1) := by decide +kernel
theorem dX8_unfit_0 : decode cX8_unfit 0 = .ok (.aload_n 0, 1) := by decide +kernel
theorem dX8_unfit_1 : decode cX8_unfit 1 = .ok (.getfield 19, 3) := by decide +kernel
theorem dX8_unfit_4 : decode cX8_unfit 4 = .ok (.iload_n 1, 1) := by decide +kernel
theorem dX8_unfit_5 : decode cX8_unfit 5 = .ok (.invokevirtual 129, 3) := by decide +kernel
theorem dX8_unfit_8 : decode cX8_unfit 8 = .ok (.istore_n 3, 1) := by decide +kernel
theorem dX8_unfit_9 : decode cX8_unfit 9 = .ok (.aload_n 0, 1) := by decide +kernel
theorem dX8_unfit_10 : decode cX8_unfit 10 = .ok (.getfield 19, 3) := by decide +kernel
theorem dX8_unfit_13 : decode cX8_unfit 13 = .ok (.iload_n 2, 1) := by decide +kernel
theorem dX8_unfit_14 : decode cX8_unfit 14 = .ok (.invokevirtual 129, 3) := by decide +kernel
theorem dX8_unfit_17 : decode cX8_unfit 17 = .ok (.istore 4, 2) := by decide +kernel
theorem dX8_unfit_19 : decode cX8_unfit 19 = .ok (.iload_n 3, 1) := by decide +kernel
theorem dX8_unfit_20 : decode cX8_unfit 20 = .ok (.iconst (-1), 1) := by decide +kernel
theorem dX8_unfit_21 : decode cX8_unfit 21 = .ok (.if_icmp .eq 15, 3) := by decide +kernel
theorem dX8_unfit_24 : decode cX8_unfit 24 = .ok (.iload 4, 2) := by decide +kernel
theorem dX8_unfit_26 : decode cX8_unfit 26 = .ok (.iconst (-1), 1) := by decide +kernel
theorem dX8_unfit_27 : decode cX8_unfit 27 = .ok (.if_icmp .eq 9, 3) := by decide +kernel
theorem dX8_unfit_30 : decode cX8_unfit 30 = .ok (.iload_n 3, 1) := by decide +kernel
theorem dX8_unfit_31 : decode cX8_unfit 31 = .ok (.iload 4, 2) := by decide +kernel
theorem dX8_unfit_33 : decode cX8_unfit 33 = .ok (.if_icmp .ne 5, 3) := by decide +kernel
theorem dX8_unfit_36 : decode cX8_unfit 36 = .ok (.iconst 1, 1) := by decide +kernel
theorem dX8_unfit_37 : decode cX8_unfit 37 = .ok (.ireturn, 1) := by decide +kernel
theorem dX8_unfit_38 : decode cX8_unfit 38 = .ok (.aload_n 0, 1) := by decide +kernel
theorem dX8_unfit_39 : decode cX8_unfit 39 = .ok (.getfield 19, 3) := by decide +kernel
theorem dX8_unfit_42 : decode cX8_unfit 42 = .ok (.iload_n 3, 1) := by decide +kernel
theorem dX8_unfit_43 : decode cX8_unfit 43 = .ok (.aload_n 0, 1) := by decide +kernel
theorem dX8_unfit_44 : decode cX8_unfit 44 = .ok (.getfield 54, 3) := by decide +kernel
theorem dX8_unfit_47 : decode cX8_unfit 47 = .ok (.invokevirtual 132, 3) := by decide +kernel
theorem dX8_unfit_50 : decode cX8_unfit 50 = .ok (.aload_n 0, 1) := by decide +kernel
theorem dX8_unfit_51 : decode cX8_unfit 51 = .ok (.getfield 19, 3) := by decide +kernel
theorem dX8_unfit_54 : decode cX8_unfit 54 = .ok (.iload 4, 2) := by decide +kernel
theorem dX8_unfit_56 : decode cX8_unfit 56 = .ok (.aload_n 0, 1) := by decide +kernel
theorem dX8_unfit_57 : decode cX8_unfit 57 = .ok (.getfield 58, 3) := by decide +kernel
theorem dX8_unfit_60 : decode cX8_unfit 60 = .ok (.invokevirtual 132, 3) := by decide +kernel
theorem dX8_unfit_63 : decode cX8_unfit 63 = .ok (.aload_n 0, 1) := by decide +kernel
theorem dX8_unfit_64 : decode cX8_unfit 64 = .ok (.getfield 54, 3) := by decide +kernel
theorem dX8_unfit_67 : decode cX8_unfit 67 = .ok (.getfield 126, 3) := by decide +kernel
theorem dX8_unfit_70 : decode cX8_unfit 70 = .ok (.aload_n 0, 1) := by decide +kernel
theorem dX8_unfit_71 : decode cX8_unfit 71 = .ok (.getfield 58, 3) := by decide +kernel
theorem dX8_unfit_74 : decode cX8_unfit 74 = .ok (.getfield 126, 3) := by decide +kernel
theorem dX8_unfit_77 : decode cX8_unfit 77 = .ok (.iand, 1) := by decide +kernel
theorem dX8_unfit_78 : decode cX8_unfit 78 = .ok (.ifCond .eq 5, 3) := by decide +kernel
theorem dX8_unfit_81 : decode cX8_unfit 81 = .ok (.iconst 2, 1) := by decide +kernel
theorem dX8_unfit_82 : decode cX8_unfit 82 = .ok (.ireturn, 1) := by decide +kernel
theorem dX8_unfit_83 : decode cX8_unfit 83 = .ok (.aload_n 0, 1) := by decide +kernel
theorem dX8_unfit_84 : decode cX8_unfit 84 = .ok (.getfield 54, 3) := by decide +kernel
theorem dX8_unfit_87 : decode cX8_unfit 87 = .ok (.aload_n 0, 1) := by decide +kernel
theorem dX8_unfit_88 : decode cX8_unfit 88 = .ok (.getfield 58, 3) := by decide +kernel
theorem dX8_unfit_91 : decode cX8_unfit 91 = .ok (.invokevirtual 136, 3) := by decide +kernel
theorem dX8_unfit_94 : decode cX8_unfit 94 = .ok (.ifCond .eq 5, 3) := by decide +kernel
theorem dX8_unfit_97 : decode cX8_unfit 97 = .ok (.iconst 3, 1) := by decide +kernel
theorem dX8_unfit_98 : decode cX8_unfit 98 = .ok (.ireturn, 1) := by decide +kernel
theorem dX8_unfit_99 : decode cX8_unfit 99 = .ok (.aload_n 0, 1) := by decide +kernel
theorem dX8_unfit_100 : decode cX8_unfit 100 = .ok (.getfield 54, 3) := by decide +kernel
theorem dX8_unfit_103 : decode cX8_unfit 103 = .ok (.aload_n 0, 1) := by decide +kernel
theorem dX8_unfit_104 : decode cX8_unfit 104 = .ok (.getfield 58, 3) := by decide +kernel
theorem dX8_unfit_107 : decode cX8_unfit 107 = .ok (.invokevirtual 140, 3) := by decide +kernel
theorem dX8_unfit_110 : decode cX8_unfit 110 = .ok (.ifCond .ne 5, 3) := by decide +kernel
theorem dX8_unfit_113 : decode cX8_unfit 113 = .ok (.iconst 4, 1) := by decide +kernel
theorem dX8_unfit_114 : decode cX8_unfit 114 = .ok (.ireturn, 1) := by decide +kernel
theorem dX8_unfit_115 : decode cX8_unfit 115 = .ok (.aload_n 0, 1) := by decide +kernel
theorem dX8_unfit_116 : decode cX8_unfit 116 = .ok (.getfield 54, 3) := by decide +kernel
theorem dX8_unfit_119 : decode cX8_unfit 119 = .ok (.aload_n 0, 1) := by decide +kernel
theorem dX8_unfit_120 : decode cX8_unfit 120 = .ok (.getfield 58, 3) := by decide +kernel
theorem dX8_unfit_123 : decode cX8_unfit 123 = .ok (.invokevirtual 143, 3) := by decide +kernel
theorem dX8_unfit_126 : decode cX8_unfit 126 = .ok (.ifCond .eq 5, 3) := by decide +kernel
theorem dX8_unfit_129 : decode cX8_unfit 129 = .ok (.iconst 5, 1) := by decide +kernel
theorem dX8_unfit_130 : decode cX8_unfit 130 = .ok (.ireturn, 1) := by decide +kernel
theorem dX8_unfit_131 : decode cX8_unfit 131 = .ok (.aload_n 0, 1) := by decide +kernel
theorem dX8_unfit_132 : decode cX8_unfit 132 = .ok (.getfield 19, 3) := by decide +kernel
theorem dX8_unfit_135 : decode cX8_unfit 135 = .ok (.getfield 146, 3) := by decide +kernel
theorem dX8_unfit_138 : decode cX8_unfit 138 = .ok (.iload_n 3, 1) := by decide +kernel
theorem dX8_unfit_139 : decode cX8_unfit 139 = .ok (.iaload, 1) := by decide +kernel
theorem dX8_unfit_140 : decode cX8_unfit 140 = .ok (.iconst (-1), 1) := by decide +kernel
theorem dX8_unfit_141 : decode cX8_unfit 141 = .ok (.if_icmp .ne 17, 3) := by decide +kernel
theorem dX8_unfit_144 : decode cX8_unfit 144 = .ok (.aload_n 0, 1) := by decide +kernel
theorem dX8_unfit_145 : decode cX8_unfit 145 = .ok (.getfield 19, 3) := by decide +kernel
theorem dX8_unfit_148 : decode cX8_unfit 148 = .ok (.getfield 146, 3) := by decide +kernel
theorem dX8_unfit_151 : decode cX8_unfit 151 = .ok (.iload 4, 2) := by decide +kernel
theorem dX8_unfit_153 : decode cX8_unfit 153 = .ok (.iaload, 1) := by decide +kernel
theorem dX8_unfit_154 : decode cX8_unfit 154 = .ok (.iconst (-1), 1) := by decide +kernel
theorem dX8_unfit_155 : decode cX8_unfit 155 = .ok (.if_icmp .eq 8, 3) := by decide +kernel
theorem dX8_unfit_158 : decode cX8_unfit 158 = .ok (.bipush 6, 2) := by decide +kernel
theorem dX8_unfit_160 : decode cX8_unfit 160 = .ok (.goto 4, 3) := by decide +kernel
theorem dX8_unfit_163 : decode cX8_unfit 163 = .ok (.iconst 0, 1) := by decide +kernel
theorem dX8_unfit_164 : decode cX8_unfit 164 = .ok (.ireturn, 1) := by decide +kernel
theorem dX8_join_0 : decode cX8_join 0 = .ok (.aload_n 0, 1) := by decide +kernel
theorem dX8_join_1 : decode cX8_join 1 = .ok (.iload_n 1, 1) := by decide +kernel
theorem dX8_join_2 : decode cX8_join 2 = .ok (.iload_n 2, 1) := by decide +kernel
theorem dX8_join_3 : decode cX8_join 3 = .ok (.invokevirtual 149, 3) := by decide +kernel
theorem dX8_join_6 : decode cX8_join 6 = .ok (.ifCond .eq 5, 3) := by decide +kernel
theorem dX8_join_9 : decode cX8_join 9 = .ok (.iconst 0, 1) := by decide +kernel
theorem dX8_join_10 : decode cX8_join 10 = .ok (.ireturn, 1) := by decide +kernel
theorem dX8_join_11 : decode cX8_join 11 = .ok (.aload_n 0, 1) := by decide +kernel
theorem dX8_join_12 : decode cX8_join 12 = .ok (.getfield 19, 3) := by decide +kernel
theorem dX8_join_15 : decode cX8_join 15 = .ok (.aload_n 0, 1) := by decide +kernel
theorem dX8_join_16 : decode cX8_join 16 = .ok (.getfield 19, 3) := by decide +kernel
theorem dX8_join_19 : decode cX8_join 19 = .ok (.iload_n 1, 1) := by decide +kernel
theorem dX8_join_20 : decode cX8_join 20 = .ok (.invokevirtual 129, 3) := by decide +kernel
theorem dX8_join_23 : decode cX8_join 23 = .ok (.aload_n 0, 1) := by decide +kernel
theorem dX8_join_24 : decode cX8_join 24 = .ok (.getfield 19, 3) := by decide +kernel
theorem dX8_join_27 : decode cX8_join 27 = .ok (.iload_n 2, 1) := by decide +kernel
theorem dX8_join_28 : decode cX8_join 28 = .ok (.invokevirtual 129, 3) := by decide +kernel
theorem dX8_join_31 : decode cX8_join 31 = .ok (.invokevirtual 152, 3) := by decide +kernel
theorem dX8_join_34 : decode cX8_join 34 = .ok (.iconst 1, 1) := by decide +kernel
theorem dX8_join_35 : decode cX8_join 35 = .ok (.ireturn, 1) := by decide +kernel
theorem dX8_body_0 : decode cX8_body 0 = .ok (.aload_n 0, 1) := by decide +kernel
theorem dX8_body_1 : decode cX8_body 1 = .ok (.getfield 19, 3) := by decide +kernel
theorem dX8_body_4 : decode cX8_body 4 = .ok (.iload_n 1, 1) := by decide +kernel
theorem dX8_body_5 : decode cX8_body 5 = .ok (.invokevirtual 129, 3) := by decide +kernel
theorem dX8_body_8 : decode cX8_body 8 = .ok (.ireturn, 1) := by decide +kernel
theorem dX8_told_0 : decode cX8_told 0 = .ok (.aload_n 0, 1) := by decide +kernel
theorem dX8_told_1 : decode cX8_told 1 = .ok (.getfield 19, 3) := by decide +kernel
theorem dX8_told_4 : decode cX8_told 4 = .ok (.iload_n 1, 1) := by decide +kernel
theorem dX8_told_5 : decode cX8_told 5 = .ok (.invokevirtual 129, 3) := by decide +kernel
theorem dX8_told_8 : decode cX8_told 8 = .ok (.istore_n 3, 1) := by decide +kernel
theorem dX8_told_9 : decode cX8_told 9 = .ok (.iload_n 3, 1) := by decide +kernel
theorem dX8_told_10 : decode cX8_told 10 = .ok (.iconst (-1), 1) := by decide +kernel
theorem dX8_told_11 : decode cX8_told 11 = .ok (.if_icmp .ne 5, 3) := by decide +kernel
theorem dX8_told_14 : decode cX8_told 14 = .ok (.iconst (-1), 1) := by decide +kernel
theorem dX8_told_15 : decode cX8_told 15 = .ok (.ireturn, 1) := by decide +kernel
theorem dX8_told_16 : decode cX8_told 16 = .ok (.iload_n 2, 1) := by decide +kernel
theorem dX8_told_17 : decode cX8_told 17 = .ok (.iconst 4, 1) := by decide +kernel
theorem dX8_told_18 : decode cX8_told 18 = .ok (.if_icmp .ne 12, 3) := by decide +kernel
theorem dX8_told_21 : decode cX8_told 21 = .ok (.aload_n 0, 1) := by decide +kernel
theorem dX8_told_22 : decode cX8_told 22 = .ok (.getfield 19, 3) := by decide +kernel
theorem dX8_told_25 : decode cX8_told 25 = .ok (.iload_n 3, 1) := by decide +kernel
theorem dX8_told_26 : decode cX8_told 26 = .ok (.invokevirtual 156, 3) := by decide +kernel
theorem dX8_told_29 : decode cX8_told 29 = .ok (.ireturn, 1) := by decide +kernel
theorem dX8_told_30 : decode cX8_told 30 = .ok (.aload_n 0, 1) := by decide +kernel
theorem dX8_told_31 : decode cX8_told 31 = .ok (.getfield 19, 3) := by decide +kernel
theorem dX8_told_34 : decode cX8_told 34 = .ok (.iload_n 3, 1) := by decide +kernel
theorem dX8_told_35 : decode cX8_told 35 = .ok (.aload_n 0, 1) := by decide +kernel
theorem dX8_told_36 : decode cX8_told 36 = .ok (.getfield 54, 3) := by decide +kernel
theorem dX8_told_39 : decode cX8_told 39 = .ok (.invokevirtual 132, 3) := by decide +kernel
theorem dX8_told_42 : decode cX8_told 42 = .ok (.aload_n 0, 1) := by decide +kernel
theorem dX8_told_43 : decode cX8_told 43 = .ok (.getfield 54, 3) := by decide +kernel
theorem dX8_told_46 : decode cX8_told 46 = .ok (.iload_n 2, 1) := by decide +kernel
theorem dX8_told_47 : decode cX8_told 47 = .ok (.invokevirtual 159, 3) := by decide +kernel
theorem dX8_told_50 : decode cX8_told 50 = .ok (.ireturn, 1) := by decide +kernel
theorem dX8_shut_0 : decode cX8_shut 0 = .ok (.aload_n 0, 1) := by decide +kernel
theorem dX8_shut_1 : decode cX8_shut 1 = .ok (.getfield 19, 3) := by decide +kernel
theorem dX8_shut_4 : decode cX8_shut 4 = .ok (.iload_n 1, 1) := by decide +kernel
theorem dX8_shut_5 : decode cX8_shut 5 = .ok (.invokevirtual 129, 3) := by decide +kernel
theorem dX8_shut_8 : decode cX8_shut 8 = .ok (.istore_n 3, 1) := by decide +kernel
theorem dX8_shut_9 : decode cX8_shut 9 = .ok (.aload_n 0, 1) := by decide +kernel
theorem dX8_shut_10 : decode cX8_shut 10 = .ok (.getfield 10, 3) := by decide +kernel
theorem dX8_shut_13 : decode cX8_shut 13 = .ok (.iload_n 2, 1) := by decide +kernel
theorem dX8_shut_14 : decode cX8_shut 14 = .ok (.invokevirtual 118, 3) := by decide +kernel
theorem dX8_shut_17 : decode cX8_shut 17 = .ok (.astore 4, 2) := by decide +kernel
theorem dX8_shut_19 : decode cX8_shut 19 = .ok (.iload_n 3, 1) := by decide +kernel
theorem dX8_shut_20 : decode cX8_shut 20 = .ok (.iconst (-1), 1) := by decide +kernel
theorem dX8_shut_21 : decode cX8_shut 21 = .ok (.if_icmp .eq 8, 3) := by decide +kernel
theorem dX8_shut_24 : decode cX8_shut 24 = .ok (.aload 4, 2) := by decide +kernel
theorem dX8_shut_26 : decode cX8_shut 26 = .ok (.ifnonnull 5, 3) := by decide +kernel
theorem dX8_shut_29 : decode cX8_shut 29 = .ok (.iconst (-1), 1) := by decide +kernel
theorem dX8_shut_30 : decode cX8_shut 30 = .ok (.ireturn, 1) := by decide +kernel
theorem dX8_shut_31 : decode cX8_shut 31 = .ok (.aload_n 0, 1) := by decide +kernel
theorem dX8_shut_32 : decode cX8_shut 32 = .ok (.iload_n 3, 1) := by decide +kernel
theorem dX8_shut_33 : decode cX8_shut 33 = .ok (.aload 4, 2) := by decide +kernel
theorem dX8_shut_35 : decode cX8_shut 35 = .ok (.invokevirtual 162, 3) := by decide +kernel
theorem dX8_shut_38 : decode cX8_shut 38 = .ok (.ireturn, 1) := by decide +kernel
theorem dX8_points_0 : decode cX8_points 0 = .ok (.aload_n 0, 1) := by decide +kernel
theorem dX8_points_1 : decode cX8_points 1 = .ok (.getfield 19, 3) := by decide +kernel
theorem dX8_points_4 : decode cX8_points 4 = .ok (.iload_n 1, 1) := by decide +kernel
theorem dX8_points_5 : decode cX8_points 5 = .ok (.invokevirtual 129, 3) := by decide +kernel
theorem dX8_points_8 : decode cX8_points 8 = .ok (.istore_n 3, 1) := by decide +kernel
theorem dX8_points_9 : decode cX8_points 9 = .ok (.aload_n 0, 1) := by decide +kernel
theorem dX8_points_10 : decode cX8_points 10 = .ok (.getfield 10, 3) := by decide +kernel
theorem dX8_points_13 : decode cX8_points 13 = .ok (.iload_n 2, 1) := by decide +kernel
theorem dX8_points_14 : decode cX8_points 14 = .ok (.invokevirtual 118, 3) := by decide +kernel
theorem dX8_points_17 : decode cX8_points 17 = .ok (.astore 4, 2) := by decide +kernel
theorem dX8_points_19 : decode cX8_points 19 = .ok (.iload_n 3, 1) := by decide +kernel
theorem dX8_points_20 : decode cX8_points 20 = .ok (.iconst (-1), 1) := by decide +kernel
theorem dX8_points_21 : decode cX8_points 21 = .ok (.if_icmp .eq 8, 3) := by decide +kernel
theorem dX8_points_24 : decode cX8_points 24 = .ok (.aload 4, 2) := by decide +kernel
theorem dX8_points_26 : decode cX8_points 26 = .ok (.ifnonnull 5, 3) := by decide +kernel
theorem dX8_points_29 : decode cX8_points 29 = .ok (.iconst (-1), 1) := by decide +kernel
theorem dX8_points_30 : decode cX8_points 30 = .ok (.ireturn, 1) := by decide +kernel
theorem dX8_points_31 : decode cX8_points 31 = .ok (.aload_n 0, 1) := by decide +kernel
theorem dX8_points_32 : decode cX8_points 32 = .ok (.getfield 19, 3) := by decide +kernel
theorem dX8_points_35 : decode cX8_points 35 = .ok (.iload_n 3, 1) := by decide +kernel
theorem dX8_points_36 : decode cX8_points 36 = .ok (.aload_n 0, 1) := by decide +kernel
theorem dX8_points_37 : decode cX8_points 37 = .ok (.getfield 54, 3) := by decide +kernel
theorem dX8_points_40 : decode cX8_points 40 = .ok (.invokevirtual 132, 3) := by decide +kernel
theorem dX8_points_43 : decode cX8_points 43 = .ok (.aload_n 0, 1) := by decide +kernel
theorem dX8_points_44 : decode cX8_points 44 = .ok (.getfield 64, 3) := by decide +kernel
theorem dX8_points_47 : decode cX8_points 47 = .ok (.aload_n 0, 1) := by decide +kernel
theorem dX8_points_48 : decode cX8_points 48 = .ok (.getfield 54, 3) := by decide +kernel
theorem dX8_points_51 : decode cX8_points 51 = .ok (.aload 4, 2) := by decide +kernel
theorem dX8_points_53 : decode cX8_points 53 = .ok (.invokevirtual 166, 3) := by decide +kernel
theorem dX8_points_56 : decode cX8_points 56 = .ok (.ireturn, 1) := by decide +kernel
theorem dX8_pairing_0 : decode cX8_pairing 0 = .ok (.aload_n 0, 1) := by decide +kernel
theorem dX8_pairing_1 : decode cX8_pairing 1 = .ok (.getfield 19, 3) := by decide +kernel
theorem dX8_pairing_4 : decode cX8_pairing 4 = .ok (.iload_n 1, 1) := by decide +kernel
theorem dX8_pairing_5 : decode cX8_pairing 5 = .ok (.invokevirtual 129, 3) := by decide +kernel
theorem dX8_pairing_8 : decode cX8_pairing 8 = .ok (.istore_n 2, 1) := by decide +kernel
theorem dX8_pairing_9 : decode cX8_pairing 9 = .ok (.iload_n 1, 1) := by decide +kernel
theorem dX8_pairing_10 : decode cX8_pairing 10 = .ok (.iconst (-1), 1) := by decide +kernel
theorem dX8_pairing_11 : decode cX8_pairing 11 = .ok (.if_icmp .eq 11, 3) := by decide +kernel
theorem dX8_pairing_14 : decode cX8_pairing 14 = .ok (.iload_n 2, 1) := by decide +kernel
theorem dX8_pairing_15 : decode cX8_pairing 15 = .ok (.iconst (-1), 1) := by decide +kernel
theorem dX8_pairing_16 : decode cX8_pairing 16 = .ok (.if_icmp .ne 6, 3) := by decide +kernel
theorem dX8_pairing_19 : decode cX8_pairing 19 = .ok (.ldc 170, 2) := by decide +kernel
theorem dX8_pairing_21 : decode cX8_pairing 21 = .ok (.ireturn, 1) := by decide +kernel
theorem dX8_pairing_22 : decode cX8_pairing 22 = .ok (.aload_n 0, 1) := by decide +kernel
theorem dX8_pairing_23 : decode cX8_pairing 23 = .ok (.invokevirtual 171, 3) := by decide +kernel
theorem dX8_pairing_26 : decode cX8_pairing 26 = .ok (.iload_n 2, 1) := by decide +kernel
theorem dX8_pairing_27 : decode cX8_pairing 27 = .ok (.iconst (-1), 1) := by decide +kernel
theorem dX8_pairing_28 : decode cX8_pairing 28 = .ok (.if_icmp .ne 13, 3) := by decide +kernel
theorem dX8_pairing_31 : decode cX8_pairing 31 = .ok (.aload_n 0, 1) := by decide +kernel
theorem dX8_pairing_32 : decode cX8_pairing 32 = .ok (.getfield 33, 3) := by decide +kernel
theorem dX8_pairing_35 : decode cX8_pairing 35 = .ok (.getfield 174, 3) := by decide +kernel
theorem dX8_pairing_38 : decode cX8_pairing 38 = .ok (.goto 12, 3) := by decide +kernel
theorem dX8_pairing_41 : decode cX8_pairing 41 = .ok (.aload_n 0, 1) := by decide +kernel
theorem dX8_pairing_42 : decode cX8_pairing 42 = .ok (.getfield 33, 3) := by decide +kernel
theorem dX8_pairing_45 : decode cX8_pairing 45 = .ok (.getfield 177, 3) := by decide +kernel
theorem dX8_pairing_48 : decode cX8_pairing 48 = .ok (.iload_n 2, 1) := by decide +kernel
theorem dX8_pairing_49 : decode cX8_pairing 49 = .ok (.iaload, 1) := by decide +kernel
theorem dX8_pairing_50 : decode cX8_pairing 50 = .ok (.ireturn, 1) := by decide +kernel
theorem dX8_margin_0 : decode cX8_margin 0 = .ok (.aload_n 0, 1) := by decide +kernel
theorem dX8_margin_1 : decode cX8_margin 1 = .ok (.getfield 19, 3) := by decide +kernel
theorem dX8_margin_4 : decode cX8_margin 4 = .ok (.iload_n 1, 1) := by decide +kernel
theorem dX8_margin_5 : decode cX8_margin 5 = .ok (.invokevirtual 129, 3) := by decide +kernel
theorem dX8_margin_8 : decode cX8_margin 8 = .ok (.istore_n 2, 1) := by decide +kernel
theorem dX8_margin_9 : decode cX8_margin 9 = .ok (.iload_n 2, 1) := by decide +kernel
theorem dX8_margin_10 : decode cX8_margin 10 = .ok (.iconst (-1), 1) := by decide +kernel
theorem dX8_margin_11 : decode cX8_margin 11 = .ok (.if_icmp .eq 16, 3) := by decide +kernel
theorem dX8_margin_14 : decode cX8_margin 14 = .ok (.aload_n 0, 1) := by decide +kernel
theorem dX8_margin_15 : decode cX8_margin 15 = .ok (.getfield 19, 3) := by decide +kernel
theorem dX8_margin_18 : decode cX8_margin 18 = .ok (.getfield 146, 3) := by decide +kernel
theorem dX8_margin_21 : decode cX8_margin 21 = .ok (.iload_n 2, 1) := by decide +kernel
theorem dX8_margin_22 : decode cX8_margin 22 = .ok (.iaload, 1) := by decide +kernel
theorem dX8_margin_23 : decode cX8_margin 23 = .ok (.iconst (-1), 1) := by decide +kernel
theorem dX8_margin_24 : decode cX8_margin 24 = .ok (.if_icmp .eq 5, 3) := by decide +kernel
theorem dX8_margin_27 : decode cX8_margin 27 = .ok (.iconst (-1), 1) := by decide +kernel
theorem dX8_margin_28 : decode cX8_margin 28 = .ok (.ireturn, 1) := by decide +kernel
theorem dX8_margin_29 : decode cX8_margin 29 = .ok (.aload_n 0, 1) := by decide +kernel
theorem dX8_margin_30 : decode cX8_margin 30 = .ok (.invokevirtual 171, 3) := by decide +kernel
theorem dX8_margin_33 : decode cX8_margin 33 = .ok (.aload_n 0, 1) := by decide +kernel
theorem dX8_margin_34 : decode cX8_margin 34 = .ok (.getfield 33, 3) := by decide +kernel
theorem dX8_margin_37 : decode cX8_margin 37 = .ok (.getfield 177, 3) := by decide +kernel
theorem dX8_margin_40 : decode cX8_margin 40 = .ok (.iload_n 2, 1) := by decide +kernel
theorem dX8_margin_41 : decode cX8_margin 41 = .ok (.iaload, 1) := by decide +kernel
theorem dX8_margin_42 : decode cX8_margin 42 = .ok (.iconst (-1), 1) := by decide +kernel
theorem dX8_margin_43 : decode cX8_margin 43 = .ok (.if_icmp .ne 7, 3) := by decide +kernel
theorem dX8_margin_46 : decode cX8_margin 46 = .ok (.iconst (-1), 1) := by decide +kernel
theorem dX8_margin_47 : decode cX8_margin 47 = .ok (.goto 11, 3) := by decide +kernel
theorem dX8_margin_50 : decode cX8_margin 50 = .ok (.aload_n 0, 1) := by decide +kernel
theorem dX8_margin_51 : decode cX8_margin 51 = .ok (.getfield 33, 3) := by decide +kernel
theorem dX8_margin_54 : decode cX8_margin 54 = .ok (.iload_n 2, 1) := by decide +kernel
theorem dX8_margin_55 : decode cX8_margin 55 = .ok (.invokevirtual 180, 3) := by decide +kernel
theorem dX8_margin_58 : decode cX8_margin 58 = .ok (.ireturn, 1) := by decide +kernel
theorem dX8_seal_0 : decode cX8_seal 0 = .ok (.aload_n 0, 1) := by decide +kernel
theorem dX8_seal_1 : decode cX8_seal 1 = .ok (.getfield 19, 3) := by decide +kernel
theorem dX8_seal_4 : decode cX8_seal 4 = .ok (.iload_n 1, 1) := by decide +kernel
theorem dX8_seal_5 : decode cX8_seal 5 = .ok (.invokevirtual 129, 3) := by decide +kernel
theorem dX8_seal_8 : decode cX8_seal 8 = .ok (.istore 4, 2) := by decide +kernel
theorem dX8_seal_10 : decode cX8_seal 10 = .ok (.iload 4, 2) := by decide +kernel
theorem dX8_seal_12 : decode cX8_seal 12 = .ok (.iconst (-1), 1) := by decide +kernel
theorem dX8_seal_13 : decode cX8_seal 13 = .ok (.if_icmp .eq 24, 3) := by decide +kernel
theorem dX8_seal_16 : decode cX8_seal 16 = .ok (.aload_n 0, 1) := by decide +kernel
theorem dX8_seal_17 : decode cX8_seal 17 = .ok (.getfield 10, 3) := by decide +kernel
theorem dX8_seal_20 : decode cX8_seal 20 = .ok (.iload_n 2, 1) := by decide +kernel
theorem dX8_seal_21 : decode cX8_seal 21 = .ok (.invokevirtual 118, 3) := by decide +kernel
theorem dX8_seal_24 : decode cX8_seal 24 = .ok (.ifnull 13, 3) := by decide +kernel
theorem dX8_seal_27 : decode cX8_seal 27 = .ok (.iload_n 3, 1) := by decide +kernel
theorem dX8_seal_28 : decode cX8_seal 28 = .ok (.iconst 0, 1) := by decide +kernel
theorem dX8_seal_29 : decode cX8_seal 29 = .ok (.bipush 9, 2) := by decide +kernel
theorem dX8_seal_31 : decode cX8_seal 31 = .ok (.invokestatic 82, 3) := by decide +kernel
theorem dX8_seal_34 : decode cX8_seal 34 = .ok (.ifCond .ne 5, 3) := by decide +kernel
theorem dX8_seal_37 : decode cX8_seal 37 = .ok (.iconst (-1), 1) := by decide +kernel
theorem dX8_seal_38 : decode cX8_seal 38 = .ok (.ireturn, 1) := by decide +kernel
theorem dX8_seal_39 : decode cX8_seal 39 = .ok (.aload_n 0, 1) := by decide +kernel
theorem dX8_seal_40 : decode cX8_seal 40 = .ok (.getfield 26, 3) := by decide +kernel
theorem dX8_seal_43 : decode cX8_seal 43 = .ok (.iload 4, 2) := by decide +kernel
theorem dX8_seal_45 : decode cX8_seal 45 = .ok (.iload_n 2, 1) := by decide +kernel
theorem dX8_seal_46 : decode cX8_seal 46 = .ok (.iload_n 3, 1) := by decide +kernel
theorem dX8_seal_47 : decode cX8_seal 47 = .ok (.invokevirtual 183, 3) := by decide +kernel
theorem dX8_seal_50 : decode cX8_seal 50 = .ok (.ifCond .eq 6, 3) := by decide +kernel
theorem dX8_seal_53 : decode cX8_seal 53 = .ok (.bipush (-2), 2) := by decide +kernel
theorem dX8_seal_55 : decode cX8_seal 55 = .ok (.ireturn, 1) := by decide +kernel
theorem dX8_seal_56 : decode cX8_seal 56 = .ok (.aload_n 0, 1) := by decide +kernel
theorem dX8_seal_57 : decode cX8_seal 57 = .ok (.getfield 26, 3) := by decide +kernel
theorem dX8_seal_60 : decode cX8_seal 60 = .ok (.iload 4, 2) := by decide +kernel
theorem dX8_seal_62 : decode cX8_seal 62 = .ok (.iload_n 2, 1) := by decide +kernel
theorem dX8_seal_63 : decode cX8_seal 63 = .ok (.iload_n 3, 1) := by decide +kernel
theorem dX8_seal_64 : decode cX8_seal 64 = .ok (.invokevirtual 186, 3) := by decide +kernel
theorem dX8_seal_67 : decode cX8_seal 67 = .ok (.ifCond .ne 6, 3) := by decide +kernel
theorem dX8_seal_70 : decode cX8_seal 70 = .ok (.bipush (-3), 2) := by decide +kernel
theorem dX8_seal_72 : decode cX8_seal 72 = .ok (.ireturn, 1) := by decide +kernel
theorem dX8_seal_73 : decode cX8_seal 73 = .ok (.aload_n 0, 1) := by decide +kernel
theorem dX8_seal_74 : decode cX8_seal 74 = .ok (.getfield 26, 3) := by decide +kernel
theorem dX8_seal_77 : decode cX8_seal 77 = .ok (.iload 4, 2) := by decide +kernel
theorem dX8_seal_79 : decode cX8_seal 79 = .ok (.iload_n 2, 1) := by decide +kernel
theorem dX8_seal_80 : decode cX8_seal 80 = .ok (.invokevirtual 189, 3) := by decide +kernel
theorem dX8_seal_83 : decode cX8_seal 83 = .ok (.ireturn, 1) := by decide +kernel
theorem dX8_give_0 : decode cX8_give 0 = .ok (.aload_n 0, 1) := by decide +kernel
theorem dX8_give_1 : decode cX8_give 1 = .ok (.getfield 19, 3) := by decide +kernel
theorem dX8_give_4 : decode cX8_give 4 = .ok (.iload_n 1, 1) := by decide +kernel
theorem dX8_give_5 : decode cX8_give 5 = .ok (.invokevirtual 129, 3) := by decide +kernel
theorem dX8_give_8 : decode cX8_give 8 = .ok (.istore_n 2, 1) := by decide +kernel
theorem dX8_give_9 : decode cX8_give 9 = .ok (.iload_n 2, 1) := by decide +kernel
theorem dX8_give_10 : decode cX8_give 10 = .ok (.iconst (-1), 1) := by decide +kernel
theorem dX8_give_11 : decode cX8_give 11 = .ok (.if_icmp .eq 16, 3) := by decide +kernel
theorem dX8_give_14 : decode cX8_give 14 = .ok (.aload_n 0, 1) := by decide +kernel
theorem dX8_give_15 : decode cX8_give 15 = .ok (.getfield 19, 3) := by decide +kernel
theorem dX8_give_18 : decode cX8_give 18 = .ok (.getfield 146, 3) := by decide +kernel
theorem dX8_give_21 : decode cX8_give 21 = .ok (.iload_n 2, 1) := by decide +kernel
theorem dX8_give_22 : decode cX8_give 22 = .ok (.iaload, 1) := by decide +kernel
theorem dX8_give_23 : decode cX8_give 23 = .ok (.iconst (-1), 1) := by decide +kernel
theorem dX8_give_24 : decode cX8_give 24 = .ok (.if_icmp .eq 6, 3) := by decide +kernel
theorem dX8_give_27 : decode cX8_give 27 = .ok (.bipush (-2), 2) := by decide +kernel
theorem dX8_give_29 : decode cX8_give 29 = .ok (.ireturn, 1) := by decide +kernel
theorem dX8_give_30 : decode cX8_give 30 = .ok (.aload_n 0, 1) := by decide +kernel
theorem dX8_give_31 : decode cX8_give 31 = .ok (.invokevirtual 171, 3) := by decide +kernel
theorem dX8_give_34 : decode cX8_give 34 = .ok (.aload_n 0, 1) := by decide +kernel
theorem dX8_give_35 : decode cX8_give 35 = .ok (.getfield 33, 3) := by decide +kernel
theorem dX8_give_38 : decode cX8_give 38 = .ok (.getfield 177, 3) := by decide +kernel
theorem dX8_give_41 : decode cX8_give 41 = .ok (.iload_n 2, 1) := by decide +kernel
theorem dX8_give_42 : decode cX8_give 42 = .ok (.iaload, 1) := by decide +kernel
theorem dX8_give_43 : decode cX8_give 43 = .ok (.istore_n 3, 1) := by decide +kernel
theorem dX8_give_44 : decode cX8_give 44 = .ok (.iload_n 3, 1) := by decide +kernel
theorem dX8_give_45 : decode cX8_give 45 = .ok (.iconst (-1), 1) := by decide +kernel
theorem dX8_give_46 : decode cX8_give 46 = .ok (.if_icmp .ne 6, 3) := by decide +kernel
theorem dX8_give_49 : decode cX8_give 49 = .ok (.bipush (-3), 2) := by decide +kernel
theorem dX8_give_51 : decode cX8_give 51 = .ok (.ireturn, 1) := by decide +kernel
theorem dX8_give_52 : decode cX8_give 52 = .ok (.aload_n 0, 1) := by decide +kernel
theorem dX8_give_53 : decode cX8_give 53 = .ok (.getfield 33, 3) := by decide +kernel
theorem dX8_give_56 : decode cX8_give 56 = .ok (.getfield 192, 3) := by decide +kernel
theorem dX8_give_59 : decode cX8_give 59 = .ok (.iload_n 2, 1) := by decide +kernel
theorem dX8_give_60 : decode cX8_give 60 = .ok (.aaload, 1) := by decide +kernel
theorem dX8_give_61 : decode cX8_give 61 = .ok (.iload_n 3, 1) := by decide +kernel
theorem dX8_give_62 : decode cX8_give 62 = .ok (.iaload, 1) := by decide +kernel
theorem dX8_give_63 : decode cX8_give 63 = .ok (.aload_n 0, 1) := by decide +kernel
theorem dX8_give_64 : decode cX8_give 64 = .ok (.getfield 64, 3) := by decide +kernel
theorem dX8_give_67 : decode cX8_give 67 = .ok (.getfield 196, 3) := by decide +kernel
theorem dX8_give_70 : decode cX8_give 70 = .ok (.iconst 1, 1) := by decide +kernel
theorem dX8_give_71 : decode cX8_give 71 = .ok (.iaload, 1) := by decide +kernel
theorem dX8_give_72 : decode cX8_give 72 = .ok (.if_icmp .ge 6, 3) := by decide +kernel
theorem dX8_give_75 : decode cX8_give 75 = .ok (.bipush (-4), 2) := by decide +kernel
theorem dX8_give_77 : decode cX8_give 77 = .ok (.ireturn, 1) := by decide +kernel
theorem dX8_give_78 : decode cX8_give 78 = .ok (.aload_n 0, 1) := by decide +kernel
theorem dX8_give_79 : decode cX8_give 79 = .ok (.getfield 33, 3) := by decide +kernel
theorem dX8_give_82 : decode cX8_give 82 = .ok (.iload_n 2, 1) := by decide +kernel
theorem dX8_give_83 : decode cX8_give 83 = .ok (.invokevirtual 180, 3) := by decide +kernel
theorem dX8_give_86 : decode cX8_give 86 = .ok (.aload_n 0, 1) := by decide +kernel
theorem dX8_give_87 : decode cX8_give 87 = .ok (.getfield 64, 3) := by decide +kernel
theorem dX8_give_90 : decode cX8_give 90 = .ok (.getfield 196, 3) := by decide +kernel
theorem dX8_give_93 : decode cX8_give 93 = .ok (.iconst 2, 1) := by decide +kernel
theorem dX8_give_94 : decode cX8_give 94 = .ok (.iaload, 1) := by decide +kernel
theorem dX8_give_95 : decode cX8_give 95 = .ok (.if_icmp .ge 6, 3) := by decide +kernel
theorem dX8_give_98 : decode cX8_give 98 = .ok (.bipush (-5), 2) := by decide +kernel
theorem dX8_give_100 : decode cX8_give 100 = .ok (.ireturn, 1) := by decide +kernel
theorem dX8_give_101 : decode cX8_give 101 = .ok (.aload_n 0, 1) := by decide +kernel
theorem dX8_give_102 : decode cX8_give 102 = .ok (.getfield 26, 3) := by decide +kernel
theorem dX8_give_105 : decode cX8_give 105 = .ok (.iload_n 2, 1) := by decide +kernel
theorem dX8_give_106 : decode cX8_give 106 = .ok (.iload_n 3, 1) := by decide +kernel
theorem dX8_give_107 : decode cX8_give 107 = .ok (.invokevirtual 189, 3) := by decide +kernel
theorem dX8_give_110 : decode cX8_give 110 = .ok (.aload_n 0, 1) := by decide +kernel
theorem dX8_give_111 : decode cX8_give 111 = .ok (.getfield 64, 3) := by decide +kernel
theorem dX8_give_114 : decode cX8_give 114 = .ok (.getfield 196, 3) := by decide +kernel
theorem dX8_give_117 : decode cX8_give 117 = .ok (.iconst 3, 1) := by decide +kernel
theorem dX8_give_118 : decode cX8_give 118 = .ok (.iaload, 1) := by decide +kernel
theorem dX8_give_119 : decode cX8_give 119 = .ok (.if_icmp .ge 6, 3) := by decide +kernel
theorem dX8_give_122 : decode cX8_give 122 = .ok (.bipush (-6), 2) := by decide +kernel
theorem dX8_give_124 : decode cX8_give 124 = .ok (.ireturn, 1) := by decide +kernel
theorem dX8_give_125 : decode cX8_give 125 = .ok (.aload_n 0, 1) := by decide +kernel
theorem dX8_give_126 : decode cX8_give 126 = .ok (.getfield 19, 3) := by decide +kernel
theorem dX8_give_129 : decode cX8_give 129 = .ok (.getfield 146, 3) := by decide +kernel
theorem dX8_give_132 : decode cX8_give 132 = .ok (.iload_n 2, 1) := by decide +kernel
theorem dX8_give_133 : decode cX8_give 133 = .ok (.iload_n 3, 1) := by decide +kernel
theorem dX8_give_134 : decode cX8_give 134 = .ok (.iastore, 1) := by decide +kernel
theorem dX8_give_135 : decode cX8_give 135 = .ok (.iload_n 3, 1) := by decide +kernel
theorem dX8_give_136 : decode cX8_give 136 = .ok (.ireturn, 1) := by decide +kernel
theorem dX8_named_0 : decode cX8_named 0 = .ok (.aload_n 0, 1) := by decide +kernel
theorem dX8_named_1 : decode cX8_named 1 = .ok (.getfield 19, 3) := by decide +kernel
theorem dX8_named_4 : decode cX8_named 4 = .ok (.iload_n 1, 1) := by decide +kernel
theorem dX8_named_5 : decode cX8_named 5 = .ok (.invokevirtual 129, 3) := by decide +kernel
theorem dX8_named_8 : decode cX8_named 8 = .ok (.istore_n 3, 1) := by decide +kernel
theorem dX8_named_9 : decode cX8_named 9 = .ok (.iload_n 3, 1) := by decide +kernel
theorem dX8_named_10 : decode cX8_named 10 = .ok (.iconst (-1), 1) := by decide +kernel
theorem dX8_named_11 : decode cX8_named 11 = .ok (.if_icmp .eq 12, 3) := by decide +kernel
theorem dX8_named_14 : decode cX8_named 14 = .ok (.iload_n 2, 1) := by decide +kernel
theorem dX8_named_15 : decode cX8_named 15 = .ok (.iconst 0, 1) := by decide +kernel
theorem dX8_named_16 : decode cX8_named 16 = .ok (.iconst 1, 1) := by decide +kernel
theorem dX8_named_17 : decode cX8_named 17 = .ok (.invokestatic 82, 3) := by decide +kernel
theorem dX8_named_20 : decode cX8_named 20 = .ok (.ifCond .ne 5, 3) := by decide +kernel
theorem dX8_named_23 : decode cX8_named 23 = .ok (.iconst (-1), 1) := by decide +kernel
theorem dX8_named_24 : decode cX8_named 24 = .ok (.ireturn, 1) := by decide +kernel
theorem dX8_named_25 : decode cX8_named 25 = .ok (.iload_n 2, 1) := by decide +kernel
theorem dX8_named_26 : decode cX8_named 26 = .ok (.ifCond .ne 13, 3) := by decide +kernel
theorem dX8_named_29 : decode cX8_named 29 = .ok (.aload_n 0, 1) := by decide +kernel
theorem dX8_named_30 : decode cX8_named 30 = .ok (.getfield 19, 3) := by decide +kernel
theorem dX8_named_33 : decode cX8_named 33 = .ok (.getfield 146, 3) := by decide +kernel
theorem dX8_named_36 : decode cX8_named 36 = .ok (.iload_n 3, 1) := by decide +kernel
theorem dX8_named_37 : decode cX8_named 37 = .ok (.iaload, 1) := by decide +kernel
theorem dX8_named_38 : decode cX8_named 38 = .ok (.ireturn, 1) := by decide +kernel
theorem dX8_named_39 : decode cX8_named 39 = .ok (.aload_n 0, 1) := by decide +kernel
theorem dX8_named_40 : decode cX8_named 40 = .ok (.iload_n 3, 1) := by decide +kernel
theorem dX8_named_41 : decode cX8_named 41 = .ok (.invokevirtual 199, 3) := by decide +kernel
theorem dX8_named_44 : decode cX8_named 44 = .ok (.ifCond .eq 7, 3) := by decide +kernel
theorem dX8_named_47 : decode cX8_named 47 = .ok (.iconst 1, 1) := by decide +kernel
theorem dX8_named_48 : decode cX8_named 48 = .ok (.goto 4, 3) := by decide +kernel
theorem dX8_named_51 : decode cX8_named 51 = .ok (.iconst 0, 1) := by decide +kernel
theorem dX8_named_52 : decode cX8_named 52 = .ok (.ireturn, 1) := by decide +kernel
theorem dX8_unname_0 : decode cX8_unname 0 = .ok (.aload_n 0, 1) := by decide +kernel
theorem dX8_unname_1 : decode cX8_unname 1 = .ok (.getfield 19, 3) := by decide +kernel
theorem dX8_unname_4 : decode cX8_unname 4 = .ok (.iload_n 1, 1) := by decide +kernel
theorem dX8_unname_5 : decode cX8_unname 5 = .ok (.invokevirtual 129, 3) := by decide +kernel
theorem dX8_unname_8 : decode cX8_unname 8 = .ok (.istore_n 2, 1) := by decide +kernel
theorem dX8_unname_9 : decode cX8_unname 9 = .ok (.iload_n 2, 1) := by decide +kernel
theorem dX8_unname_10 : decode cX8_unname 10 = .ok (.iconst (-1), 1) := by decide +kernel
theorem dX8_unname_11 : decode cX8_unname 11 = .ok (.if_icmp .eq 11, 3) := by decide +kernel
theorem dX8_unname_14 : decode cX8_unname 14 = .ok (.aload_n 0, 1) := by decide +kernel
theorem dX8_unname_15 : decode cX8_unname 15 = .ok (.iload_n 2, 1) := by decide +kernel
theorem dX8_unname_16 : decode cX8_unname 16 = .ok (.invokevirtual 199, 3) := by decide +kernel
theorem dX8_unname_19 : decode cX8_unname 19 = .ok (.ifCond .ne 5, 3) := by decide +kernel
theorem dX8_unname_22 : decode cX8_unname 22 = .ok (.iconst 0, 1) := by decide +kernel
theorem dX8_unname_23 : decode cX8_unname 23 = .ok (.ireturn, 1) := by decide +kernel
theorem dX8_unname_24 : decode cX8_unname 24 = .ok (.aload_n 0, 1) := by decide +kernel
theorem dX8_unname_25 : decode cX8_unname 25 = .ok (.getfield 19, 3) := by decide +kernel
theorem dX8_unname_28 : decode cX8_unname 28 = .ok (.getfield 146, 3) := by decide +kernel
theorem dX8_unname_31 : decode cX8_unname 31 = .ok (.iload_n 2, 1) := by decide +kernel
theorem dX8_unname_32 : decode cX8_unname 32 = .ok (.iconst (-1), 1) := by decide +kernel
theorem dX8_unname_33 : decode cX8_unname 33 = .ok (.iastore, 1) := by decide +kernel
theorem dX8_unname_34 : decode cX8_unname 34 = .ok (.iconst 1, 1) := by decide +kernel
theorem dX8_unname_35 : decode cX8_unname 35 = .ok (.ireturn, 1) := by decide +kernel
theorem dX8_feed_0 : decode cX8_feed 0 = .ok (.aload_n 0, 1) := by decide +kernel
theorem dX8_feed_1 : decode cX8_feed 1 = .ok (.getfield 40, 3) := by decide +kernel
theorem dX8_feed_4 : decode cX8_feed 4 = .ok (.bipush 20, 2) := by decide +kernel
theorem dX8_feed_6 : decode cX8_feed 6 = .ok (.invokevirtual 203, 3) := by decide +kernel
theorem dX8_feed_9 : decode cX8_feed 9 = .ok (.ifCond .ne 5, 3) := by decide +kernel
theorem dX8_feed_12 : decode cX8_feed 12 = .ok (.iconst (-1), 1) := by decide +kernel
theorem dX8_feed_13 : decode cX8_feed 13 = .ok (.ireturn, 1) := by decide +kernel
theorem dX8_feed_14 : decode cX8_feed 14 = .ok (.aload_n 0, 1) := by decide +kernel
theorem dX8_feed_15 : decode cX8_feed 15 = .ok (.getfield 40, 3) := by decide +kernel
theorem dX8_feed_18 : decode cX8_feed 18 = .ok (.iload_n 1, 1) := by decide +kernel
theorem dX8_feed_19 : decode cX8_feed 19 = .ok (.invokevirtual 206, 3) := by decide +kernel
theorem dX8_feed_22 : decode cX8_feed 22 = .ok (.aload_n 0, 1) := by decide +kernel
theorem dX8_feed_23 : decode cX8_feed 23 = .ok (.getfield 40, 3) := by decide +kernel
theorem dX8_feed_26 : decode cX8_feed 26 = .ok (.iload_n 2, 1) := by decide +kernel
theorem dX8_feed_27 : decode cX8_feed 27 = .ok (.invokevirtual 206, 3) := by decide +kernel
theorem dX8_feed_30 : decode cX8_feed 30 = .ok (.aload_n 0, 1) := by decide +kernel
theorem dX8_feed_31 : decode cX8_feed 31 = .ok (.getfield 40, 3) := by decide +kernel
theorem dX8_feed_34 : decode cX8_feed 34 = .ok (.iload_n 3, 1) := by decide +kernel
theorem dX8_feed_35 : decode cX8_feed 35 = .ok (.invokevirtual 206, 3) := by decide +kernel
theorem dX8_feed_38 : decode cX8_feed 38 = .ok (.aload_n 0, 1) := by decide +kernel
theorem dX8_feed_39 : decode cX8_feed 39 = .ok (.getfield 40, 3) := by decide +kernel
theorem dX8_feed_42 : decode cX8_feed 42 = .ok (.iload 4, 2) := by decide +kernel
theorem dX8_feed_44 : decode cX8_feed 44 = .ok (.invokevirtual 206, 3) := by decide +kernel
theorem dX8_feed_47 : decode cX8_feed 47 = .ok (.aload_n 0, 1) := by decide +kernel
theorem dX8_feed_48 : decode cX8_feed 48 = .ok (.getfield 40, 3) := by decide +kernel
theorem dX8_feed_51 : decode cX8_feed 51 = .ok (.iload 5, 2) := by decide +kernel
theorem dX8_feed_53 : decode cX8_feed 53 = .ok (.invokevirtual 206, 3) := by decide +kernel
theorem dX8_feed_56 : decode cX8_feed 56 = .ok (.aload_n 0, 1) := by decide +kernel
theorem dX8_feed_57 : decode cX8_feed 57 = .ok (.getfield 40, 3) := by decide +kernel
theorem dX8_feed_60 : decode cX8_feed 60 = .ok (.getfield 209, 3) := by decide +kernel
theorem dX8_feed_63 : decode cX8_feed 63 = .ok (.ireturn, 1) := by decide +kernel
theorem dX8_law_0 : decode cX8_law 0 = .ok (.iload_n 1, 1) := by decide +kernel
theorem dX8_law_1 : decode cX8_law 1 = .ok (.ifCond .lt 14, 3) := by decide +kernel
theorem dX8_law_4 : decode cX8_law 4 = .ok (.iload_n 1, 1) := by decide +kernel
theorem dX8_law_5 : decode cX8_law 5 = .ok (.aload_n 0, 1) := by decide +kernel
theorem dX8_law_6 : decode cX8_law 6 = .ok (.getfield 40, 3) := by decide +kernel
theorem dX8_law_9 : decode cX8_law 9 = .ok (.getfield 209, 3) := by decide +kernel
theorem dX8_law_12 : decode cX8_law 12 = .ok (.if_icmp .le 6, 3) := by decide +kernel
theorem dX8_law_15 : decode cX8_law 15 = .ok (.bipush (-2), 2) := by decide +kernel
theorem dX8_law_17 : decode cX8_law 17 = .ok (.ireturn, 1) := by decide +kernel
theorem dX8_law_18 : decode cX8_law 18 = .ok (.aload_n 0, 1) := by decide +kernel
theorem dX8_law_19 : decode cX8_law 19 = .ok (.getfield 47, 3) := by decide +kernel
theorem dX8_law_22 : decode cX8_law 22 = .ok (.aload_n 0, 1) := by decide +kernel
theorem dX8_law_23 : decode cX8_law 23 = .ok (.getfield 40, 3) := by decide +kernel
theorem dX8_law_26 : decode cX8_law 26 = .ok (.getfield 212, 3) := by decide +kernel
theorem dX8_law_29 : decode cX8_law 29 = .ok (.iload_n 1, 1) := by decide +kernel
theorem dX8_law_30 : decode cX8_law 30 = .ok (.aload_n 0, 1) := by decide +kernel
theorem dX8_law_31 : decode cX8_law 31 = .ok (.getfield 68, 3) := by decide +kernel
theorem dX8_law_34 : decode cX8_law 34 = .ok (.invokevirtual 216, 3) := by decide +kernel
theorem dX8_law_37 : decode cX8_law 37 = .ok (.istore_n 2, 1) := by decide +kernel
theorem dX8_law_38 : decode cX8_law 38 = .ok (.aload_n 0, 1) := by decide +kernel
theorem dX8_law_39 : decode cX8_law 39 = .ok (.getfield 40, 3) := by decide +kernel
theorem dX8_law_42 : decode cX8_law 42 = .ok (.iconst 0, 1) := by decide +kernel
theorem dX8_law_43 : decode cX8_law 43 = .ok (.putfield 209, 3) := by decide +kernel
theorem dX8_law_46 : decode cX8_law 46 = .ok (.iload_n 2, 1) := by decide +kernel
theorem dX8_law_47 : decode cX8_law 47 = .ok (.iconst (-1), 1) := by decide +kernel
theorem dX8_law_48 : decode cX8_law 48 = .ok (.if_icmp .eq 21, 3) := by decide +kernel
theorem dX8_law_51 : decode cX8_law 51 = .ok (.aload_n 0, 1) := by decide +kernel
theorem dX8_law_52 : decode cX8_law 52 = .ok (.getfield 64, 3) := by decide +kernel
theorem dX8_law_55 : decode cX8_law 55 = .ok (.astore_n 3, 1) := by decide +kernel
theorem dX8_law_56 : decode cX8_law 56 = .ok (.aload_n 0, 1) := by decide +kernel
theorem dX8_law_57 : decode cX8_law 57 = .ok (.aload_n 0, 1) := by decide +kernel
theorem dX8_law_58 : decode cX8_law 58 = .ok (.getfield 68, 3) := by decide +kernel
theorem dX8_law_61 : decode cX8_law 61 = .ok (.putfield 64, 3) := by decide +kernel
theorem dX8_law_64 : decode cX8_law 64 = .ok (.aload_n 0, 1) := by decide +kernel
theorem dX8_law_65 : decode cX8_law 65 = .ok (.aload_n 3, 1) := by decide +kernel
theorem dX8_law_66 : decode cX8_law 66 = .ok (.putfield 68, 3) := by decide +kernel
theorem dX8_law_69 : decode cX8_law 69 = .ok (.iload_n 2, 1) := by decide +kernel
theorem dX8_law_70 : decode cX8_law 70 = .ok (.ireturn, 1) := by decide +kernel
theorem dX8_fault_0 : decode cX8_fault 0 = .ok (.aload_n 0, 1) := by decide +kernel
theorem dX8_fault_1 : decode cX8_fault 1 = .ok (.getfield 47, 3) := by decide +kernel
theorem dX8_fault_4 : decode cX8_fault 4 = .ok (.getfield 220, 3) := by decide +kernel
theorem dX8_fault_7 : decode cX8_fault 7 = .ok (.ireturn, 1) := by decide +kernel
theorem dX8_count_0 : decode cX8_count 0 = .ok (.iload_n 1, 1) := by decide +kernel
theorem dX8_count_1 : decode cX8_count 1 = .ok (.tableswitch 150 0 10 #[59, 67, 78, 86, 94, 102, 107, 112, 120, 130, 140], 59) := by decide +kernel
theorem dX8_count_60 : decode cX8_count 60 = .ok (.aload_n 0, 1) := by decide +kernel
theorem dX8_count_61 : decode cX8_count 61 = .ok (.getfield 10, 3) := by decide +kernel
theorem dX8_count_64 : decode cX8_count 64 = .ok (.getfield 223, 3) := by decide +kernel
theorem dX8_count_67 : decode cX8_count 67 = .ok (.ireturn, 1) := by decide +kernel
theorem dX8_count_68 : decode cX8_count 68 = .ok (.aload_n 0, 1) := by decide +kernel
theorem dX8_count_69 : decode cX8_count 69 = .ok (.getfield 19, 3) := by decide +kernel
theorem dX8_count_72 : decode cX8_count 72 = .ok (.getfield 75, 3) := by decide +kernel
theorem dX8_count_75 : decode cX8_count 75 = .ok (.getfield 223, 3) := by decide +kernel
theorem dX8_count_78 : decode cX8_count 78 = .ok (.ireturn, 1) := by decide +kernel
theorem dX8_count_79 : decode cX8_count 79 = .ok (.aload_n 0, 1) := by decide +kernel
theorem dX8_count_80 : decode cX8_count 80 = .ok (.getfield 19, 3) := by decide +kernel
theorem dX8_count_83 : decode cX8_count 83 = .ok (.invokevirtual 226, 3) := by decide +kernel
theorem dX8_count_86 : decode cX8_count 86 = .ok (.ireturn, 1) := by decide +kernel
theorem dX8_count_87 : decode cX8_count 87 = .ok (.aload_n 0, 1) := by decide +kernel
theorem dX8_count_88 : decode cX8_count 88 = .ok (.getfield 19, 3) := by decide +kernel
theorem dX8_count_91 : decode cX8_count 91 = .ok (.invokevirtual 229, 3) := by decide +kernel
theorem dX8_count_94 : decode cX8_count 94 = .ok (.ireturn, 1) := by decide +kernel
theorem dX8_count_95 : decode cX8_count 95 = .ok (.aload_n 0, 1) := by decide +kernel
theorem dX8_count_96 : decode cX8_count 96 = .ok (.getfield 26, 3) := by decide +kernel
theorem dX8_count_99 : decode cX8_count 99 = .ok (.getfield 232, 3) := by decide +kernel
theorem dX8_count_102 : decode cX8_count 102 = .ok (.ireturn, 1) := by decide +kernel
theorem dX8_count_103 : decode cX8_count 103 = .ok (.aload_n 0, 1) := by decide +kernel
theorem dX8_count_104 : decode cX8_count 104 = .ok (.invokevirtual 233, 3) := by decide +kernel
theorem dX8_count_107 : decode cX8_count 107 = .ok (.ireturn, 1) := by decide +kernel
theorem dX8_count_108 : decode cX8_count 108 = .ok (.aload_n 0, 1) := by decide +kernel
theorem dX8_count_109 : decode cX8_count 109 = .ok (.invokevirtual 236, 3) := by decide +kernel
theorem dX8_count_112 : decode cX8_count 112 = .ok (.ireturn, 1) := by decide +kernel
theorem dX8_count_113 : decode cX8_count 113 = .ok (.aload_n 0, 1) := by decide +kernel
theorem dX8_count_114 : decode cX8_count 114 = .ok (.getfield 40, 3) := by decide +kernel
theorem dX8_count_117 : decode cX8_count 117 = .ok (.getfield 209, 3) := by decide +kernel
theorem dX8_count_120 : decode cX8_count 120 = .ok (.ireturn, 1) := by decide +kernel
theorem dX8_count_121 : decode cX8_count 121 = .ok (.aload_n 0, 1) := by decide +kernel
theorem dX8_count_122 : decode cX8_count 122 = .ok (.getfield 64, 3) := by decide +kernel
theorem dX8_count_125 : decode cX8_count 125 = .ok (.getfield 196, 3) := by decide +kernel
theorem dX8_count_128 : decode cX8_count 128 = .ok (.iconst 1, 1) := by decide +kernel
theorem dX8_count_129 : decode cX8_count 129 = .ok (.iaload, 1) := by decide +kernel
theorem dX8_count_130 : decode cX8_count 130 = .ok (.ireturn, 1) := by decide +kernel
theorem dX8_count_131 : decode cX8_count 131 = .ok (.aload_n 0, 1) := by decide +kernel
theorem dX8_count_132 : decode cX8_count 132 = .ok (.getfield 64, 3) := by decide +kernel
theorem dX8_count_135 : decode cX8_count 135 = .ok (.getfield 196, 3) := by decide +kernel
theorem dX8_count_138 : decode cX8_count 138 = .ok (.iconst 2, 1) := by decide +kernel
theorem dX8_count_139 : decode cX8_count 139 = .ok (.iaload, 1) := by decide +kernel
theorem dX8_count_140 : decode cX8_count 140 = .ok (.ireturn, 1) := by decide +kernel
theorem dX8_count_141 : decode cX8_count 141 = .ok (.aload_n 0, 1) := by decide +kernel
theorem dX8_count_142 : decode cX8_count 142 = .ok (.getfield 64, 3) := by decide +kernel
theorem dX8_count_145 : decode cX8_count 145 = .ok (.getfield 196, 3) := by decide +kernel
theorem dX8_count_148 : decode cX8_count 148 = .ok (.iconst 3, 1) := by decide +kernel
theorem dX8_count_149 : decode cX8_count 149 = .ok (.iaload, 1) := by decide +kernel
theorem dX8_count_150 : decode cX8_count 150 = .ok (.ireturn, 1) := by decide +kernel
theorem dX8_count_151 : decode cX8_count 151 = .ok (.iconst (-1), 1) := by decide +kernel
theorem dX8_count_152 : decode cX8_count 152 = .ok (.ireturn, 1) := by decide +kernel
theorem dX8_within_0 : decode cX8_within 0 = .ok (.iload_n 0, 1) := by decide +kernel
theorem dX8_within_1 : decode cX8_within 1 = .ok (.iload_n 1, 1) := by decide +kernel
theorem dX8_within_2 : decode cX8_within 2 = .ok (.if_icmp .lt 12, 3) := by decide +kernel
theorem dX8_within_5 : decode cX8_within 5 = .ok (.iload_n 0, 1) := by decide +kernel
theorem dX8_within_6 : decode cX8_within 6 = .ok (.iload_n 2, 1) := by decide +kernel
theorem dX8_within_7 : decode cX8_within 7 = .ok (.if_icmp .gt 7, 3) := by decide +kernel
theorem dX8_within_10 : decode cX8_within 10 = .ok (.iconst 1, 1) := by decide +kernel
theorem dX8_within_11 : decode cX8_within 11 = .ok (.goto 4, 3) := by decide +kernel
theorem dX8_within_14 : decode cX8_within 14 = .ok (.iconst 0, 1) := by decide +kernel
theorem dX8_within_15 : decode cX8_within 15 = .ok (.ireturn, 1) := by decide +kernel
theorem dX8_cardOf_0 : decode cX8_cardOf 0 = .ok (.iload_n 1, 1) := by decide +kernel
theorem dX8_cardOf_1 : decode cX8_cardOf 1 = .ok (.ifCond .ne 12, 3) := by decide +kernel
theorem dX8_cardOf_4 : decode cX8_cardOf 4 = .ok (.aload_n 0, 1) := by decide +kernel
theorem dX8_cardOf_5 : decode cX8_cardOf 5 = .ok (.getfield 10, 3) := by decide +kernel
theorem dX8_cardOf_8 : decode cX8_cardOf 8 = .ok (.iload_n 2, 1) := by decide +kernel
theorem dX8_cardOf_9 : decode cX8_cardOf 9 = .ok (.invokevirtual 118, 3) := by decide +kernel
theorem dX8_cardOf_12 : decode cX8_cardOf 12 = .ok (.areturn, 1) := by decide +kernel
theorem dX8_cardOf_13 : decode cX8_cardOf 13 = .ok (.iload_n 1, 1) := by decide +kernel
theorem dX8_cardOf_14 : decode cX8_cardOf 14 = .ok (.iconst 1, 1) := by decide +kernel
theorem dX8_cardOf_15 : decode cX8_cardOf 15 = .ok (.if_icmp .ne 15, 3) := by decide +kernel
theorem dX8_cardOf_18 : decode cX8_cardOf 18 = .ok (.aload_n 0, 1) := by decide +kernel
theorem dX8_cardOf_19 : decode cX8_cardOf 19 = .ok (.getfield 19, 3) := by decide +kernel
theorem dX8_cardOf_22 : decode cX8_cardOf 22 = .ok (.getfield 75, 3) := by decide +kernel
theorem dX8_cardOf_25 : decode cX8_cardOf 25 = .ok (.iload_n 2, 1) := by decide +kernel
theorem dX8_cardOf_26 : decode cX8_cardOf 26 = .ok (.invokevirtual 118, 3) := by decide +kernel
theorem dX8_cardOf_29 : decode cX8_cardOf 29 = .ok (.areturn, 1) := by decide +kernel
theorem dX8_cardOf_30 : decode cX8_cardOf 30 = .ok (.aconst_null, 1) := by decide +kernel
theorem dX8_cardOf_31 : decode cX8_cardOf 31 = .ok (.areturn, 1) := by decide +kernel
theorem dX8_barOf_0 : decode cX8_barOf 0 = .ok (.aload_n 0, 1) := by decide +kernel
theorem dX8_barOf_1 : decode cX8_barOf 1 = .ok (.getfield 19, 3) := by decide +kernel
theorem dX8_barOf_4 : decode cX8_barOf 4 = .ok (.iload_n 1, 1) := by decide +kernel
theorem dX8_barOf_5 : decode cX8_barOf 5 = .ok (.aload_n 0, 1) := by decide +kernel
theorem dX8_barOf_6 : decode cX8_barOf 6 = .ok (.getfield 54, 3) := by decide +kernel
theorem dX8_barOf_9 : decode cX8_barOf 9 = .ok (.invokevirtual 132, 3) := by decide +kernel
theorem dX8_barOf_12 : decode cX8_barOf 12 = .ok (.aload_n 0, 1) := by decide +kernel
theorem dX8_barOf_13 : decode cX8_barOf 13 = .ok (.getfield 54, 3) := by decide +kernel
theorem dX8_barOf_16 : decode cX8_barOf 16 = .ok (.aload_n 2, 1) := by decide +kernel
theorem dX8_barOf_17 : decode cX8_barOf 17 = .ok (.invokevirtual 239, 3) := by decide +kernel
theorem dX8_barOf_20 : decode cX8_barOf 20 = .ok (.ireturn, 1) := by decide +kernel
theorem dX8_inDoubt_0 : decode cX8_inDoubt 0 = .ok (.aload_n 0, 1) := by decide +kernel
theorem dX8_inDoubt_1 : decode cX8_inDoubt 1 = .ok (.getfield 10, 3) := by decide +kernel
theorem dX8_inDoubt_4 : decode cX8_inDoubt 4 = .ok (.aload_n 0, 1) := by decide +kernel
theorem dX8_inDoubt_5 : decode cX8_inDoubt 5 = .ok (.getfield 19, 3) := by decide +kernel
theorem dX8_inDoubt_8 : decode cX8_inDoubt 8 = .ok (.getfield 146, 3) := by decide +kernel
theorem dX8_inDoubt_11 : decode cX8_inDoubt 11 = .ok (.iload_n 1, 1) := by decide +kernel
theorem dX8_inDoubt_12 : decode cX8_inDoubt 12 = .ok (.iaload, 1) := by decide +kernel
theorem dX8_inDoubt_13 : decode cX8_inDoubt 13 = .ok (.invokevirtual 118, 3) := by decide +kernel
theorem dX8_inDoubt_16 : decode cX8_inDoubt 16 = .ok (.astore_n 2, 1) := by decide +kernel
theorem dX8_inDoubt_17 : decode cX8_inDoubt 17 = .ok (.aload_n 2, 1) := by decide +kernel
theorem dX8_inDoubt_18 : decode cX8_inDoubt 18 = .ok (.ifnull 16, 3) := by decide +kernel
theorem dX8_inDoubt_21 : decode cX8_inDoubt 21 = .ok (.aload_n 0, 1) := by decide +kernel
theorem dX8_inDoubt_22 : decode cX8_inDoubt 22 = .ok (.iload_n 1, 1) := by decide +kernel
theorem dX8_inDoubt_23 : decode cX8_inDoubt 23 = .ok (.aload_n 2, 1) := by decide +kernel
theorem dX8_inDoubt_24 : decode cX8_inDoubt 24 = .ok (.invokevirtual 162, 3) := by decide +kernel
theorem dX8_inDoubt_27 : decode cX8_inDoubt 27 = .ok (.ifCond .eq 7, 3) := by decide +kernel
theorem dX8_inDoubt_30 : decode cX8_inDoubt 30 = .ok (.iconst 1, 1) := by decide +kernel
theorem dX8_inDoubt_31 : decode cX8_inDoubt 31 = .ok (.goto 4, 3) := by decide +kernel
theorem dX8_inDoubt_34 : decode cX8_inDoubt 34 = .ok (.iconst 0, 1) := by decide +kernel
theorem dX8_inDoubt_35 : decode cX8_inDoubt 35 = .ok (.ireturn, 1) := by decide +kernel
theorem dX8_howManyInDoubt_0 : decode cX8_howManyInDoubt 0 = .ok (.iconst 0, 1) := by decide +kernel
theorem dX8_howManyInDoubt_1 : decode cX8_howManyInDoubt 1 = .ok (.istore_n 1, 1) := by decide +kernel
theorem dX8_howManyInDoubt_2 : decode cX8_howManyInDoubt 2 = .ok (.iconst 0, 1) := by decide +kernel
theorem dX8_howManyInDoubt_3 : decode cX8_howManyInDoubt 3 = .ok (.istore_n 2, 1) := by decide +kernel
theorem dX8_howManyInDoubt_4 : decode cX8_howManyInDoubt 4 = .ok (.iload_n 2, 1) := by decide +kernel
theorem dX8_howManyInDoubt_5 : decode cX8_howManyInDoubt 5 = .ok (.aload_n 0, 1) := by decide +kernel
theorem dX8_howManyInDoubt_6 : decode cX8_howManyInDoubt 6 = .ok (.getfield 19, 3) := by decide +kernel
theorem dX8_howManyInDoubt_9 : decode cX8_howManyInDoubt 9 = .ok (.getfield 75, 3) := by decide +kernel
theorem dX8_howManyInDoubt_12 : decode cX8_howManyInDoubt 12 = .ok (.getfield 223, 3) := by decide +kernel
theorem dX8_howManyInDoubt_15 : decode cX8_howManyInDoubt 15 = .ok (.if_icmp .ge 31, 3) := by decide +kernel
theorem dX8_howManyInDoubt_18 : decode cX8_howManyInDoubt 18 = .ok (.aload_n 0, 1) := by decide +kernel
theorem dX8_howManyInDoubt_19 : decode cX8_howManyInDoubt 19 = .ok (.getfield 19, 3) := by decide +kernel
theorem dX8_howManyInDoubt_22 : decode cX8_howManyInDoubt 22 = .ok (.iload_n 2, 1) := by decide +kernel
theorem dX8_howManyInDoubt_23 : decode cX8_howManyInDoubt 23 = .ok (.invokevirtual 243, 3) := by decide +kernel
theorem dX8_howManyInDoubt_26 : decode cX8_howManyInDoubt 26 = .ok (.ifCond .eq 14, 3) := by decide +kernel
theorem dX8_howManyInDoubt_29 : decode cX8_howManyInDoubt 29 = .ok (.aload_n 0, 1) := by decide +kernel
theorem dX8_howManyInDoubt_30 : decode cX8_howManyInDoubt 30 = .ok (.iload_n 2, 1) := by decide +kernel
theorem dX8_howManyInDoubt_31 : decode cX8_howManyInDoubt 31 = .ok (.invokevirtual 199, 3) := by decide +kernel
theorem dX8_howManyInDoubt_34 : decode cX8_howManyInDoubt 34 = .ok (.ifCond .eq 6, 3) := by decide +kernel
theorem dX8_howManyInDoubt_37 : decode cX8_howManyInDoubt 37 = .ok (.iinc 1 1, 3) := by decide +kernel
theorem dX8_howManyInDoubt_40 : decode cX8_howManyInDoubt 40 = .ok (.iinc 2 1, 3) := by decide +kernel
theorem dX8_howManyInDoubt_43 : decode cX8_howManyInDoubt 43 = .ok (.goto (-39), 3) := by decide +kernel
theorem dX8_howManyInDoubt_46 : decode cX8_howManyInDoubt 46 = .ok (.iload_n 1, 1) := by decide +kernel
theorem dX8_howManyInDoubt_47 : decode cX8_howManyInDoubt 47 = .ok (.ireturn, 1) := by decide +kernel
theorem dX8_howManyUnpaired_0 : decode cX8_howManyUnpaired 0 = .ok (.aload_n 0, 1) := by decide +kernel
theorem dX8_howManyUnpaired_1 : decode cX8_howManyUnpaired 1 = .ok (.invokevirtual 171, 3) := by decide +kernel
theorem dX8_howManyUnpaired_4 : decode cX8_howManyUnpaired 4 = .ok (.aload_n 0, 1) := by decide +kernel
theorem dX8_howManyUnpaired_5 : decode cX8_howManyUnpaired 5 = .ok (.getfield 10, 3) := by decide +kernel
theorem dX8_howManyUnpaired_8 : decode cX8_howManyUnpaired 8 = .ok (.getfield 223, 3) := by decide +kernel
theorem dX8_howManyUnpaired_11 : decode cX8_howManyUnpaired 11 = .ok (.istore_n 1, 1) := by decide +kernel
theorem dX8_howManyUnpaired_12 : decode cX8_howManyUnpaired 12 = .ok (.iconst 0, 1) := by decide +kernel
theorem dX8_howManyUnpaired_13 : decode cX8_howManyUnpaired 13 = .ok (.istore_n 2, 1) := by decide +kernel
theorem dX8_howManyUnpaired_14 : decode cX8_howManyUnpaired 14 = .ok (.iload_n 2, 1) := by decide +kernel
theorem dX8_howManyUnpaired_15 : decode cX8_howManyUnpaired 15 = .ok (.bipush 12, 2) := by decide +kernel
theorem dX8_howManyUnpaired_17 : decode cX8_howManyUnpaired 17 = .ok (.if_icmp .ge 25, 3) := by decide +kernel
theorem dX8_howManyUnpaired_20 : decode cX8_howManyUnpaired 20 = .ok (.aload_n 0, 1) := by decide +kernel
theorem dX8_howManyUnpaired_21 : decode cX8_howManyUnpaired 21 = .ok (.getfield 33, 3) := by decide +kernel
theorem dX8_howManyUnpaired_24 : decode cX8_howManyUnpaired 24 = .ok (.getfield 177, 3) := by decide +kernel
theorem dX8_howManyUnpaired_27 : decode cX8_howManyUnpaired 27 = .ok (.iload_n 2, 1) := by decide +kernel
theorem dX8_howManyUnpaired_28 : decode cX8_howManyUnpaired 28 = .ok (.iaload, 1) := by decide +kernel
theorem dX8_howManyUnpaired_29 : decode cX8_howManyUnpaired 29 = .ok (.iconst (-1), 1) := by decide +kernel
theorem dX8_howManyUnpaired_30 : decode cX8_howManyUnpaired 30 = .ok (.if_icmp .eq 6, 3) := by decide +kernel
theorem dX8_howManyUnpaired_33 : decode cX8_howManyUnpaired 33 = .ok (.iinc 1 (-1), 3) := by decide +kernel
theorem dX8_howManyUnpaired_36 : decode cX8_howManyUnpaired 36 = .ok (.iinc 2 1, 3) := by decide +kernel
theorem dX8_howManyUnpaired_39 : decode cX8_howManyUnpaired 39 = .ok (.goto (-25), 3) := by decide +kernel
theorem dX8_howManyUnpaired_42 : decode cX8_howManyUnpaired 42 = .ok (.iload_n 1, 1) := by decide +kernel
theorem dX8_howManyUnpaired_43 : decode cX8_howManyUnpaired 43 = .ok (.ireturn, 1) := by decide +kernel
theorem dX8_pairUp_0 : decode cX8_pairUp 0 = .ok (.iconst 0, 1) := by decide +kernel
theorem dX8_pairUp_1 : decode cX8_pairUp 1 = .ok (.istore_n 1, 1) := by decide +kernel
theorem dX8_pairUp_2 : decode cX8_pairUp 2 = .ok (.iload_n 1, 1) := by decide +kernel
theorem dX8_pairUp_3 : decode cX8_pairUp 3 = .ok (.bipush 12, 2) := by decide +kernel
theorem dX8_pairUp_5 : decode cX8_pairUp 5 = .ok (.if_icmp .ge 143, 3) := by decide +kernel
theorem dX8_pairUp_8 : decode cX8_pairUp 8 = .ok (.aload_n 0, 1) := by decide +kernel
theorem dX8_pairUp_9 : decode cX8_pairUp 9 = .ok (.getfield 19, 3) := by decide +kernel
theorem dX8_pairUp_12 : decode cX8_pairUp 12 = .ok (.iload_n 1, 1) := by decide +kernel
theorem dX8_pairUp_13 : decode cX8_pairUp 13 = .ok (.invokevirtual 243, 3) := by decide +kernel
theorem dX8_pairUp_16 : decode cX8_pairUp 16 = .ok (.ifCond .eq 20, 3) := by decide +kernel
theorem dX8_pairUp_19 : decode cX8_pairUp 19 = .ok (.aload_n 0, 1) := by decide +kernel
theorem dX8_pairUp_20 : decode cX8_pairUp 20 = .ok (.getfield 19, 3) := by decide +kernel
theorem dX8_pairUp_23 : decode cX8_pairUp 23 = .ok (.getfield 146, 3) := by decide +kernel
theorem dX8_pairUp_26 : decode cX8_pairUp 26 = .ok (.iload_n 1, 1) := by decide +kernel
theorem dX8_pairUp_27 : decode cX8_pairUp 27 = .ok (.iaload, 1) := by decide +kernel
theorem dX8_pairUp_28 : decode cX8_pairUp 28 = .ok (.iconst (-1), 1) := by decide +kernel
theorem dX8_pairUp_29 : decode cX8_pairUp 29 = .ok (.if_icmp .ne 7, 3) := by decide +kernel
theorem dX8_pairUp_32 : decode cX8_pairUp 32 = .ok (.iconst 1, 1) := by decide +kernel
theorem dX8_pairUp_33 : decode cX8_pairUp 33 = .ok (.goto 4, 3) := by decide +kernel
theorem dX8_pairUp_36 : decode cX8_pairUp 36 = .ok (.iconst 0, 1) := by decide +kernel
theorem dX8_pairUp_37 : decode cX8_pairUp 37 = .ok (.istore_n 2, 1) := by decide +kernel
theorem dX8_pairUp_38 : decode cX8_pairUp 38 = .ok (.iload_n 2, 1) := by decide +kernel
theorem dX8_pairUp_39 : decode cX8_pairUp 39 = .ok (.ifCond .eq 15, 3) := by decide +kernel
theorem dX8_pairUp_42 : decode cX8_pairUp 42 = .ok (.aload_n 0, 1) := by decide +kernel
theorem dX8_pairUp_43 : decode cX8_pairUp 43 = .ok (.getfield 19, 3) := by decide +kernel
theorem dX8_pairUp_46 : decode cX8_pairUp 46 = .ok (.iload_n 1, 1) := by decide +kernel
theorem dX8_pairUp_47 : decode cX8_pairUp 47 = .ok (.aload_n 0, 1) := by decide +kernel
theorem dX8_pairUp_48 : decode cX8_pairUp 48 = .ok (.getfield 54, 3) := by decide +kernel
theorem dX8_pairUp_51 : decode cX8_pairUp 51 = .ok (.invokevirtual 132, 3) := by decide +kernel
theorem dX8_pairUp_54 : decode cX8_pairUp 54 = .ok (.iconst 0, 1) := by decide +kernel
theorem dX8_pairUp_55 : decode cX8_pairUp 55 = .ok (.istore_n 3, 1) := by decide +kernel
theorem dX8_pairUp_56 : decode cX8_pairUp 56 = .ok (.iload_n 3, 1) := by decide +kernel
theorem dX8_pairUp_57 : decode cX8_pairUp 57 = .ok (.bipush 12, 2) := by decide +kernel
theorem dX8_pairUp_59 : decode cX8_pairUp 59 = .ok (.if_icmp .ge 83, 3) := by decide +kernel
theorem dX8_pairUp_62 : decode cX8_pairUp 62 = .ok (.aload_n 0, 1) := by decide +kernel
theorem dX8_pairUp_63 : decode cX8_pairUp 63 = .ok (.getfield 10, 3) := by decide +kernel
theorem dX8_pairUp_66 : decode cX8_pairUp 66 = .ok (.iload_n 3, 1) := by decide +kernel
theorem dX8_pairUp_67 : decode cX8_pairUp 67 = .ok (.invokevirtual 118, 3) := by decide +kernel
theorem dX8_pairUp_70 : decode cX8_pairUp 70 = .ok (.astore 4, 2) := by decide +kernel
theorem dX8_pairUp_72 : decode cX8_pairUp 72 = .ok (.iload_n 2, 1) := by decide +kernel
theorem dX8_pairUp_73 : decode cX8_pairUp 73 = .ok (.ifCond .eq 23, 3) := by decide +kernel
theorem dX8_pairUp_76 : decode cX8_pairUp 76 = .ok (.aload 4, 2) := by decide +kernel
theorem dX8_pairUp_78 : decode cX8_pairUp 78 = .ok (.ifnull 18, 3) := by decide +kernel
theorem dX8_pairUp_81 : decode cX8_pairUp 81 = .ok (.aload_n 0, 1) := by decide +kernel
theorem dX8_pairUp_82 : decode cX8_pairUp 82 = .ok (.getfield 19, 3) := by decide +kernel
theorem dX8_pairUp_85 : decode cX8_pairUp 85 = .ok (.iload_n 3, 1) := by decide +kernel
theorem dX8_pairUp_86 : decode cX8_pairUp 86 = .ok (.invokevirtual 246, 3) := by decide +kernel
theorem dX8_pairUp_89 : decode cX8_pairUp 89 = .ok (.ifCond .ne 7, 3) := by decide +kernel
theorem dX8_pairUp_92 : decode cX8_pairUp 92 = .ok (.iconst 1, 1) := by decide +kernel
theorem dX8_pairUp_93 : decode cX8_pairUp 93 = .ok (.goto 4, 3) := by decide +kernel
theorem dX8_pairUp_96 : decode cX8_pairUp 96 = .ok (.iconst 0, 1) := by decide +kernel
theorem dX8_pairUp_97 : decode cX8_pairUp 97 = .ok (.istore 5, 2) := by decide +kernel
theorem dX8_pairUp_99 : decode cX8_pairUp 99 = .ok (.aload_n 0, 1) := by decide +kernel
theorem dX8_pairUp_100 : decode cX8_pairUp 100 = .ok (.getfield 33, 3) := by decide +kernel
theorem dX8_pairUp_103 : decode cX8_pairUp 103 = .ok (.getfield 192, 3) := by decide +kernel
theorem dX8_pairUp_106 : decode cX8_pairUp 106 = .ok (.iload_n 1, 1) := by decide +kernel
theorem dX8_pairUp_107 : decode cX8_pairUp 107 = .ok (.aaload, 1) := by decide +kernel
theorem dX8_pairUp_108 : decode cX8_pairUp 108 = .ok (.iload_n 3, 1) := by decide +kernel
theorem dX8_pairUp_109 : decode cX8_pairUp 109 = .ok (.iload 5, 2) := by decide +kernel
theorem dX8_pairUp_111 : decode cX8_pairUp 111 = .ok (.ifCond .eq 23, 3) := by decide +kernel
theorem dX8_pairUp_114 : decode cX8_pairUp 114 = .ok (.iconst 0, 1) := by decide +kernel
theorem dX8_pairUp_115 : decode cX8_pairUp 115 = .ok (.aload_n 0, 1) := by decide +kernel
theorem dX8_pairUp_116 : decode cX8_pairUp 116 = .ok (.getfield 64, 3) := by decide +kernel
theorem dX8_pairUp_119 : decode cX8_pairUp 119 = .ok (.aload_n 0, 1) := by decide +kernel
theorem dX8_pairUp_120 : decode cX8_pairUp 120 = .ok (.getfield 54, 3) := by decide +kernel
theorem dX8_pairUp_123 : decode cX8_pairUp 123 = .ok (.aload 4, 2) := by decide +kernel
theorem dX8_pairUp_125 : decode cX8_pairUp 125 = .ok (.invokevirtual 166, 3) := by decide +kernel
theorem dX8_pairUp_128 : decode cX8_pairUp 128 = .ok (.invokestatic 115, 3) := by decide +kernel
theorem dX8_pairUp_131 : decode cX8_pairUp 131 = .ok (.goto 4, 3) := by decide +kernel
theorem dX8_pairUp_134 : decode cX8_pairUp 134 = .ok (.iconst 0, 1) := by decide +kernel
theorem dX8_pairUp_135 : decode cX8_pairUp 135 = .ok (.iastore, 1) := by decide +kernel
theorem dX8_pairUp_136 : decode cX8_pairUp 136 = .ok (.iinc 3 1, 3) := by decide +kernel
theorem dX8_pairUp_139 : decode cX8_pairUp 139 = .ok (.goto (-83), 3) := by decide +kernel
theorem dX8_pairUp_142 : decode cX8_pairUp 142 = .ok (.iinc 1 1, 3) := by decide +kernel
theorem dX8_pairUp_145 : decode cX8_pairUp 145 = .ok (.goto (-143), 3) := by decide +kernel
theorem dX8_pairUp_148 : decode cX8_pairUp 148 = .ok (.aload_n 0, 1) := by decide +kernel
theorem dX8_pairUp_149 : decode cX8_pairUp 149 = .ok (.getfield 33, 3) := by decide +kernel
theorem dX8_pairUp_152 : decode cX8_pairUp 152 = .ok (.invokevirtual 249, 3) := by decide +kernel
theorem dX8_pairUp_155 : decode cX8_pairUp 155 = .ok (.iconst 0, 1) := by decide +kernel
theorem dX8_pairUp_156 : decode cX8_pairUp 156 = .ok (.istore_n 1, 1) := by decide +kernel
theorem dX8_pairUp_157 : decode cX8_pairUp 157 = .ok (.iload_n 1, 1) := by decide +kernel
theorem dX8_pairUp_158 : decode cX8_pairUp 158 = .ok (.bipush 12, 2) := by decide +kernel
theorem dX8_pairUp_160 : decode cX8_pairUp 160 = .ok (.if_icmp .ge 40, 3) := by decide +kernel
theorem dX8_pairUp_163 : decode cX8_pairUp 163 = .ok (.aload_n 0, 1) := by decide +kernel
theorem dX8_pairUp_164 : decode cX8_pairUp 164 = .ok (.getfield 19, 3) := by decide +kernel
theorem dX8_pairUp_167 : decode cX8_pairUp 167 = .ok (.getfield 146, 3) := by decide +kernel
theorem dX8_pairUp_170 : decode cX8_pairUp 170 = .ok (.iload_n 1, 1) := by decide +kernel
theorem dX8_pairUp_171 : decode cX8_pairUp 171 = .ok (.iaload, 1) := by decide +kernel
theorem dX8_pairUp_172 : decode cX8_pairUp 172 = .ok (.iconst (-1), 1) := by decide +kernel
theorem dX8_pairUp_173 : decode cX8_pairUp 173 = .ok (.if_icmp .eq 21, 3) := by decide +kernel
theorem dX8_pairUp_176 : decode cX8_pairUp 176 = .ok (.aload_n 0, 1) := by decide +kernel
theorem dX8_pairUp_177 : decode cX8_pairUp 177 = .ok (.getfield 33, 3) := by decide +kernel
theorem dX8_pairUp_180 : decode cX8_pairUp 180 = .ok (.getfield 177, 3) := by decide +kernel
theorem dX8_pairUp_183 : decode cX8_pairUp 183 = .ok (.iload_n 1, 1) := by decide +kernel
theorem dX8_pairUp_184 : decode cX8_pairUp 184 = .ok (.aload_n 0, 1) := by decide +kernel
theorem dX8_pairUp_185 : decode cX8_pairUp 185 = .ok (.getfield 19, 3) := by decide +kernel
theorem dX8_pairUp_188 : decode cX8_pairUp 188 = .ok (.getfield 146, 3) := by decide +kernel
theorem dX8_pairUp_191 : decode cX8_pairUp 191 = .ok (.iload_n 1, 1) := by decide +kernel
theorem dX8_pairUp_192 : decode cX8_pairUp 192 = .ok (.iaload, 1) := by decide +kernel
theorem dX8_pairUp_193 : decode cX8_pairUp 193 = .ok (.iastore, 1) := by decide +kernel
theorem dX8_pairUp_194 : decode cX8_pairUp 194 = .ok (.iinc 1 1, 3) := by decide +kernel
theorem dX8_pairUp_197 : decode cX8_pairUp 197 = .ok (.goto (-40), 3) := by decide +kernel
theorem dX8_pairUp_200 : decode cX8_pairUp 200 = .ok (.return_, 1) := by decide +kernel
theorem dX9_init_0 : decode cX9_init 0 = .ok (.aload_n 0, 1) := by decide +kernel
theorem dX9_init_1 : decode cX9_init 1 = .ok (.invokespecial 1, 3) := by decide +kernel
theorem dX9_init_4 : decode cX9_init 4 = .ok (.aload_n 0, 1) := by decide +kernel
theorem dX9_init_5 : decode cX9_init 5 = .ok (.iconst 2, 1) := by decide +kernel
theorem dX9_init_6 : decode cX9_init 6 = .ok (.newarray .int, 2) := by decide +kernel
theorem dX9_init_8 : decode cX9_init 8 = .ok (.putfield 7, 3) := by decide +kernel
theorem dX9_init_11 : decode cX9_init 11 = .ok (.aload_n 0, 1) := by decide +kernel
theorem dX9_init_12 : decode cX9_init 12 = .ok (.sipush 456, 3) := by decide +kernel
theorem dX9_init_15 : decode cX9_init 15 = .ok (.newarray .int, 2) := by decide +kernel
theorem dX9_init_17 : decode cX9_init 17 = .ok (.putfield 13, 3) := by decide +kernel
theorem dX9_init_20 : decode cX9_init 20 = .ok (.aload_n 0, 1) := by decide +kernel
theorem dX9_init_21 : decode cX9_init 21 = .ok (.bipush 24, 2) := by decide +kernel
theorem dX9_init_23 : decode cX9_init 23 = .ok (.newarray .int, 2) := by decide +kernel
theorem dX9_init_25 : decode cX9_init 25 = .ok (.putfield 16, 3) := by decide +kernel
theorem dX9_init_28 : decode cX9_init 28 = .ok (.aload_n 0, 1) := by decide +kernel
theorem dX9_init_29 : decode cX9_init 29 = .ok (.bipush 24, 2) := by decide +kernel
theorem dX9_init_31 : decode cX9_init 31 = .ok (.newarray .int, 2) := by decide +kernel
theorem dX9_init_33 : decode cX9_init 33 = .ok (.putfield 19, 3) := by decide +kernel
theorem dX9_init_36 : decode cX9_init 36 = .ok (.aload_n 0, 1) := by decide +kernel
theorem dX9_init_37 : decode cX9_init 37 = .ok (.bipush 12, 2) := by decide +kernel
theorem dX9_init_39 : decode cX9_init 39 = .ok (.newarray .int, 2) := by decide +kernel
theorem dX9_init_41 : decode cX9_init 41 = .ok (.putfield 22, 3) := by decide +kernel
theorem dX9_init_44 : decode cX9_init 44 = .ok (.aload_n 0, 1) := by decide +kernel
theorem dX9_init_45 : decode cX9_init 45 = .ok (.bipush 12, 2) := by decide +kernel
theorem dX9_init_47 : decode cX9_init 47 = .ok (.newarray .int, 2) := by decide +kernel
theorem dX9_init_49 : decode cX9_init 49 = .ok (.putfield 25, 3) := by decide +kernel
theorem dX9_init_52 : decode cX9_init 52 = .ok (.aload_n 0, 1) := by decide +kernel
theorem dX9_init_53 : decode cX9_init 53 = .ok (.bipush 12, 2) := by decide +kernel
theorem dX9_init_55 : decode cX9_init 55 = .ok (.newarray .int, 2) := by decide +kernel
theorem dX9_init_57 : decode cX9_init 57 = .ok (.putfield 28, 3) := by decide +kernel
theorem dX9_init_60 : decode cX9_init 60 = .ok (.aload_n 0, 1) := by decide +kernel
theorem dX9_init_61 : decode cX9_init 61 = .ok (.sipush 144, 3) := by decide +kernel
theorem dX9_init_64 : decode cX9_init 64 = .ok (.newarray .int, 2) := by decide +kernel
theorem dX9_init_66 : decode cX9_init 66 = .ok (.putfield 31, 3) := by decide +kernel
theorem dX9_init_69 : decode cX9_init 69 = .ok (.aload_n 0, 1) := by decide +kernel
theorem dX9_init_70 : decode cX9_init 70 = .ok (.ldc 34, 2) := by decide +kernel
theorem dX9_init_72 : decode cX9_init 72 = .ok (.newarray .int, 2) := by decide +kernel
theorem dX9_init_74 : decode cX9_init 74 = .ok (.putfield 35, 3) := by decide +kernel
theorem dX9_init_77 : decode cX9_init 77 = .ok (.aload_n 0, 1) := by decide +kernel
theorem dX9_init_78 : decode cX9_init 78 = .ok (.bipush 12, 2) := by decide +kernel
theorem dX9_init_80 : decode cX9_init 80 = .ok (.newarray .int, 2) := by decide +kernel
theorem dX9_init_82 : decode cX9_init 82 = .ok (.putfield 38, 3) := by decide +kernel
theorem dX9_init_85 : decode cX9_init 85 = .ok (.aload_n 0, 1) := by decide +kernel
theorem dX9_init_86 : decode cX9_init 86 = .ok (.bipush 60, 2) := by decide +kernel
theorem dX9_init_88 : decode cX9_init 88 = .ok (.newarray .int, 2) := by decide +kernel
theorem dX9_init_90 : decode cX9_init 90 = .ok (.putfield 41, 3) := by decide +kernel
theorem dX9_init_93 : decode cX9_init 93 = .ok (.aload_n 0, 1) := by decide +kernel
theorem dX9_init_94 : decode cX9_init 94 = .ok (.bipush 60, 2) := by decide +kernel
theorem dX9_init_96 : decode cX9_init 96 = .ok (.newarray .int, 2) := by decide +kernel
theorem dX9_init_98 : decode cX9_init 98 = .ok (.putfield 44, 3) := by decide +kernel
theorem dX9_init_101 : decode cX9_init 101 = .ok (.aload_n 0, 1) := by decide +kernel
theorem dX9_init_102 : decode cX9_init 102 = .ok (.bipush 60, 2) := by decide +kernel
theorem dX9_init_104 : decode cX9_init 104 = .ok (.newarray .int, 2) := by decide +kernel
theorem dX9_init_106 : decode cX9_init 106 = .ok (.putfield 47, 3) := by decide +kernel
theorem dX9_init_109 : decode cX9_init 109 = .ok (.aload_n 0, 1) := by decide +kernel
theorem dX9_init_110 : decode cX9_init 110 = .ok (.bipush 42, 2) := by decide +kernel
theorem dX9_init_112 : decode cX9_init 112 = .ok (.newarray .int, 2) := by decide +kernel
theorem dX9_init_114 : decode cX9_init 114 = .ok (.dup, 1) := by decide +kernel
theorem dX9_init_115 : decode cX9_init 115 = .ok (.iconst 0, 1) := by decide +kernel
theorem dX9_init_116 : decode cX9_init 116 = .ok (.iconst 0, 1) := by decide +kernel
theorem dX9_init_117 : decode cX9_init 117 = .ok (.iastore, 1) := by decide +kernel
theorem dX9_init_118 : decode cX9_init 118 = .ok (.dup, 1) := by decide +kernel
theorem dX9_init_119 : decode cX9_init 119 = .ok (.iconst 1, 1) := by decide +kernel
theorem dX9_init_120 : decode cX9_init 120 = .ok (.iconst 1, 1) := by decide +kernel
theorem dX9_init_121 : decode cX9_init 121 = .ok (.iastore, 1) := by decide +kernel
theorem dX9_init_122 : decode cX9_init 122 = .ok (.dup, 1) := by decide +kernel
theorem dX9_init_123 : decode cX9_init 123 = .ok (.iconst 2, 1) := by decide +kernel
theorem dX9_init_124 : decode cX9_init 124 = .ok (.iconst 4, 1) := by decide +kernel
theorem dX9_init_125 : decode cX9_init 125 = .ok (.iastore, 1) := by decide +kernel
theorem dX9_init_126 : decode cX9_init 126 = .ok (.dup, 1) := by decide +kernel
theorem dX9_init_127 : decode cX9_init 127 = .ok (.iconst 3, 1) := by decide +kernel
theorem dX9_init_128 : decode cX9_init 128 = .ok (.bipush 6, 2) := by decide +kernel
theorem dX9_init_130 : decode cX9_init 130 = .ok (.iastore, 1) := by decide +kernel
theorem dX9_init_131 : decode cX9_init 131 = .ok (.dup, 1) := by decide +kernel
theorem dX9_init_132 : decode cX9_init 132 = .ok (.iconst 4, 1) := by decide +kernel
theorem dX9_init_133 : decode cX9_init 133 = .ok (.iconst 5, 1) := by decide +kernel
theorem dX9_init_134 : decode cX9_init 134 = .ok (.iastore, 1) := by decide +kernel
theorem dX9_init_135 : decode cX9_init 135 = .ok (.dup, 1) := by decide +kernel
theorem dX9_init_136 : decode cX9_init 136 = .ok (.iconst 5, 1) := by decide +kernel
theorem dX9_init_137 : decode cX9_init 137 = .ok (.iconst 5, 1) := by decide +kernel
theorem dX9_init_138 : decode cX9_init 138 = .ok (.iastore, 1) := by decide +kernel
theorem dX9_init_139 : decode cX9_init 139 = .ok (.dup, 1) := by decide +kernel
theorem dX9_init_140 : decode cX9_init 140 = .ok (.bipush 6, 2) := by decide +kernel
theorem dX9_init_142 : decode cX9_init 142 = .ok (.iconst 5, 1) := by decide +kernel
theorem dX9_init_143 : decode cX9_init 143 = .ok (.iastore, 1) := by decide +kernel
theorem dX9_init_144 : decode cX9_init 144 = .ok (.dup, 1) := by decide +kernel
theorem dX9_init_145 : decode cX9_init 145 = .ok (.bipush 7, 2) := by decide +kernel
theorem dX9_init_147 : decode cX9_init 147 = .ok (.iconst 5, 1) := by decide +kernel
theorem dX9_init_148 : decode cX9_init 148 = .ok (.iastore, 1) := by decide +kernel
theorem dX9_init_149 : decode cX9_init 149 = .ok (.dup, 1) := by decide +kernel
theorem dX9_init_150 : decode cX9_init 150 = .ok (.bipush 8, 2) := by decide +kernel
theorem dX9_init_152 : decode cX9_init 152 = .ok (.iconst 3, 1) := by decide +kernel
theorem dX9_init_153 : decode cX9_init 153 = .ok (.iastore, 1) := by decide +kernel
theorem dX9_init_154 : decode cX9_init 154 = .ok (.dup, 1) := by decide +kernel
theorem dX9_init_155 : decode cX9_init 155 = .ok (.bipush 9, 2) := by decide +kernel
theorem dX9_init_157 : decode cX9_init 157 = .ok (.iconst 3, 1) := by decide +kernel
theorem dX9_init_158 : decode cX9_init 158 = .ok (.iastore, 1) := by decide +kernel
theorem dX9_init_159 : decode cX9_init 159 = .ok (.dup, 1) := by decide +kernel
theorem dX9_init_160 : decode cX9_init 160 = .ok (.bipush 10, 2) := by decide +kernel
theorem dX9_init_162 : decode cX9_init 162 = .ok (.iconst 3, 1) := by decide +kernel
theorem dX9_init_163 : decode cX9_init 163 = .ok (.iastore, 1) := by decide +kernel
theorem dX9_init_164 : decode cX9_init 164 = .ok (.dup, 1) := by decide +kernel
theorem dX9_init_165 : decode cX9_init 165 = .ok (.bipush 11, 2) := by decide +kernel
theorem dX9_init_167 : decode cX9_init 167 = .ok (.iconst 3, 1) := by decide +kernel
theorem dX9_init_168 : decode cX9_init 168 = .ok (.iastore, 1) := by decide +kernel
theorem dX9_init_169 : decode cX9_init 169 = .ok (.dup, 1) := by decide +kernel
theorem dX9_init_170 : decode cX9_init 170 = .ok (.bipush 12, 2) := by decide +kernel
theorem dX9_init_172 : decode cX9_init 172 = .ok (.iconst 3, 1) := by decide +kernel
theorem dX9_init_173 : decode cX9_init 173 = .ok (.iastore, 1) := by decide +kernel
theorem dX9_init_174 : decode cX9_init 174 = .ok (.dup, 1) := by decide +kernel
theorem dX9_init_175 : decode cX9_init 175 = .ok (.bipush 13, 2) := by decide +kernel
theorem dX9_init_177 : decode cX9_init 177 = .ok (.iconst 3, 1) := by decide +kernel
theorem dX9_init_178 : decode cX9_init 178 = .ok (.iastore, 1) := by decide +kernel
theorem dX9_init_179 : decode cX9_init 179 = .ok (.dup, 1) := by decide +kernel
theorem dX9_init_180 : decode cX9_init 180 = .ok (.bipush 14, 2) := by decide +kernel
theorem dX9_init_182 : decode cX9_init 182 = .ok (.iconst 3, 1) := by decide +kernel
theorem dX9_init_183 : decode cX9_init 183 = .ok (.iastore, 1) := by decide +kernel
theorem dX9_init_184 : decode cX9_init 184 = .ok (.dup, 1) := by decide +kernel
theorem dX9_init_185 : decode cX9_init 185 = .ok (.bipush 15, 2) := by decide +kernel
theorem dX9_init_187 : decode cX9_init 187 = .ok (.iconst 3, 1) := by decide +kernel
theorem dX9_init_188 : decode cX9_init 188 = .ok (.iastore, 1) := by decide +kernel
theorem dX9_init_189 : decode cX9_init 189 = .ok (.dup, 1) := by decide +kernel
theorem dX9_init_190 : decode cX9_init 190 = .ok (.bipush 16, 2) := by decide +kernel
theorem dX9_init_192 : decode cX9_init 192 = .ok (.iconst 3, 1) := by decide +kernel
theorem dX9_init_193 : decode cX9_init 193 = .ok (.iastore, 1) := by decide +kernel
theorem dX9_init_194 : decode cX9_init 194 = .ok (.dup, 1) := by decide +kernel
theorem dX9_init_195 : decode cX9_init 195 = .ok (.bipush 17, 2) := by decide +kernel
theorem dX9_init_197 : decode cX9_init 197 = .ok (.iconst 2, 1) := by decide +kernel
theorem dX9_init_198 : decode cX9_init 198 = .ok (.iastore, 1) := by decide +kernel
theorem dX9_init_199 : decode cX9_init 199 = .ok (.dup, 1) := by decide +kernel
theorem dX9_init_200 : decode cX9_init 200 = .ok (.bipush 18, 2) := by decide +kernel
theorem dX9_init_202 : decode cX9_init 202 = .ok (.bipush 20, 2) := by decide +kernel
theorem dX9_init_204 : decode cX9_init 204 = .ok (.iastore, 1) := by decide +kernel
theorem dX9_init_205 : decode cX9_init 205 = .ok (.dup, 1) := by decide +kernel
theorem dX9_init_206 : decode cX9_init 206 = .ok (.bipush 19, 2) := by decide +kernel
theorem dX9_init_208 : decode cX9_init 208 = .ok (.iconst 5, 1) := by decide +kernel
theorem dX9_init_209 : decode cX9_init 209 = .ok (.iastore, 1) := by decide +kernel
theorem dX9_init_210 : decode cX9_init 210 = .ok (.dup, 1) := by decide +kernel
theorem dX9_init_211 : decode cX9_init 211 = .ok (.bipush 20, 2) := by decide +kernel
theorem dX9_init_213 : decode cX9_init 213 = .ok (.iconst 2, 1) := by decide +kernel
theorem dX9_init_214 : decode cX9_init 214 = .ok (.iastore, 1) := by decide +kernel
theorem dX9_init_215 : decode cX9_init 215 = .ok (.dup, 1) := by decide +kernel
theorem dX9_init_216 : decode cX9_init 216 = .ok (.bipush 21, 2) := by decide +kernel
theorem dX9_init_218 : decode cX9_init 218 = .ok (.iconst 0, 1) := by decide +kernel
theorem dX9_init_219 : decode cX9_init 219 = .ok (.iastore, 1) := by decide +kernel
theorem dX9_init_220 : decode cX9_init 220 = .ok (.dup, 1) := by decide +kernel
theorem dX9_init_221 : decode cX9_init 221 = .ok (.bipush 22, 2) := by decide +kernel
theorem dX9_init_223 : decode cX9_init 223 = .ok (.iconst 0, 1) := by decide +kernel
theorem dX9_init_224 : decode cX9_init 224 = .ok (.iastore, 1) := by decide +kernel
theorem dX9_init_225 : decode cX9_init 225 = .ok (.dup, 1) := by decide +kernel
theorem dX9_init_226 : decode cX9_init 226 = .ok (.bipush 23, 2) := by decide +kernel
theorem dX9_init_228 : decode cX9_init 228 = .ok (.iconst 0, 1) := by decide +kernel
theorem dX9_init_229 : decode cX9_init 229 = .ok (.iastore, 1) := by decide +kernel
theorem dX9_init_230 : decode cX9_init 230 = .ok (.dup, 1) := by decide +kernel
theorem dX9_init_231 : decode cX9_init 231 = .ok (.bipush 24, 2) := by decide +kernel
theorem dX9_init_233 : decode cX9_init 233 = .ok (.iconst 0, 1) := by decide +kernel
theorem dX9_init_234 : decode cX9_init 234 = .ok (.iastore, 1) := by decide +kernel
theorem dX9_init_235 : decode cX9_init 235 = .ok (.dup, 1) := by decide +kernel
theorem dX9_init_236 : decode cX9_init 236 = .ok (.bipush 25, 2) := by decide +kernel
theorem dX9_init_238 : decode cX9_init 238 = .ok (.iconst 0, 1) := by decide +kernel
theorem dX9_init_239 : decode cX9_init 239 = .ok (.iastore, 1) := by decide +kernel
theorem dX9_init_240 : decode cX9_init 240 = .ok (.dup, 1) := by decide +kernel
theorem dX9_init_241 : decode cX9_init 241 = .ok (.bipush 26, 2) := by decide +kernel
theorem dX9_init_243 : decode cX9_init 243 = .ok (.iconst 0, 1) := by decide +kernel
theorem dX9_init_244 : decode cX9_init 244 = .ok (.iastore, 1) := by decide +kernel
theorem dX9_init_245 : decode cX9_init 245 = .ok (.dup, 1) := by decide +kernel
theorem dX9_init_246 : decode cX9_init 246 = .ok (.bipush 27, 2) := by decide +kernel
theorem dX9_init_248 : decode cX9_init 248 = .ok (.iconst 0, 1) := by decide +kernel
theorem dX9_init_249 : decode cX9_init 249 = .ok (.iastore, 1) := by decide +kernel
theorem dX9_init_250 : decode cX9_init 250 = .ok (.dup, 1) := by decide +kernel
theorem dX9_init_251 : decode cX9_init 251 = .ok (.bipush 28, 2) := by decide +kernel
theorem dX9_init_253 : decode cX9_init 253 = .ok (.iconst 0, 1) := by decide +kernel
theorem dX9_init_254 : decode cX9_init 254 = .ok (.iastore, 1) := by decide +kernel
theorem dX9_init_255 : decode cX9_init 255 = .ok (.dup, 1) := by decide +kernel
theorem dX9_init_256 : decode cX9_init 256 = .ok (.bipush 29, 2) := by decide +kernel
theorem dX9_init_258 : decode cX9_init 258 = .ok (.iconst 0, 1) := by decide +kernel
theorem dX9_init_259 : decode cX9_init 259 = .ok (.iastore, 1) := by decide +kernel
theorem dX9_init_260 : decode cX9_init 260 = .ok (.dup, 1) := by decide +kernel
theorem dX9_init_261 : decode cX9_init 261 = .ok (.bipush 30, 2) := by decide +kernel
theorem dX9_init_263 : decode cX9_init 263 = .ok (.iconst 0, 1) := by decide +kernel
theorem dX9_init_264 : decode cX9_init 264 = .ok (.iastore, 1) := by decide +kernel
theorem dX9_init_265 : decode cX9_init 265 = .ok (.dup, 1) := by decide +kernel
theorem dX9_init_266 : decode cX9_init 266 = .ok (.bipush 31, 2) := by decide +kernel
theorem dX9_init_268 : decode cX9_init 268 = .ok (.iconst 0, 1) := by decide +kernel
theorem dX9_init_269 : decode cX9_init 269 = .ok (.iastore, 1) := by decide +kernel
theorem dX9_init_270 : decode cX9_init 270 = .ok (.dup, 1) := by decide +kernel
theorem dX9_init_271 : decode cX9_init 271 = .ok (.bipush 32, 2) := by decide +kernel
theorem dX9_init_273 : decode cX9_init 273 = .ok (.iconst 0, 1) := by decide +kernel
theorem dX9_init_274 : decode cX9_init 274 = .ok (.iastore, 1) := by decide +kernel
theorem dX9_init_275 : decode cX9_init 275 = .ok (.dup, 1) := by decide +kernel
theorem dX9_init_276 : decode cX9_init 276 = .ok (.bipush 33, 2) := by decide +kernel
theorem dX9_init_278 : decode cX9_init 278 = .ok (.iconst 0, 1) := by decide +kernel
theorem dX9_init_279 : decode cX9_init 279 = .ok (.iastore, 1) := by decide +kernel
theorem dX9_init_280 : decode cX9_init 280 = .ok (.dup, 1) := by decide +kernel
theorem dX9_init_281 : decode cX9_init 281 = .ok (.bipush 34, 2) := by decide +kernel
theorem dX9_init_283 : decode cX9_init 283 = .ok (.iconst 0, 1) := by decide +kernel
theorem dX9_init_284 : decode cX9_init 284 = .ok (.iastore, 1) := by decide +kernel
theorem dX9_init_285 : decode cX9_init 285 = .ok (.dup, 1) := by decide +kernel
theorem dX9_init_286 : decode cX9_init 286 = .ok (.bipush 35, 2) := by decide +kernel
theorem dX9_init_288 : decode cX9_init 288 = .ok (.iconst 0, 1) := by decide +kernel
theorem dX9_init_289 : decode cX9_init 289 = .ok (.iastore, 1) := by decide +kernel
theorem dX9_init_290 : decode cX9_init 290 = .ok (.dup, 1) := by decide +kernel
theorem dX9_init_291 : decode cX9_init 291 = .ok (.bipush 36, 2) := by decide +kernel
theorem dX9_init_293 : decode cX9_init 293 = .ok (.iconst 0, 1) := by decide +kernel
theorem dX9_init_294 : decode cX9_init 294 = .ok (.iastore, 1) := by decide +kernel
theorem dX9_init_295 : decode cX9_init 295 = .ok (.dup, 1) := by decide +kernel
theorem dX9_init_296 : decode cX9_init 296 = .ok (.bipush 37, 2) := by decide +kernel
theorem dX9_init_298 : decode cX9_init 298 = .ok (.iconst 0, 1) := by decide +kernel
theorem dX9_init_299 : decode cX9_init 299 = .ok (.iastore, 1) := by decide +kernel
theorem dX9_init_300 : decode cX9_init 300 = .ok (.dup, 1) := by decide +kernel
theorem dX9_init_301 : decode cX9_init 301 = .ok (.bipush 38, 2) := by decide +kernel
theorem dX9_init_303 : decode cX9_init 303 = .ok (.iconst 0, 1) := by decide +kernel
theorem dX9_init_304 : decode cX9_init 304 = .ok (.iastore, 1) := by decide +kernel
theorem dX9_init_305 : decode cX9_init 305 = .ok (.dup, 1) := by decide +kernel
theorem dX9_init_306 : decode cX9_init 306 = .ok (.bipush 39, 2) := by decide +kernel
theorem dX9_init_308 : decode cX9_init 308 = .ok (.iconst 0, 1) := by decide +kernel
theorem dX9_init_309 : decode cX9_init 309 = .ok (.iastore, 1) := by decide +kernel
theorem dX9_init_310 : decode cX9_init 310 = .ok (.dup, 1) := by decide +kernel
theorem dX9_init_311 : decode cX9_init 311 = .ok (.bipush 40, 2) := by decide +kernel
theorem dX9_init_313 : decode cX9_init 313 = .ok (.iconst 0, 1) := by decide +kernel
theorem dX9_init_314 : decode cX9_init 314 = .ok (.iastore, 1) := by decide +kernel
theorem dX9_init_315 : decode cX9_init 315 = .ok (.dup, 1) := by decide +kernel
theorem dX9_init_316 : decode cX9_init 316 = .ok (.bipush 41, 2) := by decide +kernel
theorem dX9_init_318 : decode cX9_init 318 = .ok (.iconst 0, 1) := by decide +kernel
theorem dX9_init_319 : decode cX9_init 319 = .ok (.iastore, 1) := by decide +kernel
theorem dX9_init_320 : decode cX9_init 320 = .ok (.putfield 50, 3) := by decide +kernel
theorem dX9_init_323 : decode cX9_init 323 = .ok (.aload_n 0, 1) := by decide +kernel
theorem dX9_init_324 : decode cX9_init 324 = .ok (.sipush 500, 3) := by decide +kernel
theorem dX9_init_327 : decode cX9_init 327 = .ok (.newarray .byte, 2) := by decide +kernel
theorem dX9_init_329 : decode cX9_init 329 = .ok (.putfield 53, 3) := by decide +kernel
theorem dX9_init_332 : decode cX9_init 332 = .ok (.aload_n 0, 1) := by decide +kernel
theorem dX9_init_333 : decode cX9_init 333 = .ok (.sipush 500, 3) := by decide +kernel
theorem dX9_init_336 : decode cX9_init 336 = .ok (.newarray .byte, 2) := by decide +kernel
theorem dX9_init_338 : decode cX9_init 338 = .ok (.putfield 57, 3) := by decide +kernel
theorem dX9_init_341 : decode cX9_init 341 = .ok (.aload_n 0, 1) := by decide +kernel
theorem dX9_init_342 : decode cX9_init 342 = .ok (.iconst (-1), 1) := by decide +kernel
theorem dX9_init_343 : decode cX9_init 343 = .ok (.putfield 60, 3) := by decide +kernel
theorem dX9_init_346 : decode cX9_init 346 = .ok (.return_, 1) := by decide +kernel
theorem dX9_isIn_0 : decode cX9_isIn 0 = .ok (.iload_n 0, 1) := by decide +kernel
theorem dX9_isIn_1 : decode cX9_isIn 1 = .ok (.iload_n 1, 1) := by decide +kernel
theorem dX9_isIn_2 : decode cX9_isIn 2 = .ok (.if_icmp .lt 12, 3) := by decide +kernel
theorem dX9_isIn_5 : decode cX9_isIn 5 = .ok (.iload_n 0, 1) := by decide +kernel
theorem dX9_isIn_6 : decode cX9_isIn 6 = .ok (.iload_n 2, 1) := by decide +kernel
theorem dX9_isIn_7 : decode cX9_isIn 7 = .ok (.if_icmp .gt 7, 3) := by decide +kernel
theorem dX9_isIn_10 : decode cX9_isIn 10 = .ok (.iconst 1, 1) := by decide +kernel
theorem dX9_isIn_11 : decode cX9_isIn 11 = .ok (.goto 4, 3) := by decide +kernel
theorem dX9_isIn_14 : decode cX9_isIn 14 = .ok (.iconst 0, 1) := by decide +kernel
theorem dX9_isIn_15 : decode cX9_isIn 15 = .ok (.ireturn, 1) := by decide +kernel
theorem dX9_one_0 : decode cX9_one 0 = .ok (.iload_n 0, 1) := by decide +kernel
theorem dX9_one_1 : decode cX9_one 1 = .ok (.ifCond .eq 7, 3) := by decide +kernel
theorem dX9_one_4 : decode cX9_one 4 = .ok (.iconst 1, 1) := by decide +kernel
theorem dX9_one_5 : decode cX9_one 5 = .ok (.goto 4, 3) := by decide +kernel
theorem dX9_one_8 : decode cX9_one 8 = .ok (.iconst 0, 1) := by decide +kernel
theorem dX9_one_9 : decode cX9_one 9 = .ok (.ireturn, 1) := by decide +kernel
theorem dX9_isFile_0 : decode cX9_isFile 0 = .ok (.iload_n 1, 1) := by decide +kernel
theorem dX9_isFile_1 : decode cX9_isFile 1 = .ok (.iconst 0, 1) := by decide +kernel
theorem dX9_isFile_2 : decode cX9_isFile 2 = .ok (.iconst 1, 1) := by decide +kernel
theorem dX9_isFile_3 : decode cX9_isFile 3 = .ok (.invokestatic 64, 3) := by decide +kernel
theorem dX9_isFile_6 : decode cX9_isFile 6 = .ok (.ifCond .eq 23, 3) := by decide +kernel
theorem dX9_isFile_9 : decode cX9_isFile 9 = .ok (.iload_n 2, 1) := by decide +kernel
theorem dX9_isFile_10 : decode cX9_isFile 10 = .ok (.iconst 0, 1) := by decide +kernel
theorem dX9_isFile_11 : decode cX9_isFile 11 = .ok (.aload_n 0, 1) := by decide +kernel
theorem dX9_isFile_12 : decode cX9_isFile 12 = .ok (.getfield 7, 3) := by decide +kernel
theorem dX9_isFile_15 : decode cX9_isFile 15 = .ok (.iload_n 1, 1) := by decide +kernel
theorem dX9_isFile_16 : decode cX9_isFile 16 = .ok (.iaload, 1) := by decide +kernel
theorem dX9_isFile_17 : decode cX9_isFile 17 = .ok (.iconst 1, 1) := by decide +kernel
theorem dX9_isFile_18 : decode cX9_isFile 18 = .ok (.isub, 1) := by decide +kernel
theorem dX9_isFile_19 : decode cX9_isFile 19 = .ok (.invokestatic 64, 3) := by decide +kernel
theorem dX9_isFile_22 : decode cX9_isFile 22 = .ok (.ifCond .eq 7, 3) := by decide +kernel
theorem dX9_isFile_25 : decode cX9_isFile 25 = .ok (.iconst 1, 1) := by decide +kernel
theorem dX9_isFile_26 : decode cX9_isFile 26 = .ok (.goto 4, 3) := by decide +kernel
theorem dX9_isFile_29 : decode cX9_isFile 29 = .ok (.iconst 0, 1) := by decide +kernel
theorem dX9_isFile_30 : decode cX9_isFile 30 = .ok (.ireturn, 1) := by decide +kernel
theorem dX9_file_0 : decode cX9_file 0 = .ok (.iload_n 1, 1) := by decide +kernel
theorem dX9_file_1 : decode cX9_file 1 = .ok (.iconst 0, 1) := by decide +kernel
theorem dX9_file_2 : decode cX9_file 2 = .ok (.iconst 1, 1) := by decide +kernel
theorem dX9_file_3 : decode cX9_file 3 = .ok (.invokestatic 64, 3) := by decide +kernel
theorem dX9_file_6 : decode cX9_file 6 = .ok (.ifCond .eq 14, 3) := by decide +kernel
theorem dX9_file_9 : decode cX9_file 9 = .ok (.aload_n 0, 1) := by decide +kernel
theorem dX9_file_10 : decode cX9_file 10 = .ok (.getfield 7, 3) := by decide +kernel
theorem dX9_file_13 : decode cX9_file 13 = .ok (.iload_n 1, 1) := by decide +kernel
theorem dX9_file_14 : decode cX9_file 14 = .ok (.iaload, 1) := by decide +kernel
theorem dX9_file_15 : decode cX9_file 15 = .ok (.bipush 12, 2) := by decide +kernel
theorem dX9_file_17 : decode cX9_file 17 = .ok (.if_icmp .ne 5, 3) := by decide +kernel
theorem dX9_file_20 : decode cX9_file 20 = .ok (.iconst (-1), 1) := by decide +kernel
theorem dX9_file_21 : decode cX9_file 21 = .ok (.ireturn, 1) := by decide +kernel
theorem dX9_file_22 : decode cX9_file 22 = .ok (.aload_n 0, 1) := by decide +kernel
theorem dX9_file_23 : decode cX9_file 23 = .ok (.getfield 7, 3) := by decide +kernel
theorem dX9_file_26 : decode cX9_file 26 = .ok (.iload_n 1, 1) := by decide +kernel
theorem dX9_file_27 : decode cX9_file 27 = .ok (.iaload, 1) := by decide +kernel
theorem dX9_file_28 : decode cX9_file 28 = .ok (.istore_n 2, 1) := by decide +kernel
theorem dX9_file_29 : decode cX9_file 29 = .ok (.aload_n 0, 1) := by decide +kernel
theorem dX9_file_30 : decode cX9_file 30 = .ok (.getfield 7, 3) := by decide +kernel
theorem dX9_file_33 : decode cX9_file 33 = .ok (.iload_n 1, 1) := by decide +kernel
theorem dX9_file_34 : decode cX9_file 34 = .ok (.dup2, 1) := by decide +kernel
theorem dX9_file_35 : decode cX9_file 35 = .ok (.iaload, 1) := by decide +kernel
theorem dX9_file_36 : decode cX9_file 36 = .ok (.iconst 1, 1) := by decide +kernel
theorem dX9_file_37 : decode cX9_file 37 = .ok (.iadd, 1) := by decide +kernel
theorem dX9_file_38 : decode cX9_file 38 = .ok (.iastore, 1) := by decide +kernel
theorem dX9_file_39 : decode cX9_file 39 = .ok (.aload_n 0, 1) := by decide +kernel
theorem dX9_file_40 : decode cX9_file 40 = .ok (.getfield 19, 3) := by decide +kernel
theorem dX9_file_43 : decode cX9_file 43 = .ok (.bipush 12, 2) := by decide +kernel
theorem dX9_file_45 : decode cX9_file 45 = .ok (.iload_n 1, 1) := by decide +kernel
theorem dX9_file_46 : decode cX9_file 46 = .ok (.imul, 1) := by decide +kernel
theorem dX9_file_47 : decode cX9_file 47 = .ok (.iload_n 2, 1) := by decide +kernel
theorem dX9_file_48 : decode cX9_file 48 = .ok (.iadd, 1) := by decide +kernel
theorem dX9_file_49 : decode cX9_file 49 = .ok (.bipush 120, 2) := by decide +kernel
theorem dX9_file_51 : decode cX9_file 51 = .ok (.iastore, 1) := by decide +kernel
theorem dX9_file_52 : decode cX9_file 52 = .ok (.iload_n 1, 1) := by decide +kernel
theorem dX9_file_53 : decode cX9_file 53 = .ok (.iconst 1, 1) := by decide +kernel
theorem dX9_file_54 : decode cX9_file 54 = .ok (.if_icmp .ne 17, 3) := by decide +kernel
theorem dX9_file_57 : decode cX9_file 57 = .ok (.aload_n 0, 1) := by decide +kernel
theorem dX9_file_58 : decode cX9_file 58 = .ok (.getfield 25, 3) := by decide +kernel
theorem dX9_file_61 : decode cX9_file 61 = .ok (.iload_n 2, 1) := by decide +kernel
theorem dX9_file_62 : decode cX9_file 62 = .ok (.iload_n 2, 1) := by decide +kernel
theorem dX9_file_63 : decode cX9_file 63 = .ok (.iastore, 1) := by decide +kernel
theorem dX9_file_64 : decode cX9_file 64 = .ok (.aload_n 0, 1) := by decide +kernel
theorem dX9_file_65 : decode cX9_file 65 = .ok (.getfield 28, 3) := by decide +kernel
theorem dX9_file_68 : decode cX9_file 68 = .ok (.iload_n 2, 1) := by decide +kernel
theorem dX9_file_69 : decode cX9_file 69 = .ok (.iconst (-1), 1) := by decide +kernel
theorem dX9_file_70 : decode cX9_file 70 = .ok (.iastore, 1) := by decide +kernel
theorem dX9_file_71 : decode cX9_file 71 = .ok (.iload_n 2, 1) := by decide +kernel
theorem dX9_file_72 : decode cX9_file 72 = .ok (.ireturn, 1) := by decide +kernel
theorem dX9_mends_0 : decode cX9_mends 0 = .ok (.aload_n 0, 1) := by decide +kernel
theorem dX9_mends_1 : decode cX9_mends 1 = .ok (.getfield 13, 3) := by decide +kernel
theorem dX9_mends_4 : decode cX9_mends 4 = .ok (.bipush 19, 2) := by decide +kernel
theorem dX9_mends_6 : decode cX9_mends 6 = .ok (.bipush 12, 2) := by decide +kernel
theorem dX9_mends_8 : decode cX9_mends 8 = .ok (.iload_n 1, 1) := by decide +kernel
theorem dX9_mends_9 : decode cX9_mends 9 = .ok (.imul, 1) := by decide +kernel
theorem dX9_mends_10 : decode cX9_mends 10 = .ok (.iload_n 2, 1) := by decide +kernel
theorem dX9_mends_11 : decode cX9_mends 11 = .ok (.iadd, 1) := by decide +kernel
theorem dX9_mends_12 : decode cX9_mends 12 = .ok (.imul, 1) := by decide +kernel
theorem dX9_mends_13 : decode cX9_mends 13 = .ok (.iload_n 3, 1) := by decide +kernel
theorem dX9_mends_14 : decode cX9_mends 14 = .ok (.iadd, 1) := by decide +kernel
theorem dX9_mends_15 : decode cX9_mends 15 = .ok (.iload 4, 2) := by decide +kernel
theorem dX9_mends_17 : decode cX9_mends 17 = .ok (.iastore, 1) := by decide +kernel
theorem dX9_mends_18 : decode cX9_mends 18 = .ok (.iconst 1, 1) := by decide +kernel
theorem dX9_mends_19 : decode cX9_mends 19 = .ok (.ireturn, 1) := by decide +kernel
theorem dX9_sex_0 : decode cX9_sex 0 = .ok (.aload_n 0, 1) := by decide +kernel
theorem dX9_sex_1 : decode cX9_sex 1 = .ok (.iload_n 1, 1) := by decide +kernel
theorem dX9_sex_2 : decode cX9_sex 2 = .ok (.iload_n 2, 1) := by decide +kernel
theorem dX9_sex_3 : decode cX9_sex 3 = .ok (.invokevirtual 68, 3) := by decide +kernel
theorem dX9_sex_6 : decode cX9_sex 6 = .ok (.ifCond .eq 27, 3) := by decide +kernel
theorem dX9_sex_9 : decode cX9_sex 9 = .ok (.iload_n 3, 1) := by decide +kernel
theorem dX9_sex_10 : decode cX9_sex 10 = .ok (.iconst 0, 1) := by decide +kernel
theorem dX9_sex_11 : decode cX9_sex 11 = .ok (.iconst 2, 1) := by decide +kernel
theorem dX9_sex_12 : decode cX9_sex 12 = .ok (.invokestatic 64, 3) := by decide +kernel
theorem dX9_sex_15 : decode cX9_sex 15 = .ok (.ifCond .eq 18, 3) := by decide +kernel
theorem dX9_sex_18 : decode cX9_sex 18 = .ok (.aload_n 0, 1) := by decide +kernel
theorem dX9_sex_19 : decode cX9_sex 19 = .ok (.iload_n 1, 1) := by decide +kernel
theorem dX9_sex_20 : decode cX9_sex 20 = .ok (.iload_n 2, 1) := by decide +kernel
theorem dX9_sex_21 : decode cX9_sex 21 = .ok (.iconst 0, 1) := by decide +kernel
theorem dX9_sex_22 : decode cX9_sex 22 = .ok (.iload_n 3, 1) := by decide +kernel
theorem dX9_sex_23 : decode cX9_sex 23 = .ok (.invokevirtual 72, 3) := by decide +kernel
theorem dX9_sex_26 : decode cX9_sex 26 = .ok (.ifCond .eq 7, 3) := by decide +kernel
theorem dX9_sex_29 : decode cX9_sex 29 = .ok (.iconst 1, 1) := by decide +kernel
theorem dX9_sex_30 : decode cX9_sex 30 = .ok (.goto 4, 3) := by decide +kernel
theorem dX9_sex_33 : decode cX9_sex 33 = .ok (.iconst 0, 1) := by decide +kernel
theorem dX9_sex_34 : decode cX9_sex 34 = .ok (.ireturn, 1) := by decide +kernel
theorem dX9_age_0 : decode cX9_age 0 = .ok (.aload_n 0, 1) := by decide +kernel
theorem dX9_age_1 : decode cX9_age 1 = .ok (.iload_n 1, 1) := by decide +kernel
theorem dX9_age_2 : decode cX9_age 2 = .ok (.iload_n 2, 1) := by decide +kernel
theorem dX9_age_3 : decode cX9_age 3 = .ok (.invokevirtual 68, 3) := by decide +kernel
theorem dX9_age_6 : decode cX9_age 6 = .ok (.ifCond .eq 20, 3) := by decide +kernel
theorem dX9_age_9 : decode cX9_age 9 = .ok (.iload_n 3, 1) := by decide +kernel
theorem dX9_age_10 : decode cX9_age 10 = .ok (.ifCond .lt 16, 3) := by decide +kernel
theorem dX9_age_13 : decode cX9_age 13 = .ok (.iload_n 3, 1) := by decide +kernel
theorem dX9_age_14 : decode cX9_age 14 = .ok (.iload 4, 2) := by decide +kernel
theorem dX9_age_16 : decode cX9_age 16 = .ok (.if_icmp .gt 10, 3) := by decide +kernel
theorem dX9_age_19 : decode cX9_age 19 = .ok (.iload 4, 2) := by decide +kernel
theorem dX9_age_21 : decode cX9_age 21 = .ok (.bipush 120, 2) := by decide +kernel
theorem dX9_age_23 : decode cX9_age 23 = .ok (.if_icmp .le 5, 3) := by decide +kernel
theorem dX9_age_26 : decode cX9_age 26 = .ok (.iconst 0, 1) := by decide +kernel
theorem dX9_age_27 : decode cX9_age 27 = .ok (.ireturn, 1) := by decide +kernel
theorem dX9_age_28 : decode cX9_age 28 = .ok (.aload_n 0, 1) := by decide +kernel
theorem dX9_age_29 : decode cX9_age 29 = .ok (.getfield 16, 3) := by decide +kernel
theorem dX9_age_32 : decode cX9_age 32 = .ok (.bipush 12, 2) := by decide +kernel
theorem dX9_age_34 : decode cX9_age 34 = .ok (.iload_n 1, 1) := by decide +kernel
theorem dX9_age_35 : decode cX9_age 35 = .ok (.imul, 1) := by decide +kernel
theorem dX9_age_36 : decode cX9_age 36 = .ok (.iload_n 2, 1) := by decide +kernel
theorem dX9_age_37 : decode cX9_age 37 = .ok (.iadd, 1) := by decide +kernel
theorem dX9_age_38 : decode cX9_age 38 = .ok (.iload_n 3, 1) := by decide +kernel
theorem dX9_age_39 : decode cX9_age 39 = .ok (.iastore, 1) := by decide +kernel
theorem dX9_age_40 : decode cX9_age 40 = .ok (.aload_n 0, 1) := by decide +kernel
theorem dX9_age_41 : decode cX9_age 41 = .ok (.getfield 19, 3) := by decide +kernel
theorem dX9_age_44 : decode cX9_age 44 = .ok (.bipush 12, 2) := by decide +kernel
theorem dX9_age_46 : decode cX9_age 46 = .ok (.iload_n 1, 1) := by decide +kernel
theorem dX9_age_47 : decode cX9_age 47 = .ok (.imul, 1) := by decide +kernel
theorem dX9_age_48 : decode cX9_age 48 = .ok (.iload_n 2, 1) := by decide +kernel
theorem dX9_age_49 : decode cX9_age 49 = .ok (.iadd, 1) := by decide +kernel
theorem dX9_age_50 : decode cX9_age 50 = .ok (.iload 4, 2) := by decide +kernel
theorem dX9_age_52 : decode cX9_age 52 = .ok (.iastore, 1) := by decide +kernel
theorem dX9_age_53 : decode cX9_age 53 = .ok (.iconst 1, 1) := by decide +kernel
theorem dX9_age_54 : decode cX9_age 54 = .ok (.ireturn, 1) := by decide +kernel
theorem dX9_tooth_0 : decode cX9_tooth 0 = .ok (.aload_n 0, 1) := by decide +kernel
theorem dX9_tooth_1 : decode cX9_tooth 1 = .ok (.iload_n 1, 1) := by decide +kernel
theorem dX9_tooth_2 : decode cX9_tooth 2 = .ok (.iload_n 2, 1) := by decide +kernel
theorem dX9_tooth_3 : decode cX9_tooth 3 = .ok (.invokevirtual 68, 3) := by decide +kernel
theorem dX9_tooth_6 : decode cX9_tooth 6 = .ok (.ifCond .eq 41, 3) := by decide +kernel
theorem dX9_tooth_9 : decode cX9_tooth 9 = .ok (.iload_n 3, 1) := by decide +kernel
theorem dX9_tooth_10 : decode cX9_tooth 10 = .ok (.iconst 0, 1) := by decide +kernel
theorem dX9_tooth_11 : decode cX9_tooth 11 = .ok (.bipush 7, 2) := by decide +kernel
theorem dX9_tooth_13 : decode cX9_tooth 13 = .ok (.invokestatic 64, 3) := by decide +kernel
theorem dX9_tooth_16 : decode cX9_tooth 16 = .ok (.ifCond .eq 31, 3) := by decide +kernel
theorem dX9_tooth_19 : decode cX9_tooth 19 = .ok (.iload 4, 2) := by decide +kernel
end
section
theorem dX9_tooth_21 : decode cX9_tooth 21 = .ok (.iconst 0, 1) := by decide +kernel
theorem dX9_tooth_22 : decode cX9_tooth 22 = .ok (.iconst 3, 1) := by decide +kernel
theorem dX9_tooth_23 : decode cX9_tooth 23 = .ok (.invokestatic 64, 3) := by decide +kernel
theorem dX9_tooth_26 : decode cX9_tooth 26 = .ok (.ifCond .eq 21, 3) := by decide +kernel
theorem dX9_tooth_29 : decode cX9_tooth 29 = .ok (.aload_n 0, 1) := by decide +kernel
theorem dX9_tooth_30 : decode cX9_tooth 30 = .ok (.iload_n 1, 1) := by decide +kernel
theorem dX9_tooth_31 : decode cX9_tooth 31 = .ok (.iload_n 2, 1) := by decide +kernel
theorem dX9_tooth_32 : decode cX9_tooth 32 = .ok (.iconst 1, 1) := by decide +kernel
theorem dX9_tooth_33 : decode cX9_tooth 33 = .ok (.iload_n 3, 1) := by decide +kernel
theorem dX9_tooth_34 : decode cX9_tooth 34 = .ok (.iadd, 1) := by decide +kernel
theorem dX9_tooth_35 : decode cX9_tooth 35 = .ok (.iload 4, 2) := by decide +kernel
theorem dX9_tooth_37 : decode cX9_tooth 37 = .ok (.invokevirtual 72, 3) := by decide +kernel
theorem dX9_tooth_40 : decode cX9_tooth 40 = .ok (.ifCond .eq 7, 3) := by decide +kernel
theorem dX9_tooth_43 : decode cX9_tooth 43 = .ok (.iconst 1, 1) := by decide +kernel
theorem dX9_tooth_44 : decode cX9_tooth 44 = .ok (.goto 4, 3) := by decide +kernel
theorem dX9_tooth_47 : decode cX9_tooth 47 = .ok (.iconst 0, 1) := by decide +kernel
theorem dX9_tooth_48 : decode cX9_tooth 48 = .ok (.ireturn, 1) := by decide +kernel
theorem dX9_mark_0 : decode cX9_mark 0 = .ok (.aload_n 0, 1) := by decide +kernel
theorem dX9_mark_1 : decode cX9_mark 1 = .ok (.iload_n 1, 1) := by decide +kernel
theorem dX9_mark_2 : decode cX9_mark 2 = .ok (.iload_n 2, 1) := by decide +kernel
theorem dX9_mark_3 : decode cX9_mark 3 = .ok (.invokevirtual 68, 3) := by decide +kernel
theorem dX9_mark_6 : decode cX9_mark 6 = .ok (.ifCond .eq 42, 3) := by decide +kernel
theorem dX9_mark_9 : decode cX9_mark 9 = .ok (.iload_n 3, 1) := by decide +kernel
theorem dX9_mark_10 : decode cX9_mark 10 = .ok (.iconst 0, 1) := by decide +kernel
theorem dX9_mark_11 : decode cX9_mark 11 = .ok (.iconst 3, 1) := by decide +kernel
theorem dX9_mark_12 : decode cX9_mark 12 = .ok (.invokestatic 64, 3) := by decide +kernel
theorem dX9_mark_15 : decode cX9_mark 15 = .ok (.ifCond .eq 33, 3) := by decide +kernel
theorem dX9_mark_18 : decode cX9_mark 18 = .ok (.iload 4, 2) := by decide +kernel
theorem dX9_mark_20 : decode cX9_mark 20 = .ok (.iconst 0, 1) := by decide +kernel
theorem dX9_mark_21 : decode cX9_mark 21 = .ok (.bipush 9, 2) := by decide +kernel
theorem dX9_mark_23 : decode cX9_mark 23 = .ok (.invokestatic 64, 3) := by decide +kernel
theorem dX9_mark_26 : decode cX9_mark 26 = .ok (.ifCond .eq 22, 3) := by decide +kernel
theorem dX9_mark_29 : decode cX9_mark 29 = .ok (.aload_n 0, 1) := by decide +kernel
theorem dX9_mark_30 : decode cX9_mark 30 = .ok (.iload_n 1, 1) := by decide +kernel
theorem dX9_mark_31 : decode cX9_mark 31 = .ok (.iload_n 2, 1) := by decide +kernel
theorem dX9_mark_32 : decode cX9_mark 32 = .ok (.bipush 9, 2) := by decide +kernel
theorem dX9_mark_34 : decode cX9_mark 34 = .ok (.iload_n 3, 1) := by decide +kernel
theorem dX9_mark_35 : decode cX9_mark 35 = .ok (.iadd, 1) := by decide +kernel
theorem dX9_mark_36 : decode cX9_mark 36 = .ok (.iload 4, 2) := by decide +kernel
theorem dX9_mark_38 : decode cX9_mark 38 = .ok (.invokevirtual 72, 3) := by decide +kernel
theorem dX9_mark_41 : decode cX9_mark 41 = .ok (.ifCond .eq 7, 3) := by decide +kernel
theorem dX9_mark_44 : decode cX9_mark 44 = .ok (.iconst 1, 1) := by decide +kernel
theorem dX9_mark_45 : decode cX9_mark 45 = .ok (.goto 4, 3) := by decide +kernel
theorem dX9_mark_48 : decode cX9_mark 48 = .ok (.iconst 0, 1) := by decide +kernel
theorem dX9_mark_49 : decode cX9_mark 49 = .ok (.ireturn, 1) := by decide +kernel
theorem dX9_tissue_0 : decode cX9_tissue 0 = .ok (.iload_n 1, 1) := by decide +kernel
theorem dX9_tissue_1 : decode cX9_tissue 1 = .ok (.iconst 2, 1) := by decide +kernel
theorem dX9_tissue_2 : decode cX9_tissue 2 = .ok (.if_icmp .ne 7, 3) := by decide +kernel
theorem dX9_tissue_5 : decode cX9_tissue 5 = .ok (.iconst 1, 1) := by decide +kernel
theorem dX9_tissue_6 : decode cX9_tissue 6 = .ok (.goto 4, 3) := by decide +kernel
theorem dX9_tissue_9 : decode cX9_tissue 9 = .ok (.iconst 0, 1) := by decide +kernel
theorem dX9_tissue_10 : decode cX9_tissue 10 = .ok (.istore 6, 2) := by decide +kernel
theorem dX9_tissue_12 : decode cX9_tissue 12 = .ok (.aload_n 0, 1) := by decide +kernel
theorem dX9_tissue_13 : decode cX9_tissue 13 = .ok (.iload 6, 2) := by decide +kernel
theorem dX9_tissue_15 : decode cX9_tissue 15 = .ok (.ifCond .eq 7, 3) := by decide +kernel
theorem dX9_tissue_18 : decode cX9_tissue 18 = .ok (.iconst 0, 1) := by decide +kernel
theorem dX9_tissue_19 : decode cX9_tissue 19 = .ok (.goto 4, 3) := by decide +kernel
theorem dX9_tissue_22 : decode cX9_tissue 22 = .ok (.iload_n 1, 1) := by decide +kernel
theorem dX9_tissue_23 : decode cX9_tissue 23 = .ok (.iload_n 2, 1) := by decide +kernel
theorem dX9_tissue_24 : decode cX9_tissue 24 = .ok (.invokevirtual 68, 3) := by decide +kernel
theorem dX9_tissue_27 : decode cX9_tissue 27 = .ok (.ifCond .eq 39, 3) := by decide +kernel
theorem dX9_tissue_30 : decode cX9_tissue 30 = .ok (.iload_n 3, 1) := by decide +kernel
theorem dX9_tissue_31 : decode cX9_tissue 31 = .ok (.iconst 0, 1) := by decide +kernel
theorem dX9_tissue_32 : decode cX9_tissue 32 = .ok (.iconst 2, 1) := by decide +kernel
theorem dX9_tissue_33 : decode cX9_tissue 33 = .ok (.invokestatic 64, 3) := by decide +kernel
theorem dX9_tissue_36 : decode cX9_tissue 36 = .ok (.ifCond .eq 30, 3) := by decide +kernel
theorem dX9_tissue_39 : decode cX9_tissue 39 = .ok (.iload 4, 2) := by decide +kernel
theorem dX9_tissue_41 : decode cX9_tissue 41 = .ok (.ifCond .eq 27, 3) := by decide +kernel
theorem dX9_tissue_44 : decode cX9_tissue 44 = .ok (.iload 4, 2) := by decide +kernel
theorem dX9_tissue_46 : decode cX9_tissue 46 = .ok (.iconst 1, 1) := by decide +kernel
theorem dX9_tissue_47 : decode cX9_tissue 47 = .ok (.bipush 9, 2) := by decide +kernel
theorem dX9_tissue_49 : decode cX9_tissue 49 = .ok (.invokestatic 64, 3) := by decide +kernel
theorem dX9_tissue_52 : decode cX9_tissue 52 = .ok (.ifCond .eq 14, 3) := by decide +kernel
theorem dX9_tissue_55 : decode cX9_tissue 55 = .ok (.iload 5, 2) := by decide +kernel
theorem dX9_tissue_57 : decode cX9_tissue 57 = .ok (.iconst 1, 1) := by decide +kernel
theorem dX9_tissue_58 : decode cX9_tissue 58 = .ok (.bipush 9, 2) := by decide +kernel
theorem dX9_tissue_60 : decode cX9_tissue 60 = .ok (.invokestatic 64, 3) := by decide +kernel
theorem dX9_tissue_63 : decode cX9_tissue 63 = .ok (.ifCond .ne 5, 3) := by decide +kernel
theorem dX9_tissue_66 : decode cX9_tissue 66 = .ok (.iconst 0, 1) := by decide +kernel
theorem dX9_tissue_67 : decode cX9_tissue 67 = .ok (.ireturn, 1) := by decide +kernel
theorem dX9_tissue_68 : decode cX9_tissue 68 = .ok (.aload_n 0, 1) := by decide +kernel
theorem dX9_tissue_69 : decode cX9_tissue 69 = .ok (.iload 6, 2) := by decide +kernel
theorem dX9_tissue_71 : decode cX9_tissue 71 = .ok (.ifCond .eq 7, 3) := by decide +kernel
theorem dX9_tissue_74 : decode cX9_tissue 74 = .ok (.iconst 0, 1) := by decide +kernel
theorem dX9_tissue_75 : decode cX9_tissue 75 = .ok (.goto 4, 3) := by decide +kernel
theorem dX9_tissue_78 : decode cX9_tissue 78 = .ok (.iload_n 1, 1) := by decide +kernel
theorem dX9_tissue_79 : decode cX9_tissue 79 = .ok (.iload_n 2, 1) := by decide +kernel
theorem dX9_tissue_80 : decode cX9_tissue 80 = .ok (.iload 6, 2) := by decide +kernel
theorem dX9_tissue_82 : decode cX9_tissue 82 = .ok (.ifCond .eq 8, 3) := by decide +kernel
theorem dX9_tissue_85 : decode cX9_tissue 85 = .ok (.bipush 16, 2) := by decide +kernel
theorem dX9_tissue_87 : decode cX9_tissue 87 = .ok (.goto 5, 3) := by decide +kernel
theorem dX9_tissue_90 : decode cX9_tissue 90 = .ok (.bipush 13, 2) := by decide +kernel
theorem dX9_tissue_92 : decode cX9_tissue 92 = .ok (.iload_n 3, 1) := by decide +kernel
theorem dX9_tissue_93 : decode cX9_tissue 93 = .ok (.iadd, 1) := by decide +kernel
theorem dX9_tissue_94 : decode cX9_tissue 94 = .ok (.iload 4, 2) := by decide +kernel
theorem dX9_tissue_96 : decode cX9_tissue 96 = .ok (.ifCond .ne 7, 3) := by decide +kernel
theorem dX9_tissue_99 : decode cX9_tissue 99 = .ok (.iconst 0, 1) := by decide +kernel
theorem dX9_tissue_100 : decode cX9_tissue 100 = .ok (.goto 21, 3) := by decide +kernel
theorem dX9_tissue_103 : decode cX9_tissue 103 = .ok (.bipush 10, 2) := by decide +kernel
theorem dX9_tissue_105 : decode cX9_tissue 105 = .ok (.iload 4, 2) := by decide +kernel
theorem dX9_tissue_107 : decode cX9_tissue 107 = .ok (.iload 5, 2) := by decide +kernel
theorem dX9_tissue_109 : decode cX9_tissue 109 = .ok (.invokestatic 76, 3) := by decide +kernel
theorem dX9_tissue_112 : decode cX9_tissue 112 = .ok (.imul, 1) := by decide +kernel
theorem dX9_tissue_113 : decode cX9_tissue 113 = .ok (.iload 4, 2) := by decide +kernel
theorem dX9_tissue_115 : decode cX9_tissue 115 = .ok (.iload 5, 2) := by decide +kernel
theorem dX9_tissue_117 : decode cX9_tissue 117 = .ok (.invokestatic 82, 3) := by decide +kernel
theorem dX9_tissue_120 : decode cX9_tissue 120 = .ok (.iadd, 1) := by decide +kernel
theorem dX9_tissue_121 : decode cX9_tissue 121 = .ok (.invokevirtual 72, 3) := by decide +kernel
theorem dX9_tissue_124 : decode cX9_tissue 124 = .ok (.ireturn, 1) := by decide +kernel
theorem dX9_piecesOf_0 : decode cX9_piecesOf 0 = .ok (.iconst 0, 1) := by decide +kernel
theorem dX9_piecesOf_1 : decode cX9_piecesOf 1 = .ok (.istore_n 2, 1) := by decide +kernel
theorem dX9_piecesOf_2 : decode cX9_piecesOf 2 = .ok (.iconst 0, 1) := by decide +kernel
theorem dX9_piecesOf_3 : decode cX9_piecesOf 3 = .ok (.istore_n 3, 1) := by decide +kernel
theorem dX9_piecesOf_4 : decode cX9_piecesOf 4 = .ok (.iload_n 3, 1) := by decide +kernel
theorem dX9_piecesOf_5 : decode cX9_piecesOf 5 = .ok (.aload_n 0, 1) := by decide +kernel
theorem dX9_piecesOf_6 : decode cX9_piecesOf 6 = .ok (.getfield 7, 3) := by decide +kernel
theorem dX9_piecesOf_9 : decode cX9_piecesOf 9 = .ok (.iconst 1, 1) := by decide +kernel
theorem dX9_piecesOf_10 : decode cX9_piecesOf 10 = .ok (.iaload, 1) := by decide +kernel
theorem dX9_piecesOf_11 : decode cX9_piecesOf 11 = .ok (.if_icmp .ge 28, 3) := by decide +kernel
theorem dX9_piecesOf_14 : decode cX9_piecesOf 14 = .ok (.aload_n 0, 1) := by decide +kernel
theorem dX9_piecesOf_15 : decode cX9_piecesOf 15 = .ok (.getfield 25, 3) := by decide +kernel
theorem dX9_piecesOf_18 : decode cX9_piecesOf 18 = .ok (.iload_n 3, 1) := by decide +kernel
theorem dX9_piecesOf_19 : decode cX9_piecesOf 19 = .ok (.iaload, 1) := by decide +kernel
theorem dX9_piecesOf_20 : decode cX9_piecesOf 20 = .ok (.iload_n 1, 1) := by decide +kernel
theorem dX9_piecesOf_21 : decode cX9_piecesOf 21 = .ok (.if_icmp .ne 12, 3) := by decide +kernel
theorem dX9_piecesOf_24 : decode cX9_piecesOf 24 = .ok (.iload_n 2, 1) := by decide +kernel
theorem dX9_piecesOf_25 : decode cX9_piecesOf 25 = .ok (.aload_n 0, 1) := by decide +kernel
theorem dX9_piecesOf_26 : decode cX9_piecesOf 26 = .ok (.getfield 22, 3) := by decide +kernel
theorem dX9_piecesOf_29 : decode cX9_piecesOf 29 = .ok (.iload_n 3, 1) := by decide +kernel
theorem dX9_piecesOf_30 : decode cX9_piecesOf 30 = .ok (.iaload, 1) := by decide +kernel
theorem dX9_piecesOf_31 : decode cX9_piecesOf 31 = .ok (.ior, 1) := by decide +kernel
theorem dX9_piecesOf_32 : decode cX9_piecesOf 32 = .ok (.istore_n 2, 1) := by decide +kernel
theorem dX9_piecesOf_33 : decode cX9_piecesOf 33 = .ok (.iinc 3 1, 3) := by decide +kernel
theorem dX9_piecesOf_36 : decode cX9_piecesOf 36 = .ok (.goto (-32), 3) := by decide +kernel
theorem dX9_piecesOf_39 : decode cX9_piecesOf 39 = .ok (.iload_n 2, 1) := by decide +kernel
theorem dX9_piecesOf_40 : decode cX9_piecesOf 40 = .ok (.ireturn, 1) := by decide +kernel
theorem dX9_pieces_0 : decode cX9_pieces 0 = .ok (.aload_n 0, 1) := by decide +kernel
theorem dX9_pieces_1 : decode cX9_pieces 1 = .ok (.iconst 1, 1) := by decide +kernel
theorem dX9_pieces_2 : decode cX9_pieces 2 = .ok (.iload_n 1, 1) := by decide +kernel
theorem dX9_pieces_3 : decode cX9_pieces 3 = .ok (.invokevirtual 68, 3) := by decide +kernel
theorem dX9_pieces_6 : decode cX9_pieces 6 = .ok (.ifCond .eq 14, 3) := by decide +kernel
theorem dX9_pieces_9 : decode cX9_pieces 9 = .ok (.iload_n 2, 1) := by decide +kernel
theorem dX9_pieces_10 : decode cX9_pieces 10 = .ok (.iconst 0, 1) := by decide +kernel
theorem dX9_pieces_11 : decode cX9_pieces 11 = .ok (.sipush 255, 3) := by decide +kernel
theorem dX9_pieces_14 : decode cX9_pieces 14 = .ok (.invokestatic 64, 3) := by decide +kernel
theorem dX9_pieces_17 : decode cX9_pieces 17 = .ok (.ifCond .ne 5, 3) := by decide +kernel
theorem dX9_pieces_20 : decode cX9_pieces 20 = .ok (.iconst 0, 1) := by decide +kernel
theorem dX9_pieces_21 : decode cX9_pieces 21 = .ok (.ireturn, 1) := by decide +kernel
theorem dX9_pieces_22 : decode cX9_pieces 22 = .ok (.aload_n 0, 1) := by decide +kernel
theorem dX9_pieces_23 : decode cX9_pieces 23 = .ok (.getfield 22, 3) := by decide +kernel
theorem dX9_pieces_26 : decode cX9_pieces 26 = .ok (.iload_n 1, 1) := by decide +kernel
theorem dX9_pieces_27 : decode cX9_pieces 27 = .ok (.iaload, 1) := by decide +kernel
theorem dX9_pieces_28 : decode cX9_pieces 28 = .ok (.istore_n 3, 1) := by decide +kernel
theorem dX9_pieces_29 : decode cX9_pieces 29 = .ok (.aload_n 0, 1) := by decide +kernel
theorem dX9_pieces_30 : decode cX9_pieces 30 = .ok (.getfield 22, 3) := by decide +kernel
theorem dX9_pieces_33 : decode cX9_pieces 33 = .ok (.iload_n 1, 1) := by decide +kernel
theorem dX9_pieces_34 : decode cX9_pieces 34 = .ok (.iconst 0, 1) := by decide +kernel
theorem dX9_pieces_35 : decode cX9_pieces 35 = .ok (.iastore, 1) := by decide +kernel
theorem dX9_pieces_36 : decode cX9_pieces 36 = .ok (.aload_n 0, 1) := by decide +kernel
theorem dX9_pieces_37 : decode cX9_pieces 37 = .ok (.aload_n 0, 1) := by decide +kernel
theorem dX9_pieces_38 : decode cX9_pieces 38 = .ok (.getfield 25, 3) := by decide +kernel
theorem dX9_pieces_41 : decode cX9_pieces 41 = .ok (.iload_n 1, 1) := by decide +kernel
theorem dX9_pieces_42 : decode cX9_pieces 42 = .ok (.iaload, 1) := by decide +kernel
theorem dX9_pieces_43 : decode cX9_pieces 43 = .ok (.invokevirtual 85, 3) := by decide +kernel
theorem dX9_pieces_46 : decode cX9_pieces 46 = .ok (.iload_n 2, 1) := by decide +kernel
theorem dX9_pieces_47 : decode cX9_pieces 47 = .ok (.iand, 1) := by decide +kernel
theorem dX9_pieces_48 : decode cX9_pieces 48 = .ok (.ifCond .eq 7, 3) := by decide +kernel
theorem dX9_pieces_51 : decode cX9_pieces 51 = .ok (.iconst 1, 1) := by decide +kernel
theorem dX9_pieces_52 : decode cX9_pieces 52 = .ok (.goto 4, 3) := by decide +kernel
theorem dX9_pieces_55 : decode cX9_pieces 55 = .ok (.iconst 0, 1) := by decide +kernel
theorem dX9_pieces_56 : decode cX9_pieces 56 = .ok (.istore 4, 2) := by decide +kernel
theorem dX9_pieces_58 : decode cX9_pieces 58 = .ok (.aload_n 0, 1) := by decide +kernel
theorem dX9_pieces_59 : decode cX9_pieces 59 = .ok (.getfield 22, 3) := by decide +kernel
theorem dX9_pieces_62 : decode cX9_pieces 62 = .ok (.iload_n 1, 1) := by decide +kernel
theorem dX9_pieces_63 : decode cX9_pieces 63 = .ok (.iload 4, 2) := by decide +kernel
theorem dX9_pieces_65 : decode cX9_pieces 65 = .ok (.ifCond .eq 7, 3) := by decide +kernel
theorem dX9_pieces_68 : decode cX9_pieces 68 = .ok (.iload_n 3, 1) := by decide +kernel
theorem dX9_pieces_69 : decode cX9_pieces 69 = .ok (.goto 4, 3) := by decide +kernel
theorem dX9_pieces_72 : decode cX9_pieces 72 = .ok (.iload_n 2, 1) := by decide +kernel
theorem dX9_pieces_73 : decode cX9_pieces 73 = .ok (.iastore, 1) := by decide +kernel
theorem dX9_pieces_74 : decode cX9_pieces 74 = .ok (.iload 4, 2) := by decide +kernel
theorem dX9_pieces_76 : decode cX9_pieces 76 = .ok (.ifCond .ne 7, 3) := by decide +kernel
theorem dX9_pieces_79 : decode cX9_pieces 79 = .ok (.iconst 1, 1) := by decide +kernel
theorem dX9_pieces_80 : decode cX9_pieces 80 = .ok (.goto 4, 3) := by decide +kernel
theorem dX9_pieces_83 : decode cX9_pieces 83 = .ok (.iconst 0, 1) := by decide +kernel
theorem dX9_pieces_84 : decode cX9_pieces 84 = .ok (.ireturn, 1) := by decide +kernel
theorem dX9_ofBody_0 : decode cX9_ofBody 0 = .ok (.iload_n 1, 1) := by decide +kernel
theorem dX9_ofBody_1 : decode cX9_ofBody 1 = .ok (.istore_n 3, 1) := by decide +kernel
theorem dX9_ofBody_2 : decode cX9_ofBody 2 = .ok (.iload_n 3, 1) := by decide +kernel
theorem dX9_ofBody_3 : decode cX9_ofBody 3 = .ok (.aload_n 0, 1) := by decide +kernel
theorem dX9_ofBody_4 : decode cX9_ofBody 4 = .ok (.getfield 7, 3) := by decide +kernel
theorem dX9_ofBody_7 : decode cX9_ofBody 7 = .ok (.iconst 1, 1) := by decide +kernel
theorem dX9_ofBody_8 : decode cX9_ofBody 8 = .ok (.iaload, 1) := by decide +kernel
theorem dX9_ofBody_9 : decode cX9_ofBody 9 = .ok (.if_icmp .ge 43, 3) := by decide +kernel
theorem dX9_ofBody_12 : decode cX9_ofBody 12 = .ok (.aload_n 0, 1) := by decide +kernel
theorem dX9_ofBody_13 : decode cX9_ofBody 13 = .ok (.getfield 13, 3) := by decide +kernel
theorem dX9_ofBody_16 : decode cX9_ofBody 16 = .ok (.bipush 19, 2) := by decide +kernel
theorem dX9_ofBody_18 : decode cX9_ofBody 18 = .ok (.bipush 12, 2) := by decide +kernel
theorem dX9_ofBody_20 : decode cX9_ofBody 20 = .ok (.iload_n 3, 1) := by decide +kernel
theorem dX9_ofBody_21 : decode cX9_ofBody 21 = .ok (.iadd, 1) := by decide +kernel
theorem dX9_ofBody_22 : decode cX9_ofBody 22 = .ok (.imul, 1) := by decide +kernel
theorem dX9_ofBody_23 : decode cX9_ofBody 23 = .ok (.iload_n 2, 1) := by decide +kernel
theorem dX9_ofBody_24 : decode cX9_ofBody 24 = .ok (.iadd, 1) := by decide +kernel
theorem dX9_ofBody_25 : decode cX9_ofBody 25 = .ok (.iaload, 1) := by decide +kernel
theorem dX9_ofBody_26 : decode cX9_ofBody 26 = .ok (.istore 4, 2) := by decide +kernel
theorem dX9_ofBody_28 : decode cX9_ofBody 28 = .ok (.aload_n 0, 1) := by decide +kernel
theorem dX9_ofBody_29 : decode cX9_ofBody 29 = .ok (.getfield 25, 3) := by decide +kernel
theorem dX9_ofBody_32 : decode cX9_ofBody 32 = .ok (.iload_n 3, 1) := by decide +kernel
theorem dX9_ofBody_33 : decode cX9_ofBody 33 = .ok (.iaload, 1) := by decide +kernel
theorem dX9_ofBody_34 : decode cX9_ofBody 34 = .ok (.iload_n 1, 1) := by decide +kernel
theorem dX9_ofBody_35 : decode cX9_ofBody 35 = .ok (.if_icmp .ne 11, 3) := by decide +kernel
theorem dX9_ofBody_38 : decode cX9_ofBody 38 = .ok (.iload 4, 2) := by decide +kernel
theorem dX9_ofBody_40 : decode cX9_ofBody 40 = .ok (.ifCond .eq 6, 3) := by decide +kernel
theorem dX9_ofBody_43 : decode cX9_ofBody 43 = .ok (.iload 4, 2) := by decide +kernel
theorem dX9_ofBody_45 : decode cX9_ofBody 45 = .ok (.ireturn, 1) := by decide +kernel
theorem dX9_ofBody_46 : decode cX9_ofBody 46 = .ok (.iinc 3 1, 3) := by decide +kernel
theorem dX9_ofBody_49 : decode cX9_ofBody 49 = .ok (.goto (-47), 3) := by decide +kernel
theorem dX9_ofBody_52 : decode cX9_ofBody 52 = .ok (.iconst 0, 1) := by decide +kernel
theorem dX9_ofBody_53 : decode cX9_ofBody 53 = .ok (.ireturn, 1) := by decide +kernel
theorem dX9_ageOf_0 : decode cX9_ageOf 0 = .ok (.iload_n 2, 1) := by decide +kernel
theorem dX9_ageOf_1 : decode cX9_ageOf 1 = .ok (.ifCond .eq 8, 3) := by decide +kernel
theorem dX9_ageOf_4 : decode cX9_ageOf 4 = .ok (.bipush 120, 2) := by decide +kernel
theorem dX9_ageOf_6 : decode cX9_ageOf 6 = .ok (.goto 4, 3) := by decide +kernel
theorem dX9_ageOf_9 : decode cX9_ageOf 9 = .ok (.iconst 0, 1) := by decide +kernel
theorem dX9_ageOf_10 : decode cX9_ageOf 10 = .ok (.istore_n 3, 1) := by decide +kernel
theorem dX9_ageOf_11 : decode cX9_ageOf 11 = .ok (.iload_n 1, 1) := by decide +kernel
theorem dX9_ageOf_12 : decode cX9_ageOf 12 = .ok (.istore 4, 2) := by decide +kernel
theorem dX9_ageOf_14 : decode cX9_ageOf 14 = .ok (.iload 4, 2) := by decide +kernel
theorem dX9_ageOf_16 : decode cX9_ageOf 16 = .ok (.aload_n 0, 1) := by decide +kernel
theorem dX9_ageOf_17 : decode cX9_ageOf 17 = .ok (.getfield 7, 3) := by decide +kernel
theorem dX9_ageOf_20 : decode cX9_ageOf 20 = .ok (.iconst 1, 1) := by decide +kernel
theorem dX9_ageOf_21 : decode cX9_ageOf 21 = .ok (.iaload, 1) := by decide +kernel
theorem dX9_ageOf_22 : decode cX9_ageOf 22 = .ok (.if_icmp .ge 59, 3) := by decide +kernel
theorem dX9_ageOf_25 : decode cX9_ageOf 25 = .ok (.aload_n 0, 1) := by decide +kernel
theorem dX9_ageOf_26 : decode cX9_ageOf 26 = .ok (.getfield 25, 3) := by decide +kernel
theorem dX9_ageOf_29 : decode cX9_ageOf 29 = .ok (.iload 4, 2) := by decide +kernel
theorem dX9_ageOf_31 : decode cX9_ageOf 31 = .ok (.iaload, 1) := by decide +kernel
theorem dX9_ageOf_32 : decode cX9_ageOf 32 = .ok (.iload_n 1, 1) := by decide +kernel
theorem dX9_ageOf_33 : decode cX9_ageOf 33 = .ok (.if_icmp .eq 6, 3) := by decide +kernel
theorem dX9_ageOf_36 : decode cX9_ageOf 36 = .ok (.goto 39, 3) := by decide +kernel
theorem dX9_ageOf_39 : decode cX9_ageOf 39 = .ok (.iload_n 2, 1) := by decide +kernel
theorem dX9_ageOf_40 : decode cX9_ageOf 40 = .ok (.ifCond .eq 20, 3) := by decide +kernel
theorem dX9_ageOf_43 : decode cX9_ageOf 43 = .ok (.iload_n 3, 1) := by decide +kernel
theorem dX9_ageOf_44 : decode cX9_ageOf 44 = .ok (.aload_n 0, 1) := by decide +kernel
theorem dX9_ageOf_45 : decode cX9_ageOf 45 = .ok (.getfield 19, 3) := by decide +kernel
theorem dX9_ageOf_48 : decode cX9_ageOf 48 = .ok (.bipush 12, 2) := by decide +kernel
theorem dX9_ageOf_50 : decode cX9_ageOf 50 = .ok (.iload 4, 2) := by decide +kernel
theorem dX9_ageOf_52 : decode cX9_ageOf 52 = .ok (.iadd, 1) := by decide +kernel
theorem dX9_ageOf_53 : decode cX9_ageOf 53 = .ok (.iaload, 1) := by decide +kernel
theorem dX9_ageOf_54 : decode cX9_ageOf 54 = .ok (.invokestatic 76, 3) := by decide +kernel
theorem dX9_ageOf_57 : decode cX9_ageOf 57 = .ok (.goto 17, 3) := by decide +kernel
theorem dX9_ageOf_60 : decode cX9_ageOf 60 = .ok (.iload_n 3, 1) := by decide +kernel
theorem dX9_ageOf_61 : decode cX9_ageOf 61 = .ok (.aload_n 0, 1) := by decide +kernel
theorem dX9_ageOf_62 : decode cX9_ageOf 62 = .ok (.getfield 16, 3) := by decide +kernel
theorem dX9_ageOf_65 : decode cX9_ageOf 65 = .ok (.bipush 12, 2) := by decide +kernel
theorem dX9_ageOf_67 : decode cX9_ageOf 67 = .ok (.iload 4, 2) := by decide +kernel
theorem dX9_ageOf_69 : decode cX9_ageOf 69 = .ok (.iadd, 1) := by decide +kernel
theorem dX9_ageOf_70 : decode cX9_ageOf 70 = .ok (.iaload, 1) := by decide +kernel
theorem dX9_ageOf_71 : decode cX9_ageOf 71 = .ok (.invokestatic 82, 3) := by decide +kernel
theorem dX9_ageOf_74 : decode cX9_ageOf 74 = .ok (.istore_n 3, 1) := by decide +kernel
theorem dX9_ageOf_75 : decode cX9_ageOf 75 = .ok (.iinc 4 1, 3) := by decide +kernel
theorem dX9_ageOf_78 : decode cX9_ageOf 78 = .ok (.goto (-64), 3) := by decide +kernel
theorem dX9_ageOf_81 : decode cX9_ageOf 81 = .ok (.iload_n 3, 1) := by decide +kernel
theorem dX9_ageOf_82 : decode cX9_ageOf 82 = .ok (.ireturn, 1) := by decide +kernel
theorem dX9_areUnlike_0 : decode cX9_areUnlike 0 = .ok (.iload_n 0, 1) := by decide +kernel
theorem dX9_areUnlike_1 : decode cX9_areUnlike 1 = .ok (.ifCond .eq 16, 3) := by decide +kernel
theorem dX9_areUnlike_4 : decode cX9_areUnlike 4 = .ok (.iload_n 1, 1) := by decide +kernel
theorem dX9_areUnlike_5 : decode cX9_areUnlike 5 = .ok (.ifCond .eq 12, 3) := by decide +kernel
theorem dX9_areUnlike_8 : decode cX9_areUnlike 8 = .ok (.iload_n 0, 1) := by decide +kernel
theorem dX9_areUnlike_9 : decode cX9_areUnlike 9 = .ok (.iload_n 1, 1) := by decide +kernel
theorem dX9_areUnlike_10 : decode cX9_areUnlike 10 = .ok (.if_icmp .eq 7, 3) := by decide +kernel
theorem dX9_areUnlike_13 : decode cX9_areUnlike 13 = .ok (.iconst 1, 1) := by decide +kernel
theorem dX9_areUnlike_14 : decode cX9_areUnlike 14 = .ok (.goto 4, 3) := by decide +kernel
theorem dX9_areUnlike_17 : decode cX9_areUnlike 17 = .ok (.iconst 0, 1) := by decide +kernel
theorem dX9_areUnlike_18 : decode cX9_areUnlike 18 = .ok (.ireturn, 1) := by decide +kernel
theorem dX9_unfit_0 : decode cX9_unfit 0 = .ok (.aload_n 0, 1) := by decide +kernel
theorem dX9_unfit_1 : decode cX9_unfit 1 = .ok (.iconst 1, 1) := by decide +kernel
theorem dX9_unfit_2 : decode cX9_unfit 2 = .ok (.iload_n 1, 1) := by decide +kernel
theorem dX9_unfit_3 : decode cX9_unfit 3 = .ok (.invokevirtual 68, 3) := by decide +kernel
theorem dX9_unfit_6 : decode cX9_unfit 6 = .ok (.ifCond .eq 27, 3) := by decide +kernel
theorem dX9_unfit_9 : decode cX9_unfit 9 = .ok (.aload_n 0, 1) := by decide +kernel
theorem dX9_unfit_10 : decode cX9_unfit 10 = .ok (.iconst 1, 1) := by decide +kernel
theorem dX9_unfit_11 : decode cX9_unfit 11 = .ok (.iload_n 2, 1) := by decide +kernel
theorem dX9_unfit_12 : decode cX9_unfit 12 = .ok (.invokevirtual 68, 3) := by decide +kernel
theorem dX9_unfit_15 : decode cX9_unfit 15 = .ok (.ifCond .eq 18, 3) := by decide +kernel
theorem dX9_unfit_18 : decode cX9_unfit 18 = .ok (.aload_n 0, 1) := by decide +kernel
theorem dX9_unfit_19 : decode cX9_unfit 19 = .ok (.getfield 25, 3) := by decide +kernel
theorem dX9_unfit_22 : decode cX9_unfit 22 = .ok (.iload_n 1, 1) := by decide +kernel
theorem dX9_unfit_23 : decode cX9_unfit 23 = .ok (.iaload, 1) := by decide +kernel
theorem dX9_unfit_24 : decode cX9_unfit 24 = .ok (.aload_n 0, 1) := by decide +kernel
theorem dX9_unfit_25 : decode cX9_unfit 25 = .ok (.getfield 25, 3) := by decide +kernel
theorem dX9_unfit_28 : decode cX9_unfit 28 = .ok (.iload_n 2, 1) := by decide +kernel
theorem dX9_unfit_29 : decode cX9_unfit 29 = .ok (.iaload, 1) := by decide +kernel
theorem dX9_unfit_30 : decode cX9_unfit 30 = .ok (.if_icmp .ne 5, 3) := by decide +kernel
theorem dX9_unfit_33 : decode cX9_unfit 33 = .ok (.iconst 1, 1) := by decide +kernel
theorem dX9_unfit_34 : decode cX9_unfit 34 = .ok (.ireturn, 1) := by decide +kernel
theorem dX9_unfit_35 : decode cX9_unfit 35 = .ok (.aload_n 0, 1) := by decide +kernel
theorem dX9_unfit_36 : decode cX9_unfit 36 = .ok (.getfield 25, 3) := by decide +kernel
theorem dX9_unfit_39 : decode cX9_unfit 39 = .ok (.iload_n 1, 1) := by decide +kernel
theorem dX9_unfit_40 : decode cX9_unfit 40 = .ok (.iaload, 1) := by decide +kernel
theorem dX9_unfit_41 : decode cX9_unfit 41 = .ok (.istore_n 3, 1) := by decide +kernel
theorem dX9_unfit_42 : decode cX9_unfit 42 = .ok (.aload_n 0, 1) := by decide +kernel
theorem dX9_unfit_43 : decode cX9_unfit 43 = .ok (.getfield 25, 3) := by decide +kernel
theorem dX9_unfit_46 : decode cX9_unfit 46 = .ok (.iload_n 2, 1) := by decide +kernel
theorem dX9_unfit_47 : decode cX9_unfit 47 = .ok (.iaload, 1) := by decide +kernel
theorem dX9_unfit_48 : decode cX9_unfit 48 = .ok (.istore 4, 2) := by decide +kernel
theorem dX9_unfit_50 : decode cX9_unfit 50 = .ok (.aload_n 0, 1) := by decide +kernel
theorem dX9_unfit_51 : decode cX9_unfit 51 = .ok (.iload_n 3, 1) := by decide +kernel
theorem dX9_unfit_52 : decode cX9_unfit 52 = .ok (.invokevirtual 85, 3) := by decide +kernel
theorem dX9_unfit_55 : decode cX9_unfit 55 = .ok (.aload_n 0, 1) := by decide +kernel
theorem dX9_unfit_56 : decode cX9_unfit 56 = .ok (.iload 4, 2) := by decide +kernel
theorem dX9_unfit_58 : decode cX9_unfit 58 = .ok (.invokevirtual 85, 3) := by decide +kernel
theorem dX9_unfit_61 : decode cX9_unfit 61 = .ok (.iand, 1) := by decide +kernel
theorem dX9_unfit_62 : decode cX9_unfit 62 = .ok (.ifCond .eq 5, 3) := by decide +kernel
theorem dX9_unfit_65 : decode cX9_unfit 65 = .ok (.iconst 2, 1) := by decide +kernel
theorem dX9_unfit_66 : decode cX9_unfit 66 = .ok (.ireturn, 1) := by decide +kernel
theorem dX9_unfit_67 : decode cX9_unfit 67 = .ok (.aload_n 0, 1) := by decide +kernel
theorem dX9_unfit_68 : decode cX9_unfit 68 = .ok (.iload_n 3, 1) := by decide +kernel
theorem dX9_unfit_69 : decode cX9_unfit 69 = .ok (.iconst 0, 1) := by decide +kernel
theorem dX9_unfit_70 : decode cX9_unfit 70 = .ok (.invokevirtual 89, 3) := by decide +kernel
theorem dX9_unfit_73 : decode cX9_unfit 73 = .ok (.aload_n 0, 1) := by decide +kernel
theorem dX9_unfit_74 : decode cX9_unfit 74 = .ok (.iload 4, 2) := by decide +kernel
theorem dX9_unfit_76 : decode cX9_unfit 76 = .ok (.iconst 0, 1) := by decide +kernel
theorem dX9_unfit_77 : decode cX9_unfit 77 = .ok (.invokevirtual 89, 3) := by decide +kernel
theorem dX9_unfit_80 : decode cX9_unfit 80 = .ok (.invokestatic 92, 3) := by decide +kernel
theorem dX9_unfit_83 : decode cX9_unfit 83 = .ok (.ifCond .eq 5, 3) := by decide +kernel
theorem dX9_unfit_86 : decode cX9_unfit 86 = .ok (.iconst 3, 1) := by decide +kernel
theorem dX9_unfit_87 : decode cX9_unfit 87 = .ok (.ireturn, 1) := by decide +kernel
theorem dX9_unfit_88 : decode cX9_unfit 88 = .ok (.aload_n 0, 1) := by decide +kernel
theorem dX9_unfit_89 : decode cX9_unfit 89 = .ok (.iload_n 3, 1) := by decide +kernel
theorem dX9_unfit_90 : decode cX9_unfit 90 = .ok (.iconst 0, 1) := by decide +kernel
theorem dX9_unfit_91 : decode cX9_unfit 91 = .ok (.invokevirtual 95, 3) := by decide +kernel
theorem dX9_unfit_94 : decode cX9_unfit 94 = .ok (.aload_n 0, 1) := by decide +kernel
theorem dX9_unfit_95 : decode cX9_unfit 95 = .ok (.iload 4, 2) := by decide +kernel
theorem dX9_unfit_97 : decode cX9_unfit 97 = .ok (.iconst 0, 1) := by decide +kernel
theorem dX9_unfit_98 : decode cX9_unfit 98 = .ok (.invokevirtual 95, 3) := by decide +kernel
theorem dX9_unfit_101 : decode cX9_unfit 101 = .ok (.invokestatic 82, 3) := by decide +kernel
theorem dX9_unfit_104 : decode cX9_unfit 104 = .ok (.aload_n 0, 1) := by decide +kernel
theorem dX9_unfit_105 : decode cX9_unfit 105 = .ok (.iload_n 3, 1) := by decide +kernel
theorem dX9_unfit_106 : decode cX9_unfit 106 = .ok (.iconst 1, 1) := by decide +kernel
theorem dX9_unfit_107 : decode cX9_unfit 107 = .ok (.invokevirtual 95, 3) := by decide +kernel
theorem dX9_unfit_110 : decode cX9_unfit 110 = .ok (.aload_n 0, 1) := by decide +kernel
theorem dX9_unfit_111 : decode cX9_unfit 111 = .ok (.iload 4, 2) := by decide +kernel
theorem dX9_unfit_113 : decode cX9_unfit 113 = .ok (.iconst 1, 1) := by decide +kernel
theorem dX9_unfit_114 : decode cX9_unfit 114 = .ok (.invokevirtual 95, 3) := by decide +kernel
theorem dX9_unfit_117 : decode cX9_unfit 117 = .ok (.invokestatic 76, 3) := by decide +kernel
theorem dX9_unfit_120 : decode cX9_unfit 120 = .ok (.if_icmp .le 5, 3) := by decide +kernel
theorem dX9_unfit_123 : decode cX9_unfit 123 = .ok (.iconst 4, 1) := by decide +kernel
theorem dX9_unfit_124 : decode cX9_unfit 124 = .ok (.ireturn, 1) := by decide +kernel
theorem dX9_unfit_125 : decode cX9_unfit 125 = .ok (.bipush 13, 2) := by decide +kernel
theorem dX9_unfit_127 : decode cX9_unfit 127 = .ok (.istore 5, 2) := by decide +kernel
theorem dX9_unfit_129 : decode cX9_unfit 129 = .ok (.iload 5, 2) := by decide +kernel
theorem dX9_unfit_131 : decode cX9_unfit 131 = .ok (.bipush 16, 2) := by decide +kernel
theorem dX9_unfit_133 : decode cX9_unfit 133 = .ok (.if_icmp .ge 32, 3) := by decide +kernel
theorem dX9_unfit_136 : decode cX9_unfit 136 = .ok (.aload_n 0, 1) := by decide +kernel
theorem dX9_unfit_137 : decode cX9_unfit 137 = .ok (.iload_n 3, 1) := by decide +kernel
theorem dX9_unfit_138 : decode cX9_unfit 138 = .ok (.iload 5, 2) := by decide +kernel
theorem dX9_unfit_140 : decode cX9_unfit 140 = .ok (.invokevirtual 89, 3) := by decide +kernel
theorem dX9_unfit_143 : decode cX9_unfit 143 = .ok (.aload_n 0, 1) := by decide +kernel
theorem dX9_unfit_144 : decode cX9_unfit 144 = .ok (.iload 4, 2) := by decide +kernel
theorem dX9_unfit_146 : decode cX9_unfit 146 = .ok (.iload 5, 2) := by decide +kernel
theorem dX9_unfit_148 : decode cX9_unfit 148 = .ok (.invokevirtual 89, 3) := by decide +kernel
theorem dX9_unfit_151 : decode cX9_unfit 151 = .ok (.invokestatic 92, 3) := by decide +kernel
theorem dX9_unfit_154 : decode cX9_unfit 154 = .ok (.ifCond .eq 5, 3) := by decide +kernel
theorem dX9_unfit_157 : decode cX9_unfit 157 = .ok (.iconst 5, 1) := by decide +kernel
theorem dX9_unfit_158 : decode cX9_unfit 158 = .ok (.ireturn, 1) := by decide +kernel
theorem dX9_unfit_159 : decode cX9_unfit 159 = .ok (.iinc 5 1, 3) := by decide +kernel
theorem dX9_unfit_162 : decode cX9_unfit 162 = .ok (.goto (-33), 3) := by decide +kernel
theorem dX9_unfit_165 : decode cX9_unfit 165 = .ok (.aload_n 0, 1) := by decide +kernel
theorem dX9_unfit_166 : decode cX9_unfit 166 = .ok (.getfield 28, 3) := by decide +kernel
theorem dX9_unfit_169 : decode cX9_unfit 169 = .ok (.iload_n 3, 1) := by decide +kernel
theorem dX9_unfit_170 : decode cX9_unfit 170 = .ok (.iaload, 1) := by decide +kernel
theorem dX9_unfit_171 : decode cX9_unfit 171 = .ok (.iconst (-1), 1) := by decide +kernel
theorem dX9_unfit_172 : decode cX9_unfit 172 = .ok (.if_icmp .ne 14, 3) := by decide +kernel
theorem dX9_unfit_175 : decode cX9_unfit 175 = .ok (.aload_n 0, 1) := by decide +kernel
theorem dX9_unfit_176 : decode cX9_unfit 176 = .ok (.getfield 28, 3) := by decide +kernel
theorem dX9_unfit_179 : decode cX9_unfit 179 = .ok (.iload 4, 2) := by decide +kernel
theorem dX9_unfit_181 : decode cX9_unfit 181 = .ok (.iaload, 1) := by decide +kernel
theorem dX9_unfit_182 : decode cX9_unfit 182 = .ok (.iconst (-1), 1) := by decide +kernel
theorem dX9_unfit_183 : decode cX9_unfit 183 = .ok (.if_icmp .eq 8, 3) := by decide +kernel
theorem dX9_unfit_186 : decode cX9_unfit 186 = .ok (.bipush 6, 2) := by decide +kernel
theorem dX9_unfit_188 : decode cX9_unfit 188 = .ok (.goto 4, 3) := by decide +kernel
theorem dX9_unfit_191 : decode cX9_unfit 191 = .ok (.iconst 0, 1) := by decide +kernel
theorem dX9_unfit_192 : decode cX9_unfit 192 = .ok (.ireturn, 1) := by decide +kernel
theorem dX9_join_0 : decode cX9_join 0 = .ok (.aload_n 0, 1) := by decide +kernel
theorem dX9_join_1 : decode cX9_join 1 = .ok (.iload_n 1, 1) := by decide +kernel
theorem dX9_join_2 : decode cX9_join 2 = .ok (.iload_n 2, 1) := by decide +kernel
theorem dX9_join_3 : decode cX9_join 3 = .ok (.invokevirtual 99, 3) := by decide +kernel
theorem dX9_join_6 : decode cX9_join 6 = .ok (.ifCond .eq 5, 3) := by decide +kernel
theorem dX9_join_9 : decode cX9_join 9 = .ok (.iconst 0, 1) := by decide +kernel
theorem dX9_join_10 : decode cX9_join 10 = .ok (.ireturn, 1) := by decide +kernel
theorem dX9_join_11 : decode cX9_join 11 = .ok (.aload_n 0, 1) := by decide +kernel
theorem dX9_join_12 : decode cX9_join 12 = .ok (.getfield 25, 3) := by decide +kernel
theorem dX9_join_15 : decode cX9_join 15 = .ok (.iload_n 1, 1) := by decide +kernel
theorem dX9_join_16 : decode cX9_join 16 = .ok (.iaload, 1) := by decide +kernel
theorem dX9_join_17 : decode cX9_join 17 = .ok (.aload_n 0, 1) := by decide +kernel
theorem dX9_join_18 : decode cX9_join 18 = .ok (.getfield 25, 3) := by decide +kernel
theorem dX9_join_21 : decode cX9_join 21 = .ok (.iload_n 2, 1) := by decide +kernel
theorem dX9_join_22 : decode cX9_join 22 = .ok (.iaload, 1) := by decide +kernel
theorem dX9_join_23 : decode cX9_join 23 = .ok (.invokestatic 76, 3) := by decide +kernel
theorem dX9_join_26 : decode cX9_join 26 = .ok (.istore_n 3, 1) := by decide +kernel
theorem dX9_join_27 : decode cX9_join 27 = .ok (.aload_n 0, 1) := by decide +kernel
theorem dX9_join_28 : decode cX9_join 28 = .ok (.getfield 25, 3) := by decide +kernel
theorem dX9_join_31 : decode cX9_join 31 = .ok (.iload_n 1, 1) := by decide +kernel
theorem dX9_join_32 : decode cX9_join 32 = .ok (.iaload, 1) := by decide +kernel
theorem dX9_join_33 : decode cX9_join 33 = .ok (.aload_n 0, 1) := by decide +kernel
theorem dX9_join_34 : decode cX9_join 34 = .ok (.getfield 25, 3) := by decide +kernel
theorem dX9_join_37 : decode cX9_join 37 = .ok (.iload_n 2, 1) := by decide +kernel
theorem dX9_join_38 : decode cX9_join 38 = .ok (.iaload, 1) := by decide +kernel
theorem dX9_join_39 : decode cX9_join 39 = .ok (.invokestatic 82, 3) := by decide +kernel
theorem dX9_join_42 : decode cX9_join 42 = .ok (.istore 4, 2) := by decide +kernel
theorem dX9_join_44 : decode cX9_join 44 = .ok (.iconst 0, 1) := by decide +kernel
theorem dX9_join_45 : decode cX9_join 45 = .ok (.istore 5, 2) := by decide +kernel
theorem dX9_join_47 : decode cX9_join 47 = .ok (.iload 5, 2) := by decide +kernel
theorem dX9_join_49 : decode cX9_join 49 = .ok (.aload_n 0, 1) := by decide +kernel
theorem dX9_join_50 : decode cX9_join 50 = .ok (.getfield 7, 3) := by decide +kernel
theorem dX9_join_53 : decode cX9_join 53 = .ok (.iconst 1, 1) := by decide +kernel
theorem dX9_join_54 : decode cX9_join 54 = .ok (.iaload, 1) := by decide +kernel
theorem dX9_join_55 : decode cX9_join 55 = .ok (.if_icmp .ge 29, 3) := by decide +kernel
theorem dX9_join_58 : decode cX9_join 58 = .ok (.aload_n 0, 1) := by decide +kernel
theorem dX9_join_59 : decode cX9_join 59 = .ok (.getfield 25, 3) := by decide +kernel
theorem dX9_join_62 : decode cX9_join 62 = .ok (.iload 5, 2) := by decide +kernel
theorem dX9_join_64 : decode cX9_join 64 = .ok (.iaload, 1) := by decide +kernel
theorem dX9_join_65 : decode cX9_join 65 = .ok (.iload 4, 2) := by decide +kernel
theorem dX9_join_67 : decode cX9_join 67 = .ok (.if_icmp .ne 11, 3) := by decide +kernel
theorem dX9_join_70 : decode cX9_join 70 = .ok (.aload_n 0, 1) := by decide +kernel
theorem dX9_join_71 : decode cX9_join 71 = .ok (.getfield 25, 3) := by decide +kernel
theorem dX9_join_74 : decode cX9_join 74 = .ok (.iload 5, 2) := by decide +kernel
theorem dX9_join_76 : decode cX9_join 76 = .ok (.iload_n 3, 1) := by decide +kernel
theorem dX9_join_77 : decode cX9_join 77 = .ok (.iastore, 1) := by decide +kernel
theorem dX9_join_78 : decode cX9_join 78 = .ok (.iinc 5 1, 3) := by decide +kernel
theorem dX9_join_81 : decode cX9_join 81 = .ok (.goto (-34), 3) := by decide +kernel
theorem dX9_join_84 : decode cX9_join 84 = .ok (.iconst 1, 1) := by decide +kernel
theorem dX9_join_85 : decode cX9_join 85 = .ok (.ireturn, 1) := by decide +kernel
theorem dX9_body_0 : decode cX9_body 0 = .ok (.aload_n 0, 1) := by decide +kernel
theorem dX9_body_1 : decode cX9_body 1 = .ok (.iconst 1, 1) := by decide +kernel
theorem dX9_body_2 : decode cX9_body 2 = .ok (.iload_n 1, 1) := by decide +kernel
theorem dX9_body_3 : decode cX9_body 3 = .ok (.invokevirtual 68, 3) := by decide +kernel
theorem dX9_body_6 : decode cX9_body 6 = .ok (.ifCond .eq 12, 3) := by decide +kernel
theorem dX9_body_9 : decode cX9_body 9 = .ok (.aload_n 0, 1) := by decide +kernel
theorem dX9_body_10 : decode cX9_body 10 = .ok (.getfield 25, 3) := by decide +kernel
theorem dX9_body_13 : decode cX9_body 13 = .ok (.iload_n 1, 1) := by decide +kernel
theorem dX9_body_14 : decode cX9_body 14 = .ok (.iaload, 1) := by decide +kernel
theorem dX9_body_15 : decode cX9_body 15 = .ok (.goto 4, 3) := by decide +kernel
theorem dX9_body_18 : decode cX9_body 18 = .ok (.iconst (-1), 1) := by decide +kernel
theorem dX9_body_19 : decode cX9_body 19 = .ok (.ireturn, 1) := by decide +kernel
theorem dX9_sizeOf_0 : decode cX9_sizeOf 0 = .ok (.iconst 0, 1) := by decide +kernel
theorem dX9_sizeOf_1 : decode cX9_sizeOf 1 = .ok (.istore_n 2, 1) := by decide +kernel
theorem dX9_sizeOf_2 : decode cX9_sizeOf 2 = .ok (.iconst 0, 1) := by decide +kernel
theorem dX9_sizeOf_3 : decode cX9_sizeOf 3 = .ok (.istore_n 3, 1) := by decide +kernel
theorem dX9_sizeOf_4 : decode cX9_sizeOf 4 = .ok (.iload_n 3, 1) := by decide +kernel
theorem dX9_sizeOf_5 : decode cX9_sizeOf 5 = .ok (.aload_n 0, 1) := by decide +kernel
theorem dX9_sizeOf_6 : decode cX9_sizeOf 6 = .ok (.getfield 7, 3) := by decide +kernel
theorem dX9_sizeOf_9 : decode cX9_sizeOf 9 = .ok (.iconst 1, 1) := by decide +kernel
theorem dX9_sizeOf_10 : decode cX9_sizeOf 10 = .ok (.iaload, 1) := by decide +kernel
theorem dX9_sizeOf_11 : decode cX9_sizeOf 11 = .ok (.if_icmp .ge 30, 3) := by decide +kernel
theorem dX9_sizeOf_14 : decode cX9_sizeOf 14 = .ok (.iload_n 2, 1) := by decide +kernel
theorem dX9_sizeOf_15 : decode cX9_sizeOf 15 = .ok (.aload_n 0, 1) := by decide +kernel
theorem dX9_sizeOf_16 : decode cX9_sizeOf 16 = .ok (.getfield 25, 3) := by decide +kernel
theorem dX9_sizeOf_19 : decode cX9_sizeOf 19 = .ok (.iload_n 3, 1) := by decide +kernel
theorem dX9_sizeOf_20 : decode cX9_sizeOf 20 = .ok (.iaload, 1) := by decide +kernel
theorem dX9_sizeOf_21 : decode cX9_sizeOf 21 = .ok (.iload_n 1, 1) := by decide +kernel
theorem dX9_sizeOf_22 : decode cX9_sizeOf 22 = .ok (.if_icmp .ne 7, 3) := by decide +kernel
theorem dX9_sizeOf_25 : decode cX9_sizeOf 25 = .ok (.iconst 1, 1) := by decide +kernel
theorem dX9_sizeOf_26 : decode cX9_sizeOf 26 = .ok (.goto 4, 3) := by decide +kernel
theorem dX9_sizeOf_29 : decode cX9_sizeOf 29 = .ok (.iconst 0, 1) := by decide +kernel
theorem dX9_sizeOf_30 : decode cX9_sizeOf 30 = .ok (.invokestatic 102, 3) := by decide +kernel
theorem dX9_sizeOf_33 : decode cX9_sizeOf 33 = .ok (.iadd, 1) := by decide +kernel
theorem dX9_sizeOf_34 : decode cX9_sizeOf 34 = .ok (.istore_n 2, 1) := by decide +kernel
theorem dX9_sizeOf_35 : decode cX9_sizeOf 35 = .ok (.iinc 3 1, 3) := by decide +kernel
theorem dX9_sizeOf_38 : decode cX9_sizeOf 38 = .ok (.goto (-34), 3) := by decide +kernel
theorem dX9_sizeOf_41 : decode cX9_sizeOf 41 = .ok (.iload_n 2, 1) := by decide +kernel
theorem dX9_sizeOf_42 : decode cX9_sizeOf 42 = .ok (.ireturn, 1) := by decide +kernel
theorem dX9_told_0 : decode cX9_told 0 = .ok (.aload_n 0, 1) := by decide +kernel
theorem dX9_told_1 : decode cX9_told 1 = .ok (.iconst 1, 1) := by decide +kernel
theorem dX9_told_2 : decode cX9_told 2 = .ok (.iload_n 1, 1) := by decide +kernel
theorem dX9_told_3 : decode cX9_told 3 = .ok (.invokevirtual 68, 3) := by decide +kernel
theorem dX9_told_6 : decode cX9_told 6 = .ok (.ifCond .ne 5, 3) := by decide +kernel
theorem dX9_told_9 : decode cX9_told 9 = .ok (.iconst (-1), 1) := by decide +kernel
theorem dX9_told_10 : decode cX9_told 10 = .ok (.ireturn, 1) := by decide +kernel
theorem dX9_told_11 : decode cX9_told 11 = .ok (.aload_n 0, 1) := by decide +kernel
theorem dX9_told_12 : decode cX9_told 12 = .ok (.getfield 25, 3) := by decide +kernel
theorem dX9_told_15 : decode cX9_told 15 = .ok (.iload_n 1, 1) := by decide +kernel
theorem dX9_told_16 : decode cX9_told 16 = .ok (.iaload, 1) := by decide +kernel
theorem dX9_told_17 : decode cX9_told 17 = .ok (.istore_n 3, 1) := by decide +kernel
theorem dX9_told_18 : decode cX9_told 18 = .ok (.iload_n 2, 1) := by decide +kernel
theorem dX9_told_19 : decode cX9_told 19 = .ok (.bipush 10, 2) := by decide +kernel
theorem dX9_told_21 : decode cX9_told 21 = .ok (.bipush 17, 2) := by decide +kernel
theorem dX9_told_23 : decode cX9_told 23 = .ok (.invokestatic 64, 3) := by decide +kernel
theorem dX9_told_26 : decode cX9_told 26 = .ok (.ifCond .eq 15, 3) := by decide +kernel
theorem dX9_told_29 : decode cX9_told 29 = .ok (.aload_n 0, 1) := by decide +kernel
theorem dX9_told_30 : decode cX9_told 30 = .ok (.iload_n 3, 1) := by decide +kernel
theorem dX9_told_31 : decode cX9_told 31 = .ok (.iconst 1, 1) := by decide +kernel
theorem dX9_told_32 : decode cX9_told 32 = .ok (.iload_n 2, 1) := by decide +kernel
theorem dX9_told_33 : decode cX9_told 33 = .ok (.iadd, 1) := by decide +kernel
theorem dX9_told_34 : decode cX9_told 34 = .ok (.bipush 10, 2) := by decide +kernel
theorem dX9_told_36 : decode cX9_told 36 = .ok (.isub, 1) := by decide +kernel
theorem dX9_told_37 : decode cX9_told 37 = .ok (.invokevirtual 89, 3) := by decide +kernel
theorem dX9_told_40 : decode cX9_told 40 = .ok (.ireturn, 1) := by decide +kernel
theorem dX9_told_41 : decode cX9_told 41 = .ok (.iload_n 2, 1) := by decide +kernel
theorem dX9_told_42 : decode cX9_told 42 = .ok (.bipush 20, 2) := by decide +kernel
theorem dX9_told_44 : decode cX9_told 44 = .ok (.bipush 23, 2) := by decide +kernel
theorem dX9_told_46 : decode cX9_told 46 = .ok (.invokestatic 64, 3) := by decide +kernel
theorem dX9_told_49 : decode cX9_told 49 = .ok (.ifCond .eq 16, 3) := by decide +kernel
theorem dX9_told_52 : decode cX9_told 52 = .ok (.aload_n 0, 1) := by decide +kernel
theorem dX9_told_53 : decode cX9_told 53 = .ok (.iload_n 3, 1) := by decide +kernel
theorem dX9_told_54 : decode cX9_told 54 = .ok (.bipush 9, 2) := by decide +kernel
theorem dX9_told_56 : decode cX9_told 56 = .ok (.iload_n 2, 1) := by decide +kernel
theorem dX9_told_57 : decode cX9_told 57 = .ok (.iadd, 1) := by decide +kernel
theorem dX9_told_58 : decode cX9_told 58 = .ok (.bipush 20, 2) := by decide +kernel
theorem dX9_told_60 : decode cX9_told 60 = .ok (.isub, 1) := by decide +kernel
theorem dX9_told_61 : decode cX9_told 61 = .ok (.invokevirtual 89, 3) := by decide +kernel
theorem dX9_told_64 : decode cX9_told 64 = .ok (.ireturn, 1) := by decide +kernel
theorem dX9_told_65 : decode cX9_told 65 = .ok (.iload_n 2, 1) := by decide +kernel
theorem dX9_told_66 : decode cX9_told 66 = .ok (.bipush 30, 2) := by decide +kernel
theorem dX9_told_68 : decode cX9_told 68 = .ok (.bipush 32, 2) := by decide +kernel
theorem dX9_told_70 : decode cX9_told 70 = .ok (.invokestatic 64, 3) := by decide +kernel
theorem dX9_told_73 : decode cX9_told 73 = .ok (.ifCond .eq 16, 3) := by decide +kernel
theorem dX9_told_76 : decode cX9_told 76 = .ok (.aload_n 0, 1) := by decide +kernel
theorem dX9_told_77 : decode cX9_told 77 = .ok (.iload_n 3, 1) := by decide +kernel
theorem dX9_told_78 : decode cX9_told 78 = .ok (.bipush 13, 2) := by decide +kernel
theorem dX9_told_80 : decode cX9_told 80 = .ok (.iload_n 2, 1) := by decide +kernel
theorem dX9_told_81 : decode cX9_told 81 = .ok (.iadd, 1) := by decide +kernel
theorem dX9_told_82 : decode cX9_told 82 = .ok (.bipush 30, 2) := by decide +kernel
theorem dX9_told_84 : decode cX9_told 84 = .ok (.isub, 1) := by decide +kernel
theorem dX9_told_85 : decode cX9_told 85 = .ok (.invokevirtual 89, 3) := by decide +kernel
theorem dX9_told_88 : decode cX9_told 88 = .ok (.ireturn, 1) := by decide +kernel
theorem dX9_told_89 : decode cX9_told 89 = .ok (.iload_n 2, 1) := by decide +kernel
theorem dX9_told_90 : decode cX9_told 90 = .ok (.tableswitch 67 0 4 #[34, 41, 48, 55, 61], 34) := by decide +kernel
theorem dX9_told_124 : decode cX9_told 124 = .ok (.aload_n 0, 1) := by decide +kernel
theorem dX9_told_125 : decode cX9_told 125 = .ok (.iload_n 3, 1) := by decide +kernel
theorem dX9_told_126 : decode cX9_told 126 = .ok (.iconst 0, 1) := by decide +kernel
theorem dX9_told_127 : decode cX9_told 127 = .ok (.invokevirtual 89, 3) := by decide +kernel
theorem dX9_told_130 : decode cX9_told 130 = .ok (.ireturn, 1) := by decide +kernel
theorem dX9_told_131 : decode cX9_told 131 = .ok (.aload_n 0, 1) := by decide +kernel
theorem dX9_told_132 : decode cX9_told 132 = .ok (.iload_n 3, 1) := by decide +kernel
theorem dX9_told_133 : decode cX9_told 133 = .ok (.iconst 0, 1) := by decide +kernel
theorem dX9_told_134 : decode cX9_told 134 = .ok (.invokevirtual 95, 3) := by decide +kernel
theorem dX9_told_137 : decode cX9_told 137 = .ok (.ireturn, 1) := by decide +kernel
theorem dX9_told_138 : decode cX9_told 138 = .ok (.aload_n 0, 1) := by decide +kernel
theorem dX9_told_139 : decode cX9_told 139 = .ok (.iload_n 3, 1) := by decide +kernel
theorem dX9_told_140 : decode cX9_told 140 = .ok (.iconst 1, 1) := by decide +kernel
theorem dX9_told_141 : decode cX9_told 141 = .ok (.invokevirtual 95, 3) := by decide +kernel
theorem dX9_told_144 : decode cX9_told 144 = .ok (.ireturn, 1) := by decide +kernel
theorem dX9_told_145 : decode cX9_told 145 = .ok (.aload_n 0, 1) := by decide +kernel
theorem dX9_told_146 : decode cX9_told 146 = .ok (.iload_n 3, 1) := by decide +kernel
theorem dX9_told_147 : decode cX9_told 147 = .ok (.invokevirtual 85, 3) := by decide +kernel
theorem dX9_told_150 : decode cX9_told 150 = .ok (.ireturn, 1) := by decide +kernel
theorem dX9_told_151 : decode cX9_told 151 = .ok (.aload_n 0, 1) := by decide +kernel
theorem dX9_told_152 : decode cX9_told 152 = .ok (.iload_n 3, 1) := by decide +kernel
theorem dX9_told_153 : decode cX9_told 153 = .ok (.invokevirtual 106, 3) := by decide +kernel
theorem dX9_told_156 : decode cX9_told 156 = .ok (.ireturn, 1) := by decide +kernel
theorem dX9_told_157 : decode cX9_told 157 = .ok (.iconst (-1), 1) := by decide +kernel
theorem dX9_told_158 : decode cX9_told 158 = .ok (.ireturn, 1) := by decide +kernel
theorem dX9_ofMissing_0 : decode cX9_ofMissing 0 = .ok (.aload_n 0, 1) := by decide +kernel
theorem dX9_ofMissing_1 : decode cX9_ofMissing 1 = .ok (.getfield 13, 3) := by decide +kernel
theorem dX9_ofMissing_4 : decode cX9_ofMissing 4 = .ok (.bipush 19, 2) := by decide +kernel
theorem dX9_ofMissing_6 : decode cX9_ofMissing 6 = .ok (.iload_n 1, 1) := by decide +kernel
theorem dX9_ofMissing_7 : decode cX9_ofMissing 7 = .ok (.imul, 1) := by decide +kernel
theorem dX9_ofMissing_8 : decode cX9_ofMissing 8 = .ok (.iload_n 2, 1) := by decide +kernel
theorem dX9_ofMissing_9 : decode cX9_ofMissing 9 = .ok (.iadd, 1) := by decide +kernel
theorem dX9_ofMissing_10 : decode cX9_ofMissing 10 = .ok (.iaload, 1) := by decide +kernel
theorem dX9_ofMissing_11 : decode cX9_ofMissing 11 = .ok (.ireturn, 1) := by decide +kernel
theorem dX9_sharesNone_0 : decode cX9_sharesNone 0 = .ok (.iload_n 0, 1) := by decide +kernel
theorem dX9_sharesNone_1 : decode cX9_sharesNone 1 = .ok (.bipush 10, 2) := by decide +kernel
theorem dX9_sharesNone_3 : decode cX9_sharesNone 3 = .ok (.irem, 1) := by decide +kernel
theorem dX9_sharesNone_4 : decode cX9_sharesNone 4 = .ok (.iload_n 1, 1) := by decide +kernel
theorem dX9_sharesNone_5 : decode cX9_sharesNone 5 = .ok (.bipush 10, 2) := by decide +kernel
theorem dX9_sharesNone_7 : decode cX9_sharesNone 7 = .ok (.irem, 1) := by decide +kernel
theorem dX9_sharesNone_8 : decode cX9_sharesNone 8 = .ok (.if_icmp .eq 40, 3) := by decide +kernel
theorem dX9_sharesNone_11 : decode cX9_sharesNone 11 = .ok (.iload_n 0, 1) := by decide +kernel
theorem dX9_sharesNone_12 : decode cX9_sharesNone 12 = .ok (.bipush 10, 2) := by decide +kernel
theorem dX9_sharesNone_14 : decode cX9_sharesNone 14 = .ok (.irem, 1) := by decide +kernel
theorem dX9_sharesNone_15 : decode cX9_sharesNone 15 = .ok (.iload_n 1, 1) := by decide +kernel
theorem dX9_sharesNone_16 : decode cX9_sharesNone 16 = .ok (.bipush 10, 2) := by decide +kernel
theorem dX9_sharesNone_18 : decode cX9_sharesNone 18 = .ok (.idiv, 1) := by decide +kernel
theorem dX9_sharesNone_19 : decode cX9_sharesNone 19 = .ok (.if_icmp .eq 29, 3) := by decide +kernel
theorem dX9_sharesNone_22 : decode cX9_sharesNone 22 = .ok (.iload_n 0, 1) := by decide +kernel
theorem dX9_sharesNone_23 : decode cX9_sharesNone 23 = .ok (.bipush 10, 2) := by decide +kernel
theorem dX9_sharesNone_25 : decode cX9_sharesNone 25 = .ok (.idiv, 1) := by decide +kernel
theorem dX9_sharesNone_26 : decode cX9_sharesNone 26 = .ok (.iload_n 1, 1) := by decide +kernel
theorem dX9_sharesNone_27 : decode cX9_sharesNone 27 = .ok (.bipush 10, 2) := by decide +kernel
theorem dX9_sharesNone_29 : decode cX9_sharesNone 29 = .ok (.irem, 1) := by decide +kernel
theorem dX9_sharesNone_30 : decode cX9_sharesNone 30 = .ok (.if_icmp .eq 18, 3) := by decide +kernel
theorem dX9_sharesNone_33 : decode cX9_sharesNone 33 = .ok (.iload_n 0, 1) := by decide +kernel
theorem dX9_sharesNone_34 : decode cX9_sharesNone 34 = .ok (.bipush 10, 2) := by decide +kernel
theorem dX9_sharesNone_36 : decode cX9_sharesNone 36 = .ok (.idiv, 1) := by decide +kernel
theorem dX9_sharesNone_37 : decode cX9_sharesNone 37 = .ok (.iload_n 1, 1) := by decide +kernel
theorem dX9_sharesNone_38 : decode cX9_sharesNone 38 = .ok (.bipush 10, 2) := by decide +kernel
theorem dX9_sharesNone_40 : decode cX9_sharesNone 40 = .ok (.idiv, 1) := by decide +kernel
theorem dX9_sharesNone_41 : decode cX9_sharesNone 41 = .ok (.if_icmp .eq 7, 3) := by decide +kernel
theorem dX9_sharesNone_44 : decode cX9_sharesNone 44 = .ok (.iconst 1, 1) := by decide +kernel
theorem dX9_sharesNone_45 : decode cX9_sharesNone 45 = .ok (.goto 4, 3) := by decide +kernel
theorem dX9_sharesNone_48 : decode cX9_sharesNone 48 = .ok (.iconst 0, 1) := by decide +kernel
theorem dX9_sharesNone_49 : decode cX9_sharesNone 49 = .ok (.ireturn, 1) := by decide +kernel
theorem dX9_shutOf_0 : decode cX9_shutOf 0 = .ok (.aload_n 0, 1) := by decide +kernel
theorem dX9_shutOf_1 : decode cX9_shutOf 1 = .ok (.iload_n 1, 1) := by decide +kernel
theorem dX9_shutOf_2 : decode cX9_shutOf 2 = .ok (.iconst 0, 1) := by decide +kernel
theorem dX9_shutOf_3 : decode cX9_shutOf 3 = .ok (.invokevirtual 89, 3) := by decide +kernel
theorem dX9_shutOf_6 : decode cX9_shutOf 6 = .ok (.aload_n 0, 1) := by decide +kernel
theorem dX9_shutOf_7 : decode cX9_shutOf 7 = .ok (.iload_n 2, 1) := by decide +kernel
theorem dX9_shutOf_8 : decode cX9_shutOf 8 = .ok (.iconst 0, 1) := by decide +kernel
theorem dX9_shutOf_9 : decode cX9_shutOf 9 = .ok (.invokevirtual 109, 3) := by decide +kernel
theorem dX9_shutOf_12 : decode cX9_shutOf 12 = .ok (.invokestatic 92, 3) := by decide +kernel
theorem dX9_shutOf_15 : decode cX9_shutOf 15 = .ok (.ifCond .eq 5, 3) := by decide +kernel
theorem dX9_shutOf_18 : decode cX9_shutOf 18 = .ok (.iconst 1, 1) := by decide +kernel
theorem dX9_shutOf_19 : decode cX9_shutOf 19 = .ok (.ireturn, 1) := by decide +kernel
theorem dX9_shutOf_20 : decode cX9_shutOf 20 = .ok (.aload_n 0, 1) := by decide +kernel
theorem dX9_shutOf_21 : decode cX9_shutOf 21 = .ok (.iload_n 1, 1) := by decide +kernel
theorem dX9_shutOf_22 : decode cX9_shutOf 22 = .ok (.iconst 0, 1) := by decide +kernel
theorem dX9_shutOf_23 : decode cX9_shutOf 23 = .ok (.invokevirtual 95, 3) := by decide +kernel
theorem dX9_shutOf_26 : decode cX9_shutOf 26 = .ok (.aload_n 0, 1) := by decide +kernel
theorem dX9_shutOf_27 : decode cX9_shutOf 27 = .ok (.getfield 16, 3) := by decide +kernel
theorem dX9_shutOf_30 : decode cX9_shutOf 30 = .ok (.iload_n 2, 1) := by decide +kernel
theorem dX9_shutOf_31 : decode cX9_shutOf 31 = .ok (.iaload, 1) := by decide +kernel
theorem dX9_shutOf_32 : decode cX9_shutOf 32 = .ok (.invokestatic 82, 3) := by decide +kernel
theorem dX9_shutOf_35 : decode cX9_shutOf 35 = .ok (.aload_n 0, 1) := by decide +kernel
theorem dX9_shutOf_36 : decode cX9_shutOf 36 = .ok (.iload_n 1, 1) := by decide +kernel
theorem dX9_shutOf_37 : decode cX9_shutOf 37 = .ok (.iconst 1, 1) := by decide +kernel
theorem dX9_shutOf_38 : decode cX9_shutOf 38 = .ok (.invokevirtual 95, 3) := by decide +kernel
theorem dX9_shutOf_41 : decode cX9_shutOf 41 = .ok (.aload_n 0, 1) := by decide +kernel
theorem dX9_shutOf_42 : decode cX9_shutOf 42 = .ok (.getfield 19, 3) := by decide +kernel
theorem dX9_shutOf_45 : decode cX9_shutOf 45 = .ok (.iload_n 2, 1) := by decide +kernel
theorem dX9_shutOf_46 : decode cX9_shutOf 46 = .ok (.iaload, 1) := by decide +kernel
theorem dX9_shutOf_47 : decode cX9_shutOf 47 = .ok (.invokestatic 76, 3) := by decide +kernel
theorem dX9_shutOf_50 : decode cX9_shutOf 50 = .ok (.if_icmp .le 5, 3) := by decide +kernel
theorem dX9_shutOf_53 : decode cX9_shutOf 53 = .ok (.iconst 2, 1) := by decide +kernel
theorem dX9_shutOf_54 : decode cX9_shutOf 54 = .ok (.ireturn, 1) := by decide +kernel
theorem dX9_shutOf_55 : decode cX9_shutOf 55 = .ok (.iconst 1, 1) := by decide +kernel
theorem dX9_shutOf_56 : decode cX9_shutOf 56 = .ok (.istore_n 3, 1) := by decide +kernel
theorem dX9_shutOf_57 : decode cX9_shutOf 57 = .ok (.iload_n 3, 1) := by decide +kernel
theorem dX9_shutOf_58 : decode cX9_shutOf 58 = .ok (.bipush 9, 2) := by decide +kernel
theorem dX9_shutOf_60 : decode cX9_shutOf 60 = .ok (.if_icmp .ge 35, 3) := by decide +kernel
theorem dX9_shutOf_63 : decode cX9_shutOf 63 = .ok (.aload_n 0, 1) := by decide +kernel
theorem dX9_shutOf_64 : decode cX9_shutOf 64 = .ok (.iload_n 1, 1) := by decide +kernel
theorem dX9_shutOf_65 : decode cX9_shutOf 65 = .ok (.iload_n 3, 1) := by decide +kernel
theorem dX9_shutOf_66 : decode cX9_shutOf 66 = .ok (.invokevirtual 89, 3) := by decide +kernel
theorem dX9_shutOf_69 : decode cX9_shutOf 69 = .ok (.ifCond .eq 20, 3) := by decide +kernel
theorem dX9_shutOf_72 : decode cX9_shutOf 72 = .ok (.aload_n 0, 1) := by decide +kernel
theorem dX9_shutOf_73 : decode cX9_shutOf 73 = .ok (.iload_n 1, 1) := by decide +kernel
theorem dX9_shutOf_74 : decode cX9_shutOf 74 = .ok (.iload_n 3, 1) := by decide +kernel
theorem dX9_shutOf_75 : decode cX9_shutOf 75 = .ok (.invokevirtual 89, 3) := by decide +kernel
theorem dX9_shutOf_78 : decode cX9_shutOf 78 = .ok (.aload_n 0, 1) := by decide +kernel
theorem dX9_shutOf_79 : decode cX9_shutOf 79 = .ok (.iload_n 2, 1) := by decide +kernel
theorem dX9_shutOf_80 : decode cX9_shutOf 80 = .ok (.iload_n 3, 1) := by decide +kernel
theorem dX9_shutOf_81 : decode cX9_shutOf 81 = .ok (.invokevirtual 109, 3) := by decide +kernel
theorem dX9_shutOf_84 : decode cX9_shutOf 84 = .ok (.if_icmp .ge 5, 3) := by decide +kernel
theorem dX9_shutOf_87 : decode cX9_shutOf 87 = .ok (.iconst 3, 1) := by decide +kernel
theorem dX9_shutOf_88 : decode cX9_shutOf 88 = .ok (.ireturn, 1) := by decide +kernel
theorem dX9_shutOf_89 : decode cX9_shutOf 89 = .ok (.iinc 3 1, 3) := by decide +kernel
theorem dX9_shutOf_92 : decode cX9_shutOf 92 = .ok (.goto (-35), 3) := by decide +kernel
theorem dX9_shutOf_95 : decode cX9_shutOf 95 = .ok (.bipush 13, 2) := by decide +kernel
theorem dX9_shutOf_97 : decode cX9_shutOf 97 = .ok (.istore_n 3, 1) := by decide +kernel
theorem dX9_shutOf_98 : decode cX9_shutOf 98 = .ok (.iload_n 3, 1) := by decide +kernel
theorem dX9_shutOf_99 : decode cX9_shutOf 99 = .ok (.bipush 16, 2) := by decide +kernel
theorem dX9_shutOf_101 : decode cX9_shutOf 101 = .ok (.if_icmp .ge 29, 3) := by decide +kernel
theorem dX9_shutOf_104 : decode cX9_shutOf 104 = .ok (.aload_n 0, 1) := by decide +kernel
theorem dX9_shutOf_105 : decode cX9_shutOf 105 = .ok (.iload_n 1, 1) := by decide +kernel
theorem dX9_shutOf_106 : decode cX9_shutOf 106 = .ok (.iload_n 3, 1) := by decide +kernel
theorem dX9_shutOf_107 : decode cX9_shutOf 107 = .ok (.invokevirtual 89, 3) := by decide +kernel
theorem dX9_shutOf_110 : decode cX9_shutOf 110 = .ok (.aload_n 0, 1) := by decide +kernel
theorem dX9_shutOf_111 : decode cX9_shutOf 111 = .ok (.iload_n 2, 1) := by decide +kernel
theorem dX9_shutOf_112 : decode cX9_shutOf 112 = .ok (.iload_n 3, 1) := by decide +kernel
theorem dX9_shutOf_113 : decode cX9_shutOf 113 = .ok (.invokevirtual 109, 3) := by decide +kernel
theorem dX9_shutOf_116 : decode cX9_shutOf 116 = .ok (.invokestatic 92, 3) := by decide +kernel
theorem dX9_shutOf_119 : decode cX9_shutOf 119 = .ok (.ifCond .eq 5, 3) := by decide +kernel
theorem dX9_shutOf_122 : decode cX9_shutOf 122 = .ok (.iconst 4, 1) := by decide +kernel
theorem dX9_shutOf_123 : decode cX9_shutOf 123 = .ok (.ireturn, 1) := by decide +kernel
theorem dX9_shutOf_124 : decode cX9_shutOf 124 = .ok (.iinc 3 1, 3) := by decide +kernel
theorem dX9_shutOf_127 : decode cX9_shutOf 127 = .ok (.goto (-29), 3) := by decide +kernel
theorem dX9_shutOf_130 : decode cX9_shutOf 130 = .ok (.iconst 0, 1) := by decide +kernel
theorem dX9_shutOf_131 : decode cX9_shutOf 131 = .ok (.istore_n 3, 1) := by decide +kernel
theorem dX9_shutOf_132 : decode cX9_shutOf 132 = .ok (.iload_n 3, 1) := by decide +kernel
theorem dX9_shutOf_133 : decode cX9_shutOf 133 = .ok (.iconst 3, 1) := by decide +kernel
theorem dX9_shutOf_134 : decode cX9_shutOf 134 = .ok (.if_icmp .ge 53, 3) := by decide +kernel
theorem dX9_shutOf_137 : decode cX9_shutOf 137 = .ok (.aload_n 0, 1) := by decide +kernel
theorem dX9_shutOf_138 : decode cX9_shutOf 138 = .ok (.iload_n 1, 1) := by decide +kernel
theorem dX9_shutOf_139 : decode cX9_shutOf 139 = .ok (.bipush 13, 2) := by decide +kernel
theorem dX9_shutOf_141 : decode cX9_shutOf 141 = .ok (.iload_n 3, 1) := by decide +kernel
theorem dX9_shutOf_142 : decode cX9_shutOf 142 = .ok (.iadd, 1) := by decide +kernel
theorem dX9_shutOf_143 : decode cX9_shutOf 143 = .ok (.invokevirtual 89, 3) := by decide +kernel
theorem dX9_shutOf_146 : decode cX9_shutOf 146 = .ok (.istore 4, 2) := by decide +kernel
theorem dX9_shutOf_148 : decode cX9_shutOf 148 = .ok (.aload_n 0, 1) := by decide +kernel
theorem dX9_shutOf_149 : decode cX9_shutOf 149 = .ok (.iload_n 2, 1) := by decide +kernel
theorem dX9_shutOf_150 : decode cX9_shutOf 150 = .ok (.bipush 16, 2) := by decide +kernel
theorem dX9_shutOf_152 : decode cX9_shutOf 152 = .ok (.iload_n 3, 1) := by decide +kernel
theorem dX9_shutOf_153 : decode cX9_shutOf 153 = .ok (.iadd, 1) := by decide +kernel
theorem dX9_shutOf_154 : decode cX9_shutOf 154 = .ok (.invokevirtual 109, 3) := by decide +kernel
theorem dX9_shutOf_157 : decode cX9_shutOf 157 = .ok (.istore 5, 2) := by decide +kernel
theorem dX9_shutOf_159 : decode cX9_shutOf 159 = .ok (.iload 4, 2) := by decide +kernel
theorem dX9_shutOf_161 : decode cX9_shutOf 161 = .ok (.ifCond .eq 20, 3) := by decide +kernel
theorem dX9_shutOf_164 : decode cX9_shutOf 164 = .ok (.iload 5, 2) := by decide +kernel
theorem dX9_shutOf_166 : decode cX9_shutOf 166 = .ok (.ifCond .eq 15, 3) := by decide +kernel
theorem dX9_shutOf_169 : decode cX9_shutOf 169 = .ok (.iload 4, 2) := by decide +kernel
theorem dX9_shutOf_171 : decode cX9_shutOf 171 = .ok (.iload 5, 2) := by decide +kernel
theorem dX9_shutOf_173 : decode cX9_shutOf 173 = .ok (.invokestatic 112, 3) := by decide +kernel
theorem dX9_shutOf_176 : decode cX9_shutOf 176 = .ok (.ifCond .eq 5, 3) := by decide +kernel
theorem dX9_shutOf_179 : decode cX9_shutOf 179 = .ok (.iconst 5, 1) := by decide +kernel
theorem dX9_shutOf_180 : decode cX9_shutOf 180 = .ok (.ireturn, 1) := by decide +kernel
theorem dX9_shutOf_181 : decode cX9_shutOf 181 = .ok (.iinc 3 1, 3) := by decide +kernel
theorem dX9_shutOf_184 : decode cX9_shutOf 184 = .ok (.goto (-52), 3) := by decide +kernel
theorem dX9_shutOf_187 : decode cX9_shutOf 187 = .ok (.iconst 0, 1) := by decide +kernel
theorem dX9_shutOf_188 : decode cX9_shutOf 188 = .ok (.ireturn, 1) := by decide +kernel
theorem dX9_isPair_0 : decode cX9_isPair 0 = .ok (.aload_n 0, 1) := by decide +kernel
theorem dX9_isPair_1 : decode cX9_isPair 1 = .ok (.iconst 1, 1) := by decide +kernel
theorem dX9_isPair_2 : decode cX9_isPair 2 = .ok (.iload_n 1, 1) := by decide +kernel
theorem dX9_isPair_3 : decode cX9_isPair 3 = .ok (.invokevirtual 68, 3) := by decide +kernel
theorem dX9_isPair_6 : decode cX9_isPair 6 = .ok (.ifCond .eq 16, 3) := by decide +kernel
theorem dX9_isPair_9 : decode cX9_isPair 9 = .ok (.aload_n 0, 1) := by decide +kernel
theorem dX9_isPair_10 : decode cX9_isPair 10 = .ok (.iconst 0, 1) := by decide +kernel
theorem dX9_isPair_11 : decode cX9_isPair 11 = .ok (.iload_n 2, 1) := by decide +kernel
theorem dX9_isPair_12 : decode cX9_isPair 12 = .ok (.invokevirtual 68, 3) := by decide +kernel
theorem dX9_isPair_15 : decode cX9_isPair 15 = .ok (.ifCond .eq 7, 3) := by decide +kernel
theorem dX9_isPair_18 : decode cX9_isPair 18 = .ok (.iconst 1, 1) := by decide +kernel
theorem dX9_isPair_19 : decode cX9_isPair 19 = .ok (.goto 4, 3) := by decide +kernel
theorem dX9_isPair_22 : decode cX9_isPair 22 = .ok (.iconst 0, 1) := by decide +kernel
theorem dX9_isPair_23 : decode cX9_isPair 23 = .ok (.ireturn, 1) := by decide +kernel
theorem dX9_shut_0 : decode cX9_shut 0 = .ok (.aload_n 0, 1) := by decide +kernel
theorem dX9_shut_1 : decode cX9_shut 1 = .ok (.iload_n 1, 1) := by decide +kernel
theorem dX9_shut_2 : decode cX9_shut 2 = .ok (.iload_n 2, 1) := by decide +kernel
theorem dX9_shut_3 : decode cX9_shut 3 = .ok (.invokevirtual 115, 3) := by decide +kernel
theorem dX9_shut_6 : decode cX9_shut 6 = .ok (.ifCond .eq 17, 3) := by decide +kernel
theorem dX9_shut_9 : decode cX9_shut 9 = .ok (.aload_n 0, 1) := by decide +kernel
theorem dX9_shut_10 : decode cX9_shut 10 = .ok (.aload_n 0, 1) := by decide +kernel
theorem dX9_shut_11 : decode cX9_shut 11 = .ok (.getfield 25, 3) := by decide +kernel
theorem dX9_shut_14 : decode cX9_shut 14 = .ok (.iload_n 1, 1) := by decide +kernel
theorem dX9_shut_15 : decode cX9_shut 15 = .ok (.iaload, 1) := by decide +kernel
theorem dX9_shut_16 : decode cX9_shut 16 = .ok (.iload_n 2, 1) := by decide +kernel
theorem dX9_shut_17 : decode cX9_shut 17 = .ok (.invokevirtual 118, 3) := by decide +kernel
theorem dX9_shut_20 : decode cX9_shut 20 = .ok (.goto 4, 3) := by decide +kernel
theorem dX9_shut_23 : decode cX9_shut 23 = .ok (.iconst (-1), 1) := by decide +kernel
theorem dX9_shut_24 : decode cX9_shut 24 = .ok (.ireturn, 1) := by decide +kernel
theorem dX9_pointsOf_0 : decode cX9_pointsOf 0 = .ok (.aload_n 0, 1) := by decide +kernel
theorem dX9_pointsOf_1 : decode cX9_pointsOf 1 = .ok (.iload_n 1, 1) := by decide +kernel
theorem dX9_pointsOf_2 : decode cX9_pointsOf 2 = .ok (.iload_n 2, 1) := by decide +kernel
theorem dX9_pointsOf_3 : decode cX9_pointsOf 3 = .ok (.invokevirtual 118, 3) := by decide +kernel
theorem dX9_pointsOf_6 : decode cX9_pointsOf 6 = .ok (.ifCond .eq 6, 3) := by decide +kernel
theorem dX9_pointsOf_9 : decode cX9_pointsOf 9 = .ok (.ldc 121, 2) := by decide +kernel
theorem dX9_pointsOf_11 : decode cX9_pointsOf 11 = .ok (.ireturn, 1) := by decide +kernel
theorem dX9_pointsOf_12 : decode cX9_pointsOf 12 = .ok (.iconst 0, 1) := by decide +kernel
theorem dX9_pointsOf_13 : decode cX9_pointsOf 13 = .ok (.istore_n 3, 1) := by decide +kernel
theorem dX9_pointsOf_14 : decode cX9_pointsOf 14 = .ok (.iconst 1, 1) := by decide +kernel
theorem dX9_pointsOf_15 : decode cX9_pointsOf 15 = .ok (.istore 4, 2) := by decide +kernel
theorem dX9_pointsOf_17 : decode cX9_pointsOf 17 = .ok (.iload 4, 2) := by decide +kernel
theorem dX9_pointsOf_19 : decode cX9_pointsOf 19 = .ok (.bipush 9, 2) := by decide +kernel
theorem dX9_pointsOf_21 : decode cX9_pointsOf 21 = .ok (.if_icmp .ge 51, 3) := by decide +kernel
theorem dX9_pointsOf_24 : decode cX9_pointsOf 24 = .ok (.aload_n 0, 1) := by decide +kernel
theorem dX9_pointsOf_25 : decode cX9_pointsOf 25 = .ok (.iload_n 1, 1) := by decide +kernel
theorem dX9_pointsOf_26 : decode cX9_pointsOf 26 = .ok (.iload 4, 2) := by decide +kernel
theorem dX9_pointsOf_28 : decode cX9_pointsOf 28 = .ok (.invokevirtual 89, 3) := by decide +kernel
theorem dX9_pointsOf_31 : decode cX9_pointsOf 31 = .ok (.ifCond .eq 35, 3) := by decide +kernel
theorem dX9_pointsOf_34 : decode cX9_pointsOf 34 = .ok (.aload_n 0, 1) := by decide +kernel
theorem dX9_pointsOf_35 : decode cX9_pointsOf 35 = .ok (.iload_n 1, 1) := by decide +kernel
theorem dX9_pointsOf_36 : decode cX9_pointsOf 36 = .ok (.iload 4, 2) := by decide +kernel
theorem dX9_pointsOf_38 : decode cX9_pointsOf 38 = .ok (.invokevirtual 89, 3) := by decide +kernel
theorem dX9_pointsOf_41 : decode cX9_pointsOf 41 = .ok (.aload_n 0, 1) := by decide +kernel
theorem dX9_pointsOf_42 : decode cX9_pointsOf 42 = .ok (.iload_n 2, 1) := by decide +kernel
theorem dX9_pointsOf_43 : decode cX9_pointsOf 43 = .ok (.iload 4, 2) := by decide +kernel
theorem dX9_pointsOf_45 : decode cX9_pointsOf 45 = .ok (.invokevirtual 109, 3) := by decide +kernel
theorem dX9_pointsOf_48 : decode cX9_pointsOf 48 = .ok (.if_icmp .ne 18, 3) := by decide +kernel
theorem dX9_pointsOf_51 : decode cX9_pointsOf 51 = .ok (.iload_n 3, 1) := by decide +kernel
theorem dX9_pointsOf_52 : decode cX9_pointsOf 52 = .ok (.aload_n 0, 1) := by decide +kernel
theorem dX9_pointsOf_53 : decode cX9_pointsOf 53 = .ok (.getfield 50, 3) := by decide +kernel
theorem dX9_pointsOf_56 : decode cX9_pointsOf 56 = .ok (.aload_n 0, 1) := by decide +kernel
theorem dX9_pointsOf_57 : decode cX9_pointsOf 57 = .ok (.iload_n 1, 1) := by decide +kernel
theorem dX9_pointsOf_58 : decode cX9_pointsOf 58 = .ok (.iload 4, 2) := by decide +kernel
theorem dX9_pointsOf_60 : decode cX9_pointsOf 60 = .ok (.invokevirtual 89, 3) := by decide +kernel
theorem dX9_pointsOf_63 : decode cX9_pointsOf 63 = .ok (.iaload, 1) := by decide +kernel
theorem dX9_pointsOf_64 : decode cX9_pointsOf 64 = .ok (.iadd, 1) := by decide +kernel
theorem dX9_pointsOf_65 : decode cX9_pointsOf 65 = .ok (.istore_n 3, 1) := by decide +kernel
theorem dX9_pointsOf_66 : decode cX9_pointsOf 66 = .ok (.iinc 4 1, 3) := by decide +kernel
theorem dX9_pointsOf_69 : decode cX9_pointsOf 69 = .ok (.goto (-52), 3) := by decide +kernel
theorem dX9_pointsOf_72 : decode cX9_pointsOf 72 = .ok (.iconst 0, 1) := by decide +kernel
theorem dX9_pointsOf_73 : decode cX9_pointsOf 73 = .ok (.istore 4, 2) := by decide +kernel
theorem dX9_pointsOf_75 : decode cX9_pointsOf 75 = .ok (.iload 4, 2) := by decide +kernel
theorem dX9_pointsOf_77 : decode cX9_pointsOf 77 = .ok (.iconst 4, 1) := by decide +kernel
theorem dX9_pointsOf_78 : decode cX9_pointsOf 78 = .ok (.if_icmp .ge 75, 3) := by decide +kernel
theorem dX9_pointsOf_81 : decode cX9_pointsOf 81 = .ok (.aload_n 0, 1) := by decide +kernel
theorem dX9_pointsOf_82 : decode cX9_pointsOf 82 = .ok (.iload_n 1, 1) := by decide +kernel
theorem dX9_pointsOf_83 : decode cX9_pointsOf 83 = .ok (.bipush 9, 2) := by decide +kernel
theorem dX9_pointsOf_85 : decode cX9_pointsOf 85 = .ok (.iload 4, 2) := by decide +kernel
theorem dX9_pointsOf_87 : decode cX9_pointsOf 87 = .ok (.iadd, 1) := by decide +kernel
theorem dX9_pointsOf_88 : decode cX9_pointsOf 88 = .ok (.invokevirtual 89, 3) := by decide +kernel
theorem dX9_pointsOf_91 : decode cX9_pointsOf 91 = .ok (.istore 5, 2) := by decide +kernel
theorem dX9_pointsOf_93 : decode cX9_pointsOf 93 = .ok (.aload_n 0, 1) := by decide +kernel
theorem dX9_pointsOf_94 : decode cX9_pointsOf 94 = .ok (.iload_n 2, 1) := by decide +kernel
theorem dX9_pointsOf_95 : decode cX9_pointsOf 95 = .ok (.bipush 9, 2) := by decide +kernel
theorem dX9_pointsOf_97 : decode cX9_pointsOf 97 = .ok (.iload 4, 2) := by decide +kernel
theorem dX9_pointsOf_99 : decode cX9_pointsOf 99 = .ok (.iadd, 1) := by decide +kernel
theorem dX9_pointsOf_100 : decode cX9_pointsOf 100 = .ok (.invokevirtual 109, 3) := by decide +kernel
theorem dX9_pointsOf_103 : decode cX9_pointsOf 103 = .ok (.istore 6, 2) := by decide +kernel
theorem dX9_pointsOf_105 : decode cX9_pointsOf 105 = .ok (.iload 5, 2) := by decide +kernel
theorem dX9_pointsOf_107 : decode cX9_pointsOf 107 = .ok (.ifCond .eq 40, 3) := by decide +kernel
theorem dX9_pointsOf_110 : decode cX9_pointsOf 110 = .ok (.iload 6, 2) := by decide +kernel
theorem dX9_pointsOf_112 : decode cX9_pointsOf 112 = .ok (.ifCond .eq 35, 3) := by decide +kernel
theorem dX9_pointsOf_115 : decode cX9_pointsOf 115 = .ok (.iload_n 3, 1) := by decide +kernel
theorem dX9_pointsOf_116 : decode cX9_pointsOf 116 = .ok (.iload 5, 2) := by decide +kernel
theorem dX9_pointsOf_118 : decode cX9_pointsOf 118 = .ok (.iload 6, 2) := by decide +kernel
theorem dX9_pointsOf_120 : decode cX9_pointsOf 120 = .ok (.if_icmp .ne 15, 3) := by decide +kernel
theorem dX9_pointsOf_123 : decode cX9_pointsOf 123 = .ok (.aload_n 0, 1) := by decide +kernel
theorem dX9_pointsOf_124 : decode cX9_pointsOf 124 = .ok (.getfield 50, 3) := by decide +kernel
theorem dX9_pointsOf_127 : decode cX9_pointsOf 127 = .ok (.iconst 4, 1) := by decide +kernel
theorem dX9_pointsOf_128 : decode cX9_pointsOf 128 = .ok (.iload 4, 2) := by decide +kernel
theorem dX9_pointsOf_130 : decode cX9_pointsOf 130 = .ok (.iadd, 1) := by decide +kernel
theorem dX9_pointsOf_131 : decode cX9_pointsOf 131 = .ok (.iaload, 1) := by decide +kernel
theorem dX9_pointsOf_132 : decode cX9_pointsOf 132 = .ok (.goto 13, 3) := by decide +kernel
theorem dX9_pointsOf_135 : decode cX9_pointsOf 135 = .ok (.aload_n 0, 1) := by decide +kernel
theorem dX9_pointsOf_136 : decode cX9_pointsOf 136 = .ok (.getfield 50, 3) := by decide +kernel
theorem dX9_pointsOf_139 : decode cX9_pointsOf 139 = .ok (.iconst 4, 1) := by decide +kernel
theorem dX9_pointsOf_140 : decode cX9_pointsOf 140 = .ok (.iload 4, 2) := by decide +kernel
theorem dX9_pointsOf_142 : decode cX9_pointsOf 142 = .ok (.iadd, 1) := by decide +kernel
theorem dX9_pointsOf_143 : decode cX9_pointsOf 143 = .ok (.iaload, 1) := by decide +kernel
theorem dX9_pointsOf_144 : decode cX9_pointsOf 144 = .ok (.ineg, 1) := by decide +kernel
theorem dX9_pointsOf_145 : decode cX9_pointsOf 145 = .ok (.iadd, 1) := by decide +kernel
theorem dX9_pointsOf_146 : decode cX9_pointsOf 146 = .ok (.istore_n 3, 1) := by decide +kernel
theorem dX9_pointsOf_147 : decode cX9_pointsOf 147 = .ok (.iinc 4 1, 3) := by decide +kernel
theorem dX9_pointsOf_150 : decode cX9_pointsOf 150 = .ok (.goto (-75), 3) := by decide +kernel
theorem dX9_pointsOf_153 : decode cX9_pointsOf 153 = .ok (.iconst 0, 1) := by decide +kernel
theorem dX9_pointsOf_154 : decode cX9_pointsOf 154 = .ok (.istore 4, 2) := by decide +kernel
theorem dX9_pointsOf_156 : decode cX9_pointsOf 156 = .ok (.iload 4, 2) := by decide +kernel
theorem dX9_pointsOf_158 : decode cX9_pointsOf 158 = .ok (.iconst 3, 1) := by decide +kernel
theorem dX9_pointsOf_159 : decode cX9_pointsOf 159 = .ok (.if_icmp .ge 97, 3) := by decide +kernel
theorem dX9_pointsOf_162 : decode cX9_pointsOf 162 = .ok (.aload_n 0, 1) := by decide +kernel
theorem dX9_pointsOf_163 : decode cX9_pointsOf 163 = .ok (.iload_n 1, 1) := by decide +kernel
theorem dX9_pointsOf_164 : decode cX9_pointsOf 164 = .ok (.bipush 13, 2) := by decide +kernel
theorem dX9_pointsOf_166 : decode cX9_pointsOf 166 = .ok (.iload 4, 2) := by decide +kernel
theorem dX9_pointsOf_168 : decode cX9_pointsOf 168 = .ok (.iadd, 1) := by decide +kernel
theorem dX9_pointsOf_169 : decode cX9_pointsOf 169 = .ok (.invokevirtual 89, 3) := by decide +kernel
theorem dX9_pointsOf_172 : decode cX9_pointsOf 172 = .ok (.istore 5, 2) := by decide +kernel
theorem dX9_pointsOf_174 : decode cX9_pointsOf 174 = .ok (.iload 5, 2) := by decide +kernel
theorem dX9_pointsOf_176 : decode cX9_pointsOf 176 = .ok (.ifCond .eq 46, 3) := by decide +kernel
theorem dX9_pointsOf_179 : decode cX9_pointsOf 179 = .ok (.aload_n 0, 1) := by decide +kernel
theorem dX9_pointsOf_180 : decode cX9_pointsOf 180 = .ok (.iload_n 2, 1) := by decide +kernel
theorem dX9_pointsOf_181 : decode cX9_pointsOf 181 = .ok (.bipush 13, 2) := by decide +kernel
theorem dX9_pointsOf_183 : decode cX9_pointsOf 183 = .ok (.iload 4, 2) := by decide +kernel
theorem dX9_pointsOf_185 : decode cX9_pointsOf 185 = .ok (.iadd, 1) := by decide +kernel
theorem dX9_pointsOf_186 : decode cX9_pointsOf 186 = .ok (.invokevirtual 109, 3) := by decide +kernel
theorem dX9_pointsOf_189 : decode cX9_pointsOf 189 = .ok (.ifCond .eq 33, 3) := by decide +kernel
theorem dX9_pointsOf_192 : decode cX9_pointsOf 192 = .ok (.iload_n 3, 1) := by decide +kernel
theorem dX9_pointsOf_193 : decode cX9_pointsOf 193 = .ok (.aload_n 0, 1) := by decide +kernel
theorem dX9_pointsOf_194 : decode cX9_pointsOf 194 = .ok (.getfield 50, 3) := by decide +kernel
theorem dX9_pointsOf_197 : decode cX9_pointsOf 197 = .ok (.bipush 7, 2) := by decide +kernel
theorem dX9_pointsOf_199 : decode cX9_pointsOf 199 = .ok (.iload 5, 2) := by decide +kernel
theorem dX9_pointsOf_201 : decode cX9_pointsOf 201 = .ok (.bipush 10, 2) := by decide +kernel
theorem dX9_pointsOf_203 : decode cX9_pointsOf 203 = .ok (.idiv, 1) := by decide +kernel
theorem dX9_pointsOf_204 : decode cX9_pointsOf 204 = .ok (.iadd, 1) := by decide +kernel
theorem dX9_pointsOf_205 : decode cX9_pointsOf 205 = .ok (.iaload, 1) := by decide +kernel
theorem dX9_pointsOf_206 : decode cX9_pointsOf 206 = .ok (.aload_n 0, 1) := by decide +kernel
theorem dX9_pointsOf_207 : decode cX9_pointsOf 207 = .ok (.getfield 50, 3) := by decide +kernel
theorem dX9_pointsOf_210 : decode cX9_pointsOf 210 = .ok (.bipush 7, 2) := by decide +kernel
theorem dX9_pointsOf_212 : decode cX9_pointsOf 212 = .ok (.iload 5, 2) := by decide +kernel
theorem dX9_pointsOf_214 : decode cX9_pointsOf 214 = .ok (.bipush 10, 2) := by decide +kernel
theorem dX9_pointsOf_216 : decode cX9_pointsOf 216 = .ok (.irem, 1) := by decide +kernel
theorem dX9_pointsOf_217 : decode cX9_pointsOf 217 = .ok (.iadd, 1) := by decide +kernel
theorem dX9_pointsOf_218 : decode cX9_pointsOf 218 = .ok (.iaload, 1) := by decide +kernel
theorem dX9_pointsOf_219 : decode cX9_pointsOf 219 = .ok (.iadd, 1) := by decide +kernel
theorem dX9_pointsOf_220 : decode cX9_pointsOf 220 = .ok (.iadd, 1) := by decide +kernel
theorem dX9_pointsOf_221 : decode cX9_pointsOf 221 = .ok (.istore_n 3, 1) := by decide +kernel
theorem dX9_pointsOf_222 : decode cX9_pointsOf 222 = .ok (.iload 5, 2) := by decide +kernel
theorem dX9_pointsOf_224 : decode cX9_pointsOf 224 = .ok (.ifCond .eq 26, 3) := by decide +kernel
theorem dX9_pointsOf_227 : decode cX9_pointsOf 227 = .ok (.aload_n 0, 1) := by decide +kernel
theorem dX9_pointsOf_228 : decode cX9_pointsOf 228 = .ok (.iload_n 2, 1) := by decide +kernel
theorem dX9_pointsOf_229 : decode cX9_pointsOf 229 = .ok (.bipush 16, 2) := by decide +kernel
theorem dX9_pointsOf_231 : decode cX9_pointsOf 231 = .ok (.iload 4, 2) := by decide +kernel
theorem dX9_pointsOf_233 : decode cX9_pointsOf 233 = .ok (.iadd, 1) := by decide +kernel
theorem dX9_pointsOf_234 : decode cX9_pointsOf 234 = .ok (.invokevirtual 109, 3) := by decide +kernel
theorem dX9_pointsOf_237 : decode cX9_pointsOf 237 = .ok (.ifCond .eq 13, 3) := by decide +kernel
theorem dX9_pointsOf_240 : decode cX9_pointsOf 240 = .ok (.iload_n 3, 1) := by decide +kernel
theorem dX9_pointsOf_241 : decode cX9_pointsOf 241 = .ok (.aload_n 0, 1) := by decide +kernel
theorem dX9_pointsOf_242 : decode cX9_pointsOf 242 = .ok (.getfield 50, 3) := by decide +kernel
theorem dX9_pointsOf_245 : decode cX9_pointsOf 245 = .ok (.bipush 17, 2) := by decide +kernel
theorem dX9_pointsOf_247 : decode cX9_pointsOf 247 = .ok (.iaload, 1) := by decide +kernel
theorem dX9_pointsOf_248 : decode cX9_pointsOf 248 = .ok (.iadd, 1) := by decide +kernel
theorem dX9_pointsOf_249 : decode cX9_pointsOf 249 = .ok (.istore_n 3, 1) := by decide +kernel
theorem dX9_pointsOf_250 : decode cX9_pointsOf 250 = .ok (.iinc 4 1, 3) := by decide +kernel
theorem dX9_pointsOf_253 : decode cX9_pointsOf 253 = .ok (.goto (-97), 3) := by decide +kernel
theorem dX9_pointsOf_256 : decode cX9_pointsOf 256 = .ok (.iload_n 3, 1) := by decide +kernel
theorem dX9_pointsOf_257 : decode cX9_pointsOf 257 = .ok (.ireturn, 1) := by decide +kernel
theorem dX9_points_0 : decode cX9_points 0 = .ok (.aload_n 0, 1) := by decide +kernel
theorem dX9_points_1 : decode cX9_points 1 = .ok (.iload_n 1, 1) := by decide +kernel
theorem dX9_points_2 : decode cX9_points 2 = .ok (.iload_n 2, 1) := by decide +kernel
theorem dX9_points_3 : decode cX9_points 3 = .ok (.invokevirtual 115, 3) := by decide +kernel
theorem dX9_points_6 : decode cX9_points 6 = .ok (.ifCond .eq 17, 3) := by decide +kernel
theorem dX9_points_9 : decode cX9_points 9 = .ok (.aload_n 0, 1) := by decide +kernel
theorem dX9_points_10 : decode cX9_points 10 = .ok (.aload_n 0, 1) := by decide +kernel
theorem dX9_points_11 : decode cX9_points 11 = .ok (.getfield 25, 3) := by decide +kernel
theorem dX9_points_14 : decode cX9_points 14 = .ok (.iload_n 1, 1) := by decide +kernel
theorem dX9_points_15 : decode cX9_points 15 = .ok (.iaload, 1) := by decide +kernel
theorem dX9_points_16 : decode cX9_points 16 = .ok (.iload_n 2, 1) := by decide +kernel
theorem dX9_points_17 : decode cX9_points 17 = .ok (.invokevirtual 122, 3) := by decide +kernel
theorem dX9_points_20 : decode cX9_points 20 = .ok (.goto 4, 3) := by decide +kernel
theorem dX9_points_23 : decode cX9_points 23 = .ok (.iconst (-1), 1) := by decide +kernel
theorem dX9_points_24 : decode cX9_points 24 = .ok (.ireturn, 1) := by decide +kernel
theorem dX9_isNamed_0 : decode cX9_isNamed 0 = .ok (.iconst 0, 1) := by decide +kernel
theorem dX9_isNamed_1 : decode cX9_isNamed 1 = .ok (.istore_n 2, 1) := by decide +kernel
theorem dX9_isNamed_2 : decode cX9_isNamed 2 = .ok (.iconst 0, 1) := by decide +kernel
theorem dX9_isNamed_3 : decode cX9_isNamed 3 = .ok (.istore_n 3, 1) := by decide +kernel
theorem dX9_isNamed_4 : decode cX9_isNamed 4 = .ok (.iload_n 3, 1) := by decide +kernel
theorem dX9_isNamed_5 : decode cX9_isNamed 5 = .ok (.aload_n 0, 1) := by decide +kernel
theorem dX9_isNamed_6 : decode cX9_isNamed 6 = .ok (.getfield 7, 3) := by decide +kernel
theorem dX9_isNamed_9 : decode cX9_isNamed 9 = .ok (.iconst 1, 1) := by decide +kernel
theorem dX9_isNamed_10 : decode cX9_isNamed 10 = .ok (.iaload, 1) := by decide +kernel
theorem dX9_isNamed_11 : decode cX9_isNamed 11 = .ok (.if_icmp .ge 29, 3) := by decide +kernel
theorem dX9_isNamed_14 : decode cX9_isNamed 14 = .ok (.iload_n 2, 1) := by decide +kernel
theorem dX9_isNamed_15 : decode cX9_isNamed 15 = .ok (.ifCond .ne 13, 3) := by decide +kernel
theorem dX9_isNamed_18 : decode cX9_isNamed 18 = .ok (.aload_n 0, 1) := by decide +kernel
theorem dX9_isNamed_19 : decode cX9_isNamed 19 = .ok (.getfield 28, 3) := by decide +kernel
theorem dX9_isNamed_22 : decode cX9_isNamed 22 = .ok (.iload_n 3, 1) := by decide +kernel
theorem dX9_isNamed_23 : decode cX9_isNamed 23 = .ok (.iaload, 1) := by decide +kernel
theorem dX9_isNamed_24 : decode cX9_isNamed 24 = .ok (.iload_n 1, 1) := by decide +kernel
theorem dX9_isNamed_25 : decode cX9_isNamed 25 = .ok (.if_icmp .ne 7, 3) := by decide +kernel
theorem dX9_isNamed_28 : decode cX9_isNamed 28 = .ok (.iconst 1, 1) := by decide +kernel
theorem dX9_isNamed_29 : decode cX9_isNamed 29 = .ok (.goto 4, 3) := by decide +kernel
theorem dX9_isNamed_32 : decode cX9_isNamed 32 = .ok (.iconst 0, 1) := by decide +kernel
theorem dX9_isNamed_33 : decode cX9_isNamed 33 = .ok (.istore_n 2, 1) := by decide +kernel
theorem dX9_isNamed_34 : decode cX9_isNamed 34 = .ok (.iinc 3 1, 3) := by decide +kernel
theorem dX9_isNamed_37 : decode cX9_isNamed 37 = .ok (.goto (-33), 3) := by decide +kernel
theorem dX9_isNamed_40 : decode cX9_isNamed 40 = .ok (.iload_n 2, 1) := by decide +kernel
theorem dX9_isNamed_41 : decode cX9_isNamed 41 = .ok (.ireturn, 1) := by decide +kernel
theorem dX9_measures_0 : decode cX9_measures 0 = .ok (.iconst 0, 1) := by decide +kernel
theorem dX9_measures_1 : decode cX9_measures 1 = .ok (.istore_n 1, 1) := by decide +kernel
theorem dX9_measures_2 : decode cX9_measures 2 = .ok (.iload_n 1, 1) := by decide +kernel
theorem dX9_measures_3 : decode cX9_measures 3 = .ok (.aload_n 0, 1) := by decide +kernel
theorem dX9_measures_4 : decode cX9_measures 4 = .ok (.getfield 7, 3) := by decide +kernel
theorem dX9_measures_7 : decode cX9_measures 7 = .ok (.iconst 1, 1) := by decide +kernel
theorem dX9_measures_8 : decode cX9_measures 8 = .ok (.iaload, 1) := by decide +kernel
theorem dX9_measures_9 : decode cX9_measures 9 = .ok (.if_icmp .ge 90, 3) := by decide +kernel
theorem dX9_measures_12 : decode cX9_measures 12 = .ok (.iconst 0, 1) := by decide +kernel
theorem dX9_measures_13 : decode cX9_measures 13 = .ok (.istore_n 2, 1) := by decide +kernel
theorem dX9_measures_14 : decode cX9_measures 14 = .ok (.iload_n 2, 1) := by decide +kernel
theorem dX9_measures_15 : decode cX9_measures 15 = .ok (.aload_n 0, 1) := by decide +kernel
theorem dX9_measures_16 : decode cX9_measures 16 = .ok (.getfield 7, 3) := by decide +kernel
theorem dX9_measures_19 : decode cX9_measures 19 = .ok (.iconst 0, 1) := by decide +kernel
theorem dX9_measures_20 : decode cX9_measures 20 = .ok (.iaload, 1) := by decide +kernel
theorem dX9_measures_21 : decode cX9_measures 21 = .ok (.if_icmp .ge 72, 3) := by decide +kernel
theorem dX9_measures_24 : decode cX9_measures 24 = .ok (.aload_n 0, 1) := by decide +kernel
theorem dX9_measures_25 : decode cX9_measures 25 = .ok (.getfield 25, 3) := by decide +kernel
theorem dX9_measures_28 : decode cX9_measures 28 = .ok (.iload_n 1, 1) := by decide +kernel
theorem dX9_measures_29 : decode cX9_measures 29 = .ok (.iaload, 1) := by decide +kernel
theorem dX9_measures_30 : decode cX9_measures 30 = .ok (.iload_n 1, 1) := by decide +kernel
theorem dX9_measures_31 : decode cX9_measures 31 = .ok (.if_icmp .ne 25, 3) := by decide +kernel
theorem dX9_measures_34 : decode cX9_measures 34 = .ok (.aload_n 0, 1) := by decide +kernel
theorem dX9_measures_35 : decode cX9_measures 35 = .ok (.getfield 28, 3) := by decide +kernel
theorem dX9_measures_38 : decode cX9_measures 38 = .ok (.iload_n 1, 1) := by decide +kernel
theorem dX9_measures_39 : decode cX9_measures 39 = .ok (.iaload, 1) := by decide +kernel
theorem dX9_measures_40 : decode cX9_measures 40 = .ok (.iconst (-1), 1) := by decide +kernel
theorem dX9_measures_41 : decode cX9_measures 41 = .ok (.if_icmp .ne 15, 3) := by decide +kernel
theorem dX9_measures_44 : decode cX9_measures 44 = .ok (.aload_n 0, 1) := by decide +kernel
theorem dX9_measures_45 : decode cX9_measures 45 = .ok (.iload_n 2, 1) := by decide +kernel
theorem dX9_measures_46 : decode cX9_measures 46 = .ok (.invokevirtual 125, 3) := by decide +kernel
theorem dX9_measures_49 : decode cX9_measures 49 = .ok (.ifCond .ne 7, 3) := by decide +kernel
theorem dX9_measures_52 : decode cX9_measures 52 = .ok (.iconst 1, 1) := by decide +kernel
theorem dX9_measures_53 : decode cX9_measures 53 = .ok (.goto 4, 3) := by decide +kernel
theorem dX9_measures_56 : decode cX9_measures 56 = .ok (.iconst 0, 1) := by decide +kernel
theorem dX9_measures_57 : decode cX9_measures 57 = .ok (.istore_n 3, 1) := by decide +kernel
theorem dX9_measures_58 : decode cX9_measures 58 = .ok (.aload_n 0, 1) := by decide +kernel
theorem dX9_measures_59 : decode cX9_measures 59 = .ok (.getfield 31, 3) := by decide +kernel
theorem dX9_measures_62 : decode cX9_measures 62 = .ok (.bipush 12, 2) := by decide +kernel
theorem dX9_measures_64 : decode cX9_measures 64 = .ok (.iload_n 1, 1) := by decide +kernel
theorem dX9_measures_65 : decode cX9_measures 65 = .ok (.imul, 1) := by decide +kernel
theorem dX9_measures_66 : decode cX9_measures 66 = .ok (.iload_n 2, 1) := by decide +kernel
theorem dX9_measures_67 : decode cX9_measures 67 = .ok (.iadd, 1) := by decide +kernel
theorem dX9_measures_68 : decode cX9_measures 68 = .ok (.iload_n 3, 1) := by decide +kernel
theorem dX9_measures_69 : decode cX9_measures 69 = .ok (.ifCond .eq 16, 3) := by decide +kernel
theorem dX9_measures_72 : decode cX9_measures 72 = .ok (.iconst 0, 1) := by decide +kernel
theorem dX9_measures_73 : decode cX9_measures 73 = .ok (.aload_n 0, 1) := by decide +kernel
theorem dX9_measures_74 : decode cX9_measures 74 = .ok (.iload_n 1, 1) := by decide +kernel
theorem dX9_measures_75 : decode cX9_measures 75 = .ok (.iload_n 2, 1) := by decide +kernel
theorem dX9_measures_76 : decode cX9_measures 76 = .ok (.invokevirtual 122, 3) := by decide +kernel
theorem dX9_measures_79 : decode cX9_measures 79 = .ok (.invokestatic 82, 3) := by decide +kernel
theorem dX9_measures_82 : decode cX9_measures 82 = .ok (.goto 4, 3) := by decide +kernel
theorem dX9_measures_85 : decode cX9_measures 85 = .ok (.iconst 0, 1) := by decide +kernel
theorem dX9_measures_86 : decode cX9_measures 86 = .ok (.iastore, 1) := by decide +kernel
theorem dX9_measures_87 : decode cX9_measures 87 = .ok (.iinc 2 1, 3) := by decide +kernel
theorem dX9_measures_90 : decode cX9_measures 90 = .ok (.goto (-76), 3) := by decide +kernel
theorem dX9_measures_93 : decode cX9_measures 93 = .ok (.iinc 1 1, 3) := by decide +kernel
theorem dX9_measures_96 : decode cX9_measures 96 = .ok (.goto (-94), 3) := by decide +kernel
theorem dX9_measures_99 : decode cX9_measures 99 = .ok (.return_, 1) := by decide +kernel
theorem dX9_pairs_0 : decode cX9_pairs 0 = .ok (.aload_n 0, 1) := by decide +kernel
theorem dX9_pairs_1 : decode cX9_pairs 1 = .ok (.getfield 7, 3) := by decide +kernel
theorem dX9_pairs_4 : decode cX9_pairs 4 = .ok (.iconst 1, 1) := by decide +kernel
theorem dX9_pairs_5 : decode cX9_pairs 5 = .ok (.iaload, 1) := by decide +kernel
theorem dX9_pairs_6 : decode cX9_pairs 6 = .ok (.istore_n 1, 1) := by decide +kernel
theorem dX9_pairs_7 : decode cX9_pairs 7 = .ok (.iconst 1, 1) := by decide +kernel
theorem dX9_pairs_8 : decode cX9_pairs 8 = .ok (.aload_n 0, 1) := by decide +kernel
theorem dX9_pairs_9 : decode cX9_pairs 9 = .ok (.getfield 7, 3) := by decide +kernel
theorem dX9_pairs_12 : decode cX9_pairs 12 = .ok (.iconst 0, 1) := by decide +kernel
theorem dX9_pairs_13 : decode cX9_pairs 13 = .ok (.iaload, 1) := by decide +kernel
theorem dX9_pairs_14 : decode cX9_pairs 14 = .ok (.ishl, 1) := by decide +kernel
theorem dX9_pairs_15 : decode cX9_pairs 15 = .ok (.istore_n 2, 1) := by decide +kernel
theorem dX9_pairs_16 : decode cX9_pairs 16 = .ok (.iconst 0, 1) := by decide +kernel
theorem dX9_pairs_17 : decode cX9_pairs 17 = .ok (.istore_n 3, 1) := by decide +kernel
theorem dX9_pairs_18 : decode cX9_pairs 18 = .ok (.iload_n 3, 1) := by decide +kernel
theorem dX9_pairs_19 : decode cX9_pairs 19 = .ok (.iload_n 2, 1) := by decide +kernel
theorem dX9_pairs_20 : decode cX9_pairs 20 = .ok (.if_icmp .ge 22, 3) := by decide +kernel
theorem dX9_pairs_23 : decode cX9_pairs 23 = .ok (.aload_n 0, 1) := by decide +kernel
theorem dX9_pairs_24 : decode cX9_pairs 24 = .ok (.getfield 35, 3) := by decide +kernel
theorem dX9_pairs_27 : decode cX9_pairs 27 = .ok (.sipush 4096, 3) := by decide +kernel
theorem dX9_pairs_30 : decode cX9_pairs 30 = .ok (.iload_n 1, 1) := by decide +kernel
theorem dX9_pairs_31 : decode cX9_pairs 31 = .ok (.imul, 1) := by decide +kernel
theorem dX9_pairs_32 : decode cX9_pairs 32 = .ok (.iload_n 3, 1) := by decide +kernel
theorem dX9_pairs_33 : decode cX9_pairs 33 = .ok (.iadd, 1) := by decide +kernel
theorem dX9_pairs_34 : decode cX9_pairs 34 = .ok (.iconst 0, 1) := by decide +kernel
theorem dX9_pairs_35 : decode cX9_pairs 35 = .ok (.iastore, 1) := by decide +kernel
theorem dX9_pairs_36 : decode cX9_pairs 36 = .ok (.iinc 3 1, 3) := by decide +kernel
theorem dX9_pairs_39 : decode cX9_pairs 39 = .ok (.goto (-21), 3) := by decide +kernel
theorem dX9_pairs_42 : decode cX9_pairs 42 = .ok (.iload_n 1, 1) := by decide +kernel
theorem dX9_pairs_43 : decode cX9_pairs 43 = .ok (.iconst 1, 1) := by decide +kernel
theorem dX9_pairs_44 : decode cX9_pairs 44 = .ok (.isub, 1) := by decide +kernel
theorem dX9_pairs_45 : decode cX9_pairs 45 = .ok (.istore_n 3, 1) := by decide +kernel
theorem dX9_pairs_46 : decode cX9_pairs 46 = .ok (.iload_n 3, 1) := by decide +kernel
theorem dX9_pairs_47 : decode cX9_pairs 47 = .ok (.ifCond .lt 145, 3) := by decide +kernel
theorem dX9_pairs_50 : decode cX9_pairs 50 = .ok (.iconst 0, 1) := by decide +kernel
theorem dX9_pairs_51 : decode cX9_pairs 51 = .ok (.istore 4, 2) := by decide +kernel
theorem dX9_pairs_53 : decode cX9_pairs 53 = .ok (.iload 4, 2) := by decide +kernel
theorem dX9_pairs_55 : decode cX9_pairs 55 = .ok (.iload_n 2, 1) := by decide +kernel
theorem dX9_pairs_56 : decode cX9_pairs 56 = .ok (.if_icmp .ge 130, 3) := by decide +kernel
theorem dX9_pairs_59 : decode cX9_pairs 59 = .ok (.aload_n 0, 1) := by decide +kernel
theorem dX9_pairs_60 : decode cX9_pairs 60 = .ok (.getfield 35, 3) := by decide +kernel
theorem dX9_pairs_63 : decode cX9_pairs 63 = .ok (.sipush 4096, 3) := by decide +kernel
theorem dX9_pairs_66 : decode cX9_pairs 66 = .ok (.iload_n 3, 1) := by decide +kernel
theorem dX9_pairs_67 : decode cX9_pairs 67 = .ok (.imul, 1) := by decide +kernel
theorem dX9_pairs_68 : decode cX9_pairs 68 = .ok (.sipush 4096, 3) := by decide +kernel
theorem dX9_pairs_71 : decode cX9_pairs 71 = .ok (.iadd, 1) := by decide +kernel
theorem dX9_pairs_72 : decode cX9_pairs 72 = .ok (.iload 4, 2) := by decide +kernel
theorem dX9_pairs_74 : decode cX9_pairs 74 = .ok (.iadd, 1) := by decide +kernel
theorem dX9_pairs_75 : decode cX9_pairs 75 = .ok (.iaload, 1) := by decide +kernel
theorem dX9_pairs_76 : decode cX9_pairs 76 = .ok (.istore 5, 2) := by decide +kernel
theorem dX9_pairs_78 : decode cX9_pairs 78 = .ok (.iconst 0, 1) := by decide +kernel
theorem dX9_pairs_79 : decode cX9_pairs 79 = .ok (.istore 6, 2) := by decide +kernel
theorem dX9_pairs_81 : decode cX9_pairs 81 = .ok (.iload 6, 2) := by decide +kernel
theorem dX9_pairs_83 : decode cX9_pairs 83 = .ok (.aload_n 0, 1) := by decide +kernel
theorem dX9_pairs_84 : decode cX9_pairs 84 = .ok (.getfield 7, 3) := by decide +kernel
theorem dX9_pairs_87 : decode cX9_pairs 87 = .ok (.iconst 0, 1) := by decide +kernel
theorem dX9_pairs_88 : decode cX9_pairs 88 = .ok (.iaload, 1) := by decide +kernel
theorem dX9_pairs_89 : decode cX9_pairs 89 = .ok (.if_icmp .ge 76, 3) := by decide +kernel
theorem dX9_pairs_92 : decode cX9_pairs 92 = .ok (.iload 4, 2) := by decide +kernel
theorem dX9_pairs_94 : decode cX9_pairs 94 = .ok (.iload 6, 2) := by decide +kernel
theorem dX9_pairs_96 : decode cX9_pairs 96 = .ok (.ishr, 1) := by decide +kernel
theorem dX9_pairs_97 : decode cX9_pairs 97 = .ok (.iconst 1, 1) := by decide +kernel
theorem dX9_pairs_98 : decode cX9_pairs 98 = .ok (.iand, 1) := by decide +kernel
theorem dX9_pairs_99 : decode cX9_pairs 99 = .ok (.ifCond .ne 60, 3) := by decide +kernel
theorem dX9_pairs_102 : decode cX9_pairs 102 = .ok (.aload_n 0, 1) := by decide +kernel
theorem dX9_pairs_103 : decode cX9_pairs 103 = .ok (.getfield 31, 3) := by decide +kernel
theorem dX9_pairs_106 : decode cX9_pairs 106 = .ok (.bipush 12, 2) := by decide +kernel
theorem dX9_pairs_108 : decode cX9_pairs 108 = .ok (.iload_n 3, 1) := by decide +kernel
theorem dX9_pairs_109 : decode cX9_pairs 109 = .ok (.imul, 1) := by decide +kernel
theorem dX9_pairs_110 : decode cX9_pairs 110 = .ok (.iload 6, 2) := by decide +kernel
theorem dX9_pairs_112 : decode cX9_pairs 112 = .ok (.iadd, 1) := by decide +kernel
theorem dX9_pairs_113 : decode cX9_pairs 113 = .ok (.iaload, 1) := by decide +kernel
theorem dX9_pairs_114 : decode cX9_pairs 114 = .ok (.ifCond .le 45, 3) := by decide +kernel
theorem dX9_pairs_117 : decode cX9_pairs 117 = .ok (.iload 5, 2) := by decide +kernel
theorem dX9_pairs_119 : decode cX9_pairs 119 = .ok (.aload_n 0, 1) := by decide +kernel
theorem dX9_pairs_120 : decode cX9_pairs 120 = .ok (.getfield 31, 3) := by decide +kernel
theorem dX9_pairs_123 : decode cX9_pairs 123 = .ok (.bipush 12, 2) := by decide +kernel
theorem dX9_pairs_125 : decode cX9_pairs 125 = .ok (.iload_n 3, 1) := by decide +kernel
theorem dX9_pairs_126 : decode cX9_pairs 126 = .ok (.imul, 1) := by decide +kernel
theorem dX9_pairs_127 : decode cX9_pairs 127 = .ok (.iload 6, 2) := by decide +kernel
theorem dX9_pairs_129 : decode cX9_pairs 129 = .ok (.iadd, 1) := by decide +kernel
theorem dX9_pairs_130 : decode cX9_pairs 130 = .ok (.iaload, 1) := by decide +kernel
theorem dX9_pairs_131 : decode cX9_pairs 131 = .ok (.aload_n 0, 1) := by decide +kernel
theorem dX9_pairs_132 : decode cX9_pairs 132 = .ok (.getfield 35, 3) := by decide +kernel
theorem dX9_pairs_135 : decode cX9_pairs 135 = .ok (.sipush 4096, 3) := by decide +kernel
theorem dX9_pairs_138 : decode cX9_pairs 138 = .ok (.iload_n 3, 1) := by decide +kernel
theorem dX9_pairs_139 : decode cX9_pairs 139 = .ok (.imul, 1) := by decide +kernel
theorem dX9_pairs_140 : decode cX9_pairs 140 = .ok (.sipush 4096, 3) := by decide +kernel
theorem dX9_pairs_143 : decode cX9_pairs 143 = .ok (.iadd, 1) := by decide +kernel
theorem dX9_pairs_144 : decode cX9_pairs 144 = .ok (.iload 4, 2) := by decide +kernel
theorem dX9_pairs_146 : decode cX9_pairs 146 = .ok (.iconst 1, 1) := by decide +kernel
theorem dX9_pairs_147 : decode cX9_pairs 147 = .ok (.iload 6, 2) := by decide +kernel
theorem dX9_pairs_149 : decode cX9_pairs 149 = .ok (.ishl, 1) := by decide +kernel
theorem dX9_pairs_150 : decode cX9_pairs 150 = .ok (.ior, 1) := by decide +kernel
theorem dX9_pairs_151 : decode cX9_pairs 151 = .ok (.iadd, 1) := by decide +kernel
theorem dX9_pairs_152 : decode cX9_pairs 152 = .ok (.iaload, 1) := by decide +kernel
theorem dX9_pairs_153 : decode cX9_pairs 153 = .ok (.iadd, 1) := by decide +kernel
theorem dX9_pairs_154 : decode cX9_pairs 154 = .ok (.invokestatic 82, 3) := by decide +kernel
theorem dX9_pairs_157 : decode cX9_pairs 157 = .ok (.istore 5, 2) := by decide +kernel
theorem dX9_pairs_159 : decode cX9_pairs 159 = .ok (.iinc 6 1, 3) := by decide +kernel
theorem dX9_pairs_162 : decode cX9_pairs 162 = .ok (.goto (-81), 3) := by decide +kernel
theorem dX9_pairs_165 : decode cX9_pairs 165 = .ok (.aload_n 0, 1) := by decide +kernel
theorem dX9_pairs_166 : decode cX9_pairs 166 = .ok (.getfield 35, 3) := by decide +kernel
theorem dX9_pairs_169 : decode cX9_pairs 169 = .ok (.sipush 4096, 3) := by decide +kernel
theorem dX9_pairs_172 : decode cX9_pairs 172 = .ok (.iload_n 3, 1) := by decide +kernel
theorem dX9_pairs_173 : decode cX9_pairs 173 = .ok (.imul, 1) := by decide +kernel
theorem dX9_pairs_174 : decode cX9_pairs 174 = .ok (.iload 4, 2) := by decide +kernel
theorem dX9_pairs_176 : decode cX9_pairs 176 = .ok (.iadd, 1) := by decide +kernel
theorem dX9_pairs_177 : decode cX9_pairs 177 = .ok (.iload 5, 2) := by decide +kernel
theorem dX9_pairs_179 : decode cX9_pairs 179 = .ok (.iastore, 1) := by decide +kernel
theorem dX9_pairs_180 : decode cX9_pairs 180 = .ok (.iinc 4 1, 3) := by decide +kernel
theorem dX9_pairs_183 : decode cX9_pairs 183 = .ok (.goto (-130), 3) := by decide +kernel
theorem dX9_pairs_186 : decode cX9_pairs 186 = .ok (.iinc 3 (-1), 3) := by decide +kernel
theorem dX9_pairs_189 : decode cX9_pairs 189 = .ok (.goto (-143), 3) := by decide +kernel
theorem dX9_pairs_192 : decode cX9_pairs 192 = .ok (.aload_n 0, 1) := by decide +kernel
theorem dX9_pairs_193 : decode cX9_pairs 193 = .ok (.getfield 35, 3) := by decide +kernel
theorem dX9_pairs_196 : decode cX9_pairs 196 = .ok (.iconst 0, 1) := by decide +kernel
theorem dX9_pairs_197 : decode cX9_pairs 197 = .ok (.iaload, 1) := by decide +kernel
theorem dX9_pairs_198 : decode cX9_pairs 198 = .ok (.ireturn, 1) := by decide +kernel
theorem dX9_shares_0 : decode cX9_shares 0 = .ok (.aload_n 0, 1) := by decide +kernel
theorem dX9_shares_1 : decode cX9_shares 1 = .ok (.invokevirtual 129, 3) := by decide +kernel
theorem dX9_shares_4 : decode cX9_shares 4 = .ok (.aload_n 0, 1) := by decide +kernel
theorem dX9_shares_5 : decode cX9_shares 5 = .ok (.invokevirtual 132, 3) := by decide +kernel
theorem dX9_shares_8 : decode cX9_shares 8 = .ok (.pop, 1) := by decide +kernel
theorem dX9_shares_9 : decode cX9_shares 9 = .ok (.iconst 0, 1) := by decide +kernel
theorem dX9_shares_10 : decode cX9_shares 10 = .ok (.istore_n 1, 1) := by decide +kernel
theorem dX9_shares_11 : decode cX9_shares 11 = .ok (.iconst 0, 1) := by decide +kernel
theorem dX9_shares_12 : decode cX9_shares 12 = .ok (.istore_n 2, 1) := by decide +kernel
theorem dX9_shares_13 : decode cX9_shares 13 = .ok (.iload_n 2, 1) := by decide +kernel
theorem dX9_shares_14 : decode cX9_shares 14 = .ok (.aload_n 0, 1) := by decide +kernel
theorem dX9_shares_15 : decode cX9_shares 15 = .ok (.getfield 7, 3) := by decide +kernel
theorem dX9_shares_18 : decode cX9_shares 18 = .ok (.iconst 1, 1) := by decide +kernel
theorem dX9_shares_19 : decode cX9_shares 19 = .ok (.iaload, 1) := by decide +kernel
theorem dX9_shares_20 : decode cX9_shares 20 = .ok (.if_icmp .ge 132, 3) := by decide +kernel
theorem dX9_shares_23 : decode cX9_shares 23 = .ok (.aload_n 0, 1) := by decide +kernel
theorem dX9_shares_24 : decode cX9_shares 24 = .ok (.getfield 38, 3) := by decide +kernel
theorem dX9_shares_27 : decode cX9_shares 27 = .ok (.iload_n 2, 1) := by decide +kernel
theorem dX9_shares_28 : decode cX9_shares 28 = .ok (.iconst (-1), 1) := by decide +kernel
theorem dX9_shares_29 : decode cX9_shares 29 = .ok (.iastore, 1) := by decide +kernel
theorem dX9_shares_30 : decode cX9_shares 30 = .ok (.aload_n 0, 1) := by decide +kernel
theorem dX9_shares_31 : decode cX9_shares 31 = .ok (.getfield 7, 3) := by decide +kernel
theorem dX9_shares_34 : decode cX9_shares 34 = .ok (.iconst 0, 1) := by decide +kernel
theorem dX9_shares_35 : decode cX9_shares 35 = .ok (.iaload, 1) := by decide +kernel
theorem dX9_shares_36 : decode cX9_shares 36 = .ok (.iconst 1, 1) := by decide +kernel
theorem dX9_shares_37 : decode cX9_shares 37 = .ok (.isub, 1) := by decide +kernel
theorem dX9_shares_38 : decode cX9_shares 38 = .ok (.istore_n 3, 1) := by decide +kernel
theorem dX9_shares_39 : decode cX9_shares 39 = .ok (.iload_n 3, 1) := by decide +kernel
theorem dX9_shares_40 : decode cX9_shares 40 = .ok (.ifCond .lt 85, 3) := by decide +kernel
theorem dX9_shares_43 : decode cX9_shares 43 = .ok (.iload_n 1, 1) := by decide +kernel
theorem dX9_shares_44 : decode cX9_shares 44 = .ok (.iload_n 3, 1) := by decide +kernel
theorem dX9_shares_45 : decode cX9_shares 45 = .ok (.ishr, 1) := by decide +kernel
theorem dX9_shares_46 : decode cX9_shares 46 = .ok (.iconst 1, 1) := by decide +kernel
theorem dX9_shares_47 : decode cX9_shares 47 = .ok (.iand, 1) := by decide +kernel
theorem dX9_shares_48 : decode cX9_shares 48 = .ok (.ifCond .ne 71, 3) := by decide +kernel
theorem dX9_shares_51 : decode cX9_shares 51 = .ok (.aload_n 0, 1) := by decide +kernel
theorem dX9_shares_52 : decode cX9_shares 52 = .ok (.getfield 31, 3) := by decide +kernel
theorem dX9_shares_55 : decode cX9_shares 55 = .ok (.bipush 12, 2) := by decide +kernel
theorem dX9_shares_57 : decode cX9_shares 57 = .ok (.iload_n 2, 1) := by decide +kernel
theorem dX9_shares_58 : decode cX9_shares 58 = .ok (.imul, 1) := by decide +kernel
theorem dX9_shares_59 : decode cX9_shares 59 = .ok (.iload_n 3, 1) := by decide +kernel
theorem dX9_shares_60 : decode cX9_shares 60 = .ok (.iadd, 1) := by decide +kernel
theorem dX9_shares_61 : decode cX9_shares 61 = .ok (.iaload, 1) := by decide +kernel
theorem dX9_shares_62 : decode cX9_shares 62 = .ok (.ifCond .le 57, 3) := by decide +kernel
theorem dX9_shares_65 : decode cX9_shares 65 = .ok (.aload_n 0, 1) := by decide +kernel
theorem dX9_shares_66 : decode cX9_shares 66 = .ok (.getfield 31, 3) := by decide +kernel
theorem dX9_shares_69 : decode cX9_shares 69 = .ok (.bipush 12, 2) := by decide +kernel
theorem dX9_shares_71 : decode cX9_shares 71 = .ok (.iload_n 2, 1) := by decide +kernel
theorem dX9_shares_72 : decode cX9_shares 72 = .ok (.imul, 1) := by decide +kernel
theorem dX9_shares_73 : decode cX9_shares 73 = .ok (.iload_n 3, 1) := by decide +kernel
theorem dX9_shares_74 : decode cX9_shares 74 = .ok (.iadd, 1) := by decide +kernel
theorem dX9_shares_75 : decode cX9_shares 75 = .ok (.iaload, 1) := by decide +kernel
theorem dX9_shares_76 : decode cX9_shares 76 = .ok (.aload_n 0, 1) := by decide +kernel
theorem dX9_shares_77 : decode cX9_shares 77 = .ok (.getfield 35, 3) := by decide +kernel
theorem dX9_shares_80 : decode cX9_shares 80 = .ok (.sipush 4096, 3) := by decide +kernel
theorem dX9_shares_83 : decode cX9_shares 83 = .ok (.iload_n 2, 1) := by decide +kernel
theorem dX9_shares_84 : decode cX9_shares 84 = .ok (.imul, 1) := by decide +kernel
theorem dX9_shares_85 : decode cX9_shares 85 = .ok (.sipush 4096, 3) := by decide +kernel
theorem dX9_shares_88 : decode cX9_shares 88 = .ok (.iadd, 1) := by decide +kernel
theorem dX9_shares_89 : decode cX9_shares 89 = .ok (.iload_n 1, 1) := by decide +kernel
theorem dX9_shares_90 : decode cX9_shares 90 = .ok (.iconst 1, 1) := by decide +kernel
theorem dX9_shares_91 : decode cX9_shares 91 = .ok (.iload_n 3, 1) := by decide +kernel
theorem dX9_shares_92 : decode cX9_shares 92 = .ok (.ishl, 1) := by decide +kernel
theorem dX9_shares_93 : decode cX9_shares 93 = .ok (.ior, 1) := by decide +kernel
theorem dX9_shares_94 : decode cX9_shares 94 = .ok (.iadd, 1) := by decide +kernel
theorem dX9_shares_95 : decode cX9_shares 95 = .ok (.iaload, 1) := by decide +kernel
theorem dX9_shares_96 : decode cX9_shares 96 = .ok (.iadd, 1) := by decide +kernel
theorem dX9_shares_97 : decode cX9_shares 97 = .ok (.aload_n 0, 1) := by decide +kernel
theorem dX9_shares_98 : decode cX9_shares 98 = .ok (.getfield 35, 3) := by decide +kernel
theorem dX9_shares_101 : decode cX9_shares 101 = .ok (.sipush 4096, 3) := by decide +kernel
theorem dX9_shares_104 : decode cX9_shares 104 = .ok (.iload_n 2, 1) := by decide +kernel
theorem dX9_shares_105 : decode cX9_shares 105 = .ok (.imul, 1) := by decide +kernel
theorem dX9_shares_106 : decode cX9_shares 106 = .ok (.iload_n 1, 1) := by decide +kernel
theorem dX9_shares_107 : decode cX9_shares 107 = .ok (.iadd, 1) := by decide +kernel
theorem dX9_shares_108 : decode cX9_shares 108 = .ok (.iaload, 1) := by decide +kernel
theorem dX9_shares_109 : decode cX9_shares 109 = .ok (.if_icmp .ne 10, 3) := by decide +kernel
theorem dX9_shares_112 : decode cX9_shares 112 = .ok (.aload_n 0, 1) := by decide +kernel
theorem dX9_shares_113 : decode cX9_shares 113 = .ok (.getfield 38, 3) := by decide +kernel
theorem dX9_shares_116 : decode cX9_shares 116 = .ok (.iload_n 2, 1) := by decide +kernel
theorem dX9_shares_117 : decode cX9_shares 117 = .ok (.iload_n 3, 1) := by decide +kernel
theorem dX9_shares_118 : decode cX9_shares 118 = .ok (.iastore, 1) := by decide +kernel
theorem dX9_shares_119 : decode cX9_shares 119 = .ok (.iinc 3 (-1), 3) := by decide +kernel
theorem dX9_shares_122 : decode cX9_shares 122 = .ok (.goto (-83), 3) := by decide +kernel
theorem dX9_shares_125 : decode cX9_shares 125 = .ok (.aload_n 0, 1) := by decide +kernel
theorem dX9_shares_126 : decode cX9_shares 126 = .ok (.getfield 38, 3) := by decide +kernel
theorem dX9_shares_129 : decode cX9_shares 129 = .ok (.iload_n 2, 1) := by decide +kernel
theorem dX9_shares_130 : decode cX9_shares 130 = .ok (.iaload, 1) := by decide +kernel
theorem dX9_shares_131 : decode cX9_shares 131 = .ok (.iconst (-1), 1) := by decide +kernel
theorem dX9_shares_132 : decode cX9_shares 132 = .ok (.if_icmp .eq 14, 3) := by decide +kernel
theorem dX9_shares_135 : decode cX9_shares 135 = .ok (.iload_n 1, 1) := by decide +kernel
theorem dX9_shares_136 : decode cX9_shares 136 = .ok (.iconst 1, 1) := by decide +kernel
theorem dX9_shares_137 : decode cX9_shares 137 = .ok (.aload_n 0, 1) := by decide +kernel
theorem dX9_shares_138 : decode cX9_shares 138 = .ok (.getfield 38, 3) := by decide +kernel
theorem dX9_shares_141 : decode cX9_shares 141 = .ok (.iload_n 2, 1) := by decide +kernel
theorem dX9_shares_142 : decode cX9_shares 142 = .ok (.iaload, 1) := by decide +kernel
theorem dX9_shares_143 : decode cX9_shares 143 = .ok (.ishl, 1) := by decide +kernel
theorem dX9_shares_144 : decode cX9_shares 144 = .ok (.ior, 1) := by decide +kernel
theorem dX9_shares_145 : decode cX9_shares 145 = .ok (.istore_n 1, 1) := by decide +kernel
theorem dX9_shares_146 : decode cX9_shares 146 = .ok (.iinc 2 1, 3) := by decide +kernel
theorem dX9_shares_149 : decode cX9_shares 149 = .ok (.goto (-136), 3) := by decide +kernel
theorem dX9_shares_152 : decode cX9_shares 152 = .ok (.return_, 1) := by decide +kernel
theorem dX9_pairing_0 : decode cX9_pairing 0 = .ok (.iload_n 1, 1) := by decide +kernel
theorem dX9_pairing_1 : decode cX9_pairing 1 = .ok (.iconst (-1), 1) := by decide +kernel
theorem dX9_pairing_2 : decode cX9_pairing 2 = .ok (.if_icmp .eq 15, 3) := by decide +kernel
theorem dX9_pairing_5 : decode cX9_pairing 5 = .ok (.aload_n 0, 1) := by decide +kernel
theorem dX9_pairing_6 : decode cX9_pairing 6 = .ok (.iconst 1, 1) := by decide +kernel
theorem dX9_pairing_7 : decode cX9_pairing 7 = .ok (.iload_n 1, 1) := by decide +kernel
theorem dX9_pairing_8 : decode cX9_pairing 8 = .ok (.invokevirtual 68, 3) := by decide +kernel
theorem dX9_pairing_11 : decode cX9_pairing 11 = .ok (.ifCond .ne 6, 3) := by decide +kernel
theorem dX9_pairing_14 : decode cX9_pairing 14 = .ok (.ldc 121, 2) := by decide +kernel
theorem dX9_pairing_16 : decode cX9_pairing 16 = .ok (.ireturn, 1) := by decide +kernel
theorem dX9_pairing_17 : decode cX9_pairing 17 = .ok (.aload_n 0, 1) := by decide +kernel
theorem dX9_pairing_18 : decode cX9_pairing 18 = .ok (.invokevirtual 136, 3) := by decide +kernel
theorem dX9_pairing_21 : decode cX9_pairing 21 = .ok (.iload_n 1, 1) := by decide +kernel
theorem dX9_pairing_22 : decode cX9_pairing 22 = .ok (.iconst (-1), 1) := by decide +kernel
theorem dX9_pairing_23 : decode cX9_pairing 23 = .ok (.if_icmp .ne 10, 3) := by decide +kernel
theorem dX9_pairing_26 : decode cX9_pairing 26 = .ok (.aload_n 0, 1) := by decide +kernel
theorem dX9_pairing_27 : decode cX9_pairing 27 = .ok (.getfield 35, 3) := by decide +kernel
theorem dX9_pairing_30 : decode cX9_pairing 30 = .ok (.iconst 0, 1) := by decide +kernel
theorem dX9_pairing_31 : decode cX9_pairing 31 = .ok (.iaload, 1) := by decide +kernel
theorem dX9_pairing_32 : decode cX9_pairing 32 = .ok (.ireturn, 1) := by decide +kernel
theorem dX9_pairing_33 : decode cX9_pairing 33 = .ok (.aload_n 0, 1) := by decide +kernel
theorem dX9_pairing_34 : decode cX9_pairing 34 = .ok (.getfield 25, 3) := by decide +kernel
theorem dX9_pairing_37 : decode cX9_pairing 37 = .ok (.iload_n 1, 1) := by decide +kernel
theorem dX9_pairing_38 : decode cX9_pairing 38 = .ok (.iaload, 1) := by decide +kernel
theorem dX9_pairing_39 : decode cX9_pairing 39 = .ok (.istore_n 2, 1) := by decide +kernel
theorem dX9_pairing_40 : decode cX9_pairing 40 = .ok (.aload_n 0, 1) := by decide +kernel
theorem dX9_pairing_41 : decode cX9_pairing 41 = .ok (.getfield 28, 3) := by decide +kernel
theorem dX9_pairing_44 : decode cX9_pairing 44 = .ok (.iload_n 2, 1) := by decide +kernel
theorem dX9_pairing_45 : decode cX9_pairing 45 = .ok (.iaload, 1) := by decide +kernel
theorem dX9_pairing_46 : decode cX9_pairing 46 = .ok (.iconst (-1), 1) := by decide +kernel
theorem dX9_pairing_47 : decode cX9_pairing 47 = .ok (.if_icmp .eq 12, 3) := by decide +kernel
theorem dX9_pairing_50 : decode cX9_pairing 50 = .ok (.aload_n 0, 1) := by decide +kernel
theorem dX9_pairing_51 : decode cX9_pairing 51 = .ok (.getfield 28, 3) := by decide +kernel
theorem dX9_pairing_54 : decode cX9_pairing 54 = .ok (.iload_n 2, 1) := by decide +kernel
theorem dX9_pairing_55 : decode cX9_pairing 55 = .ok (.iaload, 1) := by decide +kernel
theorem dX9_pairing_56 : decode cX9_pairing 56 = .ok (.goto 9, 3) := by decide +kernel
theorem dX9_pairing_59 : decode cX9_pairing 59 = .ok (.aload_n 0, 1) := by decide +kernel
theorem dX9_pairing_60 : decode cX9_pairing 60 = .ok (.getfield 38, 3) := by decide +kernel
theorem dX9_pairing_63 : decode cX9_pairing 63 = .ok (.iload_n 2, 1) := by decide +kernel
theorem dX9_pairing_64 : decode cX9_pairing 64 = .ok (.iaload, 1) := by decide +kernel
theorem dX9_pairing_65 : decode cX9_pairing 65 = .ok (.ireturn, 1) := by decide +kernel
theorem dX9_marginOf_0 : decode cX9_marginOf 0 = .ok (.aload_n 0, 1) := by decide +kernel
theorem dX9_marginOf_1 : decode cX9_marginOf 1 = .ok (.getfield 35, 3) := by decide +kernel
theorem dX9_marginOf_4 : decode cX9_marginOf 4 = .ok (.iconst 0, 1) := by decide +kernel
theorem dX9_marginOf_5 : decode cX9_marginOf 5 = .ok (.iaload, 1) := by decide +kernel
theorem dX9_marginOf_6 : decode cX9_marginOf 6 = .ok (.istore_n 2, 1) := by decide +kernel
theorem dX9_marginOf_7 : decode cX9_marginOf 7 = .ok (.bipush 12, 2) := by decide +kernel
theorem dX9_marginOf_9 : decode cX9_marginOf 9 = .ok (.iload_n 1, 1) := by decide +kernel
theorem dX9_marginOf_10 : decode cX9_marginOf 10 = .ok (.imul, 1) := by decide +kernel
theorem dX9_marginOf_11 : decode cX9_marginOf 11 = .ok (.aload_n 0, 1) := by decide +kernel
theorem dX9_marginOf_12 : decode cX9_marginOf 12 = .ok (.getfield 38, 3) := by decide +kernel
theorem dX9_marginOf_15 : decode cX9_marginOf 15 = .ok (.iload_n 1, 1) := by decide +kernel
theorem dX9_marginOf_16 : decode cX9_marginOf 16 = .ok (.iaload, 1) := by decide +kernel
theorem dX9_marginOf_17 : decode cX9_marginOf 17 = .ok (.iadd, 1) := by decide +kernel
theorem dX9_marginOf_18 : decode cX9_marginOf 18 = .ok (.istore_n 3, 1) := by decide +kernel
theorem dX9_marginOf_19 : decode cX9_marginOf 19 = .ok (.aload_n 0, 1) := by decide +kernel
theorem dX9_marginOf_20 : decode cX9_marginOf 20 = .ok (.getfield 31, 3) := by decide +kernel
theorem dX9_marginOf_23 : decode cX9_marginOf 23 = .ok (.iload_n 3, 1) := by decide +kernel
theorem dX9_marginOf_24 : decode cX9_marginOf 24 = .ok (.iaload, 1) := by decide +kernel
theorem dX9_marginOf_25 : decode cX9_marginOf 25 = .ok (.istore 4, 2) := by decide +kernel
theorem dX9_marginOf_27 : decode cX9_marginOf 27 = .ok (.aload_n 0, 1) := by decide +kernel
theorem dX9_marginOf_28 : decode cX9_marginOf 28 = .ok (.getfield 31, 3) := by decide +kernel
theorem dX9_marginOf_31 : decode cX9_marginOf 31 = .ok (.iload_n 3, 1) := by decide +kernel
theorem dX9_marginOf_32 : decode cX9_marginOf 32 = .ok (.iconst 0, 1) := by decide +kernel
theorem dX9_marginOf_33 : decode cX9_marginOf 33 = .ok (.iastore, 1) := by decide +kernel
theorem dX9_marginOf_34 : decode cX9_marginOf 34 = .ok (.aload_n 0, 1) := by decide +kernel
theorem dX9_marginOf_35 : decode cX9_marginOf 35 = .ok (.invokevirtual 132, 3) := by decide +kernel
theorem dX9_marginOf_38 : decode cX9_marginOf 38 = .ok (.istore 5, 2) := by decide +kernel
theorem dX9_marginOf_40 : decode cX9_marginOf 40 = .ok (.aload_n 0, 1) := by decide +kernel
theorem dX9_marginOf_41 : decode cX9_marginOf 41 = .ok (.getfield 31, 3) := by decide +kernel
theorem dX9_marginOf_44 : decode cX9_marginOf 44 = .ok (.iload_n 3, 1) := by decide +kernel
theorem dX9_marginOf_45 : decode cX9_marginOf 45 = .ok (.iload 4, 2) := by decide +kernel
theorem dX9_marginOf_47 : decode cX9_marginOf 47 = .ok (.iastore, 1) := by decide +kernel
theorem dX9_marginOf_48 : decode cX9_marginOf 48 = .ok (.iload_n 2, 1) := by decide +kernel
theorem dX9_marginOf_49 : decode cX9_marginOf 49 = .ok (.iload 5, 2) := by decide +kernel
theorem dX9_marginOf_51 : decode cX9_marginOf 51 = .ok (.isub, 1) := by decide +kernel
theorem dX9_marginOf_52 : decode cX9_marginOf 52 = .ok (.ireturn, 1) := by decide +kernel
theorem dX9_margin_0 : decode cX9_margin 0 = .ok (.aload_n 0, 1) := by decide +kernel
theorem dX9_margin_1 : decode cX9_margin 1 = .ok (.iconst 1, 1) := by decide +kernel
theorem dX9_margin_2 : decode cX9_margin 2 = .ok (.iload_n 1, 1) := by decide +kernel
theorem dX9_margin_3 : decode cX9_margin 3 = .ok (.invokevirtual 68, 3) := by decide +kernel
theorem dX9_margin_6 : decode cX9_margin 6 = .ok (.ifCond .ne 5, 3) := by decide +kernel
theorem dX9_margin_9 : decode cX9_margin 9 = .ok (.iconst (-1), 1) := by decide +kernel
theorem dX9_margin_10 : decode cX9_margin 10 = .ok (.ireturn, 1) := by decide +kernel
theorem dX9_margin_11 : decode cX9_margin 11 = .ok (.aload_n 0, 1) := by decide +kernel
theorem dX9_margin_12 : decode cX9_margin 12 = .ok (.invokevirtual 136, 3) := by decide +kernel
theorem dX9_margin_15 : decode cX9_margin 15 = .ok (.aload_n 0, 1) := by decide +kernel
theorem dX9_margin_16 : decode cX9_margin 16 = .ok (.getfield 25, 3) := by decide +kernel
theorem dX9_margin_19 : decode cX9_margin 19 = .ok (.iload_n 1, 1) := by decide +kernel
theorem dX9_margin_20 : decode cX9_margin 20 = .ok (.iaload, 1) := by decide +kernel
theorem dX9_margin_21 : decode cX9_margin 21 = .ok (.istore_n 2, 1) := by decide +kernel
theorem dX9_margin_22 : decode cX9_margin 22 = .ok (.aload_n 0, 1) := by decide +kernel
theorem dX9_margin_23 : decode cX9_margin 23 = .ok (.getfield 38, 3) := by decide +kernel
theorem dX9_margin_26 : decode cX9_margin 26 = .ok (.iload_n 2, 1) := by decide +kernel
theorem dX9_margin_27 : decode cX9_margin 27 = .ok (.iaload, 1) := by decide +kernel
theorem dX9_margin_28 : decode cX9_margin 28 = .ok (.iconst (-1), 1) := by decide +kernel
theorem dX9_margin_29 : decode cX9_margin 29 = .ok (.if_icmp .ne 7, 3) := by decide +kernel
theorem dX9_margin_32 : decode cX9_margin 32 = .ok (.iconst (-1), 1) := by decide +kernel
theorem dX9_margin_33 : decode cX9_margin 33 = .ok (.goto 8, 3) := by decide +kernel
theorem dX9_margin_36 : decode cX9_margin 36 = .ok (.aload_n 0, 1) := by decide +kernel
theorem dX9_margin_37 : decode cX9_margin 37 = .ok (.iload_n 2, 1) := by decide +kernel
theorem dX9_margin_38 : decode cX9_margin 38 = .ok (.invokevirtual 139, 3) := by decide +kernel
theorem dX9_margin_41 : decode cX9_margin 41 = .ok (.ireturn, 1) := by decide +kernel
theorem dX9_sealed_0 : decode cX9_sealed 0 = .ok (.iconst 0, 1) := by decide +kernel
theorem dX9_sealed_1 : decode cX9_sealed 1 = .ok (.istore_n 3, 1) := by decide +kernel
theorem dX9_sealed_2 : decode cX9_sealed 2 = .ok (.iconst 0, 1) := by decide +kernel
theorem dX9_sealed_3 : decode cX9_sealed 3 = .ok (.istore 4, 2) := by decide +kernel
theorem dX9_sealed_5 : decode cX9_sealed 5 = .ok (.iload 4, 2) := by decide +kernel
theorem dX9_sealed_7 : decode cX9_sealed 7 = .ok (.aload_n 0, 1) := by decide +kernel
theorem dX9_sealed_8 : decode cX9_sealed 8 = .ok (.getfield 142, 3) := by decide +kernel
theorem dX9_sealed_11 : decode cX9_sealed 11 = .ok (.if_icmp .ge 43, 3) := by decide +kernel
theorem dX9_sealed_14 : decode cX9_sealed 14 = .ok (.aload_n 0, 1) := by decide +kernel
theorem dX9_sealed_15 : decode cX9_sealed 15 = .ok (.getfield 41, 3) := by decide +kernel
theorem dX9_sealed_18 : decode cX9_sealed 18 = .ok (.iload 4, 2) := by decide +kernel
theorem dX9_sealed_20 : decode cX9_sealed 20 = .ok (.iaload, 1) := by decide +kernel
theorem dX9_sealed_21 : decode cX9_sealed 21 = .ok (.iload_n 1, 1) := by decide +kernel
theorem dX9_sealed_22 : decode cX9_sealed 22 = .ok (.if_icmp .ne 26, 3) := by decide +kernel
theorem dX9_sealed_25 : decode cX9_sealed 25 = .ok (.aload_n 0, 1) := by decide +kernel
theorem dX9_sealed_26 : decode cX9_sealed 26 = .ok (.getfield 44, 3) := by decide +kernel
theorem dX9_sealed_29 : decode cX9_sealed 29 = .ok (.iload 4, 2) := by decide +kernel
theorem dX9_sealed_31 : decode cX9_sealed 31 = .ok (.iaload, 1) := by decide +kernel
theorem dX9_sealed_32 : decode cX9_sealed 32 = .ok (.iload_n 2, 1) := by decide +kernel
theorem dX9_sealed_33 : decode cX9_sealed 33 = .ok (.if_icmp .ne 15, 3) := by decide +kernel
theorem dX9_sealed_36 : decode cX9_sealed 36 = .ok (.iload_n 3, 1) := by decide +kernel
theorem dX9_sealed_37 : decode cX9_sealed 37 = .ok (.iconst 1, 1) := by decide +kernel
theorem dX9_sealed_38 : decode cX9_sealed 38 = .ok (.aload_n 0, 1) := by decide +kernel
theorem dX9_sealed_39 : decode cX9_sealed 39 = .ok (.getfield 47, 3) := by decide +kernel
theorem dX9_sealed_42 : decode cX9_sealed 42 = .ok (.iload 4, 2) := by decide +kernel
theorem dX9_sealed_44 : decode cX9_sealed 44 = .ok (.iaload, 1) := by decide +kernel
theorem dX9_sealed_45 : decode cX9_sealed 45 = .ok (.ishl, 1) := by decide +kernel
theorem dX9_sealed_46 : decode cX9_sealed 46 = .ok (.ior, 1) := by decide +kernel
theorem dX9_sealed_47 : decode cX9_sealed 47 = .ok (.istore_n 3, 1) := by decide +kernel
theorem dX9_sealed_48 : decode cX9_sealed 48 = .ok (.iinc 4 1, 3) := by decide +kernel
theorem dX9_sealed_51 : decode cX9_sealed 51 = .ok (.goto (-46), 3) := by decide +kernel
theorem dX9_sealed_54 : decode cX9_sealed 54 = .ok (.iload_n 3, 1) := by decide +kernel
theorem dX9_sealed_55 : decode cX9_sealed 55 = .ok (.ireturn, 1) := by decide +kernel
theorem dX9_bits_0 : decode cX9_bits 0 = .ok (.iconst 0, 1) := by decide +kernel
theorem dX9_bits_1 : decode cX9_bits 1 = .ok (.istore_n 1, 1) := by decide +kernel
theorem dX9_bits_2 : decode cX9_bits 2 = .ok (.iload_n 0, 1) := by decide +kernel
theorem dX9_bits_3 : decode cX9_bits 3 = .ok (.istore_n 2, 1) := by decide +kernel
theorem dX9_bits_4 : decode cX9_bits 4 = .ok (.iload_n 2, 1) := by decide +kernel
theorem dX9_bits_5 : decode cX9_bits 5 = .ok (.ifCond .le 16, 3) := by decide +kernel
theorem dX9_bits_8 : decode cX9_bits 8 = .ok (.iload_n 1, 1) := by decide +kernel
theorem dX9_bits_9 : decode cX9_bits 9 = .ok (.iload_n 2, 1) := by decide +kernel
theorem dX9_bits_10 : decode cX9_bits 10 = .ok (.iconst 1, 1) := by decide +kernel
theorem dX9_bits_11 : decode cX9_bits 11 = .ok (.iand, 1) := by decide +kernel
theorem dX9_bits_12 : decode cX9_bits 12 = .ok (.iadd, 1) := by decide +kernel
theorem dX9_bits_13 : decode cX9_bits 13 = .ok (.istore_n 1, 1) := by decide +kernel
theorem dX9_bits_14 : decode cX9_bits 14 = .ok (.iload_n 2, 1) := by decide +kernel
theorem dX9_bits_15 : decode cX9_bits 15 = .ok (.iconst 1, 1) := by decide +kernel
theorem dX9_bits_16 : decode cX9_bits 16 = .ok (.ishr, 1) := by decide +kernel
theorem dX9_bits_17 : decode cX9_bits 17 = .ok (.istore_n 2, 1) := by decide +kernel
theorem dX9_bits_18 : decode cX9_bits 18 = .ok (.goto (-14), 3) := by decide +kernel
theorem dX9_bits_21 : decode cX9_bits 21 = .ok (.iload_n 1, 1) := by decide +kernel
theorem dX9_bits_22 : decode cX9_bits 22 = .ok (.ireturn, 1) := by decide +kernel
theorem dX9_seal_0 : decode cX9_seal 0 = .ok (.aload_n 0, 1) := by decide +kernel
theorem dX9_seal_1 : decode cX9_seal 1 = .ok (.iload_n 1, 1) := by decide +kernel
theorem dX9_seal_2 : decode cX9_seal 2 = .ok (.iload_n 2, 1) := by decide +kernel
theorem dX9_seal_3 : decode cX9_seal 3 = .ok (.invokevirtual 115, 3) := by decide +kernel
theorem dX9_seal_6 : decode cX9_seal 6 = .ok (.ifCond .eq 13, 3) := by decide +kernel
theorem dX9_seal_9 : decode cX9_seal 9 = .ok (.iload_n 3, 1) := by decide +kernel
theorem dX9_seal_10 : decode cX9_seal 10 = .ok (.iconst 0, 1) := by decide +kernel
theorem dX9_seal_11 : decode cX9_seal 11 = .ok (.bipush 9, 2) := by decide +kernel
theorem dX9_seal_13 : decode cX9_seal 13 = .ok (.invokestatic 64, 3) := by decide +kernel
theorem dX9_seal_16 : decode cX9_seal 16 = .ok (.ifCond .ne 5, 3) := by decide +kernel
theorem dX9_seal_19 : decode cX9_seal 19 = .ok (.iconst (-1), 1) := by decide +kernel
theorem dX9_seal_20 : decode cX9_seal 20 = .ok (.ireturn, 1) := by decide +kernel
theorem dX9_seal_21 : decode cX9_seal 21 = .ok (.aload_n 0, 1) := by decide +kernel
theorem dX9_seal_22 : decode cX9_seal 22 = .ok (.getfield 25, 3) := by decide +kernel
theorem dX9_seal_25 : decode cX9_seal 25 = .ok (.iload_n 1, 1) := by decide +kernel
theorem dX9_seal_26 : decode cX9_seal 26 = .ok (.iaload, 1) := by decide +kernel
theorem dX9_seal_27 : decode cX9_seal 27 = .ok (.istore 4, 2) := by decide +kernel
theorem dX9_seal_29 : decode cX9_seal 29 = .ok (.aload_n 0, 1) := by decide +kernel
theorem dX9_seal_30 : decode cX9_seal 30 = .ok (.iload 4, 2) := by decide +kernel
theorem dX9_seal_32 : decode cX9_seal 32 = .ok (.iload_n 2, 1) := by decide +kernel
theorem dX9_seal_33 : decode cX9_seal 33 = .ok (.invokevirtual 145, 3) := by decide +kernel
theorem dX9_seal_36 : decode cX9_seal 36 = .ok (.iload_n 3, 1) := by decide +kernel
theorem dX9_seal_37 : decode cX9_seal 37 = .ok (.ishr, 1) := by decide +kernel
theorem dX9_seal_38 : decode cX9_seal 38 = .ok (.iconst 1, 1) := by decide +kernel
theorem dX9_seal_39 : decode cX9_seal 39 = .ok (.iand, 1) := by decide +kernel
theorem dX9_seal_40 : decode cX9_seal 40 = .ok (.iconst 1, 1) := by decide +kernel
theorem dX9_seal_41 : decode cX9_seal 41 = .ok (.if_icmp .ne 6, 3) := by decide +kernel
theorem dX9_seal_44 : decode cX9_seal 44 = .ok (.bipush (-2), 2) := by decide +kernel
theorem dX9_seal_46 : decode cX9_seal 46 = .ok (.ireturn, 1) := by decide +kernel
theorem dX9_seal_47 : decode cX9_seal 47 = .ok (.aload_n 0, 1) := by decide +kernel
theorem dX9_seal_48 : decode cX9_seal 48 = .ok (.getfield 142, 3) := by decide +kernel
theorem dX9_seal_51 : decode cX9_seal 51 = .ok (.bipush 60, 2) := by decide +kernel
theorem dX9_seal_53 : decode cX9_seal 53 = .ok (.if_icmp .ne 6, 3) := by decide +kernel
theorem dX9_seal_56 : decode cX9_seal 56 = .ok (.bipush (-3), 2) := by decide +kernel
theorem dX9_seal_58 : decode cX9_seal 58 = .ok (.ireturn, 1) := by decide +kernel
theorem dX9_seal_59 : decode cX9_seal 59 = .ok (.aload_n 0, 1) := by decide +kernel
theorem dX9_seal_60 : decode cX9_seal 60 = .ok (.getfield 41, 3) := by decide +kernel
theorem dX9_seal_63 : decode cX9_seal 63 = .ok (.aload_n 0, 1) := by decide +kernel
theorem dX9_seal_64 : decode cX9_seal 64 = .ok (.getfield 142, 3) := by decide +kernel
theorem dX9_seal_67 : decode cX9_seal 67 = .ok (.iload 4, 2) := by decide +kernel
theorem dX9_seal_69 : decode cX9_seal 69 = .ok (.iastore, 1) := by decide +kernel
theorem dX9_seal_70 : decode cX9_seal 70 = .ok (.aload_n 0, 1) := by decide +kernel
theorem dX9_seal_71 : decode cX9_seal 71 = .ok (.getfield 44, 3) := by decide +kernel
theorem dX9_seal_74 : decode cX9_seal 74 = .ok (.aload_n 0, 1) := by decide +kernel
theorem dX9_seal_75 : decode cX9_seal 75 = .ok (.getfield 142, 3) := by decide +kernel
theorem dX9_seal_78 : decode cX9_seal 78 = .ok (.iload_n 2, 1) := by decide +kernel
theorem dX9_seal_79 : decode cX9_seal 79 = .ok (.iastore, 1) := by decide +kernel
theorem dX9_seal_80 : decode cX9_seal 80 = .ok (.aload_n 0, 1) := by decide +kernel
theorem dX9_seal_81 : decode cX9_seal 81 = .ok (.getfield 47, 3) := by decide +kernel
theorem dX9_seal_84 : decode cX9_seal 84 = .ok (.aload_n 0, 1) := by decide +kernel
theorem dX9_seal_85 : decode cX9_seal 85 = .ok (.getfield 142, 3) := by decide +kernel
theorem dX9_seal_88 : decode cX9_seal 88 = .ok (.iload_n 3, 1) := by decide +kernel
theorem dX9_seal_89 : decode cX9_seal 89 = .ok (.iastore, 1) := by decide +kernel
theorem dX9_seal_90 : decode cX9_seal 90 = .ok (.aload_n 0, 1) := by decide +kernel
theorem dX9_seal_91 : decode cX9_seal 91 = .ok (.dup, 1) := by decide +kernel
theorem dX9_seal_92 : decode cX9_seal 92 = .ok (.getfield 142, 3) := by decide +kernel
theorem dX9_seal_95 : decode cX9_seal 95 = .ok (.iconst 1, 1) := by decide +kernel
theorem dX9_seal_96 : decode cX9_seal 96 = .ok (.iadd, 1) := by decide +kernel
theorem dX9_seal_97 : decode cX9_seal 97 = .ok (.putfield 142, 3) := by decide +kernel
theorem dX9_seal_100 : decode cX9_seal 100 = .ok (.aload_n 0, 1) := by decide +kernel
theorem dX9_seal_101 : decode cX9_seal 101 = .ok (.iload 4, 2) := by decide +kernel
theorem dX9_seal_103 : decode cX9_seal 103 = .ok (.iload_n 2, 1) := by decide +kernel
theorem dX9_seal_104 : decode cX9_seal 104 = .ok (.invokevirtual 145, 3) := by decide +kernel
theorem dX9_seal_107 : decode cX9_seal 107 = .ok (.invokestatic 148, 3) := by decide +kernel
theorem dX9_seal_110 : decode cX9_seal 110 = .ok (.ireturn, 1) := by decide +kernel
theorem dX9_give_0 : decode cX9_give 0 = .ok (.aload_n 0, 1) := by decide +kernel
theorem dX9_give_1 : decode cX9_give 1 = .ok (.iconst 1, 1) := by decide +kernel
theorem dX9_give_2 : decode cX9_give 2 = .ok (.iload_n 1, 1) := by decide +kernel
theorem dX9_give_3 : decode cX9_give 3 = .ok (.invokevirtual 68, 3) := by decide +kernel
theorem dX9_give_6 : decode cX9_give 6 = .ok (.ifCond .eq 18, 3) := by decide +kernel
theorem dX9_give_9 : decode cX9_give 9 = .ok (.aload_n 0, 1) := by decide +kernel
theorem dX9_give_10 : decode cX9_give 10 = .ok (.getfield 28, 3) := by decide +kernel
theorem dX9_give_13 : decode cX9_give 13 = .ok (.aload_n 0, 1) := by decide +kernel
theorem dX9_give_14 : decode cX9_give 14 = .ok (.getfield 25, 3) := by decide +kernel
theorem dX9_give_17 : decode cX9_give 17 = .ok (.iload_n 1, 1) := by decide +kernel
theorem dX9_give_18 : decode cX9_give 18 = .ok (.iaload, 1) := by decide +kernel
theorem dX9_give_19 : decode cX9_give 19 = .ok (.iaload, 1) := by decide +kernel
theorem dX9_give_20 : decode cX9_give 20 = .ok (.iconst (-1), 1) := by decide +kernel
theorem dX9_give_21 : decode cX9_give 21 = .ok (.if_icmp .eq 6, 3) := by decide +kernel
theorem dX9_give_24 : decode cX9_give 24 = .ok (.bipush (-2), 2) := by decide +kernel
theorem dX9_give_26 : decode cX9_give 26 = .ok (.ireturn, 1) := by decide +kernel
theorem dX9_give_27 : decode cX9_give 27 = .ok (.aload_n 0, 1) := by decide +kernel
theorem dX9_give_28 : decode cX9_give 28 = .ok (.getfield 25, 3) := by decide +kernel
theorem dX9_give_31 : decode cX9_give 31 = .ok (.iload_n 1, 1) := by decide +kernel
theorem dX9_give_32 : decode cX9_give 32 = .ok (.iaload, 1) := by decide +kernel
theorem dX9_give_33 : decode cX9_give 33 = .ok (.istore_n 2, 1) := by decide +kernel
theorem dX9_give_34 : decode cX9_give 34 = .ok (.aload_n 0, 1) := by decide +kernel
theorem dX9_give_35 : decode cX9_give 35 = .ok (.invokevirtual 136, 3) := by decide +kernel
theorem dX9_give_38 : decode cX9_give 38 = .ok (.aload_n 0, 1) := by decide +kernel
theorem dX9_give_39 : decode cX9_give 39 = .ok (.getfield 38, 3) := by decide +kernel
theorem dX9_give_42 : decode cX9_give 42 = .ok (.iload_n 2, 1) := by decide +kernel
theorem dX9_give_43 : decode cX9_give 43 = .ok (.iaload, 1) := by decide +kernel
theorem dX9_give_44 : decode cX9_give 44 = .ok (.istore_n 3, 1) := by decide +kernel
theorem dX9_give_45 : decode cX9_give 45 = .ok (.iload_n 3, 1) := by decide +kernel
theorem dX9_give_46 : decode cX9_give 46 = .ok (.iconst (-1), 1) := by decide +kernel
theorem dX9_give_47 : decode cX9_give 47 = .ok (.if_icmp .ne 6, 3) := by decide +kernel
theorem dX9_give_50 : decode cX9_give 50 = .ok (.bipush (-3), 2) := by decide +kernel
theorem dX9_give_52 : decode cX9_give 52 = .ok (.ireturn, 1) := by decide +kernel
theorem dX9_give_53 : decode cX9_give 53 = .ok (.aload_n 0, 1) := by decide +kernel
theorem dX9_give_54 : decode cX9_give 54 = .ok (.getfield 31, 3) := by decide +kernel
theorem dX9_give_57 : decode cX9_give 57 = .ok (.bipush 12, 2) := by decide +kernel
theorem dX9_give_59 : decode cX9_give 59 = .ok (.iload_n 2, 1) := by decide +kernel
theorem dX9_give_60 : decode cX9_give 60 = .ok (.imul, 1) := by decide +kernel
theorem dX9_give_61 : decode cX9_give 61 = .ok (.iload_n 3, 1) := by decide +kernel
theorem dX9_give_62 : decode cX9_give 62 = .ok (.iadd, 1) := by decide +kernel
theorem dX9_give_63 : decode cX9_give 63 = .ok (.iaload, 1) := by decide +kernel
theorem dX9_give_64 : decode cX9_give 64 = .ok (.aload_n 0, 1) := by decide +kernel
theorem dX9_give_65 : decode cX9_give 65 = .ok (.getfield 50, 3) := by decide +kernel
theorem dX9_give_68 : decode cX9_give 68 = .ok (.bipush 18, 2) := by decide +kernel
theorem dX9_give_70 : decode cX9_give 70 = .ok (.iaload, 1) := by decide +kernel
theorem dX9_give_71 : decode cX9_give 71 = .ok (.if_icmp .ge 6, 3) := by decide +kernel
theorem dX9_give_74 : decode cX9_give 74 = .ok (.bipush (-4), 2) := by decide +kernel
theorem dX9_give_76 : decode cX9_give 76 = .ok (.ireturn, 1) := by decide +kernel
theorem dX9_give_77 : decode cX9_give 77 = .ok (.aload_n 0, 1) := by decide +kernel
theorem dX9_give_78 : decode cX9_give 78 = .ok (.iload_n 2, 1) := by decide +kernel
theorem dX9_give_79 : decode cX9_give 79 = .ok (.invokevirtual 139, 3) := by decide +kernel
theorem dX9_give_82 : decode cX9_give 82 = .ok (.aload_n 0, 1) := by decide +kernel
theorem dX9_give_83 : decode cX9_give 83 = .ok (.getfield 50, 3) := by decide +kernel
theorem dX9_give_86 : decode cX9_give 86 = .ok (.bipush 19, 2) := by decide +kernel
theorem dX9_give_88 : decode cX9_give 88 = .ok (.iaload, 1) := by decide +kernel
theorem dX9_give_89 : decode cX9_give 89 = .ok (.if_icmp .ge 6, 3) := by decide +kernel
theorem dX9_give_92 : decode cX9_give 92 = .ok (.bipush (-5), 2) := by decide +kernel
theorem dX9_give_94 : decode cX9_give 94 = .ok (.ireturn, 1) := by decide +kernel
theorem dX9_give_95 : decode cX9_give 95 = .ok (.aload_n 0, 1) := by decide +kernel
theorem dX9_give_96 : decode cX9_give 96 = .ok (.iload_n 2, 1) := by decide +kernel
theorem dX9_give_97 : decode cX9_give 97 = .ok (.iload_n 3, 1) := by decide +kernel
theorem dX9_give_98 : decode cX9_give 98 = .ok (.invokevirtual 145, 3) := by decide +kernel
theorem dX9_give_101 : decode cX9_give 101 = .ok (.invokestatic 148, 3) := by decide +kernel
theorem dX9_give_104 : decode cX9_give 104 = .ok (.aload_n 0, 1) := by decide +kernel
theorem dX9_give_105 : decode cX9_give 105 = .ok (.getfield 50, 3) := by decide +kernel
theorem dX9_give_108 : decode cX9_give 108 = .ok (.bipush 20, 2) := by decide +kernel
theorem dX9_give_110 : decode cX9_give 110 = .ok (.iaload, 1) := by decide +kernel
theorem dX9_give_111 : decode cX9_give 111 = .ok (.if_icmp .ge 6, 3) := by decide +kernel
theorem dX9_give_114 : decode cX9_give 114 = .ok (.bipush (-6), 2) := by decide +kernel
theorem dX9_give_116 : decode cX9_give 116 = .ok (.ireturn, 1) := by decide +kernel
theorem dX9_give_117 : decode cX9_give 117 = .ok (.aload_n 0, 1) := by decide +kernel
theorem dX9_give_118 : decode cX9_give 118 = .ok (.getfield 28, 3) := by decide +kernel
theorem dX9_give_121 : decode cX9_give 121 = .ok (.iload_n 2, 1) := by decide +kernel
theorem dX9_give_122 : decode cX9_give 122 = .ok (.iload_n 3, 1) := by decide +kernel
theorem dX9_give_123 : decode cX9_give 123 = .ok (.iastore, 1) := by decide +kernel
theorem dX9_give_124 : decode cX9_give 124 = .ok (.iload_n 3, 1) := by decide +kernel
theorem dX9_give_125 : decode cX9_give 125 = .ok (.ireturn, 1) := by decide +kernel
theorem dX9_isDoubted_0 : decode cX9_isDoubted 0 = .ok (.aload_n 0, 1) := by decide +kernel
theorem dX9_isDoubted_1 : decode cX9_isDoubted 1 = .ok (.getfield 28, 3) := by decide +kernel
theorem dX9_isDoubted_4 : decode cX9_isDoubted 4 = .ok (.iload_n 1, 1) := by decide +kernel
theorem dX9_isDoubted_5 : decode cX9_isDoubted 5 = .ok (.iaload, 1) := by decide +kernel
theorem dX9_isDoubted_6 : decode cX9_isDoubted 6 = .ok (.iconst (-1), 1) := by decide +kernel
theorem dX9_isDoubted_7 : decode cX9_isDoubted 7 = .ok (.if_icmp .eq 21, 3) := by decide +kernel
theorem dX9_isDoubted_10 : decode cX9_isDoubted 10 = .ok (.aload_n 0, 1) := by decide +kernel
theorem dX9_isDoubted_11 : decode cX9_isDoubted 11 = .ok (.iload_n 1, 1) := by decide +kernel
theorem dX9_isDoubted_12 : decode cX9_isDoubted 12 = .ok (.aload_n 0, 1) := by decide +kernel
theorem dX9_isDoubted_13 : decode cX9_isDoubted 13 = .ok (.getfield 28, 3) := by decide +kernel
theorem dX9_isDoubted_16 : decode cX9_isDoubted 16 = .ok (.iload_n 1, 1) := by decide +kernel
theorem dX9_isDoubted_17 : decode cX9_isDoubted 17 = .ok (.iaload, 1) := by decide +kernel
theorem dX9_isDoubted_18 : decode cX9_isDoubted 18 = .ok (.invokevirtual 118, 3) := by decide +kernel
theorem dX9_isDoubted_21 : decode cX9_isDoubted 21 = .ok (.ifCond .eq 7, 3) := by decide +kernel
theorem dX9_isDoubted_24 : decode cX9_isDoubted 24 = .ok (.iconst 1, 1) := by decide +kernel
theorem dX9_isDoubted_25 : decode cX9_isDoubted 25 = .ok (.goto 4, 3) := by decide +kernel
theorem dX9_isDoubted_28 : decode cX9_isDoubted 28 = .ok (.iconst 0, 1) := by decide +kernel
theorem dX9_isDoubted_29 : decode cX9_isDoubted 29 = .ok (.ireturn, 1) := by decide +kernel
theorem dX9_named_0 : decode cX9_named 0 = .ok (.aload_n 0, 1) := by decide +kernel
theorem dX9_named_1 : decode cX9_named 1 = .ok (.iconst 1, 1) := by decide +kernel
theorem dX9_named_2 : decode cX9_named 2 = .ok (.iload_n 1, 1) := by decide +kernel
theorem dX9_named_3 : decode cX9_named 3 = .ok (.invokevirtual 68, 3) := by decide +kernel
theorem dX9_named_6 : decode cX9_named 6 = .ok (.ifCond .ne 7, 3) := by decide +kernel
theorem dX9_named_9 : decode cX9_named 9 = .ok (.iconst (-1), 1) := by decide +kernel
theorem dX9_named_10 : decode cX9_named 10 = .ok (.goto 43, 3) := by decide +kernel
theorem dX9_named_13 : decode cX9_named 13 = .ok (.iload_n 2, 1) := by decide +kernel
theorem dX9_named_14 : decode cX9_named 14 = .ok (.ifCond .ne 17, 3) := by decide +kernel
theorem dX9_named_17 : decode cX9_named 17 = .ok (.aload_n 0, 1) := by decide +kernel
theorem dX9_named_18 : decode cX9_named 18 = .ok (.getfield 28, 3) := by decide +kernel
theorem dX9_named_21 : decode cX9_named 21 = .ok (.aload_n 0, 1) := by decide +kernel
theorem dX9_named_22 : decode cX9_named 22 = .ok (.getfield 25, 3) := by decide +kernel
theorem dX9_named_25 : decode cX9_named 25 = .ok (.iload_n 1, 1) := by decide +kernel
theorem dX9_named_26 : decode cX9_named 26 = .ok (.iaload, 1) := by decide +kernel
theorem dX9_named_27 : decode cX9_named 27 = .ok (.iaload, 1) := by decide +kernel
theorem dX9_named_28 : decode cX9_named 28 = .ok (.goto 25, 3) := by decide +kernel
theorem dX9_named_31 : decode cX9_named 31 = .ok (.iload_n 2, 1) := by decide +kernel
theorem dX9_named_32 : decode cX9_named 32 = .ok (.iconst 1, 1) := by decide +kernel
theorem dX9_named_33 : decode cX9_named 33 = .ok (.if_icmp .ne 19, 3) := by decide +kernel
theorem dX9_named_36 : decode cX9_named 36 = .ok (.aload_n 0, 1) := by decide +kernel
theorem dX9_named_37 : decode cX9_named 37 = .ok (.aload_n 0, 1) := by decide +kernel
theorem dX9_named_38 : decode cX9_named 38 = .ok (.getfield 25, 3) := by decide +kernel
theorem dX9_named_41 : decode cX9_named 41 = .ok (.iload_n 1, 1) := by decide +kernel
theorem dX9_named_42 : decode cX9_named 42 = .ok (.iaload, 1) := by decide +kernel
theorem dX9_named_43 : decode cX9_named 43 = .ok (.invokevirtual 151, 3) := by decide +kernel
theorem dX9_named_46 : decode cX9_named 46 = .ok (.invokestatic 102, 3) := by decide +kernel
theorem dX9_named_49 : decode cX9_named 49 = .ok (.goto 4, 3) := by decide +kernel
theorem dX9_named_52 : decode cX9_named 52 = .ok (.iconst (-1), 1) := by decide +kernel
theorem dX9_named_53 : decode cX9_named 53 = .ok (.ireturn, 1) := by decide +kernel
theorem dX9_unname_0 : decode cX9_unname 0 = .ok (.aload_n 0, 1) := by decide +kernel
theorem dX9_unname_1 : decode cX9_unname 1 = .ok (.iconst 1, 1) := by decide +kernel
theorem dX9_unname_2 : decode cX9_unname 2 = .ok (.iload_n 1, 1) := by decide +kernel
theorem dX9_unname_3 : decode cX9_unname 3 = .ok (.invokevirtual 68, 3) := by decide +kernel
theorem dX9_unname_6 : decode cX9_unname 6 = .ok (.ifCond .eq 16, 3) := by decide +kernel
theorem dX9_unname_9 : decode cX9_unname 9 = .ok (.aload_n 0, 1) := by decide +kernel
theorem dX9_unname_10 : decode cX9_unname 10 = .ok (.aload_n 0, 1) := by decide +kernel
theorem dX9_unname_11 : decode cX9_unname 11 = .ok (.getfield 25, 3) := by decide +kernel
theorem dX9_unname_14 : decode cX9_unname 14 = .ok (.iload_n 1, 1) := by decide +kernel
theorem dX9_unname_15 : decode cX9_unname 15 = .ok (.iaload, 1) := by decide +kernel
theorem dX9_unname_16 : decode cX9_unname 16 = .ok (.invokevirtual 151, 3) := by decide +kernel
theorem dX9_unname_19 : decode cX9_unname 19 = .ok (.ifCond .ne 5, 3) := by decide +kernel
theorem dX9_unname_22 : decode cX9_unname 22 = .ok (.iconst 0, 1) := by decide +kernel
theorem dX9_unname_23 : decode cX9_unname 23 = .ok (.ireturn, 1) := by decide +kernel
theorem dX9_unname_24 : decode cX9_unname 24 = .ok (.aload_n 0, 1) := by decide +kernel
theorem dX9_unname_25 : decode cX9_unname 25 = .ok (.getfield 28, 3) := by decide +kernel
theorem dX9_unname_28 : decode cX9_unname 28 = .ok (.aload_n 0, 1) := by decide +kernel
theorem dX9_unname_29 : decode cX9_unname 29 = .ok (.getfield 25, 3) := by decide +kernel
theorem dX9_unname_32 : decode cX9_unname 32 = .ok (.iload_n 1, 1) := by decide +kernel
theorem dX9_unname_33 : decode cX9_unname 33 = .ok (.iaload, 1) := by decide +kernel
theorem dX9_unname_34 : decode cX9_unname 34 = .ok (.iconst (-1), 1) := by decide +kernel
theorem dX9_unname_35 : decode cX9_unname 35 = .ok (.iastore, 1) := by decide +kernel
theorem dX9_unname_36 : decode cX9_unname 36 = .ok (.iconst 1, 1) := by decide +kernel
theorem dX9_unname_37 : decode cX9_unname 37 = .ok (.ireturn, 1) := by decide +kernel
theorem dX9_feed_0 : decode cX9_feed 0 = .ok (.aload_n 0, 1) := by decide +kernel
theorem dX9_feed_1 : decode cX9_feed 1 = .ok (.getfield 154, 3) := by decide +kernel
theorem dX9_feed_4 : decode cX9_feed 4 = .ok (.bipush 20, 2) := by decide +kernel
theorem dX9_feed_6 : decode cX9_feed 6 = .ok (.iadd, 1) := by decide +kernel
theorem dX9_feed_7 : decode cX9_feed 7 = .ok (.sipush 500, 3) := by decide +kernel
theorem dX9_feed_10 : decode cX9_feed 10 = .ok (.if_icmp .le 5, 3) := by decide +kernel
theorem dX9_feed_13 : decode cX9_feed 13 = .ok (.iconst (-1), 1) := by decide +kernel
theorem dX9_feed_14 : decode cX9_feed 14 = .ok (.ireturn, 1) := by decide +kernel
theorem dX9_feed_15 : decode cX9_feed 15 = .ok (.aload_n 0, 1) := by decide +kernel
theorem dX9_feed_16 : decode cX9_feed 16 = .ok (.iload_n 1, 1) := by decide +kernel
theorem dX9_feed_17 : decode cX9_feed 17 = .ok (.invokevirtual 157, 3) := by decide +kernel
theorem dX9_feed_20 : decode cX9_feed 20 = .ok (.aload_n 0, 1) := by decide +kernel
theorem dX9_feed_21 : decode cX9_feed 21 = .ok (.iload_n 2, 1) := by decide +kernel
theorem dX9_feed_22 : decode cX9_feed 22 = .ok (.invokevirtual 157, 3) := by decide +kernel
theorem dX9_feed_25 : decode cX9_feed 25 = .ok (.aload_n 0, 1) := by decide +kernel
theorem dX9_feed_26 : decode cX9_feed 26 = .ok (.iload_n 3, 1) := by decide +kernel
theorem dX9_feed_27 : decode cX9_feed 27 = .ok (.invokevirtual 157, 3) := by decide +kernel
theorem dX9_feed_30 : decode cX9_feed 30 = .ok (.aload_n 0, 1) := by decide +kernel
theorem dX9_feed_31 : decode cX9_feed 31 = .ok (.iload 4, 2) := by decide +kernel
theorem dX9_feed_33 : decode cX9_feed 33 = .ok (.invokevirtual 157, 3) := by decide +kernel
theorem dX9_feed_36 : decode cX9_feed 36 = .ok (.aload_n 0, 1) := by decide +kernel
theorem dX9_feed_37 : decode cX9_feed 37 = .ok (.iload 5, 2) := by decide +kernel
theorem dX9_feed_39 : decode cX9_feed 39 = .ok (.invokevirtual 157, 3) := by decide +kernel
theorem dX9_feed_42 : decode cX9_feed 42 = .ok (.aload_n 0, 1) := by decide +kernel
theorem dX9_feed_43 : decode cX9_feed 43 = .ok (.getfield 154, 3) := by decide +kernel
theorem dX9_feed_46 : decode cX9_feed 46 = .ok (.ireturn, 1) := by decide +kernel
theorem dX9_four_0 : decode cX9_four 0 = .ok (.bipush 24, 2) := by decide +kernel
theorem dX9_four_2 : decode cX9_four 2 = .ok (.istore_n 2, 1) := by decide +kernel
theorem dX9_four_3 : decode cX9_four 3 = .ok (.iload_n 2, 1) := by decide +kernel
theorem dX9_four_4 : decode cX9_four 4 = .ok (.ifCond .lt 32, 3) := by decide +kernel
theorem dX9_four_7 : decode cX9_four 7 = .ok (.aload_n 0, 1) := by decide +kernel
theorem dX9_four_8 : decode cX9_four 8 = .ok (.getfield 53, 3) := by decide +kernel
theorem dX9_four_11 : decode cX9_four 11 = .ok (.aload_n 0, 1) := by decide +kernel
end
section
theorem dX9_four_12 : decode cX9_four 12 = .ok (.getfield 154, 3) := by decide +kernel
theorem dX9_four_15 : decode cX9_four 15 = .ok (.iload_n 1, 1) := by decide +kernel
theorem dX9_four_16 : decode cX9_four 16 = .ok (.iload_n 2, 1) := by decide +kernel
theorem dX9_four_17 : decode cX9_four 17 = .ok (.ishr, 1) := by decide +kernel
theorem dX9_four_18 : decode cX9_four 18 = .ok (.i2b, 1) := by decide +kernel
theorem dX9_four_19 : decode cX9_four 19 = .ok (.bastore, 1) := by decide +kernel
theorem dX9_four_20 : decode cX9_four 20 = .ok (.aload_n 0, 1) := by decide +kernel
theorem dX9_four_21 : decode cX9_four 21 = .ok (.dup, 1) := by decide +kernel
theorem dX9_four_22 : decode cX9_four 22 = .ok (.getfield 154, 3) := by decide +kernel
theorem dX9_four_25 : decode cX9_four 25 = .ok (.iconst 1, 1) := by decide +kernel
theorem dX9_four_26 : decode cX9_four 26 = .ok (.iadd, 1) := by decide +kernel
theorem dX9_four_27 : decode cX9_four 27 = .ok (.putfield 154, 3) := by decide +kernel
theorem dX9_four_30 : decode cX9_four 30 = .ok (.iinc 2 (-8), 3) := by decide +kernel
theorem dX9_four_33 : decode cX9_four 33 = .ok (.goto (-30), 3) := by decide +kernel
theorem dX9_four_36 : decode cX9_four 36 = .ok (.return_, 1) := by decide +kernel
theorem dX9_blanks_0 : decode cX9_blanks 0 = .ok (.aload_n 0, 1) := by decide +kernel
theorem dX9_blanks_1 : decode cX9_blanks 1 = .ok (.getfield 161, 3) := by decide +kernel
theorem dX9_blanks_4 : decode cX9_blanks 4 = .ok (.aload_n 0, 1) := by decide +kernel
theorem dX9_blanks_5 : decode cX9_blanks 5 = .ok (.getfield 164, 3) := by decide +kernel
theorem dX9_blanks_8 : decode cX9_blanks 8 = .ok (.if_icmp .ge 44, 3) := by decide +kernel
theorem dX9_blanks_11 : decode cX9_blanks 11 = .ok (.aload_n 0, 1) := by decide +kernel
theorem dX9_blanks_12 : decode cX9_blanks 12 = .ok (.getfield 57, 3) := by decide +kernel
theorem dX9_blanks_15 : decode cX9_blanks 15 = .ok (.aload_n 0, 1) := by decide +kernel
theorem dX9_blanks_16 : decode cX9_blanks 16 = .ok (.getfield 161, 3) := by decide +kernel
theorem dX9_blanks_19 : decode cX9_blanks 19 = .ok (.baload, 1) := by decide +kernel
theorem dX9_blanks_20 : decode cX9_blanks 20 = .ok (.bipush 32, 2) := by decide +kernel
theorem dX9_blanks_22 : decode cX9_blanks 22 = .ok (.if_icmp .eq 17, 3) := by decide +kernel
theorem dX9_blanks_25 : decode cX9_blanks 25 = .ok (.aload_n 0, 1) := by decide +kernel
theorem dX9_blanks_26 : decode cX9_blanks 26 = .ok (.getfield 57, 3) := by decide +kernel
theorem dX9_blanks_29 : decode cX9_blanks 29 = .ok (.aload_n 0, 1) := by decide +kernel
theorem dX9_blanks_30 : decode cX9_blanks 30 = .ok (.getfield 161, 3) := by decide +kernel
theorem dX9_blanks_33 : decode cX9_blanks 33 = .ok (.baload, 1) := by decide +kernel
theorem dX9_blanks_34 : decode cX9_blanks 34 = .ok (.bipush 10, 2) := by decide +kernel
theorem dX9_blanks_36 : decode cX9_blanks 36 = .ok (.if_icmp .ne 16, 3) := by decide +kernel
theorem dX9_blanks_39 : decode cX9_blanks 39 = .ok (.aload_n 0, 1) := by decide +kernel
theorem dX9_blanks_40 : decode cX9_blanks 40 = .ok (.dup, 1) := by decide +kernel
theorem dX9_blanks_41 : decode cX9_blanks 41 = .ok (.getfield 161, 3) := by decide +kernel
theorem dX9_blanks_44 : decode cX9_blanks 44 = .ok (.iconst 1, 1) := by decide +kernel
theorem dX9_blanks_45 : decode cX9_blanks 45 = .ok (.iadd, 1) := by decide +kernel
theorem dX9_blanks_46 : decode cX9_blanks 46 = .ok (.putfield 161, 3) := by decide +kernel
theorem dX9_blanks_49 : decode cX9_blanks 49 = .ok (.goto (-49), 3) := by decide +kernel
theorem dX9_blanks_52 : decode cX9_blanks 52 = .ok (.return_, 1) := by decide +kernel
theorem dX9_word_0 : decode cX9_word 0 = .ok (.aload_n 0, 1) := by decide +kernel
theorem dX9_word_1 : decode cX9_word 1 = .ok (.invokevirtual 167, 3) := by decide +kernel
theorem dX9_word_4 : decode cX9_word 4 = .ok (.aload_n 0, 1) := by decide +kernel
theorem dX9_word_5 : decode cX9_word 5 = .ok (.aload_n 0, 1) := by decide +kernel
theorem dX9_word_6 : decode cX9_word 6 = .ok (.getfield 161, 3) := by decide +kernel
theorem dX9_word_9 : decode cX9_word 9 = .ok (.putfield 170, 3) := by decide +kernel
theorem dX9_word_12 : decode cX9_word 12 = .ok (.lconst 0, 1) := by decide +kernel
theorem dX9_word_13 : decode cX9_word 13 = .ok (.lstore_n 1, 1) := by decide +kernel
theorem dX9_word_14 : decode cX9_word 14 = .ok (.aload_n 0, 1) := by decide +kernel
theorem dX9_word_15 : decode cX9_word 15 = .ok (.getfield 170, 3) := by decide +kernel
theorem dX9_word_18 : decode cX9_word 18 = .ok (.aload_n 0, 1) := by decide +kernel
theorem dX9_word_19 : decode cX9_word 19 = .ok (.getfield 164, 3) := by decide +kernel
theorem dX9_word_22 : decode cX9_word 22 = .ok (.if_icmp .ge 78, 3) := by decide +kernel
theorem dX9_word_25 : decode cX9_word 25 = .ok (.aload_n 0, 1) := by decide +kernel
theorem dX9_word_26 : decode cX9_word 26 = .ok (.getfield 57, 3) := by decide +kernel
theorem dX9_word_29 : decode cX9_word 29 = .ok (.aload_n 0, 1) := by decide +kernel
theorem dX9_word_30 : decode cX9_word 30 = .ok (.getfield 170, 3) := by decide +kernel
theorem dX9_word_33 : decode cX9_word 33 = .ok (.baload, 1) := by decide +kernel
theorem dX9_word_34 : decode cX9_word 34 = .ok (.bipush 97, 2) := by decide +kernel
theorem dX9_word_36 : decode cX9_word 36 = .ok (.if_icmp .lt 64, 3) := by decide +kernel
theorem dX9_word_39 : decode cX9_word 39 = .ok (.aload_n 0, 1) := by decide +kernel
theorem dX9_word_40 : decode cX9_word 40 = .ok (.getfield 57, 3) := by decide +kernel
theorem dX9_word_43 : decode cX9_word 43 = .ok (.aload_n 0, 1) := by decide +kernel
theorem dX9_word_44 : decode cX9_word 44 = .ok (.getfield 170, 3) := by decide +kernel
theorem dX9_word_47 : decode cX9_word 47 = .ok (.baload, 1) := by decide +kernel
theorem dX9_word_48 : decode cX9_word 48 = .ok (.bipush 122, 2) := by decide +kernel
theorem dX9_word_50 : decode cX9_word 50 = .ok (.if_icmp .gt 50, 3) := by decide +kernel
theorem dX9_word_53 : decode cX9_word 53 = .ok (.aload_n 0, 1) := by decide +kernel
theorem dX9_word_54 : decode cX9_word 54 = .ok (.getfield 170, 3) := by decide +kernel
theorem dX9_word_57 : decode cX9_word 57 = .ok (.aload_n 0, 1) := by decide +kernel
theorem dX9_word_58 : decode cX9_word 58 = .ok (.getfield 161, 3) := by decide +kernel
theorem dX9_word_61 : decode cX9_word 61 = .ok (.isub, 1) := by decide +kernel
theorem dX9_word_62 : decode cX9_word 62 = .ok (.bipush 7, 2) := by decide +kernel
theorem dX9_word_64 : decode cX9_word 64 = .ok (.if_icmp .ge 21, 3) := by decide +kernel
theorem dX9_word_67 : decode cX9_word 67 = .ok (.lload_n 1, 1) := by decide +kernel
theorem dX9_word_68 : decode cX9_word 68 = .ok (.bipush 8, 2) := by decide +kernel
theorem dX9_word_70 : decode cX9_word 70 = .ok (.lshl, 1) := by decide +kernel
theorem dX9_word_71 : decode cX9_word 71 = .ok (.aload_n 0, 1) := by decide +kernel
theorem dX9_word_72 : decode cX9_word 72 = .ok (.getfield 57, 3) := by decide +kernel
theorem dX9_word_75 : decode cX9_word 75 = .ok (.aload_n 0, 1) := by decide +kernel
theorem dX9_word_76 : decode cX9_word 76 = .ok (.getfield 170, 3) := by decide +kernel
theorem dX9_word_79 : decode cX9_word 79 = .ok (.baload, 1) := by decide +kernel
theorem dX9_word_80 : decode cX9_word 80 = .ok (.i2l, 1) := by decide +kernel
theorem dX9_word_81 : decode cX9_word 81 = .ok (.lor, 1) := by decide +kernel
theorem dX9_word_82 : decode cX9_word 82 = .ok (.goto 4, 3) := by decide +kernel
theorem dX9_word_85 : decode cX9_word 85 = .ok (.lconst 0, 1) := by decide +kernel
theorem dX9_word_86 : decode cX9_word 86 = .ok (.lstore_n 1, 1) := by decide +kernel
theorem dX9_word_87 : decode cX9_word 87 = .ok (.aload_n 0, 1) := by decide +kernel
theorem dX9_word_88 : decode cX9_word 88 = .ok (.dup, 1) := by decide +kernel
theorem dX9_word_89 : decode cX9_word 89 = .ok (.getfield 170, 3) := by decide +kernel
theorem dX9_word_92 : decode cX9_word 92 = .ok (.iconst 1, 1) := by decide +kernel
theorem dX9_word_93 : decode cX9_word 93 = .ok (.iadd, 1) := by decide +kernel
theorem dX9_word_94 : decode cX9_word 94 = .ok (.putfield 170, 3) := by decide +kernel
theorem dX9_word_97 : decode cX9_word 97 = .ok (.goto (-83), 3) := by decide +kernel
theorem dX9_word_100 : decode cX9_word 100 = .ok (.aload_n 0, 1) := by decide +kernel
theorem dX9_word_101 : decode cX9_word 101 = .ok (.getfield 170, 3) := by decide +kernel
theorem dX9_word_104 : decode cX9_word 104 = .ok (.aload_n 0, 1) := by decide +kernel
theorem dX9_word_105 : decode cX9_word 105 = .ok (.getfield 161, 3) := by decide +kernel
theorem dX9_word_108 : decode cX9_word 108 = .ok (.isub, 1) := by decide +kernel
theorem dX9_word_109 : decode cX9_word 109 = .ok (.bipush 7, 2) := by decide +kernel
theorem dX9_word_111 : decode cX9_word 111 = .ok (.if_icmp .le 7, 3) := by decide +kernel
theorem dX9_word_114 : decode cX9_word 114 = .ok (.lconst 0, 1) := by decide +kernel
theorem dX9_word_115 : decode cX9_word 115 = .ok (.goto 4, 3) := by decide +kernel
theorem dX9_word_118 : decode cX9_word 118 = .ok (.lload_n 1, 1) := by decide +kernel
theorem dX9_word_119 : decode cX9_word 119 = .ok (.lreturn, 1) := by decide +kernel
theorem dX9_takes_0 : decode cX9_takes 0 = .ok (.aload_n 0, 1) := by decide +kernel
theorem dX9_takes_1 : decode cX9_takes 1 = .ok (.invokevirtual 173, 3) := by decide +kernel
theorem dX9_takes_4 : decode cX9_takes 4 = .ok (.lload_n 1, 1) := by decide +kernel
theorem dX9_takes_5 : decode cX9_takes 5 = .ok (.lcmp, 1) := by decide +kernel
theorem dX9_takes_6 : decode cX9_takes 6 = .ok (.ifCond .eq 5, 3) := by decide +kernel
theorem dX9_takes_9 : decode cX9_takes 9 = .ok (.iconst 0, 1) := by decide +kernel
theorem dX9_takes_10 : decode cX9_takes 10 = .ok (.ireturn, 1) := by decide +kernel
theorem dX9_takes_11 : decode cX9_takes 11 = .ok (.aload_n 0, 1) := by decide +kernel
theorem dX9_takes_12 : decode cX9_takes 12 = .ok (.aload_n 0, 1) := by decide +kernel
theorem dX9_takes_13 : decode cX9_takes 13 = .ok (.getfield 170, 3) := by decide +kernel
theorem dX9_takes_16 : decode cX9_takes 16 = .ok (.putfield 161, 3) := by decide +kernel
theorem dX9_takes_19 : decode cX9_takes 19 = .ok (.iconst 1, 1) := by decide +kernel
theorem dX9_takes_20 : decode cX9_takes 20 = .ok (.ireturn, 1) := by decide +kernel
theorem dX9_takesNumber_0 : decode cX9_takesNumber 0 = .ok (.aload_n 0, 1) := by decide +kernel
theorem dX9_takesNumber_1 : decode cX9_takesNumber 1 = .ok (.invokevirtual 167, 3) := by decide +kernel
theorem dX9_takesNumber_4 : decode cX9_takesNumber 4 = .ok (.aload_n 0, 1) := by decide +kernel
theorem dX9_takesNumber_5 : decode cX9_takesNumber 5 = .ok (.getfield 161, 3) := by decide +kernel
theorem dX9_takesNumber_8 : decode cX9_takesNumber 8 = .ok (.istore_n 3, 1) := by decide +kernel
theorem dX9_takesNumber_9 : decode cX9_takesNumber 9 = .ok (.aload_n 0, 1) := by decide +kernel
theorem dX9_takesNumber_10 : decode cX9_takesNumber 10 = .ok (.iconst 0, 1) := by decide +kernel
theorem dX9_takesNumber_11 : decode cX9_takesNumber 11 = .ok (.putfield 177, 3) := by decide +kernel
theorem dX9_takesNumber_14 : decode cX9_takesNumber 14 = .ok (.iload_n 3, 1) := by decide +kernel
theorem dX9_takesNumber_15 : decode cX9_takesNumber 15 = .ok (.aload_n 0, 1) := by decide +kernel
theorem dX9_takesNumber_16 : decode cX9_takesNumber 16 = .ok (.getfield 164, 3) := by decide +kernel
theorem dX9_takesNumber_19 : decode cX9_takesNumber 19 = .ok (.if_icmp .ge 62, 3) := by decide +kernel
theorem dX9_takesNumber_22 : decode cX9_takesNumber 22 = .ok (.aload_n 0, 1) := by decide +kernel
theorem dX9_takesNumber_23 : decode cX9_takesNumber 23 = .ok (.getfield 57, 3) := by decide +kernel
theorem dX9_takesNumber_26 : decode cX9_takesNumber 26 = .ok (.iload_n 3, 1) := by decide +kernel
theorem dX9_takesNumber_27 : decode cX9_takesNumber 27 = .ok (.baload, 1) := by decide +kernel
theorem dX9_takesNumber_28 : decode cX9_takesNumber 28 = .ok (.bipush 48, 2) := by decide +kernel
theorem dX9_takesNumber_30 : decode cX9_takesNumber 30 = .ok (.if_icmp .lt 51, 3) := by decide +kernel
theorem dX9_takesNumber_33 : decode cX9_takesNumber 33 = .ok (.aload_n 0, 1) := by decide +kernel
theorem dX9_takesNumber_34 : decode cX9_takesNumber 34 = .ok (.getfield 57, 3) := by decide +kernel
theorem dX9_takesNumber_37 : decode cX9_takesNumber 37 = .ok (.iload_n 3, 1) := by decide +kernel
theorem dX9_takesNumber_38 : decode cX9_takesNumber 38 = .ok (.baload, 1) := by decide +kernel
theorem dX9_takesNumber_39 : decode cX9_takesNumber 39 = .ok (.bipush 57, 2) := by decide +kernel
theorem dX9_takesNumber_41 : decode cX9_takesNumber 41 = .ok (.if_icmp .gt 40, 3) := by decide +kernel
theorem dX9_takesNumber_44 : decode cX9_takesNumber 44 = .ok (.iload_n 3, 1) := by decide +kernel
theorem dX9_takesNumber_45 : decode cX9_takesNumber 45 = .ok (.aload_n 0, 1) := by decide +kernel
theorem dX9_takesNumber_46 : decode cX9_takesNumber 46 = .ok (.getfield 161, 3) := by decide +kernel
theorem dX9_takesNumber_49 : decode cX9_takesNumber 49 = .ok (.isub, 1) := by decide +kernel
theorem dX9_takesNumber_50 : decode cX9_takesNumber 50 = .ok (.iconst 3, 1) := by decide +kernel
theorem dX9_takesNumber_51 : decode cX9_takesNumber 51 = .ok (.if_icmp .ge 24, 3) := by decide +kernel
theorem dX9_takesNumber_54 : decode cX9_takesNumber 54 = .ok (.aload_n 0, 1) := by decide +kernel
theorem dX9_takesNumber_55 : decode cX9_takesNumber 55 = .ok (.bipush 10, 2) := by decide +kernel
theorem dX9_takesNumber_57 : decode cX9_takesNumber 57 = .ok (.aload_n 0, 1) := by decide +kernel
theorem dX9_takesNumber_58 : decode cX9_takesNumber 58 = .ok (.getfield 177, 3) := by decide +kernel
theorem dX9_takesNumber_61 : decode cX9_takesNumber 61 = .ok (.imul, 1) := by decide +kernel
theorem dX9_takesNumber_62 : decode cX9_takesNumber 62 = .ok (.aload_n 0, 1) := by decide +kernel
theorem dX9_takesNumber_63 : decode cX9_takesNumber 63 = .ok (.getfield 57, 3) := by decide +kernel
theorem dX9_takesNumber_66 : decode cX9_takesNumber 66 = .ok (.iload_n 3, 1) := by decide +kernel
theorem dX9_takesNumber_67 : decode cX9_takesNumber 67 = .ok (.baload, 1) := by decide +kernel
theorem dX9_takesNumber_68 : decode cX9_takesNumber 68 = .ok (.iadd, 1) := by decide +kernel
theorem dX9_takesNumber_69 : decode cX9_takesNumber 69 = .ok (.bipush 48, 2) := by decide +kernel
theorem dX9_takesNumber_71 : decode cX9_takesNumber 71 = .ok (.isub, 1) := by decide +kernel
theorem dX9_takesNumber_72 : decode cX9_takesNumber 72 = .ok (.putfield 177, 3) := by decide +kernel
theorem dX9_takesNumber_75 : decode cX9_takesNumber 75 = .ok (.iinc 3 1, 3) := by decide +kernel
theorem dX9_takesNumber_78 : decode cX9_takesNumber 78 = .ok (.goto (-64), 3) := by decide +kernel
theorem dX9_takesNumber_81 : decode cX9_takesNumber 81 = .ok (.iload_n 3, 1) := by decide +kernel
theorem dX9_takesNumber_82 : decode cX9_takesNumber 82 = .ok (.aload_n 0, 1) := by decide +kernel
theorem dX9_takesNumber_83 : decode cX9_takesNumber 83 = .ok (.getfield 161, 3) := by decide +kernel
theorem dX9_takesNumber_86 : decode cX9_takesNumber 86 = .ok (.if_icmp .eq 25, 3) := by decide +kernel
theorem dX9_takesNumber_89 : decode cX9_takesNumber 89 = .ok (.iload_n 3, 1) := by decide +kernel
theorem dX9_takesNumber_90 : decode cX9_takesNumber 90 = .ok (.aload_n 0, 1) := by decide +kernel
theorem dX9_takesNumber_91 : decode cX9_takesNumber 91 = .ok (.getfield 161, 3) := by decide +kernel
theorem dX9_takesNumber_94 : decode cX9_takesNumber 94 = .ok (.isub, 1) := by decide +kernel
theorem dX9_takesNumber_95 : decode cX9_takesNumber 95 = .ok (.iconst 3, 1) := by decide +kernel
theorem dX9_takesNumber_96 : decode cX9_takesNumber 96 = .ok (.if_icmp .gt 15, 3) := by decide +kernel
theorem dX9_takesNumber_99 : decode cX9_takesNumber 99 = .ok (.aload_n 0, 1) := by decide +kernel
theorem dX9_takesNumber_100 : decode cX9_takesNumber 100 = .ok (.getfield 177, 3) := by decide +kernel
theorem dX9_takesNumber_103 : decode cX9_takesNumber 103 = .ok (.iload_n 1, 1) := by decide +kernel
theorem dX9_takesNumber_104 : decode cX9_takesNumber 104 = .ok (.iload_n 2, 1) := by decide +kernel
theorem dX9_takesNumber_105 : decode cX9_takesNumber 105 = .ok (.invokestatic 64, 3) := by decide +kernel
theorem dX9_takesNumber_108 : decode cX9_takesNumber 108 = .ok (.ifCond .ne 5, 3) := by decide +kernel
theorem dX9_takesNumber_111 : decode cX9_takesNumber 111 = .ok (.iconst 0, 1) := by decide +kernel
theorem dX9_takesNumber_112 : decode cX9_takesNumber 112 = .ok (.ireturn, 1) := by decide +kernel
theorem dX9_takesNumber_113 : decode cX9_takesNumber 113 = .ok (.aload_n 0, 1) := by decide +kernel
theorem dX9_takesNumber_114 : decode cX9_takesNumber 114 = .ok (.iload_n 3, 1) := by decide +kernel
theorem dX9_takesNumber_115 : decode cX9_takesNumber 115 = .ok (.putfield 161, 3) := by decide +kernel
theorem dX9_takesNumber_118 : decode cX9_takesNumber 118 = .ok (.iconst 1, 1) := by decide +kernel
theorem dX9_takesNumber_119 : decode cX9_takesNumber 119 = .ok (.ireturn, 1) := by decide +kernel
theorem dX9_statement_0 : decode cX9_statement 0 = .ok (.aload_n 0, 1) := by decide +kernel
theorem dX9_statement_1 : decode cX9_statement 1 = .ok (.ldc2_w 180, 3) := by decide +kernel
theorem dX9_statement_4 : decode cX9_statement 4 = .ok (.invokevirtual 182, 3) := by decide +kernel
theorem dX9_statement_7 : decode cX9_statement 7 = .ok (.ifCond .eq 7, 3) := by decide +kernel
theorem dX9_statement_10 : decode cX9_statement 10 = .ok (.iconst 0, 1) := by decide +kernel
theorem dX9_statement_11 : decode cX9_statement 11 = .ok (.goto 33, 3) := by decide +kernel
theorem dX9_statement_14 : decode cX9_statement 14 = .ok (.aload_n 0, 1) := by decide +kernel
theorem dX9_statement_15 : decode cX9_statement 15 = .ok (.ldc2_w 186, 3) := by decide +kernel
theorem dX9_statement_18 : decode cX9_statement 18 = .ok (.invokevirtual 182, 3) := by decide +kernel
theorem dX9_statement_21 : decode cX9_statement 21 = .ok (.ifCond .eq 7, 3) := by decide +kernel
theorem dX9_statement_24 : decode cX9_statement 24 = .ok (.iconst 4, 1) := by decide +kernel
theorem dX9_statement_25 : decode cX9_statement 25 = .ok (.goto 19, 3) := by decide +kernel
theorem dX9_statement_28 : decode cX9_statement 28 = .ok (.aload_n 0, 1) := by decide +kernel
theorem dX9_statement_29 : decode cX9_statement 29 = .ok (.ldc2_w 188, 3) := by decide +kernel
theorem dX9_statement_32 : decode cX9_statement 32 = .ok (.invokevirtual 182, 3) := by decide +kernel
theorem dX9_statement_35 : decode cX9_statement 35 = .ok (.ifCond .eq 8, 3) := by decide +kernel
theorem dX9_statement_38 : decode cX9_statement 38 = .ok (.bipush 7, 2) := by decide +kernel
theorem dX9_statement_40 : decode cX9_statement 40 = .ok (.goto 4, 3) := by decide +kernel
theorem dX9_statement_43 : decode cX9_statement 43 = .ok (.iconst (-1), 1) := by decide +kernel
theorem dX9_statement_44 : decode cX9_statement 44 = .ok (.istore_n 1, 1) := by decide +kernel
theorem dX9_statement_45 : decode cX9_statement 45 = .ok (.iload_n 1, 1) := by decide +kernel
theorem dX9_statement_46 : decode cX9_statement 46 = .ok (.iconst (-1), 1) := by decide +kernel
theorem dX9_statement_47 : decode cX9_statement 47 = .ok (.if_icmp .eq 53, 3) := by decide +kernel
theorem dX9_statement_50 : decode cX9_statement 50 = .ok (.aload_n 0, 1) := by decide +kernel
theorem dX9_statement_51 : decode cX9_statement 51 = .ok (.iload_n 1, 1) := by decide +kernel
theorem dX9_statement_52 : decode cX9_statement 52 = .ok (.iconst 4, 1) := by decide +kernel
theorem dX9_statement_53 : decode cX9_statement 53 = .ok (.if_icmp .ne 7, 3) := by decide +kernel
theorem dX9_statement_56 : decode cX9_statement 56 = .ok (.iconst 0, 1) := by decide +kernel
theorem dX9_statement_57 : decode cX9_statement 57 = .ok (.goto 4, 3) := by decide +kernel
theorem dX9_statement_60 : decode cX9_statement 60 = .ok (.iconst 1, 1) := by decide +kernel
theorem dX9_statement_61 : decode cX9_statement 61 = .ok (.iload_n 1, 1) := by decide +kernel
theorem dX9_statement_62 : decode cX9_statement 62 = .ok (.bipush 7, 2) := by decide +kernel
theorem dX9_statement_64 : decode cX9_statement 64 = .ok (.if_icmp .ne 8, 3) := by decide +kernel
theorem dX9_statement_67 : decode cX9_statement 67 = .ok (.bipush 9, 2) := by decide +kernel
theorem dX9_statement_69 : decode cX9_statement 69 = .ok (.goto 4, 3) := by decide +kernel
theorem dX9_statement_72 : decode cX9_statement 72 = .ok (.iconst 3, 1) := by decide +kernel
theorem dX9_statement_73 : decode cX9_statement 73 = .ok (.invokevirtual 190, 3) := by decide +kernel
theorem dX9_statement_76 : decode cX9_statement 76 = .ok (.ifCond .ne 5, 3) := by decide +kernel
theorem dX9_statement_79 : decode cX9_statement 79 = .ok (.iconst 0, 1) := by decide +kernel
theorem dX9_statement_80 : decode cX9_statement 80 = .ok (.ireturn, 1) := by decide +kernel
theorem dX9_statement_81 : decode cX9_statement 81 = .ok (.iload_n 1, 1) := by decide +kernel
theorem dX9_statement_82 : decode cX9_statement 82 = .ok (.aload_n 0, 1) := by decide +kernel
theorem dX9_statement_83 : decode cX9_statement 83 = .ok (.getfield 177, 3) := by decide +kernel
theorem dX9_statement_86 : decode cX9_statement 86 = .ok (.iadd, 1) := by decide +kernel
theorem dX9_statement_87 : decode cX9_statement 87 = .ok (.istore_n 2, 1) := by decide +kernel
theorem dX9_statement_88 : decode cX9_statement 88 = .ok (.aload_n 0, 1) := by decide +kernel
theorem dX9_statement_89 : decode cX9_statement 89 = .ok (.ldc2_w 193, 3) := by decide +kernel
theorem dX9_statement_92 : decode cX9_statement 92 = .ok (.invokevirtual 182, 3) := by decide +kernel
theorem dX9_statement_95 : decode cX9_statement 95 = .ok (.ifCond .ne 74, 3) := by decide +kernel
theorem dX9_statement_98 : decode cX9_statement 98 = .ok (.iconst 0, 1) := by decide +kernel
theorem dX9_statement_99 : decode cX9_statement 99 = .ok (.ireturn, 1) := by decide +kernel
theorem dX9_statement_100 : decode cX9_statement 100 = .ok (.aload_n 0, 1) := by decide +kernel
theorem dX9_statement_101 : decode cX9_statement 101 = .ok (.ldc2_w 195, 3) := by decide +kernel
theorem dX9_statement_104 : decode cX9_statement 104 = .ok (.invokevirtual 182, 3) := by decide +kernel
theorem dX9_statement_107 : decode cX9_statement 107 = .ok (.ifCond .eq 8, 3) := by decide +kernel
theorem dX9_statement_110 : decode cX9_statement 110 = .ok (.bipush 17, 2) := by decide +kernel
theorem dX9_statement_112 : decode cX9_statement 112 = .ok (.goto 49, 3) := by decide +kernel
theorem dX9_statement_115 : decode cX9_statement 115 = .ok (.aload_n 0, 1) := by decide +kernel
theorem dX9_statement_116 : decode cX9_statement 116 = .ok (.ldc2_w 197, 3) := by decide +kernel
theorem dX9_statement_119 : decode cX9_statement 119 = .ok (.invokevirtual 182, 3) := by decide +kernel
theorem dX9_statement_122 : decode cX9_statement 122 = .ok (.ifCond .eq 8, 3) := by decide +kernel
theorem dX9_statement_125 : decode cX9_statement 125 = .ok (.bipush 18, 2) := by decide +kernel
theorem dX9_statement_127 : decode cX9_statement 127 = .ok (.goto 34, 3) := by decide +kernel
theorem dX9_statement_130 : decode cX9_statement 130 = .ok (.aload_n 0, 1) := by decide +kernel
theorem dX9_statement_131 : decode cX9_statement 131 = .ok (.ldc2_w 199, 3) := by decide +kernel
theorem dX9_statement_134 : decode cX9_statement 134 = .ok (.invokevirtual 182, 3) := by decide +kernel
theorem dX9_statement_137 : decode cX9_statement 137 = .ok (.ifCond .eq 8, 3) := by decide +kernel
theorem dX9_statement_140 : decode cX9_statement 140 = .ok (.bipush 19, 2) := by decide +kernel
theorem dX9_statement_142 : decode cX9_statement 142 = .ok (.goto 19, 3) := by decide +kernel
theorem dX9_statement_145 : decode cX9_statement 145 = .ok (.aload_n 0, 1) := by decide +kernel
theorem dX9_statement_146 : decode cX9_statement 146 = .ok (.ldc2_w 201, 3) := by decide +kernel
theorem dX9_statement_149 : decode cX9_statement 149 = .ok (.invokevirtual 182, 3) := by decide +kernel
theorem dX9_statement_152 : decode cX9_statement 152 = .ok (.ifCond .eq 8, 3) := by decide +kernel
theorem dX9_statement_155 : decode cX9_statement 155 = .ok (.bipush 20, 2) := by decide +kernel
theorem dX9_statement_157 : decode cX9_statement 157 = .ok (.goto 4, 3) := by decide +kernel
theorem dX9_statement_160 : decode cX9_statement 160 = .ok (.iconst (-1), 1) := by decide +kernel
theorem dX9_statement_161 : decode cX9_statement 161 = .ok (.istore_n 2, 1) := by decide +kernel
theorem dX9_statement_162 : decode cX9_statement 162 = .ok (.iload_n 2, 1) := by decide +kernel
theorem dX9_statement_163 : decode cX9_statement 163 = .ok (.iconst (-1), 1) := by decide +kernel
theorem dX9_statement_164 : decode cX9_statement 164 = .ok (.if_icmp .ne 5, 3) := by decide +kernel
theorem dX9_statement_167 : decode cX9_statement 167 = .ok (.iconst 0, 1) := by decide +kernel
theorem dX9_statement_168 : decode cX9_statement 168 = .ok (.ireturn, 1) := by decide +kernel
theorem dX9_statement_169 : decode cX9_statement 169 = .ok (.aload_n 0, 1) := by decide +kernel
theorem dX9_statement_170 : decode cX9_statement 170 = .ok (.iload_n 2, 1) := by decide +kernel
theorem dX9_statement_171 : decode cX9_statement 171 = .ok (.bipush 20, 2) := by decide +kernel
theorem dX9_statement_173 : decode cX9_statement 173 = .ok (.if_icmp .ne 7, 3) := by decide +kernel
theorem dX9_statement_176 : decode cX9_statement 176 = .ok (.iconst 1, 1) := by decide +kernel
theorem dX9_statement_177 : decode cX9_statement 177 = .ok (.goto 4, 3) := by decide +kernel
theorem dX9_statement_180 : decode cX9_statement 180 = .ok (.iconst 0, 1) := by decide +kernel
theorem dX9_statement_181 : decode cX9_statement 181 = .ok (.iload_n 2, 1) := by decide +kernel
theorem dX9_statement_182 : decode cX9_statement 182 = .ok (.bipush 20, 2) := by decide +kernel
theorem dX9_statement_184 : decode cX9_statement 184 = .ok (.if_icmp .ne 7, 3) := by decide +kernel
theorem dX9_statement_187 : decode cX9_statement 187 = .ok (.iconst 5, 1) := by decide +kernel
theorem dX9_statement_188 : decode cX9_statement 188 = .ok (.goto 6, 3) := by decide +kernel
theorem dX9_statement_191 : decode cX9_statement 191 = .ok (.sipush 999, 3) := by decide +kernel
theorem dX9_statement_194 : decode cX9_statement 194 = .ok (.invokevirtual 190, 3) := by decide +kernel
theorem dX9_statement_197 : decode cX9_statement 197 = .ok (.ifCond .ne 5, 3) := by decide +kernel
theorem dX9_statement_200 : decode cX9_statement 200 = .ok (.iconst 0, 1) := by decide +kernel
theorem dX9_statement_201 : decode cX9_statement 201 = .ok (.ireturn, 1) := by decide +kernel
theorem dX9_statement_202 : decode cX9_statement 202 = .ok (.aload_n 0, 1) := by decide +kernel
theorem dX9_statement_203 : decode cX9_statement 203 = .ok (.getfield 50, 3) := by decide +kernel
theorem dX9_statement_206 : decode cX9_statement 206 = .ok (.bipush 21, 2) := by decide +kernel
theorem dX9_statement_208 : decode cX9_statement 208 = .ok (.iload_n 2, 1) := by decide +kernel
theorem dX9_statement_209 : decode cX9_statement 209 = .ok (.iadd, 1) := by decide +kernel
theorem dX9_statement_210 : decode cX9_statement 210 = .ok (.aload_n 0, 1) := by decide +kernel
theorem dX9_statement_211 : decode cX9_statement 211 = .ok (.getfield 177, 3) := by decide +kernel
theorem dX9_statement_214 : decode cX9_statement 214 = .ok (.iastore, 1) := by decide +kernel
theorem dX9_statement_215 : decode cX9_statement 215 = .ok (.aload_n 0, 1) := by decide +kernel
theorem dX9_statement_216 : decode cX9_statement 216 = .ok (.invokevirtual 167, 3) := by decide +kernel
theorem dX9_statement_219 : decode cX9_statement 219 = .ok (.aload_n 0, 1) := by decide +kernel
theorem dX9_statement_220 : decode cX9_statement 220 = .ok (.getfield 161, 3) := by decide +kernel
theorem dX9_statement_223 : decode cX9_statement 223 = .ok (.aload_n 0, 1) := by decide +kernel
theorem dX9_statement_224 : decode cX9_statement 224 = .ok (.getfield 164, 3) := by decide +kernel
theorem dX9_statement_227 : decode cX9_statement 227 = .ok (.if_icmp .eq 17, 3) := by decide +kernel
theorem dX9_statement_230 : decode cX9_statement 230 = .ok (.aload_n 0, 1) := by decide +kernel
theorem dX9_statement_231 : decode cX9_statement 231 = .ok (.getfield 57, 3) := by decide +kernel
theorem dX9_statement_234 : decode cX9_statement 234 = .ok (.aload_n 0, 1) := by decide +kernel
theorem dX9_statement_235 : decode cX9_statement 235 = .ok (.getfield 161, 3) := by decide +kernel
theorem dX9_statement_238 : decode cX9_statement 238 = .ok (.baload, 1) := by decide +kernel
theorem dX9_statement_239 : decode cX9_statement 239 = .ok (.bipush 59, 2) := by decide +kernel
theorem dX9_statement_241 : decode cX9_statement 241 = .ok (.if_icmp .eq 5, 3) := by decide +kernel
theorem dX9_statement_244 : decode cX9_statement 244 = .ok (.iconst 0, 1) := by decide +kernel
theorem dX9_statement_245 : decode cX9_statement 245 = .ok (.ireturn, 1) := by decide +kernel
theorem dX9_statement_246 : decode cX9_statement 246 = .ok (.aload_n 0, 1) := by decide +kernel
theorem dX9_statement_247 : decode cX9_statement 247 = .ok (.dup, 1) := by decide +kernel
theorem dX9_statement_248 : decode cX9_statement 248 = .ok (.getfield 161, 3) := by decide +kernel
theorem dX9_statement_251 : decode cX9_statement 251 = .ok (.iconst 1, 1) := by decide +kernel
theorem dX9_statement_252 : decode cX9_statement 252 = .ok (.iadd, 1) := by decide +kernel
theorem dX9_statement_253 : decode cX9_statement 253 = .ok (.putfield 161, 3) := by decide +kernel
theorem dX9_statement_256 : decode cX9_statement 256 = .ok (.iconst 1, 1) := by decide +kernel
theorem dX9_statement_257 : decode cX9_statement 257 = .ok (.ireturn, 1) := by decide +kernel
theorem dX9_plain_0 : decode cX9_plain 0 = .ok (.iload_n 0, 1) := by decide +kernel
theorem dX9_plain_1 : decode cX9_plain 1 = .ok (.iconst 4, 1) := by decide +kernel
theorem dX9_plain_2 : decode cX9_plain 2 = .ok (.if_icmp .ge 32, 3) := by decide +kernel
theorem dX9_plain_5 : decode cX9_plain 5 = .ok (.iload_n 0, 1) := by decide +kernel
theorem dX9_plain_6 : decode cX9_plain 6 = .ok (.ifCond .ne 7, 3) := by decide +kernel
theorem dX9_plain_9 : decode cX9_plain 9 = .ok (.iconst 0, 1) := by decide +kernel
theorem dX9_plain_10 : decode cX9_plain 10 = .ok (.goto 23, 3) := by decide +kernel
theorem dX9_plain_13 : decode cX9_plain 13 = .ok (.iload_n 0, 1) := by decide +kernel
theorem dX9_plain_14 : decode cX9_plain 14 = .ok (.iconst 1, 1) := by decide +kernel
theorem dX9_plain_15 : decode cX9_plain 15 = .ok (.if_icmp .ne 7, 3) := by decide +kernel
theorem dX9_plain_18 : decode cX9_plain 18 = .ok (.iconst 1, 1) := by decide +kernel
theorem dX9_plain_19 : decode cX9_plain 19 = .ok (.goto 14, 3) := by decide +kernel
theorem dX9_plain_22 : decode cX9_plain 22 = .ok (.iload_n 0, 1) := by decide +kernel
theorem dX9_plain_23 : decode cX9_plain 23 = .ok (.iconst 2, 1) := by decide +kernel
theorem dX9_plain_24 : decode cX9_plain 24 = .ok (.if_icmp .ne 7, 3) := by decide +kernel
theorem dX9_plain_27 : decode cX9_plain 27 = .ok (.iconst 4, 1) := by decide +kernel
theorem dX9_plain_28 : decode cX9_plain 28 = .ok (.goto 5, 3) := by decide +kernel
theorem dX9_plain_31 : decode cX9_plain 31 = .ok (.bipush 6, 2) := by decide +kernel
theorem dX9_plain_33 : decode cX9_plain 33 = .ok (.ireturn, 1) := by decide +kernel
theorem dX9_plain_34 : decode cX9_plain 34 = .ok (.iload_n 0, 1) := by decide +kernel
theorem dX9_plain_35 : decode cX9_plain 35 = .ok (.bipush 7, 2) := by decide +kernel
theorem dX9_plain_37 : decode cX9_plain 37 = .ok (.if_icmp .gt 5, 3) := by decide +kernel
theorem dX9_plain_40 : decode cX9_plain 40 = .ok (.iconst 5, 1) := by decide +kernel
theorem dX9_plain_41 : decode cX9_plain 41 = .ok (.ireturn, 1) := by decide +kernel
theorem dX9_plain_42 : decode cX9_plain 42 = .ok (.iload_n 0, 1) := by decide +kernel
theorem dX9_plain_43 : decode cX9_plain 43 = .ok (.bipush 17, 2) := by decide +kernel
theorem dX9_plain_45 : decode cX9_plain 45 = .ok (.if_icmp .ge 7, 3) := by decide +kernel
theorem dX9_plain_48 : decode cX9_plain 48 = .ok (.iconst 3, 1) := by decide +kernel
theorem dX9_plain_49 : decode cX9_plain 49 = .ok (.goto 31, 3) := by decide +kernel
theorem dX9_plain_52 : decode cX9_plain 52 = .ok (.iload_n 0, 1) := by decide +kernel
theorem dX9_plain_53 : decode cX9_plain 53 = .ok (.bipush 17, 2) := by decide +kernel
theorem dX9_plain_55 : decode cX9_plain 55 = .ok (.if_icmp .eq 9, 3) := by decide +kernel
theorem dX9_plain_58 : decode cX9_plain 58 = .ok (.iload_n 0, 1) := by decide +kernel
theorem dX9_plain_59 : decode cX9_plain 59 = .ok (.bipush 20, 2) := by decide +kernel
theorem dX9_plain_61 : decode cX9_plain 61 = .ok (.if_icmp .ne 7, 3) := by decide +kernel
theorem dX9_plain_64 : decode cX9_plain 64 = .ok (.iconst 2, 1) := by decide +kernel
theorem dX9_plain_65 : decode cX9_plain 65 = .ok (.goto 15, 3) := by decide +kernel
theorem dX9_plain_68 : decode cX9_plain 68 = .ok (.iload_n 0, 1) := by decide +kernel
theorem dX9_plain_69 : decode cX9_plain 69 = .ok (.bipush 18, 2) := by decide +kernel
theorem dX9_plain_71 : decode cX9_plain 71 = .ok (.if_icmp .ne 8, 3) := by decide +kernel
theorem dX9_plain_74 : decode cX9_plain 74 = .ok (.bipush 20, 2) := by decide +kernel
theorem dX9_plain_76 : decode cX9_plain 76 = .ok (.goto 4, 3) := by decide +kernel
theorem dX9_plain_79 : decode cX9_plain 79 = .ok (.iconst 5, 1) := by decide +kernel
theorem dX9_plain_80 : decode cX9_plain 80 = .ok (.ireturn, 1) := by decide +kernel
theorem dX9_law_0 : decode cX9_law 0 = .ok (.iload_n 1, 1) := by decide +kernel
theorem dX9_law_1 : decode cX9_law 1 = .ok (.iconst 0, 1) := by decide +kernel
theorem dX9_law_2 : decode cX9_law 2 = .ok (.aload_n 0, 1) := by decide +kernel
theorem dX9_law_3 : decode cX9_law 3 = .ok (.getfield 154, 3) := by decide +kernel
theorem dX9_law_6 : decode cX9_law 6 = .ok (.invokestatic 64, 3) := by decide +kernel
theorem dX9_law_9 : decode cX9_law 9 = .ok (.ifCond .ne 6, 3) := by decide +kernel
theorem dX9_law_12 : decode cX9_law 12 = .ok (.bipush (-2), 2) := by decide +kernel
theorem dX9_law_14 : decode cX9_law 14 = .ok (.ireturn, 1) := by decide +kernel
theorem dX9_law_15 : decode cX9_law 15 = .ok (.iconst 0, 1) := by decide +kernel
theorem dX9_law_16 : decode cX9_law 16 = .ok (.istore_n 2, 1) := by decide +kernel
theorem dX9_law_17 : decode cX9_law 17 = .ok (.iload_n 2, 1) := by decide +kernel
theorem dX9_law_18 : decode cX9_law 18 = .ok (.iload_n 1, 1) := by decide +kernel
theorem dX9_law_19 : decode cX9_law 19 = .ok (.if_icmp .ge 21, 3) := by decide +kernel
theorem dX9_law_22 : decode cX9_law 22 = .ok (.aload_n 0, 1) := by decide +kernel
theorem dX9_law_23 : decode cX9_law 23 = .ok (.getfield 57, 3) := by decide +kernel
theorem dX9_law_26 : decode cX9_law 26 = .ok (.iload_n 2, 1) := by decide +kernel
theorem dX9_law_27 : decode cX9_law 27 = .ok (.aload_n 0, 1) := by decide +kernel
theorem dX9_law_28 : decode cX9_law 28 = .ok (.getfield 53, 3) := by decide +kernel
theorem dX9_law_31 : decode cX9_law 31 = .ok (.iload_n 2, 1) := by decide +kernel
theorem dX9_law_32 : decode cX9_law 32 = .ok (.baload, 1) := by decide +kernel
theorem dX9_law_33 : decode cX9_law 33 = .ok (.bastore, 1) := by decide +kernel
theorem dX9_law_34 : decode cX9_law 34 = .ok (.iinc 2 1, 3) := by decide +kernel
theorem dX9_law_37 : decode cX9_law 37 = .ok (.goto (-20), 3) := by decide +kernel
theorem dX9_law_40 : decode cX9_law 40 = .ok (.aload_n 0, 1) := by decide +kernel
theorem dX9_law_41 : decode cX9_law 41 = .ok (.iload_n 1, 1) := by decide +kernel
theorem dX9_law_42 : decode cX9_law 42 = .ok (.putfield 164, 3) := by decide +kernel
theorem dX9_law_45 : decode cX9_law 45 = .ok (.aload_n 0, 1) := by decide +kernel
theorem dX9_law_46 : decode cX9_law 46 = .ok (.iconst 0, 1) := by decide +kernel
theorem dX9_law_47 : decode cX9_law 47 = .ok (.putfield 154, 3) := by decide +kernel
theorem dX9_law_50 : decode cX9_law 50 = .ok (.aload_n 0, 1) := by decide +kernel
theorem dX9_law_51 : decode cX9_law 51 = .ok (.iconst 0, 1) := by decide +kernel
theorem dX9_law_52 : decode cX9_law 52 = .ok (.putfield 161, 3) := by decide +kernel
theorem dX9_law_55 : decode cX9_law 55 = .ok (.iconst 0, 1) := by decide +kernel
theorem dX9_law_56 : decode cX9_law 56 = .ok (.istore_n 2, 1) := by decide +kernel
theorem dX9_law_57 : decode cX9_law 57 = .ok (.iload_n 2, 1) := by decide +kernel
theorem dX9_law_58 : decode cX9_law 58 = .ok (.bipush 21, 2) := by decide +kernel
theorem dX9_law_60 : decode cX9_law 60 = .ok (.if_icmp .ge 22, 3) := by decide +kernel
theorem dX9_law_63 : decode cX9_law 63 = .ok (.aload_n 0, 1) := by decide +kernel
theorem dX9_law_64 : decode cX9_law 64 = .ok (.getfield 50, 3) := by decide +kernel
theorem dX9_law_67 : decode cX9_law 67 = .ok (.bipush 21, 2) := by decide +kernel
theorem dX9_law_69 : decode cX9_law 69 = .ok (.iload_n 2, 1) := by decide +kernel
theorem dX9_law_70 : decode cX9_law 70 = .ok (.iadd, 1) := by decide +kernel
theorem dX9_law_71 : decode cX9_law 71 = .ok (.iload_n 2, 1) := by decide +kernel
theorem dX9_law_72 : decode cX9_law 72 = .ok (.invokestatic 203, 3) := by decide +kernel
theorem dX9_law_75 : decode cX9_law 75 = .ok (.iastore, 1) := by decide +kernel
theorem dX9_law_76 : decode cX9_law 76 = .ok (.iinc 2 1, 3) := by decide +kernel
theorem dX9_law_79 : decode cX9_law 79 = .ok (.goto (-22), 3) := by decide +kernel
theorem dX9_law_82 : decode cX9_law 82 = .ok (.iconst 0, 1) := by decide +kernel
theorem dX9_law_83 : decode cX9_law 83 = .ok (.istore_n 2, 1) := by decide +kernel
theorem dX9_law_84 : decode cX9_law 84 = .ok (.iconst 1, 1) := by decide +kernel
theorem dX9_law_85 : decode cX9_law 85 = .ok (.istore_n 3, 1) := by decide +kernel
theorem dX9_law_86 : decode cX9_law 86 = .ok (.aload_n 0, 1) := by decide +kernel
theorem dX9_law_87 : decode cX9_law 87 = .ok (.invokevirtual 167, 3) := by decide +kernel
theorem dX9_law_90 : decode cX9_law 90 = .ok (.iload_n 3, 1) := by decide +kernel
theorem dX9_law_91 : decode cX9_law 91 = .ok (.ifCond .eq 47, 3) := by decide +kernel
theorem dX9_law_94 : decode cX9_law 94 = .ok (.aload_n 0, 1) := by decide +kernel
theorem dX9_law_95 : decode cX9_law 95 = .ok (.getfield 161, 3) := by decide +kernel
theorem dX9_law_98 : decode cX9_law 98 = .ok (.aload_n 0, 1) := by decide +kernel
theorem dX9_law_99 : decode cX9_law 99 = .ok (.getfield 164, 3) := by decide +kernel
theorem dX9_law_102 : decode cX9_law 102 = .ok (.if_icmp .ge 36, 3) := by decide +kernel
theorem dX9_law_105 : decode cX9_law 105 = .ok (.iload_n 2, 1) := by decide +kernel
theorem dX9_law_106 : decode cX9_law 106 = .ok (.bipush 20, 2) := by decide +kernel
theorem dX9_law_108 : decode cX9_law 108 = .ok (.if_icmp .ge 14, 3) := by decide +kernel
theorem dX9_law_111 : decode cX9_law 111 = .ok (.aload_n 0, 1) := by decide +kernel
theorem dX9_law_112 : decode cX9_law 112 = .ok (.invokevirtual 206, 3) := by decide +kernel
theorem dX9_law_115 : decode cX9_law 115 = .ok (.ifCond .eq 7, 3) := by decide +kernel
theorem dX9_law_118 : decode cX9_law 118 = .ok (.iconst 1, 1) := by decide +kernel
theorem dX9_law_119 : decode cX9_law 119 = .ok (.goto 4, 3) := by decide +kernel
theorem dX9_law_122 : decode cX9_law 122 = .ok (.iconst 0, 1) := by decide +kernel
theorem dX9_law_123 : decode cX9_law 123 = .ok (.istore_n 3, 1) := by decide +kernel
theorem dX9_law_124 : decode cX9_law 124 = .ok (.iinc 2 1, 3) := by decide +kernel
theorem dX9_law_127 : decode cX9_law 127 = .ok (.iload_n 3, 1) := by decide +kernel
theorem dX9_law_128 : decode cX9_law 128 = .ok (.ifCond .eq (-38), 3) := by decide +kernel
theorem dX9_law_131 : decode cX9_law 131 = .ok (.aload_n 0, 1) := by decide +kernel
theorem dX9_law_132 : decode cX9_law 132 = .ok (.invokevirtual 167, 3) := by decide +kernel
theorem dX9_law_135 : decode cX9_law 135 = .ok (.goto (-45), 3) := by decide +kernel
theorem dX9_law_138 : decode cX9_law 138 = .ok (.aload_n 0, 1) := by decide +kernel
theorem dX9_law_139 : decode cX9_law 139 = .ok (.iload_n 3, 1) := by decide +kernel
theorem dX9_law_140 : decode cX9_law 140 = .ok (.ifCond .eq 7, 3) := by decide +kernel
theorem dX9_law_143 : decode cX9_law 143 = .ok (.iconst (-1), 1) := by decide +kernel
theorem dX9_law_144 : decode cX9_law 144 = .ok (.goto 7, 3) := by decide +kernel
theorem dX9_law_147 : decode cX9_law 147 = .ok (.aload_n 0, 1) := by decide +kernel
theorem dX9_law_148 : decode cX9_law 148 = .ok (.getfield 161, 3) := by decide +kernel
theorem dX9_law_151 : decode cX9_law 151 = .ok (.putfield 60, 3) := by decide +kernel
theorem dX9_law_154 : decode cX9_law 154 = .ok (.iload_n 3, 1) := by decide +kernel
theorem dX9_law_155 : decode cX9_law 155 = .ok (.ifCond .ne 5, 3) := by decide +kernel
theorem dX9_law_158 : decode cX9_law 158 = .ok (.iconst (-1), 1) := by decide +kernel
theorem dX9_law_159 : decode cX9_law 159 = .ok (.ireturn, 1) := by decide +kernel
theorem dX9_law_160 : decode cX9_law 160 = .ok (.iconst 0, 1) := by decide +kernel
theorem dX9_law_161 : decode cX9_law 161 = .ok (.istore 4, 2) := by decide +kernel
theorem dX9_law_163 : decode cX9_law 163 = .ok (.iload 4, 2) := by decide +kernel
theorem dX9_law_165 : decode cX9_law 165 = .ok (.bipush 21, 2) := by decide +kernel
theorem dX9_law_167 : decode cX9_law 167 = .ok (.if_icmp .ge 26, 3) := by decide +kernel
theorem dX9_law_170 : decode cX9_law 170 = .ok (.aload_n 0, 1) := by decide +kernel
theorem dX9_law_171 : decode cX9_law 171 = .ok (.getfield 50, 3) := by decide +kernel
theorem dX9_law_174 : decode cX9_law 174 = .ok (.iload 4, 2) := by decide +kernel
theorem dX9_law_176 : decode cX9_law 176 = .ok (.aload_n 0, 1) := by decide +kernel
theorem dX9_law_177 : decode cX9_law 177 = .ok (.getfield 50, 3) := by decide +kernel
theorem dX9_law_180 : decode cX9_law 180 = .ok (.bipush 21, 2) := by decide +kernel
theorem dX9_law_182 : decode cX9_law 182 = .ok (.iload 4, 2) := by decide +kernel
theorem dX9_law_184 : decode cX9_law 184 = .ok (.iadd, 1) := by decide +kernel
theorem dX9_law_185 : decode cX9_law 185 = .ok (.iaload, 1) := by decide +kernel
theorem dX9_law_186 : decode cX9_law 186 = .ok (.iastore, 1) := by decide +kernel
theorem dX9_law_187 : decode cX9_law 187 = .ok (.iinc 4 1, 3) := by decide +kernel
theorem dX9_law_190 : decode cX9_law 190 = .ok (.goto (-27), 3) := by decide +kernel
theorem dX9_law_193 : decode cX9_law 193 = .ok (.iload_n 2, 1) := by decide +kernel
theorem dX9_law_194 : decode cX9_law 194 = .ok (.ireturn, 1) := by decide +kernel
theorem dX9_fault_0 : decode cX9_fault 0 = .ok (.aload_n 0, 1) := by decide +kernel
theorem dX9_fault_1 : decode cX9_fault 1 = .ok (.getfield 60, 3) := by decide +kernel
theorem dX9_fault_4 : decode cX9_fault 4 = .ok (.ireturn, 1) := by decide +kernel
theorem dX9_bodies_0 : decode cX9_bodies 0 = .ok (.iconst 0, 1) := by decide +kernel
theorem dX9_bodies_1 : decode cX9_bodies 1 = .ok (.istore_n 1, 1) := by decide +kernel
theorem dX9_bodies_2 : decode cX9_bodies 2 = .ok (.iconst 0, 1) := by decide +kernel
theorem dX9_bodies_3 : decode cX9_bodies 3 = .ok (.istore_n 2, 1) := by decide +kernel
theorem dX9_bodies_4 : decode cX9_bodies 4 = .ok (.iload_n 2, 1) := by decide +kernel
theorem dX9_bodies_5 : decode cX9_bodies 5 = .ok (.aload_n 0, 1) := by decide +kernel
theorem dX9_bodies_6 : decode cX9_bodies 6 = .ok (.getfield 7, 3) := by decide +kernel
theorem dX9_bodies_9 : decode cX9_bodies 9 = .ok (.iconst 1, 1) := by decide +kernel
theorem dX9_bodies_10 : decode cX9_bodies 10 = .ok (.iaload, 1) := by decide +kernel
theorem dX9_bodies_11 : decode cX9_bodies 11 = .ok (.if_icmp .ge 30, 3) := by decide +kernel
theorem dX9_bodies_14 : decode cX9_bodies 14 = .ok (.iload_n 1, 1) := by decide +kernel
theorem dX9_bodies_15 : decode cX9_bodies 15 = .ok (.aload_n 0, 1) := by decide +kernel
theorem dX9_bodies_16 : decode cX9_bodies 16 = .ok (.getfield 25, 3) := by decide +kernel
theorem dX9_bodies_19 : decode cX9_bodies 19 = .ok (.iload_n 2, 1) := by decide +kernel
theorem dX9_bodies_20 : decode cX9_bodies 20 = .ok (.iaload, 1) := by decide +kernel
theorem dX9_bodies_21 : decode cX9_bodies 21 = .ok (.iload_n 2, 1) := by decide +kernel
theorem dX9_bodies_22 : decode cX9_bodies 22 = .ok (.if_icmp .ne 7, 3) := by decide +kernel
theorem dX9_bodies_25 : decode cX9_bodies 25 = .ok (.iconst 1, 1) := by decide +kernel
theorem dX9_bodies_26 : decode cX9_bodies 26 = .ok (.goto 4, 3) := by decide +kernel
theorem dX9_bodies_29 : decode cX9_bodies 29 = .ok (.iconst 0, 1) := by decide +kernel
theorem dX9_bodies_30 : decode cX9_bodies 30 = .ok (.invokestatic 102, 3) := by decide +kernel
theorem dX9_bodies_33 : decode cX9_bodies 33 = .ok (.iadd, 1) := by decide +kernel
theorem dX9_bodies_34 : decode cX9_bodies 34 = .ok (.istore_n 1, 1) := by decide +kernel
theorem dX9_bodies_35 : decode cX9_bodies 35 = .ok (.iinc 2 1, 3) := by decide +kernel
theorem dX9_bodies_38 : decode cX9_bodies 38 = .ok (.goto (-34), 3) := by decide +kernel
theorem dX9_bodies_41 : decode cX9_bodies 41 = .ok (.iload_n 1, 1) := by decide +kernel
theorem dX9_bodies_42 : decode cX9_bodies 42 = .ok (.ireturn, 1) := by decide +kernel
theorem dX9_names_0 : decode cX9_names 0 = .ok (.iconst 0, 1) := by decide +kernel
theorem dX9_names_1 : decode cX9_names 1 = .ok (.istore_n 2, 1) := by decide +kernel
theorem dX9_names_2 : decode cX9_names 2 = .ok (.iconst 0, 1) := by decide +kernel
theorem dX9_names_3 : decode cX9_names 3 = .ok (.istore_n 3, 1) := by decide +kernel
theorem dX9_names_4 : decode cX9_names 4 = .ok (.iload_n 3, 1) := by decide +kernel
theorem dX9_names_5 : decode cX9_names 5 = .ok (.aload_n 0, 1) := by decide +kernel
theorem dX9_names_6 : decode cX9_names 6 = .ok (.getfield 7, 3) := by decide +kernel
theorem dX9_names_9 : decode cX9_names 9 = .ok (.iconst 1, 1) := by decide +kernel
theorem dX9_names_10 : decode cX9_names 10 = .ok (.iaload, 1) := by decide +kernel
theorem dX9_names_11 : decode cX9_names 11 = .ok (.if_icmp .ge 52, 3) := by decide +kernel
theorem dX9_names_14 : decode cX9_names 14 = .ok (.iload_n 2, 1) := by decide +kernel
theorem dX9_names_15 : decode cX9_names 15 = .ok (.aload_n 0, 1) := by decide +kernel
theorem dX9_names_16 : decode cX9_names 16 = .ok (.getfield 25, 3) := by decide +kernel
theorem dX9_names_19 : decode cX9_names 19 = .ok (.iload_n 3, 1) := by decide +kernel
theorem dX9_names_20 : decode cX9_names 20 = .ok (.iaload, 1) := by decide +kernel
theorem dX9_names_21 : decode cX9_names 21 = .ok (.iload_n 3, 1) := by decide +kernel
theorem dX9_names_22 : decode cX9_names 22 = .ok (.if_icmp .ne 29, 3) := by decide +kernel
theorem dX9_names_25 : decode cX9_names 25 = .ok (.aload_n 0, 1) := by decide +kernel
theorem dX9_names_26 : decode cX9_names 26 = .ok (.getfield 28, 3) := by decide +kernel
theorem dX9_names_29 : decode cX9_names 29 = .ok (.iload_n 3, 1) := by decide +kernel
theorem dX9_names_30 : decode cX9_names 30 = .ok (.iaload, 1) := by decide +kernel
theorem dX9_names_31 : decode cX9_names 31 = .ok (.iconst (-1), 1) := by decide +kernel
theorem dX9_names_32 : decode cX9_names 32 = .ok (.if_icmp .eq 19, 3) := by decide +kernel
theorem dX9_names_35 : decode cX9_names 35 = .ok (.iload_n 1, 1) := by decide +kernel
theorem dX9_names_36 : decode cX9_names 36 = .ok (.ifCond .eq 11, 3) := by decide +kernel
theorem dX9_names_39 : decode cX9_names 39 = .ok (.aload_n 0, 1) := by decide +kernel
theorem dX9_names_40 : decode cX9_names 40 = .ok (.iload_n 3, 1) := by decide +kernel
theorem dX9_names_41 : decode cX9_names 41 = .ok (.invokevirtual 151, 3) := by decide +kernel
theorem dX9_names_44 : decode cX9_names 44 = .ok (.ifCond .eq 7, 3) := by decide +kernel
theorem dX9_names_47 : decode cX9_names 47 = .ok (.iconst 1, 1) := by decide +kernel
theorem dX9_names_48 : decode cX9_names 48 = .ok (.goto 4, 3) := by decide +kernel
theorem dX9_names_51 : decode cX9_names 51 = .ok (.iconst 0, 1) := by decide +kernel
theorem dX9_names_52 : decode cX9_names 52 = .ok (.invokestatic 102, 3) := by decide +kernel
theorem dX9_names_55 : decode cX9_names 55 = .ok (.iadd, 1) := by decide +kernel
theorem dX9_names_56 : decode cX9_names 56 = .ok (.istore_n 2, 1) := by decide +kernel
theorem dX9_names_57 : decode cX9_names 57 = .ok (.iinc 3 1, 3) := by decide +kernel
theorem dX9_names_60 : decode cX9_names 60 = .ok (.goto (-56), 3) := by decide +kernel
theorem dX9_names_63 : decode cX9_names 63 = .ok (.iload_n 2, 1) := by decide +kernel
theorem dX9_names_64 : decode cX9_names 64 = .ok (.ireturn, 1) := by decide +kernel
theorem dX9_alone_0 : decode cX9_alone 0 = .ok (.aload_n 0, 1) := by decide +kernel
theorem dX9_alone_1 : decode cX9_alone 1 = .ok (.invokevirtual 136, 3) := by decide +kernel
theorem dX9_alone_4 : decode cX9_alone 4 = .ok (.aload_n 0, 1) := by decide +kernel
theorem dX9_alone_5 : decode cX9_alone 5 = .ok (.getfield 7, 3) := by decide +kernel
theorem dX9_alone_8 : decode cX9_alone 8 = .ok (.iconst 0, 1) := by decide +kernel
theorem dX9_alone_9 : decode cX9_alone 9 = .ok (.iaload, 1) := by decide +kernel
theorem dX9_alone_10 : decode cX9_alone 10 = .ok (.aload_n 0, 1) := by decide +kernel
theorem dX9_alone_11 : decode cX9_alone 11 = .ok (.iconst 0, 1) := by decide +kernel
theorem dX9_alone_12 : decode cX9_alone 12 = .ok (.invokevirtual 210, 3) := by decide +kernel
theorem dX9_alone_15 : decode cX9_alone 15 = .ok (.isub, 1) := by decide +kernel
theorem dX9_alone_16 : decode cX9_alone 16 = .ok (.istore_n 1, 1) := by decide +kernel
theorem dX9_alone_17 : decode cX9_alone 17 = .ok (.iconst 0, 1) := by decide +kernel
theorem dX9_alone_18 : decode cX9_alone 18 = .ok (.istore_n 2, 1) := by decide +kernel
theorem dX9_alone_19 : decode cX9_alone 19 = .ok (.iload_n 2, 1) := by decide +kernel
theorem dX9_alone_20 : decode cX9_alone 20 = .ok (.aload_n 0, 1) := by decide +kernel
theorem dX9_alone_21 : decode cX9_alone 21 = .ok (.getfield 7, 3) := by decide +kernel
theorem dX9_alone_24 : decode cX9_alone 24 = .ok (.iconst 1, 1) := by decide +kernel
theorem dX9_alone_25 : decode cX9_alone 25 = .ok (.iaload, 1) := by decide +kernel
theorem dX9_alone_26 : decode cX9_alone 26 = .ok (.if_icmp .ge 30, 3) := by decide +kernel
theorem dX9_alone_29 : decode cX9_alone 29 = .ok (.iload_n 1, 1) := by decide +kernel
theorem dX9_alone_30 : decode cX9_alone 30 = .ok (.aload_n 0, 1) := by decide +kernel
theorem dX9_alone_31 : decode cX9_alone 31 = .ok (.getfield 38, 3) := by decide +kernel
theorem dX9_alone_34 : decode cX9_alone 34 = .ok (.iload_n 2, 1) := by decide +kernel
theorem dX9_alone_35 : decode cX9_alone 35 = .ok (.iaload, 1) := by decide +kernel
theorem dX9_alone_36 : decode cX9_alone 36 = .ok (.iconst (-1), 1) := by decide +kernel
theorem dX9_alone_37 : decode cX9_alone 37 = .ok (.if_icmp .eq 7, 3) := by decide +kernel
theorem dX9_alone_40 : decode cX9_alone 40 = .ok (.iconst 1, 1) := by decide +kernel
theorem dX9_alone_41 : decode cX9_alone 41 = .ok (.goto 4, 3) := by decide +kernel
theorem dX9_alone_44 : decode cX9_alone 44 = .ok (.iconst 0, 1) := by decide +kernel
theorem dX9_alone_45 : decode cX9_alone 45 = .ok (.invokestatic 102, 3) := by decide +kernel
theorem dX9_alone_48 : decode cX9_alone 48 = .ok (.isub, 1) := by decide +kernel
theorem dX9_alone_49 : decode cX9_alone 49 = .ok (.istore_n 1, 1) := by decide +kernel
theorem dX9_alone_50 : decode cX9_alone 50 = .ok (.iinc 2 1, 3) := by decide +kernel
theorem dX9_alone_53 : decode cX9_alone 53 = .ok (.goto (-34), 3) := by decide +kernel
theorem dX9_alone_56 : decode cX9_alone 56 = .ok (.iload_n 1, 1) := by decide +kernel
theorem dX9_alone_57 : decode cX9_alone 57 = .ok (.ireturn, 1) := by decide +kernel
theorem dX9_count_0 : decode cX9_count 0 = .ok (.iload_n 1, 1) := by decide +kernel
theorem dX9_count_1 : decode cX9_count 1 = .ok (.tableswitch 129 0 10 #[59, 66, 73, 78, 84, 89, 95, 100, 105, 113, 121], 59) := by decide +kernel
theorem dX9_count_60 : decode cX9_count 60 = .ok (.aload_n 0, 1) := by decide +kernel
theorem dX9_count_61 : decode cX9_count 61 = .ok (.getfield 7, 3) := by decide +kernel
theorem dX9_count_64 : decode cX9_count 64 = .ok (.iconst 0, 1) := by decide +kernel
theorem dX9_count_65 : decode cX9_count 65 = .ok (.iaload, 1) := by decide +kernel
theorem dX9_count_66 : decode cX9_count 66 = .ok (.ireturn, 1) := by decide +kernel
theorem dX9_count_67 : decode cX9_count 67 = .ok (.aload_n 0, 1) := by decide +kernel
theorem dX9_count_68 : decode cX9_count 68 = .ok (.getfield 7, 3) := by decide +kernel
theorem dX9_count_71 : decode cX9_count 71 = .ok (.iconst 1, 1) := by decide +kernel
theorem dX9_count_72 : decode cX9_count 72 = .ok (.iaload, 1) := by decide +kernel
theorem dX9_count_73 : decode cX9_count 73 = .ok (.ireturn, 1) := by decide +kernel
theorem dX9_count_74 : decode cX9_count 74 = .ok (.aload_n 0, 1) := by decide +kernel
theorem dX9_count_75 : decode cX9_count 75 = .ok (.invokevirtual 213, 3) := by decide +kernel
theorem dX9_count_78 : decode cX9_count 78 = .ok (.ireturn, 1) := by decide +kernel
theorem dX9_count_79 : decode cX9_count 79 = .ok (.aload_n 0, 1) := by decide +kernel
theorem dX9_count_80 : decode cX9_count 80 = .ok (.iconst 0, 1) := by decide +kernel
theorem dX9_count_81 : decode cX9_count 81 = .ok (.invokevirtual 210, 3) := by decide +kernel
theorem dX9_count_84 : decode cX9_count 84 = .ok (.ireturn, 1) := by decide +kernel
theorem dX9_count_85 : decode cX9_count 85 = .ok (.aload_n 0, 1) := by decide +kernel
theorem dX9_count_86 : decode cX9_count 86 = .ok (.getfield 142, 3) := by decide +kernel
theorem dX9_count_89 : decode cX9_count 89 = .ok (.ireturn, 1) := by decide +kernel
theorem dX9_count_90 : decode cX9_count 90 = .ok (.aload_n 0, 1) := by decide +kernel
theorem dX9_count_91 : decode cX9_count 91 = .ok (.iconst 1, 1) := by decide +kernel
theorem dX9_count_92 : decode cX9_count 92 = .ok (.invokevirtual 210, 3) := by decide +kernel
theorem dX9_count_95 : decode cX9_count 95 = .ok (.ireturn, 1) := by decide +kernel
theorem dX9_count_96 : decode cX9_count 96 = .ok (.aload_n 0, 1) := by decide +kernel
theorem dX9_count_97 : decode cX9_count 97 = .ok (.invokevirtual 216, 3) := by decide +kernel
theorem dX9_count_100 : decode cX9_count 100 = .ok (.ireturn, 1) := by decide +kernel
theorem dX9_count_101 : decode cX9_count 101 = .ok (.aload_n 0, 1) := by decide +kernel
theorem dX9_count_102 : decode cX9_count 102 = .ok (.getfield 154, 3) := by decide +kernel
theorem dX9_count_105 : decode cX9_count 105 = .ok (.ireturn, 1) := by decide +kernel
theorem dX9_count_106 : decode cX9_count 106 = .ok (.aload_n 0, 1) := by decide +kernel
theorem dX9_count_107 : decode cX9_count 107 = .ok (.getfield 50, 3) := by decide +kernel
theorem dX9_count_110 : decode cX9_count 110 = .ok (.bipush 18, 2) := by decide +kernel
theorem dX9_count_112 : decode cX9_count 112 = .ok (.iaload, 1) := by decide +kernel
theorem dX9_count_113 : decode cX9_count 113 = .ok (.ireturn, 1) := by decide +kernel
theorem dX9_count_114 : decode cX9_count 114 = .ok (.aload_n 0, 1) := by decide +kernel
theorem dX9_count_115 : decode cX9_count 115 = .ok (.getfield 50, 3) := by decide +kernel
theorem dX9_count_118 : decode cX9_count 118 = .ok (.bipush 19, 2) := by decide +kernel
theorem dX9_count_120 : decode cX9_count 120 = .ok (.iaload, 1) := by decide +kernel
theorem dX9_count_121 : decode cX9_count 121 = .ok (.ireturn, 1) := by decide +kernel
theorem dX9_count_122 : decode cX9_count 122 = .ok (.aload_n 0, 1) := by decide +kernel
theorem dX9_count_123 : decode cX9_count 123 = .ok (.getfield 50, 3) := by decide +kernel
theorem dX9_count_126 : decode cX9_count 126 = .ok (.bipush 20, 2) := by decide +kernel
theorem dX9_count_128 : decode cX9_count 128 = .ok (.iaload, 1) := by decide +kernel
theorem dX9_count_129 : decode cX9_count 129 = .ok (.ireturn, 1) := by decide +kernel
theorem dX9_count_130 : decode cX9_count 130 = .ok (.iconst (-1), 1) := by decide +kernel
theorem dX9_count_131 : decode cX9_count 131 = .ok (.ireturn, 1) := by decide +kernel
theorem dJ9_max_7cf53_0 : decode cJ9_max_7cf53 0 = .ok (.iload_n 0, 1) := by decide +kernel
theorem dJ9_max_7cf53_1 : decode cJ9_max_7cf53 1 = .ok (.iload_n 1, 1) := by decide +kernel
theorem dJ9_max_7cf53_2 : decode cJ9_max_7cf53 2 = .ok (.if_icmp .lt 7, 3) := by decide +kernel
theorem dJ9_max_7cf53_5 : decode cJ9_max_7cf53 5 = .ok (.iload_n 0, 1) := by decide +kernel
theorem dJ9_max_7cf53_6 : decode cJ9_max_7cf53 6 = .ok (.goto 4, 3) := by decide +kernel
theorem dJ9_max_7cf53_9 : decode cJ9_max_7cf53 9 = .ok (.iload_n 1, 1) := by decide +kernel
theorem dJ9_max_7cf53_10 : decode cJ9_max_7cf53 10 = .ok (.ireturn, 1) := by decide +kernel
theorem dJ9_min_7cf53_0 : decode cJ9_min_7cf53 0 = .ok (.iload_n 0, 1) := by decide +kernel
theorem dJ9_min_7cf53_1 : decode cJ9_min_7cf53 1 = .ok (.iload_n 1, 1) := by decide +kernel
theorem dJ9_min_7cf53_2 : decode cJ9_min_7cf53 2 = .ok (.if_icmp .gt 7, 3) := by decide +kernel
theorem dJ9_min_7cf53_5 : decode cJ9_min_7cf53 5 = .ok (.iload_n 0, 1) := by decide +kernel
theorem dJ9_min_7cf53_6 : decode cJ9_min_7cf53 6 = .ok (.goto 4, 3) := by decide +kernel
theorem dJ9_min_7cf53_9 : decode cJ9_min_7cf53 9 = .ok (.iload_n 1, 1) := by decide +kernel
theorem dJ9_min_7cf53_10 : decode cJ9_min_7cf53 10 = .ok (.ireturn, 1) := by decide +kernel
theorem dJ0_length_8abf5_0 : decode cJ0_length_8abf5 0 = .ok (.aload_n 0, 1) := by decide +kernel
theorem dJ0_length_8abf5_1 : decode cJ0_length_8abf5 1 = .ok (.getfield 9, 3) := by decide +kernel
theorem dJ0_length_8abf5_4 : decode cJ0_length_8abf5 4 = .ok (.arraylength, 1) := by decide +kernel
theorem dJ0_length_8abf5_5 : decode cJ0_length_8abf5 5 = .ok (.aload_n 0, 1) := by decide +kernel
theorem dJ0_length_8abf5_6 : decode cJ0_length_8abf5 6 = .ok (.invokevirtual 335, 3) := by decide +kernel
theorem dJ0_length_8abf5_9 : decode cJ0_length_8abf5 9 = .ok (.ishr, 1) := by decide +kernel
theorem dJ0_length_8abf5_10 : decode cJ0_length_8abf5 10 = .ok (.ireturn, 1) := by decide +kernel
theorem dJ0_charAt_5068e_0 : decode cJ0_charAt_5068e 0 = .ok (.aload_n 0, 1) := by decide +kernel
theorem dJ0_charAt_5068e_1 : decode cJ0_charAt_5068e 1 = .ok (.invokevirtual 492, 3) := by decide +kernel
theorem dJ0_charAt_5068e_4 : decode cJ0_charAt_5068e 4 = .ok (.ifCond .eq 12, 3) := by decide +kernel
theorem dJ0_charAt_5068e_7 : decode cJ0_charAt_5068e 7 = .ok (.aload_n 0, 1) := by decide +kernel
theorem dJ0_charAt_5068e_8 : decode cJ0_charAt_5068e 8 = .ok (.getfield 9, 3) := by decide +kernel
theorem dJ0_charAt_5068e_11 : decode cJ0_charAt_5068e 11 = .ok (.iload_n 1, 1) := by decide +kernel
theorem dJ0_charAt_5068e_12 : decode cJ0_charAt_5068e 12 = .ok (.invokestatic 495, 3) := by decide +kernel
theorem dJ0_charAt_5068e_15 : decode cJ0_charAt_5068e 15 = .ok (.ireturn, 1) := by decide +kernel
theorem dJ0_charAt_5068e_16 : decode cJ0_charAt_5068e 16 = .ok (.aload_n 0, 1) := by decide +kernel
theorem dJ0_charAt_5068e_17 : decode cJ0_charAt_5068e 17 = .ok (.getfield 9, 3) := by decide +kernel
theorem dJ0_charAt_5068e_20 : decode cJ0_charAt_5068e 20 = .ok (.iload_n 1, 1) := by decide +kernel
theorem dJ0_charAt_5068e_21 : decode cJ0_charAt_5068e 21 = .ok (.invokestatic 498, 3) := by decide +kernel
theorem dJ0_charAt_5068e_24 : decode cJ0_charAt_5068e 24 = .ok (.ireturn, 1) := by decide +kernel
theorem dJ0_coder_7d493_0 : decode cJ0_coder_7d493 0 = .ok (.getstatic 38, 3) := by decide +kernel
theorem dJ0_coder_7d493_3 : decode cJ0_coder_7d493 3 = .ok (.ifCond .eq 10, 3) := by decide +kernel
theorem dJ0_coder_7d493_6 : decode cJ0_coder_7d493 6 = .ok (.aload_n 0, 1) := by decide +kernel
theorem dJ0_coder_7d493_7 : decode cJ0_coder_7d493 7 = .ok (.getfield 15, 3) := by decide +kernel
theorem dJ0_coder_7d493_10 : decode cJ0_coder_7d493 10 = .ok (.goto 4, 3) := by decide +kernel
theorem dJ0_coder_7d493_13 : decode cJ0_coder_7d493 13 = .ok (.iconst 1, 1) := by decide +kernel
theorem dJ0_coder_7d493_14 : decode cJ0_coder_7d493 14 = .ok (.ireturn, 1) := by decide +kernel
theorem dJ0_isLatin1_aae02_0 : decode cJ0_isLatin1_aae02 0 = .ok (.getstatic 38, 3) := by decide +kernel
theorem dJ0_isLatin1_aae02_3 : decode cJ0_isLatin1_aae02 3 = .ok (.ifCond .eq 14, 3) := by decide +kernel
theorem dJ0_isLatin1_aae02_6 : decode cJ0_isLatin1_aae02 6 = .ok (.aload_n 0, 1) := by decide +kernel
theorem dJ0_isLatin1_aae02_7 : decode cJ0_isLatin1_aae02 7 = .ok (.getfield 15, 3) := by decide +kernel
theorem dJ0_isLatin1_aae02_10 : decode cJ0_isLatin1_aae02 10 = .ok (.ifCond .ne 7, 3) := by decide +kernel
theorem dJ0_isLatin1_aae02_13 : decode cJ0_isLatin1_aae02 13 = .ok (.iconst 1, 1) := by decide +kernel
theorem dJ0_isLatin1_aae02_14 : decode cJ0_isLatin1_aae02 14 = .ok (.goto 4, 3) := by decide +kernel
theorem dJ0_isLatin1_aae02_17 : decode cJ0_isLatin1_aae02 17 = .ok (.iconst 0, 1) := by decide +kernel
theorem dJ0_isLatin1_aae02_18 : decode cJ0_isLatin1_aae02 18 = .ok (.ireturn, 1) := by decide +kernel
theorem dJ0_checkIndex_df160_0 : decode cJ0_checkIndex_df160 0 = .ok (.iload_n 0, 1) := by decide +kernel
theorem dJ0_checkIndex_df160_1 : decode cJ0_checkIndex_df160 1 = .ok (.iload_n 1, 1) := by decide +kernel
theorem dJ0_checkIndex_df160_2 : decode cJ0_checkIndex_df160 2 = .ok (.getstatic 1053, 3) := by decide +kernel
theorem dJ0_checkIndex_df160_5 : decode cJ0_checkIndex_df160 5 = .ok (.invokestatic 1059, 3) := by decide +kernel
theorem dJ0_checkIndex_df160_8 : decode cJ0_checkIndex_df160 8 = .ok (.pop, 1) := by decide +kernel
theorem dJ0_checkIndex_df160_9 : decode cJ0_checkIndex_df160 9 = .ok (.return_, 1) := by decide +kernel
theorem dJ1_charAt_3b067_0 : decode cJ1_charAt_3b067 0 = .ok (.iload_n 1, 1) := by decide +kernel
theorem dJ1_charAt_3b067_1 : decode cJ1_charAt_3b067 1 = .ok (.aload_n 0, 1) := by decide +kernel
theorem dJ1_charAt_3b067_2 : decode cJ1_charAt_3b067 2 = .ok (.arraylength, 1) := by decide +kernel
theorem dJ1_charAt_3b067_3 : decode cJ1_charAt_3b067 3 = .ok (.invokestatic 9, 3) := by decide +kernel
theorem dJ1_charAt_3b067_6 : decode cJ1_charAt_3b067 6 = .ok (.aload_n 0, 1) := by decide +kernel
theorem dJ1_charAt_3b067_7 : decode cJ1_charAt_3b067 7 = .ok (.iload_n 1, 1) := by decide +kernel
theorem dJ1_charAt_3b067_8 : decode cJ1_charAt_3b067 8 = .ok (.baload, 1) := by decide +kernel
theorem dJ1_charAt_3b067_9 : decode cJ1_charAt_3b067 9 = .ok (.sipush 255, 3) := by decide +kernel
theorem dJ1_charAt_3b067_12 : decode cJ1_charAt_3b067 12 = .ok (.iand, 1) := by decide +kernel
theorem dJ1_charAt_3b067_13 : decode cJ1_charAt_3b067 13 = .ok (.i2c, 1) := by decide +kernel
theorem dJ1_charAt_3b067_14 : decode cJ1_charAt_3b067 14 = .ok (.ireturn, 1) := by decide +kernel
theorem dJ2_getChar_3b067_0 : decode cJ2_getChar_3b067 0 = .ok (.getstatic 44, 3) := by decide +kernel
theorem dJ2_getChar_3b067_3 : decode cJ2_getChar_3b067 3 = .ok (.ifCond .ne 25, 3) := by decide +kernel
theorem dJ2_getChar_3b067_6 : decode cJ2_getChar_3b067 6 = .ok (.iload_n 1, 1) := by decide +kernel
theorem dJ2_getChar_3b067_7 : decode cJ2_getChar_3b067 7 = .ok (.ifCond .lt 11, 3) := by decide +kernel
theorem dJ2_getChar_3b067_10 : decode cJ2_getChar_3b067 10 = .ok (.iload_n 1, 1) := by decide +kernel
theorem dJ2_getChar_3b067_11 : decode cJ2_getChar_3b067 11 = .ok (.aload_n 0, 1) := by decide +kernel
theorem dJ2_getChar_3b067_12 : decode cJ2_getChar_3b067 12 = .ok (.invokestatic 48, 3) := by decide +kernel
theorem dJ2_getChar_3b067_15 : decode cJ2_getChar_3b067 15 = .ok (.if_icmp .lt 13, 3) := by decide +kernel
theorem dJ2_getChar_3b067_18 : decode cJ2_getChar_3b067 18 = .ok (.new 52, 3) := by decide +kernel
theorem dJ2_getChar_3b067_21 : decode cJ2_getChar_3b067 21 = .ok (.dup, 1) := by decide +kernel
theorem dJ2_getChar_3b067_22 : decode cJ2_getChar_3b067 22 = .ok (.ldc 54, 2) := by decide +kernel
theorem dJ2_getChar_3b067_24 : decode cJ2_getChar_3b067 24 = .ok (.invokespecial 56, 3) := by decide +kernel
theorem dJ2_getChar_3b067_27 : decode cJ2_getChar_3b067 27 = .ok (.athrow, 1) := by decide +kernel
theorem dJ2_getChar_3b067_28 : decode cJ2_getChar_3b067 28 = .ok (.iload_n 1, 1) := by decide +kernel
theorem dJ2_getChar_3b067_29 : decode cJ2_getChar_3b067 29 = .ok (.iconst 1, 1) := by decide +kernel
theorem dJ2_getChar_3b067_30 : decode cJ2_getChar_3b067 30 = .ok (.ishl, 1) := by decide +kernel
theorem dJ2_getChar_3b067_31 : decode cJ2_getChar_3b067 31 = .ok (.istore_n 1, 1) := by decide +kernel
theorem dJ2_getChar_3b067_32 : decode cJ2_getChar_3b067 32 = .ok (.aload_n 0, 1) := by decide +kernel
theorem dJ2_getChar_3b067_33 : decode cJ2_getChar_3b067 33 = .ok (.iload_n 1, 1) := by decide +kernel
theorem dJ2_getChar_3b067_34 : decode cJ2_getChar_3b067 34 = .ok (.iinc 1 1, 3) := by decide +kernel
theorem dJ2_getChar_3b067_37 : decode cJ2_getChar_3b067 37 = .ok (.baload, 1) := by decide +kernel
theorem dJ2_getChar_3b067_38 : decode cJ2_getChar_3b067 38 = .ok (.sipush 255, 3) := by decide +kernel
theorem dJ2_getChar_3b067_41 : decode cJ2_getChar_3b067 41 = .ok (.iand, 1) := by decide +kernel
theorem dJ2_getChar_3b067_42 : decode cJ2_getChar_3b067 42 = .ok (.getstatic 59, 3) := by decide +kernel
theorem dJ2_getChar_3b067_45 : decode cJ2_getChar_3b067 45 = .ok (.ishl, 1) := by decide +kernel
theorem dJ2_getChar_3b067_46 : decode cJ2_getChar_3b067 46 = .ok (.aload_n 0, 1) := by decide +kernel
theorem dJ2_getChar_3b067_47 : decode cJ2_getChar_3b067 47 = .ok (.iload_n 1, 1) := by decide +kernel
theorem dJ2_getChar_3b067_48 : decode cJ2_getChar_3b067 48 = .ok (.baload, 1) := by decide +kernel
theorem dJ2_getChar_3b067_49 : decode cJ2_getChar_3b067 49 = .ok (.sipush 255, 3) := by decide +kernel
theorem dJ2_getChar_3b067_52 : decode cJ2_getChar_3b067 52 = .ok (.iand, 1) := by decide +kernel
theorem dJ2_getChar_3b067_53 : decode cJ2_getChar_3b067 53 = .ok (.getstatic 63, 3) := by decide +kernel
theorem dJ2_getChar_3b067_56 : decode cJ2_getChar_3b067 56 = .ok (.ishl, 1) := by decide +kernel
theorem dJ2_getChar_3b067_57 : decode cJ2_getChar_3b067 57 = .ok (.ior, 1) := by decide +kernel
theorem dJ2_getChar_3b067_58 : decode cJ2_getChar_3b067 58 = .ok (.i2c, 1) := by decide +kernel
theorem dJ2_getChar_3b067_59 : decode cJ2_getChar_3b067 59 = .ok (.ireturn, 1) := by decide +kernel
theorem dJ2_length_9d52b_0 : decode cJ2_length_9d52b 0 = .ok (.aload_n 0, 1) := by decide +kernel
theorem dJ2_length_9d52b_1 : decode cJ2_length_9d52b 1 = .ok (.arraylength, 1) := by decide +kernel
theorem dJ2_length_9d52b_2 : decode cJ2_length_9d52b 2 = .ok (.iconst 1, 1) := by decide +kernel
theorem dJ2_length_9d52b_3 : decode cJ2_length_9d52b 3 = .ok (.ishr, 1) := by decide +kernel
theorem dJ2_length_9d52b_4 : decode cJ2_length_9d52b 4 = .ok (.ireturn, 1) := by decide +kernel
theorem dJ2_charAt_3b067_0 : decode cJ2_charAt_3b067 0 = .ok (.iload_n 1, 1) := by decide +kernel
theorem dJ2_charAt_3b067_1 : decode cJ2_charAt_3b067 1 = .ok (.aload_n 0, 1) := by decide +kernel
theorem dJ2_charAt_3b067_2 : decode cJ2_charAt_3b067 2 = .ok (.invokestatic 67, 3) := by decide +kernel
theorem dJ2_charAt_3b067_5 : decode cJ2_charAt_3b067 5 = .ok (.aload_n 0, 1) := by decide +kernel
theorem dJ2_charAt_3b067_6 : decode cJ2_charAt_3b067 6 = .ok (.iload_n 1, 1) := by decide +kernel
theorem dJ2_charAt_3b067_7 : decode cJ2_charAt_3b067 7 = .ok (.invokestatic 71, 3) := by decide +kernel
theorem dJ2_charAt_3b067_10 : decode cJ2_charAt_3b067 10 = .ok (.ireturn, 1) := by decide +kernel
theorem dJ2_checkIndex_2214a_0 : decode cJ2_checkIndex_2214a 0 = .ok (.iload_n 0, 1) := by decide +kernel
theorem dJ2_checkIndex_2214a_1 : decode cJ2_checkIndex_2214a 1 = .ok (.aload_n 1, 1) := by decide +kernel
theorem dJ2_checkIndex_2214a_2 : decode cJ2_checkIndex_2214a 2 = .ok (.invokestatic 48, 3) := by decide +kernel
theorem dJ2_checkIndex_2214a_5 : decode cJ2_checkIndex_2214a 5 = .ok (.invokestatic 414, 3) := by decide +kernel
theorem dJ2_checkIndex_2214a_8 : decode cJ2_checkIndex_2214a 8 = .ok (.return_, 1) := by decide +kernel
theorem dJ3_checkIndex_8e157_0 : decode cJ3_checkIndex_8e157 0 = .ok (.iload_n 0, 1) := by decide +kernel
theorem dJ3_checkIndex_8e157_1 : decode cJ3_checkIndex_8e157 1 = .ok (.ifCond .lt 8, 3) := by decide +kernel
theorem dJ3_checkIndex_8e157_4 : decode cJ3_checkIndex_8e157 4 = .ok (.iload_n 0, 1) := by decide +kernel
theorem dJ3_checkIndex_8e157_5 : decode cJ3_checkIndex_8e157 5 = .ok (.iload_n 1, 1) := by decide +kernel
theorem dJ3_checkIndex_8e157_6 : decode cJ3_checkIndex_8e157 6 = .ok (.if_icmp .lt 10, 3) := by decide +kernel
theorem dJ3_checkIndex_8e157_9 : decode cJ3_checkIndex_8e157 9 = .ok (.aload_n 2, 1) := by decide +kernel
theorem dJ3_checkIndex_8e157_10 : decode cJ3_checkIndex_8e157 10 = .ok (.iload_n 0, 1) := by decide +kernel
theorem dJ3_checkIndex_8e157_11 : decode cJ3_checkIndex_8e157 11 = .ok (.iload_n 1, 1) := by decide +kernel
theorem dJ3_checkIndex_8e157_12 : decode cJ3_checkIndex_8e157 12 = .ok (.invokestatic 95, 3) := by decide +kernel
theorem dJ3_checkIndex_8e157_15 : decode cJ3_checkIndex_8e157 15 = .ok (.athrow, 1) := by decide +kernel
theorem dJ3_checkIndex_8e157_16 : decode cJ3_checkIndex_8e157 16 = .ok (.iload_n 0, 1) := by decide +kernel
theorem dJ3_checkIndex_8e157_17 : decode cJ3_checkIndex_8e157 17 = .ok (.ireturn, 1) := by decide +kernel
theorem dL_law_0 : decode cL_law 0 = .ok (.new 7, 3) := by decide +kernel
theorem dL_law_3 : decode cL_law 3 = .ok (.dup, 1) := by decide +kernel
theorem dL_law_4 : decode cL_law 4 = .ok (.invokespecial 9, 3) := by decide +kernel
theorem dL_law_7 : decode cL_law 7 = .ok (.astore_n 1, 1) := by decide +kernel
theorem dL_law_8 : decode cL_law 8 = .ok (.new 10, 3) := by decide +kernel
theorem dL_law_11 : decode cL_law 11 = .ok (.dup, 1) := by decide +kernel
theorem dL_law_12 : decode cL_law 12 = .ok (.invokespecial 12, 3) := by decide +kernel
theorem dL_law_15 : decode cL_law 15 = .ok (.astore_n 2, 1) := by decide +kernel
theorem dL_law_16 : decode cL_law 16 = .ok (.iconst 0, 1) := by decide +kernel
theorem dL_law_17 : decode cL_law 17 = .ok (.istore_n 3, 1) := by decide +kernel
theorem dL_law_18 : decode cL_law 18 = .ok (.iload_n 3, 1) := by decide +kernel
theorem dL_law_19 : decode cL_law 19 = .ok (.aload_n 0, 1) := by decide +kernel
theorem dL_law_20 : decode cL_law 20 = .ok (.arraylength, 1) := by decide +kernel
theorem dL_law_21 : decode cL_law 21 = .ok (.bipush 6, 2) := by decide +kernel
theorem dL_law_23 : decode cL_law 23 = .ok (.isub, 1) := by decide +kernel
theorem dL_law_24 : decode cL_law 24 = .ok (.if_icmp .gt 921, 3) := by decide +kernel
theorem dL_law_27 : decode cL_law 27 = .ok (.aload_n 0, 1) := by decide +kernel
theorem dL_law_28 : decode cL_law 28 = .ok (.iload_n 3, 1) := by decide +kernel
theorem dL_law_29 : decode cL_law 29 = .ok (.iaload, 1) := by decide +kernel
theorem dL_law_30 : decode cL_law 30 = .ok (.bipush 31, 2) := by decide +kernel
theorem dL_law_32 : decode cL_law 32 = .ok (.iand, 1) := by decide +kernel
theorem dL_law_33 : decode cL_law 33 = .ok (.tableswitch 906 0 22 #[107, 130, 173, 226, 279, 332, 395, 428, 461, 494, 517, 550, 583, 616, 639, 662, 705, 728, 761, 784, 847, 870, 883], 107) := by decide +kernel
theorem dL_law_140 : decode cL_law 140 = .ok (.aload_n 1, 1) := by decide +kernel
theorem dL_law_141 : decode cL_law 141 = .ok (.aload_n 0, 1) := by decide +kernel
theorem dL_law_142 : decode cL_law 142 = .ok (.iload_n 3, 1) := by decide +kernel
theorem dL_law_143 : decode cL_law 143 = .ok (.iconst 1, 1) := by decide +kernel
theorem dL_law_144 : decode cL_law 144 = .ok (.iadd, 1) := by decide +kernel
theorem dL_law_145 : decode cL_law 145 = .ok (.iaload, 1) := by decide +kernel
theorem dL_law_146 : decode cL_law 146 = .ok (.invokevirtual 13, 3) := by decide +kernel
theorem dL_law_149 : decode cL_law 149 = .ok (.aload_n 2, 1) := by decide +kernel
theorem dL_law_150 : decode cL_law 150 = .ok (.aload_n 0, 1) := by decide +kernel
theorem dL_law_151 : decode cL_law 151 = .ok (.iload_n 3, 1) := by decide +kernel
theorem dL_law_152 : decode cL_law 152 = .ok (.iconst 1, 1) := by decide +kernel
theorem dL_law_153 : decode cL_law 153 = .ok (.iadd, 1) := by decide +kernel
theorem dL_law_154 : decode cL_law 154 = .ok (.iaload, 1) := by decide +kernel
theorem dL_law_155 : decode cL_law 155 = .ok (.invokevirtual 17, 3) := by decide +kernel
theorem dL_law_158 : decode cL_law 158 = .ok (.if_icmp .eq 781, 3) := by decide +kernel
theorem dL_law_161 : decode cL_law 161 = .ok (.iconst 0, 1) := by decide +kernel
theorem dL_law_162 : decode cL_law 162 = .ok (.ireturn, 1) := by decide +kernel
theorem dL_law_163 : decode cL_law 163 = .ok (.aload_n 1, 1) := by decide +kernel
theorem dL_law_164 : decode cL_law 164 = .ok (.aload_n 0, 1) := by decide +kernel
theorem dL_law_165 : decode cL_law 165 = .ok (.iload_n 3, 1) := by decide +kernel
theorem dL_law_166 : decode cL_law 166 = .ok (.iconst 1, 1) := by decide +kernel
theorem dL_law_167 : decode cL_law 167 = .ok (.iadd, 1) := by decide +kernel
theorem dL_law_168 : decode cL_law 168 = .ok (.iaload, 1) := by decide +kernel
theorem dL_law_169 : decode cL_law 169 = .ok (.aload_n 0, 1) := by decide +kernel
theorem dL_law_170 : decode cL_law 170 = .ok (.iload_n 3, 1) := by decide +kernel
theorem dL_law_171 : decode cL_law 171 = .ok (.iconst 2, 1) := by decide +kernel
theorem dL_law_172 : decode cL_law 172 = .ok (.iadd, 1) := by decide +kernel
theorem dL_law_173 : decode cL_law 173 = .ok (.iaload, 1) := by decide +kernel
theorem dL_law_174 : decode cL_law 174 = .ok (.aload_n 0, 1) := by decide +kernel
theorem dL_law_175 : decode cL_law 175 = .ok (.iload_n 3, 1) := by decide +kernel
theorem dL_law_176 : decode cL_law 176 = .ok (.iconst 3, 1) := by decide +kernel
theorem dL_law_177 : decode cL_law 177 = .ok (.iadd, 1) := by decide +kernel
theorem dL_law_178 : decode cL_law 178 = .ok (.iaload, 1) := by decide +kernel
theorem dL_law_179 : decode cL_law 179 = .ok (.invokevirtual 18, 3) := by decide +kernel
theorem dL_law_182 : decode cL_law 182 = .ok (.aload_n 2, 1) := by decide +kernel
theorem dL_law_183 : decode cL_law 183 = .ok (.aload_n 0, 1) := by decide +kernel
theorem dL_law_184 : decode cL_law 184 = .ok (.iload_n 3, 1) := by decide +kernel
theorem dL_law_185 : decode cL_law 185 = .ok (.iconst 1, 1) := by decide +kernel
theorem dL_law_186 : decode cL_law 186 = .ok (.iadd, 1) := by decide +kernel
theorem dL_law_187 : decode cL_law 187 = .ok (.iaload, 1) := by decide +kernel
theorem dL_law_188 : decode cL_law 188 = .ok (.aload_n 0, 1) := by decide +kernel
theorem dL_law_189 : decode cL_law 189 = .ok (.iload_n 3, 1) := by decide +kernel
theorem dL_law_190 : decode cL_law 190 = .ok (.iconst 2, 1) := by decide +kernel
theorem dL_law_191 : decode cL_law 191 = .ok (.iadd, 1) := by decide +kernel
theorem dL_law_192 : decode cL_law 192 = .ok (.iaload, 1) := by decide +kernel
theorem dL_law_193 : decode cL_law 193 = .ok (.aload_n 0, 1) := by decide +kernel
theorem dL_law_194 : decode cL_law 194 = .ok (.iload_n 3, 1) := by decide +kernel
theorem dL_law_195 : decode cL_law 195 = .ok (.iconst 3, 1) := by decide +kernel
theorem dL_law_196 : decode cL_law 196 = .ok (.iadd, 1) := by decide +kernel
theorem dL_law_197 : decode cL_law 197 = .ok (.iaload, 1) := by decide +kernel
theorem dL_law_198 : decode cL_law 198 = .ok (.invokevirtual 22, 3) := by decide +kernel
theorem dL_law_201 : decode cL_law 201 = .ok (.if_icmp .eq 738, 3) := by decide +kernel
theorem dL_law_204 : decode cL_law 204 = .ok (.iconst 0, 1) := by decide +kernel
theorem dL_law_205 : decode cL_law 205 = .ok (.ireturn, 1) := by decide +kernel
theorem dL_law_206 : decode cL_law 206 = .ok (.aload_n 1, 1) := by decide +kernel
theorem dL_law_207 : decode cL_law 207 = .ok (.aload_n 0, 1) := by decide +kernel
theorem dL_law_208 : decode cL_law 208 = .ok (.iload_n 3, 1) := by decide +kernel
theorem dL_law_209 : decode cL_law 209 = .ok (.iconst 1, 1) := by decide +kernel
theorem dL_law_210 : decode cL_law 210 = .ok (.iadd, 1) := by decide +kernel
theorem dL_law_211 : decode cL_law 211 = .ok (.iaload, 1) := by decide +kernel
theorem dL_law_212 : decode cL_law 212 = .ok (.aload_n 0, 1) := by decide +kernel
theorem dL_law_213 : decode cL_law 213 = .ok (.iload_n 3, 1) := by decide +kernel
theorem dL_law_214 : decode cL_law 214 = .ok (.iconst 2, 1) := by decide +kernel
theorem dL_law_215 : decode cL_law 215 = .ok (.iadd, 1) := by decide +kernel
theorem dL_law_216 : decode cL_law 216 = .ok (.iaload, 1) := by decide +kernel
theorem dL_law_217 : decode cL_law 217 = .ok (.aload_n 0, 1) := by decide +kernel
theorem dL_law_218 : decode cL_law 218 = .ok (.iload_n 3, 1) := by decide +kernel
theorem dL_law_219 : decode cL_law 219 = .ok (.iconst 3, 1) := by decide +kernel
theorem dL_law_220 : decode cL_law 220 = .ok (.iadd, 1) := by decide +kernel
theorem dL_law_221 : decode cL_law 221 = .ok (.iaload, 1) := by decide +kernel
theorem dL_law_222 : decode cL_law 222 = .ok (.aload_n 0, 1) := by decide +kernel
theorem dL_law_223 : decode cL_law 223 = .ok (.iload_n 3, 1) := by decide +kernel
theorem dL_law_224 : decode cL_law 224 = .ok (.iconst 4, 1) := by decide +kernel
theorem dL_law_225 : decode cL_law 225 = .ok (.iadd, 1) := by decide +kernel
theorem dL_law_226 : decode cL_law 226 = .ok (.iaload, 1) := by decide +kernel
theorem dL_law_227 : decode cL_law 227 = .ok (.invokevirtual 23, 3) := by decide +kernel
theorem dL_law_230 : decode cL_law 230 = .ok (.aload_n 2, 1) := by decide +kernel
theorem dL_law_231 : decode cL_law 231 = .ok (.aload_n 0, 1) := by decide +kernel
theorem dL_law_232 : decode cL_law 232 = .ok (.iload_n 3, 1) := by decide +kernel
theorem dL_law_233 : decode cL_law 233 = .ok (.iconst 1, 1) := by decide +kernel
theorem dL_law_234 : decode cL_law 234 = .ok (.iadd, 1) := by decide +kernel
theorem dL_law_235 : decode cL_law 235 = .ok (.iaload, 1) := by decide +kernel
theorem dL_law_236 : decode cL_law 236 = .ok (.aload_n 0, 1) := by decide +kernel
theorem dL_law_237 : decode cL_law 237 = .ok (.iload_n 3, 1) := by decide +kernel
theorem dL_law_238 : decode cL_law 238 = .ok (.iconst 2, 1) := by decide +kernel
theorem dL_law_239 : decode cL_law 239 = .ok (.iadd, 1) := by decide +kernel
theorem dL_law_240 : decode cL_law 240 = .ok (.iaload, 1) := by decide +kernel
theorem dL_law_241 : decode cL_law 241 = .ok (.aload_n 0, 1) := by decide +kernel
theorem dL_law_242 : decode cL_law 242 = .ok (.iload_n 3, 1) := by decide +kernel
theorem dL_law_243 : decode cL_law 243 = .ok (.iconst 3, 1) := by decide +kernel
theorem dL_law_244 : decode cL_law 244 = .ok (.iadd, 1) := by decide +kernel
theorem dL_law_245 : decode cL_law 245 = .ok (.iaload, 1) := by decide +kernel
theorem dL_law_246 : decode cL_law 246 = .ok (.aload_n 0, 1) := by decide +kernel
theorem dL_law_247 : decode cL_law 247 = .ok (.iload_n 3, 1) := by decide +kernel
theorem dL_law_248 : decode cL_law 248 = .ok (.iconst 4, 1) := by decide +kernel
theorem dL_law_249 : decode cL_law 249 = .ok (.iadd, 1) := by decide +kernel
theorem dL_law_250 : decode cL_law 250 = .ok (.iaload, 1) := by decide +kernel
theorem dL_law_251 : decode cL_law 251 = .ok (.invokevirtual 27, 3) := by decide +kernel
theorem dL_law_254 : decode cL_law 254 = .ok (.if_icmp .eq 685, 3) := by decide +kernel
theorem dL_law_257 : decode cL_law 257 = .ok (.iconst 0, 1) := by decide +kernel
theorem dL_law_258 : decode cL_law 258 = .ok (.ireturn, 1) := by decide +kernel
theorem dL_law_259 : decode cL_law 259 = .ok (.aload_n 1, 1) := by decide +kernel
theorem dL_law_260 : decode cL_law 260 = .ok (.aload_n 0, 1) := by decide +kernel
theorem dL_law_261 : decode cL_law 261 = .ok (.iload_n 3, 1) := by decide +kernel
theorem dL_law_262 : decode cL_law 262 = .ok (.iconst 1, 1) := by decide +kernel
theorem dL_law_263 : decode cL_law 263 = .ok (.iadd, 1) := by decide +kernel
theorem dL_law_264 : decode cL_law 264 = .ok (.iaload, 1) := by decide +kernel
theorem dL_law_265 : decode cL_law 265 = .ok (.aload_n 0, 1) := by decide +kernel
theorem dL_law_266 : decode cL_law 266 = .ok (.iload_n 3, 1) := by decide +kernel
theorem dL_law_267 : decode cL_law 267 = .ok (.iconst 2, 1) := by decide +kernel
theorem dL_law_268 : decode cL_law 268 = .ok (.iadd, 1) := by decide +kernel
theorem dL_law_269 : decode cL_law 269 = .ok (.iaload, 1) := by decide +kernel
theorem dL_law_270 : decode cL_law 270 = .ok (.aload_n 0, 1) := by decide +kernel
theorem dL_law_271 : decode cL_law 271 = .ok (.iload_n 3, 1) := by decide +kernel
theorem dL_law_272 : decode cL_law 272 = .ok (.iconst 3, 1) := by decide +kernel
theorem dL_law_273 : decode cL_law 273 = .ok (.iadd, 1) := by decide +kernel
theorem dL_law_274 : decode cL_law 274 = .ok (.iaload, 1) := by decide +kernel
theorem dL_law_275 : decode cL_law 275 = .ok (.aload_n 0, 1) := by decide +kernel
theorem dL_law_276 : decode cL_law 276 = .ok (.iload_n 3, 1) := by decide +kernel
theorem dL_law_277 : decode cL_law 277 = .ok (.iconst 4, 1) := by decide +kernel
theorem dL_law_278 : decode cL_law 278 = .ok (.iadd, 1) := by decide +kernel
theorem dL_law_279 : decode cL_law 279 = .ok (.iaload, 1) := by decide +kernel
theorem dL_law_280 : decode cL_law 280 = .ok (.invokevirtual 28, 3) := by decide +kernel
theorem dL_law_283 : decode cL_law 283 = .ok (.aload_n 2, 1) := by decide +kernel
theorem dL_law_284 : decode cL_law 284 = .ok (.aload_n 0, 1) := by decide +kernel
theorem dL_law_285 : decode cL_law 285 = .ok (.iload_n 3, 1) := by decide +kernel
theorem dL_law_286 : decode cL_law 286 = .ok (.iconst 1, 1) := by decide +kernel
theorem dL_law_287 : decode cL_law 287 = .ok (.iadd, 1) := by decide +kernel
theorem dL_law_288 : decode cL_law 288 = .ok (.iaload, 1) := by decide +kernel
theorem dL_law_289 : decode cL_law 289 = .ok (.aload_n 0, 1) := by decide +kernel
theorem dL_law_290 : decode cL_law 290 = .ok (.iload_n 3, 1) := by decide +kernel
theorem dL_law_291 : decode cL_law 291 = .ok (.iconst 2, 1) := by decide +kernel
theorem dL_law_292 : decode cL_law 292 = .ok (.iadd, 1) := by decide +kernel
theorem dL_law_293 : decode cL_law 293 = .ok (.iaload, 1) := by decide +kernel
theorem dL_law_294 : decode cL_law 294 = .ok (.aload_n 0, 1) := by decide +kernel
theorem dL_law_295 : decode cL_law 295 = .ok (.iload_n 3, 1) := by decide +kernel
theorem dL_law_296 : decode cL_law 296 = .ok (.iconst 3, 1) := by decide +kernel
theorem dL_law_297 : decode cL_law 297 = .ok (.iadd, 1) := by decide +kernel
theorem dL_law_298 : decode cL_law 298 = .ok (.iaload, 1) := by decide +kernel
theorem dL_law_299 : decode cL_law 299 = .ok (.aload_n 0, 1) := by decide +kernel
theorem dL_law_300 : decode cL_law 300 = .ok (.iload_n 3, 1) := by decide +kernel
theorem dL_law_301 : decode cL_law 301 = .ok (.iconst 4, 1) := by decide +kernel
theorem dL_law_302 : decode cL_law 302 = .ok (.iadd, 1) := by decide +kernel
theorem dL_law_303 : decode cL_law 303 = .ok (.iaload, 1) := by decide +kernel
theorem dL_law_304 : decode cL_law 304 = .ok (.invokevirtual 31, 3) := by decide +kernel
theorem dL_law_307 : decode cL_law 307 = .ok (.if_icmp .eq 632, 3) := by decide +kernel
theorem dL_law_310 : decode cL_law 310 = .ok (.iconst 0, 1) := by decide +kernel
theorem dL_law_311 : decode cL_law 311 = .ok (.ireturn, 1) := by decide +kernel
theorem dL_law_312 : decode cL_law 312 = .ok (.aload_n 1, 1) := by decide +kernel
theorem dL_law_313 : decode cL_law 313 = .ok (.aload_n 0, 1) := by decide +kernel
theorem dL_law_314 : decode cL_law 314 = .ok (.iload_n 3, 1) := by decide +kernel
theorem dL_law_315 : decode cL_law 315 = .ok (.iconst 1, 1) := by decide +kernel
theorem dL_law_316 : decode cL_law 316 = .ok (.iadd, 1) := by decide +kernel
theorem dL_law_317 : decode cL_law 317 = .ok (.iaload, 1) := by decide +kernel
theorem dL_law_318 : decode cL_law 318 = .ok (.aload_n 0, 1) := by decide +kernel
theorem dL_law_319 : decode cL_law 319 = .ok (.iload_n 3, 1) := by decide +kernel
theorem dL_law_320 : decode cL_law 320 = .ok (.iconst 2, 1) := by decide +kernel
theorem dL_law_321 : decode cL_law 321 = .ok (.iadd, 1) := by decide +kernel
theorem dL_law_322 : decode cL_law 322 = .ok (.iaload, 1) := by decide +kernel
theorem dL_law_323 : decode cL_law 323 = .ok (.aload_n 0, 1) := by decide +kernel
theorem dL_law_324 : decode cL_law 324 = .ok (.iload_n 3, 1) := by decide +kernel
theorem dL_law_325 : decode cL_law 325 = .ok (.iconst 3, 1) := by decide +kernel
theorem dL_law_326 : decode cL_law 326 = .ok (.iadd, 1) := by decide +kernel
theorem dL_law_327 : decode cL_law 327 = .ok (.iaload, 1) := by decide +kernel
theorem dL_law_328 : decode cL_law 328 = .ok (.aload_n 0, 1) := by decide +kernel
theorem dL_law_329 : decode cL_law 329 = .ok (.iload_n 3, 1) := by decide +kernel
theorem dL_law_330 : decode cL_law 330 = .ok (.iconst 4, 1) := by decide +kernel
theorem dL_law_331 : decode cL_law 331 = .ok (.iadd, 1) := by decide +kernel
theorem dL_law_332 : decode cL_law 332 = .ok (.iaload, 1) := by decide +kernel
theorem dL_law_333 : decode cL_law 333 = .ok (.invokevirtual 32, 3) := by decide +kernel
theorem dL_law_336 : decode cL_law 336 = .ok (.aload_n 2, 1) := by decide +kernel
theorem dL_law_337 : decode cL_law 337 = .ok (.aload_n 0, 1) := by decide +kernel
theorem dL_law_338 : decode cL_law 338 = .ok (.iload_n 3, 1) := by decide +kernel
theorem dL_law_339 : decode cL_law 339 = .ok (.iconst 1, 1) := by decide +kernel
theorem dL_law_340 : decode cL_law 340 = .ok (.iadd, 1) := by decide +kernel
theorem dL_law_341 : decode cL_law 341 = .ok (.iaload, 1) := by decide +kernel
theorem dL_law_342 : decode cL_law 342 = .ok (.aload_n 0, 1) := by decide +kernel
theorem dL_law_343 : decode cL_law 343 = .ok (.iload_n 3, 1) := by decide +kernel
theorem dL_law_344 : decode cL_law 344 = .ok (.iconst 2, 1) := by decide +kernel
theorem dL_law_345 : decode cL_law 345 = .ok (.iadd, 1) := by decide +kernel
theorem dL_law_346 : decode cL_law 346 = .ok (.iaload, 1) := by decide +kernel
theorem dL_law_347 : decode cL_law 347 = .ok (.aload_n 0, 1) := by decide +kernel
theorem dL_law_348 : decode cL_law 348 = .ok (.iload_n 3, 1) := by decide +kernel
theorem dL_law_349 : decode cL_law 349 = .ok (.iconst 3, 1) := by decide +kernel
theorem dL_law_350 : decode cL_law 350 = .ok (.iadd, 1) := by decide +kernel
theorem dL_law_351 : decode cL_law 351 = .ok (.iaload, 1) := by decide +kernel
theorem dL_law_352 : decode cL_law 352 = .ok (.aload_n 0, 1) := by decide +kernel
theorem dL_law_353 : decode cL_law 353 = .ok (.iload_n 3, 1) := by decide +kernel
theorem dL_law_354 : decode cL_law 354 = .ok (.iconst 4, 1) := by decide +kernel
theorem dL_law_355 : decode cL_law 355 = .ok (.iadd, 1) := by decide +kernel
theorem dL_law_356 : decode cL_law 356 = .ok (.iaload, 1) := by decide +kernel
theorem dL_law_357 : decode cL_law 357 = .ok (.invokevirtual 35, 3) := by decide +kernel
theorem dL_law_360 : decode cL_law 360 = .ok (.if_icmp .eq 579, 3) := by decide +kernel
theorem dL_law_363 : decode cL_law 363 = .ok (.iconst 0, 1) := by decide +kernel
theorem dL_law_364 : decode cL_law 364 = .ok (.ireturn, 1) := by decide +kernel
theorem dL_law_365 : decode cL_law 365 = .ok (.aload_n 1, 1) := by decide +kernel
theorem dL_law_366 : decode cL_law 366 = .ok (.aload_n 0, 1) := by decide +kernel
theorem dL_law_367 : decode cL_law 367 = .ok (.iload_n 3, 1) := by decide +kernel
theorem dL_law_368 : decode cL_law 368 = .ok (.iconst 1, 1) := by decide +kernel
theorem dL_law_369 : decode cL_law 369 = .ok (.iadd, 1) := by decide +kernel
theorem dL_law_370 : decode cL_law 370 = .ok (.iaload, 1) := by decide +kernel
theorem dL_law_371 : decode cL_law 371 = .ok (.aload_n 0, 1) := by decide +kernel
theorem dL_law_372 : decode cL_law 372 = .ok (.iload_n 3, 1) := by decide +kernel
theorem dL_law_373 : decode cL_law 373 = .ok (.iconst 2, 1) := by decide +kernel
theorem dL_law_374 : decode cL_law 374 = .ok (.iadd, 1) := by decide +kernel
theorem dL_law_375 : decode cL_law 375 = .ok (.iaload, 1) := by decide +kernel
theorem dL_law_376 : decode cL_law 376 = .ok (.aload_n 0, 1) := by decide +kernel
theorem dL_law_377 : decode cL_law 377 = .ok (.iload_n 3, 1) := by decide +kernel
theorem dL_law_378 : decode cL_law 378 = .ok (.iconst 3, 1) := by decide +kernel
theorem dL_law_379 : decode cL_law 379 = .ok (.iadd, 1) := by decide +kernel
theorem dL_law_380 : decode cL_law 380 = .ok (.iaload, 1) := by decide +kernel
theorem dL_law_381 : decode cL_law 381 = .ok (.aload_n 0, 1) := by decide +kernel
theorem dL_law_382 : decode cL_law 382 = .ok (.iload_n 3, 1) := by decide +kernel
theorem dL_law_383 : decode cL_law 383 = .ok (.iconst 4, 1) := by decide +kernel
theorem dL_law_384 : decode cL_law 384 = .ok (.iadd, 1) := by decide +kernel
theorem dL_law_385 : decode cL_law 385 = .ok (.iaload, 1) := by decide +kernel
theorem dL_law_386 : decode cL_law 386 = .ok (.aload_n 0, 1) := by decide +kernel
theorem dL_law_387 : decode cL_law 387 = .ok (.iload_n 3, 1) := by decide +kernel
theorem dL_law_388 : decode cL_law 388 = .ok (.iconst 5, 1) := by decide +kernel
theorem dL_law_389 : decode cL_law 389 = .ok (.iadd, 1) := by decide +kernel
theorem dL_law_390 : decode cL_law 390 = .ok (.iaload, 1) := by decide +kernel
theorem dL_law_391 : decode cL_law 391 = .ok (.invokevirtual 36, 3) := by decide +kernel
theorem dL_law_394 : decode cL_law 394 = .ok (.aload_n 2, 1) := by decide +kernel
theorem dL_law_395 : decode cL_law 395 = .ok (.aload_n 0, 1) := by decide +kernel
theorem dL_law_396 : decode cL_law 396 = .ok (.iload_n 3, 1) := by decide +kernel
theorem dL_law_397 : decode cL_law 397 = .ok (.iconst 1, 1) := by decide +kernel
theorem dL_law_398 : decode cL_law 398 = .ok (.iadd, 1) := by decide +kernel
theorem dL_law_399 : decode cL_law 399 = .ok (.iaload, 1) := by decide +kernel
theorem dL_law_400 : decode cL_law 400 = .ok (.aload_n 0, 1) := by decide +kernel
theorem dL_law_401 : decode cL_law 401 = .ok (.iload_n 3, 1) := by decide +kernel
theorem dL_law_402 : decode cL_law 402 = .ok (.iconst 2, 1) := by decide +kernel
theorem dL_law_403 : decode cL_law 403 = .ok (.iadd, 1) := by decide +kernel
theorem dL_law_404 : decode cL_law 404 = .ok (.iaload, 1) := by decide +kernel
theorem dL_law_405 : decode cL_law 405 = .ok (.aload_n 0, 1) := by decide +kernel
theorem dL_law_406 : decode cL_law 406 = .ok (.iload_n 3, 1) := by decide +kernel
theorem dL_law_407 : decode cL_law 407 = .ok (.iconst 3, 1) := by decide +kernel
theorem dL_law_408 : decode cL_law 408 = .ok (.iadd, 1) := by decide +kernel
theorem dL_law_409 : decode cL_law 409 = .ok (.iaload, 1) := by decide +kernel
theorem dL_law_410 : decode cL_law 410 = .ok (.aload_n 0, 1) := by decide +kernel
theorem dL_law_411 : decode cL_law 411 = .ok (.iload_n 3, 1) := by decide +kernel
theorem dL_law_412 : decode cL_law 412 = .ok (.iconst 4, 1) := by decide +kernel
theorem dL_law_413 : decode cL_law 413 = .ok (.iadd, 1) := by decide +kernel
theorem dL_law_414 : decode cL_law 414 = .ok (.iaload, 1) := by decide +kernel
theorem dL_law_415 : decode cL_law 415 = .ok (.aload_n 0, 1) := by decide +kernel
theorem dL_law_416 : decode cL_law 416 = .ok (.iload_n 3, 1) := by decide +kernel
theorem dL_law_417 : decode cL_law 417 = .ok (.iconst 5, 1) := by decide +kernel
theorem dL_law_418 : decode cL_law 418 = .ok (.iadd, 1) := by decide +kernel
theorem dL_law_419 : decode cL_law 419 = .ok (.iaload, 1) := by decide +kernel
theorem dL_law_420 : decode cL_law 420 = .ok (.invokevirtual 40, 3) := by decide +kernel
theorem dL_law_423 : decode cL_law 423 = .ok (.if_icmp .eq 516, 3) := by decide +kernel
theorem dL_law_426 : decode cL_law 426 = .ok (.iconst 0, 1) := by decide +kernel
theorem dL_law_427 : decode cL_law 427 = .ok (.ireturn, 1) := by decide +kernel
theorem dL_law_428 : decode cL_law 428 = .ok (.aload_n 1, 1) := by decide +kernel
theorem dL_law_429 : decode cL_law 429 = .ok (.aload_n 0, 1) := by decide +kernel
theorem dL_law_430 : decode cL_law 430 = .ok (.iload_n 3, 1) := by decide +kernel
theorem dL_law_431 : decode cL_law 431 = .ok (.iconst 1, 1) := by decide +kernel
theorem dL_law_432 : decode cL_law 432 = .ok (.iadd, 1) := by decide +kernel
theorem dL_law_433 : decode cL_law 433 = .ok (.iaload, 1) := by decide +kernel
theorem dL_law_434 : decode cL_law 434 = .ok (.aload_n 0, 1) := by decide +kernel
theorem dL_law_435 : decode cL_law 435 = .ok (.iload_n 3, 1) := by decide +kernel
theorem dL_law_436 : decode cL_law 436 = .ok (.iconst 2, 1) := by decide +kernel
theorem dL_law_437 : decode cL_law 437 = .ok (.iadd, 1) := by decide +kernel
theorem dL_law_438 : decode cL_law 438 = .ok (.iaload, 1) := by decide +kernel
theorem dL_law_439 : decode cL_law 439 = .ok (.invokevirtual 41, 3) := by decide +kernel
theorem dL_law_442 : decode cL_law 442 = .ok (.aload_n 2, 1) := by decide +kernel
theorem dL_law_443 : decode cL_law 443 = .ok (.aload_n 0, 1) := by decide +kernel
theorem dL_law_444 : decode cL_law 444 = .ok (.iload_n 3, 1) := by decide +kernel
theorem dL_law_445 : decode cL_law 445 = .ok (.iconst 1, 1) := by decide +kernel
theorem dL_law_446 : decode cL_law 446 = .ok (.iadd, 1) := by decide +kernel
theorem dL_law_447 : decode cL_law 447 = .ok (.iaload, 1) := by decide +kernel
theorem dL_law_448 : decode cL_law 448 = .ok (.aload_n 0, 1) := by decide +kernel
theorem dL_law_449 : decode cL_law 449 = .ok (.iload_n 3, 1) := by decide +kernel
theorem dL_law_450 : decode cL_law 450 = .ok (.iconst 2, 1) := by decide +kernel
theorem dL_law_451 : decode cL_law 451 = .ok (.iadd, 1) := by decide +kernel
theorem dL_law_452 : decode cL_law 452 = .ok (.iaload, 1) := by decide +kernel
theorem dL_law_453 : decode cL_law 453 = .ok (.invokevirtual 45, 3) := by decide +kernel
theorem dL_law_456 : decode cL_law 456 = .ok (.if_icmp .eq 483, 3) := by decide +kernel
theorem dL_law_459 : decode cL_law 459 = .ok (.iconst 0, 1) := by decide +kernel
theorem dL_law_460 : decode cL_law 460 = .ok (.ireturn, 1) := by decide +kernel
theorem dL_law_461 : decode cL_law 461 = .ok (.aload_n 1, 1) := by decide +kernel
theorem dL_law_462 : decode cL_law 462 = .ok (.aload_n 0, 1) := by decide +kernel
theorem dL_law_463 : decode cL_law 463 = .ok (.iload_n 3, 1) := by decide +kernel
theorem dL_law_464 : decode cL_law 464 = .ok (.iconst 1, 1) := by decide +kernel
theorem dL_law_465 : decode cL_law 465 = .ok (.iadd, 1) := by decide +kernel
theorem dL_law_466 : decode cL_law 466 = .ok (.iaload, 1) := by decide +kernel
theorem dL_law_467 : decode cL_law 467 = .ok (.aload_n 0, 1) := by decide +kernel
theorem dL_law_468 : decode cL_law 468 = .ok (.iload_n 3, 1) := by decide +kernel
theorem dL_law_469 : decode cL_law 469 = .ok (.iconst 2, 1) := by decide +kernel
theorem dL_law_470 : decode cL_law 470 = .ok (.iadd, 1) := by decide +kernel
theorem dL_law_471 : decode cL_law 471 = .ok (.iaload, 1) := by decide +kernel
theorem dL_law_472 : decode cL_law 472 = .ok (.invokevirtual 46, 3) := by decide +kernel
theorem dL_law_475 : decode cL_law 475 = .ok (.aload_n 2, 1) := by decide +kernel
theorem dL_law_476 : decode cL_law 476 = .ok (.aload_n 0, 1) := by decide +kernel
theorem dL_law_477 : decode cL_law 477 = .ok (.iload_n 3, 1) := by decide +kernel
theorem dL_law_478 : decode cL_law 478 = .ok (.iconst 1, 1) := by decide +kernel
theorem dL_law_479 : decode cL_law 479 = .ok (.iadd, 1) := by decide +kernel
theorem dL_law_480 : decode cL_law 480 = .ok (.iaload, 1) := by decide +kernel
theorem dL_law_481 : decode cL_law 481 = .ok (.aload_n 0, 1) := by decide +kernel
theorem dL_law_482 : decode cL_law 482 = .ok (.iload_n 3, 1) := by decide +kernel
theorem dL_law_483 : decode cL_law 483 = .ok (.iconst 2, 1) := by decide +kernel
theorem dL_law_484 : decode cL_law 484 = .ok (.iadd, 1) := by decide +kernel
theorem dL_law_485 : decode cL_law 485 = .ok (.iaload, 1) := by decide +kernel
theorem dL_law_486 : decode cL_law 486 = .ok (.invokevirtual 50, 3) := by decide +kernel
theorem dL_law_489 : decode cL_law 489 = .ok (.if_icmp .eq 450, 3) := by decide +kernel
theorem dL_law_492 : decode cL_law 492 = .ok (.iconst 0, 1) := by decide +kernel
theorem dL_law_493 : decode cL_law 493 = .ok (.ireturn, 1) := by decide +kernel
theorem dL_law_494 : decode cL_law 494 = .ok (.aload_n 1, 1) := by decide +kernel
theorem dL_law_495 : decode cL_law 495 = .ok (.aload_n 0, 1) := by decide +kernel
theorem dL_law_496 : decode cL_law 496 = .ok (.iload_n 3, 1) := by decide +kernel
theorem dL_law_497 : decode cL_law 497 = .ok (.iconst 1, 1) := by decide +kernel
theorem dL_law_498 : decode cL_law 498 = .ok (.iadd, 1) := by decide +kernel
theorem dL_law_499 : decode cL_law 499 = .ok (.iaload, 1) := by decide +kernel
theorem dL_law_500 : decode cL_law 500 = .ok (.aload_n 0, 1) := by decide +kernel
theorem dL_law_501 : decode cL_law 501 = .ok (.iload_n 3, 1) := by decide +kernel
theorem dL_law_502 : decode cL_law 502 = .ok (.iconst 2, 1) := by decide +kernel
theorem dL_law_503 : decode cL_law 503 = .ok (.iadd, 1) := by decide +kernel
theorem dL_law_504 : decode cL_law 504 = .ok (.iaload, 1) := by decide +kernel
theorem dL_law_505 : decode cL_law 505 = .ok (.invokevirtual 51, 3) := by decide +kernel
theorem dL_law_508 : decode cL_law 508 = .ok (.aload_n 2, 1) := by decide +kernel
theorem dL_law_509 : decode cL_law 509 = .ok (.aload_n 0, 1) := by decide +kernel
theorem dL_law_510 : decode cL_law 510 = .ok (.iload_n 3, 1) := by decide +kernel
theorem dL_law_511 : decode cL_law 511 = .ok (.iconst 1, 1) := by decide +kernel
theorem dL_law_512 : decode cL_law 512 = .ok (.iadd, 1) := by decide +kernel
theorem dL_law_513 : decode cL_law 513 = .ok (.iaload, 1) := by decide +kernel
theorem dL_law_514 : decode cL_law 514 = .ok (.aload_n 0, 1) := by decide +kernel
theorem dL_law_515 : decode cL_law 515 = .ok (.iload_n 3, 1) := by decide +kernel
theorem dL_law_516 : decode cL_law 516 = .ok (.iconst 2, 1) := by decide +kernel
theorem dL_law_517 : decode cL_law 517 = .ok (.iadd, 1) := by decide +kernel
theorem dL_law_518 : decode cL_law 518 = .ok (.iaload, 1) := by decide +kernel
theorem dL_law_519 : decode cL_law 519 = .ok (.invokevirtual 54, 3) := by decide +kernel
theorem dL_law_522 : decode cL_law 522 = .ok (.if_icmp .eq 417, 3) := by decide +kernel
theorem dL_law_525 : decode cL_law 525 = .ok (.iconst 0, 1) := by decide +kernel
theorem dL_law_526 : decode cL_law 526 = .ok (.ireturn, 1) := by decide +kernel
theorem dL_law_527 : decode cL_law 527 = .ok (.aload_n 1, 1) := by decide +kernel
theorem dL_law_528 : decode cL_law 528 = .ok (.aload_n 0, 1) := by decide +kernel
theorem dL_law_529 : decode cL_law 529 = .ok (.iload_n 3, 1) := by decide +kernel
theorem dL_law_530 : decode cL_law 530 = .ok (.iconst 1, 1) := by decide +kernel
theorem dL_law_531 : decode cL_law 531 = .ok (.iadd, 1) := by decide +kernel
theorem dL_law_532 : decode cL_law 532 = .ok (.iaload, 1) := by decide +kernel
theorem dL_law_533 : decode cL_law 533 = .ok (.invokevirtual 55, 3) := by decide +kernel
theorem dL_law_536 : decode cL_law 536 = .ok (.aload_n 2, 1) := by decide +kernel
theorem dL_law_537 : decode cL_law 537 = .ok (.aload_n 0, 1) := by decide +kernel
theorem dL_law_538 : decode cL_law 538 = .ok (.iload_n 3, 1) := by decide +kernel
theorem dL_law_539 : decode cL_law 539 = .ok (.iconst 1, 1) := by decide +kernel
theorem dL_law_540 : decode cL_law 540 = .ok (.iadd, 1) := by decide +kernel
theorem dL_law_541 : decode cL_law 541 = .ok (.iaload, 1) := by decide +kernel
theorem dL_law_542 : decode cL_law 542 = .ok (.invokevirtual 58, 3) := by decide +kernel
theorem dL_law_545 : decode cL_law 545 = .ok (.if_icmp .eq 394, 3) := by decide +kernel
theorem dL_law_548 : decode cL_law 548 = .ok (.iconst 0, 1) := by decide +kernel
theorem dL_law_549 : decode cL_law 549 = .ok (.ireturn, 1) := by decide +kernel
theorem dL_law_550 : decode cL_law 550 = .ok (.aload_n 1, 1) := by decide +kernel
theorem dL_law_551 : decode cL_law 551 = .ok (.aload_n 0, 1) := by decide +kernel
theorem dL_law_552 : decode cL_law 552 = .ok (.iload_n 3, 1) := by decide +kernel
theorem dL_law_553 : decode cL_law 553 = .ok (.iconst 1, 1) := by decide +kernel
theorem dL_law_554 : decode cL_law 554 = .ok (.iadd, 1) := by decide +kernel
theorem dL_law_555 : decode cL_law 555 = .ok (.iaload, 1) := by decide +kernel
theorem dL_law_556 : decode cL_law 556 = .ok (.aload_n 0, 1) := by decide +kernel
theorem dL_law_557 : decode cL_law 557 = .ok (.iload_n 3, 1) := by decide +kernel
theorem dL_law_558 : decode cL_law 558 = .ok (.iconst 2, 1) := by decide +kernel
theorem dL_law_559 : decode cL_law 559 = .ok (.iadd, 1) := by decide +kernel
theorem dL_law_560 : decode cL_law 560 = .ok (.iaload, 1) := by decide +kernel
theorem dL_law_561 : decode cL_law 561 = .ok (.invokevirtual 59, 3) := by decide +kernel
theorem dL_law_564 : decode cL_law 564 = .ok (.aload_n 2, 1) := by decide +kernel
theorem dL_law_565 : decode cL_law 565 = .ok (.aload_n 0, 1) := by decide +kernel
theorem dL_law_566 : decode cL_law 566 = .ok (.iload_n 3, 1) := by decide +kernel
theorem dL_law_567 : decode cL_law 567 = .ok (.iconst 1, 1) := by decide +kernel
theorem dL_law_568 : decode cL_law 568 = .ok (.iadd, 1) := by decide +kernel
theorem dL_law_569 : decode cL_law 569 = .ok (.iaload, 1) := by decide +kernel
theorem dL_law_570 : decode cL_law 570 = .ok (.aload_n 0, 1) := by decide +kernel
theorem dL_law_571 : decode cL_law 571 = .ok (.iload_n 3, 1) := by decide +kernel
theorem dL_law_572 : decode cL_law 572 = .ok (.iconst 2, 1) := by decide +kernel
theorem dL_law_573 : decode cL_law 573 = .ok (.iadd, 1) := by decide +kernel
theorem dL_law_574 : decode cL_law 574 = .ok (.iaload, 1) := by decide +kernel
theorem dL_law_575 : decode cL_law 575 = .ok (.invokevirtual 62, 3) := by decide +kernel
theorem dL_law_578 : decode cL_law 578 = .ok (.if_icmp .eq 361, 3) := by decide +kernel
theorem dL_law_581 : decode cL_law 581 = .ok (.iconst 0, 1) := by decide +kernel
theorem dL_law_582 : decode cL_law 582 = .ok (.ireturn, 1) := by decide +kernel
theorem dL_law_583 : decode cL_law 583 = .ok (.aload_n 1, 1) := by decide +kernel
theorem dL_law_584 : decode cL_law 584 = .ok (.aload_n 0, 1) := by decide +kernel
theorem dL_law_585 : decode cL_law 585 = .ok (.iload_n 3, 1) := by decide +kernel
theorem dL_law_586 : decode cL_law 586 = .ok (.iconst 1, 1) := by decide +kernel
theorem dL_law_587 : decode cL_law 587 = .ok (.iadd, 1) := by decide +kernel
theorem dL_law_588 : decode cL_law 588 = .ok (.iaload, 1) := by decide +kernel
theorem dL_law_589 : decode cL_law 589 = .ok (.aload_n 0, 1) := by decide +kernel
theorem dL_law_590 : decode cL_law 590 = .ok (.iload_n 3, 1) := by decide +kernel
theorem dL_law_591 : decode cL_law 591 = .ok (.iconst 2, 1) := by decide +kernel
theorem dL_law_592 : decode cL_law 592 = .ok (.iadd, 1) := by decide +kernel
theorem dL_law_593 : decode cL_law 593 = .ok (.iaload, 1) := by decide +kernel
theorem dL_law_594 : decode cL_law 594 = .ok (.invokevirtual 63, 3) := by decide +kernel
theorem dL_law_597 : decode cL_law 597 = .ok (.aload_n 2, 1) := by decide +kernel
theorem dL_law_598 : decode cL_law 598 = .ok (.aload_n 0, 1) := by decide +kernel
theorem dL_law_599 : decode cL_law 599 = .ok (.iload_n 3, 1) := by decide +kernel
theorem dL_law_600 : decode cL_law 600 = .ok (.iconst 1, 1) := by decide +kernel
theorem dL_law_601 : decode cL_law 601 = .ok (.iadd, 1) := by decide +kernel
theorem dL_law_602 : decode cL_law 602 = .ok (.iaload, 1) := by decide +kernel
theorem dL_law_603 : decode cL_law 603 = .ok (.aload_n 0, 1) := by decide +kernel
theorem dL_law_604 : decode cL_law 604 = .ok (.iload_n 3, 1) := by decide +kernel
theorem dL_law_605 : decode cL_law 605 = .ok (.iconst 2, 1) := by decide +kernel
theorem dL_law_606 : decode cL_law 606 = .ok (.iadd, 1) := by decide +kernel
theorem dL_law_607 : decode cL_law 607 = .ok (.iaload, 1) := by decide +kernel
theorem dL_law_608 : decode cL_law 608 = .ok (.invokevirtual 66, 3) := by decide +kernel
theorem dL_law_611 : decode cL_law 611 = .ok (.if_icmp .eq 328, 3) := by decide +kernel
theorem dL_law_614 : decode cL_law 614 = .ok (.iconst 0, 1) := by decide +kernel
theorem dL_law_615 : decode cL_law 615 = .ok (.ireturn, 1) := by decide +kernel
theorem dL_law_616 : decode cL_law 616 = .ok (.aload_n 1, 1) := by decide +kernel
theorem dL_law_617 : decode cL_law 617 = .ok (.aload_n 0, 1) := by decide +kernel
theorem dL_law_618 : decode cL_law 618 = .ok (.iload_n 3, 1) := by decide +kernel
theorem dL_law_619 : decode cL_law 619 = .ok (.iconst 1, 1) := by decide +kernel
theorem dL_law_620 : decode cL_law 620 = .ok (.iadd, 1) := by decide +kernel
theorem dL_law_621 : decode cL_law 621 = .ok (.iaload, 1) := by decide +kernel
theorem dL_law_622 : decode cL_law 622 = .ok (.aload_n 0, 1) := by decide +kernel
theorem dL_law_623 : decode cL_law 623 = .ok (.iload_n 3, 1) := by decide +kernel
theorem dL_law_624 : decode cL_law 624 = .ok (.iconst 2, 1) := by decide +kernel
theorem dL_law_625 : decode cL_law 625 = .ok (.iadd, 1) := by decide +kernel
theorem dL_law_626 : decode cL_law 626 = .ok (.iaload, 1) := by decide +kernel
theorem dL_law_627 : decode cL_law 627 = .ok (.invokevirtual 67, 3) := by decide +kernel
theorem dL_law_630 : decode cL_law 630 = .ok (.aload_n 2, 1) := by decide +kernel
theorem dL_law_631 : decode cL_law 631 = .ok (.aload_n 0, 1) := by decide +kernel
theorem dL_law_632 : decode cL_law 632 = .ok (.iload_n 3, 1) := by decide +kernel
theorem dL_law_633 : decode cL_law 633 = .ok (.iconst 1, 1) := by decide +kernel
theorem dL_law_634 : decode cL_law 634 = .ok (.iadd, 1) := by decide +kernel
theorem dL_law_635 : decode cL_law 635 = .ok (.iaload, 1) := by decide +kernel
theorem dL_law_636 : decode cL_law 636 = .ok (.aload_n 0, 1) := by decide +kernel
theorem dL_law_637 : decode cL_law 637 = .ok (.iload_n 3, 1) := by decide +kernel
theorem dL_law_638 : decode cL_law 638 = .ok (.iconst 2, 1) := by decide +kernel
theorem dL_law_639 : decode cL_law 639 = .ok (.iadd, 1) := by decide +kernel
theorem dL_law_640 : decode cL_law 640 = .ok (.iaload, 1) := by decide +kernel
theorem dL_law_641 : decode cL_law 641 = .ok (.invokevirtual 70, 3) := by decide +kernel
theorem dL_law_644 : decode cL_law 644 = .ok (.if_icmp .eq 295, 3) := by decide +kernel
theorem dL_law_647 : decode cL_law 647 = .ok (.iconst 0, 1) := by decide +kernel
theorem dL_law_648 : decode cL_law 648 = .ok (.ireturn, 1) := by decide +kernel
theorem dL_law_649 : decode cL_law 649 = .ok (.aload_n 1, 1) := by decide +kernel
theorem dL_law_650 : decode cL_law 650 = .ok (.aload_n 0, 1) := by decide +kernel
theorem dL_law_651 : decode cL_law 651 = .ok (.iload_n 3, 1) := by decide +kernel
theorem dL_law_652 : decode cL_law 652 = .ok (.iconst 1, 1) := by decide +kernel
theorem dL_law_653 : decode cL_law 653 = .ok (.iadd, 1) := by decide +kernel
theorem dL_law_654 : decode cL_law 654 = .ok (.iaload, 1) := by decide +kernel
theorem dL_law_655 : decode cL_law 655 = .ok (.invokevirtual 71, 3) := by decide +kernel
theorem dL_law_658 : decode cL_law 658 = .ok (.aload_n 2, 1) := by decide +kernel
theorem dL_law_659 : decode cL_law 659 = .ok (.aload_n 0, 1) := by decide +kernel
theorem dL_law_660 : decode cL_law 660 = .ok (.iload_n 3, 1) := by decide +kernel
theorem dL_law_661 : decode cL_law 661 = .ok (.iconst 1, 1) := by decide +kernel
theorem dL_law_662 : decode cL_law 662 = .ok (.iadd, 1) := by decide +kernel
theorem dL_law_663 : decode cL_law 663 = .ok (.iaload, 1) := by decide +kernel
theorem dL_law_664 : decode cL_law 664 = .ok (.invokevirtual 74, 3) := by decide +kernel
theorem dL_law_667 : decode cL_law 667 = .ok (.if_icmp .eq 272, 3) := by decide +kernel
theorem dL_law_670 : decode cL_law 670 = .ok (.iconst 0, 1) := by decide +kernel
theorem dL_law_671 : decode cL_law 671 = .ok (.ireturn, 1) := by decide +kernel
theorem dL_law_672 : decode cL_law 672 = .ok (.aload_n 1, 1) := by decide +kernel
theorem dL_law_673 : decode cL_law 673 = .ok (.aload_n 0, 1) := by decide +kernel
theorem dL_law_674 : decode cL_law 674 = .ok (.iload_n 3, 1) := by decide +kernel
theorem dL_law_675 : decode cL_law 675 = .ok (.iconst 1, 1) := by decide +kernel
theorem dL_law_676 : decode cL_law 676 = .ok (.iadd, 1) := by decide +kernel
theorem dL_law_677 : decode cL_law 677 = .ok (.iaload, 1) := by decide +kernel
theorem dL_law_678 : decode cL_law 678 = .ok (.invokevirtual 75, 3) := by decide +kernel
theorem dL_law_681 : decode cL_law 681 = .ok (.aload_n 2, 1) := by decide +kernel
theorem dL_law_682 : decode cL_law 682 = .ok (.aload_n 0, 1) := by decide +kernel
theorem dL_law_683 : decode cL_law 683 = .ok (.iload_n 3, 1) := by decide +kernel
theorem dL_law_684 : decode cL_law 684 = .ok (.iconst 1, 1) := by decide +kernel
theorem dL_law_685 : decode cL_law 685 = .ok (.iadd, 1) := by decide +kernel
theorem dL_law_686 : decode cL_law 686 = .ok (.iaload, 1) := by decide +kernel
theorem dL_law_687 : decode cL_law 687 = .ok (.invokevirtual 78, 3) := by decide +kernel
theorem dL_law_690 : decode cL_law 690 = .ok (.if_icmp .eq 249, 3) := by decide +kernel
theorem dL_law_693 : decode cL_law 693 = .ok (.iconst 0, 1) := by decide +kernel
theorem dL_law_694 : decode cL_law 694 = .ok (.ireturn, 1) := by decide +kernel
theorem dL_law_695 : decode cL_law 695 = .ok (.aload_n 1, 1) := by decide +kernel
theorem dL_law_696 : decode cL_law 696 = .ok (.aload_n 0, 1) := by decide +kernel
theorem dL_law_697 : decode cL_law 697 = .ok (.iload_n 3, 1) := by decide +kernel
theorem dL_law_698 : decode cL_law 698 = .ok (.iconst 1, 1) := by decide +kernel
theorem dL_law_699 : decode cL_law 699 = .ok (.iadd, 1) := by decide +kernel
theorem dL_law_700 : decode cL_law 700 = .ok (.iaload, 1) := by decide +kernel
theorem dL_law_701 : decode cL_law 701 = .ok (.aload_n 0, 1) := by decide +kernel
theorem dL_law_702 : decode cL_law 702 = .ok (.iload_n 3, 1) := by decide +kernel
theorem dL_law_703 : decode cL_law 703 = .ok (.iconst 2, 1) := by decide +kernel
theorem dL_law_704 : decode cL_law 704 = .ok (.iadd, 1) := by decide +kernel
theorem dL_law_705 : decode cL_law 705 = .ok (.iaload, 1) := by decide +kernel
theorem dL_law_706 : decode cL_law 706 = .ok (.aload_n 0, 1) := by decide +kernel
theorem dL_law_707 : decode cL_law 707 = .ok (.iload_n 3, 1) := by decide +kernel
theorem dL_law_708 : decode cL_law 708 = .ok (.iconst 3, 1) := by decide +kernel
theorem dL_law_709 : decode cL_law 709 = .ok (.iadd, 1) := by decide +kernel
theorem dL_law_710 : decode cL_law 710 = .ok (.iaload, 1) := by decide +kernel
theorem dL_law_711 : decode cL_law 711 = .ok (.invokevirtual 79, 3) := by decide +kernel
theorem dL_law_714 : decode cL_law 714 = .ok (.aload_n 2, 1) := by decide +kernel
theorem dL_law_715 : decode cL_law 715 = .ok (.aload_n 0, 1) := by decide +kernel
theorem dL_law_716 : decode cL_law 716 = .ok (.iload_n 3, 1) := by decide +kernel
theorem dL_law_717 : decode cL_law 717 = .ok (.iconst 1, 1) := by decide +kernel
theorem dL_law_718 : decode cL_law 718 = .ok (.iadd, 1) := by decide +kernel
theorem dL_law_719 : decode cL_law 719 = .ok (.iaload, 1) := by decide +kernel
theorem dL_law_720 : decode cL_law 720 = .ok (.aload_n 0, 1) := by decide +kernel
theorem dL_law_721 : decode cL_law 721 = .ok (.iload_n 3, 1) := by decide +kernel
theorem dL_law_722 : decode cL_law 722 = .ok (.iconst 2, 1) := by decide +kernel
theorem dL_law_723 : decode cL_law 723 = .ok (.iadd, 1) := by decide +kernel
theorem dL_law_724 : decode cL_law 724 = .ok (.iaload, 1) := by decide +kernel
theorem dL_law_725 : decode cL_law 725 = .ok (.aload_n 0, 1) := by decide +kernel
theorem dL_law_726 : decode cL_law 726 = .ok (.iload_n 3, 1) := by decide +kernel
theorem dL_law_727 : decode cL_law 727 = .ok (.iconst 3, 1) := by decide +kernel
theorem dL_law_728 : decode cL_law 728 = .ok (.iadd, 1) := by decide +kernel
theorem dL_law_729 : decode cL_law 729 = .ok (.iaload, 1) := by decide +kernel
theorem dL_law_730 : decode cL_law 730 = .ok (.invokevirtual 83, 3) := by decide +kernel
theorem dL_law_733 : decode cL_law 733 = .ok (.if_icmp .eq 206, 3) := by decide +kernel
theorem dL_law_736 : decode cL_law 736 = .ok (.iconst 0, 1) := by decide +kernel
theorem dL_law_737 : decode cL_law 737 = .ok (.ireturn, 1) := by decide +kernel
theorem dL_law_738 : decode cL_law 738 = .ok (.aload_n 1, 1) := by decide +kernel
theorem dL_law_739 : decode cL_law 739 = .ok (.aload_n 0, 1) := by decide +kernel
theorem dL_law_740 : decode cL_law 740 = .ok (.iload_n 3, 1) := by decide +kernel
theorem dL_law_741 : decode cL_law 741 = .ok (.iconst 1, 1) := by decide +kernel
theorem dL_law_742 : decode cL_law 742 = .ok (.iadd, 1) := by decide +kernel
theorem dL_law_743 : decode cL_law 743 = .ok (.iaload, 1) := by decide +kernel
theorem dL_law_744 : decode cL_law 744 = .ok (.invokevirtual 84, 3) := by decide +kernel
theorem dL_law_747 : decode cL_law 747 = .ok (.aload_n 2, 1) := by decide +kernel
theorem dL_law_748 : decode cL_law 748 = .ok (.aload_n 0, 1) := by decide +kernel
theorem dL_law_749 : decode cL_law 749 = .ok (.iload_n 3, 1) := by decide +kernel
theorem dL_law_750 : decode cL_law 750 = .ok (.iconst 1, 1) := by decide +kernel
theorem dL_law_751 : decode cL_law 751 = .ok (.iadd, 1) := by decide +kernel
theorem dL_law_752 : decode cL_law 752 = .ok (.iaload, 1) := by decide +kernel
theorem dL_law_753 : decode cL_law 753 = .ok (.invokevirtual 87, 3) := by decide +kernel
theorem dL_law_756 : decode cL_law 756 = .ok (.if_icmp .eq 183, 3) := by decide +kernel
theorem dL_law_759 : decode cL_law 759 = .ok (.iconst 0, 1) := by decide +kernel
theorem dL_law_760 : decode cL_law 760 = .ok (.ireturn, 1) := by decide +kernel
theorem dL_law_761 : decode cL_law 761 = .ok (.aload_n 1, 1) := by decide +kernel
theorem dL_law_762 : decode cL_law 762 = .ok (.aload_n 0, 1) := by decide +kernel
theorem dL_law_763 : decode cL_law 763 = .ok (.iload_n 3, 1) := by decide +kernel
theorem dL_law_764 : decode cL_law 764 = .ok (.iconst 1, 1) := by decide +kernel
theorem dL_law_765 : decode cL_law 765 = .ok (.iadd, 1) := by decide +kernel
theorem dL_law_766 : decode cL_law 766 = .ok (.iaload, 1) := by decide +kernel
theorem dL_law_767 : decode cL_law 767 = .ok (.aload_n 0, 1) := by decide +kernel
theorem dL_law_768 : decode cL_law 768 = .ok (.iload_n 3, 1) := by decide +kernel
theorem dL_law_769 : decode cL_law 769 = .ok (.iconst 2, 1) := by decide +kernel
theorem dL_law_770 : decode cL_law 770 = .ok (.iadd, 1) := by decide +kernel
theorem dL_law_771 : decode cL_law 771 = .ok (.iaload, 1) := by decide +kernel
theorem dL_law_772 : decode cL_law 772 = .ok (.invokevirtual 88, 3) := by decide +kernel
theorem dL_law_775 : decode cL_law 775 = .ok (.aload_n 2, 1) := by decide +kernel
theorem dL_law_776 : decode cL_law 776 = .ok (.aload_n 0, 1) := by decide +kernel
theorem dL_law_777 : decode cL_law 777 = .ok (.iload_n 3, 1) := by decide +kernel
theorem dL_law_778 : decode cL_law 778 = .ok (.iconst 1, 1) := by decide +kernel
theorem dL_law_779 : decode cL_law 779 = .ok (.iadd, 1) := by decide +kernel
theorem dL_law_780 : decode cL_law 780 = .ok (.iaload, 1) := by decide +kernel
theorem dL_law_781 : decode cL_law 781 = .ok (.aload_n 0, 1) := by decide +kernel
theorem dL_law_782 : decode cL_law 782 = .ok (.iload_n 3, 1) := by decide +kernel
theorem dL_law_783 : decode cL_law 783 = .ok (.iconst 2, 1) := by decide +kernel
theorem dL_law_784 : decode cL_law 784 = .ok (.iadd, 1) := by decide +kernel
theorem dL_law_785 : decode cL_law 785 = .ok (.iaload, 1) := by decide +kernel
theorem dL_law_786 : decode cL_law 786 = .ok (.invokevirtual 91, 3) := by decide +kernel
theorem dL_law_789 : decode cL_law 789 = .ok (.if_icmp .eq 150, 3) := by decide +kernel
theorem dL_law_792 : decode cL_law 792 = .ok (.iconst 0, 1) := by decide +kernel
theorem dL_law_793 : decode cL_law 793 = .ok (.ireturn, 1) := by decide +kernel
theorem dL_law_794 : decode cL_law 794 = .ok (.aload_n 1, 1) := by decide +kernel
theorem dL_law_795 : decode cL_law 795 = .ok (.aload_n 0, 1) := by decide +kernel
theorem dL_law_796 : decode cL_law 796 = .ok (.iload_n 3, 1) := by decide +kernel
theorem dL_law_797 : decode cL_law 797 = .ok (.iconst 1, 1) := by decide +kernel
theorem dL_law_798 : decode cL_law 798 = .ok (.iadd, 1) := by decide +kernel
theorem dL_law_799 : decode cL_law 799 = .ok (.iaload, 1) := by decide +kernel
theorem dL_law_800 : decode cL_law 800 = .ok (.invokevirtual 92, 3) := by decide +kernel
theorem dL_law_803 : decode cL_law 803 = .ok (.aload_n 2, 1) := by decide +kernel
theorem dL_law_804 : decode cL_law 804 = .ok (.aload_n 0, 1) := by decide +kernel
theorem dL_law_805 : decode cL_law 805 = .ok (.iload_n 3, 1) := by decide +kernel
theorem dL_law_806 : decode cL_law 806 = .ok (.iconst 1, 1) := by decide +kernel
theorem dL_law_807 : decode cL_law 807 = .ok (.iadd, 1) := by decide +kernel
theorem dL_law_808 : decode cL_law 808 = .ok (.iaload, 1) := by decide +kernel
theorem dL_law_809 : decode cL_law 809 = .ok (.invokevirtual 96, 3) := by decide +kernel
theorem dL_law_812 : decode cL_law 812 = .ok (.if_icmp .eq 127, 3) := by decide +kernel
theorem dL_law_815 : decode cL_law 815 = .ok (.iconst 0, 1) := by decide +kernel
theorem dL_law_816 : decode cL_law 816 = .ok (.ireturn, 1) := by decide +kernel
theorem dL_law_817 : decode cL_law 817 = .ok (.aload_n 1, 1) := by decide +kernel
theorem dL_law_818 : decode cL_law 818 = .ok (.aload_n 0, 1) := by decide +kernel
theorem dL_law_819 : decode cL_law 819 = .ok (.iload_n 3, 1) := by decide +kernel
theorem dL_law_820 : decode cL_law 820 = .ok (.iconst 1, 1) := by decide +kernel
theorem dL_law_821 : decode cL_law 821 = .ok (.iadd, 1) := by decide +kernel
theorem dL_law_822 : decode cL_law 822 = .ok (.iaload, 1) := by decide +kernel
theorem dL_law_823 : decode cL_law 823 = .ok (.aload_n 0, 1) := by decide +kernel
theorem dL_law_824 : decode cL_law 824 = .ok (.iload_n 3, 1) := by decide +kernel
theorem dL_law_825 : decode cL_law 825 = .ok (.iconst 2, 1) := by decide +kernel
theorem dL_law_826 : decode cL_law 826 = .ok (.iadd, 1) := by decide +kernel
theorem dL_law_827 : decode cL_law 827 = .ok (.iaload, 1) := by decide +kernel
theorem dL_law_828 : decode cL_law 828 = .ok (.aload_n 0, 1) := by decide +kernel
theorem dL_law_829 : decode cL_law 829 = .ok (.iload_n 3, 1) := by decide +kernel
theorem dL_law_830 : decode cL_law 830 = .ok (.iconst 3, 1) := by decide +kernel
theorem dL_law_831 : decode cL_law 831 = .ok (.iadd, 1) := by decide +kernel
theorem dL_law_832 : decode cL_law 832 = .ok (.iaload, 1) := by decide +kernel
theorem dL_law_833 : decode cL_law 833 = .ok (.aload_n 0, 1) := by decide +kernel
theorem dL_law_834 : decode cL_law 834 = .ok (.iload_n 3, 1) := by decide +kernel
theorem dL_law_835 : decode cL_law 835 = .ok (.iconst 4, 1) := by decide +kernel
theorem dL_law_836 : decode cL_law 836 = .ok (.iadd, 1) := by decide +kernel
theorem dL_law_837 : decode cL_law 837 = .ok (.iaload, 1) := by decide +kernel
theorem dL_law_838 : decode cL_law 838 = .ok (.aload_n 0, 1) := by decide +kernel
theorem dL_law_839 : decode cL_law 839 = .ok (.iload_n 3, 1) := by decide +kernel
theorem dL_law_840 : decode cL_law 840 = .ok (.iconst 5, 1) := by decide +kernel
theorem dL_law_841 : decode cL_law 841 = .ok (.iadd, 1) := by decide +kernel
theorem dL_law_842 : decode cL_law 842 = .ok (.iaload, 1) := by decide +kernel
theorem dL_law_843 : decode cL_law 843 = .ok (.invokevirtual 97, 3) := by decide +kernel
theorem dL_law_846 : decode cL_law 846 = .ok (.aload_n 2, 1) := by decide +kernel
theorem dL_law_847 : decode cL_law 847 = .ok (.aload_n 0, 1) := by decide +kernel
theorem dL_law_848 : decode cL_law 848 = .ok (.iload_n 3, 1) := by decide +kernel
theorem dL_law_849 : decode cL_law 849 = .ok (.iconst 1, 1) := by decide +kernel
theorem dL_law_850 : decode cL_law 850 = .ok (.iadd, 1) := by decide +kernel
theorem dL_law_851 : decode cL_law 851 = .ok (.iaload, 1) := by decide +kernel
theorem dL_law_852 : decode cL_law 852 = .ok (.aload_n 0, 1) := by decide +kernel
theorem dL_law_853 : decode cL_law 853 = .ok (.iload_n 3, 1) := by decide +kernel
theorem dL_law_854 : decode cL_law 854 = .ok (.iconst 2, 1) := by decide +kernel
theorem dL_law_855 : decode cL_law 855 = .ok (.iadd, 1) := by decide +kernel
theorem dL_law_856 : decode cL_law 856 = .ok (.iaload, 1) := by decide +kernel
theorem dL_law_857 : decode cL_law 857 = .ok (.aload_n 0, 1) := by decide +kernel
theorem dL_law_858 : decode cL_law 858 = .ok (.iload_n 3, 1) := by decide +kernel
theorem dL_law_859 : decode cL_law 859 = .ok (.iconst 3, 1) := by decide +kernel
theorem dL_law_860 : decode cL_law 860 = .ok (.iadd, 1) := by decide +kernel
theorem dL_law_861 : decode cL_law 861 = .ok (.iaload, 1) := by decide +kernel
theorem dL_law_862 : decode cL_law 862 = .ok (.aload_n 0, 1) := by decide +kernel
theorem dL_law_863 : decode cL_law 863 = .ok (.iload_n 3, 1) := by decide +kernel
theorem dL_law_864 : decode cL_law 864 = .ok (.iconst 4, 1) := by decide +kernel
theorem dL_law_865 : decode cL_law 865 = .ok (.iadd, 1) := by decide +kernel
theorem dL_law_866 : decode cL_law 866 = .ok (.iaload, 1) := by decide +kernel
theorem dL_law_867 : decode cL_law 867 = .ok (.aload_n 0, 1) := by decide +kernel
theorem dL_law_868 : decode cL_law 868 = .ok (.iload_n 3, 1) := by decide +kernel
theorem dL_law_869 : decode cL_law 869 = .ok (.iconst 5, 1) := by decide +kernel
theorem dL_law_870 : decode cL_law 870 = .ok (.iadd, 1) := by decide +kernel
theorem dL_law_871 : decode cL_law 871 = .ok (.iaload, 1) := by decide +kernel
theorem dL_law_872 : decode cL_law 872 = .ok (.invokevirtual 101, 3) := by decide +kernel
theorem dL_law_875 : decode cL_law 875 = .ok (.if_icmp .eq 64, 3) := by decide +kernel
theorem dL_law_878 : decode cL_law 878 = .ok (.iconst 0, 1) := by decide +kernel
theorem dL_law_879 : decode cL_law 879 = .ok (.ireturn, 1) := by decide +kernel
theorem dL_law_880 : decode cL_law 880 = .ok (.aload_n 1, 1) := by decide +kernel
theorem dL_law_881 : decode cL_law 881 = .ok (.aload_n 0, 1) := by decide +kernel
theorem dL_law_882 : decode cL_law 882 = .ok (.iload_n 3, 1) := by decide +kernel
theorem dL_law_883 : decode cL_law 883 = .ok (.iconst 1, 1) := by decide +kernel
theorem dL_law_884 : decode cL_law 884 = .ok (.iadd, 1) := by decide +kernel
theorem dL_law_885 : decode cL_law 885 = .ok (.iaload, 1) := by decide +kernel
theorem dL_law_886 : decode cL_law 886 = .ok (.invokevirtual 102, 3) := by decide +kernel
theorem dL_law_889 : decode cL_law 889 = .ok (.aload_n 2, 1) := by decide +kernel
theorem dL_law_890 : decode cL_law 890 = .ok (.aload_n 0, 1) := by decide +kernel
theorem dL_law_891 : decode cL_law 891 = .ok (.iload_n 3, 1) := by decide +kernel
theorem dL_law_892 : decode cL_law 892 = .ok (.iconst 1, 1) := by decide +kernel
theorem dL_law_893 : decode cL_law 893 = .ok (.iadd, 1) := by decide +kernel
theorem dL_law_894 : decode cL_law 894 = .ok (.iaload, 1) := by decide +kernel
theorem dL_law_895 : decode cL_law 895 = .ok (.invokevirtual 105, 3) := by decide +kernel
theorem dL_law_898 : decode cL_law 898 = .ok (.if_icmp .eq 41, 3) := by decide +kernel
theorem dL_law_901 : decode cL_law 901 = .ok (.iconst 0, 1) := by decide +kernel
theorem dL_law_902 : decode cL_law 902 = .ok (.ireturn, 1) := by decide +kernel
theorem dL_law_903 : decode cL_law 903 = .ok (.aload_n 1, 1) := by decide +kernel
theorem dL_law_904 : decode cL_law 904 = .ok (.invokevirtual 106, 3) := by decide +kernel
theorem dL_law_907 : decode cL_law 907 = .ok (.aload_n 2, 1) := by decide +kernel
theorem dL_law_908 : decode cL_law 908 = .ok (.invokevirtual 110, 3) := by decide +kernel
theorem dL_law_911 : decode cL_law 911 = .ok (.if_icmp .eq 28, 3) := by decide +kernel
theorem dL_law_914 : decode cL_law 914 = .ok (.iconst 0, 1) := by decide +kernel
theorem dL_law_915 : decode cL_law 915 = .ok (.ireturn, 1) := by decide +kernel
theorem dL_law_916 : decode cL_law 916 = .ok (.aload_n 1, 1) := by decide +kernel
theorem dL_law_917 : decode cL_law 917 = .ok (.aload_n 0, 1) := by decide +kernel
theorem dL_law_918 : decode cL_law 918 = .ok (.iload_n 3, 1) := by decide +kernel
theorem dL_law_919 : decode cL_law 919 = .ok (.iconst 1, 1) := by decide +kernel
theorem dL_law_920 : decode cL_law 920 = .ok (.iadd, 1) := by decide +kernel
theorem dL_law_921 : decode cL_law 921 = .ok (.iaload, 1) := by decide +kernel
theorem dL_law_922 : decode cL_law 922 = .ok (.invokevirtual 111, 3) := by decide +kernel
theorem dL_law_925 : decode cL_law 925 = .ok (.aload_n 2, 1) := by decide +kernel
theorem dL_law_926 : decode cL_law 926 = .ok (.aload_n 0, 1) := by decide +kernel
theorem dL_law_927 : decode cL_law 927 = .ok (.iload_n 3, 1) := by decide +kernel
theorem dL_law_928 : decode cL_law 928 = .ok (.iconst 1, 1) := by decide +kernel
theorem dL_law_929 : decode cL_law 929 = .ok (.iadd, 1) := by decide +kernel
theorem dL_law_930 : decode cL_law 930 = .ok (.iaload, 1) := by decide +kernel
theorem dL_law_931 : decode cL_law 931 = .ok (.invokevirtual 114, 3) := by decide +kernel
theorem dL_law_934 : decode cL_law 934 = .ok (.if_icmp .eq 5, 3) := by decide +kernel
theorem dL_law_937 : decode cL_law 937 = .ok (.iconst 0, 1) := by decide +kernel
theorem dL_law_938 : decode cL_law 938 = .ok (.ireturn, 1) := by decide +kernel
theorem dL_law_939 : decode cL_law 939 = .ok (.iinc 3 6, 3) := by decide +kernel
theorem dL_law_942 : decode cL_law 942 = .ok (.goto (-924), 3) := by decide +kernel
theorem dL_law_945 : decode cL_law 945 = .ok (.iconst 1, 1) := by decide +kernel
theorem dL_law_946 : decode cL_law 946 = .ok (.ireturn, 1) := by decide +kernel
end
section
/-! ===== the memory of a system as typed slots by ids; worlds out of it ===== -/
abbrev mI : Type := Nat → Nat → Int32
abbrev mJ : Type := Nat → Nat → Int64
abbrev mR : Type := Nat → Nat → Option Nat
abbrev mK : Type := Nat → Nat × Nat
abbrev mG : Type := va_G × (Nat → Nat) × (Nat → ClassId) × (Nat → Nat) × (Nat → Nat)
/-- one slot of one id is written -/
def mup {α : Type} (f : Nat → Nat → α) (a k : Nat) (v : α) : Nat → Nat → α := fun i j => if i = a ∧ j = k then v else f i j
theorem mup_eq {α : Type} (f : Nat → Nat → α) (a k : Nat) (v : α) : mup f a k v a k = v := by simp [mup]
theorem mup_ne {α : Type} (f : Nat → Nat → α) {a k i j : Nat} (v : α) (h : ¬ (i = a ∧ j = k)) : mup f a k v i j = f i j := by simp [mup, h]
theorem mup_row {α : Type} (f : Nat → Nat → α) {a i : Nat} (k : Nat) (v : α) (h : i ≠ a) : mup f a k v i = f i := by
  funext j
  simp [mup, h]
/-- how many fields the objects of a class have; which of them are references -/
def mNF : Nat → Nat
  | 0 => 3 | 1 => 8 | 2 => 2 | 3 => 4 | 4 => 10 | 5 => 5 | 6 => 3 | 7 => 2 | 8 => 10 | _ => 23
def mTy : Nat → Nat → FieldType
  | 0 => tyX0 | 1 => tyX1 | 2 => tyX2 | 3 => tyX3 | 4 => tyX4 | 5 => tyX5 | 6 => tyX6 | 7 => tyX7 | 8 => tyX8 | _ => tyX9
def mIR (ci k : Nat) : Bool := (mTy ci k).isReference
def mFs (g : mG) (I : mI) (R : mR) (ci a : Nat) : List Value := (List.range (mNF ci)).map (fun k => if mIR ci k = true then va_rf ((R a k).map g.2.1) else .int (I a k))
def mE (g : mG) (K : mK) (I : mI) (J : mJ) (R : mR) (a : Nat) : va_E := match (K a).1 with
  | 0 => .inr ((K a).2, mFs g I R (K a).2 a)
  | 1 => .inl (g.2.2.1 1, (K a).2, .inl (I a))
  | 2 => .inl (g.2.2.1 2, (K a).2, .inl (I a))
  | 3 => .inl (g.2.2.1 3, (K a).2, .inl (I a))
  | 4 => .inl (g.2.2.1 4, (K a).2, .inr (.inl (J a)))
  | 5 => .inl (g.2.2.1 5, (K a).2, .inr (.inr (.inr (.inr (fun j => (R a j).map g.2.1)))))
  | 6 => .inl (g.2.2.1 6, (K a).2, .inr (.inr (.inr (.inr (fun j => (R a j).map g.2.1)))))
  | _ => .inl (g.2.2.1 7, (K a).2, .inr (.inr (.inr (.inr (fun j => (R a j).map g.2.1)))))
def mws (g : mG) (K : mK) (n : Nat) (I : mI) (J : mJ) (R : mR) : va_W := (List.range n).map (fun i => (g.2.1 i, mE g K I J R i))
def mTys (g : mG) : List (ClassId × FieldType) := [(g.2.2.1 1, .int), (g.2.2.1 2, .byte), (g.2.2.1 3, .boolean), (g.2.2.1 4, .long), (g.2.2.1 5, .object "NamedAgain$Card"), (g.2.2.1 6, .array .int), (g.2.2.1 7, .array .long)]
def mInj (g : mG) (n : Nat) : Prop := ∀ i j : Nat, i < n → j < n → g.2.1 i = g.2.1 j → i = j
def mA (g : mG) (n : Nat) : Nat → Prop := fun q => ∃ i, i < n ∧ q = g.2.1 i
def mOk (K : mK) (n : Nat) : Prop := ∀ a : Nat, (K a).1 < 8 → a < n
theorem mws_at {g : mG} {K : mK} {n : Nat} {I : mI} {J : mJ} {R : mR} {a : Nat} (h : a < n) : (mws g K n I J R)[a]? = some (g.2.1 a, mE g K I J R a) := by
  simp [mws, List.getElem?_map, List.getElem?_range h]
theorem mws_set {g : mG} {K : mK} {n : Nat} {I I' : mI} {J J' : mJ} {R R' : mR} {a : Nat} (ha : a < n) (h : ∀ i, i ≠ a → mE g K I' J' R' i = mE g K I J R i) : (mws g K n I J R).set a (g.2.1 a, mE g K I' J' R' a) = mws g K n I' J' R' := by
  apply List.ext_getElem?
  intro j
  have hlen : (mws g K n I J R).length = n := by simp [mws]
  by_cases hj : j = a
  · subst hj
    rw [List.getElem?_set_self (by rw [hlen]; exact ha), mws_at ha]
  · rw [List.getElem?_set_ne (Ne.symm hj)]
    by_cases hn : j < n
    · rw [mws_at hn, mws_at hn, h j hj]
    · rw [List.getElem?_eq_none (by rw [hlen]; omega), List.getElem?_eq_none (by simp [mws]; omega)]
theorem mws_D {g : mG} {K : mK} {n : Nat} {I : mI} {J : mJ} {R : mR} {A : Nat → Prop} (hJ : mInj g n) (hA : ∀ i, i < n → A (g.2.1 i)) : va_D A (mws g K n I J R) := by
  have key : ∀ (k : Nat) (q : Nat × va_E), (mws g K n I J R)[k]? = some q → k < n ∧ q.1 = g.2.1 k := by
    intro k q hk
    have hl := (List.getElem?_eq_some_iff.mp hk).1
    have hn : k < n := by simpa [mws] using hl
    rw [mws_at hn] at hk
    cases hk
    exact ⟨hn, rfl⟩
  refine ⟨fun i j x y hi hj e => ?_, fun k q hk => ?_⟩
  · obtain ⟨h1, e1⟩ := key i x hi
    obtain ⟨h2, e2⟩ := key j y hj
    exact hJ i j h1 h2 (by rw [← e1, ← e2]; exact e)
  · obtain ⟨h1, e1⟩ := key k q hk
    rw [e1]
    exact hA k h1
theorem mA_in {g : mG} {n i : Nat} (h : i < n) : mA g n (g.2.1 i) := ⟨i, h, rfl⟩
/-! entries when a slot is written -/
theorem mE_upI {g : mG} {K : mK} {I : mI} {J : mJ} {R : mR} {a k i : Nat} {x : Int32} (h : i ≠ a) : mE g K (mup I a k x) J R i = mE g K I J R i := by
  have e : mup I a k x i = I i := mup_row I k x h
  unfold mE mFs
  rw [e]
theorem mE_upJ {g : mG} {K : mK} {I : mI} {J : mJ} {R : mR} {a k i : Nat} {x : Int64} (h : i ≠ a) : mE g K I (mup J a k x) R i = mE g K I J R i := by
  have e : mup J a k x i = J i := mup_row J k x h
  unfold mE
  rw [e]
theorem mE_upR {g : mG} {K : mK} {I : mI} {J : mJ} {R : mR} {a k i : Nat} {x : Option Nat} (h : i ≠ a) : mE g K I J (mup R a k x) i = mE g K I J R i := by
  have e : mup R a k x i = R i := mup_row R k x h
  unfold mE mFs
  rw [e]
theorem mFs_at {g : mG} {I : mI} {R : mR} {ci a k : Nat} (h : k < mNF ci) : (mFs g I R ci a)[k]? = some (if mIR ci k = true then va_rf ((R a k).map g.2.1) else .int (I a k)) := by
  simp [mFs, List.getElem?_map, List.getElem?_range h]
theorem mFs_len {g : mG} {I : mI} {R : mR} {ci a : Nat} : (mFs g I R ci a).length = mNF ci := by simp [mFs]
theorem mFs_setI {g : mG} {I : mI} {R : mR} {ci a k : Nat} {x : Int32} (h : k < mNF ci) (hr : mIR ci k = false) : (mFs g I R ci a).set k (.int x) = mFs g (mup I a k x) R ci a := by
  apply List.ext_getElem?
  intro j
  by_cases hj : j = k
  · subst hj
    rw [List.getElem?_set_self (by rw [mFs_len]; exact h), mFs_at h, mup_eq]
    simp [hr]
  · rw [List.getElem?_set_ne (Ne.symm hj)]
    by_cases hn : j < mNF ci
    · rw [mFs_at hn, mFs_at hn, mup_ne _ _ (fun q => hj q.2)]
    · rw [List.getElem?_eq_none (by rw [mFs_len]; omega), List.getElem?_eq_none (by rw [mFs_len]; omega)]
theorem mFs_setR {g : mG} {I : mI} {R : mR} {ci a k : Nat} {x : Option Nat} (h : k < mNF ci) (hr : mIR ci k = true) : (mFs g I R ci a).set k (va_rf (x.map g.2.1)) = mFs g I (mup R a k x) ci a := by
  apply List.ext_getElem?
  intro j
  by_cases hj : j = k
  · subst hj
    rw [List.getElem?_set_self (by rw [mFs_len]; exact h), mFs_at h, mup_eq]
    simp [hr]
  · rw [List.getElem?_set_ne (Ne.symm hj)]
    by_cases hn : j < mNF ci
    · rw [mFs_at hn, mFs_at hn, mup_ne _ _ (fun q => hj q.2)]
    · rw [List.getElem?_eq_none (by rw [mFs_len]; omega), List.getElem?_eq_none (by rw [mFs_len]; omega)]
theorem mE0 {g : mG} {K : mK} {I : mI} {J : mJ} {R : mR} {a ci : Nat} (h : K a = (0, ci)) : mE g K I J R a = .inr (ci, mFs g I R ci a) := by simp [mE, h]
theorem mE1 {g : mG} {K : mK} {I : mI} {J : mJ} {R : mR} {a : Nat} (h : (K a).1 = 1) : mE g K I J R a = .inl (g.2.2.1 1, (K a).2, .inl (I a)) := by simp [mE, h]
theorem mE2 {g : mG} {K : mK} {I : mI} {J : mJ} {R : mR} {a : Nat} (h : (K a).1 = 2) : mE g K I J R a = .inl (g.2.2.1 2, (K a).2, .inl (I a)) := by simp [mE, h]
theorem mE3 {g : mG} {K : mK} {I : mI} {J : mJ} {R : mR} {a : Nat} (h : (K a).1 = 3) : mE g K I J R a = .inl (g.2.2.1 3, (K a).2, .inl (I a)) := by simp [mE, h]
theorem mE4 {g : mG} {K : mK} {I : mI} {J : mJ} {R : mR} {a : Nat} (h : (K a).1 = 4) : mE g K I J R a = .inl (g.2.2.1 4, (K a).2, .inr (.inl (J a))) := by simp [mE, h]
theorem mE5 {g : mG} {K : mK} {I : mI} {J : mJ} {R : mR} {a : Nat} (h : (K a).1 = 5) : mE g K I J R a = .inl (g.2.2.1 5, (K a).2, .inr (.inr (.inr (.inr (fun j => (R a j).map g.2.1))))) := by simp [mE, h]
theorem mE6 {g : mG} {K : mK} {I : mI} {J : mJ} {R : mR} {a : Nat} (h : (K a).1 = 6) : mE g K I J R a = .inl (g.2.2.1 6, (K a).2, .inr (.inr (.inr (.inr (fun j => (R a j).map g.2.1))))) := by simp [mE, h]
theorem mE7 {g : mG} {K : mK} {I : mI} {J : mJ} {R : mR} {a : Nat} (h : (K a).1 = 7) : mE g K I J R a = .inl (g.2.2.1 7, (K a).2, .inr (.inr (.inr (.inr (fun j => (R a j).map g.2.1))))) := by simp [mE, h]
theorem mup_self {I : mI} {a k : Nat} {x : Int32} : mup I a k x a = upd (I a) k x := by
  funext j
  simp [mup, upd]
theorem mup_selfJ {J : mJ} {a k : Nat} {x : Int64} : mup J a k x a = vp_updL (J a) k x := by
  funext j
  simp [mup, vp_updL]
/-! ===== the words: all good words of the tables, for every method the same ===== -/
def mT : List Cond := lw_tbl.filter goodWord
def mWs (y : MethodName) (cc : ByteArray) (mL : Nat) (ret : Option FieldType) : List Cond := Cond.code y cc mL ret :: mT
theorem mT_in {w : Cond} (h : w ∈ tables_1) (hg : goodWord w = true) : w ∈ mT := List.mem_filter.mpr ⟨List.mem_append_right _ h, hg⟩
theorem mT_sel {w : Cond} (h : w ∈ k2_sels lw_privs) (hg : goodWord w = true) : w ∈ mT := List.mem_filter.mpr ⟨List.mem_append_left _ h, hg⟩
theorem mT_at {w : Cond} (i : Nat) (h : tables_1[i]? = some w) (hg : goodWord w = true) : w ∈ mT := mT_in (List.mem_of_getElem? h) hg
theorem mT_sat {w : Cond} (i : Nat) (h : (k2_sels lw_privs)[i]? = some w) (hg : goodWord w = true) : w ∈ mT := mT_sel (List.mem_of_getElem? h) hg
theorem mT_good {ws : List Cond} (h : ∀ w ∈ ws, w ∈ mT) : GoodIn mT ws := fun w hw => ⟨h w hw, good_of_word (List.mem_filter.mp (h w hw)).2⟩
theorem mWs_in {y : MethodName} {cc : ByteArray} {mL : Nat} {ret : Option FieldType} (h : Cond.code y cc mL ret ∈ mT) : ∀ w ∈ mWs y cc mL ret, w ∈ mT := fun w hw => (List.mem_cons.mp hw).elim (fun e => e ▸ h) id
def mSk : Nat → Nat × String
  | 0 => (43, "tooth")
  | 1 => (86, "is")
  | 2 => (56, "mark")
  | 3 => (60, "tissue")
  | 4 => (64, "parent")
  | 5 => (73, "need")
  | 6 => (75, "margin")
  | _ => (77, "seals")
def mSl : List Nat := [5, 2, 4, 6, 6, 4, 6, 5]
def mSb : List (List Int32) := [[116, 111, 111, 116, 104], [105, 115], [109, 97, 114, 107], [116, 105, 115, 115, 117, 101], [112, 97, 114, 101, 110, 116], [110, 101, 101, 100], [109, 97, 114, 103, 105, 110], [115, 101, 97, 108, 115]]
def mNs : List (String × Nat) := [(RX1, 54), (RX3, 47), (RX5, 105)]
/-- what the worlds stand in: the nest's links, the text constants, String's own flag -/
def mZ (g : mG) (A : Nat → Prop) (U : State) (H : Heap) : Prop := (∀ q ∈ mNs, va_Nw (.methodLinkNest q.1 q.2 yX8_within "NamedAgain") U) ∧ (∀ i, i < 8 → vk_R RX5 (mSk i).1 (mSk i).2 (g.2.2.2.1 i) U) ∧ vk_S 8 mSl mSb g.2.2.2.1 g.2.2.2.2 A U H ∧ va_Z "java/lang/String" "COMPACT_STRINGS" "Z" (.int 1) A U H
theorem mZ_blind {g : mG} {A : Nat → Prop} {U U' : State} (hv : U'.vm = U.vm) (h : mZ g A U U.heap) : mZ g A U' U.heap := by
  obtain ⟨h1, h2, h3, h4⟩ := h
  have ha : U.vm.Alike U'.vm := by rw [hv]; exact Vm.Alike.refl _
  exact ⟨fun q hq => va_Nw.same rfl hv.symm (h1 q hq), fun i hi => vk_R.same hv (h2 i hi), vk_S.moved ha h3, va_Z.moved ha h4⟩
theorem mZ_go {g : mG} {A : Nat → Prop} {s U : State} {H : Heap} (h : mZ g A s s.heap) (hW : s.WarmedH U.vm) (hH : U.heap = H) (hS : ∀ q : Nat, q < s.heap.size → ¬ A q → H[q]? = s.heap[q]?) : mZ g A U U.heap := by
  obtain ⟨h1, h2, h3, h4⟩ := h
  rw [hH]
  exact ⟨fun q hq => va_Nw.warmM hW (h1 q hq), fun i hi => vk_R.warm hW (h2 i hi), vk_S.moved hW.alike (h3.kept hS), va_Z.moved hW.alike (h4.kept hS)⟩
/-! ===== contracts: no cell is made ===== -/
def mB (g : mG) (K : mK) (n : Nat) (I : mI) (J : mJ) (R : mR) (U : State) : Prop := va_P g.1 vwCl (mws g K n I J R) U.heap ∧ va_K g.1 vwCl (mTys g) U ∧ mZ g (mA g n) U U.heap
def mQ (g : mG) (K : mK) (n : Nat) (rv : Option Value) (I : mI) (J : mJ) (R : mR) : Array Value → State → Outcome → State → Prop := fun _ st oc t => oc = .returned rv ∧ va_P g.1 vwCl (mws g K n I J R) t.heap ∧ va_F (mA g n) st t
def mHp (g : mG) (K : mK) (n : Nat) (s : State) (I : mI) (J : mJ) (R : mR) (H : Heap) (locs : List Loc) : Prop := va_P g.1 vwCl (mws g K n I J R) H ∧ va_S (mA g n) s.heap H locs
def mFix (p : Program) (m : MethodId) (c : Code) (cc : ByteArray) (nL : Nat) (s : State) (args : Array Value) (own : String) (g : mG) (K : mK) (n : Nat) : Prop := CallFix p m c cc nL s args mT own ∧ va_K g.1 vwCl (mTys g) s ∧ mInj g n ∧ mOk K n ∧ mZ g (mA g n) s s.heap
theorem mB_blind {g : mG} {K : mK} {n : Nat} {I : mI} {J : mJ} {R : mR} {av : List Value} : FrameBlind (va_Pc av (mB g K n I J R)) := fun a U gg mk q => by
  obtain ⟨q0, qP, qK, qZ⟩ := q
  exact ⟨q0, qP, va_K.moved (u := U) (U := U.calling gg mk a) (Vm.Alike.refl U.vm) qK, mZ_blind (U := U) (U' := U.calling gg mk a) rfl qZ⟩
/-- a method's contract out of its walk -/
theorem mStart {l : Launch} {g : mG} {K : mK} {n : Nat} {I I' : mI} {J J' : mJ} {R R' : mR} {y : MethodName} {cc : ByteArray} {mL : Nat} {ret : Option FieldType} {rm : Room} {av : List Value} {rv : Option Value} (own : String) (hJ : mInj g n) (hO : mOk K n) (hy : plainName y.cls = true) (ho : y.cls = own) (ha : (lg_sl av).length ≤ mL)
    (body : ∀ (p : Program) (e : Env) (s : State) (m : MethodId) (below : List Frame) (meth : Method) (c : Code) (ls : Array Slot) (Qm : State → Prop), Qm = MQ below (mQ g K n rv I' J' R') av.toArray s 0 0 (mA g n) → mFix p m c cc mL s av.toArray own g K n → meth.sig.returnType = ret → meth.locks = false → mHp g K n s I J R s.heap [] → lv_has ls mL (lv_args 0 av) →
      W p l e rm s m av.toArray below meth c s.heap [] 0 0 Qm (F0 m 0 ls [])) : Met l y (mWs y cc mL ret) rm (va_Pc av (mB g K n I J R)) (mQ g K n rv I' J' R') 0 0 (mA g n) := by
  refine Met.ofW (cc := cc) (maxL := mL) (ret := ret) hy rfl ?_
  intro p e s m args below meth c s₁ B hml hv
  obtain ⟨rfl, hP, hK, hZ⟩ := hv
  have hts := atoms_spec (ws := mWs y cc mL ret) B.pre
  have hown : s.vm.findClass y.cls = some m.cls := findClass_of_methodNamed B.named
  rw [lg_entry_eq]
  exact body p e s m below meth c _ _ rfl ⟨⟨B.exec, B.bytes, hml, ho ▸ hown, fun w hw => hts w (List.mem_cons_of_mem _ hw)⟩, hK, hJ, hO, hZ⟩ B.returns B.notSynchronized ⟨hP, va_S.rf⟩ (lv_entry av ha)
/-! ===== what f says ===== -/
theorem mBind {α β : Type} {o : Option α} {k : α → Option β} {v : β} (h : o.bind k = some v) : ∃ x, o = some x ∧ k x = some v := by
  cases o with
  | none => cases h
  | some x => exact ⟨x, rfl, h⟩
theorem mLet {α β : Type} {e : α} {k : α → Option β} {v : β} (h : (some e).bind k = some v) : ∃ x, x = e ∧ k x = some v := ⟨e, rfl, h⟩
theorem mChk {α : Type} {c : Prop} {i : Decidable c} {a : Option α} {v : α} (h : (@ite (Option α) c i a none) = some v) : c ∧ a = some v := by
  by_cases hc : c
  · rw [if_pos hc] at h
    exact ⟨hc, h⟩
  · rw [if_neg hc] at h
    cases h
theorem mT1 {α : Type} {c : Prop} {i : Decidable c} {a b v : α} (hc : c) (h : (@ite α c i a b) = v) : a = v := by rw [if_pos hc] at h; exact h
theorem mF1 {α : Type} {c : Prop} {i : Decidable c} {a b v : α} (hc : ¬ c) (h : (@ite α c i a b) = v) : b = v := by rw [if_neg hc] at h; exact h
/-- an int that is a boolean -/
def mb (b : Bool) : Int32 := if b = true then 1 else 0
theorem mb_nar (b : Bool) : narrow .boolean (.int (mb b)) = .int (mb b) := by cases b <;> rfl
/-- a reference is null or not -/
def mON {α : Type} (r : Option Nat) (a : α) (f : Nat → α) : α := match r with
  | none => a
  | some x => f x
/-- an index into an array of a kind -/
abbrev mIx (K : mK) (a q : Nat) (i : Int32) : Prop := (K a).1 = q ∧ 0 ≤ i.toInt ∧ i.toInt < ((K a).2 : Int)
theorem mIx_in {K : mK} {a q : Nat} {i : Int32} (h : mIx K a q i) : vp_in i (K a).2 := vp_in_iff.mpr h.2
/-! ===== rows ===== -/
def mFl (own : String) (index ci k : Nat) (C : String) (T : u_T) (N : Nat) : Prop := vwCl[ci]? = some (C, T, N) ∧ k < N ∧ mNF ci = N ∧ Cond.fieldLink own index (T k).1 (T k).2.1 (T k).2.2.1 ∈ mT ∧ ∀ w ∈ u_ws C T N, w ∈ mT
def mPu (own : String) (index ci k : Nat) (C : String) (T : u_T) (N : Nat) (ty0 : Nat → FieldType) (ty : FieldType) (fin : Bool) : Prop := mFl own index ci k C T N ∧ (∀ k, k < N → parseFieldDescriptor (T k).2.2.1 = some (ty0 k)) ∧ (∀ a, a < N → ∀ b, b < N → a ≠ b → (T a).2.1 ≠ (T b).2.1) ∧ (T k).2.2.2 = fin ∧ parseFieldDescriptor (T k).2.2.1 = some ty
section MROW
variable {p : Program} {l : Launch} {e : Env} {Rm : Room} {s : State} {m : MethodId} {args : Array Value} {below : List Frame} {meth : Method} {c : Code} {H : Heap} {locs : List Loc} {cells slots : Nat} {Q : State → Prop}
variable {cc : ByteArray} {pc : Nat} {ls : Array Slot} {rest : List Value} {own : String} {nL : Nat} {g : mG} {K : mK} {n : Nat} {I : mI} {J : mJ} {R : mR}
theorem mgi (B : mFix p m c cc nL s args own g K n) (hw : mHp g K n s I J R H locs) {index ci k N : Nat} {C : String} {T : u_T} (F : mFl own index ci k C T N) (hr : mIR ci k = false) {a : Nat} (ha : K a = (0, ci)) (hdg : decode cc pc = .ok (.getfield index, 3))
    (kk : W p l e Rm s m args below meth c H locs cells slots Q (F0 m (pc + 3) ls (.int (I a k) :: rest))) : W p l e Rm s m args below meth c H locs cells slots Q (F0 m pc ls (.ref (g.2.1 a) :: rest)) := by
  obtain ⟨S, hK, hJ, hO, hZ⟩ := B
  obtain ⟨f1, f2, f3, f4, f5⟩ := F
  have hn : a < n := hO a (by rw [ha]; exact (by decide : 0 < 8))
  have he := mws_at (g := g) (K := K) (I := I) (J := J) (R := R) hn
  rw [mE0 ha] at he
  refine va_get S.1 S.2.1 S.2.2.2.2 f5 S.2.2.2.1 hK hw.1 a he f1 k f2 (S.2.2.2.2 _ f4) (fun _ h => h) (v := .int (I a k)) ?_ hdg kk
  rw [mFs_at (by rw [f3]; exact f2)]
  simp [hr]
theorem mgr (B : mFix p m c cc nL s args own g K n) (hw : mHp g K n s I J R H locs) {index ci k N : Nat} {C : String} {T : u_T} (F : mFl own index ci k C T N) (hr : mIR ci k = true) {a x : Nat} (ha : K a = (0, ci)) (hx : R a k = some x) (hdg : decode cc pc = .ok (.getfield index, 3))
    (kk : W p l e Rm s m args below meth c H locs cells slots Q (F0 m (pc + 3) ls (.ref (g.2.1 x) :: rest))) : W p l e Rm s m args below meth c H locs cells slots Q (F0 m pc ls (.ref (g.2.1 a) :: rest)) := by
  obtain ⟨S, hK, hJ, hO, hZ⟩ := B
  obtain ⟨f1, f2, f3, f4, f5⟩ := F
  have hn : a < n := hO a (by rw [ha]; exact (by decide : 0 < 8))
  have he := mws_at (g := g) (K := K) (I := I) (J := J) (R := R) hn
  rw [mE0 ha] at he
  refine va_get S.1 S.2.1 S.2.2.2.2 f5 S.2.2.2.1 hK hw.1 a he f1 k f2 (S.2.2.2.2 _ f4) (fun _ h => h) (v := .ref (g.2.1 x)) ?_ hdg kk
  rw [mFs_at (by rw [f3]; exact f2), hx]
  simp [hr, va_rf]
theorem mpi (B : mFix p m c cc nL s args own g K n) (hw : mHp g K n s I J R H locs) {index ci k N : Nat} {C : String} {T : u_T} {ty0 : Nat → FieldType} (F : mPu own index ci k C T N ty0 .int false) (hr : mIR ci k = false) {a : Nat} (ha : K a = (0, ci)) {x : Int32} (hdg : decode cc pc = .ok (.putfield index, 3))
    (kk : ∀ (H1 : Heap) (locs1 : List Loc), mHp g K n s (mup I a k x) J R H1 locs1 → W p l e Rm s m args below meth c H1 locs1 cells slots Q (F0 m (pc + 3) ls rest)) : W p l e Rm s m args below meth c H locs cells slots Q (F0 m pc ls (.int x :: .ref (g.2.1 a) :: rest)) := by
  obtain ⟨S, hK, hJ, hO, hZ⟩ := B
  obtain ⟨⟨f1, f2, f3, f4, f5⟩, p1, p2, p3, p4⟩ := F
  have hn : a < n := hO a (by rw [ha]; exact (by decide : 0 < 8))
  have he := mws_at (g := g) (K := K) (I := I) (J := J) (R := R) hn
  rw [mE0 ha] at he
  have hkn : k < mNF ci := by rw [f3]; exact f2
  refine va_put S.1 S.2.1 S.2.2.2.2 f5 ty0 p1 p2 S.2.2.2.1 hK hw.1 (mws_D hJ (fun i hi => mA_in hi)) hw.2 a he f1 k f2 (S.2.2.2.2 _ f4) (fun _ h => h) p3 (v := .int x) p4 (vp_nar_int x) rfl (by rw [mFs_len]; exact hkn) hdg (fun H1 locs1 hP _ hS => kk H1 locs1 ⟨?_, hS⟩)
  rw [mFs_setI hkn hr, ← mE0 (J := J) ha, mws_set hn (fun i hi => mE_upI hi)] at hP
  exact hP
theorem mpr (B : mFix p m c cc nL s args own g K n) (hw : mHp g K n s I J R H locs) {index ci k N : Nat} {C : String} {T : u_T} {ty0 : Nat → FieldType} {ty : FieldType} (F : mPu own index ci k C T N ty0 ty false) (hr : mIR ci k = true) {a x : Nat} (ha : K a = (0, ci)) (hn1 : narrow ty (.ref (g.2.1 x)) = .ref (g.2.1 x)) (hn2 : fits ty (.ref (g.2.1 x)) = true) (hdg : decode cc pc = .ok (.putfield index, 3))
    (kk : ∀ (H1 : Heap) (locs1 : List Loc), mHp g K n s I J (mup R a k (some x)) H1 locs1 → W p l e Rm s m args below meth c H1 locs1 cells slots Q (F0 m (pc + 3) ls rest)) : W p l e Rm s m args below meth c H locs cells slots Q (F0 m pc ls (.ref (g.2.1 x) :: .ref (g.2.1 a) :: rest)) := by
  obtain ⟨S, hK, hJ, hO, hZ⟩ := B
  obtain ⟨⟨f1, f2, f3, f4, f5⟩, p1, p2, p3, p4⟩ := F
  have hn : a < n := hO a (by rw [ha]; exact (by decide : 0 < 8))
  have he := mws_at (g := g) (K := K) (I := I) (J := J) (R := R) hn
  rw [mE0 ha] at he
  have hkn : k < mNF ci := by rw [f3]; exact f2
  refine va_put S.1 S.2.1 S.2.2.2.2 f5 ty0 p1 p2 S.2.2.2.1 hK hw.1 (mws_D hJ (fun i hi => mA_in hi)) hw.2 a he f1 k f2 (S.2.2.2.2 _ f4) (fun _ h => h) p3 (v := .ref (g.2.1 x)) p4 hn1 hn2 (by rw [mFs_len]; exact hkn) hdg (fun H1 locs1 hP _ hS => kk H1 locs1 ⟨?_, hS⟩)
  rw [show (Value.ref (g.2.1 x)) = va_rf ((some x).map g.2.1) from rfl, mFs_setR hkn hr, ← mE0 (J := J) ha, mws_set hn (fun i hi => mE_upR hi)] at hP
  exact hP
theorem mld1 (B : mFix p m c cc nL s args own g K n) (hw : mHp g K n s I J R H locs) {a : Nat} {i : Int32} (ha : mIx K a 1 i) (hdg : decode cc pc = .ok (.iaload, 1))
    (kk : W p l e Rm s m args below meth c H locs cells slots Q (F0 m (pc + 1) ls (.int (I a i.toNatClampNeg) :: rest))) : W p l e Rm s m args below meth c H locs cells slots Q (F0 m pc ls (.int i :: .ref (g.2.1 a) :: rest)) := by
  obtain ⟨S, hK, hJ, hO, hZ⟩ := B
  have hn : a < n := hO a (by rw [ha.1]; decide)
  have he := mws_at (g := g) (K := K) (I := I) (J := J) (R := R) hn
  rw [mE1 ha.1] at he
  exact va_iald S.1 S.2.1 hK hw.1 a 0 he rfl (mIx_in ha) hdg kk
theorem mld2 (B : mFix p m c cc nL s args own g K n) (hw : mHp g K n s I J R H locs) {a : Nat} {i : Int32} (ha : mIx K a 2 i) (hdg : decode cc pc = .ok (.baload, 1))
    (kk : W p l e Rm s m args below meth c H locs cells slots Q (F0 m (pc + 1) ls (.int (I a i.toNatClampNeg) :: rest))) : W p l e Rm s m args below meth c H locs cells slots Q (F0 m pc ls (.int i :: .ref (g.2.1 a) :: rest)) := by
  obtain ⟨S, hK, hJ, hO, hZ⟩ := B
  have hn : a < n := hO a (by rw [ha.1]; decide)
  have he := mws_at (g := g) (K := K) (I := I) (J := J) (R := R) hn
  rw [mE2 ha.1] at he
  exact va_bald S.1 S.2.1 hK hw.1 a 1 he rfl (mIx_in ha) hdg kk
theorem mld3 (B : mFix p m c cc nL s args own g K n) (hw : mHp g K n s I J R H locs) {a : Nat} {i : Int32} (ha : mIx K a 3 i) (hdg : decode cc pc = .ok (.baload, 1))
    (kk : W p l e Rm s m args below meth c H locs cells slots Q (F0 m (pc + 1) ls (.int (I a i.toNatClampNeg) :: rest))) : W p l e Rm s m args below meth c H locs cells slots Q (F0 m pc ls (.int i :: .ref (g.2.1 a) :: rest)) := by
  obtain ⟨S, hK, hJ, hO, hZ⟩ := B
  have hn : a < n := hO a (by rw [ha.1]; decide)
  have he := mws_at (g := g) (K := K) (I := I) (J := J) (R := R) hn
  rw [mE3 ha.1] at he
  exact va_zald S.1 S.2.1 hK hw.1 a 2 he rfl (mIx_in ha) hdg kk
theorem mld4 (B : mFix p m c cc nL s args own g K n) (hw : mHp g K n s I J R H locs) {a : Nat} {i : Int32} (ha : mIx K a 4 i) (hdg : decode cc pc = .ok (.laload, 1))
    (kk : W p l e Rm s m args below meth c H locs cells slots Q (F0 m (pc + 1) ls (.long (J a i.toNatClampNeg) :: rest))) : W p l e Rm s m args below meth c H locs cells slots Q (F0 m pc ls (.int i :: .ref (g.2.1 a) :: rest)) := by
  obtain ⟨S, hK, hJ, hO, hZ⟩ := B
  have hn : a < n := hO a (by rw [ha.1]; decide)
  have he := mws_at (g := g) (K := K) (I := I) (J := J) (R := R) hn
  rw [mE4 ha.1] at he
  exact va_lald S.1 S.2.1 hK hw.1 a 3 he rfl (mIx_in ha) hdg kk
theorem mld5 (B : mFix p m c cc nL s args own g K n) (hw : mHp g K n s I J R H locs) {a x : Nat} {i : Int32} (ha : mIx K a 5 i) (hx : R a i.toNatClampNeg = some x) (hdg : decode cc pc = .ok (.aaload, 1))
    (kk : W p l e Rm s m args below meth c H locs cells slots Q (F0 m (pc + 1) ls (.ref (g.2.1 x) :: rest))) : W p l e Rm s m args below meth c H locs cells slots Q (F0 m pc ls (.int i :: .ref (g.2.1 a) :: rest)) := by
  obtain ⟨S, hK, hJ, hO, hZ⟩ := B
  have hn : a < n := hO a (by rw [ha.1]; decide)
  have he := mws_at (g := g) (K := K) (I := I) (J := J) (R := R) hn
  rw [mE5 ha.1] at he
  refine va_aldq S.1 S.2.1 hK hw.1 a 4 he rfl (mIx_in ha) hdg ?_
  rw [hx]
  exact kk
theorem mldA (B : mFix p m c cc nL s args own g K n) (hw : mHp g K n s I J R H locs) {q : Nat} {ty : FieldType} (t0 : Nat) (hq : q < 8) (ht : (mTys g)[t0]? = some (g.2.2.1 q, .array ty)) (hE : ∀ {a : Nat}, (K a).1 = q → mE g K I J R a = .inl (g.2.2.1 q, (K a).2, .inr (.inr (.inr (.inr (fun j => (R a j).map g.2.1)))))) {a x : Nat} {i : Int32} (ha : mIx K a q i) (hx : R a i.toNatClampNeg = some x) (hdg : decode cc pc = .ok (.aaload, 1))
    (kk : W p l e Rm s m args below meth c H locs cells slots Q (F0 m (pc + 1) ls (.ref (g.2.1 x) :: rest))) : W p l e Rm s m args below meth c H locs cells slots Q (F0 m pc ls (.int i :: .ref (g.2.1 a) :: rest)) := by
  obtain ⟨S, hK, hJ, hO, hZ⟩ := B
  have hn : a < n := hO a (by rw [ha.1]; exact hq)
  have he := mws_at (g := g) (K := K) (I := I) (J := J) (R := R) hn
  rw [hE ha.1] at he
  have hin := mIx_in ha
  have hlt : i.toNatClampNeg < (K a).2 := Nat.not_le.mp fun q => hin (Or.inr q)
  refine W.aald (v := va_rf ((R a i.toNatClampNeg).map g.2.1)) (ty := .array ty) S.1 S.2.1 (hw.1 a _ he) ((hK.2 t0 _ ht).1 (K a).2 (fun j => va_rf ((R a j).map g.2.1))) rfl (fun q => by cases q) (by show ¬ (i < 0 ∨ (arrV _ _ _).slots.size ≤ _); rw [arrV_size]; exact hin) (by show (arrV _ _ _).slots[_]? = _; rw [arrV_read _ _ hlt]) rfl rfl hdg ?_
  rw [hx]
  exact kk
theorem mld6 (B : mFix p m c cc nL s args own g K n) (hw : mHp g K n s I J R H locs) {a x : Nat} {i : Int32} (ha : mIx K a 6 i) (hx : R a i.toNatClampNeg = some x) (hdg : decode cc pc = .ok (.aaload, 1))
    (kk : W p l e Rm s m args below meth c H locs cells slots Q (F0 m (pc + 1) ls (.ref (g.2.1 x) :: rest))) : W p l e Rm s m args below meth c H locs cells slots Q (F0 m pc ls (.int i :: .ref (g.2.1 a) :: rest)) := mldA (ty := .int) B hw 5 (by decide) rfl (fun h => mE6 h) ha hx hdg kk
theorem mld7 (B : mFix p m c cc nL s args own g K n) (hw : mHp g K n s I J R H locs) {a x : Nat} {i : Int32} (ha : mIx K a 7 i) (hx : R a i.toNatClampNeg = some x) (hdg : decode cc pc = .ok (.aaload, 1))
    (kk : W p l e Rm s m args below meth c H locs cells slots Q (F0 m (pc + 1) ls (.ref (g.2.1 x) :: rest))) : W p l e Rm s m args below meth c H locs cells slots Q (F0 m pc ls (.int i :: .ref (g.2.1 a) :: rest)) := mldA (ty := .long) B hw 6 (by decide) rfl (fun h => mE7 h) ha hx hdg kk
theorem mst1 (B : mFix p m c cc nL s args own g K n) (hw : mHp g K n s I J R H locs) {a : Nat} {i x : Int32} (ha : mIx K a 1 i) (hdg : decode cc pc = .ok (.iastore, 1))
    (kk : ∀ (H1 : Heap) (locs1 : List Loc), mHp g K n s (mup I a i.toNatClampNeg x) J R H1 locs1 → W p l e Rm s m args below meth c H1 locs1 cells slots Q (F0 m (pc + 1) ls rest)) : W p l e Rm s m args below meth c H locs cells slots Q (F0 m pc ls (.int x :: .int i :: .ref (g.2.1 a) :: rest)) := by
  obtain ⟨S, hK, hJ, hO, hZ⟩ := B
  have hn : a < n := hO a (by rw [ha.1]; decide)
  have he := mws_at (g := g) (K := K) (I := I) (J := J) (R := R) hn
  rw [mE1 ha.1] at he
  refine va_iast S.1 S.2.1 hK hw.1 (mws_D hJ (fun i hi => mA_in hi)) hw.2 a 0 he rfl (mIx_in ha) hdg (fun H1 locs1 hP _ hS => kk H1 locs1 ⟨?_, hS⟩)
  rw [← mup_self, ← mE1 (J := J) (R := R) ha.1, mws_set hn (fun i hi => mE_upI hi)] at hP
  exact hP
theorem mst2 (B : mFix p m c cc nL s args own g K n) (hw : mHp g K n s I J R H locs) {a : Nat} {i x : Int32} (ha : mIx K a 2 i) (hdg : decode cc pc = .ok (.bastore, 1))
    (kk : ∀ (H1 : Heap) (locs1 : List Loc), mHp g K n s (mup I a i.toNatClampNeg x.toInt8.toInt32) J R H1 locs1 → W p l e Rm s m args below meth c H1 locs1 cells slots Q (F0 m (pc + 1) ls rest)) : W p l e Rm s m args below meth c H locs cells slots Q (F0 m pc ls (.int x :: .int i :: .ref (g.2.1 a) :: rest)) := by
  obtain ⟨S, hK, hJ, hO, hZ⟩ := B
  have hn : a < n := hO a (by rw [ha.1]; decide)
  have he := mws_at (g := g) (K := K) (I := I) (J := J) (R := R) hn
  rw [mE2 ha.1] at he
  refine va_bast S.1 S.2.1 hK hw.1 (mws_D hJ (fun i hi => mA_in hi)) hw.2 a 1 he rfl (mIx_in ha) hdg (fun H1 locs1 hP _ hS => kk H1 locs1 ⟨?_, hS⟩)
  rw [vp_nar_byte, ← mup_self, ← mE2 (J := J) (R := R) ha.1, mws_set hn (fun i hi => mE_upI hi)] at hP
  exact hP
theorem mst3 (B : mFix p m c cc nL s args own g K n) (hw : mHp g K n s I J R H locs) {a : Nat} {i : Int32} {x : Bool} (ha : mIx K a 3 i) (hdg : decode cc pc = .ok (.bastore, 1))
    (kk : ∀ (H1 : Heap) (locs1 : List Loc), mHp g K n s (mup I a i.toNatClampNeg (mb x)) J R H1 locs1 → W p l e Rm s m args below meth c H1 locs1 cells slots Q (F0 m (pc + 1) ls rest)) : W p l e Rm s m args below meth c H locs cells slots Q (F0 m pc ls (.int (mb x) :: .int i :: .ref (g.2.1 a) :: rest)) := by
  obtain ⟨S, hK, hJ, hO, hZ⟩ := B
  have hn : a < n := hO a (by rw [ha.1]; decide)
  have he := mws_at (g := g) (K := K) (I := I) (J := J) (R := R) hn
  rw [mE3 ha.1] at he
  refine va_zast S.1 S.2.1 hK hw.1 (mws_D hJ (fun i hi => mA_in hi)) hw.2 a 2 he rfl (mIx_in ha) hdg (fun H1 locs1 hP _ hS => kk H1 locs1 ⟨?_, hS⟩)
  rw [show vp_nar .boolean (mb x) = mb x by unfold vp_nar; rw [mb_nar], ← mup_self, ← mE3 (J := J) (R := R) ha.1, mws_set hn (fun i hi => mE_upI hi)] at hP
  exact hP
theorem mst4 (B : mFix p m c cc nL s args own g K n) (hw : mHp g K n s I J R H locs) {a : Nat} {i : Int32} {x : Int64} (ha : mIx K a 4 i) (hdg : decode cc pc = .ok (.lastore, 1))
    (kk : ∀ (H1 : Heap) (locs1 : List Loc), mHp g K n s I (mup J a i.toNatClampNeg x) R H1 locs1 → W p l e Rm s m args below meth c H1 locs1 cells slots Q (F0 m (pc + 1) ls rest)) : W p l e Rm s m args below meth c H locs cells slots Q (F0 m pc ls (.long x :: .int i :: .ref (g.2.1 a) :: rest)) := by
  obtain ⟨S, hK, hJ, hO, hZ⟩ := B
  have hn : a < n := hO a (by rw [ha.1]; decide)
  have he := mws_at (g := g) (K := K) (I := I) (J := J) (R := R) hn
  rw [mE4 ha.1] at he
  refine va_last S.1 S.2.1 hK hw.1 (mws_D hJ (fun i hi => mA_in hi)) hw.2 a 3 he rfl (mIx_in ha) hdg (fun H1 locs1 hP _ hS => kk H1 locs1 ⟨?_, hS⟩)
  rw [← mup_selfJ, ← mE4 (I := I) (R := R) ha.1, mws_set hn (fun i hi => mE_upJ hi)] at hP
  exact hP
theorem mlen (B : mFix p m c cc nL s args own g K n) (hw : mHp g K n s I J R H locs) {a q : Nat} {x : vp_A} {ty : FieldType} (t0 : Nat) (hq : q < 8) (hl : x.1 = (K a).2) (hE : mE g K I J R a = .inl (g.2.2.1 q, x)) (ht : (mTys g)[t0]? = some (g.2.2.1 q, ty)) (ha : (K a).1 = q) (hdg : decode cc pc = .ok (.arraylength, 1))
    (kk : W p l e Rm s m args below meth c H locs cells slots Q (F0 m (pc + 1) ls (.int (nI (K a).2) :: rest))) : W p l e Rm s m args below meth c H locs cells slots Q (F0 m pc ls (.ref (g.2.1 a) :: rest)) := by
  obtain ⟨S, hK, hJ, hO, hZ⟩ := B
  have hn : a < n := hO a (by rw [ha]; exact hq)
  have he := mws_at (g := g) (K := K) (I := I) (J := J) (R := R) hn
  rw [hE] at he
  exact va_alen S.1 S.2.1 hK hw.1 a t0 he ht (by rw [hl]; rfl) hdg kk
theorem mlen1 (B : mFix p m c cc nL s args own g K n) (hw : mHp g K n s I J R H locs) {a : Nat} (ha : (K a).1 = 1) (hdg : decode cc pc = .ok (.arraylength, 1))
    (kk : W p l e Rm s m args below meth c H locs cells slots Q (F0 m (pc + 1) ls (.int (nI (K a).2) :: rest))) : W p l e Rm s m args below meth c H locs cells slots Q (F0 m pc ls (.ref (g.2.1 a) :: rest)) := mlen B hw 0 (by decide) rfl (mE1 ha) rfl ha hdg kk
theorem mlen2 (B : mFix p m c cc nL s args own g K n) (hw : mHp g K n s I J R H locs) {a : Nat} (ha : (K a).1 = 2) (hdg : decode cc pc = .ok (.arraylength, 1))
    (kk : W p l e Rm s m args below meth c H locs cells slots Q (F0 m (pc + 1) ls (.int (nI (K a).2) :: rest))) : W p l e Rm s m args below meth c H locs cells slots Q (F0 m pc ls (.ref (g.2.1 a) :: rest)) := mlen B hw 1 (by decide) rfl (mE2 ha) rfl ha hdg kk
/-- behind a call that makes no cell -/
theorem mgo {I' : mI} {J' : mJ} {R' : mR} {rv : Option Value} {st0 : List Value} {a : Array Value} (hw : mHp g K n s I J R H locs) (hr : va_Run p l e Rm s m args below meth c H locs cells slots 0 0 (F0 m pc ls st0) rest (mQ g K n rv I' J' R' a) (mA g n))
    (kk : ∀ (H1 : Heap) (locs1 : List Loc), mHp g K n s I' J' R' H1 locs1 → W p l e Rm s m args below meth c H1 locs1 cells slots Q (F0 m (pc + 3) ls (rv.toList ++ rest))) : W p l e Rm s m args below meth c H locs cells slots Q (F0 m pc ls st0) := by
  intro T hT X
  obtain ⟨v, st₀, t, T', L, h0, X', hL, e1, e2, ⟨hv, hP', hz, hk⟩, st⟩ := hr T hT X
  cases hv
  rw [h0] at hz hk
  obtain ⟨-, hS⟩ := hw
  obtain ⟨t2, a1, b1⟩ := kk T'.heap (locs ++ L) ⟨by rw [e1]; exact hP', Nat.le_trans hS.1 (by rw [e1]; exact hz), fun q h1 h2 => by rw [e1, hk q (Nat.lt_of_lt_of_le h1 hS.1) h2]; exact hS.2.1 q h1 h2, fun q hq => by
      rcases List.mem_append.mp hq with h | h
      · exact hS.2.2 q h
      · exact hL q h⟩ T' rfl X'
  exact ⟨t2, st t2 a1, b1⟩
/-- the links of a call: what the tables say -/
def mCV (own : String) (index : Nat) (C : String) (y : MethodName) (cc' : ByteArray) (mL : Nat) (ret : Option FieldType) (k : Nat) : Prop := Cond.methodLink own index y ∈ mT ∧ Cond.instanceMethod y ∈ mT ∧ Cond.selects C y y ∈ mT ∧ Cond.initialized C ∈ mT ∧ Cond.code y cc' mL ret ∈ mT ∧ (y.cls = C ∧ y.cls ≠ "java/lang/invoke/MethodHandle" ∧ y.cls ≠ "java/lang/invoke/VarHandle" ∧ (parseMethodDescriptor y.desc).map (fun d => d.parameters.length) = some k)
def mCS (own : String) (index : Nat) (y : MethodName) (cc' : ByteArray) (mL : Nat) (ret : Option FieldType) (k : Nat) : Prop := Cond.methodLink own index y ∈ mT ∧ Cond.static y ∈ mT ∧ Cond.initialized y.cls ∈ mT ∧ Cond.code y cc' mL ret ∈ mT ∧ (y.cls ≠ "java/lang/invoke/MethodHandle" ∧ y.cls ≠ "java/lang/invoke/VarHandle" ∧ (parseMethodDescriptor y.desc).map (fun d => d.parameters.length) = some k)
def mCN (own : String) (index : Nat) (cc' : ByteArray) (mL : Nat) (ret : Option FieldType) (k : Nat) : Prop := (own, index) ∈ mNs ∧ Cond.static yX8_within ∈ mT ∧ Cond.initialized yX8_within.cls ∈ mT ∧ Cond.code yX8_within cc' mL ret ∈ mT ∧ (yX8_within.cls ≠ "java/lang/invoke/MethodHandle" ∧ yX8_within.cls ≠ "java/lang/invoke/VarHandle" ∧ (parseMethodDescriptor yX8_within.desc).map (fun d => d.parameters.length) = some k)
theorem mcallV {I' : mI} {J' : mJ} {R' : mR} {rv : Option Value} {y : MethodName} {cc' : ByteArray} {mL index ci : Nat} {ret : Option FieldType} {rm : Room} {C : String} {T : u_T} {N a : Nat} (B : mFix p m c cc nL s args own g K n) (hw : mHp g K n s I J R H locs) (As : List Value) {st0 : List Value} (V : mCV own index C y cc' mL ret As.length) (hc : vwCl[ci]? = some (C, T, N)) (ha : K a = (0, ci))
    (hM : Met l y (mWs y cc' mL ret) rm (va_Pc (.ref (g.2.1 a) :: As) (mB g K n I J R)) (mQ g K n rv I' J' R') 0 0 (mA g n)) (hrm : rm.cells = 0 ∧ rm.slots = 0 ∧ rm.frames + 1 ≤ Rm.frames ∧ 8 + (mL + 11) + rm.locals ≤ Rm.locals)
    (hst : st0 = As.reverse ++ .ref (g.2.1 a) :: rest) (hls : ls.size = nL) (hrest : (rest.map fun v => v.category).sum ≤ 8) (hcs : cells ≤ Rm.cells ∧ slots ≤ Rm.slots) (hdg : decode cc pc = .ok (.invokevirtual index, 3))
    (kk : ∀ (H1 : Heap) (locs1 : List Loc), mHp g K n s I' J' R' H1 locs1 → W p l e Rm s m args below meth c H1 locs1 cells slots Q (F0 m (pc + 3) ls (rv.toList ++ rest))) : W p l e Rm s m args below meth c H locs cells slots Q (F0 m pc ls st0) := by
  obtain ⟨S, hK, hJ, hO, hZ⟩ := B
  obtain ⟨v1, v2, v3, v4, v5, v6⟩ := V
  have hn : a < n := hO a (by rw [ha]; exact (by decide : 0 < 8))
  have he := mws_at (g := g) (K := K) (I := I) (J := J) (R := R) hn
  rw [mE0 ha] at he
  have hG : GoodIn mT (wsV own index C y (mWs y cc' mL ret)) := mT_good (fun w hw => by
    rcases List.mem_append.mp hw with h | h
    · simp only [List.mem_cons, List.not_mem_nil, or_false] at h
      rcases h with rfl | rfl | rfl | rfl <;> assumption
    · exact mWs_in v5 w h)
  refine mgo hw (va_runV (As := As) (rest := rest) (b := g.2.1 a) S hM (cwV (n := As.length) S.2.2.2.2 hG rfl hrm.1 hrm.2.1 v6 hrm.2.2) ⟨mB_blind, va_recv hK hw.1 hc he, fun U hU hW => ⟨rfl, by rw [hU]; exact hw.1, va_K.moved hW.alike hK, mZ_go hZ hW hU hw.2.2.1⟩⟩ rfl rfl hls hst (lv_room hrest) hdg hcs) kk
theorem mcallS {I' : mI} {J' : mJ} {R' : mR} {rv : Option Value} {y : MethodName} {cc' : ByteArray} {mL index : Nat} {ret : Option FieldType} {rm : Room} (B : mFix p m c cc nL s args own g K n) (hw : mHp g K n s I J R H locs) (As : List Value) {st0 : List Value} (V : mCS own index y cc' mL ret As.length)
    (hM : Met l y (mWs y cc' mL ret) rm (va_Pc As (mB g K n I J R)) (mQ g K n rv I' J' R') 0 0 (mA g n)) (hrm : rm.cells = 0 ∧ rm.slots = 0 ∧ rm.frames + 1 ≤ Rm.frames ∧ 8 + (mL + 11) + rm.locals ≤ Rm.locals)
    (hst : st0 = As.reverse ++ rest) (hls : ls.size = nL) (hrest : (rest.map fun v => v.category).sum ≤ 8) (hcs : cells ≤ Rm.cells ∧ slots ≤ Rm.slots) (hdg : decode cc pc = .ok (.invokestatic index, 3))
    (kk : ∀ (H1 : Heap) (locs1 : List Loc), mHp g K n s I' J' R' H1 locs1 → W p l e Rm s m args below meth c H1 locs1 cells slots Q (F0 m (pc + 3) ls (rv.toList ++ rest))) : W p l e Rm s m args below meth c H locs cells slots Q (F0 m pc ls st0) := by
  obtain ⟨S, hK, hJ, hO, hZ⟩ := B
  obtain ⟨v1, v2, v3, v5, v6⟩ := V
  have hG : GoodIn mT (va_wsS own index y (mWs y cc' mL ret)) := mT_good (fun w hw => by
    rcases List.mem_append.mp hw with h | h
    · simp only [List.mem_cons, List.not_mem_nil, or_false] at h
      rcases h with rfl | rfl | rfl <;> assumption
    · exact mWs_in v5 w h)
  refine mgo hw (va_runS (As := As) (rest := rest) S hM (va_cwS (n := As.length) S.2.2.2.2 hG rfl hrm.1 hrm.2.1 v6 hrm.2.2) ⟨mB_blind, fun U hU hW => ⟨rfl, by rw [hU]; exact hw.1, va_K.moved hW.alike hK, mZ_go hZ hW hU hw.2.2.1⟩⟩ rfl rfl hls hst (lv_room hrest) hdg hcs) kk
theorem mcallN {I' : mI} {J' : mJ} {R' : mR} {rv : Option Value} {cc' : ByteArray} {mL index : Nat} {ret : Option FieldType} {rm : Room} (B : mFix p m c cc nL s args own g K n) (hw : mHp g K n s I J R H locs) (As : List Value) {st0 : List Value} (V : mCN own index cc' mL ret As.length)
    (hM : Met l yX8_within (mWs yX8_within cc' mL ret) rm (va_Pc As (mB g K n I J R)) (mQ g K n rv I' J' R') 0 0 (mA g n)) (hrm : rm.cells = 0 ∧ rm.slots = 0 ∧ rm.frames + 1 ≤ Rm.frames ∧ 8 + (mL + 11) + rm.locals ≤ Rm.locals)
    (hst : st0 = As.reverse ++ rest) (hls : ls.size = nL) (hrest : (rest.map fun v => v.category).sum ≤ 8) (hcs : cells ≤ Rm.cells ∧ slots ≤ Rm.slots) (hdg : decode cc pc = .ok (.invokestatic index, 3))
    (kk : ∀ (H1 : Heap) (locs1 : List Loc), mHp g K n s I' J' R' H1 locs1 → W p l e Rm s m args below meth c H1 locs1 cells slots Q (F0 m (pc + 3) ls (rv.toList ++ rest))) : W p l e Rm s m args below meth c H locs cells slots Q (F0 m pc ls st0) := by
  obtain ⟨S, hK, hJ, hO, hZ⟩ := B
  obtain ⟨v1, v2, v3, v5, v6⟩ := V
  refine mgo hw (va_runSN (As := As) (rest := rest) S hM ⟨va_cnB (n := As.length) S.2.2.2.2 (mT_good (mWs_in v5)) rfl hrm.1 hrm.2.1 (hZ.1 _ v1) (S.2.2.2.2 _ v3) v6 hrm.2.2, S.2.2.2.2 _ v2, trivial⟩ ⟨mB_blind, fun U hU hW => ⟨rfl, by rw [hU]; exact hw.1, va_K.moved hW.alike hK, mZ_go hZ hW hU hw.2.2.1⟩⟩ rfl rfl hls hst (lv_room hrest) hdg hcs) kk
/-- the ends -/
theorem mri {I' : mI} {J' : mJ} {R' : mR} {v : Int32} {av : Array Value} (hx : p.tables.exec = Jvm.exec) (hb : c.code = cc) (hr : meth.sig.returnType = some .int) (hlk : meth.locks = false) (hw : mHp g K n s I' J' R' H locs) (hdg : decode cc pc = .ok (.ireturn, 1)) : W p l e Rm s m av below meth c H locs cells slots (MQ below (mQ g K n (some (.int v)) I' J' R') av s cells slots (mA g n)) (F0 m pc ls [.int v]) :=
  W.iret hx hb hr (fun t ht _ => ⟨rfl, by rw [ht]; exact hw.1, hw.2.F ht⟩) hw.2.2.2 hdg
theorem mrz {I' : mI} {J' : mJ} {R' : mR} {v : Bool} {av : Array Value} (hx : p.tables.exec = Jvm.exec) (hb : c.code = cc) (hr : meth.sig.returnType = some .boolean) (hlk : meth.locks = false) (hw : mHp g K n s I' J' R' H locs) (hdg : decode cc pc = .ok (.ireturn, 1)) : W p l e Rm s m av below meth c H locs cells slots (MQ below (mQ g K n (some (.int (mb v))) I' J' R') av s cells slots (mA g n)) (F0 m pc ls [.int (mb v)]) :=
  W.zret hx hb hr (mb_nar v) (fun t ht _ => ⟨rfl, by rw [ht]; exact hw.1, hw.2.F ht⟩) hw.2.2.2 hdg
theorem mrl {I' : mI} {J' : mJ} {R' : mR} {v : Int64} {av : Array Value} (hx : p.tables.exec = Jvm.exec) (hb : c.code = cc) (hr : meth.sig.returnType = some .long) (hlk : meth.locks = false) (hw : mHp g K n s I' J' R' H locs) (hdg : decode cc pc = .ok (.lreturn, 1)) : W p l e Rm s m av below meth c H locs cells slots (MQ below (mQ g K n (some (.long v)) I' J' R') av s cells slots (mA g n)) (F0 m pc ls [.long v]) :=
  W.lret hx hb hr (fun t ht _ => ⟨rfl, by rw [ht]; exact hw.1, hw.2.F ht⟩) hw.2.2.2 hdg
theorem mrv {I' : mI} {J' : mJ} {R' : mR} {av : Array Value} (hx : p.tables.exec = Jvm.exec) (hb : c.code = cc) (hr : meth.sig.returnType = none) (hlk : meth.locks = false) (hw : mHp g K n s I' J' R' H locs) (hdg : decode cc pc = .ok (.return_, 1)) : W p l e Rm s m av below meth c H locs cells slots (MQ below (mQ g K n none I' J' R') av s cells slots (mA g n)) (F0 m pc ls []) :=
  W.vret hx hb hr (fun t ht _ => ⟨rfl, by rw [ht]; exact hw.1, hw.2.F ht⟩) hw.2.2.2 hdg
theorem mra {I' : mI} {J' : mJ} {R' : mR} {v : Option Nat} {av : Array Value} {C : String} (hx : p.tables.exec = Jvm.exec) (hb : c.code = cc) (hr : meth.sig.returnType = some (.object C)) (hlk : meth.locks = false) (hw : mHp g K n s I' J' R' H locs) (hdg : decode cc pc = .ok (.areturn, 1)) : W p l e Rm s m av below meth c H locs cells slots (MQ below (mQ g K n (some (va_rf (v.map g.2.1))) I' J' R') av s cells slots (mA g n)) (F0 m pc ls [va_rf (v.map g.2.1)]) :=
  W.aret hx hb hr (Or.inl ⟨C, rfl⟩) (va_rf_or _) (fun t ht _ => ⟨rfl, by rw [ht]; exact hw.1, hw.2.F ht⟩) hw.2.2.2 hdg
end MROW
theorem mInr {α β γ : Type} {f : α → γ} {k : β → γ} {w : β} {v : γ} (h : Sum.elim f k (Sum.inr w) = v) : k w = v := h
theorem mInl {α β γ : Type} {f : α → γ} {k : β → γ} {w : α} {v : γ} (h : Sum.elim f k (Sum.inl w) = v) : f w = v := h
theorem mON0 {α : Type} {a : α} {f : Nat → α} {v : α} (h : mON none a f = v) : a = v := h
theorem mON1 {α : Type} {a : α} {f : Nat → α} {v : α} {x : Nat} (h : mON (some x) a f = v) : f x = v := h
def imax (x y : Int32) : Int32 := if x < y then y else x
def imin (x y : Int32) : Int32 := if y < x then y else x
def mMh (own : String) (index : Nat) (nm : MethodName) (cd : ByteArray) : Prop := Cond.methodLink own index nm ∈ mT ∧ Cond.static nm ∈ mT ∧ Cond.initialized "java/lang/Math" ∈ mT ∧ Cond.code nm cd 2 (some .int) ∈ mT
theorem mSwOut {x : Int32} (N : Nat) (hN : N + 1 < 2 ^ 31) (h : ∀ k, k ≤ N → ¬ x = nI k) : x.toInt < 0 ∨ (N : Int) < x.toInt := by
  rcases pk_ix x hN with h1 | h1 | ⟨j, h1, rfl⟩
  · exact Or.inl (Int32.lt_iff_toInt_lt.mp h1)
  · refine Or.inr ?_
    have h2 := Int32.le_iff_toInt_le.mp h1
    rw [nI_toInt hN] at h2
    omega
  · exact absurd rfl (h j (by omega))
section MROW2
variable {p : Program} {l : Launch} {e : Env} {Rm : Room} {s : State} {m : MethodId} {args : Array Value} {below : List Frame} {meth : Method} {c : Code} {H : Heap} {locs : List Loc} {cells slots : Nat} {Q : State → Prop}
variable {cc : ByteArray} {pc : Nat} {ls : Array Slot} {rest : List Value} {own : String} {nL : Nat} {g : mG} {K : mK} {n : Nat} {I : mI} {J : mJ} {R : mR}
theorem mlo (hexec : p.tables.exec = Jvm.exec) (hb : c.code = cc) {i : Nat} {r : Option Nat} (hdg : decode cc pc = .ok (.aload i, 2)) (hl : ls[i]? = some (.val (va_rf r)))
    (k : W p l e Rm s m args below meth c H locs cells slots Q (F0 m (pc + 2) ls (va_rf r :: rest))) : W p l e Rm s m args below meth c H locs cells slots Q (F0 m pc ls rest) := by
  cases r with
  | none => exact lv_aloadN hexec hb hdg hl k
  | some x => exact lv_aload hexec hb hdg hl k
theorem mlo_n (hexec : p.tables.exec = Jvm.exec) (hb : c.code = cc) {k : Fin 4} {i : Nat} {r : Option Nat} (hdg : decode cc pc = .ok (.aload_n k, 1)) (hi : (k : Nat) = i) (hl : ls[i]? = some (.val (va_rf r)))
    (kk : W p l e Rm s m args below meth c H locs cells slots Q (F0 m (pc + 1) ls (va_rf r :: rest))) : W p l e Rm s m args below meth c H locs cells slots Q (F0 m pc ls rest) := by
  cases r with
  | none => exact lv_aload_nN hexec hb hdg hi hl kk
  | some x => exact lv_aload_n hexec hb hdg hi hl kk
theorem mso (hexec : p.tables.exec = Jvm.exec) (hb : c.code = cc) {i nL : Nat} {r : Option Nat} {lv lv' : List (Nat × Value)} (hdg : decode cc pc = .ok (.astore i, 2)) (h : lv_has ls nL lv) (hn : i < nL) (hl : (i, va_rf r) :: lv.filter (fun q => !(q.1 == i) && !(q.1 + 1 == i && q.2.category == 2)) = lv')
    (kk : ∀ ls' : Array Slot, lv_has ls' nL lv' → W p l e Rm s m args below meth c H locs cells slots Q (F0 m (pc + 2) ls' rest)) : W p l e Rm s m args below meth c H locs cells slots Q (F0 m pc ls (va_rf r :: rest)) := by
  cases r with
  | none => exact lv_astoreN hexec hb hdg h hn hl kk
  | some x => exact lv_astore hexec hb hdg h hn hl kk
theorem mso_n (hexec : p.tables.exec = Jvm.exec) (hb : c.code = cc) {k : Fin 4} {i nL : Nat} {r : Option Nat} {lv lv' : List (Nat × Value)} (hdg : decode cc pc = .ok (.astore_n k, 1)) (hi : (k : Nat) = i) (h : lv_has ls nL lv) (hn : i < nL) (hl : (i, va_rf r) :: lv.filter (fun q => !(q.1 == i) && !(q.1 + 1 == i && q.2.category == 2)) = lv')
    (kk : ∀ ls' : Array Slot, lv_has ls' nL lv' → W p l e Rm s m args below meth c H locs cells slots Q (F0 m (pc + 1) ls' rest)) : W p l e Rm s m args below meth c H locs cells slots Q (F0 m pc ls (va_rf r :: rest)) := by
  cases r with
  | none => exact lv_astore_nN hexec hb hdg hi h hn hl kk
  | some x => exact lv_astore_n hexec hb hdg hi h hn hl kk
theorem mmmax (B : mFix p m c cc nL s args own g K n) (hls : ls.size = nL) {index : Nat} (h : mMh own index Lib.Math.max.name Lib.Math.max.code) (hframes : 1 ≤ Rm.frames) (hlocals : (rest.map fun v => v.category).sum + 13 ≤ Rm.locals) (hc : cells ≤ Rm.cells) (hs : slots ≤ Rm.slots) {x y : Int32} (hdg : decode cc pc = .ok (.invokestatic index, 3))
    (kk : W p l e Rm s m args below meth c H locs cells slots Q (F0 m (pc + 3) ls (.int (imax x y) :: rest))) : W p l e Rm s m args below meth c H locs cells slots Q (F0 m pc ls (.int y :: .int x :: rest)) :=
  va_mmax B.1.1 B.1.2.1 (B.1.2.2.1.trans hls.symm) B.1.2.2.2.1 (B.1.2.2.2.2 _ h.1) (B.1.2.2.2.2 _ h.2.1) (B.1.2.2.2.2 _ h.2.2.1) (B.1.2.2.2.2 _ h.2.2.2) hframes hlocals hc hs hdg kk
theorem mmmin (B : mFix p m c cc nL s args own g K n) (hls : ls.size = nL) {index : Nat} (h : mMh own index Lib.Math.min.name Lib.Math.min.code) (hframes : 1 ≤ Rm.frames) (hlocals : (rest.map fun v => v.category).sum + 13 ≤ Rm.locals) (hc : cells ≤ Rm.cells) (hs : slots ≤ Rm.slots) {x y : Int32} (hdg : decode cc pc = .ok (.invokestatic index, 3))
    (kk : W p l e Rm s m args below meth c H locs cells slots Q (F0 m (pc + 3) ls (.int (imin x y) :: rest))) : W p l e Rm s m args below meth c H locs cells slots Q (F0 m pc ls (.int y :: .int x :: rest)) :=
  va_mmin B.1.1 B.1.2.1 (B.1.2.2.1.trans hls.symm) B.1.2.2.2.1 (B.1.2.2.2.2 _ h.1) (B.1.2.2.2.2 _ h.2.1) (B.1.2.2.2.2 _ h.2.2.1) (B.1.2.2.2.2 _ h.2.2.2) hframes hlocals hc hs hdg kk
end MROW2
end
section
set_option maxRecDepth 20000 in
theorem inX_X0 : ∀ w ∈ u_ws RX0 TX0 3, w ∈ mT := by
  intro w hw
  obtain ⟨k, hk, rfl⟩ := List.mem_map.mp hw
  have hk := List.mem_range.mp hk
  match k, hk with
  | 0, _ => exact mT_at 99 rfl rfl
  | 1, _ => exact mT_at 101 rfl rfl
  | 2, _ => exact mT_at 103 rfl rfl
  | k + 3, h => exact absurd h (by omega)
set_option maxRecDepth 20000 in
theorem inX_X1 : ∀ w ∈ u_ws RX1 TX1 8, w ∈ mT := by
  intro w hw
  obtain ⟨k, hk, rfl⟩ := List.mem_map.mp hw
  have hk := List.mem_range.mp hk
  match k, hk with
  | 0, _ => exact mT_at 58 rfl rfl
  | 1, _ => exact mT_at 60 rfl rfl
  | 2, _ => exact mT_at 62 rfl rfl
  | 3, _ => exact mT_at 64 rfl rfl
  | 4, _ => exact mT_at 66 rfl rfl
  | 5, _ => exact mT_at 68 rfl rfl
  | 6, _ => exact mT_at 70 rfl rfl
  | 7, _ => exact mT_at 72 rfl rfl
  | k + 8, h => exact absurd h (by omega)
set_option maxRecDepth 20000 in
theorem inX_X2 : ∀ w ∈ u_ws RX2 TX2 2, w ∈ mT := by
  intro w hw
  obtain ⟨k, hk, rfl⟩ := List.mem_map.mp hw
  have hk := List.mem_range.mp hk
  match k, hk with
  | 0, _ => exact mT_at 81 rfl rfl
  | 1, _ => exact mT_at 83 rfl rfl
  | k + 2, h => exact absurd h (by omega)
set_option maxRecDepth 20000 in
theorem inX_X3 : ∀ w ∈ u_ws RX3 TX3 4, w ∈ mT := by
  intro w hw
  obtain ⟨k, hk, rfl⟩ := List.mem_map.mp hw
  have hk := List.mem_range.mp hk
  match k, hk with
  | 0, _ => exact mT_at 229 rfl rfl
  | 1, _ => exact mT_at 231 rfl rfl
  | 2, _ => exact mT_at 233 rfl rfl
  | 3, _ => exact mT_at 235 rfl rfl
  | k + 4, h => exact absurd h (by omega)
set_option maxRecDepth 20000 in
theorem inX_X4 : ∀ w ∈ u_ws RX4 TX4 10, w ∈ mT := by
  intro w hw
  obtain ⟨k, hk, rfl⟩ := List.mem_map.mp hw
  have hk := List.mem_range.mp hk
  match k, hk with
  | 0, _ => exact mT_at 146 rfl rfl
  | 1, _ => exact mT_at 148 rfl rfl
  | 2, _ => exact mT_at 150 rfl rfl
  | 3, _ => exact mT_at 152 rfl rfl
  | 4, _ => exact mT_at 154 rfl rfl
  | 5, _ => exact mT_at 156 rfl rfl
  | 6, _ => exact mT_at 158 rfl rfl
  | 7, _ => exact mT_at 160 rfl rfl
  | 8, _ => exact mT_at 162 rfl rfl
  | 9, _ => exact mT_at 164 rfl rfl
  | k + 10, h => exact absurd h (by omega)
set_option maxRecDepth 20000 in
theorem inX_X5 : ∀ w ∈ u_ws RX5 TX5 5, w ∈ mT := by
  intro w hw
  obtain ⟨k, hk, rfl⟩ := List.mem_map.mp hw
  have hk := List.mem_range.mp hk
  match k, hk with
  | 0, _ => exact mT_at 197 rfl rfl
  | 1, _ => exact mT_at 199 rfl rfl
  | 2, _ => exact mT_at 201 rfl rfl
  | 3, _ => exact mT_at 203 rfl rfl
  | 4, _ => exact mT_at 205 rfl rfl
  | k + 5, h => exact absurd h (by omega)
set_option maxRecDepth 20000 in
theorem inX_X6 : ∀ w ∈ u_ws RX6 TX6 3, w ∈ mT := by
  intro w hw
  obtain ⟨k, hk, rfl⟩ := List.mem_map.mp hw
  have hk := List.mem_range.mp hk
  match k, hk with
  | 0, _ => exact mT_at 116 rfl rfl
  | 1, _ => exact mT_at 118 rfl rfl
  | 2, _ => exact mT_at 120 rfl rfl
  | k + 3, h => exact absurd h (by omega)
set_option maxRecDepth 20000 in
theorem inX_X7 : ∀ w ∈ u_ws RX7 TX7 2, w ∈ mT := by
  intro w hw
  obtain ⟨k, hk, rfl⟩ := List.mem_map.mp hw
  have hk := List.mem_range.mp hk
  match k, hk with
  | 0, _ => exact mT_at 179 rfl rfl
  | 1, _ => exact mT_at 181 rfl rfl
  | k + 2, h => exact absurd h (by omega)
set_option maxRecDepth 20000 in
theorem inX_X8 : ∀ w ∈ u_ws RX8 TX8 10, w ∈ mT := by
  intro w hw
  obtain ⟨k, hk, rfl⟩ := List.mem_map.mp hw
  have hk := List.mem_range.mp hk
  match k, hk with
  | 0, _ => exact mT_at 248 rfl rfl
  | 1, _ => exact mT_at 250 rfl rfl
  | 2, _ => exact mT_at 252 rfl rfl
  | 3, _ => exact mT_at 254 rfl rfl
  | 4, _ => exact mT_at 256 rfl rfl
  | 5, _ => exact mT_at 258 rfl rfl
  | 6, _ => exact mT_at 260 rfl rfl
  | 7, _ => exact mT_at 262 rfl rfl
  | 8, _ => exact mT_at 264 rfl rfl
  | 9, _ => exact mT_at 266 rfl rfl
  | k + 10, h => exact absurd h (by omega)
set_option maxRecDepth 20000 in
theorem inX_X9 : ∀ w ∈ u_ws RX9 TX9 23, w ∈ mT := by
  intro w hw
  obtain ⟨k, hk, rfl⟩ := List.mem_map.mp hw
  have hk := List.mem_range.mp hk
  match k, hk with
  | 0, _ => exact mT_at 698 rfl rfl
  | 1, _ => exact mT_at 700 rfl rfl
  | 2, _ => exact mT_at 702 rfl rfl
  | 3, _ => exact mT_at 704 rfl rfl
  | 4, _ => exact mT_at 706 rfl rfl
  | 5, _ => exact mT_at 708 rfl rfl
  | 6, _ => exact mT_at 710 rfl rfl
  | 7, _ => exact mT_at 712 rfl rfl
  | 8, _ => exact mT_at 714 rfl rfl
  | 9, _ => exact mT_at 716 rfl rfl
  | 10, _ => exact mT_at 718 rfl rfl
  | 11, _ => exact mT_at 720 rfl rfl
  | 12, _ => exact mT_at 722 rfl rfl
  | 13, _ => exact mT_at 724 rfl rfl
  | 14, _ => exact mT_at 726 rfl rfl
  | 15, _ => exact mT_at 728 rfl rfl
  | 16, _ => exact mT_at 730 rfl rfl
  | 17, _ => exact mT_at 732 rfl rfl
  | 18, _ => exact mT_at 734 rfl rfl
  | 19, _ => exact mT_at 736 rfl rfl
  | 20, _ => exact mT_at 738 rfl rfl
  | 21, _ => exact mT_at 740 rfl rfl
  | 22, _ => exact mT_at 742 rfl rfl
  | k + 23, h => exact absurd h (by omega)
set_option maxRecDepth 20000 in
theorem flX0_12 : mFl RX0 12 0 0 RX0 TX0 3 := ⟨rfl, by decide, rfl, mT_at 94 rfl rfl, inX_X0⟩
set_option maxRecDepth 20000 in
theorem flX0_18 : mFl RX0 18 0 1 RX0 TX0 3 := ⟨rfl, by decide, rfl, mT_at 96 rfl rfl, inX_X0⟩
set_option maxRecDepth 20000 in
theorem flX0_22 : mFl RX0 22 0 2 RX0 TX0 3 := ⟨rfl, by decide, rfl, mT_at 97 rfl rfl, inX_X0⟩
set_option maxRecDepth 20000 in
theorem flX0_25 : mFl RX0 25 2 1 RX2 TX2 2 := ⟨rfl, by decide, rfl, mT_at 79 rfl rfl, inX_X2⟩
set_option maxRecDepth 20000 in
theorem flX0_47 : mFl RX0 47 2 0 RX2 TX2 2 := ⟨rfl, by decide, rfl, mT_at 77 rfl rfl, inX_X2⟩
set_option maxRecDepth 20000 in
theorem flX0_55 : mFl RX0 55 1 3 RX1 TX1 8 := ⟨rfl, by decide, rfl, mT_at 44 rfl rfl, inX_X1⟩
set_option maxRecDepth 20000 in
theorem flX1_9 : mFl RX1 9 1 2 RX1 TX1 8 := ⟨rfl, by decide, rfl, mT_at 41 rfl rfl, inX_X1⟩
set_option maxRecDepth 20000 in
theorem flX1_15 : mFl RX1 15 1 4 RX1 TX1 8 := ⟨rfl, by decide, rfl, mT_at 46 rfl rfl, inX_X1⟩
set_option maxRecDepth 20000 in
theorem flX1_19 : mFl RX1 19 1 5 RX1 TX1 8 := ⟨rfl, by decide, rfl, mT_at 49 rfl rfl, inX_X1⟩
set_option maxRecDepth 20000 in
theorem flX1_22 : mFl RX1 22 1 6 RX1 TX1 8 := ⟨rfl, by decide, rfl, mT_at 52 rfl rfl, inX_X1⟩
set_option maxRecDepth 20000 in
theorem flX1_25 : mFl RX1 25 1 7 RX1 TX1 8 := ⟨rfl, by decide, rfl, mT_at 55 rfl rfl, inX_X1⟩
set_option maxRecDepth 20000 in
theorem flX1_28 : mFl RX1 28 1 0 RX1 TX1 8 := ⟨rfl, by decide, rfl, mT_at 37 rfl rfl, inX_X1⟩
set_option maxRecDepth 20000 in
theorem flX1_31 : mFl RX1 31 1 1 RX1 TX1 8 := ⟨rfl, by decide, rfl, mT_at 39 rfl rfl, inX_X1⟩
set_option maxRecDepth 20000 in
theorem flX1_34 : mFl RX1 34 1 3 RX1 TX1 8 := ⟨rfl, by decide, rfl, mT_at 43 rfl rfl, inX_X1⟩
set_option maxRecDepth 20000 in
theorem flX2_11 : mFl RX2 11 2 0 RX2 TX2 2 := ⟨rfl, by decide, rfl, mT_at 76 rfl rfl, inX_X2⟩
set_option maxRecDepth 20000 in
theorem flX2_18 : mFl RX2 18 2 1 RX2 TX2 2 := ⟨rfl, by decide, rfl, mT_at 78 rfl rfl, inX_X2⟩
set_option maxRecDepth 20000 in
theorem flX3_9 : mFl RX3 9 3 0 RX3 TX3 4 := ⟨rfl, by decide, rfl, mT_at 220 rfl rfl, inX_X3⟩
set_option maxRecDepth 20000 in
theorem flX3_15 : mFl RX3 15 3 1 RX3 TX3 4 := ⟨rfl, by decide, rfl, mT_at 222 rfl rfl, inX_X3⟩
set_option maxRecDepth 20000 in
theorem flX3_18 : mFl RX3 18 3 2 RX3 TX3 4 := ⟨rfl, by decide, rfl, mT_at 224 rfl rfl, inX_X3⟩
set_option maxRecDepth 20000 in
theorem flX3_21 : mFl RX3 21 3 3 RX3 TX3 4 := ⟨rfl, by decide, rfl, mT_at 226 rfl rfl, inX_X3⟩
set_option maxRecDepth 20000 in
theorem flX3_44 : mFl RX3 44 1 4 RX1 TX1 8 := ⟨rfl, by decide, rfl, mT_at 47 rfl rfl, inX_X1⟩
set_option maxRecDepth 20000 in
theorem flX3_51 : mFl RX3 51 1 5 RX1 TX1 8 := ⟨rfl, by decide, rfl, mT_at 50 rfl rfl, inX_X1⟩
set_option maxRecDepth 20000 in
theorem flX3_54 : mFl RX3 54 1 6 RX1 TX1 8 := ⟨rfl, by decide, rfl, mT_at 53 rfl rfl, inX_X1⟩
set_option maxRecDepth 20000 in
theorem flX3_57 : mFl RX3 57 1 7 RX1 TX1 8 := ⟨rfl, by decide, rfl, mT_at 56 rfl rfl, inX_X1⟩
set_option maxRecDepth 20000 in
theorem flX4_11 : mFl RX4 11 4 0 RX4 TX4 10 := ⟨rfl, by decide, rfl, mT_at 133 rfl rfl, inX_X4⟩
set_option maxRecDepth 20000 in
theorem flX4_16 : mFl RX4 16 4 1 RX4 TX4 10 := ⟨rfl, by decide, rfl, mT_at 135 rfl rfl, inX_X4⟩
set_option maxRecDepth 20000 in
theorem flX4_22 : mFl RX4 22 4 3 RX4 TX4 10 := ⟨rfl, by decide, rfl, mT_at 139 rfl rfl, inX_X4⟩
set_option maxRecDepth 20000 in
theorem flX4_25 : mFl RX4 25 4 4 RX4 TX4 10 := ⟨rfl, by decide, rfl, mT_at 140 rfl rfl, inX_X4⟩
set_option maxRecDepth 20000 in
theorem flX4_28 : mFl RX4 28 4 5 RX4 TX4 10 := ⟨rfl, by decide, rfl, mT_at 141 rfl rfl, inX_X4⟩
set_option maxRecDepth 20000 in
theorem flX4_32 : mFl RX4 32 4 6 RX4 TX4 10 := ⟨rfl, by decide, rfl, mT_at 142 rfl rfl, inX_X4⟩
set_option maxRecDepth 20000 in
theorem flX4_35 : mFl RX4 35 4 7 RX4 TX4 10 := ⟨rfl, by decide, rfl, mT_at 143 rfl rfl, inX_X4⟩
set_option maxRecDepth 20000 in
theorem flX4_38 : mFl RX4 38 4 8 RX4 TX4 10 := ⟨rfl, by decide, rfl, mT_at 144 rfl rfl, inX_X4⟩
set_option maxRecDepth 20000 in
theorem flX4_41 : mFl RX4 41 4 9 RX4 TX4 10 := ⟨rfl, by decide, rfl, mT_at 145 rfl rfl, inX_X4⟩
set_option maxRecDepth 20000 in
theorem flX4_55 : mFl RX4 55 4 2 RX4 TX4 10 := ⟨rfl, by decide, rfl, mT_at 137 rfl rfl, inX_X4⟩
set_option maxRecDepth 20000 in
theorem flX5_9 : mFl RX5 9 5 0 RX5 TX5 5 := ⟨rfl, by decide, rfl, mT_at 191 rfl rfl, inX_X5⟩
set_option maxRecDepth 20000 in
theorem flX5_15 : mFl RX5 15 5 4 RX5 TX5 5 := ⟨rfl, by decide, rfl, mT_at 195 rfl rfl, inX_X5⟩
set_option maxRecDepth 20000 in
theorem flX5_25 : mFl RX5 25 5 1 RX5 TX5 5 := ⟨rfl, by decide, rfl, mT_at 192 rfl rfl, inX_X5⟩
set_option maxRecDepth 20000 in
theorem flX5_28 : mFl RX5 28 5 2 RX5 TX5 5 := ⟨rfl, by decide, rfl, mT_at 193 rfl rfl, inX_X5⟩
set_option maxRecDepth 20000 in
theorem flX5_83 : mFl RX5 83 5 3 RX5 TX5 5 := ⟨rfl, by decide, rfl, mT_at 194 rfl rfl, inX_X5⟩
set_option maxRecDepth 20000 in
theorem flX6_9 : mFl RX6 9 6 0 RX6 TX6 3 := ⟨rfl, by decide, rfl, mT_at 112 rfl rfl, inX_X6⟩
set_option maxRecDepth 20000 in
theorem flX6_15 : mFl RX6 15 6 1 RX6 TX6 3 := ⟨rfl, by decide, rfl, mT_at 113 rfl rfl, inX_X6⟩
set_option maxRecDepth 20000 in
theorem flX6_18 : mFl RX6 18 6 2 RX6 TX6 3 := ⟨rfl, by decide, rfl, mT_at 114 rfl rfl, inX_X6⟩
set_option maxRecDepth 20000 in
theorem flX7_9 : mFl RX7 9 7 0 RX7 TX7 2 := ⟨rfl, by decide, rfl, mT_at 175 rfl rfl, inX_X7⟩
set_option maxRecDepth 20000 in
theorem flX7_15 : mFl RX7 15 7 1 RX7 TX7 2 := ⟨rfl, by decide, rfl, mT_at 177 rfl rfl, inX_X7⟩
set_option maxRecDepth 20000 in
theorem flX8_10 : mFl RX8 10 8 0 RX8 TX8 10 := ⟨rfl, by decide, rfl, mT_at 238 rfl rfl, inX_X8⟩
set_option maxRecDepth 20000 in
theorem flX8_19 : mFl RX8 19 8 1 RX8 TX8 10 := ⟨rfl, by decide, rfl, mT_at 239 rfl rfl, inX_X8⟩
set_option maxRecDepth 20000 in
theorem flX8_26 : mFl RX8 26 8 2 RX8 TX8 10 := ⟨rfl, by decide, rfl, mT_at 240 rfl rfl, inX_X8⟩
set_option maxRecDepth 20000 in
theorem flX8_33 : mFl RX8 33 8 3 RX8 TX8 10 := ⟨rfl, by decide, rfl, mT_at 241 rfl rfl, inX_X8⟩
set_option maxRecDepth 20000 in
theorem flX8_40 : mFl RX8 40 8 4 RX8 TX8 10 := ⟨rfl, by decide, rfl, mT_at 242 rfl rfl, inX_X8⟩
set_option maxRecDepth 20000 in
theorem flX8_47 : mFl RX8 47 8 5 RX8 TX8 10 := ⟨rfl, by decide, rfl, mT_at 243 rfl rfl, inX_X8⟩
set_option maxRecDepth 20000 in
theorem flX8_54 : mFl RX8 54 8 6 RX8 TX8 10 := ⟨rfl, by decide, rfl, mT_at 244 rfl rfl, inX_X8⟩
set_option maxRecDepth 20000 in
theorem flX8_58 : mFl RX8 58 8 7 RX8 TX8 10 := ⟨rfl, by decide, rfl, mT_at 245 rfl rfl, inX_X8⟩
set_option maxRecDepth 20000 in
theorem flX8_64 : mFl RX8 64 8 8 RX8 TX8 10 := ⟨rfl, by decide, rfl, mT_at 246 rfl rfl, inX_X8⟩
set_option maxRecDepth 20000 in
theorem flX8_68 : mFl RX8 68 8 9 RX8 TX8 10 := ⟨rfl, by decide, rfl, mT_at 247 rfl rfl, inX_X8⟩
set_option maxRecDepth 20000 in
theorem flX8_75 : mFl RX8 75 0 0 RX0 TX0 3 := ⟨rfl, by decide, rfl, mT_at 95 rfl rfl, inX_X0⟩
set_option maxRecDepth 20000 in
theorem flX8_86 : mFl RX8 86 1 0 RX1 TX1 8 := ⟨rfl, by decide, rfl, mT_at 38 rfl rfl, inX_X1⟩
set_option maxRecDepth 20000 in
theorem flX8_90 : mFl RX8 90 1 1 RX1 TX1 8 := ⟨rfl, by decide, rfl, mT_at 40 rfl rfl, inX_X1⟩
set_option maxRecDepth 20000 in
theorem flX8_93 : mFl RX8 93 1 2 RX1 TX1 8 := ⟨rfl, by decide, rfl, mT_at 42 rfl rfl, inX_X1⟩
set_option maxRecDepth 20000 in
theorem flX8_96 : mFl RX8 96 1 4 RX1 TX1 8 := ⟨rfl, by decide, rfl, mT_at 48 rfl rfl, inX_X1⟩
set_option maxRecDepth 20000 in
theorem flX8_100 : mFl RX8 100 1 5 RX1 TX1 8 := ⟨rfl, by decide, rfl, mT_at 51 rfl rfl, inX_X1⟩
set_option maxRecDepth 20000 in
theorem flX8_103 : mFl RX8 103 1 7 RX1 TX1 8 := ⟨rfl, by decide, rfl, mT_at 57 rfl rfl, inX_X1⟩
set_option maxRecDepth 20000 in
theorem flX8_106 : mFl RX8 106 1 6 RX1 TX1 8 := ⟨rfl, by decide, rfl, mT_at 54 rfl rfl, inX_X1⟩
set_option maxRecDepth 20000 in
theorem flX8_126 : mFl RX8 126 1 3 RX1 TX1 8 := ⟨rfl, by decide, rfl, mT_at 45 rfl rfl, inX_X1⟩
set_option maxRecDepth 20000 in
theorem flX8_146 : mFl RX8 146 0 2 RX0 TX0 3 := ⟨rfl, by decide, rfl, mT_at 98 rfl rfl, inX_X0⟩
set_option maxRecDepth 20000 in
theorem flX8_174 : mFl RX8 174 4 2 RX4 TX4 10 := ⟨rfl, by decide, rfl, mT_at 138 rfl rfl, inX_X4⟩
set_option maxRecDepth 20000 in
theorem flX8_177 : mFl RX8 177 4 1 RX4 TX4 10 := ⟨rfl, by decide, rfl, mT_at 136 rfl rfl, inX_X4⟩
set_option maxRecDepth 20000 in
theorem flX8_192 : mFl RX8 192 4 0 RX4 TX4 10 := ⟨rfl, by decide, rfl, mT_at 134 rfl rfl, inX_X4⟩
set_option maxRecDepth 20000 in
theorem flX8_196 : mFl RX8 196 3 3 RX3 TX3 4 := ⟨rfl, by decide, rfl, mT_at 228 rfl rfl, inX_X3⟩
set_option maxRecDepth 20000 in
theorem flX8_209 : mFl RX8 209 7 1 RX7 TX7 2 := ⟨rfl, by decide, rfl, mT_at 178 rfl rfl, inX_X7⟩
set_option maxRecDepth 20000 in
theorem flX8_212 : mFl RX8 212 7 0 RX7 TX7 2 := ⟨rfl, by decide, rfl, mT_at 176 rfl rfl, inX_X7⟩
set_option maxRecDepth 20000 in
theorem flX8_220 : mFl RX8 220 5 4 RX5 TX5 5 := ⟨rfl, by decide, rfl, mT_at 196 rfl rfl, inX_X5⟩
set_option maxRecDepth 20000 in
theorem flX8_223 : mFl RX8 223 2 1 RX2 TX2 2 := ⟨rfl, by decide, rfl, mT_at 80 rfl rfl, inX_X2⟩
set_option maxRecDepth 20000 in
theorem flX8_232 : mFl RX8 232 6 2 RX6 TX6 3 := ⟨rfl, by decide, rfl, mT_at 115 rfl rfl, inX_X6⟩
set_option maxRecDepth 20000 in
theorem flX9_7 : mFl RX9 7 9 0 RX9 TX9 23 := ⟨rfl, by decide, rfl, mT_at 675 rfl rfl, inX_X9⟩
set_option maxRecDepth 20000 in
theorem flX9_13 : mFl RX9 13 9 1 RX9 TX9 23 := ⟨rfl, by decide, rfl, mT_at 676 rfl rfl, inX_X9⟩
set_option maxRecDepth 20000 in
theorem flX9_16 : mFl RX9 16 9 2 RX9 TX9 23 := ⟨rfl, by decide, rfl, mT_at 677 rfl rfl, inX_X9⟩
set_option maxRecDepth 20000 in
theorem flX9_19 : mFl RX9 19 9 3 RX9 TX9 23 := ⟨rfl, by decide, rfl, mT_at 678 rfl rfl, inX_X9⟩
set_option maxRecDepth 20000 in
theorem flX9_22 : mFl RX9 22 9 4 RX9 TX9 23 := ⟨rfl, by decide, rfl, mT_at 679 rfl rfl, inX_X9⟩
set_option maxRecDepth 20000 in
theorem flX9_25 : mFl RX9 25 9 5 RX9 TX9 23 := ⟨rfl, by decide, rfl, mT_at 680 rfl rfl, inX_X9⟩
set_option maxRecDepth 20000 in
theorem flX9_28 : mFl RX9 28 9 6 RX9 TX9 23 := ⟨rfl, by decide, rfl, mT_at 681 rfl rfl, inX_X9⟩
set_option maxRecDepth 20000 in
theorem flX9_31 : mFl RX9 31 9 7 RX9 TX9 23 := ⟨rfl, by decide, rfl, mT_at 682 rfl rfl, inX_X9⟩
set_option maxRecDepth 20000 in
theorem flX9_35 : mFl RX9 35 9 8 RX9 TX9 23 := ⟨rfl, by decide, rfl, mT_at 683 rfl rfl, inX_X9⟩
set_option maxRecDepth 20000 in
theorem flX9_38 : mFl RX9 38 9 9 RX9 TX9 23 := ⟨rfl, by decide, rfl, mT_at 684 rfl rfl, inX_X9⟩
set_option maxRecDepth 20000 in
theorem flX9_41 : mFl RX9 41 9 11 RX9 TX9 23 := ⟨rfl, by decide, rfl, mT_at 686 rfl rfl, inX_X9⟩
set_option maxRecDepth 20000 in
theorem flX9_44 : mFl RX9 44 9 12 RX9 TX9 23 := ⟨rfl, by decide, rfl, mT_at 687 rfl rfl, inX_X9⟩
set_option maxRecDepth 20000 in
theorem flX9_47 : mFl RX9 47 9 13 RX9 TX9 23 := ⟨rfl, by decide, rfl, mT_at 688 rfl rfl, inX_X9⟩
set_option maxRecDepth 20000 in
theorem flX9_50 : mFl RX9 50 9 14 RX9 TX9 23 := ⟨rfl, by decide, rfl, mT_at 689 rfl rfl, inX_X9⟩
set_option maxRecDepth 20000 in
theorem flX9_53 : mFl RX9 53 9 15 RX9 TX9 23 := ⟨rfl, by decide, rfl, mT_at 690 rfl rfl, inX_X9⟩
set_option maxRecDepth 20000 in
theorem flX9_57 : mFl RX9 57 9 16 RX9 TX9 23 := ⟨rfl, by decide, rfl, mT_at 691 rfl rfl, inX_X9⟩
set_option maxRecDepth 20000 in
theorem flX9_60 : mFl RX9 60 9 20 RX9 TX9 23 := ⟨rfl, by decide, rfl, mT_at 695 rfl rfl, inX_X9⟩
set_option maxRecDepth 20000 in
theorem flX9_142 : mFl RX9 142 9 10 RX9 TX9 23 := ⟨rfl, by decide, rfl, mT_at 685 rfl rfl, inX_X9⟩
set_option maxRecDepth 20000 in
theorem flX9_154 : mFl RX9 154 9 17 RX9 TX9 23 := ⟨rfl, by decide, rfl, mT_at 692 rfl rfl, inX_X9⟩
set_option maxRecDepth 20000 in
theorem flX9_161 : mFl RX9 161 9 19 RX9 TX9 23 := ⟨rfl, by decide, rfl, mT_at 694 rfl rfl, inX_X9⟩
set_option maxRecDepth 20000 in
theorem flX9_164 : mFl RX9 164 9 18 RX9 TX9 23 := ⟨rfl, by decide, rfl, mT_at 693 rfl rfl, inX_X9⟩
set_option maxRecDepth 20000 in
theorem flX9_170 : mFl RX9 170 9 21 RX9 TX9 23 := ⟨rfl, by decide, rfl, mT_at 696 rfl rfl, inX_X9⟩
set_option maxRecDepth 20000 in
theorem flX9_177 : mFl RX9 177 9 22 RX9 TX9 23 := ⟨rfl, by decide, rfl, mT_at 697 rfl rfl, inX_X9⟩
set_option maxRecDepth 20000 in
theorem puX1_9 : mPu RX1 9 1 2 RX1 TX1 8 tyX1 .int false := ⟨flX1_9, tyX1_ok, nmX1, rfl, tyX1_ok 2 (by decide)⟩
set_option maxRecDepth 20000 in
theorem puX1_28 : mPu RX1 28 1 0 RX1 TX1 8 tyX1 .int false := ⟨flX1_28, tyX1_ok, nmX1, rfl, tyX1_ok 0 (by decide)⟩
set_option maxRecDepth 20000 in
theorem puX1_31 : mPu RX1 31 1 1 RX1 TX1 8 tyX1 .int false := ⟨flX1_31, tyX1_ok, nmX1, rfl, tyX1_ok 1 (by decide)⟩
set_option maxRecDepth 20000 in
theorem puX1_34 : mPu RX1 34 1 3 RX1 TX1 8 tyX1 .int false := ⟨flX1_34, tyX1_ok, nmX1, rfl, tyX1_ok 3 (by decide)⟩
set_option maxRecDepth 20000 in
theorem puX2_18 : mPu RX2 18 2 1 RX2 TX2 2 tyX2 .int false := ⟨flX2_18, tyX2_ok, nmX2, rfl, tyX2_ok 1 (by decide)⟩
set_option maxRecDepth 20000 in
theorem puX4_55 : mPu RX4 55 4 2 RX4 TX4 10 tyX4 .int false := ⟨flX4_55, tyX4_ok, nmX4, rfl, tyX4_ok 2 (by decide)⟩
set_option maxRecDepth 20000 in
theorem puX5_9 : mPu RX5 9 5 0 RX5 TX5 5 tyX5 (tyX5 0) false := ⟨flX5_9, tyX5_ok, nmX5, rfl, tyX5_ok 0 (by decide)⟩
set_option maxRecDepth 20000 in
theorem puX5_15 : mPu RX5 15 5 4 RX5 TX5 5 tyX5 .int false := ⟨flX5_15, tyX5_ok, nmX5, rfl, tyX5_ok 4 (by decide)⟩
set_option maxRecDepth 20000 in
theorem puX5_25 : mPu RX5 25 5 1 RX5 TX5 5 tyX5 .int false := ⟨flX5_25, tyX5_ok, nmX5, rfl, tyX5_ok 1 (by decide)⟩
set_option maxRecDepth 20000 in
theorem puX5_28 : mPu RX5 28 5 2 RX5 TX5 5 tyX5 .int false := ⟨flX5_28, tyX5_ok, nmX5, rfl, tyX5_ok 2 (by decide)⟩
set_option maxRecDepth 20000 in
theorem puX5_83 : mPu RX5 83 5 3 RX5 TX5 5 tyX5 .int false := ⟨flX5_83, tyX5_ok, nmX5, rfl, tyX5_ok 3 (by decide)⟩
set_option maxRecDepth 20000 in
theorem puX6_18 : mPu RX6 18 6 2 RX6 TX6 3 tyX6 .int false := ⟨flX6_18, tyX6_ok, nmX6, rfl, tyX6_ok 2 (by decide)⟩
set_option maxRecDepth 20000 in
theorem puX7_15 : mPu RX7 15 7 1 RX7 TX7 2 tyX7 .int false := ⟨flX7_15, tyX7_ok, nmX7, rfl, tyX7_ok 1 (by decide)⟩
set_option maxRecDepth 20000 in
theorem puX8_64 : mPu RX8 64 8 8 RX8 TX8 10 tyX8 (tyX8 8) false := ⟨flX8_64, tyX8_ok, nmX8, rfl, tyX8_ok 8 (by decide)⟩
set_option maxRecDepth 20000 in
theorem puX8_68 : mPu RX8 68 8 9 RX8 TX8 10 tyX8 (tyX8 9) false := ⟨flX8_68, tyX8_ok, nmX8, rfl, tyX8_ok 9 (by decide)⟩
set_option maxRecDepth 20000 in
theorem puX8_86 : mPu RX8 86 1 0 RX1 TX1 8 tyX1 .int false := ⟨flX8_86, tyX1_ok, nmX1, rfl, tyX1_ok 0 (by decide)⟩
set_option maxRecDepth 20000 in
theorem puX8_90 : mPu RX8 90 1 1 RX1 TX1 8 tyX1 .int false := ⟨flX8_90, tyX1_ok, nmX1, rfl, tyX1_ok 1 (by decide)⟩
set_option maxRecDepth 20000 in
theorem puX8_93 : mPu RX8 93 1 2 RX1 TX1 8 tyX1 .int false := ⟨flX8_93, tyX1_ok, nmX1, rfl, tyX1_ok 2 (by decide)⟩
set_option maxRecDepth 20000 in
theorem puX8_126 : mPu RX8 126 1 3 RX1 TX1 8 tyX1 .int false := ⟨flX8_126, tyX1_ok, nmX1, rfl, tyX1_ok 3 (by decide)⟩
set_option maxRecDepth 20000 in
theorem puX8_209 : mPu RX8 209 7 1 RX7 TX7 2 tyX7 .int false := ⟨flX8_209, tyX7_ok, nmX7, rfl, tyX7_ok 1 (by decide)⟩
set_option maxRecDepth 20000 in
theorem puX9_60 : mPu RX9 60 9 20 RX9 TX9 23 tyX9 .int false := ⟨flX9_60, tyX9_ok, nmX9, rfl, tyX9_ok 20 (by decide)⟩
set_option maxRecDepth 20000 in
theorem puX9_142 : mPu RX9 142 9 10 RX9 TX9 23 tyX9 .int false := ⟨flX9_142, tyX9_ok, nmX9, rfl, tyX9_ok 10 (by decide)⟩
set_option maxRecDepth 20000 in
theorem puX9_154 : mPu RX9 154 9 17 RX9 TX9 23 tyX9 .int false := ⟨flX9_154, tyX9_ok, nmX9, rfl, tyX9_ok 17 (by decide)⟩
set_option maxRecDepth 20000 in
theorem puX9_161 : mPu RX9 161 9 19 RX9 TX9 23 tyX9 .int false := ⟨flX9_161, tyX9_ok, nmX9, rfl, tyX9_ok 19 (by decide)⟩
set_option maxRecDepth 20000 in
theorem puX9_164 : mPu RX9 164 9 18 RX9 TX9 23 tyX9 .int false := ⟨flX9_164, tyX9_ok, nmX9, rfl, tyX9_ok 18 (by decide)⟩
set_option maxRecDepth 20000 in
theorem puX9_170 : mPu RX9 170 9 21 RX9 TX9 23 tyX9 .int false := ⟨flX9_170, tyX9_ok, nmX9, rfl, tyX9_ok 21 (by decide)⟩
set_option maxRecDepth 20000 in
theorem puX9_177 : mPu RX9 177 9 22 RX9 TX9 23 tyX9 .int false := ⟨flX9_177, tyX9_ok, nmX9, rfl, tyX9_ok 22 (by decide)⟩
set_option maxRecDepth 20000 in
theorem clX0_29 : mCV RX0 29 RX0 yX0_leaderOf cX0_leaderOf 2 (some .int) 1 := ⟨mT_at 322 rfl rfl, mT_at 323 rfl rfl, mT_at 324 rfl rfl, mT_at 4 rfl rfl, mT_at 325 rfl rfl, rfl, by decide, by decide, by decide +kernel⟩
set_option maxRecDepth 20000 in
theorem clX0_42 : mCV RX0 42 RX1 yX1_forget cX1_forget 1 none 0 := ⟨mT_at 335 rfl rfl, mT_at 336 rfl rfl, mT_at 337 rfl rfl, mT_at 3 rfl rfl, mT_at 338 rfl rfl, rfl, by decide, by decide, by decide +kernel⟩
set_option maxRecDepth 20000 in
theorem clX0_51 : mCV RX0 51 RX1 yX1_learn cX1_learn 2 none 1 := ⟨mT_at 342 rfl rfl, mT_at 343 rfl rfl, mT_at 344 rfl rfl, mT_at 3 rfl rfl, mT_at 345 rfl rfl, rfl, by decide, by decide, by decide +kernel⟩
set_option maxRecDepth 20000 in
theorem clX0_58 : mCV RX0 58 RX0 yX0_leads cX0_leads 2 (some .boolean) 1 := ⟨mT_at 655 rfl rfl, mT_at 450 rfl rfl, mT_at 451 rfl rfl, mT_at 4 rfl rfl, mT_at 452 rfl rfl, rfl, by decide, by decide, by decide +kernel⟩
set_option maxRecDepth 20000 in
theorem clX1_37 : mCS RX1 37 yX1_forgetRow cX1_forgetRow 2 none 1 := ⟨mT_at 339 rfl rfl, mT_at 340 rfl rfl, mT_at 3 rfl rfl, mT_at 341 rfl rfl, by decide, by decide, by decide +kernel⟩
set_option maxRecDepth 20000 in
theorem clX1_50 : mCS RX1 50 yX1_learnRow cX1_learnRow 3 none 2 := ⟨mT_at 348 rfl rfl, mT_at 349 rfl rfl, mT_at 3 rfl rfl, mT_at 350 rfl rfl, by decide, by decide, by decide +kernel⟩
set_option maxRecDepth 20000 in
theorem clX1_54 : mCN RX1 54 cX8_within 3 (some .boolean) 3 := ⟨by decide, mT_at 290 rfl rfl, mT_at 1 rfl rfl, mT_at 291 rfl rfl, by decide, by decide, by decide +kernel⟩
set_option maxRecDepth 20000 in
theorem clX1_58 : mCV RX1 58 RX1 yX1_sexUnlike cX1_sexUnlike 2 (some .boolean) 1 := ⟨mT_at 403 rfl rfl, mT_at 352 rfl rfl, mT_at 353 rfl rfl, mT_at 3 rfl rfl, mT_at 354 rfl rfl, rfl, by decide, by decide, by decide +kernel⟩
set_option maxRecDepth 20000 in
theorem clX1_62 : mCV RX1 62 RX1 yX1_ageMeets cX1_ageMeets 2 (some .boolean) 1 := ⟨mT_at 404 rfl rfl, mT_at 356 rfl rfl, mT_at 357 rfl rfl, mT_at 3 rfl rfl, mT_at 358 rfl rfl, rfl, by decide, by decide, by decide +kernel⟩
set_option maxRecDepth 20000 in
theorem clX1_65 : mCV RX1 65 RX1 yX1_toothCameBack cX1_toothCameBack 3 (some .boolean) 1 := ⟨mT_at 405 rfl rfl, mT_at 407 rfl rfl, mT_sat 2 rfl rfl, mT_at 3 rfl rfl, mT_at 408 rfl rfl, rfl, by decide, by decide, by decide +kernel⟩
set_option maxRecDepth 20000 in
theorem clX1_68 : mCV RX1 68 RX1 yX1_sheetUnlike cX1_sheetUnlike 5 (some .boolean) 1 := ⟨mT_at 409 rfl rfl, mT_at 360 rfl rfl, mT_at 361 rfl rfl, mT_at 3 rfl rfl, mT_at 362 rfl rfl, rfl, by decide, by decide, by decide +kernel⟩
set_option maxRecDepth 20000 in
theorem clX1_71 : mCV RX1 71 RX1 yX1_strangeToParent cX1_strangeToParent 5 (some .boolean) 1 := ⟨mT_at 410 rfl rfl, mT_at 412 rfl rfl, mT_sat 3 rfl rfl, mT_at 3 rfl rfl, mT_at 413 rfl rfl, rfl, by decide, by decide, by decide +kernel⟩
set_option maxRecDepth 20000 in
theorem clX1_74 : mCS RX1 74 yX1_has cX1_has 2 (some .boolean) 2 := ⟨mT_at 414 rfl rfl, mT_at 415 rfl rfl, mT_at 3 rfl rfl, mT_at 416 rfl rfl, by decide, by decide, by decide +kernel⟩
set_option maxRecDepth 20000 in
theorem clX3_27 : mCV RX3 27 RX1 yX1_barFrom cX1_barFrom 2 (some .int) 1 := ⟨mT_at 425 rfl rfl, mT_at 400 rfl rfl, mT_at 401 rfl rfl, mT_at 3 rfl rfl, mT_at 402 rfl rfl, rfl, by decide, by decide, by decide +kernel⟩
set_option maxRecDepth 20000 in
theorem clX3_34 : mCV RX3 34 RX3 yX3_weighTeeth cX3_weighTeeth 6 (some .int) 2 := ⟨mT_at 427 rfl rfl, mT_at 429 rfl rfl, mT_sat 4 rfl rfl, mT_at 9 rfl rfl, mT_at 430 rfl rfl, rfl, by decide, by decide, by decide +kernel⟩
set_option maxRecDepth 20000 in
theorem clX3_38 : mCV RX3 38 RX3 yX3_weighMarks cX3_weighMarks 5 (some .int) 2 := ⟨mT_at 432 rfl rfl, mT_at 434 rfl rfl, mT_sat 5 rfl rfl, mT_at 9 rfl rfl, mT_at 435 rfl rfl, rfl, by decide, by decide, by decide +kernel⟩
set_option maxRecDepth 20000 in
theorem clX3_41 : mCV RX3 41 RX3 yX3_weighSheets cX3_weighSheets 6 (some .int) 2 := ⟨mT_at 436 rfl rfl, mT_at 438 rfl rfl, mT_sat 6 rfl rfl, mT_at 9 rfl rfl, mT_at 439 rfl rfl, rfl, by decide, by decide, by decide +kernel⟩
set_option maxRecDepth 20000 in
theorem clX3_47 : mCN RX3 47 cX8_within 3 (some .boolean) 3 := ⟨by decide, mT_at 290 rfl rfl, mT_at 1 rfl rfl, mT_at 291 rfl rfl, by decide, by decide, by decide +kernel⟩
set_option maxRecDepth 20000 in
theorem clX4_45 : mCV RX4 45 RX4 yX4_appraise cX4_appraise 6 none 0 := ⟨mT_at 461 rfl rfl, mT_at 463 rfl rfl, mT_sat 8 rfl rfl, mT_at 6 rfl rfl, mT_at 464 rfl rfl, rfl, by decide, by decide, by decide +kernel⟩
set_option maxRecDepth 20000 in
theorem clX4_48 : mCV RX4 48 RX4 yX4_place cX4_place 5 none 1 := ⟨mT_at 467 rfl rfl, mT_at 469 rfl rfl, mT_sat 9 rfl rfl, mT_at 6 rfl rfl, mT_at 470 rfl rfl, rfl, by decide, by decide, by decide +kernel⟩
set_option maxRecDepth 20000 in
theorem clX4_52 : mCV RX4 52 RX4 yX4_readOff cX4_readOff 3 none 0 := ⟨mT_at 484 rfl rfl, mT_at 486 rfl rfl, mT_sat 13 rfl rfl, mT_at 6 rfl rfl, mT_at 487 rfl rfl, rfl, by decide, by decide, by decide +kernel⟩
set_option maxRecDepth 20000 in
theorem clX4_59 : mCV RX4 59 RX4 yX4_settle cX4_settle 2 none 0 := ⟨mT_at 496 rfl rfl, mT_at 458 rfl rfl, mT_at 459 rfl rfl, mT_at 6 rfl rfl, mT_at 460 rfl rfl, rfl, by decide, by decide, by decide +kernel⟩
set_option maxRecDepth 20000 in
theorem clX4_68 : mCV RX4 68 RX4 yX4_measure cX4_measure 6 none 1 := ⟨mT_at 472 rfl rfl, mT_at 474 rfl rfl, mT_sat 10 rfl rfl, mT_at 6 rfl rfl, mT_at 475 rfl rfl, rfl, by decide, by decide, by decide +kernel⟩
set_option maxRecDepth 20000 in
theorem clX4_71 : mCV RX4 71 RX4 yX4_nearest cX4_nearest 3 (some .int) 0 := ⟨mT_at 476 rfl rfl, mT_at 478 rfl rfl, mT_sat 11 rfl rfl, mT_at 6 rfl rfl, mT_at 479 rfl rfl, rfl, by decide, by decide, by decide +kernel⟩
set_option maxRecDepth 20000 in
theorem clX4_75 : mCV RX4 75 RX4 yX4_shiftPrices cX4_shiftPrices 4 none 1 := ⟨mT_at 480 rfl rfl, mT_at 482 rfl rfl, mT_sat 12 rfl rfl, mT_at 6 rfl rfl, mT_at 483 rfl rfl, rfl, by decide, by decide, by decide +kernel⟩
set_option maxRecDepth 20000 in
theorem clX5_31 : mCV RX5 31 RX3 yX3_reset cX3_reset 2 none 0 := ⟨mT_at 553 rfl rfl, mT_at 217 rfl rfl, mT_at 218 rfl rfl, mT_at 9 rfl rfl, mT_at 219 rfl rfl, rfl, by decide, by decide, by decide +kernel⟩
set_option maxRecDepth 20000 in
theorem clX5_36 : mCV RX5 36 RX5 yX5_skipBlanks cX5_skipBlanks 1 none 0 := ⟨mT_at 554 rfl rfl, mT_at 556 rfl rfl, mT_sat 15 rfl rfl, mT_at 8 rfl rfl, mT_at 557 rfl rfl, rfl, by decide, by decide, by decide +kernel⟩
set_option maxRecDepth 20000 in
theorem clX5_39 : mCV RX5 39 RX5 yX5_takeStatement cX5_takeStatement 2 (some .boolean) 1 := ⟨mT_at 558 rfl rfl, mT_at 560 rfl rfl, mT_sat 16 rfl rfl, mT_at 8 rfl rfl, mT_at 561 rfl rfl, rfl, by decide, by decide, by decide +kernel⟩
set_option maxRecDepth 20000 in
theorem clX5_79 : mCV RX5 79 RX5 yX5_takeNumber cX5_takeNumber 6 (some .boolean) 2 := ⟨mT_at 624 rfl rfl, mT_at 626 rfl rfl, mT_sat 20 rfl rfl, mT_at 8 rfl rfl, mT_at 627 rfl rfl, rfl, by decide, by decide, by decide +kernel⟩
set_option maxRecDepth 20000 in
theorem clX5_88 : mCV RX5 88 RX5 yX5_takeEnd cX5_takeEnd 1 (some .boolean) 0 := ⟨mT_at 629 rfl rfl, mT_at 631 rfl rfl, mT_sat 21 rfl rfl, mT_at 8 rfl rfl, mT_at 632 rfl rfl, rfl, by decide, by decide, by decide +kernel⟩
set_option maxRecDepth 20000 in
theorem clX5_92 : mCV RX5 92 RX5 yX5_endOfRun cX5_endOfRun 4 (some .int) 2 := ⟨mT_at 567 rfl rfl, mT_at 569 rfl rfl, mT_sat 18 rfl rfl, mT_at 8 rfl rfl, mT_at 570 rfl rfl, rfl, by decide, by decide, by decide +kernel⟩
set_option maxRecDepth 20000 in
theorem clX5_105 : mCN RX5 105 cX8_within 3 (some .boolean) 3 := ⟨by decide, mT_at 290 rfl rfl, mT_at 1 rfl rfl, mT_at 291 rfl rfl, by decide, by decide, by decide +kernel⟩
set_option maxRecDepth 20000 in
theorem clX6_22 : mCS RX6 22 yX6_pairOf cX6_pairOf 2 (some .int) 2 := ⟨mT_at 505 rfl rfl, mT_at 506 rfl rfl, mT_at 5 rfl rfl, mT_at 507 rfl rfl, by decide, by decide, by decide +kernel⟩
set_option maxRecDepth 20000 in
theorem clX8_71 : mCV RX8 71 RX2 yX2_open cX2_open 1 (some .int) 0 := ⟨mT_at 273 rfl rfl, mT_at 274 rfl rfl, mT_at 275 rfl rfl, mT_at 2 rfl rfl, mT_at 276 rfl rfl, rfl, by decide, by decide, by decide +kernel⟩
set_option maxRecDepth 20000 in
theorem clX8_78 : mCV RX8 78 RX8 yX8_cardOf cX8_cardOf 3 (some (.object "NamedAgain$Card")) 2 := ⟨mT_at 281 rfl rfl, mT_at 283 rfl rfl, mT_sat 0 rfl rfl, mT_at 1 rfl rfl, mT_at 284 rfl rfl, rfl, by decide, by decide, by decide +kernel⟩
set_option maxRecDepth 20000 in
theorem clX8_82 : mCS RX8 82 yX8_within cX8_within 3 (some .boolean) 3 := ⟨mT_at 289 rfl rfl, mT_at 290 rfl rfl, mT_at 1 rfl rfl, mT_at 291 rfl rfl, by decide, by decide, by decide +kernel⟩
set_option maxRecDepth 20000 in
theorem clX8_118 : mCV RX8 118 RX2 yX2_find cX2_find 2 (some (.object "NamedAgain$Card")) 1 := ⟨mT_at 285 rfl rfl, mT_at 286 rfl rfl, mT_at 287 rfl rfl, mT_at 2 rfl rfl, mT_at 288 rfl rfl, rfl, by decide, by decide, by decide +kernel⟩
set_option maxRecDepth 20000 in
theorem clX8_122 : mCV RX8 122 RX0 yX0_piecesBeside cX0_piecesBeside 5 (some .int) 1 := ⟨mT_at 318 rfl rfl, mT_at 319 rfl rfl, mT_at 320 rfl rfl, mT_at 4 rfl rfl, mT_at 321 rfl rfl, rfl, by decide, by decide, by decide +kernel⟩
set_option maxRecDepth 20000 in
theorem clX8_129 : mCV RX8 129 RX0 yX0_leaderOf cX0_leaderOf 2 (some .int) 1 := ⟨mT_at 330 rfl rfl, mT_at 323 rfl rfl, mT_at 324 rfl rfl, mT_at 4 rfl rfl, mT_at 325 rfl rfl, rfl, by decide, by decide, by decide +kernel⟩
set_option maxRecDepth 20000 in
theorem clX8_132 : mCV RX8 132 RX0 yX0_gather cX0_gather 4 none 2 := ⟨mT_at 331 rfl rfl, mT_at 332 rfl rfl, mT_at 333 rfl rfl, mT_at 4 rfl rfl, mT_at 334 rfl rfl, rfl, by decide, by decide, by decide +kernel⟩
set_option maxRecDepth 20000 in
theorem clX8_136 : mCV RX8 136 RX1 yX1_sexUnlike cX1_sexUnlike 2 (some .boolean) 1 := ⟨mT_at 351 rfl rfl, mT_at 352 rfl rfl, mT_at 353 rfl rfl, mT_at 3 rfl rfl, mT_at 354 rfl rfl, rfl, by decide, by decide, by decide +kernel⟩
set_option maxRecDepth 20000 in
theorem clX8_140 : mCV RX8 140 RX1 yX1_ageMeets cX1_ageMeets 2 (some .boolean) 1 := ⟨mT_at 355 rfl rfl, mT_at 356 rfl rfl, mT_at 357 rfl rfl, mT_at 3 rfl rfl, mT_at 358 rfl rfl, rfl, by decide, by decide, by decide +kernel⟩
set_option maxRecDepth 20000 in
theorem clX8_143 : mCV RX8 143 RX1 yX1_sheetUnlike cX1_sheetUnlike 5 (some .boolean) 1 := ⟨mT_at 359 rfl rfl, mT_at 360 rfl rfl, mT_at 361 rfl rfl, mT_at 3 rfl rfl, mT_at 362 rfl rfl, rfl, by decide, by decide, by decide +kernel⟩
set_option maxRecDepth 20000 in
theorem clX8_149 : mCV RX8 149 RX8 yX8_unfit cX8_unfit 5 (some .int) 2 := ⟨mT_at 367 rfl rfl, mT_at 327 rfl rfl, mT_at 328 rfl rfl, mT_at 1 rfl rfl, mT_at 329 rfl rfl, rfl, by decide, by decide, by decide +kernel⟩
set_option maxRecDepth 20000 in
theorem clX8_152 : mCV RX8 152 RX0 yX0_unite cX0_unite 6 none 2 := ⟨mT_at 368 rfl rfl, mT_at 369 rfl rfl, mT_at 370 rfl rfl, mT_at 4 rfl rfl, mT_at 371 rfl rfl, rfl, by decide, by decide, by decide +kernel⟩
set_option maxRecDepth 20000 in
theorem clX8_156 : mCV RX8 156 RX0 yX0_sizeOf cX0_sizeOf 4 (some .int) 1 := ⟨mT_at 382 rfl rfl, mT_at 383 rfl rfl, mT_at 384 rfl rfl, mT_at 4 rfl rfl, mT_at 385 rfl rfl, rfl, by decide, by decide, by decide +kernel⟩
set_option maxRecDepth 20000 in
theorem clX8_159 : mCV RX8 159 RX1 yX1_answer cX1_answer 2 (some .int) 1 := ⟨mT_at 386 rfl rfl, mT_at 387 rfl rfl, mT_at 388 rfl rfl, mT_at 3 rfl rfl, mT_at 389 rfl rfl, rfl, by decide, by decide, by decide +kernel⟩
set_option maxRecDepth 20000 in
theorem clX8_162 : mCV RX8 162 RX8 yX8_barOf cX8_barOf 3 (some .int) 2 := ⟨mT_at 395 rfl rfl, mT_at 397 rfl rfl, mT_sat 1 rfl rfl, mT_at 1 rfl rfl, mT_at 398 rfl rfl, rfl, by decide, by decide, by decide +kernel⟩
set_option maxRecDepth 20000 in
theorem clX8_166 : mCV RX8 166 RX3 yX3_weigh cX3_weigh 3 (some .int) 2 := ⟨mT_at 421 rfl rfl, mT_at 422 rfl rfl, mT_at 423 rfl rfl, mT_at 9 rfl rfl, mT_at 424 rfl rfl, rfl, by decide, by decide, by decide +kernel⟩
set_option maxRecDepth 20000 in
theorem clX8_171 : mCV RX8 171 RX8 yX8_pairUp cX8_pairUp 6 none 0 := ⟨mT_at 445 rfl rfl, mT_at 447 rfl rfl, mT_sat 7 rfl rfl, mT_at 1 rfl rfl, mT_at 448 rfl rfl, rfl, by decide, by decide, by decide +kernel⟩
set_option maxRecDepth 20000 in
theorem clX8_180 : mCV RX8 180 RX4 yX4_lossWithout cX4_lossWithout 3 (some .int) 1 := ⟨mT_at 492 rfl rfl, mT_at 493 rfl rfl, mT_at 494 rfl rfl, mT_at 6 rfl rfl, mT_at 495 rfl rfl, rfl, by decide, by decide, by decide +kernel⟩
set_option maxRecDepth 20000 in
theorem clX8_183 : mCV RX8 183 RX6 yX6_bears cX6_bears 5 (some .boolean) 3 := ⟨mT_at 501 rfl rfl, mT_at 502 rfl rfl, mT_at 503 rfl rfl, mT_at 5 rfl rfl, mT_at 504 rfl rfl, rfl, by decide, by decide, by decide +kernel⟩
set_option maxRecDepth 20000 in
theorem clX8_186 : mCV RX8 186 RX6 yX6_put cX6_put 4 (some .boolean) 3 := ⟨mT_at 508 rfl rfl, mT_at 509 rfl rfl, mT_at 510 rfl rfl, mT_at 5 rfl rfl, mT_at 511 rfl rfl, rfl, by decide, by decide, by decide +kernel⟩
set_option maxRecDepth 20000 in
theorem clX8_189 : mCV RX8 189 RX6 yX6_personsOn cX6_personsOn 5 (some .int) 2 := ⟨mT_at 512 rfl rfl, mT_at 513 rfl rfl, mT_at 514 rfl rfl, mT_at 5 rfl rfl, mT_at 515 rfl rfl, rfl, by decide, by decide, by decide +kernel⟩
set_option maxRecDepth 20000 in
theorem clX8_199 : mCV RX8 199 RX8 yX8_inDoubt cX8_inDoubt 3 (some .boolean) 1 := ⟨mT_at 524 rfl rfl, mT_at 526 rfl rfl, mT_sat 14 rfl rfl, mT_at 1 rfl rfl, mT_at 527 rfl rfl, rfl, by decide, by decide, by decide +kernel⟩
set_option maxRecDepth 20000 in
theorem clX8_203 : mCV RX8 203 RX7 yX7_hasRoomFor cX7_hasRoomFor 2 (some .boolean) 1 := ⟨mT_at 536 rfl rfl, mT_at 537 rfl rfl, mT_at 538 rfl rfl, mT_at 7 rfl rfl, mT_at 539 rfl rfl, rfl, by decide, by decide, by decide +kernel⟩
set_option maxRecDepth 20000 in
theorem clX8_206 : mCV RX8 206 RX7 yX7_put cX7_put 3 none 1 := ⟨mT_at 540 rfl rfl, mT_at 541 rfl rfl, mT_at 542 rfl rfl, mT_at 7 rfl rfl, mT_at 543 rfl rfl, rfl, by decide, by decide, by decide +kernel⟩
set_option maxRecDepth 20000 in
theorem clX8_216 : mCV RX8 216 RX5 yX5_read cX5_read 6 (some .int) 3 := ⟨mT_at 548 rfl rfl, mT_at 549 rfl rfl, mT_at 550 rfl rfl, mT_at 8 rfl rfl, mT_at 551 rfl rfl, rfl, by decide, by decide, by decide +kernel⟩
set_option maxRecDepth 20000 in
theorem clX8_226 : mCV RX8 226 RX0 yX0_howMany cX0_howMany 3 (some .int) 0 := ⟨mT_at 651 rfl rfl, mT_at 652 rfl rfl, mT_at 653 rfl rfl, mT_at 4 rfl rfl, mT_at 654 rfl rfl, rfl, by decide, by decide, by decide +kernel⟩
set_option maxRecDepth 20000 in
theorem clX8_229 : mCV RX8 229 RX0 yX0_howManyNamed cX0_howManyNamed 3 (some .int) 0 := ⟨mT_at 656 rfl rfl, mT_at 657 rfl rfl, mT_at 658 rfl rfl, mT_at 4 rfl rfl, mT_at 659 rfl rfl, rfl, by decide, by decide, by decide +kernel⟩
set_option maxRecDepth 20000 in
theorem clX8_233 : mCV RX8 233 RX8 yX8_howManyInDoubt cX8_howManyInDoubt 3 (some .int) 0 := ⟨mT_at 660 rfl rfl, mT_at 662 rfl rfl, mT_sat 23 rfl rfl, mT_at 1 rfl rfl, mT_at 663 rfl rfl, rfl, by decide, by decide, by decide +kernel⟩
set_option maxRecDepth 20000 in
theorem clX8_236 : mCV RX8 236 RX8 yX8_howManyUnpaired cX8_howManyUnpaired 3 (some .int) 0 := ⟨mT_at 664 rfl rfl, mT_at 666 rfl rfl, mT_sat 24 rfl rfl, mT_at 1 rfl rfl, mT_at 667 rfl rfl, rfl, by decide, by decide, by decide +kernel⟩
set_option maxRecDepth 20000 in
theorem clX8_239 : mCV RX8 239 RX1 yX1_barFrom cX1_barFrom 2 (some .int) 1 := ⟨mT_at 399 rfl rfl, mT_at 400 rfl rfl, mT_at 401 rfl rfl, mT_at 3 rfl rfl, mT_at 402 rfl rfl, rfl, by decide, by decide, by decide +kernel⟩
set_option maxRecDepth 20000 in
theorem clX8_243 : mCV RX8 243 RX0 yX0_leads cX0_leads 2 (some .boolean) 1 := ⟨mT_at 449 rfl rfl, mT_at 450 rfl rfl, mT_at 451 rfl rfl, mT_at 4 rfl rfl, mT_at 452 rfl rfl, rfl, by decide, by decide, by decide +kernel⟩
set_option maxRecDepth 20000 in
theorem clX8_246 : mCV RX8 246 RX0 yX0_hasGiven cX0_hasGiven 3 (some .boolean) 1 := ⟨mT_at 453 rfl rfl, mT_at 454 rfl rfl, mT_at 455 rfl rfl, mT_at 4 rfl rfl, mT_at 456 rfl rfl, rfl, by decide, by decide, by decide +kernel⟩
set_option maxRecDepth 20000 in
theorem clX8_249 : mCV RX8 249 RX4 yX4_settle cX4_settle 2 none 0 := ⟨mT_at 457 rfl rfl, mT_at 458 rfl rfl, mT_at 459 rfl rfl, mT_at 6 rfl rfl, mT_at 460 rfl rfl, rfl, by decide, by decide, by decide +kernel⟩
set_option maxRecDepth 20000 in
theorem clX9_64 : mCS RX9 64 yX9_isIn cX9_isIn 3 (some .boolean) 3 := ⟨mT_at 749 rfl rfl, mT_at 750 rfl rfl, mT_at 10 rfl rfl, mT_at 751 rfl rfl, by decide, by decide, by decide +kernel⟩
set_option maxRecDepth 20000 in
theorem clX9_68 : mCV RX9 68 RX9 yX9_isFile cX9_isFile 3 (some .boolean) 2 := ⟨mT_at 756 rfl rfl, mT_at 758 rfl rfl, mT_sat 25 rfl rfl, mT_at 10 rfl rfl, mT_at 759 rfl rfl, rfl, by decide, by decide, by decide +kernel⟩
set_option maxRecDepth 20000 in
theorem clX9_72 : mCV RX9 72 RX9 yX9_mends cX9_mends 5 (some .boolean) 4 := ⟨mT_at 760 rfl rfl, mT_at 762 rfl rfl, mT_sat 26 rfl rfl, mT_at 10 rfl rfl, mT_at 763 rfl rfl, rfl, by decide, by decide, by decide +kernel⟩
set_option maxRecDepth 20000 in
theorem clX9_85 : mCV RX9 85 RX9 yX9_piecesOf cX9_piecesOf 4 (some .int) 1 := ⟨mT_at 786 rfl rfl, mT_at 788 rfl rfl, mT_sat 27 rfl rfl, mT_at 10 rfl rfl, mT_at 789 rfl rfl, rfl, by decide, by decide, by decide +kernel⟩
set_option maxRecDepth 20000 in
theorem clX9_89 : mCV RX9 89 RX9 yX9_ofBody cX9_ofBody 5 (some .int) 2 := ⟨mT_at 794 rfl rfl, mT_at 796 rfl rfl, mT_sat 28 rfl rfl, mT_at 10 rfl rfl, mT_at 797 rfl rfl, rfl, by decide, by decide, by decide +kernel⟩
set_option maxRecDepth 20000 in
theorem clX9_92 : mCS RX9 92 yX9_areUnlike cX9_areUnlike 2 (some .boolean) 2 := ⟨mT_at 798 rfl rfl, mT_at 799 rfl rfl, mT_at 10 rfl rfl, mT_at 800 rfl rfl, by decide, by decide, by decide +kernel⟩
set_option maxRecDepth 20000 in
theorem clX9_95 : mCV RX9 95 RX9 yX9_ageOf cX9_ageOf 5 (some .int) 2 := ⟨mT_at 801 rfl rfl, mT_at 803 rfl rfl, mT_sat 29 rfl rfl, mT_at 10 rfl rfl, mT_at 804 rfl rfl, rfl, by decide, by decide, by decide +kernel⟩
set_option maxRecDepth 20000 in
theorem clX9_99 : mCV RX9 99 RX9 yX9_unfit cX9_unfit 6 (some .int) 2 := ⟨mT_at 809 rfl rfl, mT_at 791 rfl rfl, mT_at 792 rfl rfl, mT_at 10 rfl rfl, mT_at 793 rfl rfl, rfl, by decide, by decide, by decide +kernel⟩
set_option maxRecDepth 20000 in
theorem clX9_102 : mCS RX9 102 yX9_one cX9_one 1 (some .int) 1 := ⟨mT_at 822 rfl rfl, mT_at 823 rfl rfl, mT_at 10 rfl rfl, mT_at 824 rfl rfl, by decide, by decide, by decide +kernel⟩
set_option maxRecDepth 20000 in
theorem clX9_106 : mCV RX9 106 RX9 yX9_sizeOf cX9_sizeOf 4 (some .int) 1 := ⟨mT_at 818 rfl rfl, mT_at 820 rfl rfl, mT_sat 30 rfl rfl, mT_at 10 rfl rfl, mT_at 821 rfl rfl, rfl, by decide, by decide, by decide +kernel⟩
set_option maxRecDepth 20000 in
theorem clX9_109 : mCV RX9 109 RX9 yX9_ofMissing cX9_ofMissing 3 (some .int) 2 := ⟨mT_at 837 rfl rfl, mT_at 839 rfl rfl, mT_sat 33 rfl rfl, mT_at 10 rfl rfl, mT_at 840 rfl rfl, rfl, by decide, by decide, by decide +kernel⟩
set_option maxRecDepth 20000 in
theorem clX9_112 : mCS RX9 112 yX9_sharesNone cX9_sharesNone 2 (some .boolean) 2 := ⟨mT_at 841 rfl rfl, mT_at 842 rfl rfl, mT_at 10 rfl rfl, mT_at 843 rfl rfl, by decide, by decide, by decide +kernel⟩
set_option maxRecDepth 20000 in
theorem clX9_115 : mCV RX9 115 RX9 yX9_isPair cX9_isPair 3 (some .boolean) 2 := ⟨mT_at 829 rfl rfl, mT_at 831 rfl rfl, mT_sat 31 rfl rfl, mT_at 10 rfl rfl, mT_at 832 rfl rfl, rfl, by decide, by decide, by decide +kernel⟩
set_option maxRecDepth 20000 in
theorem clX9_118 : mCV RX9 118 RX9 yX9_shutOf cX9_shutOf 6 (some .int) 2 := ⟨mT_at 833 rfl rfl, mT_at 835 rfl rfl, mT_sat 32 rfl rfl, mT_at 10 rfl rfl, mT_at 836 rfl rfl, rfl, by decide, by decide, by decide +kernel⟩
set_option maxRecDepth 20000 in
theorem clX9_122 : mCV RX9 122 RX9 yX9_pointsOf cX9_pointsOf 7 (some .int) 2 := ⟨mT_at 848 rfl rfl, mT_at 850 rfl rfl, mT_sat 34 rfl rfl, mT_at 10 rfl rfl, mT_at 851 rfl rfl, rfl, by decide, by decide, by decide +kernel⟩
set_option maxRecDepth 20000 in
theorem clX9_125 : mCV RX9 125 RX9 yX9_isNamed cX9_isNamed 4 (some .boolean) 1 := ⟨mT_at 865 rfl rfl, mT_at 867 rfl rfl, mT_sat 37 rfl rfl, mT_at 10 rfl rfl, mT_at 868 rfl rfl, rfl, by decide, by decide, by decide +kernel⟩
set_option maxRecDepth 20000 in
theorem clX9_129 : mCV RX9 129 RX9 yX9_measures cX9_measures 4 none 0 := ⟨mT_at 861 rfl rfl, mT_at 863 rfl rfl, mT_sat 36 rfl rfl, mT_at 10 rfl rfl, mT_at 864 rfl rfl, rfl, by decide, by decide, by decide +kernel⟩
set_option maxRecDepth 20000 in
theorem clX9_132 : mCV RX9 132 RX9 yX9_pairs cX9_pairs 7 (some .int) 0 := ⟨mT_at 869 rfl rfl, mT_at 871 rfl rfl, mT_sat 38 rfl rfl, mT_at 10 rfl rfl, mT_at 872 rfl rfl, rfl, by decide, by decide, by decide +kernel⟩
set_option maxRecDepth 20000 in
theorem clX9_136 : mCV RX9 136 RX9 yX9_shares cX9_shares 4 none 0 := ⟨mT_at 857 rfl rfl, mT_at 859 rfl rfl, mT_sat 35 rfl rfl, mT_at 10 rfl rfl, mT_at 860 rfl rfl, rfl, by decide, by decide, by decide +kernel⟩
set_option maxRecDepth 20000 in
theorem clX9_139 : mCV RX9 139 RX9 yX9_marginOf cX9_marginOf 6 (some .int) 1 := ⟨mT_at 877 rfl rfl, mT_at 879 rfl rfl, mT_sat 39 rfl rfl, mT_at 10 rfl rfl, mT_at 880 rfl rfl, rfl, by decide, by decide, by decide +kernel⟩
set_option maxRecDepth 20000 in
theorem clX9_145 : mCV RX9 145 RX9 yX9_sealed cX9_sealed 5 (some .int) 2 := ⟨mT_at 885 rfl rfl, mT_at 887 rfl rfl, mT_sat 40 rfl rfl, mT_at 10 rfl rfl, mT_at 888 rfl rfl, rfl, by decide, by decide, by decide +kernel⟩
set_option maxRecDepth 20000 in
theorem clX9_148 : mCS RX9 148 yX9_bits cX9_bits 3 (some .int) 1 := ⟨mT_at 889 rfl rfl, mT_at 890 rfl rfl, mT_at 10 rfl rfl, mT_at 891 rfl rfl, by decide, by decide, by decide +kernel⟩
set_option maxRecDepth 20000 in
theorem clX9_151 : mCV RX9 151 RX9 yX9_isDoubted cX9_isDoubted 2 (some .boolean) 1 := ⟨mT_at 900 rfl rfl, mT_at 902 rfl rfl, mT_sat 41 rfl rfl, mT_at 10 rfl rfl, mT_at 903 rfl rfl, rfl, by decide, by decide, by decide +kernel⟩
set_option maxRecDepth 20000 in
theorem clX9_157 : mCV RX9 157 RX9 yX9_four cX9_four 3 none 1 := ⟨mT_at 912 rfl rfl, mT_at 914 rfl rfl, mT_sat 42 rfl rfl, mT_at 10 rfl rfl, mT_at 915 rfl rfl, rfl, by decide, by decide, by decide +kernel⟩
set_option maxRecDepth 20000 in
theorem clX9_167 : mCV RX9 167 RX9 yX9_blanks cX9_blanks 1 none 0 := ⟨mT_at 923 rfl rfl, mT_at 925 rfl rfl, mT_sat 43 rfl rfl, mT_at 10 rfl rfl, mT_at 926 rfl rfl, rfl, by decide, by decide, by decide +kernel⟩
set_option maxRecDepth 20000 in
theorem clX9_173 : mCV RX9 173 RX9 yX9_word cX9_word 3 (some .long) 0 := ⟨mT_at 936 rfl rfl, mT_at 938 rfl rfl, mT_sat 46 rfl rfl, mT_at 10 rfl rfl, mT_at 939 rfl rfl, rfl, by decide, by decide, by decide +kernel⟩
set_option maxRecDepth 20000 in
theorem clX9_182 : mCV RX9 182 RX9 yX9_takes cX9_takes 3 (some .boolean) 1 := ⟨mT_at 932 rfl rfl, mT_at 934 rfl rfl, mT_sat 45 rfl rfl, mT_at 10 rfl rfl, mT_at 935 rfl rfl, rfl, by decide, by decide, by decide +kernel⟩
set_option maxRecDepth 20000 in
theorem clX9_190 : mCV RX9 190 RX9 yX9_takesNumber cX9_takesNumber 4 (some .boolean) 2 := ⟨mT_at 942 rfl rfl, mT_at 944 rfl rfl, mT_sat 47 rfl rfl, mT_at 10 rfl rfl, mT_at 945 rfl rfl, rfl, by decide, by decide, by decide +kernel⟩
set_option maxRecDepth 20000 in
theorem clX9_203 : mCS RX9 203 yX9_plain cX9_plain 1 (some .int) 1 := ⟨mT_at 920 rfl rfl, mT_at 921 rfl rfl, mT_at 10 rfl rfl, mT_at 922 rfl rfl, by decide, by decide, by decide +kernel⟩
set_option maxRecDepth 20000 in
theorem clX9_206 : mCV RX9 206 RX9 yX9_statement cX9_statement 3 (some .boolean) 0 := ⟨mT_at 927 rfl rfl, mT_at 929 rfl rfl, mT_sat 44 rfl rfl, mT_at 10 rfl rfl, mT_at 930 rfl rfl, rfl, by decide, by decide, by decide +kernel⟩
set_option maxRecDepth 20000 in
theorem clX9_210 : mCV RX9 210 RX9 yX9_names cX9_names 4 (some .int) 1 := ⟨mT_at 963 rfl rfl, mT_at 965 rfl rfl, mT_sat 49 rfl rfl, mT_at 10 rfl rfl, mT_at 966 rfl rfl, rfl, by decide, by decide, by decide +kernel⟩
set_option maxRecDepth 20000 in
theorem clX9_213 : mCV RX9 213 RX9 yX9_bodies cX9_bodies 3 (some .int) 0 := ⟨mT_at 959 rfl rfl, mT_at 961 rfl rfl, mT_sat 48 rfl rfl, mT_at 10 rfl rfl, mT_at 962 rfl rfl, rfl, by decide, by decide, by decide +kernel⟩
set_option maxRecDepth 20000 in
theorem clX9_216 : mCV RX9 216 RX9 yX9_alone cX9_alone 3 (some .int) 0 := ⟨mT_at 967 rfl rfl, mT_at 969 rfl rfl, mT_sat 50 rfl rfl, mT_at 10 rfl rfl, mT_at 970 rfl rfl, rfl, by decide, by decide, by decide +kernel⟩
set_option maxRecDepth 20000 in
theorem mhX0_33 : mMh RX0 33 Lib.Math.min.name Lib.Math.min.code := ⟨mT_at 372 rfl rfl, mT_at 309 rfl rfl, mT_at 11 rfl rfl, mT_at 310 rfl rfl⟩
set_option maxRecDepth 20000 in
theorem mhX0_39 : mMh RX0 39 Lib.Math.max.name Lib.Math.max.code := ⟨mT_at 373 rfl rfl, mT_at 312 rfl rfl, mT_at 11 rfl rfl, mT_at 313 rfl rfl⟩
set_option maxRecDepth 20000 in
theorem mhX1_41 : mMh RX1 41 Lib.Math.max.name Lib.Math.max.code := ⟨mT_at 346 rfl rfl, mT_at 312 rfl rfl, mT_at 11 rfl rfl, mT_at 313 rfl rfl⟩
set_option maxRecDepth 20000 in
theorem mhX1_47 : mMh RX1 47 Lib.Math.min.name Lib.Math.min.code := ⟨mT_at 347 rfl rfl, mT_at 309 rfl rfl, mT_at 11 rfl rfl, mT_at 310 rfl rfl⟩
set_option maxRecDepth 20000 in
theorem mhX5_19 : mMh RX5 19 Lib.Math.min.name Lib.Math.min.code := ⟨mT_at 552 rfl rfl, mT_at 309 rfl rfl, mT_at 11 rfl rfl, mT_at 310 rfl rfl⟩
set_option maxRecDepth 20000 in
theorem mhX8_109 : mMh RX8 109 Lib.Math.min.name Lib.Math.min.code := ⟨mT_at 308 rfl rfl, mT_at 309 rfl rfl, mT_at 11 rfl rfl, mT_at 310 rfl rfl⟩
set_option maxRecDepth 20000 in
theorem mhX8_115 : mMh RX8 115 Lib.Math.max.name Lib.Math.max.code := ⟨mT_at 311 rfl rfl, mT_at 312 rfl rfl, mT_at 11 rfl rfl, mT_at 313 rfl rfl⟩
set_option maxRecDepth 20000 in
theorem mhX9_76 : mMh RX9 76 Lib.Math.min.name Lib.Math.min.code := ⟨mT_at 780 rfl rfl, mT_at 309 rfl rfl, mT_at 11 rfl rfl, mT_at 310 rfl rfl⟩
set_option maxRecDepth 20000 in
theorem mhX9_82 : mMh RX9 82 Lib.Math.max.name Lib.Math.max.code := ⟨mT_at 781 rfl rfl, mT_at 312 rfl rfl, mT_at 11 rfl rfl, mT_at 313 rfl rfl⟩
end
section
def f_X1_forgetRow_L2 (K : mK) (v0 : Nat) (J : mJ) (R : mR) : Nat → Int32 → mI → Option mI
  | 0, _, _ => none
  | N + 1, v1, I =>
  if (K v0).1 = 1 then
  if (nI (K v0).2) ≤ v1 then
  some I
  else
  if mIx K v0 1 v1 then
  (some (mup I v0 (v1).toNatClampNeg (0 : Int32))).bind fun I4 =>
  f_X1_forgetRow_L2 K v0 J R N (v1 + (1 : Int32)) I4
  else none
  else none
def f_X1_forgetRow (K : mK) (a0 : Nat) (I0 : mI) (J0 : mJ) (R0 : mR) : Option mI :=
  (f_X1_forgetRow_L2 K a0 J0 R0 8192 (0 : Int32) I0).bind fun z6 =>
  some z6
set_option maxHeartbeats 4000000 in
set_option maxRecDepth 100000 in
theorem r_X1_forgetRow (l : Launch) (g : mG) (K : mK) (n : Nat) (hJ : mInj g n) (hO : mOk K n) (a0 : Nat) (I0 : mI) (J0 : mJ) (R0 : mR) (out : mI) (hf : f_X1_forgetRow K a0 I0 J0 R0 = some out) : Met l yX1_forgetRow (mWs yX1_forgetRow cX1_forgetRow 2 none) ({ frames := 0, cells := 0, slots := 0, locals := 0 }) (va_Pc [.ref (g.2.1 a0)] (mB g K n I0 J0 R0)) (mQ g K n none out J0 R0) 0 0 (mA g n) := by
  unfold f_X1_forgetRow at hf
  refine mStart RX1 hJ hO (by decide) rfl (Nat.le_of_ble_eq_true rfl) ?_
  intro p e s m below meth c ls Qm hQm B hr hlk hw hl
  have hx := B.1.1
  have hb := B.1.2.1
  have hl : lv_has ls 2 [(0, .ref (g.2.1 a0))] := hl
  have L2 : ∀ (N : Nat) (v0 : Nat) (v1 : Int32) (I : mI) (J : mJ) (R : mR) (z : mI) (H : Heap) (locs : List Loc) (ls : Array Slot), f_X1_forgetRow_L2 K v0 J R N v1 I = some z → mHp g K n s I J R H locs → lv_has ls 2 [(0, .ref (g.2.1 v0)), (1, .int v1)] → (∀ (H : Heap) (locs : List Loc) (ls : Array Slot), mHp g K n s z J R H locs → lv_has ls 2 [] → W p l e ({ frames := 0, cells := 0, slots := 0, locals := 0 } : Room) s m ([.ref (g.2.1 a0)] : List Value).toArray below meth c H locs 0 0 Qm (F0 m 18 ls [])) → W p l e ({ frames := 0, cells := 0, slots := 0, locals := 0 } : Room) s m ([.ref (g.2.1 a0)] : List Value).toArray below meth c H locs 0 0 Qm (F0 m 2 ls []) := by
    intro N
    induction N with
    | zero =>
      intro v0 v1 I J R z H locs ls hf hw hl kx
      rw [f_X1_forgetRow_L2] at hf
      cases hf
    | succ N ih =>
      intro v0 v1 I J R z H locs ls hf hw hl kx
      rw [f_X1_forgetRow_L2] at hf
      refine lv_iload_n hx hb dX1_forgetRow_2 rfl (lv_at hl 1 rfl) ?_
      refine lv_aload_n hx hb dX1_forgetRow_3 rfl (lv_at hl 0 rfl) ?_
      obtain ⟨h1, hf⟩ := mChk hf
      refine mlen1 B hw h1 dX1_forgetRow_4 ?_
      refine lv_icmp_ge (tgt := 18) hx hb dX1_forgetRow_5 (by decide) (fun c2 => ?_) (fun c2 => ?_)
      · replace hf := mT1 c2 hf
        obtain rfl := Option.some.inj hf
        exact kx _ _ _ hw (lv_sub hl [] rfl)
      · replace hf := mF1 c2 hf
        refine lv_aload_n hx hb dX1_forgetRow_8 rfl (lv_at hl 0 rfl) ?_
        refine lv_iload_n hx hb dX1_forgetRow_9 rfl (lv_at hl 1 rfl) ?_
        refine lv_iconst (v := (0 : Int32)) hx hb dX1_forgetRow_10 (by decide) ?_
        obtain ⟨h3, hf⟩ := mChk hf
        obtain ⟨I4, e5, hf⟩ := mLet hf
        refine mst1 B hw h3 dX1_forgetRow_11 (fun H locs hw => ?_)
        rw [← e5] at hw
        refine lv_iinc (v := (v1 + (1 : Int32))) (lv' := [(1, .int (v1 + (1 : Int32))), (0, .ref (g.2.1 v0))]) hx hb dX1_forgetRow_12 hl (k := 1) rfl rfl (by decide) rfl (fun ls hl => ?_)
        refine lv_goto (tgt := 2) hx hb dX1_forgetRow_15 (by decide) ?_
        exact ih v0 (v1 + (1 : Int32)) I4 J R z _ _ _ hf hw (lv_sub hl [1, 0] rfl) kx
  refine lv_iconst (v := (0 : Int32)) hx hb dX1_forgetRow_0 (by decide) ?_
  refine lv_istore_n (lv' := [(1, .int (0 : Int32)), (0, .ref (g.2.1 a0))]) hx hb dX1_forgetRow_1 rfl hl (by decide) rfl (fun ls hl => ?_)
  obtain ⟨z6, e7, hf⟩ := mBind hf
  refine L2 8192 a0 (0 : Int32) I0 J0 R0 z6 _ _ _ e7 hw (lv_sub hl [1, 0] rfl) (fun H locs ls hw hl => ?_)
  rw [hQm, ← Option.some.inj hf]
  exact mrv hx hb hr hlk hw dX1_forgetRow_18
def f_X8_within (K : mK) (a0 : Int32) (a1 : Int32) (a2 : Int32) (I0 : mI) (J0 : mJ) (R0 : mR) : Option Bool :=
  if a0 < a1 then
  some false
  else
  if a2 < a0 then
  some false
  else
  some true
set_option maxHeartbeats 4000000 in
set_option maxRecDepth 100000 in
theorem r_X8_within (l : Launch) (g : mG) (K : mK) (n : Nat) (hJ : mInj g n) (hO : mOk K n) (a0 : Int32) (a1 : Int32) (a2 : Int32) (I0 : mI) (J0 : mJ) (R0 : mR) (out : Bool) (hf : f_X8_within K a0 a1 a2 I0 J0 R0 = some out) : Met l yX8_within (mWs yX8_within cX8_within 3 (some .boolean)) ({ frames := 0, cells := 0, slots := 0, locals := 0 }) (va_Pc [.int a0, .int a1, .int a2] (mB g K n I0 J0 R0)) (mQ g K n (some (.int (mb out))) I0 J0 R0) 0 0 (mA g n) := by
  unfold f_X8_within at hf
  refine mStart RX8 hJ hO (by decide) rfl (Nat.le_of_ble_eq_true rfl) ?_
  intro p e s m below meth c ls Qm hQm B hr hlk hw hl
  have hx := B.1.1
  have hb := B.1.2.1
  have hl : lv_has ls 3 [(0, .int a0), (1, .int a1), (2, .int a2)] := hl
  refine lv_iload_n hx hb dX8_within_0 rfl (lv_at hl 0 rfl) ?_
  refine lv_iload_n hx hb dX8_within_1 rfl (lv_at hl 1 rfl) ?_
  refine lv_icmp_lt (tgt := 14) hx hb dX8_within_2 (by decide) (fun c1 => ?_) (fun c1 => ?_)
  · replace hf := mT1 c1 hf
    refine lv_iconst (v := (0 : Int32)) hx hb dX8_within_14 (by decide) ?_
    rw [hQm, ← Option.some.inj hf]
    exact mrz (v := false) hx hb hr hlk hw dX8_within_15
  · replace hf := mF1 c1 hf
    refine lv_iload_n hx hb dX8_within_5 rfl (lv_at hl 0 rfl) ?_
    refine lv_iload_n hx hb dX8_within_6 rfl (lv_at hl 2 rfl) ?_
    refine lv_icmp_gt (tgt := 14) hx hb dX8_within_7 (by decide) (fun c2 => ?_) (fun c2 => ?_)
    · replace hf := mT1 c2 hf
      refine lv_iconst (v := (0 : Int32)) hx hb dX8_within_14 (by decide) ?_
      rw [hQm, ← Option.some.inj hf]
      exact mrz (v := false) hx hb hr hlk hw dX8_within_15
    · replace hf := mF1 c2 hf
      refine lv_iconst (v := (1 : Int32)) hx hb dX8_within_10 (by decide) ?_
      refine lv_goto (tgt := 15) hx hb dX8_within_11 (by decide) ?_
      rw [hQm, ← Option.some.inj hf]
      exact mrz (v := true) hx hb hr hlk hw dX8_within_15
def f_X1_sexUnlike (K : mK) (a0 : Nat) (a1 : Nat) (I0 : mI) (J0 : mJ) (R0 : mR) : Option Bool :=
  if K a0 = (0, 1) then
  if (I0 a0 0) = 0 then
  some false
  else
  if K a1 = (0, 1) then
  if (I0 a1 0) = 0 then
  some false
  else
  if (I0 a0 0) = (I0 a1 0) then
  some false
  else
  some true
  else none
  else none
set_option maxHeartbeats 4000000 in
set_option maxRecDepth 100000 in
theorem r_X1_sexUnlike (l : Launch) (g : mG) (K : mK) (n : Nat) (hJ : mInj g n) (hO : mOk K n) (a0 : Nat) (a1 : Nat) (I0 : mI) (J0 : mJ) (R0 : mR) (out : Bool) (hf : f_X1_sexUnlike K a0 a1 I0 J0 R0 = some out) : Met l yX1_sexUnlike (mWs yX1_sexUnlike cX1_sexUnlike 2 (some .boolean)) ({ frames := 0, cells := 0, slots := 0, locals := 0 }) (va_Pc [.ref (g.2.1 a0), .ref (g.2.1 a1)] (mB g K n I0 J0 R0)) (mQ g K n (some (.int (mb out))) I0 J0 R0) 0 0 (mA g n) := by
  unfold f_X1_sexUnlike at hf
  refine mStart RX1 hJ hO (by decide) rfl (Nat.le_of_ble_eq_true rfl) ?_
  intro p e s m below meth c ls Qm hQm B hr hlk hw hl
  have hx := B.1.1
  have hb := B.1.2.1
  have hl : lv_has ls 2 [(0, .ref (g.2.1 a0)), (1, .ref (g.2.1 a1))] := hl
  refine lv_aload_n hx hb dX1_sexUnlike_0 rfl (lv_at hl 0 rfl) ?_
  obtain ⟨h1, hf⟩ := mChk hf
  refine mgi B hw flX1_28 rfl h1 dX1_sexUnlike_1 ?_
  refine lv_if_eq (tgt := 29) hx hb dX1_sexUnlike_4 (by decide) (fun c2 => ?_) (fun c2 => ?_)
  · replace hf := mT1 c2 hf
    refine lv_iconst (v := (0 : Int32)) hx hb dX1_sexUnlike_29 (by decide) ?_
    rw [hQm, ← Option.some.inj hf]
    exact mrz (v := false) hx hb hr hlk hw dX1_sexUnlike_30
  · replace hf := mF1 c2 hf
    refine lv_aload_n hx hb dX1_sexUnlike_7 rfl (lv_at hl 1 rfl) ?_
    obtain ⟨h3, hf⟩ := mChk hf
    refine mgi B hw flX1_28 rfl h3 dX1_sexUnlike_8 ?_
    refine lv_if_eq (tgt := 29) hx hb dX1_sexUnlike_11 (by decide) (fun c4 => ?_) (fun c4 => ?_)
    · replace hf := mT1 c4 hf
      refine lv_iconst (v := (0 : Int32)) hx hb dX1_sexUnlike_29 (by decide) ?_
      rw [hQm, ← Option.some.inj hf]
      exact mrz (v := false) hx hb hr hlk hw dX1_sexUnlike_30
    · replace hf := mF1 c4 hf
      refine lv_aload_n hx hb dX1_sexUnlike_14 rfl (lv_at hl 0 rfl) ?_
      refine mgi B hw flX1_28 rfl h1 dX1_sexUnlike_15 ?_
      refine lv_aload_n hx hb dX1_sexUnlike_18 rfl (lv_at hl 1 rfl) ?_
      refine mgi B hw flX1_28 rfl h3 dX1_sexUnlike_19 ?_
      refine lv_icmp_eq (tgt := 29) hx hb dX1_sexUnlike_22 (by decide) (fun c5 => ?_) (fun c5 => ?_)
      · replace hf := mT1 c5 hf
        refine lv_iconst (v := (0 : Int32)) hx hb dX1_sexUnlike_29 (by decide) ?_
        rw [hQm, ← Option.some.inj hf]
        exact mrz (v := false) hx hb hr hlk hw dX1_sexUnlike_30
      · replace hf := mF1 c5 hf
        refine lv_iconst (v := (1 : Int32)) hx hb dX1_sexUnlike_25 (by decide) ?_
        refine lv_goto (tgt := 30) hx hb dX1_sexUnlike_26 (by decide) ?_
        rw [hQm, ← Option.some.inj hf]
        exact mrz (v := true) hx hb hr hlk hw dX1_sexUnlike_30
end

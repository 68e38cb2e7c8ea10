section
-- ===== PART A: goes FIRST, ahead of the names: the tables' words, and 'selects' of the private methods out of them =====
/-- a private method of a class that the tables say can be made, by its rows of tables_1 -/
def lw_okq (q : MethodName × Nat) : Prop := (q.1.cls ≠ "java/lang/invoke/MethodHandle" ∧ q.1.cls ≠ "java/lang/invoke/VarHandle") ∧ Cond.instantiable q.1.cls q.2 ∈ tables_1 ∧ Cond.privateMethod q.1 ∈ tables_1 ∧ Cond.instanceMethod q.1 ∈ tables_1
theorem lw_p0 : lw_okq (⟨"TruePiece$Tape", "readWord", "()V"⟩, 11) := ⟨⟨by decide +kernel, by decide +kernel⟩, List.mem_of_getElem? (i := 26) (by decide +kernel), List.mem_of_getElem? (i := 330) (by decide +kernel), List.mem_of_getElem? (i := 331) (by decide +kernel)⟩
theorem lw_p1 : lw_okq (⟨"TruePiece$Tape", "readNumber", "()V"⟩, 11) := ⟨⟨by decide +kernel, by decide +kernel⟩, List.mem_of_getElem? (i := 26) (by decide +kernel), List.mem_of_getElem? (i := 334) (by decide +kernel), List.mem_of_getElem? (i := 335) (by decide +kernel)⟩
theorem lw_p2 : lw_okq (⟨"TruePiece$StoreReader", "readTable", "(I)V"⟩, 2) := ⟨⟨by decide +kernel, by decide +kernel⟩, List.mem_of_getElem? (i := 299) (by decide +kernel), List.mem_of_getElem? (i := 397) (by decide +kernel), List.mem_of_getElem? (i := 398) (by decide +kernel)⟩
theorem lw_p3 : lw_okq (⟨"TruePiece$StoreReader", "readColumn", "(I)V"⟩, 2) := ⟨⟨by decide +kernel, by decide +kernel⟩, List.mem_of_getElem? (i := 299) (by decide +kernel), List.mem_of_getElem? (i := 419) (by decide +kernel), List.mem_of_getElem? (i := 420) (by decide +kernel)⟩
theorem lw_p4 : lw_okq (⟨"TruePiece$StoreReader", "readRow", "(I)V"⟩, 2) := ⟨⟨by decide +kernel, by decide +kernel⟩, List.mem_of_getElem? (i := 299) (by decide +kernel), List.mem_of_getElem? (i := 441) (by decide +kernel), List.mem_of_getElem? (i := 442) (by decide +kernel)⟩
theorem lw_p5 : lw_okq (⟨"TruePiece$StoreReader", "readValue", "(II)V"⟩, 2) := ⟨⟨by decide +kernel, by decide +kernel⟩, List.mem_of_getElem? (i := 299) (by decide +kernel), List.mem_of_getElem? (i := 449) (by decide +kernel), List.mem_of_getElem? (i := 450) (by decide +kernel)⟩
theorem lw_p6 : lw_okq (⟨"TruePiece$StoreReader", "joinLinks", "()V"⟩, 2) := ⟨⟨by decide +kernel, by decide +kernel⟩, List.mem_of_getElem? (i := 299) (by decide +kernel), List.mem_of_getElem? (i := 458) (by decide +kernel), List.mem_of_getElem? (i := 459) (by decide +kernel)⟩
theorem lw_p7 : lw_okq (⟨"TruePiece$StoreReader", "joinLink", "(III)V"⟩, 2) := ⟨⟨by decide +kernel, by decide +kernel⟩, List.mem_of_getElem? (i := 299) (by decide +kernel), List.mem_of_getElem? (i := 470) (by decide +kernel), List.mem_of_getElem? (i := 471) (by decide +kernel)⟩
theorem lw_p8 : lw_okq (⟨"TruePiece", "forgetPieces", "()V"⟩, 14) := ⟨⟨by decide +kernel, by decide +kernel⟩, List.mem_of_getElem? (i := 18) (by decide +kernel), List.mem_of_getElem? (i := 488) (by decide +kernel), List.mem_of_getElem? (i := 489) (by decide +kernel)⟩
theorem lw_p9 : lw_okq (⟨"TruePiece$WishReader", "readWish", "()V"⟩, 7) := ⟨⟨by decide +kernel, by decide +kernel⟩, List.mem_of_getElem? (i := 496) (by decide +kernel), List.mem_of_getElem? (i := 530) (by decide +kernel), List.mem_of_getElem? (i := 531) (by decide +kernel)⟩
theorem lw_p10 : lw_okq (⟨"TruePiece$WishReader", "readNeed", "()I"⟩, 7) := ⟨⟨by decide +kernel, by decide +kernel⟩, List.mem_of_getElem? (i := 496) (by decide +kernel), List.mem_of_getElem? (i := 535) (by decide +kernel), List.mem_of_getElem? (i := 536) (by decide +kernel)⟩
theorem lw_p11 : lw_okq (⟨"TruePiece$WishReader", "readEither", "(I)I"⟩, 7) := ⟨⟨by decide +kernel, by decide +kernel⟩, List.mem_of_getElem? (i := 496) (by decide +kernel), List.mem_of_getElem? (i := 546) (by decide +kernel), List.mem_of_getElem? (i := 547) (by decide +kernel)⟩
theorem lw_p12 : lw_okq (⟨"TruePiece$WishReader", "readOne", "(I)I"⟩, 7) := ⟨⟨by decide +kernel, by decide +kernel⟩, List.mem_of_getElem? (i := 496) (by decide +kernel), List.mem_of_getElem? (i := 550) (by decide +kernel), List.mem_of_getElem? (i := 551) (by decide +kernel)⟩
theorem lw_p13 : lw_okq (⟨"TruePiece$WishReader", "readPath", "()V"⟩, 7) := ⟨⟨by decide +kernel, by decide +kernel⟩, List.mem_of_getElem? (i := 496) (by decide +kernel), List.mem_of_getElem? (i := 555) (by decide +kernel), List.mem_of_getElem? (i := 556) (by decide +kernel)⟩
theorem lw_p14 : lw_okq (⟨"TruePiece$WishReader", "readComparison", "()I"⟩, 7) := ⟨⟨by decide +kernel, by decide +kernel⟩, List.mem_of_getElem? (i := 496) (by decide +kernel), List.mem_of_getElem? (i := 561) (by decide +kernel), List.mem_of_getElem? (i := 562) (by decide +kernel)⟩
theorem lw_p15 : lw_okq (⟨"TruePiece$WishReader", "valueAlong", "(I)I"⟩, 7) := ⟨⟨by decide +kernel, by decide +kernel⟩, List.mem_of_getElem? (i := 496) (by decide +kernel), List.mem_of_getElem? (i := 565) (by decide +kernel), List.mem_of_getElem? (i := 566) (by decide +kernel)⟩
def lw_privs_1 : List (MethodName × Nat) := [(⟨"TruePiece$Tape", "readWord", "()V"⟩, 11), (⟨"TruePiece$Tape", "readNumber", "()V"⟩, 11), (⟨"TruePiece$StoreReader", "readTable", "(I)V"⟩, 2), (⟨"TruePiece$StoreReader", "readColumn", "(I)V"⟩, 2), (⟨"TruePiece$StoreReader", "readRow", "(I)V"⟩, 2), (⟨"TruePiece$StoreReader", "readValue", "(II)V"⟩, 2), (⟨"TruePiece$StoreReader", "joinLinks", "()V"⟩, 2), (⟨"TruePiece$StoreReader", "joinLink", "(III)V"⟩, 2), (⟨"TruePiece", "forgetPieces", "()V"⟩, 14), (⟨"TruePiece$WishReader", "readWish", "()V"⟩, 7), (⟨"TruePiece$WishReader", "readNeed", "()I"⟩, 7), (⟨"TruePiece$WishReader", "readEither", "(I)I"⟩, 7), (⟨"TruePiece$WishReader", "readOne", "(I)I"⟩, 7), (⟨"TruePiece$WishReader", "readPath", "()V"⟩, 7), (⟨"TruePiece$WishReader", "readComparison", "()I"⟩, 7), (⟨"TruePiece$WishReader", "valueAlong", "(I)I"⟩, 7)]
theorem lw_r1 : ∀ q ∈ lw_privs_1, lw_okq q := List.forall_mem_cons.mpr ⟨lw_p0, List.forall_mem_cons.mpr ⟨lw_p1, List.forall_mem_cons.mpr ⟨lw_p2, List.forall_mem_cons.mpr ⟨lw_p3, List.forall_mem_cons.mpr ⟨lw_p4, List.forall_mem_cons.mpr ⟨lw_p5, List.forall_mem_cons.mpr ⟨lw_p6, List.forall_mem_cons.mpr ⟨lw_p7, List.forall_mem_cons.mpr ⟨lw_p8, List.forall_mem_cons.mpr ⟨lw_p9, List.forall_mem_cons.mpr ⟨lw_p10, List.forall_mem_cons.mpr ⟨lw_p11, List.forall_mem_cons.mpr ⟨lw_p12, List.forall_mem_cons.mpr ⟨lw_p13, List.forall_mem_cons.mpr ⟨lw_p14, List.forall_mem_cons.mpr ⟨lw_p15, fun _ h => absurd h List.not_mem_nil⟩⟩⟩⟩⟩⟩⟩⟩⟩⟩⟩⟩⟩⟩⟩⟩
theorem lw_p16 : lw_okq (⟨"TruePiece$Demands", "addDemand", "(ZII)V"⟩, 8) := ⟨⟨by decide +kernel, by decide +kernel⟩, List.mem_of_getElem? (i := 199) (by decide +kernel), List.mem_of_getElem? (i := 577) (by decide +kernel), List.mem_of_getElem? (i := 578) (by decide +kernel)⟩
theorem lw_p17 : lw_okq (⟨"TruePiece$Demands", "addBond", "(III)V"⟩, 8) := ⟨⟨by decide +kernel, by decide +kernel⟩, List.mem_of_getElem? (i := 199) (by decide +kernel), List.mem_of_getElem? (i := 581) (by decide +kernel), List.mem_of_getElem? (i := 582) (by decide +kernel)⟩
theorem lw_p18 : lw_okq (⟨"TruePiece$WishReader", "readLaw", "()V"⟩, 7) := ⟨⟨by decide +kernel, by decide +kernel⟩, List.mem_of_getElem? (i := 496) (by decide +kernel), List.mem_of_getElem? (i := 585) (by decide +kernel), List.mem_of_getElem? (i := 586) (by decide +kernel)⟩
theorem lw_p19 : lw_okq (⟨"TruePiece$Cutter", "search", "(III)I"⟩, 6) := ⟨⟨by decide +kernel, by decide +kernel⟩, List.mem_of_getElem? (i := 646) (by decide +kernel), List.mem_of_getElem? (i := 689) (by decide +kernel), List.mem_of_getElem? (i := 690) (by decide +kernel)⟩
theorem lw_p20 : lw_okq (⟨"TruePiece$Cutter", "settled", "(II)I"⟩, 6) := ⟨⟨by decide +kernel, by decide +kernel⟩, List.mem_of_getElem? (i := 646) (by decide +kernel), List.mem_of_getElem? (i := 693) (by decide +kernel), List.mem_of_getElem? (i := 694) (by decide +kernel)⟩
theorem lw_p21 : lw_okq (⟨"TruePiece$Cutter", "withLastHelpers", "(II)I"⟩, 6) := ⟨⟨by decide +kernel, by decide +kernel⟩, List.mem_of_getElem? (i := 646) (by decide +kernel), List.mem_of_getElem? (i := 697) (by decide +kernel), List.mem_of_getElem? (i := 698) (by decide +kernel)⟩
theorem lw_p22 : lw_okq (⟨"TruePiece$Cutter", "isWithinLimits", "(II)Z"⟩, 6) := ⟨⟨by decide +kernel, by decide +kernel⟩, List.mem_of_getElem? (i := 646) (by decide +kernel), List.mem_of_getElem? (i := 701) (by decide +kernel), List.mem_of_getElem? (i := 702) (by decide +kernel)⟩
theorem lw_p23 : lw_okq (⟨"TruePiece$Cutter", "lacking", "(III)I"⟩, 6) := ⟨⟨by decide +kernel, by decide +kernel⟩, List.mem_of_getElem? (i := 646) (by decide +kernel), List.mem_of_getElem? (i := 705) (by decide +kernel), List.mem_of_getElem? (i := 706) (by decide +kernel)⟩
theorem lw_p24 : lw_okq (⟨"TruePiece$Store", "firstFree", "(I)I"⟩, 12) := ⟨⟨by decide +kernel, by decide +kernel⟩, List.mem_of_getElem? (i := 132) (by decide +kernel), List.mem_of_getElem? (i := 714) (by decide +kernel), List.mem_of_getElem? (i := 715) (by decide +kernel)⟩
theorem lw_p25 : lw_okq (⟨"TruePiece", "aboutTable", "(I)I"⟩, 14) := ⟨⟨by decide +kernel, by decide +kernel⟩, List.mem_of_getElem? (i := 18) (by decide +kernel), List.mem_of_getElem? (i := 783) (by decide +kernel), List.mem_of_getElem? (i := 784) (by decide +kernel)⟩
theorem lw_p26 : lw_okq (⟨"TruePieceModel", "takeTape", "(Z)V"⟩, 55) := ⟨⟨by decide +kernel, by decide +kernel⟩, List.mem_of_getElem? (i := 794) (by decide +kernel), List.mem_of_getElem? (i := 792) (by decide +kernel), List.mem_of_getElem? (i := 793) (by decide +kernel)⟩
theorem lw_p27 : lw_okq (⟨"TruePieceModel", "next", "()V"⟩, 55) := ⟨⟨by decide +kernel, by decide +kernel⟩, List.mem_of_getElem? (i := 794) (by decide +kernel), List.mem_of_getElem? (i := 797) (by decide +kernel), List.mem_of_getElem? (i := 798) (by decide +kernel)⟩
theorem lw_p28 : lw_okq (⟨"TruePieceModel", "sign", "(I)I"⟩, 55) := ⟨⟨by decide +kernel, by decide +kernel⟩, List.mem_of_getElem? (i := 794) (by decide +kernel), List.mem_of_getElem? (i := 801) (by decide +kernel), List.mem_of_getElem? (i := 802) (by decide +kernel)⟩
theorem lw_p29 : lw_okq (⟨"TruePieceModel", "isSign", "(I)Z"⟩, 55) := ⟨⟨by decide +kernel, by decide +kernel⟩, List.mem_of_getElem? (i := 794) (by decide +kernel), List.mem_of_getElem? (i := 825) (by decide +kernel), List.mem_of_getElem? (i := 826) (by decide +kernel)⟩
theorem lw_p30 : lw_okq (⟨"TruePieceModel", "isGood", "()Z"⟩, 55) := ⟨⟨by decide +kernel, by decide +kernel⟩, List.mem_of_getElem? (i := 794) (by decide +kernel), List.mem_of_getElem? (i := 829) (by decide +kernel), List.mem_of_getElem? (i := 830) (by decide +kernel)⟩
theorem lw_p31 : lw_okq (⟨"TruePieceModel", "isWord", "(J)Z"⟩, 55) := ⟨⟨by decide +kernel, by decide +kernel⟩, List.mem_of_getElem? (i := 794) (by decide +kernel), List.mem_of_getElem? (i := 833) (by decide +kernel), List.mem_of_getElem? (i := 834) (by decide +kernel)⟩
def lw_privs_2 : List (MethodName × Nat) := [(⟨"TruePiece$Demands", "addDemand", "(ZII)V"⟩, 8), (⟨"TruePiece$Demands", "addBond", "(III)V"⟩, 8), (⟨"TruePiece$WishReader", "readLaw", "()V"⟩, 7), (⟨"TruePiece$Cutter", "search", "(III)I"⟩, 6), (⟨"TruePiece$Cutter", "settled", "(II)I"⟩, 6), (⟨"TruePiece$Cutter", "withLastHelpers", "(II)I"⟩, 6), (⟨"TruePiece$Cutter", "isWithinLimits", "(II)Z"⟩, 6), (⟨"TruePiece$Cutter", "lacking", "(III)I"⟩, 6), (⟨"TruePiece$Store", "firstFree", "(I)I"⟩, 12), (⟨"TruePiece", "aboutTable", "(I)I"⟩, 14), (⟨"TruePieceModel", "takeTape", "(Z)V"⟩, 55), (⟨"TruePieceModel", "next", "()V"⟩, 55), (⟨"TruePieceModel", "sign", "(I)I"⟩, 55), (⟨"TruePieceModel", "isSign", "(I)Z"⟩, 55), (⟨"TruePieceModel", "isGood", "()Z"⟩, 55), (⟨"TruePieceModel", "isWord", "(J)Z"⟩, 55)]
theorem lw_r2 : ∀ q ∈ lw_privs_2, lw_okq q := List.forall_mem_cons.mpr ⟨lw_p16, List.forall_mem_cons.mpr ⟨lw_p17, List.forall_mem_cons.mpr ⟨lw_p18, List.forall_mem_cons.mpr ⟨lw_p19, List.forall_mem_cons.mpr ⟨lw_p20, List.forall_mem_cons.mpr ⟨lw_p21, List.forall_mem_cons.mpr ⟨lw_p22, List.forall_mem_cons.mpr ⟨lw_p23, List.forall_mem_cons.mpr ⟨lw_p24, List.forall_mem_cons.mpr ⟨lw_p25, List.forall_mem_cons.mpr ⟨lw_p26, List.forall_mem_cons.mpr ⟨lw_p27, List.forall_mem_cons.mpr ⟨lw_p28, List.forall_mem_cons.mpr ⟨lw_p29, List.forall_mem_cons.mpr ⟨lw_p30, List.forall_mem_cons.mpr ⟨lw_p31, fun _ h => absurd h List.not_mem_nil⟩⟩⟩⟩⟩⟩⟩⟩⟩⟩⟩⟩⟩⟩⟩⟩
theorem lw_p32 : lw_okq (⟨"TruePieceModel", "readTable", "()V"⟩, 55) := ⟨⟨by decide +kernel, by decide +kernel⟩, List.mem_of_getElem? (i := 794) (by decide +kernel), List.mem_of_getElem? (i := 837) (by decide +kernel), List.mem_of_getElem? (i := 838) (by decide +kernel)⟩
theorem lw_p33 : lw_okq (⟨"TruePieceModel", "wrong", "()V"⟩, 55) := ⟨⟨by decide +kernel, by decide +kernel⟩, List.mem_of_getElem? (i := 794) (by decide +kernel), List.mem_of_getElem? (i := 841) (by decide +kernel), List.mem_of_getElem? (i := 842) (by decide +kernel)⟩
theorem lw_p34 : lw_okq (⟨"TruePieceModel", "fails", "(II)V"⟩, 55) := ⟨⟨by decide +kernel, by decide +kernel⟩, List.mem_of_getElem? (i := 794) (by decide +kernel), List.mem_of_getElem? (i := 845) (by decide +kernel), List.mem_of_getElem? (i := 846) (by decide +kernel)⟩
theorem lw_p35 : lw_okq (⟨"TruePieceModel", "tableOf", "(IJ)I"⟩, 55) := ⟨⟨by decide +kernel, by decide +kernel⟩, List.mem_of_getElem? (i := 794) (by decide +kernel), List.mem_of_getElem? (i := 849) (by decide +kernel), List.mem_of_getElem? (i := 850) (by decide +kernel)⟩
theorem lw_p36 : lw_okq (⟨"TruePieceModel", "is", "(I)Z"⟩, 55) := ⟨⟨by decide +kernel, by decide +kernel⟩, List.mem_of_getElem? (i := 794) (by decide +kernel), List.mem_of_getElem? (i := 853) (by decide +kernel), List.mem_of_getElem? (i := 854) (by decide +kernel)⟩
theorem lw_p37 : lw_okq (⟨"TruePieceModel", "must", "(Z)V"⟩, 55) := ⟨⟨by decide +kernel, by decide +kernel⟩, List.mem_of_getElem? (i := 794) (by decide +kernel), List.mem_of_getElem? (i := 857) (by decide +kernel), List.mem_of_getElem? (i := 858) (by decide +kernel)⟩
theorem lw_p38 : lw_okq (⟨"TruePieceModel", "readColumn", "(I)V"⟩, 55) := ⟨⟨by decide +kernel, by decide +kernel⟩, List.mem_of_getElem? (i := 794) (by decide +kernel), List.mem_of_getElem? (i := 861) (by decide +kernel), List.mem_of_getElem? (i := 862) (by decide +kernel)⟩
theorem lw_p39 : lw_okq (⟨"TruePieceModel", "columnOf", "(IJ)I"⟩, 55) := ⟨⟨by decide +kernel, by decide +kernel⟩, List.mem_of_getElem? (i := 794) (by decide +kernel), List.mem_of_getElem? (i := 865) (by decide +kernel), List.mem_of_getElem? (i := 866) (by decide +kernel)⟩
theorem lw_p40 : lw_okq (⟨"TruePieceModel", "readRow", "()V"⟩, 55) := ⟨⟨by decide +kernel, by decide +kernel⟩, List.mem_of_getElem? (i := 794) (by decide +kernel), List.mem_of_getElem? (i := 869) (by decide +kernel), List.mem_of_getElem? (i := 870) (by decide +kernel)⟩
theorem lw_p41 : lw_okq (⟨"TruePieceModel", "readValue", "(IZ)V"⟩, 55) := ⟨⟨by decide +kernel, by decide +kernel⟩, List.mem_of_getElem? (i := 794) (by decide +kernel), List.mem_of_getElem? (i := 873) (by decide +kernel), List.mem_of_getElem? (i := 874) (by decide +kernel)⟩
theorem lw_p42 : lw_okq (⟨"TruePieceModel", "checkLinks", "(I)V"⟩, 55) := ⟨⟨by decide +kernel, by decide +kernel⟩, List.mem_of_getElem? (i := 794) (by decide +kernel), List.mem_of_getElem? (i := 877) (by decide +kernel), List.mem_of_getElem? (i := 878) (by decide +kernel)⟩
theorem lw_p43 : lw_okq (⟨"TruePieceModel", "isRow", "(I)Z"⟩, 55) := ⟨⟨by decide +kernel, by decide +kernel⟩, List.mem_of_getElem? (i := 794) (by decide +kernel), List.mem_of_getElem? (i := 889) (by decide +kernel), List.mem_of_getElem? (i := 890) (by decide +kernel)⟩
theorem lw_p44 : lw_okq (⟨"TruePieceModel", "tableAt", "(I)I"⟩, 55) := ⟨⟨by decide +kernel, by decide +kernel⟩, List.mem_of_getElem? (i := 794) (by decide +kernel), List.mem_of_getElem? (i := 893) (by decide +kernel), List.mem_of_getElem? (i := 894) (by decide +kernel)⟩
theorem lw_p45 : lw_okq (⟨"TruePieceModel", "numberAt", "(I)I"⟩, 55) := ⟨⟨by decide +kernel, by decide +kernel⟩, List.mem_of_getElem? (i := 794) (by decide +kernel), List.mem_of_getElem? (i := 897) (by decide +kernel), List.mem_of_getElem? (i := 898) (by decide +kernel)⟩
theorem lw_p46 : lw_okq (⟨"TruePieceModel", "hasColumn", "(II)Z"⟩, 55) := ⟨⟨by decide +kernel, by decide +kernel⟩, List.mem_of_getElem? (i := 794) (by decide +kernel), List.mem_of_getElem? (i := 905) (by decide +kernel), List.mem_of_getElem? (i := 906) (by decide +kernel)⟩
theorem lw_p47 : lw_okq (⟨"TruePieceModel", "valueAt", "(II)I"⟩, 55) := ⟨⟨by decide +kernel, by decide +kernel⟩, List.mem_of_getElem? (i := 794) (by decide +kernel), List.mem_of_getElem? (i := 909) (by decide +kernel), List.mem_of_getElem? (i := 910) (by decide +kernel)⟩
def lw_privs_3 : List (MethodName × Nat) := [(⟨"TruePieceModel", "readTable", "()V"⟩, 55), (⟨"TruePieceModel", "wrong", "()V"⟩, 55), (⟨"TruePieceModel", "fails", "(II)V"⟩, 55), (⟨"TruePieceModel", "tableOf", "(IJ)I"⟩, 55), (⟨"TruePieceModel", "is", "(I)Z"⟩, 55), (⟨"TruePieceModel", "must", "(Z)V"⟩, 55), (⟨"TruePieceModel", "readColumn", "(I)V"⟩, 55), (⟨"TruePieceModel", "columnOf", "(IJ)I"⟩, 55), (⟨"TruePieceModel", "readRow", "()V"⟩, 55), (⟨"TruePieceModel", "readValue", "(IZ)V"⟩, 55), (⟨"TruePieceModel", "checkLinks", "(I)V"⟩, 55), (⟨"TruePieceModel", "isRow", "(I)Z"⟩, 55), (⟨"TruePieceModel", "tableAt", "(I)I"⟩, 55), (⟨"TruePieceModel", "numberAt", "(I)I"⟩, 55), (⟨"TruePieceModel", "hasColumn", "(II)Z"⟩, 55), (⟨"TruePieceModel", "valueAt", "(II)I"⟩, 55)]
theorem lw_r3 : ∀ q ∈ lw_privs_3, lw_okq q := List.forall_mem_cons.mpr ⟨lw_p32, List.forall_mem_cons.mpr ⟨lw_p33, List.forall_mem_cons.mpr ⟨lw_p34, List.forall_mem_cons.mpr ⟨lw_p35, List.forall_mem_cons.mpr ⟨lw_p36, List.forall_mem_cons.mpr ⟨lw_p37, List.forall_mem_cons.mpr ⟨lw_p38, List.forall_mem_cons.mpr ⟨lw_p39, List.forall_mem_cons.mpr ⟨lw_p40, List.forall_mem_cons.mpr ⟨lw_p41, List.forall_mem_cons.mpr ⟨lw_p42, List.forall_mem_cons.mpr ⟨lw_p43, List.forall_mem_cons.mpr ⟨lw_p44, List.forall_mem_cons.mpr ⟨lw_p45, List.forall_mem_cons.mpr ⟨lw_p46, List.forall_mem_cons.mpr ⟨lw_p47, fun _ h => absurd h List.not_mem_nil⟩⟩⟩⟩⟩⟩⟩⟩⟩⟩⟩⟩⟩⟩⟩⟩
theorem lw_p48 : lw_okq (⟨"TruePieceModel", "readWish", "()V"⟩, 55) := ⟨⟨by decide +kernel, by decide +kernel⟩, List.mem_of_getElem? (i := 794) (by decide +kernel), List.mem_of_getElem? (i := 917) (by decide +kernel), List.mem_of_getElem? (i := 918) (by decide +kernel)⟩
theorem lw_p49 : lw_okq (⟨"TruePieceModel", "aTable", "()I"⟩, 55) := ⟨⟨by decide +kernel, by decide +kernel⟩, List.mem_of_getElem? (i := 794) (by decide +kernel), List.mem_of_getElem? (i := 921) (by decide +kernel), List.mem_of_getElem? (i := 922) (by decide +kernel)⟩
theorem lw_p50 : lw_okq (⟨"TruePieceModel", "howMany", "()I"⟩, 55) := ⟨⟨by decide +kernel, by decide +kernel⟩, List.mem_of_getElem? (i := 794) (by decide +kernel), List.mem_of_getElem? (i := 925) (by decide +kernel), List.mem_of_getElem? (i := 926) (by decide +kernel)⟩
theorem lw_p51 : lw_okq (⟨"TruePieceModel", "readBy", "(I)V"⟩, 55) := ⟨⟨by decide +kernel, by decide +kernel⟩, List.mem_of_getElem? (i := 794) (by decide +kernel), List.mem_of_getElem? (i := 929) (by decide +kernel), List.mem_of_getElem? (i := 930) (by decide +kernel)⟩
theorem lw_p52 : lw_okq (⟨"TruePieceModel", "e", "(I)V"⟩, 55) := ⟨⟨by decide +kernel, by decide +kernel⟩, List.mem_of_getElem? (i := 794) (by decide +kernel), List.mem_of_getElem? (i := 933) (by decide +kernel), List.mem_of_getElem? (i := 934) (by decide +kernel)⟩
theorem lw_p53 : lw_okq (⟨"TruePieceModel", "pile", "(I)V"⟩, 55) := ⟨⟨by decide +kernel, by decide +kernel⟩, List.mem_of_getElem? (i := 794) (by decide +kernel), List.mem_of_getElem? (i := 937) (by decide +kernel), List.mem_of_getElem? (i := 938) (by decide +kernel)⟩
theorem lw_p54 : lw_okq (⟨"TruePieceModel", "one", "(I)Z"⟩, 55) := ⟨⟨by decide +kernel, by decide +kernel⟩, List.mem_of_getElem? (i := 794) (by decide +kernel), List.mem_of_getElem? (i := 941) (by decide +kernel), List.mem_of_getElem? (i := 942) (by decide +kernel)⟩
theorem lw_p55 : lw_okq (⟨"TruePieceModel", "readPath", "(I)V"⟩, 55) := ⟨⟨by decide +kernel, by decide +kernel⟩, List.mem_of_getElem? (i := 794) (by decide +kernel), List.mem_of_getElem? (i := 945) (by decide +kernel), List.mem_of_getElem? (i := 946) (by decide +kernel)⟩
theorem lw_p56 : lw_okq (⟨"TruePieceModel", "step", "(II)V"⟩, 55) := ⟨⟨by decide +kernel, by decide +kernel⟩, List.mem_of_getElem? (i := 794) (by decide +kernel), List.mem_of_getElem? (i := 949) (by decide +kernel), List.mem_of_getElem? (i := 950) (by decide +kernel)⟩
theorem lw_p57 : lw_okq (⟨"TruePieceModel", "behind", "()Z"⟩, 55) := ⟨⟨by decide +kernel, by decide +kernel⟩, List.mem_of_getElem? (i := 794) (by decide +kernel), List.mem_of_getElem? (i := 953) (by decide +kernel), List.mem_of_getElem? (i := 954) (by decide +kernel)⟩
theorem lw_p58 : lw_okq (⟨"TruePieceModel", "holdsFor", "(II)Z"⟩, 55) := ⟨⟨by decide +kernel, by decide +kernel⟩, List.mem_of_getElem? (i := 794) (by decide +kernel), List.mem_of_getElem? (i := 961) (by decide +kernel), List.mem_of_getElem? (i := 962) (by decide +kernel)⟩
theorem lw_p59 : lw_okq (⟨"TruePieceModel", "along", "(II)I"⟩, 55) := ⟨⟨by decide +kernel, by decide +kernel⟩, List.mem_of_getElem? (i := 794) (by decide +kernel), List.mem_of_getElem? (i := 965) (by decide +kernel), List.mem_of_getElem? (i := 966) (by decide +kernel)⟩
theorem lw_p60 : lw_okq (⟨"TruePieceModel", "lookAt", "()V"⟩, 55) := ⟨⟨by decide +kernel, by decide +kernel⟩, List.mem_of_getElem? (i := 794) (by decide +kernel), List.mem_of_getElem? (i := 976) (by decide +kernel), List.mem_of_getElem? (i := 977) (by decide +kernel)⟩
theorem lw_p61 : lw_okq (⟨"TruePieceModel", "isLink", "(II)Z"⟩, 55) := ⟨⟨by decide +kernel, by decide +kernel⟩, List.mem_of_getElem? (i := 794) (by decide +kernel), List.mem_of_getElem? (i := 980) (by decide +kernel), List.mem_of_getElem? (i := 981) (by decide +kernel)⟩
theorem lw_p62 : lw_okq (⟨"TruePieceModel", "know", "()V"⟩, 55) := ⟨⟨by decide +kernel, by decide +kernel⟩, List.mem_of_getElem? (i := 794) (by decide +kernel), List.mem_of_getElem? (i := 988) (by decide +kernel), List.mem_of_getElem? (i := 989) (by decide +kernel)⟩
theorem lw_p63 : lw_okq (⟨"TruePieceModel", "isPiece", "(I)Z"⟩, 55) := ⟨⟨by decide +kernel, by decide +kernel⟩, List.mem_of_getElem? (i := 794) (by decide +kernel), List.mem_of_getElem? (i := 995) (by decide +kernel), List.mem_of_getElem? (i := 996) (by decide +kernel)⟩
def lw_privs_4 : List (MethodName × Nat) := [(⟨"TruePieceModel", "readWish", "()V"⟩, 55), (⟨"TruePieceModel", "aTable", "()I"⟩, 55), (⟨"TruePieceModel", "howMany", "()I"⟩, 55), (⟨"TruePieceModel", "readBy", "(I)V"⟩, 55), (⟨"TruePieceModel", "e", "(I)V"⟩, 55), (⟨"TruePieceModel", "pile", "(I)V"⟩, 55), (⟨"TruePieceModel", "one", "(I)Z"⟩, 55), (⟨"TruePieceModel", "readPath", "(I)V"⟩, 55), (⟨"TruePieceModel", "step", "(II)V"⟩, 55), (⟨"TruePieceModel", "behind", "()Z"⟩, 55), (⟨"TruePieceModel", "holdsFor", "(II)Z"⟩, 55), (⟨"TruePieceModel", "along", "(II)I"⟩, 55), (⟨"TruePieceModel", "lookAt", "()V"⟩, 55), (⟨"TruePieceModel", "isLink", "(II)Z"⟩, 55), (⟨"TruePieceModel", "know", "()V"⟩, 55), (⟨"TruePieceModel", "isPiece", "(I)Z"⟩, 55)]
theorem lw_r4 : ∀ q ∈ lw_privs_4, lw_okq q := List.forall_mem_cons.mpr ⟨lw_p48, List.forall_mem_cons.mpr ⟨lw_p49, List.forall_mem_cons.mpr ⟨lw_p50, List.forall_mem_cons.mpr ⟨lw_p51, List.forall_mem_cons.mpr ⟨lw_p52, List.forall_mem_cons.mpr ⟨lw_p53, List.forall_mem_cons.mpr ⟨lw_p54, List.forall_mem_cons.mpr ⟨lw_p55, List.forall_mem_cons.mpr ⟨lw_p56, List.forall_mem_cons.mpr ⟨lw_p57, List.forall_mem_cons.mpr ⟨lw_p58, List.forall_mem_cons.mpr ⟨lw_p59, List.forall_mem_cons.mpr ⟨lw_p60, List.forall_mem_cons.mpr ⟨lw_p61, List.forall_mem_cons.mpr ⟨lw_p62, List.forall_mem_cons.mpr ⟨lw_p63, fun _ h => absurd h List.not_mem_nil⟩⟩⟩⟩⟩⟩⟩⟩⟩⟩⟩⟩⟩⟩⟩⟩
theorem lw_p64 : lw_okq (⟨"TruePieceModel", "place", "()I"⟩, 55) := ⟨⟨by decide +kernel, by decide +kernel⟩, List.mem_of_getElem? (i := 794) (by decide +kernel), List.mem_of_getElem? (i := 1023) (by decide +kernel), List.mem_of_getElem? (i := 1024) (by decide +kernel)⟩
theorem lw_p65 : lw_okq (⟨"TruePieceModel", "isPlain", "(II)Z"⟩, 55) := ⟨⟨by decide +kernel, by decide +kernel⟩, List.mem_of_getElem? (i := 794) (by decide +kernel), List.mem_of_getElem? (i := 1206) (by decide +kernel), List.mem_of_getElem? (i := 1207) (by decide +kernel)⟩
theorem lw_p66 : lw_okq (⟨"TruePieceModel", "total", "(III)I"⟩, 55) := ⟨⟨by decide +kernel, by decide +kernel⟩, List.mem_of_getElem? (i := 794) (by decide +kernel), List.mem_of_getElem? (i := 1220) (by decide +kernel), List.mem_of_getElem? (i := 1221) (by decide +kernel)⟩
def lw_privs_5 : List (MethodName × Nat) := [(⟨"TruePieceModel", "place", "()I"⟩, 55), (⟨"TruePieceModel", "isPlain", "(II)Z"⟩, 55), (⟨"TruePieceModel", "total", "(III)I"⟩, 55)]
theorem lw_r5 : ∀ q ∈ lw_privs_5, lw_okq q := List.forall_mem_cons.mpr ⟨lw_p64, List.forall_mem_cons.mpr ⟨lw_p65, List.forall_mem_cons.mpr ⟨lw_p66, fun _ h => absurd h List.not_mem_nil⟩⟩⟩
def lw_privs : List (MethodName × Nat) := lw_privs_1 ++ (lw_privs_2 ++ (lw_privs_3 ++ (lw_privs_4 ++ (lw_privs_5))))
def lw_tbl : List Cond := k2_sels lw_privs ++ tables_1
theorem lw_privs_ok : ∀ q ∈ lw_privs, lw_okq q := by
  show ∀ q ∈ lw_privs_1 ++ (lw_privs_2 ++ (lw_privs_3 ++ (lw_privs_4 ++ (lw_privs_5)))), lw_okq q
  exact List.forall_mem_append.mpr ⟨lw_r1, List.forall_mem_append.mpr ⟨lw_r2, List.forall_mem_append.mpr ⟨lw_r3, List.forall_mem_append.mpr ⟨lw_r4, lw_r5⟩⟩⟩⟩
end
section
def RX0 : String := "TruePiece$Cutter"
def TX0 : u_T := fun k => match k with
  | 0 => ("TruePiece$Cutter", "store", "LTruePiece$Store;", true)
  | 1 => ("TruePiece$Cutter", "demands", "LTruePiece$Demands;", true)
  | 2 => ("TruePiece$Cutter", "gone", "I", true)
  | 3 => ("TruePiece$Cutter", "kept", "I", true)
  | 4 => ("TruePiece$Cutter", "changesMost", "I", false)
  | _ => ("TruePiece$Cutter", "rowsMost", "I", false)
def tyX0 : Nat → FieldType := fun k => match k with
  | 0 => .object "TruePiece$Store"
  | 1 => .object "TruePiece$Demands"
  | 2 => .int
  | 3 => .int
  | 4 => .int
  | _ => .int
abbrev wsX00 : List Cond := u_ws RX0 TX0 6
theorem nmX0 : ∀ a, a < 6 → ∀ b, b < 6 → a ≠ b → (TX0 a).2.1 ≠ (TX0 b).2.1 := by decide +kernel
theorem tyX0_ok : ∀ k, k < 6 → parseFieldDescriptor (TX0 k).2.2.1 = some (tyX0 k) := by decide +kernel
abbrev cX0_init : ByteArray := prog_2_method_1_code
def yX0_init : MethodName := ⟨RX0, "<init>", "(LTruePiece$Store;LTruePiece$Demands;II)V"⟩
abbrev cX0_isPiece : ByteArray := prog_2_method_2_code
def yX0_isPiece : MethodName := ⟨RX0, "isPiece", "(I)Z"⟩
abbrev cX0_cut : ByteArray := prog_2_method_3_code
def yX0_cut : MethodName := ⟨RX0, "cut", "()I"⟩
abbrev cX0_search : ByteArray := prog_2_method_4_code
def yX0_search : MethodName := ⟨RX0, "search", "(III)I"⟩
abbrev cX0_settled : ByteArray := prog_2_method_5_code
def yX0_settled : MethodName := ⟨RX0, "settled", "(II)I"⟩
abbrev cX0_withLastHelpers : ByteArray := prog_2_method_6_code
def yX0_withLastHelpers : MethodName := ⟨RX0, "withLastHelpers", "(II)I"⟩
abbrev cX0_isWithinLimits : ByteArray := prog_2_method_7_code
def yX0_isWithinLimits : MethodName := ⟨RX0, "isWithinLimits", "(II)Z"⟩
abbrev cX0_lacking : ByteArray := prog_2_method_8_code
def yX0_lacking : MethodName := ⟨RX0, "lacking", "(III)I"⟩
def RX1 : String := "TruePiece$Demands"
def TX1 : u_T := fun k => match k with
  | 0 => ("TruePiece$Demands", "count", "I", false)
  | 1 => ("TruePiece$Demands", "laws", "[Z", true)
  | 2 => ("TruePiece$Demands", "tables", "[I", true)
  | 3 => ("TruePiece$Demands", "fitting", "[I", true)
  | 4 => ("TruePiece$Demands", "bonds", "I", false)
  | 5 => ("TruePiece$Demands", "owners", "[I", true)
  | 6 => ("TruePiece$Demands", "needs", "[I", true)
  | _ => ("TruePiece$Demands", "helpers", "[I", true)
def tyX1 : Nat → FieldType := fun k => match k with
  | 0 => .int
  | 1 => .array .boolean
  | 2 => .array .int
  | 3 => .array .int
  | 4 => .int
  | 5 => .array .int
  | 6 => .array .int
  | _ => .array .int
abbrev wsX10 : List Cond := u_ws RX1 TX1 8
theorem nmX1 : ∀ a, a < 8 → ∀ b, b < 8 → a ≠ b → (TX1 a).2.1 ≠ (TX1 b).2.1 := by decide +kernel
theorem tyX1_ok : ∀ k, k < 8 → parseFieldDescriptor (TX1 k).2.2.1 = some (tyX1 k) := by decide +kernel
abbrev cX1_init : ByteArray := prog_3_method_1_code
def yX1_init : MethodName := ⟨RX1, "<init>", "()V"⟩
abbrev cX1_clear : ByteArray := prog_3_method_2_code
def yX1_clear : MethodName := ⟨RX1, "clear", "()V"⟩
abbrev cX1_isWish : ByteArray := prog_3_method_3_code
def yX1_isWish : MethodName := ⟨RX1, "isWish", "(I)Z"⟩
abbrev cX1_addWish : ByteArray := prog_3_method_4_code
def yX1_addWish : MethodName := ⟨RX1, "addWish", "(III)V"⟩
abbrev cX1_addLaw : ByteArray := prog_3_method_5_code
def yX1_addLaw : MethodName := ⟨RX1, "addLaw", "(LTruePiece$Store;IIII)V"⟩
abbrev cX1_wishesMetBy : ByteArray := prog_3_method_6_code
def yX1_wishesMetBy : MethodName := ⟨RX1, "wishesMetBy", "(I)Z"⟩
abbrev cX1_binds : ByteArray := prog_3_method_7_code
def yX1_binds : MethodName := ⟨RX1, "binds", "(II)Z"⟩
abbrev cX1_lose : ByteArray := prog_3_method_8_code
def yX1_lose : MethodName := ⟨RX1, "lose", "(I)V"⟩
abbrev cX1_addDemand : ByteArray := prog_3_method_9_code
def yX1_addDemand : MethodName := ⟨RX1, "addDemand", "(ZII)V"⟩
abbrev cX1_addBond : ByteArray := prog_3_method_10_code
def yX1_addBond : MethodName := ⟨RX1, "addBond", "(III)V"⟩
def RX2 : String := "TruePiece$Store"
def TX2 : u_T := fun k => match k with
  | 0 => ("TruePiece$Store", "tables", "I", false)
  | 1 => ("TruePiece$Store", "tableNames", "[J", true)
  | 2 => ("TruePiece$Store", "columns", "[I", true)
  | 3 => ("TruePiece$Store", "tableRows", "[I", true)
  | 4 => ("TruePiece$Store", "columnNames", "[J", true)
  | 5 => ("TruePiece$Store", "targets", "[I", true)
  | 6 => ("TruePiece$Store", "rows", "I", false)
  | 7 => ("TruePiece$Store", "rowTable", "[I", true)
  | 8 => ("TruePiece$Store", "rowNumber", "[I", true)
  | 9 => ("TruePiece$Store", "cells", "[I", true)
  | 10 => ("TruePiece$Store", "places", "[I", true)
  | _ => ("TruePiece$Store", "links", "[I", true)
def tyX2 : Nat → FieldType := fun k => match k with
  | 0 => .int
  | 1 => .array .long
  | 2 => .array .int
  | 3 => .array .int
  | 4 => .array .long
  | 5 => .array .int
  | 6 => .int
  | 7 => .array .int
  | 8 => .array .int
  | 9 => .array .int
  | 10 => .array .int
  | _ => .array .int
abbrev wsX20 : List Cond := u_ws RX2 TX2 12
theorem nmX2 : ∀ a, a < 12 → ∀ b, b < 12 → a ≠ b → (TX2 a).2.1 ≠ (TX2 b).2.1 := by decide +kernel
theorem tyX2_ok : ∀ k, k < 12 → parseFieldDescriptor (TX2 k).2.2.1 = some (tyX2 k) := by decide +kernel
abbrev cX2_init : ByteArray := prog_4_method_1_code
def yX2_init : MethodName := ⟨RX2, "<init>", "()V"⟩
abbrev cX2_clear : ByteArray := prog_4_method_2_code
def yX2_clear : MethodName := ⟨RX2, "clear", "()V"⟩
abbrev cX2_hasTable : ByteArray := prog_4_method_3_code
def yX2_hasTable : MethodName := ⟨RX2, "hasTable", "(I)Z"⟩
abbrev cX2_hasColumn : ByteArray := prog_4_method_4_code
def yX2_hasColumn : MethodName := ⟨RX2, "hasColumn", "(II)Z"⟩
abbrev cX2_isPlainColumn : ByteArray := prog_4_method_5_code
def yX2_isPlainColumn : MethodName := ⟨RX2, "isPlainColumn", "(II)Z"⟩
abbrev cX2_hasRow : ByteArray := prog_4_method_6_code
def yX2_hasRow : MethodName := ⟨RX2, "hasRow", "(I)Z"⟩
abbrev cX2_allRows : ByteArray := prog_4_method_7_code
def yX2_allRows : MethodName := ⟨RX2, "allRows", "()I"⟩
abbrev cX2_target : ByteArray := prog_4_method_8_code
def yX2_target : MethodName := ⟨RX2, "target", "(II)I"⟩
abbrev cX2_cell : ByteArray := prog_4_method_9_code
def yX2_cell : MethodName := ⟨RX2, "cell", "(II)I"⟩
abbrev cX2_tableNamed : ByteArray := prog_4_method_10_code
def yX2_tableNamed : MethodName := ⟨RX2, "tableNamed", "(J)I"⟩
abbrev cX2_columnNamed : ByteArray := prog_4_method_11_code
def yX2_columnNamed : MethodName := ⟨RX2, "columnNamed", "(IJ)I"⟩
abbrev cX2_rowsOf : ByteArray := prog_4_method_12_code
def yX2_rowsOf : MethodName := ⟨RX2, "rowsOf", "(I)I"⟩
abbrev cX2_rowOf : ByteArray := prog_4_method_13_code
def yX2_rowOf : MethodName := ⟨RX2, "rowOf", "(II)I"⟩
abbrev cX2_linkersOf : ByteArray := prog_4_method_14_code
def yX2_linkersOf : MethodName := ⟨RX2, "linkersOf", "(III)I"⟩
abbrev cX2_isLinkedFrom : ByteArray := prog_4_method_15_code
def yX2_isLinkedFrom : MethodName := ⟨RX2, "isLinkedFrom", "(II)Z"⟩
abbrev cX2_total : ByteArray := prog_4_method_16_code
def yX2_total : MethodName := ⟨RX2, "total", "(III)I"⟩
abbrev cX2_lineUp : ByteArray := prog_4_method_17_code
def yX2_lineUp : MethodName := ⟨RX2, "lineUp", "(I[I)I"⟩
abbrev cX2_firstFree : ByteArray := prog_4_method_18_code
def yX2_firstFree : MethodName := ⟨RX2, "firstFree", "(I)I"⟩
abbrev cX2_findLinks : ByteArray := prog_4_method_19_code
def yX2_findLinks : MethodName := ⟨RX2, "findLinks", "()V"⟩
def RX3 : String := "TruePiece$StoreReader"
def TX3 : u_T := fun k => match k with
  | 0 => ("TruePiece$StoreReader", "tape", "LTruePiece$Tape;", true)
  | _ => ("TruePiece$StoreReader", "store", "LTruePiece$Store;", true)
def tyX3 : Nat → FieldType := fun k => match k with
  | 0 => .object "TruePiece$Tape"
  | _ => .object "TruePiece$Store"
abbrev wsX30 : List Cond := u_ws RX3 TX3 2
theorem nmX3 : ∀ a, a < 2 → ∀ b, b < 2 → a ≠ b → (TX3 a).2.1 ≠ (TX3 b).2.1 := by decide +kernel
theorem tyX3_ok : ∀ k, k < 2 → parseFieldDescriptor (TX3 k).2.2.1 = some (tyX3 k) := by decide +kernel
abbrev cX3_init : ByteArray := prog_5_method_1_code
def yX3_init : MethodName := ⟨RX3, "<init>", "(LTruePiece$Tape;LTruePiece$Store;)V"⟩
abbrev cX3_readAll : ByteArray := prog_5_method_2_code
def yX3_readAll : MethodName := ⟨RX3, "readAll", "()Z"⟩
abbrev cX3_readTable : ByteArray := prog_5_method_3_code
def yX3_readTable : MethodName := ⟨RX3, "readTable", "(I)V"⟩
abbrev cX3_readColumn : ByteArray := prog_5_method_4_code
def yX3_readColumn : MethodName := ⟨RX3, "readColumn", "(I)V"⟩
abbrev cX3_readRow : ByteArray := prog_5_method_5_code
def yX3_readRow : MethodName := ⟨RX3, "readRow", "(I)V"⟩
abbrev cX3_readValue : ByteArray := prog_5_method_6_code
def yX3_readValue : MethodName := ⟨RX3, "readValue", "(II)V"⟩
abbrev cX3_joinLinks : ByteArray := prog_5_method_7_code
def yX3_joinLinks : MethodName := ⟨RX3, "joinLinks", "()V"⟩
abbrev cX3_joinLink : ByteArray := prog_5_method_8_code
def yX3_joinLink : MethodName := ⟨RX3, "joinLink", "(III)V"⟩
def RX4 : String := "TruePiece$Tape"
def TX4 : u_T := fun k => match k with
  | 0 => ("TruePiece$Tape", "bytes", "[B", true)
  | 1 => ("TruePiece$Tape", "reserved", "[J", true)
  | 2 => ("TruePiece$Tape", "length", "I", false)
  | 3 => ("TruePiece$Tape", "signs", "Ljava/lang/String;", false)
  | 4 => ("TruePiece$Tape", "next", "I", false)
  | 5 => ("TruePiece$Tape", "kind", "I", false)
  | 6 => ("TruePiece$Tape", "start", "I", false)
  | 7 => ("TruePiece$Tape", "number", "I", false)
  | 8 => ("TruePiece$Tape", "word", "J", false)
  | 9 => ("TruePiece$Tape", "fault", "I", false)
  | _ => ("TruePiece$Tape", "faultPlace", "I", false)
def tyX4 : Nat → FieldType := fun k => match k with
  | 0 => .array .byte
  | 1 => .array .long
  | 2 => .int
  | 3 => .object "java/lang/String"
  | 4 => .int
  | 5 => .int
  | 6 => .int
  | 7 => .int
  | 8 => .long
  | 9 => .int
  | _ => .int
abbrev wsX40 : List Cond := u_ws RX4 TX4 11
theorem nmX4 : ∀ a, a < 11 → ∀ b, b < 11 → a ≠ b → (TX4 a).2.1 ≠ (TX4 b).2.1 := by decide +kernel
theorem tyX4_ok : ∀ k, k < 11 → parseFieldDescriptor (TX4 k).2.2.1 = some (tyX4 k) := by decide +kernel
abbrev cX4_init : ByteArray := prog_6_method_1_code
def yX4_init : MethodName := ⟨RX4, "<init>", "()V"⟩
abbrev cX4_append : ByteArray := prog_6_method_2_code
def yX4_append : MethodName := ⟨RX4, "append", "(I)V"⟩
abbrev cX4_open : ByteArray := prog_6_method_3_code
def yX4_open : MethodName := ⟨RX4, "open", "(Z)V"⟩
abbrev cX4_advance : ByteArray := prog_6_method_4_code
def yX4_advance : MethodName := ⟨RX4, "advance", "()V"⟩
abbrev cX4_refuse : ByteArray := prog_6_method_5_code
def yX4_refuse : MethodName := ⟨RX4, "refuse", "(II)V"⟩
abbrev cX4_refuseToken : ByteArray := prog_6_method_6_code
def yX4_refuseToken : MethodName := ⟨RX4, "refuseToken", "()V"⟩
abbrev cX4_take : ByteArray := prog_6_method_7_code
def yX4_take : MethodName := ⟨RX4, "take", "(I)Z"⟩
abbrev cX4_takeTable : ByteArray := prog_6_method_8_code
def yX4_takeTable : MethodName := ⟨RX4, "takeTable", "(LTruePiece$Store;)I"⟩
abbrev cX4_readWord : ByteArray := prog_6_method_9_code
def yX4_readWord : MethodName := ⟨RX4, "readWord", "()V"⟩
abbrev cX4_readNumber : ByteArray := prog_6_method_10_code
def yX4_readNumber : MethodName := ⟨RX4, "readNumber", "()V"⟩
def RX5 : String := "TruePiece$WishReader"
def TX5 : u_T := fun k => match k with
  | 0 => ("TruePiece$WishReader", "tape", "LTruePiece$Tape;", true)
  | 1 => ("TruePiece$WishReader", "store", "LTruePiece$Store;", true)
  | 2 => ("TruePiece$WishReader", "demands", "LTruePiece$Demands;", true)
  | 3 => ("TruePiece$WishReader", "path", "[I", true)
  | 4 => ("TruePiece$WishReader", "pathNames", "I", false)
  | 5 => ("TruePiece$WishReader", "paths", "I", false)
  | _ => ("TruePiece$WishReader", "table", "I", false)
def tyX5 : Nat → FieldType := fun k => match k with
  | 0 => .object "TruePiece$Tape"
  | 1 => .object "TruePiece$Store"
  | 2 => .object "TruePiece$Demands"
  | 3 => .array .int
  | 4 => .int
  | 5 => .int
  | _ => .int
abbrev wsX50 : List Cond := u_ws RX5 TX5 7
theorem nmX5 : ∀ a, a < 7 → ∀ b, b < 7 → a ≠ b → (TX5 a).2.1 ≠ (TX5 b).2.1 := by decide +kernel
theorem tyX5_ok : ∀ k, k < 7 → parseFieldDescriptor (TX5 k).2.2.1 = some (tyX5 k) := by decide +kernel
abbrev cX5_init : ByteArray := prog_7_method_1_code
def yX5_init : MethodName := ⟨RX5, "<init>", "(LTruePiece$Tape;LTruePiece$Store;LTruePiece$Demands;)V"⟩
abbrev cX5_readAll : ByteArray := prog_7_method_2_code
def yX5_readAll : MethodName := ⟨RX5, "readAll", "()Z"⟩
abbrev cX5_readWish : ByteArray := prog_7_method_3_code
def yX5_readWish : MethodName := ⟨RX5, "readWish", "()V"⟩
abbrev cX5_readLaw : ByteArray := prog_7_method_4_code
def yX5_readLaw : MethodName := ⟨RX5, "readLaw", "()V"⟩
abbrev cX5_readNeed : ByteArray := prog_7_method_5_code
def yX5_readNeed : MethodName := ⟨RX5, "readNeed", "()I"⟩
abbrev cX5_readEither : ByteArray := prog_7_method_6_code
def yX5_readEither : MethodName := ⟨RX5, "readEither", "(I)I"⟩
abbrev cX5_readOne : ByteArray := prog_7_method_7_code
def yX5_readOne : MethodName := ⟨RX5, "readOne", "(I)I"⟩
abbrev cX5_readPath : ByteArray := prog_7_method_8_code
def yX5_readPath : MethodName := ⟨RX5, "readPath", "()V"⟩
abbrev cX5_readComparison : ByteArray := prog_7_method_9_code
def yX5_readComparison : MethodName := ⟨RX5, "readComparison", "()I"⟩
abbrev cX5_valueAlong : ByteArray := prog_7_method_10_code
def yX5_valueAlong : MethodName := ⟨RX5, "valueAlong", "(I)I"⟩
abbrev cX5_compares : ByteArray := prog_7_method_11_code
def yX5_compares : MethodName := ⟨RX5, "compares", "(III)Z"⟩
def RX6 : String := "TruePiece"
def TX6 : u_T := fun k => match k with
  | 0 => ("TruePiece", "tape", "LTruePiece$Tape;", true)
  | 1 => ("TruePiece", "keys", "[I", true)
  | 2 => ("TruePiece", "line", "[I", true)
  | 3 => ("TruePiece", "stock", "LTruePiece$Store;", false)
  | 4 => ("TruePiece", "spareStock", "LTruePiece$Store;", false)
  | 5 => ("TruePiece", "demands", "LTruePiece$Demands;", false)
  | 6 => ("TruePiece", "spareDemands", "LTruePiece$Demands;", false)
  | 7 => ("TruePiece", "goneRows", "I", false)
  | 8 => ("TruePiece", "keptRows", "I", false)
  | 9 => ("TruePiece", "leastKnown", "Z", false)
  | 10 => ("TruePiece", "leastRows", "I", false)
  | 11 => ("TruePiece", "placed", "I", false)
  | 12 => ("TruePiece", "steadyKnown", "Z", false)
  | _ => ("TruePiece", "steadyRows", "I", false)
def tyX6 : Nat → FieldType := fun k => match k with
  | 0 => .object "TruePiece$Tape"
  | 1 => .array .int
  | 2 => .array .int
  | 3 => .object "TruePiece$Store"
  | 4 => .object "TruePiece$Store"
  | 5 => .object "TruePiece$Demands"
  | 6 => .object "TruePiece$Demands"
  | 7 => .int
  | 8 => .int
  | 9 => .boolean
  | 10 => .int
  | 11 => .int
  | 12 => .boolean
  | _ => .int
abbrev wsX60 : List Cond := u_ws RX6 TX6 14
theorem nmX6 : ∀ a, a < 14 → ∀ b, b < 14 → a ≠ b → (TX6 a).2.1 ≠ (TX6 b).2.1 := by decide +kernel
theorem tyX6_ok : ∀ k, k < 14 → parseFieldDescriptor (TX6 k).2.2.1 = some (tyX6 k) := by decide +kernel
abbrev cX6_init : ByteArray := prog_1_method_1_code
def yX6_init : MethodName := ⟨RX6, "<init>", "()V"⟩
abbrev cX6_feed : ByteArray := prog_1_method_2_code
def yX6_feed : MethodName := ⟨RX6, "feed", "(IIIII)I"⟩
abbrev cX6_end : ByteArray := prog_1_method_3_code
def yX6_end : MethodName := ⟨RX6, "end", "(I)I"⟩
abbrev cX6_store : ByteArray := prog_1_method_4_code
def yX6_store : MethodName := ⟨RX6, "store", "()I"⟩
abbrev cX6_wishes : ByteArray := prog_1_method_5_code
def yX6_wishes : MethodName := ⟨RX6, "wishes", "()I"⟩
abbrev cX6_fault : ByteArray := prog_1_method_6_code
def yX6_fault : MethodName := ⟨RX6, "fault", "(I)I"⟩
abbrev cX6_row : ByteArray := prog_1_method_7_code
def yX6_row : MethodName := ⟨RX6, "row", "(II)I"⟩
abbrev cX6_value : ByteArray := prog_1_method_8_code
def yX6_value : MethodName := ⟨RX6, "value", "(II)I"⟩
abbrev cX6_holds : ByteArray := prog_1_method_9_code
def yX6_holds : MethodName := ⟨RX6, "holds", "(II)I"⟩
abbrev cX6_gone : ByteArray := prog_1_method_10_code
def yX6_gone : MethodName := ⟨RX6, "gone", "(I)Z"⟩
abbrev cX6_least : ByteArray := prog_1_method_11_code
def yX6_least : MethodName := ⟨RX6, "least", "()I"⟩
abbrev cX6_keep : ByteArray := prog_1_method_12_code
def yX6_keep : MethodName := ⟨RX6, "keep", "()Z"⟩
abbrev cX6_steady : ByteArray := prog_1_method_13_code
def yX6_steady : MethodName := ⟨RX6, "steady", "()I"⟩
abbrev cX6_piece : ByteArray := prog_1_method_14_code
def yX6_piece : MethodName := ⟨RX6, "piece", "(I)I"⟩
abbrev cX6_why : ByteArray := prog_1_method_15_code
def yX6_why : MethodName := ⟨RX6, "why", "(I)I"⟩
abbrev cX6_order : ByteArray := prog_1_method_16_code
def yX6_order : MethodName := ⟨RX6, "order", "(I)I"⟩
abbrev cX6_rings : ByteArray := prog_1_method_17_code
def yX6_rings : MethodName := ⟨RX6, "rings", "()I"⟩
abbrev cX6_hide : ByteArray := prog_1_method_18_code
def yX6_hide : MethodName := ⟨RX6, "hide", "(III)Z"⟩
abbrev cX6_shown : ByteArray := prog_1_method_19_code
def yX6_shown : MethodName := ⟨RX6, "shown", "(II)I"⟩
abbrev cX6_weight : ByteArray := prog_1_method_20_code
def yX6_weight : MethodName := ⟨RX6, "weight", "(IIZ)I"⟩
abbrev cX6_about : ByteArray := prog_1_method_21_code
def yX6_about : MethodName := ⟨RX6, "about", "(I)I"⟩
abbrev cX6_aboutTable : ByteArray := prog_1_method_22_code
def yX6_aboutTable : MethodName := ⟨RX6, "aboutTable", "(I)I"⟩
abbrev cX6_forgetPieces : ByteArray := prog_1_method_23_code
def yX6_forgetPieces : MethodName := ⟨RX6, "forgetPieces", "()V"⟩
abbrev cX6_has : ByteArray := prog_1_method_24_code
def yX6_has : MethodName := ⟨RX6, "has", "(II)Z"⟩
abbrev cX6_slot : ByteArray := prog_1_method_25_code
def yX6_slot : MethodName := ⟨RX6, "slot", "(II)I"⟩
abbrev cX6_turned : ByteArray := prog_1_method_26_code
def yX6_turned : MethodName := ⟨RX6, "turned", "(II)I"⟩
abbrev cX6_commonDivisor : ByteArray := prog_1_method_27_code
def yX6_commonDivisor : MethodName := ⟨RX6, "commonDivisor", "(II)I"⟩
def RX7 : String := "TruePieceModel"
def TX7 : u_T := fun k => match k with
  | 0 => ("TruePieceModel", "tape", "[B", true)
  | 1 => ("TruePieceModel", "text", "[B", true)
  | 2 => ("TruePieceModel", "taped", "I", false)
  | 3 => ("TruePieceModel", "size", "I", false)
  | 4 => ("TruePieceModel", "faultKind", "I", false)
  | 5 => ("TruePieceModel", "faultPlace", "I", false)
  | 6 => ("TruePieceModel", "at", "I", false)
  | 7 => ("TruePieceModel", "end", "I", false)
  | 8 => ("TruePieceModel", "token", "I", false)
  | 9 => ("TruePieceModel", "number", "I", false)
  | 10 => ("TruePieceModel", "name", "J", false)
  | 11 => ("TruePieceModel", "ofWishes", "Z", false)
  | 12 => ("TruePieceModel", "tName", "[J", true)
  | 13 => ("TruePieceModel", "cName", "[J", true)
  | 14 => ("TruePieceModel", "tColumns", "[I", true)
  | 15 => ("TruePieceModel", "tRows", "[I", true)
  | 16 => ("TruePieceModel", "cLink", "[I", true)
  | 17 => ("TruePieceModel", "rTable", "[I", true)
  | 18 => ("TruePieceModel", "rNumber", "[I", true)
  | 19 => ("TruePieceModel", "rValue", "[I", true)
  | 20 => ("TruePieceModel", "rPlace", "[I", true)
  | 21 => ("TruePieceModel", "tables", "[I", true)
  | 22 => ("TruePieceModel", "rows", "[I", true)
  | 23 => ("TruePieceModel", "bank", "I", false)
  | 24 => ("TruePieceModel", "rb", "I", false)
  | 25 => ("TruePieceModel", "wishMany", "[I", true)
  | 26 => ("TruePieceModel", "wTable", "[I", true)
  | 27 => ("TruePieceModel", "wMany", "[I", true)
  | 28 => ("TruePieceModel", "wSecond", "[I", true)
  | 29 => ("TruePieceModel", "wColumn", "[I", true)
  | 30 => ("TruePieceModel", "wFrom", "[I", true)
  | 31 => ("TruePieceModel", "wTo", "[I", true)
  | 32 => ("TruePieceModel", "code", "[I", true)
  | 33 => ("TruePieceModel", "codeNumber", "[I", true)
  | 34 => ("TruePieceModel", "pathFrom", "[I", true)
  | 35 => ("TruePieceModel", "pathTo", "[I", true)
  | 36 => ("TruePieceModel", "pathColumn", "[I", true)
  | 37 => ("TruePieceModel", "wishBank", "I", false)
  | 38 => ("TruePieceModel", "wb", "I", false)
  | 39 => ("TruePieceModel", "codes", "I", false)
  | 40 => ("TruePieceModel", "paths", "I", false)
  | 41 => ("TruePieceModel", "pathNames", "I", false)
  | 42 => ("TruePieceModel", "eWhat", "[I", true)
  | 43 => ("TruePieceModel", "piled", "I", false)
  | 44 => ("TruePieceModel", "deep", "I", false)
  | 45 => ("TruePieceModel", "values", "[Z", true)
  | 46 => ("TruePieceModel", "drawn", "[I", true)
  | 47 => ("TruePieceModel", "counted", "[I", true)
  | 48 => ("TruePieceModel", "asked", "[I", true)
  | 49 => ("TruePieceModel", "goneRows", "I", false)
  | 50 => ("TruePieceModel", "kept", "I", false)
  | 51 => ("TruePieceModel", "leastSet", "I", false)
  | 52 => ("TruePieceModel", "isKnown", "Z", false)
  | 53 => ("TruePieceModel", "placed", "[I", true)
  | _ => ("TruePieceModel", "keys", "[I", true)
def tyX7 : Nat → FieldType := fun k => match k with
  | 0 => .array .byte
  | 1 => .array .byte
  | 2 => .int
  | 3 => .int
  | 4 => .int
  | 5 => .int
  | 6 => .int
  | 7 => .int
  | 8 => .int
  | 9 => .int
  | 10 => .long
  | 11 => .boolean
  | 12 => .array .long
  | 13 => .array .long
  | 14 => .array .int
  | 15 => .array .int
  | 16 => .array .int
  | 17 => .array .int
  | 18 => .array .int
  | 19 => .array .int
  | 20 => .array .int
  | 21 => .array .int
  | 22 => .array .int
  | 23 => .int
  | 24 => .int
  | 25 => .array .int
  | 26 => .array .int
  | 27 => .array .int
  | 28 => .array .int
  | 29 => .array .int
  | 30 => .array .int
  | 31 => .array .int
  | 32 => .array .int
  | 33 => .array .int
  | 34 => .array .int
  | 35 => .array .int
  | 36 => .array .int
  | 37 => .int
  | 38 => .int
  | 39 => .int
  | 40 => .int
  | 41 => .int
  | 42 => .array .int
  | 43 => .int
  | 44 => .int
  | 45 => .array .boolean
  | 46 => .array .int
  | 47 => .array .int
  | 48 => .array .int
  | 49 => .int
  | 50 => .int
  | 51 => .int
  | 52 => .boolean
  | 53 => .array .int
  | _ => .array .int
abbrev wsX70 : List Cond := u_ws RX7 TX7 55
theorem nmX7 : ∀ a, a < 55 → ∀ b, b < 55 → a ≠ b → (TX7 a).2.1 ≠ (TX7 b).2.1 := by decide +kernel
theorem tyX7_ok : ∀ k, k < 55 → parseFieldDescriptor (TX7 k).2.2.1 = some (tyX7 k) := by decide +kernel
abbrev cX7_sign : ByteArray := prog_9_method_1_code
def yX7_sign : MethodName := ⟨RX7, "sign", "(I)I"⟩
abbrev cX7_isLetter : ByteArray := prog_9_method_2_code
def yX7_isLetter : MethodName := ⟨RX7, "isLetter", "(I)Z"⟩
abbrev cX7_isDigit : ByteArray := prog_9_method_3_code
def yX7_isDigit : MethodName := ⟨RX7, "isDigit", "(I)Z"⟩
abbrev cX7_fails : ByteArray := prog_9_method_4_code
def yX7_fails : MethodName := ⟨RX7, "fails", "(II)V"⟩
abbrev cX7_isGood : ByteArray := prog_9_method_5_code
def yX7_isGood : MethodName := ⟨RX7, "isGood", "()Z"⟩
abbrev cX7_isKept : ByteArray := prog_9_method_6_code
def yX7_isKept : MethodName := ⟨RX7, "isKept", "(J)Z"⟩
abbrev cX7_isSign : ByteArray := prog_9_method_7_code
def yX7_isSign : MethodName := ⟨RX7, "isSign", "(I)Z"⟩
abbrev cX7_next : ByteArray := prog_9_method_8_code
def yX7_next : MethodName := ⟨RX7, "next", "()V"⟩
abbrev cX7_is : ByteArray := prog_9_method_9_code
def yX7_is : MethodName := ⟨RX7, "is", "(I)Z"⟩
abbrev cX7_isWord : ByteArray := prog_9_method_10_code
def yX7_isWord : MethodName := ⟨RX7, "isWord", "(J)Z"⟩
abbrev cX7_wrong : ByteArray := prog_9_method_11_code
def yX7_wrong : MethodName := ⟨RX7, "wrong", "()V"⟩
abbrev cX7_must : ByteArray := prog_9_method_12_code
def yX7_must : MethodName := ⟨RX7, "must", "(Z)V"⟩
abbrev cX7_takeTape : ByteArray := prog_9_method_13_code
def yX7_takeTape : MethodName := ⟨RX7, "takeTape", "(Z)V"⟩
abbrev cX7_tableOf : ByteArray := prog_9_method_14_code
def yX7_tableOf : MethodName := ⟨RX7, "tableOf", "(IJ)I"⟩
abbrev cX7_columnOf : ByteArray := prog_9_method_15_code
def yX7_columnOf : MethodName := ⟨RX7, "columnOf", "(IJ)I"⟩
abbrev cX7_store : ByteArray := prog_9_method_16_code
def yX7_store : MethodName := ⟨RX7, "store", "()I"⟩
abbrev cX7_readTable : ByteArray := prog_9_method_17_code
def yX7_readTable : MethodName := ⟨RX7, "readTable", "()V"⟩
abbrev cX7_readColumn : ByteArray := prog_9_method_18_code
def yX7_readColumn : MethodName := ⟨RX7, "readColumn", "(I)V"⟩
abbrev cX7_readRow : ByteArray := prog_9_method_19_code
def yX7_readRow : MethodName := ⟨RX7, "readRow", "()V"⟩
abbrev cX7_readValue : ByteArray := prog_9_method_20_code
def yX7_readValue : MethodName := ⟨RX7, "readValue", "(IZ)V"⟩
abbrev cX7_checkLinks : ByteArray := prog_9_method_21_code
def yX7_checkLinks : MethodName := ⟨RX7, "checkLinks", "(I)V"⟩
abbrev cX7_fault : ByteArray := prog_9_method_22_code
def yX7_fault : MethodName := ⟨RX7, "fault", "(I)I"⟩
abbrev cX7_isRow : ByteArray := prog_9_method_23_code
def yX7_isRow : MethodName := ⟨RX7, "isRow", "(I)Z"⟩
abbrev cX7_tableAt : ByteArray := prog_9_method_24_code
def yX7_tableAt : MethodName := ⟨RX7, "tableAt", "(I)I"⟩
abbrev cX7_numberAt : ByteArray := prog_9_method_25_code
def yX7_numberAt : MethodName := ⟨RX7, "numberAt", "(I)I"⟩
abbrev cX7_valueAt : ByteArray := prog_9_method_26_code
def yX7_valueAt : MethodName := ⟨RX7, "valueAt", "(II)I"⟩
abbrev cX7_hasColumn : ByteArray := prog_9_method_27_code
def yX7_hasColumn : MethodName := ⟨RX7, "hasColumn", "(II)Z"⟩
abbrev cX7_isLink : ByteArray := prog_9_method_28_code
def yX7_isLink : MethodName := ⟨RX7, "isLink", "(II)Z"⟩
abbrev cX7_row : ByteArray := prog_9_method_29_code
def yX7_row : MethodName := ⟨RX7, "row", "(II)I"⟩
abbrev cX7_value : ByteArray := prog_9_method_30_code
def yX7_value : MethodName := ⟨RX7, "value", "(II)I"⟩
abbrev cX7_wishes : ByteArray := prog_9_method_31_code
def yX7_wishes : MethodName := ⟨RX7, "wishes", "()I"⟩
abbrev cX7_aTable : ByteArray := prog_9_method_32_code
def yX7_aTable : MethodName := ⟨RX7, "aTable", "()I"⟩
abbrev cX7_howMany : ByteArray := prog_9_method_33_code
def yX7_howMany : MethodName := ⟨RX7, "howMany", "()I"⟩
abbrev cX7_readWish : ByteArray := prog_9_method_34_code
def yX7_readWish : MethodName := ⟨RX7, "readWish", "()V"⟩
abbrev cX7_readBy : ByteArray := prog_9_method_35_code
def yX7_readBy : MethodName := ⟨RX7, "readBy", "(I)V"⟩
abbrev cX7_step : ByteArray := prog_9_method_36_code
def yX7_step : MethodName := ⟨RX7, "step", "(II)V"⟩
abbrev cX7_pile : ByteArray := prog_9_method_37_code
def yX7_pile : MethodName := ⟨RX7, "pile", "(I)V"⟩
abbrev cX7_e : ByteArray := prog_9_method_38_code
def yX7_e : MethodName := ⟨RX7, "e", "(I)V"⟩
abbrev cX7_one : ByteArray := prog_9_method_39_code
def yX7_one : MethodName := ⟨RX7, "one", "(I)Z"⟩
abbrev cX7_readPath : ByteArray := prog_9_method_40_code
def yX7_readPath : MethodName := ⟨RX7, "readPath", "(I)V"⟩
abbrev cX7_behind : ByteArray := prog_9_method_41_code
def yX7_behind : MethodName := ⟨RX7, "behind", "()Z"⟩
abbrev cX7_along : ByteArray := prog_9_method_42_code
def yX7_along : MethodName := ⟨RX7, "along", "(II)I"⟩
abbrev cX7_related : ByteArray := prog_9_method_43_code
def yX7_related : MethodName := ⟨RX7, "related", "(III)Z"⟩
abbrev cX7_holdsFor : ByteArray := prog_9_method_44_code
def yX7_holdsFor : MethodName := ⟨RX7, "holdsFor", "(II)Z"⟩
abbrev cX7_holds : ByteArray := prog_9_method_45_code
def yX7_holds : MethodName := ⟨RX7, "holds", "(II)I"⟩
abbrev cX7_bitsOf : ByteArray := prog_9_method_46_code
def yX7_bitsOf : MethodName := ⟨RX7, "bitsOf", "(I)I"⟩
abbrev cX7_lookAt : ByteArray := prog_9_method_47_code
def yX7_lookAt : MethodName := ⟨RX7, "lookAt", "()V"⟩
abbrev cX7_isPiece : ByteArray := prog_9_method_48_code
def yX7_isPiece : MethodName := ⟨RX7, "isPiece", "(I)Z"⟩
abbrev cX7_isAhead : ByteArray := prog_9_method_49_code
def yX7_isAhead : MethodName := ⟨RX7, "isAhead", "(II)Z"⟩
abbrev cX7_know : ByteArray := prog_9_method_50_code
def yX7_know : MethodName := ⟨RX7, "know", "()V"⟩
abbrev cX7_gone : ByteArray := prog_9_method_51_code
def yX7_gone : MethodName := ⟨RX7, "gone", "(I)Z"⟩
abbrev cX7_least : ByteArray := prog_9_method_52_code
def yX7_least : MethodName := ⟨RX7, "least", "()I"⟩
abbrev cX7_keep : ByteArray := prog_9_method_53_code
def yX7_keep : MethodName := ⟨RX7, "keep", "()Z"⟩
abbrev cX7_steady : ByteArray := prog_9_method_54_code
def yX7_steady : MethodName := ⟨RX7, "steady", "()I"⟩
abbrev cX7_piece : ByteArray := prog_9_method_55_code
def yX7_piece : MethodName := ⟨RX7, "piece", "(I)I"⟩
abbrev cX7_why : ByteArray := prog_9_method_56_code
def yX7_why : MethodName := ⟨RX7, "why", "(I)I"⟩
abbrev cX7_place : ByteArray := prog_9_method_57_code
def yX7_place : MethodName := ⟨RX7, "place", "()I"⟩
abbrev cX7_order : ByteArray := prog_9_method_58_code
def yX7_order : MethodName := ⟨RX7, "order", "(I)I"⟩
abbrev cX7_rings : ByteArray := prog_9_method_59_code
def yX7_rings : MethodName := ⟨RX7, "rings", "()I"⟩
abbrev cX7_init : ByteArray := prog_9_method_60_code
def yX7_init : MethodName := ⟨RX7, "<init>", "()V"⟩
abbrev cX7_isPlain : ByteArray := prog_9_method_61_code
def yX7_isPlain : MethodName := ⟨RX7, "isPlain", "(II)Z"⟩
abbrev cX7_hide : ByteArray := prog_9_method_62_code
def yX7_hide : MethodName := ⟨RX7, "hide", "(III)Z"⟩
abbrev cX7_shown : ByteArray := prog_9_method_63_code
def yX7_shown : MethodName := ⟨RX7, "shown", "(II)I"⟩
abbrev cX7_total : ByteArray := prog_9_method_64_code
def yX7_total : MethodName := ⟨RX7, "total", "(III)I"⟩
abbrev cX7_weight : ByteArray := prog_9_method_65_code
def yX7_weight : MethodName := ⟨RX7, "weight", "(IIZ)I"⟩
abbrev cX7_about : ByteArray := prog_9_method_66_code
def yX7_about : MethodName := ⟨RX7, "about", "(I)I"⟩
abbrev cX7_feed : ByteArray := prog_9_method_67_code
def yX7_feed : MethodName := ⟨RX7, "feed", "(IIIII)I"⟩
abbrev cX7_end : ByteArray := prog_9_method_68_code
def yX7_end : MethodName := ⟨RX7, "end", "(I)I"⟩
def RJ11 : String := "java/lang/Character"
abbrev cJ11_isValidCodePoint_9a6ad : ByteArray := prog_10_method_11_code
def yJ11_isValidCodePoint_9a6ad : MethodName := ⟨RJ11, "isValidCodePoint", "(I)Z"⟩
abbrev cJ11_highSurrogate_5068e : ByteArray := prog_10_method_28_code
def yJ11_highSurrogate_5068e : MethodName := ⟨RJ11, "highSurrogate", "(I)C"⟩
abbrev cJ11_lowSurrogate_5068e : ByteArray := prog_10_method_29_code
def yJ11_lowSurrogate_5068e : MethodName := ⟨RJ11, "lowSurrogate", "(I)C"⟩
def RJ6 : String := "java/lang/Integer"
abbrev cJ6_bitCount_0f7a4 : ByteArray := prog_11_method_49_code
def yJ6_bitCount_0f7a4 : MethodName := ⟨RJ6, "bitCount", "(I)I"⟩
def RJ9 : String := "java/lang/Math"
abbrev cJ9_max_7cf53 : ByteArray := prog_12_method_65_code
def yJ9_max_7cf53 : MethodName := ⟨RJ9, "max", "(II)I"⟩
abbrev cJ9_min_7cf53 : ByteArray := prog_12_method_69_code
def yJ9_min_7cf53 : MethodName := ⟨RJ9, "min", "(II)I"⟩
def RJ0 : String := "java/lang/String"
abbrev cJ0_length_8abf5 : ByteArray := prog_13_method_54_code
def yJ0_length_8abf5 : MethodName := ⟨RJ0, "length", "()I"⟩
abbrev cJ0_charAt_5068e : ByteArray := prog_13_method_56_code
def yJ0_charAt_5068e : MethodName := ⟨RJ0, "charAt", "(I)C"⟩
abbrev cJ0_indexOf_0f7a4 : ByteArray := prog_13_method_79_code
def yJ0_indexOf_0f7a4 : MethodName := ⟨RJ0, "indexOf", "(I)I"⟩
abbrev cJ0_indexOf_7cf53 : ByteArray := prog_13_method_80_code
def yJ0_indexOf_7cf53 : MethodName := ⟨RJ0, "indexOf", "(II)I"⟩
abbrev cJ0_coder_7d493 : ByteArray := prog_13_method_152_code
def yJ0_coder_7d493 : MethodName := ⟨RJ0, "coder", "()B"⟩
abbrev cJ0_isLatin1_aae02 : ByteArray := prog_13_method_154_code
def yJ0_isLatin1_aae02 : MethodName := ⟨RJ0, "isLatin1", "()Z"⟩
abbrev cJ0_checkIndex_df160 : ByteArray := prog_13_method_155_code
def yJ0_checkIndex_df160 : MethodName := ⟨RJ0, "checkIndex", "(II)V"⟩
abbrev cJ0_checkBoundsBeginEnd_23922 : ByteArray := prog_13_method_158_code
def yJ0_checkBoundsBeginEnd_23922 : MethodName := ⟨RJ0, "checkBoundsBeginEnd", "(III)V"⟩
def RJ1 : String := "java/lang/StringLatin1"
abbrev cJ1_charAt_3b067 : ByteArray := prog_14_method_2_code
def yJ1_charAt_3b067 : MethodName := ⟨RJ1, "charAt", "([BI)C"⟩
abbrev cJ1_canEncode_9a6ad : ByteArray := prog_14_method_4_code
def yJ1_canEncode_9a6ad : MethodName := ⟨RJ1, "canEncode", "(I)Z"⟩
abbrev cJ1_indexOf_4cfef : ByteArray := prog_14_method_22_code
def yJ1_indexOf_4cfef : MethodName := ⟨RJ1, "indexOf", "([BIII)I"⟩
abbrev cJ1_indexOfChar_4cfef : ByteArray := prog_14_method_23_code
def yJ1_indexOfChar_4cfef : MethodName := ⟨RJ1, "indexOfChar", "([BIII)I"⟩
def RJ2 : String := "java/lang/StringUTF16"
abbrev cJ2_getChar_3b067 : ByteArray := prog_15_method_5_code
def yJ2_getChar_3b067 : MethodName := ⟨RJ2, "getChar", "([BI)C"⟩
abbrev cJ2_length_9d52b : ByteArray := prog_15_method_6_code
def yJ2_length_9d52b : MethodName := ⟨RJ2, "length", "([B)I"⟩
abbrev cJ2_indexOf_4cfef : ByteArray := prog_15_method_40_code
def yJ2_indexOf_4cfef : MethodName := ⟨RJ2, "indexOf", "([BIII)I"⟩
abbrev cJ2_indexOfChar_4cfef : ByteArray := prog_15_method_47_code
def yJ2_indexOfChar_4cfef : MethodName := ⟨RJ2, "indexOfChar", "([BIII)I"⟩
abbrev cJ2_indexOfCharUnsafe_4cfef : ByteArray := prog_15_method_48_code
def yJ2_indexOfCharUnsafe_4cfef : MethodName := ⟨RJ2, "indexOfCharUnsafe", "([BIII)I"⟩
abbrev cJ2_indexOfSupplementary_4cfef : ByteArray := prog_15_method_49_code
def yJ2_indexOfSupplementary_4cfef : MethodName := ⟨RJ2, "indexOfSupplementary", "([BIII)I"⟩
abbrev cJ2_charAt_3b067 : ByteArray := prog_15_method_83_code
def yJ2_charAt_3b067 : MethodName := ⟨RJ2, "charAt", "([BI)C"⟩
abbrev cJ2_checkIndex_2214a : ByteArray := prog_15_method_91_code
def yJ2_checkIndex_2214a : MethodName := ⟨RJ2, "checkIndex", "(I[B)V"⟩
abbrev cJ2_checkBoundsBeginEnd_d044e : ByteArray := prog_15_method_93_code
def yJ2_checkBoundsBeginEnd_d044e : MethodName := ⟨RJ2, "checkBoundsBeginEnd", "(II[B)V"⟩
def RJ7 : String := "java/util/Arrays"
abbrev cJ7_fill_53178 : ByteArray := prog_16_method_103_code
def yJ7_fill_53178 : MethodName := ⟨RJ7, "fill", "([II)V"⟩
def RJ3 : String := "jdk/internal/util/Preconditions"
abbrev cJ3_checkIndex_8e157 : ByteArray := prog_17_method_11_code
def yJ3_checkIndex_8e157 : MethodName := ⟨RJ3, "checkIndex", "(IILjava/util/function/BiFunction;)I"⟩
abbrev cJ3_checkFromToIndex_8c36e : ByteArray := prog_17_method_12_code
def yJ3_checkFromToIndex_8c36e : MethodName := ⟨RJ3, "checkFromToIndex", "(IIILjava/util/function/BiFunction;)I"⟩
def RL : String := "TruePieceLaw"
abbrev cL_law : ByteArray := code
def yL_law : MethodName := ⟨RL, "law", "([I)Z"⟩
abbrev vwCl : List vw_C := [(RX0, TX0, 6), (RX1, TX1, 8), (RX2, TX2, 12), (RX3, TX3, 2), (RX4, TX4, 11), (RX5, TX5, 7), (RX6, TX6, 14), (RX7, TX7, 55)]
end
section
theorem dX0_init_0 : decode cX0_init 0 = .ok (.aload_n 0, 1) := by decide +kernel
theorem dX0_init_1 : decode cX0_init 1 = .ok (.invokespecial 3, 3) := by decide +kernel
theorem dX0_init_4 : decode cX0_init 4 = .ok (.aload_n 0, 1) := by decide +kernel
theorem dX0_init_5 : decode cX0_init 5 = .ok (.aload_n 1, 1) := by decide +kernel
theorem dX0_init_6 : decode cX0_init 6 = .ok (.putfield 9, 3) := by decide +kernel
theorem dX0_init_9 : decode cX0_init 9 = .ok (.aload_n 0, 1) := by decide +kernel
theorem dX0_init_10 : decode cX0_init 10 = .ok (.aload_n 2, 1) := by decide +kernel
theorem dX0_init_11 : decode cX0_init 11 = .ok (.putfield 15, 3) := by decide +kernel
theorem dX0_init_14 : decode cX0_init 14 = .ok (.aload_n 0, 1) := by decide +kernel
theorem dX0_init_15 : decode cX0_init 15 = .ok (.iload_n 3, 1) := by decide +kernel
theorem dX0_init_16 : decode cX0_init 16 = .ok (.putfield 19, 3) := by decide +kernel
theorem dX0_init_19 : decode cX0_init 19 = .ok (.aload_n 0, 1) := by decide +kernel
theorem dX0_init_20 : decode cX0_init 20 = .ok (.iload 4, 2) := by decide +kernel
theorem dX0_init_22 : decode cX0_init 22 = .ok (.iload_n 3, 1) := by decide +kernel
theorem dX0_init_23 : decode cX0_init 23 = .ok (.iconst (-1), 1) := by decide +kernel
theorem dX0_init_24 : decode cX0_init 24 = .ok (.ixor, 1) := by decide +kernel
theorem dX0_init_25 : decode cX0_init 25 = .ok (.iand, 1) := by decide +kernel
theorem dX0_init_26 : decode cX0_init 26 = .ok (.putfield 23, 3) := by decide +kernel
theorem dX0_init_29 : decode cX0_init 29 = .ok (.return_, 1) := by decide +kernel
theorem dX0_isPiece_0 : decode cX0_isPiece 0 = .ok (.iload_n 1, 1) := by decide +kernel
theorem dX0_isPiece_1 : decode cX0_isPiece 1 = .ok (.aload_n 0, 1) := by decide +kernel
theorem dX0_isPiece_2 : decode cX0_isPiece 2 = .ok (.getfield 19, 3) := by decide +kernel
theorem dX0_isPiece_5 : decode cX0_isPiece 5 = .ok (.iand, 1) := by decide +kernel
theorem dX0_isPiece_6 : decode cX0_isPiece 6 = .ok (.ifCond .eq 5, 3) := by decide +kernel
theorem dX0_isPiece_9 : decode cX0_isPiece 9 = .ok (.iconst 0, 1) := by decide +kernel
theorem dX0_isPiece_10 : decode cX0_isPiece 10 = .ok (.ireturn, 1) := by decide +kernel
theorem dX0_isPiece_11 : decode cX0_isPiece 11 = .ok (.iconst 0, 1) := by decide +kernel
theorem dX0_isPiece_12 : decode cX0_isPiece 12 = .ok (.istore_n 2, 1) := by decide +kernel
theorem dX0_isPiece_13 : decode cX0_isPiece 13 = .ok (.iload_n 2, 1) := by decide +kernel
theorem dX0_isPiece_14 : decode cX0_isPiece 14 = .ok (.aload_n 0, 1) := by decide +kernel
theorem dX0_isPiece_15 : decode cX0_isPiece 15 = .ok (.getfield 9, 3) := by decide +kernel
theorem dX0_isPiece_18 : decode cX0_isPiece 18 = .ok (.getfield 26, 3) := by decide +kernel
theorem dX0_isPiece_21 : decode cX0_isPiece 21 = .ok (.if_icmp .ge 35, 3) := by decide +kernel
theorem dX0_isPiece_24 : decode cX0_isPiece 24 = .ok (.iload_n 1, 1) := by decide +kernel
theorem dX0_isPiece_25 : decode cX0_isPiece 25 = .ok (.iload_n 2, 1) := by decide +kernel
theorem dX0_isPiece_26 : decode cX0_isPiece 26 = .ok (.invokestatic 31, 3) := by decide +kernel
theorem dX0_isPiece_29 : decode cX0_isPiece 29 = .ok (.ifCond .eq 21, 3) := by decide +kernel
theorem dX0_isPiece_32 : decode cX0_isPiece 32 = .ok (.aload_n 0, 1) := by decide +kernel
theorem dX0_isPiece_33 : decode cX0_isPiece 33 = .ok (.getfield 9, 3) := by decide +kernel
theorem dX0_isPiece_36 : decode cX0_isPiece 36 = .ok (.getfield 35, 3) := by decide +kernel
theorem dX0_isPiece_39 : decode cX0_isPiece 39 = .ok (.iload_n 2, 1) := by decide +kernel
theorem dX0_isPiece_40 : decode cX0_isPiece 40 = .ok (.iaload, 1) := by decide +kernel
theorem dX0_isPiece_41 : decode cX0_isPiece 41 = .ok (.iload_n 1, 1) := by decide +kernel
theorem dX0_isPiece_42 : decode cX0_isPiece 42 = .ok (.iconst (-1), 1) := by decide +kernel
theorem dX0_isPiece_43 : decode cX0_isPiece 43 = .ok (.ixor, 1) := by decide +kernel
theorem dX0_isPiece_44 : decode cX0_isPiece 44 = .ok (.iand, 1) := by decide +kernel
theorem dX0_isPiece_45 : decode cX0_isPiece 45 = .ok (.ifCond .eq 5, 3) := by decide +kernel
theorem dX0_isPiece_48 : decode cX0_isPiece 48 = .ok (.iconst 0, 1) := by decide +kernel
theorem dX0_isPiece_49 : decode cX0_isPiece 49 = .ok (.ireturn, 1) := by decide +kernel
theorem dX0_isPiece_50 : decode cX0_isPiece 50 = .ok (.iinc 2 1, 3) := by decide +kernel
theorem dX0_isPiece_53 : decode cX0_isPiece 53 = .ok (.goto (-40), 3) := by decide +kernel
theorem dX0_isPiece_56 : decode cX0_isPiece 56 = .ok (.iconst 0, 1) := by decide +kernel
theorem dX0_isPiece_57 : decode cX0_isPiece 57 = .ok (.istore_n 2, 1) := by decide +kernel
theorem dX0_isPiece_58 : decode cX0_isPiece 58 = .ok (.iload_n 2, 1) := by decide +kernel
theorem dX0_isPiece_59 : decode cX0_isPiece 59 = .ok (.aload_n 0, 1) := by decide +kernel
theorem dX0_isPiece_60 : decode cX0_isPiece 60 = .ok (.getfield 15, 3) := by decide +kernel
theorem dX0_isPiece_63 : decode cX0_isPiece 63 = .ok (.getfield 39, 3) := by decide +kernel
theorem dX0_isPiece_66 : decode cX0_isPiece 66 = .ok (.if_icmp .ge 51, 3) := by decide +kernel
theorem dX0_isPiece_69 : decode cX0_isPiece 69 = .ok (.aload_n 0, 1) := by decide +kernel
theorem dX0_isPiece_70 : decode cX0_isPiece 70 = .ok (.getfield 15, 3) := by decide +kernel
theorem dX0_isPiece_73 : decode cX0_isPiece 73 = .ok (.getfield 44, 3) := by decide +kernel
theorem dX0_isPiece_76 : decode cX0_isPiece 76 = .ok (.iload_n 2, 1) := by decide +kernel
theorem dX0_isPiece_77 : decode cX0_isPiece 77 = .ok (.iaload, 1) := by decide +kernel
theorem dX0_isPiece_78 : decode cX0_isPiece 78 = .ok (.iload_n 1, 1) := by decide +kernel
theorem dX0_isPiece_79 : decode cX0_isPiece 79 = .ok (.iand, 1) := by decide +kernel
theorem dX0_isPiece_80 : decode cX0_isPiece 80 = .ok (.invokestatic 47, 3) := by decide +kernel
theorem dX0_isPiece_83 : decode cX0_isPiece 83 = .ok (.istore_n 3, 1) := by decide +kernel
theorem dX0_isPiece_84 : decode cX0_isPiece 84 = .ok (.aload_n 0, 1) := by decide +kernel
theorem dX0_isPiece_85 : decode cX0_isPiece 85 = .ok (.getfield 15, 3) := by decide +kernel
theorem dX0_isPiece_88 : decode cX0_isPiece 88 = .ok (.iload_n 2, 1) := by decide +kernel
theorem dX0_isPiece_89 : decode cX0_isPiece 89 = .ok (.iload_n 1, 1) := by decide +kernel
theorem dX0_isPiece_90 : decode cX0_isPiece 90 = .ok (.invokevirtual 53, 3) := by decide +kernel
theorem dX0_isPiece_93 : decode cX0_isPiece 93 = .ok (.ifCond .eq 18, 3) := by decide +kernel
theorem dX0_isPiece_96 : decode cX0_isPiece 96 = .ok (.iload_n 3, 1) := by decide +kernel
theorem dX0_isPiece_97 : decode cX0_isPiece 97 = .ok (.aload_n 0, 1) := by decide +kernel
theorem dX0_isPiece_98 : decode cX0_isPiece 98 = .ok (.getfield 15, 3) := by decide +kernel
theorem dX0_isPiece_101 : decode cX0_isPiece 101 = .ok (.getfield 56, 3) := by decide +kernel
theorem dX0_isPiece_104 : decode cX0_isPiece 104 = .ok (.iload_n 2, 1) := by decide +kernel
theorem dX0_isPiece_105 : decode cX0_isPiece 105 = .ok (.iaload, 1) := by decide +kernel
theorem dX0_isPiece_106 : decode cX0_isPiece 106 = .ok (.if_icmp .ge 5, 3) := by decide +kernel
theorem dX0_isPiece_109 : decode cX0_isPiece 109 = .ok (.iconst 0, 1) := by decide +kernel
theorem dX0_isPiece_110 : decode cX0_isPiece 110 = .ok (.ireturn, 1) := by decide +kernel
theorem dX0_isPiece_111 : decode cX0_isPiece 111 = .ok (.iinc 2 1, 3) := by decide +kernel
theorem dX0_isPiece_114 : decode cX0_isPiece 114 = .ok (.goto (-56), 3) := by decide +kernel
theorem dX0_isPiece_117 : decode cX0_isPiece 117 = .ok (.iconst 1, 1) := by decide +kernel
theorem dX0_isPiece_118 : decode cX0_isPiece 118 = .ok (.ireturn, 1) := by decide +kernel
theorem dX0_cut_0 : decode cX0_cut 0 = .ok (.aload_n 0, 1) := by decide +kernel
theorem dX0_cut_1 : decode cX0_cut 1 = .ok (.aload_n 0, 1) := by decide +kernel
theorem dX0_cut_2 : decode cX0_cut 2 = .ok (.getfield 9, 3) := by decide +kernel
theorem dX0_cut_5 : decode cX0_cut 5 = .ok (.invokevirtual 59, 3) := by decide +kernel
theorem dX0_cut_8 : decode cX0_cut 8 = .ok (.aload_n 0, 1) := by decide +kernel
theorem dX0_cut_9 : decode cX0_cut 9 = .ok (.getfield 19, 3) := by decide +kernel
theorem dX0_cut_12 : decode cX0_cut 12 = .ok (.iconst (-1), 1) := by decide +kernel
theorem dX0_cut_13 : decode cX0_cut 13 = .ok (.ixor, 1) := by decide +kernel
theorem dX0_cut_14 : decode cX0_cut 14 = .ok (.iand, 1) := by decide +kernel
theorem dX0_cut_15 : decode cX0_cut 15 = .ok (.invokevirtual 63, 3) := by decide +kernel
theorem dX0_cut_18 : decode cX0_cut 18 = .ok (.ifCond .ne 5, 3) := by decide +kernel
theorem dX0_cut_21 : decode cX0_cut 21 = .ok (.iconst (-1), 1) := by decide +kernel
theorem dX0_cut_22 : decode cX0_cut 22 = .ok (.ireturn, 1) := by decide +kernel
theorem dX0_cut_23 : decode cX0_cut 23 = .ok (.iconst (-1), 1) := by decide +kernel
theorem dX0_cut_24 : decode cX0_cut 24 = .ok (.istore_n 1, 1) := by decide +kernel
theorem dX0_cut_25 : decode cX0_cut 25 = .ok (.aload_n 0, 1) := by decide +kernel
theorem dX0_cut_26 : decode cX0_cut 26 = .ok (.aload_n 0, 1) := by decide +kernel
theorem dX0_cut_27 : decode cX0_cut 27 = .ok (.getfield 9, 3) := by decide +kernel
theorem dX0_cut_30 : decode cX0_cut 30 = .ok (.getfield 26, 3) := by decide +kernel
theorem dX0_cut_33 : decode cX0_cut 33 = .ok (.putfield 67, 3) := by decide +kernel
theorem dX0_cut_36 : decode cX0_cut 36 = .ok (.iconst 0, 1) := by decide +kernel
theorem dX0_cut_37 : decode cX0_cut 37 = .ok (.istore_n 2, 1) := by decide +kernel
theorem dX0_cut_38 : decode cX0_cut 38 = .ok (.iload_n 2, 1) := by decide +kernel
theorem dX0_cut_39 : decode cX0_cut 39 = .ok (.aload_n 0, 1) := by decide +kernel
theorem dX0_cut_40 : decode cX0_cut 40 = .ok (.getfield 9, 3) := by decide +kernel
theorem dX0_cut_43 : decode cX0_cut 43 = .ok (.getfield 26, 3) := by decide +kernel
theorem dX0_cut_46 : decode cX0_cut 46 = .ok (.if_icmp .gt 30, 3) := by decide +kernel
theorem dX0_cut_49 : decode cX0_cut 49 = .ok (.iload_n 1, 1) := by decide +kernel
theorem dX0_cut_50 : decode cX0_cut 50 = .ok (.iconst (-1), 1) := by decide +kernel
theorem dX0_cut_51 : decode cX0_cut 51 = .ok (.if_icmp .ne 25, 3) := by decide +kernel
theorem dX0_cut_54 : decode cX0_cut 54 = .ok (.aload_n 0, 1) := by decide +kernel
theorem dX0_cut_55 : decode cX0_cut 55 = .ok (.iload_n 2, 1) := by decide +kernel
theorem dX0_cut_56 : decode cX0_cut 56 = .ok (.putfield 70, 3) := by decide +kernel
theorem dX0_cut_59 : decode cX0_cut 59 = .ok (.aload_n 0, 1) := by decide +kernel
theorem dX0_cut_60 : decode cX0_cut 60 = .ok (.iconst 0, 1) := by decide +kernel
theorem dX0_cut_61 : decode cX0_cut 61 = .ok (.iconst 0, 1) := by decide +kernel
theorem dX0_cut_62 : decode cX0_cut 62 = .ok (.aload_n 0, 1) := by decide +kernel
theorem dX0_cut_63 : decode cX0_cut 63 = .ok (.getfield 19, 3) := by decide +kernel
theorem dX0_cut_66 : decode cX0_cut 66 = .ok (.invokevirtual 73, 3) := by decide +kernel
theorem dX0_cut_69 : decode cX0_cut 69 = .ok (.istore_n 1, 1) := by decide +kernel
theorem dX0_cut_70 : decode cX0_cut 70 = .ok (.iinc 2 1, 3) := by decide +kernel
theorem dX0_cut_73 : decode cX0_cut 73 = .ok (.goto (-35), 3) := by decide +kernel
theorem dX0_cut_76 : decode cX0_cut 76 = .ok (.aload_n 0, 1) := by decide +kernel
theorem dX0_cut_77 : decode cX0_cut 77 = .ok (.getfield 23, 3) := by decide +kernel
theorem dX0_cut_80 : decode cX0_cut 80 = .ok (.ifCond .ne 7, 3) := by decide +kernel
theorem dX0_cut_83 : decode cX0_cut 83 = .ok (.iconst (-1), 1) := by decide +kernel
theorem dX0_cut_84 : decode cX0_cut 84 = .ok (.goto 9, 3) := by decide +kernel
theorem dX0_cut_87 : decode cX0_cut 87 = .ok (.iload_n 1, 1) := by decide +kernel
theorem dX0_cut_88 : decode cX0_cut 88 = .ok (.invokestatic 47, 3) := by decide +kernel
theorem dX0_cut_91 : decode cX0_cut 91 = .ok (.iconst 1, 1) := by decide +kernel
theorem dX0_cut_92 : decode cX0_cut 92 = .ok (.isub, 1) := by decide +kernel
theorem dX0_cut_93 : decode cX0_cut 93 = .ok (.istore_n 2, 1) := by decide +kernel
theorem dX0_cut_94 : decode cX0_cut 94 = .ok (.iconst (-1), 1) := by decide +kernel
theorem dX0_cut_95 : decode cX0_cut 95 = .ok (.istore_n 3, 1) := by decide +kernel
theorem dX0_cut_96 : decode cX0_cut 96 = .ok (.iconst 0, 1) := by decide +kernel
theorem dX0_cut_97 : decode cX0_cut 97 = .ok (.istore 4, 2) := by decide +kernel
theorem dX0_cut_99 : decode cX0_cut 99 = .ok (.iload 4, 2) := by decide +kernel
theorem dX0_cut_101 : decode cX0_cut 101 = .ok (.iload_n 2, 1) := by decide +kernel
theorem dX0_cut_102 : decode cX0_cut 102 = .ok (.if_icmp .gt 31, 3) := by decide +kernel
theorem dX0_cut_105 : decode cX0_cut 105 = .ok (.iload_n 3, 1) := by decide +kernel
theorem dX0_cut_106 : decode cX0_cut 106 = .ok (.iconst (-1), 1) := by decide +kernel
theorem dX0_cut_107 : decode cX0_cut 107 = .ok (.if_icmp .ne 26, 3) := by decide +kernel
theorem dX0_cut_110 : decode cX0_cut 110 = .ok (.aload_n 0, 1) := by decide +kernel
theorem dX0_cut_111 : decode cX0_cut 111 = .ok (.iload 4, 2) := by decide +kernel
theorem dX0_cut_113 : decode cX0_cut 113 = .ok (.putfield 67, 3) := by decide +kernel
theorem dX0_cut_116 : decode cX0_cut 116 = .ok (.aload_n 0, 1) := by decide +kernel
theorem dX0_cut_117 : decode cX0_cut 117 = .ok (.iconst 0, 1) := by decide +kernel
theorem dX0_cut_118 : decode cX0_cut 118 = .ok (.iconst 0, 1) := by decide +kernel
theorem dX0_cut_119 : decode cX0_cut 119 = .ok (.aload_n 0, 1) := by decide +kernel
theorem dX0_cut_120 : decode cX0_cut 120 = .ok (.getfield 19, 3) := by decide +kernel
theorem dX0_cut_123 : decode cX0_cut 123 = .ok (.invokevirtual 73, 3) := by decide +kernel
theorem dX0_cut_126 : decode cX0_cut 126 = .ok (.istore_n 3, 1) := by decide +kernel
theorem dX0_cut_127 : decode cX0_cut 127 = .ok (.iinc 4 1, 3) := by decide +kernel
theorem dX0_cut_130 : decode cX0_cut 130 = .ok (.goto (-31), 3) := by decide +kernel
theorem dX0_cut_133 : decode cX0_cut 133 = .ok (.iload_n 3, 1) := by decide +kernel
theorem dX0_cut_134 : decode cX0_cut 134 = .ok (.iconst (-1), 1) := by decide +kernel
theorem dX0_cut_135 : decode cX0_cut 135 = .ok (.if_icmp .ne 7, 3) := by decide +kernel
theorem dX0_cut_138 : decode cX0_cut 138 = .ok (.iload_n 1, 1) := by decide +kernel
theorem dX0_cut_139 : decode cX0_cut 139 = .ok (.goto 4, 3) := by decide +kernel
theorem dX0_cut_142 : decode cX0_cut 142 = .ok (.iload_n 3, 1) := by decide +kernel
theorem dX0_cut_143 : decode cX0_cut 143 = .ok (.ireturn, 1) := by decide +kernel
theorem dX0_search_0 : decode cX0_search 0 = .ok (.aload_n 0, 1) := by decide +kernel
theorem dX0_search_1 : decode cX0_search 1 = .ok (.iload_n 2, 1) := by decide +kernel
theorem dX0_search_2 : decode cX0_search 2 = .ok (.iload_n 3, 1) := by decide +kernel
theorem dX0_search_3 : decode cX0_search 3 = .ok (.invokevirtual 77, 3) := by decide +kernel
theorem dX0_search_6 : decode cX0_search 6 = .ok (.istore 4, 2) := by decide +kernel
theorem dX0_search_8 : decode cX0_search 8 = .ok (.iload 4, 2) := by decide +kernel
theorem dX0_search_10 : decode cX0_search 10 = .ok (.iconst (-1), 1) := by decide +kernel
theorem dX0_search_11 : decode cX0_search 11 = .ok (.if_icmp .eq 13, 3) := by decide +kernel
theorem dX0_search_14 : decode cX0_search 14 = .ok (.aload_n 0, 1) := by decide +kernel
theorem dX0_search_15 : decode cX0_search 15 = .ok (.iload 4, 2) := by decide +kernel
theorem dX0_search_17 : decode cX0_search 17 = .ok (.iload_n 3, 1) := by decide +kernel
theorem dX0_search_18 : decode cX0_search 18 = .ok (.invokevirtual 81, 3) := by decide +kernel
theorem dX0_search_21 : decode cX0_search 21 = .ok (.ifCond .ne 5, 3) := by decide +kernel
theorem dX0_search_24 : decode cX0_search 24 = .ok (.iconst (-1), 1) := by decide +kernel
theorem dX0_search_25 : decode cX0_search 25 = .ok (.ireturn, 1) := by decide +kernel
theorem dX0_search_26 : decode cX0_search 26 = .ok (.iload_n 1, 1) := by decide +kernel
theorem dX0_search_27 : decode cX0_search 27 = .ok (.istore 5, 2) := by decide +kernel
theorem dX0_search_29 : decode cX0_search 29 = .ok (.iload 5, 2) := by decide +kernel
theorem dX0_search_31 : decode cX0_search 31 = .ok (.aload_n 0, 1) := by decide +kernel
theorem dX0_search_32 : decode cX0_search 32 = .ok (.getfield 9, 3) := by decide +kernel
theorem dX0_search_35 : decode cX0_search 35 = .ok (.getfield 26, 3) := by decide +kernel
theorem dX0_search_38 : decode cX0_search 38 = .ok (.if_icmp .ge 21, 3) := by decide +kernel
theorem dX0_search_41 : decode cX0_search 41 = .ok (.iload 4, 2) := by decide +kernel
theorem dX0_search_43 : decode cX0_search 43 = .ok (.iload_n 3, 1) := by decide +kernel
theorem dX0_search_44 : decode cX0_search 44 = .ok (.ior, 1) := by decide +kernel
theorem dX0_search_45 : decode cX0_search 45 = .ok (.iload 5, 2) := by decide +kernel
theorem dX0_search_47 : decode cX0_search 47 = .ok (.invokestatic 31, 3) := by decide +kernel
theorem dX0_search_50 : decode cX0_search 50 = .ok (.ifCond .eq 9, 3) := by decide +kernel
theorem dX0_search_53 : decode cX0_search 53 = .ok (.iinc 5 1, 3) := by decide +kernel
theorem dX0_search_56 : decode cX0_search 56 = .ok (.goto (-27), 3) := by decide +kernel
theorem dX0_search_59 : decode cX0_search 59 = .ok (.iload 5, 2) := by decide +kernel
theorem dX0_search_61 : decode cX0_search 61 = .ok (.aload_n 0, 1) := by decide +kernel
theorem dX0_search_62 : decode cX0_search 62 = .ok (.getfield 9, 3) := by decide +kernel
theorem dX0_search_65 : decode cX0_search 65 = .ok (.getfield 26, 3) := by decide +kernel
theorem dX0_search_68 : decode cX0_search 68 = .ok (.if_icmp .lt 6, 3) := by decide +kernel
theorem dX0_search_71 : decode cX0_search 71 = .ok (.iload 4, 2) := by decide +kernel
theorem dX0_search_73 : decode cX0_search 73 = .ok (.ireturn, 1) := by decide +kernel
theorem dX0_search_74 : decode cX0_search 74 = .ok (.aload_n 0, 1) := by decide +kernel
theorem dX0_search_75 : decode cX0_search 75 = .ok (.iload 5, 2) := by decide +kernel
theorem dX0_search_77 : decode cX0_search 77 = .ok (.iconst 1, 1) := by decide +kernel
theorem dX0_search_78 : decode cX0_search 78 = .ok (.iadd, 1) := by decide +kernel
theorem dX0_search_79 : decode cX0_search 79 = .ok (.iload 4, 2) := by decide +kernel
theorem dX0_search_81 : decode cX0_search 81 = .ok (.iconst 1, 1) := by decide +kernel
theorem dX0_search_82 : decode cX0_search 82 = .ok (.iload 5, 2) := by decide +kernel
theorem dX0_search_84 : decode cX0_search 84 = .ok (.ishl, 1) := by decide +kernel
theorem dX0_search_85 : decode cX0_search 85 = .ok (.ior, 1) := by decide +kernel
theorem dX0_search_86 : decode cX0_search 86 = .ok (.iload_n 3, 1) := by decide +kernel
theorem dX0_search_87 : decode cX0_search 87 = .ok (.invokevirtual 73, 3) := by decide +kernel
theorem dX0_search_90 : decode cX0_search 90 = .ok (.istore 6, 2) := by decide +kernel
theorem dX0_search_92 : decode cX0_search 92 = .ok (.iload 6, 2) := by decide +kernel
theorem dX0_search_94 : decode cX0_search 94 = .ok (.iconst (-1), 1) := by decide +kernel
theorem dX0_search_95 : decode cX0_search 95 = .ok (.if_icmp .eq 8, 3) := by decide +kernel
theorem dX0_search_98 : decode cX0_search 98 = .ok (.iload 6, 2) := by decide +kernel
theorem dX0_search_100 : decode cX0_search 100 = .ok (.goto 19, 3) := by decide +kernel
theorem dX0_search_103 : decode cX0_search 103 = .ok (.aload_n 0, 1) := by decide +kernel
theorem dX0_search_104 : decode cX0_search 104 = .ok (.iload 5, 2) := by decide +kernel
theorem dX0_search_106 : decode cX0_search 106 = .ok (.iconst 1, 1) := by decide +kernel
theorem dX0_search_107 : decode cX0_search 107 = .ok (.iadd, 1) := by decide +kernel
theorem dX0_search_108 : decode cX0_search 108 = .ok (.iload 4, 2) := by decide +kernel
theorem dX0_search_110 : decode cX0_search 110 = .ok (.iload_n 3, 1) := by decide +kernel
theorem dX0_search_111 : decode cX0_search 111 = .ok (.iconst 1, 1) := by decide +kernel
theorem dX0_search_112 : decode cX0_search 112 = .ok (.iload 5, 2) := by decide +kernel
theorem dX0_search_114 : decode cX0_search 114 = .ok (.ishl, 1) := by decide +kernel
theorem dX0_search_115 : decode cX0_search 115 = .ok (.ior, 1) := by decide +kernel
theorem dX0_search_116 : decode cX0_search 116 = .ok (.invokevirtual 73, 3) := by decide +kernel
theorem dX0_search_119 : decode cX0_search 119 = .ok (.ireturn, 1) := by decide +kernel
theorem dX0_settled_0 : decode cX0_settled 0 = .ok (.iload_n 1, 1) := by decide +kernel
theorem dX0_settled_1 : decode cX0_settled 1 = .ok (.istore_n 3, 1) := by decide +kernel
theorem dX0_settled_2 : decode cX0_settled 2 = .ok (.iconst 0, 1) := by decide +kernel
theorem dX0_settled_3 : decode cX0_settled 3 = .ok (.istore 4, 2) := by decide +kernel
theorem dX0_settled_5 : decode cX0_settled 5 = .ok (.iload 4, 2) := by decide +kernel
theorem dX0_settled_7 : decode cX0_settled 7 = .ok (.bipush 16, 2) := by decide +kernel
theorem dX0_settled_9 : decode cX0_settled 9 = .ok (.if_icmp .gt 87, 3) := by decide +kernel
theorem dX0_settled_12 : decode cX0_settled 12 = .ok (.iload_n 3, 1) := by decide +kernel
theorem dX0_settled_13 : decode cX0_settled 13 = .ok (.istore 5, 2) := by decide +kernel
theorem dX0_settled_15 : decode cX0_settled 15 = .ok (.iconst 0, 1) := by decide +kernel
theorem dX0_settled_16 : decode cX0_settled 16 = .ok (.istore 6, 2) := by decide +kernel
theorem dX0_settled_18 : decode cX0_settled 18 = .ok (.iload 6, 2) := by decide +kernel
theorem dX0_settled_20 : decode cX0_settled 20 = .ok (.aload_n 0, 1) := by decide +kernel
theorem dX0_settled_21 : decode cX0_settled 21 = .ok (.getfield 9, 3) := by decide +kernel
theorem dX0_settled_24 : decode cX0_settled 24 = .ok (.getfield 26, 3) := by decide +kernel
theorem dX0_settled_27 : decode cX0_settled 27 = .ok (.if_icmp .ge 35, 3) := by decide +kernel
theorem dX0_settled_30 : decode cX0_settled 30 = .ok (.iload_n 3, 1) := by decide +kernel
theorem dX0_settled_31 : decode cX0_settled 31 = .ok (.iload_n 3, 1) := by decide +kernel
theorem dX0_settled_32 : decode cX0_settled 32 = .ok (.iload 6, 2) := by decide +kernel
theorem dX0_settled_34 : decode cX0_settled 34 = .ok (.invokestatic 31, 3) := by decide +kernel
theorem dX0_settled_37 : decode cX0_settled 37 = .ok (.ifCond .eq 16, 3) := by decide +kernel
theorem dX0_settled_40 : decode cX0_settled 40 = .ok (.aload_n 0, 1) := by decide +kernel
theorem dX0_settled_41 : decode cX0_settled 41 = .ok (.getfield 9, 3) := by decide +kernel
theorem dX0_settled_44 : decode cX0_settled 44 = .ok (.getfield 35, 3) := by decide +kernel
theorem dX0_settled_47 : decode cX0_settled 47 = .ok (.iload 6, 2) := by decide +kernel
theorem dX0_settled_49 : decode cX0_settled 49 = .ok (.iaload, 1) := by decide +kernel
theorem dX0_settled_50 : decode cX0_settled 50 = .ok (.goto 4, 3) := by decide +kernel
theorem dX0_settled_53 : decode cX0_settled 53 = .ok (.iconst 0, 1) := by decide +kernel
theorem dX0_settled_54 : decode cX0_settled 54 = .ok (.ior, 1) := by decide +kernel
theorem dX0_settled_55 : decode cX0_settled 55 = .ok (.istore_n 3, 1) := by decide +kernel
theorem dX0_settled_56 : decode cX0_settled 56 = .ok (.iinc 6 1, 3) := by decide +kernel
theorem dX0_settled_59 : decode cX0_settled 59 = .ok (.goto (-41), 3) := by decide +kernel
theorem dX0_settled_62 : decode cX0_settled 62 = .ok (.aload_n 0, 1) := by decide +kernel
theorem dX0_settled_63 : decode cX0_settled 63 = .ok (.iload_n 3, 1) := by decide +kernel
theorem dX0_settled_64 : decode cX0_settled 64 = .ok (.iload_n 2, 1) := by decide +kernel
theorem dX0_settled_65 : decode cX0_settled 65 = .ok (.invokevirtual 84, 3) := by decide +kernel
theorem dX0_settled_68 : decode cX0_settled 68 = .ok (.istore_n 3, 1) := by decide +kernel
theorem dX0_settled_69 : decode cX0_settled 69 = .ok (.iload_n 3, 1) := by decide +kernel
theorem dX0_settled_70 : decode cX0_settled 70 = .ok (.iconst (-1), 1) := by decide +kernel
theorem dX0_settled_71 : decode cX0_settled 71 = .ok (.if_icmp .eq 9, 3) := by decide +kernel
theorem dX0_settled_74 : decode cX0_settled 74 = .ok (.iload_n 3, 1) := by decide +kernel
theorem dX0_settled_75 : decode cX0_settled 75 = .ok (.iload_n 2, 1) := by decide +kernel
theorem dX0_settled_76 : decode cX0_settled 76 = .ok (.iand, 1) := by decide +kernel
theorem dX0_settled_77 : decode cX0_settled 77 = .ok (.ifCond .eq 5, 3) := by decide +kernel
theorem dX0_settled_80 : decode cX0_settled 80 = .ok (.iconst (-1), 1) := by decide +kernel
theorem dX0_settled_81 : decode cX0_settled 81 = .ok (.ireturn, 1) := by decide +kernel
theorem dX0_settled_82 : decode cX0_settled 82 = .ok (.iload_n 3, 1) := by decide +kernel
theorem dX0_settled_83 : decode cX0_settled 83 = .ok (.iload 5, 2) := by decide +kernel
theorem dX0_settled_85 : decode cX0_settled 85 = .ok (.if_icmp .ne 5, 3) := by decide +kernel
theorem dX0_settled_88 : decode cX0_settled 88 = .ok (.iload_n 3, 1) := by decide +kernel
theorem dX0_settled_89 : decode cX0_settled 89 = .ok (.ireturn, 1) := by decide +kernel
theorem dX0_settled_90 : decode cX0_settled 90 = .ok (.iinc 4 1, 3) := by decide +kernel
theorem dX0_settled_93 : decode cX0_settled 93 = .ok (.goto (-88), 3) := by decide +kernel
theorem dX0_settled_96 : decode cX0_settled 96 = .ok (.iconst (-1), 1) := by decide +kernel
theorem dX0_settled_97 : decode cX0_settled 97 = .ok (.ireturn, 1) := by decide +kernel
theorem dX0_withLastHelpers_0 : decode cX0_withLastHelpers 0 = .ok (.iload_n 1, 1) := by decide +kernel
theorem dX0_withLastHelpers_1 : decode cX0_withLastHelpers 1 = .ok (.istore_n 3, 1) := by decide +kernel
theorem dX0_withLastHelpers_2 : decode cX0_withLastHelpers 2 = .ok (.iconst 0, 1) := by decide +kernel
theorem dX0_withLastHelpers_3 : decode cX0_withLastHelpers 3 = .ok (.istore 4, 2) := by decide +kernel
theorem dX0_withLastHelpers_5 : decode cX0_withLastHelpers 5 = .ok (.iload 4, 2) := by decide +kernel
theorem dX0_withLastHelpers_7 : decode cX0_withLastHelpers 7 = .ok (.aload_n 0, 1) := by decide +kernel
theorem dX0_withLastHelpers_8 : decode cX0_withLastHelpers 8 = .ok (.getfield 15, 3) := by decide +kernel
theorem dX0_withLastHelpers_11 : decode cX0_withLastHelpers 11 = .ok (.getfield 39, 3) := by decide +kernel
theorem dX0_withLastHelpers_14 : decode cX0_withLastHelpers 14 = .ok (.if_icmp .ge 73, 3) := by decide +kernel
theorem dX0_withLastHelpers_17 : decode cX0_withLastHelpers 17 = .ok (.aload_n 0, 1) := by decide +kernel
theorem dX0_withLastHelpers_18 : decode cX0_withLastHelpers 18 = .ok (.getfield 15, 3) := by decide +kernel
theorem dX0_withLastHelpers_21 : decode cX0_withLastHelpers 21 = .ok (.getfield 44, 3) := by decide +kernel
theorem dX0_withLastHelpers_24 : decode cX0_withLastHelpers 24 = .ok (.iload 4, 2) := by decide +kernel
theorem dX0_withLastHelpers_26 : decode cX0_withLastHelpers 26 = .ok (.iaload, 1) := by decide +kernel
theorem dX0_withLastHelpers_27 : decode cX0_withLastHelpers 27 = .ok (.iload_n 2, 1) := by decide +kernel
theorem dX0_withLastHelpers_28 : decode cX0_withLastHelpers 28 = .ok (.iconst (-1), 1) := by decide +kernel
theorem dX0_withLastHelpers_29 : decode cX0_withLastHelpers 29 = .ok (.ixor, 1) := by decide +kernel
theorem dX0_withLastHelpers_30 : decode cX0_withLastHelpers 30 = .ok (.iand, 1) := by decide +kernel
theorem dX0_withLastHelpers_31 : decode cX0_withLastHelpers 31 = .ok (.istore 5, 2) := by decide +kernel
theorem dX0_withLastHelpers_33 : decode cX0_withLastHelpers 33 = .ok (.iload 5, 2) := by decide +kernel
theorem dX0_withLastHelpers_35 : decode cX0_withLastHelpers 35 = .ok (.invokestatic 47, 3) := by decide +kernel
theorem dX0_withLastHelpers_38 : decode cX0_withLastHelpers 38 = .ok (.aload_n 0, 1) := by decide +kernel
theorem dX0_withLastHelpers_39 : decode cX0_withLastHelpers 39 = .ok (.getfield 15, 3) := by decide +kernel
theorem dX0_withLastHelpers_42 : decode cX0_withLastHelpers 42 = .ok (.getfield 56, 3) := by decide +kernel
theorem dX0_withLastHelpers_45 : decode cX0_withLastHelpers 45 = .ok (.iload 4, 2) := by decide +kernel
theorem dX0_withLastHelpers_47 : decode cX0_withLastHelpers 47 = .ok (.iaload, 1) := by decide +kernel
theorem dX0_withLastHelpers_48 : decode cX0_withLastHelpers 48 = .ok (.isub, 1) := by decide +kernel
theorem dX0_withLastHelpers_49 : decode cX0_withLastHelpers 49 = .ok (.istore 6, 2) := by decide +kernel
theorem dX0_withLastHelpers_51 : decode cX0_withLastHelpers 51 = .ok (.iload 6, 2) := by decide +kernel
theorem dX0_withLastHelpers_53 : decode cX0_withLastHelpers 53 = .ok (.ifCond .gt 28, 3) := by decide +kernel
theorem dX0_withLastHelpers_56 : decode cX0_withLastHelpers 56 = .ok (.aload_n 0, 1) := by decide +kernel
theorem dX0_withLastHelpers_57 : decode cX0_withLastHelpers 57 = .ok (.getfield 15, 3) := by decide +kernel
theorem dX0_withLastHelpers_60 : decode cX0_withLastHelpers 60 = .ok (.iload 4, 2) := by decide +kernel
theorem dX0_withLastHelpers_62 : decode cX0_withLastHelpers 62 = .ok (.iload_n 3, 1) := by decide +kernel
theorem dX0_withLastHelpers_63 : decode cX0_withLastHelpers 63 = .ok (.invokevirtual 53, 3) := by decide +kernel
theorem dX0_withLastHelpers_66 : decode cX0_withLastHelpers 66 = .ok (.ifCond .eq 15, 3) := by decide +kernel
theorem dX0_withLastHelpers_69 : decode cX0_withLastHelpers 69 = .ok (.iload 6, 2) := by decide +kernel
theorem dX0_withLastHelpers_71 : decode cX0_withLastHelpers 71 = .ok (.ifCond .ge 5, 3) := by decide +kernel
theorem dX0_withLastHelpers_74 : decode cX0_withLastHelpers 74 = .ok (.iconst (-1), 1) := by decide +kernel
theorem dX0_withLastHelpers_75 : decode cX0_withLastHelpers 75 = .ok (.ireturn, 1) := by decide +kernel
theorem dX0_withLastHelpers_76 : decode cX0_withLastHelpers 76 = .ok (.iload_n 3, 1) := by decide +kernel
theorem dX0_withLastHelpers_77 : decode cX0_withLastHelpers 77 = .ok (.iload 5, 2) := by decide +kernel
theorem dX0_withLastHelpers_79 : decode cX0_withLastHelpers 79 = .ok (.ior, 1) := by decide +kernel
theorem dX0_withLastHelpers_80 : decode cX0_withLastHelpers 80 = .ok (.istore_n 3, 1) := by decide +kernel
theorem dX0_withLastHelpers_81 : decode cX0_withLastHelpers 81 = .ok (.iinc 4 1, 3) := by decide +kernel
theorem dX0_withLastHelpers_84 : decode cX0_withLastHelpers 84 = .ok (.goto (-79), 3) := by decide +kernel
theorem dX0_withLastHelpers_87 : decode cX0_withLastHelpers 87 = .ok (.iload_n 3, 1) := by decide +kernel
theorem dX0_withLastHelpers_88 : decode cX0_withLastHelpers 88 = .ok (.ireturn, 1) := by decide +kernel
theorem dX0_isWithinLimits_0 : decode cX0_isWithinLimits 0 = .ok (.iload_n 1, 1) := by decide +kernel
theorem dX0_isWithinLimits_1 : decode cX0_isWithinLimits 1 = .ok (.aload_n 0, 1) := by decide +kernel
theorem dX0_isWithinLimits_2 : decode cX0_isWithinLimits 2 = .ok (.getfield 23, 3) := by decide +kernel
theorem dX0_isWithinLimits_5 : decode cX0_isWithinLimits 5 = .ok (.iconst (-1), 1) := by decide +kernel
theorem dX0_isWithinLimits_6 : decode cX0_isWithinLimits 6 = .ok (.ixor, 1) := by decide +kernel
theorem dX0_isWithinLimits_7 : decode cX0_isWithinLimits 7 = .ok (.iand, 1) := by decide +kernel
theorem dX0_isWithinLimits_8 : decode cX0_isWithinLimits 8 = .ok (.invokestatic 47, 3) := by decide +kernel
theorem dX0_isWithinLimits_11 : decode cX0_isWithinLimits 11 = .ok (.aload_n 0, 1) := by decide +kernel
theorem dX0_isWithinLimits_12 : decode cX0_isWithinLimits 12 = .ok (.getfield 23, 3) := by decide +kernel
theorem dX0_isWithinLimits_15 : decode cX0_isWithinLimits 15 = .ok (.iload_n 2, 1) := by decide +kernel
theorem dX0_isWithinLimits_16 : decode cX0_isWithinLimits 16 = .ok (.iand, 1) := by decide +kernel
theorem dX0_isWithinLimits_17 : decode cX0_isWithinLimits 17 = .ok (.invokestatic 47, 3) := by decide +kernel
theorem dX0_isWithinLimits_20 : decode cX0_isWithinLimits 20 = .ok (.iadd, 1) := by decide +kernel
theorem dX0_isWithinLimits_21 : decode cX0_isWithinLimits 21 = .ok (.istore_n 3, 1) := by decide +kernel
theorem dX0_isWithinLimits_22 : decode cX0_isWithinLimits 22 = .ok (.iload_n 1, 1) := by decide +kernel
theorem dX0_isWithinLimits_23 : decode cX0_isWithinLimits 23 = .ok (.invokestatic 47, 3) := by decide +kernel
theorem dX0_isWithinLimits_26 : decode cX0_isWithinLimits 26 = .ok (.aload_n 0, 1) := by decide +kernel
theorem dX0_isWithinLimits_27 : decode cX0_isWithinLimits 27 = .ok (.iload_n 1, 1) := by decide +kernel
theorem dX0_isWithinLimits_28 : decode cX0_isWithinLimits 28 = .ok (.iload_n 2, 1) := by decide +kernel
theorem dX0_isWithinLimits_29 : decode cX0_isWithinLimits 29 = .ok (.iload_n 1, 1) := by decide +kernel
theorem dX0_isWithinLimits_30 : decode cX0_isWithinLimits 30 = .ok (.invokevirtual 87, 3) := by decide +kernel
theorem dX0_isWithinLimits_33 : decode cX0_isWithinLimits 33 = .ok (.iadd, 1) := by decide +kernel
theorem dX0_isWithinLimits_34 : decode cX0_isWithinLimits 34 = .ok (.aload_n 0, 1) := by decide +kernel
theorem dX0_isWithinLimits_35 : decode cX0_isWithinLimits 35 = .ok (.getfield 67, 3) := by decide +kernel
theorem dX0_isWithinLimits_38 : decode cX0_isWithinLimits 38 = .ok (.if_icmp .gt 28, 3) := by decide +kernel
theorem dX0_isWithinLimits_41 : decode cX0_isWithinLimits 41 = .ok (.iload_n 3, 1) := by decide +kernel
theorem dX0_isWithinLimits_42 : decode cX0_isWithinLimits 42 = .ok (.aload_n 0, 1) := by decide +kernel
theorem dX0_isWithinLimits_43 : decode cX0_isWithinLimits 43 = .ok (.iload_n 1, 1) := by decide +kernel
theorem dX0_isWithinLimits_44 : decode cX0_isWithinLimits 44 = .ok (.iload_n 2, 1) := by decide +kernel
theorem dX0_isWithinLimits_45 : decode cX0_isWithinLimits 45 = .ok (.iload_n 1, 1) := by decide +kernel
theorem dX0_isWithinLimits_46 : decode cX0_isWithinLimits 46 = .ok (.aload_n 0, 1) := by decide +kernel
theorem dX0_isWithinLimits_47 : decode cX0_isWithinLimits 47 = .ok (.getfield 23, 3) := by decide +kernel
theorem dX0_isWithinLimits_50 : decode cX0_isWithinLimits 50 = .ok (.ior, 1) := by decide +kernel
theorem dX0_isWithinLimits_51 : decode cX0_isWithinLimits 51 = .ok (.invokevirtual 87, 3) := by decide +kernel
theorem dX0_isWithinLimits_54 : decode cX0_isWithinLimits 54 = .ok (.iadd, 1) := by decide +kernel
theorem dX0_isWithinLimits_55 : decode cX0_isWithinLimits 55 = .ok (.aload_n 0, 1) := by decide +kernel
theorem dX0_isWithinLimits_56 : decode cX0_isWithinLimits 56 = .ok (.getfield 70, 3) := by decide +kernel
theorem dX0_isWithinLimits_59 : decode cX0_isWithinLimits 59 = .ok (.if_icmp .gt 7, 3) := by decide +kernel
theorem dX0_isWithinLimits_62 : decode cX0_isWithinLimits 62 = .ok (.iconst 1, 1) := by decide +kernel
theorem dX0_isWithinLimits_63 : decode cX0_isWithinLimits 63 = .ok (.goto 4, 3) := by decide +kernel
theorem dX0_isWithinLimits_66 : decode cX0_isWithinLimits 66 = .ok (.iconst 0, 1) := by decide +kernel
theorem dX0_isWithinLimits_67 : decode cX0_isWithinLimits 67 = .ok (.ireturn, 1) := by decide +kernel
theorem dX0_lacking_0 : decode cX0_lacking 0 = .ok (.iconst 0, 1) := by decide +kernel
theorem dX0_lacking_1 : decode cX0_lacking 1 = .ok (.istore 4, 2) := by decide +kernel
theorem dX0_lacking_3 : decode cX0_lacking 3 = .ok (.iconst 0, 1) := by decide +kernel
theorem dX0_lacking_4 : decode cX0_lacking 4 = .ok (.istore 5, 2) := by decide +kernel
theorem dX0_lacking_6 : decode cX0_lacking 6 = .ok (.iconst 0, 1) := by decide +kernel
theorem dX0_lacking_7 : decode cX0_lacking 7 = .ok (.istore 6, 2) := by decide +kernel
theorem dX0_lacking_9 : decode cX0_lacking 9 = .ok (.iconst 0, 1) := by decide +kernel
theorem dX0_lacking_10 : decode cX0_lacking 10 = .ok (.istore 7, 2) := by decide +kernel
theorem dX0_lacking_12 : decode cX0_lacking 12 = .ok (.iload 7, 2) := by decide +kernel
theorem dX0_lacking_14 : decode cX0_lacking 14 = .ok (.aload_n 0, 1) := by decide +kernel
theorem dX0_lacking_15 : decode cX0_lacking 15 = .ok (.getfield 15, 3) := by decide +kernel
theorem dX0_lacking_18 : decode cX0_lacking 18 = .ok (.getfield 39, 3) := by decide +kernel
theorem dX0_lacking_21 : decode cX0_lacking 21 = .ok (.if_icmp .ge 102, 3) := by decide +kernel
theorem dX0_lacking_24 : decode cX0_lacking 24 = .ok (.aload_n 0, 1) := by decide +kernel
theorem dX0_lacking_25 : decode cX0_lacking 25 = .ok (.getfield 15, 3) := by decide +kernel
theorem dX0_lacking_28 : decode cX0_lacking 28 = .ok (.getfield 44, 3) := by decide +kernel
theorem dX0_lacking_31 : decode cX0_lacking 31 = .ok (.iload 7, 2) := by decide +kernel
theorem dX0_lacking_33 : decode cX0_lacking 33 = .ok (.iaload, 1) := by decide +kernel
theorem dX0_lacking_34 : decode cX0_lacking 34 = .ok (.iload_n 2, 1) := by decide +kernel
theorem dX0_lacking_35 : decode cX0_lacking 35 = .ok (.iconst (-1), 1) := by decide +kernel
theorem dX0_lacking_36 : decode cX0_lacking 36 = .ok (.ixor, 1) := by decide +kernel
theorem dX0_lacking_37 : decode cX0_lacking 37 = .ok (.iand, 1) := by decide +kernel
theorem dX0_lacking_38 : decode cX0_lacking 38 = .ok (.istore 8, 2) := by decide +kernel
theorem dX0_lacking_40 : decode cX0_lacking 40 = .ok (.aload_n 0, 1) := by decide +kernel
theorem dX0_lacking_41 : decode cX0_lacking 41 = .ok (.getfield 15, 3) := by decide +kernel
theorem dX0_lacking_44 : decode cX0_lacking 44 = .ok (.getfield 56, 3) := by decide +kernel
theorem dX0_lacking_47 : decode cX0_lacking 47 = .ok (.iload 7, 2) := by decide +kernel
theorem dX0_lacking_49 : decode cX0_lacking 49 = .ok (.iaload, 1) := by decide +kernel
theorem dX0_lacking_50 : decode cX0_lacking 50 = .ok (.iload 8, 2) := by decide +kernel
theorem dX0_lacking_52 : decode cX0_lacking 52 = .ok (.iload_n 3, 1) := by decide +kernel
theorem dX0_lacking_53 : decode cX0_lacking 53 = .ok (.iand, 1) := by decide +kernel
theorem dX0_lacking_54 : decode cX0_lacking 54 = .ok (.invokestatic 47, 3) := by decide +kernel
theorem dX0_lacking_57 : decode cX0_lacking 57 = .ok (.isub, 1) := by decide +kernel
theorem dX0_lacking_58 : decode cX0_lacking 58 = .ok (.istore 9, 2) := by decide +kernel
theorem dX0_lacking_60 : decode cX0_lacking 60 = .ok (.iload 9, 2) := by decide +kernel
theorem dX0_lacking_62 : decode cX0_lacking 62 = .ok (.ifCond .le 55, 3) := by decide +kernel
theorem dX0_lacking_65 : decode cX0_lacking 65 = .ok (.aload_n 0, 1) := by decide +kernel
theorem dX0_lacking_66 : decode cX0_lacking 66 = .ok (.getfield 15, 3) := by decide +kernel
theorem dX0_lacking_69 : decode cX0_lacking 69 = .ok (.iload 7, 2) := by decide +kernel
theorem dX0_lacking_71 : decode cX0_lacking 71 = .ok (.iload_n 1, 1) := by decide +kernel
theorem dX0_lacking_72 : decode cX0_lacking 72 = .ok (.invokevirtual 53, 3) := by decide +kernel
theorem dX0_lacking_75 : decode cX0_lacking 75 = .ok (.ifCond .eq 42, 3) := by decide +kernel
theorem dX0_lacking_78 : decode cX0_lacking 78 = .ok (.iload 4, 2) := by decide +kernel
theorem dX0_lacking_80 : decode cX0_lacking 80 = .ok (.iload 9, 2) := by decide +kernel
theorem dX0_lacking_82 : decode cX0_lacking 82 = .ok (.invokestatic 90, 3) := by decide +kernel
theorem dX0_lacking_85 : decode cX0_lacking 85 = .ok (.istore 4, 2) := by decide +kernel
theorem dX0_lacking_87 : decode cX0_lacking 87 = .ok (.iload 8, 2) := by decide +kernel
theorem dX0_lacking_89 : decode cX0_lacking 89 = .ok (.iload_n 3, 1) := by decide +kernel
theorem dX0_lacking_90 : decode cX0_lacking 90 = .ok (.iconst (-1), 1) := by decide +kernel
theorem dX0_lacking_91 : decode cX0_lacking 91 = .ok (.ixor, 1) := by decide +kernel
theorem dX0_lacking_92 : decode cX0_lacking 92 = .ok (.iand, 1) := by decide +kernel
theorem dX0_lacking_93 : decode cX0_lacking 93 = .ok (.iload 6, 2) := by decide +kernel
theorem dX0_lacking_95 : decode cX0_lacking 95 = .ok (.iand, 1) := by decide +kernel
theorem dX0_lacking_96 : decode cX0_lacking 96 = .ok (.ifCond .ne 21, 3) := by decide +kernel
theorem dX0_lacking_99 : decode cX0_lacking 99 = .ok (.iload 5, 2) := by decide +kernel
theorem dX0_lacking_101 : decode cX0_lacking 101 = .ok (.iload 9, 2) := by decide +kernel
theorem dX0_lacking_103 : decode cX0_lacking 103 = .ok (.iadd, 1) := by decide +kernel
theorem dX0_lacking_104 : decode cX0_lacking 104 = .ok (.istore 5, 2) := by decide +kernel
theorem dX0_lacking_106 : decode cX0_lacking 106 = .ok (.iload 6, 2) := by decide +kernel
theorem dX0_lacking_108 : decode cX0_lacking 108 = .ok (.iload 8, 2) := by decide +kernel
theorem dX0_lacking_110 : decode cX0_lacking 110 = .ok (.iload_n 3, 1) := by decide +kernel
theorem dX0_lacking_111 : decode cX0_lacking 111 = .ok (.iconst (-1), 1) := by decide +kernel
theorem dX0_lacking_112 : decode cX0_lacking 112 = .ok (.ixor, 1) := by decide +kernel
theorem dX0_lacking_113 : decode cX0_lacking 113 = .ok (.iand, 1) := by decide +kernel
theorem dX0_lacking_114 : decode cX0_lacking 114 = .ok (.ior, 1) := by decide +kernel
theorem dX0_lacking_115 : decode cX0_lacking 115 = .ok (.istore 6, 2) := by decide +kernel
theorem dX0_lacking_117 : decode cX0_lacking 117 = .ok (.iinc 7 1, 3) := by decide +kernel
theorem dX0_lacking_120 : decode cX0_lacking 120 = .ok (.goto (-108), 3) := by decide +kernel
theorem dX0_lacking_123 : decode cX0_lacking 123 = .ok (.iload 4, 2) := by decide +kernel
theorem dX0_lacking_125 : decode cX0_lacking 125 = .ok (.iload 5, 2) := by decide +kernel
theorem dX0_lacking_127 : decode cX0_lacking 127 = .ok (.invokestatic 90, 3) := by decide +kernel
theorem dX0_lacking_130 : decode cX0_lacking 130 = .ok (.ireturn, 1) := by decide +kernel
theorem dX1_init_0 : decode cX1_init 0 = .ok (.aload_n 0, 1) := by decide +kernel
theorem dX1_init_1 : decode cX1_init 1 = .ok (.invokespecial 3, 3) := by decide +kernel
theorem dX1_init_4 : decode cX1_init 4 = .ok (.aload_n 0, 1) := by decide +kernel
theorem dX1_init_5 : decode cX1_init 5 = .ok (.bipush 10, 2) := by decide +kernel
theorem dX1_init_7 : decode cX1_init 7 = .ok (.newarray .boolean, 2) := by decide +kernel
theorem dX1_init_9 : decode cX1_init 9 = .ok (.putfield 9, 3) := by decide +kernel
theorem dX1_init_12 : decode cX1_init 12 = .ok (.aload_n 0, 1) := by decide +kernel
theorem dX1_init_13 : decode cX1_init 13 = .ok (.bipush 10, 2) := by decide +kernel
theorem dX1_init_15 : decode cX1_init 15 = .ok (.newarray .int, 2) := by decide +kernel
theorem dX1_init_17 : decode cX1_init 17 = .ok (.putfield 15, 3) := by decide +kernel
theorem dX1_init_20 : decode cX1_init 20 = .ok (.aload_n 0, 1) := by decide +kernel
theorem dX1_init_21 : decode cX1_init 21 = .ok (.bipush 10, 2) := by decide +kernel
theorem dX1_init_23 : decode cX1_init 23 = .ok (.newarray .int, 2) := by decide +kernel
theorem dX1_init_25 : decode cX1_init 25 = .ok (.putfield 19, 3) := by decide +kernel
theorem dX1_init_28 : decode cX1_init 28 = .ok (.aload_n 0, 1) := by decide +kernel
theorem dX1_init_29 : decode cX1_init 29 = .ok (.sipush 160, 3) := by decide +kernel
theorem dX1_init_32 : decode cX1_init 32 = .ok (.newarray .int, 2) := by decide +kernel
theorem dX1_init_34 : decode cX1_init 34 = .ok (.putfield 22, 3) := by decide +kernel
theorem dX1_init_37 : decode cX1_init 37 = .ok (.aload_n 0, 1) := by decide +kernel
theorem dX1_init_38 : decode cX1_init 38 = .ok (.sipush 160, 3) := by decide +kernel
theorem dX1_init_41 : decode cX1_init 41 = .ok (.newarray .int, 2) := by decide +kernel
theorem dX1_init_43 : decode cX1_init 43 = .ok (.putfield 25, 3) := by decide +kernel
theorem dX1_init_46 : decode cX1_init 46 = .ok (.aload_n 0, 1) := by decide +kernel
theorem dX1_init_47 : decode cX1_init 47 = .ok (.sipush 160, 3) := by decide +kernel
theorem dX1_init_50 : decode cX1_init 50 = .ok (.newarray .int, 2) := by decide +kernel
theorem dX1_init_52 : decode cX1_init 52 = .ok (.putfield 28, 3) := by decide +kernel
theorem dX1_init_55 : decode cX1_init 55 = .ok (.return_, 1) := by decide +kernel
theorem dX1_clear_0 : decode cX1_clear 0 = .ok (.aload_n 0, 1) := by decide +kernel
theorem dX1_clear_1 : decode cX1_clear 1 = .ok (.iconst 0, 1) := by decide +kernel
theorem dX1_clear_2 : decode cX1_clear 2 = .ok (.putfield 31, 3) := by decide +kernel
theorem dX1_clear_5 : decode cX1_clear 5 = .ok (.aload_n 0, 1) := by decide +kernel
theorem dX1_clear_6 : decode cX1_clear 6 = .ok (.iconst 0, 1) := by decide +kernel
theorem dX1_clear_7 : decode cX1_clear 7 = .ok (.putfield 35, 3) := by decide +kernel
theorem dX1_clear_10 : decode cX1_clear 10 = .ok (.return_, 1) := by decide +kernel
theorem dX1_isWish_0 : decode cX1_isWish 0 = .ok (.iload_n 1, 1) := by decide +kernel
theorem dX1_isWish_1 : decode cX1_isWish 1 = .ok (.ifCond .lt 24, 3) := by decide +kernel
theorem dX1_isWish_4 : decode cX1_isWish 4 = .ok (.iload_n 1, 1) := by decide +kernel
theorem dX1_isWish_5 : decode cX1_isWish 5 = .ok (.aload_n 0, 1) := by decide +kernel
theorem dX1_isWish_6 : decode cX1_isWish 6 = .ok (.getfield 31, 3) := by decide +kernel
theorem dX1_isWish_9 : decode cX1_isWish 9 = .ok (.if_icmp .ge 16, 3) := by decide +kernel
theorem dX1_isWish_12 : decode cX1_isWish 12 = .ok (.aload_n 0, 1) := by decide +kernel
theorem dX1_isWish_13 : decode cX1_isWish 13 = .ok (.getfield 9, 3) := by decide +kernel
theorem dX1_isWish_16 : decode cX1_isWish 16 = .ok (.iload_n 1, 1) := by decide +kernel
theorem dX1_isWish_17 : decode cX1_isWish 17 = .ok (.baload, 1) := by decide +kernel
theorem dX1_isWish_18 : decode cX1_isWish 18 = .ok (.ifCond .ne 7, 3) := by decide +kernel
theorem dX1_isWish_21 : decode cX1_isWish 21 = .ok (.iconst 1, 1) := by decide +kernel
theorem dX1_isWish_22 : decode cX1_isWish 22 = .ok (.goto 4, 3) := by decide +kernel
theorem dX1_isWish_25 : decode cX1_isWish 25 = .ok (.iconst 0, 1) := by decide +kernel
theorem dX1_isWish_26 : decode cX1_isWish 26 = .ok (.ireturn, 1) := by decide +kernel
theorem dX1_addWish_0 : decode cX1_addWish 0 = .ok (.aload_n 0, 1) := by decide +kernel
theorem dX1_addWish_1 : decode cX1_addWish 1 = .ok (.iconst 0, 1) := by decide +kernel
theorem dX1_addWish_2 : decode cX1_addWish 2 = .ok (.iload_n 1, 1) := by decide +kernel
theorem dX1_addWish_3 : decode cX1_addWish 3 = .ok (.iload_n 3, 1) := by decide +kernel
theorem dX1_addWish_4 : decode cX1_addWish 4 = .ok (.invokevirtual 38, 3) := by decide +kernel
theorem dX1_addWish_7 : decode cX1_addWish 7 = .ok (.aload_n 0, 1) := by decide +kernel
theorem dX1_addWish_8 : decode cX1_addWish 8 = .ok (.iconst 0, 1) := by decide +kernel
theorem dX1_addWish_9 : decode cX1_addWish 9 = .ok (.iload_n 2, 1) := by decide +kernel
theorem dX1_addWish_10 : decode cX1_addWish 10 = .ok (.iload_n 3, 1) := by decide +kernel
theorem dX1_addWish_11 : decode cX1_addWish 11 = .ok (.invokevirtual 42, 3) := by decide +kernel
theorem dX1_addWish_14 : decode cX1_addWish 14 = .ok (.return_, 1) := by decide +kernel
theorem dX1_addLaw_0 : decode cX1_addLaw 0 = .ok (.aload_n 0, 1) := by decide +kernel
theorem dX1_addLaw_1 : decode cX1_addLaw 1 = .ok (.iconst 1, 1) := by decide +kernel
theorem dX1_addLaw_2 : decode cX1_addLaw 2 = .ok (.iload_n 2, 1) := by decide +kernel
theorem dX1_addLaw_3 : decode cX1_addLaw 3 = .ok (.iconst 0, 1) := by decide +kernel
theorem dX1_addLaw_4 : decode cX1_addLaw 4 = .ok (.invokevirtual 38, 3) := by decide +kernel
theorem dX1_addLaw_7 : decode cX1_addLaw 7 = .ok (.iconst 0, 1) := by decide +kernel
theorem dX1_addLaw_8 : decode cX1_addLaw 8 = .ok (.istore 6, 2) := by decide +kernel
theorem dX1_addLaw_10 : decode cX1_addLaw 10 = .ok (.iload 6, 2) := by decide +kernel
theorem dX1_addLaw_12 : decode cX1_addLaw 12 = .ok (.aload_n 1, 1) := by decide +kernel
theorem dX1_addLaw_13 : decode cX1_addLaw 13 = .ok (.getfield 46, 3) := by decide +kernel
theorem dX1_addLaw_16 : decode cX1_addLaw 16 = .ok (.if_icmp .ge 39, 3) := by decide +kernel
theorem dX1_addLaw_19 : decode cX1_addLaw 19 = .ok (.aload_n 1, 1) := by decide +kernel
theorem dX1_addLaw_20 : decode cX1_addLaw 20 = .ok (.getfield 51, 3) := by decide +kernel
theorem dX1_addLaw_23 : decode cX1_addLaw 23 = .ok (.iload 6, 2) := by decide +kernel
theorem dX1_addLaw_25 : decode cX1_addLaw 25 = .ok (.iaload, 1) := by decide +kernel
theorem dX1_addLaw_26 : decode cX1_addLaw 26 = .ok (.iload_n 2, 1) := by decide +kernel
theorem dX1_addLaw_27 : decode cX1_addLaw 27 = .ok (.if_icmp .ne 22, 3) := by decide +kernel
theorem dX1_addLaw_30 : decode cX1_addLaw 30 = .ok (.aload_n 0, 1) := by decide +kernel
theorem dX1_addLaw_31 : decode cX1_addLaw 31 = .ok (.iconst 1, 1) := by decide +kernel
theorem dX1_addLaw_32 : decode cX1_addLaw 32 = .ok (.iload 6, 2) := by decide +kernel
theorem dX1_addLaw_34 : decode cX1_addLaw 34 = .ok (.ishl, 1) := by decide +kernel
theorem dX1_addLaw_35 : decode cX1_addLaw 35 = .ok (.iload_n 3, 1) := by decide +kernel
theorem dX1_addLaw_36 : decode cX1_addLaw 36 = .ok (.aload_n 1, 1) := by decide +kernel
theorem dX1_addLaw_37 : decode cX1_addLaw 37 = .ok (.iload 6, 2) := by decide +kernel
theorem dX1_addLaw_39 : decode cX1_addLaw 39 = .ok (.iload 4, 2) := by decide +kernel
theorem dX1_addLaw_41 : decode cX1_addLaw 41 = .ok (.iload 5, 2) := by decide +kernel
theorem dX1_addLaw_43 : decode cX1_addLaw 43 = .ok (.invokevirtual 54, 3) := by decide +kernel
theorem dX1_addLaw_46 : decode cX1_addLaw 46 = .ok (.invokevirtual 42, 3) := by decide +kernel
theorem dX1_addLaw_49 : decode cX1_addLaw 49 = .ok (.iinc 6 1, 3) := by decide +kernel
theorem dX1_addLaw_52 : decode cX1_addLaw 52 = .ok (.goto (-42), 3) := by decide +kernel
theorem dX1_addLaw_55 : decode cX1_addLaw 55 = .ok (.return_, 1) := by decide +kernel
theorem dX1_wishesMetBy_0 : decode cX1_wishesMetBy 0 = .ok (.iconst 0, 1) := by decide +kernel
theorem dX1_wishesMetBy_1 : decode cX1_wishesMetBy 1 = .ok (.istore_n 2, 1) := by decide +kernel
theorem dX1_wishesMetBy_2 : decode cX1_wishesMetBy 2 = .ok (.iload_n 2, 1) := by decide +kernel
theorem dX1_wishesMetBy_3 : decode cX1_wishesMetBy 3 = .ok (.aload_n 0, 1) := by decide +kernel
theorem dX1_wishesMetBy_4 : decode cX1_wishesMetBy 4 = .ok (.getfield 35, 3) := by decide +kernel
theorem dX1_wishesMetBy_7 : decode cX1_wishesMetBy 7 = .ok (.if_icmp .ge 40, 3) := by decide +kernel
theorem dX1_wishesMetBy_10 : decode cX1_wishesMetBy 10 = .ok (.aload_n 0, 1) := by decide +kernel
theorem dX1_wishesMetBy_11 : decode cX1_wishesMetBy 11 = .ok (.getfield 22, 3) := by decide +kernel
theorem dX1_wishesMetBy_14 : decode cX1_wishesMetBy 14 = .ok (.iload_n 2, 1) := by decide +kernel
theorem dX1_wishesMetBy_15 : decode cX1_wishesMetBy 15 = .ok (.iaload, 1) := by decide +kernel
theorem dX1_wishesMetBy_16 : decode cX1_wishesMetBy 16 = .ok (.ifCond .ne 25, 3) := by decide +kernel
theorem dX1_wishesMetBy_19 : decode cX1_wishesMetBy 19 = .ok (.aload_n 0, 1) := by decide +kernel
theorem dX1_wishesMetBy_20 : decode cX1_wishesMetBy 20 = .ok (.getfield 28, 3) := by decide +kernel
theorem dX1_wishesMetBy_23 : decode cX1_wishesMetBy 23 = .ok (.iload_n 2, 1) := by decide +kernel
theorem dX1_wishesMetBy_24 : decode cX1_wishesMetBy 24 = .ok (.iaload, 1) := by decide +kernel
theorem dX1_wishesMetBy_25 : decode cX1_wishesMetBy 25 = .ok (.iload_n 1, 1) := by decide +kernel
theorem dX1_wishesMetBy_26 : decode cX1_wishesMetBy 26 = .ok (.iand, 1) := by decide +kernel
theorem dX1_wishesMetBy_27 : decode cX1_wishesMetBy 27 = .ok (.invokestatic 58, 3) := by decide +kernel
theorem dX1_wishesMetBy_30 : decode cX1_wishesMetBy 30 = .ok (.aload_n 0, 1) := by decide +kernel
theorem dX1_wishesMetBy_31 : decode cX1_wishesMetBy 31 = .ok (.getfield 25, 3) := by decide +kernel
theorem dX1_wishesMetBy_34 : decode cX1_wishesMetBy 34 = .ok (.iload_n 2, 1) := by decide +kernel
theorem dX1_wishesMetBy_35 : decode cX1_wishesMetBy 35 = .ok (.iaload, 1) := by decide +kernel
theorem dX1_wishesMetBy_36 : decode cX1_wishesMetBy 36 = .ok (.if_icmp .ge 5, 3) := by decide +kernel
theorem dX1_wishesMetBy_39 : decode cX1_wishesMetBy 39 = .ok (.iconst 0, 1) := by decide +kernel
theorem dX1_wishesMetBy_40 : decode cX1_wishesMetBy 40 = .ok (.ireturn, 1) := by decide +kernel
theorem dX1_wishesMetBy_41 : decode cX1_wishesMetBy 41 = .ok (.iinc 2 1, 3) := by decide +kernel
theorem dX1_wishesMetBy_44 : decode cX1_wishesMetBy 44 = .ok (.goto (-42), 3) := by decide +kernel
theorem dX1_wishesMetBy_47 : decode cX1_wishesMetBy 47 = .ok (.iconst 1, 1) := by decide +kernel
theorem dX1_wishesMetBy_48 : decode cX1_wishesMetBy 48 = .ok (.ireturn, 1) := by decide +kernel
theorem dX1_binds_0 : decode cX1_binds 0 = .ok (.aload_n 0, 1) := by decide +kernel
theorem dX1_binds_1 : decode cX1_binds 1 = .ok (.getfield 22, 3) := by decide +kernel
theorem dX1_binds_4 : decode cX1_binds 4 = .ok (.iload_n 1, 1) := by decide +kernel
theorem dX1_binds_5 : decode cX1_binds 5 = .ok (.iaload, 1) := by decide +kernel
theorem dX1_binds_6 : decode cX1_binds 6 = .ok (.ifCond .eq 14, 3) := by decide +kernel
theorem dX1_binds_9 : decode cX1_binds 9 = .ok (.aload_n 0, 1) := by decide +kernel
theorem dX1_binds_10 : decode cX1_binds 10 = .ok (.getfield 22, 3) := by decide +kernel
theorem dX1_binds_13 : decode cX1_binds 13 = .ok (.iload_n 1, 1) := by decide +kernel
theorem dX1_binds_14 : decode cX1_binds 14 = .ok (.iaload, 1) := by decide +kernel
theorem dX1_binds_15 : decode cX1_binds 15 = .ok (.iload_n 2, 1) := by decide +kernel
theorem dX1_binds_16 : decode cX1_binds 16 = .ok (.iand, 1) := by decide +kernel
theorem dX1_binds_17 : decode cX1_binds 17 = .ok (.ifCond .eq 7, 3) := by decide +kernel
theorem dX1_binds_20 : decode cX1_binds 20 = .ok (.iconst 1, 1) := by decide +kernel
theorem dX1_binds_21 : decode cX1_binds 21 = .ok (.goto 4, 3) := by decide +kernel
theorem dX1_binds_24 : decode cX1_binds 24 = .ok (.iconst 0, 1) := by decide +kernel
theorem dX1_binds_25 : decode cX1_binds 25 = .ok (.ireturn, 1) := by decide +kernel
theorem dX1_lose_0 : decode cX1_lose 0 = .ok (.iconst 0, 1) := by decide +kernel
theorem dX1_lose_1 : decode cX1_lose 1 = .ok (.istore_n 2, 1) := by decide +kernel
theorem dX1_lose_2 : decode cX1_lose 2 = .ok (.iload_n 2, 1) := by decide +kernel
theorem dX1_lose_3 : decode cX1_lose 3 = .ok (.aload_n 0, 1) := by decide +kernel
theorem dX1_lose_4 : decode cX1_lose 4 = .ok (.getfield 35, 3) := by decide +kernel
theorem dX1_lose_7 : decode cX1_lose 7 = .ok (.if_icmp .ge 54, 3) := by decide +kernel
theorem dX1_lose_10 : decode cX1_lose 10 = .ok (.aload_n 0, 1) := by decide +kernel
theorem dX1_lose_11 : decode cX1_lose 11 = .ok (.getfield 28, 3) := by decide +kernel
theorem dX1_lose_14 : decode cX1_lose 14 = .ok (.iload_n 2, 1) := by decide +kernel
theorem dX1_lose_15 : decode cX1_lose 15 = .ok (.dup2, 1) := by decide +kernel
theorem dX1_lose_16 : decode cX1_lose 16 = .ok (.iaload, 1) := by decide +kernel
theorem dX1_lose_17 : decode cX1_lose 17 = .ok (.iload_n 1, 1) := by decide +kernel
theorem dX1_lose_18 : decode cX1_lose 18 = .ok (.iconst (-1), 1) := by decide +kernel
theorem dX1_lose_19 : decode cX1_lose 19 = .ok (.ixor, 1) := by decide +kernel
theorem dX1_lose_20 : decode cX1_lose 20 = .ok (.iand, 1) := by decide +kernel
theorem dX1_lose_21 : decode cX1_lose 21 = .ok (.iastore, 1) := by decide +kernel
theorem dX1_lose_22 : decode cX1_lose 22 = .ok (.aload_n 0, 1) := by decide +kernel
theorem dX1_lose_23 : decode cX1_lose 23 = .ok (.getfield 22, 3) := by decide +kernel
theorem dX1_lose_26 : decode cX1_lose 26 = .ok (.iload_n 2, 1) := by decide +kernel
theorem dX1_lose_27 : decode cX1_lose 27 = .ok (.iaload, 1) := by decide +kernel
theorem dX1_lose_28 : decode cX1_lose 28 = .ok (.ifCond .eq 27, 3) := by decide +kernel
theorem dX1_lose_31 : decode cX1_lose 31 = .ok (.aload_n 0, 1) := by decide +kernel
theorem dX1_lose_32 : decode cX1_lose 32 = .ok (.getfield 25, 3) := by decide +kernel
theorem dX1_lose_35 : decode cX1_lose 35 = .ok (.iload_n 2, 1) := by decide +kernel
theorem dX1_lose_36 : decode cX1_lose 36 = .ok (.aload_n 0, 1) := by decide +kernel
theorem dX1_lose_37 : decode cX1_lose 37 = .ok (.getfield 25, 3) := by decide +kernel
theorem dX1_lose_40 : decode cX1_lose 40 = .ok (.iload_n 2, 1) := by decide +kernel
theorem dX1_lose_41 : decode cX1_lose 41 = .ok (.iaload, 1) := by decide +kernel
theorem dX1_lose_42 : decode cX1_lose 42 = .ok (.aload_n 0, 1) := by decide +kernel
theorem dX1_lose_43 : decode cX1_lose 43 = .ok (.getfield 28, 3) := by decide +kernel
theorem dX1_lose_46 : decode cX1_lose 46 = .ok (.iload_n 2, 1) := by decide +kernel
theorem dX1_lose_47 : decode cX1_lose 47 = .ok (.iaload, 1) := by decide +kernel
theorem dX1_lose_48 : decode cX1_lose 48 = .ok (.invokestatic 58, 3) := by decide +kernel
theorem dX1_lose_51 : decode cX1_lose 51 = .ok (.invokestatic 64, 3) := by decide +kernel
theorem dX1_lose_54 : decode cX1_lose 54 = .ok (.iastore, 1) := by decide +kernel
theorem dX1_lose_55 : decode cX1_lose 55 = .ok (.iinc 2 1, 3) := by decide +kernel
theorem dX1_lose_58 : decode cX1_lose 58 = .ok (.goto (-56), 3) := by decide +kernel
theorem dX1_lose_61 : decode cX1_lose 61 = .ok (.return_, 1) := by decide +kernel
theorem dX1_addDemand_0 : decode cX1_addDemand 0 = .ok (.aload_n 0, 1) := by decide +kernel
theorem dX1_addDemand_1 : decode cX1_addDemand 1 = .ok (.getfield 31, 3) := by decide +kernel
theorem dX1_addDemand_4 : decode cX1_addDemand 4 = .ok (.bipush 10, 2) := by decide +kernel
theorem dX1_addDemand_6 : decode cX1_addDemand 6 = .ok (.if_icmp .ge 43, 3) := by decide +kernel
theorem dX1_addDemand_9 : decode cX1_addDemand 9 = .ok (.aload_n 0, 1) := by decide +kernel
theorem dX1_addDemand_10 : decode cX1_addDemand 10 = .ok (.getfield 9, 3) := by decide +kernel
theorem dX1_addDemand_13 : decode cX1_addDemand 13 = .ok (.aload_n 0, 1) := by decide +kernel
theorem dX1_addDemand_14 : decode cX1_addDemand 14 = .ok (.getfield 31, 3) := by decide +kernel
theorem dX1_addDemand_17 : decode cX1_addDemand 17 = .ok (.iload_n 1, 1) := by decide +kernel
theorem dX1_addDemand_18 : decode cX1_addDemand 18 = .ok (.bastore, 1) := by decide +kernel
theorem dX1_addDemand_19 : decode cX1_addDemand 19 = .ok (.aload_n 0, 1) := by decide +kernel
theorem dX1_addDemand_20 : decode cX1_addDemand 20 = .ok (.getfield 15, 3) := by decide +kernel
theorem dX1_addDemand_23 : decode cX1_addDemand 23 = .ok (.aload_n 0, 1) := by decide +kernel
theorem dX1_addDemand_24 : decode cX1_addDemand 24 = .ok (.getfield 31, 3) := by decide +kernel
theorem dX1_addDemand_27 : decode cX1_addDemand 27 = .ok (.iload_n 2, 1) := by decide +kernel
theorem dX1_addDemand_28 : decode cX1_addDemand 28 = .ok (.iastore, 1) := by decide +kernel
theorem dX1_addDemand_29 : decode cX1_addDemand 29 = .ok (.aload_n 0, 1) := by decide +kernel
theorem dX1_addDemand_30 : decode cX1_addDemand 30 = .ok (.getfield 19, 3) := by decide +kernel
theorem dX1_addDemand_33 : decode cX1_addDemand 33 = .ok (.aload_n 0, 1) := by decide +kernel
theorem dX1_addDemand_34 : decode cX1_addDemand 34 = .ok (.getfield 31, 3) := by decide +kernel
theorem dX1_addDemand_37 : decode cX1_addDemand 37 = .ok (.iload_n 3, 1) := by decide +kernel
theorem dX1_addDemand_38 : decode cX1_addDemand 38 = .ok (.iastore, 1) := by decide +kernel
theorem dX1_addDemand_39 : decode cX1_addDemand 39 = .ok (.aload_n 0, 1) := by decide +kernel
theorem dX1_addDemand_40 : decode cX1_addDemand 40 = .ok (.dup, 1) := by decide +kernel
theorem dX1_addDemand_41 : decode cX1_addDemand 41 = .ok (.getfield 31, 3) := by decide +kernel
theorem dX1_addDemand_44 : decode cX1_addDemand 44 = .ok (.iconst 1, 1) := by decide +kernel
theorem dX1_addDemand_45 : decode cX1_addDemand 45 = .ok (.iadd, 1) := by decide +kernel
theorem dX1_addDemand_46 : decode cX1_addDemand 46 = .ok (.putfield 31, 3) := by decide +kernel
theorem dX1_addDemand_49 : decode cX1_addDemand 49 = .ok (.return_, 1) := by decide +kernel
theorem dX1_addBond_0 : decode cX1_addBond 0 = .ok (.aload_n 0, 1) := by decide +kernel
theorem dX1_addBond_1 : decode cX1_addBond 1 = .ok (.getfield 35, 3) := by decide +kernel
theorem dX1_addBond_4 : decode cX1_addBond 4 = .ok (.aload_n 0, 1) := by decide +kernel
theorem dX1_addBond_5 : decode cX1_addBond 5 = .ok (.getfield 22, 3) := by decide +kernel
theorem dX1_addBond_8 : decode cX1_addBond 8 = .ok (.arraylength, 1) := by decide +kernel
theorem dX1_addBond_9 : decode cX1_addBond 9 = .ok (.if_icmp .ge 43, 3) := by decide +kernel
theorem dX1_addBond_12 : decode cX1_addBond 12 = .ok (.aload_n 0, 1) := by decide +kernel
theorem dX1_addBond_13 : decode cX1_addBond 13 = .ok (.getfield 22, 3) := by decide +kernel
theorem dX1_addBond_16 : decode cX1_addBond 16 = .ok (.aload_n 0, 1) := by decide +kernel
theorem dX1_addBond_17 : decode cX1_addBond 17 = .ok (.getfield 35, 3) := by decide +kernel
theorem dX1_addBond_20 : decode cX1_addBond 20 = .ok (.iload_n 1, 1) := by decide +kernel
theorem dX1_addBond_21 : decode cX1_addBond 21 = .ok (.iastore, 1) := by decide +kernel
theorem dX1_addBond_22 : decode cX1_addBond 22 = .ok (.aload_n 0, 1) := by decide +kernel
theorem dX1_addBond_23 : decode cX1_addBond 23 = .ok (.getfield 25, 3) := by decide +kernel
theorem dX1_addBond_26 : decode cX1_addBond 26 = .ok (.aload_n 0, 1) := by decide +kernel
theorem dX1_addBond_27 : decode cX1_addBond 27 = .ok (.getfield 35, 3) := by decide +kernel
theorem dX1_addBond_30 : decode cX1_addBond 30 = .ok (.iload_n 2, 1) := by decide +kernel
theorem dX1_addBond_31 : decode cX1_addBond 31 = .ok (.iastore, 1) := by decide +kernel
theorem dX1_addBond_32 : decode cX1_addBond 32 = .ok (.aload_n 0, 1) := by decide +kernel
theorem dX1_addBond_33 : decode cX1_addBond 33 = .ok (.getfield 28, 3) := by decide +kernel
theorem dX1_addBond_36 : decode cX1_addBond 36 = .ok (.aload_n 0, 1) := by decide +kernel
theorem dX1_addBond_37 : decode cX1_addBond 37 = .ok (.getfield 35, 3) := by decide +kernel
theorem dX1_addBond_40 : decode cX1_addBond 40 = .ok (.iload_n 3, 1) := by decide +kernel
theorem dX1_addBond_41 : decode cX1_addBond 41 = .ok (.iastore, 1) := by decide +kernel
theorem dX1_addBond_42 : decode cX1_addBond 42 = .ok (.aload_n 0, 1) := by decide +kernel
theorem dX1_addBond_43 : decode cX1_addBond 43 = .ok (.dup, 1) := by decide +kernel
theorem dX1_addBond_44 : decode cX1_addBond 44 = .ok (.getfield 35, 3) := by decide +kernel
theorem dX1_addBond_47 : decode cX1_addBond 47 = .ok (.iconst 1, 1) := by decide +kernel
theorem dX1_addBond_48 : decode cX1_addBond 48 = .ok (.iadd, 1) := by decide +kernel
theorem dX1_addBond_49 : decode cX1_addBond 49 = .ok (.putfield 35, 3) := by decide +kernel
theorem dX1_addBond_52 : decode cX1_addBond 52 = .ok (.return_, 1) := by decide +kernel
theorem dX2_init_0 : decode cX2_init 0 = .ok (.aload_n 0, 1) := by decide +kernel
theorem dX2_init_1 : decode cX2_init 1 = .ok (.invokespecial 3, 3) := by decide +kernel
theorem dX2_init_4 : decode cX2_init 4 = .ok (.aload_n 0, 1) := by decide +kernel
theorem dX2_init_5 : decode cX2_init 5 = .ok (.iconst 5, 1) := by decide +kernel
theorem dX2_init_6 : decode cX2_init 6 = .ok (.newarray .long, 2) := by decide +kernel
theorem dX2_init_8 : decode cX2_init 8 = .ok (.putfield 9, 3) := by decide +kernel
theorem dX2_init_11 : decode cX2_init 11 = .ok (.aload_n 0, 1) := by decide +kernel
theorem dX2_init_12 : decode cX2_init 12 = .ok (.iconst 5, 1) := by decide +kernel
theorem dX2_init_13 : decode cX2_init 13 = .ok (.newarray .int, 2) := by decide +kernel
theorem dX2_init_15 : decode cX2_init 15 = .ok (.putfield 15, 3) := by decide +kernel
theorem dX2_init_18 : decode cX2_init 18 = .ok (.aload_n 0, 1) := by decide +kernel
theorem dX2_init_19 : decode cX2_init 19 = .ok (.iconst 5, 1) := by decide +kernel
theorem dX2_init_20 : decode cX2_init 20 = .ok (.newarray .int, 2) := by decide +kernel
theorem dX2_init_22 : decode cX2_init 22 = .ok (.putfield 19, 3) := by decide +kernel
theorem dX2_init_25 : decode cX2_init 25 = .ok (.aload_n 0, 1) := by decide +kernel
theorem dX2_init_26 : decode cX2_init 26 = .ok (.bipush 25, 2) := by decide +kernel
theorem dX2_init_28 : decode cX2_init 28 = .ok (.newarray .long, 2) := by decide +kernel
theorem dX2_init_30 : decode cX2_init 30 = .ok (.putfield 22, 3) := by decide +kernel
theorem dX2_init_33 : decode cX2_init 33 = .ok (.aload_n 0, 1) := by decide +kernel
theorem dX2_init_34 : decode cX2_init 34 = .ok (.bipush 25, 2) := by decide +kernel
theorem dX2_init_36 : decode cX2_init 36 = .ok (.newarray .int, 2) := by decide +kernel
theorem dX2_init_38 : decode cX2_init 38 = .ok (.putfield 25, 3) := by decide +kernel
theorem dX2_init_41 : decode cX2_init 41 = .ok (.aload_n 0, 1) := by decide +kernel
theorem dX2_init_42 : decode cX2_init 42 = .ok (.bipush 16, 2) := by decide +kernel
theorem dX2_init_44 : decode cX2_init 44 = .ok (.newarray .int, 2) := by decide +kernel
theorem dX2_init_46 : decode cX2_init 46 = .ok (.putfield 28, 3) := by decide +kernel
theorem dX2_init_49 : decode cX2_init 49 = .ok (.aload_n 0, 1) := by decide +kernel
theorem dX2_init_50 : decode cX2_init 50 = .ok (.bipush 16, 2) := by decide +kernel
theorem dX2_init_52 : decode cX2_init 52 = .ok (.newarray .int, 2) := by decide +kernel
theorem dX2_init_54 : decode cX2_init 54 = .ok (.putfield 31, 3) := by decide +kernel
theorem dX2_init_57 : decode cX2_init 57 = .ok (.aload_n 0, 1) := by decide +kernel
theorem dX2_init_58 : decode cX2_init 58 = .ok (.bipush 80, 2) := by decide +kernel
theorem dX2_init_60 : decode cX2_init 60 = .ok (.newarray .int, 2) := by decide +kernel
theorem dX2_init_62 : decode cX2_init 62 = .ok (.putfield 34, 3) := by decide +kernel
theorem dX2_init_65 : decode cX2_init 65 = .ok (.aload_n 0, 1) := by decide +kernel
theorem dX2_init_66 : decode cX2_init 66 = .ok (.bipush 80, 2) := by decide +kernel
theorem dX2_init_68 : decode cX2_init 68 = .ok (.newarray .int, 2) := by decide +kernel
theorem dX2_init_70 : decode cX2_init 70 = .ok (.putfield 37, 3) := by decide +kernel
theorem dX2_init_73 : decode cX2_init 73 = .ok (.aload_n 0, 1) := by decide +kernel
theorem dX2_init_74 : decode cX2_init 74 = .ok (.bipush 16, 2) := by decide +kernel
theorem dX2_init_76 : decode cX2_init 76 = .ok (.newarray .int, 2) := by decide +kernel
theorem dX2_init_78 : decode cX2_init 78 = .ok (.putfield 40, 3) := by decide +kernel
theorem dX2_init_81 : decode cX2_init 81 = .ok (.return_, 1) := by decide +kernel
theorem dX2_clear_0 : decode cX2_clear 0 = .ok (.aload_n 0, 1) := by decide +kernel
theorem dX2_clear_1 : decode cX2_clear 1 = .ok (.iconst 0, 1) := by decide +kernel
theorem dX2_clear_2 : decode cX2_clear 2 = .ok (.putfield 43, 3) := by decide +kernel
theorem dX2_clear_5 : decode cX2_clear 5 = .ok (.aload_n 0, 1) := by decide +kernel
theorem dX2_clear_6 : decode cX2_clear 6 = .ok (.iconst 0, 1) := by decide +kernel
theorem dX2_clear_7 : decode cX2_clear 7 = .ok (.putfield 47, 3) := by decide +kernel
theorem dX2_clear_10 : decode cX2_clear 10 = .ok (.aload_n 0, 1) := by decide +kernel
theorem dX2_clear_11 : decode cX2_clear 11 = .ok (.getfield 34, 3) := by decide +kernel
theorem dX2_clear_14 : decode cX2_clear 14 = .ok (.iconst (-1), 1) := by decide +kernel
theorem dX2_clear_15 : decode cX2_clear 15 = .ok (.invokestatic 50, 3) := by decide +kernel
theorem dX2_clear_18 : decode cX2_clear 18 = .ok (.return_, 1) := by decide +kernel
theorem dX2_hasTable_0 : decode cX2_hasTable 0 = .ok (.iload_n 1, 1) := by decide +kernel
theorem dX2_hasTable_1 : decode cX2_hasTable 1 = .ok (.ifCond .lt 15, 3) := by decide +kernel
theorem dX2_hasTable_4 : decode cX2_hasTable 4 = .ok (.iload_n 1, 1) := by decide +kernel
theorem dX2_hasTable_5 : decode cX2_hasTable 5 = .ok (.aload_n 0, 1) := by decide +kernel
theorem dX2_hasTable_6 : decode cX2_hasTable 6 = .ok (.getfield 43, 3) := by decide +kernel
theorem dX2_hasTable_9 : decode cX2_hasTable 9 = .ok (.if_icmp .ge 7, 3) := by decide +kernel
theorem dX2_hasTable_12 : decode cX2_hasTable 12 = .ok (.iconst 1, 1) := by decide +kernel
theorem dX2_hasTable_13 : decode cX2_hasTable 13 = .ok (.goto 4, 3) := by decide +kernel
theorem dX2_hasTable_16 : decode cX2_hasTable 16 = .ok (.iconst 0, 1) := by decide +kernel
theorem dX2_hasTable_17 : decode cX2_hasTable 17 = .ok (.ireturn, 1) := by decide +kernel
theorem dX2_hasColumn_0 : decode cX2_hasColumn 0 = .ok (.iload_n 1, 1) := by decide +kernel
theorem dX2_hasColumn_1 : decode cX2_hasColumn 1 = .ok (.ifCond .lt 29, 3) := by decide +kernel
theorem dX2_hasColumn_4 : decode cX2_hasColumn 4 = .ok (.iload_n 1, 1) := by decide +kernel
theorem dX2_hasColumn_5 : decode cX2_hasColumn 5 = .ok (.aload_n 0, 1) := by decide +kernel
theorem dX2_hasColumn_6 : decode cX2_hasColumn 6 = .ok (.getfield 43, 3) := by decide +kernel
theorem dX2_hasColumn_9 : decode cX2_hasColumn 9 = .ok (.if_icmp .ge 21, 3) := by decide +kernel
theorem dX2_hasColumn_12 : decode cX2_hasColumn 12 = .ok (.iload_n 2, 1) := by decide +kernel
theorem dX2_hasColumn_13 : decode cX2_hasColumn 13 = .ok (.ifCond .lt 17, 3) := by decide +kernel
theorem dX2_hasColumn_16 : decode cX2_hasColumn 16 = .ok (.iload_n 2, 1) := by decide +kernel
theorem dX2_hasColumn_17 : decode cX2_hasColumn 17 = .ok (.aload_n 0, 1) := by decide +kernel
theorem dX2_hasColumn_18 : decode cX2_hasColumn 18 = .ok (.getfield 15, 3) := by decide +kernel
theorem dX2_hasColumn_21 : decode cX2_hasColumn 21 = .ok (.iload_n 1, 1) := by decide +kernel
theorem dX2_hasColumn_22 : decode cX2_hasColumn 22 = .ok (.iaload, 1) := by decide +kernel
theorem dX2_hasColumn_23 : decode cX2_hasColumn 23 = .ok (.if_icmp .ge 7, 3) := by decide +kernel
theorem dX2_hasColumn_26 : decode cX2_hasColumn 26 = .ok (.iconst 1, 1) := by decide +kernel
theorem dX2_hasColumn_27 : decode cX2_hasColumn 27 = .ok (.goto 4, 3) := by decide +kernel
theorem dX2_hasColumn_30 : decode cX2_hasColumn 30 = .ok (.iconst 0, 1) := by decide +kernel
theorem dX2_hasColumn_31 : decode cX2_hasColumn 31 = .ok (.ireturn, 1) := by decide +kernel
theorem dX2_isPlainColumn_0 : decode cX2_isPlainColumn 0 = .ok (.aload_n 0, 1) := by decide +kernel
theorem dX2_isPlainColumn_1 : decode cX2_isPlainColumn 1 = .ok (.iload_n 1, 1) := by decide +kernel
theorem dX2_isPlainColumn_2 : decode cX2_isPlainColumn 2 = .ok (.iload_n 2, 1) := by decide +kernel
theorem dX2_isPlainColumn_3 : decode cX2_isPlainColumn 3 = .ok (.invokevirtual 56, 3) := by decide +kernel
theorem dX2_isPlainColumn_6 : decode cX2_isPlainColumn 6 = .ok (.ifCond .eq 21, 3) := by decide +kernel
theorem dX2_isPlainColumn_9 : decode cX2_isPlainColumn 9 = .ok (.aload_n 0, 1) := by decide +kernel
theorem dX2_isPlainColumn_10 : decode cX2_isPlainColumn 10 = .ok (.getfield 25, 3) := by decide +kernel
theorem dX2_isPlainColumn_13 : decode cX2_isPlainColumn 13 = .ok (.iload_n 1, 1) := by decide +kernel
theorem dX2_isPlainColumn_14 : decode cX2_isPlainColumn 14 = .ok (.iload_n 2, 1) := by decide +kernel
theorem dX2_isPlainColumn_15 : decode cX2_isPlainColumn 15 = .ok (.invokestatic 60, 3) := by decide +kernel
theorem dX2_isPlainColumn_18 : decode cX2_isPlainColumn 18 = .ok (.iaload, 1) := by decide +kernel
theorem dX2_isPlainColumn_19 : decode cX2_isPlainColumn 19 = .ok (.iconst (-1), 1) := by decide +kernel
theorem dX2_isPlainColumn_20 : decode cX2_isPlainColumn 20 = .ok (.if_icmp .ne 7, 3) := by decide +kernel
theorem dX2_isPlainColumn_23 : decode cX2_isPlainColumn 23 = .ok (.iconst 1, 1) := by decide +kernel
theorem dX2_isPlainColumn_24 : decode cX2_isPlainColumn 24 = .ok (.goto 4, 3) := by decide +kernel
theorem dX2_isPlainColumn_27 : decode cX2_isPlainColumn 27 = .ok (.iconst 0, 1) := by decide +kernel
theorem dX2_isPlainColumn_28 : decode cX2_isPlainColumn 28 = .ok (.ireturn, 1) := by decide +kernel
theorem dX2_hasRow_0 : decode cX2_hasRow 0 = .ok (.iload_n 1, 1) := by decide +kernel
theorem dX2_hasRow_1 : decode cX2_hasRow 1 = .ok (.ifCond .lt 15, 3) := by decide +kernel
theorem dX2_hasRow_4 : decode cX2_hasRow 4 = .ok (.iload_n 1, 1) := by decide +kernel
theorem dX2_hasRow_5 : decode cX2_hasRow 5 = .ok (.aload_n 0, 1) := by decide +kernel
theorem dX2_hasRow_6 : decode cX2_hasRow 6 = .ok (.getfield 47, 3) := by decide +kernel
theorem dX2_hasRow_9 : decode cX2_hasRow 9 = .ok (.if_icmp .ge 7, 3) := by decide +kernel
theorem dX2_hasRow_12 : decode cX2_hasRow 12 = .ok (.iconst 1, 1) := by decide +kernel
theorem dX2_hasRow_13 : decode cX2_hasRow 13 = .ok (.goto 4, 3) := by decide +kernel
theorem dX2_hasRow_16 : decode cX2_hasRow 16 = .ok (.iconst 0, 1) := by decide +kernel
theorem dX2_hasRow_17 : decode cX2_hasRow 17 = .ok (.ireturn, 1) := by decide +kernel
theorem dX2_allRows_0 : decode cX2_allRows 0 = .ok (.iconst 1, 1) := by decide +kernel
theorem dX2_allRows_1 : decode cX2_allRows 1 = .ok (.aload_n 0, 1) := by decide +kernel
theorem dX2_allRows_2 : decode cX2_allRows 2 = .ok (.getfield 47, 3) := by decide +kernel
theorem dX2_allRows_5 : decode cX2_allRows 5 = .ok (.ishl, 1) := by decide +kernel
theorem dX2_allRows_6 : decode cX2_allRows 6 = .ok (.iconst 1, 1) := by decide +kernel
theorem dX2_allRows_7 : decode cX2_allRows 7 = .ok (.isub, 1) := by decide +kernel
theorem dX2_allRows_8 : decode cX2_allRows 8 = .ok (.ireturn, 1) := by decide +kernel
theorem dX2_target_0 : decode cX2_target 0 = .ok (.aload_n 0, 1) := by decide +kernel
theorem dX2_target_1 : decode cX2_target 1 = .ok (.iload_n 1, 1) := by decide +kernel
theorem dX2_target_2 : decode cX2_target 2 = .ok (.iload_n 2, 1) := by decide +kernel
theorem dX2_target_3 : decode cX2_target 3 = .ok (.invokevirtual 56, 3) := by decide +kernel
theorem dX2_target_6 : decode cX2_target 6 = .ok (.ifCond .eq 16, 3) := by decide +kernel
theorem dX2_target_9 : decode cX2_target 9 = .ok (.aload_n 0, 1) := by decide +kernel
theorem dX2_target_10 : decode cX2_target 10 = .ok (.getfield 25, 3) := by decide +kernel
theorem dX2_target_13 : decode cX2_target 13 = .ok (.iload_n 1, 1) := by decide +kernel
theorem dX2_target_14 : decode cX2_target 14 = .ok (.iload_n 2, 1) := by decide +kernel
theorem dX2_target_15 : decode cX2_target 15 = .ok (.invokestatic 60, 3) := by decide +kernel
theorem dX2_target_18 : decode cX2_target 18 = .ok (.iaload, 1) := by decide +kernel
theorem dX2_target_19 : decode cX2_target 19 = .ok (.goto 4, 3) := by decide +kernel
theorem dX2_target_22 : decode cX2_target 22 = .ok (.iconst (-1), 1) := by decide +kernel
theorem dX2_target_23 : decode cX2_target 23 = .ok (.ireturn, 1) := by decide +kernel
theorem dX2_cell_0 : decode cX2_cell 0 = .ok (.iload_n 1, 1) := by decide +kernel
theorem dX2_cell_1 : decode cX2_cell 1 = .ok (.ifCond .lt 20, 3) := by decide +kernel
theorem dX2_cell_4 : decode cX2_cell 4 = .ok (.iload_n 1, 1) := by decide +kernel
theorem dX2_cell_5 : decode cX2_cell 5 = .ok (.aload_n 0, 1) := by decide +kernel
theorem dX2_cell_6 : decode cX2_cell 6 = .ok (.getfield 47, 3) := by decide +kernel
theorem dX2_cell_9 : decode cX2_cell 9 = .ok (.if_icmp .ge 12, 3) := by decide +kernel
theorem dX2_cell_12 : decode cX2_cell 12 = .ok (.iload_n 2, 1) := by decide +kernel
theorem dX2_cell_13 : decode cX2_cell 13 = .ok (.ifCond .lt 8, 3) := by decide +kernel
theorem dX2_cell_16 : decode cX2_cell 16 = .ok (.iload_n 2, 1) := by decide +kernel
theorem dX2_cell_17 : decode cX2_cell 17 = .ok (.iconst 5, 1) := by decide +kernel
theorem dX2_cell_18 : decode cX2_cell 18 = .ok (.if_icmp .lt 5, 3) := by decide +kernel
theorem dX2_cell_21 : decode cX2_cell 21 = .ok (.iconst (-1), 1) := by decide +kernel
theorem dX2_cell_22 : decode cX2_cell 22 = .ok (.ireturn, 1) := by decide +kernel
theorem dX2_cell_23 : decode cX2_cell 23 = .ok (.aload_n 0, 1) := by decide +kernel
theorem dX2_cell_24 : decode cX2_cell 24 = .ok (.getfield 34, 3) := by decide +kernel
theorem dX2_cell_27 : decode cX2_cell 27 = .ok (.iload_n 1, 1) := by decide +kernel
theorem dX2_cell_28 : decode cX2_cell 28 = .ok (.iconst 5, 1) := by decide +kernel
theorem dX2_cell_29 : decode cX2_cell 29 = .ok (.imul, 1) := by decide +kernel
theorem dX2_cell_30 : decode cX2_cell 30 = .ok (.iload_n 2, 1) := by decide +kernel
theorem dX2_cell_31 : decode cX2_cell 31 = .ok (.iadd, 1) := by decide +kernel
theorem dX2_cell_32 : decode cX2_cell 32 = .ok (.iaload, 1) := by decide +kernel
theorem dX2_cell_33 : decode cX2_cell 33 = .ok (.ireturn, 1) := by decide +kernel
theorem dX2_tableNamed_0 : decode cX2_tableNamed 0 = .ok (.iconst 0, 1) := by decide +kernel
theorem dX2_tableNamed_1 : decode cX2_tableNamed 1 = .ok (.istore_n 3, 1) := by decide +kernel
theorem dX2_tableNamed_2 : decode cX2_tableNamed 2 = .ok (.iload_n 3, 1) := by decide +kernel
theorem dX2_tableNamed_3 : decode cX2_tableNamed 3 = .ok (.aload_n 0, 1) := by decide +kernel
theorem dX2_tableNamed_4 : decode cX2_tableNamed 4 = .ok (.getfield 43, 3) := by decide +kernel
theorem dX2_tableNamed_7 : decode cX2_tableNamed 7 = .ok (.if_icmp .ge 22, 3) := by decide +kernel
theorem dX2_tableNamed_10 : decode cX2_tableNamed 10 = .ok (.aload_n 0, 1) := by decide +kernel
theorem dX2_tableNamed_11 : decode cX2_tableNamed 11 = .ok (.getfield 9, 3) := by decide +kernel
theorem dX2_tableNamed_14 : decode cX2_tableNamed 14 = .ok (.iload_n 3, 1) := by decide +kernel
theorem dX2_tableNamed_15 : decode cX2_tableNamed 15 = .ok (.laload, 1) := by decide +kernel
theorem dX2_tableNamed_16 : decode cX2_tableNamed 16 = .ok (.lload_n 1, 1) := by decide +kernel
theorem dX2_tableNamed_17 : decode cX2_tableNamed 17 = .ok (.lcmp, 1) := by decide +kernel
theorem dX2_tableNamed_18 : decode cX2_tableNamed 18 = .ok (.ifCond .ne 5, 3) := by decide +kernel
theorem dX2_tableNamed_21 : decode cX2_tableNamed 21 = .ok (.iload_n 3, 1) := by decide +kernel
theorem dX2_tableNamed_22 : decode cX2_tableNamed 22 = .ok (.ireturn, 1) := by decide +kernel
theorem dX2_tableNamed_23 : decode cX2_tableNamed 23 = .ok (.iinc 3 1, 3) := by decide +kernel
theorem dX2_tableNamed_26 : decode cX2_tableNamed 26 = .ok (.goto (-24), 3) := by decide +kernel
theorem dX2_tableNamed_29 : decode cX2_tableNamed 29 = .ok (.iconst (-1), 1) := by decide +kernel
theorem dX2_tableNamed_30 : decode cX2_tableNamed 30 = .ok (.ireturn, 1) := by decide +kernel
theorem dX2_columnNamed_0 : decode cX2_columnNamed 0 = .ok (.iconst 0, 1) := by decide +kernel
theorem dX2_columnNamed_1 : decode cX2_columnNamed 1 = .ok (.istore 4, 2) := by decide +kernel
theorem dX2_columnNamed_3 : decode cX2_columnNamed 3 = .ok (.iload 4, 2) := by decide +kernel
theorem dX2_columnNamed_5 : decode cX2_columnNamed 5 = .ok (.iconst 5, 1) := by decide +kernel
theorem dX2_columnNamed_6 : decode cX2_columnNamed 6 = .ok (.if_icmp .ge 38, 3) := by decide +kernel
theorem dX2_columnNamed_9 : decode cX2_columnNamed 9 = .ok (.aload_n 0, 1) := by decide +kernel
theorem dX2_columnNamed_10 : decode cX2_columnNamed 10 = .ok (.iload_n 1, 1) := by decide +kernel
theorem dX2_columnNamed_11 : decode cX2_columnNamed 11 = .ok (.iload 4, 2) := by decide +kernel
theorem dX2_columnNamed_13 : decode cX2_columnNamed 13 = .ok (.invokevirtual 56, 3) := by decide +kernel
theorem dX2_columnNamed_16 : decode cX2_columnNamed 16 = .ok (.ifCond .eq 28, 3) := by decide +kernel
theorem dX2_columnNamed_19 : decode cX2_columnNamed 19 = .ok (.aload_n 0, 1) := by decide +kernel
theorem dX2_columnNamed_20 : decode cX2_columnNamed 20 = .ok (.getfield 22, 3) := by decide +kernel
theorem dX2_columnNamed_23 : decode cX2_columnNamed 23 = .ok (.iload_n 1, 1) := by decide +kernel
theorem dX2_columnNamed_24 : decode cX2_columnNamed 24 = .ok (.iload 4, 2) := by decide +kernel
theorem dX2_columnNamed_26 : decode cX2_columnNamed 26 = .ok (.invokestatic 60, 3) := by decide +kernel
theorem dX2_columnNamed_29 : decode cX2_columnNamed 29 = .ok (.laload, 1) := by decide +kernel
theorem dX2_columnNamed_30 : decode cX2_columnNamed 30 = .ok (.lload_n 2, 1) := by decide +kernel
theorem dX2_columnNamed_31 : decode cX2_columnNamed 31 = .ok (.lcmp, 1) := by decide +kernel
theorem dX2_columnNamed_32 : decode cX2_columnNamed 32 = .ok (.ifCond .ne 6, 3) := by decide +kernel
theorem dX2_columnNamed_35 : decode cX2_columnNamed 35 = .ok (.iload 4, 2) := by decide +kernel
theorem dX2_columnNamed_37 : decode cX2_columnNamed 37 = .ok (.ireturn, 1) := by decide +kernel
theorem dX2_columnNamed_38 : decode cX2_columnNamed 38 = .ok (.iinc 4 1, 3) := by decide +kernel
theorem dX2_columnNamed_41 : decode cX2_columnNamed 41 = .ok (.goto (-38), 3) := by decide +kernel
theorem dX2_columnNamed_44 : decode cX2_columnNamed 44 = .ok (.iconst (-1), 1) := by decide +kernel
theorem dX2_columnNamed_45 : decode cX2_columnNamed 45 = .ok (.ireturn, 1) := by decide +kernel
theorem dX2_rowsOf_0 : decode cX2_rowsOf 0 = .ok (.iconst 0, 1) := by decide +kernel
theorem dX2_rowsOf_1 : decode cX2_rowsOf 1 = .ok (.istore_n 2, 1) := by decide +kernel
theorem dX2_rowsOf_2 : decode cX2_rowsOf 2 = .ok (.iconst 0, 1) := by decide +kernel
theorem dX2_rowsOf_3 : decode cX2_rowsOf 3 = .ok (.istore_n 3, 1) := by decide +kernel
theorem dX2_rowsOf_4 : decode cX2_rowsOf 4 = .ok (.iload_n 3, 1) := by decide +kernel
theorem dX2_rowsOf_5 : decode cX2_rowsOf 5 = .ok (.aload_n 0, 1) := by decide +kernel
theorem dX2_rowsOf_6 : decode cX2_rowsOf 6 = .ok (.getfield 47, 3) := by decide +kernel
theorem dX2_rowsOf_9 : decode cX2_rowsOf 9 = .ok (.if_icmp .ge 25, 3) := by decide +kernel
theorem dX2_rowsOf_12 : decode cX2_rowsOf 12 = .ok (.aload_n 0, 1) := by decide +kernel
theorem dX2_rowsOf_13 : decode cX2_rowsOf 13 = .ok (.getfield 28, 3) := by decide +kernel
theorem dX2_rowsOf_16 : decode cX2_rowsOf 16 = .ok (.iload_n 3, 1) := by decide +kernel
theorem dX2_rowsOf_17 : decode cX2_rowsOf 17 = .ok (.iaload, 1) := by decide +kernel
theorem dX2_rowsOf_18 : decode cX2_rowsOf 18 = .ok (.iload_n 1, 1) := by decide +kernel
theorem dX2_rowsOf_19 : decode cX2_rowsOf 19 = .ok (.if_icmp .ne 9, 3) := by decide +kernel
theorem dX2_rowsOf_22 : decode cX2_rowsOf 22 = .ok (.iload_n 2, 1) := by decide +kernel
theorem dX2_rowsOf_23 : decode cX2_rowsOf 23 = .ok (.iconst 1, 1) := by decide +kernel
theorem dX2_rowsOf_24 : decode cX2_rowsOf 24 = .ok (.iload_n 3, 1) := by decide +kernel
theorem dX2_rowsOf_25 : decode cX2_rowsOf 25 = .ok (.ishl, 1) := by decide +kernel
theorem dX2_rowsOf_26 : decode cX2_rowsOf 26 = .ok (.ior, 1) := by decide +kernel
theorem dX2_rowsOf_27 : decode cX2_rowsOf 27 = .ok (.istore_n 2, 1) := by decide +kernel
theorem dX2_rowsOf_28 : decode cX2_rowsOf 28 = .ok (.iinc 3 1, 3) := by decide +kernel
theorem dX2_rowsOf_31 : decode cX2_rowsOf 31 = .ok (.goto (-27), 3) := by decide +kernel
theorem dX2_rowsOf_34 : decode cX2_rowsOf 34 = .ok (.iload_n 2, 1) := by decide +kernel
theorem dX2_rowsOf_35 : decode cX2_rowsOf 35 = .ok (.ireturn, 1) := by decide +kernel
theorem dX2_rowOf_0 : decode cX2_rowOf 0 = .ok (.iconst 0, 1) := by decide +kernel
theorem dX2_rowOf_1 : decode cX2_rowOf 1 = .ok (.istore_n 3, 1) := by decide +kernel
theorem dX2_rowOf_2 : decode cX2_rowOf 2 = .ok (.iload_n 3, 1) := by decide +kernel
theorem dX2_rowOf_3 : decode cX2_rowOf 3 = .ok (.aload_n 0, 1) := by decide +kernel
theorem dX2_rowOf_4 : decode cX2_rowOf 4 = .ok (.getfield 47, 3) := by decide +kernel
theorem dX2_rowOf_7 : decode cX2_rowOf 7 = .ok (.if_icmp .ge 31, 3) := by decide +kernel
theorem dX2_rowOf_10 : decode cX2_rowOf 10 = .ok (.aload_n 0, 1) := by decide +kernel
theorem dX2_rowOf_11 : decode cX2_rowOf 11 = .ok (.getfield 28, 3) := by decide +kernel
theorem dX2_rowOf_14 : decode cX2_rowOf 14 = .ok (.iload_n 3, 1) := by decide +kernel
theorem dX2_rowOf_15 : decode cX2_rowOf 15 = .ok (.iaload, 1) := by decide +kernel
theorem dX2_rowOf_16 : decode cX2_rowOf 16 = .ok (.iload_n 1, 1) := by decide +kernel
theorem dX2_rowOf_17 : decode cX2_rowOf 17 = .ok (.if_icmp .ne 15, 3) := by decide +kernel
theorem dX2_rowOf_20 : decode cX2_rowOf 20 = .ok (.aload_n 0, 1) := by decide +kernel
theorem dX2_rowOf_21 : decode cX2_rowOf 21 = .ok (.getfield 31, 3) := by decide +kernel
theorem dX2_rowOf_24 : decode cX2_rowOf 24 = .ok (.iload_n 3, 1) := by decide +kernel
theorem dX2_rowOf_25 : decode cX2_rowOf 25 = .ok (.iaload, 1) := by decide +kernel
theorem dX2_rowOf_26 : decode cX2_rowOf 26 = .ok (.iload_n 2, 1) := by decide +kernel
theorem dX2_rowOf_27 : decode cX2_rowOf 27 = .ok (.if_icmp .ne 5, 3) := by decide +kernel
theorem dX2_rowOf_30 : decode cX2_rowOf 30 = .ok (.iload_n 3, 1) := by decide +kernel
theorem dX2_rowOf_31 : decode cX2_rowOf 31 = .ok (.ireturn, 1) := by decide +kernel
theorem dX2_rowOf_32 : decode cX2_rowOf 32 = .ok (.iinc 3 1, 3) := by decide +kernel
theorem dX2_rowOf_35 : decode cX2_rowOf 35 = .ok (.goto (-33), 3) := by decide +kernel
theorem dX2_rowOf_38 : decode cX2_rowOf 38 = .ok (.iconst (-1), 1) := by decide +kernel
theorem dX2_rowOf_39 : decode cX2_rowOf 39 = .ok (.ireturn, 1) := by decide +kernel
theorem dX2_linkersOf_0 : decode cX2_linkersOf 0 = .ok (.iconst 0, 1) := by decide +kernel
theorem dX2_linkersOf_1 : decode cX2_linkersOf 1 = .ok (.istore 4, 2) := by decide +kernel
theorem dX2_linkersOf_3 : decode cX2_linkersOf 3 = .ok (.iconst 0, 1) := by decide +kernel
theorem dX2_linkersOf_4 : decode cX2_linkersOf 4 = .ok (.istore 5, 2) := by decide +kernel
theorem dX2_linkersOf_6 : decode cX2_linkersOf 6 = .ok (.iload 5, 2) := by decide +kernel
theorem dX2_linkersOf_8 : decode cX2_linkersOf 8 = .ok (.aload_n 0, 1) := by decide +kernel
theorem dX2_linkersOf_9 : decode cX2_linkersOf 9 = .ok (.getfield 47, 3) := by decide +kernel
theorem dX2_linkersOf_12 : decode cX2_linkersOf 12 = .ok (.if_icmp .ge 40, 3) := by decide +kernel
theorem dX2_linkersOf_15 : decode cX2_linkersOf 15 = .ok (.aload_n 0, 1) := by decide +kernel
theorem dX2_linkersOf_16 : decode cX2_linkersOf 16 = .ok (.getfield 28, 3) := by decide +kernel
theorem dX2_linkersOf_19 : decode cX2_linkersOf 19 = .ok (.iload 5, 2) := by decide +kernel
theorem dX2_linkersOf_21 : decode cX2_linkersOf 21 = .ok (.iaload, 1) := by decide +kernel
theorem dX2_linkersOf_22 : decode cX2_linkersOf 22 = .ok (.iload_n 2, 1) := by decide +kernel
theorem dX2_linkersOf_23 : decode cX2_linkersOf 23 = .ok (.if_icmp .ne 23, 3) := by decide +kernel
theorem dX2_linkersOf_26 : decode cX2_linkersOf 26 = .ok (.aload_n 0, 1) := by decide +kernel
theorem dX2_linkersOf_27 : decode cX2_linkersOf 27 = .ok (.iload 5, 2) := by decide +kernel
theorem dX2_linkersOf_29 : decode cX2_linkersOf 29 = .ok (.iload_n 3, 1) := by decide +kernel
theorem dX2_linkersOf_30 : decode cX2_linkersOf 30 = .ok (.invokevirtual 64, 3) := by decide +kernel
theorem dX2_linkersOf_33 : decode cX2_linkersOf 33 = .ok (.iload_n 1, 1) := by decide +kernel
theorem dX2_linkersOf_34 : decode cX2_linkersOf 34 = .ok (.if_icmp .ne 12, 3) := by decide +kernel
theorem dX2_linkersOf_37 : decode cX2_linkersOf 37 = .ok (.iload 4, 2) := by decide +kernel
theorem dX2_linkersOf_39 : decode cX2_linkersOf 39 = .ok (.iconst 1, 1) := by decide +kernel
theorem dX2_linkersOf_40 : decode cX2_linkersOf 40 = .ok (.iload 5, 2) := by decide +kernel
theorem dX2_linkersOf_42 : decode cX2_linkersOf 42 = .ok (.ishl, 1) := by decide +kernel
theorem dX2_linkersOf_43 : decode cX2_linkersOf 43 = .ok (.ior, 1) := by decide +kernel
theorem dX2_linkersOf_44 : decode cX2_linkersOf 44 = .ok (.istore 4, 2) := by decide +kernel
theorem dX2_linkersOf_46 : decode cX2_linkersOf 46 = .ok (.iinc 5 1, 3) := by decide +kernel
theorem dX2_linkersOf_49 : decode cX2_linkersOf 49 = .ok (.goto (-43), 3) := by decide +kernel
theorem dX2_linkersOf_52 : decode cX2_linkersOf 52 = .ok (.iload 4, 2) := by decide +kernel
theorem dX2_linkersOf_54 : decode cX2_linkersOf 54 = .ok (.ireturn, 1) := by decide +kernel
theorem dX2_isLinkedFrom_0 : decode cX2_isLinkedFrom 0 = .ok (.iconst 0, 1) := by decide +kernel
theorem dX2_isLinkedFrom_1 : decode cX2_isLinkedFrom 1 = .ok (.istore_n 3, 1) := by decide +kernel
theorem dX2_isLinkedFrom_2 : decode cX2_isLinkedFrom 2 = .ok (.iload_n 3, 1) := by decide +kernel
theorem dX2_isLinkedFrom_3 : decode cX2_isLinkedFrom 3 = .ok (.aload_n 0, 1) := by decide +kernel
theorem dX2_isLinkedFrom_4 : decode cX2_isLinkedFrom 4 = .ok (.getfield 47, 3) := by decide +kernel
theorem dX2_isLinkedFrom_7 : decode cX2_isLinkedFrom 7 = .ok (.if_icmp .ge 32, 3) := by decide +kernel
theorem dX2_isLinkedFrom_10 : decode cX2_isLinkedFrom 10 = .ok (.iload_n 1, 1) := by decide +kernel
theorem dX2_isLinkedFrom_11 : decode cX2_isLinkedFrom 11 = .ok (.iload_n 3, 1) := by decide +kernel
theorem dX2_isLinkedFrom_12 : decode cX2_isLinkedFrom 12 = .ok (.invokestatic 67, 3) := by decide +kernel
theorem dX2_isLinkedFrom_15 : decode cX2_isLinkedFrom 15 = .ok (.ifCond .eq 18, 3) := by decide +kernel
theorem dX2_isLinkedFrom_18 : decode cX2_isLinkedFrom 18 = .ok (.aload_n 0, 1) := by decide +kernel
theorem dX2_isLinkedFrom_19 : decode cX2_isLinkedFrom 19 = .ok (.getfield 40, 3) := by decide +kernel
theorem dX2_isLinkedFrom_22 : decode cX2_isLinkedFrom 22 = .ok (.iload_n 3, 1) := by decide +kernel
theorem dX2_isLinkedFrom_23 : decode cX2_isLinkedFrom 23 = .ok (.iaload, 1) := by decide +kernel
theorem dX2_isLinkedFrom_24 : decode cX2_isLinkedFrom 24 = .ok (.iload_n 2, 1) := by decide +kernel
theorem dX2_isLinkedFrom_25 : decode cX2_isLinkedFrom 25 = .ok (.invokestatic 67, 3) := by decide +kernel
theorem dX2_isLinkedFrom_28 : decode cX2_isLinkedFrom 28 = .ok (.ifCond .eq 5, 3) := by decide +kernel
theorem dX2_isLinkedFrom_31 : decode cX2_isLinkedFrom 31 = .ok (.iconst 1, 1) := by decide +kernel
theorem dX2_isLinkedFrom_32 : decode cX2_isLinkedFrom 32 = .ok (.ireturn, 1) := by decide +kernel
theorem dX2_isLinkedFrom_33 : decode cX2_isLinkedFrom 33 = .ok (.iinc 3 1, 3) := by decide +kernel
theorem dX2_isLinkedFrom_36 : decode cX2_isLinkedFrom 36 = .ok (.goto (-34), 3) := by decide +kernel
theorem dX2_isLinkedFrom_39 : decode cX2_isLinkedFrom 39 = .ok (.iconst 0, 1) := by decide +kernel
theorem dX2_isLinkedFrom_40 : decode cX2_isLinkedFrom 40 = .ok (.ireturn, 1) := by decide +kernel
theorem dX2_total_0 : decode cX2_total 0 = .ok (.iconst 0, 1) := by decide +kernel
theorem dX2_total_1 : decode cX2_total 1 = .ok (.istore 4, 2) := by decide +kernel
theorem dX2_total_3 : decode cX2_total 3 = .ok (.iconst 0, 1) := by decide +kernel
theorem dX2_total_4 : decode cX2_total 4 = .ok (.istore 5, 2) := by decide +kernel
theorem dX2_total_6 : decode cX2_total 6 = .ok (.iload 5, 2) := by decide +kernel
theorem dX2_total_8 : decode cX2_total 8 = .ok (.aload_n 0, 1) := by decide +kernel
theorem dX2_total_9 : decode cX2_total 9 = .ok (.getfield 47, 3) := by decide +kernel
theorem dX2_total_12 : decode cX2_total 12 = .ok (.if_icmp .ge 45, 3) := by decide +kernel
theorem dX2_total_15 : decode cX2_total 15 = .ok (.aload_n 0, 1) := by decide +kernel
theorem dX2_total_16 : decode cX2_total 16 = .ok (.getfield 28, 3) := by decide +kernel
theorem dX2_total_19 : decode cX2_total 19 = .ok (.iload 5, 2) := by decide +kernel
theorem dX2_total_21 : decode cX2_total 21 = .ok (.iaload, 1) := by decide +kernel
theorem dX2_total_22 : decode cX2_total 22 = .ok (.iload_n 1, 1) := by decide +kernel
theorem dX2_total_23 : decode cX2_total 23 = .ok (.if_icmp .ne 28, 3) := by decide +kernel
theorem dX2_total_26 : decode cX2_total 26 = .ok (.iload_n 3, 1) := by decide +kernel
theorem dX2_total_27 : decode cX2_total 27 = .ok (.iload 5, 2) := by decide +kernel
theorem dX2_total_29 : decode cX2_total 29 = .ok (.invokestatic 67, 3) := by decide +kernel
theorem dX2_total_32 : decode cX2_total 32 = .ok (.ifCond .eq 19, 3) := by decide +kernel
theorem dX2_total_35 : decode cX2_total 35 = .ok (.iload 4, 2) := by decide +kernel
theorem dX2_total_37 : decode cX2_total 37 = .ok (.iconst 0, 1) := by decide +kernel
theorem dX2_total_38 : decode cX2_total 38 = .ok (.aload_n 0, 1) := by decide +kernel
theorem dX2_total_39 : decode cX2_total 39 = .ok (.iload 5, 2) := by decide +kernel
theorem dX2_total_41 : decode cX2_total 41 = .ok (.iload_n 2, 1) := by decide +kernel
theorem dX2_total_42 : decode cX2_total 42 = .ok (.invokevirtual 64, 3) := by decide +kernel
theorem dX2_total_45 : decode cX2_total 45 = .ok (.invokestatic 70, 3) := by decide +kernel
theorem dX2_total_48 : decode cX2_total 48 = .ok (.iadd, 1) := by decide +kernel
theorem dX2_total_49 : decode cX2_total 49 = .ok (.istore 4, 2) := by decide +kernel
theorem dX2_total_51 : decode cX2_total 51 = .ok (.iinc 5 1, 3) := by decide +kernel
theorem dX2_total_54 : decode cX2_total 54 = .ok (.goto (-48), 3) := by decide +kernel
theorem dX2_total_57 : decode cX2_total 57 = .ok (.iload 4, 2) := by decide +kernel
theorem dX2_total_59 : decode cX2_total 59 = .ok (.ireturn, 1) := by decide +kernel
theorem dX2_lineUp_0 : decode cX2_lineUp 0 = .ok (.iload_n 1, 1) := by decide +kernel
theorem dX2_lineUp_1 : decode cX2_lineUp 1 = .ok (.istore_n 3, 1) := by decide +kernel
theorem dX2_lineUp_2 : decode cX2_lineUp 2 = .ok (.iconst 0, 1) := by decide +kernel
theorem dX2_lineUp_3 : decode cX2_lineUp 3 = .ok (.istore 4, 2) := by decide +kernel
theorem dX2_lineUp_5 : decode cX2_lineUp 5 = .ok (.iload 4, 2) := by decide +kernel
theorem dX2_lineUp_7 : decode cX2_lineUp 7 = .ok (.aload_n 2, 1) := by decide +kernel
theorem dX2_lineUp_8 : decode cX2_lineUp 8 = .ok (.arraylength, 1) := by decide +kernel
theorem dX2_lineUp_9 : decode cX2_lineUp 9 = .ok (.if_icmp .ge 40, 3) := by decide +kernel
theorem dX2_lineUp_12 : decode cX2_lineUp 12 = .ok (.aload_n 0, 1) := by decide +kernel
theorem dX2_lineUp_13 : decode cX2_lineUp 13 = .ok (.iload_n 3, 1) := by decide +kernel
theorem dX2_lineUp_14 : decode cX2_lineUp 14 = .ok (.invokevirtual 75, 3) := by decide +kernel
theorem dX2_lineUp_17 : decode cX2_lineUp 17 = .ok (.istore 5, 2) := by decide +kernel
theorem dX2_lineUp_19 : decode cX2_lineUp 19 = .ok (.iload 5, 2) := by decide +kernel
theorem dX2_lineUp_21 : decode cX2_lineUp 21 = .ok (.iconst (-1), 1) := by decide +kernel
theorem dX2_lineUp_22 : decode cX2_lineUp 22 = .ok (.if_icmp .ne 6, 3) := by decide +kernel
theorem dX2_lineUp_25 : decode cX2_lineUp 25 = .ok (.iload 4, 2) := by decide +kernel
theorem dX2_lineUp_27 : decode cX2_lineUp 27 = .ok (.ireturn, 1) := by decide +kernel
theorem dX2_lineUp_28 : decode cX2_lineUp 28 = .ok (.aload_n 2, 1) := by decide +kernel
theorem dX2_lineUp_29 : decode cX2_lineUp 29 = .ok (.iload 4, 2) := by decide +kernel
theorem dX2_lineUp_31 : decode cX2_lineUp 31 = .ok (.iload 5, 2) := by decide +kernel
theorem dX2_lineUp_33 : decode cX2_lineUp 33 = .ok (.iastore, 1) := by decide +kernel
theorem dX2_lineUp_34 : decode cX2_lineUp 34 = .ok (.iload_n 3, 1) := by decide +kernel
theorem dX2_lineUp_35 : decode cX2_lineUp 35 = .ok (.iconst 1, 1) := by decide +kernel
theorem dX2_lineUp_36 : decode cX2_lineUp 36 = .ok (.iload 5, 2) := by decide +kernel
theorem dX2_lineUp_38 : decode cX2_lineUp 38 = .ok (.ishl, 1) := by decide +kernel
theorem dX2_lineUp_39 : decode cX2_lineUp 39 = .ok (.iconst (-1), 1) := by decide +kernel
theorem dX2_lineUp_40 : decode cX2_lineUp 40 = .ok (.ixor, 1) := by decide +kernel
theorem dX2_lineUp_41 : decode cX2_lineUp 41 = .ok (.iand, 1) := by decide +kernel
theorem dX2_lineUp_42 : decode cX2_lineUp 42 = .ok (.istore_n 3, 1) := by decide +kernel
theorem dX2_lineUp_43 : decode cX2_lineUp 43 = .ok (.iinc 4 1, 3) := by decide +kernel
theorem dX2_lineUp_46 : decode cX2_lineUp 46 = .ok (.goto (-41), 3) := by decide +kernel
theorem dX2_lineUp_49 : decode cX2_lineUp 49 = .ok (.aload_n 2, 1) := by decide +kernel
theorem dX2_lineUp_50 : decode cX2_lineUp 50 = .ok (.arraylength, 1) := by decide +kernel
theorem dX2_lineUp_51 : decode cX2_lineUp 51 = .ok (.ireturn, 1) := by decide +kernel
theorem dX2_firstFree_0 : decode cX2_firstFree 0 = .ok (.iconst 0, 1) := by decide +kernel
theorem dX2_firstFree_1 : decode cX2_firstFree 1 = .ok (.istore_n 2, 1) := by decide +kernel
theorem dX2_firstFree_2 : decode cX2_firstFree 2 = .ok (.iload_n 2, 1) := by decide +kernel
theorem dX2_firstFree_3 : decode cX2_firstFree 3 = .ok (.aload_n 0, 1) := by decide +kernel
theorem dX2_firstFree_4 : decode cX2_firstFree 4 = .ok (.getfield 47, 3) := by decide +kernel
theorem dX2_firstFree_7 : decode cX2_firstFree 7 = .ok (.if_icmp .ge 36, 3) := by decide +kernel
theorem dX2_firstFree_10 : decode cX2_firstFree 10 = .ok (.iload_n 1, 1) := by decide +kernel
theorem dX2_firstFree_11 : decode cX2_firstFree 11 = .ok (.iload_n 2, 1) := by decide +kernel
theorem dX2_firstFree_12 : decode cX2_firstFree 12 = .ok (.invokestatic 67, 3) := by decide +kernel
theorem dX2_firstFree_15 : decode cX2_firstFree 15 = .ok (.ifCond .eq 22, 3) := by decide +kernel
theorem dX2_firstFree_18 : decode cX2_firstFree 18 = .ok (.aload_n 0, 1) := by decide +kernel
theorem dX2_firstFree_19 : decode cX2_firstFree 19 = .ok (.getfield 40, 3) := by decide +kernel
theorem dX2_firstFree_22 : decode cX2_firstFree 22 = .ok (.iload_n 2, 1) := by decide +kernel
theorem dX2_firstFree_23 : decode cX2_firstFree 23 = .ok (.iaload, 1) := by decide +kernel
theorem dX2_firstFree_24 : decode cX2_firstFree 24 = .ok (.iload_n 1, 1) := by decide +kernel
theorem dX2_firstFree_25 : decode cX2_firstFree 25 = .ok (.iand, 1) := by decide +kernel
theorem dX2_firstFree_26 : decode cX2_firstFree 26 = .ok (.iconst 1, 1) := by decide +kernel
theorem dX2_firstFree_27 : decode cX2_firstFree 27 = .ok (.iload_n 2, 1) := by decide +kernel
theorem dX2_firstFree_28 : decode cX2_firstFree 28 = .ok (.ishl, 1) := by decide +kernel
theorem dX2_firstFree_29 : decode cX2_firstFree 29 = .ok (.iconst (-1), 1) := by decide +kernel
theorem dX2_firstFree_30 : decode cX2_firstFree 30 = .ok (.ixor, 1) := by decide +kernel
theorem dX2_firstFree_31 : decode cX2_firstFree 31 = .ok (.iand, 1) := by decide +kernel
theorem dX2_firstFree_32 : decode cX2_firstFree 32 = .ok (.ifCond .ne 5, 3) := by decide +kernel
theorem dX2_firstFree_35 : decode cX2_firstFree 35 = .ok (.iload_n 2, 1) := by decide +kernel
theorem dX2_firstFree_36 : decode cX2_firstFree 36 = .ok (.ireturn, 1) := by decide +kernel
theorem dX2_firstFree_37 : decode cX2_firstFree 37 = .ok (.iinc 2 1, 3) := by decide +kernel
theorem dX2_firstFree_40 : decode cX2_firstFree 40 = .ok (.goto (-38), 3) := by decide +kernel
theorem dX2_firstFree_43 : decode cX2_firstFree 43 = .ok (.iconst (-1), 1) := by decide +kernel
theorem dX2_firstFree_44 : decode cX2_firstFree 44 = .ok (.ireturn, 1) := by decide +kernel
theorem dX2_findLinks_0 : decode cX2_findLinks 0 = .ok (.iconst 0, 1) := by decide +kernel
theorem dX2_findLinks_1 : decode cX2_findLinks 1 = .ok (.istore_n 1, 1) := by decide +kernel
theorem dX2_findLinks_2 : decode cX2_findLinks 2 = .ok (.iload_n 1, 1) := by decide +kernel
theorem dX2_findLinks_3 : decode cX2_findLinks 3 = .ok (.aload_n 0, 1) := by decide +kernel
theorem dX2_findLinks_4 : decode cX2_findLinks 4 = .ok (.getfield 47, 3) := by decide +kernel
theorem dX2_findLinks_7 : decode cX2_findLinks 7 = .ok (.if_icmp .ge 74, 3) := by decide +kernel
theorem dX2_findLinks_10 : decode cX2_findLinks 10 = .ok (.aload_n 0, 1) := by decide +kernel
theorem dX2_findLinks_11 : decode cX2_findLinks 11 = .ok (.getfield 40, 3) := by decide +kernel
theorem dX2_findLinks_14 : decode cX2_findLinks 14 = .ok (.iload_n 1, 1) := by decide +kernel
theorem dX2_findLinks_15 : decode cX2_findLinks 15 = .ok (.iconst 0, 1) := by decide +kernel
theorem dX2_findLinks_16 : decode cX2_findLinks 16 = .ok (.iastore, 1) := by decide +kernel
theorem dX2_findLinks_17 : decode cX2_findLinks 17 = .ok (.iconst 0, 1) := by decide +kernel
theorem dX2_findLinks_18 : decode cX2_findLinks 18 = .ok (.istore_n 2, 1) := by decide +kernel
theorem dX2_findLinks_19 : decode cX2_findLinks 19 = .ok (.iload_n 2, 1) := by decide +kernel
theorem dX2_findLinks_20 : decode cX2_findLinks 20 = .ok (.iconst 5, 1) := by decide +kernel
theorem dX2_findLinks_21 : decode cX2_findLinks 21 = .ok (.if_icmp .ge 54, 3) := by decide +kernel
theorem dX2_findLinks_24 : decode cX2_findLinks 24 = .ok (.aload_n 0, 1) := by decide +kernel
theorem dX2_findLinks_25 : decode cX2_findLinks 25 = .ok (.aload_n 0, 1) := by decide +kernel
theorem dX2_findLinks_26 : decode cX2_findLinks 26 = .ok (.getfield 28, 3) := by decide +kernel
theorem dX2_findLinks_29 : decode cX2_findLinks 29 = .ok (.iload_n 1, 1) := by decide +kernel
theorem dX2_findLinks_30 : decode cX2_findLinks 30 = .ok (.iaload, 1) := by decide +kernel
theorem dX2_findLinks_31 : decode cX2_findLinks 31 = .ok (.iload_n 2, 1) := by decide +kernel
theorem dX2_findLinks_32 : decode cX2_findLinks 32 = .ok (.invokevirtual 79, 3) := by decide +kernel
theorem dX2_findLinks_35 : decode cX2_findLinks 35 = .ok (.iconst (-1), 1) := by decide +kernel
theorem dX2_findLinks_36 : decode cX2_findLinks 36 = .ok (.if_icmp .eq 33, 3) := by decide +kernel
theorem dX2_findLinks_39 : decode cX2_findLinks 39 = .ok (.aload_n 0, 1) := by decide +kernel
theorem dX2_findLinks_40 : decode cX2_findLinks 40 = .ok (.aload_n 0, 1) := by decide +kernel
theorem dX2_findLinks_41 : decode cX2_findLinks 41 = .ok (.iload_n 1, 1) := by decide +kernel
theorem dX2_findLinks_42 : decode cX2_findLinks 42 = .ok (.iload_n 2, 1) := by decide +kernel
theorem dX2_findLinks_43 : decode cX2_findLinks 43 = .ok (.invokevirtual 64, 3) := by decide +kernel
theorem dX2_findLinks_46 : decode cX2_findLinks 46 = .ok (.invokevirtual 82, 3) := by decide +kernel
theorem dX2_findLinks_49 : decode cX2_findLinks 49 = .ok (.ifCond .eq 20, 3) := by decide +kernel
theorem dX2_findLinks_52 : decode cX2_findLinks 52 = .ok (.aload_n 0, 1) := by decide +kernel
theorem dX2_findLinks_53 : decode cX2_findLinks 53 = .ok (.getfield 40, 3) := by decide +kernel
theorem dX2_findLinks_56 : decode cX2_findLinks 56 = .ok (.iload_n 1, 1) := by decide +kernel
theorem dX2_findLinks_57 : decode cX2_findLinks 57 = .ok (.dup2, 1) := by decide +kernel
theorem dX2_findLinks_58 : decode cX2_findLinks 58 = .ok (.iaload, 1) := by decide +kernel
theorem dX2_findLinks_59 : decode cX2_findLinks 59 = .ok (.iconst 1, 1) := by decide +kernel
theorem dX2_findLinks_60 : decode cX2_findLinks 60 = .ok (.aload_n 0, 1) := by decide +kernel
theorem dX2_findLinks_61 : decode cX2_findLinks 61 = .ok (.iload_n 1, 1) := by decide +kernel
theorem dX2_findLinks_62 : decode cX2_findLinks 62 = .ok (.iload_n 2, 1) := by decide +kernel
theorem dX2_findLinks_63 : decode cX2_findLinks 63 = .ok (.invokevirtual 64, 3) := by decide +kernel
theorem dX2_findLinks_66 : decode cX2_findLinks 66 = .ok (.ishl, 1) := by decide +kernel
theorem dX2_findLinks_67 : decode cX2_findLinks 67 = .ok (.ior, 1) := by decide +kernel
theorem dX2_findLinks_68 : decode cX2_findLinks 68 = .ok (.iastore, 1) := by decide +kernel
theorem dX2_findLinks_69 : decode cX2_findLinks 69 = .ok (.iinc 2 1, 3) := by decide +kernel
theorem dX2_findLinks_72 : decode cX2_findLinks 72 = .ok (.goto (-53), 3) := by decide +kernel
theorem dX2_findLinks_75 : decode cX2_findLinks 75 = .ok (.iinc 1 1, 3) := by decide +kernel
theorem dX2_findLinks_78 : decode cX2_findLinks 78 = .ok (.goto (-76), 3) := by decide +kernel
theorem dX2_findLinks_81 : decode cX2_findLinks 81 = .ok (.return_, 1) := by decide +kernel
theorem dJ11_isValidCodePoint_9a6ad_0 : decode cJ11_isValidCodePoint_9a6ad 0 = .ok (.iload_n 0, 1) := by decide +kernel
theorem dJ11_isValidCodePoint_9a6ad_1 : decode cJ11_isValidCodePoint_9a6ad 1 = .ok (.bipush 16, 2) := by decide +kernel
theorem dJ11_isValidCodePoint_9a6ad_3 : decode cJ11_isValidCodePoint_9a6ad 3 = .ok (.iushr, 1) := by decide +kernel
theorem dJ11_isValidCodePoint_9a6ad_4 : decode cJ11_isValidCodePoint_9a6ad 4 = .ok (.istore_n 1, 1) := by decide +kernel
theorem dJ11_isValidCodePoint_9a6ad_5 : decode cJ11_isValidCodePoint_9a6ad 5 = .ok (.iload_n 1, 1) := by decide +kernel
theorem dJ11_isValidCodePoint_9a6ad_6 : decode cJ11_isValidCodePoint_9a6ad 6 = .ok (.bipush 17, 2) := by decide +kernel
theorem dJ11_isValidCodePoint_9a6ad_8 : decode cJ11_isValidCodePoint_9a6ad 8 = .ok (.if_icmp .ge 7, 3) := by decide +kernel
theorem dJ11_isValidCodePoint_9a6ad_11 : decode cJ11_isValidCodePoint_9a6ad 11 = .ok (.iconst 1, 1) := by decide +kernel
theorem dJ11_isValidCodePoint_9a6ad_12 : decode cJ11_isValidCodePoint_9a6ad 12 = .ok (.goto 4, 3) := by decide +kernel
theorem dJ11_isValidCodePoint_9a6ad_15 : decode cJ11_isValidCodePoint_9a6ad 15 = .ok (.iconst 0, 1) := by decide +kernel
theorem dJ11_isValidCodePoint_9a6ad_16 : decode cJ11_isValidCodePoint_9a6ad 16 = .ok (.ireturn, 1) := by decide +kernel
theorem dJ11_highSurrogate_5068e_0 : decode cJ11_highSurrogate_5068e 0 = .ok (.iload_n 0, 1) := by decide +kernel
theorem dJ11_highSurrogate_5068e_1 : decode cJ11_highSurrogate_5068e 1 = .ok (.bipush 10, 2) := by decide +kernel
theorem dJ11_highSurrogate_5068e_3 : decode cJ11_highSurrogate_5068e 3 = .ok (.iushr, 1) := by decide +kernel
theorem dJ11_highSurrogate_5068e_4 : decode cJ11_highSurrogate_5068e 4 = .ok (.ldc 110, 2) := by decide +kernel
theorem dJ11_highSurrogate_5068e_6 : decode cJ11_highSurrogate_5068e 6 = .ok (.iadd, 1) := by decide +kernel
theorem dJ11_highSurrogate_5068e_7 : decode cJ11_highSurrogate_5068e 7 = .ok (.i2c, 1) := by decide +kernel
theorem dJ11_highSurrogate_5068e_8 : decode cJ11_highSurrogate_5068e 8 = .ok (.ireturn, 1) := by decide +kernel
theorem dJ11_lowSurrogate_5068e_0 : decode cJ11_lowSurrogate_5068e 0 = .ok (.iload_n 0, 1) := by decide +kernel
theorem dJ11_lowSurrogate_5068e_1 : decode cJ11_lowSurrogate_5068e 1 = .ok (.sipush 1023, 3) := by decide +kernel
theorem dJ11_lowSurrogate_5068e_4 : decode cJ11_lowSurrogate_5068e 4 = .ok (.iand, 1) := by decide +kernel
theorem dJ11_lowSurrogate_5068e_5 : decode cJ11_lowSurrogate_5068e 5 = .ok (.ldc 76, 2) := by decide +kernel
theorem dJ11_lowSurrogate_5068e_7 : decode cJ11_lowSurrogate_5068e 7 = .ok (.iadd, 1) := by decide +kernel
theorem dJ11_lowSurrogate_5068e_8 : decode cJ11_lowSurrogate_5068e 8 = .ok (.i2c, 1) := by decide +kernel
theorem dJ11_lowSurrogate_5068e_9 : decode cJ11_lowSurrogate_5068e 9 = .ok (.ireturn, 1) := by decide +kernel
theorem dJ6_bitCount_0f7a4_0 : decode cJ6_bitCount_0f7a4 0 = .ok (.iload_n 0, 1) := by decide +kernel
theorem dJ6_bitCount_0f7a4_1 : decode cJ6_bitCount_0f7a4 1 = .ok (.iload_n 0, 1) := by decide +kernel
theorem dJ6_bitCount_0f7a4_2 : decode cJ6_bitCount_0f7a4 2 = .ok (.iconst 1, 1) := by decide +kernel
theorem dJ6_bitCount_0f7a4_3 : decode cJ6_bitCount_0f7a4 3 = .ok (.iushr, 1) := by decide +kernel
theorem dJ6_bitCount_0f7a4_4 : decode cJ6_bitCount_0f7a4 4 = .ok (.ldc_w 265, 3) := by decide +kernel
theorem dJ6_bitCount_0f7a4_7 : decode cJ6_bitCount_0f7a4 7 = .ok (.iand, 1) := by decide +kernel
theorem dJ6_bitCount_0f7a4_8 : decode cJ6_bitCount_0f7a4 8 = .ok (.isub, 1) := by decide +kernel
theorem dJ6_bitCount_0f7a4_9 : decode cJ6_bitCount_0f7a4 9 = .ok (.istore_n 0, 1) := by decide +kernel
theorem dJ6_bitCount_0f7a4_10 : decode cJ6_bitCount_0f7a4 10 = .ok (.iload_n 0, 1) := by decide +kernel
theorem dJ6_bitCount_0f7a4_11 : decode cJ6_bitCount_0f7a4 11 = .ok (.ldc_w 266, 3) := by decide +kernel
theorem dJ6_bitCount_0f7a4_14 : decode cJ6_bitCount_0f7a4 14 = .ok (.iand, 1) := by decide +kernel
theorem dJ6_bitCount_0f7a4_15 : decode cJ6_bitCount_0f7a4 15 = .ok (.iload_n 0, 1) := by decide +kernel
theorem dJ6_bitCount_0f7a4_16 : decode cJ6_bitCount_0f7a4 16 = .ok (.iconst 2, 1) := by decide +kernel
theorem dJ6_bitCount_0f7a4_17 : decode cJ6_bitCount_0f7a4 17 = .ok (.iushr, 1) := by decide +kernel
theorem dJ6_bitCount_0f7a4_18 : decode cJ6_bitCount_0f7a4 18 = .ok (.ldc_w 266, 3) := by decide +kernel
theorem dJ6_bitCount_0f7a4_21 : decode cJ6_bitCount_0f7a4 21 = .ok (.iand, 1) := by decide +kernel
theorem dJ6_bitCount_0f7a4_22 : decode cJ6_bitCount_0f7a4 22 = .ok (.iadd, 1) := by decide +kernel
theorem dJ6_bitCount_0f7a4_23 : decode cJ6_bitCount_0f7a4 23 = .ok (.istore_n 0, 1) := by decide +kernel
theorem dJ6_bitCount_0f7a4_24 : decode cJ6_bitCount_0f7a4 24 = .ok (.iload_n 0, 1) := by decide +kernel
theorem dJ6_bitCount_0f7a4_25 : decode cJ6_bitCount_0f7a4 25 = .ok (.iload_n 0, 1) := by decide +kernel
theorem dJ6_bitCount_0f7a4_26 : decode cJ6_bitCount_0f7a4 26 = .ok (.iconst 4, 1) := by decide +kernel
theorem dJ6_bitCount_0f7a4_27 : decode cJ6_bitCount_0f7a4 27 = .ok (.iushr, 1) := by decide +kernel
theorem dJ6_bitCount_0f7a4_28 : decode cJ6_bitCount_0f7a4 28 = .ok (.iadd, 1) := by decide +kernel
theorem dJ6_bitCount_0f7a4_29 : decode cJ6_bitCount_0f7a4 29 = .ok (.ldc_w 267, 3) := by decide +kernel
theorem dJ6_bitCount_0f7a4_32 : decode cJ6_bitCount_0f7a4 32 = .ok (.iand, 1) := by decide +kernel
theorem dJ6_bitCount_0f7a4_33 : decode cJ6_bitCount_0f7a4 33 = .ok (.istore_n 0, 1) := by decide +kernel
theorem dJ6_bitCount_0f7a4_34 : decode cJ6_bitCount_0f7a4 34 = .ok (.iload_n 0, 1) := by decide +kernel
theorem dJ6_bitCount_0f7a4_35 : decode cJ6_bitCount_0f7a4 35 = .ok (.iload_n 0, 1) := by decide +kernel
theorem dJ6_bitCount_0f7a4_36 : decode cJ6_bitCount_0f7a4 36 = .ok (.bipush 8, 2) := by decide +kernel
theorem dJ6_bitCount_0f7a4_38 : decode cJ6_bitCount_0f7a4 38 = .ok (.iushr, 1) := by decide +kernel
theorem dJ6_bitCount_0f7a4_39 : decode cJ6_bitCount_0f7a4 39 = .ok (.iadd, 1) := by decide +kernel
theorem dJ6_bitCount_0f7a4_40 : decode cJ6_bitCount_0f7a4 40 = .ok (.istore_n 0, 1) := by decide +kernel
theorem dJ6_bitCount_0f7a4_41 : decode cJ6_bitCount_0f7a4 41 = .ok (.iload_n 0, 1) := by decide +kernel
theorem dJ6_bitCount_0f7a4_42 : decode cJ6_bitCount_0f7a4 42 = .ok (.iload_n 0, 1) := by decide +kernel
theorem dJ6_bitCount_0f7a4_43 : decode cJ6_bitCount_0f7a4 43 = .ok (.bipush 16, 2) := by decide +kernel
theorem dJ6_bitCount_0f7a4_45 : decode cJ6_bitCount_0f7a4 45 = .ok (.iushr, 1) := by decide +kernel
theorem dJ6_bitCount_0f7a4_46 : decode cJ6_bitCount_0f7a4 46 = .ok (.iadd, 1) := by decide +kernel
theorem dJ6_bitCount_0f7a4_47 : decode cJ6_bitCount_0f7a4 47 = .ok (.istore_n 0, 1) := by decide +kernel
theorem dJ6_bitCount_0f7a4_48 : decode cJ6_bitCount_0f7a4 48 = .ok (.iload_n 0, 1) := by decide +kernel
theorem dJ6_bitCount_0f7a4_49 : decode cJ6_bitCount_0f7a4 49 = .ok (.bipush 63, 2) := by decide +kernel
theorem dJ6_bitCount_0f7a4_51 : decode cJ6_bitCount_0f7a4 51 = .ok (.iand, 1) := by decide +kernel
theorem dJ6_bitCount_0f7a4_52 : decode cJ6_bitCount_0f7a4 52 = .ok (.ireturn, 1) := by decide +kernel
theorem dJ9_max_7cf53_0 : decode cJ9_max_7cf53 0 = .ok (.iload_n 0, 1) := by decide +kernel
theorem dJ9_max_7cf53_1 : decode cJ9_max_7cf53 1 = .ok (.iload_n 1, 1) := by decide +kernel
theorem dJ9_max_7cf53_2 : decode cJ9_max_7cf53 2 = .ok (.if_icmp .lt 7, 3) := by decide +kernel
theorem dJ9_max_7cf53_5 : decode cJ9_max_7cf53 5 = .ok (.iload_n 0, 1) := by decide +kernel
theorem dJ9_max_7cf53_6 : decode cJ9_max_7cf53 6 = .ok (.goto 4, 3) := by decide +kernel
theorem dJ9_max_7cf53_9 : decode cJ9_max_7cf53 9 = .ok (.iload_n 1, 1) := by decide +kernel
theorem dJ9_max_7cf53_10 : decode cJ9_max_7cf53 10 = .ok (.ireturn, 1) := by decide +kernel
theorem dJ9_min_7cf53_0 : decode cJ9_min_7cf53 0 = .ok (.iload_n 0, 1) := by decide +kernel
theorem dJ9_min_7cf53_1 : decode cJ9_min_7cf53 1 = .ok (.iload_n 1, 1) := by decide +kernel
theorem dJ9_min_7cf53_2 : decode cJ9_min_7cf53 2 = .ok (.if_icmp .gt 7, 3) := by decide +kernel
theorem dJ9_min_7cf53_5 : decode cJ9_min_7cf53 5 = .ok (.iload_n 0, 1) := by decide +kernel
theorem dJ9_min_7cf53_6 : decode cJ9_min_7cf53 6 = .ok (.goto 4, 3) := by decide +kernel
theorem dJ9_min_7cf53_9 : decode cJ9_min_7cf53 9 = .ok (.iload_n 1, 1) := by decide +kernel
theorem dJ9_min_7cf53_10 : decode cJ9_min_7cf53 10 = .ok (.ireturn, 1) := by decide +kernel
theorem dJ0_length_8abf5_0 : decode cJ0_length_8abf5 0 = .ok (.aload_n 0, 1) := by decide +kernel
theorem dJ0_length_8abf5_1 : decode cJ0_length_8abf5 1 = .ok (.getfield 9, 3) := by decide +kernel
theorem dJ0_length_8abf5_4 : decode cJ0_length_8abf5 4 = .ok (.arraylength, 1) := by decide +kernel
theorem dJ0_length_8abf5_5 : decode cJ0_length_8abf5 5 = .ok (.aload_n 0, 1) := by decide +kernel
theorem dJ0_length_8abf5_6 : decode cJ0_length_8abf5 6 = .ok (.invokevirtual 335, 3) := by decide +kernel
theorem dJ0_length_8abf5_9 : decode cJ0_length_8abf5 9 = .ok (.ishr, 1) := by decide +kernel
theorem dJ0_length_8abf5_10 : decode cJ0_length_8abf5 10 = .ok (.ireturn, 1) := by decide +kernel
theorem dJ0_charAt_5068e_0 : decode cJ0_charAt_5068e 0 = .ok (.aload_n 0, 1) := by decide +kernel
theorem dJ0_charAt_5068e_1 : decode cJ0_charAt_5068e 1 = .ok (.invokevirtual 492, 3) := by decide +kernel
theorem dJ0_charAt_5068e_4 : decode cJ0_charAt_5068e 4 = .ok (.ifCond .eq 12, 3) := by decide +kernel
theorem dJ0_charAt_5068e_7 : decode cJ0_charAt_5068e 7 = .ok (.aload_n 0, 1) := by decide +kernel
theorem dJ0_charAt_5068e_8 : decode cJ0_charAt_5068e 8 = .ok (.getfield 9, 3) := by decide +kernel
theorem dJ0_charAt_5068e_11 : decode cJ0_charAt_5068e 11 = .ok (.iload_n 1, 1) := by decide +kernel
theorem dJ0_charAt_5068e_12 : decode cJ0_charAt_5068e 12 = .ok (.invokestatic 495, 3) := by decide +kernel
theorem dJ0_charAt_5068e_15 : decode cJ0_charAt_5068e 15 = .ok (.ireturn, 1) := by decide +kernel
theorem dJ0_charAt_5068e_16 : decode cJ0_charAt_5068e 16 = .ok (.aload_n 0, 1) := by decide +kernel
theorem dJ0_charAt_5068e_17 : decode cJ0_charAt_5068e 17 = .ok (.getfield 9, 3) := by decide +kernel
theorem dJ0_charAt_5068e_20 : decode cJ0_charAt_5068e 20 = .ok (.iload_n 1, 1) := by decide +kernel
theorem dJ0_charAt_5068e_21 : decode cJ0_charAt_5068e 21 = .ok (.invokestatic 498, 3) := by decide +kernel
theorem dJ0_charAt_5068e_24 : decode cJ0_charAt_5068e 24 = .ok (.ireturn, 1) := by decide +kernel
theorem dJ0_indexOf_0f7a4_0 : decode cJ0_indexOf_0f7a4 0 = .ok (.aload_n 0, 1) := by decide +kernel
theorem dJ0_indexOf_0f7a4_1 : decode cJ0_indexOf_0f7a4 1 = .ok (.iload_n 1, 1) := by decide +kernel
theorem dJ0_indexOf_0f7a4_2 : decode cJ0_indexOf_0f7a4 2 = .ok (.iconst 0, 1) := by decide +kernel
theorem dJ0_indexOf_0f7a4_3 : decode cJ0_indexOf_0f7a4 3 = .ok (.invokevirtual 633, 3) := by decide +kernel
theorem dJ0_indexOf_0f7a4_6 : decode cJ0_indexOf_0f7a4 6 = .ok (.ireturn, 1) := by decide +kernel
theorem dJ0_indexOf_7cf53_0 : decode cJ0_indexOf_7cf53 0 = .ok (.aload_n 0, 1) := by decide +kernel
theorem dJ0_indexOf_7cf53_1 : decode cJ0_indexOf_7cf53 1 = .ok (.invokevirtual 492, 3) := by decide +kernel
theorem dJ0_indexOf_7cf53_4 : decode cJ0_indexOf_7cf53 4 = .ok (.ifCond .eq 19, 3) := by decide +kernel
theorem dJ0_indexOf_7cf53_7 : decode cJ0_indexOf_7cf53 7 = .ok (.aload_n 0, 1) := by decide +kernel
theorem dJ0_indexOf_7cf53_8 : decode cJ0_indexOf_7cf53 8 = .ok (.getfield 9, 3) := by decide +kernel
theorem dJ0_indexOf_7cf53_11 : decode cJ0_indexOf_7cf53 11 = .ok (.iload_n 1, 1) := by decide +kernel
theorem dJ0_indexOf_7cf53_12 : decode cJ0_indexOf_7cf53 12 = .ok (.iload_n 2, 1) := by decide +kernel
theorem dJ0_indexOf_7cf53_13 : decode cJ0_indexOf_7cf53 13 = .ok (.aload_n 0, 1) := by decide +kernel
theorem dJ0_indexOf_7cf53_14 : decode cJ0_indexOf_7cf53 14 = .ok (.invokevirtual 505, 3) := by decide +kernel
theorem dJ0_indexOf_7cf53_17 : decode cJ0_indexOf_7cf53 17 = .ok (.invokestatic 637, 3) := by decide +kernel
theorem dJ0_indexOf_7cf53_20 : decode cJ0_indexOf_7cf53 20 = .ok (.goto 16, 3) := by decide +kernel
theorem dJ0_indexOf_7cf53_23 : decode cJ0_indexOf_7cf53 23 = .ok (.aload_n 0, 1) := by decide +kernel
theorem dJ0_indexOf_7cf53_24 : decode cJ0_indexOf_7cf53 24 = .ok (.getfield 9, 3) := by decide +kernel
theorem dJ0_indexOf_7cf53_27 : decode cJ0_indexOf_7cf53 27 = .ok (.iload_n 1, 1) := by decide +kernel
theorem dJ0_indexOf_7cf53_28 : decode cJ0_indexOf_7cf53 28 = .ok (.iload_n 2, 1) := by decide +kernel
theorem dJ0_indexOf_7cf53_29 : decode cJ0_indexOf_7cf53 29 = .ok (.aload_n 0, 1) := by decide +kernel
theorem dJ0_indexOf_7cf53_30 : decode cJ0_indexOf_7cf53 30 = .ok (.invokevirtual 505, 3) := by decide +kernel
theorem dJ0_indexOf_7cf53_33 : decode cJ0_indexOf_7cf53 33 = .ok (.invokestatic 640, 3) := by decide +kernel
theorem dJ0_indexOf_7cf53_36 : decode cJ0_indexOf_7cf53 36 = .ok (.ireturn, 1) := by decide +kernel
theorem dJ0_coder_7d493_0 : decode cJ0_coder_7d493 0 = .ok (.getstatic 38, 3) := by decide +kernel
theorem dJ0_coder_7d493_3 : decode cJ0_coder_7d493 3 = .ok (.ifCond .eq 10, 3) := by decide +kernel
theorem dJ0_coder_7d493_6 : decode cJ0_coder_7d493 6 = .ok (.aload_n 0, 1) := by decide +kernel
theorem dJ0_coder_7d493_7 : decode cJ0_coder_7d493 7 = .ok (.getfield 15, 3) := by decide +kernel
theorem dJ0_coder_7d493_10 : decode cJ0_coder_7d493 10 = .ok (.goto 4, 3) := by decide +kernel
theorem dJ0_coder_7d493_13 : decode cJ0_coder_7d493 13 = .ok (.iconst 1, 1) := by decide +kernel
theorem dJ0_coder_7d493_14 : decode cJ0_coder_7d493 14 = .ok (.ireturn, 1) := by decide +kernel
theorem dJ0_isLatin1_aae02_0 : decode cJ0_isLatin1_aae02 0 = .ok (.getstatic 38, 3) := by decide +kernel
theorem dJ0_isLatin1_aae02_3 : decode cJ0_isLatin1_aae02 3 = .ok (.ifCond .eq 14, 3) := by decide +kernel
theorem dJ0_isLatin1_aae02_6 : decode cJ0_isLatin1_aae02 6 = .ok (.aload_n 0, 1) := by decide +kernel
theorem dJ0_isLatin1_aae02_7 : decode cJ0_isLatin1_aae02 7 = .ok (.getfield 15, 3) := by decide +kernel
theorem dJ0_isLatin1_aae02_10 : decode cJ0_isLatin1_aae02 10 = .ok (.ifCond .ne 7, 3) := by decide +kernel
theorem dJ0_isLatin1_aae02_13 : decode cJ0_isLatin1_aae02 13 = .ok (.iconst 1, 1) := by decide +kernel
theorem dJ0_isLatin1_aae02_14 : decode cJ0_isLatin1_aae02 14 = .ok (.goto 4, 3) := by decide +kernel
theorem dJ0_isLatin1_aae02_17 : decode cJ0_isLatin1_aae02 17 = .ok (.iconst 0, 1) := by decide +kernel
theorem dJ0_isLatin1_aae02_18 : decode cJ0_isLatin1_aae02 18 = .ok (.ireturn, 1) := by decide +kernel
theorem dJ0_checkIndex_df160_0 : decode cJ0_checkIndex_df160 0 = .ok (.iload_n 0, 1) := by decide +kernel
theorem dJ0_checkIndex_df160_1 : decode cJ0_checkIndex_df160 1 = .ok (.iload_n 1, 1) := by decide +kernel
theorem dJ0_checkIndex_df160_2 : decode cJ0_checkIndex_df160 2 = .ok (.getstatic 1053, 3) := by decide +kernel
theorem dJ0_checkIndex_df160_5 : decode cJ0_checkIndex_df160 5 = .ok (.invokestatic 1059, 3) := by decide +kernel
theorem dJ0_checkIndex_df160_8 : decode cJ0_checkIndex_df160 8 = .ok (.pop, 1) := by decide +kernel
theorem dJ0_checkIndex_df160_9 : decode cJ0_checkIndex_df160 9 = .ok (.return_, 1) := by decide +kernel
theorem dJ0_checkBoundsBeginEnd_23922_0 : decode cJ0_checkBoundsBeginEnd_23922 0 = .ok (.iload_n 0, 1) := by decide +kernel
theorem dJ0_checkBoundsBeginEnd_23922_1 : decode cJ0_checkBoundsBeginEnd_23922 1 = .ok (.iload_n 1, 1) := by decide +kernel
theorem dJ0_checkBoundsBeginEnd_23922_2 : decode cJ0_checkBoundsBeginEnd_23922 2 = .ok (.iload_n 2, 1) := by decide +kernel
theorem dJ0_checkBoundsBeginEnd_23922_3 : decode cJ0_checkBoundsBeginEnd_23922 3 = .ok (.getstatic 1053, 3) := by decide +kernel
theorem dJ0_checkBoundsBeginEnd_23922_6 : decode cJ0_checkBoundsBeginEnd_23922 6 = .ok (.invokestatic 1062, 3) := by decide +kernel
theorem dJ0_checkBoundsBeginEnd_23922_9 : decode cJ0_checkBoundsBeginEnd_23922 9 = .ok (.pop, 1) := by decide +kernel
theorem dJ0_checkBoundsBeginEnd_23922_10 : decode cJ0_checkBoundsBeginEnd_23922 10 = .ok (.return_, 1) := by decide +kernel
theorem dJ1_charAt_3b067_0 : decode cJ1_charAt_3b067 0 = .ok (.iload_n 1, 1) := by decide +kernel
theorem dJ1_charAt_3b067_1 : decode cJ1_charAt_3b067 1 = .ok (.aload_n 0, 1) := by decide +kernel
theorem dJ1_charAt_3b067_2 : decode cJ1_charAt_3b067 2 = .ok (.arraylength, 1) := by decide +kernel
theorem dJ1_charAt_3b067_3 : decode cJ1_charAt_3b067 3 = .ok (.invokestatic 9, 3) := by decide +kernel
theorem dJ1_charAt_3b067_6 : decode cJ1_charAt_3b067 6 = .ok (.aload_n 0, 1) := by decide +kernel
theorem dJ1_charAt_3b067_7 : decode cJ1_charAt_3b067 7 = .ok (.iload_n 1, 1) := by decide +kernel
theorem dJ1_charAt_3b067_8 : decode cJ1_charAt_3b067 8 = .ok (.baload, 1) := by decide +kernel
theorem dJ1_charAt_3b067_9 : decode cJ1_charAt_3b067 9 = .ok (.sipush 255, 3) := by decide +kernel
theorem dJ1_charAt_3b067_12 : decode cJ1_charAt_3b067 12 = .ok (.iand, 1) := by decide +kernel
theorem dJ1_charAt_3b067_13 : decode cJ1_charAt_3b067 13 = .ok (.i2c, 1) := by decide +kernel
theorem dJ1_charAt_3b067_14 : decode cJ1_charAt_3b067 14 = .ok (.ireturn, 1) := by decide +kernel
theorem dJ1_canEncode_9a6ad_0 : decode cJ1_canEncode_9a6ad 0 = .ok (.iload_n 0, 1) := by decide +kernel
theorem dJ1_canEncode_9a6ad_1 : decode cJ1_canEncode_9a6ad 1 = .ok (.ifCond .lt 14, 3) := by decide +kernel
theorem dJ1_canEncode_9a6ad_4 : decode cJ1_canEncode_9a6ad 4 = .ok (.iload_n 0, 1) := by decide +kernel
theorem dJ1_canEncode_9a6ad_5 : decode cJ1_canEncode_9a6ad 5 = .ok (.sipush 255, 3) := by decide +kernel
theorem dJ1_canEncode_9a6ad_8 : decode cJ1_canEncode_9a6ad 8 = .ok (.if_icmp .gt 7, 3) := by decide +kernel
theorem dJ1_canEncode_9a6ad_11 : decode cJ1_canEncode_9a6ad 11 = .ok (.iconst 1, 1) := by decide +kernel
theorem dJ1_canEncode_9a6ad_12 : decode cJ1_canEncode_9a6ad 12 = .ok (.goto 4, 3) := by decide +kernel
theorem dJ1_canEncode_9a6ad_15 : decode cJ1_canEncode_9a6ad 15 = .ok (.iconst 0, 1) := by decide +kernel
theorem dJ1_canEncode_9a6ad_16 : decode cJ1_canEncode_9a6ad 16 = .ok (.ireturn, 1) := by decide +kernel
theorem dJ1_indexOf_4cfef_0 : decode cJ1_indexOf_4cfef 0 = .ok (.iload_n 1, 1) := by decide +kernel
theorem dJ1_indexOf_4cfef_1 : decode cJ1_indexOf_4cfef 1 = .ok (.invokestatic 88, 3) := by decide +kernel
theorem dJ1_indexOf_4cfef_4 : decode cJ1_indexOf_4cfef 4 = .ok (.ifCond .ne 5, 3) := by decide +kernel
theorem dJ1_indexOf_4cfef_7 : decode cJ1_indexOf_4cfef 7 = .ok (.iconst (-1), 1) := by decide +kernel
theorem dJ1_indexOf_4cfef_8 : decode cJ1_indexOf_4cfef 8 = .ok (.ireturn, 1) := by decide +kernel
theorem dJ1_indexOf_4cfef_9 : decode cJ1_indexOf_4cfef 9 = .ok (.iload_n 2, 1) := by decide +kernel
theorem dJ1_indexOf_4cfef_10 : decode cJ1_indexOf_4cfef 10 = .ok (.iconst 0, 1) := by decide +kernel
theorem dJ1_indexOf_4cfef_11 : decode cJ1_indexOf_4cfef 11 = .ok (.invokestatic 92, 3) := by decide +kernel
theorem dJ1_indexOf_4cfef_14 : decode cJ1_indexOf_4cfef 14 = .ok (.istore_n 2, 1) := by decide +kernel
theorem dJ1_indexOf_4cfef_15 : decode cJ1_indexOf_4cfef 15 = .ok (.iload_n 3, 1) := by decide +kernel
theorem dJ1_indexOf_4cfef_16 : decode cJ1_indexOf_4cfef 16 = .ok (.aload_n 0, 1) := by decide +kernel
theorem dJ1_indexOf_4cfef_17 : decode cJ1_indexOf_4cfef 17 = .ok (.arraylength, 1) := by decide +kernel
theorem dJ1_indexOf_4cfef_18 : decode cJ1_indexOf_4cfef 18 = .ok (.invokestatic 38, 3) := by decide +kernel
theorem dJ1_indexOf_4cfef_21 : decode cJ1_indexOf_4cfef 21 = .ok (.istore_n 3, 1) := by decide +kernel
theorem dJ1_indexOf_4cfef_22 : decode cJ1_indexOf_4cfef 22 = .ok (.iload_n 2, 1) := by decide +kernel
theorem dJ1_indexOf_4cfef_23 : decode cJ1_indexOf_4cfef 23 = .ok (.iload_n 3, 1) := by decide +kernel
theorem dJ1_indexOf_4cfef_24 : decode cJ1_indexOf_4cfef 24 = .ok (.if_icmp .lt 5, 3) := by decide +kernel
theorem dJ1_indexOf_4cfef_27 : decode cJ1_indexOf_4cfef 27 = .ok (.iconst (-1), 1) := by decide +kernel
theorem dJ1_indexOf_4cfef_28 : decode cJ1_indexOf_4cfef 28 = .ok (.ireturn, 1) := by decide +kernel
theorem dJ1_indexOf_4cfef_29 : decode cJ1_indexOf_4cfef 29 = .ok (.aload_n 0, 1) := by decide +kernel
theorem dJ1_indexOf_4cfef_30 : decode cJ1_indexOf_4cfef 30 = .ok (.iload_n 1, 1) := by decide +kernel
theorem dJ1_indexOf_4cfef_31 : decode cJ1_indexOf_4cfef 31 = .ok (.iload_n 2, 1) := by decide +kernel
theorem dJ1_indexOf_4cfef_32 : decode cJ1_indexOf_4cfef 32 = .ok (.iload_n 3, 1) := by decide +kernel
theorem dJ1_indexOf_4cfef_33 : decode cJ1_indexOf_4cfef 33 = .ok (.invokestatic 95, 3) := by decide +kernel
theorem dJ1_indexOf_4cfef_36 : decode cJ1_indexOf_4cfef 36 = .ok (.ireturn, 1) := by decide +kernel
theorem dJ1_indexOfChar_4cfef_0 : decode cJ1_indexOfChar_4cfef 0 = .ok (.iload_n 1, 1) := by decide +kernel
theorem dJ1_indexOfChar_4cfef_1 : decode cJ1_indexOfChar_4cfef 1 = .ok (.i2b, 1) := by decide +kernel
theorem dJ1_indexOfChar_4cfef_2 : decode cJ1_indexOfChar_4cfef 2 = .ok (.istore 4, 2) := by decide +kernel
theorem dJ1_indexOfChar_4cfef_4 : decode cJ1_indexOfChar_4cfef 4 = .ok (.iload_n 2, 1) := by decide +kernel
theorem dJ1_indexOfChar_4cfef_5 : decode cJ1_indexOfChar_4cfef 5 = .ok (.istore 5, 2) := by decide +kernel
theorem dJ1_indexOfChar_4cfef_7 : decode cJ1_indexOfChar_4cfef 7 = .ok (.iload 5, 2) := by decide +kernel
theorem dJ1_indexOfChar_4cfef_9 : decode cJ1_indexOfChar_4cfef 9 = .ok (.iload_n 3, 1) := by decide +kernel
theorem dJ1_indexOfChar_4cfef_10 : decode cJ1_indexOfChar_4cfef 10 = .ok (.if_icmp .ge 21, 3) := by decide +kernel
theorem dJ1_indexOfChar_4cfef_13 : decode cJ1_indexOfChar_4cfef 13 = .ok (.aload_n 0, 1) := by decide +kernel
theorem dJ1_indexOfChar_4cfef_14 : decode cJ1_indexOfChar_4cfef 14 = .ok (.iload 5, 2) := by decide +kernel
theorem dJ1_indexOfChar_4cfef_16 : decode cJ1_indexOfChar_4cfef 16 = .ok (.baload, 1) := by decide +kernel
theorem dJ1_indexOfChar_4cfef_17 : decode cJ1_indexOfChar_4cfef 17 = .ok (.iload 4, 2) := by decide +kernel
theorem dJ1_indexOfChar_4cfef_19 : decode cJ1_indexOfChar_4cfef 19 = .ok (.if_icmp .ne 6, 3) := by decide +kernel
theorem dJ1_indexOfChar_4cfef_22 : decode cJ1_indexOfChar_4cfef 22 = .ok (.iload 5, 2) := by decide +kernel
theorem dJ1_indexOfChar_4cfef_24 : decode cJ1_indexOfChar_4cfef 24 = .ok (.ireturn, 1) := by decide +kernel
theorem dJ1_indexOfChar_4cfef_25 : decode cJ1_indexOfChar_4cfef 25 = .ok (.iinc 5 1, 3) := by decide +kernel
theorem dJ1_indexOfChar_4cfef_28 : decode cJ1_indexOfChar_4cfef 28 = .ok (.goto (-21), 3) := by decide +kernel
theorem dJ1_indexOfChar_4cfef_31 : decode cJ1_indexOfChar_4cfef 31 = .ok (.iconst (-1), 1) := by decide +kernel
theorem dJ1_indexOfChar_4cfef_32 : decode cJ1_indexOfChar_4cfef 32 = .ok (.ireturn, 1) := by decide +kernel
theorem dJ2_getChar_3b067_0 : decode cJ2_getChar_3b067 0 = .ok (.getstatic 44, 3) := by decide +kernel
theorem dJ2_getChar_3b067_3 : decode cJ2_getChar_3b067 3 = .ok (.ifCond .ne 25, 3) := by decide +kernel
theorem dJ2_getChar_3b067_6 : decode cJ2_getChar_3b067 6 = .ok (.iload_n 1, 1) := by decide +kernel
theorem dJ2_getChar_3b067_7 : decode cJ2_getChar_3b067 7 = .ok (.ifCond .lt 11, 3) := by decide +kernel
theorem dJ2_getChar_3b067_10 : decode cJ2_getChar_3b067 10 = .ok (.iload_n 1, 1) := by decide +kernel
theorem dJ2_getChar_3b067_11 : decode cJ2_getChar_3b067 11 = .ok (.aload_n 0, 1) := by decide +kernel
theorem dJ2_getChar_3b067_12 : decode cJ2_getChar_3b067 12 = .ok (.invokestatic 48, 3) := by decide +kernel
theorem dJ2_getChar_3b067_15 : decode cJ2_getChar_3b067 15 = .ok (.if_icmp .lt 13, 3) := by decide +kernel
theorem dJ2_getChar_3b067_18 : decode cJ2_getChar_3b067 18 = .ok (.new 52, 3) := by decide +kernel
theorem dJ2_getChar_3b067_21 : decode cJ2_getChar_3b067 21 = .ok (.dup, 1) := by decide +kernel
theorem dJ2_getChar_3b067_22 : decode cJ2_getChar_3b067 22 = .ok (.ldc 54, 2) := by decide +kernel
theorem dJ2_getChar_3b067_24 : decode cJ2_getChar_3b067 24 = .ok (.invokespecial 56, 3) := by decide +kernel
theorem dJ2_getChar_3b067_27 : decode cJ2_getChar_3b067 27 = .ok (.athrow, 1) := by decide +kernel
theorem dJ2_getChar_3b067_28 : decode cJ2_getChar_3b067 28 = .ok (.iload_n 1, 1) := by decide +kernel
theorem dJ2_getChar_3b067_29 : decode cJ2_getChar_3b067 29 = .ok (.iconst 1, 1) := by decide +kernel
theorem dJ2_getChar_3b067_30 : decode cJ2_getChar_3b067 30 = .ok (.ishl, 1) := by decide +kernel
theorem dJ2_getChar_3b067_31 : decode cJ2_getChar_3b067 31 = .ok (.istore_n 1, 1) := by decide +kernel
theorem dJ2_getChar_3b067_32 : decode cJ2_getChar_3b067 32 = .ok (.aload_n 0, 1) := by decide +kernel
theorem dJ2_getChar_3b067_33 : decode cJ2_getChar_3b067 33 = .ok (.iload_n 1, 1) := by decide +kernel
theorem dJ2_getChar_3b067_34 : decode cJ2_getChar_3b067 34 = .ok (.iinc 1 1, 3) := by decide +kernel
theorem dJ2_getChar_3b067_37 : decode cJ2_getChar_3b067 37 = .ok (.baload, 1) := by decide +kernel
theorem dJ2_getChar_3b067_38 : decode cJ2_getChar_3b067 38 = .ok (.sipush 255, 3) := by decide +kernel
theorem dJ2_getChar_3b067_41 : decode cJ2_getChar_3b067 41 = .ok (.iand, 1) := by decide +kernel
theorem dJ2_getChar_3b067_42 : decode cJ2_getChar_3b067 42 = .ok (.getstatic 59, 3) := by decide +kernel
theorem dJ2_getChar_3b067_45 : decode cJ2_getChar_3b067 45 = .ok (.ishl, 1) := by decide +kernel
theorem dJ2_getChar_3b067_46 : decode cJ2_getChar_3b067 46 = .ok (.aload_n 0, 1) := by decide +kernel
theorem dJ2_getChar_3b067_47 : decode cJ2_getChar_3b067 47 = .ok (.iload_n 1, 1) := by decide +kernel
theorem dJ2_getChar_3b067_48 : decode cJ2_getChar_3b067 48 = .ok (.baload, 1) := by decide +kernel
theorem dJ2_getChar_3b067_49 : decode cJ2_getChar_3b067 49 = .ok (.sipush 255, 3) := by decide +kernel
theorem dJ2_getChar_3b067_52 : decode cJ2_getChar_3b067 52 = .ok (.iand, 1) := by decide +kernel
theorem dJ2_getChar_3b067_53 : decode cJ2_getChar_3b067 53 = .ok (.getstatic 63, 3) := by decide +kernel
theorem dJ2_getChar_3b067_56 : decode cJ2_getChar_3b067 56 = .ok (.ishl, 1) := by decide +kernel
theorem dJ2_getChar_3b067_57 : decode cJ2_getChar_3b067 57 = .ok (.ior, 1) := by decide +kernel
theorem dJ2_getChar_3b067_58 : decode cJ2_getChar_3b067 58 = .ok (.i2c, 1) := by decide +kernel
theorem dJ2_getChar_3b067_59 : decode cJ2_getChar_3b067 59 = .ok (.ireturn, 1) := by decide +kernel
theorem dJ2_length_9d52b_0 : decode cJ2_length_9d52b 0 = .ok (.aload_n 0, 1) := by decide +kernel
theorem dJ2_length_9d52b_1 : decode cJ2_length_9d52b 1 = .ok (.arraylength, 1) := by decide +kernel
theorem dJ2_length_9d52b_2 : decode cJ2_length_9d52b 2 = .ok (.iconst 1, 1) := by decide +kernel
theorem dJ2_length_9d52b_3 : decode cJ2_length_9d52b 3 = .ok (.ishr, 1) := by decide +kernel
theorem dJ2_length_9d52b_4 : decode cJ2_length_9d52b 4 = .ok (.ireturn, 1) := by decide +kernel
theorem dJ2_indexOf_4cfef_0 : decode cJ2_indexOf_4cfef 0 = .ok (.iload_n 2, 1) := by decide +kernel
theorem dJ2_indexOf_4cfef_1 : decode cJ2_indexOf_4cfef 1 = .ok (.iconst 0, 1) := by decide +kernel
theorem dJ2_indexOf_4cfef_2 : decode cJ2_indexOf_4cfef 2 = .ok (.invokestatic 224, 3) := by decide +kernel
theorem dJ2_indexOf_4cfef_5 : decode cJ2_indexOf_4cfef 5 = .ok (.istore_n 2, 1) := by decide +kernel
theorem dJ2_indexOf_4cfef_6 : decode cJ2_indexOf_4cfef 6 = .ok (.iload_n 3, 1) := by decide +kernel
theorem dJ2_indexOf_4cfef_7 : decode cJ2_indexOf_4cfef 7 = .ok (.aload_n 0, 1) := by decide +kernel
theorem dJ2_indexOf_4cfef_8 : decode cJ2_indexOf_4cfef 8 = .ok (.arraylength, 1) := by decide +kernel
theorem dJ2_indexOf_4cfef_9 : decode cJ2_indexOf_4cfef 9 = .ok (.iconst 1, 1) := by decide +kernel
theorem dJ2_indexOf_4cfef_10 : decode cJ2_indexOf_4cfef 10 = .ok (.ishr, 1) := by decide +kernel
theorem dJ2_indexOf_4cfef_11 : decode cJ2_indexOf_4cfef 11 = .ok (.invokestatic 183, 3) := by decide +kernel
theorem dJ2_indexOf_4cfef_14 : decode cJ2_indexOf_4cfef 14 = .ok (.istore_n 3, 1) := by decide +kernel
theorem dJ2_indexOf_4cfef_15 : decode cJ2_indexOf_4cfef 15 = .ok (.iload_n 2, 1) := by decide +kernel
theorem dJ2_indexOf_4cfef_16 : decode cJ2_indexOf_4cfef 16 = .ok (.iload_n 3, 1) := by decide +kernel
theorem dJ2_indexOf_4cfef_17 : decode cJ2_indexOf_4cfef 17 = .ok (.if_icmp .lt 5, 3) := by decide +kernel
theorem dJ2_indexOf_4cfef_20 : decode cJ2_indexOf_4cfef 20 = .ok (.iconst (-1), 1) := by decide +kernel
theorem dJ2_indexOf_4cfef_21 : decode cJ2_indexOf_4cfef 21 = .ok (.ireturn, 1) := by decide +kernel
theorem dJ2_indexOf_4cfef_22 : decode cJ2_indexOf_4cfef 22 = .ok (.iload_n 1, 1) := by decide +kernel
theorem dJ2_indexOf_4cfef_23 : decode cJ2_indexOf_4cfef 23 = .ok (.ldc 227, 2) := by decide +kernel
theorem dJ2_indexOf_4cfef_25 : decode cJ2_indexOf_4cfef 25 = .ok (.if_icmp .ge 11, 3) := by decide +kernel
theorem dJ2_indexOf_4cfef_28 : decode cJ2_indexOf_4cfef 28 = .ok (.aload_n 0, 1) := by decide +kernel
theorem dJ2_indexOf_4cfef_29 : decode cJ2_indexOf_4cfef 29 = .ok (.iload_n 1, 1) := by decide +kernel
theorem dJ2_indexOf_4cfef_30 : decode cJ2_indexOf_4cfef 30 = .ok (.iload_n 2, 1) := by decide +kernel
theorem dJ2_indexOf_4cfef_31 : decode cJ2_indexOf_4cfef 31 = .ok (.iload_n 3, 1) := by decide +kernel
theorem dJ2_indexOf_4cfef_32 : decode cJ2_indexOf_4cfef 32 = .ok (.invokestatic 228, 3) := by decide +kernel
theorem dJ2_indexOf_4cfef_35 : decode cJ2_indexOf_4cfef 35 = .ok (.ireturn, 1) := by decide +kernel
theorem dJ2_indexOf_4cfef_36 : decode cJ2_indexOf_4cfef 36 = .ok (.aload_n 0, 1) := by decide +kernel
theorem dJ2_indexOf_4cfef_37 : decode cJ2_indexOf_4cfef 37 = .ok (.iload_n 1, 1) := by decide +kernel
theorem dJ2_indexOf_4cfef_38 : decode cJ2_indexOf_4cfef 38 = .ok (.iload_n 2, 1) := by decide +kernel
theorem dJ2_indexOf_4cfef_39 : decode cJ2_indexOf_4cfef 39 = .ok (.iload_n 3, 1) := by decide +kernel
theorem dJ2_indexOf_4cfef_40 : decode cJ2_indexOf_4cfef 40 = .ok (.invokestatic 232, 3) := by decide +kernel
theorem dJ2_indexOf_4cfef_43 : decode cJ2_indexOf_4cfef 43 = .ok (.ireturn, 1) := by decide +kernel
theorem dJ2_indexOfChar_4cfef_0 : decode cJ2_indexOfChar_4cfef 0 = .ok (.iload_n 2, 1) := by decide +kernel
theorem dJ2_indexOfChar_4cfef_1 : decode cJ2_indexOfChar_4cfef 1 = .ok (.iload_n 3, 1) := by decide +kernel
theorem dJ2_indexOfChar_4cfef_2 : decode cJ2_indexOfChar_4cfef 2 = .ok (.aload_n 0, 1) := by decide +kernel
theorem dJ2_indexOfChar_4cfef_3 : decode cJ2_indexOfChar_4cfef 3 = .ok (.invokestatic 96, 3) := by decide +kernel
theorem dJ2_indexOfChar_4cfef_6 : decode cJ2_indexOfChar_4cfef 6 = .ok (.aload_n 0, 1) := by decide +kernel
theorem dJ2_indexOfChar_4cfef_7 : decode cJ2_indexOfChar_4cfef 7 = .ok (.iload_n 1, 1) := by decide +kernel
theorem dJ2_indexOfChar_4cfef_8 : decode cJ2_indexOfChar_4cfef 8 = .ok (.iload_n 2, 1) := by decide +kernel
theorem dJ2_indexOfChar_4cfef_9 : decode cJ2_indexOfChar_4cfef 9 = .ok (.iload_n 3, 1) := by decide +kernel
theorem dJ2_indexOfChar_4cfef_10 : decode cJ2_indexOfChar_4cfef 10 = .ok (.invokestatic 244, 3) := by decide +kernel
theorem dJ2_indexOfChar_4cfef_13 : decode cJ2_indexOfChar_4cfef 13 = .ok (.ireturn, 1) := by decide +kernel
theorem dJ2_indexOfCharUnsafe_4cfef_0 : decode cJ2_indexOfCharUnsafe_4cfef 0 = .ok (.iload_n 2, 1) := by decide +kernel
theorem dJ2_indexOfCharUnsafe_4cfef_1 : decode cJ2_indexOfCharUnsafe_4cfef 1 = .ok (.istore 4, 2) := by decide +kernel
theorem dJ2_indexOfCharUnsafe_4cfef_3 : decode cJ2_indexOfCharUnsafe_4cfef 3 = .ok (.iload 4, 2) := by decide +kernel
theorem dJ2_indexOfCharUnsafe_4cfef_5 : decode cJ2_indexOfCharUnsafe_4cfef 5 = .ok (.iload_n 3, 1) := by decide +kernel
theorem dJ2_indexOfCharUnsafe_4cfef_6 : decode cJ2_indexOfCharUnsafe_4cfef 6 = .ok (.if_icmp .ge 22, 3) := by decide +kernel
theorem dJ2_indexOfCharUnsafe_4cfef_9 : decode cJ2_indexOfCharUnsafe_4cfef 9 = .ok (.aload_n 0, 1) := by decide +kernel
theorem dJ2_indexOfCharUnsafe_4cfef_10 : decode cJ2_indexOfCharUnsafe_4cfef 10 = .ok (.iload 4, 2) := by decide +kernel
theorem dJ2_indexOfCharUnsafe_4cfef_12 : decode cJ2_indexOfCharUnsafe_4cfef 12 = .ok (.invokestatic 71, 3) := by decide +kernel
theorem dJ2_indexOfCharUnsafe_4cfef_15 : decode cJ2_indexOfCharUnsafe_4cfef 15 = .ok (.iload_n 1, 1) := by decide +kernel
theorem dJ2_indexOfCharUnsafe_4cfef_16 : decode cJ2_indexOfCharUnsafe_4cfef 16 = .ok (.if_icmp .ne 6, 3) := by decide +kernel
theorem dJ2_indexOfCharUnsafe_4cfef_19 : decode cJ2_indexOfCharUnsafe_4cfef 19 = .ok (.iload 4, 2) := by decide +kernel
theorem dJ2_indexOfCharUnsafe_4cfef_21 : decode cJ2_indexOfCharUnsafe_4cfef 21 = .ok (.ireturn, 1) := by decide +kernel
theorem dJ2_indexOfCharUnsafe_4cfef_22 : decode cJ2_indexOfCharUnsafe_4cfef 22 = .ok (.iinc 4 1, 3) := by decide +kernel
theorem dJ2_indexOfCharUnsafe_4cfef_25 : decode cJ2_indexOfCharUnsafe_4cfef 25 = .ok (.goto (-22), 3) := by decide +kernel
theorem dJ2_indexOfCharUnsafe_4cfef_28 : decode cJ2_indexOfCharUnsafe_4cfef 28 = .ok (.iconst (-1), 1) := by decide +kernel
theorem dJ2_indexOfCharUnsafe_4cfef_29 : decode cJ2_indexOfCharUnsafe_4cfef 29 = .ok (.ireturn, 1) := by decide +kernel
theorem dJ2_indexOfSupplementary_4cfef_0 : decode cJ2_indexOfSupplementary_4cfef 0 = .ok (.iload_n 1, 1) := by decide +kernel
theorem dJ2_indexOfSupplementary_4cfef_1 : decode cJ2_indexOfSupplementary_4cfef 1 = .ok (.invokestatic 164, 3) := by decide +kernel
theorem dJ2_indexOfSupplementary_4cfef_4 : decode cJ2_indexOfSupplementary_4cfef 4 = .ok (.ifCond .eq 65, 3) := by decide +kernel
theorem dJ2_indexOfSupplementary_4cfef_7 : decode cJ2_indexOfSupplementary_4cfef 7 = .ok (.iload_n 1, 1) := by decide +kernel
theorem dJ2_indexOfSupplementary_4cfef_8 : decode cJ2_indexOfSupplementary_4cfef 8 = .ok (.invokestatic 157, 3) := by decide +kernel
theorem dJ2_indexOfSupplementary_4cfef_11 : decode cJ2_indexOfSupplementary_4cfef 11 = .ok (.istore 4, 2) := by decide +kernel
theorem dJ2_indexOfSupplementary_4cfef_13 : decode cJ2_indexOfSupplementary_4cfef 13 = .ok (.iload_n 1, 1) := by decide +kernel
theorem dJ2_indexOfSupplementary_4cfef_14 : decode cJ2_indexOfSupplementary_4cfef 14 = .ok (.invokestatic 161, 3) := by decide +kernel
theorem dJ2_indexOfSupplementary_4cfef_17 : decode cJ2_indexOfSupplementary_4cfef 17 = .ok (.istore 5, 2) := by decide +kernel
theorem dJ2_indexOfSupplementary_4cfef_19 : decode cJ2_indexOfSupplementary_4cfef 19 = .ok (.iload_n 2, 1) := by decide +kernel
theorem dJ2_indexOfSupplementary_4cfef_20 : decode cJ2_indexOfSupplementary_4cfef 20 = .ok (.iload_n 3, 1) := by decide +kernel
theorem dJ2_indexOfSupplementary_4cfef_21 : decode cJ2_indexOfSupplementary_4cfef 21 = .ok (.aload_n 0, 1) := by decide +kernel
theorem dJ2_indexOfSupplementary_4cfef_22 : decode cJ2_indexOfSupplementary_4cfef 22 = .ok (.invokestatic 96, 3) := by decide +kernel
theorem dJ2_indexOfSupplementary_4cfef_25 : decode cJ2_indexOfSupplementary_4cfef 25 = .ok (.iload_n 2, 1) := by decide +kernel
theorem dJ2_indexOfSupplementary_4cfef_26 : decode cJ2_indexOfSupplementary_4cfef 26 = .ok (.istore 6, 2) := by decide +kernel
theorem dJ2_indexOfSupplementary_4cfef_28 : decode cJ2_indexOfSupplementary_4cfef 28 = .ok (.iload 6, 2) := by decide +kernel
theorem dJ2_indexOfSupplementary_4cfef_30 : decode cJ2_indexOfSupplementary_4cfef 30 = .ok (.iload_n 3, 1) := by decide +kernel
theorem dJ2_indexOfSupplementary_4cfef_31 : decode cJ2_indexOfSupplementary_4cfef 31 = .ok (.iconst 1, 1) := by decide +kernel
theorem dJ2_indexOfSupplementary_4cfef_32 : decode cJ2_indexOfSupplementary_4cfef 32 = .ok (.isub, 1) := by decide +kernel
theorem dJ2_indexOfSupplementary_4cfef_33 : decode cJ2_indexOfSupplementary_4cfef 33 = .ok (.if_icmp .ge 36, 3) := by decide +kernel
theorem dJ2_indexOfSupplementary_4cfef_36 : decode cJ2_indexOfSupplementary_4cfef 36 = .ok (.aload_n 0, 1) := by decide +kernel
theorem dJ2_indexOfSupplementary_4cfef_37 : decode cJ2_indexOfSupplementary_4cfef 37 = .ok (.iload 6, 2) := by decide +kernel
theorem dJ2_indexOfSupplementary_4cfef_39 : decode cJ2_indexOfSupplementary_4cfef 39 = .ok (.invokestatic 71, 3) := by decide +kernel
theorem dJ2_indexOfSupplementary_4cfef_42 : decode cJ2_indexOfSupplementary_4cfef 42 = .ok (.iload 4, 2) := by decide +kernel
theorem dJ2_indexOfSupplementary_4cfef_44 : decode cJ2_indexOfSupplementary_4cfef 44 = .ok (.if_icmp .ne 19, 3) := by decide +kernel
theorem dJ2_indexOfSupplementary_4cfef_47 : decode cJ2_indexOfSupplementary_4cfef 47 = .ok (.aload_n 0, 1) := by decide +kernel
theorem dJ2_indexOfSupplementary_4cfef_48 : decode cJ2_indexOfSupplementary_4cfef 48 = .ok (.iload 6, 2) := by decide +kernel
theorem dJ2_indexOfSupplementary_4cfef_50 : decode cJ2_indexOfSupplementary_4cfef 50 = .ok (.iconst 1, 1) := by decide +kernel
theorem dJ2_indexOfSupplementary_4cfef_51 : decode cJ2_indexOfSupplementary_4cfef 51 = .ok (.iadd, 1) := by decide +kernel
theorem dJ2_indexOfSupplementary_4cfef_52 : decode cJ2_indexOfSupplementary_4cfef 52 = .ok (.invokestatic 71, 3) := by decide +kernel
theorem dJ2_indexOfSupplementary_4cfef_55 : decode cJ2_indexOfSupplementary_4cfef 55 = .ok (.iload 5, 2) := by decide +kernel
theorem dJ2_indexOfSupplementary_4cfef_57 : decode cJ2_indexOfSupplementary_4cfef 57 = .ok (.if_icmp .ne 6, 3) := by decide +kernel
theorem dJ2_indexOfSupplementary_4cfef_60 : decode cJ2_indexOfSupplementary_4cfef 60 = .ok (.iload 6, 2) := by decide +kernel
theorem dJ2_indexOfSupplementary_4cfef_62 : decode cJ2_indexOfSupplementary_4cfef 62 = .ok (.ireturn, 1) := by decide +kernel
theorem dJ2_indexOfSupplementary_4cfef_63 : decode cJ2_indexOfSupplementary_4cfef 63 = .ok (.iinc 6 1, 3) := by decide +kernel
theorem dJ2_indexOfSupplementary_4cfef_66 : decode cJ2_indexOfSupplementary_4cfef 66 = .ok (.goto (-38), 3) := by decide +kernel
theorem dJ2_indexOfSupplementary_4cfef_69 : decode cJ2_indexOfSupplementary_4cfef 69 = .ok (.iconst (-1), 1) := by decide +kernel
theorem dJ2_indexOfSupplementary_4cfef_70 : decode cJ2_indexOfSupplementary_4cfef 70 = .ok (.ireturn, 1) := by decide +kernel
theorem dJ2_charAt_3b067_0 : decode cJ2_charAt_3b067 0 = .ok (.iload_n 1, 1) := by decide +kernel
theorem dJ2_charAt_3b067_1 : decode cJ2_charAt_3b067 1 = .ok (.aload_n 0, 1) := by decide +kernel
theorem dJ2_charAt_3b067_2 : decode cJ2_charAt_3b067 2 = .ok (.invokestatic 67, 3) := by decide +kernel
theorem dJ2_charAt_3b067_5 : decode cJ2_charAt_3b067 5 = .ok (.aload_n 0, 1) := by decide +kernel
theorem dJ2_charAt_3b067_6 : decode cJ2_charAt_3b067 6 = .ok (.iload_n 1, 1) := by decide +kernel
theorem dJ2_charAt_3b067_7 : decode cJ2_charAt_3b067 7 = .ok (.invokestatic 71, 3) := by decide +kernel
theorem dJ2_charAt_3b067_10 : decode cJ2_charAt_3b067 10 = .ok (.ireturn, 1) := by decide +kernel
theorem dJ2_checkIndex_2214a_0 : decode cJ2_checkIndex_2214a 0 = .ok (.iload_n 0, 1) := by decide +kernel
theorem dJ2_checkIndex_2214a_1 : decode cJ2_checkIndex_2214a 1 = .ok (.aload_n 1, 1) := by decide +kernel
theorem dJ2_checkIndex_2214a_2 : decode cJ2_checkIndex_2214a 2 = .ok (.invokestatic 48, 3) := by decide +kernel
theorem dJ2_checkIndex_2214a_5 : decode cJ2_checkIndex_2214a 5 = .ok (.invokestatic 414, 3) := by decide +kernel
theorem dJ2_checkIndex_2214a_8 : decode cJ2_checkIndex_2214a 8 = .ok (.return_, 1) := by decide +kernel
theorem dJ2_checkBoundsBeginEnd_d044e_0 : decode cJ2_checkBoundsBeginEnd_d044e 0 = .ok (.iload_n 0, 1) := by decide +kernel
theorem dJ2_checkBoundsBeginEnd_d044e_1 : decode cJ2_checkBoundsBeginEnd_d044e 1 = .ok (.iload_n 1, 1) := by decide +kernel
theorem dJ2_checkBoundsBeginEnd_d044e_2 : decode cJ2_checkBoundsBeginEnd_d044e 2 = .ok (.aload_n 2, 1) := by decide +kernel
theorem dJ2_checkBoundsBeginEnd_d044e_3 : decode cJ2_checkBoundsBeginEnd_d044e 3 = .ok (.invokestatic 48, 3) := by decide +kernel
theorem dJ2_checkBoundsBeginEnd_d044e_6 : decode cJ2_checkBoundsBeginEnd_d044e 6 = .ok (.invokestatic 241, 3) := by decide +kernel
theorem dJ2_checkBoundsBeginEnd_d044e_9 : decode cJ2_checkBoundsBeginEnd_d044e 9 = .ok (.return_, 1) := by decide +kernel
theorem dJ7_fill_53178_0 : decode cJ7_fill_53178 0 = .ok (.iconst 0, 1) := by decide +kernel
theorem dJ7_fill_53178_1 : decode cJ7_fill_53178 1 = .ok (.istore_n 2, 1) := by decide +kernel
theorem dJ7_fill_53178_2 : decode cJ7_fill_53178 2 = .ok (.aload_n 0, 1) := by decide +kernel
theorem dJ7_fill_53178_3 : decode cJ7_fill_53178 3 = .ok (.arraylength, 1) := by decide +kernel
theorem dJ7_fill_53178_4 : decode cJ7_fill_53178 4 = .ok (.istore_n 3, 1) := by decide +kernel
theorem dJ7_fill_53178_5 : decode cJ7_fill_53178 5 = .ok (.iload_n 2, 1) := by decide +kernel
theorem dJ7_fill_53178_6 : decode cJ7_fill_53178 6 = .ok (.iload_n 3, 1) := by decide +kernel
theorem dJ7_fill_53178_7 : decode cJ7_fill_53178 7 = .ok (.if_icmp .ge 13, 3) := by decide +kernel
theorem dJ7_fill_53178_10 : decode cJ7_fill_53178 10 = .ok (.aload_n 0, 1) := by decide +kernel
theorem dJ7_fill_53178_11 : decode cJ7_fill_53178 11 = .ok (.iload_n 2, 1) := by decide +kernel
theorem dJ7_fill_53178_12 : decode cJ7_fill_53178 12 = .ok (.iload_n 1, 1) := by decide +kernel
theorem dJ7_fill_53178_13 : decode cJ7_fill_53178 13 = .ok (.iastore, 1) := by decide +kernel
theorem dJ7_fill_53178_14 : decode cJ7_fill_53178 14 = .ok (.iinc 2 1, 3) := by decide +kernel
theorem dJ7_fill_53178_17 : decode cJ7_fill_53178 17 = .ok (.goto (-12), 3) := by decide +kernel
theorem dJ7_fill_53178_20 : decode cJ7_fill_53178 20 = .ok (.return_, 1) := by decide +kernel
theorem dJ3_checkIndex_8e157_0 : decode cJ3_checkIndex_8e157 0 = .ok (.iload_n 0, 1) := by decide +kernel
theorem dJ3_checkIndex_8e157_1 : decode cJ3_checkIndex_8e157 1 = .ok (.ifCond .lt 8, 3) := by decide +kernel
theorem dJ3_checkIndex_8e157_4 : decode cJ3_checkIndex_8e157 4 = .ok (.iload_n 0, 1) := by decide +kernel
theorem dJ3_checkIndex_8e157_5 : decode cJ3_checkIndex_8e157 5 = .ok (.iload_n 1, 1) := by decide +kernel
theorem dJ3_checkIndex_8e157_6 : decode cJ3_checkIndex_8e157 6 = .ok (.if_icmp .lt 10, 3) := by decide +kernel
theorem dJ3_checkIndex_8e157_9 : decode cJ3_checkIndex_8e157 9 = .ok (.aload_n 2, 1) := by decide +kernel
theorem dJ3_checkIndex_8e157_10 : decode cJ3_checkIndex_8e157 10 = .ok (.iload_n 0, 1) := by decide +kernel
theorem dJ3_checkIndex_8e157_11 : decode cJ3_checkIndex_8e157 11 = .ok (.iload_n 1, 1) := by decide +kernel
theorem dJ3_checkIndex_8e157_12 : decode cJ3_checkIndex_8e157 12 = .ok (.invokestatic 95, 3) := by decide +kernel
theorem dJ3_checkIndex_8e157_15 : decode cJ3_checkIndex_8e157 15 = .ok (.athrow, 1) := by decide +kernel
theorem dJ3_checkIndex_8e157_16 : decode cJ3_checkIndex_8e157 16 = .ok (.iload_n 0, 1) := by decide +kernel
theorem dJ3_checkIndex_8e157_17 : decode cJ3_checkIndex_8e157 17 = .ok (.ireturn, 1) := by decide +kernel
theorem dJ3_checkFromToIndex_8c36e_0 : decode cJ3_checkFromToIndex_8c36e 0 = .ok (.iload_n 0, 1) := by decide +kernel
theorem dJ3_checkFromToIndex_8c36e_1 : decode cJ3_checkFromToIndex_8c36e 1 = .ok (.ifCond .lt 13, 3) := by decide +kernel
theorem dJ3_checkFromToIndex_8c36e_4 : decode cJ3_checkFromToIndex_8c36e 4 = .ok (.iload_n 0, 1) := by decide +kernel
theorem dJ3_checkFromToIndex_8c36e_5 : decode cJ3_checkFromToIndex_8c36e 5 = .ok (.iload_n 1, 1) := by decide +kernel
theorem dJ3_checkFromToIndex_8c36e_6 : decode cJ3_checkFromToIndex_8c36e 6 = .ok (.if_icmp .gt 8, 3) := by decide +kernel
theorem dJ3_checkFromToIndex_8c36e_9 : decode cJ3_checkFromToIndex_8c36e 9 = .ok (.iload_n 1, 1) := by decide +kernel
theorem dJ3_checkFromToIndex_8c36e_10 : decode cJ3_checkFromToIndex_8c36e 10 = .ok (.iload_n 2, 1) := by decide +kernel
theorem dJ3_checkFromToIndex_8c36e_11 : decode cJ3_checkFromToIndex_8c36e 11 = .ok (.if_icmp .le 11, 3) := by decide +kernel
theorem dJ3_checkFromToIndex_8c36e_14 : decode cJ3_checkFromToIndex_8c36e 14 = .ok (.aload_n 3, 1) := by decide +kernel
theorem dJ3_checkFromToIndex_8c36e_15 : decode cJ3_checkFromToIndex_8c36e 15 = .ok (.iload_n 0, 1) := by decide +kernel
theorem dJ3_checkFromToIndex_8c36e_16 : decode cJ3_checkFromToIndex_8c36e 16 = .ok (.iload_n 1, 1) := by decide +kernel
theorem dJ3_checkFromToIndex_8c36e_17 : decode cJ3_checkFromToIndex_8c36e 17 = .ok (.iload_n 2, 1) := by decide +kernel
theorem dJ3_checkFromToIndex_8c36e_18 : decode cJ3_checkFromToIndex_8c36e 18 = .ok (.invokestatic 99, 3) := by decide +kernel
theorem dJ3_checkFromToIndex_8c36e_21 : decode cJ3_checkFromToIndex_8c36e 21 = .ok (.athrow, 1) := by decide +kernel
theorem dJ3_checkFromToIndex_8c36e_22 : decode cJ3_checkFromToIndex_8c36e 22 = .ok (.iload_n 0, 1) := by decide +kernel
theorem dJ3_checkFromToIndex_8c36e_23 : decode cJ3_checkFromToIndex_8c36e 23 = .ok (.ireturn, 1) := by decide +kernel
end
section
theorem dX3_init_0 : decode cX3_init 0 = .ok (.aload_n 0, 1) := by decide +kernel
theorem dX3_init_1 : decode cX3_init 1 = .ok (.invokespecial 3, 3) := by decide +kernel
theorem dX3_init_4 : decode cX3_init 4 = .ok (.aload_n 0, 1) := by decide +kernel
theorem dX3_init_5 : decode cX3_init 5 = .ok (.aload_n 1, 1) := by decide +kernel
theorem dX3_init_6 : decode cX3_init 6 = .ok (.putfield 9, 3) := by decide +kernel
theorem dX3_init_9 : decode cX3_init 9 = .ok (.aload_n 0, 1) := by decide +kernel
theorem dX3_init_10 : decode cX3_init 10 = .ok (.aload_n 2, 1) := by decide +kernel
theorem dX3_init_11 : decode cX3_init 11 = .ok (.putfield 15, 3) := by decide +kernel
theorem dX3_init_14 : decode cX3_init 14 = .ok (.return_, 1) := by decide +kernel
theorem dX3_readAll_0 : decode cX3_readAll 0 = .ok (.aload_n 0, 1) := by decide +kernel
theorem dX3_readAll_1 : decode cX3_readAll 1 = .ok (.getfield 15, 3) := by decide +kernel
theorem dX3_readAll_4 : decode cX3_readAll 4 = .ok (.invokevirtual 19, 3) := by decide +kernel
theorem dX3_readAll_7 : decode cX3_readAll 7 = .ok (.aload_n 0, 1) := by decide +kernel
theorem dX3_readAll_8 : decode cX3_readAll 8 = .ok (.getfield 9, 3) := by decide +kernel
theorem dX3_readAll_11 : decode cX3_readAll 11 = .ok (.iconst 0, 1) := by decide +kernel
theorem dX3_readAll_12 : decode cX3_readAll 12 = .ok (.invokevirtual 24, 3) := by decide +kernel
theorem dX3_readAll_15 : decode cX3_readAll 15 = .ok (.bipush 22, 2) := by decide +kernel
theorem dX3_readAll_17 : decode cX3_readAll 17 = .ok (.istore_n 1, 1) := by decide +kernel
theorem dX3_readAll_18 : decode cX3_readAll 18 = .ok (.iconst 0, 1) := by decide +kernel
theorem dX3_readAll_19 : decode cX3_readAll 19 = .ok (.istore_n 2, 1) := by decide +kernel
theorem dX3_readAll_20 : decode cX3_readAll 20 = .ok (.iload_n 2, 1) := by decide +kernel
theorem dX3_readAll_21 : decode cX3_readAll 21 = .ok (.iload_n 1, 1) := by decide +kernel
theorem dX3_readAll_22 : decode cX3_readAll 22 = .ok (.if_icmp .ge 109, 3) := by decide +kernel
theorem dX3_readAll_25 : decode cX3_readAll 25 = .ok (.aload_n 0, 1) := by decide +kernel
theorem dX3_readAll_26 : decode cX3_readAll 26 = .ok (.getfield 9, 3) := by decide +kernel
theorem dX3_readAll_29 : decode cX3_readAll 29 = .ok (.getfield 30, 3) := by decide +kernel
theorem dX3_readAll_32 : decode cX3_readAll 32 = .ok (.ifCond .ne 99, 3) := by decide +kernel
theorem dX3_readAll_35 : decode cX3_readAll 35 = .ok (.aload_n 0, 1) := by decide +kernel
theorem dX3_readAll_36 : decode cX3_readAll 36 = .ok (.getfield 9, 3) := by decide +kernel
theorem dX3_readAll_39 : decode cX3_readAll 39 = .ok (.getfield 34, 3) := by decide +kernel
theorem dX3_readAll_42 : decode cX3_readAll 42 = .ok (.ifCond .eq 89, 3) := by decide +kernel
theorem dX3_readAll_45 : decode cX3_readAll 45 = .ok (.aload_n 0, 1) := by decide +kernel
theorem dX3_readAll_46 : decode cX3_readAll 46 = .ok (.getfield 9, 3) := by decide +kernel
theorem dX3_readAll_49 : decode cX3_readAll 49 = .ok (.getfield 34, 3) := by decide +kernel
theorem dX3_readAll_52 : decode cX3_readAll 52 = .ok (.iconst 4, 1) := by decide +kernel
theorem dX3_readAll_53 : decode cX3_readAll 53 = .ok (.if_icmp .ne 28, 3) := by decide +kernel
theorem dX3_readAll_56 : decode cX3_readAll 56 = .ok (.aload_n 0, 1) := by decide +kernel
theorem dX3_readAll_57 : decode cX3_readAll 57 = .ok (.getfield 15, 3) := by decide +kernel
theorem dX3_readAll_60 : decode cX3_readAll 60 = .ok (.getfield 37, 3) := by decide +kernel
theorem dX3_readAll_63 : decode cX3_readAll 63 = .ok (.iconst 5, 1) := by decide +kernel
theorem dX3_readAll_64 : decode cX3_readAll 64 = .ok (.if_icmp .ge 17, 3) := by decide +kernel
theorem dX3_readAll_67 : decode cX3_readAll 67 = .ok (.aload_n 0, 1) := by decide +kernel
theorem dX3_readAll_68 : decode cX3_readAll 68 = .ok (.aload_n 0, 1) := by decide +kernel
theorem dX3_readAll_69 : decode cX3_readAll 69 = .ok (.getfield 15, 3) := by decide +kernel
theorem dX3_readAll_72 : decode cX3_readAll 72 = .ok (.getfield 37, 3) := by decide +kernel
theorem dX3_readAll_75 : decode cX3_readAll 75 = .ok (.invokevirtual 40, 3) := by decide +kernel
theorem dX3_readAll_78 : decode cX3_readAll 78 = .ok (.goto 47, 3) := by decide +kernel
theorem dX3_readAll_81 : decode cX3_readAll 81 = .ok (.aload_n 0, 1) := by decide +kernel
theorem dX3_readAll_82 : decode cX3_readAll 82 = .ok (.getfield 9, 3) := by decide +kernel
theorem dX3_readAll_85 : decode cX3_readAll 85 = .ok (.getfield 34, 3) := by decide +kernel
theorem dX3_readAll_88 : decode cX3_readAll 88 = .ok (.iconst 5, 1) := by decide +kernel
theorem dX3_readAll_89 : decode cX3_readAll 89 = .ok (.if_icmp .ne 29, 3) := by decide +kernel
theorem dX3_readAll_92 : decode cX3_readAll 92 = .ok (.aload_n 0, 1) := by decide +kernel
theorem dX3_readAll_93 : decode cX3_readAll 93 = .ok (.getfield 15, 3) := by decide +kernel
theorem dX3_readAll_96 : decode cX3_readAll 96 = .ok (.getfield 44, 3) := by decide +kernel
theorem dX3_readAll_99 : decode cX3_readAll 99 = .ok (.bipush 16, 2) := by decide +kernel
theorem dX3_readAll_101 : decode cX3_readAll 101 = .ok (.if_icmp .ge 17, 3) := by decide +kernel
theorem dX3_readAll_104 : decode cX3_readAll 104 = .ok (.aload_n 0, 1) := by decide +kernel
theorem dX3_readAll_105 : decode cX3_readAll 105 = .ok (.aload_n 0, 1) := by decide +kernel
theorem dX3_readAll_106 : decode cX3_readAll 106 = .ok (.getfield 15, 3) := by decide +kernel
theorem dX3_readAll_109 : decode cX3_readAll 109 = .ok (.getfield 44, 3) := by decide +kernel
theorem dX3_readAll_112 : decode cX3_readAll 112 = .ok (.invokevirtual 47, 3) := by decide +kernel
theorem dX3_readAll_115 : decode cX3_readAll 115 = .ok (.goto 10, 3) := by decide +kernel
theorem dX3_readAll_118 : decode cX3_readAll 118 = .ok (.aload_n 0, 1) := by decide +kernel
theorem dX3_readAll_119 : decode cX3_readAll 119 = .ok (.getfield 9, 3) := by decide +kernel
theorem dX3_readAll_122 : decode cX3_readAll 122 = .ok (.invokevirtual 50, 3) := by decide +kernel
theorem dX3_readAll_125 : decode cX3_readAll 125 = .ok (.iinc 2 1, 3) := by decide +kernel
theorem dX3_readAll_128 : decode cX3_readAll 128 = .ok (.goto (-108), 3) := by decide +kernel
theorem dX3_readAll_131 : decode cX3_readAll 131 = .ok (.aload_n 0, 1) := by decide +kernel
theorem dX3_readAll_132 : decode cX3_readAll 132 = .ok (.getfield 9, 3) := by decide +kernel
theorem dX3_readAll_135 : decode cX3_readAll 135 = .ok (.getfield 30, 3) := by decide +kernel
theorem dX3_readAll_138 : decode cX3_readAll 138 = .ok (.ifCond .ne 7, 3) := by decide +kernel
theorem dX3_readAll_141 : decode cX3_readAll 141 = .ok (.aload_n 0, 1) := by decide +kernel
theorem dX3_readAll_142 : decode cX3_readAll 142 = .ok (.invokevirtual 53, 3) := by decide +kernel
theorem dX3_readAll_145 : decode cX3_readAll 145 = .ok (.aload_n 0, 1) := by decide +kernel
theorem dX3_readAll_146 : decode cX3_readAll 146 = .ok (.getfield 9, 3) := by decide +kernel
theorem dX3_readAll_149 : decode cX3_readAll 149 = .ok (.getfield 30, 3) := by decide +kernel
theorem dX3_readAll_152 : decode cX3_readAll 152 = .ok (.ifCond .ne 10, 3) := by decide +kernel
theorem dX3_readAll_155 : decode cX3_readAll 155 = .ok (.aload_n 0, 1) := by decide +kernel
theorem dX3_readAll_156 : decode cX3_readAll 156 = .ok (.getfield 15, 3) := by decide +kernel
theorem dX3_readAll_159 : decode cX3_readAll 159 = .ok (.invokevirtual 56, 3) := by decide +kernel
theorem dX3_readAll_162 : decode cX3_readAll 162 = .ok (.aload_n 0, 1) := by decide +kernel
theorem dX3_readAll_163 : decode cX3_readAll 163 = .ok (.getfield 9, 3) := by decide +kernel
theorem dX3_readAll_166 : decode cX3_readAll 166 = .ok (.getfield 30, 3) := by decide +kernel
theorem dX3_readAll_169 : decode cX3_readAll 169 = .ok (.ifCond .ne 7, 3) := by decide +kernel
theorem dX3_readAll_172 : decode cX3_readAll 172 = .ok (.iconst 1, 1) := by decide +kernel
theorem dX3_readAll_173 : decode cX3_readAll 173 = .ok (.goto 4, 3) := by decide +kernel
theorem dX3_readAll_176 : decode cX3_readAll 176 = .ok (.iconst 0, 1) := by decide +kernel
theorem dX3_readAll_177 : decode cX3_readAll 177 = .ok (.ireturn, 1) := by decide +kernel
theorem dX3_readTable_0 : decode cX3_readTable 0 = .ok (.aload_n 0, 1) := by decide +kernel
theorem dX3_readTable_1 : decode cX3_readTable 1 = .ok (.getfield 9, 3) := by decide +kernel
theorem dX3_readTable_4 : decode cX3_readTable 4 = .ok (.invokevirtual 59, 3) := by decide +kernel
theorem dX3_readTable_7 : decode cX3_readTable 7 = .ok (.aload_n 0, 1) := by decide +kernel
theorem dX3_readTable_8 : decode cX3_readTable 8 = .ok (.getfield 9, 3) := by decide +kernel
theorem dX3_readTable_11 : decode cX3_readTable 11 = .ok (.getfield 34, 3) := by decide +kernel
theorem dX3_readTable_14 : decode cX3_readTable 14 = .ok (.iconst 2, 1) := by decide +kernel
theorem dX3_readTable_15 : decode cX3_readTable 15 = .ok (.if_icmp .ne 36, 3) := by decide +kernel
theorem dX3_readTable_18 : decode cX3_readTable 18 = .ok (.aload_n 0, 1) := by decide +kernel
theorem dX3_readTable_19 : decode cX3_readTable 19 = .ok (.getfield 15, 3) := by decide +kernel
theorem dX3_readTable_22 : decode cX3_readTable 22 = .ok (.aload_n 0, 1) := by decide +kernel
theorem dX3_readTable_23 : decode cX3_readTable 23 = .ok (.getfield 9, 3) := by decide +kernel
theorem dX3_readTable_26 : decode cX3_readTable 26 = .ok (.getfield 62, 3) := by decide +kernel
theorem dX3_readTable_29 : decode cX3_readTable 29 = .ok (.invokevirtual 66, 3) := by decide +kernel
theorem dX3_readTable_32 : decode cX3_readTable 32 = .ok (.iconst (-1), 1) := by decide +kernel
theorem dX3_readTable_33 : decode cX3_readTable 33 = .ok (.if_icmp .eq 18, 3) := by decide +kernel
theorem dX3_readTable_36 : decode cX3_readTable 36 = .ok (.aload_n 0, 1) := by decide +kernel
theorem dX3_readTable_37 : decode cX3_readTable 37 = .ok (.getfield 9, 3) := by decide +kernel
theorem dX3_readTable_40 : decode cX3_readTable 40 = .ok (.iconst 3, 1) := by decide +kernel
theorem dX3_readTable_41 : decode cX3_readTable 41 = .ok (.aload_n 0, 1) := by decide +kernel
theorem dX3_readTable_42 : decode cX3_readTable 42 = .ok (.getfield 9, 3) := by decide +kernel
theorem dX3_readTable_45 : decode cX3_readTable 45 = .ok (.getfield 70, 3) := by decide +kernel
theorem dX3_readTable_48 : decode cX3_readTable 48 = .ok (.invokevirtual 73, 3) := by decide +kernel
theorem dX3_readTable_51 : decode cX3_readTable 51 = .ok (.aload_n 0, 1) := by decide +kernel
theorem dX3_readTable_52 : decode cX3_readTable 52 = .ok (.getfield 9, 3) := by decide +kernel
theorem dX3_readTable_55 : decode cX3_readTable 55 = .ok (.getfield 62, 3) := by decide +kernel
theorem dX3_readTable_58 : decode cX3_readTable 58 = .ok (.lstore_n 2, 1) := by decide +kernel
theorem dX3_readTable_59 : decode cX3_readTable 59 = .ok (.aload_n 0, 1) := by decide +kernel
theorem dX3_readTable_60 : decode cX3_readTable 60 = .ok (.getfield 9, 3) := by decide +kernel
theorem dX3_readTable_63 : decode cX3_readTable 63 = .ok (.iconst 2, 1) := by decide +kernel
theorem dX3_readTable_64 : decode cX3_readTable 64 = .ok (.invokevirtual 77, 3) := by decide +kernel
theorem dX3_readTable_67 : decode cX3_readTable 67 = .ok (.ifCond .eq 15, 3) := by decide +kernel
theorem dX3_readTable_70 : decode cX3_readTable 70 = .ok (.aload_n 0, 1) := by decide +kernel
theorem dX3_readTable_71 : decode cX3_readTable 71 = .ok (.getfield 9, 3) := by decide +kernel
theorem dX3_readTable_74 : decode cX3_readTable 74 = .ok (.bipush 58, 2) := by decide +kernel
theorem dX3_readTable_76 : decode cX3_readTable 76 = .ok (.invokevirtual 77, 3) := by decide +kernel
theorem dX3_readTable_79 : decode cX3_readTable 79 = .ok (.ifCond .ne 4, 3) := by decide +kernel
theorem dX3_readTable_82 : decode cX3_readTable 82 = .ok (.return_, 1) := by decide +kernel
theorem dX3_readTable_83 : decode cX3_readTable 83 = .ok (.aload_n 0, 1) := by decide +kernel
theorem dX3_readTable_84 : decode cX3_readTable 84 = .ok (.getfield 15, 3) := by decide +kernel
theorem dX3_readTable_87 : decode cX3_readTable 87 = .ok (.getfield 81, 3) := by decide +kernel
theorem dX3_readTable_90 : decode cX3_readTable 90 = .ok (.iload_n 1, 1) := by decide +kernel
theorem dX3_readTable_91 : decode cX3_readTable 91 = .ok (.lload_n 2, 1) := by decide +kernel
theorem dX3_readTable_92 : decode cX3_readTable 92 = .ok (.lastore, 1) := by decide +kernel
theorem dX3_readTable_93 : decode cX3_readTable 93 = .ok (.aload_n 0, 1) := by decide +kernel
theorem dX3_readTable_94 : decode cX3_readTable 94 = .ok (.getfield 15, 3) := by decide +kernel
theorem dX3_readTable_97 : decode cX3_readTable 97 = .ok (.getfield 85, 3) := by decide +kernel
theorem dX3_readTable_100 : decode cX3_readTable 100 = .ok (.iload_n 1, 1) := by decide +kernel
theorem dX3_readTable_101 : decode cX3_readTable 101 = .ok (.iconst 0, 1) := by decide +kernel
theorem dX3_readTable_102 : decode cX3_readTable 102 = .ok (.iastore, 1) := by decide +kernel
theorem dX3_readTable_103 : decode cX3_readTable 103 = .ok (.aload_n 0, 1) := by decide +kernel
theorem dX3_readTable_104 : decode cX3_readTable 104 = .ok (.getfield 15, 3) := by decide +kernel
theorem dX3_readTable_107 : decode cX3_readTable 107 = .ok (.getfield 89, 3) := by decide +kernel
theorem dX3_readTable_110 : decode cX3_readTable 110 = .ok (.iload_n 1, 1) := by decide +kernel
theorem dX3_readTable_111 : decode cX3_readTable 111 = .ok (.iconst 0, 1) := by decide +kernel
theorem dX3_readTable_112 : decode cX3_readTable 112 = .ok (.iastore, 1) := by decide +kernel
theorem dX3_readTable_113 : decode cX3_readTable 113 = .ok (.aload_n 0, 1) := by decide +kernel
theorem dX3_readTable_114 : decode cX3_readTable 114 = .ok (.getfield 15, 3) := by decide +kernel
theorem dX3_readTable_117 : decode cX3_readTable 117 = .ok (.dup, 1) := by decide +kernel
theorem dX3_readTable_118 : decode cX3_readTable 118 = .ok (.getfield 37, 3) := by decide +kernel
theorem dX3_readTable_121 : decode cX3_readTable 121 = .ok (.iconst 1, 1) := by decide +kernel
theorem dX3_readTable_122 : decode cX3_readTable 122 = .ok (.iadd, 1) := by decide +kernel
theorem dX3_readTable_123 : decode cX3_readTable 123 = .ok (.putfield 37, 3) := by decide +kernel
theorem dX3_readTable_126 : decode cX3_readTable 126 = .ok (.iconst 1, 1) := by decide +kernel
theorem dX3_readTable_127 : decode cX3_readTable 127 = .ok (.istore 4, 2) := by decide +kernel
theorem dX3_readTable_129 : decode cX3_readTable 129 = .ok (.iconst 0, 1) := by decide +kernel
theorem dX3_readTable_130 : decode cX3_readTable 130 = .ok (.istore 5, 2) := by decide +kernel
theorem dX3_readTable_132 : decode cX3_readTable 132 = .ok (.iload 5, 2) := by decide +kernel
theorem dX3_readTable_134 : decode cX3_readTable 134 = .ok (.iconst 5, 1) := by decide +kernel
theorem dX3_readTable_135 : decode cX3_readTable 135 = .ok (.if_icmp .gt 60, 3) := by decide +kernel
theorem dX3_readTable_138 : decode cX3_readTable 138 = .ok (.iload 4, 2) := by decide +kernel
theorem dX3_readTable_140 : decode cX3_readTable 140 = .ok (.ifCond .eq 55, 3) := by decide +kernel
theorem dX3_readTable_143 : decode cX3_readTable 143 = .ok (.aload_n 0, 1) := by decide +kernel
theorem dX3_readTable_144 : decode cX3_readTable 144 = .ok (.iload_n 1, 1) := by decide +kernel
theorem dX3_readTable_145 : decode cX3_readTable 145 = .ok (.invokevirtual 92, 3) := by decide +kernel
theorem dX3_readTable_148 : decode cX3_readTable 148 = .ok (.aload_n 0, 1) := by decide +kernel
theorem dX3_readTable_149 : decode cX3_readTable 149 = .ok (.getfield 9, 3) := by decide +kernel
theorem dX3_readTable_152 : decode cX3_readTable 152 = .ok (.getfield 30, 3) := by decide +kernel
theorem dX3_readTable_155 : decode cX3_readTable 155 = .ok (.ifCond .ne 19, 3) := by decide +kernel
theorem dX3_readTable_158 : decode cX3_readTable 158 = .ok (.aload_n 0, 1) := by decide +kernel
theorem dX3_readTable_159 : decode cX3_readTable 159 = .ok (.getfield 9, 3) := by decide +kernel
theorem dX3_readTable_162 : decode cX3_readTable 162 = .ok (.getfield 34, 3) := by decide +kernel
theorem dX3_readTable_165 : decode cX3_readTable 165 = .ok (.bipush 44, 2) := by decide +kernel
theorem dX3_readTable_167 : decode cX3_readTable 167 = .ok (.if_icmp .ne 7, 3) := by decide +kernel
theorem dX3_readTable_170 : decode cX3_readTable 170 = .ok (.iconst 1, 1) := by decide +kernel
theorem dX3_readTable_171 : decode cX3_readTable 171 = .ok (.goto 4, 3) := by decide +kernel
theorem dX3_readTable_174 : decode cX3_readTable 174 = .ok (.iconst 0, 1) := by decide +kernel
theorem dX3_readTable_175 : decode cX3_readTable 175 = .ok (.istore 4, 2) := by decide +kernel
theorem dX3_readTable_177 : decode cX3_readTable 177 = .ok (.iload 4, 2) := by decide +kernel
theorem dX3_readTable_179 : decode cX3_readTable 179 = .ok (.ifCond .eq 10, 3) := by decide +kernel
theorem dX3_readTable_182 : decode cX3_readTable 182 = .ok (.aload_n 0, 1) := by decide +kernel
theorem dX3_readTable_183 : decode cX3_readTable 183 = .ok (.getfield 9, 3) := by decide +kernel
theorem dX3_readTable_186 : decode cX3_readTable 186 = .ok (.invokevirtual 59, 3) := by decide +kernel
theorem dX3_readTable_189 : decode cX3_readTable 189 = .ok (.iinc 5 1, 3) := by decide +kernel
theorem dX3_readTable_192 : decode cX3_readTable 192 = .ok (.goto (-60), 3) := by decide +kernel
theorem dX3_readTable_195 : decode cX3_readTable 195 = .ok (.aload_n 0, 1) := by decide +kernel
theorem dX3_readTable_196 : decode cX3_readTable 196 = .ok (.getfield 9, 3) := by decide +kernel
theorem dX3_readTable_199 : decode cX3_readTable 199 = .ok (.bipush 59, 2) := by decide +kernel
theorem dX3_readTable_201 : decode cX3_readTable 201 = .ok (.invokevirtual 77, 3) := by decide +kernel
theorem dX3_readTable_204 : decode cX3_readTable 204 = .ok (.pop, 1) := by decide +kernel
theorem dX3_readTable_205 : decode cX3_readTable 205 = .ok (.return_, 1) := by decide +kernel
theorem dX3_readColumn_0 : decode cX3_readColumn 0 = .ok (.aload_n 0, 1) := by decide +kernel
theorem dX3_readColumn_1 : decode cX3_readColumn 1 = .ok (.getfield 15, 3) := by decide +kernel
theorem dX3_readColumn_4 : decode cX3_readColumn 4 = .ok (.getfield 85, 3) := by decide +kernel
theorem dX3_readColumn_7 : decode cX3_readColumn 7 = .ok (.iload_n 1, 1) := by decide +kernel
theorem dX3_readColumn_8 : decode cX3_readColumn 8 = .ok (.iaload, 1) := by decide +kernel
theorem dX3_readColumn_9 : decode cX3_readColumn 9 = .ok (.istore_n 2, 1) := by decide +kernel
theorem dX3_readColumn_10 : decode cX3_readColumn 10 = .ok (.aload_n 0, 1) := by decide +kernel
theorem dX3_readColumn_11 : decode cX3_readColumn 11 = .ok (.getfield 9, 3) := by decide +kernel
theorem dX3_readColumn_14 : decode cX3_readColumn 14 = .ok (.getfield 34, 3) := by decide +kernel
theorem dX3_readColumn_17 : decode cX3_readColumn 17 = .ok (.iconst 2, 1) := by decide +kernel
theorem dX3_readColumn_18 : decode cX3_readColumn 18 = .ok (.if_icmp .ne 8, 3) := by decide +kernel
theorem dX3_readColumn_21 : decode cX3_readColumn 21 = .ok (.iload_n 2, 1) := by decide +kernel
theorem dX3_readColumn_22 : decode cX3_readColumn 22 = .ok (.iconst 5, 1) := by decide +kernel
theorem dX3_readColumn_23 : decode cX3_readColumn 23 = .ok (.if_icmp .lt 11, 3) := by decide +kernel
theorem dX3_readColumn_26 : decode cX3_readColumn 26 = .ok (.aload_n 0, 1) := by decide +kernel
theorem dX3_readColumn_27 : decode cX3_readColumn 27 = .ok (.getfield 9, 3) := by decide +kernel
theorem dX3_readColumn_30 : decode cX3_readColumn 30 = .ok (.invokevirtual 50, 3) := by decide +kernel
theorem dX3_readColumn_33 : decode cX3_readColumn 33 = .ok (.return_, 1) := by decide +kernel
theorem dX3_readColumn_34 : decode cX3_readColumn 34 = .ok (.aload_n 0, 1) := by decide +kernel
theorem dX3_readColumn_35 : decode cX3_readColumn 35 = .ok (.getfield 15, 3) := by decide +kernel
theorem dX3_readColumn_38 : decode cX3_readColumn 38 = .ok (.iload_n 1, 1) := by decide +kernel
theorem dX3_readColumn_39 : decode cX3_readColumn 39 = .ok (.aload_n 0, 1) := by decide +kernel
theorem dX3_readColumn_40 : decode cX3_readColumn 40 = .ok (.getfield 9, 3) := by decide +kernel
theorem dX3_readColumn_43 : decode cX3_readColumn 43 = .ok (.getfield 62, 3) := by decide +kernel
theorem dX3_readColumn_46 : decode cX3_readColumn 46 = .ok (.invokevirtual 95, 3) := by decide +kernel
theorem dX3_readColumn_49 : decode cX3_readColumn 49 = .ok (.iconst (-1), 1) := by decide +kernel
theorem dX3_readColumn_50 : decode cX3_readColumn 50 = .ok (.if_icmp .eq 19, 3) := by decide +kernel
theorem dX3_readColumn_53 : decode cX3_readColumn 53 = .ok (.aload_n 0, 1) := by decide +kernel
theorem dX3_readColumn_54 : decode cX3_readColumn 54 = .ok (.getfield 9, 3) := by decide +kernel
theorem dX3_readColumn_57 : decode cX3_readColumn 57 = .ok (.iconst 3, 1) := by decide +kernel
theorem dX3_readColumn_58 : decode cX3_readColumn 58 = .ok (.aload_n 0, 1) := by decide +kernel
theorem dX3_readColumn_59 : decode cX3_readColumn 59 = .ok (.getfield 9, 3) := by decide +kernel
theorem dX3_readColumn_62 : decode cX3_readColumn 62 = .ok (.getfield 70, 3) := by decide +kernel
theorem dX3_readColumn_65 : decode cX3_readColumn 65 = .ok (.invokevirtual 73, 3) := by decide +kernel
theorem dX3_readColumn_68 : decode cX3_readColumn 68 = .ok (.return_, 1) := by decide +kernel
theorem dX3_readColumn_69 : decode cX3_readColumn 69 = .ok (.aload_n 0, 1) := by decide +kernel
theorem dX3_readColumn_70 : decode cX3_readColumn 70 = .ok (.getfield 15, 3) := by decide +kernel
theorem dX3_readColumn_73 : decode cX3_readColumn 73 = .ok (.getfield 99, 3) := by decide +kernel
theorem dX3_readColumn_76 : decode cX3_readColumn 76 = .ok (.iload_n 1, 1) := by decide +kernel
theorem dX3_readColumn_77 : decode cX3_readColumn 77 = .ok (.iload_n 2, 1) := by decide +kernel
theorem dX3_readColumn_78 : decode cX3_readColumn 78 = .ok (.invokestatic 102, 3) := by decide +kernel
theorem dX3_readColumn_81 : decode cX3_readColumn 81 = .ok (.aload_n 0, 1) := by decide +kernel
theorem dX3_readColumn_82 : decode cX3_readColumn 82 = .ok (.getfield 9, 3) := by decide +kernel
theorem dX3_readColumn_85 : decode cX3_readColumn 85 = .ok (.getfield 62, 3) := by decide +kernel
theorem dX3_readColumn_88 : decode cX3_readColumn 88 = .ok (.lastore, 1) := by decide +kernel
theorem dX3_readColumn_89 : decode cX3_readColumn 89 = .ok (.aload_n 0, 1) := by decide +kernel
theorem dX3_readColumn_90 : decode cX3_readColumn 90 = .ok (.getfield 15, 3) := by decide +kernel
theorem dX3_readColumn_93 : decode cX3_readColumn 93 = .ok (.getfield 106, 3) := by decide +kernel
theorem dX3_readColumn_96 : decode cX3_readColumn 96 = .ok (.iload_n 1, 1) := by decide +kernel
theorem dX3_readColumn_97 : decode cX3_readColumn 97 = .ok (.iload_n 2, 1) := by decide +kernel
theorem dX3_readColumn_98 : decode cX3_readColumn 98 = .ok (.invokestatic 102, 3) := by decide +kernel
theorem dX3_readColumn_101 : decode cX3_readColumn 101 = .ok (.iconst (-1), 1) := by decide +kernel
theorem dX3_readColumn_102 : decode cX3_readColumn 102 = .ok (.iastore, 1) := by decide +kernel
theorem dX3_readColumn_103 : decode cX3_readColumn 103 = .ok (.aload_n 0, 1) := by decide +kernel
theorem dX3_readColumn_104 : decode cX3_readColumn 104 = .ok (.getfield 15, 3) := by decide +kernel
theorem dX3_readColumn_107 : decode cX3_readColumn 107 = .ok (.getfield 85, 3) := by decide +kernel
theorem dX3_readColumn_110 : decode cX3_readColumn 110 = .ok (.iload_n 1, 1) := by decide +kernel
theorem dX3_readColumn_111 : decode cX3_readColumn 111 = .ok (.dup2, 1) := by decide +kernel
theorem dX3_readColumn_112 : decode cX3_readColumn 112 = .ok (.iaload, 1) := by decide +kernel
theorem dX3_readColumn_113 : decode cX3_readColumn 113 = .ok (.iconst 1, 1) := by decide +kernel
theorem dX3_readColumn_114 : decode cX3_readColumn 114 = .ok (.iadd, 1) := by decide +kernel
theorem dX3_readColumn_115 : decode cX3_readColumn 115 = .ok (.iastore, 1) := by decide +kernel
theorem dX3_readColumn_116 : decode cX3_readColumn 116 = .ok (.aload_n 0, 1) := by decide +kernel
theorem dX3_readColumn_117 : decode cX3_readColumn 117 = .ok (.getfield 9, 3) := by decide +kernel
theorem dX3_readColumn_120 : decode cX3_readColumn 120 = .ok (.invokevirtual 59, 3) := by decide +kernel
theorem dX3_readColumn_123 : decode cX3_readColumn 123 = .ok (.aload_n 0, 1) := by decide +kernel
theorem dX3_readColumn_124 : decode cX3_readColumn 124 = .ok (.getfield 9, 3) := by decide +kernel
theorem dX3_readColumn_127 : decode cX3_readColumn 127 = .ok (.getfield 34, 3) := by decide +kernel
theorem dX3_readColumn_130 : decode cX3_readColumn 130 = .ok (.bipush 6, 2) := by decide +kernel
theorem dX3_readColumn_132 : decode cX3_readColumn 132 = .ok (.if_icmp .ne 34, 3) := by decide +kernel
theorem dX3_readColumn_135 : decode cX3_readColumn 135 = .ok (.aload_n 0, 1) := by decide +kernel
theorem dX3_readColumn_136 : decode cX3_readColumn 136 = .ok (.getfield 9, 3) := by decide +kernel
theorem dX3_readColumn_139 : decode cX3_readColumn 139 = .ok (.invokevirtual 59, 3) := by decide +kernel
theorem dX3_readColumn_142 : decode cX3_readColumn 142 = .ok (.aload_n 0, 1) := by decide +kernel
theorem dX3_readColumn_143 : decode cX3_readColumn 143 = .ok (.getfield 15, 3) := by decide +kernel
theorem dX3_readColumn_146 : decode cX3_readColumn 146 = .ok (.getfield 106, 3) := by decide +kernel
theorem dX3_readColumn_149 : decode cX3_readColumn 149 = .ok (.iload_n 1, 1) := by decide +kernel
theorem dX3_readColumn_150 : decode cX3_readColumn 150 = .ok (.iload_n 2, 1) := by decide +kernel
theorem dX3_readColumn_151 : decode cX3_readColumn 151 = .ok (.invokestatic 102, 3) := by decide +kernel
theorem dX3_readColumn_154 : decode cX3_readColumn 154 = .ok (.aload_n 0, 1) := by decide +kernel
theorem dX3_readColumn_155 : decode cX3_readColumn 155 = .ok (.getfield 9, 3) := by decide +kernel
theorem dX3_readColumn_158 : decode cX3_readColumn 158 = .ok (.aload_n 0, 1) := by decide +kernel
theorem dX3_readColumn_159 : decode cX3_readColumn 159 = .ok (.getfield 15, 3) := by decide +kernel
theorem dX3_readColumn_162 : decode cX3_readColumn 162 = .ok (.invokevirtual 109, 3) := by decide +kernel
theorem dX3_readColumn_165 : decode cX3_readColumn 165 = .ok (.iastore, 1) := by decide +kernel
theorem dX3_readColumn_166 : decode cX3_readColumn 166 = .ok (.return_, 1) := by decide +kernel
theorem dX3_readRow_0 : decode cX3_readRow 0 = .ok (.aload_n 0, 1) := by decide +kernel
theorem dX3_readRow_1 : decode cX3_readRow 1 = .ok (.getfield 9, 3) := by decide +kernel
theorem dX3_readRow_4 : decode cX3_readRow 4 = .ok (.invokevirtual 59, 3) := by decide +kernel
theorem dX3_readRow_7 : decode cX3_readRow 7 = .ok (.aload_n 0, 1) := by decide +kernel
theorem dX3_readRow_8 : decode cX3_readRow 8 = .ok (.getfield 9, 3) := by decide +kernel
theorem dX3_readRow_11 : decode cX3_readRow 11 = .ok (.aload_n 0, 1) := by decide +kernel
theorem dX3_readRow_12 : decode cX3_readRow 12 = .ok (.getfield 15, 3) := by decide +kernel
theorem dX3_readRow_15 : decode cX3_readRow 15 = .ok (.invokevirtual 109, 3) := by decide +kernel
theorem dX3_readRow_18 : decode cX3_readRow 18 = .ok (.istore_n 2, 1) := by decide +kernel
theorem dX3_readRow_19 : decode cX3_readRow 19 = .ok (.aload_n 0, 1) := by decide +kernel
theorem dX3_readRow_20 : decode cX3_readRow 20 = .ok (.getfield 9, 3) := by decide +kernel
theorem dX3_readRow_23 : decode cX3_readRow 23 = .ok (.bipush 58, 2) := by decide +kernel
theorem dX3_readRow_25 : decode cX3_readRow 25 = .ok (.invokevirtual 77, 3) := by decide +kernel
theorem dX3_readRow_28 : decode cX3_readRow 28 = .ok (.ifCond .eq 14, 3) := by decide +kernel
theorem dX3_readRow_31 : decode cX3_readRow 31 = .ok (.aload_n 0, 1) := by decide +kernel
theorem dX3_readRow_32 : decode cX3_readRow 32 = .ok (.getfield 15, 3) := by decide +kernel
theorem dX3_readRow_35 : decode cX3_readRow 35 = .ok (.iload_n 2, 1) := by decide +kernel
theorem dX3_readRow_36 : decode cX3_readRow 36 = .ok (.invokevirtual 113, 3) := by decide +kernel
theorem dX3_readRow_39 : decode cX3_readRow 39 = .ok (.ifCond .ne 4, 3) := by decide +kernel
theorem dX3_readRow_42 : decode cX3_readRow 42 = .ok (.return_, 1) := by decide +kernel
theorem dX3_readRow_43 : decode cX3_readRow 43 = .ok (.aload_n 0, 1) := by decide +kernel
theorem dX3_readRow_44 : decode cX3_readRow 44 = .ok (.getfield 15, 3) := by decide +kernel
theorem dX3_readRow_47 : decode cX3_readRow 47 = .ok (.getfield 116, 3) := by decide +kernel
theorem dX3_readRow_50 : decode cX3_readRow 50 = .ok (.iload_n 1, 1) := by decide +kernel
theorem dX3_readRow_51 : decode cX3_readRow 51 = .ok (.iload_n 2, 1) := by decide +kernel
theorem dX3_readRow_52 : decode cX3_readRow 52 = .ok (.iastore, 1) := by decide +kernel
theorem dX3_readRow_53 : decode cX3_readRow 53 = .ok (.aload_n 0, 1) := by decide +kernel
theorem dX3_readRow_54 : decode cX3_readRow 54 = .ok (.getfield 15, 3) := by decide +kernel
theorem dX3_readRow_57 : decode cX3_readRow 57 = .ok (.getfield 119, 3) := by decide +kernel
theorem dX3_readRow_60 : decode cX3_readRow 60 = .ok (.iload_n 1, 1) := by decide +kernel
theorem dX3_readRow_61 : decode cX3_readRow 61 = .ok (.aload_n 0, 1) := by decide +kernel
theorem dX3_readRow_62 : decode cX3_readRow 62 = .ok (.getfield 15, 3) := by decide +kernel
theorem dX3_readRow_65 : decode cX3_readRow 65 = .ok (.getfield 89, 3) := by decide +kernel
theorem dX3_readRow_68 : decode cX3_readRow 68 = .ok (.iload_n 2, 1) := by decide +kernel
theorem dX3_readRow_69 : decode cX3_readRow 69 = .ok (.iaload, 1) := by decide +kernel
theorem dX3_readRow_70 : decode cX3_readRow 70 = .ok (.iastore, 1) := by decide +kernel
theorem dX3_readRow_71 : decode cX3_readRow 71 = .ok (.iconst 1, 1) := by decide +kernel
theorem dX3_readRow_72 : decode cX3_readRow 72 = .ok (.istore_n 3, 1) := by decide +kernel
theorem dX3_readRow_73 : decode cX3_readRow 73 = .ok (.iconst 0, 1) := by decide +kernel
theorem dX3_readRow_74 : decode cX3_readRow 74 = .ok (.istore 4, 2) := by decide +kernel
theorem dX3_readRow_76 : decode cX3_readRow 76 = .ok (.iload_n 3, 1) := by decide +kernel
theorem dX3_readRow_77 : decode cX3_readRow 77 = .ok (.ifCond .eq 61, 3) := by decide +kernel
theorem dX3_readRow_80 : decode cX3_readRow 80 = .ok (.iload 4, 2) := by decide +kernel
theorem dX3_readRow_82 : decode cX3_readRow 82 = .ok (.iconst 5, 1) := by decide +kernel
theorem dX3_readRow_83 : decode cX3_readRow 83 = .ok (.if_icmp .gt 55, 3) := by decide +kernel
theorem dX3_readRow_86 : decode cX3_readRow 86 = .ok (.aload_n 0, 1) := by decide +kernel
theorem dX3_readRow_87 : decode cX3_readRow 87 = .ok (.iload_n 1, 1) := by decide +kernel
theorem dX3_readRow_88 : decode cX3_readRow 88 = .ok (.iload 4, 2) := by decide +kernel
theorem dX3_readRow_90 : decode cX3_readRow 90 = .ok (.invokevirtual 122, 3) := by decide +kernel
theorem dX3_readRow_93 : decode cX3_readRow 93 = .ok (.iinc 4 1, 3) := by decide +kernel
theorem dX3_readRow_96 : decode cX3_readRow 96 = .ok (.aload_n 0, 1) := by decide +kernel
theorem dX3_readRow_97 : decode cX3_readRow 97 = .ok (.getfield 9, 3) := by decide +kernel
theorem dX3_readRow_100 : decode cX3_readRow 100 = .ok (.getfield 30, 3) := by decide +kernel
theorem dX3_readRow_103 : decode cX3_readRow 103 = .ok (.ifCond .ne 19, 3) := by decide +kernel
theorem dX3_readRow_106 : decode cX3_readRow 106 = .ok (.aload_n 0, 1) := by decide +kernel
theorem dX3_readRow_107 : decode cX3_readRow 107 = .ok (.getfield 9, 3) := by decide +kernel
theorem dX3_readRow_110 : decode cX3_readRow 110 = .ok (.getfield 34, 3) := by decide +kernel
theorem dX3_readRow_113 : decode cX3_readRow 113 = .ok (.bipush 44, 2) := by decide +kernel
theorem dX3_readRow_115 : decode cX3_readRow 115 = .ok (.if_icmp .ne 7, 3) := by decide +kernel
theorem dX3_readRow_118 : decode cX3_readRow 118 = .ok (.iconst 1, 1) := by decide +kernel
theorem dX3_readRow_119 : decode cX3_readRow 119 = .ok (.goto 4, 3) := by decide +kernel
theorem dX3_readRow_122 : decode cX3_readRow 122 = .ok (.iconst 0, 1) := by decide +kernel
theorem dX3_readRow_123 : decode cX3_readRow 123 = .ok (.istore_n 3, 1) := by decide +kernel
theorem dX3_readRow_124 : decode cX3_readRow 124 = .ok (.iload_n 3, 1) := by decide +kernel
theorem dX3_readRow_125 : decode cX3_readRow 125 = .ok (.ifCond .eq (-49), 3) := by decide +kernel
theorem dX3_readRow_128 : decode cX3_readRow 128 = .ok (.aload_n 0, 1) := by decide +kernel
theorem dX3_readRow_129 : decode cX3_readRow 129 = .ok (.getfield 9, 3) := by decide +kernel
theorem dX3_readRow_132 : decode cX3_readRow 132 = .ok (.invokevirtual 59, 3) := by decide +kernel
theorem dX3_readRow_135 : decode cX3_readRow 135 = .ok (.goto (-59), 3) := by decide +kernel
theorem dX3_readRow_138 : decode cX3_readRow 138 = .ok (.aload_n 0, 1) := by decide +kernel
theorem dX3_readRow_139 : decode cX3_readRow 139 = .ok (.getfield 9, 3) := by decide +kernel
theorem dX3_readRow_142 : decode cX3_readRow 142 = .ok (.getfield 30, 3) := by decide +kernel
theorem dX3_readRow_145 : decode cX3_readRow 145 = .ok (.ifCond .ne 24, 3) := by decide +kernel
theorem dX3_readRow_148 : decode cX3_readRow 148 = .ok (.iload 4, 2) := by decide +kernel
theorem dX3_readRow_150 : decode cX3_readRow 150 = .ok (.aload_n 0, 1) := by decide +kernel
theorem dX3_readRow_151 : decode cX3_readRow 151 = .ok (.getfield 15, 3) := by decide +kernel
theorem dX3_readRow_154 : decode cX3_readRow 154 = .ok (.getfield 85, 3) := by decide +kernel
theorem dX3_readRow_157 : decode cX3_readRow 157 = .ok (.iload_n 2, 1) := by decide +kernel
theorem dX3_readRow_158 : decode cX3_readRow 158 = .ok (.iaload, 1) := by decide +kernel
theorem dX3_readRow_159 : decode cX3_readRow 159 = .ok (.if_icmp .ge 10, 3) := by decide +kernel
theorem dX3_readRow_162 : decode cX3_readRow 162 = .ok (.aload_n 0, 1) := by decide +kernel
theorem dX3_readRow_163 : decode cX3_readRow 163 = .ok (.getfield 9, 3) := by decide +kernel
theorem dX3_readRow_166 : decode cX3_readRow 166 = .ok (.invokevirtual 50, 3) := by decide +kernel
theorem dX3_readRow_169 : decode cX3_readRow 169 = .ok (.aload_n 0, 1) := by decide +kernel
theorem dX3_readRow_170 : decode cX3_readRow 170 = .ok (.getfield 9, 3) := by decide +kernel
theorem dX3_readRow_173 : decode cX3_readRow 173 = .ok (.bipush 59, 2) := by decide +kernel
theorem dX3_readRow_175 : decode cX3_readRow 175 = .ok (.invokevirtual 77, 3) := by decide +kernel
theorem dX3_readRow_178 : decode cX3_readRow 178 = .ok (.ifCond .eq 29, 3) := by decide +kernel
theorem dX3_readRow_181 : decode cX3_readRow 181 = .ok (.aload_n 0, 1) := by decide +kernel
theorem dX3_readRow_182 : decode cX3_readRow 182 = .ok (.getfield 15, 3) := by decide +kernel
theorem dX3_readRow_185 : decode cX3_readRow 185 = .ok (.getfield 89, 3) := by decide +kernel
theorem dX3_readRow_188 : decode cX3_readRow 188 = .ok (.iload_n 2, 1) := by decide +kernel
theorem dX3_readRow_189 : decode cX3_readRow 189 = .ok (.dup2, 1) := by decide +kernel
theorem dX3_readRow_190 : decode cX3_readRow 190 = .ok (.iaload, 1) := by decide +kernel
theorem dX3_readRow_191 : decode cX3_readRow 191 = .ok (.iconst 1, 1) := by decide +kernel
theorem dX3_readRow_192 : decode cX3_readRow 192 = .ok (.iadd, 1) := by decide +kernel
theorem dX3_readRow_193 : decode cX3_readRow 193 = .ok (.iastore, 1) := by decide +kernel
theorem dX3_readRow_194 : decode cX3_readRow 194 = .ok (.aload_n 0, 1) := by decide +kernel
theorem dX3_readRow_195 : decode cX3_readRow 195 = .ok (.getfield 15, 3) := by decide +kernel
theorem dX3_readRow_198 : decode cX3_readRow 198 = .ok (.dup, 1) := by decide +kernel
theorem dX3_readRow_199 : decode cX3_readRow 199 = .ok (.getfield 44, 3) := by decide +kernel
theorem dX3_readRow_202 : decode cX3_readRow 202 = .ok (.iconst 1, 1) := by decide +kernel
theorem dX3_readRow_203 : decode cX3_readRow 203 = .ok (.iadd, 1) := by decide +kernel
theorem dX3_readRow_204 : decode cX3_readRow 204 = .ok (.putfield 44, 3) := by decide +kernel
theorem dX3_readRow_207 : decode cX3_readRow 207 = .ok (.return_, 1) := by decide +kernel
theorem dX3_readValue_0 : decode cX3_readValue 0 = .ok (.aload_n 0, 1) := by decide +kernel
theorem dX3_readValue_1 : decode cX3_readValue 1 = .ok (.getfield 15, 3) := by decide +kernel
theorem dX3_readValue_4 : decode cX3_readValue 4 = .ok (.getfield 116, 3) := by decide +kernel
theorem dX3_readValue_7 : decode cX3_readValue 7 = .ok (.iload_n 1, 1) := by decide +kernel
theorem dX3_readValue_8 : decode cX3_readValue 8 = .ok (.iaload, 1) := by decide +kernel
theorem dX3_readValue_9 : decode cX3_readValue 9 = .ok (.istore_n 3, 1) := by decide +kernel
theorem dX3_readValue_10 : decode cX3_readValue 10 = .ok (.aload_n 0, 1) := by decide +kernel
theorem dX3_readValue_11 : decode cX3_readValue 11 = .ok (.getfield 15, 3) := by decide +kernel
theorem dX3_readValue_14 : decode cX3_readValue 14 = .ok (.iload_n 3, 1) := by decide +kernel
theorem dX3_readValue_15 : decode cX3_readValue 15 = .ok (.iload_n 2, 1) := by decide +kernel
theorem dX3_readValue_16 : decode cX3_readValue 16 = .ok (.invokevirtual 125, 3) := by decide +kernel
theorem dX3_readValue_19 : decode cX3_readValue 19 = .ok (.ifCond .ne 11, 3) := by decide +kernel
theorem dX3_readValue_22 : decode cX3_readValue 22 = .ok (.aload_n 0, 1) := by decide +kernel
theorem dX3_readValue_23 : decode cX3_readValue 23 = .ok (.getfield 9, 3) := by decide +kernel
theorem dX3_readValue_26 : decode cX3_readValue 26 = .ok (.invokevirtual 50, 3) := by decide +kernel
theorem dX3_readValue_29 : decode cX3_readValue 29 = .ok (.return_, 1) := by decide +kernel
theorem dX3_readValue_30 : decode cX3_readValue 30 = .ok (.aload_n 0, 1) := by decide +kernel
theorem dX3_readValue_31 : decode cX3_readValue 31 = .ok (.getfield 9, 3) := by decide +kernel
theorem dX3_readValue_34 : decode cX3_readValue 34 = .ok (.getfield 34, 3) := by decide +kernel
theorem dX3_readValue_37 : decode cX3_readValue 37 = .ok (.bipush 45, 2) := by decide +kernel
theorem dX3_readValue_39 : decode cX3_readValue 39 = .ok (.if_icmp .ne 11, 3) := by decide +kernel
theorem dX3_readValue_42 : decode cX3_readValue 42 = .ok (.aload_n 0, 1) := by decide +kernel
theorem dX3_readValue_43 : decode cX3_readValue 43 = .ok (.getfield 9, 3) := by decide +kernel
theorem dX3_readValue_46 : decode cX3_readValue 46 = .ok (.invokevirtual 59, 3) := by decide +kernel
theorem dX3_readValue_49 : decode cX3_readValue 49 = .ok (.return_, 1) := by decide +kernel
theorem dX3_readValue_50 : decode cX3_readValue 50 = .ok (.aload_n 0, 1) := by decide +kernel
theorem dX3_readValue_51 : decode cX3_readValue 51 = .ok (.getfield 15, 3) := by decide +kernel
theorem dX3_readValue_54 : decode cX3_readValue 54 = .ok (.iload_n 3, 1) := by decide +kernel
theorem dX3_readValue_55 : decode cX3_readValue 55 = .ok (.iload_n 2, 1) := by decide +kernel
theorem dX3_readValue_56 : decode cX3_readValue 56 = .ok (.invokevirtual 129, 3) := by decide +kernel
theorem dX3_readValue_59 : decode cX3_readValue 59 = .ok (.iconst (-1), 1) := by decide +kernel
theorem dX3_readValue_60 : decode cX3_readValue 60 = .ok (.if_icmp .eq 16, 3) := by decide +kernel
theorem dX3_readValue_63 : decode cX3_readValue 63 = .ok (.aload_n 0, 1) := by decide +kernel
theorem dX3_readValue_64 : decode cX3_readValue 64 = .ok (.getfield 9, 3) := by decide +kernel
theorem dX3_readValue_67 : decode cX3_readValue 67 = .ok (.bipush 35, 2) := by decide +kernel
theorem dX3_readValue_69 : decode cX3_readValue 69 = .ok (.invokevirtual 77, 3) := by decide +kernel
theorem dX3_readValue_72 : decode cX3_readValue 72 = .ok (.ifCond .ne 4, 3) := by decide +kernel
theorem dX3_readValue_75 : decode cX3_readValue 75 = .ok (.return_, 1) := by decide +kernel
theorem dX3_readValue_76 : decode cX3_readValue 76 = .ok (.aload_n 0, 1) := by decide +kernel
theorem dX3_readValue_77 : decode cX3_readValue 77 = .ok (.getfield 9, 3) := by decide +kernel
theorem dX3_readValue_80 : decode cX3_readValue 80 = .ok (.getfield 132, 3) := by decide +kernel
theorem dX3_readValue_83 : decode cX3_readValue 83 = .ok (.istore 4, 2) := by decide +kernel
theorem dX3_readValue_85 : decode cX3_readValue 85 = .ok (.aload_n 0, 1) := by decide +kernel
theorem dX3_readValue_86 : decode cX3_readValue 86 = .ok (.getfield 15, 3) := by decide +kernel
theorem dX3_readValue_89 : decode cX3_readValue 89 = .ok (.getfield 135, 3) := by decide +kernel
theorem dX3_readValue_92 : decode cX3_readValue 92 = .ok (.iload_n 1, 1) := by decide +kernel
theorem dX3_readValue_93 : decode cX3_readValue 93 = .ok (.iload_n 2, 1) := by decide +kernel
theorem dX3_readValue_94 : decode cX3_readValue 94 = .ok (.invokestatic 102, 3) := by decide +kernel
theorem dX3_readValue_97 : decode cX3_readValue 97 = .ok (.aload_n 0, 1) := by decide +kernel
theorem dX3_readValue_98 : decode cX3_readValue 98 = .ok (.getfield 9, 3) := by decide +kernel
theorem dX3_readValue_101 : decode cX3_readValue 101 = .ok (.getfield 70, 3) := by decide +kernel
theorem dX3_readValue_104 : decode cX3_readValue 104 = .ok (.iastore, 1) := by decide +kernel
theorem dX3_readValue_105 : decode cX3_readValue 105 = .ok (.aload_n 0, 1) := by decide +kernel
theorem dX3_readValue_106 : decode cX3_readValue 106 = .ok (.getfield 9, 3) := by decide +kernel
theorem dX3_readValue_109 : decode cX3_readValue 109 = .ok (.iconst 3, 1) := by decide +kernel
theorem dX3_readValue_110 : decode cX3_readValue 110 = .ok (.invokevirtual 77, 3) := by decide +kernel
theorem dX3_readValue_113 : decode cX3_readValue 113 = .ok (.ifCond .eq 18, 3) := by decide +kernel
theorem dX3_readValue_116 : decode cX3_readValue 116 = .ok (.aload_n 0, 1) := by decide +kernel
theorem dX3_readValue_117 : decode cX3_readValue 117 = .ok (.getfield 15, 3) := by decide +kernel
theorem dX3_readValue_120 : decode cX3_readValue 120 = .ok (.getfield 138, 3) := by decide +kernel
theorem dX3_readValue_123 : decode cX3_readValue 123 = .ok (.iload_n 1, 1) := by decide +kernel
theorem dX3_readValue_124 : decode cX3_readValue 124 = .ok (.iload_n 2, 1) := by decide +kernel
theorem dX3_readValue_125 : decode cX3_readValue 125 = .ok (.invokestatic 102, 3) := by decide +kernel
theorem dX3_readValue_128 : decode cX3_readValue 128 = .ok (.iload 4, 2) := by decide +kernel
theorem dX3_readValue_130 : decode cX3_readValue 130 = .ok (.iastore, 1) := by decide +kernel
theorem dX3_readValue_131 : decode cX3_readValue 131 = .ok (.return_, 1) := by decide +kernel
theorem dX3_joinLinks_0 : decode cX3_joinLinks 0 = .ok (.iconst 0, 1) := by decide +kernel
theorem dX3_joinLinks_1 : decode cX3_joinLinks 1 = .ok (.istore_n 1, 1) := by decide +kernel
theorem dX3_joinLinks_2 : decode cX3_joinLinks 2 = .ok (.iload_n 1, 1) := by decide +kernel
theorem dX3_joinLinks_3 : decode cX3_joinLinks 3 = .ok (.aload_n 0, 1) := by decide +kernel
theorem dX3_joinLinks_4 : decode cX3_joinLinks 4 = .ok (.getfield 15, 3) := by decide +kernel
theorem dX3_joinLinks_7 : decode cX3_joinLinks 7 = .ok (.getfield 44, 3) := by decide +kernel
theorem dX3_joinLinks_10 : decode cX3_joinLinks 10 = .ok (.if_icmp .ge 83, 3) := by decide +kernel
theorem dX3_joinLinks_13 : decode cX3_joinLinks 13 = .ok (.aload_n 0, 1) := by decide +kernel
theorem dX3_joinLinks_14 : decode cX3_joinLinks 14 = .ok (.getfield 15, 3) := by decide +kernel
theorem dX3_joinLinks_17 : decode cX3_joinLinks 17 = .ok (.getfield 116, 3) := by decide +kernel
theorem dX3_joinLinks_20 : decode cX3_joinLinks 20 = .ok (.iload_n 1, 1) := by decide +kernel
theorem dX3_joinLinks_21 : decode cX3_joinLinks 21 = .ok (.iaload, 1) := by decide +kernel
theorem dX3_joinLinks_22 : decode cX3_joinLinks 22 = .ok (.istore_n 2, 1) := by decide +kernel
theorem dX3_joinLinks_23 : decode cX3_joinLinks 23 = .ok (.iconst 0, 1) := by decide +kernel
theorem dX3_joinLinks_24 : decode cX3_joinLinks 24 = .ok (.istore_n 3, 1) := by decide +kernel
theorem dX3_joinLinks_25 : decode cX3_joinLinks 25 = .ok (.iload_n 3, 1) := by decide +kernel
theorem dX3_joinLinks_26 : decode cX3_joinLinks 26 = .ok (.iconst 5, 1) := by decide +kernel
theorem dX3_joinLinks_27 : decode cX3_joinLinks 27 = .ok (.if_icmp .ge 60, 3) := by decide +kernel
theorem dX3_joinLinks_30 : decode cX3_joinLinks 30 = .ok (.aload_n 0, 1) := by decide +kernel
theorem dX3_joinLinks_31 : decode cX3_joinLinks 31 = .ok (.getfield 15, 3) := by decide +kernel
theorem dX3_joinLinks_34 : decode cX3_joinLinks 34 = .ok (.iload_n 2, 1) := by decide +kernel
theorem dX3_joinLinks_35 : decode cX3_joinLinks 35 = .ok (.iload_n 3, 1) := by decide +kernel
theorem dX3_joinLinks_36 : decode cX3_joinLinks 36 = .ok (.invokevirtual 129, 3) := by decide +kernel
theorem dX3_joinLinks_39 : decode cX3_joinLinks 39 = .ok (.istore 4, 2) := by decide +kernel
theorem dX3_joinLinks_41 : decode cX3_joinLinks 41 = .ok (.aload_n 0, 1) := by decide +kernel
theorem dX3_joinLinks_42 : decode cX3_joinLinks 42 = .ok (.getfield 15, 3) := by decide +kernel
theorem dX3_joinLinks_45 : decode cX3_joinLinks 45 = .ok (.iload_n 1, 1) := by decide +kernel
theorem dX3_joinLinks_46 : decode cX3_joinLinks 46 = .ok (.iload_n 3, 1) := by decide +kernel
theorem dX3_joinLinks_47 : decode cX3_joinLinks 47 = .ok (.invokevirtual 141, 3) := by decide +kernel
theorem dX3_joinLinks_50 : decode cX3_joinLinks 50 = .ok (.istore 5, 2) := by decide +kernel
theorem dX3_joinLinks_52 : decode cX3_joinLinks 52 = .ok (.iload 4, 2) := by decide +kernel
theorem dX3_joinLinks_54 : decode cX3_joinLinks 54 = .ok (.iconst (-1), 1) := by decide +kernel
theorem dX3_joinLinks_55 : decode cX3_joinLinks 55 = .ok (.if_icmp .eq 26, 3) := by decide +kernel
theorem dX3_joinLinks_58 : decode cX3_joinLinks 58 = .ok (.iload 5, 2) := by decide +kernel
theorem dX3_joinLinks_60 : decode cX3_joinLinks 60 = .ok (.iconst (-1), 1) := by decide +kernel
theorem dX3_joinLinks_61 : decode cX3_joinLinks 61 = .ok (.if_icmp .eq 20, 3) := by decide +kernel
theorem dX3_joinLinks_64 : decode cX3_joinLinks 64 = .ok (.aload_n 0, 1) := by decide +kernel
theorem dX3_joinLinks_65 : decode cX3_joinLinks 65 = .ok (.iload_n 1, 1) := by decide +kernel
theorem dX3_joinLinks_66 : decode cX3_joinLinks 66 = .ok (.iload_n 3, 1) := by decide +kernel
theorem dX3_joinLinks_67 : decode cX3_joinLinks 67 = .ok (.aload_n 0, 1) := by decide +kernel
theorem dX3_joinLinks_68 : decode cX3_joinLinks 68 = .ok (.getfield 15, 3) := by decide +kernel
theorem dX3_joinLinks_71 : decode cX3_joinLinks 71 = .ok (.iload 4, 2) := by decide +kernel
theorem dX3_joinLinks_73 : decode cX3_joinLinks 73 = .ok (.iload 5, 2) := by decide +kernel
theorem dX3_joinLinks_75 : decode cX3_joinLinks 75 = .ok (.invokevirtual 144, 3) := by decide +kernel
theorem dX3_joinLinks_78 : decode cX3_joinLinks 78 = .ok (.invokevirtual 147, 3) := by decide +kernel
theorem dX3_joinLinks_81 : decode cX3_joinLinks 81 = .ok (.iinc 3 1, 3) := by decide +kernel
theorem dX3_joinLinks_84 : decode cX3_joinLinks 84 = .ok (.goto (-59), 3) := by decide +kernel
theorem dX3_joinLinks_87 : decode cX3_joinLinks 87 = .ok (.iinc 1 1, 3) := by decide +kernel
theorem dX3_joinLinks_90 : decode cX3_joinLinks 90 = .ok (.goto (-88), 3) := by decide +kernel
theorem dX3_joinLinks_93 : decode cX3_joinLinks 93 = .ok (.return_, 1) := by decide +kernel
theorem dX3_joinLink_0 : decode cX3_joinLink 0 = .ok (.iload_n 3, 1) := by decide +kernel
theorem dX3_joinLink_1 : decode cX3_joinLink 1 = .ok (.iconst (-1), 1) := by decide +kernel
theorem dX3_joinLink_2 : decode cX3_joinLink 2 = .ok (.if_icmp .ne 27, 3) := by decide +kernel
theorem dX3_joinLink_5 : decode cX3_joinLink 5 = .ok (.aload_n 0, 1) := by decide +kernel
theorem dX3_joinLink_6 : decode cX3_joinLink 6 = .ok (.getfield 9, 3) := by decide +kernel
theorem dX3_joinLink_9 : decode cX3_joinLink 9 = .ok (.iconst 5, 1) := by decide +kernel
theorem dX3_joinLink_10 : decode cX3_joinLink 10 = .ok (.aload_n 0, 1) := by decide +kernel
theorem dX3_joinLink_11 : decode cX3_joinLink 11 = .ok (.getfield 15, 3) := by decide +kernel
theorem dX3_joinLink_14 : decode cX3_joinLink 14 = .ok (.getfield 135, 3) := by decide +kernel
theorem dX3_joinLink_17 : decode cX3_joinLink 17 = .ok (.iload_n 1, 1) := by decide +kernel
theorem dX3_joinLink_18 : decode cX3_joinLink 18 = .ok (.iload_n 2, 1) := by decide +kernel
theorem dX3_joinLink_19 : decode cX3_joinLink 19 = .ok (.invokestatic 102, 3) := by decide +kernel
theorem dX3_joinLink_22 : decode cX3_joinLink 22 = .ok (.iaload, 1) := by decide +kernel
theorem dX3_joinLink_23 : decode cX3_joinLink 23 = .ok (.invokevirtual 73, 3) := by decide +kernel
theorem dX3_joinLink_26 : decode cX3_joinLink 26 = .ok (.goto 17, 3) := by decide +kernel
theorem dX3_joinLink_29 : decode cX3_joinLink 29 = .ok (.aload_n 0, 1) := by decide +kernel
theorem dX3_joinLink_30 : decode cX3_joinLink 30 = .ok (.getfield 15, 3) := by decide +kernel
theorem dX3_joinLink_33 : decode cX3_joinLink 33 = .ok (.getfield 138, 3) := by decide +kernel
theorem dX3_joinLink_36 : decode cX3_joinLink 36 = .ok (.iload_n 1, 1) := by decide +kernel
theorem dX3_joinLink_37 : decode cX3_joinLink 37 = .ok (.iload_n 2, 1) := by decide +kernel
theorem dX3_joinLink_38 : decode cX3_joinLink 38 = .ok (.invokestatic 102, 3) := by decide +kernel
theorem dX3_joinLink_41 : decode cX3_joinLink 41 = .ok (.iload_n 3, 1) := by decide +kernel
theorem dX3_joinLink_42 : decode cX3_joinLink 42 = .ok (.iastore, 1) := by decide +kernel
theorem dX3_joinLink_43 : decode cX3_joinLink 43 = .ok (.return_, 1) := by decide +kernel
theorem dX4_init_0 : decode cX4_init 0 = .ok (.aload_n 0, 1) := by decide +kernel
theorem dX4_init_1 : decode cX4_init 1 = .ok (.invokespecial 3, 3) := by decide +kernel
theorem dX4_init_4 : decode cX4_init 4 = .ok (.aload_n 0, 1) := by decide +kernel
theorem dX4_init_5 : decode cX4_init 5 = .ok (.sipush 1200, 3) := by decide +kernel
theorem dX4_init_8 : decode cX4_init 8 = .ok (.newarray .byte, 2) := by decide +kernel
theorem dX4_init_10 : decode cX4_init 10 = .ok (.putfield 9, 3) := by decide +kernel
theorem dX4_init_13 : decode cX4_init 13 = .ok (.aload_n 0, 1) := by decide +kernel
theorem dX4_init_14 : decode cX4_init 14 = .ok (.bipush 11, 2) := by decide +kernel
theorem dX4_init_16 : decode cX4_init 16 = .ok (.newarray .long, 2) := by decide +kernel
theorem dX4_init_18 : decode cX4_init 18 = .ok (.putfield 15, 3) := by decide +kernel
theorem dX4_init_21 : decode cX4_init 21 = .ok (.aload_n 0, 1) := by decide +kernel
theorem dX4_init_22 : decode cX4_init 22 = .ok (.ldc 19, 2) := by decide +kernel
theorem dX4_init_24 : decode cX4_init 24 = .ok (.putfield 21, 3) := by decide +kernel
theorem dX4_init_27 : decode cX4_init 27 = .ok (.aload_n 0, 1) := by decide +kernel
theorem dX4_init_28 : decode cX4_init 28 = .ok (.iconst (-1), 1) := by decide +kernel
theorem dX4_init_29 : decode cX4_init 29 = .ok (.putfield 25, 3) := by decide +kernel
theorem dX4_init_32 : decode cX4_init 32 = .ok (.iconst 0, 1) := by decide +kernel
theorem dX4_init_33 : decode cX4_init 33 = .ok (.istore_n 1, 1) := by decide +kernel
theorem dX4_init_34 : decode cX4_init 34 = .ok (.iconst 0, 1) := by decide +kernel
theorem dX4_init_35 : decode cX4_init 35 = .ok (.istore_n 2, 1) := by decide +kernel
theorem dX4_init_36 : decode cX4_init 36 = .ok (.iload_n 2, 1) := by decide +kernel
theorem dX4_init_37 : decode cX4_init 37 = .ok (.ldc 29, 2) := by decide +kernel
theorem dX4_init_39 : decode cX4_init 39 = .ok (.invokevirtual 31, 3) := by decide +kernel
theorem dX4_init_42 : decode cX4_init 42 = .ok (.if_icmp .ge 58, 3) := by decide +kernel
theorem dX4_init_45 : decode cX4_init 45 = .ok (.iload_n 1, 1) := by decide +kernel
theorem dX4_init_46 : decode cX4_init 46 = .ok (.bipush 11, 2) := by decide +kernel
theorem dX4_init_48 : decode cX4_init 48 = .ok (.if_icmp .ge 52, 3) := by decide +kernel
theorem dX4_init_51 : decode cX4_init 51 = .ok (.ldc 29, 2) := by decide +kernel
theorem dX4_init_53 : decode cX4_init 53 = .ok (.iload_n 2, 1) := by decide +kernel
theorem dX4_init_54 : decode cX4_init 54 = .ok (.invokevirtual 37, 3) := by decide +kernel
theorem dX4_init_57 : decode cX4_init 57 = .ok (.istore_n 3, 1) := by decide +kernel
theorem dX4_init_58 : decode cX4_init 58 = .ok (.iload_n 3, 1) := by decide +kernel
theorem dX4_init_59 : decode cX4_init 59 = .ok (.bipush 32, 2) := by decide +kernel
theorem dX4_init_61 : decode cX4_init 61 = .ok (.if_icmp .ne 9, 3) := by decide +kernel
theorem dX4_init_64 : decode cX4_init 64 = .ok (.iinc 1 1, 3) := by decide +kernel
theorem dX4_init_67 : decode cX4_init 67 = .ok (.goto 27, 3) := by decide +kernel
theorem dX4_init_70 : decode cX4_init 70 = .ok (.aload_n 0, 1) := by decide +kernel
theorem dX4_init_71 : decode cX4_init 71 = .ok (.getfield 15, 3) := by decide +kernel
theorem dX4_init_74 : decode cX4_init 74 = .ok (.iload_n 1, 1) := by decide +kernel
theorem dX4_init_75 : decode cX4_init 75 = .ok (.aload_n 0, 1) := by decide +kernel
theorem dX4_init_76 : decode cX4_init 76 = .ok (.getfield 15, 3) := by decide +kernel
theorem dX4_init_79 : decode cX4_init 79 = .ok (.iload_n 1, 1) := by decide +kernel
theorem dX4_init_80 : decode cX4_init 80 = .ok (.laload, 1) := by decide +kernel
theorem dX4_init_81 : decode cX4_init 81 = .ok (.ldc2_w 41, 3) := by decide +kernel
theorem dX4_init_84 : decode cX4_init 84 = .ok (.lmul, 1) := by decide +kernel
theorem dX4_init_85 : decode cX4_init 85 = .ok (.iload_n 3, 1) := by decide +kernel
theorem dX4_init_86 : decode cX4_init 86 = .ok (.bipush 97, 2) := by decide +kernel
theorem dX4_init_88 : decode cX4_init 88 = .ok (.isub, 1) := by decide +kernel
theorem dX4_init_89 : decode cX4_init 89 = .ok (.iconst 1, 1) := by decide +kernel
theorem dX4_init_90 : decode cX4_init 90 = .ok (.iadd, 1) := by decide +kernel
theorem dX4_init_91 : decode cX4_init 91 = .ok (.i2l, 1) := by decide +kernel
theorem dX4_init_92 : decode cX4_init 92 = .ok (.ladd, 1) := by decide +kernel
theorem dX4_init_93 : decode cX4_init 93 = .ok (.lastore, 1) := by decide +kernel
theorem dX4_init_94 : decode cX4_init 94 = .ok (.iinc 2 1, 3) := by decide +kernel
theorem dX4_init_97 : decode cX4_init 97 = .ok (.goto (-61), 3) := by decide +kernel
theorem dX4_init_100 : decode cX4_init 100 = .ok (.return_, 1) := by decide +kernel
theorem dX4_append_0 : decode cX4_append 0 = .ok (.bipush 24, 2) := by decide +kernel
theorem dX4_append_2 : decode cX4_append 2 = .ok (.istore_n 2, 1) := by decide +kernel
theorem dX4_append_3 : decode cX4_append 3 = .ok (.iload_n 2, 1) := by decide +kernel
theorem dX4_append_4 : decode cX4_append 4 = .ok (.ifCond .lt 44, 3) := by decide +kernel
theorem dX4_append_7 : decode cX4_append 7 = .ok (.aload_n 0, 1) := by decide +kernel
theorem dX4_append_8 : decode cX4_append 8 = .ok (.getfield 43, 3) := by decide +kernel
theorem dX4_append_11 : decode cX4_append 11 = .ok (.aload_n 0, 1) := by decide +kernel
theorem dX4_append_12 : decode cX4_append 12 = .ok (.getfield 9, 3) := by decide +kernel
theorem dX4_append_15 : decode cX4_append 15 = .ok (.arraylength, 1) := by decide +kernel
theorem dX4_append_16 : decode cX4_append 16 = .ok (.if_icmp .ge 32, 3) := by decide +kernel
theorem dX4_append_19 : decode cX4_append 19 = .ok (.aload_n 0, 1) := by decide +kernel
theorem dX4_append_20 : decode cX4_append 20 = .ok (.getfield 9, 3) := by decide +kernel
theorem dX4_append_23 : decode cX4_append 23 = .ok (.aload_n 0, 1) := by decide +kernel
theorem dX4_append_24 : decode cX4_append 24 = .ok (.getfield 43, 3) := by decide +kernel
theorem dX4_append_27 : decode cX4_append 27 = .ok (.iload_n 1, 1) := by decide +kernel
theorem dX4_append_28 : decode cX4_append 28 = .ok (.iload_n 2, 1) := by decide +kernel
theorem dX4_append_29 : decode cX4_append 29 = .ok (.ishr, 1) := by decide +kernel
theorem dX4_append_30 : decode cX4_append 30 = .ok (.i2b, 1) := by decide +kernel
theorem dX4_append_31 : decode cX4_append 31 = .ok (.bastore, 1) := by decide +kernel
theorem dX4_append_32 : decode cX4_append 32 = .ok (.aload_n 0, 1) := by decide +kernel
theorem dX4_append_33 : decode cX4_append 33 = .ok (.dup, 1) := by decide +kernel
theorem dX4_append_34 : decode cX4_append 34 = .ok (.getfield 43, 3) := by decide +kernel
theorem dX4_append_37 : decode cX4_append 37 = .ok (.iconst 1, 1) := by decide +kernel
theorem dX4_append_38 : decode cX4_append 38 = .ok (.iadd, 1) := by decide +kernel
theorem dX4_append_39 : decode cX4_append 39 = .ok (.putfield 43, 3) := by decide +kernel
theorem dX4_append_42 : decode cX4_append 42 = .ok (.iinc 2 (-8), 3) := by decide +kernel
theorem dX4_append_45 : decode cX4_append 45 = .ok (.goto (-42), 3) := by decide +kernel
theorem dX4_append_48 : decode cX4_append 48 = .ok (.return_, 1) := by decide +kernel
theorem dX4_open_0 : decode cX4_open 0 = .ok (.aload_n 0, 1) := by decide +kernel
theorem dX4_open_1 : decode cX4_open 1 = .ok (.iload_n 1, 1) := by decide +kernel
theorem dX4_open_2 : decode cX4_open 2 = .ok (.ifCond .eq 8, 3) := by decide +kernel
theorem dX4_open_5 : decode cX4_open 5 = .ok (.ldc 45, 2) := by decide +kernel
theorem dX4_open_7 : decode cX4_open 7 = .ok (.goto 5, 3) := by decide +kernel
theorem dX4_open_10 : decode cX4_open 10 = .ok (.ldc 19, 2) := by decide +kernel
theorem dX4_open_12 : decode cX4_open 12 = .ok (.putfield 21, 3) := by decide +kernel
theorem dX4_open_15 : decode cX4_open 15 = .ok (.aload_n 0, 1) := by decide +kernel
theorem dX4_open_16 : decode cX4_open 16 = .ok (.iconst 0, 1) := by decide +kernel
theorem dX4_open_17 : decode cX4_open 17 = .ok (.putfield 47, 3) := by decide +kernel
theorem dX4_open_20 : decode cX4_open 20 = .ok (.aload_n 0, 1) := by decide +kernel
theorem dX4_open_21 : decode cX4_open 21 = .ok (.iconst (-1), 1) := by decide +kernel
theorem dX4_open_22 : decode cX4_open 22 = .ok (.putfield 25, 3) := by decide +kernel
theorem dX4_open_25 : decode cX4_open 25 = .ok (.aload_n 0, 1) := by decide +kernel
theorem dX4_open_26 : decode cX4_open 26 = .ok (.iconst 0, 1) := by decide +kernel
theorem dX4_open_27 : decode cX4_open 27 = .ok (.putfield 50, 3) := by decide +kernel
theorem dX4_open_30 : decode cX4_open 30 = .ok (.aload_n 0, 1) := by decide +kernel
theorem dX4_open_31 : decode cX4_open 31 = .ok (.invokevirtual 53, 3) := by decide +kernel
theorem dX4_open_34 : decode cX4_open 34 = .ok (.return_, 1) := by decide +kernel
theorem dX4_advance_0 : decode cX4_advance 0 = .ok (.aload_n 0, 1) := by decide +kernel
theorem dX4_advance_1 : decode cX4_advance 1 = .ok (.getfield 50, 3) := by decide +kernel
theorem dX4_advance_4 : decode cX4_advance 4 = .ok (.aload_n 0, 1) := by decide +kernel
theorem dX4_advance_5 : decode cX4_advance 5 = .ok (.getfield 43, 3) := by decide +kernel
theorem dX4_advance_8 : decode cX4_advance 8 = .ok (.if_icmp .ge 44, 3) := by decide +kernel
theorem dX4_advance_11 : decode cX4_advance 11 = .ok (.aload_n 0, 1) := by decide +kernel
theorem dX4_advance_12 : decode cX4_advance 12 = .ok (.getfield 9, 3) := by decide +kernel
theorem dX4_advance_15 : decode cX4_advance 15 = .ok (.aload_n 0, 1) := by decide +kernel
theorem dX4_advance_16 : decode cX4_advance 16 = .ok (.getfield 50, 3) := by decide +kernel
theorem dX4_advance_19 : decode cX4_advance 19 = .ok (.baload, 1) := by decide +kernel
theorem dX4_advance_20 : decode cX4_advance 20 = .ok (.bipush 32, 2) := by decide +kernel
theorem dX4_advance_22 : decode cX4_advance 22 = .ok (.if_icmp .eq 17, 3) := by decide +kernel
theorem dX4_advance_25 : decode cX4_advance 25 = .ok (.aload_n 0, 1) := by decide +kernel
theorem dX4_advance_26 : decode cX4_advance 26 = .ok (.getfield 9, 3) := by decide +kernel
theorem dX4_advance_29 : decode cX4_advance 29 = .ok (.aload_n 0, 1) := by decide +kernel
theorem dX4_advance_30 : decode cX4_advance 30 = .ok (.getfield 50, 3) := by decide +kernel
theorem dX4_advance_33 : decode cX4_advance 33 = .ok (.baload, 1) := by decide +kernel
theorem dX4_advance_34 : decode cX4_advance 34 = .ok (.bipush 10, 2) := by decide +kernel
theorem dX4_advance_36 : decode cX4_advance 36 = .ok (.if_icmp .ne 16, 3) := by decide +kernel
theorem dX4_advance_39 : decode cX4_advance 39 = .ok (.aload_n 0, 1) := by decide +kernel
theorem dX4_advance_40 : decode cX4_advance 40 = .ok (.dup, 1) := by decide +kernel
theorem dX4_advance_41 : decode cX4_advance 41 = .ok (.getfield 50, 3) := by decide +kernel
theorem dX4_advance_44 : decode cX4_advance 44 = .ok (.iconst 1, 1) := by decide +kernel
theorem dX4_advance_45 : decode cX4_advance 45 = .ok (.iadd, 1) := by decide +kernel
theorem dX4_advance_46 : decode cX4_advance 46 = .ok (.putfield 50, 3) := by decide +kernel
theorem dX4_advance_49 : decode cX4_advance 49 = .ok (.goto (-49), 3) := by decide +kernel
theorem dX4_advance_52 : decode cX4_advance 52 = .ok (.aload_n 0, 1) := by decide +kernel
theorem dX4_advance_53 : decode cX4_advance 53 = .ok (.aload_n 0, 1) := by decide +kernel
theorem dX4_advance_54 : decode cX4_advance 54 = .ok (.getfield 50, 3) := by decide +kernel
theorem dX4_advance_57 : decode cX4_advance 57 = .ok (.putfield 56, 3) := by decide +kernel
theorem dX4_advance_60 : decode cX4_advance 60 = .ok (.aload_n 0, 1) := by decide +kernel
theorem dX4_advance_61 : decode cX4_advance 61 = .ok (.getfield 50, 3) := by decide +kernel
theorem dX4_advance_64 : decode cX4_advance 64 = .ok (.aload_n 0, 1) := by decide +kernel
theorem dX4_advance_65 : decode cX4_advance 65 = .ok (.getfield 43, 3) := by decide +kernel
theorem dX4_advance_68 : decode cX4_advance 68 = .ok (.if_icmp .ge 19, 3) := by decide +kernel
theorem dX4_advance_71 : decode cX4_advance 71 = .ok (.aload_n 0, 1) := by decide +kernel
theorem dX4_advance_72 : decode cX4_advance 72 = .ok (.getfield 9, 3) := by decide +kernel
theorem dX4_advance_75 : decode cX4_advance 75 = .ok (.aload_n 0, 1) := by decide +kernel
theorem dX4_advance_76 : decode cX4_advance 76 = .ok (.getfield 50, 3) := by decide +kernel
theorem dX4_advance_79 : decode cX4_advance 79 = .ok (.baload, 1) := by decide +kernel
theorem dX4_advance_80 : decode cX4_advance 80 = .ok (.sipush 255, 3) := by decide +kernel
theorem dX4_advance_83 : decode cX4_advance 83 = .ok (.iand, 1) := by decide +kernel
theorem dX4_advance_84 : decode cX4_advance 84 = .ok (.goto 4, 3) := by decide +kernel
theorem dX4_advance_87 : decode cX4_advance 87 = .ok (.iconst (-1), 1) := by decide +kernel
theorem dX4_advance_88 : decode cX4_advance 88 = .ok (.istore_n 1, 1) := by decide +kernel
theorem dX4_advance_89 : decode cX4_advance 89 = .ok (.iload_n 1, 1) := by decide +kernel
theorem dX4_advance_90 : decode cX4_advance 90 = .ok (.iconst (-1), 1) := by decide +kernel
theorem dX4_advance_91 : decode cX4_advance 91 = .ok (.if_icmp .ne 11, 3) := by decide +kernel
theorem dX4_advance_94 : decode cX4_advance 94 = .ok (.aload_n 0, 1) := by decide +kernel
theorem dX4_advance_95 : decode cX4_advance 95 = .ok (.iconst 0, 1) := by decide +kernel
theorem dX4_advance_96 : decode cX4_advance 96 = .ok (.putfield 59, 3) := by decide +kernel
theorem dX4_advance_99 : decode cX4_advance 99 = .ok (.goto 72, 3) := by decide +kernel
theorem dX4_advance_102 : decode cX4_advance 102 = .ok (.iload_n 1, 1) := by decide +kernel
theorem dX4_advance_103 : decode cX4_advance 103 = .ok (.bipush 97, 2) := by decide +kernel
theorem dX4_advance_105 : decode cX4_advance 105 = .ok (.if_icmp .lt 16, 3) := by decide +kernel
theorem dX4_advance_108 : decode cX4_advance 108 = .ok (.iload_n 1, 1) := by decide +kernel
theorem dX4_advance_109 : decode cX4_advance 109 = .ok (.bipush 122, 2) := by decide +kernel
theorem dX4_advance_111 : decode cX4_advance 111 = .ok (.if_icmp .gt 10, 3) := by decide +kernel
theorem dX4_advance_114 : decode cX4_advance 114 = .ok (.aload_n 0, 1) := by decide +kernel
theorem dX4_advance_115 : decode cX4_advance 115 = .ok (.invokevirtual 62, 3) := by decide +kernel
theorem dX4_advance_118 : decode cX4_advance 118 = .ok (.goto 53, 3) := by decide +kernel
theorem dX4_advance_121 : decode cX4_advance 121 = .ok (.iload_n 1, 1) := by decide +kernel
theorem dX4_advance_122 : decode cX4_advance 122 = .ok (.bipush 48, 2) := by decide +kernel
theorem dX4_advance_124 : decode cX4_advance 124 = .ok (.if_icmp .lt 16, 3) := by decide +kernel
theorem dX4_advance_127 : decode cX4_advance 127 = .ok (.iload_n 1, 1) := by decide +kernel
theorem dX4_advance_128 : decode cX4_advance 128 = .ok (.bipush 57, 2) := by decide +kernel
theorem dX4_advance_130 : decode cX4_advance 130 = .ok (.if_icmp .gt 10, 3) := by decide +kernel
theorem dX4_advance_133 : decode cX4_advance 133 = .ok (.aload_n 0, 1) := by decide +kernel
theorem dX4_advance_134 : decode cX4_advance 134 = .ok (.invokevirtual 65, 3) := by decide +kernel
theorem dX4_advance_137 : decode cX4_advance 137 = .ok (.goto 34, 3) := by decide +kernel
theorem dX4_advance_140 : decode cX4_advance 140 = .ok (.aload_n 0, 1) := by decide +kernel
theorem dX4_advance_141 : decode cX4_advance 141 = .ok (.aload_n 0, 1) := by decide +kernel
theorem dX4_advance_142 : decode cX4_advance 142 = .ok (.getfield 21, 3) := by decide +kernel
theorem dX4_advance_145 : decode cX4_advance 145 = .ok (.iload_n 1, 1) := by decide +kernel
theorem dX4_advance_146 : decode cX4_advance 146 = .ok (.i2c, 1) := by decide +kernel
theorem dX4_advance_147 : decode cX4_advance 147 = .ok (.invokevirtual 68, 3) := by decide +kernel
theorem dX4_advance_150 : decode cX4_advance 150 = .ok (.ifCond .lt 7, 3) := by decide +kernel
theorem dX4_advance_153 : decode cX4_advance 153 = .ok (.iload_n 1, 1) := by decide +kernel
theorem dX4_advance_154 : decode cX4_advance 154 = .ok (.goto 4, 3) := by decide +kernel
theorem dX4_advance_157 : decode cX4_advance 157 = .ok (.iconst 1, 1) := by decide +kernel
theorem dX4_advance_158 : decode cX4_advance 158 = .ok (.putfield 59, 3) := by decide +kernel
theorem dX4_advance_161 : decode cX4_advance 161 = .ok (.aload_n 0, 1) := by decide +kernel
theorem dX4_advance_162 : decode cX4_advance 162 = .ok (.dup, 1) := by decide +kernel
theorem dX4_advance_163 : decode cX4_advance 163 = .ok (.getfield 50, 3) := by decide +kernel
theorem dX4_advance_166 : decode cX4_advance 166 = .ok (.iconst 1, 1) := by decide +kernel
theorem dX4_advance_167 : decode cX4_advance 167 = .ok (.iadd, 1) := by decide +kernel
theorem dX4_advance_168 : decode cX4_advance 168 = .ok (.putfield 50, 3) := by decide +kernel
theorem dX4_advance_171 : decode cX4_advance 171 = .ok (.return_, 1) := by decide +kernel
theorem dX4_refuse_0 : decode cX4_refuse 0 = .ok (.aload_n 0, 1) := by decide +kernel
theorem dX4_refuse_1 : decode cX4_refuse 1 = .ok (.getfield 47, 3) := by decide +kernel
theorem dX4_refuse_4 : decode cX4_refuse 4 = .ok (.ifCond .ne 13, 3) := by decide +kernel
theorem dX4_refuse_7 : decode cX4_refuse 7 = .ok (.aload_n 0, 1) := by decide +kernel
theorem dX4_refuse_8 : decode cX4_refuse 8 = .ok (.iload_n 1, 1) := by decide +kernel
theorem dX4_refuse_9 : decode cX4_refuse 9 = .ok (.putfield 47, 3) := by decide +kernel
theorem dX4_refuse_12 : decode cX4_refuse 12 = .ok (.aload_n 0, 1) := by decide +kernel
theorem dX4_refuse_13 : decode cX4_refuse 13 = .ok (.iload_n 2, 1) := by decide +kernel
theorem dX4_refuse_14 : decode cX4_refuse 14 = .ok (.putfield 25, 3) := by decide +kernel
theorem dX4_refuse_17 : decode cX4_refuse 17 = .ok (.return_, 1) := by decide +kernel
theorem dX4_refuseToken_0 : decode cX4_refuseToken 0 = .ok (.aload_n 0, 1) := by decide +kernel
theorem dX4_refuseToken_1 : decode cX4_refuseToken 1 = .ok (.aload_n 0, 1) := by decide +kernel
theorem dX4_refuseToken_2 : decode cX4_refuseToken 2 = .ok (.getfield 59, 3) := by decide +kernel
theorem dX4_refuseToken_5 : decode cX4_refuseToken 5 = .ok (.iconst 1, 1) := by decide +kernel
theorem dX4_refuseToken_6 : decode cX4_refuseToken 6 = .ok (.if_icmp .ne 7, 3) := by decide +kernel
theorem dX4_refuseToken_9 : decode cX4_refuseToken 9 = .ok (.iconst 1, 1) := by decide +kernel
theorem dX4_refuseToken_10 : decode cX4_refuseToken 10 = .ok (.goto 4, 3) := by decide +kernel
theorem dX4_refuseToken_13 : decode cX4_refuseToken 13 = .ok (.iconst 2, 1) := by decide +kernel
theorem dX4_refuseToken_14 : decode cX4_refuseToken 14 = .ok (.aload_n 0, 1) := by decide +kernel
theorem dX4_refuseToken_15 : decode cX4_refuseToken 15 = .ok (.getfield 56, 3) := by decide +kernel
theorem dX4_refuseToken_18 : decode cX4_refuseToken 18 = .ok (.invokevirtual 72, 3) := by decide +kernel
theorem dX4_refuseToken_21 : decode cX4_refuseToken 21 = .ok (.return_, 1) := by decide +kernel
theorem dX4_take_0 : decode cX4_take 0 = .ok (.aload_n 0, 1) := by decide +kernel
theorem dX4_take_1 : decode cX4_take 1 = .ok (.getfield 47, 3) := by decide +kernel
theorem dX4_take_4 : decode cX4_take 4 = .ok (.ifCond .eq 5, 3) := by decide +kernel
theorem dX4_take_7 : decode cX4_take 7 = .ok (.iconst 0, 1) := by decide +kernel
theorem dX4_take_8 : decode cX4_take 8 = .ok (.ireturn, 1) := by decide +kernel
theorem dX4_take_9 : decode cX4_take 9 = .ok (.aload_n 0, 1) := by decide +kernel
theorem dX4_take_10 : decode cX4_take 10 = .ok (.getfield 59, 3) := by decide +kernel
theorem dX4_take_13 : decode cX4_take 13 = .ok (.iload_n 1, 1) := by decide +kernel
theorem dX4_take_14 : decode cX4_take 14 = .ok (.if_icmp .eq 9, 3) := by decide +kernel
theorem dX4_take_17 : decode cX4_take 17 = .ok (.aload_n 0, 1) := by decide +kernel
theorem dX4_take_18 : decode cX4_take 18 = .ok (.invokevirtual 76, 3) := by decide +kernel
theorem dX4_take_21 : decode cX4_take 21 = .ok (.iconst 0, 1) := by decide +kernel
theorem dX4_take_22 : decode cX4_take 22 = .ok (.ireturn, 1) := by decide +kernel
theorem dX4_take_23 : decode cX4_take 23 = .ok (.aload_n 0, 1) := by decide +kernel
theorem dX4_take_24 : decode cX4_take 24 = .ok (.invokevirtual 53, 3) := by decide +kernel
theorem dX4_take_27 : decode cX4_take 27 = .ok (.iconst 1, 1) := by decide +kernel
theorem dX4_take_28 : decode cX4_take 28 = .ok (.ireturn, 1) := by decide +kernel
theorem dX4_takeTable_0 : decode cX4_takeTable 0 = .ok (.aload_n 0, 1) := by decide +kernel
theorem dX4_takeTable_1 : decode cX4_takeTable 1 = .ok (.getfield 59, 3) := by decide +kernel
theorem dX4_takeTable_4 : decode cX4_takeTable 4 = .ok (.iconst 2, 1) := by decide +kernel
theorem dX4_takeTable_5 : decode cX4_takeTable 5 = .ok (.if_icmp .eq 7, 3) := by decide +kernel
theorem dX4_takeTable_8 : decode cX4_takeTable 8 = .ok (.aload_n 0, 1) := by decide +kernel
theorem dX4_takeTable_9 : decode cX4_takeTable 9 = .ok (.invokevirtual 76, 3) := by decide +kernel
theorem dX4_takeTable_12 : decode cX4_takeTable 12 = .ok (.aload_n 1, 1) := by decide +kernel
theorem dX4_takeTable_13 : decode cX4_takeTable 13 = .ok (.aload_n 0, 1) := by decide +kernel
theorem dX4_takeTable_14 : decode cX4_takeTable 14 = .ok (.getfield 79, 3) := by decide +kernel
theorem dX4_takeTable_17 : decode cX4_takeTable 17 = .ok (.invokevirtual 83, 3) := by decide +kernel
theorem dX4_takeTable_20 : decode cX4_takeTable 20 = .ok (.istore_n 2, 1) := by decide +kernel
theorem dX4_takeTable_21 : decode cX4_takeTable 21 = .ok (.iload_n 2, 1) := by decide +kernel
theorem dX4_takeTable_22 : decode cX4_takeTable 22 = .ok (.iconst (-1), 1) := by decide +kernel
theorem dX4_takeTable_23 : decode cX4_takeTable 23 = .ok (.if_icmp .ne 12, 3) := by decide +kernel
theorem dX4_takeTable_26 : decode cX4_takeTable 26 = .ok (.aload_n 0, 1) := by decide +kernel
theorem dX4_takeTable_27 : decode cX4_takeTable 27 = .ok (.iconst 4, 1) := by decide +kernel
theorem dX4_takeTable_28 : decode cX4_takeTable 28 = .ok (.aload_n 0, 1) := by decide +kernel
theorem dX4_takeTable_29 : decode cX4_takeTable 29 = .ok (.getfield 56, 3) := by decide +kernel
theorem dX4_takeTable_32 : decode cX4_takeTable 32 = .ok (.invokevirtual 72, 3) := by decide +kernel
theorem dX4_takeTable_35 : decode cX4_takeTable 35 = .ok (.aload_n 0, 1) := by decide +kernel
theorem dX4_takeTable_36 : decode cX4_takeTable 36 = .ok (.getfield 47, 3) := by decide +kernel
theorem dX4_takeTable_39 : decode cX4_takeTable 39 = .ok (.ifCond .eq 5, 3) := by decide +kernel
theorem dX4_takeTable_42 : decode cX4_takeTable 42 = .ok (.iconst (-1), 1) := by decide +kernel
theorem dX4_takeTable_43 : decode cX4_takeTable 43 = .ok (.ireturn, 1) := by decide +kernel
theorem dX4_takeTable_44 : decode cX4_takeTable 44 = .ok (.aload_n 0, 1) := by decide +kernel
theorem dX4_takeTable_45 : decode cX4_takeTable 45 = .ok (.invokevirtual 53, 3) := by decide +kernel
theorem dX4_takeTable_48 : decode cX4_takeTable 48 = .ok (.iload_n 2, 1) := by decide +kernel
theorem dX4_takeTable_49 : decode cX4_takeTable 49 = .ok (.ireturn, 1) := by decide +kernel
theorem dX4_readWord_0 : decode cX4_readWord 0 = .ok (.aload_n 0, 1) := by decide +kernel
theorem dX4_readWord_1 : decode cX4_readWord 1 = .ok (.lconst 0, 1) := by decide +kernel
theorem dX4_readWord_2 : decode cX4_readWord 2 = .ok (.putfield 79, 3) := by decide +kernel
theorem dX4_readWord_5 : decode cX4_readWord 5 = .ok (.aload_n 0, 1) := by decide +kernel
theorem dX4_readWord_6 : decode cX4_readWord 6 = .ok (.getfield 50, 3) := by decide +kernel
theorem dX4_readWord_9 : decode cX4_readWord 9 = .ok (.aload_n 0, 1) := by decide +kernel
theorem dX4_readWord_10 : decode cX4_readWord 10 = .ok (.getfield 43, 3) := by decide +kernel
theorem dX4_readWord_13 : decode cX4_readWord 13 = .ok (.if_icmp .ge 72, 3) := by decide +kernel
theorem dX4_readWord_16 : decode cX4_readWord 16 = .ok (.aload_n 0, 1) := by decide +kernel
theorem dX4_readWord_17 : decode cX4_readWord 17 = .ok (.getfield 9, 3) := by decide +kernel
theorem dX4_readWord_20 : decode cX4_readWord 20 = .ok (.aload_n 0, 1) := by decide +kernel
theorem dX4_readWord_21 : decode cX4_readWord 21 = .ok (.getfield 50, 3) := by decide +kernel
theorem dX4_readWord_24 : decode cX4_readWord 24 = .ok (.baload, 1) := by decide +kernel
theorem dX4_readWord_25 : decode cX4_readWord 25 = .ok (.bipush 97, 2) := by decide +kernel
theorem dX4_readWord_27 : decode cX4_readWord 27 = .ok (.if_icmp .lt 58, 3) := by decide +kernel
theorem dX4_readWord_30 : decode cX4_readWord 30 = .ok (.aload_n 0, 1) := by decide +kernel
theorem dX4_readWord_31 : decode cX4_readWord 31 = .ok (.getfield 9, 3) := by decide +kernel
theorem dX4_readWord_34 : decode cX4_readWord 34 = .ok (.aload_n 0, 1) := by decide +kernel
theorem dX4_readWord_35 : decode cX4_readWord 35 = .ok (.getfield 50, 3) := by decide +kernel
theorem dX4_readWord_38 : decode cX4_readWord 38 = .ok (.baload, 1) := by decide +kernel
theorem dX4_readWord_39 : decode cX4_readWord 39 = .ok (.bipush 122, 2) := by decide +kernel
theorem dX4_readWord_41 : decode cX4_readWord 41 = .ok (.if_icmp .gt 44, 3) := by decide +kernel
theorem dX4_readWord_44 : decode cX4_readWord 44 = .ok (.aload_n 0, 1) := by decide +kernel
theorem dX4_readWord_45 : decode cX4_readWord 45 = .ok (.aload_n 0, 1) := by decide +kernel
theorem dX4_readWord_46 : decode cX4_readWord 46 = .ok (.getfield 79, 3) := by decide +kernel
theorem dX4_readWord_49 : decode cX4_readWord 49 = .ok (.ldc2_w 41, 3) := by decide +kernel
theorem dX4_readWord_52 : decode cX4_readWord 52 = .ok (.lmul, 1) := by decide +kernel
theorem dX4_readWord_53 : decode cX4_readWord 53 = .ok (.aload_n 0, 1) := by decide +kernel
theorem dX4_readWord_54 : decode cX4_readWord 54 = .ok (.getfield 9, 3) := by decide +kernel
theorem dX4_readWord_57 : decode cX4_readWord 57 = .ok (.aload_n 0, 1) := by decide +kernel
theorem dX4_readWord_58 : decode cX4_readWord 58 = .ok (.getfield 50, 3) := by decide +kernel
theorem dX4_readWord_61 : decode cX4_readWord 61 = .ok (.baload, 1) := by decide +kernel
theorem dX4_readWord_62 : decode cX4_readWord 62 = .ok (.bipush 97, 2) := by decide +kernel
theorem dX4_readWord_64 : decode cX4_readWord 64 = .ok (.isub, 1) := by decide +kernel
theorem dX4_readWord_65 : decode cX4_readWord 65 = .ok (.iconst 1, 1) := by decide +kernel
theorem dX4_readWord_66 : decode cX4_readWord 66 = .ok (.iadd, 1) := by decide +kernel
theorem dX4_readWord_67 : decode cX4_readWord 67 = .ok (.i2l, 1) := by decide +kernel
theorem dX4_readWord_68 : decode cX4_readWord 68 = .ok (.ladd, 1) := by decide +kernel
theorem dX4_readWord_69 : decode cX4_readWord 69 = .ok (.putfield 79, 3) := by decide +kernel
theorem dX4_readWord_72 : decode cX4_readWord 72 = .ok (.aload_n 0, 1) := by decide +kernel
theorem dX4_readWord_73 : decode cX4_readWord 73 = .ok (.dup, 1) := by decide +kernel
theorem dX4_readWord_74 : decode cX4_readWord 74 = .ok (.getfield 50, 3) := by decide +kernel
theorem dX4_readWord_77 : decode cX4_readWord 77 = .ok (.iconst 1, 1) := by decide +kernel
theorem dX4_readWord_78 : decode cX4_readWord 78 = .ok (.iadd, 1) := by decide +kernel
theorem dX4_readWord_79 : decode cX4_readWord 79 = .ok (.putfield 50, 3) := by decide +kernel
theorem dX4_readWord_82 : decode cX4_readWord 82 = .ok (.goto (-77), 3) := by decide +kernel
theorem dX4_readWord_85 : decode cX4_readWord 85 = .ok (.aload_n 0, 1) := by decide +kernel
theorem dX4_readWord_86 : decode cX4_readWord 86 = .ok (.aload_n 0, 1) := by decide +kernel
theorem dX4_readWord_87 : decode cX4_readWord 87 = .ok (.getfield 50, 3) := by decide +kernel
theorem dX4_readWord_90 : decode cX4_readWord 90 = .ok (.aload_n 0, 1) := by decide +kernel
theorem dX4_readWord_91 : decode cX4_readWord 91 = .ok (.getfield 56, 3) := by decide +kernel
theorem dX4_readWord_94 : decode cX4_readWord 94 = .ok (.isub, 1) := by decide +kernel
theorem dX4_readWord_95 : decode cX4_readWord 95 = .ok (.bipush 8, 2) := by decide +kernel
theorem dX4_readWord_97 : decode cX4_readWord 97 = .ok (.if_icmp .le 7, 3) := by decide +kernel
theorem dX4_readWord_100 : decode cX4_readWord 100 = .ok (.iconst 1, 1) := by decide +kernel
theorem dX4_readWord_101 : decode cX4_readWord 101 = .ok (.goto 4, 3) := by decide +kernel
theorem dX4_readWord_104 : decode cX4_readWord 104 = .ok (.iconst 2, 1) := by decide +kernel
theorem dX4_readWord_105 : decode cX4_readWord 105 = .ok (.putfield 59, 3) := by decide +kernel
theorem dX4_readWord_108 : decode cX4_readWord 108 = .ok (.iconst 0, 1) := by decide +kernel
theorem dX4_readWord_109 : decode cX4_readWord 109 = .ok (.istore_n 1, 1) := by decide +kernel
theorem dX4_readWord_110 : decode cX4_readWord 110 = .ok (.iload_n 1, 1) := by decide +kernel
theorem dX4_readWord_111 : decode cX4_readWord 111 = .ok (.aload_n 0, 1) := by decide +kernel
theorem dX4_readWord_112 : decode cX4_readWord 112 = .ok (.getfield 15, 3) := by decide +kernel
theorem dX4_readWord_115 : decode cX4_readWord 115 = .ok (.arraylength, 1) := by decide +kernel
theorem dX4_readWord_116 : decode cX4_readWord 116 = .ok (.if_icmp .ge 38, 3) := by decide +kernel
theorem dX4_readWord_119 : decode cX4_readWord 119 = .ok (.aload_n 0, 1) := by decide +kernel
theorem dX4_readWord_120 : decode cX4_readWord 120 = .ok (.getfield 59, 3) := by decide +kernel
theorem dX4_readWord_123 : decode cX4_readWord 123 = .ok (.iconst 2, 1) := by decide +kernel
theorem dX4_readWord_124 : decode cX4_readWord 124 = .ok (.if_icmp .ne 24, 3) := by decide +kernel
theorem dX4_readWord_127 : decode cX4_readWord 127 = .ok (.aload_n 0, 1) := by decide +kernel
theorem dX4_readWord_128 : decode cX4_readWord 128 = .ok (.getfield 15, 3) := by decide +kernel
theorem dX4_readWord_131 : decode cX4_readWord 131 = .ok (.iload_n 1, 1) := by decide +kernel
theorem dX4_readWord_132 : decode cX4_readWord 132 = .ok (.laload, 1) := by decide +kernel
theorem dX4_readWord_133 : decode cX4_readWord 133 = .ok (.aload_n 0, 1) := by decide +kernel
theorem dX4_readWord_134 : decode cX4_readWord 134 = .ok (.getfield 79, 3) := by decide +kernel
theorem dX4_readWord_137 : decode cX4_readWord 137 = .ok (.lcmp, 1) := by decide +kernel
theorem dX4_readWord_138 : decode cX4_readWord 138 = .ok (.ifCond .ne 10, 3) := by decide +kernel
theorem dX4_readWord_141 : decode cX4_readWord 141 = .ok (.aload_n 0, 1) := by decide +kernel
theorem dX4_readWord_142 : decode cX4_readWord 142 = .ok (.iconst 4, 1) := by decide +kernel
theorem dX4_readWord_143 : decode cX4_readWord 143 = .ok (.iload_n 1, 1) := by decide +kernel
theorem dX4_readWord_144 : decode cX4_readWord 144 = .ok (.iadd, 1) := by decide +kernel
theorem dX4_readWord_145 : decode cX4_readWord 145 = .ok (.putfield 59, 3) := by decide +kernel
theorem dX4_readWord_148 : decode cX4_readWord 148 = .ok (.iinc 1 1, 3) := by decide +kernel
theorem dX4_readWord_151 : decode cX4_readWord 151 = .ok (.goto (-41), 3) := by decide +kernel
theorem dX4_readWord_154 : decode cX4_readWord 154 = .ok (.return_, 1) := by decide +kernel
theorem dX4_readNumber_0 : decode cX4_readNumber 0 = .ok (.aload_n 0, 1) := by decide +kernel
theorem dX4_readNumber_1 : decode cX4_readNumber 1 = .ok (.iconst 0, 1) := by decide +kernel
theorem dX4_readNumber_2 : decode cX4_readNumber 2 = .ok (.putfield 89, 3) := by decide +kernel
theorem dX4_readNumber_5 : decode cX4_readNumber 5 = .ok (.aload_n 0, 1) := by decide +kernel
theorem dX4_readNumber_6 : decode cX4_readNumber 6 = .ok (.getfield 50, 3) := by decide +kernel
theorem dX4_readNumber_9 : decode cX4_readNumber 9 = .ok (.aload_n 0, 1) := by decide +kernel
theorem dX4_readNumber_10 : decode cX4_readNumber 10 = .ok (.getfield 43, 3) := by decide +kernel
theorem dX4_readNumber_13 : decode cX4_readNumber 13 = .ok (.if_icmp .ge 68, 3) := by decide +kernel
theorem dX4_readNumber_16 : decode cX4_readNumber 16 = .ok (.aload_n 0, 1) := by decide +kernel
theorem dX4_readNumber_17 : decode cX4_readNumber 17 = .ok (.getfield 9, 3) := by decide +kernel
theorem dX4_readNumber_20 : decode cX4_readNumber 20 = .ok (.aload_n 0, 1) := by decide +kernel
theorem dX4_readNumber_21 : decode cX4_readNumber 21 = .ok (.getfield 50, 3) := by decide +kernel
theorem dX4_readNumber_24 : decode cX4_readNumber 24 = .ok (.baload, 1) := by decide +kernel
theorem dX4_readNumber_25 : decode cX4_readNumber 25 = .ok (.bipush 48, 2) := by decide +kernel
theorem dX4_readNumber_27 : decode cX4_readNumber 27 = .ok (.if_icmp .lt 54, 3) := by decide +kernel
theorem dX4_readNumber_30 : decode cX4_readNumber 30 = .ok (.aload_n 0, 1) := by decide +kernel
theorem dX4_readNumber_31 : decode cX4_readNumber 31 = .ok (.getfield 9, 3) := by decide +kernel
theorem dX4_readNumber_34 : decode cX4_readNumber 34 = .ok (.aload_n 0, 1) := by decide +kernel
theorem dX4_readNumber_35 : decode cX4_readNumber 35 = .ok (.getfield 50, 3) := by decide +kernel
theorem dX4_readNumber_38 : decode cX4_readNumber 38 = .ok (.baload, 1) := by decide +kernel
theorem dX4_readNumber_39 : decode cX4_readNumber 39 = .ok (.bipush 57, 2) := by decide +kernel
theorem dX4_readNumber_41 : decode cX4_readNumber 41 = .ok (.if_icmp .gt 40, 3) := by decide +kernel
theorem dX4_readNumber_44 : decode cX4_readNumber 44 = .ok (.aload_n 0, 1) := by decide +kernel
theorem dX4_readNumber_45 : decode cX4_readNumber 45 = .ok (.aload_n 0, 1) := by decide +kernel
theorem dX4_readNumber_46 : decode cX4_readNumber 46 = .ok (.getfield 89, 3) := by decide +kernel
theorem dX4_readNumber_49 : decode cX4_readNumber 49 = .ok (.bipush 10, 2) := by decide +kernel
theorem dX4_readNumber_51 : decode cX4_readNumber 51 = .ok (.imul, 1) := by decide +kernel
theorem dX4_readNumber_52 : decode cX4_readNumber 52 = .ok (.aload_n 0, 1) := by decide +kernel
theorem dX4_readNumber_53 : decode cX4_readNumber 53 = .ok (.getfield 9, 3) := by decide +kernel
theorem dX4_readNumber_56 : decode cX4_readNumber 56 = .ok (.aload_n 0, 1) := by decide +kernel
theorem dX4_readNumber_57 : decode cX4_readNumber 57 = .ok (.getfield 50, 3) := by decide +kernel
theorem dX4_readNumber_60 : decode cX4_readNumber 60 = .ok (.baload, 1) := by decide +kernel
theorem dX4_readNumber_61 : decode cX4_readNumber 61 = .ok (.bipush 48, 2) := by decide +kernel
theorem dX4_readNumber_63 : decode cX4_readNumber 63 = .ok (.isub, 1) := by decide +kernel
theorem dX4_readNumber_64 : decode cX4_readNumber 64 = .ok (.iadd, 1) := by decide +kernel
theorem dX4_readNumber_65 : decode cX4_readNumber 65 = .ok (.putfield 89, 3) := by decide +kernel
theorem dX4_readNumber_68 : decode cX4_readNumber 68 = .ok (.aload_n 0, 1) := by decide +kernel
theorem dX4_readNumber_69 : decode cX4_readNumber 69 = .ok (.dup, 1) := by decide +kernel
theorem dX4_readNumber_70 : decode cX4_readNumber 70 = .ok (.getfield 50, 3) := by decide +kernel
theorem dX4_readNumber_73 : decode cX4_readNumber 73 = .ok (.iconst 1, 1) := by decide +kernel
theorem dX4_readNumber_74 : decode cX4_readNumber 74 = .ok (.iadd, 1) := by decide +kernel
theorem dX4_readNumber_75 : decode cX4_readNumber 75 = .ok (.putfield 50, 3) := by decide +kernel
theorem dX4_readNumber_78 : decode cX4_readNumber 78 = .ok (.goto (-73), 3) := by decide +kernel
theorem dX4_readNumber_81 : decode cX4_readNumber 81 = .ok (.aload_n 0, 1) := by decide +kernel
theorem dX4_readNumber_82 : decode cX4_readNumber 82 = .ok (.getfield 50, 3) := by decide +kernel
theorem dX4_readNumber_85 : decode cX4_readNumber 85 = .ok (.aload_n 0, 1) := by decide +kernel
theorem dX4_readNumber_86 : decode cX4_readNumber 86 = .ok (.getfield 43, 3) := by decide +kernel
theorem dX4_readNumber_89 : decode cX4_readNumber 89 = .ok (.if_icmp .ge 35, 3) := by decide +kernel
theorem dX4_readNumber_92 : decode cX4_readNumber 92 = .ok (.aload_n 0, 1) := by decide +kernel
theorem dX4_readNumber_93 : decode cX4_readNumber 93 = .ok (.getfield 9, 3) := by decide +kernel
theorem dX4_readNumber_96 : decode cX4_readNumber 96 = .ok (.aload_n 0, 1) := by decide +kernel
theorem dX4_readNumber_97 : decode cX4_readNumber 97 = .ok (.getfield 50, 3) := by decide +kernel
theorem dX4_readNumber_100 : decode cX4_readNumber 100 = .ok (.baload, 1) := by decide +kernel
theorem dX4_readNumber_101 : decode cX4_readNumber 101 = .ok (.bipush 97, 2) := by decide +kernel
theorem dX4_readNumber_103 : decode cX4_readNumber 103 = .ok (.if_icmp .lt 21, 3) := by decide +kernel
theorem dX4_readNumber_106 : decode cX4_readNumber 106 = .ok (.aload_n 0, 1) := by decide +kernel
theorem dX4_readNumber_107 : decode cX4_readNumber 107 = .ok (.getfield 9, 3) := by decide +kernel
theorem dX4_readNumber_110 : decode cX4_readNumber 110 = .ok (.aload_n 0, 1) := by decide +kernel
theorem dX4_readNumber_111 : decode cX4_readNumber 111 = .ok (.getfield 50, 3) := by decide +kernel
theorem dX4_readNumber_114 : decode cX4_readNumber 114 = .ok (.baload, 1) := by decide +kernel
theorem dX4_readNumber_115 : decode cX4_readNumber 115 = .ok (.bipush 122, 2) := by decide +kernel
theorem dX4_readNumber_117 : decode cX4_readNumber 117 = .ok (.if_icmp .gt 7, 3) := by decide +kernel
theorem dX4_readNumber_120 : decode cX4_readNumber 120 = .ok (.iconst 1, 1) := by decide +kernel
theorem dX4_readNumber_121 : decode cX4_readNumber 121 = .ok (.goto 4, 3) := by decide +kernel
theorem dX4_readNumber_124 : decode cX4_readNumber 124 = .ok (.iconst 0, 1) := by decide +kernel
theorem dX4_readNumber_125 : decode cX4_readNumber 125 = .ok (.istore_n 1, 1) := by decide +kernel
theorem dX4_readNumber_126 : decode cX4_readNumber 126 = .ok (.aload_n 0, 1) := by decide +kernel
theorem dX4_readNumber_127 : decode cX4_readNumber 127 = .ok (.aload_n 0, 1) := by decide +kernel
theorem dX4_readNumber_128 : decode cX4_readNumber 128 = .ok (.getfield 50, 3) := by decide +kernel
theorem dX4_readNumber_131 : decode cX4_readNumber 131 = .ok (.aload_n 0, 1) := by decide +kernel
theorem dX4_readNumber_132 : decode cX4_readNumber 132 = .ok (.getfield 56, 3) := by decide +kernel
theorem dX4_readNumber_135 : decode cX4_readNumber 135 = .ok (.isub, 1) := by decide +kernel
theorem dX4_readNumber_136 : decode cX4_readNumber 136 = .ok (.bipush 6, 2) := by decide +kernel
theorem dX4_readNumber_138 : decode cX4_readNumber 138 = .ok (.if_icmp .gt 7, 3) := by decide +kernel
theorem dX4_readNumber_141 : decode cX4_readNumber 141 = .ok (.iload_n 1, 1) := by decide +kernel
theorem dX4_readNumber_142 : decode cX4_readNumber 142 = .ok (.ifCond .eq 7, 3) := by decide +kernel
theorem dX4_readNumber_145 : decode cX4_readNumber 145 = .ok (.iconst 1, 1) := by decide +kernel
theorem dX4_readNumber_146 : decode cX4_readNumber 146 = .ok (.goto 4, 3) := by decide +kernel
theorem dX4_readNumber_149 : decode cX4_readNumber 149 = .ok (.iconst 3, 1) := by decide +kernel
theorem dX4_readNumber_150 : decode cX4_readNumber 150 = .ok (.putfield 59, 3) := by decide +kernel
theorem dX4_readNumber_153 : decode cX4_readNumber 153 = .ok (.return_, 1) := by decide +kernel
theorem dX5_init_0 : decode cX5_init 0 = .ok (.aload_n 0, 1) := by decide +kernel
theorem dX5_init_1 : decode cX5_init 1 = .ok (.invokespecial 3, 3) := by decide +kernel
theorem dX5_init_4 : decode cX5_init 4 = .ok (.aload_n 0, 1) := by decide +kernel
theorem dX5_init_5 : decode cX5_init 5 = .ok (.aload_n 1, 1) := by decide +kernel
theorem dX5_init_6 : decode cX5_init 6 = .ok (.putfield 9, 3) := by decide +kernel
theorem dX5_init_9 : decode cX5_init 9 = .ok (.aload_n 0, 1) := by decide +kernel
theorem dX5_init_10 : decode cX5_init 10 = .ok (.aload_n 2, 1) := by decide +kernel
theorem dX5_init_11 : decode cX5_init 11 = .ok (.putfield 15, 3) := by decide +kernel
theorem dX5_init_14 : decode cX5_init 14 = .ok (.aload_n 0, 1) := by decide +kernel
theorem dX5_init_15 : decode cX5_init 15 = .ok (.aload_n 3, 1) := by decide +kernel
theorem dX5_init_16 : decode cX5_init 16 = .ok (.putfield 19, 3) := by decide +kernel
theorem dX5_init_19 : decode cX5_init 19 = .ok (.aload_n 0, 1) := by decide +kernel
theorem dX5_init_20 : decode cX5_init 20 = .ok (.iconst 4, 1) := by decide +kernel
theorem dX5_init_21 : decode cX5_init 21 = .ok (.newarray .int, 2) := by decide +kernel
theorem dX5_init_23 : decode cX5_init 23 = .ok (.putfield 23, 3) := by decide +kernel
theorem dX5_init_26 : decode cX5_init 26 = .ok (.return_, 1) := by decide +kernel
theorem dX5_readAll_0 : decode cX5_readAll 0 = .ok (.aload_n 0, 1) := by decide +kernel
theorem dX5_readAll_1 : decode cX5_readAll 1 = .ok (.getfield 19, 3) := by decide +kernel
theorem dX5_readAll_4 : decode cX5_readAll 4 = .ok (.invokevirtual 27, 3) := by decide +kernel
theorem dX5_readAll_7 : decode cX5_readAll 7 = .ok (.aload_n 0, 1) := by decide +kernel
theorem dX5_readAll_8 : decode cX5_readAll 8 = .ok (.getfield 9, 3) := by decide +kernel
theorem dX5_readAll_11 : decode cX5_readAll 11 = .ok (.iconst 1, 1) := by decide +kernel
theorem dX5_readAll_12 : decode cX5_readAll 12 = .ok (.invokevirtual 32, 3) := by decide +kernel
theorem dX5_readAll_15 : decode cX5_readAll 15 = .ok (.iconst 0, 1) := by decide +kernel
theorem dX5_readAll_16 : decode cX5_readAll 16 = .ok (.istore_n 1, 1) := by decide +kernel
theorem dX5_readAll_17 : decode cX5_readAll 17 = .ok (.iload_n 1, 1) := by decide +kernel
theorem dX5_readAll_18 : decode cX5_readAll 18 = .ok (.bipush 10, 2) := by decide +kernel
theorem dX5_readAll_20 : decode cX5_readAll 20 = .ok (.if_icmp .gt 86, 3) := by decide +kernel
theorem dX5_readAll_23 : decode cX5_readAll 23 = .ok (.aload_n 0, 1) := by decide +kernel
theorem dX5_readAll_24 : decode cX5_readAll 24 = .ok (.getfield 9, 3) := by decide +kernel
theorem dX5_readAll_27 : decode cX5_readAll 27 = .ok (.getfield 38, 3) := by decide +kernel
theorem dX5_readAll_30 : decode cX5_readAll 30 = .ok (.ifCond .ne 76, 3) := by decide +kernel
theorem dX5_readAll_33 : decode cX5_readAll 33 = .ok (.aload_n 0, 1) := by decide +kernel
theorem dX5_readAll_34 : decode cX5_readAll 34 = .ok (.getfield 9, 3) := by decide +kernel
theorem dX5_readAll_37 : decode cX5_readAll 37 = .ok (.getfield 42, 3) := by decide +kernel
theorem dX5_readAll_40 : decode cX5_readAll 40 = .ok (.ifCond .eq 66, 3) := by decide +kernel
theorem dX5_readAll_43 : decode cX5_readAll 43 = .ok (.aload_n 0, 1) := by decide +kernel
theorem dX5_readAll_44 : decode cX5_readAll 44 = .ok (.getfield 9, 3) := by decide +kernel
theorem dX5_readAll_47 : decode cX5_readAll 47 = .ok (.getfield 42, 3) := by decide +kernel
theorem dX5_readAll_50 : decode cX5_readAll 50 = .ok (.bipush 7, 2) := by decide +kernel
theorem dX5_readAll_52 : decode cX5_readAll 52 = .ok (.if_icmp .ne 16, 3) := by decide +kernel
theorem dX5_readAll_55 : decode cX5_readAll 55 = .ok (.iload_n 1, 1) := by decide +kernel
theorem dX5_readAll_56 : decode cX5_readAll 56 = .ok (.bipush 10, 2) := by decide +kernel
theorem dX5_readAll_58 : decode cX5_readAll 58 = .ok (.if_icmp .ge 10, 3) := by decide +kernel
theorem dX5_readAll_61 : decode cX5_readAll 61 = .ok (.aload_n 0, 1) := by decide +kernel
theorem dX5_readAll_62 : decode cX5_readAll 62 = .ok (.invokevirtual 45, 3) := by decide +kernel
theorem dX5_readAll_65 : decode cX5_readAll 65 = .ok (.goto 35, 3) := by decide +kernel
theorem dX5_readAll_68 : decode cX5_readAll 68 = .ok (.aload_n 0, 1) := by decide +kernel
theorem dX5_readAll_69 : decode cX5_readAll 69 = .ok (.getfield 9, 3) := by decide +kernel
theorem dX5_readAll_72 : decode cX5_readAll 72 = .ok (.getfield 42, 3) := by decide +kernel
theorem dX5_readAll_75 : decode cX5_readAll 75 = .ok (.bipush 8, 2) := by decide +kernel
theorem dX5_readAll_77 : decode cX5_readAll 77 = .ok (.if_icmp .ne 16, 3) := by decide +kernel
theorem dX5_readAll_80 : decode cX5_readAll 80 = .ok (.iload_n 1, 1) := by decide +kernel
theorem dX5_readAll_81 : decode cX5_readAll 81 = .ok (.bipush 10, 2) := by decide +kernel
theorem dX5_readAll_83 : decode cX5_readAll 83 = .ok (.if_icmp .ge 10, 3) := by decide +kernel
theorem dX5_readAll_86 : decode cX5_readAll 86 = .ok (.aload_n 0, 1) := by decide +kernel
theorem dX5_readAll_87 : decode cX5_readAll 87 = .ok (.invokevirtual 48, 3) := by decide +kernel
theorem dX5_readAll_90 : decode cX5_readAll 90 = .ok (.goto 10, 3) := by decide +kernel
theorem dX5_readAll_93 : decode cX5_readAll 93 = .ok (.aload_n 0, 1) := by decide +kernel
theorem dX5_readAll_94 : decode cX5_readAll 94 = .ok (.getfield 9, 3) := by decide +kernel
theorem dX5_readAll_97 : decode cX5_readAll 97 = .ok (.invokevirtual 51, 3) := by decide +kernel
theorem dX5_readAll_100 : decode cX5_readAll 100 = .ok (.iinc 1 1, 3) := by decide +kernel
theorem dX5_readAll_103 : decode cX5_readAll 103 = .ok (.goto (-86), 3) := by decide +kernel
theorem dX5_readAll_106 : decode cX5_readAll 106 = .ok (.aload_n 0, 1) := by decide +kernel
theorem dX5_readAll_107 : decode cX5_readAll 107 = .ok (.getfield 9, 3) := by decide +kernel
theorem dX5_readAll_110 : decode cX5_readAll 110 = .ok (.getfield 38, 3) := by decide +kernel
theorem dX5_readAll_113 : decode cX5_readAll 113 = .ok (.ifCond .ne 7, 3) := by decide +kernel
theorem dX5_readAll_116 : decode cX5_readAll 116 = .ok (.iconst 1, 1) := by decide +kernel
theorem dX5_readAll_117 : decode cX5_readAll 117 = .ok (.goto 4, 3) := by decide +kernel
theorem dX5_readAll_120 : decode cX5_readAll 120 = .ok (.iconst 0, 1) := by decide +kernel
theorem dX5_readAll_121 : decode cX5_readAll 121 = .ok (.ireturn, 1) := by decide +kernel
theorem dX5_readWish_0 : decode cX5_readWish 0 = .ok (.aload_n 0, 1) := by decide +kernel
theorem dX5_readWish_1 : decode cX5_readWish 1 = .ok (.getfield 9, 3) := by decide +kernel
theorem dX5_readWish_4 : decode cX5_readWish 4 = .ok (.invokevirtual 54, 3) := by decide +kernel
theorem dX5_readWish_7 : decode cX5_readWish 7 = .ok (.aload_n 0, 1) := by decide +kernel
theorem dX5_readWish_8 : decode cX5_readWish 8 = .ok (.invokevirtual 57, 3) := by decide +kernel
theorem dX5_readWish_11 : decode cX5_readWish 11 = .ok (.istore_n 1, 1) := by decide +kernel
theorem dX5_readWish_12 : decode cX5_readWish 12 = .ok (.aload_n 0, 1) := by decide +kernel
theorem dX5_readWish_13 : decode cX5_readWish 13 = .ok (.aload_n 0, 1) := by decide +kernel
theorem dX5_readWish_14 : decode cX5_readWish 14 = .ok (.getfield 9, 3) := by decide +kernel
theorem dX5_readWish_17 : decode cX5_readWish 17 = .ok (.aload_n 0, 1) := by decide +kernel
theorem dX5_readWish_18 : decode cX5_readWish 18 = .ok (.getfield 15, 3) := by decide +kernel
theorem dX5_readWish_21 : decode cX5_readWish 21 = .ok (.invokevirtual 61, 3) := by decide +kernel
theorem dX5_readWish_24 : decode cX5_readWish 24 = .ok (.putfield 65, 3) := by decide +kernel
theorem dX5_readWish_27 : decode cX5_readWish 27 = .ok (.aload_n 0, 1) := by decide +kernel
theorem dX5_readWish_28 : decode cX5_readWish 28 = .ok (.getfield 9, 3) := by decide +kernel
theorem dX5_readWish_31 : decode cX5_readWish 31 = .ok (.getfield 38, 3) := by decide +kernel
theorem dX5_readWish_34 : decode cX5_readWish 34 = .ok (.ifCond .eq 4, 3) := by decide +kernel
theorem dX5_readWish_37 : decode cX5_readWish 37 = .ok (.return_, 1) := by decide +kernel
theorem dX5_readWish_38 : decode cX5_readWish 38 = .ok (.aload_n 0, 1) := by decide +kernel
theorem dX5_readWish_39 : decode cX5_readWish 39 = .ok (.getfield 15, 3) := by decide +kernel
theorem dX5_readWish_42 : decode cX5_readWish 42 = .ok (.aload_n 0, 1) := by decide +kernel
theorem dX5_readWish_43 : decode cX5_readWish 43 = .ok (.getfield 65, 3) := by decide +kernel
theorem dX5_readWish_46 : decode cX5_readWish 46 = .ok (.invokevirtual 68, 3) := by decide +kernel
theorem dX5_readWish_49 : decode cX5_readWish 49 = .ok (.istore_n 2, 1) := by decide +kernel
theorem dX5_readWish_50 : decode cX5_readWish 50 = .ok (.aload_n 0, 1) := by decide +kernel
theorem dX5_readWish_51 : decode cX5_readWish 51 = .ok (.getfield 9, 3) := by decide +kernel
theorem dX5_readWish_54 : decode cX5_readWish 54 = .ok (.getfield 42, 3) := by decide +kernel
theorem dX5_readWish_57 : decode cX5_readWish 57 = .ok (.bipush 9, 2) := by decide +kernel
theorem dX5_readWish_59 : decode cX5_readWish 59 = .ok (.if_icmp .ne 18, 3) := by decide +kernel
theorem dX5_readWish_62 : decode cX5_readWish 62 = .ok (.aload_n 0, 1) := by decide +kernel
theorem dX5_readWish_63 : decode cX5_readWish 63 = .ok (.getfield 9, 3) := by decide +kernel
theorem dX5_readWish_66 : decode cX5_readWish 66 = .ok (.invokevirtual 54, 3) := by decide +kernel
theorem dX5_readWish_69 : decode cX5_readWish 69 = .ok (.iload_n 2, 1) := by decide +kernel
theorem dX5_readWish_70 : decode cX5_readWish 70 = .ok (.aload_n 0, 1) := by decide +kernel
theorem dX5_readWish_71 : decode cX5_readWish 71 = .ok (.iconst 0, 1) := by decide +kernel
theorem dX5_readWish_72 : decode cX5_readWish 72 = .ok (.invokevirtual 74, 3) := by decide +kernel
theorem dX5_readWish_75 : decode cX5_readWish 75 = .ok (.iand, 1) := by decide +kernel
theorem dX5_readWish_76 : decode cX5_readWish 76 = .ok (.istore_n 2, 1) := by decide +kernel
theorem dX5_readWish_77 : decode cX5_readWish 77 = .ok (.aload_n 0, 1) := by decide +kernel
theorem dX5_readWish_78 : decode cX5_readWish 78 = .ok (.getfield 9, 3) := by decide +kernel
theorem dX5_readWish_81 : decode cX5_readWish 81 = .ok (.bipush 59, 2) := by decide +kernel
theorem dX5_readWish_83 : decode cX5_readWish 83 = .ok (.invokevirtual 77, 3) := by decide +kernel
theorem dX5_readWish_86 : decode cX5_readWish 86 = .ok (.ifCond .eq 16, 3) := by decide +kernel
theorem dX5_readWish_89 : decode cX5_readWish 89 = .ok (.aload_n 0, 1) := by decide +kernel
theorem dX5_readWish_90 : decode cX5_readWish 90 = .ok (.getfield 19, 3) := by decide +kernel
theorem dX5_readWish_93 : decode cX5_readWish 93 = .ok (.aload_n 0, 1) := by decide +kernel
theorem dX5_readWish_94 : decode cX5_readWish 94 = .ok (.getfield 65, 3) := by decide +kernel
theorem dX5_readWish_97 : decode cX5_readWish 97 = .ok (.iload_n 1, 1) := by decide +kernel
theorem dX5_readWish_98 : decode cX5_readWish 98 = .ok (.iload_n 2, 1) := by decide +kernel
theorem dX5_readWish_99 : decode cX5_readWish 99 = .ok (.invokevirtual 81, 3) := by decide +kernel
theorem dX5_readWish_102 : decode cX5_readWish 102 = .ok (.return_, 1) := by decide +kernel
theorem dX5_readLaw_0 : decode cX5_readLaw 0 = .ok (.aload_n 0, 1) := by decide +kernel
theorem dX5_readLaw_1 : decode cX5_readLaw 1 = .ok (.getfield 9, 3) := by decide +kernel
theorem dX5_readLaw_4 : decode cX5_readLaw 4 = .ok (.invokevirtual 54, 3) := by decide +kernel
theorem dX5_readLaw_7 : decode cX5_readLaw 7 = .ok (.aload_n 0, 1) := by decide +kernel
theorem dX5_readLaw_8 : decode cX5_readLaw 8 = .ok (.getfield 9, 3) := by decide +kernel
theorem dX5_readLaw_11 : decode cX5_readLaw 11 = .ok (.aload_n 0, 1) := by decide +kernel
theorem dX5_readLaw_12 : decode cX5_readLaw 12 = .ok (.getfield 15, 3) := by decide +kernel
theorem dX5_readLaw_15 : decode cX5_readLaw 15 = .ok (.invokevirtual 61, 3) := by decide +kernel
theorem dX5_readLaw_18 : decode cX5_readLaw 18 = .ok (.istore_n 1, 1) := by decide +kernel
theorem dX5_readLaw_19 : decode cX5_readLaw 19 = .ok (.aload_n 0, 1) := by decide +kernel
theorem dX5_readLaw_20 : decode cX5_readLaw 20 = .ok (.getfield 9, 3) := by decide +kernel
theorem dX5_readLaw_23 : decode cX5_readLaw 23 = .ok (.bipush 10, 2) := by decide +kernel
theorem dX5_readLaw_25 : decode cX5_readLaw 25 = .ok (.invokevirtual 77, 3) := by decide +kernel
theorem dX5_readLaw_28 : decode cX5_readLaw 28 = .ok (.pop, 1) := by decide +kernel
theorem dX5_readLaw_29 : decode cX5_readLaw 29 = .ok (.aload_n 0, 1) := by decide +kernel
theorem dX5_readLaw_30 : decode cX5_readLaw 30 = .ok (.invokevirtual 57, 3) := by decide +kernel
theorem dX5_readLaw_33 : decode cX5_readLaw 33 = .ok (.istore_n 2, 1) := by decide +kernel
theorem dX5_readLaw_34 : decode cX5_readLaw 34 = .ok (.aload_n 0, 1) := by decide +kernel
theorem dX5_readLaw_35 : decode cX5_readLaw 35 = .ok (.getfield 9, 3) := by decide +kernel
theorem dX5_readLaw_38 : decode cX5_readLaw 38 = .ok (.aload_n 0, 1) := by decide +kernel
theorem dX5_readLaw_39 : decode cX5_readLaw 39 = .ok (.getfield 15, 3) := by decide +kernel
theorem dX5_readLaw_42 : decode cX5_readLaw 42 = .ok (.invokevirtual 61, 3) := by decide +kernel
theorem dX5_readLaw_45 : decode cX5_readLaw 45 = .ok (.istore_n 3, 1) := by decide +kernel
theorem dX5_readLaw_46 : decode cX5_readLaw 46 = .ok (.aload_n 0, 1) := by decide +kernel
theorem dX5_readLaw_47 : decode cX5_readLaw 47 = .ok (.getfield 9, 3) := by decide +kernel
theorem dX5_readLaw_50 : decode cX5_readLaw 50 = .ok (.bipush 11, 2) := by decide +kernel
theorem dX5_readLaw_52 : decode cX5_readLaw 52 = .ok (.invokevirtual 77, 3) := by decide +kernel
theorem dX5_readLaw_55 : decode cX5_readLaw 55 = .ok (.pop, 1) := by decide +kernel
theorem dX5_readLaw_56 : decode cX5_readLaw 56 = .ok (.aload_n 0, 1) := by decide +kernel
theorem dX5_readLaw_57 : decode cX5_readLaw 57 = .ok (.getfield 15, 3) := by decide +kernel
theorem dX5_readLaw_60 : decode cX5_readLaw 60 = .ok (.iload_n 3, 1) := by decide +kernel
theorem dX5_readLaw_61 : decode cX5_readLaw 61 = .ok (.aload_n 0, 1) := by decide +kernel
theorem dX5_readLaw_62 : decode cX5_readLaw 62 = .ok (.getfield 9, 3) := by decide +kernel
theorem dX5_readLaw_65 : decode cX5_readLaw 65 = .ok (.getfield 85, 3) := by decide +kernel
theorem dX5_readLaw_68 : decode cX5_readLaw 68 = .ok (.invokevirtual 89, 3) := by decide +kernel
theorem dX5_readLaw_71 : decode cX5_readLaw 71 = .ok (.istore 4, 2) := by decide +kernel
theorem dX5_readLaw_73 : decode cX5_readLaw 73 = .ok (.aload_n 0, 1) := by decide +kernel
theorem dX5_readLaw_74 : decode cX5_readLaw 74 = .ok (.getfield 9, 3) := by decide +kernel
theorem dX5_readLaw_77 : decode cX5_readLaw 77 = .ok (.getfield 42, 3) := by decide +kernel
theorem dX5_readLaw_80 : decode cX5_readLaw 80 = .ok (.iconst 2, 1) := by decide +kernel
theorem dX5_readLaw_81 : decode cX5_readLaw 81 = .ok (.if_icmp .ne 38, 3) := by decide +kernel
theorem dX5_readLaw_84 : decode cX5_readLaw 84 = .ok (.iload 4, 2) := by decide +kernel
theorem dX5_readLaw_86 : decode cX5_readLaw 86 = .ok (.iconst (-1), 1) := by decide +kernel
theorem dX5_readLaw_87 : decode cX5_readLaw 87 = .ok (.if_icmp .eq 17, 3) := by decide +kernel
theorem dX5_readLaw_90 : decode cX5_readLaw 90 = .ok (.aload_n 0, 1) := by decide +kernel
theorem dX5_readLaw_91 : decode cX5_readLaw 91 = .ok (.getfield 15, 3) := by decide +kernel
theorem dX5_readLaw_94 : decode cX5_readLaw 94 = .ok (.iload_n 3, 1) := by decide +kernel
theorem dX5_readLaw_95 : decode cX5_readLaw 95 = .ok (.iload 4, 2) := by decide +kernel
theorem dX5_readLaw_97 : decode cX5_readLaw 97 = .ok (.invokevirtual 93, 3) := by decide +kernel
theorem dX5_readLaw_100 : decode cX5_readLaw 100 = .ok (.iload_n 1, 1) := by decide +kernel
theorem dX5_readLaw_101 : decode cX5_readLaw 101 = .ok (.if_icmp .eq 18, 3) := by decide +kernel
theorem dX5_readLaw_104 : decode cX5_readLaw 104 = .ok (.aload_n 0, 1) := by decide +kernel
theorem dX5_readLaw_105 : decode cX5_readLaw 105 = .ok (.getfield 9, 3) := by decide +kernel
theorem dX5_readLaw_108 : decode cX5_readLaw 108 = .ok (.iconst 4, 1) := by decide +kernel
theorem dX5_readLaw_109 : decode cX5_readLaw 109 = .ok (.aload_n 0, 1) := by decide +kernel
theorem dX5_readLaw_110 : decode cX5_readLaw 110 = .ok (.getfield 9, 3) := by decide +kernel
theorem dX5_readLaw_113 : decode cX5_readLaw 113 = .ok (.getfield 97, 3) := by decide +kernel
theorem dX5_readLaw_116 : decode cX5_readLaw 116 = .ok (.invokevirtual 100, 3) := by decide +kernel
theorem dX5_readLaw_119 : decode cX5_readLaw 119 = .ok (.aload_n 0, 1) := by decide +kernel
theorem dX5_readLaw_120 : decode cX5_readLaw 120 = .ok (.getfield 9, 3) := by decide +kernel
theorem dX5_readLaw_123 : decode cX5_readLaw 123 = .ok (.iconst 2, 1) := by decide +kernel
theorem dX5_readLaw_124 : decode cX5_readLaw 124 = .ok (.invokevirtual 77, 3) := by decide +kernel
theorem dX5_readLaw_127 : decode cX5_readLaw 127 = .ok (.ifCond .eq 31, 3) := by decide +kernel
theorem dX5_readLaw_130 : decode cX5_readLaw 130 = .ok (.aload_n 0, 1) := by decide +kernel
theorem dX5_readLaw_131 : decode cX5_readLaw 131 = .ok (.getfield 9, 3) := by decide +kernel
theorem dX5_readLaw_134 : decode cX5_readLaw 134 = .ok (.bipush 59, 2) := by decide +kernel
theorem dX5_readLaw_136 : decode cX5_readLaw 136 = .ok (.invokevirtual 77, 3) := by decide +kernel
theorem dX5_readLaw_139 : decode cX5_readLaw 139 = .ok (.ifCond .eq 19, 3) := by decide +kernel
theorem dX5_readLaw_142 : decode cX5_readLaw 142 = .ok (.aload_n 0, 1) := by decide +kernel
theorem dX5_readLaw_143 : decode cX5_readLaw 143 = .ok (.getfield 19, 3) := by decide +kernel
theorem dX5_readLaw_146 : decode cX5_readLaw 146 = .ok (.aload_n 0, 1) := by decide +kernel
theorem dX5_readLaw_147 : decode cX5_readLaw 147 = .ok (.getfield 15, 3) := by decide +kernel
theorem dX5_readLaw_150 : decode cX5_readLaw 150 = .ok (.iload_n 1, 1) := by decide +kernel
theorem dX5_readLaw_151 : decode cX5_readLaw 151 = .ok (.iload_n 2, 1) := by decide +kernel
theorem dX5_readLaw_152 : decode cX5_readLaw 152 = .ok (.iload_n 3, 1) := by decide +kernel
theorem dX5_readLaw_153 : decode cX5_readLaw 153 = .ok (.iload 4, 2) := by decide +kernel
theorem dX5_readLaw_155 : decode cX5_readLaw 155 = .ok (.invokevirtual 104, 3) := by decide +kernel
theorem dX5_readLaw_158 : decode cX5_readLaw 158 = .ok (.return_, 1) := by decide +kernel
theorem dX5_readNeed_0 : decode cX5_readNeed 0 = .ok (.aload_n 0, 1) := by decide +kernel
theorem dX5_readNeed_1 : decode cX5_readNeed 1 = .ok (.getfield 9, 3) := by decide +kernel
theorem dX5_readNeed_4 : decode cX5_readNeed 4 = .ok (.getfield 108, 3) := by decide +kernel
theorem dX5_readNeed_7 : decode cX5_readNeed 7 = .ok (.istore_n 1, 1) := by decide +kernel
theorem dX5_readNeed_8 : decode cX5_readNeed 8 = .ok (.aload_n 0, 1) := by decide +kernel
theorem dX5_readNeed_9 : decode cX5_readNeed 9 = .ok (.getfield 9, 3) := by decide +kernel
theorem dX5_readNeed_12 : decode cX5_readNeed 12 = .ok (.getfield 42, 3) := by decide +kernel
theorem dX5_readNeed_15 : decode cX5_readNeed 15 = .ok (.iconst 3, 1) := by decide +kernel
theorem dX5_readNeed_16 : decode cX5_readNeed 16 = .ok (.if_icmp .ne 30, 3) := by decide +kernel
theorem dX5_readNeed_19 : decode cX5_readNeed 19 = .ok (.iload_n 1, 1) := by decide +kernel
theorem dX5_readNeed_20 : decode cX5_readNeed 20 = .ok (.iconst 1, 1) := by decide +kernel
theorem dX5_readNeed_21 : decode cX5_readNeed 21 = .ok (.if_icmp .lt 9, 3) := by decide +kernel
theorem dX5_readNeed_24 : decode cX5_readNeed 24 = .ok (.iload_n 1, 1) := by decide +kernel
theorem dX5_readNeed_25 : decode cX5_readNeed 25 = .ok (.bipush 16, 2) := by decide +kernel
theorem dX5_readNeed_27 : decode cX5_readNeed 27 = .ok (.if_icmp .le 19, 3) := by decide +kernel
theorem dX5_readNeed_30 : decode cX5_readNeed 30 = .ok (.aload_n 0, 1) := by decide +kernel
theorem dX5_readNeed_31 : decode cX5_readNeed 31 = .ok (.getfield 9, 3) := by decide +kernel
theorem dX5_readNeed_34 : decode cX5_readNeed 34 = .ok (.bipush 6, 2) := by decide +kernel
theorem dX5_readNeed_36 : decode cX5_readNeed 36 = .ok (.aload_n 0, 1) := by decide +kernel
theorem dX5_readNeed_37 : decode cX5_readNeed 37 = .ok (.getfield 9, 3) := by decide +kernel
theorem dX5_readNeed_40 : decode cX5_readNeed 40 = .ok (.getfield 97, 3) := by decide +kernel
theorem dX5_readNeed_43 : decode cX5_readNeed 43 = .ok (.invokevirtual 100, 3) := by decide +kernel
theorem dX5_readNeed_46 : decode cX5_readNeed 46 = .ok (.aload_n 0, 1) := by decide +kernel
theorem dX5_readNeed_47 : decode cX5_readNeed 47 = .ok (.getfield 9, 3) := by decide +kernel
theorem dX5_readNeed_50 : decode cX5_readNeed 50 = .ok (.iconst 3, 1) := by decide +kernel
theorem dX5_readNeed_51 : decode cX5_readNeed 51 = .ok (.invokevirtual 77, 3) := by decide +kernel
theorem dX5_readNeed_54 : decode cX5_readNeed 54 = .ok (.ifCond .eq 7, 3) := by decide +kernel
theorem dX5_readNeed_57 : decode cX5_readNeed 57 = .ok (.iload_n 1, 1) := by decide +kernel
theorem dX5_readNeed_58 : decode cX5_readNeed 58 = .ok (.goto 4, 3) := by decide +kernel
theorem dX5_readNeed_61 : decode cX5_readNeed 61 = .ok (.iconst 0, 1) := by decide +kernel
theorem dX5_readNeed_62 : decode cX5_readNeed 62 = .ok (.ireturn, 1) := by decide +kernel
theorem dX5_readEither_0 : decode cX5_readEither 0 = .ok (.iconst 0, 1) := by decide +kernel
theorem dX5_readEither_1 : decode cX5_readEither 1 = .ok (.istore_n 2, 1) := by decide +kernel
theorem dX5_readEither_2 : decode cX5_readEither 2 = .ok (.iconst (-1), 1) := by decide +kernel
theorem dX5_readEither_3 : decode cX5_readEither 3 = .ok (.istore_n 3, 1) := by decide +kernel
theorem dX5_readEither_4 : decode cX5_readEither 4 = .ok (.iconst 0, 1) := by decide +kernel
theorem dX5_readEither_5 : decode cX5_readEither 5 = .ok (.istore 4, 2) := by decide +kernel
theorem dX5_readEither_7 : decode cX5_readEither 7 = .ok (.iload 4, 2) := by decide +kernel
theorem dX5_readEither_9 : decode cX5_readEither 9 = .ok (.sipush 600, 3) := by decide +kernel
theorem dX5_readEither_12 : decode cX5_readEither 12 = .ok (.if_icmp .gt 83, 3) := by decide +kernel
theorem dX5_readEither_15 : decode cX5_readEither 15 = .ok (.aload_n 0, 1) := by decide +kernel
theorem dX5_readEither_16 : decode cX5_readEither 16 = .ok (.getfield 9, 3) := by decide +kernel
theorem dX5_readEither_19 : decode cX5_readEither 19 = .ok (.getfield 38, 3) := by decide +kernel
theorem dX5_readEither_22 : decode cX5_readEither 22 = .ok (.ifCond .ne 73, 3) := by decide +kernel
theorem dX5_readEither_25 : decode cX5_readEither 25 = .ok (.iload_n 3, 1) := by decide +kernel
theorem dX5_readEither_26 : decode cX5_readEither 26 = .ok (.aload_n 0, 1) := by decide +kernel
theorem dX5_readEither_27 : decode cX5_readEither 27 = .ok (.iload_n 1, 1) := by decide +kernel
theorem dX5_readEither_28 : decode cX5_readEither 28 = .ok (.invokevirtual 111, 3) := by decide +kernel
theorem dX5_readEither_31 : decode cX5_readEither 31 = .ok (.iand, 1) := by decide +kernel
theorem dX5_readEither_32 : decode cX5_readEither 32 = .ok (.istore_n 3, 1) := by decide +kernel
theorem dX5_readEither_33 : decode cX5_readEither 33 = .ok (.aload_n 0, 1) := by decide +kernel
theorem dX5_readEither_34 : decode cX5_readEither 34 = .ok (.getfield 9, 3) := by decide +kernel
theorem dX5_readEither_37 : decode cX5_readEither 37 = .ok (.getfield 42, 3) := by decide +kernel
theorem dX5_readEither_40 : decode cX5_readEither 40 = .ok (.bipush 13, 2) := by decide +kernel
theorem dX5_readEither_42 : decode cX5_readEither 42 = .ok (.if_icmp .ne 7, 3) := by decide +kernel
theorem dX5_readEither_45 : decode cX5_readEither 45 = .ok (.iconst 1, 1) := by decide +kernel
theorem dX5_readEither_46 : decode cX5_readEither 46 = .ok (.goto 4, 3) := by decide +kernel
theorem dX5_readEither_49 : decode cX5_readEither 49 = .ok (.iconst 0, 1) := by decide +kernel
theorem dX5_readEither_50 : decode cX5_readEither 50 = .ok (.istore 5, 2) := by decide +kernel
theorem dX5_readEither_52 : decode cX5_readEither 52 = .ok (.iload 5, 2) := by decide +kernel
theorem dX5_readEither_54 : decode cX5_readEither 54 = .ok (.ifCond .ne 9, 3) := by decide +kernel
theorem dX5_readEither_57 : decode cX5_readEither 57 = .ok (.iload_n 2, 1) := by decide +kernel
theorem dX5_readEither_58 : decode cX5_readEither 58 = .ok (.iload_n 3, 1) := by decide +kernel
theorem dX5_readEither_59 : decode cX5_readEither 59 = .ok (.ior, 1) := by decide +kernel
theorem dX5_readEither_60 : decode cX5_readEither 60 = .ok (.istore_n 2, 1) := by decide +kernel
theorem dX5_readEither_61 : decode cX5_readEither 61 = .ok (.iconst (-1), 1) := by decide +kernel
theorem dX5_readEither_62 : decode cX5_readEither 62 = .ok (.istore_n 3, 1) := by decide +kernel
theorem dX5_readEither_63 : decode cX5_readEither 63 = .ok (.iload 5, 2) := by decide +kernel
theorem dX5_readEither_65 : decode cX5_readEither 65 = .ok (.ifCond .ne 17, 3) := by decide +kernel
theorem dX5_readEither_68 : decode cX5_readEither 68 = .ok (.aload_n 0, 1) := by decide +kernel
theorem dX5_readEither_69 : decode cX5_readEither 69 = .ok (.getfield 9, 3) := by decide +kernel
theorem dX5_readEither_72 : decode cX5_readEither 72 = .ok (.getfield 42, 3) := by decide +kernel
theorem dX5_readEither_75 : decode cX5_readEither 75 = .ok (.bipush 14, 2) := by decide +kernel
theorem dX5_readEither_77 : decode cX5_readEither 77 = .ok (.if_icmp .eq 5, 3) := by decide +kernel
theorem dX5_readEither_80 : decode cX5_readEither 80 = .ok (.iload_n 2, 1) := by decide +kernel
theorem dX5_readEither_81 : decode cX5_readEither 81 = .ok (.ireturn, 1) := by decide +kernel
theorem dX5_readEither_82 : decode cX5_readEither 82 = .ok (.aload_n 0, 1) := by decide +kernel
theorem dX5_readEither_83 : decode cX5_readEither 83 = .ok (.getfield 9, 3) := by decide +kernel
theorem dX5_readEither_86 : decode cX5_readEither 86 = .ok (.invokevirtual 54, 3) := by decide +kernel
theorem dX5_readEither_89 : decode cX5_readEither 89 = .ok (.iinc 4 1, 3) := by decide +kernel
theorem dX5_readEither_92 : decode cX5_readEither 92 = .ok (.goto (-85), 3) := by decide +kernel
theorem dX5_readEither_95 : decode cX5_readEither 95 = .ok (.iload_n 2, 1) := by decide +kernel
theorem dX5_readEither_96 : decode cX5_readEither 96 = .ok (.ireturn, 1) := by decide +kernel
theorem dX5_readOne_0 : decode cX5_readOne 0 = .ok (.aload_n 0, 1) := by decide +kernel
theorem dX5_readOne_1 : decode cX5_readOne 1 = .ok (.getfield 9, 3) := by decide +kernel
theorem dX5_readOne_4 : decode cX5_readOne 4 = .ok (.getfield 38, 3) := by decide +kernel
theorem dX5_readOne_7 : decode cX5_readOne 7 = .ok (.ifCond .eq 5, 3) := by decide +kernel
theorem dX5_readOne_10 : decode cX5_readOne 10 = .ok (.iconst 0, 1) := by decide +kernel
theorem dX5_readOne_11 : decode cX5_readOne 11 = .ok (.ireturn, 1) := by decide +kernel
theorem dX5_readOne_12 : decode cX5_readOne 12 = .ok (.iload_n 1, 1) := by decide +kernel
theorem dX5_readOne_13 : decode cX5_readOne 13 = .ok (.bipush 6, 2) := by decide +kernel
theorem dX5_readOne_15 : decode cX5_readOne 15 = .ok (.if_icmp .lt 12, 3) := by decide +kernel
theorem dX5_readOne_18 : decode cX5_readOne 18 = .ok (.aload_n 0, 1) := by decide +kernel
theorem dX5_readOne_19 : decode cX5_readOne 19 = .ok (.getfield 9, 3) := by decide +kernel
theorem dX5_readOne_22 : decode cX5_readOne 22 = .ok (.invokevirtual 51, 3) := by decide +kernel
theorem dX5_readOne_25 : decode cX5_readOne 25 = .ok (.iconst 0, 1) := by decide +kernel
theorem dX5_readOne_26 : decode cX5_readOne 26 = .ok (.ireturn, 1) := by decide +kernel
theorem dX5_readOne_27 : decode cX5_readOne 27 = .ok (.aload_n 0, 1) := by decide +kernel
theorem dX5_readOne_28 : decode cX5_readOne 28 = .ok (.getfield 9, 3) := by decide +kernel
theorem dX5_readOne_31 : decode cX5_readOne 31 = .ok (.getfield 42, 3) := by decide +kernel
theorem dX5_readOne_34 : decode cX5_readOne 34 = .ok (.bipush 12, 2) := by decide +kernel
theorem dX5_readOne_36 : decode cX5_readOne 36 = .ok (.if_icmp .ne 20, 3) := by decide +kernel
theorem dX5_readOne_39 : decode cX5_readOne 39 = .ok (.aload_n 0, 1) := by decide +kernel
theorem dX5_readOne_40 : decode cX5_readOne 40 = .ok (.getfield 9, 3) := by decide +kernel
theorem dX5_readOne_43 : decode cX5_readOne 43 = .ok (.invokevirtual 54, 3) := by decide +kernel
theorem dX5_readOne_46 : decode cX5_readOne 46 = .ok (.aload_n 0, 1) := by decide +kernel
theorem dX5_readOne_47 : decode cX5_readOne 47 = .ok (.iload_n 1, 1) := by decide +kernel
theorem dX5_readOne_48 : decode cX5_readOne 48 = .ok (.iconst 1, 1) := by decide +kernel
theorem dX5_readOne_49 : decode cX5_readOne 49 = .ok (.iadd, 1) := by decide +kernel
theorem dX5_readOne_50 : decode cX5_readOne 50 = .ok (.invokevirtual 111, 3) := by decide +kernel
theorem dX5_readOne_53 : decode cX5_readOne 53 = .ok (.iconst (-1), 1) := by decide +kernel
theorem dX5_readOne_54 : decode cX5_readOne 54 = .ok (.ixor, 1) := by decide +kernel
theorem dX5_readOne_55 : decode cX5_readOne 55 = .ok (.ireturn, 1) := by decide +kernel
theorem dX5_readOne_56 : decode cX5_readOne 56 = .ok (.aload_n 0, 1) := by decide +kernel
theorem dX5_readOne_57 : decode cX5_readOne 57 = .ok (.getfield 9, 3) := by decide +kernel
theorem dX5_readOne_60 : decode cX5_readOne 60 = .ok (.getfield 42, 3) := by decide +kernel
theorem dX5_readOne_63 : decode cX5_readOne 63 = .ok (.bipush 40, 2) := by decide +kernel
theorem dX5_readOne_65 : decode cX5_readOne 65 = .ok (.if_icmp .ne 30, 3) := by decide +kernel
theorem dX5_readOne_68 : decode cX5_readOne 68 = .ok (.aload_n 0, 1) := by decide +kernel
theorem dX5_readOne_69 : decode cX5_readOne 69 = .ok (.getfield 9, 3) := by decide +kernel
theorem dX5_readOne_72 : decode cX5_readOne 72 = .ok (.invokevirtual 54, 3) := by decide +kernel
theorem dX5_readOne_75 : decode cX5_readOne 75 = .ok (.aload_n 0, 1) := by decide +kernel
theorem dX5_readOne_76 : decode cX5_readOne 76 = .ok (.iload_n 1, 1) := by decide +kernel
theorem dX5_readOne_77 : decode cX5_readOne 77 = .ok (.iconst 1, 1) := by decide +kernel
theorem dX5_readOne_78 : decode cX5_readOne 78 = .ok (.iadd, 1) := by decide +kernel
theorem dX5_readOne_79 : decode cX5_readOne 79 = .ok (.invokevirtual 74, 3) := by decide +kernel
theorem dX5_readOne_82 : decode cX5_readOne 82 = .ok (.istore_n 2, 1) := by decide +kernel
theorem dX5_readOne_83 : decode cX5_readOne 83 = .ok (.aload_n 0, 1) := by decide +kernel
theorem dX5_readOne_84 : decode cX5_readOne 84 = .ok (.getfield 9, 3) := by decide +kernel
theorem dX5_readOne_87 : decode cX5_readOne 87 = .ok (.bipush 41, 2) := by decide +kernel
theorem dX5_readOne_89 : decode cX5_readOne 89 = .ok (.invokevirtual 77, 3) := by decide +kernel
theorem dX5_readOne_92 : decode cX5_readOne 92 = .ok (.pop, 1) := by decide +kernel
theorem dX5_readOne_93 : decode cX5_readOne 93 = .ok (.iload_n 2, 1) := by decide +kernel
theorem dX5_readOne_94 : decode cX5_readOne 94 = .ok (.ireturn, 1) := by decide +kernel
theorem dX5_readOne_95 : decode cX5_readOne 95 = .ok (.aload_n 0, 1) := by decide +kernel
theorem dX5_readOne_96 : decode cX5_readOne 96 = .ok (.invokevirtual 114, 3) := by decide +kernel
theorem dX5_readOne_99 : decode cX5_readOne 99 = .ok (.aload_n 0, 1) := by decide +kernel
theorem dX5_readOne_100 : decode cX5_readOne 100 = .ok (.invokevirtual 117, 3) := by decide +kernel
theorem dX5_readOne_103 : decode cX5_readOne 103 = .ok (.ireturn, 1) := by decide +kernel
theorem dX5_readPath_0 : decode cX5_readPath 0 = .ok (.aload_n 0, 1) := by decide +kernel
theorem dX5_readPath_1 : decode cX5_readPath 1 = .ok (.getfield 120, 3) := by decide +kernel
theorem dX5_readPath_4 : decode cX5_readPath 4 = .ok (.bipush 40, 2) := by decide +kernel
theorem dX5_readPath_6 : decode cX5_readPath 6 = .ok (.if_icmp .lt 10, 3) := by decide +kernel
theorem dX5_readPath_9 : decode cX5_readPath 9 = .ok (.aload_n 0, 1) := by decide +kernel
theorem dX5_readPath_10 : decode cX5_readPath 10 = .ok (.getfield 9, 3) := by decide +kernel
theorem dX5_readPath_13 : decode cX5_readPath 13 = .ok (.invokevirtual 51, 3) := by decide +kernel
theorem dX5_readPath_16 : decode cX5_readPath 16 = .ok (.aload_n 0, 1) := by decide +kernel
theorem dX5_readPath_17 : decode cX5_readPath 17 = .ok (.dup, 1) := by decide +kernel
theorem dX5_readPath_18 : decode cX5_readPath 18 = .ok (.getfield 120, 3) := by decide +kernel
theorem dX5_readPath_21 : decode cX5_readPath 21 = .ok (.iconst 1, 1) := by decide +kernel
theorem dX5_readPath_22 : decode cX5_readPath 22 = .ok (.iadd, 1) := by decide +kernel
theorem dX5_readPath_23 : decode cX5_readPath 23 = .ok (.putfield 120, 3) := by decide +kernel
theorem dX5_readPath_26 : decode cX5_readPath 26 = .ok (.aload_n 0, 1) := by decide +kernel
theorem dX5_readPath_27 : decode cX5_readPath 27 = .ok (.iconst 0, 1) := by decide +kernel
theorem dX5_readPath_28 : decode cX5_readPath 28 = .ok (.putfield 123, 3) := by decide +kernel
theorem dX5_readPath_31 : decode cX5_readPath 31 = .ok (.aload_n 0, 1) := by decide +kernel
theorem dX5_readPath_32 : decode cX5_readPath 32 = .ok (.getfield 65, 3) := by decide +kernel
theorem dX5_readPath_35 : decode cX5_readPath 35 = .ok (.istore_n 1, 1) := by decide +kernel
theorem dX5_readPath_36 : decode cX5_readPath 36 = .ok (.aload_n 0, 1) := by decide +kernel
theorem dX5_readPath_37 : decode cX5_readPath 37 = .ok (.getfield 9, 3) := by decide +kernel
theorem dX5_readPath_40 : decode cX5_readPath 40 = .ok (.getfield 38, 3) := by decide +kernel
theorem dX5_readPath_43 : decode cX5_readPath 43 = .ok (.ifCond .ne 143, 3) := by decide +kernel
theorem dX5_readPath_46 : decode cX5_readPath 46 = .ok (.aload_n 0, 1) := by decide +kernel
theorem dX5_readPath_47 : decode cX5_readPath 47 = .ok (.getfield 123, 3) := by decide +kernel
theorem dX5_readPath_50 : decode cX5_readPath 50 = .ok (.iconst 4, 1) := by decide +kernel
theorem dX5_readPath_51 : decode cX5_readPath 51 = .ok (.if_icmp .ge 135, 3) := by decide +kernel
theorem dX5_readPath_54 : decode cX5_readPath 54 = .ok (.aload_n 0, 1) := by decide +kernel
theorem dX5_readPath_55 : decode cX5_readPath 55 = .ok (.getfield 9, 3) := by decide +kernel
theorem dX5_readPath_58 : decode cX5_readPath 58 = .ok (.getfield 42, 3) := by decide +kernel
theorem dX5_readPath_61 : decode cX5_readPath 61 = .ok (.iconst 2, 1) := by decide +kernel
theorem dX5_readPath_62 : decode cX5_readPath 62 = .ok (.if_icmp .ne 124, 3) := by decide +kernel
theorem dX5_readPath_65 : decode cX5_readPath 65 = .ok (.aload_n 0, 1) := by decide +kernel
theorem dX5_readPath_66 : decode cX5_readPath 66 = .ok (.getfield 9, 3) := by decide +kernel
theorem dX5_readPath_69 : decode cX5_readPath 69 = .ok (.getfield 97, 3) := by decide +kernel
theorem dX5_readPath_72 : decode cX5_readPath 72 = .ok (.istore_n 2, 1) := by decide +kernel
theorem dX5_readPath_73 : decode cX5_readPath 73 = .ok (.aload_n 0, 1) := by decide +kernel
theorem dX5_readPath_74 : decode cX5_readPath 74 = .ok (.getfield 15, 3) := by decide +kernel
theorem dX5_readPath_77 : decode cX5_readPath 77 = .ok (.iload_n 1, 1) := by decide +kernel
theorem dX5_readPath_78 : decode cX5_readPath 78 = .ok (.aload_n 0, 1) := by decide +kernel
theorem dX5_readPath_79 : decode cX5_readPath 79 = .ok (.getfield 9, 3) := by decide +kernel
theorem dX5_readPath_82 : decode cX5_readPath 82 = .ok (.getfield 85, 3) := by decide +kernel
theorem dX5_readPath_85 : decode cX5_readPath 85 = .ok (.invokevirtual 89, 3) := by decide +kernel
theorem dX5_readPath_88 : decode cX5_readPath 88 = .ok (.istore_n 3, 1) := by decide +kernel
theorem dX5_readPath_89 : decode cX5_readPath 89 = .ok (.aload_n 0, 1) := by decide +kernel
theorem dX5_readPath_90 : decode cX5_readPath 90 = .ok (.getfield 23, 3) := by decide +kernel
theorem dX5_readPath_93 : decode cX5_readPath 93 = .ok (.aload_n 0, 1) := by decide +kernel
theorem dX5_readPath_94 : decode cX5_readPath 94 = .ok (.getfield 123, 3) := by decide +kernel
theorem dX5_readPath_97 : decode cX5_readPath 97 = .ok (.iload_n 3, 1) := by decide +kernel
theorem dX5_readPath_98 : decode cX5_readPath 98 = .ok (.iastore, 1) := by decide +kernel
theorem dX5_readPath_99 : decode cX5_readPath 99 = .ok (.aload_n 0, 1) := by decide +kernel
theorem dX5_readPath_100 : decode cX5_readPath 100 = .ok (.dup, 1) := by decide +kernel
theorem dX5_readPath_101 : decode cX5_readPath 101 = .ok (.getfield 123, 3) := by decide +kernel
theorem dX5_readPath_104 : decode cX5_readPath 104 = .ok (.iconst 1, 1) := by decide +kernel
theorem dX5_readPath_105 : decode cX5_readPath 105 = .ok (.iadd, 1) := by decide +kernel
theorem dX5_readPath_106 : decode cX5_readPath 106 = .ok (.putfield 123, 3) := by decide +kernel
theorem dX5_readPath_109 : decode cX5_readPath 109 = .ok (.aload_n 0, 1) := by decide +kernel
theorem dX5_readPath_110 : decode cX5_readPath 110 = .ok (.getfield 15, 3) := by decide +kernel
theorem dX5_readPath_113 : decode cX5_readPath 113 = .ok (.iload_n 1, 1) := by decide +kernel
theorem dX5_readPath_114 : decode cX5_readPath 114 = .ok (.iload_n 3, 1) := by decide +kernel
theorem dX5_readPath_115 : decode cX5_readPath 115 = .ok (.invokevirtual 93, 3) := by decide +kernel
theorem dX5_readPath_118 : decode cX5_readPath 118 = .ok (.istore_n 1, 1) := by decide +kernel
theorem dX5_readPath_119 : decode cX5_readPath 119 = .ok (.aload_n 0, 1) := by decide +kernel
theorem dX5_readPath_120 : decode cX5_readPath 120 = .ok (.getfield 9, 3) := by decide +kernel
theorem dX5_readPath_123 : decode cX5_readPath 123 = .ok (.invokevirtual 54, 3) := by decide +kernel
theorem dX5_readPath_126 : decode cX5_readPath 126 = .ok (.iload_n 3, 1) := by decide +kernel
theorem dX5_readPath_127 : decode cX5_readPath 127 = .ok (.iconst (-1), 1) := by decide +kernel
theorem dX5_readPath_128 : decode cX5_readPath 128 = .ok (.if_icmp .eq 33, 3) := by decide +kernel
theorem dX5_readPath_131 : decode cX5_readPath 131 = .ok (.iload_n 1, 1) := by decide +kernel
theorem dX5_readPath_132 : decode cX5_readPath 132 = .ok (.iconst (-1), 1) := by decide +kernel
theorem dX5_readPath_133 : decode cX5_readPath 133 = .ok (.if_icmp .eq 7, 3) := by decide +kernel
theorem dX5_readPath_136 : decode cX5_readPath 136 = .ok (.iconst 1, 1) := by decide +kernel
theorem dX5_readPath_137 : decode cX5_readPath 137 = .ok (.goto 4, 3) := by decide +kernel
theorem dX5_readPath_140 : decode cX5_readPath 140 = .ok (.iconst 0, 1) := by decide +kernel
theorem dX5_readPath_141 : decode cX5_readPath 141 = .ok (.aload_n 0, 1) := by decide +kernel
theorem dX5_readPath_142 : decode cX5_readPath 142 = .ok (.getfield 9, 3) := by decide +kernel
theorem dX5_readPath_145 : decode cX5_readPath 145 = .ok (.getfield 42, 3) := by decide +kernel
theorem dX5_readPath_148 : decode cX5_readPath 148 = .ok (.bipush 46, 2) := by decide +kernel
theorem dX5_readPath_150 : decode cX5_readPath 150 = .ok (.if_icmp .ne 7, 3) := by decide +kernel
theorem dX5_readPath_153 : decode cX5_readPath 153 = .ok (.iconst 1, 1) := by decide +kernel
theorem dX5_readPath_154 : decode cX5_readPath 154 = .ok (.goto 4, 3) := by decide +kernel
theorem dX5_readPath_157 : decode cX5_readPath 157 = .ok (.iconst 0, 1) := by decide +kernel
theorem dX5_readPath_158 : decode cX5_readPath 158 = .ok (.if_icmp .eq 12, 3) := by decide +kernel
theorem dX5_readPath_161 : decode cX5_readPath 161 = .ok (.aload_n 0, 1) := by decide +kernel
theorem dX5_readPath_162 : decode cX5_readPath 162 = .ok (.getfield 9, 3) := by decide +kernel
theorem dX5_readPath_165 : decode cX5_readPath 165 = .ok (.iconst 4, 1) := by decide +kernel
theorem dX5_readPath_166 : decode cX5_readPath 166 = .ok (.iload_n 2, 1) := by decide +kernel
theorem dX5_readPath_167 : decode cX5_readPath 167 = .ok (.invokevirtual 100, 3) := by decide +kernel
theorem dX5_readPath_170 : decode cX5_readPath 170 = .ok (.iload_n 1, 1) := by decide +kernel
theorem dX5_readPath_171 : decode cX5_readPath 171 = .ok (.iconst (-1), 1) := by decide +kernel
theorem dX5_readPath_172 : decode cX5_readPath 172 = .ok (.if_icmp .ne 4, 3) := by decide +kernel
theorem dX5_readPath_175 : decode cX5_readPath 175 = .ok (.return_, 1) := by decide +kernel
theorem dX5_readPath_176 : decode cX5_readPath 176 = .ok (.aload_n 0, 1) := by decide +kernel
theorem dX5_readPath_177 : decode cX5_readPath 177 = .ok (.getfield 9, 3) := by decide +kernel
theorem dX5_readPath_180 : decode cX5_readPath 180 = .ok (.invokevirtual 54, 3) := by decide +kernel
theorem dX5_readPath_183 : decode cX5_readPath 183 = .ok (.goto (-147), 3) := by decide +kernel
theorem dX5_readPath_186 : decode cX5_readPath 186 = .ok (.aload_n 0, 1) := by decide +kernel
theorem dX5_readPath_187 : decode cX5_readPath 187 = .ok (.getfield 9, 3) := by decide +kernel
theorem dX5_readPath_190 : decode cX5_readPath 190 = .ok (.invokevirtual 51, 3) := by decide +kernel
theorem dX5_readPath_193 : decode cX5_readPath 193 = .ok (.return_, 1) := by decide +kernel
theorem dX5_readComparison_0 : decode cX5_readComparison 0 = .ok (.aload_n 0, 1) := by decide +kernel
theorem dX5_readComparison_1 : decode cX5_readComparison 1 = .ok (.getfield 9, 3) := by decide +kernel
theorem dX5_readComparison_4 : decode cX5_readComparison 4 = .ok (.getfield 42, 3) := by decide +kernel
theorem dX5_readComparison_7 : decode cX5_readComparison 7 = .ok (.istore_n 1, 1) := by decide +kernel
theorem dX5_readComparison_8 : decode cX5_readComparison 8 = .ok (.iload_n 1, 1) := by decide +kernel
theorem dX5_readComparison_9 : decode cX5_readComparison 9 = .ok (.bipush 60, 2) := by decide +kernel
theorem dX5_readComparison_11 : decode cX5_readComparison 11 = .ok (.if_icmp .eq 22, 3) := by decide +kernel
theorem dX5_readComparison_14 : decode cX5_readComparison 14 = .ok (.iload_n 1, 1) := by decide +kernel
theorem dX5_readComparison_15 : decode cX5_readComparison 15 = .ok (.bipush 62, 2) := by decide +kernel
theorem dX5_readComparison_17 : decode cX5_readComparison 17 = .ok (.if_icmp .eq 16, 3) := by decide +kernel
theorem dX5_readComparison_20 : decode cX5_readComparison 20 = .ok (.iload_n 1, 1) := by decide +kernel
theorem dX5_readComparison_21 : decode cX5_readComparison 21 = .ok (.bipush 61, 2) := by decide +kernel
theorem dX5_readComparison_23 : decode cX5_readComparison 23 = .ok (.if_icmp .eq 10, 3) := by decide +kernel
theorem dX5_readComparison_26 : decode cX5_readComparison 26 = .ok (.aload_n 0, 1) := by decide +kernel
theorem dX5_readComparison_27 : decode cX5_readComparison 27 = .ok (.getfield 9, 3) := by decide +kernel
theorem dX5_readComparison_30 : decode cX5_readComparison 30 = .ok (.invokevirtual 51, 3) := by decide +kernel
theorem dX5_readComparison_33 : decode cX5_readComparison 33 = .ok (.aload_n 0, 1) := by decide +kernel
theorem dX5_readComparison_34 : decode cX5_readComparison 34 = .ok (.getfield 9, 3) := by decide +kernel
theorem dX5_readComparison_37 : decode cX5_readComparison 37 = .ok (.getfield 38, 3) := by decide +kernel
theorem dX5_readComparison_40 : decode cX5_readComparison 40 = .ok (.ifCond .eq 5, 3) := by decide +kernel
theorem dX5_readComparison_43 : decode cX5_readComparison 43 = .ok (.iconst 0, 1) := by decide +kernel
theorem dX5_readComparison_44 : decode cX5_readComparison 44 = .ok (.ireturn, 1) := by decide +kernel
theorem dX5_readComparison_45 : decode cX5_readComparison 45 = .ok (.aload_n 0, 1) := by decide +kernel
theorem dX5_readComparison_46 : decode cX5_readComparison 46 = .ok (.getfield 9, 3) := by decide +kernel
theorem dX5_readComparison_49 : decode cX5_readComparison 49 = .ok (.invokevirtual 54, 3) := by decide +kernel
theorem dX5_readComparison_52 : decode cX5_readComparison 52 = .ok (.aload_n 0, 1) := by decide +kernel
theorem dX5_readComparison_53 : decode cX5_readComparison 53 = .ok (.getfield 9, 3) := by decide +kernel
theorem dX5_readComparison_56 : decode cX5_readComparison 56 = .ok (.getfield 42, 3) := by decide +kernel
theorem dX5_readComparison_59 : decode cX5_readComparison 59 = .ok (.iconst 3, 1) := by decide +kernel
theorem dX5_readComparison_60 : decode cX5_readComparison 60 = .ok (.if_icmp .ne 13, 3) := by decide +kernel
theorem dX5_readComparison_63 : decode cX5_readComparison 63 = .ok (.aload_n 0, 1) := by decide +kernel
theorem dX5_readComparison_64 : decode cX5_readComparison 64 = .ok (.getfield 9, 3) := by decide +kernel
theorem dX5_readComparison_67 : decode cX5_readComparison 67 = .ok (.getfield 108, 3) := by decide +kernel
theorem dX5_readComparison_70 : decode cX5_readComparison 70 = .ok (.goto 4, 3) := by decide +kernel
theorem dX5_readComparison_73 : decode cX5_readComparison 73 = .ok (.iconst (-1), 1) := by decide +kernel
theorem dX5_readComparison_74 : decode cX5_readComparison 74 = .ok (.istore_n 2, 1) := by decide +kernel
theorem dX5_readComparison_75 : decode cX5_readComparison 75 = .ok (.aload_n 0, 1) := by decide +kernel
theorem dX5_readComparison_76 : decode cX5_readComparison 76 = .ok (.getfield 9, 3) := by decide +kernel
theorem dX5_readComparison_79 : decode cX5_readComparison 79 = .ok (.getfield 42, 3) := by decide +kernel
theorem dX5_readComparison_82 : decode cX5_readComparison 82 = .ok (.iconst 3, 1) := by decide +kernel
theorem dX5_readComparison_83 : decode cX5_readComparison 83 = .ok (.if_icmp .eq 24, 3) := by decide +kernel
theorem dX5_readComparison_86 : decode cX5_readComparison 86 = .ok (.aload_n 0, 1) := by decide +kernel
theorem dX5_readComparison_87 : decode cX5_readComparison 87 = .ok (.getfield 9, 3) := by decide +kernel
theorem dX5_readComparison_90 : decode cX5_readComparison 90 = .ok (.getfield 42, 3) := by decide +kernel
theorem dX5_readComparison_93 : decode cX5_readComparison 93 = .ok (.bipush 45, 2) := by decide +kernel
theorem dX5_readComparison_95 : decode cX5_readComparison 95 = .ok (.if_icmp .eq 12, 3) := by decide +kernel
theorem dX5_readComparison_98 : decode cX5_readComparison 98 = .ok (.aload_n 0, 1) := by decide +kernel
theorem dX5_readComparison_99 : decode cX5_readComparison 99 = .ok (.getfield 9, 3) := by decide +kernel
theorem dX5_readComparison_102 : decode cX5_readComparison 102 = .ok (.invokevirtual 51, 3) := by decide +kernel
theorem dX5_readComparison_105 : decode cX5_readComparison 105 = .ok (.iconst 0, 1) := by decide +kernel
theorem dX5_readComparison_106 : decode cX5_readComparison 106 = .ok (.ireturn, 1) := by decide +kernel
theorem dX5_readComparison_107 : decode cX5_readComparison 107 = .ok (.aload_n 0, 1) := by decide +kernel
theorem dX5_readComparison_108 : decode cX5_readComparison 108 = .ok (.getfield 9, 3) := by decide +kernel
theorem dX5_readComparison_111 : decode cX5_readComparison 111 = .ok (.invokevirtual 54, 3) := by decide +kernel
theorem dX5_readComparison_114 : decode cX5_readComparison 114 = .ok (.iconst 0, 1) := by decide +kernel
theorem dX5_readComparison_115 : decode cX5_readComparison 115 = .ok (.istore_n 3, 1) := by decide +kernel
theorem dX5_readComparison_116 : decode cX5_readComparison 116 = .ok (.iconst 0, 1) := by decide +kernel
theorem dX5_readComparison_117 : decode cX5_readComparison 117 = .ok (.istore 4, 2) := by decide +kernel
theorem dX5_readComparison_119 : decode cX5_readComparison 119 = .ok (.iload 4, 2) := by decide +kernel
theorem dX5_readComparison_121 : decode cX5_readComparison 121 = .ok (.aload_n 0, 1) := by decide +kernel
theorem dX5_readComparison_122 : decode cX5_readComparison 122 = .ok (.getfield 15, 3) := by decide +kernel
theorem dX5_readComparison_125 : decode cX5_readComparison 125 = .ok (.getfield 126, 3) := by decide +kernel
theorem dX5_readComparison_128 : decode cX5_readComparison 128 = .ok (.if_icmp .ge 47, 3) := by decide +kernel
theorem dX5_readComparison_131 : decode cX5_readComparison 131 = .ok (.aload_n 0, 1) := by decide +kernel
theorem dX5_readComparison_132 : decode cX5_readComparison 132 = .ok (.getfield 15, 3) := by decide +kernel
theorem dX5_readComparison_135 : decode cX5_readComparison 135 = .ok (.getfield 129, 3) := by decide +kernel
theorem dX5_readComparison_138 : decode cX5_readComparison 138 = .ok (.iload 4, 2) := by decide +kernel
theorem dX5_readComparison_140 : decode cX5_readComparison 140 = .ok (.iaload, 1) := by decide +kernel
theorem dX5_readComparison_141 : decode cX5_readComparison 141 = .ok (.aload_n 0, 1) := by decide +kernel
theorem dX5_readComparison_142 : decode cX5_readComparison 142 = .ok (.getfield 65, 3) := by decide +kernel
theorem dX5_readComparison_145 : decode cX5_readComparison 145 = .ok (.if_icmp .ne 24, 3) := by decide +kernel
theorem dX5_readComparison_148 : decode cX5_readComparison 148 = .ok (.aload_n 0, 1) := by decide +kernel
theorem dX5_readComparison_149 : decode cX5_readComparison 149 = .ok (.iload 4, 2) := by decide +kernel
theorem dX5_readComparison_151 : decode cX5_readComparison 151 = .ok (.invokevirtual 132, 3) := by decide +kernel
theorem dX5_readComparison_154 : decode cX5_readComparison 154 = .ok (.iload_n 1, 1) := by decide +kernel
theorem dX5_readComparison_155 : decode cX5_readComparison 155 = .ok (.iload_n 2, 1) := by decide +kernel
theorem dX5_readComparison_156 : decode cX5_readComparison 156 = .ok (.invokestatic 135, 3) := by decide +kernel
theorem dX5_readComparison_159 : decode cX5_readComparison 159 = .ok (.ifCond .eq 10, 3) := by decide +kernel
theorem dX5_readComparison_162 : decode cX5_readComparison 162 = .ok (.iload_n 3, 1) := by decide +kernel
theorem dX5_readComparison_163 : decode cX5_readComparison 163 = .ok (.iconst 1, 1) := by decide +kernel
theorem dX5_readComparison_164 : decode cX5_readComparison 164 = .ok (.iload 4, 2) := by decide +kernel
theorem dX5_readComparison_166 : decode cX5_readComparison 166 = .ok (.ishl, 1) := by decide +kernel
theorem dX5_readComparison_167 : decode cX5_readComparison 167 = .ok (.ior, 1) := by decide +kernel
theorem dX5_readComparison_168 : decode cX5_readComparison 168 = .ok (.istore_n 3, 1) := by decide +kernel
theorem dX5_readComparison_169 : decode cX5_readComparison 169 = .ok (.iinc 4 1, 3) := by decide +kernel
theorem dX5_readComparison_172 : decode cX5_readComparison 172 = .ok (.goto (-53), 3) := by decide +kernel
theorem dX5_readComparison_175 : decode cX5_readComparison 175 = .ok (.iload_n 3, 1) := by decide +kernel
theorem dX5_readComparison_176 : decode cX5_readComparison 176 = .ok (.ireturn, 1) := by decide +kernel
theorem dX5_valueAlong_0 : decode cX5_valueAlong 0 = .ok (.iload_n 1, 1) := by decide +kernel
theorem dX5_valueAlong_1 : decode cX5_valueAlong 1 = .ok (.istore_n 2, 1) := by decide +kernel
theorem dX5_valueAlong_2 : decode cX5_valueAlong 2 = .ok (.iconst 0, 1) := by decide +kernel
theorem dX5_valueAlong_3 : decode cX5_valueAlong 3 = .ok (.istore_n 3, 1) := by decide +kernel
theorem dX5_valueAlong_4 : decode cX5_valueAlong 4 = .ok (.iload_n 3, 1) := by decide +kernel
theorem dX5_valueAlong_5 : decode cX5_valueAlong 5 = .ok (.aload_n 0, 1) := by decide +kernel
theorem dX5_valueAlong_6 : decode cX5_valueAlong 6 = .ok (.getfield 123, 3) := by decide +kernel
theorem dX5_valueAlong_9 : decode cX5_valueAlong 9 = .ok (.if_icmp .ge 33, 3) := by decide +kernel
theorem dX5_valueAlong_12 : decode cX5_valueAlong 12 = .ok (.iload_n 3, 1) := by decide +kernel
theorem dX5_valueAlong_13 : decode cX5_valueAlong 13 = .ok (.aload_n 0, 1) := by decide +kernel
theorem dX5_valueAlong_14 : decode cX5_valueAlong 14 = .ok (.getfield 23, 3) := by decide +kernel
theorem dX5_valueAlong_17 : decode cX5_valueAlong 17 = .ok (.arraylength, 1) := by decide +kernel
theorem dX5_valueAlong_18 : decode cX5_valueAlong 18 = .ok (.if_icmp .ge 24, 3) := by decide +kernel
theorem dX5_valueAlong_21 : decode cX5_valueAlong 21 = .ok (.aload_n 0, 1) := by decide +kernel
theorem dX5_valueAlong_22 : decode cX5_valueAlong 22 = .ok (.getfield 15, 3) := by decide +kernel
theorem dX5_valueAlong_25 : decode cX5_valueAlong 25 = .ok (.iload_n 2, 1) := by decide +kernel
theorem dX5_valueAlong_26 : decode cX5_valueAlong 26 = .ok (.aload_n 0, 1) := by decide +kernel
theorem dX5_valueAlong_27 : decode cX5_valueAlong 27 = .ok (.getfield 23, 3) := by decide +kernel
theorem dX5_valueAlong_30 : decode cX5_valueAlong 30 = .ok (.iload_n 3, 1) := by decide +kernel
theorem dX5_valueAlong_31 : decode cX5_valueAlong 31 = .ok (.iaload, 1) := by decide +kernel
theorem dX5_valueAlong_32 : decode cX5_valueAlong 32 = .ok (.invokevirtual 139, 3) := by decide +kernel
theorem dX5_valueAlong_35 : decode cX5_valueAlong 35 = .ok (.istore_n 2, 1) := by decide +kernel
theorem dX5_valueAlong_36 : decode cX5_valueAlong 36 = .ok (.iinc 3 1, 3) := by decide +kernel
theorem dX5_valueAlong_39 : decode cX5_valueAlong 39 = .ok (.goto (-35), 3) := by decide +kernel
theorem dX5_valueAlong_42 : decode cX5_valueAlong 42 = .ok (.iload_n 2, 1) := by decide +kernel
theorem dX5_valueAlong_43 : decode cX5_valueAlong 43 = .ok (.ireturn, 1) := by decide +kernel
theorem dX5_compares_0 : decode cX5_compares 0 = .ok (.iload_n 0, 1) := by decide +kernel
theorem dX5_compares_1 : decode cX5_compares 1 = .ok (.iconst (-1), 1) := by decide +kernel
theorem dX5_compares_2 : decode cX5_compares 2 = .ok (.if_icmp .eq 8, 3) := by decide +kernel
theorem dX5_compares_5 : decode cX5_compares 5 = .ok (.iload_n 2, 1) := by decide +kernel
theorem dX5_compares_6 : decode cX5_compares 6 = .ok (.iconst (-1), 1) := by decide +kernel
theorem dX5_compares_7 : decode cX5_compares 7 = .ok (.if_icmp .ne 20, 3) := by decide +kernel
theorem dX5_compares_10 : decode cX5_compares 10 = .ok (.iload_n 1, 1) := by decide +kernel
theorem dX5_compares_11 : decode cX5_compares 11 = .ok (.bipush 61, 2) := by decide +kernel
theorem dX5_compares_13 : decode cX5_compares 13 = .ok (.if_icmp .ne 12, 3) := by decide +kernel
theorem dX5_compares_16 : decode cX5_compares 16 = .ok (.iload_n 0, 1) := by decide +kernel
theorem dX5_compares_17 : decode cX5_compares 17 = .ok (.iload_n 2, 1) := by decide +kernel
theorem dX5_compares_18 : decode cX5_compares 18 = .ok (.if_icmp .ne 7, 3) := by decide +kernel
theorem dX5_compares_21 : decode cX5_compares 21 = .ok (.iconst 1, 1) := by decide +kernel
theorem dX5_compares_22 : decode cX5_compares 22 = .ok (.goto 4, 3) := by decide +kernel
theorem dX5_compares_25 : decode cX5_compares 25 = .ok (.iconst 0, 1) := by decide +kernel
theorem dX5_compares_26 : decode cX5_compares 26 = .ok (.ireturn, 1) := by decide +kernel
theorem dX5_compares_27 : decode cX5_compares 27 = .ok (.iload_n 1, 1) := by decide +kernel
theorem dX5_compares_28 : decode cX5_compares 28 = .ok (.bipush 61, 2) := by decide +kernel
theorem dX5_compares_30 : decode cX5_compares 30 = .ok (.if_icmp .ne 14, 3) := by decide +kernel
theorem dX5_compares_33 : decode cX5_compares 33 = .ok (.iload_n 0, 1) := by decide +kernel
theorem dX5_compares_34 : decode cX5_compares 34 = .ok (.iload_n 2, 1) := by decide +kernel
theorem dX5_compares_35 : decode cX5_compares 35 = .ok (.if_icmp .ne 7, 3) := by decide +kernel
theorem dX5_compares_38 : decode cX5_compares 38 = .ok (.iconst 1, 1) := by decide +kernel
theorem dX5_compares_39 : decode cX5_compares 39 = .ok (.goto 4, 3) := by decide +kernel
theorem dX5_compares_42 : decode cX5_compares 42 = .ok (.iconst 0, 1) := by decide +kernel
theorem dX5_compares_43 : decode cX5_compares 43 = .ok (.ireturn, 1) := by decide +kernel
theorem dX5_compares_44 : decode cX5_compares 44 = .ok (.iload_n 1, 1) := by decide +kernel
theorem dX5_compares_45 : decode cX5_compares 45 = .ok (.bipush 60, 2) := by decide +kernel
theorem dX5_compares_47 : decode cX5_compares 47 = .ok (.if_icmp .ne 16, 3) := by decide +kernel
theorem dX5_compares_50 : decode cX5_compares 50 = .ok (.iload_n 0, 1) := by decide +kernel
theorem dX5_compares_51 : decode cX5_compares 51 = .ok (.iload_n 2, 1) := by decide +kernel
theorem dX5_compares_52 : decode cX5_compares 52 = .ok (.if_icmp .ge 7, 3) := by decide +kernel
theorem dX5_compares_55 : decode cX5_compares 55 = .ok (.iconst 1, 1) := by decide +kernel
theorem dX5_compares_56 : decode cX5_compares 56 = .ok (.goto 17, 3) := by decide +kernel
theorem dX5_compares_59 : decode cX5_compares 59 = .ok (.iconst 0, 1) := by decide +kernel
theorem dX5_compares_60 : decode cX5_compares 60 = .ok (.goto 13, 3) := by decide +kernel
theorem dX5_compares_63 : decode cX5_compares 63 = .ok (.iload_n 0, 1) := by decide +kernel
theorem dX5_compares_64 : decode cX5_compares 64 = .ok (.iload_n 2, 1) := by decide +kernel
theorem dX5_compares_65 : decode cX5_compares 65 = .ok (.if_icmp .le 7, 3) := by decide +kernel
theorem dX5_compares_68 : decode cX5_compares 68 = .ok (.iconst 1, 1) := by decide +kernel
theorem dX5_compares_69 : decode cX5_compares 69 = .ok (.goto 4, 3) := by decide +kernel
theorem dX5_compares_72 : decode cX5_compares 72 = .ok (.iconst 0, 1) := by decide +kernel
theorem dX5_compares_73 : decode cX5_compares 73 = .ok (.ireturn, 1) := by decide +kernel
end
section
theorem dX6_init_0 : decode cX6_init 0 = .ok (.aload_n 0, 1) := by decide +kernel
theorem dX6_init_1 : decode cX6_init 1 = .ok (.invokespecial 1, 3) := by decide +kernel
theorem dX6_init_4 : decode cX6_init 4 = .ok (.aload_n 0, 1) := by decide +kernel
theorem dX6_init_5 : decode cX6_init 5 = .ok (.new 7, 3) := by decide +kernel
theorem dX6_init_8 : decode cX6_init 8 = .ok (.dup, 1) := by decide +kernel
theorem dX6_init_9 : decode cX6_init 9 = .ok (.invokespecial 9, 3) := by decide +kernel
theorem dX6_init_12 : decode cX6_init 12 = .ok (.putfield 10, 3) := by decide +kernel
theorem dX6_init_15 : decode cX6_init 15 = .ok (.aload_n 0, 1) := by decide +kernel
theorem dX6_init_16 : decode cX6_init 16 = .ok (.bipush 25, 2) := by decide +kernel
theorem dX6_init_18 : decode cX6_init 18 = .ok (.newarray .int, 2) := by decide +kernel
theorem dX6_init_20 : decode cX6_init 20 = .ok (.putfield 16, 3) := by decide +kernel
theorem dX6_init_23 : decode cX6_init 23 = .ok (.aload_n 0, 1) := by decide +kernel
theorem dX6_init_24 : decode cX6_init 24 = .ok (.bipush 16, 2) := by decide +kernel
theorem dX6_init_26 : decode cX6_init 26 = .ok (.newarray .int, 2) := by decide +kernel
theorem dX6_init_28 : decode cX6_init 28 = .ok (.putfield 20, 3) := by decide +kernel
theorem dX6_init_31 : decode cX6_init 31 = .ok (.aload_n 0, 1) := by decide +kernel
theorem dX6_init_32 : decode cX6_init 32 = .ok (.new 23, 3) := by decide +kernel
theorem dX6_init_35 : decode cX6_init 35 = .ok (.dup, 1) := by decide +kernel
theorem dX6_init_36 : decode cX6_init 36 = .ok (.invokespecial 25, 3) := by decide +kernel
theorem dX6_init_39 : decode cX6_init 39 = .ok (.putfield 26, 3) := by decide +kernel
theorem dX6_init_42 : decode cX6_init 42 = .ok (.aload_n 0, 1) := by decide +kernel
theorem dX6_init_43 : decode cX6_init 43 = .ok (.new 23, 3) := by decide +kernel
theorem dX6_init_46 : decode cX6_init 46 = .ok (.dup, 1) := by decide +kernel
theorem dX6_init_47 : decode cX6_init 47 = .ok (.invokespecial 25, 3) := by decide +kernel
theorem dX6_init_50 : decode cX6_init 50 = .ok (.putfield 30, 3) := by decide +kernel
theorem dX6_init_53 : decode cX6_init 53 = .ok (.aload_n 0, 1) := by decide +kernel
theorem dX6_init_54 : decode cX6_init 54 = .ok (.new 33, 3) := by decide +kernel
theorem dX6_init_57 : decode cX6_init 57 = .ok (.dup, 1) := by decide +kernel
theorem dX6_init_58 : decode cX6_init 58 = .ok (.invokespecial 35, 3) := by decide +kernel
theorem dX6_init_61 : decode cX6_init 61 = .ok (.putfield 36, 3) := by decide +kernel
theorem dX6_init_64 : decode cX6_init 64 = .ok (.aload_n 0, 1) := by decide +kernel
theorem dX6_init_65 : decode cX6_init 65 = .ok (.new 33, 3) := by decide +kernel
theorem dX6_init_68 : decode cX6_init 68 = .ok (.dup, 1) := by decide +kernel
theorem dX6_init_69 : decode cX6_init 69 = .ok (.invokespecial 35, 3) := by decide +kernel
theorem dX6_init_72 : decode cX6_init 72 = .ok (.putfield 40, 3) := by decide +kernel
theorem dX6_init_75 : decode cX6_init 75 = .ok (.aload_n 0, 1) := by decide +kernel
theorem dX6_init_76 : decode cX6_init 76 = .ok (.getfield 16, 3) := by decide +kernel
theorem dX6_init_79 : decode cX6_init 79 = .ok (.iconst (-1), 1) := by decide +kernel
theorem dX6_init_80 : decode cX6_init 80 = .ok (.invokestatic 43, 3) := by decide +kernel
theorem dX6_init_83 : decode cX6_init 83 = .ok (.return_, 1) := by decide +kernel
theorem dX6_feed_0 : decode cX6_feed 0 = .ok (.aload_n 0, 1) := by decide +kernel
theorem dX6_feed_1 : decode cX6_feed 1 = .ok (.getfield 10, 3) := by decide +kernel
theorem dX6_feed_4 : decode cX6_feed 4 = .ok (.getfield 49, 3) := by decide +kernel
theorem dX6_feed_7 : decode cX6_feed 7 = .ok (.bipush 20, 2) := by decide +kernel
theorem dX6_feed_9 : decode cX6_feed 9 = .ok (.iadd, 1) := by decide +kernel
theorem dX6_feed_10 : decode cX6_feed 10 = .ok (.sipush 1200, 3) := by decide +kernel
theorem dX6_feed_13 : decode cX6_feed 13 = .ok (.if_icmp .le 5, 3) := by decide +kernel
theorem dX6_feed_16 : decode cX6_feed 16 = .ok (.iconst (-1), 1) := by decide +kernel
theorem dX6_feed_17 : decode cX6_feed 17 = .ok (.ireturn, 1) := by decide +kernel
theorem dX6_feed_18 : decode cX6_feed 18 = .ok (.aload_n 0, 1) := by decide +kernel
theorem dX6_feed_19 : decode cX6_feed 19 = .ok (.getfield 10, 3) := by decide +kernel
theorem dX6_feed_22 : decode cX6_feed 22 = .ok (.iload_n 1, 1) := by decide +kernel
theorem dX6_feed_23 : decode cX6_feed 23 = .ok (.invokevirtual 53, 3) := by decide +kernel
theorem dX6_feed_26 : decode cX6_feed 26 = .ok (.aload_n 0, 1) := by decide +kernel
theorem dX6_feed_27 : decode cX6_feed 27 = .ok (.getfield 10, 3) := by decide +kernel
theorem dX6_feed_30 : decode cX6_feed 30 = .ok (.iload_n 2, 1) := by decide +kernel
theorem dX6_feed_31 : decode cX6_feed 31 = .ok (.invokevirtual 53, 3) := by decide +kernel
theorem dX6_feed_34 : decode cX6_feed 34 = .ok (.aload_n 0, 1) := by decide +kernel
theorem dX6_feed_35 : decode cX6_feed 35 = .ok (.getfield 10, 3) := by decide +kernel
theorem dX6_feed_38 : decode cX6_feed 38 = .ok (.iload_n 3, 1) := by decide +kernel
theorem dX6_feed_39 : decode cX6_feed 39 = .ok (.invokevirtual 53, 3) := by decide +kernel
theorem dX6_feed_42 : decode cX6_feed 42 = .ok (.aload_n 0, 1) := by decide +kernel
theorem dX6_feed_43 : decode cX6_feed 43 = .ok (.getfield 10, 3) := by decide +kernel
theorem dX6_feed_46 : decode cX6_feed 46 = .ok (.iload 4, 2) := by decide +kernel
theorem dX6_feed_48 : decode cX6_feed 48 = .ok (.invokevirtual 53, 3) := by decide +kernel
theorem dX6_feed_51 : decode cX6_feed 51 = .ok (.aload_n 0, 1) := by decide +kernel
theorem dX6_feed_52 : decode cX6_feed 52 = .ok (.getfield 10, 3) := by decide +kernel
theorem dX6_feed_55 : decode cX6_feed 55 = .ok (.iload 5, 2) := by decide +kernel
theorem dX6_feed_57 : decode cX6_feed 57 = .ok (.invokevirtual 53, 3) := by decide +kernel
theorem dX6_feed_60 : decode cX6_feed 60 = .ok (.aload_n 0, 1) := by decide +kernel
theorem dX6_feed_61 : decode cX6_feed 61 = .ok (.getfield 10, 3) := by decide +kernel
theorem dX6_feed_64 : decode cX6_feed 64 = .ok (.getfield 49, 3) := by decide +kernel
theorem dX6_feed_67 : decode cX6_feed 67 = .ok (.ireturn, 1) := by decide +kernel
theorem dX6_end_0 : decode cX6_end 0 = .ok (.iload_n 1, 1) := by decide +kernel
theorem dX6_end_1 : decode cX6_end 1 = .ok (.ifCond .lt 14, 3) := by decide +kernel
theorem dX6_end_4 : decode cX6_end 4 = .ok (.iload_n 1, 1) := by decide +kernel
theorem dX6_end_5 : decode cX6_end 5 = .ok (.aload_n 0, 1) := by decide +kernel
theorem dX6_end_6 : decode cX6_end 6 = .ok (.getfield 10, 3) := by decide +kernel
theorem dX6_end_9 : decode cX6_end 9 = .ok (.getfield 49, 3) := by decide +kernel
theorem dX6_end_12 : decode cX6_end 12 = .ok (.if_icmp .le 5, 3) := by decide +kernel
theorem dX6_end_15 : decode cX6_end 15 = .ok (.iconst (-1), 1) := by decide +kernel
theorem dX6_end_16 : decode cX6_end 16 = .ok (.ireturn, 1) := by decide +kernel
theorem dX6_end_17 : decode cX6_end 17 = .ok (.aload_n 0, 1) := by decide +kernel
theorem dX6_end_18 : decode cX6_end 18 = .ok (.getfield 10, 3) := by decide +kernel
theorem dX6_end_21 : decode cX6_end 21 = .ok (.iload_n 1, 1) := by decide +kernel
theorem dX6_end_22 : decode cX6_end 22 = .ok (.putfield 49, 3) := by decide +kernel
theorem dX6_end_25 : decode cX6_end 25 = .ok (.iload_n 1, 1) := by decide +kernel
theorem dX6_end_26 : decode cX6_end 26 = .ok (.ireturn, 1) := by decide +kernel
theorem dX6_store_0 : decode cX6_store 0 = .ok (.new 57, 3) := by decide +kernel
theorem dX6_store_3 : decode cX6_store 3 = .ok (.dup, 1) := by decide +kernel
theorem dX6_store_4 : decode cX6_store 4 = .ok (.aload_n 0, 1) := by decide +kernel
theorem dX6_store_5 : decode cX6_store 5 = .ok (.getfield 10, 3) := by decide +kernel
theorem dX6_store_8 : decode cX6_store 8 = .ok (.aload_n 0, 1) := by decide +kernel
theorem dX6_store_9 : decode cX6_store 9 = .ok (.getfield 30, 3) := by decide +kernel
theorem dX6_store_12 : decode cX6_store 12 = .ok (.invokespecial 59, 3) := by decide +kernel
theorem dX6_store_15 : decode cX6_store 15 = .ok (.invokevirtual 62, 3) := by decide +kernel
theorem dX6_store_18 : decode cX6_store 18 = .ok (.istore_n 1, 1) := by decide +kernel
theorem dX6_store_19 : decode cX6_store 19 = .ok (.aload_n 0, 1) := by decide +kernel
theorem dX6_store_20 : decode cX6_store 20 = .ok (.getfield 10, 3) := by decide +kernel
theorem dX6_store_23 : decode cX6_store 23 = .ok (.iconst 0, 1) := by decide +kernel
theorem dX6_store_24 : decode cX6_store 24 = .ok (.putfield 49, 3) := by decide +kernel
theorem dX6_store_27 : decode cX6_store 27 = .ok (.iload_n 1, 1) := by decide +kernel
theorem dX6_store_28 : decode cX6_store 28 = .ok (.ifCond .ne 5, 3) := by decide +kernel
theorem dX6_store_31 : decode cX6_store 31 = .ok (.iconst (-1), 1) := by decide +kernel
theorem dX6_store_32 : decode cX6_store 32 = .ok (.ireturn, 1) := by decide +kernel
theorem dX6_store_33 : decode cX6_store 33 = .ok (.aload_n 0, 1) := by decide +kernel
theorem dX6_store_34 : decode cX6_store 34 = .ok (.getfield 26, 3) := by decide +kernel
theorem dX6_store_37 : decode cX6_store 37 = .ok (.astore_n 2, 1) := by decide +kernel
theorem dX6_store_38 : decode cX6_store 38 = .ok (.aload_n 0, 1) := by decide +kernel
theorem dX6_store_39 : decode cX6_store 39 = .ok (.aload_n 0, 1) := by decide +kernel
theorem dX6_store_40 : decode cX6_store 40 = .ok (.getfield 30, 3) := by decide +kernel
theorem dX6_store_43 : decode cX6_store 43 = .ok (.putfield 26, 3) := by decide +kernel
theorem dX6_store_46 : decode cX6_store 46 = .ok (.aload_n 0, 1) := by decide +kernel
theorem dX6_store_47 : decode cX6_store 47 = .ok (.aload_n 2, 1) := by decide +kernel
theorem dX6_store_48 : decode cX6_store 48 = .ok (.putfield 30, 3) := by decide +kernel
theorem dX6_store_51 : decode cX6_store 51 = .ok (.aload_n 0, 1) := by decide +kernel
theorem dX6_store_52 : decode cX6_store 52 = .ok (.getfield 36, 3) := by decide +kernel
theorem dX6_store_55 : decode cX6_store 55 = .ok (.invokevirtual 66, 3) := by decide +kernel
theorem dX6_store_58 : decode cX6_store 58 = .ok (.aload_n 0, 1) := by decide +kernel
theorem dX6_store_59 : decode cX6_store 59 = .ok (.iconst 0, 1) := by decide +kernel
theorem dX6_store_60 : decode cX6_store 60 = .ok (.putfield 69, 3) := by decide +kernel
theorem dX6_store_63 : decode cX6_store 63 = .ok (.aload_n 0, 1) := by decide +kernel
theorem dX6_store_64 : decode cX6_store 64 = .ok (.iconst 0, 1) := by decide +kernel
theorem dX6_store_65 : decode cX6_store 65 = .ok (.putfield 72, 3) := by decide +kernel
theorem dX6_store_68 : decode cX6_store 68 = .ok (.aload_n 0, 1) := by decide +kernel
theorem dX6_store_69 : decode cX6_store 69 = .ok (.getfield 16, 3) := by decide +kernel
theorem dX6_store_72 : decode cX6_store 72 = .ok (.iconst (-1), 1) := by decide +kernel
theorem dX6_store_73 : decode cX6_store 73 = .ok (.invokestatic 43, 3) := by decide +kernel
theorem dX6_store_76 : decode cX6_store 76 = .ok (.aload_n 0, 1) := by decide +kernel
theorem dX6_store_77 : decode cX6_store 77 = .ok (.invokevirtual 75, 3) := by decide +kernel
theorem dX6_store_80 : decode cX6_store 80 = .ok (.aload_n 0, 1) := by decide +kernel
theorem dX6_store_81 : decode cX6_store 81 = .ok (.getfield 26, 3) := by decide +kernel
theorem dX6_store_84 : decode cX6_store 84 = .ok (.getfield 78, 3) := by decide +kernel
theorem dX6_store_87 : decode cX6_store 87 = .ok (.ireturn, 1) := by decide +kernel
theorem dX6_wishes_0 : decode cX6_wishes 0 = .ok (.aload_n 0, 1) := by decide +kernel
theorem dX6_wishes_1 : decode cX6_wishes 1 = .ok (.getfield 10, 3) := by decide +kernel
theorem dX6_wishes_4 : decode cX6_wishes 4 = .ok (.getfield 49, 3) := by decide +kernel
theorem dX6_wishes_7 : decode cX6_wishes 7 = .ok (.sipush 600, 3) := by decide +kernel
theorem dX6_wishes_10 : decode cX6_wishes 10 = .ok (.if_icmp .le 6, 3) := by decide +kernel
theorem dX6_wishes_13 : decode cX6_wishes 13 = .ok (.bipush (-2), 2) := by decide +kernel
theorem dX6_wishes_15 : decode cX6_wishes 15 = .ok (.ireturn, 1) := by decide +kernel
theorem dX6_wishes_16 : decode cX6_wishes 16 = .ok (.new 81, 3) := by decide +kernel
theorem dX6_wishes_19 : decode cX6_wishes 19 = .ok (.dup, 1) := by decide +kernel
theorem dX6_wishes_20 : decode cX6_wishes 20 = .ok (.aload_n 0, 1) := by decide +kernel
theorem dX6_wishes_21 : decode cX6_wishes 21 = .ok (.getfield 10, 3) := by decide +kernel
theorem dX6_wishes_24 : decode cX6_wishes 24 = .ok (.aload_n 0, 1) := by decide +kernel
theorem dX6_wishes_25 : decode cX6_wishes 25 = .ok (.getfield 26, 3) := by decide +kernel
theorem dX6_wishes_28 : decode cX6_wishes 28 = .ok (.aload_n 0, 1) := by decide +kernel
theorem dX6_wishes_29 : decode cX6_wishes 29 = .ok (.getfield 40, 3) := by decide +kernel
theorem dX6_wishes_32 : decode cX6_wishes 32 = .ok (.invokespecial 83, 3) := by decide +kernel
theorem dX6_wishes_35 : decode cX6_wishes 35 = .ok (.invokevirtual 86, 3) := by decide +kernel
theorem dX6_wishes_38 : decode cX6_wishes 38 = .ok (.istore_n 1, 1) := by decide +kernel
theorem dX6_wishes_39 : decode cX6_wishes 39 = .ok (.aload_n 0, 1) := by decide +kernel
theorem dX6_wishes_40 : decode cX6_wishes 40 = .ok (.getfield 10, 3) := by decide +kernel
theorem dX6_wishes_43 : decode cX6_wishes 43 = .ok (.iconst 0, 1) := by decide +kernel
theorem dX6_wishes_44 : decode cX6_wishes 44 = .ok (.putfield 49, 3) := by decide +kernel
theorem dX6_wishes_47 : decode cX6_wishes 47 = .ok (.iload_n 1, 1) := by decide +kernel
theorem dX6_wishes_48 : decode cX6_wishes 48 = .ok (.ifCond .ne 5, 3) := by decide +kernel
theorem dX6_wishes_51 : decode cX6_wishes 51 = .ok (.iconst (-1), 1) := by decide +kernel
theorem dX6_wishes_52 : decode cX6_wishes 52 = .ok (.ireturn, 1) := by decide +kernel
theorem dX6_wishes_53 : decode cX6_wishes 53 = .ok (.aload_n 0, 1) := by decide +kernel
theorem dX6_wishes_54 : decode cX6_wishes 54 = .ok (.getfield 36, 3) := by decide +kernel
theorem dX6_wishes_57 : decode cX6_wishes 57 = .ok (.astore_n 2, 1) := by decide +kernel
theorem dX6_wishes_58 : decode cX6_wishes 58 = .ok (.aload_n 0, 1) := by decide +kernel
theorem dX6_wishes_59 : decode cX6_wishes 59 = .ok (.aload_n 0, 1) := by decide +kernel
theorem dX6_wishes_60 : decode cX6_wishes 60 = .ok (.getfield 40, 3) := by decide +kernel
theorem dX6_wishes_63 : decode cX6_wishes 63 = .ok (.putfield 36, 3) := by decide +kernel
theorem dX6_wishes_66 : decode cX6_wishes 66 = .ok (.aload_n 0, 1) := by decide +kernel
theorem dX6_wishes_67 : decode cX6_wishes 67 = .ok (.aload_n 2, 1) := by decide +kernel
theorem dX6_wishes_68 : decode cX6_wishes 68 = .ok (.putfield 40, 3) := by decide +kernel
theorem dX6_wishes_71 : decode cX6_wishes 71 = .ok (.aload_n 0, 1) := by decide +kernel
theorem dX6_wishes_72 : decode cX6_wishes 72 = .ok (.getfield 36, 3) := by decide +kernel
theorem dX6_wishes_75 : decode cX6_wishes 75 = .ok (.aload_n 0, 1) := by decide +kernel
theorem dX6_wishes_76 : decode cX6_wishes 76 = .ok (.getfield 69, 3) := by decide +kernel
theorem dX6_wishes_79 : decode cX6_wishes 79 = .ok (.invokevirtual 87, 3) := by decide +kernel
theorem dX6_wishes_82 : decode cX6_wishes 82 = .ok (.aload_n 0, 1) := by decide +kernel
theorem dX6_wishes_83 : decode cX6_wishes 83 = .ok (.invokevirtual 75, 3) := by decide +kernel
theorem dX6_wishes_86 : decode cX6_wishes 86 = .ok (.aload_n 0, 1) := by decide +kernel
theorem dX6_wishes_87 : decode cX6_wishes 87 = .ok (.getfield 36, 3) := by decide +kernel
theorem dX6_wishes_90 : decode cX6_wishes 90 = .ok (.getfield 90, 3) := by decide +kernel
theorem dX6_wishes_93 : decode cX6_wishes 93 = .ok (.ireturn, 1) := by decide +kernel
theorem dX6_fault_0 : decode cX6_fault 0 = .ok (.iload_n 1, 1) := by decide +kernel
theorem dX6_fault_1 : decode cX6_fault 1 = .ok (.ifCond .ne 11, 3) := by decide +kernel
theorem dX6_fault_4 : decode cX6_fault 4 = .ok (.aload_n 0, 1) := by decide +kernel
theorem dX6_fault_5 : decode cX6_fault 5 = .ok (.getfield 10, 3) := by decide +kernel
theorem dX6_fault_8 : decode cX6_fault 8 = .ok (.getfield 93, 3) := by decide +kernel
theorem dX6_fault_11 : decode cX6_fault 11 = .ok (.ireturn, 1) := by decide +kernel
theorem dX6_fault_12 : decode cX6_fault 12 = .ok (.iload_n 1, 1) := by decide +kernel
theorem dX6_fault_13 : decode cX6_fault 13 = .ok (.iconst 1, 1) := by decide +kernel
theorem dX6_fault_14 : decode cX6_fault 14 = .ok (.if_icmp .ne 13, 3) := by decide +kernel
theorem dX6_fault_17 : decode cX6_fault 17 = .ok (.aload_n 0, 1) := by decide +kernel
theorem dX6_fault_18 : decode cX6_fault 18 = .ok (.getfield 10, 3) := by decide +kernel
theorem dX6_fault_21 : decode cX6_fault 21 = .ok (.getfield 96, 3) := by decide +kernel
theorem dX6_fault_24 : decode cX6_fault 24 = .ok (.goto 4, 3) := by decide +kernel
theorem dX6_fault_27 : decode cX6_fault 27 = .ok (.iconst (-1), 1) := by decide +kernel
theorem dX6_fault_28 : decode cX6_fault 28 = .ok (.ireturn, 1) := by decide +kernel
theorem dX6_row_0 : decode cX6_row 0 = .ok (.aload_n 0, 1) := by decide +kernel
theorem dX6_row_1 : decode cX6_row 1 = .ok (.getfield 26, 3) := by decide +kernel
theorem dX6_row_4 : decode cX6_row 4 = .ok (.iload_n 1, 1) := by decide +kernel
theorem dX6_row_5 : decode cX6_row 5 = .ok (.invokevirtual 99, 3) := by decide +kernel
theorem dX6_row_8 : decode cX6_row 8 = .ok (.ifCond .ne 5, 3) := by decide +kernel
theorem dX6_row_11 : decode cX6_row 11 = .ok (.iconst (-1), 1) := by decide +kernel
theorem dX6_row_12 : decode cX6_row 12 = .ok (.ireturn, 1) := by decide +kernel
theorem dX6_row_13 : decode cX6_row 13 = .ok (.iload_n 2, 1) := by decide +kernel
theorem dX6_row_14 : decode cX6_row 14 = .ok (.tableswitch 63 0 2 #[26, 36, 46], 26) := by decide +kernel
theorem dX6_row_40 : decode cX6_row 40 = .ok (.aload_n 0, 1) := by decide +kernel
theorem dX6_row_41 : decode cX6_row 41 = .ok (.getfield 26, 3) := by decide +kernel
theorem dX6_row_44 : decode cX6_row 44 = .ok (.getfield 103, 3) := by decide +kernel
theorem dX6_row_47 : decode cX6_row 47 = .ok (.iload_n 1, 1) := by decide +kernel
theorem dX6_row_48 : decode cX6_row 48 = .ok (.iaload, 1) := by decide +kernel
theorem dX6_row_49 : decode cX6_row 49 = .ok (.ireturn, 1) := by decide +kernel
theorem dX6_row_50 : decode cX6_row 50 = .ok (.aload_n 0, 1) := by decide +kernel
theorem dX6_row_51 : decode cX6_row 51 = .ok (.getfield 26, 3) := by decide +kernel
theorem dX6_row_54 : decode cX6_row 54 = .ok (.getfield 106, 3) := by decide +kernel
theorem dX6_row_57 : decode cX6_row 57 = .ok (.iload_n 1, 1) := by decide +kernel
theorem dX6_row_58 : decode cX6_row 58 = .ok (.iaload, 1) := by decide +kernel
theorem dX6_row_59 : decode cX6_row 59 = .ok (.ireturn, 1) := by decide +kernel
theorem dX6_row_60 : decode cX6_row 60 = .ok (.aload_n 0, 1) := by decide +kernel
theorem dX6_row_61 : decode cX6_row 61 = .ok (.getfield 69, 3) := by decide +kernel
theorem dX6_row_64 : decode cX6_row 64 = .ok (.iload_n 1, 1) := by decide +kernel
theorem dX6_row_65 : decode cX6_row 65 = .ok (.invokestatic 109, 3) := by decide +kernel
theorem dX6_row_68 : decode cX6_row 68 = .ok (.ifCond .eq 7, 3) := by decide +kernel
theorem dX6_row_71 : decode cX6_row 71 = .ok (.iconst 1, 1) := by decide +kernel
theorem dX6_row_72 : decode cX6_row 72 = .ok (.goto 4, 3) := by decide +kernel
theorem dX6_row_75 : decode cX6_row 75 = .ok (.iconst 0, 1) := by decide +kernel
theorem dX6_row_76 : decode cX6_row 76 = .ok (.ireturn, 1) := by decide +kernel
theorem dX6_row_77 : decode cX6_row 77 = .ok (.iconst (-1), 1) := by decide +kernel
theorem dX6_row_78 : decode cX6_row 78 = .ok (.ireturn, 1) := by decide +kernel
theorem dX6_value_0 : decode cX6_value 0 = .ok (.aload_n 0, 1) := by decide +kernel
theorem dX6_value_1 : decode cX6_value 1 = .ok (.getfield 26, 3) := by decide +kernel
theorem dX6_value_4 : decode cX6_value 4 = .ok (.iload_n 1, 1) := by decide +kernel
theorem dX6_value_5 : decode cX6_value 5 = .ok (.iload_n 2, 1) := by decide +kernel
theorem dX6_value_6 : decode cX6_value 6 = .ok (.invokevirtual 113, 3) := by decide +kernel
theorem dX6_value_9 : decode cX6_value 9 = .ok (.ireturn, 1) := by decide +kernel
theorem dX6_holds_0 : decode cX6_holds 0 = .ok (.aload_n 0, 1) := by decide +kernel
theorem dX6_holds_1 : decode cX6_holds 1 = .ok (.getfield 36, 3) := by decide +kernel
theorem dX6_holds_4 : decode cX6_holds 4 = .ok (.iload_n 1, 1) := by decide +kernel
theorem dX6_holds_5 : decode cX6_holds 5 = .ok (.invokevirtual 117, 3) := by decide +kernel
theorem dX6_holds_8 : decode cX6_holds 8 = .ok (.ifCond .eq 14, 3) := by decide +kernel
theorem dX6_holds_11 : decode cX6_holds 11 = .ok (.aload_n 0, 1) := by decide +kernel
theorem dX6_holds_12 : decode cX6_holds 12 = .ok (.getfield 26, 3) := by decide +kernel
theorem dX6_holds_15 : decode cX6_holds 15 = .ok (.iload_n 2, 1) := by decide +kernel
theorem dX6_holds_16 : decode cX6_holds 16 = .ok (.invokevirtual 99, 3) := by decide +kernel
theorem dX6_holds_19 : decode cX6_holds 19 = .ok (.ifCond .ne 5, 3) := by decide +kernel
theorem dX6_holds_22 : decode cX6_holds 22 = .ok (.iconst (-1), 1) := by decide +kernel
theorem dX6_holds_23 : decode cX6_holds 23 = .ok (.ireturn, 1) := by decide +kernel
theorem dX6_holds_24 : decode cX6_holds 24 = .ok (.aload_n 0, 1) := by decide +kernel
theorem dX6_holds_25 : decode cX6_holds 25 = .ok (.getfield 26, 3) := by decide +kernel
theorem dX6_holds_28 : decode cX6_holds 28 = .ok (.getfield 103, 3) := by decide +kernel
theorem dX6_holds_31 : decode cX6_holds 31 = .ok (.iload_n 2, 1) := by decide +kernel
theorem dX6_holds_32 : decode cX6_holds 32 = .ok (.iaload, 1) := by decide +kernel
theorem dX6_holds_33 : decode cX6_holds 33 = .ok (.aload_n 0, 1) := by decide +kernel
theorem dX6_holds_34 : decode cX6_holds 34 = .ok (.getfield 36, 3) := by decide +kernel
theorem dX6_holds_37 : decode cX6_holds 37 = .ok (.getfield 120, 3) := by decide +kernel
theorem dX6_holds_40 : decode cX6_holds 40 = .ok (.iload_n 1, 1) := by decide +kernel
theorem dX6_holds_41 : decode cX6_holds 41 = .ok (.iaload, 1) := by decide +kernel
theorem dX6_holds_42 : decode cX6_holds 42 = .ok (.if_icmp .eq 5, 3) := by decide +kernel
theorem dX6_holds_45 : decode cX6_holds 45 = .ok (.iconst (-1), 1) := by decide +kernel
theorem dX6_holds_46 : decode cX6_holds 46 = .ok (.ireturn, 1) := by decide +kernel
theorem dX6_holds_47 : decode cX6_holds 47 = .ok (.aload_n 0, 1) := by decide +kernel
theorem dX6_holds_48 : decode cX6_holds 48 = .ok (.getfield 36, 3) := by decide +kernel
theorem dX6_holds_51 : decode cX6_holds 51 = .ok (.getfield 123, 3) := by decide +kernel
theorem dX6_holds_54 : decode cX6_holds 54 = .ok (.iload_n 1, 1) := by decide +kernel
theorem dX6_holds_55 : decode cX6_holds 55 = .ok (.iaload, 1) := by decide +kernel
theorem dX6_holds_56 : decode cX6_holds 56 = .ok (.iload_n 2, 1) := by decide +kernel
theorem dX6_holds_57 : decode cX6_holds 57 = .ok (.invokestatic 109, 3) := by decide +kernel
theorem dX6_holds_60 : decode cX6_holds 60 = .ok (.ifCond .eq 7, 3) := by decide +kernel
theorem dX6_holds_63 : decode cX6_holds 63 = .ok (.iconst 1, 1) := by decide +kernel
theorem dX6_holds_64 : decode cX6_holds 64 = .ok (.goto 4, 3) := by decide +kernel
theorem dX6_holds_67 : decode cX6_holds 67 = .ok (.iconst 0, 1) := by decide +kernel
theorem dX6_holds_68 : decode cX6_holds 68 = .ok (.ireturn, 1) := by decide +kernel
theorem dX6_gone_0 : decode cX6_gone 0 = .ok (.aload_n 0, 1) := by decide +kernel
theorem dX6_gone_1 : decode cX6_gone 1 = .ok (.getfield 26, 3) := by decide +kernel
theorem dX6_gone_4 : decode cX6_gone 4 = .ok (.iload_n 1, 1) := by decide +kernel
theorem dX6_gone_5 : decode cX6_gone 5 = .ok (.invokevirtual 99, 3) := by decide +kernel
theorem dX6_gone_8 : decode cX6_gone 8 = .ok (.ifCond .eq 31, 3) := by decide +kernel
theorem dX6_gone_11 : decode cX6_gone 11 = .ok (.aload_n 0, 1) := by decide +kernel
theorem dX6_gone_12 : decode cX6_gone 12 = .ok (.getfield 69, 3) := by decide +kernel
theorem dX6_gone_15 : decode cX6_gone 15 = .ok (.iload_n 1, 1) := by decide +kernel
theorem dX6_gone_16 : decode cX6_gone 16 = .ok (.invokestatic 109, 3) := by decide +kernel
theorem dX6_gone_19 : decode cX6_gone 19 = .ok (.ifCond .ne 20, 3) := by decide +kernel
theorem dX6_gone_22 : decode cX6_gone 22 = .ok (.aload_n 0, 1) := by decide +kernel
theorem dX6_gone_23 : decode cX6_gone 23 = .ok (.getfield 26, 3) := by decide +kernel
theorem dX6_gone_26 : decode cX6_gone 26 = .ok (.aload_n 0, 1) := by decide +kernel
theorem dX6_gone_27 : decode cX6_gone 27 = .ok (.getfield 69, 3) := by decide +kernel
theorem dX6_gone_30 : decode cX6_gone 30 = .ok (.iconst (-1), 1) := by decide +kernel
theorem dX6_gone_31 : decode cX6_gone 31 = .ok (.ixor, 1) := by decide +kernel
theorem dX6_gone_32 : decode cX6_gone 32 = .ok (.iload_n 1, 1) := by decide +kernel
theorem dX6_gone_33 : decode cX6_gone 33 = .ok (.invokevirtual 126, 3) := by decide +kernel
theorem dX6_gone_36 : decode cX6_gone 36 = .ok (.ifCond .eq 5, 3) := by decide +kernel
theorem dX6_gone_39 : decode cX6_gone 39 = .ok (.iconst 0, 1) := by decide +kernel
theorem dX6_gone_40 : decode cX6_gone 40 = .ok (.ireturn, 1) := by decide +kernel
theorem dX6_gone_41 : decode cX6_gone 41 = .ok (.aload_n 0, 1) := by decide +kernel
theorem dX6_gone_42 : decode cX6_gone 42 = .ok (.dup, 1) := by decide +kernel
theorem dX6_gone_43 : decode cX6_gone 43 = .ok (.getfield 69, 3) := by decide +kernel
theorem dX6_gone_46 : decode cX6_gone 46 = .ok (.iconst 1, 1) := by decide +kernel
theorem dX6_gone_47 : decode cX6_gone 47 = .ok (.iload_n 1, 1) := by decide +kernel
theorem dX6_gone_48 : decode cX6_gone 48 = .ok (.ishl, 1) := by decide +kernel
theorem dX6_gone_49 : decode cX6_gone 49 = .ok (.ior, 1) := by decide +kernel
theorem dX6_gone_50 : decode cX6_gone 50 = .ok (.putfield 69, 3) := by decide +kernel
theorem dX6_gone_53 : decode cX6_gone 53 = .ok (.aload_n 0, 1) := by decide +kernel
theorem dX6_gone_54 : decode cX6_gone 54 = .ok (.getfield 36, 3) := by decide +kernel
theorem dX6_gone_57 : decode cX6_gone 57 = .ok (.aload_n 0, 1) := by decide +kernel
theorem dX6_gone_58 : decode cX6_gone 58 = .ok (.getfield 69, 3) := by decide +kernel
theorem dX6_gone_61 : decode cX6_gone 61 = .ok (.invokevirtual 87, 3) := by decide +kernel
theorem dX6_gone_64 : decode cX6_gone 64 = .ok (.aload_n 0, 1) := by decide +kernel
theorem dX6_gone_65 : decode cX6_gone 65 = .ok (.invokevirtual 75, 3) := by decide +kernel
theorem dX6_gone_68 : decode cX6_gone 68 = .ok (.iconst 1, 1) := by decide +kernel
theorem dX6_gone_69 : decode cX6_gone 69 = .ok (.ireturn, 1) := by decide +kernel
theorem dX6_least_0 : decode cX6_least 0 = .ok (.aload_n 0, 1) := by decide +kernel
theorem dX6_least_1 : decode cX6_least 1 = .ok (.getfield 129, 3) := by decide +kernel
theorem dX6_least_4 : decode cX6_least 4 = .ok (.ifCond .ne 66, 3) := by decide +kernel
theorem dX6_least_7 : decode cX6_least 7 = .ok (.aload_n 0, 1) := by decide +kernel
theorem dX6_least_8 : decode cX6_least 8 = .ok (.new 133, 3) := by decide +kernel
theorem dX6_least_11 : decode cX6_least 11 = .ok (.dup, 1) := by decide +kernel
theorem dX6_least_12 : decode cX6_least 12 = .ok (.aload_n 0, 1) := by decide +kernel
theorem dX6_least_13 : decode cX6_least 13 = .ok (.getfield 26, 3) := by decide +kernel
theorem dX6_least_16 : decode cX6_least 16 = .ok (.aload_n 0, 1) := by decide +kernel
theorem dX6_least_17 : decode cX6_least 17 = .ok (.getfield 36, 3) := by decide +kernel
theorem dX6_least_20 : decode cX6_least 20 = .ok (.aload_n 0, 1) := by decide +kernel
theorem dX6_least_21 : decode cX6_least 21 = .ok (.getfield 69, 3) := by decide +kernel
theorem dX6_least_24 : decode cX6_least 24 = .ok (.iconst 0, 1) := by decide +kernel
theorem dX6_least_25 : decode cX6_least 25 = .ok (.invokespecial 135, 3) := by decide +kernel
theorem dX6_least_28 : decode cX6_least 28 = .ok (.invokevirtual 138, 3) := by decide +kernel
theorem dX6_least_31 : decode cX6_least 31 = .ok (.putfield 142, 3) := by decide +kernel
theorem dX6_least_34 : decode cX6_least 34 = .ok (.aload_n 0, 1) := by decide +kernel
theorem dX6_least_35 : decode cX6_least 35 = .ok (.iconst 1, 1) := by decide +kernel
theorem dX6_least_36 : decode cX6_least 36 = .ok (.putfield 129, 3) := by decide +kernel
theorem dX6_least_39 : decode cX6_least 39 = .ok (.aload_n 0, 1) := by decide +kernel
theorem dX6_least_40 : decode cX6_least 40 = .ok (.aload_n 0, 1) := by decide +kernel
theorem dX6_least_41 : decode cX6_least 41 = .ok (.getfield 142, 3) := by decide +kernel
theorem dX6_least_44 : decode cX6_least 44 = .ok (.iconst (-1), 1) := by decide +kernel
theorem dX6_least_45 : decode cX6_least 45 = .ok (.if_icmp .ne 7, 3) := by decide +kernel
theorem dX6_least_48 : decode cX6_least 48 = .ok (.iconst 0, 1) := by decide +kernel
theorem dX6_least_49 : decode cX6_least 49 = .ok (.goto 18, 3) := by decide +kernel
theorem dX6_least_52 : decode cX6_least 52 = .ok (.aload_n 0, 1) := by decide +kernel
theorem dX6_least_53 : decode cX6_least 53 = .ok (.getfield 26, 3) := by decide +kernel
theorem dX6_least_56 : decode cX6_least 56 = .ok (.aload_n 0, 1) := by decide +kernel
theorem dX6_least_57 : decode cX6_least 57 = .ok (.getfield 142, 3) := by decide +kernel
theorem dX6_least_60 : decode cX6_least 60 = .ok (.aload_n 0, 1) := by decide +kernel
theorem dX6_least_61 : decode cX6_least 61 = .ok (.getfield 20, 3) := by decide +kernel
theorem dX6_least_64 : decode cX6_least 64 = .ok (.invokevirtual 145, 3) := by decide +kernel
theorem dX6_least_67 : decode cX6_least 67 = .ok (.putfield 149, 3) := by decide +kernel
theorem dX6_least_70 : decode cX6_least 70 = .ok (.aload_n 0, 1) := by decide +kernel
theorem dX6_least_71 : decode cX6_least 71 = .ok (.getfield 142, 3) := by decide +kernel
theorem dX6_least_74 : decode cX6_least 74 = .ok (.ireturn, 1) := by decide +kernel
theorem dX6_keep_0 : decode cX6_keep 0 = .ok (.aload_n 0, 1) := by decide +kernel
theorem dX6_keep_1 : decode cX6_keep 1 = .ok (.invokevirtual 152, 3) := by decide +kernel
theorem dX6_keep_4 : decode cX6_keep 4 = .ok (.istore_n 1, 1) := by decide +kernel
theorem dX6_keep_5 : decode cX6_keep 5 = .ok (.iload_n 1, 1) := by decide +kernel
theorem dX6_keep_6 : decode cX6_keep 6 = .ok (.iconst (-1), 1) := by decide +kernel
theorem dX6_keep_7 : decode cX6_keep 7 = .ok (.if_icmp .ne 5, 3) := by decide +kernel
theorem dX6_keep_10 : decode cX6_keep 10 = .ok (.iconst 0, 1) := by decide +kernel
theorem dX6_keep_11 : decode cX6_keep 11 = .ok (.ireturn, 1) := by decide +kernel
theorem dX6_keep_12 : decode cX6_keep 12 = .ok (.aload_n 0, 1) := by decide +kernel
theorem dX6_keep_13 : decode cX6_keep 13 = .ok (.iload_n 1, 1) := by decide +kernel
theorem dX6_keep_14 : decode cX6_keep 14 = .ok (.putfield 72, 3) := by decide +kernel
theorem dX6_keep_17 : decode cX6_keep 17 = .ok (.aload_n 0, 1) := by decide +kernel
theorem dX6_keep_18 : decode cX6_keep 18 = .ok (.iconst 0, 1) := by decide +kernel
theorem dX6_keep_19 : decode cX6_keep 19 = .ok (.putfield 155, 3) := by decide +kernel
theorem dX6_keep_22 : decode cX6_keep 22 = .ok (.iconst 1, 1) := by decide +kernel
theorem dX6_keep_23 : decode cX6_keep 23 = .ok (.ireturn, 1) := by decide +kernel
theorem dX6_steady_0 : decode cX6_steady 0 = .ok (.aload_n 0, 1) := by decide +kernel
theorem dX6_steady_1 : decode cX6_steady 1 = .ok (.getfield 155, 3) := by decide +kernel
theorem dX6_steady_4 : decode cX6_steady 4 = .ok (.ifCond .ne 38, 3) := by decide +kernel
theorem dX6_steady_7 : decode cX6_steady 7 = .ok (.aload_n 0, 1) := by decide +kernel
theorem dX6_steady_8 : decode cX6_steady 8 = .ok (.new 133, 3) := by decide +kernel
theorem dX6_steady_11 : decode cX6_steady 11 = .ok (.dup, 1) := by decide +kernel
theorem dX6_steady_12 : decode cX6_steady 12 = .ok (.aload_n 0, 1) := by decide +kernel
theorem dX6_steady_13 : decode cX6_steady 13 = .ok (.getfield 26, 3) := by decide +kernel
theorem dX6_steady_16 : decode cX6_steady 16 = .ok (.aload_n 0, 1) := by decide +kernel
theorem dX6_steady_17 : decode cX6_steady 17 = .ok (.getfield 36, 3) := by decide +kernel
theorem dX6_steady_20 : decode cX6_steady 20 = .ok (.aload_n 0, 1) := by decide +kernel
theorem dX6_steady_21 : decode cX6_steady 21 = .ok (.getfield 69, 3) := by decide +kernel
theorem dX6_steady_24 : decode cX6_steady 24 = .ok (.aload_n 0, 1) := by decide +kernel
theorem dX6_steady_25 : decode cX6_steady 25 = .ok (.getfield 72, 3) := by decide +kernel
theorem dX6_steady_28 : decode cX6_steady 28 = .ok (.invokespecial 135, 3) := by decide +kernel
theorem dX6_steady_31 : decode cX6_steady 31 = .ok (.invokevirtual 138, 3) := by decide +kernel
theorem dX6_steady_34 : decode cX6_steady 34 = .ok (.putfield 158, 3) := by decide +kernel
theorem dX6_steady_37 : decode cX6_steady 37 = .ok (.aload_n 0, 1) := by decide +kernel
theorem dX6_steady_38 : decode cX6_steady 38 = .ok (.iconst 1, 1) := by decide +kernel
theorem dX6_steady_39 : decode cX6_steady 39 = .ok (.putfield 155, 3) := by decide +kernel
theorem dX6_steady_42 : decode cX6_steady 42 = .ok (.aload_n 0, 1) := by decide +kernel
theorem dX6_steady_43 : decode cX6_steady 43 = .ok (.getfield 158, 3) := by decide +kernel
theorem dX6_steady_46 : decode cX6_steady 46 = .ok (.ireturn, 1) := by decide +kernel
theorem dX6_piece_0 : decode cX6_piece 0 = .ok (.iload_n 1, 1) := by decide +kernel
theorem dX6_piece_1 : decode cX6_piece 1 = .ok (.aload_n 0, 1) := by decide +kernel
theorem dX6_piece_2 : decode cX6_piece 2 = .ok (.getfield 26, 3) := by decide +kernel
theorem dX6_piece_5 : decode cX6_piece 5 = .ok (.invokevirtual 161, 3) := by decide +kernel
theorem dX6_piece_8 : decode cX6_piece 8 = .ok (.iconst (-1), 1) := by decide +kernel
theorem dX6_piece_9 : decode cX6_piece 9 = .ok (.ixor, 1) := by decide +kernel
theorem dX6_piece_10 : decode cX6_piece 10 = .ok (.iand, 1) := by decide +kernel
theorem dX6_piece_11 : decode cX6_piece 11 = .ok (.ifCond .eq 5, 3) := by decide +kernel
theorem dX6_piece_14 : decode cX6_piece 14 = .ok (.iconst (-1), 1) := by decide +kernel
theorem dX6_piece_15 : decode cX6_piece 15 = .ok (.ireturn, 1) := by decide +kernel
theorem dX6_piece_16 : decode cX6_piece 16 = .ok (.new 133, 3) := by decide +kernel
theorem dX6_piece_19 : decode cX6_piece 19 = .ok (.dup, 1) := by decide +kernel
theorem dX6_piece_20 : decode cX6_piece 20 = .ok (.aload_n 0, 1) := by decide +kernel
theorem dX6_piece_21 : decode cX6_piece 21 = .ok (.getfield 26, 3) := by decide +kernel
theorem dX6_piece_24 : decode cX6_piece 24 = .ok (.aload_n 0, 1) := by decide +kernel
theorem dX6_piece_25 : decode cX6_piece 25 = .ok (.getfield 36, 3) := by decide +kernel
theorem dX6_piece_28 : decode cX6_piece 28 = .ok (.aload_n 0, 1) := by decide +kernel
theorem dX6_piece_29 : decode cX6_piece 29 = .ok (.getfield 69, 3) := by decide +kernel
theorem dX6_piece_32 : decode cX6_piece 32 = .ok (.iconst 0, 1) := by decide +kernel
theorem dX6_piece_33 : decode cX6_piece 33 = .ok (.invokespecial 135, 3) := by decide +kernel
theorem dX6_piece_36 : decode cX6_piece 36 = .ok (.iload_n 1, 1) := by decide +kernel
theorem dX6_piece_37 : decode cX6_piece 37 = .ok (.invokevirtual 164, 3) := by decide +kernel
theorem dX6_piece_40 : decode cX6_piece 40 = .ok (.ifCond .eq 7, 3) := by decide +kernel
theorem dX6_piece_43 : decode cX6_piece 43 = .ok (.iconst 1, 1) := by decide +kernel
theorem dX6_piece_44 : decode cX6_piece 44 = .ok (.goto 4, 3) := by decide +kernel
theorem dX6_piece_47 : decode cX6_piece 47 = .ok (.iconst 0, 1) := by decide +kernel
theorem dX6_piece_48 : decode cX6_piece 48 = .ok (.ireturn, 1) := by decide +kernel
theorem dX6_why_0 : decode cX6_why 0 = .ok (.aload_n 0, 1) := by decide +kernel
theorem dX6_why_1 : decode cX6_why 1 = .ok (.invokevirtual 152, 3) := by decide +kernel
theorem dX6_why_4 : decode cX6_why 4 = .ok (.istore_n 2, 1) := by decide +kernel
theorem dX6_why_5 : decode cX6_why 5 = .ok (.iload_n 2, 1) := by decide +kernel
theorem dX6_why_6 : decode cX6_why 6 = .ok (.iconst (-1), 1) := by decide +kernel
theorem dX6_why_7 : decode cX6_why 7 = .ok (.if_icmp .eq 14, 3) := by decide +kernel
theorem dX6_why_10 : decode cX6_why 10 = .ok (.aload_n 0, 1) := by decide +kernel
theorem dX6_why_11 : decode cX6_why 11 = .ok (.getfield 26, 3) := by decide +kernel
theorem dX6_why_14 : decode cX6_why 14 = .ok (.iload_n 1, 1) := by decide +kernel
theorem dX6_why_15 : decode cX6_why 15 = .ok (.invokevirtual 99, 3) := by decide +kernel
theorem dX6_why_18 : decode cX6_why 18 = .ok (.ifCond .ne 5, 3) := by decide +kernel
theorem dX6_why_21 : decode cX6_why 21 = .ok (.iconst (-1), 1) := by decide +kernel
theorem dX6_why_22 : decode cX6_why 22 = .ok (.ireturn, 1) := by decide +kernel
theorem dX6_why_23 : decode cX6_why 23 = .ok (.iload_n 2, 1) := by decide +kernel
theorem dX6_why_24 : decode cX6_why 24 = .ok (.iload_n 1, 1) := by decide +kernel
theorem dX6_why_25 : decode cX6_why 25 = .ok (.invokestatic 109, 3) := by decide +kernel
theorem dX6_why_28 : decode cX6_why 28 = .ok (.ifCond .ne 5, 3) := by decide +kernel
theorem dX6_why_31 : decode cX6_why 31 = .ok (.iconst 0, 1) := by decide +kernel
theorem dX6_why_32 : decode cX6_why 32 = .ok (.ireturn, 1) := by decide +kernel
theorem dX6_why_33 : decode cX6_why 33 = .ok (.iload_n 2, 1) := by decide +kernel
theorem dX6_why_34 : decode cX6_why 34 = .ok (.iconst 1, 1) := by decide +kernel
theorem dX6_why_35 : decode cX6_why 35 = .ok (.iload_n 1, 1) := by decide +kernel
theorem dX6_why_36 : decode cX6_why 36 = .ok (.ishl, 1) := by decide +kernel
theorem dX6_why_37 : decode cX6_why 37 = .ok (.iconst (-1), 1) := by decide +kernel
theorem dX6_why_38 : decode cX6_why 38 = .ok (.ixor, 1) := by decide +kernel
theorem dX6_why_39 : decode cX6_why 39 = .ok (.iand, 1) := by decide +kernel
theorem dX6_why_40 : decode cX6_why 40 = .ok (.istore_n 3, 1) := by decide +kernel
theorem dX6_why_41 : decode cX6_why 41 = .ok (.aload_n 0, 1) := by decide +kernel
theorem dX6_why_42 : decode cX6_why 42 = .ok (.getfield 36, 3) := by decide +kernel
theorem dX6_why_45 : decode cX6_why 45 = .ok (.iload_n 3, 1) := by decide +kernel
theorem dX6_why_46 : decode cX6_why 46 = .ok (.invokevirtual 167, 3) := by decide +kernel
theorem dX6_why_49 : decode cX6_why 49 = .ok (.ifCond .ne 5, 3) := by decide +kernel
theorem dX6_why_52 : decode cX6_why 52 = .ok (.iconst 1, 1) := by decide +kernel
theorem dX6_why_53 : decode cX6_why 53 = .ok (.ireturn, 1) := by decide +kernel
theorem dX6_why_54 : decode cX6_why 54 = .ok (.aload_n 0, 1) := by decide +kernel
theorem dX6_why_55 : decode cX6_why 55 = .ok (.getfield 26, 3) := by decide +kernel
theorem dX6_why_58 : decode cX6_why 58 = .ok (.iload_n 3, 1) := by decide +kernel
theorem dX6_why_59 : decode cX6_why 59 = .ok (.iload_n 1, 1) := by decide +kernel
theorem dX6_why_60 : decode cX6_why 60 = .ok (.invokevirtual 126, 3) := by decide +kernel
theorem dX6_why_63 : decode cX6_why 63 = .ok (.ifCond .eq 7, 3) := by decide +kernel
theorem dX6_why_66 : decode cX6_why 66 = .ok (.iconst 2, 1) := by decide +kernel
theorem dX6_why_67 : decode cX6_why 67 = .ok (.goto 4, 3) := by decide +kernel
theorem dX6_why_70 : decode cX6_why 70 = .ok (.iconst 3, 1) := by decide +kernel
theorem dX6_why_71 : decode cX6_why 71 = .ok (.ireturn, 1) := by decide +kernel
theorem dX6_order_0 : decode cX6_order 0 = .ok (.aload_n 0, 1) := by decide +kernel
theorem dX6_order_1 : decode cX6_order 1 = .ok (.invokevirtual 152, 3) := by decide +kernel
theorem dX6_order_4 : decode cX6_order 4 = .ok (.iconst (-1), 1) := by decide +kernel
theorem dX6_order_5 : decode cX6_order 5 = .ok (.if_icmp .eq 24, 3) := by decide +kernel
theorem dX6_order_8 : decode cX6_order 8 = .ok (.iload_n 1, 1) := by decide +kernel
theorem dX6_order_9 : decode cX6_order 9 = .ok (.ifCond .lt 20, 3) := by decide +kernel
theorem dX6_order_12 : decode cX6_order 12 = .ok (.iload_n 1, 1) := by decide +kernel
theorem dX6_order_13 : decode cX6_order 13 = .ok (.aload_n 0, 1) := by decide +kernel
theorem dX6_order_14 : decode cX6_order 14 = .ok (.getfield 149, 3) := by decide +kernel
theorem dX6_order_17 : decode cX6_order 17 = .ok (.if_icmp .ge 12, 3) := by decide +kernel
theorem dX6_order_20 : decode cX6_order 20 = .ok (.iload_n 1, 1) := by decide +kernel
theorem dX6_order_21 : decode cX6_order 21 = .ok (.aload_n 0, 1) := by decide +kernel
theorem dX6_order_22 : decode cX6_order 22 = .ok (.getfield 20, 3) := by decide +kernel
theorem dX6_order_25 : decode cX6_order 25 = .ok (.arraylength, 1) := by decide +kernel
theorem dX6_order_26 : decode cX6_order 26 = .ok (.if_icmp .lt 5, 3) := by decide +kernel
theorem dX6_order_29 : decode cX6_order 29 = .ok (.iconst (-1), 1) := by decide +kernel
theorem dX6_order_30 : decode cX6_order 30 = .ok (.ireturn, 1) := by decide +kernel
theorem dX6_order_31 : decode cX6_order 31 = .ok (.aload_n 0, 1) := by decide +kernel
theorem dX6_order_32 : decode cX6_order 32 = .ok (.getfield 20, 3) := by decide +kernel
theorem dX6_order_35 : decode cX6_order 35 = .ok (.iload_n 1, 1) := by decide +kernel
theorem dX6_order_36 : decode cX6_order 36 = .ok (.iaload, 1) := by decide +kernel
theorem dX6_order_37 : decode cX6_order 37 = .ok (.ireturn, 1) := by decide +kernel
theorem dX6_rings_0 : decode cX6_rings 0 = .ok (.aload_n 0, 1) := by decide +kernel
theorem dX6_rings_1 : decode cX6_rings 1 = .ok (.invokevirtual 152, 3) := by decide +kernel
theorem dX6_rings_4 : decode cX6_rings 4 = .ok (.istore_n 1, 1) := by decide +kernel
theorem dX6_rings_5 : decode cX6_rings 5 = .ok (.iload_n 1, 1) := by decide +kernel
theorem dX6_rings_6 : decode cX6_rings 6 = .ok (.iconst (-1), 1) := by decide +kernel
theorem dX6_rings_7 : decode cX6_rings 7 = .ok (.if_icmp .ne 7, 3) := by decide +kernel
theorem dX6_rings_10 : decode cX6_rings 10 = .ok (.iconst (-1), 1) := by decide +kernel
theorem dX6_rings_11 : decode cX6_rings 11 = .ok (.goto 12, 3) := by decide +kernel
theorem dX6_rings_14 : decode cX6_rings 14 = .ok (.iload_n 1, 1) := by decide +kernel
theorem dX6_rings_15 : decode cX6_rings 15 = .ok (.invokestatic 170, 3) := by decide +kernel
theorem dX6_rings_18 : decode cX6_rings 18 = .ok (.aload_n 0, 1) := by decide +kernel
theorem dX6_rings_19 : decode cX6_rings 19 = .ok (.getfield 149, 3) := by decide +kernel
theorem dX6_rings_22 : decode cX6_rings 22 = .ok (.isub, 1) := by decide +kernel
theorem dX6_rings_23 : decode cX6_rings 23 = .ok (.ireturn, 1) := by decide +kernel
theorem dX6_hide_0 : decode cX6_hide 0 = .ok (.aload_n 0, 1) := by decide +kernel
theorem dX6_hide_1 : decode cX6_hide 1 = .ok (.getfield 26, 3) := by decide +kernel
theorem dX6_hide_4 : decode cX6_hide 4 = .ok (.iload_n 1, 1) := by decide +kernel
theorem dX6_hide_5 : decode cX6_hide 5 = .ok (.iload_n 2, 1) := by decide +kernel
theorem dX6_hide_6 : decode cX6_hide 6 = .ok (.invokevirtual 176, 3) := by decide +kernel
theorem dX6_hide_9 : decode cX6_hide 9 = .ok (.ifCond .eq 15, 3) := by decide +kernel
theorem dX6_hide_12 : decode cX6_hide 12 = .ok (.iload_n 3, 1) := by decide +kernel
theorem dX6_hide_13 : decode cX6_hide 13 = .ok (.iconst (-1), 1) := by decide +kernel
theorem dX6_hide_14 : decode cX6_hide 14 = .ok (.if_icmp .lt 10, 3) := by decide +kernel
theorem dX6_hide_17 : decode cX6_hide 17 = .ok (.iload_n 3, 1) := by decide +kernel
theorem dX6_hide_18 : decode cX6_hide 18 = .ok (.sipush 9999, 3) := by decide +kernel
theorem dX6_hide_21 : decode cX6_hide 21 = .ok (.if_icmp .le 5, 3) := by decide +kernel
theorem dX6_hide_24 : decode cX6_hide 24 = .ok (.iconst 0, 1) := by decide +kernel
theorem dX6_hide_25 : decode cX6_hide 25 = .ok (.ireturn, 1) := by decide +kernel
theorem dX6_hide_26 : decode cX6_hide 26 = .ok (.aload_n 0, 1) := by decide +kernel
theorem dX6_hide_27 : decode cX6_hide 27 = .ok (.getfield 16, 3) := by decide +kernel
theorem dX6_hide_30 : decode cX6_hide 30 = .ok (.iload_n 1, 1) := by decide +kernel
theorem dX6_hide_31 : decode cX6_hide 31 = .ok (.iload_n 2, 1) := by decide +kernel
theorem dX6_hide_32 : decode cX6_hide 32 = .ok (.invokestatic 179, 3) := by decide +kernel
theorem dX6_hide_35 : decode cX6_hide 35 = .ok (.iload_n 3, 1) := by decide +kernel
theorem dX6_hide_36 : decode cX6_hide 36 = .ok (.iastore, 1) := by decide +kernel
theorem dX6_hide_37 : decode cX6_hide 37 = .ok (.iconst 1, 1) := by decide +kernel
theorem dX6_hide_38 : decode cX6_hide 38 = .ok (.ireturn, 1) := by decide +kernel
theorem dX6_shown_0 : decode cX6_shown 0 = .ok (.aload_n 0, 1) := by decide +kernel
theorem dX6_shown_1 : decode cX6_shown 1 = .ok (.getfield 26, 3) := by decide +kernel
theorem dX6_shown_4 : decode cX6_shown 4 = .ok (.iload_n 1, 1) := by decide +kernel
theorem dX6_shown_5 : decode cX6_shown 5 = .ok (.iload_n 2, 1) := by decide +kernel
theorem dX6_shown_6 : decode cX6_shown 6 = .ok (.invokevirtual 113, 3) := by decide +kernel
theorem dX6_shown_9 : decode cX6_shown 9 = .ok (.istore_n 3, 1) := by decide +kernel
theorem dX6_shown_10 : decode cX6_shown 10 = .ok (.iload_n 3, 1) := by decide +kernel
theorem dX6_shown_11 : decode cX6_shown 11 = .ok (.iconst (-1), 1) := by decide +kernel
theorem dX6_shown_12 : decode cX6_shown 12 = .ok (.if_icmp .eq 14, 3) := by decide +kernel
theorem dX6_shown_15 : decode cX6_shown 15 = .ok (.aload_n 0, 1) := by decide +kernel
theorem dX6_shown_16 : decode cX6_shown 16 = .ok (.getfield 26, 3) := by decide +kernel
theorem dX6_shown_19 : decode cX6_shown 19 = .ok (.iload_n 1, 1) := by decide +kernel
theorem dX6_shown_20 : decode cX6_shown 20 = .ok (.invokevirtual 99, 3) := by decide +kernel
theorem dX6_shown_23 : decode cX6_shown 23 = .ok (.ifCond .ne 5, 3) := by decide +kernel
theorem dX6_shown_26 : decode cX6_shown 26 = .ok (.iconst (-1), 1) := by decide +kernel
theorem dX6_shown_27 : decode cX6_shown 27 = .ok (.ireturn, 1) := by decide +kernel
theorem dX6_shown_28 : decode cX6_shown 28 = .ok (.aload_n 0, 1) := by decide +kernel
theorem dX6_shown_29 : decode cX6_shown 29 = .ok (.getfield 16, 3) := by decide +kernel
theorem dX6_shown_32 : decode cX6_shown 32 = .ok (.aload_n 0, 1) := by decide +kernel
theorem dX6_shown_33 : decode cX6_shown 33 = .ok (.getfield 26, 3) := by decide +kernel
theorem dX6_shown_36 : decode cX6_shown 36 = .ok (.getfield 103, 3) := by decide +kernel
theorem dX6_shown_39 : decode cX6_shown 39 = .ok (.iload_n 1, 1) := by decide +kernel
theorem dX6_shown_40 : decode cX6_shown 40 = .ok (.iaload, 1) := by decide +kernel
theorem dX6_shown_41 : decode cX6_shown 41 = .ok (.iload_n 2, 1) := by decide +kernel
theorem dX6_shown_42 : decode cX6_shown 42 = .ok (.invokestatic 179, 3) := by decide +kernel
theorem dX6_shown_45 : decode cX6_shown 45 = .ok (.iaload, 1) := by decide +kernel
theorem dX6_shown_46 : decode cX6_shown 46 = .ok (.istore 4, 2) := by decide +kernel
theorem dX6_shown_48 : decode cX6_shown 48 = .ok (.iload 4, 2) := by decide +kernel
theorem dX6_shown_50 : decode cX6_shown 50 = .ok (.iconst (-1), 1) := by decide +kernel
theorem dX6_shown_51 : decode cX6_shown 51 = .ok (.if_icmp .ne 7, 3) := by decide +kernel
theorem dX6_shown_54 : decode cX6_shown 54 = .ok (.iload_n 3, 1) := by decide +kernel
theorem dX6_shown_55 : decode cX6_shown 55 = .ok (.goto 9, 3) := by decide +kernel
theorem dX6_shown_58 : decode cX6_shown 58 = .ok (.iload_n 3, 1) := by decide +kernel
theorem dX6_shown_59 : decode cX6_shown 59 = .ok (.iload 4, 2) := by decide +kernel
theorem dX6_shown_61 : decode cX6_shown 61 = .ok (.invokestatic 182, 3) := by decide +kernel
theorem dX6_shown_64 : decode cX6_shown 64 = .ok (.ireturn, 1) := by decide +kernel
theorem dX6_weight_0 : decode cX6_weight 0 = .ok (.aload_n 0, 1) := by decide +kernel
theorem dX6_weight_1 : decode cX6_weight 1 = .ok (.invokevirtual 152, 3) := by decide +kernel
theorem dX6_weight_4 : decode cX6_weight 4 = .ok (.istore 4, 2) := by decide +kernel
theorem dX6_weight_6 : decode cX6_weight 6 = .ok (.iload 4, 2) := by decide +kernel
theorem dX6_weight_8 : decode cX6_weight 8 = .ok (.iconst (-1), 1) := by decide +kernel
theorem dX6_weight_9 : decode cX6_weight 9 = .ok (.if_icmp .eq 15, 3) := by decide +kernel
theorem dX6_weight_12 : decode cX6_weight 12 = .ok (.aload_n 0, 1) := by decide +kernel
theorem dX6_weight_13 : decode cX6_weight 13 = .ok (.getfield 26, 3) := by decide +kernel
theorem dX6_weight_16 : decode cX6_weight 16 = .ok (.iload_n 1, 1) := by decide +kernel
theorem dX6_weight_17 : decode cX6_weight 17 = .ok (.iload_n 2, 1) := by decide +kernel
theorem dX6_weight_18 : decode cX6_weight 18 = .ok (.invokevirtual 176, 3) := by decide +kernel
theorem dX6_weight_21 : decode cX6_weight 21 = .ok (.ifCond .ne 5, 3) := by decide +kernel
theorem dX6_weight_24 : decode cX6_weight 24 = .ok (.iconst (-1), 1) := by decide +kernel
theorem dX6_weight_25 : decode cX6_weight 25 = .ok (.ireturn, 1) := by decide +kernel
theorem dX6_weight_26 : decode cX6_weight 26 = .ok (.aload_n 0, 1) := by decide +kernel
theorem dX6_weight_27 : decode cX6_weight 27 = .ok (.getfield 26, 3) := by decide +kernel
theorem dX6_weight_30 : decode cX6_weight 30 = .ok (.iload_n 1, 1) := by decide +kernel
theorem dX6_weight_31 : decode cX6_weight 31 = .ok (.iload_n 2, 1) := by decide +kernel
theorem dX6_weight_32 : decode cX6_weight 32 = .ok (.aload_n 0, 1) := by decide +kernel
theorem dX6_weight_33 : decode cX6_weight 33 = .ok (.getfield 69, 3) := by decide +kernel
theorem dX6_weight_36 : decode cX6_weight 36 = .ok (.iconst (-1), 1) := by decide +kernel
theorem dX6_weight_37 : decode cX6_weight 37 = .ok (.ixor, 1) := by decide +kernel
theorem dX6_weight_38 : decode cX6_weight 38 = .ok (.invokevirtual 185, 3) := by decide +kernel
theorem dX6_weight_41 : decode cX6_weight 41 = .ok (.istore 5, 2) := by decide +kernel
theorem dX6_weight_43 : decode cX6_weight 43 = .ok (.aload_n 0, 1) := by decide +kernel
theorem dX6_weight_44 : decode cX6_weight 44 = .ok (.getfield 26, 3) := by decide +kernel
theorem dX6_weight_47 : decode cX6_weight 47 = .ok (.iload_n 1, 1) := by decide +kernel
theorem dX6_weight_48 : decode cX6_weight 48 = .ok (.iload_n 2, 1) := by decide +kernel
theorem dX6_weight_49 : decode cX6_weight 49 = .ok (.iload 4, 2) := by decide +kernel
theorem dX6_weight_51 : decode cX6_weight 51 = .ok (.invokevirtual 185, 3) := by decide +kernel
theorem dX6_weight_54 : decode cX6_weight 54 = .ok (.istore 6, 2) := by decide +kernel
theorem dX6_weight_56 : decode cX6_weight 56 = .ok (.iload 5, 2) := by decide +kernel
theorem dX6_weight_58 : decode cX6_weight 58 = .ok (.iload 6, 2) := by decide +kernel
theorem dX6_weight_60 : decode cX6_weight 60 = .ok (.invokestatic 189, 3) := by decide +kernel
theorem dX6_weight_63 : decode cX6_weight 63 = .ok (.istore 7, 2) := by decide +kernel
theorem dX6_weight_65 : decode cX6_weight 65 = .ok (.iload 6, 2) := by decide +kernel
theorem dX6_weight_67 : decode cX6_weight 67 = .ok (.ifCond .eq 8, 3) := by decide +kernel
theorem dX6_weight_70 : decode cX6_weight 70 = .ok (.iload 7, 2) := by decide +kernel
theorem dX6_weight_72 : decode cX6_weight 72 = .ok (.ifCond .ne 5, 3) := by decide +kernel
theorem dX6_weight_75 : decode cX6_weight 75 = .ok (.iconst (-1), 1) := by decide +kernel
theorem dX6_weight_76 : decode cX6_weight 76 = .ok (.ireturn, 1) := by decide +kernel
theorem dX6_weight_77 : decode cX6_weight 77 = .ok (.iload_n 3, 1) := by decide +kernel
theorem dX6_weight_78 : decode cX6_weight 78 = .ok (.ifCond .eq 11, 3) := by decide +kernel
theorem dX6_weight_81 : decode cX6_weight 81 = .ok (.iload 6, 2) := by decide +kernel
theorem dX6_weight_83 : decode cX6_weight 83 = .ok (.iload 7, 2) := by decide +kernel
theorem dX6_weight_85 : decode cX6_weight 85 = .ok (.idiv, 1) := by decide +kernel
theorem dX6_weight_86 : decode cX6_weight 86 = .ok (.goto 8, 3) := by decide +kernel
theorem dX6_weight_89 : decode cX6_weight 89 = .ok (.iload 5, 2) := by decide +kernel
theorem dX6_weight_91 : decode cX6_weight 91 = .ok (.iload 7, 2) := by decide +kernel
theorem dX6_weight_93 : decode cX6_weight 93 = .ok (.idiv, 1) := by decide +kernel
theorem dX6_weight_94 : decode cX6_weight 94 = .ok (.ireturn, 1) := by decide +kernel
theorem dX6_about_0 : decode cX6_about 0 = .ok (.iload_n 1, 1) := by decide +kernel
theorem dX6_about_1 : decode cX6_about 1 = .ok (.tableswitch 84 0 5 #[39, 47, 55, 63, 71, 76], 39) := by decide +kernel
theorem dX6_about_40 : decode cX6_about 40 = .ok (.aload_n 0, 1) := by decide +kernel
theorem dX6_about_41 : decode cX6_about 41 = .ok (.getfield 26, 3) := by decide +kernel
theorem dX6_about_44 : decode cX6_about 44 = .ok (.getfield 192, 3) := by decide +kernel
theorem dX6_about_47 : decode cX6_about 47 = .ok (.ireturn, 1) := by decide +kernel
theorem dX6_about_48 : decode cX6_about 48 = .ok (.aload_n 0, 1) := by decide +kernel
theorem dX6_about_49 : decode cX6_about 49 = .ok (.getfield 26, 3) := by decide +kernel
theorem dX6_about_52 : decode cX6_about 52 = .ok (.getfield 78, 3) := by decide +kernel
theorem dX6_about_55 : decode cX6_about 55 = .ok (.ireturn, 1) := by decide +kernel
theorem dX6_about_56 : decode cX6_about 56 = .ok (.aload_n 0, 1) := by decide +kernel
theorem dX6_about_57 : decode cX6_about 57 = .ok (.getfield 36, 3) := by decide +kernel
theorem dX6_about_60 : decode cX6_about 60 = .ok (.getfield 90, 3) := by decide +kernel
theorem dX6_about_63 : decode cX6_about 63 = .ok (.ireturn, 1) := by decide +kernel
theorem dX6_about_64 : decode cX6_about 64 = .ok (.aload_n 0, 1) := by decide +kernel
theorem dX6_about_65 : decode cX6_about 65 = .ok (.getfield 69, 3) := by decide +kernel
theorem dX6_about_68 : decode cX6_about 68 = .ok (.invokestatic 170, 3) := by decide +kernel
theorem dX6_about_71 : decode cX6_about 71 = .ok (.ireturn, 1) := by decide +kernel
theorem dX6_about_72 : decode cX6_about 72 = .ok (.aload_n 0, 1) := by decide +kernel
theorem dX6_about_73 : decode cX6_about 73 = .ok (.getfield 72, 3) := by decide +kernel
theorem dX6_about_76 : decode cX6_about 76 = .ok (.ireturn, 1) := by decide +kernel
theorem dX6_about_77 : decode cX6_about 77 = .ok (.aload_n 0, 1) := by decide +kernel
theorem dX6_about_78 : decode cX6_about 78 = .ok (.getfield 10, 3) := by decide +kernel
theorem dX6_about_81 : decode cX6_about 81 = .ok (.getfield 49, 3) := by decide +kernel
theorem dX6_about_84 : decode cX6_about 84 = .ok (.ireturn, 1) := by decide +kernel
theorem dX6_about_85 : decode cX6_about 85 = .ok (.aload_n 0, 1) := by decide +kernel
theorem dX6_about_86 : decode cX6_about 86 = .ok (.iload_n 1, 1) := by decide +kernel
theorem dX6_about_87 : decode cX6_about 87 = .ok (.invokevirtual 194, 3) := by decide +kernel
theorem dX6_about_90 : decode cX6_about 90 = .ok (.ireturn, 1) := by decide +kernel
theorem dX6_aboutTable_0 : decode cX6_aboutTable 0 = .ok (.iload_n 1, 1) := by decide +kernel
theorem dX6_aboutTable_1 : decode cX6_aboutTable 1 = .ok (.bipush 10, 2) := by decide +kernel
theorem dX6_aboutTable_3 : decode cX6_aboutTable 3 = .ok (.if_icmp .lt 30, 3) := by decide +kernel
theorem dX6_aboutTable_6 : decode cX6_aboutTable 6 = .ok (.aload_n 0, 1) := by decide +kernel
theorem dX6_aboutTable_7 : decode cX6_aboutTable 7 = .ok (.getfield 26, 3) := by decide +kernel
theorem dX6_aboutTable_10 : decode cX6_aboutTable 10 = .ok (.iload_n 1, 1) := by decide +kernel
theorem dX6_aboutTable_11 : decode cX6_aboutTable 11 = .ok (.bipush 10, 2) := by decide +kernel
theorem dX6_aboutTable_13 : decode cX6_aboutTable 13 = .ok (.isub, 1) := by decide +kernel
theorem dX6_aboutTable_14 : decode cX6_aboutTable 14 = .ok (.invokevirtual 197, 3) := by decide +kernel
theorem dX6_aboutTable_17 : decode cX6_aboutTable 17 = .ok (.ifCond .eq 16, 3) := by decide +kernel
theorem dX6_aboutTable_20 : decode cX6_aboutTable 20 = .ok (.aload_n 0, 1) := by decide +kernel
theorem dX6_aboutTable_21 : decode cX6_aboutTable 21 = .ok (.getfield 26, 3) := by decide +kernel
theorem dX6_aboutTable_24 : decode cX6_aboutTable 24 = .ok (.getfield 200, 3) := by decide +kernel
theorem dX6_aboutTable_27 : decode cX6_aboutTable 27 = .ok (.iload_n 1, 1) := by decide +kernel
theorem dX6_aboutTable_28 : decode cX6_aboutTable 28 = .ok (.bipush 10, 2) := by decide +kernel
theorem dX6_aboutTable_30 : decode cX6_aboutTable 30 = .ok (.isub, 1) := by decide +kernel
theorem dX6_aboutTable_31 : decode cX6_aboutTable 31 = .ok (.iaload, 1) := by decide +kernel
theorem dX6_aboutTable_32 : decode cX6_aboutTable 32 = .ok (.ireturn, 1) := by decide +kernel
theorem dX6_aboutTable_33 : decode cX6_aboutTable 33 = .ok (.iload_n 1, 1) := by decide +kernel
theorem dX6_aboutTable_34 : decode cX6_aboutTable 34 = .ok (.bipush 20, 2) := by decide +kernel
theorem dX6_aboutTable_36 : decode cX6_aboutTable 36 = .ok (.if_icmp .lt 30, 3) := by decide +kernel
theorem dX6_aboutTable_39 : decode cX6_aboutTable 39 = .ok (.aload_n 0, 1) := by decide +kernel
theorem dX6_aboutTable_40 : decode cX6_aboutTable 40 = .ok (.getfield 26, 3) := by decide +kernel
theorem dX6_aboutTable_43 : decode cX6_aboutTable 43 = .ok (.iload_n 1, 1) := by decide +kernel
theorem dX6_aboutTable_44 : decode cX6_aboutTable 44 = .ok (.bipush 20, 2) := by decide +kernel
theorem dX6_aboutTable_46 : decode cX6_aboutTable 46 = .ok (.isub, 1) := by decide +kernel
theorem dX6_aboutTable_47 : decode cX6_aboutTable 47 = .ok (.invokevirtual 197, 3) := by decide +kernel
theorem dX6_aboutTable_50 : decode cX6_aboutTable 50 = .ok (.ifCond .eq 16, 3) := by decide +kernel
theorem dX6_aboutTable_53 : decode cX6_aboutTable 53 = .ok (.aload_n 0, 1) := by decide +kernel
theorem dX6_aboutTable_54 : decode cX6_aboutTable 54 = .ok (.getfield 26, 3) := by decide +kernel
theorem dX6_aboutTable_57 : decode cX6_aboutTable 57 = .ok (.getfield 203, 3) := by decide +kernel
theorem dX6_aboutTable_60 : decode cX6_aboutTable 60 = .ok (.iload_n 1, 1) := by decide +kernel
theorem dX6_aboutTable_61 : decode cX6_aboutTable 61 = .ok (.bipush 20, 2) := by decide +kernel
theorem dX6_aboutTable_63 : decode cX6_aboutTable 63 = .ok (.isub, 1) := by decide +kernel
theorem dX6_aboutTable_64 : decode cX6_aboutTable 64 = .ok (.iaload, 1) := by decide +kernel
theorem dX6_aboutTable_65 : decode cX6_aboutTable 65 = .ok (.ireturn, 1) := by decide +kernel
theorem dX6_aboutTable_66 : decode cX6_aboutTable 66 = .ok (.iconst (-1), 1) := by decide +kernel
theorem dX6_aboutTable_67 : decode cX6_aboutTable 67 = .ok (.ireturn, 1) := by decide +kernel
theorem dX6_forgetPieces_0 : decode cX6_forgetPieces 0 = .ok (.aload_n 0, 1) := by decide +kernel
theorem dX6_forgetPieces_1 : decode cX6_forgetPieces 1 = .ok (.iconst 0, 1) := by decide +kernel
theorem dX6_forgetPieces_2 : decode cX6_forgetPieces 2 = .ok (.putfield 129, 3) := by decide +kernel
theorem dX6_forgetPieces_5 : decode cX6_forgetPieces 5 = .ok (.aload_n 0, 1) := by decide +kernel
theorem dX6_forgetPieces_6 : decode cX6_forgetPieces 6 = .ok (.iconst 0, 1) := by decide +kernel
theorem dX6_forgetPieces_7 : decode cX6_forgetPieces 7 = .ok (.putfield 155, 3) := by decide +kernel
theorem dX6_forgetPieces_10 : decode cX6_forgetPieces 10 = .ok (.return_, 1) := by decide +kernel
theorem dX6_has_0 : decode cX6_has 0 = .ok (.iload_n 0, 1) := by decide +kernel
theorem dX6_has_1 : decode cX6_has 1 = .ok (.iload_n 1, 1) := by decide +kernel
theorem dX6_has_2 : decode cX6_has 2 = .ok (.ishr, 1) := by decide +kernel
theorem dX6_has_3 : decode cX6_has 3 = .ok (.iconst 1, 1) := by decide +kernel
theorem dX6_has_4 : decode cX6_has 4 = .ok (.iand, 1) := by decide +kernel
theorem dX6_has_5 : decode cX6_has 5 = .ok (.ifCond .eq 7, 3) := by decide +kernel
theorem dX6_has_8 : decode cX6_has 8 = .ok (.iconst 1, 1) := by decide +kernel
theorem dX6_has_9 : decode cX6_has 9 = .ok (.goto 4, 3) := by decide +kernel
theorem dX6_has_12 : decode cX6_has 12 = .ok (.iconst 0, 1) := by decide +kernel
theorem dX6_has_13 : decode cX6_has 13 = .ok (.ireturn, 1) := by decide +kernel
theorem dX6_slot_0 : decode cX6_slot 0 = .ok (.iload_n 0, 1) := by decide +kernel
theorem dX6_slot_1 : decode cX6_slot 1 = .ok (.iconst 5, 1) := by decide +kernel
theorem dX6_slot_2 : decode cX6_slot 2 = .ok (.imul, 1) := by decide +kernel
theorem dX6_slot_3 : decode cX6_slot 3 = .ok (.iload_n 1, 1) := by decide +kernel
theorem dX6_slot_4 : decode cX6_slot 4 = .ok (.iadd, 1) := by decide +kernel
theorem dX6_slot_5 : decode cX6_slot 5 = .ok (.ireturn, 1) := by decide +kernel
theorem dX6_turned_0 : decode cX6_turned 0 = .ok (.iload_n 0, 1) := by decide +kernel
theorem dX6_turned_1 : decode cX6_turned 1 = .ok (.i2l, 1) := by decide +kernel
theorem dX6_turned_2 : decode cX6_turned 2 = .ok (.iconst 2, 1) := by decide +kernel
theorem dX6_turned_3 : decode cX6_turned 3 = .ok (.iload_n 1, 1) := by decide +kernel
theorem dX6_turned_4 : decode cX6_turned 4 = .ok (.imul, 1) := by decide +kernel
theorem dX6_turned_5 : decode cX6_turned 5 = .ok (.iconst 1, 1) := by decide +kernel
theorem dX6_turned_6 : decode cX6_turned 6 = .ok (.iadd, 1) := by decide +kernel
theorem dX6_turned_7 : decode cX6_turned 7 = .ok (.i2l, 1) := by decide +kernel
theorem dX6_turned_8 : decode cX6_turned 8 = .ok (.lmul, 1) := by decide +kernel
theorem dX6_turned_9 : decode cX6_turned 9 = .ok (.iload_n 1, 1) := by decide +kernel
theorem dX6_turned_10 : decode cX6_turned 10 = .ok (.i2l, 1) := by decide +kernel
theorem dX6_turned_11 : decode cX6_turned 11 = .ok (.ladd, 1) := by decide +kernel
theorem dX6_turned_12 : decode cX6_turned 12 = .ok (.ldc2_w 206, 3) := by decide +kernel
theorem dX6_turned_15 : decode cX6_turned 15 = .ok (.lrem, 1) := by decide +kernel
theorem dX6_turned_16 : decode cX6_turned 16 = .ok (.l2i, 1) := by decide +kernel
theorem dX6_turned_17 : decode cX6_turned 17 = .ok (.ireturn, 1) := by decide +kernel
theorem dX6_commonDivisor_0 : decode cX6_commonDivisor 0 = .ok (.iload_n 0, 1) := by decide +kernel
theorem dX6_commonDivisor_1 : decode cX6_commonDivisor 1 = .ok (.istore_n 2, 1) := by decide +kernel
theorem dX6_commonDivisor_2 : decode cX6_commonDivisor 2 = .ok (.iload_n 1, 1) := by decide +kernel
theorem dX6_commonDivisor_3 : decode cX6_commonDivisor 3 = .ok (.istore_n 3, 1) := by decide +kernel
theorem dX6_commonDivisor_4 : decode cX6_commonDivisor 4 = .ok (.iconst 0, 1) := by decide +kernel
theorem dX6_commonDivisor_5 : decode cX6_commonDivisor 5 = .ok (.istore 4, 2) := by decide +kernel
theorem dX6_commonDivisor_7 : decode cX6_commonDivisor 7 = .ok (.iload 4, 2) := by decide +kernel
theorem dX6_commonDivisor_9 : decode cX6_commonDivisor 9 = .ok (.bipush 64, 2) := by decide +kernel
theorem dX6_commonDivisor_11 : decode cX6_commonDivisor 11 = .ok (.if_icmp .ge 23, 3) := by decide +kernel
theorem dX6_commonDivisor_14 : decode cX6_commonDivisor 14 = .ok (.iload_n 3, 1) := by decide +kernel
theorem dX6_commonDivisor_15 : decode cX6_commonDivisor 15 = .ok (.ifCond .eq 19, 3) := by decide +kernel
theorem dX6_commonDivisor_18 : decode cX6_commonDivisor 18 = .ok (.iload_n 2, 1) := by decide +kernel
theorem dX6_commonDivisor_19 : decode cX6_commonDivisor 19 = .ok (.iload_n 3, 1) := by decide +kernel
theorem dX6_commonDivisor_20 : decode cX6_commonDivisor 20 = .ok (.irem, 1) := by decide +kernel
theorem dX6_commonDivisor_21 : decode cX6_commonDivisor 21 = .ok (.istore 5, 2) := by decide +kernel
theorem dX6_commonDivisor_23 : decode cX6_commonDivisor 23 = .ok (.iload_n 3, 1) := by decide +kernel
theorem dX6_commonDivisor_24 : decode cX6_commonDivisor 24 = .ok (.istore_n 2, 1) := by decide +kernel
theorem dX6_commonDivisor_25 : decode cX6_commonDivisor 25 = .ok (.iload 5, 2) := by decide +kernel
theorem dX6_commonDivisor_27 : decode cX6_commonDivisor 27 = .ok (.istore_n 3, 1) := by decide +kernel
theorem dX6_commonDivisor_28 : decode cX6_commonDivisor 28 = .ok (.iinc 4 1, 3) := by decide +kernel
theorem dX6_commonDivisor_31 : decode cX6_commonDivisor 31 = .ok (.goto (-24), 3) := by decide +kernel
theorem dX6_commonDivisor_34 : decode cX6_commonDivisor 34 = .ok (.iload_n 2, 1) := by decide +kernel
theorem dX6_commonDivisor_35 : decode cX6_commonDivisor 35 = .ok (.ireturn, 1) := by decide +kernel
theorem dL_law_0 : decode cL_law 0 = .ok (.new 7, 3) := by decide +kernel
theorem dL_law_3 : decode cL_law 3 = .ok (.dup, 1) := by decide +kernel
theorem dL_law_4 : decode cL_law 4 = .ok (.invokespecial 9, 3) := by decide +kernel
theorem dL_law_7 : decode cL_law 7 = .ok (.astore_n 1, 1) := by decide +kernel
theorem dL_law_8 : decode cL_law 8 = .ok (.new 10, 3) := by decide +kernel
theorem dL_law_11 : decode cL_law 11 = .ok (.dup, 1) := by decide +kernel
theorem dL_law_12 : decode cL_law 12 = .ok (.invokespecial 12, 3) := by decide +kernel
theorem dL_law_15 : decode cL_law 15 = .ok (.astore_n 2, 1) := by decide +kernel
theorem dL_law_16 : decode cL_law 16 = .ok (.iconst 0, 1) := by decide +kernel
theorem dL_law_17 : decode cL_law 17 = .ok (.istore_n 3, 1) := by decide +kernel
theorem dL_law_18 : decode cL_law 18 = .ok (.iload_n 3, 1) := by decide +kernel
theorem dL_law_19 : decode cL_law 19 = .ok (.aload_n 0, 1) := by decide +kernel
theorem dL_law_20 : decode cL_law 20 = .ok (.arraylength, 1) := by decide +kernel
theorem dL_law_21 : decode cL_law 21 = .ok (.bipush 6, 2) := by decide +kernel
theorem dL_law_23 : decode cL_law 23 = .ok (.isub, 1) := by decide +kernel
theorem dL_law_24 : decode cL_law 24 = .ok (.if_icmp .gt 646, 3) := by decide +kernel
theorem dL_law_27 : decode cL_law 27 = .ok (.aload_n 0, 1) := by decide +kernel
theorem dL_law_28 : decode cL_law 28 = .ok (.iload_n 3, 1) := by decide +kernel
theorem dL_law_29 : decode cL_law 29 = .ok (.iaload, 1) := by decide +kernel
theorem dL_law_30 : decode cL_law 30 = .ok (.bipush 31, 2) := by decide +kernel
theorem dL_law_32 : decode cL_law 32 = .ok (.iand, 1) := by decide +kernel
theorem dL_law_33 : decode cL_law 33 = .ok (.tableswitch 631 0 19 #[95, 158, 181, 194, 207, 230, 263, 296, 329, 352, 365, 378, 391, 414, 437, 460, 473, 516, 549, 608], 95) := by decide +kernel
theorem dL_law_128 : decode cL_law 128 = .ok (.aload_n 1, 1) := by decide +kernel
theorem dL_law_129 : decode cL_law 129 = .ok (.aload_n 0, 1) := by decide +kernel
theorem dL_law_130 : decode cL_law 130 = .ok (.iload_n 3, 1) := by decide +kernel
theorem dL_law_131 : decode cL_law 131 = .ok (.iconst 1, 1) := by decide +kernel
theorem dL_law_132 : decode cL_law 132 = .ok (.iadd, 1) := by decide +kernel
theorem dL_law_133 : decode cL_law 133 = .ok (.iaload, 1) := by decide +kernel
theorem dL_law_134 : decode cL_law 134 = .ok (.aload_n 0, 1) := by decide +kernel
theorem dL_law_135 : decode cL_law 135 = .ok (.iload_n 3, 1) := by decide +kernel
theorem dL_law_136 : decode cL_law 136 = .ok (.iconst 2, 1) := by decide +kernel
theorem dL_law_137 : decode cL_law 137 = .ok (.iadd, 1) := by decide +kernel
theorem dL_law_138 : decode cL_law 138 = .ok (.iaload, 1) := by decide +kernel
theorem dL_law_139 : decode cL_law 139 = .ok (.aload_n 0, 1) := by decide +kernel
theorem dL_law_140 : decode cL_law 140 = .ok (.iload_n 3, 1) := by decide +kernel
theorem dL_law_141 : decode cL_law 141 = .ok (.iconst 3, 1) := by decide +kernel
theorem dL_law_142 : decode cL_law 142 = .ok (.iadd, 1) := by decide +kernel
theorem dL_law_143 : decode cL_law 143 = .ok (.iaload, 1) := by decide +kernel
theorem dL_law_144 : decode cL_law 144 = .ok (.aload_n 0, 1) := by decide +kernel
theorem dL_law_145 : decode cL_law 145 = .ok (.iload_n 3, 1) := by decide +kernel
theorem dL_law_146 : decode cL_law 146 = .ok (.iconst 4, 1) := by decide +kernel
theorem dL_law_147 : decode cL_law 147 = .ok (.iadd, 1) := by decide +kernel
theorem dL_law_148 : decode cL_law 148 = .ok (.iaload, 1) := by decide +kernel
theorem dL_law_149 : decode cL_law 149 = .ok (.aload_n 0, 1) := by decide +kernel
theorem dL_law_150 : decode cL_law 150 = .ok (.iload_n 3, 1) := by decide +kernel
theorem dL_law_151 : decode cL_law 151 = .ok (.iconst 5, 1) := by decide +kernel
theorem dL_law_152 : decode cL_law 152 = .ok (.iadd, 1) := by decide +kernel
theorem dL_law_153 : decode cL_law 153 = .ok (.iaload, 1) := by decide +kernel
theorem dL_law_154 : decode cL_law 154 = .ok (.invokevirtual 13, 3) := by decide +kernel
theorem dL_law_157 : decode cL_law 157 = .ok (.aload_n 2, 1) := by decide +kernel
theorem dL_law_158 : decode cL_law 158 = .ok (.aload_n 0, 1) := by decide +kernel
theorem dL_law_159 : decode cL_law 159 = .ok (.iload_n 3, 1) := by decide +kernel
theorem dL_law_160 : decode cL_law 160 = .ok (.iconst 1, 1) := by decide +kernel
theorem dL_law_161 : decode cL_law 161 = .ok (.iadd, 1) := by decide +kernel
theorem dL_law_162 : decode cL_law 162 = .ok (.iaload, 1) := by decide +kernel
theorem dL_law_163 : decode cL_law 163 = .ok (.aload_n 0, 1) := by decide +kernel
theorem dL_law_164 : decode cL_law 164 = .ok (.iload_n 3, 1) := by decide +kernel
theorem dL_law_165 : decode cL_law 165 = .ok (.iconst 2, 1) := by decide +kernel
theorem dL_law_166 : decode cL_law 166 = .ok (.iadd, 1) := by decide +kernel
theorem dL_law_167 : decode cL_law 167 = .ok (.iaload, 1) := by decide +kernel
theorem dL_law_168 : decode cL_law 168 = .ok (.aload_n 0, 1) := by decide +kernel
theorem dL_law_169 : decode cL_law 169 = .ok (.iload_n 3, 1) := by decide +kernel
theorem dL_law_170 : decode cL_law 170 = .ok (.iconst 3, 1) := by decide +kernel
theorem dL_law_171 : decode cL_law 171 = .ok (.iadd, 1) := by decide +kernel
theorem dL_law_172 : decode cL_law 172 = .ok (.iaload, 1) := by decide +kernel
theorem dL_law_173 : decode cL_law 173 = .ok (.aload_n 0, 1) := by decide +kernel
theorem dL_law_174 : decode cL_law 174 = .ok (.iload_n 3, 1) := by decide +kernel
theorem dL_law_175 : decode cL_law 175 = .ok (.iconst 4, 1) := by decide +kernel
theorem dL_law_176 : decode cL_law 176 = .ok (.iadd, 1) := by decide +kernel
theorem dL_law_177 : decode cL_law 177 = .ok (.iaload, 1) := by decide +kernel
theorem dL_law_178 : decode cL_law 178 = .ok (.aload_n 0, 1) := by decide +kernel
theorem dL_law_179 : decode cL_law 179 = .ok (.iload_n 3, 1) := by decide +kernel
theorem dL_law_180 : decode cL_law 180 = .ok (.iconst 5, 1) := by decide +kernel
theorem dL_law_181 : decode cL_law 181 = .ok (.iadd, 1) := by decide +kernel
theorem dL_law_182 : decode cL_law 182 = .ok (.iaload, 1) := by decide +kernel
theorem dL_law_183 : decode cL_law 183 = .ok (.invokevirtual 17, 3) := by decide +kernel
theorem dL_law_186 : decode cL_law 186 = .ok (.if_icmp .eq 478, 3) := by decide +kernel
theorem dL_law_189 : decode cL_law 189 = .ok (.iconst 0, 1) := by decide +kernel
theorem dL_law_190 : decode cL_law 190 = .ok (.ireturn, 1) := by decide +kernel
theorem dL_law_191 : decode cL_law 191 = .ok (.aload_n 1, 1) := by decide +kernel
theorem dL_law_192 : decode cL_law 192 = .ok (.aload_n 0, 1) := by decide +kernel
theorem dL_law_193 : decode cL_law 193 = .ok (.iload_n 3, 1) := by decide +kernel
theorem dL_law_194 : decode cL_law 194 = .ok (.iconst 1, 1) := by decide +kernel
theorem dL_law_195 : decode cL_law 195 = .ok (.iadd, 1) := by decide +kernel
theorem dL_law_196 : decode cL_law 196 = .ok (.iaload, 1) := by decide +kernel
theorem dL_law_197 : decode cL_law 197 = .ok (.invokevirtual 18, 3) := by decide +kernel
theorem dL_law_200 : decode cL_law 200 = .ok (.aload_n 2, 1) := by decide +kernel
theorem dL_law_201 : decode cL_law 201 = .ok (.aload_n 0, 1) := by decide +kernel
theorem dL_law_202 : decode cL_law 202 = .ok (.iload_n 3, 1) := by decide +kernel
theorem dL_law_203 : decode cL_law 203 = .ok (.iconst 1, 1) := by decide +kernel
theorem dL_law_204 : decode cL_law 204 = .ok (.iadd, 1) := by decide +kernel
theorem dL_law_205 : decode cL_law 205 = .ok (.iaload, 1) := by decide +kernel
theorem dL_law_206 : decode cL_law 206 = .ok (.invokevirtual 22, 3) := by decide +kernel
theorem dL_law_209 : decode cL_law 209 = .ok (.if_icmp .eq 455, 3) := by decide +kernel
theorem dL_law_212 : decode cL_law 212 = .ok (.iconst 0, 1) := by decide +kernel
theorem dL_law_213 : decode cL_law 213 = .ok (.ireturn, 1) := by decide +kernel
theorem dL_law_214 : decode cL_law 214 = .ok (.aload_n 1, 1) := by decide +kernel
theorem dL_law_215 : decode cL_law 215 = .ok (.invokevirtual 23, 3) := by decide +kernel
theorem dL_law_218 : decode cL_law 218 = .ok (.aload_n 2, 1) := by decide +kernel
theorem dL_law_219 : decode cL_law 219 = .ok (.invokevirtual 27, 3) := by decide +kernel
theorem dL_law_222 : decode cL_law 222 = .ok (.if_icmp .eq 442, 3) := by decide +kernel
theorem dL_law_225 : decode cL_law 225 = .ok (.iconst 0, 1) := by decide +kernel
theorem dL_law_226 : decode cL_law 226 = .ok (.ireturn, 1) := by decide +kernel
theorem dL_law_227 : decode cL_law 227 = .ok (.aload_n 1, 1) := by decide +kernel
theorem dL_law_228 : decode cL_law 228 = .ok (.invokevirtual 28, 3) := by decide +kernel
theorem dL_law_231 : decode cL_law 231 = .ok (.aload_n 2, 1) := by decide +kernel
theorem dL_law_232 : decode cL_law 232 = .ok (.invokevirtual 31, 3) := by decide +kernel
theorem dL_law_235 : decode cL_law 235 = .ok (.if_icmp .eq 429, 3) := by decide +kernel
theorem dL_law_238 : decode cL_law 238 = .ok (.iconst 0, 1) := by decide +kernel
theorem dL_law_239 : decode cL_law 239 = .ok (.ireturn, 1) := by decide +kernel
theorem dL_law_240 : decode cL_law 240 = .ok (.aload_n 1, 1) := by decide +kernel
theorem dL_law_241 : decode cL_law 241 = .ok (.aload_n 0, 1) := by decide +kernel
theorem dL_law_242 : decode cL_law 242 = .ok (.iload_n 3, 1) := by decide +kernel
theorem dL_law_243 : decode cL_law 243 = .ok (.iconst 1, 1) := by decide +kernel
theorem dL_law_244 : decode cL_law 244 = .ok (.iadd, 1) := by decide +kernel
theorem dL_law_245 : decode cL_law 245 = .ok (.iaload, 1) := by decide +kernel
theorem dL_law_246 : decode cL_law 246 = .ok (.invokevirtual 32, 3) := by decide +kernel
theorem dL_law_249 : decode cL_law 249 = .ok (.aload_n 2, 1) := by decide +kernel
theorem dL_law_250 : decode cL_law 250 = .ok (.aload_n 0, 1) := by decide +kernel
theorem dL_law_251 : decode cL_law 251 = .ok (.iload_n 3, 1) := by decide +kernel
theorem dL_law_252 : decode cL_law 252 = .ok (.iconst 1, 1) := by decide +kernel
theorem dL_law_253 : decode cL_law 253 = .ok (.iadd, 1) := by decide +kernel
theorem dL_law_254 : decode cL_law 254 = .ok (.iaload, 1) := by decide +kernel
theorem dL_law_255 : decode cL_law 255 = .ok (.invokevirtual 35, 3) := by decide +kernel
theorem dL_law_258 : decode cL_law 258 = .ok (.if_icmp .eq 406, 3) := by decide +kernel
theorem dL_law_261 : decode cL_law 261 = .ok (.iconst 0, 1) := by decide +kernel
theorem dL_law_262 : decode cL_law 262 = .ok (.ireturn, 1) := by decide +kernel
theorem dL_law_263 : decode cL_law 263 = .ok (.aload_n 1, 1) := by decide +kernel
theorem dL_law_264 : decode cL_law 264 = .ok (.aload_n 0, 1) := by decide +kernel
theorem dL_law_265 : decode cL_law 265 = .ok (.iload_n 3, 1) := by decide +kernel
theorem dL_law_266 : decode cL_law 266 = .ok (.iconst 1, 1) := by decide +kernel
theorem dL_law_267 : decode cL_law 267 = .ok (.iadd, 1) := by decide +kernel
theorem dL_law_268 : decode cL_law 268 = .ok (.iaload, 1) := by decide +kernel
theorem dL_law_269 : decode cL_law 269 = .ok (.aload_n 0, 1) := by decide +kernel
theorem dL_law_270 : decode cL_law 270 = .ok (.iload_n 3, 1) := by decide +kernel
theorem dL_law_271 : decode cL_law 271 = .ok (.iconst 2, 1) := by decide +kernel
theorem dL_law_272 : decode cL_law 272 = .ok (.iadd, 1) := by decide +kernel
theorem dL_law_273 : decode cL_law 273 = .ok (.iaload, 1) := by decide +kernel
theorem dL_law_274 : decode cL_law 274 = .ok (.invokevirtual 36, 3) := by decide +kernel
theorem dL_law_277 : decode cL_law 277 = .ok (.aload_n 2, 1) := by decide +kernel
theorem dL_law_278 : decode cL_law 278 = .ok (.aload_n 0, 1) := by decide +kernel
theorem dL_law_279 : decode cL_law 279 = .ok (.iload_n 3, 1) := by decide +kernel
theorem dL_law_280 : decode cL_law 280 = .ok (.iconst 1, 1) := by decide +kernel
theorem dL_law_281 : decode cL_law 281 = .ok (.iadd, 1) := by decide +kernel
theorem dL_law_282 : decode cL_law 282 = .ok (.iaload, 1) := by decide +kernel
theorem dL_law_283 : decode cL_law 283 = .ok (.aload_n 0, 1) := by decide +kernel
theorem dL_law_284 : decode cL_law 284 = .ok (.iload_n 3, 1) := by decide +kernel
theorem dL_law_285 : decode cL_law 285 = .ok (.iconst 2, 1) := by decide +kernel
theorem dL_law_286 : decode cL_law 286 = .ok (.iadd, 1) := by decide +kernel
theorem dL_law_287 : decode cL_law 287 = .ok (.iaload, 1) := by decide +kernel
theorem dL_law_288 : decode cL_law 288 = .ok (.invokevirtual 40, 3) := by decide +kernel
theorem dL_law_291 : decode cL_law 291 = .ok (.if_icmp .eq 373, 3) := by decide +kernel
theorem dL_law_294 : decode cL_law 294 = .ok (.iconst 0, 1) := by decide +kernel
theorem dL_law_295 : decode cL_law 295 = .ok (.ireturn, 1) := by decide +kernel
theorem dL_law_296 : decode cL_law 296 = .ok (.aload_n 1, 1) := by decide +kernel
theorem dL_law_297 : decode cL_law 297 = .ok (.aload_n 0, 1) := by decide +kernel
theorem dL_law_298 : decode cL_law 298 = .ok (.iload_n 3, 1) := by decide +kernel
theorem dL_law_299 : decode cL_law 299 = .ok (.iconst 1, 1) := by decide +kernel
theorem dL_law_300 : decode cL_law 300 = .ok (.iadd, 1) := by decide +kernel
theorem dL_law_301 : decode cL_law 301 = .ok (.iaload, 1) := by decide +kernel
theorem dL_law_302 : decode cL_law 302 = .ok (.aload_n 0, 1) := by decide +kernel
theorem dL_law_303 : decode cL_law 303 = .ok (.iload_n 3, 1) := by decide +kernel
theorem dL_law_304 : decode cL_law 304 = .ok (.iconst 2, 1) := by decide +kernel
theorem dL_law_305 : decode cL_law 305 = .ok (.iadd, 1) := by decide +kernel
theorem dL_law_306 : decode cL_law 306 = .ok (.iaload, 1) := by decide +kernel
theorem dL_law_307 : decode cL_law 307 = .ok (.invokevirtual 41, 3) := by decide +kernel
theorem dL_law_310 : decode cL_law 310 = .ok (.aload_n 2, 1) := by decide +kernel
theorem dL_law_311 : decode cL_law 311 = .ok (.aload_n 0, 1) := by decide +kernel
theorem dL_law_312 : decode cL_law 312 = .ok (.iload_n 3, 1) := by decide +kernel
theorem dL_law_313 : decode cL_law 313 = .ok (.iconst 1, 1) := by decide +kernel
theorem dL_law_314 : decode cL_law 314 = .ok (.iadd, 1) := by decide +kernel
theorem dL_law_315 : decode cL_law 315 = .ok (.iaload, 1) := by decide +kernel
theorem dL_law_316 : decode cL_law 316 = .ok (.aload_n 0, 1) := by decide +kernel
theorem dL_law_317 : decode cL_law 317 = .ok (.iload_n 3, 1) := by decide +kernel
theorem dL_law_318 : decode cL_law 318 = .ok (.iconst 2, 1) := by decide +kernel
theorem dL_law_319 : decode cL_law 319 = .ok (.iadd, 1) := by decide +kernel
theorem dL_law_320 : decode cL_law 320 = .ok (.iaload, 1) := by decide +kernel
theorem dL_law_321 : decode cL_law 321 = .ok (.invokevirtual 44, 3) := by decide +kernel
theorem dL_law_324 : decode cL_law 324 = .ok (.if_icmp .eq 340, 3) := by decide +kernel
theorem dL_law_327 : decode cL_law 327 = .ok (.iconst 0, 1) := by decide +kernel
theorem dL_law_328 : decode cL_law 328 = .ok (.ireturn, 1) := by decide +kernel
theorem dL_law_329 : decode cL_law 329 = .ok (.aload_n 1, 1) := by decide +kernel
theorem dL_law_330 : decode cL_law 330 = .ok (.aload_n 0, 1) := by decide +kernel
theorem dL_law_331 : decode cL_law 331 = .ok (.iload_n 3, 1) := by decide +kernel
theorem dL_law_332 : decode cL_law 332 = .ok (.iconst 1, 1) := by decide +kernel
theorem dL_law_333 : decode cL_law 333 = .ok (.iadd, 1) := by decide +kernel
theorem dL_law_334 : decode cL_law 334 = .ok (.iaload, 1) := by decide +kernel
theorem dL_law_335 : decode cL_law 335 = .ok (.aload_n 0, 1) := by decide +kernel
theorem dL_law_336 : decode cL_law 336 = .ok (.iload_n 3, 1) := by decide +kernel
theorem dL_law_337 : decode cL_law 337 = .ok (.iconst 2, 1) := by decide +kernel
theorem dL_law_338 : decode cL_law 338 = .ok (.iadd, 1) := by decide +kernel
theorem dL_law_339 : decode cL_law 339 = .ok (.iaload, 1) := by decide +kernel
theorem dL_law_340 : decode cL_law 340 = .ok (.invokevirtual 45, 3) := by decide +kernel
theorem dL_law_343 : decode cL_law 343 = .ok (.aload_n 2, 1) := by decide +kernel
theorem dL_law_344 : decode cL_law 344 = .ok (.aload_n 0, 1) := by decide +kernel
theorem dL_law_345 : decode cL_law 345 = .ok (.iload_n 3, 1) := by decide +kernel
theorem dL_law_346 : decode cL_law 346 = .ok (.iconst 1, 1) := by decide +kernel
theorem dL_law_347 : decode cL_law 347 = .ok (.iadd, 1) := by decide +kernel
theorem dL_law_348 : decode cL_law 348 = .ok (.iaload, 1) := by decide +kernel
theorem dL_law_349 : decode cL_law 349 = .ok (.aload_n 0, 1) := by decide +kernel
theorem dL_law_350 : decode cL_law 350 = .ok (.iload_n 3, 1) := by decide +kernel
theorem dL_law_351 : decode cL_law 351 = .ok (.iconst 2, 1) := by decide +kernel
theorem dL_law_352 : decode cL_law 352 = .ok (.iadd, 1) := by decide +kernel
theorem dL_law_353 : decode cL_law 353 = .ok (.iaload, 1) := by decide +kernel
theorem dL_law_354 : decode cL_law 354 = .ok (.invokevirtual 48, 3) := by decide +kernel
theorem dL_law_357 : decode cL_law 357 = .ok (.if_icmp .eq 307, 3) := by decide +kernel
theorem dL_law_360 : decode cL_law 360 = .ok (.iconst 0, 1) := by decide +kernel
theorem dL_law_361 : decode cL_law 361 = .ok (.ireturn, 1) := by decide +kernel
theorem dL_law_362 : decode cL_law 362 = .ok (.aload_n 1, 1) := by decide +kernel
theorem dL_law_363 : decode cL_law 363 = .ok (.aload_n 0, 1) := by decide +kernel
theorem dL_law_364 : decode cL_law 364 = .ok (.iload_n 3, 1) := by decide +kernel
theorem dL_law_365 : decode cL_law 365 = .ok (.iconst 1, 1) := by decide +kernel
theorem dL_law_366 : decode cL_law 366 = .ok (.iadd, 1) := by decide +kernel
theorem dL_law_367 : decode cL_law 367 = .ok (.iaload, 1) := by decide +kernel
theorem dL_law_368 : decode cL_law 368 = .ok (.invokevirtual 49, 3) := by decide +kernel
theorem dL_law_371 : decode cL_law 371 = .ok (.aload_n 2, 1) := by decide +kernel
theorem dL_law_372 : decode cL_law 372 = .ok (.aload_n 0, 1) := by decide +kernel
theorem dL_law_373 : decode cL_law 373 = .ok (.iload_n 3, 1) := by decide +kernel
theorem dL_law_374 : decode cL_law 374 = .ok (.iconst 1, 1) := by decide +kernel
theorem dL_law_375 : decode cL_law 375 = .ok (.iadd, 1) := by decide +kernel
theorem dL_law_376 : decode cL_law 376 = .ok (.iaload, 1) := by decide +kernel
theorem dL_law_377 : decode cL_law 377 = .ok (.invokevirtual 53, 3) := by decide +kernel
theorem dL_law_380 : decode cL_law 380 = .ok (.if_icmp .eq 284, 3) := by decide +kernel
theorem dL_law_383 : decode cL_law 383 = .ok (.iconst 0, 1) := by decide +kernel
theorem dL_law_384 : decode cL_law 384 = .ok (.ireturn, 1) := by decide +kernel
theorem dL_law_385 : decode cL_law 385 = .ok (.aload_n 1, 1) := by decide +kernel
theorem dL_law_386 : decode cL_law 386 = .ok (.invokevirtual 54, 3) := by decide +kernel
theorem dL_law_389 : decode cL_law 389 = .ok (.aload_n 2, 1) := by decide +kernel
theorem dL_law_390 : decode cL_law 390 = .ok (.invokevirtual 57, 3) := by decide +kernel
theorem dL_law_393 : decode cL_law 393 = .ok (.if_icmp .eq 271, 3) := by decide +kernel
theorem dL_law_396 : decode cL_law 396 = .ok (.iconst 0, 1) := by decide +kernel
theorem dL_law_397 : decode cL_law 397 = .ok (.ireturn, 1) := by decide +kernel
theorem dL_law_398 : decode cL_law 398 = .ok (.aload_n 1, 1) := by decide +kernel
theorem dL_law_399 : decode cL_law 399 = .ok (.invokevirtual 58, 3) := by decide +kernel
theorem dL_law_402 : decode cL_law 402 = .ok (.aload_n 2, 1) := by decide +kernel
theorem dL_law_403 : decode cL_law 403 = .ok (.invokevirtual 62, 3) := by decide +kernel
theorem dL_law_406 : decode cL_law 406 = .ok (.if_icmp .eq 258, 3) := by decide +kernel
theorem dL_law_409 : decode cL_law 409 = .ok (.iconst 0, 1) := by decide +kernel
theorem dL_law_410 : decode cL_law 410 = .ok (.ireturn, 1) := by decide +kernel
theorem dL_law_411 : decode cL_law 411 = .ok (.aload_n 1, 1) := by decide +kernel
theorem dL_law_412 : decode cL_law 412 = .ok (.invokevirtual 63, 3) := by decide +kernel
theorem dL_law_415 : decode cL_law 415 = .ok (.aload_n 2, 1) := by decide +kernel
theorem dL_law_416 : decode cL_law 416 = .ok (.invokevirtual 66, 3) := by decide +kernel
theorem dL_law_419 : decode cL_law 419 = .ok (.if_icmp .eq 245, 3) := by decide +kernel
theorem dL_law_422 : decode cL_law 422 = .ok (.iconst 0, 1) := by decide +kernel
theorem dL_law_423 : decode cL_law 423 = .ok (.ireturn, 1) := by decide +kernel
theorem dL_law_424 : decode cL_law 424 = .ok (.aload_n 1, 1) := by decide +kernel
theorem dL_law_425 : decode cL_law 425 = .ok (.aload_n 0, 1) := by decide +kernel
theorem dL_law_426 : decode cL_law 426 = .ok (.iload_n 3, 1) := by decide +kernel
theorem dL_law_427 : decode cL_law 427 = .ok (.iconst 1, 1) := by decide +kernel
theorem dL_law_428 : decode cL_law 428 = .ok (.iadd, 1) := by decide +kernel
theorem dL_law_429 : decode cL_law 429 = .ok (.iaload, 1) := by decide +kernel
theorem dL_law_430 : decode cL_law 430 = .ok (.invokevirtual 67, 3) := by decide +kernel
theorem dL_law_433 : decode cL_law 433 = .ok (.aload_n 2, 1) := by decide +kernel
theorem dL_law_434 : decode cL_law 434 = .ok (.aload_n 0, 1) := by decide +kernel
theorem dL_law_435 : decode cL_law 435 = .ok (.iload_n 3, 1) := by decide +kernel
theorem dL_law_436 : decode cL_law 436 = .ok (.iconst 1, 1) := by decide +kernel
theorem dL_law_437 : decode cL_law 437 = .ok (.iadd, 1) := by decide +kernel
theorem dL_law_438 : decode cL_law 438 = .ok (.iaload, 1) := by decide +kernel
theorem dL_law_439 : decode cL_law 439 = .ok (.invokevirtual 70, 3) := by decide +kernel
theorem dL_law_442 : decode cL_law 442 = .ok (.if_icmp .eq 222, 3) := by decide +kernel
theorem dL_law_445 : decode cL_law 445 = .ok (.iconst 0, 1) := by decide +kernel
theorem dL_law_446 : decode cL_law 446 = .ok (.ireturn, 1) := by decide +kernel
theorem dL_law_447 : decode cL_law 447 = .ok (.aload_n 1, 1) := by decide +kernel
theorem dL_law_448 : decode cL_law 448 = .ok (.aload_n 0, 1) := by decide +kernel
theorem dL_law_449 : decode cL_law 449 = .ok (.iload_n 3, 1) := by decide +kernel
theorem dL_law_450 : decode cL_law 450 = .ok (.iconst 1, 1) := by decide +kernel
theorem dL_law_451 : decode cL_law 451 = .ok (.iadd, 1) := by decide +kernel
theorem dL_law_452 : decode cL_law 452 = .ok (.iaload, 1) := by decide +kernel
theorem dL_law_453 : decode cL_law 453 = .ok (.invokevirtual 71, 3) := by decide +kernel
theorem dL_law_456 : decode cL_law 456 = .ok (.aload_n 2, 1) := by decide +kernel
theorem dL_law_457 : decode cL_law 457 = .ok (.aload_n 0, 1) := by decide +kernel
theorem dL_law_458 : decode cL_law 458 = .ok (.iload_n 3, 1) := by decide +kernel
theorem dL_law_459 : decode cL_law 459 = .ok (.iconst 1, 1) := by decide +kernel
theorem dL_law_460 : decode cL_law 460 = .ok (.iadd, 1) := by decide +kernel
theorem dL_law_461 : decode cL_law 461 = .ok (.iaload, 1) := by decide +kernel
theorem dL_law_462 : decode cL_law 462 = .ok (.invokevirtual 74, 3) := by decide +kernel
theorem dL_law_465 : decode cL_law 465 = .ok (.if_icmp .eq 199, 3) := by decide +kernel
theorem dL_law_468 : decode cL_law 468 = .ok (.iconst 0, 1) := by decide +kernel
theorem dL_law_469 : decode cL_law 469 = .ok (.ireturn, 1) := by decide +kernel
theorem dL_law_470 : decode cL_law 470 = .ok (.aload_n 1, 1) := by decide +kernel
theorem dL_law_471 : decode cL_law 471 = .ok (.aload_n 0, 1) := by decide +kernel
theorem dL_law_472 : decode cL_law 472 = .ok (.iload_n 3, 1) := by decide +kernel
theorem dL_law_473 : decode cL_law 473 = .ok (.iconst 1, 1) := by decide +kernel
theorem dL_law_474 : decode cL_law 474 = .ok (.iadd, 1) := by decide +kernel
theorem dL_law_475 : decode cL_law 475 = .ok (.iaload, 1) := by decide +kernel
theorem dL_law_476 : decode cL_law 476 = .ok (.invokevirtual 75, 3) := by decide +kernel
theorem dL_law_479 : decode cL_law 479 = .ok (.aload_n 2, 1) := by decide +kernel
theorem dL_law_480 : decode cL_law 480 = .ok (.aload_n 0, 1) := by decide +kernel
theorem dL_law_481 : decode cL_law 481 = .ok (.iload_n 3, 1) := by decide +kernel
theorem dL_law_482 : decode cL_law 482 = .ok (.iconst 1, 1) := by decide +kernel
theorem dL_law_483 : decode cL_law 483 = .ok (.iadd, 1) := by decide +kernel
theorem dL_law_484 : decode cL_law 484 = .ok (.iaload, 1) := by decide +kernel
theorem dL_law_485 : decode cL_law 485 = .ok (.invokevirtual 78, 3) := by decide +kernel
theorem dL_law_488 : decode cL_law 488 = .ok (.if_icmp .eq 176, 3) := by decide +kernel
theorem dL_law_491 : decode cL_law 491 = .ok (.iconst 0, 1) := by decide +kernel
theorem dL_law_492 : decode cL_law 492 = .ok (.ireturn, 1) := by decide +kernel
theorem dL_law_493 : decode cL_law 493 = .ok (.aload_n 1, 1) := by decide +kernel
theorem dL_law_494 : decode cL_law 494 = .ok (.invokevirtual 79, 3) := by decide +kernel
theorem dL_law_497 : decode cL_law 497 = .ok (.aload_n 2, 1) := by decide +kernel
theorem dL_law_498 : decode cL_law 498 = .ok (.invokevirtual 82, 3) := by decide +kernel
theorem dL_law_501 : decode cL_law 501 = .ok (.if_icmp .eq 163, 3) := by decide +kernel
theorem dL_law_504 : decode cL_law 504 = .ok (.iconst 0, 1) := by decide +kernel
theorem dL_law_505 : decode cL_law 505 = .ok (.ireturn, 1) := by decide +kernel
theorem dL_law_506 : decode cL_law 506 = .ok (.aload_n 1, 1) := by decide +kernel
theorem dL_law_507 : decode cL_law 507 = .ok (.aload_n 0, 1) := by decide +kernel
theorem dL_law_508 : decode cL_law 508 = .ok (.iload_n 3, 1) := by decide +kernel
theorem dL_law_509 : decode cL_law 509 = .ok (.iconst 1, 1) := by decide +kernel
theorem dL_law_510 : decode cL_law 510 = .ok (.iadd, 1) := by decide +kernel
theorem dL_law_511 : decode cL_law 511 = .ok (.iaload, 1) := by decide +kernel
theorem dL_law_512 : decode cL_law 512 = .ok (.aload_n 0, 1) := by decide +kernel
theorem dL_law_513 : decode cL_law 513 = .ok (.iload_n 3, 1) := by decide +kernel
theorem dL_law_514 : decode cL_law 514 = .ok (.iconst 2, 1) := by decide +kernel
theorem dL_law_515 : decode cL_law 515 = .ok (.iadd, 1) := by decide +kernel
theorem dL_law_516 : decode cL_law 516 = .ok (.iaload, 1) := by decide +kernel
theorem dL_law_517 : decode cL_law 517 = .ok (.aload_n 0, 1) := by decide +kernel
theorem dL_law_518 : decode cL_law 518 = .ok (.iload_n 3, 1) := by decide +kernel
theorem dL_law_519 : decode cL_law 519 = .ok (.iconst 3, 1) := by decide +kernel
theorem dL_law_520 : decode cL_law 520 = .ok (.iadd, 1) := by decide +kernel
theorem dL_law_521 : decode cL_law 521 = .ok (.iaload, 1) := by decide +kernel
theorem dL_law_522 : decode cL_law 522 = .ok (.invokevirtual 83, 3) := by decide +kernel
theorem dL_law_525 : decode cL_law 525 = .ok (.aload_n 2, 1) := by decide +kernel
theorem dL_law_526 : decode cL_law 526 = .ok (.aload_n 0, 1) := by decide +kernel
theorem dL_law_527 : decode cL_law 527 = .ok (.iload_n 3, 1) := by decide +kernel
theorem dL_law_528 : decode cL_law 528 = .ok (.iconst 1, 1) := by decide +kernel
theorem dL_law_529 : decode cL_law 529 = .ok (.iadd, 1) := by decide +kernel
theorem dL_law_530 : decode cL_law 530 = .ok (.iaload, 1) := by decide +kernel
theorem dL_law_531 : decode cL_law 531 = .ok (.aload_n 0, 1) := by decide +kernel
theorem dL_law_532 : decode cL_law 532 = .ok (.iload_n 3, 1) := by decide +kernel
theorem dL_law_533 : decode cL_law 533 = .ok (.iconst 2, 1) := by decide +kernel
theorem dL_law_534 : decode cL_law 534 = .ok (.iadd, 1) := by decide +kernel
theorem dL_law_535 : decode cL_law 535 = .ok (.iaload, 1) := by decide +kernel
theorem dL_law_536 : decode cL_law 536 = .ok (.aload_n 0, 1) := by decide +kernel
theorem dL_law_537 : decode cL_law 537 = .ok (.iload_n 3, 1) := by decide +kernel
theorem dL_law_538 : decode cL_law 538 = .ok (.iconst 3, 1) := by decide +kernel
theorem dL_law_539 : decode cL_law 539 = .ok (.iadd, 1) := by decide +kernel
theorem dL_law_540 : decode cL_law 540 = .ok (.iaload, 1) := by decide +kernel
theorem dL_law_541 : decode cL_law 541 = .ok (.invokevirtual 87, 3) := by decide +kernel
theorem dL_law_544 : decode cL_law 544 = .ok (.if_icmp .eq 120, 3) := by decide +kernel
theorem dL_law_547 : decode cL_law 547 = .ok (.iconst 0, 1) := by decide +kernel
theorem dL_law_548 : decode cL_law 548 = .ok (.ireturn, 1) := by decide +kernel
theorem dL_law_549 : decode cL_law 549 = .ok (.aload_n 1, 1) := by decide +kernel
theorem dL_law_550 : decode cL_law 550 = .ok (.aload_n 0, 1) := by decide +kernel
theorem dL_law_551 : decode cL_law 551 = .ok (.iload_n 3, 1) := by decide +kernel
theorem dL_law_552 : decode cL_law 552 = .ok (.iconst 1, 1) := by decide +kernel
theorem dL_law_553 : decode cL_law 553 = .ok (.iadd, 1) := by decide +kernel
theorem dL_law_554 : decode cL_law 554 = .ok (.iaload, 1) := by decide +kernel
theorem dL_law_555 : decode cL_law 555 = .ok (.aload_n 0, 1) := by decide +kernel
theorem dL_law_556 : decode cL_law 556 = .ok (.iload_n 3, 1) := by decide +kernel
theorem dL_law_557 : decode cL_law 557 = .ok (.iconst 2, 1) := by decide +kernel
theorem dL_law_558 : decode cL_law 558 = .ok (.iadd, 1) := by decide +kernel
theorem dL_law_559 : decode cL_law 559 = .ok (.iaload, 1) := by decide +kernel
theorem dL_law_560 : decode cL_law 560 = .ok (.invokevirtual 88, 3) := by decide +kernel
theorem dL_law_563 : decode cL_law 563 = .ok (.aload_n 2, 1) := by decide +kernel
theorem dL_law_564 : decode cL_law 564 = .ok (.aload_n 0, 1) := by decide +kernel
theorem dL_law_565 : decode cL_law 565 = .ok (.iload_n 3, 1) := by decide +kernel
theorem dL_law_566 : decode cL_law 566 = .ok (.iconst 1, 1) := by decide +kernel
theorem dL_law_567 : decode cL_law 567 = .ok (.iadd, 1) := by decide +kernel
theorem dL_law_568 : decode cL_law 568 = .ok (.iaload, 1) := by decide +kernel
theorem dL_law_569 : decode cL_law 569 = .ok (.aload_n 0, 1) := by decide +kernel
theorem dL_law_570 : decode cL_law 570 = .ok (.iload_n 3, 1) := by decide +kernel
theorem dL_law_571 : decode cL_law 571 = .ok (.iconst 2, 1) := by decide +kernel
theorem dL_law_572 : decode cL_law 572 = .ok (.iadd, 1) := by decide +kernel
theorem dL_law_573 : decode cL_law 573 = .ok (.iaload, 1) := by decide +kernel
theorem dL_law_574 : decode cL_law 574 = .ok (.invokevirtual 91, 3) := by decide +kernel
theorem dL_law_577 : decode cL_law 577 = .ok (.if_icmp .eq 87, 3) := by decide +kernel
theorem dL_law_580 : decode cL_law 580 = .ok (.iconst 0, 1) := by decide +kernel
theorem dL_law_581 : decode cL_law 581 = .ok (.ireturn, 1) := by decide +kernel
theorem dL_law_582 : decode cL_law 582 = .ok (.aload_n 1, 1) := by decide +kernel
theorem dL_law_583 : decode cL_law 583 = .ok (.aload_n 0, 1) := by decide +kernel
theorem dL_law_584 : decode cL_law 584 = .ok (.iload_n 3, 1) := by decide +kernel
theorem dL_law_585 : decode cL_law 585 = .ok (.iconst 1, 1) := by decide +kernel
theorem dL_law_586 : decode cL_law 586 = .ok (.iadd, 1) := by decide +kernel
theorem dL_law_587 : decode cL_law 587 = .ok (.iaload, 1) := by decide +kernel
theorem dL_law_588 : decode cL_law 588 = .ok (.aload_n 0, 1) := by decide +kernel
theorem dL_law_589 : decode cL_law 589 = .ok (.iload_n 3, 1) := by decide +kernel
theorem dL_law_590 : decode cL_law 590 = .ok (.iconst 2, 1) := by decide +kernel
theorem dL_law_591 : decode cL_law 591 = .ok (.iadd, 1) := by decide +kernel
theorem dL_law_592 : decode cL_law 592 = .ok (.iaload, 1) := by decide +kernel
theorem dL_law_593 : decode cL_law 593 = .ok (.aload_n 0, 1) := by decide +kernel
theorem dL_law_594 : decode cL_law 594 = .ok (.iload_n 3, 1) := by decide +kernel
theorem dL_law_595 : decode cL_law 595 = .ok (.iconst 3, 1) := by decide +kernel
theorem dL_law_596 : decode cL_law 596 = .ok (.iadd, 1) := by decide +kernel
theorem dL_law_597 : decode cL_law 597 = .ok (.iaload, 1) := by decide +kernel
theorem dL_law_598 : decode cL_law 598 = .ok (.ifCond .eq 7, 3) := by decide +kernel
theorem dL_law_601 : decode cL_law 601 = .ok (.iconst 1, 1) := by decide +kernel
theorem dL_law_602 : decode cL_law 602 = .ok (.goto 4, 3) := by decide +kernel
theorem dL_law_605 : decode cL_law 605 = .ok (.iconst 0, 1) := by decide +kernel
theorem dL_law_606 : decode cL_law 606 = .ok (.invokevirtual 92, 3) := by decide +kernel
theorem dL_law_609 : decode cL_law 609 = .ok (.aload_n 2, 1) := by decide +kernel
theorem dL_law_610 : decode cL_law 610 = .ok (.aload_n 0, 1) := by decide +kernel
theorem dL_law_611 : decode cL_law 611 = .ok (.iload_n 3, 1) := by decide +kernel
theorem dL_law_612 : decode cL_law 612 = .ok (.iconst 1, 1) := by decide +kernel
theorem dL_law_613 : decode cL_law 613 = .ok (.iadd, 1) := by decide +kernel
theorem dL_law_614 : decode cL_law 614 = .ok (.iaload, 1) := by decide +kernel
theorem dL_law_615 : decode cL_law 615 = .ok (.aload_n 0, 1) := by decide +kernel
theorem dL_law_616 : decode cL_law 616 = .ok (.iload_n 3, 1) := by decide +kernel
theorem dL_law_617 : decode cL_law 617 = .ok (.iconst 2, 1) := by decide +kernel
theorem dL_law_618 : decode cL_law 618 = .ok (.iadd, 1) := by decide +kernel
theorem dL_law_619 : decode cL_law 619 = .ok (.iaload, 1) := by decide +kernel
theorem dL_law_620 : decode cL_law 620 = .ok (.aload_n 0, 1) := by decide +kernel
theorem dL_law_621 : decode cL_law 621 = .ok (.iload_n 3, 1) := by decide +kernel
theorem dL_law_622 : decode cL_law 622 = .ok (.iconst 3, 1) := by decide +kernel
theorem dL_law_623 : decode cL_law 623 = .ok (.iadd, 1) := by decide +kernel
theorem dL_law_624 : decode cL_law 624 = .ok (.iaload, 1) := by decide +kernel
theorem dL_law_625 : decode cL_law 625 = .ok (.ifCond .eq 7, 3) := by decide +kernel
theorem dL_law_628 : decode cL_law 628 = .ok (.iconst 1, 1) := by decide +kernel
theorem dL_law_629 : decode cL_law 629 = .ok (.goto 4, 3) := by decide +kernel
theorem dL_law_632 : decode cL_law 632 = .ok (.iconst 0, 1) := by decide +kernel
theorem dL_law_633 : decode cL_law 633 = .ok (.invokevirtual 96, 3) := by decide +kernel
theorem dL_law_636 : decode cL_law 636 = .ok (.if_icmp .eq 28, 3) := by decide +kernel
theorem dL_law_639 : decode cL_law 639 = .ok (.iconst 0, 1) := by decide +kernel
theorem dL_law_640 : decode cL_law 640 = .ok (.ireturn, 1) := by decide +kernel
theorem dL_law_641 : decode cL_law 641 = .ok (.aload_n 1, 1) := by decide +kernel
theorem dL_law_642 : decode cL_law 642 = .ok (.aload_n 0, 1) := by decide +kernel
theorem dL_law_643 : decode cL_law 643 = .ok (.iload_n 3, 1) := by decide +kernel
theorem dL_law_644 : decode cL_law 644 = .ok (.iconst 1, 1) := by decide +kernel
theorem dL_law_645 : decode cL_law 645 = .ok (.iadd, 1) := by decide +kernel
theorem dL_law_646 : decode cL_law 646 = .ok (.iaload, 1) := by decide +kernel
theorem dL_law_647 : decode cL_law 647 = .ok (.invokevirtual 97, 3) := by decide +kernel
theorem dL_law_650 : decode cL_law 650 = .ok (.aload_n 2, 1) := by decide +kernel
theorem dL_law_651 : decode cL_law 651 = .ok (.aload_n 0, 1) := by decide +kernel
theorem dL_law_652 : decode cL_law 652 = .ok (.iload_n 3, 1) := by decide +kernel
theorem dL_law_653 : decode cL_law 653 = .ok (.iconst 1, 1) := by decide +kernel
theorem dL_law_654 : decode cL_law 654 = .ok (.iadd, 1) := by decide +kernel
theorem dL_law_655 : decode cL_law 655 = .ok (.iaload, 1) := by decide +kernel
theorem dL_law_656 : decode cL_law 656 = .ok (.invokevirtual 100, 3) := by decide +kernel
theorem dL_law_659 : decode cL_law 659 = .ok (.if_icmp .eq 5, 3) := by decide +kernel
theorem dL_law_662 : decode cL_law 662 = .ok (.iconst 0, 1) := by decide +kernel
theorem dL_law_663 : decode cL_law 663 = .ok (.ireturn, 1) := by decide +kernel
theorem dL_law_664 : decode cL_law 664 = .ok (.iinc 3 6, 3) := by decide +kernel
theorem dL_law_667 : decode cL_law 667 = .ok (.goto (-649), 3) := by decide +kernel
theorem dL_law_670 : decode cL_law 670 = .ok (.iconst 1, 1) := by decide +kernel
theorem dL_law_671 : decode cL_law 671 = .ok (.ireturn, 1) := by decide +kernel
end
section
theorem dX7_sign_0 : decode cX7_sign 0 = .ok (.iload_n 1, 1) := by decide +kernel
theorem dX7_sign_1 : decode cX7_sign 1 = .ok (.aload_n 0, 1) := by decide +kernel
theorem dX7_sign_2 : decode cX7_sign 2 = .ok (.getfield 1, 3) := by decide +kernel
theorem dX7_sign_5 : decode cX7_sign 5 = .ok (.if_icmp .ge 16, 3) := by decide +kernel
theorem dX7_sign_8 : decode cX7_sign 8 = .ok (.aload_n 0, 1) := by decide +kernel
theorem dX7_sign_9 : decode cX7_sign 9 = .ok (.getfield 7, 3) := by decide +kernel
theorem dX7_sign_12 : decode cX7_sign 12 = .ok (.iload_n 1, 1) := by decide +kernel
theorem dX7_sign_13 : decode cX7_sign 13 = .ok (.baload, 1) := by decide +kernel
theorem dX7_sign_14 : decode cX7_sign 14 = .ok (.sipush 255, 3) := by decide +kernel
theorem dX7_sign_17 : decode cX7_sign 17 = .ok (.iand, 1) := by decide +kernel
theorem dX7_sign_18 : decode cX7_sign 18 = .ok (.goto 4, 3) := by decide +kernel
theorem dX7_sign_21 : decode cX7_sign 21 = .ok (.iconst 0, 1) := by decide +kernel
theorem dX7_sign_22 : decode cX7_sign 22 = .ok (.ireturn, 1) := by decide +kernel
theorem dX7_isLetter_0 : decode cX7_isLetter 0 = .ok (.iload_n 0, 1) := by decide +kernel
theorem dX7_isLetter_1 : decode cX7_isLetter 1 = .ok (.bipush 97, 2) := by decide +kernel
theorem dX7_isLetter_3 : decode cX7_isLetter 3 = .ok (.if_icmp .lt 13, 3) := by decide +kernel
theorem dX7_isLetter_6 : decode cX7_isLetter 6 = .ok (.iload_n 0, 1) := by decide +kernel
theorem dX7_isLetter_7 : decode cX7_isLetter 7 = .ok (.bipush 122, 2) := by decide +kernel
theorem dX7_isLetter_9 : decode cX7_isLetter 9 = .ok (.if_icmp .gt 7, 3) := by decide +kernel
theorem dX7_isLetter_12 : decode cX7_isLetter 12 = .ok (.iconst 1, 1) := by decide +kernel
theorem dX7_isLetter_13 : decode cX7_isLetter 13 = .ok (.goto 4, 3) := by decide +kernel
theorem dX7_isLetter_16 : decode cX7_isLetter 16 = .ok (.iconst 0, 1) := by decide +kernel
theorem dX7_isLetter_17 : decode cX7_isLetter 17 = .ok (.ireturn, 1) := by decide +kernel
theorem dX7_isDigit_0 : decode cX7_isDigit 0 = .ok (.iload_n 0, 1) := by decide +kernel
theorem dX7_isDigit_1 : decode cX7_isDigit 1 = .ok (.bipush 48, 2) := by decide +kernel
theorem dX7_isDigit_3 : decode cX7_isDigit 3 = .ok (.if_icmp .lt 13, 3) := by decide +kernel
theorem dX7_isDigit_6 : decode cX7_isDigit 6 = .ok (.iload_n 0, 1) := by decide +kernel
theorem dX7_isDigit_7 : decode cX7_isDigit 7 = .ok (.bipush 57, 2) := by decide +kernel
theorem dX7_isDigit_9 : decode cX7_isDigit 9 = .ok (.if_icmp .gt 7, 3) := by decide +kernel
theorem dX7_isDigit_12 : decode cX7_isDigit 12 = .ok (.iconst 1, 1) := by decide +kernel
theorem dX7_isDigit_13 : decode cX7_isDigit 13 = .ok (.goto 4, 3) := by decide +kernel
theorem dX7_isDigit_16 : decode cX7_isDigit 16 = .ok (.iconst 0, 1) := by decide +kernel
theorem dX7_isDigit_17 : decode cX7_isDigit 17 = .ok (.ireturn, 1) := by decide +kernel
theorem dX7_fails_0 : decode cX7_fails 0 = .ok (.aload_n 0, 1) := by decide +kernel
theorem dX7_fails_1 : decode cX7_fails 1 = .ok (.getfield 11, 3) := by decide +kernel
theorem dX7_fails_4 : decode cX7_fails 4 = .ok (.ifCond .le 4, 3) := by decide +kernel
theorem dX7_fails_7 : decode cX7_fails 7 = .ok (.return_, 1) := by decide +kernel
theorem dX7_fails_8 : decode cX7_fails 8 = .ok (.aload_n 0, 1) := by decide +kernel
theorem dX7_fails_9 : decode cX7_fails 9 = .ok (.iload_n 1, 1) := by decide +kernel
theorem dX7_fails_10 : decode cX7_fails 10 = .ok (.putfield 11, 3) := by decide +kernel
theorem dX7_fails_13 : decode cX7_fails 13 = .ok (.aload_n 0, 1) := by decide +kernel
theorem dX7_fails_14 : decode cX7_fails 14 = .ok (.iload_n 2, 1) := by decide +kernel
theorem dX7_fails_15 : decode cX7_fails 15 = .ok (.putfield 14, 3) := by decide +kernel
theorem dX7_fails_18 : decode cX7_fails 18 = .ok (.return_, 1) := by decide +kernel
theorem dX7_isGood_0 : decode cX7_isGood 0 = .ok (.aload_n 0, 1) := by decide +kernel
theorem dX7_isGood_1 : decode cX7_isGood 1 = .ok (.getfield 11, 3) := by decide +kernel
theorem dX7_isGood_4 : decode cX7_isGood 4 = .ok (.ifCond .ne 7, 3) := by decide +kernel
theorem dX7_isGood_7 : decode cX7_isGood 7 = .ok (.iconst 1, 1) := by decide +kernel
theorem dX7_isGood_8 : decode cX7_isGood 8 = .ok (.goto 4, 3) := by decide +kernel
theorem dX7_isGood_11 : decode cX7_isGood 11 = .ok (.iconst 0, 1) := by decide +kernel
theorem dX7_isGood_12 : decode cX7_isGood 12 = .ok (.ireturn, 1) := by decide +kernel
theorem dX7_isKept_0 : decode cX7_isKept 0 = .ok (.lload_n 0, 1) := by decide +kernel
theorem dX7_isKept_1 : decode cX7_isKept 1 = .ok (.ldc2_w 17, 3) := by decide +kernel
theorem dX7_isKept_4 : decode cX7_isKept 4 = .ok (.lcmp, 1) := by decide +kernel
theorem dX7_isKept_5 : decode cX7_isKept 5 = .ok (.ifCond .eq 83, 3) := by decide +kernel
theorem dX7_isKept_8 : decode cX7_isKept 8 = .ok (.lload_n 0, 1) := by decide +kernel
theorem dX7_isKept_9 : decode cX7_isKept 9 = .ok (.ldc2_w 19, 3) := by decide +kernel
theorem dX7_isKept_12 : decode cX7_isKept 12 = .ok (.lcmp, 1) := by decide +kernel
theorem dX7_isKept_13 : decode cX7_isKept 13 = .ok (.ifCond .eq 75, 3) := by decide +kernel
theorem dX7_isKept_16 : decode cX7_isKept 16 = .ok (.lload_n 0, 1) := by decide +kernel
theorem dX7_isKept_17 : decode cX7_isKept 17 = .ok (.ldc2_w 21, 3) := by decide +kernel
theorem dX7_isKept_20 : decode cX7_isKept 20 = .ok (.lcmp, 1) := by decide +kernel
theorem dX7_isKept_21 : decode cX7_isKept 21 = .ok (.ifCond .eq 67, 3) := by decide +kernel
theorem dX7_isKept_24 : decode cX7_isKept 24 = .ok (.lload_n 0, 1) := by decide +kernel
theorem dX7_isKept_25 : decode cX7_isKept 25 = .ok (.ldc2_w 23, 3) := by decide +kernel
theorem dX7_isKept_28 : decode cX7_isKept 28 = .ok (.lcmp, 1) := by decide +kernel
theorem dX7_isKept_29 : decode cX7_isKept 29 = .ok (.ifCond .eq 59, 3) := by decide +kernel
theorem dX7_isKept_32 : decode cX7_isKept 32 = .ok (.lload_n 0, 1) := by decide +kernel
theorem dX7_isKept_33 : decode cX7_isKept 33 = .ok (.ldc2_w 25, 3) := by decide +kernel
theorem dX7_isKept_36 : decode cX7_isKept 36 = .ok (.lcmp, 1) := by decide +kernel
theorem dX7_isKept_37 : decode cX7_isKept 37 = .ok (.ifCond .eq 51, 3) := by decide +kernel
theorem dX7_isKept_40 : decode cX7_isKept 40 = .ok (.lload_n 0, 1) := by decide +kernel
theorem dX7_isKept_41 : decode cX7_isKept 41 = .ok (.ldc2_w 27, 3) := by decide +kernel
theorem dX7_isKept_44 : decode cX7_isKept 44 = .ok (.lcmp, 1) := by decide +kernel
theorem dX7_isKept_45 : decode cX7_isKept 45 = .ok (.ifCond .eq 43, 3) := by decide +kernel
theorem dX7_isKept_48 : decode cX7_isKept 48 = .ok (.lload_n 0, 1) := by decide +kernel
theorem dX7_isKept_49 : decode cX7_isKept 49 = .ok (.ldc2_w 29, 3) := by decide +kernel
theorem dX7_isKept_52 : decode cX7_isKept 52 = .ok (.lcmp, 1) := by decide +kernel
theorem dX7_isKept_53 : decode cX7_isKept 53 = .ok (.ifCond .eq 35, 3) := by decide +kernel
theorem dX7_isKept_56 : decode cX7_isKept 56 = .ok (.lload_n 0, 1) := by decide +kernel
theorem dX7_isKept_57 : decode cX7_isKept 57 = .ok (.ldc2_w 31, 3) := by decide +kernel
theorem dX7_isKept_60 : decode cX7_isKept 60 = .ok (.lcmp, 1) := by decide +kernel
theorem dX7_isKept_61 : decode cX7_isKept 61 = .ok (.ifCond .eq 27, 3) := by decide +kernel
theorem dX7_isKept_64 : decode cX7_isKept 64 = .ok (.lload_n 0, 1) := by decide +kernel
theorem dX7_isKept_65 : decode cX7_isKept 65 = .ok (.ldc2_w 33, 3) := by decide +kernel
theorem dX7_isKept_68 : decode cX7_isKept 68 = .ok (.lcmp, 1) := by decide +kernel
theorem dX7_isKept_69 : decode cX7_isKept 69 = .ok (.ifCond .eq 19, 3) := by decide +kernel
theorem dX7_isKept_72 : decode cX7_isKept 72 = .ok (.lload_n 0, 1) := by decide +kernel
theorem dX7_isKept_73 : decode cX7_isKept 73 = .ok (.ldc2_w 35, 3) := by decide +kernel
theorem dX7_isKept_76 : decode cX7_isKept 76 = .ok (.lcmp, 1) := by decide +kernel
theorem dX7_isKept_77 : decode cX7_isKept 77 = .ok (.ifCond .eq 11, 3) := by decide +kernel
theorem dX7_isKept_80 : decode cX7_isKept 80 = .ok (.lload_n 0, 1) := by decide +kernel
theorem dX7_isKept_81 : decode cX7_isKept 81 = .ok (.ldc2_w 37, 3) := by decide +kernel
theorem dX7_isKept_84 : decode cX7_isKept 84 = .ok (.lcmp, 1) := by decide +kernel
theorem dX7_isKept_85 : decode cX7_isKept 85 = .ok (.ifCond .ne 7, 3) := by decide +kernel
theorem dX7_isKept_88 : decode cX7_isKept 88 = .ok (.iconst 1, 1) := by decide +kernel
theorem dX7_isKept_89 : decode cX7_isKept 89 = .ok (.goto 4, 3) := by decide +kernel
theorem dX7_isKept_92 : decode cX7_isKept 92 = .ok (.iconst 0, 1) := by decide +kernel
theorem dX7_isKept_93 : decode cX7_isKept 93 = .ok (.ireturn, 1) := by decide +kernel
theorem dX7_isSign_0 : decode cX7_isSign 0 = .ok (.iload_n 1, 1) := by decide +kernel
theorem dX7_isSign_1 : decode cX7_isSign 1 = .ok (.bipush 58, 2) := by decide +kernel
theorem dX7_isSign_3 : decode cX7_isSign 3 = .ok (.if_icmp .eq 70, 3) := by decide +kernel
theorem dX7_isSign_6 : decode cX7_isSign 6 = .ok (.iload_n 1, 1) := by decide +kernel
theorem dX7_isSign_7 : decode cX7_isSign 7 = .ok (.bipush 44, 2) := by decide +kernel
theorem dX7_isSign_9 : decode cX7_isSign 9 = .ok (.if_icmp .eq 64, 3) := by decide +kernel
theorem dX7_isSign_12 : decode cX7_isSign 12 = .ok (.iload_n 1, 1) := by decide +kernel
theorem dX7_isSign_13 : decode cX7_isSign 13 = .ok (.bipush 59, 2) := by decide +kernel
theorem dX7_isSign_15 : decode cX7_isSign 15 = .ok (.if_icmp .eq 58, 3) := by decide +kernel
theorem dX7_isSign_18 : decode cX7_isSign 18 = .ok (.iload_n 1, 1) := by decide +kernel
theorem dX7_isSign_19 : decode cX7_isSign 19 = .ok (.bipush 35, 2) := by decide +kernel
theorem dX7_isSign_21 : decode cX7_isSign 21 = .ok (.if_icmp .eq 52, 3) := by decide +kernel
theorem dX7_isSign_24 : decode cX7_isSign 24 = .ok (.iload_n 1, 1) := by decide +kernel
theorem dX7_isSign_25 : decode cX7_isSign 25 = .ok (.bipush 45, 2) := by decide +kernel
theorem dX7_isSign_27 : decode cX7_isSign 27 = .ok (.if_icmp .eq 46, 3) := by decide +kernel
theorem dX7_isSign_30 : decode cX7_isSign 30 = .ok (.iload_n 1, 1) := by decide +kernel
theorem dX7_isSign_31 : decode cX7_isSign 31 = .ok (.bipush 46, 2) := by decide +kernel
theorem dX7_isSign_33 : decode cX7_isSign 33 = .ok (.if_icmp .eq 40, 3) := by decide +kernel
theorem dX7_isSign_36 : decode cX7_isSign 36 = .ok (.aload_n 0, 1) := by decide +kernel
theorem dX7_isSign_37 : decode cX7_isSign 37 = .ok (.getfield 39, 3) := by decide +kernel
theorem dX7_isSign_40 : decode cX7_isSign 40 = .ok (.ifCond .eq 37, 3) := by decide +kernel
theorem dX7_isSign_43 : decode cX7_isSign 43 = .ok (.iload_n 1, 1) := by decide +kernel
theorem dX7_isSign_44 : decode cX7_isSign 44 = .ok (.bipush 60, 2) := by decide +kernel
theorem dX7_isSign_46 : decode cX7_isSign 46 = .ok (.if_icmp .eq 27, 3) := by decide +kernel
theorem dX7_isSign_49 : decode cX7_isSign 49 = .ok (.iload_n 1, 1) := by decide +kernel
theorem dX7_isSign_50 : decode cX7_isSign 50 = .ok (.bipush 62, 2) := by decide +kernel
theorem dX7_isSign_52 : decode cX7_isSign 52 = .ok (.if_icmp .eq 21, 3) := by decide +kernel
theorem dX7_isSign_55 : decode cX7_isSign 55 = .ok (.iload_n 1, 1) := by decide +kernel
theorem dX7_isSign_56 : decode cX7_isSign 56 = .ok (.bipush 61, 2) := by decide +kernel
theorem dX7_isSign_58 : decode cX7_isSign 58 = .ok (.if_icmp .eq 15, 3) := by decide +kernel
theorem dX7_isSign_61 : decode cX7_isSign 61 = .ok (.iload_n 1, 1) := by decide +kernel
theorem dX7_isSign_62 : decode cX7_isSign 62 = .ok (.bipush 40, 2) := by decide +kernel
theorem dX7_isSign_64 : decode cX7_isSign 64 = .ok (.if_icmp .eq 9, 3) := by decide +kernel
theorem dX7_isSign_67 : decode cX7_isSign 67 = .ok (.iload_n 1, 1) := by decide +kernel
theorem dX7_isSign_68 : decode cX7_isSign 68 = .ok (.bipush 41, 2) := by decide +kernel
theorem dX7_isSign_70 : decode cX7_isSign 70 = .ok (.if_icmp .ne 7, 3) := by decide +kernel
theorem dX7_isSign_73 : decode cX7_isSign 73 = .ok (.iconst 1, 1) := by decide +kernel
theorem dX7_isSign_74 : decode cX7_isSign 74 = .ok (.goto 4, 3) := by decide +kernel
theorem dX7_isSign_77 : decode cX7_isSign 77 = .ok (.iconst 0, 1) := by decide +kernel
theorem dX7_isSign_78 : decode cX7_isSign 78 = .ok (.ireturn, 1) := by decide +kernel
theorem dX7_next_0 : decode cX7_next 0 = .ok (.aload_n 0, 1) := by decide +kernel
theorem dX7_next_1 : decode cX7_next 1 = .ok (.aload_n 0, 1) := by decide +kernel
theorem dX7_next_2 : decode cX7_next 2 = .ok (.getfield 43, 3) := by decide +kernel
theorem dX7_next_5 : decode cX7_next 5 = .ok (.putfield 46, 3) := by decide +kernel
theorem dX7_next_8 : decode cX7_next 8 = .ok (.aload_n 0, 1) := by decide +kernel
theorem dX7_next_9 : decode cX7_next 9 = .ok (.getfield 46, 3) := by decide +kernel
theorem dX7_next_12 : decode cX7_next 12 = .ok (.aload_n 0, 1) := by decide +kernel
theorem dX7_next_13 : decode cX7_next 13 = .ok (.getfield 1, 3) := by decide +kernel
theorem dX7_next_16 : decode cX7_next 16 = .ok (.if_icmp .ge 42, 3) := by decide +kernel
theorem dX7_next_19 : decode cX7_next 19 = .ok (.aload_n 0, 1) := by decide +kernel
theorem dX7_next_20 : decode cX7_next 20 = .ok (.aload_n 0, 1) := by decide +kernel
theorem dX7_next_21 : decode cX7_next 21 = .ok (.getfield 46, 3) := by decide +kernel
theorem dX7_next_24 : decode cX7_next 24 = .ok (.invokevirtual 49, 3) := by decide +kernel
theorem dX7_next_27 : decode cX7_next 27 = .ok (.bipush 32, 2) := by decide +kernel
theorem dX7_next_29 : decode cX7_next 29 = .ok (.if_icmp .eq 16, 3) := by decide +kernel
theorem dX7_next_32 : decode cX7_next 32 = .ok (.aload_n 0, 1) := by decide +kernel
theorem dX7_next_33 : decode cX7_next 33 = .ok (.aload_n 0, 1) := by decide +kernel
theorem dX7_next_34 : decode cX7_next 34 = .ok (.getfield 46, 3) := by decide +kernel
theorem dX7_next_37 : decode cX7_next 37 = .ok (.invokevirtual 49, 3) := by decide +kernel
theorem dX7_next_40 : decode cX7_next 40 = .ok (.bipush 10, 2) := by decide +kernel
theorem dX7_next_42 : decode cX7_next 42 = .ok (.if_icmp .ne 16, 3) := by decide +kernel
theorem dX7_next_45 : decode cX7_next 45 = .ok (.aload_n 0, 1) := by decide +kernel
theorem dX7_next_46 : decode cX7_next 46 = .ok (.dup, 1) := by decide +kernel
theorem dX7_next_47 : decode cX7_next 47 = .ok (.getfield 46, 3) := by decide +kernel
theorem dX7_next_50 : decode cX7_next 50 = .ok (.iconst 1, 1) := by decide +kernel
theorem dX7_next_51 : decode cX7_next 51 = .ok (.iadd, 1) := by decide +kernel
theorem dX7_next_52 : decode cX7_next 52 = .ok (.putfield 46, 3) := by decide +kernel
theorem dX7_next_55 : decode cX7_next 55 = .ok (.goto (-47), 3) := by decide +kernel
theorem dX7_next_58 : decode cX7_next 58 = .ok (.aload_n 0, 1) := by decide +kernel
theorem dX7_next_59 : decode cX7_next 59 = .ok (.aload_n 0, 1) := by decide +kernel
theorem dX7_next_60 : decode cX7_next 60 = .ok (.getfield 46, 3) := by decide +kernel
theorem dX7_next_63 : decode cX7_next 63 = .ok (.invokevirtual 49, 3) := by decide +kernel
theorem dX7_next_66 : decode cX7_next 66 = .ok (.istore_n 1, 1) := by decide +kernel
theorem dX7_next_67 : decode cX7_next 67 = .ok (.aload_n 0, 1) := by decide +kernel
theorem dX7_next_68 : decode cX7_next 68 = .ok (.aload_n 0, 1) := by decide +kernel
theorem dX7_next_69 : decode cX7_next 69 = .ok (.getfield 46, 3) := by decide +kernel
theorem dX7_next_72 : decode cX7_next 72 = .ok (.iconst 1, 1) := by decide +kernel
theorem dX7_next_73 : decode cX7_next 73 = .ok (.iadd, 1) := by decide +kernel
theorem dX7_next_74 : decode cX7_next 74 = .ok (.putfield 43, 3) := by decide +kernel
theorem dX7_next_77 : decode cX7_next 77 = .ok (.aload_n 0, 1) := by decide +kernel
theorem dX7_next_78 : decode cX7_next 78 = .ok (.getfield 46, 3) := by decide +kernel
theorem dX7_next_81 : decode cX7_next 81 = .ok (.aload_n 0, 1) := by decide +kernel
theorem dX7_next_82 : decode cX7_next 82 = .ok (.getfield 1, 3) := by decide +kernel
theorem dX7_next_85 : decode cX7_next 85 = .ok (.if_icmp .lt 27, 3) := by decide +kernel
theorem dX7_next_88 : decode cX7_next 88 = .ok (.aload_n 0, 1) := by decide +kernel
theorem dX7_next_89 : decode cX7_next 89 = .ok (.iconst 0, 1) := by decide +kernel
theorem dX7_next_90 : decode cX7_next 90 = .ok (.putfield 53, 3) := by decide +kernel
theorem dX7_next_93 : decode cX7_next 93 = .ok (.aload_n 0, 1) := by decide +kernel
theorem dX7_next_94 : decode cX7_next 94 = .ok (.aload_n 0, 1) := by decide +kernel
theorem dX7_next_95 : decode cX7_next 95 = .ok (.getfield 1, 3) := by decide +kernel
theorem dX7_next_98 : decode cX7_next 98 = .ok (.putfield 46, 3) := by decide +kernel
theorem dX7_next_101 : decode cX7_next 101 = .ok (.aload_n 0, 1) := by decide +kernel
theorem dX7_next_102 : decode cX7_next 102 = .ok (.aload_n 0, 1) := by decide +kernel
theorem dX7_next_103 : decode cX7_next 103 = .ok (.getfield 1, 3) := by decide +kernel
theorem dX7_next_106 : decode cX7_next 106 = .ok (.putfield 43, 3) := by decide +kernel
theorem dX7_next_109 : decode cX7_next 109 = .ok (.goto 271, 3) := by decide +kernel
theorem dX7_next_112 : decode cX7_next 112 = .ok (.iload_n 1, 1) := by decide +kernel
theorem dX7_next_113 : decode cX7_next 113 = .ok (.invokestatic 56, 3) := by decide +kernel
theorem dX7_next_116 : decode cX7_next 116 = .ok (.ifCond .eq 123, 3) := by decide +kernel
theorem dX7_next_119 : decode cX7_next 119 = .ok (.aload_n 0, 1) := by decide +kernel
theorem dX7_next_120 : decode cX7_next 120 = .ok (.aload_n 0, 1) := by decide +kernel
theorem dX7_next_121 : decode cX7_next 121 = .ok (.getfield 43, 3) := by decide +kernel
theorem dX7_next_124 : decode cX7_next 124 = .ok (.invokevirtual 49, 3) := by decide +kernel
theorem dX7_next_127 : decode cX7_next 127 = .ok (.invokestatic 56, 3) := by decide +kernel
theorem dX7_next_130 : decode cX7_next 130 = .ok (.ifCond .eq 16, 3) := by decide +kernel
theorem dX7_next_133 : decode cX7_next 133 = .ok (.aload_n 0, 1) := by decide +kernel
theorem dX7_next_134 : decode cX7_next 134 = .ok (.dup, 1) := by decide +kernel
theorem dX7_next_135 : decode cX7_next 135 = .ok (.getfield 43, 3) := by decide +kernel
theorem dX7_next_138 : decode cX7_next 138 = .ok (.iconst 1, 1) := by decide +kernel
theorem dX7_next_139 : decode cX7_next 139 = .ok (.iadd, 1) := by decide +kernel
theorem dX7_next_140 : decode cX7_next 140 = .ok (.putfield 43, 3) := by decide +kernel
theorem dX7_next_143 : decode cX7_next 143 = .ok (.goto (-24), 3) := by decide +kernel
theorem dX7_next_146 : decode cX7_next 146 = .ok (.aload_n 0, 1) := by decide +kernel
theorem dX7_next_147 : decode cX7_next 147 = .ok (.lconst 0, 1) := by decide +kernel
theorem dX7_next_148 : decode cX7_next 148 = .ok (.putfield 60, 3) := by decide +kernel
theorem dX7_next_151 : decode cX7_next 151 = .ok (.aload_n 0, 1) := by decide +kernel
theorem dX7_next_152 : decode cX7_next 152 = .ok (.getfield 46, 3) := by decide +kernel
theorem dX7_next_155 : decode cX7_next 155 = .ok (.istore_n 2, 1) := by decide +kernel
theorem dX7_next_156 : decode cX7_next 156 = .ok (.iload_n 2, 1) := by decide +kernel
theorem dX7_next_157 : decode cX7_next 157 = .ok (.aload_n 0, 1) := by decide +kernel
theorem dX7_next_158 : decode cX7_next 158 = .ok (.getfield 43, 3) := by decide +kernel
theorem dX7_next_161 : decode cX7_next 161 = .ok (.if_icmp .ge 38, 3) := by decide +kernel
theorem dX7_next_164 : decode cX7_next 164 = .ok (.iload_n 2, 1) := by decide +kernel
theorem dX7_next_165 : decode cX7_next 165 = .ok (.aload_n 0, 1) := by decide +kernel
theorem dX7_next_166 : decode cX7_next 166 = .ok (.getfield 46, 3) := by decide +kernel
theorem dX7_next_169 : decode cX7_next 169 = .ok (.bipush 8, 2) := by decide +kernel
theorem dX7_next_171 : decode cX7_next 171 = .ok (.iadd, 1) := by decide +kernel
theorem dX7_next_172 : decode cX7_next 172 = .ok (.if_icmp .ge 27, 3) := by decide +kernel
theorem dX7_next_175 : decode cX7_next 175 = .ok (.aload_n 0, 1) := by decide +kernel
theorem dX7_next_176 : decode cX7_next 176 = .ok (.aload_n 0, 1) := by decide +kernel
theorem dX7_next_177 : decode cX7_next 177 = .ok (.getfield 60, 3) := by decide +kernel
theorem dX7_next_180 : decode cX7_next 180 = .ok (.bipush 8, 2) := by decide +kernel
theorem dX7_next_182 : decode cX7_next 182 = .ok (.lshl, 1) := by decide +kernel
theorem dX7_next_183 : decode cX7_next 183 = .ok (.aload_n 0, 1) := by decide +kernel
theorem dX7_next_184 : decode cX7_next 184 = .ok (.iload_n 2, 1) := by decide +kernel
theorem dX7_next_185 : decode cX7_next 185 = .ok (.invokevirtual 49, 3) := by decide +kernel
theorem dX7_next_188 : decode cX7_next 188 = .ok (.i2l, 1) := by decide +kernel
theorem dX7_next_189 : decode cX7_next 189 = .ok (.lor, 1) := by decide +kernel
theorem dX7_next_190 : decode cX7_next 190 = .ok (.putfield 60, 3) := by decide +kernel
theorem dX7_next_193 : decode cX7_next 193 = .ok (.iinc 2 1, 3) := by decide +kernel
theorem dX7_next_196 : decode cX7_next 196 = .ok (.goto (-40), 3) := by decide +kernel
theorem dX7_next_199 : decode cX7_next 199 = .ok (.aload_n 0, 1) := by decide +kernel
theorem dX7_next_200 : decode cX7_next 200 = .ok (.aload_n 0, 1) := by decide +kernel
theorem dX7_next_201 : decode cX7_next 201 = .ok (.getfield 43, 3) := by decide +kernel
theorem dX7_next_204 : decode cX7_next 204 = .ok (.aload_n 0, 1) := by decide +kernel
theorem dX7_next_205 : decode cX7_next 205 = .ok (.getfield 46, 3) := by decide +kernel
theorem dX7_next_208 : decode cX7_next 208 = .ok (.isub, 1) := by decide +kernel
theorem dX7_next_209 : decode cX7_next 209 = .ok (.bipush 8, 2) := by decide +kernel
theorem dX7_next_211 : decode cX7_next 211 = .ok (.if_icmp .le 7, 3) := by decide +kernel
theorem dX7_next_214 : decode cX7_next 214 = .ok (.iconst 1, 1) := by decide +kernel
theorem dX7_next_215 : decode cX7_next 215 = .ok (.goto 18, 3) := by decide +kernel
theorem dX7_next_218 : decode cX7_next 218 = .ok (.aload_n 0, 1) := by decide +kernel
theorem dX7_next_219 : decode cX7_next 219 = .ok (.getfield 60, 3) := by decide +kernel
theorem dX7_next_222 : decode cX7_next 222 = .ok (.invokestatic 64, 3) := by decide +kernel
theorem dX7_next_225 : decode cX7_next 225 = .ok (.ifCond .eq 7, 3) := by decide +kernel
theorem dX7_next_228 : decode cX7_next 228 = .ok (.iconst 3, 1) := by decide +kernel
theorem dX7_next_229 : decode cX7_next 229 = .ok (.goto 4, 3) := by decide +kernel
theorem dX7_next_232 : decode cX7_next 232 = .ok (.iconst 2, 1) := by decide +kernel
theorem dX7_next_233 : decode cX7_next 233 = .ok (.putfield 53, 3) := by decide +kernel
theorem dX7_next_236 : decode cX7_next 236 = .ok (.goto 144, 3) := by decide +kernel
theorem dX7_next_239 : decode cX7_next 239 = .ok (.iload_n 1, 1) := by decide +kernel
theorem dX7_next_240 : decode cX7_next 240 = .ok (.invokestatic 68, 3) := by decide +kernel
theorem dX7_next_243 : decode cX7_next 243 = .ok (.ifCond .eq 120, 3) := by decide +kernel
theorem dX7_next_246 : decode cX7_next 246 = .ok (.aload_n 0, 1) := by decide +kernel
theorem dX7_next_247 : decode cX7_next 247 = .ok (.iconst 0, 1) := by decide +kernel
theorem dX7_next_248 : decode cX7_next 248 = .ok (.putfield 71, 3) := by decide +kernel
theorem dX7_next_251 : decode cX7_next 251 = .ok (.aload_n 0, 1) := by decide +kernel
theorem dX7_next_252 : decode cX7_next 252 = .ok (.aload_n 0, 1) := by decide +kernel
theorem dX7_next_253 : decode cX7_next 253 = .ok (.getfield 46, 3) := by decide +kernel
theorem dX7_next_256 : decode cX7_next 256 = .ok (.putfield 43, 3) := by decide +kernel
theorem dX7_next_259 : decode cX7_next 259 = .ok (.aload_n 0, 1) := by decide +kernel
theorem dX7_next_260 : decode cX7_next 260 = .ok (.aload_n 0, 1) := by decide +kernel
theorem dX7_next_261 : decode cX7_next 261 = .ok (.getfield 43, 3) := by decide +kernel
theorem dX7_next_264 : decode cX7_next 264 = .ok (.invokevirtual 49, 3) := by decide +kernel
theorem dX7_next_267 : decode cX7_next 267 = .ok (.invokestatic 68, 3) := by decide +kernel
theorem dX7_next_270 : decode cX7_next 270 = .ok (.ifCond .eq 53, 3) := by decide +kernel
theorem dX7_next_273 : decode cX7_next 273 = .ok (.aload_n 0, 1) := by decide +kernel
theorem dX7_next_274 : decode cX7_next 274 = .ok (.getfield 43, 3) := by decide +kernel
theorem dX7_next_277 : decode cX7_next 277 = .ok (.aload_n 0, 1) := by decide +kernel
theorem dX7_next_278 : decode cX7_next 278 = .ok (.getfield 46, 3) := by decide +kernel
theorem dX7_next_281 : decode cX7_next 281 = .ok (.isub, 1) := by decide +kernel
theorem dX7_next_282 : decode cX7_next 282 = .ok (.bipush 6, 2) := by decide +kernel
theorem dX7_next_284 : decode cX7_next 284 = .ok (.if_icmp .ge 26, 3) := by decide +kernel
theorem dX7_next_287 : decode cX7_next 287 = .ok (.aload_n 0, 1) := by decide +kernel
theorem dX7_next_288 : decode cX7_next 288 = .ok (.bipush 10, 2) := by decide +kernel
theorem dX7_next_290 : decode cX7_next 290 = .ok (.aload_n 0, 1) := by decide +kernel
theorem dX7_next_291 : decode cX7_next 291 = .ok (.getfield 71, 3) := by decide +kernel
theorem dX7_next_294 : decode cX7_next 294 = .ok (.imul, 1) := by decide +kernel
theorem dX7_next_295 : decode cX7_next 295 = .ok (.aload_n 0, 1) := by decide +kernel
theorem dX7_next_296 : decode cX7_next 296 = .ok (.aload_n 0, 1) := by decide +kernel
theorem dX7_next_297 : decode cX7_next 297 = .ok (.getfield 43, 3) := by decide +kernel
theorem dX7_next_300 : decode cX7_next 300 = .ok (.invokevirtual 49, 3) := by decide +kernel
theorem dX7_next_303 : decode cX7_next 303 = .ok (.iadd, 1) := by decide +kernel
theorem dX7_next_304 : decode cX7_next 304 = .ok (.bipush 48, 2) := by decide +kernel
theorem dX7_next_306 : decode cX7_next 306 = .ok (.isub, 1) := by decide +kernel
theorem dX7_next_307 : decode cX7_next 307 = .ok (.putfield 71, 3) := by decide +kernel
theorem dX7_next_310 : decode cX7_next 310 = .ok (.aload_n 0, 1) := by decide +kernel
theorem dX7_next_311 : decode cX7_next 311 = .ok (.dup, 1) := by decide +kernel
theorem dX7_next_312 : decode cX7_next 312 = .ok (.getfield 43, 3) := by decide +kernel
theorem dX7_next_315 : decode cX7_next 315 = .ok (.iconst 1, 1) := by decide +kernel
theorem dX7_next_316 : decode cX7_next 316 = .ok (.iadd, 1) := by decide +kernel
theorem dX7_next_317 : decode cX7_next 317 = .ok (.putfield 43, 3) := by decide +kernel
theorem dX7_next_320 : decode cX7_next 320 = .ok (.goto (-61), 3) := by decide +kernel
theorem dX7_next_323 : decode cX7_next 323 = .ok (.aload_n 0, 1) := by decide +kernel
theorem dX7_next_324 : decode cX7_next 324 = .ok (.aload_n 0, 1) := by decide +kernel
theorem dX7_next_325 : decode cX7_next 325 = .ok (.getfield 43, 3) := by decide +kernel
theorem dX7_next_328 : decode cX7_next 328 = .ok (.aload_n 0, 1) := by decide +kernel
theorem dX7_next_329 : decode cX7_next 329 = .ok (.getfield 46, 3) := by decide +kernel
theorem dX7_next_332 : decode cX7_next 332 = .ok (.isub, 1) := by decide +kernel
theorem dX7_next_333 : decode cX7_next 333 = .ok (.bipush 6, 2) := by decide +kernel
theorem dX7_next_335 : decode cX7_next 335 = .ok (.if_icmp .gt 17, 3) := by decide +kernel
theorem dX7_next_338 : decode cX7_next 338 = .ok (.aload_n 0, 1) := by decide +kernel
theorem dX7_next_339 : decode cX7_next 339 = .ok (.aload_n 0, 1) := by decide +kernel
theorem dX7_next_340 : decode cX7_next 340 = .ok (.getfield 43, 3) := by decide +kernel
theorem dX7_next_343 : decode cX7_next 343 = .ok (.invokevirtual 49, 3) := by decide +kernel
theorem dX7_next_346 : decode cX7_next 346 = .ok (.invokestatic 56, 3) := by decide +kernel
theorem dX7_next_349 : decode cX7_next 349 = .ok (.ifCond .eq 7, 3) := by decide +kernel
theorem dX7_next_352 : decode cX7_next 352 = .ok (.iconst 1, 1) := by decide +kernel
theorem dX7_next_353 : decode cX7_next 353 = .ok (.goto 4, 3) := by decide +kernel
theorem dX7_next_356 : decode cX7_next 356 = .ok (.iconst 4, 1) := by decide +kernel
theorem dX7_next_357 : decode cX7_next 357 = .ok (.putfield 53, 3) := by decide +kernel
theorem dX7_next_360 : decode cX7_next 360 = .ok (.goto 20, 3) := by decide +kernel
theorem dX7_next_363 : decode cX7_next 363 = .ok (.aload_n 0, 1) := by decide +kernel
theorem dX7_next_364 : decode cX7_next 364 = .ok (.aload_n 0, 1) := by decide +kernel
theorem dX7_next_365 : decode cX7_next 365 = .ok (.iload_n 1, 1) := by decide +kernel
theorem dX7_next_366 : decode cX7_next 366 = .ok (.invokevirtual 74, 3) := by decide +kernel
theorem dX7_next_369 : decode cX7_next 369 = .ok (.ifCond .eq 7, 3) := by decide +kernel
theorem dX7_next_372 : decode cX7_next 372 = .ok (.iconst 5, 1) := by decide +kernel
theorem dX7_next_373 : decode cX7_next 373 = .ok (.goto 4, 3) := by decide +kernel
theorem dX7_next_376 : decode cX7_next 376 = .ok (.iconst 1, 1) := by decide +kernel
theorem dX7_next_377 : decode cX7_next 377 = .ok (.putfield 53, 3) := by decide +kernel
theorem dX7_next_380 : decode cX7_next 380 = .ok (.return_, 1) := by decide +kernel
theorem dX7_is_0 : decode cX7_is 0 = .ok (.aload_n 0, 1) := by decide +kernel
theorem dX7_is_1 : decode cX7_is 1 = .ok (.getfield 53, 3) := by decide +kernel
theorem dX7_is_4 : decode cX7_is 4 = .ok (.iconst 5, 1) := by decide +kernel
theorem dX7_is_5 : decode cX7_is 5 = .ok (.if_icmp .ne 19, 3) := by decide +kernel
theorem dX7_is_8 : decode cX7_is 8 = .ok (.aload_n 0, 1) := by decide +kernel
theorem dX7_is_9 : decode cX7_is 9 = .ok (.aload_n 0, 1) := by decide +kernel
theorem dX7_is_10 : decode cX7_is 10 = .ok (.getfield 46, 3) := by decide +kernel
theorem dX7_is_13 : decode cX7_is 13 = .ok (.invokevirtual 49, 3) := by decide +kernel
theorem dX7_is_16 : decode cX7_is 16 = .ok (.iload_n 1, 1) := by decide +kernel
theorem dX7_is_17 : decode cX7_is 17 = .ok (.if_icmp .ne 7, 3) := by decide +kernel
theorem dX7_is_20 : decode cX7_is 20 = .ok (.iconst 1, 1) := by decide +kernel
theorem dX7_is_21 : decode cX7_is 21 = .ok (.goto 4, 3) := by decide +kernel
theorem dX7_is_24 : decode cX7_is 24 = .ok (.iconst 0, 1) := by decide +kernel
theorem dX7_is_25 : decode cX7_is 25 = .ok (.ireturn, 1) := by decide +kernel
theorem dX7_isWord_0 : decode cX7_isWord 0 = .ok (.aload_n 0, 1) := by decide +kernel
theorem dX7_isWord_1 : decode cX7_isWord 1 = .ok (.getfield 53, 3) := by decide +kernel
theorem dX7_isWord_4 : decode cX7_isWord 4 = .ok (.iconst 3, 1) := by decide +kernel
theorem dX7_isWord_5 : decode cX7_isWord 5 = .ok (.if_icmp .ne 16, 3) := by decide +kernel
theorem dX7_isWord_8 : decode cX7_isWord 8 = .ok (.aload_n 0, 1) := by decide +kernel
theorem dX7_isWord_9 : decode cX7_isWord 9 = .ok (.getfield 60, 3) := by decide +kernel
theorem dX7_isWord_12 : decode cX7_isWord 12 = .ok (.lload_n 1, 1) := by decide +kernel
theorem dX7_isWord_13 : decode cX7_isWord 13 = .ok (.lcmp, 1) := by decide +kernel
theorem dX7_isWord_14 : decode cX7_isWord 14 = .ok (.ifCond .ne 7, 3) := by decide +kernel
theorem dX7_isWord_17 : decode cX7_isWord 17 = .ok (.iconst 1, 1) := by decide +kernel
theorem dX7_isWord_18 : decode cX7_isWord 18 = .ok (.goto 4, 3) := by decide +kernel
theorem dX7_isWord_21 : decode cX7_isWord 21 = .ok (.iconst 0, 1) := by decide +kernel
theorem dX7_isWord_22 : decode cX7_isWord 22 = .ok (.ireturn, 1) := by decide +kernel
theorem dX7_wrong_0 : decode cX7_wrong 0 = .ok (.aload_n 0, 1) := by decide +kernel
theorem dX7_wrong_1 : decode cX7_wrong 1 = .ok (.aload_n 0, 1) := by decide +kernel
theorem dX7_wrong_2 : decode cX7_wrong 2 = .ok (.getfield 53, 3) := by decide +kernel
theorem dX7_wrong_5 : decode cX7_wrong 5 = .ok (.iconst 1, 1) := by decide +kernel
theorem dX7_wrong_6 : decode cX7_wrong 6 = .ok (.if_icmp .ne 7, 3) := by decide +kernel
theorem dX7_wrong_9 : decode cX7_wrong 9 = .ok (.iconst 1, 1) := by decide +kernel
theorem dX7_wrong_10 : decode cX7_wrong 10 = .ok (.goto 4, 3) := by decide +kernel
theorem dX7_wrong_13 : decode cX7_wrong 13 = .ok (.iconst 2, 1) := by decide +kernel
theorem dX7_wrong_14 : decode cX7_wrong 14 = .ok (.aload_n 0, 1) := by decide +kernel
theorem dX7_wrong_15 : decode cX7_wrong 15 = .ok (.getfield 46, 3) := by decide +kernel
theorem dX7_wrong_18 : decode cX7_wrong 18 = .ok (.invokevirtual 77, 3) := by decide +kernel
theorem dX7_wrong_21 : decode cX7_wrong 21 = .ok (.return_, 1) := by decide +kernel
theorem dX7_must_0 : decode cX7_must 0 = .ok (.aload_n 0, 1) := by decide +kernel
theorem dX7_must_1 : decode cX7_must 1 = .ok (.invokevirtual 81, 3) := by decide +kernel
theorem dX7_must_4 : decode cX7_must 4 = .ok (.ifCond .ne 4, 3) := by decide +kernel
theorem dX7_must_7 : decode cX7_must 7 = .ok (.return_, 1) := by decide +kernel
theorem dX7_must_8 : decode cX7_must 8 = .ok (.iload_n 1, 1) := by decide +kernel
theorem dX7_must_9 : decode cX7_must 9 = .ok (.ifCond .eq 10, 3) := by decide +kernel
theorem dX7_must_12 : decode cX7_must 12 = .ok (.aload_n 0, 1) := by decide +kernel
theorem dX7_must_13 : decode cX7_must 13 = .ok (.invokevirtual 85, 3) := by decide +kernel
theorem dX7_must_16 : decode cX7_must 16 = .ok (.goto 7, 3) := by decide +kernel
theorem dX7_must_19 : decode cX7_must 19 = .ok (.aload_n 0, 1) := by decide +kernel
theorem dX7_must_20 : decode cX7_must 20 = .ok (.invokevirtual 89, 3) := by decide +kernel
theorem dX7_must_23 : decode cX7_must 23 = .ok (.return_, 1) := by decide +kernel
theorem dX7_takeTape_0 : decode cX7_takeTape 0 = .ok (.aload_n 0, 1) := by decide +kernel
theorem dX7_takeTape_1 : decode cX7_takeTape 1 = .ok (.iload_n 1, 1) := by decide +kernel
theorem dX7_takeTape_2 : decode cX7_takeTape 2 = .ok (.putfield 39, 3) := by decide +kernel
theorem dX7_takeTape_5 : decode cX7_takeTape 5 = .ok (.aload_n 0, 1) := by decide +kernel
theorem dX7_takeTape_6 : decode cX7_takeTape 6 = .ok (.iconst 0, 1) := by decide +kernel
theorem dX7_takeTape_7 : decode cX7_takeTape 7 = .ok (.putfield 11, 3) := by decide +kernel
theorem dX7_takeTape_10 : decode cX7_takeTape 10 = .ok (.aload_n 0, 1) := by decide +kernel
theorem dX7_takeTape_11 : decode cX7_takeTape 11 = .ok (.iconst (-1), 1) := by decide +kernel
theorem dX7_takeTape_12 : decode cX7_takeTape 12 = .ok (.putfield 14, 3) := by decide +kernel
theorem dX7_takeTape_15 : decode cX7_takeTape 15 = .ok (.aload_n 0, 1) := by decide +kernel
theorem dX7_takeTape_16 : decode cX7_takeTape 16 = .ok (.aload_n 0, 1) := by decide +kernel
theorem dX7_takeTape_17 : decode cX7_takeTape 17 = .ok (.getfield 92, 3) := by decide +kernel
theorem dX7_takeTape_20 : decode cX7_takeTape 20 = .ok (.putfield 1, 3) := by decide +kernel
theorem dX7_takeTape_23 : decode cX7_takeTape 23 = .ok (.iconst 0, 1) := by decide +kernel
theorem dX7_takeTape_24 : decode cX7_takeTape 24 = .ok (.istore_n 2, 1) := by decide +kernel
theorem dX7_takeTape_25 : decode cX7_takeTape 25 = .ok (.iload_n 2, 1) := by decide +kernel
theorem dX7_takeTape_26 : decode cX7_takeTape 26 = .ok (.aload_n 0, 1) := by decide +kernel
theorem dX7_takeTape_27 : decode cX7_takeTape 27 = .ok (.getfield 1, 3) := by decide +kernel
theorem dX7_takeTape_30 : decode cX7_takeTape 30 = .ok (.if_icmp .ge 21, 3) := by decide +kernel
theorem dX7_takeTape_33 : decode cX7_takeTape 33 = .ok (.aload_n 0, 1) := by decide +kernel
theorem dX7_takeTape_34 : decode cX7_takeTape 34 = .ok (.getfield 7, 3) := by decide +kernel
theorem dX7_takeTape_37 : decode cX7_takeTape 37 = .ok (.iload_n 2, 1) := by decide +kernel
theorem dX7_takeTape_38 : decode cX7_takeTape 38 = .ok (.aload_n 0, 1) := by decide +kernel
theorem dX7_takeTape_39 : decode cX7_takeTape 39 = .ok (.getfield 95, 3) := by decide +kernel
theorem dX7_takeTape_42 : decode cX7_takeTape 42 = .ok (.iload_n 2, 1) := by decide +kernel
theorem dX7_takeTape_43 : decode cX7_takeTape 43 = .ok (.baload, 1) := by decide +kernel
theorem dX7_takeTape_44 : decode cX7_takeTape 44 = .ok (.bastore, 1) := by decide +kernel
theorem dX7_takeTape_45 : decode cX7_takeTape 45 = .ok (.iinc 2 1, 3) := by decide +kernel
theorem dX7_takeTape_48 : decode cX7_takeTape 48 = .ok (.goto (-23), 3) := by decide +kernel
theorem dX7_takeTape_51 : decode cX7_takeTape 51 = .ok (.aload_n 0, 1) := by decide +kernel
theorem dX7_takeTape_52 : decode cX7_takeTape 52 = .ok (.iconst 0, 1) := by decide +kernel
theorem dX7_takeTape_53 : decode cX7_takeTape 53 = .ok (.putfield 92, 3) := by decide +kernel
theorem dX7_takeTape_56 : decode cX7_takeTape 56 = .ok (.aload_n 0, 1) := by decide +kernel
theorem dX7_takeTape_57 : decode cX7_takeTape 57 = .ok (.iconst 0, 1) := by decide +kernel
theorem dX7_takeTape_58 : decode cX7_takeTape 58 = .ok (.putfield 43, 3) := by decide +kernel
theorem dX7_takeTape_61 : decode cX7_takeTape 61 = .ok (.return_, 1) := by decide +kernel
theorem dX7_tableOf_0 : decode cX7_tableOf 0 = .ok (.iconst 5, 1) := by decide +kernel
theorem dX7_tableOf_1 : decode cX7_tableOf 1 = .ok (.iload_n 1, 1) := by decide +kernel
theorem dX7_tableOf_2 : decode cX7_tableOf 2 = .ok (.imul, 1) := by decide +kernel
theorem dX7_tableOf_3 : decode cX7_tableOf 3 = .ok (.istore 4, 2) := by decide +kernel
theorem dX7_tableOf_5 : decode cX7_tableOf 5 = .ok (.iload 4, 2) := by decide +kernel
theorem dX7_tableOf_7 : decode cX7_tableOf 7 = .ok (.iconst 5, 1) := by decide +kernel
theorem dX7_tableOf_8 : decode cX7_tableOf 8 = .ok (.iload_n 1, 1) := by decide +kernel
theorem dX7_tableOf_9 : decode cX7_tableOf 9 = .ok (.imul, 1) := by decide +kernel
theorem dX7_tableOf_10 : decode cX7_tableOf 10 = .ok (.aload_n 0, 1) := by decide +kernel
theorem dX7_tableOf_11 : decode cX7_tableOf 11 = .ok (.getfield 98, 3) := by decide +kernel
theorem dX7_tableOf_14 : decode cX7_tableOf 14 = .ok (.iload_n 1, 1) := by decide +kernel
theorem dX7_tableOf_15 : decode cX7_tableOf 15 = .ok (.iaload, 1) := by decide +kernel
theorem dX7_tableOf_16 : decode cX7_tableOf 16 = .ok (.iadd, 1) := by decide +kernel
theorem dX7_tableOf_17 : decode cX7_tableOf 17 = .ok (.if_icmp .ge 24, 3) := by decide +kernel
theorem dX7_tableOf_20 : decode cX7_tableOf 20 = .ok (.aload_n 0, 1) := by decide +kernel
theorem dX7_tableOf_21 : decode cX7_tableOf 21 = .ok (.getfield 102, 3) := by decide +kernel
theorem dX7_tableOf_24 : decode cX7_tableOf 24 = .ok (.iload 4, 2) := by decide +kernel
theorem dX7_tableOf_26 : decode cX7_tableOf 26 = .ok (.laload, 1) := by decide +kernel
theorem dX7_tableOf_27 : decode cX7_tableOf 27 = .ok (.lload_n 2, 1) := by decide +kernel
theorem dX7_tableOf_28 : decode cX7_tableOf 28 = .ok (.lcmp, 1) := by decide +kernel
theorem dX7_tableOf_29 : decode cX7_tableOf 29 = .ok (.ifCond .ne 6, 3) := by decide +kernel
theorem dX7_tableOf_32 : decode cX7_tableOf 32 = .ok (.iload 4, 2) := by decide +kernel
theorem dX7_tableOf_34 : decode cX7_tableOf 34 = .ok (.ireturn, 1) := by decide +kernel
theorem dX7_tableOf_35 : decode cX7_tableOf 35 = .ok (.iinc 4 1, 3) := by decide +kernel
theorem dX7_tableOf_38 : decode cX7_tableOf 38 = .ok (.goto (-33), 3) := by decide +kernel
theorem dX7_tableOf_41 : decode cX7_tableOf 41 = .ok (.iconst (-1), 1) := by decide +kernel
theorem dX7_tableOf_42 : decode cX7_tableOf 42 = .ok (.ireturn, 1) := by decide +kernel
theorem dX7_columnOf_0 : decode cX7_columnOf 0 = .ok (.iconst 5, 1) := by decide +kernel
theorem dX7_columnOf_1 : decode cX7_columnOf 1 = .ok (.iload_n 1, 1) := by decide +kernel
theorem dX7_columnOf_2 : decode cX7_columnOf 2 = .ok (.imul, 1) := by decide +kernel
theorem dX7_columnOf_3 : decode cX7_columnOf 3 = .ok (.istore 4, 2) := by decide +kernel
theorem dX7_columnOf_5 : decode cX7_columnOf 5 = .ok (.iload 4, 2) := by decide +kernel
theorem dX7_columnOf_7 : decode cX7_columnOf 7 = .ok (.iconst 5, 1) := by decide +kernel
theorem dX7_columnOf_8 : decode cX7_columnOf 8 = .ok (.iload_n 1, 1) := by decide +kernel
theorem dX7_columnOf_9 : decode cX7_columnOf 9 = .ok (.imul, 1) := by decide +kernel
theorem dX7_columnOf_10 : decode cX7_columnOf 10 = .ok (.aload_n 0, 1) := by decide +kernel
theorem dX7_columnOf_11 : decode cX7_columnOf 11 = .ok (.getfield 106, 3) := by decide +kernel
theorem dX7_columnOf_14 : decode cX7_columnOf 14 = .ok (.iload_n 1, 1) := by decide +kernel
theorem dX7_columnOf_15 : decode cX7_columnOf 15 = .ok (.iaload, 1) := by decide +kernel
theorem dX7_columnOf_16 : decode cX7_columnOf 16 = .ok (.iadd, 1) := by decide +kernel
theorem dX7_columnOf_17 : decode cX7_columnOf 17 = .ok (.if_icmp .ge 24, 3) := by decide +kernel
theorem dX7_columnOf_20 : decode cX7_columnOf 20 = .ok (.aload_n 0, 1) := by decide +kernel
theorem dX7_columnOf_21 : decode cX7_columnOf 21 = .ok (.getfield 109, 3) := by decide +kernel
theorem dX7_columnOf_24 : decode cX7_columnOf 24 = .ok (.iload 4, 2) := by decide +kernel
theorem dX7_columnOf_26 : decode cX7_columnOf 26 = .ok (.laload, 1) := by decide +kernel
theorem dX7_columnOf_27 : decode cX7_columnOf 27 = .ok (.lload_n 2, 1) := by decide +kernel
theorem dX7_columnOf_28 : decode cX7_columnOf 28 = .ok (.lcmp, 1) := by decide +kernel
theorem dX7_columnOf_29 : decode cX7_columnOf 29 = .ok (.ifCond .ne 6, 3) := by decide +kernel
theorem dX7_columnOf_32 : decode cX7_columnOf 32 = .ok (.iload 4, 2) := by decide +kernel
theorem dX7_columnOf_34 : decode cX7_columnOf 34 = .ok (.ireturn, 1) := by decide +kernel
theorem dX7_columnOf_35 : decode cX7_columnOf 35 = .ok (.iinc 4 1, 3) := by decide +kernel
theorem dX7_columnOf_38 : decode cX7_columnOf 38 = .ok (.goto (-33), 3) := by decide +kernel
theorem dX7_columnOf_41 : decode cX7_columnOf 41 = .ok (.iconst (-1), 1) := by decide +kernel
theorem dX7_columnOf_42 : decode cX7_columnOf 42 = .ok (.ireturn, 1) := by decide +kernel
theorem dX7_store_0 : decode cX7_store 0 = .ok (.aload_n 0, 1) := by decide +kernel
theorem dX7_store_1 : decode cX7_store 1 = .ok (.iconst 0, 1) := by decide +kernel
theorem dX7_store_2 : decode cX7_store 2 = .ok (.invokevirtual 112, 3) := by decide +kernel
theorem dX7_store_5 : decode cX7_store 5 = .ok (.aload_n 0, 1) := by decide +kernel
theorem dX7_store_6 : decode cX7_store 6 = .ok (.iconst 1, 1) := by decide +kernel
theorem dX7_store_7 : decode cX7_store 7 = .ok (.aload_n 0, 1) := by decide +kernel
theorem dX7_store_8 : decode cX7_store 8 = .ok (.getfield 116, 3) := by decide +kernel
theorem dX7_store_11 : decode cX7_store 11 = .ok (.isub, 1) := by decide +kernel
theorem dX7_store_12 : decode cX7_store 12 = .ok (.putfield 119, 3) := by decide +kernel
theorem dX7_store_15 : decode cX7_store 15 = .ok (.aload_n 0, 1) := by decide +kernel
theorem dX7_store_16 : decode cX7_store 16 = .ok (.getfield 98, 3) := by decide +kernel
theorem dX7_store_19 : decode cX7_store 19 = .ok (.aload_n 0, 1) := by decide +kernel
theorem dX7_store_20 : decode cX7_store 20 = .ok (.getfield 119, 3) := by decide +kernel
theorem dX7_store_23 : decode cX7_store 23 = .ok (.iconst 0, 1) := by decide +kernel
theorem dX7_store_24 : decode cX7_store 24 = .ok (.iastore, 1) := by decide +kernel
theorem dX7_store_25 : decode cX7_store 25 = .ok (.aload_n 0, 1) := by decide +kernel
theorem dX7_store_26 : decode cX7_store 26 = .ok (.getfield 122, 3) := by decide +kernel
theorem dX7_store_29 : decode cX7_store 29 = .ok (.aload_n 0, 1) := by decide +kernel
theorem dX7_store_30 : decode cX7_store 30 = .ok (.getfield 119, 3) := by decide +kernel
theorem dX7_store_33 : decode cX7_store 33 = .ok (.iconst 0, 1) := by decide +kernel
theorem dX7_store_34 : decode cX7_store 34 = .ok (.iastore, 1) := by decide +kernel
theorem dX7_store_35 : decode cX7_store 35 = .ok (.aload_n 0, 1) := by decide +kernel
theorem dX7_store_36 : decode cX7_store 36 = .ok (.invokevirtual 85, 3) := by decide +kernel
theorem dX7_store_39 : decode cX7_store 39 = .ok (.aload_n 0, 1) := by decide +kernel
theorem dX7_store_40 : decode cX7_store 40 = .ok (.invokevirtual 81, 3) := by decide +kernel
theorem dX7_store_43 : decode cX7_store 43 = .ok (.ifCond .eq 51, 3) := by decide +kernel
theorem dX7_store_46 : decode cX7_store 46 = .ok (.aload_n 0, 1) := by decide +kernel
theorem dX7_store_47 : decode cX7_store 47 = .ok (.getfield 53, 3) := by decide +kernel
theorem dX7_store_50 : decode cX7_store 50 = .ok (.ifCond .eq 44, 3) := by decide +kernel
theorem dX7_store_53 : decode cX7_store 53 = .ok (.aload_n 0, 1) := by decide +kernel
theorem dX7_store_54 : decode cX7_store 54 = .ok (.ldc2_w 17, 3) := by decide +kernel
theorem dX7_store_57 : decode cX7_store 57 = .ok (.invokevirtual 125, 3) := by decide +kernel
theorem dX7_store_60 : decode cX7_store 60 = .ok (.ifCond .eq 10, 3) := by decide +kernel
theorem dX7_store_63 : decode cX7_store 63 = .ok (.aload_n 0, 1) := by decide +kernel
theorem dX7_store_64 : decode cX7_store 64 = .ok (.invokevirtual 128, 3) := by decide +kernel
theorem dX7_store_67 : decode cX7_store 67 = .ok (.goto (-28), 3) := by decide +kernel
theorem dX7_store_70 : decode cX7_store 70 = .ok (.aload_n 0, 1) := by decide +kernel
theorem dX7_store_71 : decode cX7_store 71 = .ok (.ldc2_w 19, 3) := by decide +kernel
theorem dX7_store_74 : decode cX7_store 74 = .ok (.invokevirtual 125, 3) := by decide +kernel
theorem dX7_store_77 : decode cX7_store 77 = .ok (.ifCond .eq 10, 3) := by decide +kernel
theorem dX7_store_80 : decode cX7_store 80 = .ok (.aload_n 0, 1) := by decide +kernel
theorem dX7_store_81 : decode cX7_store 81 = .ok (.invokevirtual 131, 3) := by decide +kernel
theorem dX7_store_84 : decode cX7_store 84 = .ok (.goto (-45), 3) := by decide +kernel
theorem dX7_store_87 : decode cX7_store 87 = .ok (.aload_n 0, 1) := by decide +kernel
theorem dX7_store_88 : decode cX7_store 88 = .ok (.invokevirtual 89, 3) := by decide +kernel
theorem dX7_store_91 : decode cX7_store 91 = .ok (.goto (-52), 3) := by decide +kernel
theorem dX7_store_94 : decode cX7_store 94 = .ok (.iconst 0, 1) := by decide +kernel
theorem dX7_store_95 : decode cX7_store 95 = .ok (.istore_n 1, 1) := by decide +kernel
theorem dX7_store_96 : decode cX7_store 96 = .ok (.iload_n 1, 1) := by decide +kernel
theorem dX7_store_97 : decode cX7_store 97 = .ok (.aload_n 0, 1) := by decide +kernel
theorem dX7_store_98 : decode cX7_store 98 = .ok (.getfield 122, 3) := by decide +kernel
theorem dX7_store_101 : decode cX7_store 101 = .ok (.aload_n 0, 1) := by decide +kernel
theorem dX7_store_102 : decode cX7_store 102 = .ok (.getfield 119, 3) := by decide +kernel
theorem dX7_store_105 : decode cX7_store 105 = .ok (.iaload, 1) := by decide +kernel
theorem dX7_store_106 : decode cX7_store 106 = .ok (.if_icmp .ge 29, 3) := by decide +kernel
theorem dX7_store_109 : decode cX7_store 109 = .ok (.aload_n 0, 1) := by decide +kernel
theorem dX7_store_110 : decode cX7_store 110 = .ok (.invokevirtual 81, 3) := by decide +kernel
theorem dX7_store_113 : decode cX7_store 113 = .ok (.ifCond .eq 22, 3) := by decide +kernel
theorem dX7_store_116 : decode cX7_store 116 = .ok (.aload_n 0, 1) := by decide +kernel
theorem dX7_store_117 : decode cX7_store 117 = .ok (.bipush 16, 2) := by decide +kernel
theorem dX7_store_119 : decode cX7_store 119 = .ok (.aload_n 0, 1) := by decide +kernel
theorem dX7_store_120 : decode cX7_store 120 = .ok (.getfield 119, 3) := by decide +kernel
theorem dX7_store_123 : decode cX7_store 123 = .ok (.imul, 1) := by decide +kernel
theorem dX7_store_124 : decode cX7_store 124 = .ok (.iload_n 1, 1) := by decide +kernel
theorem dX7_store_125 : decode cX7_store 125 = .ok (.iadd, 1) := by decide +kernel
theorem dX7_store_126 : decode cX7_store 126 = .ok (.invokevirtual 134, 3) := by decide +kernel
theorem dX7_store_129 : decode cX7_store 129 = .ok (.iinc 1 1, 3) := by decide +kernel
theorem dX7_store_132 : decode cX7_store 132 = .ok (.goto (-36), 3) := by decide +kernel
theorem dX7_store_135 : decode cX7_store 135 = .ok (.aload_n 0, 1) := by decide +kernel
theorem dX7_store_136 : decode cX7_store 136 = .ok (.invokevirtual 81, 3) := by decide +kernel
theorem dX7_store_139 : decode cX7_store 139 = .ok (.ifCond .ne 5, 3) := by decide +kernel
theorem dX7_store_142 : decode cX7_store 142 = .ok (.iconst (-1), 1) := by decide +kernel
theorem dX7_store_143 : decode cX7_store 143 = .ok (.ireturn, 1) := by decide +kernel
theorem dX7_store_144 : decode cX7_store 144 = .ok (.aload_n 0, 1) := by decide +kernel
theorem dX7_store_145 : decode cX7_store 145 = .ok (.aload_n 0, 1) := by decide +kernel
theorem dX7_store_146 : decode cX7_store 146 = .ok (.getfield 119, 3) := by decide +kernel
theorem dX7_store_149 : decode cX7_store 149 = .ok (.putfield 116, 3) := by decide +kernel
theorem dX7_store_152 : decode cX7_store 152 = .ok (.aload_n 0, 1) := by decide +kernel
theorem dX7_store_153 : decode cX7_store 153 = .ok (.getfield 138, 3) := by decide +kernel
theorem dX7_store_156 : decode cX7_store 156 = .ok (.aload_n 0, 1) := by decide +kernel
theorem dX7_store_157 : decode cX7_store 157 = .ok (.getfield 141, 3) := by decide +kernel
theorem dX7_store_160 : decode cX7_store 160 = .ok (.iconst 0, 1) := by decide +kernel
theorem dX7_store_161 : decode cX7_store 161 = .ok (.iastore, 1) := by decide +kernel
theorem dX7_store_162 : decode cX7_store 162 = .ok (.aload_n 0, 1) := by decide +kernel
theorem dX7_store_163 : decode cX7_store 163 = .ok (.iconst 0, 1) := by decide +kernel
theorem dX7_store_164 : decode cX7_store 164 = .ok (.putfield 144, 3) := by decide +kernel
theorem dX7_store_167 : decode cX7_store 167 = .ok (.aload_n 0, 1) := by decide +kernel
theorem dX7_store_168 : decode cX7_store 168 = .ok (.iconst 0, 1) := by decide +kernel
theorem dX7_store_169 : decode cX7_store 169 = .ok (.putfield 147, 3) := by decide +kernel
theorem dX7_store_172 : decode cX7_store 172 = .ok (.iconst 0, 1) := by decide +kernel
theorem dX7_store_173 : decode cX7_store 173 = .ok (.istore_n 1, 1) := by decide +kernel
theorem dX7_store_174 : decode cX7_store 174 = .ok (.iload_n 1, 1) := by decide +kernel
theorem dX7_store_175 : decode cX7_store 175 = .ok (.bipush 25, 2) := by decide +kernel
theorem dX7_store_177 : decode cX7_store 177 = .ok (.if_icmp .ge 16, 3) := by decide +kernel
theorem dX7_store_180 : decode cX7_store 180 = .ok (.aload_n 0, 1) := by decide +kernel
theorem dX7_store_181 : decode cX7_store 181 = .ok (.getfield 150, 3) := by decide +kernel
theorem dX7_store_184 : decode cX7_store 184 = .ok (.iload_n 1, 1) := by decide +kernel
theorem dX7_store_185 : decode cX7_store 185 = .ok (.iconst (-1), 1) := by decide +kernel
theorem dX7_store_186 : decode cX7_store 186 = .ok (.iastore, 1) := by decide +kernel
theorem dX7_store_187 : decode cX7_store 187 = .ok (.iinc 1 1, 3) := by decide +kernel
theorem dX7_store_190 : decode cX7_store 190 = .ok (.goto (-16), 3) := by decide +kernel
theorem dX7_store_193 : decode cX7_store 193 = .ok (.aload_n 0, 1) := by decide +kernel
theorem dX7_store_194 : decode cX7_store 194 = .ok (.iconst 0, 1) := by decide +kernel
theorem dX7_store_195 : decode cX7_store 195 = .ok (.putfield 153, 3) := by decide +kernel
theorem dX7_store_198 : decode cX7_store 198 = .ok (.aload_n 0, 1) := by decide +kernel
theorem dX7_store_199 : decode cX7_store 199 = .ok (.getfield 122, 3) := by decide +kernel
theorem dX7_store_202 : decode cX7_store 202 = .ok (.aload_n 0, 1) := by decide +kernel
theorem dX7_store_203 : decode cX7_store 203 = .ok (.getfield 116, 3) := by decide +kernel
theorem dX7_store_206 : decode cX7_store 206 = .ok (.iaload, 1) := by decide +kernel
theorem dX7_store_207 : decode cX7_store 207 = .ok (.ireturn, 1) := by decide +kernel
theorem dX7_readTable_0 : decode cX7_readTable 0 = .ok (.aload_n 0, 1) := by decide +kernel
theorem dX7_readTable_1 : decode cX7_readTable 1 = .ok (.getfield 98, 3) := by decide +kernel
theorem dX7_readTable_4 : decode cX7_readTable 4 = .ok (.aload_n 0, 1) := by decide +kernel
theorem dX7_readTable_5 : decode cX7_readTable 5 = .ok (.getfield 119, 3) := by decide +kernel
theorem dX7_readTable_8 : decode cX7_readTable 8 = .ok (.iaload, 1) := by decide +kernel
theorem dX7_readTable_9 : decode cX7_readTable 9 = .ok (.iconst 5, 1) := by decide +kernel
theorem dX7_readTable_10 : decode cX7_readTable 10 = .ok (.if_icmp .ne 7, 3) := by decide +kernel
theorem dX7_readTable_13 : decode cX7_readTable 13 = .ok (.aload_n 0, 1) := by decide +kernel
theorem dX7_readTable_14 : decode cX7_readTable 14 = .ok (.invokevirtual 89, 3) := by decide +kernel
theorem dX7_readTable_17 : decode cX7_readTable 17 = .ok (.aload_n 0, 1) := by decide +kernel
theorem dX7_readTable_18 : decode cX7_readTable 18 = .ok (.invokevirtual 81, 3) := by decide +kernel
theorem dX7_readTable_21 : decode cX7_readTable 21 = .ok (.ifCond .eq 7, 3) := by decide +kernel
theorem dX7_readTable_24 : decode cX7_readTable 24 = .ok (.aload_n 0, 1) := by decide +kernel
theorem dX7_readTable_25 : decode cX7_readTable 25 = .ok (.invokevirtual 85, 3) := by decide +kernel
theorem dX7_readTable_28 : decode cX7_readTable 28 = .ok (.aload_n 0, 1) := by decide +kernel
theorem dX7_readTable_29 : decode cX7_readTable 29 = .ok (.invokevirtual 81, 3) := by decide +kernel
theorem dX7_readTable_32 : decode cX7_readTable 32 = .ok (.ifCond .eq 15, 3) := by decide +kernel
theorem dX7_readTable_35 : decode cX7_readTable 35 = .ok (.aload_n 0, 1) := by decide +kernel
theorem dX7_readTable_36 : decode cX7_readTable 36 = .ok (.getfield 53, 3) := by decide +kernel
theorem dX7_readTable_39 : decode cX7_readTable 39 = .ok (.iconst 2, 1) := by decide +kernel
theorem dX7_readTable_40 : decode cX7_readTable 40 = .ok (.if_icmp .eq 7, 3) := by decide +kernel
theorem dX7_readTable_43 : decode cX7_readTable 43 = .ok (.aload_n 0, 1) := by decide +kernel
theorem dX7_readTable_44 : decode cX7_readTable 44 = .ok (.invokevirtual 89, 3) := by decide +kernel
theorem dX7_readTable_47 : decode cX7_readTable 47 = .ok (.aload_n 0, 1) := by decide +kernel
theorem dX7_readTable_48 : decode cX7_readTable 48 = .ok (.invokevirtual 81, 3) := by decide +kernel
theorem dX7_readTable_51 : decode cX7_readTable 51 = .ok (.ifCond .eq 27, 3) := by decide +kernel
theorem dX7_readTable_54 : decode cX7_readTable 54 = .ok (.aload_n 0, 1) := by decide +kernel
theorem dX7_readTable_55 : decode cX7_readTable 55 = .ok (.aload_n 0, 1) := by decide +kernel
theorem dX7_readTable_56 : decode cX7_readTable 56 = .ok (.getfield 119, 3) := by decide +kernel
theorem dX7_readTable_59 : decode cX7_readTable 59 = .ok (.aload_n 0, 1) := by decide +kernel
theorem dX7_readTable_60 : decode cX7_readTable 60 = .ok (.getfield 60, 3) := by decide +kernel
theorem dX7_readTable_63 : decode cX7_readTable 63 = .ok (.invokevirtual 156, 3) := by decide +kernel
theorem dX7_readTable_66 : decode cX7_readTable 66 = .ok (.ifCond .lt 12, 3) := by decide +kernel
theorem dX7_readTable_69 : decode cX7_readTable 69 = .ok (.aload_n 0, 1) := by decide +kernel
theorem dX7_readTable_70 : decode cX7_readTable 70 = .ok (.iconst 3, 1) := by decide +kernel
theorem dX7_readTable_71 : decode cX7_readTable 71 = .ok (.aload_n 0, 1) := by decide +kernel
theorem dX7_readTable_72 : decode cX7_readTable 72 = .ok (.getfield 46, 3) := by decide +kernel
theorem dX7_readTable_75 : decode cX7_readTable 75 = .ok (.invokevirtual 77, 3) := by decide +kernel
theorem dX7_readTable_78 : decode cX7_readTable 78 = .ok (.aload_n 0, 1) := by decide +kernel
theorem dX7_readTable_79 : decode cX7_readTable 79 = .ok (.invokevirtual 81, 3) := by decide +kernel
theorem dX7_readTable_82 : decode cX7_readTable 82 = .ok (.ifCond .ne 4, 3) := by decide +kernel
theorem dX7_readTable_85 : decode cX7_readTable 85 = .ok (.return_, 1) := by decide +kernel
theorem dX7_readTable_86 : decode cX7_readTable 86 = .ok (.iconst 5, 1) := by decide +kernel
theorem dX7_readTable_87 : decode cX7_readTable 87 = .ok (.aload_n 0, 1) := by decide +kernel
theorem dX7_readTable_88 : decode cX7_readTable 88 = .ok (.getfield 119, 3) := by decide +kernel
theorem dX7_readTable_91 : decode cX7_readTable 91 = .ok (.imul, 1) := by decide +kernel
theorem dX7_readTable_92 : decode cX7_readTable 92 = .ok (.aload_n 0, 1) := by decide +kernel
theorem dX7_readTable_93 : decode cX7_readTable 93 = .ok (.getfield 98, 3) := by decide +kernel
theorem dX7_readTable_96 : decode cX7_readTable 96 = .ok (.aload_n 0, 1) := by decide +kernel
theorem dX7_readTable_97 : decode cX7_readTable 97 = .ok (.getfield 119, 3) := by decide +kernel
theorem dX7_readTable_100 : decode cX7_readTable 100 = .ok (.iaload, 1) := by decide +kernel
theorem dX7_readTable_101 : decode cX7_readTable 101 = .ok (.iadd, 1) := by decide +kernel
theorem dX7_readTable_102 : decode cX7_readTable 102 = .ok (.istore_n 1, 1) := by decide +kernel
theorem dX7_readTable_103 : decode cX7_readTable 103 = .ok (.aload_n 0, 1) := by decide +kernel
theorem dX7_readTable_104 : decode cX7_readTable 104 = .ok (.getfield 102, 3) := by decide +kernel
theorem dX7_readTable_107 : decode cX7_readTable 107 = .ok (.iload_n 1, 1) := by decide +kernel
theorem dX7_readTable_108 : decode cX7_readTable 108 = .ok (.aload_n 0, 1) := by decide +kernel
theorem dX7_readTable_109 : decode cX7_readTable 109 = .ok (.getfield 60, 3) := by decide +kernel
theorem dX7_readTable_112 : decode cX7_readTable 112 = .ok (.lastore, 1) := by decide +kernel
theorem dX7_readTable_113 : decode cX7_readTable 113 = .ok (.aload_n 0, 1) := by decide +kernel
theorem dX7_readTable_114 : decode cX7_readTable 114 = .ok (.getfield 106, 3) := by decide +kernel
theorem dX7_readTable_117 : decode cX7_readTable 117 = .ok (.iload_n 1, 1) := by decide +kernel
theorem dX7_readTable_118 : decode cX7_readTable 118 = .ok (.iconst 0, 1) := by decide +kernel
theorem dX7_readTable_119 : decode cX7_readTable 119 = .ok (.iastore, 1) := by decide +kernel
theorem dX7_readTable_120 : decode cX7_readTable 120 = .ok (.aload_n 0, 1) := by decide +kernel
theorem dX7_readTable_121 : decode cX7_readTable 121 = .ok (.getfield 160, 3) := by decide +kernel
theorem dX7_readTable_124 : decode cX7_readTable 124 = .ok (.iload_n 1, 1) := by decide +kernel
theorem dX7_readTable_125 : decode cX7_readTable 125 = .ok (.iconst 0, 1) := by decide +kernel
theorem dX7_readTable_126 : decode cX7_readTable 126 = .ok (.iastore, 1) := by decide +kernel
theorem dX7_readTable_127 : decode cX7_readTable 127 = .ok (.aload_n 0, 1) := by decide +kernel
theorem dX7_readTable_128 : decode cX7_readTable 128 = .ok (.getfield 98, 3) := by decide +kernel
theorem dX7_readTable_131 : decode cX7_readTable 131 = .ok (.aload_n 0, 1) := by decide +kernel
theorem dX7_readTable_132 : decode cX7_readTable 132 = .ok (.getfield 119, 3) := by decide +kernel
theorem dX7_readTable_135 : decode cX7_readTable 135 = .ok (.dup2, 1) := by decide +kernel
theorem dX7_readTable_136 : decode cX7_readTable 136 = .ok (.iaload, 1) := by decide +kernel
theorem dX7_readTable_137 : decode cX7_readTable 137 = .ok (.iconst 1, 1) := by decide +kernel
theorem dX7_readTable_138 : decode cX7_readTable 138 = .ok (.iadd, 1) := by decide +kernel
theorem dX7_readTable_139 : decode cX7_readTable 139 = .ok (.iastore, 1) := by decide +kernel
theorem dX7_readTable_140 : decode cX7_readTable 140 = .ok (.aload_n 0, 1) := by decide +kernel
theorem dX7_readTable_141 : decode cX7_readTable 141 = .ok (.invokevirtual 85, 3) := by decide +kernel
theorem dX7_readTable_144 : decode cX7_readTable 144 = .ok (.aload_n 0, 1) := by decide +kernel
theorem dX7_readTable_145 : decode cX7_readTable 145 = .ok (.aload_n 0, 1) := by decide +kernel
theorem dX7_readTable_146 : decode cX7_readTable 146 = .ok (.bipush 58, 2) := by decide +kernel
theorem dX7_readTable_148 : decode cX7_readTable 148 = .ok (.invokevirtual 163, 3) := by decide +kernel
theorem dX7_readTable_151 : decode cX7_readTable 151 = .ok (.invokevirtual 166, 3) := by decide +kernel
theorem dX7_readTable_154 : decode cX7_readTable 154 = .ok (.iconst 1, 1) := by decide +kernel
theorem dX7_readTable_155 : decode cX7_readTable 155 = .ok (.istore_n 2, 1) := by decide +kernel
theorem dX7_readTable_156 : decode cX7_readTable 156 = .ok (.iload_n 2, 1) := by decide +kernel
theorem dX7_readTable_157 : decode cX7_readTable 157 = .ok (.ifCond .eq 48, 3) := by decide +kernel
theorem dX7_readTable_160 : decode cX7_readTable 160 = .ok (.aload_n 0, 1) := by decide +kernel
theorem dX7_readTable_161 : decode cX7_readTable 161 = .ok (.invokevirtual 81, 3) := by decide +kernel
theorem dX7_readTable_164 : decode cX7_readTable 164 = .ok (.ifCond .eq 41, 3) := by decide +kernel
theorem dX7_readTable_167 : decode cX7_readTable 167 = .ok (.aload_n 0, 1) := by decide +kernel
theorem dX7_readTable_168 : decode cX7_readTable 168 = .ok (.iload_n 1, 1) := by decide +kernel
theorem dX7_readTable_169 : decode cX7_readTable 169 = .ok (.invokevirtual 169, 3) := by decide +kernel
theorem dX7_readTable_172 : decode cX7_readTable 172 = .ok (.aload_n 0, 1) := by decide +kernel
theorem dX7_readTable_173 : decode cX7_readTable 173 = .ok (.invokevirtual 81, 3) := by decide +kernel
theorem dX7_readTable_176 : decode cX7_readTable 176 = .ok (.ifCond .eq 16, 3) := by decide +kernel
theorem dX7_readTable_179 : decode cX7_readTable 179 = .ok (.aload_n 0, 1) := by decide +kernel
theorem dX7_readTable_180 : decode cX7_readTable 180 = .ok (.bipush 44, 2) := by decide +kernel
theorem dX7_readTable_182 : decode cX7_readTable 182 = .ok (.invokevirtual 163, 3) := by decide +kernel
theorem dX7_readTable_185 : decode cX7_readTable 185 = .ok (.ifCond .eq 7, 3) := by decide +kernel
theorem dX7_readTable_188 : decode cX7_readTable 188 = .ok (.iconst 1, 1) := by decide +kernel
theorem dX7_readTable_189 : decode cX7_readTable 189 = .ok (.goto 4, 3) := by decide +kernel
theorem dX7_readTable_192 : decode cX7_readTable 192 = .ok (.iconst 0, 1) := by decide +kernel
theorem dX7_readTable_193 : decode cX7_readTable 193 = .ok (.istore_n 2, 1) := by decide +kernel
theorem dX7_readTable_194 : decode cX7_readTable 194 = .ok (.iload_n 2, 1) := by decide +kernel
theorem dX7_readTable_195 : decode cX7_readTable 195 = .ok (.ifCond .eq (-39), 3) := by decide +kernel
theorem dX7_readTable_198 : decode cX7_readTable 198 = .ok (.aload_n 0, 1) := by decide +kernel
theorem dX7_readTable_199 : decode cX7_readTable 199 = .ok (.invokevirtual 85, 3) := by decide +kernel
theorem dX7_readTable_202 : decode cX7_readTable 202 = .ok (.goto (-46), 3) := by decide +kernel
theorem dX7_readTable_205 : decode cX7_readTable 205 = .ok (.aload_n 0, 1) := by decide +kernel
theorem dX7_readTable_206 : decode cX7_readTable 206 = .ok (.aload_n 0, 1) := by decide +kernel
theorem dX7_readTable_207 : decode cX7_readTable 207 = .ok (.bipush 59, 2) := by decide +kernel
theorem dX7_readTable_209 : decode cX7_readTable 209 = .ok (.invokevirtual 163, 3) := by decide +kernel
theorem dX7_readTable_212 : decode cX7_readTable 212 = .ok (.invokevirtual 166, 3) := by decide +kernel
theorem dX7_readTable_215 : decode cX7_readTable 215 = .ok (.return_, 1) := by decide +kernel
theorem dX7_readColumn_0 : decode cX7_readColumn 0 = .ok (.aload_n 0, 1) := by decide +kernel
theorem dX7_readColumn_1 : decode cX7_readColumn 1 = .ok (.getfield 53, 3) := by decide +kernel
theorem dX7_readColumn_4 : decode cX7_readColumn 4 = .ok (.iconst 2, 1) := by decide +kernel
theorem dX7_readColumn_5 : decode cX7_readColumn 5 = .ok (.if_icmp .ne 13, 3) := by decide +kernel
theorem dX7_readColumn_8 : decode cX7_readColumn 8 = .ok (.aload_n 0, 1) := by decide +kernel
theorem dX7_readColumn_9 : decode cX7_readColumn 9 = .ok (.getfield 106, 3) := by decide +kernel
theorem dX7_readColumn_12 : decode cX7_readColumn 12 = .ok (.iload_n 1, 1) := by decide +kernel
theorem dX7_readColumn_13 : decode cX7_readColumn 13 = .ok (.iaload, 1) := by decide +kernel
theorem dX7_readColumn_14 : decode cX7_readColumn 14 = .ok (.iconst 5, 1) := by decide +kernel
theorem dX7_readColumn_15 : decode cX7_readColumn 15 = .ok (.if_icmp .ne 7, 3) := by decide +kernel
theorem dX7_readColumn_18 : decode cX7_readColumn 18 = .ok (.aload_n 0, 1) := by decide +kernel
theorem dX7_readColumn_19 : decode cX7_readColumn 19 = .ok (.invokevirtual 89, 3) := by decide +kernel
theorem dX7_readColumn_22 : decode cX7_readColumn 22 = .ok (.aload_n 0, 1) := by decide +kernel
theorem dX7_readColumn_23 : decode cX7_readColumn 23 = .ok (.invokevirtual 81, 3) := by decide +kernel
theorem dX7_readColumn_26 : decode cX7_readColumn 26 = .ok (.ifCond .eq 24, 3) := by decide +kernel
theorem dX7_readColumn_29 : decode cX7_readColumn 29 = .ok (.aload_n 0, 1) := by decide +kernel
theorem dX7_readColumn_30 : decode cX7_readColumn 30 = .ok (.iload_n 1, 1) := by decide +kernel
theorem dX7_readColumn_31 : decode cX7_readColumn 31 = .ok (.aload_n 0, 1) := by decide +kernel
theorem dX7_readColumn_32 : decode cX7_readColumn 32 = .ok (.getfield 60, 3) := by decide +kernel
theorem dX7_readColumn_35 : decode cX7_readColumn 35 = .ok (.invokevirtual 172, 3) := by decide +kernel
theorem dX7_readColumn_38 : decode cX7_readColumn 38 = .ok (.ifCond .lt 12, 3) := by decide +kernel
theorem dX7_readColumn_41 : decode cX7_readColumn 41 = .ok (.aload_n 0, 1) := by decide +kernel
theorem dX7_readColumn_42 : decode cX7_readColumn 42 = .ok (.iconst 3, 1) := by decide +kernel
theorem dX7_readColumn_43 : decode cX7_readColumn 43 = .ok (.aload_n 0, 1) := by decide +kernel
theorem dX7_readColumn_44 : decode cX7_readColumn 44 = .ok (.getfield 46, 3) := by decide +kernel
theorem dX7_readColumn_47 : decode cX7_readColumn 47 = .ok (.invokevirtual 77, 3) := by decide +kernel
theorem dX7_readColumn_50 : decode cX7_readColumn 50 = .ok (.aload_n 0, 1) := by decide +kernel
theorem dX7_readColumn_51 : decode cX7_readColumn 51 = .ok (.invokevirtual 81, 3) := by decide +kernel
theorem dX7_readColumn_54 : decode cX7_readColumn 54 = .ok (.ifCond .ne 4, 3) := by decide +kernel
theorem dX7_readColumn_57 : decode cX7_readColumn 57 = .ok (.return_, 1) := by decide +kernel
theorem dX7_readColumn_58 : decode cX7_readColumn 58 = .ok (.iconst 5, 1) := by decide +kernel
theorem dX7_readColumn_59 : decode cX7_readColumn 59 = .ok (.iload_n 1, 1) := by decide +kernel
theorem dX7_readColumn_60 : decode cX7_readColumn 60 = .ok (.imul, 1) := by decide +kernel
theorem dX7_readColumn_61 : decode cX7_readColumn 61 = .ok (.aload_n 0, 1) := by decide +kernel
theorem dX7_readColumn_62 : decode cX7_readColumn 62 = .ok (.getfield 106, 3) := by decide +kernel
theorem dX7_readColumn_65 : decode cX7_readColumn 65 = .ok (.iload_n 1, 1) := by decide +kernel
theorem dX7_readColumn_66 : decode cX7_readColumn 66 = .ok (.iaload, 1) := by decide +kernel
theorem dX7_readColumn_67 : decode cX7_readColumn 67 = .ok (.iadd, 1) := by decide +kernel
theorem dX7_readColumn_68 : decode cX7_readColumn 68 = .ok (.istore_n 2, 1) := by decide +kernel
theorem dX7_readColumn_69 : decode cX7_readColumn 69 = .ok (.aload_n 0, 1) := by decide +kernel
theorem dX7_readColumn_70 : decode cX7_readColumn 70 = .ok (.getfield 109, 3) := by decide +kernel
theorem dX7_readColumn_73 : decode cX7_readColumn 73 = .ok (.iload_n 2, 1) := by decide +kernel
theorem dX7_readColumn_74 : decode cX7_readColumn 74 = .ok (.aload_n 0, 1) := by decide +kernel
theorem dX7_readColumn_75 : decode cX7_readColumn 75 = .ok (.getfield 60, 3) := by decide +kernel
theorem dX7_readColumn_78 : decode cX7_readColumn 78 = .ok (.lastore, 1) := by decide +kernel
theorem dX7_readColumn_79 : decode cX7_readColumn 79 = .ok (.aload_n 0, 1) := by decide +kernel
theorem dX7_readColumn_80 : decode cX7_readColumn 80 = .ok (.getfield 175, 3) := by decide +kernel
theorem dX7_readColumn_83 : decode cX7_readColumn 83 = .ok (.iload_n 2, 1) := by decide +kernel
theorem dX7_readColumn_84 : decode cX7_readColumn 84 = .ok (.iconst (-1), 1) := by decide +kernel
theorem dX7_readColumn_85 : decode cX7_readColumn 85 = .ok (.iastore, 1) := by decide +kernel
theorem dX7_readColumn_86 : decode cX7_readColumn 86 = .ok (.aload_n 0, 1) := by decide +kernel
theorem dX7_readColumn_87 : decode cX7_readColumn 87 = .ok (.getfield 106, 3) := by decide +kernel
theorem dX7_readColumn_90 : decode cX7_readColumn 90 = .ok (.iload_n 1, 1) := by decide +kernel
theorem dX7_readColumn_91 : decode cX7_readColumn 91 = .ok (.dup2, 1) := by decide +kernel
theorem dX7_readColumn_92 : decode cX7_readColumn 92 = .ok (.iaload, 1) := by decide +kernel
theorem dX7_readColumn_93 : decode cX7_readColumn 93 = .ok (.iconst 1, 1) := by decide +kernel
theorem dX7_readColumn_94 : decode cX7_readColumn 94 = .ok (.iadd, 1) := by decide +kernel
theorem dX7_readColumn_95 : decode cX7_readColumn 95 = .ok (.iastore, 1) := by decide +kernel
theorem dX7_readColumn_96 : decode cX7_readColumn 96 = .ok (.aload_n 0, 1) := by decide +kernel
theorem dX7_readColumn_97 : decode cX7_readColumn 97 = .ok (.invokevirtual 85, 3) := by decide +kernel
theorem dX7_readColumn_100 : decode cX7_readColumn 100 = .ok (.aload_n 0, 1) := by decide +kernel
theorem dX7_readColumn_101 : decode cX7_readColumn 101 = .ok (.ldc2_w 21, 3) := by decide +kernel
theorem dX7_readColumn_104 : decode cX7_readColumn 104 = .ok (.invokevirtual 125, 3) := by decide +kernel
theorem dX7_readColumn_107 : decode cX7_readColumn 107 = .ok (.ifCond .ne 4, 3) := by decide +kernel
theorem dX7_readColumn_110 : decode cX7_readColumn 110 = .ok (.return_, 1) := by decide +kernel
theorem dX7_readColumn_111 : decode cX7_readColumn 111 = .ok (.aload_n 0, 1) := by decide +kernel
theorem dX7_readColumn_112 : decode cX7_readColumn 112 = .ok (.invokevirtual 85, 3) := by decide +kernel
theorem dX7_readColumn_115 : decode cX7_readColumn 115 = .ok (.aload_n 0, 1) := by decide +kernel
theorem dX7_readColumn_116 : decode cX7_readColumn 116 = .ok (.getfield 53, 3) := by decide +kernel
theorem dX7_readColumn_119 : decode cX7_readColumn 119 = .ok (.iconst 2, 1) := by decide +kernel
theorem dX7_readColumn_120 : decode cX7_readColumn 120 = .ok (.if_icmp .eq 7, 3) := by decide +kernel
theorem dX7_readColumn_123 : decode cX7_readColumn 123 = .ok (.aload_n 0, 1) := by decide +kernel
theorem dX7_readColumn_124 : decode cX7_readColumn 124 = .ok (.invokevirtual 89, 3) := by decide +kernel
theorem dX7_readColumn_127 : decode cX7_readColumn 127 = .ok (.aload_n 0, 1) := by decide +kernel
theorem dX7_readColumn_128 : decode cX7_readColumn 128 = .ok (.invokevirtual 81, 3) := by decide +kernel
theorem dX7_readColumn_131 : decode cX7_readColumn 131 = .ok (.ifCond .ne 4, 3) := by decide +kernel
theorem dX7_readColumn_134 : decode cX7_readColumn 134 = .ok (.return_, 1) := by decide +kernel
theorem dX7_readColumn_135 : decode cX7_readColumn 135 = .ok (.aload_n 0, 1) := by decide +kernel
theorem dX7_readColumn_136 : decode cX7_readColumn 136 = .ok (.getfield 175, 3) := by decide +kernel
theorem dX7_readColumn_139 : decode cX7_readColumn 139 = .ok (.iload_n 2, 1) := by decide +kernel
theorem dX7_readColumn_140 : decode cX7_readColumn 140 = .ok (.aload_n 0, 1) := by decide +kernel
theorem dX7_readColumn_141 : decode cX7_readColumn 141 = .ok (.aload_n 0, 1) := by decide +kernel
theorem dX7_readColumn_142 : decode cX7_readColumn 142 = .ok (.getfield 119, 3) := by decide +kernel
theorem dX7_readColumn_145 : decode cX7_readColumn 145 = .ok (.aload_n 0, 1) := by decide +kernel
theorem dX7_readColumn_146 : decode cX7_readColumn 146 = .ok (.getfield 60, 3) := by decide +kernel
theorem dX7_readColumn_149 : decode cX7_readColumn 149 = .ok (.invokevirtual 156, 3) := by decide +kernel
theorem dX7_readColumn_152 : decode cX7_readColumn 152 = .ok (.iastore, 1) := by decide +kernel
theorem dX7_readColumn_153 : decode cX7_readColumn 153 = .ok (.aload_n 0, 1) := by decide +kernel
theorem dX7_readColumn_154 : decode cX7_readColumn 154 = .ok (.getfield 175, 3) := by decide +kernel
theorem dX7_readColumn_157 : decode cX7_readColumn 157 = .ok (.iload_n 2, 1) := by decide +kernel
theorem dX7_readColumn_158 : decode cX7_readColumn 158 = .ok (.iaload, 1) := by decide +kernel
theorem dX7_readColumn_159 : decode cX7_readColumn 159 = .ok (.ifCond .ge 12, 3) := by decide +kernel
theorem dX7_readColumn_162 : decode cX7_readColumn 162 = .ok (.aload_n 0, 1) := by decide +kernel
theorem dX7_readColumn_163 : decode cX7_readColumn 163 = .ok (.iconst 4, 1) := by decide +kernel
theorem dX7_readColumn_164 : decode cX7_readColumn 164 = .ok (.aload_n 0, 1) := by decide +kernel
theorem dX7_readColumn_165 : decode cX7_readColumn 165 = .ok (.getfield 46, 3) := by decide +kernel
theorem dX7_readColumn_168 : decode cX7_readColumn 168 = .ok (.invokevirtual 77, 3) := by decide +kernel
theorem dX7_readColumn_171 : decode cX7_readColumn 171 = .ok (.aload_n 0, 1) := by decide +kernel
theorem dX7_readColumn_172 : decode cX7_readColumn 172 = .ok (.invokevirtual 81, 3) := by decide +kernel
theorem dX7_readColumn_175 : decode cX7_readColumn 175 = .ok (.ifCond .eq 7, 3) := by decide +kernel
theorem dX7_readColumn_178 : decode cX7_readColumn 178 = .ok (.aload_n 0, 1) := by decide +kernel
theorem dX7_readColumn_179 : decode cX7_readColumn 179 = .ok (.invokevirtual 85, 3) := by decide +kernel
theorem dX7_readColumn_182 : decode cX7_readColumn 182 = .ok (.return_, 1) := by decide +kernel
theorem dX7_readRow_0 : decode cX7_readRow 0 = .ok (.aload_n 0, 1) := by decide +kernel
theorem dX7_readRow_1 : decode cX7_readRow 1 = .ok (.getfield 122, 3) := by decide +kernel
theorem dX7_readRow_4 : decode cX7_readRow 4 = .ok (.aload_n 0, 1) := by decide +kernel
theorem dX7_readRow_5 : decode cX7_readRow 5 = .ok (.getfield 119, 3) := by decide +kernel
theorem dX7_readRow_8 : decode cX7_readRow 8 = .ok (.iaload, 1) := by decide +kernel
theorem dX7_readRow_9 : decode cX7_readRow 9 = .ok (.bipush 16, 2) := by decide +kernel
theorem dX7_readRow_11 : decode cX7_readRow 11 = .ok (.if_icmp .ne 7, 3) := by decide +kernel
theorem dX7_readRow_14 : decode cX7_readRow 14 = .ok (.aload_n 0, 1) := by decide +kernel
theorem dX7_readRow_15 : decode cX7_readRow 15 = .ok (.invokevirtual 89, 3) := by decide +kernel
theorem dX7_readRow_18 : decode cX7_readRow 18 = .ok (.aload_n 0, 1) := by decide +kernel
theorem dX7_readRow_19 : decode cX7_readRow 19 = .ok (.invokevirtual 81, 3) := by decide +kernel
theorem dX7_readRow_22 : decode cX7_readRow 22 = .ok (.ifCond .eq 7, 3) := by decide +kernel
theorem dX7_readRow_25 : decode cX7_readRow 25 = .ok (.aload_n 0, 1) := by decide +kernel
theorem dX7_readRow_26 : decode cX7_readRow 26 = .ok (.invokevirtual 85, 3) := by decide +kernel
theorem dX7_readRow_29 : decode cX7_readRow 29 = .ok (.aload_n 0, 1) := by decide +kernel
theorem dX7_readRow_30 : decode cX7_readRow 30 = .ok (.invokevirtual 81, 3) := by decide +kernel
theorem dX7_readRow_33 : decode cX7_readRow 33 = .ok (.ifCond .eq 15, 3) := by decide +kernel
theorem dX7_readRow_36 : decode cX7_readRow 36 = .ok (.aload_n 0, 1) := by decide +kernel
theorem dX7_readRow_37 : decode cX7_readRow 37 = .ok (.getfield 53, 3) := by decide +kernel
theorem dX7_readRow_40 : decode cX7_readRow 40 = .ok (.iconst 2, 1) := by decide +kernel
theorem dX7_readRow_41 : decode cX7_readRow 41 = .ok (.if_icmp .eq 7, 3) := by decide +kernel
theorem dX7_readRow_44 : decode cX7_readRow 44 = .ok (.aload_n 0, 1) := by decide +kernel
theorem dX7_readRow_45 : decode cX7_readRow 45 = .ok (.invokevirtual 89, 3) := by decide +kernel
theorem dX7_readRow_48 : decode cX7_readRow 48 = .ok (.aload_n 0, 1) := by decide +kernel
theorem dX7_readRow_49 : decode cX7_readRow 49 = .ok (.invokevirtual 81, 3) := by decide +kernel
theorem dX7_readRow_52 : decode cX7_readRow 52 = .ok (.ifCond .ne 4, 3) := by decide +kernel
theorem dX7_readRow_55 : decode cX7_readRow 55 = .ok (.return_, 1) := by decide +kernel
theorem dX7_readRow_56 : decode cX7_readRow 56 = .ok (.aload_n 0, 1) := by decide +kernel
theorem dX7_readRow_57 : decode cX7_readRow 57 = .ok (.aload_n 0, 1) := by decide +kernel
theorem dX7_readRow_58 : decode cX7_readRow 58 = .ok (.getfield 119, 3) := by decide +kernel
theorem dX7_readRow_61 : decode cX7_readRow 61 = .ok (.aload_n 0, 1) := by decide +kernel
theorem dX7_readRow_62 : decode cX7_readRow 62 = .ok (.getfield 60, 3) := by decide +kernel
theorem dX7_readRow_65 : decode cX7_readRow 65 = .ok (.invokevirtual 156, 3) := by decide +kernel
theorem dX7_readRow_68 : decode cX7_readRow 68 = .ok (.istore_n 1, 1) := by decide +kernel
theorem dX7_readRow_69 : decode cX7_readRow 69 = .ok (.iload_n 1, 1) := by decide +kernel
theorem dX7_readRow_70 : decode cX7_readRow 70 = .ok (.ifCond .ge 12, 3) := by decide +kernel
theorem dX7_readRow_73 : decode cX7_readRow 73 = .ok (.aload_n 0, 1) := by decide +kernel
theorem dX7_readRow_74 : decode cX7_readRow 74 = .ok (.iconst 4, 1) := by decide +kernel
theorem dX7_readRow_75 : decode cX7_readRow 75 = .ok (.aload_n 0, 1) := by decide +kernel
theorem dX7_readRow_76 : decode cX7_readRow 76 = .ok (.getfield 46, 3) := by decide +kernel
theorem dX7_readRow_79 : decode cX7_readRow 79 = .ok (.invokevirtual 77, 3) := by decide +kernel
theorem dX7_readRow_82 : decode cX7_readRow 82 = .ok (.aload_n 0, 1) := by decide +kernel
theorem dX7_readRow_83 : decode cX7_readRow 83 = .ok (.invokevirtual 81, 3) := by decide +kernel
theorem dX7_readRow_86 : decode cX7_readRow 86 = .ok (.ifCond .ne 4, 3) := by decide +kernel
theorem dX7_readRow_89 : decode cX7_readRow 89 = .ok (.return_, 1) := by decide +kernel
theorem dX7_readRow_90 : decode cX7_readRow 90 = .ok (.bipush 16, 2) := by decide +kernel
theorem dX7_readRow_92 : decode cX7_readRow 92 = .ok (.aload_n 0, 1) := by decide +kernel
theorem dX7_readRow_93 : decode cX7_readRow 93 = .ok (.getfield 119, 3) := by decide +kernel
theorem dX7_readRow_96 : decode cX7_readRow 96 = .ok (.imul, 1) := by decide +kernel
theorem dX7_readRow_97 : decode cX7_readRow 97 = .ok (.aload_n 0, 1) := by decide +kernel
theorem dX7_readRow_98 : decode cX7_readRow 98 = .ok (.getfield 122, 3) := by decide +kernel
theorem dX7_readRow_101 : decode cX7_readRow 101 = .ok (.aload_n 0, 1) := by decide +kernel
theorem dX7_readRow_102 : decode cX7_readRow 102 = .ok (.getfield 119, 3) := by decide +kernel
theorem dX7_readRow_105 : decode cX7_readRow 105 = .ok (.iaload, 1) := by decide +kernel
theorem dX7_readRow_106 : decode cX7_readRow 106 = .ok (.iadd, 1) := by decide +kernel
theorem dX7_readRow_107 : decode cX7_readRow 107 = .ok (.istore_n 2, 1) := by decide +kernel
theorem dX7_readRow_108 : decode cX7_readRow 108 = .ok (.aload_n 0, 1) := by decide +kernel
theorem dX7_readRow_109 : decode cX7_readRow 109 = .ok (.invokevirtual 85, 3) := by decide +kernel
theorem dX7_readRow_112 : decode cX7_readRow 112 = .ok (.aload_n 0, 1) := by decide +kernel
theorem dX7_readRow_113 : decode cX7_readRow 113 = .ok (.aload_n 0, 1) := by decide +kernel
theorem dX7_readRow_114 : decode cX7_readRow 114 = .ok (.bipush 58, 2) := by decide +kernel
theorem dX7_readRow_116 : decode cX7_readRow 116 = .ok (.invokevirtual 163, 3) := by decide +kernel
theorem dX7_readRow_119 : decode cX7_readRow 119 = .ok (.invokevirtual 166, 3) := by decide +kernel
theorem dX7_readRow_122 : decode cX7_readRow 122 = .ok (.iconst 0, 1) := by decide +kernel
theorem dX7_readRow_123 : decode cX7_readRow 123 = .ok (.istore_n 3, 1) := by decide +kernel
theorem dX7_readRow_124 : decode cX7_readRow 124 = .ok (.iconst 1, 1) := by decide +kernel
theorem dX7_readRow_125 : decode cX7_readRow 125 = .ok (.istore 4, 2) := by decide +kernel
theorem dX7_readRow_127 : decode cX7_readRow 127 = .ok (.iload 4, 2) := by decide +kernel
theorem dX7_readRow_129 : decode cX7_readRow 129 = .ok (.ifCond .eq 96, 3) := by decide +kernel
theorem dX7_readRow_132 : decode cX7_readRow 132 = .ok (.aload_n 0, 1) := by decide +kernel
theorem dX7_readRow_133 : decode cX7_readRow 133 = .ok (.invokevirtual 81, 3) := by decide +kernel
theorem dX7_readRow_136 : decode cX7_readRow 136 = .ok (.ifCond .eq 89, 3) := by decide +kernel
theorem dX7_readRow_139 : decode cX7_readRow 139 = .ok (.iload_n 3, 1) := by decide +kernel
theorem dX7_readRow_140 : decode cX7_readRow 140 = .ok (.aload_n 0, 1) := by decide +kernel
theorem dX7_readRow_141 : decode cX7_readRow 141 = .ok (.getfield 106, 3) := by decide +kernel
theorem dX7_readRow_144 : decode cX7_readRow 144 = .ok (.iload_n 1, 1) := by decide +kernel
theorem dX7_readRow_145 : decode cX7_readRow 145 = .ok (.iaload, 1) := by decide +kernel
theorem dX7_readRow_146 : decode cX7_readRow 146 = .ok (.if_icmp .ne 7, 3) := by decide +kernel
theorem dX7_readRow_149 : decode cX7_readRow 149 = .ok (.aload_n 0, 1) := by decide +kernel
theorem dX7_readRow_150 : decode cX7_readRow 150 = .ok (.invokevirtual 89, 3) := by decide +kernel
theorem dX7_readRow_153 : decode cX7_readRow 153 = .ok (.aload_n 0, 1) := by decide +kernel
theorem dX7_readRow_154 : decode cX7_readRow 154 = .ok (.invokevirtual 81, 3) := by decide +kernel
theorem dX7_readRow_157 : decode cX7_readRow 157 = .ok (.ifCond .eq 30, 3) := by decide +kernel
theorem dX7_readRow_160 : decode cX7_readRow 160 = .ok (.aload_n 0, 1) := by decide +kernel
theorem dX7_readRow_161 : decode cX7_readRow 161 = .ok (.iconst 5, 1) := by decide +kernel
theorem dX7_readRow_162 : decode cX7_readRow 162 = .ok (.iload_n 2, 1) := by decide +kernel
theorem dX7_readRow_163 : decode cX7_readRow 163 = .ok (.imul, 1) := by decide +kernel
theorem dX7_readRow_164 : decode cX7_readRow 164 = .ok (.iload_n 3, 1) := by decide +kernel
theorem dX7_readRow_165 : decode cX7_readRow 165 = .ok (.iadd, 1) := by decide +kernel
theorem dX7_readRow_166 : decode cX7_readRow 166 = .ok (.aload_n 0, 1) := by decide +kernel
theorem dX7_readRow_167 : decode cX7_readRow 167 = .ok (.getfield 175, 3) := by decide +kernel
theorem dX7_readRow_170 : decode cX7_readRow 170 = .ok (.iconst 5, 1) := by decide +kernel
theorem dX7_readRow_171 : decode cX7_readRow 171 = .ok (.iload_n 1, 1) := by decide +kernel
theorem dX7_readRow_172 : decode cX7_readRow 172 = .ok (.imul, 1) := by decide +kernel
theorem dX7_readRow_173 : decode cX7_readRow 173 = .ok (.iload_n 3, 1) := by decide +kernel
theorem dX7_readRow_174 : decode cX7_readRow 174 = .ok (.iadd, 1) := by decide +kernel
theorem dX7_readRow_175 : decode cX7_readRow 175 = .ok (.iaload, 1) := by decide +kernel
theorem dX7_readRow_176 : decode cX7_readRow 176 = .ok (.ifCond .lt 7, 3) := by decide +kernel
theorem dX7_readRow_179 : decode cX7_readRow 179 = .ok (.iconst 1, 1) := by decide +kernel
theorem dX7_readRow_180 : decode cX7_readRow 180 = .ok (.goto 4, 3) := by decide +kernel
theorem dX7_readRow_183 : decode cX7_readRow 183 = .ok (.iconst 0, 1) := by decide +kernel
theorem dX7_readRow_184 : decode cX7_readRow 184 = .ok (.invokevirtual 178, 3) := by decide +kernel
theorem dX7_readRow_187 : decode cX7_readRow 187 = .ok (.iinc 3 1, 3) := by decide +kernel
theorem dX7_readRow_190 : decode cX7_readRow 190 = .ok (.aload_n 0, 1) := by decide +kernel
theorem dX7_readRow_191 : decode cX7_readRow 191 = .ok (.invokevirtual 81, 3) := by decide +kernel
theorem dX7_readRow_194 : decode cX7_readRow 194 = .ok (.ifCond .eq 16, 3) := by decide +kernel
theorem dX7_readRow_197 : decode cX7_readRow 197 = .ok (.aload_n 0, 1) := by decide +kernel
theorem dX7_readRow_198 : decode cX7_readRow 198 = .ok (.bipush 44, 2) := by decide +kernel
theorem dX7_readRow_200 : decode cX7_readRow 200 = .ok (.invokevirtual 163, 3) := by decide +kernel
theorem dX7_readRow_203 : decode cX7_readRow 203 = .ok (.ifCond .eq 7, 3) := by decide +kernel
theorem dX7_readRow_206 : decode cX7_readRow 206 = .ok (.iconst 1, 1) := by decide +kernel
theorem dX7_readRow_207 : decode cX7_readRow 207 = .ok (.goto 4, 3) := by decide +kernel
theorem dX7_readRow_210 : decode cX7_readRow 210 = .ok (.iconst 0, 1) := by decide +kernel
theorem dX7_readRow_211 : decode cX7_readRow 211 = .ok (.istore 4, 2) := by decide +kernel
theorem dX7_readRow_213 : decode cX7_readRow 213 = .ok (.iload 4, 2) := by decide +kernel
theorem dX7_readRow_215 : decode cX7_readRow 215 = .ok (.ifCond .eq (-88), 3) := by decide +kernel
theorem dX7_readRow_218 : decode cX7_readRow 218 = .ok (.aload_n 0, 1) := by decide +kernel
theorem dX7_readRow_219 : decode cX7_readRow 219 = .ok (.invokevirtual 85, 3) := by decide +kernel
theorem dX7_readRow_222 : decode cX7_readRow 222 = .ok (.goto (-95), 3) := by decide +kernel
theorem dX7_readRow_225 : decode cX7_readRow 225 = .ok (.aload_n 0, 1) := by decide +kernel
theorem dX7_readRow_226 : decode cX7_readRow 226 = .ok (.invokevirtual 81, 3) := by decide +kernel
theorem dX7_readRow_229 : decode cX7_readRow 229 = .ok (.ifCond .eq 17, 3) := by decide +kernel
theorem dX7_readRow_232 : decode cX7_readRow 232 = .ok (.iload_n 3, 1) := by decide +kernel
theorem dX7_readRow_233 : decode cX7_readRow 233 = .ok (.aload_n 0, 1) := by decide +kernel
theorem dX7_readRow_234 : decode cX7_readRow 234 = .ok (.getfield 106, 3) := by decide +kernel
theorem dX7_readRow_237 : decode cX7_readRow 237 = .ok (.iload_n 1, 1) := by decide +kernel
theorem dX7_readRow_238 : decode cX7_readRow 238 = .ok (.iaload, 1) := by decide +kernel
theorem dX7_readRow_239 : decode cX7_readRow 239 = .ok (.if_icmp .ge 7, 3) := by decide +kernel
theorem dX7_readRow_242 : decode cX7_readRow 242 = .ok (.aload_n 0, 1) := by decide +kernel
theorem dX7_readRow_243 : decode cX7_readRow 243 = .ok (.invokevirtual 89, 3) := by decide +kernel
theorem dX7_readRow_246 : decode cX7_readRow 246 = .ok (.aload_n 0, 1) := by decide +kernel
theorem dX7_readRow_247 : decode cX7_readRow 247 = .ok (.aload_n 0, 1) := by decide +kernel
theorem dX7_readRow_248 : decode cX7_readRow 248 = .ok (.bipush 59, 2) := by decide +kernel
theorem dX7_readRow_250 : decode cX7_readRow 250 = .ok (.invokevirtual 163, 3) := by decide +kernel
theorem dX7_readRow_253 : decode cX7_readRow 253 = .ok (.invokevirtual 166, 3) := by decide +kernel
theorem dX7_readRow_256 : decode cX7_readRow 256 = .ok (.aload_n 0, 1) := by decide +kernel
theorem dX7_readRow_257 : decode cX7_readRow 257 = .ok (.getfield 182, 3) := by decide +kernel
theorem dX7_readRow_260 : decode cX7_readRow 260 = .ok (.iload_n 2, 1) := by decide +kernel
theorem dX7_readRow_261 : decode cX7_readRow 261 = .ok (.iload_n 1, 1) := by decide +kernel
theorem dX7_readRow_262 : decode cX7_readRow 262 = .ok (.iastore, 1) := by decide +kernel
theorem dX7_readRow_263 : decode cX7_readRow 263 = .ok (.aload_n 0, 1) := by decide +kernel
theorem dX7_readRow_264 : decode cX7_readRow 264 = .ok (.getfield 185, 3) := by decide +kernel
theorem dX7_readRow_267 : decode cX7_readRow 267 = .ok (.iload_n 2, 1) := by decide +kernel
theorem dX7_readRow_268 : decode cX7_readRow 268 = .ok (.aload_n 0, 1) := by decide +kernel
theorem dX7_readRow_269 : decode cX7_readRow 269 = .ok (.getfield 160, 3) := by decide +kernel
theorem dX7_readRow_272 : decode cX7_readRow 272 = .ok (.iload_n 1, 1) := by decide +kernel
theorem dX7_readRow_273 : decode cX7_readRow 273 = .ok (.iaload, 1) := by decide +kernel
theorem dX7_readRow_274 : decode cX7_readRow 274 = .ok (.iastore, 1) := by decide +kernel
theorem dX7_readRow_275 : decode cX7_readRow 275 = .ok (.aload_n 0, 1) := by decide +kernel
theorem dX7_readRow_276 : decode cX7_readRow 276 = .ok (.getfield 160, 3) := by decide +kernel
theorem dX7_readRow_279 : decode cX7_readRow 279 = .ok (.iload_n 1, 1) := by decide +kernel
theorem dX7_readRow_280 : decode cX7_readRow 280 = .ok (.dup2, 1) := by decide +kernel
theorem dX7_readRow_281 : decode cX7_readRow 281 = .ok (.iaload, 1) := by decide +kernel
theorem dX7_readRow_282 : decode cX7_readRow 282 = .ok (.iconst 1, 1) := by decide +kernel
theorem dX7_readRow_283 : decode cX7_readRow 283 = .ok (.iadd, 1) := by decide +kernel
theorem dX7_readRow_284 : decode cX7_readRow 284 = .ok (.iastore, 1) := by decide +kernel
theorem dX7_readRow_285 : decode cX7_readRow 285 = .ok (.aload_n 0, 1) := by decide +kernel
theorem dX7_readRow_286 : decode cX7_readRow 286 = .ok (.getfield 122, 3) := by decide +kernel
theorem dX7_readRow_289 : decode cX7_readRow 289 = .ok (.aload_n 0, 1) := by decide +kernel
theorem dX7_readRow_290 : decode cX7_readRow 290 = .ok (.getfield 119, 3) := by decide +kernel
theorem dX7_readRow_293 : decode cX7_readRow 293 = .ok (.dup2, 1) := by decide +kernel
theorem dX7_readRow_294 : decode cX7_readRow 294 = .ok (.iaload, 1) := by decide +kernel
theorem dX7_readRow_295 : decode cX7_readRow 295 = .ok (.iconst 1, 1) := by decide +kernel
theorem dX7_readRow_296 : decode cX7_readRow 296 = .ok (.iadd, 1) := by decide +kernel
theorem dX7_readRow_297 : decode cX7_readRow 297 = .ok (.iastore, 1) := by decide +kernel
theorem dX7_readRow_298 : decode cX7_readRow 298 = .ok (.return_, 1) := by decide +kernel
theorem dX7_readValue_0 : decode cX7_readValue 0 = .ok (.aload_n 0, 1) := by decide +kernel
theorem dX7_readValue_1 : decode cX7_readValue 1 = .ok (.getfield 188, 3) := by decide +kernel
theorem dX7_readValue_4 : decode cX7_readValue 4 = .ok (.iload_n 1, 1) := by decide +kernel
theorem dX7_readValue_5 : decode cX7_readValue 5 = .ok (.iconst (-1), 1) := by decide +kernel
theorem dX7_readValue_6 : decode cX7_readValue 6 = .ok (.iastore, 1) := by decide +kernel
theorem dX7_readValue_7 : decode cX7_readValue 7 = .ok (.aload_n 0, 1) := by decide +kernel
theorem dX7_readValue_8 : decode cX7_readValue 8 = .ok (.bipush 45, 2) := by decide +kernel
theorem dX7_readValue_10 : decode cX7_readValue 10 = .ok (.invokevirtual 163, 3) := by decide +kernel
theorem dX7_readValue_13 : decode cX7_readValue 13 = .ok (.ifCond .eq 8, 3) := by decide +kernel
theorem dX7_readValue_16 : decode cX7_readValue 16 = .ok (.aload_n 0, 1) := by decide +kernel
theorem dX7_readValue_17 : decode cX7_readValue 17 = .ok (.invokevirtual 85, 3) := by decide +kernel
theorem dX7_readValue_20 : decode cX7_readValue 20 = .ok (.return_, 1) := by decide +kernel
theorem dX7_readValue_21 : decode cX7_readValue 21 = .ok (.iload_n 2, 1) := by decide +kernel
theorem dX7_readValue_22 : decode cX7_readValue 22 = .ok (.ifCond .eq 13, 3) := by decide +kernel
theorem dX7_readValue_25 : decode cX7_readValue 25 = .ok (.aload_n 0, 1) := by decide +kernel
theorem dX7_readValue_26 : decode cX7_readValue 26 = .ok (.aload_n 0, 1) := by decide +kernel
theorem dX7_readValue_27 : decode cX7_readValue 27 = .ok (.bipush 35, 2) := by decide +kernel
theorem dX7_readValue_29 : decode cX7_readValue 29 = .ok (.invokevirtual 163, 3) := by decide +kernel
theorem dX7_readValue_32 : decode cX7_readValue 32 = .ok (.invokevirtual 166, 3) := by decide +kernel
theorem dX7_readValue_35 : decode cX7_readValue 35 = .ok (.aload_n 0, 1) := by decide +kernel
theorem dX7_readValue_36 : decode cX7_readValue 36 = .ok (.getfield 191, 3) := by decide +kernel
theorem dX7_readValue_39 : decode cX7_readValue 39 = .ok (.iload_n 1, 1) := by decide +kernel
theorem dX7_readValue_40 : decode cX7_readValue 40 = .ok (.aload_n 0, 1) := by decide +kernel
theorem dX7_readValue_41 : decode cX7_readValue 41 = .ok (.getfield 46, 3) := by decide +kernel
theorem dX7_readValue_44 : decode cX7_readValue 44 = .ok (.iastore, 1) := by decide +kernel
theorem dX7_readValue_45 : decode cX7_readValue 45 = .ok (.aload_n 0, 1) := by decide +kernel
theorem dX7_readValue_46 : decode cX7_readValue 46 = .ok (.getfield 188, 3) := by decide +kernel
theorem dX7_readValue_49 : decode cX7_readValue 49 = .ok (.iload_n 1, 1) := by decide +kernel
theorem dX7_readValue_50 : decode cX7_readValue 50 = .ok (.aload_n 0, 1) := by decide +kernel
theorem dX7_readValue_51 : decode cX7_readValue 51 = .ok (.getfield 71, 3) := by decide +kernel
theorem dX7_readValue_54 : decode cX7_readValue 54 = .ok (.iastore, 1) := by decide +kernel
theorem dX7_readValue_55 : decode cX7_readValue 55 = .ok (.aload_n 0, 1) := by decide +kernel
theorem dX7_readValue_56 : decode cX7_readValue 56 = .ok (.aload_n 0, 1) := by decide +kernel
theorem dX7_readValue_57 : decode cX7_readValue 57 = .ok (.getfield 53, 3) := by decide +kernel
theorem dX7_readValue_60 : decode cX7_readValue 60 = .ok (.iconst 4, 1) := by decide +kernel
theorem dX7_readValue_61 : decode cX7_readValue 61 = .ok (.if_icmp .ne 7, 3) := by decide +kernel
theorem dX7_readValue_64 : decode cX7_readValue 64 = .ok (.iconst 1, 1) := by decide +kernel
theorem dX7_readValue_65 : decode cX7_readValue 65 = .ok (.goto 4, 3) := by decide +kernel
theorem dX7_readValue_68 : decode cX7_readValue 68 = .ok (.iconst 0, 1) := by decide +kernel
theorem dX7_readValue_69 : decode cX7_readValue 69 = .ok (.invokevirtual 166, 3) := by decide +kernel
theorem dX7_readValue_72 : decode cX7_readValue 72 = .ok (.return_, 1) := by decide +kernel
theorem dX7_checkLinks_0 : decode cX7_checkLinks 0 = .ok (.aload_n 0, 1) := by decide +kernel
theorem dX7_checkLinks_1 : decode cX7_checkLinks 1 = .ok (.getfield 182, 3) := by decide +kernel
theorem dX7_checkLinks_4 : decode cX7_checkLinks 4 = .ok (.iload_n 1, 1) := by decide +kernel
theorem dX7_checkLinks_5 : decode cX7_checkLinks 5 = .ok (.iaload, 1) := by decide +kernel
theorem dX7_checkLinks_6 : decode cX7_checkLinks 6 = .ok (.istore_n 2, 1) := by decide +kernel
theorem dX7_checkLinks_7 : decode cX7_checkLinks 7 = .ok (.iconst 0, 1) := by decide +kernel
theorem dX7_checkLinks_8 : decode cX7_checkLinks 8 = .ok (.istore_n 3, 1) := by decide +kernel
theorem dX7_checkLinks_9 : decode cX7_checkLinks 9 = .ok (.iload_n 3, 1) := by decide +kernel
theorem dX7_checkLinks_10 : decode cX7_checkLinks 10 = .ok (.aload_n 0, 1) := by decide +kernel
theorem dX7_checkLinks_11 : decode cX7_checkLinks 11 = .ok (.getfield 106, 3) := by decide +kernel
theorem dX7_checkLinks_14 : decode cX7_checkLinks 14 = .ok (.iload_n 2, 1) := by decide +kernel
theorem dX7_checkLinks_15 : decode cX7_checkLinks 15 = .ok (.iaload, 1) := by decide +kernel
theorem dX7_checkLinks_16 : decode cX7_checkLinks 16 = .ok (.if_icmp .ge 69, 3) := by decide +kernel
theorem dX7_checkLinks_19 : decode cX7_checkLinks 19 = .ok (.aload_n 0, 1) := by decide +kernel
theorem dX7_checkLinks_20 : decode cX7_checkLinks 20 = .ok (.invokevirtual 81, 3) := by decide +kernel
theorem dX7_checkLinks_23 : decode cX7_checkLinks 23 = .ok (.ifCond .eq 62, 3) := by decide +kernel
theorem dX7_checkLinks_26 : decode cX7_checkLinks 26 = .ok (.aload_n 0, 1) := by decide +kernel
theorem dX7_checkLinks_27 : decode cX7_checkLinks 27 = .ok (.getfield 175, 3) := by decide +kernel
theorem dX7_checkLinks_30 : decode cX7_checkLinks 30 = .ok (.iconst 5, 1) := by decide +kernel
theorem dX7_checkLinks_31 : decode cX7_checkLinks 31 = .ok (.iload_n 2, 1) := by decide +kernel
theorem dX7_checkLinks_32 : decode cX7_checkLinks 32 = .ok (.imul, 1) := by decide +kernel
theorem dX7_checkLinks_33 : decode cX7_checkLinks 33 = .ok (.iload_n 3, 1) := by decide +kernel
theorem dX7_checkLinks_34 : decode cX7_checkLinks 34 = .ok (.iadd, 1) := by decide +kernel
theorem dX7_checkLinks_35 : decode cX7_checkLinks 35 = .ok (.iaload, 1) := by decide +kernel
theorem dX7_checkLinks_36 : decode cX7_checkLinks 36 = .ok (.istore 4, 2) := by decide +kernel
theorem dX7_checkLinks_38 : decode cX7_checkLinks 38 = .ok (.iconst 5, 1) := by decide +kernel
theorem dX7_checkLinks_39 : decode cX7_checkLinks 39 = .ok (.iload_n 1, 1) := by decide +kernel
theorem dX7_checkLinks_40 : decode cX7_checkLinks 40 = .ok (.imul, 1) := by decide +kernel
theorem dX7_checkLinks_41 : decode cX7_checkLinks 41 = .ok (.iload_n 3, 1) := by decide +kernel
theorem dX7_checkLinks_42 : decode cX7_checkLinks 42 = .ok (.iadd, 1) := by decide +kernel
theorem dX7_checkLinks_43 : decode cX7_checkLinks 43 = .ok (.istore 5, 2) := by decide +kernel
theorem dX7_checkLinks_45 : decode cX7_checkLinks 45 = .ok (.iload 4, 2) := by decide +kernel
theorem dX7_checkLinks_47 : decode cX7_checkLinks 47 = .ok (.ifCond .lt 32, 3) := by decide +kernel
theorem dX7_checkLinks_50 : decode cX7_checkLinks 50 = .ok (.aload_n 0, 1) := by decide +kernel
theorem dX7_checkLinks_51 : decode cX7_checkLinks 51 = .ok (.getfield 188, 3) := by decide +kernel
theorem dX7_checkLinks_54 : decode cX7_checkLinks 54 = .ok (.iload 5, 2) := by decide +kernel
theorem dX7_checkLinks_56 : decode cX7_checkLinks 56 = .ok (.iaload, 1) := by decide +kernel
theorem dX7_checkLinks_57 : decode cX7_checkLinks 57 = .ok (.aload_n 0, 1) := by decide +kernel
theorem dX7_checkLinks_58 : decode cX7_checkLinks 58 = .ok (.getfield 160, 3) := by decide +kernel
theorem dX7_checkLinks_61 : decode cX7_checkLinks 61 = .ok (.iload 4, 2) := by decide +kernel
theorem dX7_checkLinks_63 : decode cX7_checkLinks 63 = .ok (.iaload, 1) := by decide +kernel
theorem dX7_checkLinks_64 : decode cX7_checkLinks 64 = .ok (.if_icmp .lt 15, 3) := by decide +kernel
theorem dX7_checkLinks_67 : decode cX7_checkLinks 67 = .ok (.aload_n 0, 1) := by decide +kernel
theorem dX7_checkLinks_68 : decode cX7_checkLinks 68 = .ok (.iconst 5, 1) := by decide +kernel
theorem dX7_checkLinks_69 : decode cX7_checkLinks 69 = .ok (.aload_n 0, 1) := by decide +kernel
theorem dX7_checkLinks_70 : decode cX7_checkLinks 70 = .ok (.getfield 191, 3) := by decide +kernel
theorem dX7_checkLinks_73 : decode cX7_checkLinks 73 = .ok (.iload 5, 2) := by decide +kernel
theorem dX7_checkLinks_75 : decode cX7_checkLinks 75 = .ok (.iaload, 1) := by decide +kernel
theorem dX7_checkLinks_76 : decode cX7_checkLinks 76 = .ok (.invokevirtual 77, 3) := by decide +kernel
theorem dX7_checkLinks_79 : decode cX7_checkLinks 79 = .ok (.iinc 3 1, 3) := by decide +kernel
theorem dX7_checkLinks_82 : decode cX7_checkLinks 82 = .ok (.goto (-73), 3) := by decide +kernel
theorem dX7_checkLinks_85 : decode cX7_checkLinks 85 = .ok (.return_, 1) := by decide +kernel
theorem dX7_fault_0 : decode cX7_fault 0 = .ok (.iload_n 1, 1) := by decide +kernel
theorem dX7_fault_1 : decode cX7_fault 1 = .ok (.ifCond .ne 10, 3) := by decide +kernel
theorem dX7_fault_4 : decode cX7_fault 4 = .ok (.aload_n 0, 1) := by decide +kernel
theorem dX7_fault_5 : decode cX7_fault 5 = .ok (.getfield 11, 3) := by decide +kernel
theorem dX7_fault_8 : decode cX7_fault 8 = .ok (.goto 16, 3) := by decide +kernel
theorem dX7_fault_11 : decode cX7_fault 11 = .ok (.iload_n 1, 1) := by decide +kernel
theorem dX7_fault_12 : decode cX7_fault 12 = .ok (.iconst 1, 1) := by decide +kernel
theorem dX7_fault_13 : decode cX7_fault 13 = .ok (.if_icmp .ne 10, 3) := by decide +kernel
theorem dX7_fault_16 : decode cX7_fault 16 = .ok (.aload_n 0, 1) := by decide +kernel
theorem dX7_fault_17 : decode cX7_fault 17 = .ok (.getfield 14, 3) := by decide +kernel
theorem dX7_fault_20 : decode cX7_fault 20 = .ok (.goto 4, 3) := by decide +kernel
theorem dX7_fault_23 : decode cX7_fault 23 = .ok (.iconst (-1), 1) := by decide +kernel
theorem dX7_fault_24 : decode cX7_fault 24 = .ok (.ireturn, 1) := by decide +kernel
theorem dX7_isRow_0 : decode cX7_isRow 0 = .ok (.iload_n 1, 1) := by decide +kernel
theorem dX7_isRow_1 : decode cX7_isRow 1 = .ok (.ifCond .lt 20, 3) := by decide +kernel
theorem dX7_isRow_4 : decode cX7_isRow 4 = .ok (.iload_n 1, 1) := by decide +kernel
theorem dX7_isRow_5 : decode cX7_isRow 5 = .ok (.aload_n 0, 1) := by decide +kernel
theorem dX7_isRow_6 : decode cX7_isRow 6 = .ok (.getfield 122, 3) := by decide +kernel
theorem dX7_isRow_9 : decode cX7_isRow 9 = .ok (.aload_n 0, 1) := by decide +kernel
theorem dX7_isRow_10 : decode cX7_isRow 10 = .ok (.getfield 116, 3) := by decide +kernel
theorem dX7_isRow_13 : decode cX7_isRow 13 = .ok (.iaload, 1) := by decide +kernel
theorem dX7_isRow_14 : decode cX7_isRow 14 = .ok (.if_icmp .ge 7, 3) := by decide +kernel
theorem dX7_isRow_17 : decode cX7_isRow 17 = .ok (.iconst 1, 1) := by decide +kernel
theorem dX7_isRow_18 : decode cX7_isRow 18 = .ok (.goto 4, 3) := by decide +kernel
theorem dX7_isRow_21 : decode cX7_isRow 21 = .ok (.iconst 0, 1) := by decide +kernel
theorem dX7_isRow_22 : decode cX7_isRow 22 = .ok (.ireturn, 1) := by decide +kernel
theorem dX7_tableAt_0 : decode cX7_tableAt 0 = .ok (.aload_n 0, 1) := by decide +kernel
theorem dX7_tableAt_1 : decode cX7_tableAt 1 = .ok (.getfield 182, 3) := by decide +kernel
theorem dX7_tableAt_4 : decode cX7_tableAt 4 = .ok (.bipush 16, 2) := by decide +kernel
theorem dX7_tableAt_6 : decode cX7_tableAt 6 = .ok (.aload_n 0, 1) := by decide +kernel
theorem dX7_tableAt_7 : decode cX7_tableAt 7 = .ok (.getfield 116, 3) := by decide +kernel
theorem dX7_tableAt_10 : decode cX7_tableAt 10 = .ok (.imul, 1) := by decide +kernel
theorem dX7_tableAt_11 : decode cX7_tableAt 11 = .ok (.iload_n 1, 1) := by decide +kernel
theorem dX7_tableAt_12 : decode cX7_tableAt 12 = .ok (.iadd, 1) := by decide +kernel
theorem dX7_tableAt_13 : decode cX7_tableAt 13 = .ok (.iaload, 1) := by decide +kernel
theorem dX7_tableAt_14 : decode cX7_tableAt 14 = .ok (.ireturn, 1) := by decide +kernel
theorem dX7_numberAt_0 : decode cX7_numberAt 0 = .ok (.aload_n 0, 1) := by decide +kernel
theorem dX7_numberAt_1 : decode cX7_numberAt 1 = .ok (.getfield 185, 3) := by decide +kernel
theorem dX7_numberAt_4 : decode cX7_numberAt 4 = .ok (.bipush 16, 2) := by decide +kernel
theorem dX7_numberAt_6 : decode cX7_numberAt 6 = .ok (.aload_n 0, 1) := by decide +kernel
theorem dX7_numberAt_7 : decode cX7_numberAt 7 = .ok (.getfield 116, 3) := by decide +kernel
theorem dX7_numberAt_10 : decode cX7_numberAt 10 = .ok (.imul, 1) := by decide +kernel
theorem dX7_numberAt_11 : decode cX7_numberAt 11 = .ok (.iload_n 1, 1) := by decide +kernel
theorem dX7_numberAt_12 : decode cX7_numberAt 12 = .ok (.iadd, 1) := by decide +kernel
theorem dX7_numberAt_13 : decode cX7_numberAt 13 = .ok (.iaload, 1) := by decide +kernel
theorem dX7_numberAt_14 : decode cX7_numberAt 14 = .ok (.ireturn, 1) := by decide +kernel
theorem dX7_valueAt_0 : decode cX7_valueAt 0 = .ok (.aload_n 0, 1) := by decide +kernel
theorem dX7_valueAt_1 : decode cX7_valueAt 1 = .ok (.getfield 188, 3) := by decide +kernel
theorem dX7_valueAt_4 : decode cX7_valueAt 4 = .ok (.iconst 5, 1) := by decide +kernel
theorem dX7_valueAt_5 : decode cX7_valueAt 5 = .ok (.bipush 16, 2) := by decide +kernel
theorem dX7_valueAt_7 : decode cX7_valueAt 7 = .ok (.aload_n 0, 1) := by decide +kernel
theorem dX7_valueAt_8 : decode cX7_valueAt 8 = .ok (.getfield 116, 3) := by decide +kernel
theorem dX7_valueAt_11 : decode cX7_valueAt 11 = .ok (.imul, 1) := by decide +kernel
theorem dX7_valueAt_12 : decode cX7_valueAt 12 = .ok (.iload_n 1, 1) := by decide +kernel
theorem dX7_valueAt_13 : decode cX7_valueAt 13 = .ok (.iadd, 1) := by decide +kernel
theorem dX7_valueAt_14 : decode cX7_valueAt 14 = .ok (.imul, 1) := by decide +kernel
theorem dX7_valueAt_15 : decode cX7_valueAt 15 = .ok (.iload_n 2, 1) := by decide +kernel
theorem dX7_valueAt_16 : decode cX7_valueAt 16 = .ok (.iadd, 1) := by decide +kernel
theorem dX7_valueAt_17 : decode cX7_valueAt 17 = .ok (.iaload, 1) := by decide +kernel
theorem dX7_valueAt_18 : decode cX7_valueAt 18 = .ok (.istore_n 3, 1) := by decide +kernel
theorem dX7_valueAt_19 : decode cX7_valueAt 19 = .ok (.aload_n 0, 1) := by decide +kernel
theorem dX7_valueAt_20 : decode cX7_valueAt 20 = .ok (.getfield 175, 3) := by decide +kernel
theorem dX7_valueAt_23 : decode cX7_valueAt 23 = .ok (.iconst 5, 1) := by decide +kernel
theorem dX7_valueAt_24 : decode cX7_valueAt 24 = .ok (.aload_n 0, 1) := by decide +kernel
theorem dX7_valueAt_25 : decode cX7_valueAt 25 = .ok (.iload_n 1, 1) := by decide +kernel
theorem dX7_valueAt_26 : decode cX7_valueAt 26 = .ok (.invokevirtual 194, 3) := by decide +kernel
theorem dX7_valueAt_29 : decode cX7_valueAt 29 = .ok (.imul, 1) := by decide +kernel
theorem dX7_valueAt_30 : decode cX7_valueAt 30 = .ok (.iload_n 2, 1) := by decide +kernel
theorem dX7_valueAt_31 : decode cX7_valueAt 31 = .ok (.iadd, 1) := by decide +kernel
theorem dX7_valueAt_32 : decode cX7_valueAt 32 = .ok (.iaload, 1) := by decide +kernel
theorem dX7_valueAt_33 : decode cX7_valueAt 33 = .ok (.istore 4, 2) := by decide +kernel
theorem dX7_valueAt_35 : decode cX7_valueAt 35 = .ok (.iload 4, 2) := by decide +kernel
theorem dX7_valueAt_37 : decode cX7_valueAt 37 = .ok (.ifCond .lt 7, 3) := by decide +kernel
theorem dX7_valueAt_40 : decode cX7_valueAt 40 = .ok (.iload_n 3, 1) := by decide +kernel
theorem dX7_valueAt_41 : decode cX7_valueAt 41 = .ok (.ifCond .ge 5, 3) := by decide +kernel
theorem dX7_valueAt_44 : decode cX7_valueAt 44 = .ok (.iload_n 3, 1) := by decide +kernel
theorem dX7_valueAt_45 : decode cX7_valueAt 45 = .ok (.ireturn, 1) := by decide +kernel
theorem dX7_valueAt_46 : decode cX7_valueAt 46 = .ok (.iconst 0, 1) := by decide +kernel
theorem dX7_valueAt_47 : decode cX7_valueAt 47 = .ok (.istore 5, 2) := by decide +kernel
theorem dX7_valueAt_49 : decode cX7_valueAt 49 = .ok (.iload 5, 2) := by decide +kernel
theorem dX7_valueAt_51 : decode cX7_valueAt 51 = .ok (.aload_n 0, 1) := by decide +kernel
theorem dX7_valueAt_52 : decode cX7_valueAt 52 = .ok (.getfield 122, 3) := by decide +kernel
theorem dX7_valueAt_55 : decode cX7_valueAt 55 = .ok (.aload_n 0, 1) := by decide +kernel
theorem dX7_valueAt_56 : decode cX7_valueAt 56 = .ok (.getfield 116, 3) := by decide +kernel
theorem dX7_valueAt_59 : decode cX7_valueAt 59 = .ok (.iaload, 1) := by decide +kernel
theorem dX7_valueAt_60 : decode cX7_valueAt 60 = .ok (.if_icmp .ge 33, 3) := by decide +kernel
theorem dX7_valueAt_63 : decode cX7_valueAt 63 = .ok (.aload_n 0, 1) := by decide +kernel
theorem dX7_valueAt_64 : decode cX7_valueAt 64 = .ok (.iload 5, 2) := by decide +kernel
theorem dX7_valueAt_66 : decode cX7_valueAt 66 = .ok (.invokevirtual 194, 3) := by decide +kernel
theorem dX7_valueAt_69 : decode cX7_valueAt 69 = .ok (.iload 4, 2) := by decide +kernel
theorem dX7_valueAt_71 : decode cX7_valueAt 71 = .ok (.if_icmp .ne 16, 3) := by decide +kernel
theorem dX7_valueAt_74 : decode cX7_valueAt 74 = .ok (.aload_n 0, 1) := by decide +kernel
theorem dX7_valueAt_75 : decode cX7_valueAt 75 = .ok (.iload 5, 2) := by decide +kernel
theorem dX7_valueAt_77 : decode cX7_valueAt 77 = .ok (.invokevirtual 197, 3) := by decide +kernel
theorem dX7_valueAt_80 : decode cX7_valueAt 80 = .ok (.iload_n 3, 1) := by decide +kernel
theorem dX7_valueAt_81 : decode cX7_valueAt 81 = .ok (.if_icmp .ne 6, 3) := by decide +kernel
theorem dX7_valueAt_84 : decode cX7_valueAt 84 = .ok (.iload 5, 2) := by decide +kernel
theorem dX7_valueAt_86 : decode cX7_valueAt 86 = .ok (.ireturn, 1) := by decide +kernel
theorem dX7_valueAt_87 : decode cX7_valueAt 87 = .ok (.iinc 5 1, 3) := by decide +kernel
theorem dX7_valueAt_90 : decode cX7_valueAt 90 = .ok (.goto (-41), 3) := by decide +kernel
theorem dX7_valueAt_93 : decode cX7_valueAt 93 = .ok (.iconst (-1), 1) := by decide +kernel
theorem dX7_valueAt_94 : decode cX7_valueAt 94 = .ok (.ireturn, 1) := by decide +kernel
theorem dX7_hasColumn_0 : decode cX7_hasColumn 0 = .ok (.aload_n 0, 1) := by decide +kernel
theorem dX7_hasColumn_1 : decode cX7_hasColumn 1 = .ok (.iload_n 1, 1) := by decide +kernel
theorem dX7_hasColumn_2 : decode cX7_hasColumn 2 = .ok (.invokevirtual 200, 3) := by decide +kernel
theorem dX7_hasColumn_5 : decode cX7_hasColumn 5 = .ok (.ifCond .eq 25, 3) := by decide +kernel
theorem dX7_hasColumn_8 : decode cX7_hasColumn 8 = .ok (.iload_n 2, 1) := by decide +kernel
theorem dX7_hasColumn_9 : decode cX7_hasColumn 9 = .ok (.ifCond .lt 21, 3) := by decide +kernel
theorem dX7_hasColumn_12 : decode cX7_hasColumn 12 = .ok (.iload_n 2, 1) := by decide +kernel
theorem dX7_hasColumn_13 : decode cX7_hasColumn 13 = .ok (.aload_n 0, 1) := by decide +kernel
theorem dX7_hasColumn_14 : decode cX7_hasColumn 14 = .ok (.getfield 106, 3) := by decide +kernel
theorem dX7_hasColumn_17 : decode cX7_hasColumn 17 = .ok (.aload_n 0, 1) := by decide +kernel
theorem dX7_hasColumn_18 : decode cX7_hasColumn 18 = .ok (.iload_n 1, 1) := by decide +kernel
theorem dX7_hasColumn_19 : decode cX7_hasColumn 19 = .ok (.invokevirtual 194, 3) := by decide +kernel
theorem dX7_hasColumn_22 : decode cX7_hasColumn 22 = .ok (.iaload, 1) := by decide +kernel
theorem dX7_hasColumn_23 : decode cX7_hasColumn 23 = .ok (.if_icmp .ge 7, 3) := by decide +kernel
theorem dX7_hasColumn_26 : decode cX7_hasColumn 26 = .ok (.iconst 1, 1) := by decide +kernel
theorem dX7_hasColumn_27 : decode cX7_hasColumn 27 = .ok (.goto 4, 3) := by decide +kernel
theorem dX7_hasColumn_30 : decode cX7_hasColumn 30 = .ok (.iconst 0, 1) := by decide +kernel
theorem dX7_hasColumn_31 : decode cX7_hasColumn 31 = .ok (.ireturn, 1) := by decide +kernel
theorem dX7_isLink_0 : decode cX7_isLink 0 = .ok (.aload_n 0, 1) := by decide +kernel
theorem dX7_isLink_1 : decode cX7_isLink 1 = .ok (.getfield 175, 3) := by decide +kernel
theorem dX7_isLink_4 : decode cX7_isLink 4 = .ok (.iconst 5, 1) := by decide +kernel
theorem dX7_isLink_5 : decode cX7_isLink 5 = .ok (.aload_n 0, 1) := by decide +kernel
theorem dX7_isLink_6 : decode cX7_isLink 6 = .ok (.iload_n 1, 1) := by decide +kernel
theorem dX7_isLink_7 : decode cX7_isLink 7 = .ok (.invokevirtual 194, 3) := by decide +kernel
theorem dX7_isLink_10 : decode cX7_isLink 10 = .ok (.imul, 1) := by decide +kernel
theorem dX7_isLink_11 : decode cX7_isLink 11 = .ok (.iload_n 2, 1) := by decide +kernel
theorem dX7_isLink_12 : decode cX7_isLink 12 = .ok (.iadd, 1) := by decide +kernel
theorem dX7_isLink_13 : decode cX7_isLink 13 = .ok (.iaload, 1) := by decide +kernel
theorem dX7_isLink_14 : decode cX7_isLink 14 = .ok (.ifCond .lt 7, 3) := by decide +kernel
theorem dX7_isLink_17 : decode cX7_isLink 17 = .ok (.iconst 1, 1) := by decide +kernel
theorem dX7_isLink_18 : decode cX7_isLink 18 = .ok (.goto 4, 3) := by decide +kernel
theorem dX7_isLink_21 : decode cX7_isLink 21 = .ok (.iconst 0, 1) := by decide +kernel
theorem dX7_isLink_22 : decode cX7_isLink 22 = .ok (.ireturn, 1) := by decide +kernel
theorem dX7_row_0 : decode cX7_row 0 = .ok (.aload_n 0, 1) := by decide +kernel
theorem dX7_row_1 : decode cX7_row 1 = .ok (.iload_n 1, 1) := by decide +kernel
theorem dX7_row_2 : decode cX7_row 2 = .ok (.invokevirtual 200, 3) := by decide +kernel
theorem dX7_row_5 : decode cX7_row 5 = .ok (.ifCond .ne 5, 3) := by decide +kernel
theorem dX7_row_8 : decode cX7_row 8 = .ok (.iconst (-1), 1) := by decide +kernel
theorem dX7_row_9 : decode cX7_row 9 = .ok (.ireturn, 1) := by decide +kernel
theorem dX7_row_10 : decode cX7_row 10 = .ok (.iload_n 2, 1) := by decide +kernel
theorem dX7_row_11 : decode cX7_row 11 = .ok (.ifCond .ne 18, 3) := by decide +kernel
theorem dX7_row_14 : decode cX7_row 14 = .ok (.aload_n 0, 1) := by decide +kernel
theorem dX7_row_15 : decode cX7_row 15 = .ok (.iload_n 1, 1) := by decide +kernel
theorem dX7_row_16 : decode cX7_row 16 = .ok (.invokevirtual 194, 3) := by decide +kernel
theorem dX7_row_19 : decode cX7_row 19 = .ok (.iconst 5, 1) := by decide +kernel
theorem dX7_row_20 : decode cX7_row 20 = .ok (.aload_n 0, 1) := by decide +kernel
theorem dX7_row_21 : decode cX7_row 21 = .ok (.getfield 116, 3) := by decide +kernel
theorem dX7_row_24 : decode cX7_row 24 = .ok (.imul, 1) := by decide +kernel
theorem dX7_row_25 : decode cX7_row 25 = .ok (.isub, 1) := by decide +kernel
theorem dX7_row_26 : decode cX7_row 26 = .ok (.goto 33, 3) := by decide +kernel
theorem dX7_row_29 : decode cX7_row 29 = .ok (.iload_n 2, 1) := by decide +kernel
theorem dX7_row_30 : decode cX7_row 30 = .ok (.iconst 1, 1) := by decide +kernel
theorem dX7_row_31 : decode cX7_row 31 = .ok (.if_icmp .ne 11, 3) := by decide +kernel
theorem dX7_row_34 : decode cX7_row 34 = .ok (.aload_n 0, 1) := by decide +kernel
theorem dX7_row_35 : decode cX7_row 35 = .ok (.iload_n 1, 1) := by decide +kernel
theorem dX7_row_36 : decode cX7_row 36 = .ok (.invokevirtual 197, 3) := by decide +kernel
theorem dX7_row_39 : decode cX7_row 39 = .ok (.goto 20, 3) := by decide +kernel
theorem dX7_row_42 : decode cX7_row 42 = .ok (.iload_n 2, 1) := by decide +kernel
theorem dX7_row_43 : decode cX7_row 43 = .ok (.iconst 2, 1) := by decide +kernel
theorem dX7_row_44 : decode cX7_row 44 = .ok (.if_icmp .ne 14, 3) := by decide +kernel
theorem dX7_row_47 : decode cX7_row 47 = .ok (.aload_n 0, 1) := by decide +kernel
theorem dX7_row_48 : decode cX7_row 48 = .ok (.getfield 147, 3) := by decide +kernel
theorem dX7_row_51 : decode cX7_row 51 = .ok (.iload_n 1, 1) := by decide +kernel
theorem dX7_row_52 : decode cX7_row 52 = .ok (.ishr, 1) := by decide +kernel
theorem dX7_row_53 : decode cX7_row 53 = .ok (.iconst 1, 1) := by decide +kernel
theorem dX7_row_54 : decode cX7_row 54 = .ok (.iand, 1) := by decide +kernel
theorem dX7_row_55 : decode cX7_row 55 = .ok (.goto 4, 3) := by decide +kernel
theorem dX7_row_58 : decode cX7_row 58 = .ok (.iconst (-1), 1) := by decide +kernel
theorem dX7_row_59 : decode cX7_row 59 = .ok (.ireturn, 1) := by decide +kernel
theorem dX7_value_0 : decode cX7_value 0 = .ok (.aload_n 0, 1) := by decide +kernel
theorem dX7_value_1 : decode cX7_value 1 = .ok (.iload_n 1, 1) := by decide +kernel
theorem dX7_value_2 : decode cX7_value 2 = .ok (.iload_n 2, 1) := by decide +kernel
theorem dX7_value_3 : decode cX7_value 3 = .ok (.invokevirtual 203, 3) := by decide +kernel
theorem dX7_value_6 : decode cX7_value 6 = .ok (.ifCond .eq 12, 3) := by decide +kernel
theorem dX7_value_9 : decode cX7_value 9 = .ok (.aload_n 0, 1) := by decide +kernel
theorem dX7_value_10 : decode cX7_value 10 = .ok (.iload_n 1, 1) := by decide +kernel
theorem dX7_value_11 : decode cX7_value 11 = .ok (.iload_n 2, 1) := by decide +kernel
theorem dX7_value_12 : decode cX7_value 12 = .ok (.invokevirtual 207, 3) := by decide +kernel
theorem dX7_value_15 : decode cX7_value 15 = .ok (.goto 4, 3) := by decide +kernel
theorem dX7_value_18 : decode cX7_value 18 = .ok (.iconst (-1), 1) := by decide +kernel
theorem dX7_value_19 : decode cX7_value 19 = .ok (.ireturn, 1) := by decide +kernel
theorem dX7_wishes_0 : decode cX7_wishes 0 = .ok (.aload_n 0, 1) := by decide +kernel
theorem dX7_wishes_1 : decode cX7_wishes 1 = .ok (.getfield 92, 3) := by decide +kernel
theorem dX7_wishes_4 : decode cX7_wishes 4 = .ok (.sipush 600, 3) := by decide +kernel
theorem dX7_wishes_7 : decode cX7_wishes 7 = .ok (.if_icmp .le 6, 3) := by decide +kernel
theorem dX7_wishes_10 : decode cX7_wishes 10 = .ok (.bipush (-2), 2) := by decide +kernel
theorem dX7_wishes_12 : decode cX7_wishes 12 = .ok (.ireturn, 1) := by decide +kernel
theorem dX7_wishes_13 : decode cX7_wishes 13 = .ok (.aload_n 0, 1) := by decide +kernel
theorem dX7_wishes_14 : decode cX7_wishes 14 = .ok (.iconst 1, 1) := by decide +kernel
theorem dX7_wishes_15 : decode cX7_wishes 15 = .ok (.invokevirtual 112, 3) := by decide +kernel
theorem dX7_wishes_18 : decode cX7_wishes 18 = .ok (.aload_n 0, 1) := by decide +kernel
theorem dX7_wishes_19 : decode cX7_wishes 19 = .ok (.iconst 1, 1) := by decide +kernel
theorem dX7_wishes_20 : decode cX7_wishes 20 = .ok (.aload_n 0, 1) := by decide +kernel
theorem dX7_wishes_21 : decode cX7_wishes 21 = .ok (.getfield 141, 3) := by decide +kernel
theorem dX7_wishes_24 : decode cX7_wishes 24 = .ok (.isub, 1) := by decide +kernel
theorem dX7_wishes_25 : decode cX7_wishes 25 = .ok (.putfield 211, 3) := by decide +kernel
theorem dX7_wishes_28 : decode cX7_wishes 28 = .ok (.aload_n 0, 1) := by decide +kernel
theorem dX7_wishes_29 : decode cX7_wishes 29 = .ok (.getfield 138, 3) := by decide +kernel
theorem dX7_wishes_32 : decode cX7_wishes 32 = .ok (.aload_n 0, 1) := by decide +kernel
theorem dX7_wishes_33 : decode cX7_wishes 33 = .ok (.getfield 211, 3) := by decide +kernel
theorem dX7_wishes_36 : decode cX7_wishes 36 = .ok (.iconst 0, 1) := by decide +kernel
theorem dX7_wishes_37 : decode cX7_wishes 37 = .ok (.iastore, 1) := by decide +kernel
theorem dX7_wishes_38 : decode cX7_wishes 38 = .ok (.aload_n 0, 1) := by decide +kernel
theorem dX7_wishes_39 : decode cX7_wishes 39 = .ok (.iconst 0, 1) := by decide +kernel
theorem dX7_wishes_40 : decode cX7_wishes 40 = .ok (.putfield 214, 3) := by decide +kernel
theorem dX7_wishes_43 : decode cX7_wishes 43 = .ok (.aload_n 0, 1) := by decide +kernel
theorem dX7_wishes_44 : decode cX7_wishes 44 = .ok (.iconst 0, 1) := by decide +kernel
theorem dX7_wishes_45 : decode cX7_wishes 45 = .ok (.putfield 217, 3) := by decide +kernel
theorem dX7_wishes_48 : decode cX7_wishes 48 = .ok (.aload_n 0, 1) := by decide +kernel
theorem dX7_wishes_49 : decode cX7_wishes 49 = .ok (.iconst 0, 1) := by decide +kernel
theorem dX7_wishes_50 : decode cX7_wishes 50 = .ok (.putfield 220, 3) := by decide +kernel
theorem dX7_wishes_53 : decode cX7_wishes 53 = .ok (.aload_n 0, 1) := by decide +kernel
theorem dX7_wishes_54 : decode cX7_wishes 54 = .ok (.invokevirtual 85, 3) := by decide +kernel
theorem dX7_wishes_57 : decode cX7_wishes 57 = .ok (.aload_n 0, 1) := by decide +kernel
theorem dX7_wishes_58 : decode cX7_wishes 58 = .ok (.invokevirtual 81, 3) := by decide +kernel
theorem dX7_wishes_61 : decode cX7_wishes 61 = .ok (.ifCond .eq 17, 3) := by decide +kernel
theorem dX7_wishes_64 : decode cX7_wishes 64 = .ok (.aload_n 0, 1) := by decide +kernel
theorem dX7_wishes_65 : decode cX7_wishes 65 = .ok (.getfield 53, 3) := by decide +kernel
theorem dX7_wishes_68 : decode cX7_wishes 68 = .ok (.ifCond .eq 10, 3) := by decide +kernel
theorem dX7_wishes_71 : decode cX7_wishes 71 = .ok (.aload_n 0, 1) := by decide +kernel
theorem dX7_wishes_72 : decode cX7_wishes 72 = .ok (.invokevirtual 223, 3) := by decide +kernel
theorem dX7_wishes_75 : decode cX7_wishes 75 = .ok (.goto (-18), 3) := by decide +kernel
theorem dX7_wishes_78 : decode cX7_wishes 78 = .ok (.aload_n 0, 1) := by decide +kernel
theorem dX7_wishes_79 : decode cX7_wishes 79 = .ok (.invokevirtual 81, 3) := by decide +kernel
theorem dX7_wishes_82 : decode cX7_wishes 82 = .ok (.ifCond .ne 5, 3) := by decide +kernel
theorem dX7_wishes_85 : decode cX7_wishes 85 = .ok (.iconst (-1), 1) := by decide +kernel
theorem dX7_wishes_86 : decode cX7_wishes 86 = .ok (.ireturn, 1) := by decide +kernel
theorem dX7_wishes_87 : decode cX7_wishes 87 = .ok (.aload_n 0, 1) := by decide +kernel
theorem dX7_wishes_88 : decode cX7_wishes 88 = .ok (.aload_n 0, 1) := by decide +kernel
theorem dX7_wishes_89 : decode cX7_wishes 89 = .ok (.getfield 211, 3) := by decide +kernel
theorem dX7_wishes_92 : decode cX7_wishes 92 = .ok (.putfield 141, 3) := by decide +kernel
theorem dX7_wishes_95 : decode cX7_wishes 95 = .ok (.aload_n 0, 1) := by decide +kernel
theorem dX7_wishes_96 : decode cX7_wishes 96 = .ok (.iconst 0, 1) := by decide +kernel
theorem dX7_wishes_97 : decode cX7_wishes 97 = .ok (.putfield 153, 3) := by decide +kernel
theorem dX7_wishes_100 : decode cX7_wishes 100 = .ok (.aload_n 0, 1) := by decide +kernel
theorem dX7_wishes_101 : decode cX7_wishes 101 = .ok (.getfield 138, 3) := by decide +kernel
theorem dX7_wishes_104 : decode cX7_wishes 104 = .ok (.aload_n 0, 1) := by decide +kernel
theorem dX7_wishes_105 : decode cX7_wishes 105 = .ok (.getfield 141, 3) := by decide +kernel
theorem dX7_wishes_108 : decode cX7_wishes 108 = .ok (.iaload, 1) := by decide +kernel
theorem dX7_wishes_109 : decode cX7_wishes 109 = .ok (.ireturn, 1) := by decide +kernel
theorem dX7_aTable_0 : decode cX7_aTable 0 = .ok (.aload_n 0, 1) := by decide +kernel
theorem dX7_aTable_1 : decode cX7_aTable 1 = .ok (.invokevirtual 81, 3) := by decide +kernel
theorem dX7_aTable_4 : decode cX7_aTable 4 = .ok (.ifCond .eq 15, 3) := by decide +kernel
theorem dX7_aTable_7 : decode cX7_aTable 7 = .ok (.aload_n 0, 1) := by decide +kernel
theorem dX7_aTable_8 : decode cX7_aTable 8 = .ok (.getfield 53, 3) := by decide +kernel
theorem dX7_aTable_11 : decode cX7_aTable 11 = .ok (.iconst 2, 1) := by decide +kernel
theorem dX7_aTable_12 : decode cX7_aTable 12 = .ok (.if_icmp .eq 7, 3) := by decide +kernel
theorem dX7_aTable_15 : decode cX7_aTable 15 = .ok (.aload_n 0, 1) := by decide +kernel
theorem dX7_aTable_16 : decode cX7_aTable 16 = .ok (.invokevirtual 89, 3) := by decide +kernel
theorem dX7_aTable_19 : decode cX7_aTable 19 = .ok (.aload_n 0, 1) := by decide +kernel
theorem dX7_aTable_20 : decode cX7_aTable 20 = .ok (.invokevirtual 81, 3) := by decide +kernel
theorem dX7_aTable_23 : decode cX7_aTable 23 = .ok (.ifCond .eq 18, 3) := by decide +kernel
theorem dX7_aTable_26 : decode cX7_aTable 26 = .ok (.aload_n 0, 1) := by decide +kernel
theorem dX7_aTable_27 : decode cX7_aTable 27 = .ok (.aload_n 0, 1) := by decide +kernel
theorem dX7_aTable_28 : decode cX7_aTable 28 = .ok (.getfield 116, 3) := by decide +kernel
theorem dX7_aTable_31 : decode cX7_aTable 31 = .ok (.aload_n 0, 1) := by decide +kernel
theorem dX7_aTable_32 : decode cX7_aTable 32 = .ok (.getfield 60, 3) := by decide +kernel
theorem dX7_aTable_35 : decode cX7_aTable 35 = .ok (.invokevirtual 156, 3) := by decide +kernel
theorem dX7_aTable_38 : decode cX7_aTable 38 = .ok (.goto 4, 3) := by decide +kernel
theorem dX7_aTable_41 : decode cX7_aTable 41 = .ok (.iconst (-1), 1) := by decide +kernel
theorem dX7_aTable_42 : decode cX7_aTable 42 = .ok (.istore_n 1, 1) := by decide +kernel
theorem dX7_aTable_43 : decode cX7_aTable 43 = .ok (.aload_n 0, 1) := by decide +kernel
theorem dX7_aTable_44 : decode cX7_aTable 44 = .ok (.invokevirtual 81, 3) := by decide +kernel
theorem dX7_aTable_47 : decode cX7_aTable 47 = .ok (.ifCond .eq 16, 3) := by decide +kernel
theorem dX7_aTable_50 : decode cX7_aTable 50 = .ok (.iload_n 1, 1) := by decide +kernel
theorem dX7_aTable_51 : decode cX7_aTable 51 = .ok (.ifCond .ge 12, 3) := by decide +kernel
theorem dX7_aTable_54 : decode cX7_aTable 54 = .ok (.aload_n 0, 1) := by decide +kernel
theorem dX7_aTable_55 : decode cX7_aTable 55 = .ok (.iconst 4, 1) := by decide +kernel
theorem dX7_aTable_56 : decode cX7_aTable 56 = .ok (.aload_n 0, 1) := by decide +kernel
theorem dX7_aTable_57 : decode cX7_aTable 57 = .ok (.getfield 46, 3) := by decide +kernel
theorem dX7_aTable_60 : decode cX7_aTable 60 = .ok (.invokevirtual 77, 3) := by decide +kernel
theorem dX7_aTable_63 : decode cX7_aTable 63 = .ok (.aload_n 0, 1) := by decide +kernel
theorem dX7_aTable_64 : decode cX7_aTable 64 = .ok (.invokevirtual 81, 3) := by decide +kernel
theorem dX7_aTable_67 : decode cX7_aTable 67 = .ok (.ifCond .eq 7, 3) := by decide +kernel
theorem dX7_aTable_70 : decode cX7_aTable 70 = .ok (.aload_n 0, 1) := by decide +kernel
theorem dX7_aTable_71 : decode cX7_aTable 71 = .ok (.invokevirtual 85, 3) := by decide +kernel
theorem dX7_aTable_74 : decode cX7_aTable 74 = .ok (.iload_n 1, 1) := by decide +kernel
theorem dX7_aTable_75 : decode cX7_aTable 75 = .ok (.ireturn, 1) := by decide +kernel
theorem dX7_howMany_0 : decode cX7_howMany 0 = .ok (.aload_n 0, 1) := by decide +kernel
theorem dX7_howMany_1 : decode cX7_howMany 1 = .ok (.invokevirtual 81, 3) := by decide +kernel
theorem dX7_howMany_4 : decode cX7_howMany 4 = .ok (.ifCond .eq 15, 3) := by decide +kernel
theorem dX7_howMany_7 : decode cX7_howMany 7 = .ok (.aload_n 0, 1) := by decide +kernel
theorem dX7_howMany_8 : decode cX7_howMany 8 = .ok (.getfield 53, 3) := by decide +kernel
theorem dX7_howMany_11 : decode cX7_howMany 11 = .ok (.iconst 4, 1) := by decide +kernel
theorem dX7_howMany_12 : decode cX7_howMany 12 = .ok (.if_icmp .eq 7, 3) := by decide +kernel
theorem dX7_howMany_15 : decode cX7_howMany 15 = .ok (.aload_n 0, 1) := by decide +kernel
theorem dX7_howMany_16 : decode cX7_howMany 16 = .ok (.invokevirtual 89, 3) := by decide +kernel
theorem dX7_howMany_19 : decode cX7_howMany 19 = .ok (.aload_n 0, 1) := by decide +kernel
theorem dX7_howMany_20 : decode cX7_howMany 20 = .ok (.invokevirtual 81, 3) := by decide +kernel
theorem dX7_howMany_23 : decode cX7_howMany 23 = .ok (.ifCond .eq 30, 3) := by decide +kernel
theorem dX7_howMany_26 : decode cX7_howMany 26 = .ok (.aload_n 0, 1) := by decide +kernel
theorem dX7_howMany_27 : decode cX7_howMany 27 = .ok (.getfield 71, 3) := by decide +kernel
theorem dX7_howMany_30 : decode cX7_howMany 30 = .ok (.iconst 1, 1) := by decide +kernel
theorem dX7_howMany_31 : decode cX7_howMany 31 = .ok (.if_icmp .lt 12, 3) := by decide +kernel
theorem dX7_howMany_34 : decode cX7_howMany 34 = .ok (.aload_n 0, 1) := by decide +kernel
theorem dX7_howMany_35 : decode cX7_howMany 35 = .ok (.getfield 71, 3) := by decide +kernel
theorem dX7_howMany_38 : decode cX7_howMany 38 = .ok (.bipush 16, 2) := by decide +kernel
theorem dX7_howMany_40 : decode cX7_howMany 40 = .ok (.if_icmp .le 13, 3) := by decide +kernel
theorem dX7_howMany_43 : decode cX7_howMany 43 = .ok (.aload_n 0, 1) := by decide +kernel
theorem dX7_howMany_44 : decode cX7_howMany 44 = .ok (.bipush 6, 2) := by decide +kernel
theorem dX7_howMany_46 : decode cX7_howMany 46 = .ok (.aload_n 0, 1) := by decide +kernel
theorem dX7_howMany_47 : decode cX7_howMany 47 = .ok (.getfield 46, 3) := by decide +kernel
theorem dX7_howMany_50 : decode cX7_howMany 50 = .ok (.invokevirtual 77, 3) := by decide +kernel
theorem dX7_howMany_53 : decode cX7_howMany 53 = .ok (.aload_n 0, 1) := by decide +kernel
theorem dX7_howMany_54 : decode cX7_howMany 54 = .ok (.getfield 71, 3) := by decide +kernel
theorem dX7_howMany_57 : decode cX7_howMany 57 = .ok (.istore_n 1, 1) := by decide +kernel
theorem dX7_howMany_58 : decode cX7_howMany 58 = .ok (.aload_n 0, 1) := by decide +kernel
theorem dX7_howMany_59 : decode cX7_howMany 59 = .ok (.invokevirtual 81, 3) := by decide +kernel
theorem dX7_howMany_62 : decode cX7_howMany 62 = .ok (.ifCond .eq 7, 3) := by decide +kernel
theorem dX7_howMany_65 : decode cX7_howMany 65 = .ok (.aload_n 0, 1) := by decide +kernel
theorem dX7_howMany_66 : decode cX7_howMany 66 = .ok (.invokevirtual 85, 3) := by decide +kernel
theorem dX7_howMany_69 : decode cX7_howMany 69 = .ok (.iload_n 1, 1) := by decide +kernel
theorem dX7_howMany_70 : decode cX7_howMany 70 = .ok (.ireturn, 1) := by decide +kernel
theorem dX7_readWish_0 : decode cX7_readWish 0 = .ok (.aload_n 0, 1) := by decide +kernel
theorem dX7_readWish_1 : decode cX7_readWish 1 = .ok (.ldc2_w 25, 3) := by decide +kernel
theorem dX7_readWish_4 : decode cX7_readWish 4 = .ok (.invokevirtual 125, 3) := by decide +kernel
theorem dX7_readWish_7 : decode cX7_readWish 7 = .ok (.istore_n 1, 1) := by decide +kernel
theorem dX7_readWish_8 : decode cX7_readWish 8 = .ok (.iload_n 1, 1) := by decide +kernel
theorem dX7_readWish_9 : decode cX7_readWish 9 = .ok (.ifCond .ne 13, 3) := by decide +kernel
theorem dX7_readWish_12 : decode cX7_readWish 12 = .ok (.aload_n 0, 1) := by decide +kernel
theorem dX7_readWish_13 : decode cX7_readWish 13 = .ok (.ldc2_w 23, 3) := by decide +kernel
theorem dX7_readWish_16 : decode cX7_readWish 16 = .ok (.invokevirtual 125, 3) := by decide +kernel
theorem dX7_readWish_19 : decode cX7_readWish 19 = .ok (.ifCond .eq 17, 3) := by decide +kernel
theorem dX7_readWish_22 : decode cX7_readWish 22 = .ok (.aload_n 0, 1) := by decide +kernel
theorem dX7_readWish_23 : decode cX7_readWish 23 = .ok (.getfield 138, 3) := by decide +kernel
theorem dX7_readWish_26 : decode cX7_readWish 26 = .ok (.aload_n 0, 1) := by decide +kernel
theorem dX7_readWish_27 : decode cX7_readWish 27 = .ok (.getfield 211, 3) := by decide +kernel
theorem dX7_readWish_30 : decode cX7_readWish 30 = .ok (.iaload, 1) := by decide +kernel
theorem dX7_readWish_31 : decode cX7_readWish 31 = .ok (.bipush 10, 2) := by decide +kernel
theorem dX7_readWish_33 : decode cX7_readWish 33 = .ok (.if_icmp .ne 7, 3) := by decide +kernel
theorem dX7_readWish_36 : decode cX7_readWish 36 = .ok (.aload_n 0, 1) := by decide +kernel
theorem dX7_readWish_37 : decode cX7_readWish 37 = .ok (.invokevirtual 89, 3) := by decide +kernel
theorem dX7_readWish_40 : decode cX7_readWish 40 = .ok (.aload_n 0, 1) := by decide +kernel
theorem dX7_readWish_41 : decode cX7_readWish 41 = .ok (.invokevirtual 81, 3) := by decide +kernel
theorem dX7_readWish_44 : decode cX7_readWish 44 = .ok (.ifCond .ne 4, 3) := by decide +kernel
theorem dX7_readWish_47 : decode cX7_readWish 47 = .ok (.return_, 1) := by decide +kernel
theorem dX7_readWish_48 : decode cX7_readWish 48 = .ok (.bipush 10, 2) := by decide +kernel
theorem dX7_readWish_50 : decode cX7_readWish 50 = .ok (.aload_n 0, 1) := by decide +kernel
theorem dX7_readWish_51 : decode cX7_readWish 51 = .ok (.getfield 211, 3) := by decide +kernel
theorem dX7_readWish_54 : decode cX7_readWish 54 = .ok (.imul, 1) := by decide +kernel
theorem dX7_readWish_55 : decode cX7_readWish 55 = .ok (.aload_n 0, 1) := by decide +kernel
theorem dX7_readWish_56 : decode cX7_readWish 56 = .ok (.getfield 138, 3) := by decide +kernel
theorem dX7_readWish_59 : decode cX7_readWish 59 = .ok (.aload_n 0, 1) := by decide +kernel
theorem dX7_readWish_60 : decode cX7_readWish 60 = .ok (.getfield 211, 3) := by decide +kernel
theorem dX7_readWish_63 : decode cX7_readWish 63 = .ok (.iaload, 1) := by decide +kernel
theorem dX7_readWish_64 : decode cX7_readWish 64 = .ok (.iadd, 1) := by decide +kernel
theorem dX7_readWish_65 : decode cX7_readWish 65 = .ok (.istore_n 2, 1) := by decide +kernel
theorem dX7_readWish_66 : decode cX7_readWish 66 = .ok (.aload_n 0, 1) := by decide +kernel
theorem dX7_readWish_67 : decode cX7_readWish 67 = .ok (.invokevirtual 85, 3) := by decide +kernel
theorem dX7_readWish_70 : decode cX7_readWish 70 = .ok (.aload_n 0, 1) := by decide +kernel
theorem dX7_readWish_71 : decode cX7_readWish 71 = .ok (.getfield 226, 3) := by decide +kernel
theorem dX7_readWish_74 : decode cX7_readWish 74 = .ok (.iload_n 2, 1) := by decide +kernel
theorem dX7_readWish_75 : decode cX7_readWish 75 = .ok (.iconst (-1), 1) := by decide +kernel
theorem dX7_readWish_76 : decode cX7_readWish 76 = .ok (.iastore, 1) := by decide +kernel
theorem dX7_readWish_77 : decode cX7_readWish 77 = .ok (.iload_n 1, 1) := by decide +kernel
theorem dX7_readWish_78 : decode cX7_readWish 78 = .ok (.ifCond .eq 13, 3) := by decide +kernel
theorem dX7_readWish_81 : decode cX7_readWish 81 = .ok (.aload_n 0, 1) := by decide +kernel
theorem dX7_readWish_82 : decode cX7_readWish 82 = .ok (.getfield 229, 3) := by decide +kernel
theorem dX7_readWish_85 : decode cX7_readWish 85 = .ok (.iload_n 2, 1) := by decide +kernel
theorem dX7_readWish_86 : decode cX7_readWish 86 = .ok (.aload_n 0, 1) := by decide +kernel
theorem dX7_readWish_87 : decode cX7_readWish 87 = .ok (.invokevirtual 232, 3) := by decide +kernel
theorem dX7_readWish_90 : decode cX7_readWish 90 = .ok (.iastore, 1) := by decide +kernel
theorem dX7_readWish_91 : decode cX7_readWish 91 = .ok (.iload_n 1, 1) := by decide +kernel
theorem dX7_readWish_92 : decode cX7_readWish 92 = .ok (.ifCond .eq 14, 3) := by decide +kernel
theorem dX7_readWish_95 : decode cX7_readWish 95 = .ok (.aload_n 0, 1) := by decide +kernel
theorem dX7_readWish_96 : decode cX7_readWish 96 = .ok (.aload_n 0, 1) := by decide +kernel
theorem dX7_readWish_97 : decode cX7_readWish 97 = .ok (.ldc2_w 29, 3) := by decide +kernel
theorem dX7_readWish_100 : decode cX7_readWish 100 = .ok (.invokevirtual 125, 3) := by decide +kernel
theorem dX7_readWish_103 : decode cX7_readWish 103 = .ok (.invokevirtual 166, 3) := by decide +kernel
theorem dX7_readWish_106 : decode cX7_readWish 106 = .ok (.aload_n 0, 1) := by decide +kernel
theorem dX7_readWish_107 : decode cX7_readWish 107 = .ok (.getfield 236, 3) := by decide +kernel
theorem dX7_readWish_110 : decode cX7_readWish 110 = .ok (.iload_n 2, 1) := by decide +kernel
theorem dX7_readWish_111 : decode cX7_readWish 111 = .ok (.aload_n 0, 1) := by decide +kernel
theorem dX7_readWish_112 : decode cX7_readWish 112 = .ok (.invokevirtual 239, 3) := by decide +kernel
theorem dX7_readWish_115 : decode cX7_readWish 115 = .ok (.iastore, 1) := by decide +kernel
theorem dX7_readWish_116 : decode cX7_readWish 116 = .ok (.iload_n 1, 1) := by decide +kernel
theorem dX7_readWish_117 : decode cX7_readWish 117 = .ok (.ifCond .eq 32, 3) := by decide +kernel
theorem dX7_readWish_120 : decode cX7_readWish 120 = .ok (.aload_n 0, 1) := by decide +kernel
theorem dX7_readWish_121 : decode cX7_readWish 121 = .ok (.getfield 226, 3) := by decide +kernel
theorem dX7_readWish_124 : decode cX7_readWish 124 = .ok (.iload_n 2, 1) := by decide +kernel
theorem dX7_readWish_125 : decode cX7_readWish 125 = .ok (.aload_n 0, 1) := by decide +kernel
theorem dX7_readWish_126 : decode cX7_readWish 126 = .ok (.invokevirtual 232, 3) := by decide +kernel
theorem dX7_readWish_129 : decode cX7_readWish 129 = .ok (.iastore, 1) := by decide +kernel
theorem dX7_readWish_130 : decode cX7_readWish 130 = .ok (.aload_n 0, 1) := by decide +kernel
theorem dX7_readWish_131 : decode cX7_readWish 131 = .ok (.aload_n 0, 1) := by decide +kernel
theorem dX7_readWish_132 : decode cX7_readWish 132 = .ok (.ldc2_w 31, 3) := by decide +kernel
theorem dX7_readWish_135 : decode cX7_readWish 135 = .ok (.invokevirtual 125, 3) := by decide +kernel
theorem dX7_readWish_138 : decode cX7_readWish 138 = .ok (.invokevirtual 166, 3) := by decide +kernel
theorem dX7_readWish_141 : decode cX7_readWish 141 = .ok (.aload_n 0, 1) := by decide +kernel
theorem dX7_readWish_142 : decode cX7_readWish 142 = .ok (.iload_n 2, 1) := by decide +kernel
theorem dX7_readWish_143 : decode cX7_readWish 143 = .ok (.invokevirtual 242, 3) := by decide +kernel
theorem dX7_readWish_146 : decode cX7_readWish 146 = .ok (.goto 13, 3) := by decide +kernel
theorem dX7_readWish_149 : decode cX7_readWish 149 = .ok (.aload_n 0, 1) := by decide +kernel
theorem dX7_readWish_150 : decode cX7_readWish 150 = .ok (.getfield 229, 3) := by decide +kernel
theorem dX7_readWish_153 : decode cX7_readWish 153 = .ok (.iload_n 2, 1) := by decide +kernel
theorem dX7_readWish_154 : decode cX7_readWish 154 = .ok (.aload_n 0, 1) := by decide +kernel
theorem dX7_readWish_155 : decode cX7_readWish 155 = .ok (.invokevirtual 232, 3) := by decide +kernel
theorem dX7_readWish_158 : decode cX7_readWish 158 = .ok (.iastore, 1) := by decide +kernel
theorem dX7_readWish_159 : decode cX7_readWish 159 = .ok (.aload_n 0, 1) := by decide +kernel
theorem dX7_readWish_160 : decode cX7_readWish 160 = .ok (.getfield 245, 3) := by decide +kernel
theorem dX7_readWish_163 : decode cX7_readWish 163 = .ok (.iload_n 2, 1) := by decide +kernel
theorem dX7_readWish_164 : decode cX7_readWish 164 = .ok (.aload_n 0, 1) := by decide +kernel
theorem dX7_readWish_165 : decode cX7_readWish 165 = .ok (.getfield 214, 3) := by decide +kernel
theorem dX7_readWish_168 : decode cX7_readWish 168 = .ok (.iastore, 1) := by decide +kernel
theorem dX7_readWish_169 : decode cX7_readWish 169 = .ok (.iload_n 1, 1) := by decide +kernel
theorem dX7_readWish_170 : decode cX7_readWish 170 = .ok (.ifCond .ne 29, 3) := by decide +kernel
theorem dX7_readWish_173 : decode cX7_readWish 173 = .ok (.aload_n 0, 1) := by decide +kernel
theorem dX7_readWish_174 : decode cX7_readWish 174 = .ok (.invokevirtual 81, 3) := by decide +kernel
theorem dX7_readWish_177 : decode cX7_readWish 177 = .ok (.ifCond .eq 22, 3) := by decide +kernel
theorem dX7_readWish_180 : decode cX7_readWish 180 = .ok (.aload_n 0, 1) := by decide +kernel
theorem dX7_readWish_181 : decode cX7_readWish 181 = .ok (.ldc2_w 27, 3) := by decide +kernel
theorem dX7_readWish_184 : decode cX7_readWish 184 = .ok (.invokevirtual 125, 3) := by decide +kernel
theorem dX7_readWish_187 : decode cX7_readWish 187 = .ok (.ifCond .eq 12, 3) := by decide +kernel
theorem dX7_readWish_190 : decode cX7_readWish 190 = .ok (.aload_n 0, 1) := by decide +kernel
theorem dX7_readWish_191 : decode cX7_readWish 191 = .ok (.invokevirtual 85, 3) := by decide +kernel
theorem dX7_readWish_194 : decode cX7_readWish 194 = .ok (.aload_n 0, 1) := by decide +kernel
theorem dX7_readWish_195 : decode cX7_readWish 195 = .ok (.iload_n 2, 1) := by decide +kernel
theorem dX7_readWish_196 : decode cX7_readWish 196 = .ok (.invokevirtual 248, 3) := by decide +kernel
theorem dX7_readWish_199 : decode cX7_readWish 199 = .ok (.aload_n 0, 1) := by decide +kernel
theorem dX7_readWish_200 : decode cX7_readWish 200 = .ok (.getfield 251, 3) := by decide +kernel
theorem dX7_readWish_203 : decode cX7_readWish 203 = .ok (.iload_n 2, 1) := by decide +kernel
theorem dX7_readWish_204 : decode cX7_readWish 204 = .ok (.aload_n 0, 1) := by decide +kernel
theorem dX7_readWish_205 : decode cX7_readWish 205 = .ok (.getfield 214, 3) := by decide +kernel
theorem dX7_readWish_208 : decode cX7_readWish 208 = .ok (.iastore, 1) := by decide +kernel
theorem dX7_readWish_209 : decode cX7_readWish 209 = .ok (.aload_n 0, 1) := by decide +kernel
theorem dX7_readWish_210 : decode cX7_readWish 210 = .ok (.aload_n 0, 1) := by decide +kernel
theorem dX7_readWish_211 : decode cX7_readWish 211 = .ok (.bipush 59, 2) := by decide +kernel
theorem dX7_readWish_213 : decode cX7_readWish 213 = .ok (.invokevirtual 163, 3) := by decide +kernel
theorem dX7_readWish_216 : decode cX7_readWish 216 = .ok (.invokevirtual 166, 3) := by decide +kernel
theorem dX7_readWish_219 : decode cX7_readWish 219 = .ok (.aload_n 0, 1) := by decide +kernel
theorem dX7_readWish_220 : decode cX7_readWish 220 = .ok (.getfield 138, 3) := by decide +kernel
theorem dX7_readWish_223 : decode cX7_readWish 223 = .ok (.aload_n 0, 1) := by decide +kernel
theorem dX7_readWish_224 : decode cX7_readWish 224 = .ok (.getfield 211, 3) := by decide +kernel
theorem dX7_readWish_227 : decode cX7_readWish 227 = .ok (.dup2, 1) := by decide +kernel
theorem dX7_readWish_228 : decode cX7_readWish 228 = .ok (.iaload, 1) := by decide +kernel
theorem dX7_readWish_229 : decode cX7_readWish 229 = .ok (.iconst 1, 1) := by decide +kernel
theorem dX7_readWish_230 : decode cX7_readWish 230 = .ok (.iadd, 1) := by decide +kernel
theorem dX7_readWish_231 : decode cX7_readWish 231 = .ok (.iastore, 1) := by decide +kernel
theorem dX7_readWish_232 : decode cX7_readWish 232 = .ok (.return_, 1) := by decide +kernel
theorem dX7_readBy_0 : decode cX7_readBy 0 = .ok (.aload_n 0, 1) := by decide +kernel
theorem dX7_readBy_1 : decode cX7_readBy 1 = .ok (.invokevirtual 81, 3) := by decide +kernel
theorem dX7_readBy_4 : decode cX7_readBy 4 = .ok (.ifCond .eq 15, 3) := by decide +kernel
theorem dX7_readBy_7 : decode cX7_readBy 7 = .ok (.aload_n 0, 1) := by decide +kernel
theorem dX7_readBy_8 : decode cX7_readBy 8 = .ok (.getfield 53, 3) := by decide +kernel
theorem dX7_readBy_11 : decode cX7_readBy 11 = .ok (.iconst 2, 1) := by decide +kernel
theorem dX7_readBy_12 : decode cX7_readBy 12 = .ok (.if_icmp .eq 7, 3) := by decide +kernel
theorem dX7_readBy_15 : decode cX7_readBy 15 = .ok (.aload_n 0, 1) := by decide +kernel
theorem dX7_readBy_16 : decode cX7_readBy 16 = .ok (.invokevirtual 89, 3) := by decide +kernel
theorem dX7_readBy_19 : decode cX7_readBy 19 = .ok (.aload_n 0, 1) := by decide +kernel
theorem dX7_readBy_20 : decode cX7_readBy 20 = .ok (.invokevirtual 81, 3) := by decide +kernel
theorem dX7_readBy_23 : decode cX7_readBy 23 = .ok (.ifCond .ne 4, 3) := by decide +kernel
theorem dX7_readBy_26 : decode cX7_readBy 26 = .ok (.return_, 1) := by decide +kernel
theorem dX7_readBy_27 : decode cX7_readBy 27 = .ok (.aload_n 0, 1) := by decide +kernel
theorem dX7_readBy_28 : decode cX7_readBy 28 = .ok (.aload_n 0, 1) := by decide +kernel
theorem dX7_readBy_29 : decode cX7_readBy 29 = .ok (.getfield 226, 3) := by decide +kernel
theorem dX7_readBy_32 : decode cX7_readBy 32 = .ok (.iload_n 1, 1) := by decide +kernel
theorem dX7_readBy_33 : decode cX7_readBy 33 = .ok (.iaload, 1) := by decide +kernel
theorem dX7_readBy_34 : decode cX7_readBy 34 = .ok (.aload_n 0, 1) := by decide +kernel
theorem dX7_readBy_35 : decode cX7_readBy 35 = .ok (.getfield 60, 3) := by decide +kernel
theorem dX7_readBy_38 : decode cX7_readBy 38 = .ok (.invokevirtual 172, 3) := by decide +kernel
theorem dX7_readBy_41 : decode cX7_readBy 41 = .ok (.istore_n 2, 1) := by decide +kernel
theorem dX7_readBy_42 : decode cX7_readBy 42 = .ok (.iload_n 2, 1) := by decide +kernel
theorem dX7_readBy_43 : decode cX7_readBy 43 = .ok (.ifCond .lt 18, 3) := by decide +kernel
theorem dX7_readBy_46 : decode cX7_readBy 46 = .ok (.aload_n 0, 1) := by decide +kernel
theorem dX7_readBy_47 : decode cX7_readBy 47 = .ok (.getfield 175, 3) := by decide +kernel
theorem dX7_readBy_50 : decode cX7_readBy 50 = .ok (.iload_n 2, 1) := by decide +kernel
theorem dX7_readBy_51 : decode cX7_readBy 51 = .ok (.iaload, 1) := by decide +kernel
theorem dX7_readBy_52 : decode cX7_readBy 52 = .ok (.aload_n 0, 1) := by decide +kernel
theorem dX7_readBy_53 : decode cX7_readBy 53 = .ok (.getfield 229, 3) := by decide +kernel
theorem dX7_readBy_56 : decode cX7_readBy 56 = .ok (.iload_n 1, 1) := by decide +kernel
theorem dX7_readBy_57 : decode cX7_readBy 57 = .ok (.iaload, 1) := by decide +kernel
theorem dX7_readBy_58 : decode cX7_readBy 58 = .ok (.if_icmp .eq 12, 3) := by decide +kernel
theorem dX7_readBy_61 : decode cX7_readBy 61 = .ok (.aload_n 0, 1) := by decide +kernel
theorem dX7_readBy_62 : decode cX7_readBy 62 = .ok (.iconst 4, 1) := by decide +kernel
theorem dX7_readBy_63 : decode cX7_readBy 63 = .ok (.aload_n 0, 1) := by decide +kernel
theorem dX7_readBy_64 : decode cX7_readBy 64 = .ok (.getfield 46, 3) := by decide +kernel
theorem dX7_readBy_67 : decode cX7_readBy 67 = .ok (.invokevirtual 77, 3) := by decide +kernel
theorem dX7_readBy_70 : decode cX7_readBy 70 = .ok (.aload_n 0, 1) := by decide +kernel
theorem dX7_readBy_71 : decode cX7_readBy 71 = .ok (.invokevirtual 81, 3) := by decide +kernel
theorem dX7_readBy_74 : decode cX7_readBy 74 = .ok (.ifCond .ne 4, 3) := by decide +kernel
theorem dX7_readBy_77 : decode cX7_readBy 77 = .ok (.return_, 1) := by decide +kernel
theorem dX7_readBy_78 : decode cX7_readBy 78 = .ok (.aload_n 0, 1) := by decide +kernel
theorem dX7_readBy_79 : decode cX7_readBy 79 = .ok (.getfield 254, 3) := by decide +kernel
theorem dX7_readBy_82 : decode cX7_readBy 82 = .ok (.iload_n 1, 1) := by decide +kernel
theorem dX7_readBy_83 : decode cX7_readBy 83 = .ok (.iload_n 2, 1) := by decide +kernel
theorem dX7_readBy_84 : decode cX7_readBy 84 = .ok (.iconst 5, 1) := by decide +kernel
theorem dX7_readBy_85 : decode cX7_readBy 85 = .ok (.aload_n 0, 1) := by decide +kernel
theorem dX7_readBy_86 : decode cX7_readBy 86 = .ok (.getfield 226, 3) := by decide +kernel
theorem dX7_readBy_89 : decode cX7_readBy 89 = .ok (.iload_n 1, 1) := by decide +kernel
theorem dX7_readBy_90 : decode cX7_readBy 90 = .ok (.iaload, 1) := by decide +kernel
theorem dX7_readBy_91 : decode cX7_readBy 91 = .ok (.imul, 1) := by decide +kernel
theorem dX7_readBy_92 : decode cX7_readBy 92 = .ok (.isub, 1) := by decide +kernel
theorem dX7_readBy_93 : decode cX7_readBy 93 = .ok (.iastore, 1) := by decide +kernel
theorem dX7_readBy_94 : decode cX7_readBy 94 = .ok (.aload_n 0, 1) := by decide +kernel
theorem dX7_readBy_95 : decode cX7_readBy 95 = .ok (.invokevirtual 85, 3) := by decide +kernel
theorem dX7_readBy_98 : decode cX7_readBy 98 = .ok (.return_, 1) := by decide +kernel
theorem dX7_step_0 : decode cX7_step 0 = .ok (.aload_n 0, 1) := by decide +kernel
theorem dX7_step_1 : decode cX7_step 1 = .ok (.getfield 257, 3) := by decide +kernel
theorem dX7_step_4 : decode cX7_step 4 = .ok (.sipush 600, 3) := by decide +kernel
theorem dX7_step_7 : decode cX7_step 7 = .ok (.aload_n 0, 1) := by decide +kernel
theorem dX7_step_8 : decode cX7_step 8 = .ok (.getfield 211, 3) := by decide +kernel
theorem dX7_step_11 : decode cX7_step 11 = .ok (.imul, 1) := by decide +kernel
theorem dX7_step_12 : decode cX7_step 12 = .ok (.aload_n 0, 1) := by decide +kernel
theorem dX7_step_13 : decode cX7_step 13 = .ok (.getfield 214, 3) := by decide +kernel
theorem dX7_step_16 : decode cX7_step 16 = .ok (.iadd, 1) := by decide +kernel
theorem dX7_step_17 : decode cX7_step 17 = .ok (.iload_n 1, 1) := by decide +kernel
theorem dX7_step_18 : decode cX7_step 18 = .ok (.iastore, 1) := by decide +kernel
theorem dX7_step_19 : decode cX7_step 19 = .ok (.aload_n 0, 1) := by decide +kernel
theorem dX7_step_20 : decode cX7_step 20 = .ok (.getfield 260, 3) := by decide +kernel
theorem dX7_step_23 : decode cX7_step 23 = .ok (.sipush 600, 3) := by decide +kernel
theorem dX7_step_26 : decode cX7_step 26 = .ok (.aload_n 0, 1) := by decide +kernel
theorem dX7_step_27 : decode cX7_step 27 = .ok (.getfield 211, 3) := by decide +kernel
theorem dX7_step_30 : decode cX7_step 30 = .ok (.imul, 1) := by decide +kernel
theorem dX7_step_31 : decode cX7_step 31 = .ok (.aload_n 0, 1) := by decide +kernel
theorem dX7_step_32 : decode cX7_step 32 = .ok (.getfield 214, 3) := by decide +kernel
theorem dX7_step_35 : decode cX7_step 35 = .ok (.iadd, 1) := by decide +kernel
theorem dX7_step_36 : decode cX7_step 36 = .ok (.iload_n 2, 1) := by decide +kernel
theorem dX7_step_37 : decode cX7_step 37 = .ok (.iastore, 1) := by decide +kernel
theorem dX7_step_38 : decode cX7_step 38 = .ok (.aload_n 0, 1) := by decide +kernel
theorem dX7_step_39 : decode cX7_step 39 = .ok (.dup, 1) := by decide +kernel
theorem dX7_step_40 : decode cX7_step 40 = .ok (.getfield 214, 3) := by decide +kernel
theorem dX7_step_43 : decode cX7_step 43 = .ok (.iconst 1, 1) := by decide +kernel
theorem dX7_step_44 : decode cX7_step 44 = .ok (.iadd, 1) := by decide +kernel
theorem dX7_step_45 : decode cX7_step 45 = .ok (.putfield 214, 3) := by decide +kernel
theorem dX7_step_48 : decode cX7_step 48 = .ok (.return_, 1) := by decide +kernel
theorem dX7_pile_0 : decode cX7_pile 0 = .ok (.aload_n 0, 1) := by decide +kernel
theorem dX7_pile_1 : decode cX7_pile 1 = .ok (.getfield 263, 3) := by decide +kernel
theorem dX7_pile_4 : decode cX7_pile 4 = .ok (.aload_n 0, 1) := by decide +kernel
theorem dX7_pile_5 : decode cX7_pile 5 = .ok (.getfield 266, 3) := by decide +kernel
theorem dX7_pile_8 : decode cX7_pile 8 = .ok (.iload_n 1, 1) := by decide +kernel
theorem dX7_pile_9 : decode cX7_pile 9 = .ok (.iastore, 1) := by decide +kernel
theorem dX7_pile_10 : decode cX7_pile 10 = .ok (.aload_n 0, 1) := by decide +kernel
theorem dX7_pile_11 : decode cX7_pile 11 = .ok (.dup, 1) := by decide +kernel
theorem dX7_pile_12 : decode cX7_pile 12 = .ok (.getfield 266, 3) := by decide +kernel
theorem dX7_pile_15 : decode cX7_pile 15 = .ok (.iconst 1, 1) := by decide +kernel
theorem dX7_pile_16 : decode cX7_pile 16 = .ok (.iadd, 1) := by decide +kernel
theorem dX7_pile_17 : decode cX7_pile 17 = .ok (.putfield 266, 3) := by decide +kernel
theorem dX7_pile_20 : decode cX7_pile 20 = .ok (.return_, 1) := by decide +kernel
theorem dX7_e_0 : decode cX7_e 0 = .ok (.aload_n 0, 1) := by decide +kernel
theorem dX7_e_1 : decode cX7_e 1 = .ok (.iconst 0, 1) := by decide +kernel
theorem dX7_e_2 : decode cX7_e 2 = .ok (.putfield 266, 3) := by decide +kernel
theorem dX7_e_5 : decode cX7_e 5 = .ok (.aload_n 0, 1) := by decide +kernel
theorem dX7_e_6 : decode cX7_e 6 = .ok (.iconst 0, 1) := by decide +kernel
theorem dX7_e_7 : decode cX7_e 7 = .ok (.putfield 269, 3) := by decide +kernel
theorem dX7_e_10 : decode cX7_e 10 = .ok (.aload_n 0, 1) := by decide +kernel
theorem dX7_e_11 : decode cX7_e 11 = .ok (.iconst 5, 1) := by decide +kernel
theorem dX7_e_12 : decode cX7_e 12 = .ok (.invokevirtual 272, 3) := by decide +kernel
theorem dX7_e_15 : decode cX7_e 15 = .ok (.iconst 1, 1) := by decide +kernel
theorem dX7_e_16 : decode cX7_e 16 = .ok (.istore_n 2, 1) := by decide +kernel
theorem dX7_e_17 : decode cX7_e 17 = .ok (.aload_n 0, 1) := by decide +kernel
theorem dX7_e_18 : decode cX7_e 18 = .ok (.invokevirtual 81, 3) := by decide +kernel
theorem dX7_e_21 : decode cX7_e 21 = .ok (.ifCond .eq 30, 3) := by decide +kernel
theorem dX7_e_24 : decode cX7_e 24 = .ok (.aload_n 0, 1) := by decide +kernel
theorem dX7_e_25 : decode cX7_e 25 = .ok (.getfield 266, 3) := by decide +kernel
theorem dX7_e_28 : decode cX7_e 28 = .ok (.ifCond .le 23, 3) := by decide +kernel
theorem dX7_e_31 : decode cX7_e 31 = .ok (.iload_n 2, 1) := by decide +kernel
theorem dX7_e_32 : decode cX7_e 32 = .ok (.ifCond .eq 11, 3) := by decide +kernel
theorem dX7_e_35 : decode cX7_e 35 = .ok (.aload_n 0, 1) := by decide +kernel
theorem dX7_e_36 : decode cX7_e 36 = .ok (.iload_n 1, 1) := by decide +kernel
theorem dX7_e_37 : decode cX7_e 37 = .ok (.invokevirtual 275, 3) := by decide +kernel
theorem dX7_e_40 : decode cX7_e 40 = .ok (.goto 7, 3) := by decide +kernel
theorem dX7_e_43 : decode cX7_e 43 = .ok (.aload_n 0, 1) := by decide +kernel
theorem dX7_e_44 : decode cX7_e 44 = .ok (.invokevirtual 278, 3) := by decide +kernel
theorem dX7_e_47 : decode cX7_e 47 = .ok (.istore_n 2, 1) := by decide +kernel
theorem dX7_e_48 : decode cX7_e 48 = .ok (.goto (-31), 3) := by decide +kernel
theorem dX7_e_51 : decode cX7_e 51 = .ok (.return_, 1) := by decide +kernel
theorem dX7_one_0 : decode cX7_one 0 = .ok (.aload_n 0, 1) := by decide +kernel
theorem dX7_one_1 : decode cX7_one 1 = .ok (.bipush 40, 2) := by decide +kernel
theorem dX7_one_3 : decode cX7_one 3 = .ok (.invokevirtual 163, 3) := by decide +kernel
theorem dX7_one_6 : decode cX7_one 6 = .ok (.ifCond .ne 13, 3) := by decide +kernel
theorem dX7_one_9 : decode cX7_one 9 = .ok (.aload_n 0, 1) := by decide +kernel
theorem dX7_one_10 : decode cX7_one 10 = .ok (.ldc2_w 33, 3) := by decide +kernel
theorem dX7_one_13 : decode cX7_one 13 = .ok (.invokevirtual 125, 3) := by decide +kernel
theorem dX7_one_16 : decode cX7_one 16 = .ok (.ifCond .eq 50, 3) := by decide +kernel
theorem dX7_one_19 : decode cX7_one 19 = .ok (.aload_n 0, 1) := by decide +kernel
theorem dX7_one_20 : decode cX7_one 20 = .ok (.aload_n 0, 1) := by decide +kernel
theorem dX7_one_21 : decode cX7_one 21 = .ok (.bipush 40, 2) := by decide +kernel
theorem dX7_one_23 : decode cX7_one 23 = .ok (.invokevirtual 163, 3) := by decide +kernel
theorem dX7_one_26 : decode cX7_one 26 = .ok (.ifCond .eq 7, 3) := by decide +kernel
theorem dX7_one_29 : decode cX7_one 29 = .ok (.iconst 4, 1) := by decide +kernel
theorem dX7_one_30 : decode cX7_one 30 = .ok (.goto 4, 3) := by decide +kernel
theorem dX7_one_33 : decode cX7_one 33 = .ok (.iconst 3, 1) := by decide +kernel
theorem dX7_one_34 : decode cX7_one 34 = .ok (.invokevirtual 272, 3) := by decide +kernel
theorem dX7_one_37 : decode cX7_one 37 = .ok (.aload_n 0, 1) := by decide +kernel
theorem dX7_one_38 : decode cX7_one 38 = .ok (.invokevirtual 85, 3) := by decide +kernel
theorem dX7_one_41 : decode cX7_one 41 = .ok (.aload_n 0, 1) := by decide +kernel
theorem dX7_one_42 : decode cX7_one 42 = .ok (.dup, 1) := by decide +kernel
theorem dX7_one_43 : decode cX7_one 43 = .ok (.getfield 269, 3) := by decide +kernel
theorem dX7_one_46 : decode cX7_one 46 = .ok (.iconst 1, 1) := by decide +kernel
theorem dX7_one_47 : decode cX7_one 47 = .ok (.iadd, 1) := by decide +kernel
theorem dX7_one_48 : decode cX7_one 48 = .ok (.putfield 269, 3) := by decide +kernel
theorem dX7_one_51 : decode cX7_one 51 = .ok (.aload_n 0, 1) := by decide +kernel
theorem dX7_one_52 : decode cX7_one 52 = .ok (.getfield 269, 3) := by decide +kernel
theorem dX7_one_55 : decode cX7_one 55 = .ok (.bipush 6, 2) := by decide +kernel
theorem dX7_one_57 : decode cX7_one 57 = .ok (.if_icmp .lt 7, 3) := by decide +kernel
theorem dX7_one_60 : decode cX7_one 60 = .ok (.aload_n 0, 1) := by decide +kernel
theorem dX7_one_61 : decode cX7_one 61 = .ok (.invokevirtual 89, 3) := by decide +kernel
theorem dX7_one_64 : decode cX7_one 64 = .ok (.iconst 1, 1) := by decide +kernel
theorem dX7_one_65 : decode cX7_one 65 = .ok (.ireturn, 1) := by decide +kernel
theorem dX7_one_66 : decode cX7_one 66 = .ok (.aload_n 0, 1) := by decide +kernel
theorem dX7_one_67 : decode cX7_one 67 = .ok (.aload_n 0, 1) := by decide +kernel
theorem dX7_one_68 : decode cX7_one 68 = .ok (.getfield 229, 3) := by decide +kernel
theorem dX7_one_71 : decode cX7_one 71 = .ok (.iload_n 1, 1) := by decide +kernel
theorem dX7_one_72 : decode cX7_one 72 = .ok (.iaload, 1) := by decide +kernel
theorem dX7_one_73 : decode cX7_one 73 = .ok (.invokevirtual 281, 3) := by decide +kernel
theorem dX7_one_76 : decode cX7_one 76 = .ok (.aload_n 0, 1) := by decide +kernel
theorem dX7_one_77 : decode cX7_one 77 = .ok (.invokevirtual 81, 3) := by decide +kernel
theorem dX7_one_80 : decode cX7_one 80 = .ok (.ifCond .eq 34, 3) := by decide +kernel
theorem dX7_one_83 : decode cX7_one 83 = .ok (.aload_n 0, 1) := by decide +kernel
theorem dX7_one_84 : decode cX7_one 84 = .ok (.bipush 60, 2) := by decide +kernel
theorem dX7_one_86 : decode cX7_one 86 = .ok (.invokevirtual 163, 3) := by decide +kernel
theorem dX7_one_89 : decode cX7_one 89 = .ok (.ifCond .ne 25, 3) := by decide +kernel
theorem dX7_one_92 : decode cX7_one 92 = .ok (.aload_n 0, 1) := by decide +kernel
theorem dX7_one_93 : decode cX7_one 93 = .ok (.bipush 62, 2) := by decide +kernel
theorem dX7_one_95 : decode cX7_one 95 = .ok (.invokevirtual 163, 3) := by decide +kernel
theorem dX7_one_98 : decode cX7_one 98 = .ok (.ifCond .ne 16, 3) := by decide +kernel
theorem dX7_one_101 : decode cX7_one 101 = .ok (.aload_n 0, 1) := by decide +kernel
theorem dX7_one_102 : decode cX7_one 102 = .ok (.bipush 61, 2) := by decide +kernel
theorem dX7_one_104 : decode cX7_one 104 = .ok (.invokevirtual 163, 3) := by decide +kernel
theorem dX7_one_107 : decode cX7_one 107 = .ok (.ifCond .ne 7, 3) := by decide +kernel
theorem dX7_one_110 : decode cX7_one 110 = .ok (.aload_n 0, 1) := by decide +kernel
theorem dX7_one_111 : decode cX7_one 111 = .ok (.invokevirtual 89, 3) := by decide +kernel
theorem dX7_one_114 : decode cX7_one 114 = .ok (.aload_n 0, 1) := by decide +kernel
theorem dX7_one_115 : decode cX7_one 115 = .ok (.invokevirtual 81, 3) := by decide +kernel
theorem dX7_one_118 : decode cX7_one 118 = .ok (.ifCond .ne 5, 3) := by decide +kernel
theorem dX7_one_121 : decode cX7_one 121 = .ok (.iconst 1, 1) := by decide +kernel
theorem dX7_one_122 : decode cX7_one 122 = .ok (.ireturn, 1) := by decide +kernel
theorem dX7_one_123 : decode cX7_one 123 = .ok (.aload_n 0, 1) := by decide +kernel
theorem dX7_one_124 : decode cX7_one 124 = .ok (.aload_n 0, 1) := by decide +kernel
theorem dX7_one_125 : decode cX7_one 125 = .ok (.getfield 46, 3) := by decide +kernel
theorem dX7_one_128 : decode cX7_one 128 = .ok (.invokevirtual 49, 3) := by decide +kernel
theorem dX7_one_131 : decode cX7_one 131 = .ok (.istore_n 2, 1) := by decide +kernel
theorem dX7_one_132 : decode cX7_one 132 = .ok (.aload_n 0, 1) := by decide +kernel
theorem dX7_one_133 : decode cX7_one 133 = .ok (.invokevirtual 85, 3) := by decide +kernel
theorem dX7_one_136 : decode cX7_one 136 = .ok (.aload_n 0, 1) := by decide +kernel
theorem dX7_one_137 : decode cX7_one 137 = .ok (.getfield 53, 3) := by decide +kernel
theorem dX7_one_140 : decode cX7_one 140 = .ok (.iconst 4, 1) := by decide +kernel
theorem dX7_one_141 : decode cX7_one 141 = .ok (.if_icmp .eq 16, 3) := by decide +kernel
theorem dX7_one_144 : decode cX7_one 144 = .ok (.aload_n 0, 1) := by decide +kernel
theorem dX7_one_145 : decode cX7_one 145 = .ok (.bipush 45, 2) := by decide +kernel
theorem dX7_one_147 : decode cX7_one 147 = .ok (.invokevirtual 163, 3) := by decide +kernel
theorem dX7_one_150 : decode cX7_one 150 = .ok (.ifCond .ne 7, 3) := by decide +kernel
theorem dX7_one_153 : decode cX7_one 153 = .ok (.aload_n 0, 1) := by decide +kernel
theorem dX7_one_154 : decode cX7_one 154 = .ok (.invokevirtual 89, 3) := by decide +kernel
theorem dX7_one_157 : decode cX7_one 157 = .ok (.aload_n 0, 1) := by decide +kernel
theorem dX7_one_158 : decode cX7_one 158 = .ok (.invokevirtual 81, 3) := by decide +kernel
theorem dX7_one_161 : decode cX7_one 161 = .ok (.ifCond .ne 5, 3) := by decide +kernel
theorem dX7_one_164 : decode cX7_one 164 = .ok (.iconst 1, 1) := by decide +kernel
theorem dX7_one_165 : decode cX7_one 165 = .ok (.ireturn, 1) := by decide +kernel
theorem dX7_one_166 : decode cX7_one 166 = .ok (.aload_n 0, 1) := by decide +kernel
theorem dX7_one_167 : decode cX7_one 167 = .ok (.bipush 112, 2) := by decide +kernel
theorem dX7_one_169 : decode cX7_one 169 = .ok (.bipush 40, 2) := by decide +kernel
theorem dX7_one_171 : decode cX7_one 171 = .ok (.aload_n 0, 1) := by decide +kernel
theorem dX7_one_172 : decode cX7_one 172 = .ok (.getfield 211, 3) := by decide +kernel
theorem dX7_one_175 : decode cX7_one 175 = .ok (.imul, 1) := by decide +kernel
theorem dX7_one_176 : decode cX7_one 176 = .ok (.aload_n 0, 1) := by decide +kernel
theorem dX7_one_177 : decode cX7_one 177 = .ok (.getfield 217, 3) := by decide +kernel
theorem dX7_one_180 : decode cX7_one 180 = .ok (.iadd, 1) := by decide +kernel
theorem dX7_one_181 : decode cX7_one 181 = .ok (.iconst 1, 1) := by decide +kernel
theorem dX7_one_182 : decode cX7_one 182 = .ok (.isub, 1) := by decide +kernel
theorem dX7_one_183 : decode cX7_one 183 = .ok (.invokevirtual 284, 3) := by decide +kernel
theorem dX7_one_186 : decode cX7_one 186 = .ok (.aload_n 0, 1) := by decide +kernel
theorem dX7_one_187 : decode cX7_one 187 = .ok (.iload_n 2, 1) := by decide +kernel
theorem dX7_one_188 : decode cX7_one 188 = .ok (.aload_n 0, 1) := by decide +kernel
theorem dX7_one_189 : decode cX7_one 189 = .ok (.bipush 45, 2) := by decide +kernel
theorem dX7_one_191 : decode cX7_one 191 = .ok (.invokevirtual 163, 3) := by decide +kernel
theorem dX7_one_194 : decode cX7_one 194 = .ok (.ifCond .eq 7, 3) := by decide +kernel
theorem dX7_one_197 : decode cX7_one 197 = .ok (.iconst (-1), 1) := by decide +kernel
theorem dX7_one_198 : decode cX7_one 198 = .ok (.goto 7, 3) := by decide +kernel
theorem dX7_one_201 : decode cX7_one 201 = .ok (.aload_n 0, 1) := by decide +kernel
theorem dX7_one_202 : decode cX7_one 202 = .ok (.getfield 71, 3) := by decide +kernel
theorem dX7_one_205 : decode cX7_one 205 = .ok (.invokevirtual 284, 3) := by decide +kernel
theorem dX7_one_208 : decode cX7_one 208 = .ok (.aload_n 0, 1) := by decide +kernel
theorem dX7_one_209 : decode cX7_one 209 = .ok (.invokevirtual 85, 3) := by decide +kernel
theorem dX7_one_212 : decode cX7_one 212 = .ok (.iconst 0, 1) := by decide +kernel
theorem dX7_one_213 : decode cX7_one 213 = .ok (.ireturn, 1) := by decide +kernel
theorem dX7_readPath_0 : decode cX7_readPath 0 = .ok (.aload_n 0, 1) := by decide +kernel
theorem dX7_readPath_1 : decode cX7_readPath 1 = .ok (.getfield 53, 3) := by decide +kernel
theorem dX7_readPath_4 : decode cX7_readPath 4 = .ok (.iconst 2, 1) := by decide +kernel
theorem dX7_readPath_5 : decode cX7_readPath 5 = .ok (.if_icmp .ne 12, 3) := by decide +kernel
end
section
theorem dX7_readPath_8 : decode cX7_readPath 8 = .ok (.aload_n 0, 1) := by decide +kernel
theorem dX7_readPath_9 : decode cX7_readPath 9 = .ok (.getfield 217, 3) := by decide +kernel
theorem dX7_readPath_12 : decode cX7_readPath 12 = .ok (.bipush 40, 2) := by decide +kernel
theorem dX7_readPath_14 : decode cX7_readPath 14 = .ok (.if_icmp .ne 7, 3) := by decide +kernel
theorem dX7_readPath_17 : decode cX7_readPath 17 = .ok (.aload_n 0, 1) := by decide +kernel
theorem dX7_readPath_18 : decode cX7_readPath 18 = .ok (.invokevirtual 89, 3) := by decide +kernel
theorem dX7_readPath_21 : decode cX7_readPath 21 = .ok (.aload_n 0, 1) := by decide +kernel
theorem dX7_readPath_22 : decode cX7_readPath 22 = .ok (.invokevirtual 81, 3) := by decide +kernel
theorem dX7_readPath_25 : decode cX7_readPath 25 = .ok (.ifCond .ne 4, 3) := by decide +kernel
theorem dX7_readPath_28 : decode cX7_readPath 28 = .ok (.return_, 1) := by decide +kernel
theorem dX7_readPath_29 : decode cX7_readPath 29 = .ok (.bipush 40, 2) := by decide +kernel
theorem dX7_readPath_31 : decode cX7_readPath 31 = .ok (.aload_n 0, 1) := by decide +kernel
theorem dX7_readPath_32 : decode cX7_readPath 32 = .ok (.getfield 211, 3) := by decide +kernel
theorem dX7_readPath_35 : decode cX7_readPath 35 = .ok (.imul, 1) := by decide +kernel
theorem dX7_readPath_36 : decode cX7_readPath 36 = .ok (.aload_n 0, 1) := by decide +kernel
theorem dX7_readPath_37 : decode cX7_readPath 37 = .ok (.getfield 217, 3) := by decide +kernel
theorem dX7_readPath_40 : decode cX7_readPath 40 = .ok (.iadd, 1) := by decide +kernel
theorem dX7_readPath_41 : decode cX7_readPath 41 = .ok (.istore_n 2, 1) := by decide +kernel
theorem dX7_readPath_42 : decode cX7_readPath 42 = .ok (.aload_n 0, 1) := by decide +kernel
theorem dX7_readPath_43 : decode cX7_readPath 43 = .ok (.getfield 287, 3) := by decide +kernel
theorem dX7_readPath_46 : decode cX7_readPath 46 = .ok (.iload_n 2, 1) := by decide +kernel
theorem dX7_readPath_47 : decode cX7_readPath 47 = .ok (.sipush 160, 3) := by decide +kernel
theorem dX7_readPath_50 : decode cX7_readPath 50 = .ok (.aload_n 0, 1) := by decide +kernel
theorem dX7_readPath_51 : decode cX7_readPath 51 = .ok (.getfield 211, 3) := by decide +kernel
theorem dX7_readPath_54 : decode cX7_readPath 54 = .ok (.imul, 1) := by decide +kernel
theorem dX7_readPath_55 : decode cX7_readPath 55 = .ok (.aload_n 0, 1) := by decide +kernel
theorem dX7_readPath_56 : decode cX7_readPath 56 = .ok (.getfield 220, 3) := by decide +kernel
theorem dX7_readPath_59 : decode cX7_readPath 59 = .ok (.iadd, 1) := by decide +kernel
theorem dX7_readPath_60 : decode cX7_readPath 60 = .ok (.iastore, 1) := by decide +kernel
theorem dX7_readPath_61 : decode cX7_readPath 61 = .ok (.aload_n 0, 1) := by decide +kernel
theorem dX7_readPath_62 : decode cX7_readPath 62 = .ok (.dup, 1) := by decide +kernel
theorem dX7_readPath_63 : decode cX7_readPath 63 = .ok (.getfield 217, 3) := by decide +kernel
theorem dX7_readPath_66 : decode cX7_readPath 66 = .ok (.iconst 1, 1) := by decide +kernel
theorem dX7_readPath_67 : decode cX7_readPath 67 = .ok (.iadd, 1) := by decide +kernel
theorem dX7_readPath_68 : decode cX7_readPath 68 = .ok (.putfield 217, 3) := by decide +kernel
theorem dX7_readPath_71 : decode cX7_readPath 71 = .ok (.iload_n 1, 1) := by decide +kernel
theorem dX7_readPath_72 : decode cX7_readPath 72 = .ok (.istore_n 3, 1) := by decide +kernel
theorem dX7_readPath_73 : decode cX7_readPath 73 = .ok (.iconst 0, 1) := by decide +kernel
theorem dX7_readPath_74 : decode cX7_readPath 74 = .ok (.istore 4, 2) := by decide +kernel
theorem dX7_readPath_76 : decode cX7_readPath 76 = .ok (.iconst 1, 1) := by decide +kernel
theorem dX7_readPath_77 : decode cX7_readPath 77 = .ok (.istore 5, 2) := by decide +kernel
theorem dX7_readPath_79 : decode cX7_readPath 79 = .ok (.iload 5, 2) := by decide +kernel
theorem dX7_readPath_81 : decode cX7_readPath 81 = .ok (.ifCond .eq 162, 3) := by decide +kernel
theorem dX7_readPath_84 : decode cX7_readPath 84 = .ok (.aload_n 0, 1) := by decide +kernel
theorem dX7_readPath_85 : decode cX7_readPath 85 = .ok (.invokevirtual 81, 3) := by decide +kernel
theorem dX7_readPath_88 : decode cX7_readPath 88 = .ok (.ifCond .eq 155, 3) := by decide +kernel
theorem dX7_readPath_91 : decode cX7_readPath 91 = .ok (.aload_n 0, 1) := by decide +kernel
theorem dX7_readPath_92 : decode cX7_readPath 92 = .ok (.getfield 53, 3) := by decide +kernel
theorem dX7_readPath_95 : decode cX7_readPath 95 = .ok (.iconst 2, 1) := by decide +kernel
theorem dX7_readPath_96 : decode cX7_readPath 96 = .ok (.if_icmp .ne 9, 3) := by decide +kernel
theorem dX7_readPath_99 : decode cX7_readPath 99 = .ok (.iload 4, 2) := by decide +kernel
theorem dX7_readPath_101 : decode cX7_readPath 101 = .ok (.iconst 4, 1) := by decide +kernel
theorem dX7_readPath_102 : decode cX7_readPath 102 = .ok (.if_icmp .ne 7, 3) := by decide +kernel
theorem dX7_readPath_105 : decode cX7_readPath 105 = .ok (.aload_n 0, 1) := by decide +kernel
theorem dX7_readPath_106 : decode cX7_readPath 106 = .ok (.invokevirtual 89, 3) := by decide +kernel
theorem dX7_readPath_109 : decode cX7_readPath 109 = .ok (.aload_n 0, 1) := by decide +kernel
theorem dX7_readPath_110 : decode cX7_readPath 110 = .ok (.invokevirtual 81, 3) := by decide +kernel
theorem dX7_readPath_113 : decode cX7_readPath 113 = .ok (.ifCond .ne 4, 3) := by decide +kernel
theorem dX7_readPath_116 : decode cX7_readPath 116 = .ok (.return_, 1) := by decide +kernel
theorem dX7_readPath_117 : decode cX7_readPath 117 = .ok (.aload_n 0, 1) := by decide +kernel
theorem dX7_readPath_118 : decode cX7_readPath 118 = .ok (.getfield 46, 3) := by decide +kernel
theorem dX7_readPath_121 : decode cX7_readPath 121 = .ok (.istore 6, 2) := by decide +kernel
theorem dX7_readPath_123 : decode cX7_readPath 123 = .ok (.aload_n 0, 1) := by decide +kernel
theorem dX7_readPath_124 : decode cX7_readPath 124 = .ok (.iload_n 3, 1) := by decide +kernel
theorem dX7_readPath_125 : decode cX7_readPath 125 = .ok (.aload_n 0, 1) := by decide +kernel
theorem dX7_readPath_126 : decode cX7_readPath 126 = .ok (.getfield 60, 3) := by decide +kernel
theorem dX7_readPath_129 : decode cX7_readPath 129 = .ok (.invokevirtual 172, 3) := by decide +kernel
theorem dX7_readPath_132 : decode cX7_readPath 132 = .ok (.istore 7, 2) := by decide +kernel
theorem dX7_readPath_134 : decode cX7_readPath 134 = .ok (.aload_n 0, 1) := by decide +kernel
theorem dX7_readPath_135 : decode cX7_readPath 135 = .ok (.invokevirtual 85, 3) := by decide +kernel
theorem dX7_readPath_138 : decode cX7_readPath 138 = .ok (.aload_n 0, 1) := by decide +kernel
theorem dX7_readPath_139 : decode cX7_readPath 139 = .ok (.bipush 46, 2) := by decide +kernel
theorem dX7_readPath_141 : decode cX7_readPath 141 = .ok (.invokevirtual 163, 3) := by decide +kernel
theorem dX7_readPath_144 : decode cX7_readPath 144 = .ok (.istore 5, 2) := by decide +kernel
theorem dX7_readPath_146 : decode cX7_readPath 146 = .ok (.iload 7, 2) := by decide +kernel
theorem dX7_readPath_148 : decode cX7_readPath 148 = .ok (.ifCond .lt 23, 3) := by decide +kernel
theorem dX7_readPath_151 : decode cX7_readPath 151 = .ok (.aload_n 0, 1) := by decide +kernel
theorem dX7_readPath_152 : decode cX7_readPath 152 = .ok (.getfield 175, 3) := by decide +kernel
theorem dX7_readPath_155 : decode cX7_readPath 155 = .ok (.iload 7, 2) := by decide +kernel
theorem dX7_readPath_157 : decode cX7_readPath 157 = .ok (.iaload, 1) := by decide +kernel
theorem dX7_readPath_158 : decode cX7_readPath 158 = .ok (.ifCond .lt 7, 3) := by decide +kernel
theorem dX7_readPath_161 : decode cX7_readPath 161 = .ok (.iconst 1, 1) := by decide +kernel
theorem dX7_readPath_162 : decode cX7_readPath 162 = .ok (.goto 4, 3) := by decide +kernel
theorem dX7_readPath_165 : decode cX7_readPath 165 = .ok (.iconst 0, 1) := by decide +kernel
theorem dX7_readPath_166 : decode cX7_readPath 166 = .ok (.iload 5, 2) := by decide +kernel
theorem dX7_readPath_168 : decode cX7_readPath 168 = .ok (.if_icmp .eq 10, 3) := by decide +kernel
theorem dX7_readPath_171 : decode cX7_readPath 171 = .ok (.aload_n 0, 1) := by decide +kernel
theorem dX7_readPath_172 : decode cX7_readPath 172 = .ok (.iconst 4, 1) := by decide +kernel
theorem dX7_readPath_173 : decode cX7_readPath 173 = .ok (.iload 6, 2) := by decide +kernel
theorem dX7_readPath_175 : decode cX7_readPath 175 = .ok (.invokevirtual 77, 3) := by decide +kernel
theorem dX7_readPath_178 : decode cX7_readPath 178 = .ok (.aload_n 0, 1) := by decide +kernel
theorem dX7_readPath_179 : decode cX7_readPath 179 = .ok (.invokevirtual 81, 3) := by decide +kernel
theorem dX7_readPath_182 : decode cX7_readPath 182 = .ok (.ifCond .ne 4, 3) := by decide +kernel
theorem dX7_readPath_185 : decode cX7_readPath 185 = .ok (.return_, 1) := by decide +kernel
theorem dX7_readPath_186 : decode cX7_readPath 186 = .ok (.aload_n 0, 1) := by decide +kernel
theorem dX7_readPath_187 : decode cX7_readPath 187 = .ok (.getfield 290, 3) := by decide +kernel
theorem dX7_readPath_190 : decode cX7_readPath 190 = .ok (.sipush 160, 3) := by decide +kernel
theorem dX7_readPath_193 : decode cX7_readPath 193 = .ok (.aload_n 0, 1) := by decide +kernel
theorem dX7_readPath_194 : decode cX7_readPath 194 = .ok (.getfield 211, 3) := by decide +kernel
theorem dX7_readPath_197 : decode cX7_readPath 197 = .ok (.imul, 1) := by decide +kernel
theorem dX7_readPath_198 : decode cX7_readPath 198 = .ok (.aload_n 0, 1) := by decide +kernel
theorem dX7_readPath_199 : decode cX7_readPath 199 = .ok (.getfield 220, 3) := by decide +kernel
theorem dX7_readPath_202 : decode cX7_readPath 202 = .ok (.iadd, 1) := by decide +kernel
theorem dX7_readPath_203 : decode cX7_readPath 203 = .ok (.iload 7, 2) := by decide +kernel
theorem dX7_readPath_205 : decode cX7_readPath 205 = .ok (.iconst 5, 1) := by decide +kernel
theorem dX7_readPath_206 : decode cX7_readPath 206 = .ok (.iload_n 3, 1) := by decide +kernel
theorem dX7_readPath_207 : decode cX7_readPath 207 = .ok (.imul, 1) := by decide +kernel
theorem dX7_readPath_208 : decode cX7_readPath 208 = .ok (.isub, 1) := by decide +kernel
theorem dX7_readPath_209 : decode cX7_readPath 209 = .ok (.iastore, 1) := by decide +kernel
theorem dX7_readPath_210 : decode cX7_readPath 210 = .ok (.aload_n 0, 1) := by decide +kernel
theorem dX7_readPath_211 : decode cX7_readPath 211 = .ok (.dup, 1) := by decide +kernel
theorem dX7_readPath_212 : decode cX7_readPath 212 = .ok (.getfield 220, 3) := by decide +kernel
theorem dX7_readPath_215 : decode cX7_readPath 215 = .ok (.iconst 1, 1) := by decide +kernel
theorem dX7_readPath_216 : decode cX7_readPath 216 = .ok (.iadd, 1) := by decide +kernel
theorem dX7_readPath_217 : decode cX7_readPath 217 = .ok (.putfield 220, 3) := by decide +kernel
theorem dX7_readPath_220 : decode cX7_readPath 220 = .ok (.iinc 4 1, 3) := by decide +kernel
theorem dX7_readPath_223 : decode cX7_readPath 223 = .ok (.iload 5, 2) := by decide +kernel
theorem dX7_readPath_225 : decode cX7_readPath 225 = .ok (.ifCond .eq 15, 3) := by decide +kernel
theorem dX7_readPath_228 : decode cX7_readPath 228 = .ok (.aload_n 0, 1) := by decide +kernel
theorem dX7_readPath_229 : decode cX7_readPath 229 = .ok (.getfield 175, 3) := by decide +kernel
theorem dX7_readPath_232 : decode cX7_readPath 232 = .ok (.iload 7, 2) := by decide +kernel
theorem dX7_readPath_234 : decode cX7_readPath 234 = .ok (.iaload, 1) := by decide +kernel
theorem dX7_readPath_235 : decode cX7_readPath 235 = .ok (.istore_n 3, 1) := by decide +kernel
theorem dX7_readPath_236 : decode cX7_readPath 236 = .ok (.aload_n 0, 1) := by decide +kernel
theorem dX7_readPath_237 : decode cX7_readPath 237 = .ok (.invokevirtual 85, 3) := by decide +kernel
theorem dX7_readPath_240 : decode cX7_readPath 240 = .ok (.goto (-161), 3) := by decide +kernel
theorem dX7_readPath_243 : decode cX7_readPath 243 = .ok (.aload_n 0, 1) := by decide +kernel
theorem dX7_readPath_244 : decode cX7_readPath 244 = .ok (.getfield 293, 3) := by decide +kernel
theorem dX7_readPath_247 : decode cX7_readPath 247 = .ok (.iload_n 2, 1) := by decide +kernel
theorem dX7_readPath_248 : decode cX7_readPath 248 = .ok (.sipush 160, 3) := by decide +kernel
theorem dX7_readPath_251 : decode cX7_readPath 251 = .ok (.aload_n 0, 1) := by decide +kernel
theorem dX7_readPath_252 : decode cX7_readPath 252 = .ok (.getfield 211, 3) := by decide +kernel
theorem dX7_readPath_255 : decode cX7_readPath 255 = .ok (.imul, 1) := by decide +kernel
theorem dX7_readPath_256 : decode cX7_readPath 256 = .ok (.aload_n 0, 1) := by decide +kernel
theorem dX7_readPath_257 : decode cX7_readPath 257 = .ok (.getfield 220, 3) := by decide +kernel
theorem dX7_readPath_260 : decode cX7_readPath 260 = .ok (.iadd, 1) := by decide +kernel
theorem dX7_readPath_261 : decode cX7_readPath 261 = .ok (.iastore, 1) := by decide +kernel
theorem dX7_readPath_262 : decode cX7_readPath 262 = .ok (.return_, 1) := by decide +kernel
theorem dX7_behind_0 : decode cX7_behind 0 = .ok (.aload_n 0, 1) := by decide +kernel
theorem dX7_behind_1 : decode cX7_behind 1 = .ok (.ldc2_w 35, 3) := by decide +kernel
theorem dX7_behind_4 : decode cX7_behind 4 = .ok (.invokevirtual 125, 3) := by decide +kernel
theorem dX7_behind_7 : decode cX7_behind 7 = .ok (.ifCond .eq 7, 3) := by decide +kernel
theorem dX7_behind_10 : decode cX7_behind 10 = .ok (.iconst 2, 1) := by decide +kernel
theorem dX7_behind_11 : decode cX7_behind 11 = .ok (.goto 18, 3) := by decide +kernel
theorem dX7_behind_14 : decode cX7_behind 14 = .ok (.aload_n 0, 1) := by decide +kernel
theorem dX7_behind_15 : decode cX7_behind 15 = .ok (.ldc2_w 37, 3) := by decide +kernel
theorem dX7_behind_18 : decode cX7_behind 18 = .ok (.invokevirtual 125, 3) := by decide +kernel
theorem dX7_behind_21 : decode cX7_behind 21 = .ok (.ifCond .eq 7, 3) := by decide +kernel
theorem dX7_behind_24 : decode cX7_behind 24 = .ok (.iconst 1, 1) := by decide +kernel
theorem dX7_behind_25 : decode cX7_behind 25 = .ok (.goto 4, 3) := by decide +kernel
theorem dX7_behind_28 : decode cX7_behind 28 = .ok (.iconst 0, 1) := by decide +kernel
theorem dX7_behind_29 : decode cX7_behind 29 = .ok (.istore_n 1, 1) := by decide +kernel
theorem dX7_behind_30 : decode cX7_behind 30 = .ok (.aload_n 0, 1) := by decide +kernel
theorem dX7_behind_31 : decode cX7_behind 31 = .ok (.getfield 263, 3) := by decide +kernel
theorem dX7_behind_34 : decode cX7_behind 34 = .ok (.aload_n 0, 1) := by decide +kernel
theorem dX7_behind_35 : decode cX7_behind 35 = .ok (.getfield 266, 3) := by decide +kernel
theorem dX7_behind_38 : decode cX7_behind 38 = .ok (.iconst 1, 1) := by decide +kernel
theorem dX7_behind_39 : decode cX7_behind 39 = .ok (.isub, 1) := by decide +kernel
theorem dX7_behind_40 : decode cX7_behind 40 = .ok (.iaload, 1) := by decide +kernel
theorem dX7_behind_41 : decode cX7_behind 41 = .ok (.iconst 3, 1) := by decide +kernel
theorem dX7_behind_42 : decode cX7_behind 42 = .ok (.if_icmp .gt 97, 3) := by decide +kernel
theorem dX7_behind_45 : decode cX7_behind 45 = .ok (.aload_n 0, 1) := by decide +kernel
theorem dX7_behind_46 : decode cX7_behind 46 = .ok (.getfield 263, 3) := by decide +kernel
theorem dX7_behind_49 : decode cX7_behind 49 = .ok (.aload_n 0, 1) := by decide +kernel
theorem dX7_behind_50 : decode cX7_behind 50 = .ok (.getfield 266, 3) := by decide +kernel
theorem dX7_behind_53 : decode cX7_behind 53 = .ok (.iconst 1, 1) := by decide +kernel
theorem dX7_behind_54 : decode cX7_behind 54 = .ok (.isub, 1) := by decide +kernel
theorem dX7_behind_55 : decode cX7_behind 55 = .ok (.iaload, 1) := by decide +kernel
theorem dX7_behind_56 : decode cX7_behind 56 = .ok (.iload_n 1, 1) := by decide +kernel
theorem dX7_behind_57 : decode cX7_behind 57 = .ok (.if_icmp .lt 82, 3) := by decide +kernel
theorem dX7_behind_60 : decode cX7_behind 60 = .ok (.aload_n 0, 1) := by decide +kernel
theorem dX7_behind_61 : decode cX7_behind 61 = .ok (.dup, 1) := by decide +kernel
theorem dX7_behind_62 : decode cX7_behind 62 = .ok (.getfield 266, 3) := by decide +kernel
theorem dX7_behind_65 : decode cX7_behind 65 = .ok (.iconst 1, 1) := by decide +kernel
theorem dX7_behind_66 : decode cX7_behind 66 = .ok (.isub, 1) := by decide +kernel
theorem dX7_behind_67 : decode cX7_behind 67 = .ok (.putfield 266, 3) := by decide +kernel
theorem dX7_behind_70 : decode cX7_behind 70 = .ok (.aload_n 0, 1) := by decide +kernel
theorem dX7_behind_71 : decode cX7_behind 71 = .ok (.getfield 263, 3) := by decide +kernel
theorem dX7_behind_74 : decode cX7_behind 74 = .ok (.aload_n 0, 1) := by decide +kernel
theorem dX7_behind_75 : decode cX7_behind 75 = .ok (.getfield 266, 3) := by decide +kernel
theorem dX7_behind_78 : decode cX7_behind 78 = .ok (.iaload, 1) := by decide +kernel
theorem dX7_behind_79 : decode cX7_behind 79 = .ok (.iconst 3, 1) := by decide +kernel
theorem dX7_behind_80 : decode cX7_behind 80 = .ok (.if_icmp .ne 13, 3) := by decide +kernel
theorem dX7_behind_83 : decode cX7_behind 83 = .ok (.aload_n 0, 1) := by decide +kernel
theorem dX7_behind_84 : decode cX7_behind 84 = .ok (.dup, 1) := by decide +kernel
theorem dX7_behind_85 : decode cX7_behind 85 = .ok (.getfield 269, 3) := by decide +kernel
theorem dX7_behind_88 : decode cX7_behind 88 = .ok (.iconst 1, 1) := by decide +kernel
theorem dX7_behind_89 : decode cX7_behind 89 = .ok (.isub, 1) := by decide +kernel
theorem dX7_behind_90 : decode cX7_behind 90 = .ok (.putfield 269, 3) := by decide +kernel
theorem dX7_behind_93 : decode cX7_behind 93 = .ok (.aload_n 0, 1) := by decide +kernel
theorem dX7_behind_94 : decode cX7_behind 94 = .ok (.aload_n 0, 1) := by decide +kernel
theorem dX7_behind_95 : decode cX7_behind 95 = .ok (.getfield 263, 3) := by decide +kernel
theorem dX7_behind_98 : decode cX7_behind 98 = .ok (.aload_n 0, 1) := by decide +kernel
theorem dX7_behind_99 : decode cX7_behind 99 = .ok (.getfield 266, 3) := by decide +kernel
theorem dX7_behind_102 : decode cX7_behind 102 = .ok (.iaload, 1) := by decide +kernel
theorem dX7_behind_103 : decode cX7_behind 103 = .ok (.iconst 3, 1) := by decide +kernel
theorem dX7_behind_104 : decode cX7_behind 104 = .ok (.if_icmp .ne 8, 3) := by decide +kernel
theorem dX7_behind_107 : decode cX7_behind 107 = .ok (.bipush 126, 2) := by decide +kernel
theorem dX7_behind_109 : decode cX7_behind 109 = .ok (.goto 23, 3) := by decide +kernel
theorem dX7_behind_112 : decode cX7_behind 112 = .ok (.aload_n 0, 1) := by decide +kernel
theorem dX7_behind_113 : decode cX7_behind 113 = .ok (.getfield 263, 3) := by decide +kernel
theorem dX7_behind_116 : decode cX7_behind 116 = .ok (.aload_n 0, 1) := by decide +kernel
theorem dX7_behind_117 : decode cX7_behind 117 = .ok (.getfield 266, 3) := by decide +kernel
theorem dX7_behind_120 : decode cX7_behind 120 = .ok (.iaload, 1) := by decide +kernel
theorem dX7_behind_121 : decode cX7_behind 121 = .ok (.iconst 2, 1) := by decide +kernel
theorem dX7_behind_122 : decode cX7_behind 122 = .ok (.if_icmp .ne 8, 3) := by decide +kernel
theorem dX7_behind_125 : decode cX7_behind 125 = .ok (.bipush 38, 2) := by decide +kernel
theorem dX7_behind_127 : decode cX7_behind 127 = .ok (.goto 5, 3) := by decide +kernel
theorem dX7_behind_130 : decode cX7_behind 130 = .ok (.bipush 124, 2) := by decide +kernel
theorem dX7_behind_132 : decode cX7_behind 132 = .ok (.iconst 0, 1) := by decide +kernel
theorem dX7_behind_133 : decode cX7_behind 133 = .ok (.invokevirtual 284, 3) := by decide +kernel
theorem dX7_behind_136 : decode cX7_behind 136 = .ok (.goto (-106), 3) := by decide +kernel
theorem dX7_behind_139 : decode cX7_behind 139 = .ok (.iload_n 1, 1) := by decide +kernel
theorem dX7_behind_140 : decode cX7_behind 140 = .ok (.ifCond .le 14, 3) := by decide +kernel
theorem dX7_behind_143 : decode cX7_behind 143 = .ok (.aload_n 0, 1) := by decide +kernel
theorem dX7_behind_144 : decode cX7_behind 144 = .ok (.iload_n 1, 1) := by decide +kernel
theorem dX7_behind_145 : decode cX7_behind 145 = .ok (.invokevirtual 272, 3) := by decide +kernel
theorem dX7_behind_148 : decode cX7_behind 148 = .ok (.aload_n 0, 1) := by decide +kernel
theorem dX7_behind_149 : decode cX7_behind 149 = .ok (.invokevirtual 85, 3) := by decide +kernel
theorem dX7_behind_152 : decode cX7_behind 152 = .ok (.iconst 1, 1) := by decide +kernel
theorem dX7_behind_153 : decode cX7_behind 153 = .ok (.ireturn, 1) := by decide +kernel
theorem dX7_behind_154 : decode cX7_behind 154 = .ok (.aload_n 0, 1) := by decide +kernel
theorem dX7_behind_155 : decode cX7_behind 155 = .ok (.dup, 1) := by decide +kernel
theorem dX7_behind_156 : decode cX7_behind 156 = .ok (.getfield 266, 3) := by decide +kernel
theorem dX7_behind_159 : decode cX7_behind 159 = .ok (.iconst 1, 1) := by decide +kernel
theorem dX7_behind_160 : decode cX7_behind 160 = .ok (.isub, 1) := by decide +kernel
theorem dX7_behind_161 : decode cX7_behind 161 = .ok (.putfield 266, 3) := by decide +kernel
theorem dX7_behind_164 : decode cX7_behind 164 = .ok (.aload_n 0, 1) := by decide +kernel
theorem dX7_behind_165 : decode cX7_behind 165 = .ok (.getfield 263, 3) := by decide +kernel
theorem dX7_behind_168 : decode cX7_behind 168 = .ok (.aload_n 0, 1) := by decide +kernel
theorem dX7_behind_169 : decode cX7_behind 169 = .ok (.getfield 266, 3) := by decide +kernel
theorem dX7_behind_172 : decode cX7_behind 172 = .ok (.iaload, 1) := by decide +kernel
theorem dX7_behind_173 : decode cX7_behind 173 = .ok (.iconst 4, 1) := by decide +kernel
theorem dX7_behind_174 : decode cX7_behind 174 = .ok (.if_icmp .ne 23, 3) := by decide +kernel
theorem dX7_behind_177 : decode cX7_behind 177 = .ok (.aload_n 0, 1) := by decide +kernel
theorem dX7_behind_178 : decode cX7_behind 178 = .ok (.dup, 1) := by decide +kernel
theorem dX7_behind_179 : decode cX7_behind 179 = .ok (.getfield 269, 3) := by decide +kernel
theorem dX7_behind_182 : decode cX7_behind 182 = .ok (.iconst 1, 1) := by decide +kernel
theorem dX7_behind_183 : decode cX7_behind 183 = .ok (.isub, 1) := by decide +kernel
theorem dX7_behind_184 : decode cX7_behind 184 = .ok (.putfield 269, 3) := by decide +kernel
theorem dX7_behind_187 : decode cX7_behind 187 = .ok (.aload_n 0, 1) := by decide +kernel
theorem dX7_behind_188 : decode cX7_behind 188 = .ok (.aload_n 0, 1) := by decide +kernel
theorem dX7_behind_189 : decode cX7_behind 189 = .ok (.bipush 41, 2) := by decide +kernel
theorem dX7_behind_191 : decode cX7_behind 191 = .ok (.invokevirtual 163, 3) := by decide +kernel
theorem dX7_behind_194 : decode cX7_behind 194 = .ok (.invokevirtual 166, 3) := by decide +kernel
theorem dX7_behind_197 : decode cX7_behind 197 = .ok (.iconst 0, 1) := by decide +kernel
theorem dX7_behind_198 : decode cX7_behind 198 = .ok (.ireturn, 1) := by decide +kernel
theorem dX7_along_0 : decode cX7_along 0 = .ok (.iload_n 2, 1) := by decide +kernel
theorem dX7_along_1 : decode cX7_along 1 = .ok (.istore_n 3, 1) := by decide +kernel
theorem dX7_along_2 : decode cX7_along 2 = .ok (.aload_n 0, 1) := by decide +kernel
theorem dX7_along_3 : decode cX7_along 3 = .ok (.getfield 287, 3) := by decide +kernel
theorem dX7_along_6 : decode cX7_along 6 = .ok (.iload_n 1, 1) := by decide +kernel
theorem dX7_along_7 : decode cX7_along 7 = .ok (.iaload, 1) := by decide +kernel
theorem dX7_along_8 : decode cX7_along 8 = .ok (.istore 4, 2) := by decide +kernel
theorem dX7_along_10 : decode cX7_along 10 = .ok (.iload 4, 2) := by decide +kernel
theorem dX7_along_12 : decode cX7_along 12 = .ok (.aload_n 0, 1) := by decide +kernel
theorem dX7_along_13 : decode cX7_along 13 = .ok (.getfield 293, 3) := by decide +kernel
theorem dX7_along_16 : decode cX7_along 16 = .ok (.iload_n 1, 1) := by decide +kernel
theorem dX7_along_17 : decode cX7_along 17 = .ok (.iaload, 1) := by decide +kernel
theorem dX7_along_18 : decode cX7_along 18 = .ok (.if_icmp .ge 26, 3) := by decide +kernel
theorem dX7_along_21 : decode cX7_along 21 = .ok (.iload_n 3, 1) := by decide +kernel
theorem dX7_along_22 : decode cX7_along 22 = .ok (.ifCond .lt 22, 3) := by decide +kernel
theorem dX7_along_25 : decode cX7_along 25 = .ok (.aload_n 0, 1) := by decide +kernel
theorem dX7_along_26 : decode cX7_along 26 = .ok (.iload_n 3, 1) := by decide +kernel
theorem dX7_along_27 : decode cX7_along 27 = .ok (.aload_n 0, 1) := by decide +kernel
theorem dX7_along_28 : decode cX7_along 28 = .ok (.getfield 290, 3) := by decide +kernel
theorem dX7_along_31 : decode cX7_along 31 = .ok (.iload 4, 2) := by decide +kernel
theorem dX7_along_33 : decode cX7_along 33 = .ok (.iaload, 1) := by decide +kernel
theorem dX7_along_34 : decode cX7_along 34 = .ok (.invokevirtual 207, 3) := by decide +kernel
theorem dX7_along_37 : decode cX7_along 37 = .ok (.istore_n 3, 1) := by decide +kernel
theorem dX7_along_38 : decode cX7_along 38 = .ok (.iinc 4 1, 3) := by decide +kernel
theorem dX7_along_41 : decode cX7_along 41 = .ok (.goto (-31), 3) := by decide +kernel
theorem dX7_along_44 : decode cX7_along 44 = .ok (.iload_n 3, 1) := by decide +kernel
theorem dX7_along_45 : decode cX7_along 45 = .ok (.ireturn, 1) := by decide +kernel
theorem dX7_related_0 : decode cX7_related 0 = .ok (.iload_n 0, 1) := by decide +kernel
theorem dX7_related_1 : decode cX7_related 1 = .ok (.bipush 61, 2) := by decide +kernel
theorem dX7_related_3 : decode cX7_related 3 = .ok (.if_icmp .ne 14, 3) := by decide +kernel
theorem dX7_related_6 : decode cX7_related 6 = .ok (.iload_n 1, 1) := by decide +kernel
theorem dX7_related_7 : decode cX7_related 7 = .ok (.iload_n 2, 1) := by decide +kernel
theorem dX7_related_8 : decode cX7_related 8 = .ok (.if_icmp .ne 7, 3) := by decide +kernel
theorem dX7_related_11 : decode cX7_related 11 = .ok (.iconst 1, 1) := by decide +kernel
theorem dX7_related_12 : decode cX7_related 12 = .ok (.goto 4, 3) := by decide +kernel
theorem dX7_related_15 : decode cX7_related 15 = .ok (.iconst 0, 1) := by decide +kernel
theorem dX7_related_16 : decode cX7_related 16 = .ok (.ireturn, 1) := by decide +kernel
theorem dX7_related_17 : decode cX7_related 17 = .ok (.iload_n 1, 1) := by decide +kernel
theorem dX7_related_18 : decode cX7_related 18 = .ok (.ifCond .lt 30, 3) := by decide +kernel
theorem dX7_related_21 : decode cX7_related 21 = .ok (.iload_n 2, 1) := by decide +kernel
theorem dX7_related_22 : decode cX7_related 22 = .ok (.ifCond .lt 26, 3) := by decide +kernel
theorem dX7_related_25 : decode cX7_related 25 = .ok (.iload_n 0, 1) := by decide +kernel
theorem dX7_related_26 : decode cX7_related 26 = .ok (.bipush 60, 2) := by decide +kernel
theorem dX7_related_28 : decode cX7_related 28 = .ok (.if_icmp .ne 11, 3) := by decide +kernel
theorem dX7_related_31 : decode cX7_related 31 = .ok (.iload_n 1, 1) := by decide +kernel
theorem dX7_related_32 : decode cX7_related 32 = .ok (.iload_n 2, 1) := by decide +kernel
theorem dX7_related_33 : decode cX7_related 33 = .ok (.if_icmp .ge 15, 3) := by decide +kernel
theorem dX7_related_36 : decode cX7_related 36 = .ok (.goto 8, 3) := by decide +kernel
theorem dX7_related_39 : decode cX7_related 39 = .ok (.iload_n 1, 1) := by decide +kernel
theorem dX7_related_40 : decode cX7_related 40 = .ok (.iload_n 2, 1) := by decide +kernel
theorem dX7_related_41 : decode cX7_related 41 = .ok (.if_icmp .le 7, 3) := by decide +kernel
theorem dX7_related_44 : decode cX7_related 44 = .ok (.iconst 1, 1) := by decide +kernel
theorem dX7_related_45 : decode cX7_related 45 = .ok (.goto 4, 3) := by decide +kernel
theorem dX7_related_48 : decode cX7_related 48 = .ok (.iconst 0, 1) := by decide +kernel
theorem dX7_related_49 : decode cX7_related 49 = .ok (.ireturn, 1) := by decide +kernel
theorem dX7_holdsFor_0 : decode cX7_holdsFor 0 = .ok (.iconst 0, 1) := by decide +kernel
theorem dX7_holdsFor_1 : decode cX7_holdsFor 1 = .ok (.istore_n 3, 1) := by decide +kernel
theorem dX7_holdsFor_2 : decode cX7_holdsFor 2 = .ok (.iconst (-1), 1) := by decide +kernel
theorem dX7_holdsFor_3 : decode cX7_holdsFor 3 = .ok (.istore 4, 2) := by decide +kernel
theorem dX7_holdsFor_5 : decode cX7_holdsFor 5 = .ok (.sipush 600, 3) := by decide +kernel
theorem dX7_holdsFor_8 : decode cX7_holdsFor 8 = .ok (.aload_n 0, 1) := by decide +kernel
theorem dX7_holdsFor_9 : decode cX7_holdsFor 9 = .ok (.getfield 141, 3) := by decide +kernel
theorem dX7_holdsFor_12 : decode cX7_holdsFor 12 = .ok (.imul, 1) := by decide +kernel
theorem dX7_holdsFor_13 : decode cX7_holdsFor 13 = .ok (.aload_n 0, 1) := by decide +kernel
theorem dX7_holdsFor_14 : decode cX7_holdsFor 14 = .ok (.getfield 245, 3) := by decide +kernel
theorem dX7_holdsFor_17 : decode cX7_holdsFor 17 = .ok (.iload_n 1, 1) := by decide +kernel
theorem dX7_holdsFor_18 : decode cX7_holdsFor 18 = .ok (.iaload, 1) := by decide +kernel
theorem dX7_holdsFor_19 : decode cX7_holdsFor 19 = .ok (.iadd, 1) := by decide +kernel
theorem dX7_holdsFor_20 : decode cX7_holdsFor 20 = .ok (.istore 5, 2) := by decide +kernel
theorem dX7_holdsFor_22 : decode cX7_holdsFor 22 = .ok (.iload 5, 2) := by decide +kernel
theorem dX7_holdsFor_24 : decode cX7_holdsFor 24 = .ok (.sipush 600, 3) := by decide +kernel
theorem dX7_holdsFor_27 : decode cX7_holdsFor 27 = .ok (.aload_n 0, 1) := by decide +kernel
theorem dX7_holdsFor_28 : decode cX7_holdsFor 28 = .ok (.getfield 141, 3) := by decide +kernel
theorem dX7_holdsFor_31 : decode cX7_holdsFor 31 = .ok (.imul, 1) := by decide +kernel
theorem dX7_holdsFor_32 : decode cX7_holdsFor 32 = .ok (.aload_n 0, 1) := by decide +kernel
theorem dX7_holdsFor_33 : decode cX7_holdsFor 33 = .ok (.getfield 251, 3) := by decide +kernel
theorem dX7_holdsFor_36 : decode cX7_holdsFor 36 = .ok (.iload_n 1, 1) := by decide +kernel
theorem dX7_holdsFor_37 : decode cX7_holdsFor 37 = .ok (.iaload, 1) := by decide +kernel
theorem dX7_holdsFor_38 : decode cX7_holdsFor 38 = .ok (.iadd, 1) := by decide +kernel
theorem dX7_holdsFor_39 : decode cX7_holdsFor 39 = .ok (.if_icmp .ge 187, 3) := by decide +kernel
theorem dX7_holdsFor_42 : decode cX7_holdsFor 42 = .ok (.aload_n 0, 1) := by decide +kernel
theorem dX7_holdsFor_43 : decode cX7_holdsFor 43 = .ok (.getfield 257, 3) := by decide +kernel
theorem dX7_holdsFor_46 : decode cX7_holdsFor 46 = .ok (.iload 5, 2) := by decide +kernel
theorem dX7_holdsFor_48 : decode cX7_holdsFor 48 = .ok (.iaload, 1) := by decide +kernel
theorem dX7_holdsFor_49 : decode cX7_holdsFor 49 = .ok (.istore 6, 2) := by decide +kernel
theorem dX7_holdsFor_51 : decode cX7_holdsFor 51 = .ok (.iload 6, 2) := by decide +kernel
theorem dX7_holdsFor_53 : decode cX7_holdsFor 53 = .ok (.bipush 112, 2) := by decide +kernel
theorem dX7_holdsFor_55 : decode cX7_holdsFor 55 = .ok (.if_icmp .ne 20, 3) := by decide +kernel
theorem dX7_holdsFor_58 : decode cX7_holdsFor 58 = .ok (.aload_n 0, 1) := by decide +kernel
theorem dX7_holdsFor_59 : decode cX7_holdsFor 59 = .ok (.aload_n 0, 1) := by decide +kernel
theorem dX7_holdsFor_60 : decode cX7_holdsFor 60 = .ok (.getfield 260, 3) := by decide +kernel
theorem dX7_holdsFor_63 : decode cX7_holdsFor 63 = .ok (.iload 5, 2) := by decide +kernel
theorem dX7_holdsFor_65 : decode cX7_holdsFor 65 = .ok (.iaload, 1) := by decide +kernel
theorem dX7_holdsFor_66 : decode cX7_holdsFor 66 = .ok (.iload_n 2, 1) := by decide +kernel
theorem dX7_holdsFor_67 : decode cX7_holdsFor 67 = .ok (.invokevirtual 296, 3) := by decide +kernel
theorem dX7_holdsFor_70 : decode cX7_holdsFor 70 = .ok (.istore 4, 2) := by decide +kernel
theorem dX7_holdsFor_72 : decode cX7_holdsFor 72 = .ok (.goto 148, 3) := by decide +kernel
theorem dX7_holdsFor_75 : decode cX7_holdsFor 75 = .ok (.iload 6, 2) := by decide +kernel
theorem dX7_holdsFor_77 : decode cX7_holdsFor 77 = .ok (.bipush 126, 2) := by decide +kernel
theorem dX7_holdsFor_79 : decode cX7_holdsFor 79 = .ok (.if_icmp .ne 30, 3) := by decide +kernel
theorem dX7_holdsFor_82 : decode cX7_holdsFor 82 = .ok (.aload_n 0, 1) := by decide +kernel
theorem dX7_holdsFor_83 : decode cX7_holdsFor 83 = .ok (.getfield 299, 3) := by decide +kernel
theorem dX7_holdsFor_86 : decode cX7_holdsFor 86 = .ok (.iload_n 3, 1) := by decide +kernel
theorem dX7_holdsFor_87 : decode cX7_holdsFor 87 = .ok (.iconst 1, 1) := by decide +kernel
theorem dX7_holdsFor_88 : decode cX7_holdsFor 88 = .ok (.isub, 1) := by decide +kernel
theorem dX7_holdsFor_89 : decode cX7_holdsFor 89 = .ok (.aload_n 0, 1) := by decide +kernel
theorem dX7_holdsFor_90 : decode cX7_holdsFor 90 = .ok (.getfield 299, 3) := by decide +kernel
theorem dX7_holdsFor_93 : decode cX7_holdsFor 93 = .ok (.iload_n 3, 1) := by decide +kernel
theorem dX7_holdsFor_94 : decode cX7_holdsFor 94 = .ok (.iconst 1, 1) := by decide +kernel
theorem dX7_holdsFor_95 : decode cX7_holdsFor 95 = .ok (.isub, 1) := by decide +kernel
theorem dX7_holdsFor_96 : decode cX7_holdsFor 96 = .ok (.baload, 1) := by decide +kernel
theorem dX7_holdsFor_97 : decode cX7_holdsFor 97 = .ok (.ifCond .ne 7, 3) := by decide +kernel
theorem dX7_holdsFor_100 : decode cX7_holdsFor 100 = .ok (.iconst 1, 1) := by decide +kernel
theorem dX7_holdsFor_101 : decode cX7_holdsFor 101 = .ok (.goto 4, 3) := by decide +kernel
theorem dX7_holdsFor_104 : decode cX7_holdsFor 104 = .ok (.iconst 0, 1) := by decide +kernel
theorem dX7_holdsFor_105 : decode cX7_holdsFor 105 = .ok (.bastore, 1) := by decide +kernel
theorem dX7_holdsFor_106 : decode cX7_holdsFor 106 = .ok (.goto 114, 3) := by decide +kernel
theorem dX7_holdsFor_109 : decode cX7_holdsFor 109 = .ok (.iload 6, 2) := by decide +kernel
theorem dX7_holdsFor_111 : decode cX7_holdsFor 111 = .ok (.bipush 38, 2) := by decide +kernel
theorem dX7_holdsFor_113 : decode cX7_holdsFor 113 = .ok (.if_icmp .eq 10, 3) := by decide +kernel
theorem dX7_holdsFor_116 : decode cX7_holdsFor 116 = .ok (.iload 6, 2) := by decide +kernel
theorem dX7_holdsFor_118 : decode cX7_holdsFor 118 = .ok (.bipush 124, 2) := by decide +kernel
theorem dX7_holdsFor_120 : decode cX7_holdsFor 120 = .ok (.if_icmp .ne 77, 3) := by decide +kernel
theorem dX7_holdsFor_123 : decode cX7_holdsFor 123 = .ok (.iinc 3 (-1), 3) := by decide +kernel
theorem dX7_holdsFor_126 : decode cX7_holdsFor 126 = .ok (.aload_n 0, 1) := by decide +kernel
theorem dX7_holdsFor_127 : decode cX7_holdsFor 127 = .ok (.getfield 299, 3) := by decide +kernel
theorem dX7_holdsFor_130 : decode cX7_holdsFor 130 = .ok (.iload_n 3, 1) := by decide +kernel
theorem dX7_holdsFor_131 : decode cX7_holdsFor 131 = .ok (.iconst 1, 1) := by decide +kernel
theorem dX7_holdsFor_132 : decode cX7_holdsFor 132 = .ok (.isub, 1) := by decide +kernel
theorem dX7_holdsFor_133 : decode cX7_holdsFor 133 = .ok (.iload 6, 2) := by decide +kernel
theorem dX7_holdsFor_135 : decode cX7_holdsFor 135 = .ok (.bipush 38, 2) := by decide +kernel
theorem dX7_holdsFor_137 : decode cX7_holdsFor 137 = .ok (.if_icmp .ne 31, 3) := by decide +kernel
theorem dX7_holdsFor_140 : decode cX7_holdsFor 140 = .ok (.aload_n 0, 1) := by decide +kernel
theorem dX7_holdsFor_141 : decode cX7_holdsFor 141 = .ok (.getfield 299, 3) := by decide +kernel
theorem dX7_holdsFor_144 : decode cX7_holdsFor 144 = .ok (.iload_n 3, 1) := by decide +kernel
theorem dX7_holdsFor_145 : decode cX7_holdsFor 145 = .ok (.iconst 1, 1) := by decide +kernel
theorem dX7_holdsFor_146 : decode cX7_holdsFor 146 = .ok (.isub, 1) := by decide +kernel
theorem dX7_holdsFor_147 : decode cX7_holdsFor 147 = .ok (.baload, 1) := by decide +kernel
theorem dX7_holdsFor_148 : decode cX7_holdsFor 148 = .ok (.ifCond .eq 16, 3) := by decide +kernel
theorem dX7_holdsFor_151 : decode cX7_holdsFor 151 = .ok (.aload_n 0, 1) := by decide +kernel
theorem dX7_holdsFor_152 : decode cX7_holdsFor 152 = .ok (.getfield 299, 3) := by decide +kernel
theorem dX7_holdsFor_155 : decode cX7_holdsFor 155 = .ok (.iload_n 3, 1) := by decide +kernel
theorem dX7_holdsFor_156 : decode cX7_holdsFor 156 = .ok (.baload, 1) := by decide +kernel
theorem dX7_holdsFor_157 : decode cX7_holdsFor 157 = .ok (.ifCond .eq 7, 3) := by decide +kernel
theorem dX7_holdsFor_160 : decode cX7_holdsFor 160 = .ok (.iconst 1, 1) := by decide +kernel
theorem dX7_holdsFor_161 : decode cX7_holdsFor 161 = .ok (.goto 32, 3) := by decide +kernel
theorem dX7_holdsFor_164 : decode cX7_holdsFor 164 = .ok (.iconst 0, 1) := by decide +kernel
theorem dX7_holdsFor_165 : decode cX7_holdsFor 165 = .ok (.goto 28, 3) := by decide +kernel
theorem dX7_holdsFor_168 : decode cX7_holdsFor 168 = .ok (.aload_n 0, 1) := by decide +kernel
theorem dX7_holdsFor_169 : decode cX7_holdsFor 169 = .ok (.getfield 299, 3) := by decide +kernel
theorem dX7_holdsFor_172 : decode cX7_holdsFor 172 = .ok (.iload_n 3, 1) := by decide +kernel
theorem dX7_holdsFor_173 : decode cX7_holdsFor 173 = .ok (.iconst 1, 1) := by decide +kernel
theorem dX7_holdsFor_174 : decode cX7_holdsFor 174 = .ok (.isub, 1) := by decide +kernel
theorem dX7_holdsFor_175 : decode cX7_holdsFor 175 = .ok (.baload, 1) := by decide +kernel
theorem dX7_holdsFor_176 : decode cX7_holdsFor 176 = .ok (.ifCond .ne 12, 3) := by decide +kernel
theorem dX7_holdsFor_179 : decode cX7_holdsFor 179 = .ok (.aload_n 0, 1) := by decide +kernel
theorem dX7_holdsFor_180 : decode cX7_holdsFor 180 = .ok (.getfield 299, 3) := by decide +kernel
theorem dX7_holdsFor_183 : decode cX7_holdsFor 183 = .ok (.iload_n 3, 1) := by decide +kernel
theorem dX7_holdsFor_184 : decode cX7_holdsFor 184 = .ok (.baload, 1) := by decide +kernel
theorem dX7_holdsFor_185 : decode cX7_holdsFor 185 = .ok (.ifCond .eq 7, 3) := by decide +kernel
theorem dX7_holdsFor_188 : decode cX7_holdsFor 188 = .ok (.iconst 1, 1) := by decide +kernel
theorem dX7_holdsFor_189 : decode cX7_holdsFor 189 = .ok (.goto 4, 3) := by decide +kernel
theorem dX7_holdsFor_192 : decode cX7_holdsFor 192 = .ok (.iconst 0, 1) := by decide +kernel
theorem dX7_holdsFor_193 : decode cX7_holdsFor 193 = .ok (.bastore, 1) := by decide +kernel
theorem dX7_holdsFor_194 : decode cX7_holdsFor 194 = .ok (.goto 26, 3) := by decide +kernel
theorem dX7_holdsFor_197 : decode cX7_holdsFor 197 = .ok (.aload_n 0, 1) := by decide +kernel
theorem dX7_holdsFor_198 : decode cX7_holdsFor 198 = .ok (.getfield 299, 3) := by decide +kernel
theorem dX7_holdsFor_201 : decode cX7_holdsFor 201 = .ok (.iload_n 3, 1) := by decide +kernel
theorem dX7_holdsFor_202 : decode cX7_holdsFor 202 = .ok (.iload 6, 2) := by decide +kernel
theorem dX7_holdsFor_204 : decode cX7_holdsFor 204 = .ok (.iload 4, 2) := by decide +kernel
theorem dX7_holdsFor_206 : decode cX7_holdsFor 206 = .ok (.aload_n 0, 1) := by decide +kernel
theorem dX7_holdsFor_207 : decode cX7_holdsFor 207 = .ok (.getfield 260, 3) := by decide +kernel
theorem dX7_holdsFor_210 : decode cX7_holdsFor 210 = .ok (.iload 5, 2) := by decide +kernel
theorem dX7_holdsFor_212 : decode cX7_holdsFor 212 = .ok (.iaload, 1) := by decide +kernel
theorem dX7_holdsFor_213 : decode cX7_holdsFor 213 = .ok (.invokestatic 303, 3) := by decide +kernel
theorem dX7_holdsFor_216 : decode cX7_holdsFor 216 = .ok (.bastore, 1) := by decide +kernel
theorem dX7_holdsFor_217 : decode cX7_holdsFor 217 = .ok (.iinc 3 1, 3) := by decide +kernel
theorem dX7_holdsFor_220 : decode cX7_holdsFor 220 = .ok (.iinc 5 1, 3) := by decide +kernel
theorem dX7_holdsFor_223 : decode cX7_holdsFor 223 = .ok (.goto (-201), 3) := by decide +kernel
theorem dX7_holdsFor_226 : decode cX7_holdsFor 226 = .ok (.iload_n 3, 1) := by decide +kernel
theorem dX7_holdsFor_227 : decode cX7_holdsFor 227 = .ok (.ifCond .eq 12, 3) := by decide +kernel
theorem dX7_holdsFor_230 : decode cX7_holdsFor 230 = .ok (.aload_n 0, 1) := by decide +kernel
theorem dX7_holdsFor_231 : decode cX7_holdsFor 231 = .ok (.getfield 299, 3) := by decide +kernel
theorem dX7_holdsFor_234 : decode cX7_holdsFor 234 = .ok (.iconst 0, 1) := by decide +kernel
theorem dX7_holdsFor_235 : decode cX7_holdsFor 235 = .ok (.baload, 1) := by decide +kernel
theorem dX7_holdsFor_236 : decode cX7_holdsFor 236 = .ok (.ifCond .eq 7, 3) := by decide +kernel
theorem dX7_holdsFor_239 : decode cX7_holdsFor 239 = .ok (.iconst 1, 1) := by decide +kernel
theorem dX7_holdsFor_240 : decode cX7_holdsFor 240 = .ok (.goto 4, 3) := by decide +kernel
theorem dX7_holdsFor_243 : decode cX7_holdsFor 243 = .ok (.iconst 0, 1) := by decide +kernel
theorem dX7_holdsFor_244 : decode cX7_holdsFor 244 = .ok (.ireturn, 1) := by decide +kernel
theorem dX7_holds_0 : decode cX7_holds 0 = .ok (.bipush 10, 2) := by decide +kernel
theorem dX7_holds_2 : decode cX7_holds 2 = .ok (.aload_n 0, 1) := by decide +kernel
theorem dX7_holds_3 : decode cX7_holds 3 = .ok (.getfield 141, 3) := by decide +kernel
theorem dX7_holds_6 : decode cX7_holds 6 = .ok (.imul, 1) := by decide +kernel
theorem dX7_holds_7 : decode cX7_holds 7 = .ok (.iload_n 1, 1) := by decide +kernel
theorem dX7_holds_8 : decode cX7_holds 8 = .ok (.iadd, 1) := by decide +kernel
theorem dX7_holds_9 : decode cX7_holds 9 = .ok (.istore_n 3, 1) := by decide +kernel
theorem dX7_holds_10 : decode cX7_holds 10 = .ok (.iload_n 1, 1) := by decide +kernel
theorem dX7_holds_11 : decode cX7_holds 11 = .ok (.ifCond .lt 47, 3) := by decide +kernel
theorem dX7_holds_14 : decode cX7_holds 14 = .ok (.iload_n 1, 1) := by decide +kernel
theorem dX7_holds_15 : decode cX7_holds 15 = .ok (.aload_n 0, 1) := by decide +kernel
theorem dX7_holds_16 : decode cX7_holds 16 = .ok (.getfield 138, 3) := by decide +kernel
theorem dX7_holds_19 : decode cX7_holds 19 = .ok (.aload_n 0, 1) := by decide +kernel
theorem dX7_holds_20 : decode cX7_holds 20 = .ok (.getfield 141, 3) := by decide +kernel
theorem dX7_holds_23 : decode cX7_holds 23 = .ok (.iaload, 1) := by decide +kernel
theorem dX7_holds_24 : decode cX7_holds 24 = .ok (.if_icmp .ge 34, 3) := by decide +kernel
theorem dX7_holds_27 : decode cX7_holds 27 = .ok (.aload_n 0, 1) := by decide +kernel
theorem dX7_holds_28 : decode cX7_holds 28 = .ok (.getfield 226, 3) := by decide +kernel
theorem dX7_holds_31 : decode cX7_holds 31 = .ok (.iload_n 3, 1) := by decide +kernel
theorem dX7_holds_32 : decode cX7_holds 32 = .ok (.iaload, 1) := by decide +kernel
theorem dX7_holds_33 : decode cX7_holds 33 = .ok (.ifCond .ge 25, 3) := by decide +kernel
theorem dX7_holds_36 : decode cX7_holds 36 = .ok (.aload_n 0, 1) := by decide +kernel
theorem dX7_holds_37 : decode cX7_holds 37 = .ok (.iload_n 2, 1) := by decide +kernel
theorem dX7_holds_38 : decode cX7_holds 38 = .ok (.invokevirtual 200, 3) := by decide +kernel
theorem dX7_holds_41 : decode cX7_holds 41 = .ok (.ifCond .eq 17, 3) := by decide +kernel
theorem dX7_holds_44 : decode cX7_holds 44 = .ok (.aload_n 0, 1) := by decide +kernel
theorem dX7_holds_45 : decode cX7_holds 45 = .ok (.iload_n 2, 1) := by decide +kernel
theorem dX7_holds_46 : decode cX7_holds 46 = .ok (.invokevirtual 194, 3) := by decide +kernel
theorem dX7_holds_49 : decode cX7_holds 49 = .ok (.aload_n 0, 1) := by decide +kernel
theorem dX7_holds_50 : decode cX7_holds 50 = .ok (.getfield 229, 3) := by decide +kernel
theorem dX7_holds_53 : decode cX7_holds 53 = .ok (.iload_n 3, 1) := by decide +kernel
theorem dX7_holds_54 : decode cX7_holds 54 = .ok (.iaload, 1) := by decide +kernel
theorem dX7_holds_55 : decode cX7_holds 55 = .ok (.if_icmp .eq 5, 3) := by decide +kernel
theorem dX7_holds_58 : decode cX7_holds 58 = .ok (.iconst (-1), 1) := by decide +kernel
theorem dX7_holds_59 : decode cX7_holds 59 = .ok (.ireturn, 1) := by decide +kernel
theorem dX7_holds_60 : decode cX7_holds 60 = .ok (.aload_n 0, 1) := by decide +kernel
theorem dX7_holds_61 : decode cX7_holds 61 = .ok (.iload_n 3, 1) := by decide +kernel
theorem dX7_holds_62 : decode cX7_holds 62 = .ok (.iload_n 2, 1) := by decide +kernel
theorem dX7_holds_63 : decode cX7_holds 63 = .ok (.invokevirtual 307, 3) := by decide +kernel
theorem dX7_holds_66 : decode cX7_holds 66 = .ok (.ifCond .eq 7, 3) := by decide +kernel
theorem dX7_holds_69 : decode cX7_holds 69 = .ok (.iconst 1, 1) := by decide +kernel
theorem dX7_holds_70 : decode cX7_holds 70 = .ok (.goto 4, 3) := by decide +kernel
theorem dX7_holds_73 : decode cX7_holds 73 = .ok (.iconst 0, 1) := by decide +kernel
theorem dX7_holds_74 : decode cX7_holds 74 = .ok (.ireturn, 1) := by decide +kernel
theorem dX7_bitsOf_0 : decode cX7_bitsOf 0 = .ok (.iconst 0, 1) := by decide +kernel
theorem dX7_bitsOf_1 : decode cX7_bitsOf 1 = .ok (.istore_n 1, 1) := by decide +kernel
theorem dX7_bitsOf_2 : decode cX7_bitsOf 2 = .ok (.iconst 0, 1) := by decide +kernel
theorem dX7_bitsOf_3 : decode cX7_bitsOf 3 = .ok (.istore_n 2, 1) := by decide +kernel
theorem dX7_bitsOf_4 : decode cX7_bitsOf 4 = .ok (.iload_n 2, 1) := by decide +kernel
theorem dX7_bitsOf_5 : decode cX7_bitsOf 5 = .ok (.bipush 16, 2) := by decide +kernel
theorem dX7_bitsOf_7 : decode cX7_bitsOf 7 = .ok (.if_icmp .ge 17, 3) := by decide +kernel
theorem dX7_bitsOf_10 : decode cX7_bitsOf 10 = .ok (.iload_n 1, 1) := by decide +kernel
theorem dX7_bitsOf_11 : decode cX7_bitsOf 11 = .ok (.iload_n 0, 1) := by decide +kernel
theorem dX7_bitsOf_12 : decode cX7_bitsOf 12 = .ok (.iload_n 2, 1) := by decide +kernel
theorem dX7_bitsOf_13 : decode cX7_bitsOf 13 = .ok (.ishr, 1) := by decide +kernel
theorem dX7_bitsOf_14 : decode cX7_bitsOf 14 = .ok (.iconst 1, 1) := by decide +kernel
theorem dX7_bitsOf_15 : decode cX7_bitsOf 15 = .ok (.iand, 1) := by decide +kernel
theorem dX7_bitsOf_16 : decode cX7_bitsOf 16 = .ok (.iadd, 1) := by decide +kernel
theorem dX7_bitsOf_17 : decode cX7_bitsOf 17 = .ok (.istore_n 1, 1) := by decide +kernel
theorem dX7_bitsOf_18 : decode cX7_bitsOf 18 = .ok (.iinc 2 1, 3) := by decide +kernel
theorem dX7_bitsOf_21 : decode cX7_bitsOf 21 = .ok (.goto (-17), 3) := by decide +kernel
theorem dX7_bitsOf_24 : decode cX7_bitsOf 24 = .ok (.iload_n 1, 1) := by decide +kernel
theorem dX7_bitsOf_25 : decode cX7_bitsOf 25 = .ok (.ireturn, 1) := by decide +kernel
theorem dX7_lookAt_0 : decode cX7_lookAt 0 = .ok (.iconst 0, 1) := by decide +kernel
theorem dX7_lookAt_1 : decode cX7_lookAt 1 = .ok (.istore_n 1, 1) := by decide +kernel
theorem dX7_lookAt_2 : decode cX7_lookAt 2 = .ok (.iload_n 1, 1) := by decide +kernel
theorem dX7_lookAt_3 : decode cX7_lookAt 3 = .ok (.aload_n 0, 1) := by decide +kernel
theorem dX7_lookAt_4 : decode cX7_lookAt 4 = .ok (.getfield 122, 3) := by decide +kernel
theorem dX7_lookAt_7 : decode cX7_lookAt 7 = .ok (.aload_n 0, 1) := by decide +kernel
theorem dX7_lookAt_8 : decode cX7_lookAt 8 = .ok (.getfield 116, 3) := by decide +kernel
theorem dX7_lookAt_11 : decode cX7_lookAt 11 = .ok (.iaload, 1) := by decide +kernel
theorem dX7_lookAt_12 : decode cX7_lookAt 12 = .ok (.if_icmp .ge 73, 3) := by decide +kernel
theorem dX7_lookAt_15 : decode cX7_lookAt 15 = .ok (.aload_n 0, 1) := by decide +kernel
theorem dX7_lookAt_16 : decode cX7_lookAt 16 = .ok (.getfield 310, 3) := by decide +kernel
theorem dX7_lookAt_19 : decode cX7_lookAt 19 = .ok (.iload_n 1, 1) := by decide +kernel
theorem dX7_lookAt_20 : decode cX7_lookAt 20 = .ok (.iconst 0, 1) := by decide +kernel
theorem dX7_lookAt_21 : decode cX7_lookAt 21 = .ok (.iastore, 1) := by decide +kernel
theorem dX7_lookAt_22 : decode cX7_lookAt 22 = .ok (.iconst 0, 1) := by decide +kernel
theorem dX7_lookAt_23 : decode cX7_lookAt 23 = .ok (.istore_n 2, 1) := by decide +kernel
theorem dX7_lookAt_24 : decode cX7_lookAt 24 = .ok (.iload_n 2, 1) := by decide +kernel
theorem dX7_lookAt_25 : decode cX7_lookAt 25 = .ok (.aload_n 0, 1) := by decide +kernel
theorem dX7_lookAt_26 : decode cX7_lookAt 26 = .ok (.getfield 106, 3) := by decide +kernel
theorem dX7_lookAt_29 : decode cX7_lookAt 29 = .ok (.aload_n 0, 1) := by decide +kernel
theorem dX7_lookAt_30 : decode cX7_lookAt 30 = .ok (.iload_n 1, 1) := by decide +kernel
theorem dX7_lookAt_31 : decode cX7_lookAt 31 = .ok (.invokevirtual 194, 3) := by decide +kernel
theorem dX7_lookAt_34 : decode cX7_lookAt 34 = .ok (.iaload, 1) := by decide +kernel
theorem dX7_lookAt_35 : decode cX7_lookAt 35 = .ok (.if_icmp .ge 44, 3) := by decide +kernel
theorem dX7_lookAt_38 : decode cX7_lookAt 38 = .ok (.aload_n 0, 1) := by decide +kernel
theorem dX7_lookAt_39 : decode cX7_lookAt 39 = .ok (.iload_n 1, 1) := by decide +kernel
theorem dX7_lookAt_40 : decode cX7_lookAt 40 = .ok (.iload_n 2, 1) := by decide +kernel
theorem dX7_lookAt_41 : decode cX7_lookAt 41 = .ok (.invokevirtual 313, 3) := by decide +kernel
theorem dX7_lookAt_44 : decode cX7_lookAt 44 = .ok (.ifCond .eq 29, 3) := by decide +kernel
theorem dX7_lookAt_47 : decode cX7_lookAt 47 = .ok (.aload_n 0, 1) := by decide +kernel
theorem dX7_lookAt_48 : decode cX7_lookAt 48 = .ok (.iload_n 1, 1) := by decide +kernel
theorem dX7_lookAt_49 : decode cX7_lookAt 49 = .ok (.iload_n 2, 1) := by decide +kernel
theorem dX7_lookAt_50 : decode cX7_lookAt 50 = .ok (.invokevirtual 207, 3) := by decide +kernel
theorem dX7_lookAt_53 : decode cX7_lookAt 53 = .ok (.ifCond .lt 20, 3) := by decide +kernel
theorem dX7_lookAt_56 : decode cX7_lookAt 56 = .ok (.aload_n 0, 1) := by decide +kernel
theorem dX7_lookAt_57 : decode cX7_lookAt 57 = .ok (.getfield 310, 3) := by decide +kernel
theorem dX7_lookAt_60 : decode cX7_lookAt 60 = .ok (.iload_n 1, 1) := by decide +kernel
theorem dX7_lookAt_61 : decode cX7_lookAt 61 = .ok (.dup2, 1) := by decide +kernel
theorem dX7_lookAt_62 : decode cX7_lookAt 62 = .ok (.iaload, 1) := by decide +kernel
theorem dX7_lookAt_63 : decode cX7_lookAt 63 = .ok (.iconst 1, 1) := by decide +kernel
theorem dX7_lookAt_64 : decode cX7_lookAt 64 = .ok (.aload_n 0, 1) := by decide +kernel
theorem dX7_lookAt_65 : decode cX7_lookAt 65 = .ok (.iload_n 1, 1) := by decide +kernel
theorem dX7_lookAt_66 : decode cX7_lookAt 66 = .ok (.iload_n 2, 1) := by decide +kernel
theorem dX7_lookAt_67 : decode cX7_lookAt 67 = .ok (.invokevirtual 207, 3) := by decide +kernel
theorem dX7_lookAt_70 : decode cX7_lookAt 70 = .ok (.ishl, 1) := by decide +kernel
theorem dX7_lookAt_71 : decode cX7_lookAt 71 = .ok (.ior, 1) := by decide +kernel
theorem dX7_lookAt_72 : decode cX7_lookAt 72 = .ok (.iastore, 1) := by decide +kernel
theorem dX7_lookAt_73 : decode cX7_lookAt 73 = .ok (.iinc 2 1, 3) := by decide +kernel
theorem dX7_lookAt_76 : decode cX7_lookAt 76 = .ok (.goto (-52), 3) := by decide +kernel
theorem dX7_lookAt_79 : decode cX7_lookAt 79 = .ok (.iinc 1 1, 3) := by decide +kernel
theorem dX7_lookAt_82 : decode cX7_lookAt 82 = .ok (.goto (-80), 3) := by decide +kernel
theorem dX7_lookAt_85 : decode cX7_lookAt 85 = .ok (.iconst 0, 1) := by decide +kernel
theorem dX7_lookAt_86 : decode cX7_lookAt 86 = .ok (.istore_n 1, 1) := by decide +kernel
theorem dX7_lookAt_87 : decode cX7_lookAt 87 = .ok (.iload_n 1, 1) := by decide +kernel
theorem dX7_lookAt_88 : decode cX7_lookAt 88 = .ok (.aload_n 0, 1) := by decide +kernel
theorem dX7_lookAt_89 : decode cX7_lookAt 89 = .ok (.getfield 138, 3) := by decide +kernel
theorem dX7_lookAt_92 : decode cX7_lookAt 92 = .ok (.aload_n 0, 1) := by decide +kernel
theorem dX7_lookAt_93 : decode cX7_lookAt 93 = .ok (.getfield 141, 3) := by decide +kernel
theorem dX7_lookAt_96 : decode cX7_lookAt 96 = .ok (.iaload, 1) := by decide +kernel
theorem dX7_lookAt_97 : decode cX7_lookAt 97 = .ok (.if_icmp .ge 210, 3) := by decide +kernel
theorem dX7_lookAt_100 : decode cX7_lookAt 100 = .ok (.bipush 10, 2) := by decide +kernel
theorem dX7_lookAt_102 : decode cX7_lookAt 102 = .ok (.aload_n 0, 1) := by decide +kernel
theorem dX7_lookAt_103 : decode cX7_lookAt 103 = .ok (.getfield 141, 3) := by decide +kernel
theorem dX7_lookAt_106 : decode cX7_lookAt 106 = .ok (.imul, 1) := by decide +kernel
theorem dX7_lookAt_107 : decode cX7_lookAt 107 = .ok (.iload_n 1, 1) := by decide +kernel
theorem dX7_lookAt_108 : decode cX7_lookAt 108 = .ok (.iadd, 1) := by decide +kernel
theorem dX7_lookAt_109 : decode cX7_lookAt 109 = .ok (.istore_n 2, 1) := by decide +kernel
theorem dX7_lookAt_110 : decode cX7_lookAt 110 = .ok (.aload_n 0, 1) := by decide +kernel
theorem dX7_lookAt_111 : decode cX7_lookAt 111 = .ok (.getfield 316, 3) := by decide +kernel
theorem dX7_lookAt_114 : decode cX7_lookAt 114 = .ok (.iload_n 1, 1) := by decide +kernel
theorem dX7_lookAt_115 : decode cX7_lookAt 115 = .ok (.iconst 0, 1) := by decide +kernel
theorem dX7_lookAt_116 : decode cX7_lookAt 116 = .ok (.iastore, 1) := by decide +kernel
theorem dX7_lookAt_117 : decode cX7_lookAt 117 = .ok (.iconst 0, 1) := by decide +kernel
theorem dX7_lookAt_118 : decode cX7_lookAt 118 = .ok (.istore_n 3, 1) := by decide +kernel
theorem dX7_lookAt_119 : decode cX7_lookAt 119 = .ok (.iload_n 3, 1) := by decide +kernel
theorem dX7_lookAt_120 : decode cX7_lookAt 120 = .ok (.aload_n 0, 1) := by decide +kernel
theorem dX7_lookAt_121 : decode cX7_lookAt 121 = .ok (.getfield 122, 3) := by decide +kernel
theorem dX7_lookAt_124 : decode cX7_lookAt 124 = .ok (.aload_n 0, 1) := by decide +kernel
theorem dX7_lookAt_125 : decode cX7_lookAt 125 = .ok (.getfield 116, 3) := by decide +kernel
theorem dX7_lookAt_128 : decode cX7_lookAt 128 = .ok (.iaload, 1) := by decide +kernel
theorem dX7_lookAt_129 : decode cX7_lookAt 129 = .ok (.if_icmp .ge 172, 3) := by decide +kernel
theorem dX7_lookAt_132 : decode cX7_lookAt 132 = .ok (.aload_n 0, 1) := by decide +kernel
theorem dX7_lookAt_133 : decode cX7_lookAt 133 = .ok (.getfield 226, 3) := by decide +kernel
theorem dX7_lookAt_136 : decode cX7_lookAt 136 = .ok (.iload_n 2, 1) := by decide +kernel
theorem dX7_lookAt_137 : decode cX7_lookAt 137 = .ok (.iaload, 1) := by decide +kernel
theorem dX7_lookAt_138 : decode cX7_lookAt 138 = .ok (.ifCond .ge 38, 3) := by decide +kernel
theorem dX7_lookAt_141 : decode cX7_lookAt 141 = .ok (.aload_n 0, 1) := by decide +kernel
theorem dX7_lookAt_142 : decode cX7_lookAt 142 = .ok (.iload_n 3, 1) := by decide +kernel
theorem dX7_lookAt_143 : decode cX7_lookAt 143 = .ok (.invokevirtual 194, 3) := by decide +kernel
theorem dX7_lookAt_146 : decode cX7_lookAt 146 = .ok (.aload_n 0, 1) := by decide +kernel
theorem dX7_lookAt_147 : decode cX7_lookAt 147 = .ok (.getfield 229, 3) := by decide +kernel
theorem dX7_lookAt_150 : decode cX7_lookAt 150 = .ok (.iload_n 2, 1) := by decide +kernel
theorem dX7_lookAt_151 : decode cX7_lookAt 151 = .ok (.iaload, 1) := by decide +kernel
theorem dX7_lookAt_152 : decode cX7_lookAt 152 = .ok (.if_icmp .ne 24, 3) := by decide +kernel
theorem dX7_lookAt_155 : decode cX7_lookAt 155 = .ok (.aload_n 0, 1) := by decide +kernel
theorem dX7_lookAt_156 : decode cX7_lookAt 156 = .ok (.iload_n 2, 1) := by decide +kernel
theorem dX7_lookAt_157 : decode cX7_lookAt 157 = .ok (.iload_n 3, 1) := by decide +kernel
theorem dX7_lookAt_158 : decode cX7_lookAt 158 = .ok (.invokevirtual 307, 3) := by decide +kernel
theorem dX7_lookAt_161 : decode cX7_lookAt 161 = .ok (.ifCond .eq 15, 3) := by decide +kernel
theorem dX7_lookAt_164 : decode cX7_lookAt 164 = .ok (.aload_n 0, 1) := by decide +kernel
theorem dX7_lookAt_165 : decode cX7_lookAt 165 = .ok (.getfield 316, 3) := by decide +kernel
theorem dX7_lookAt_168 : decode cX7_lookAt 168 = .ok (.iload_n 1, 1) := by decide +kernel
theorem dX7_lookAt_169 : decode cX7_lookAt 169 = .ok (.dup2, 1) := by decide +kernel
theorem dX7_lookAt_170 : decode cX7_lookAt 170 = .ok (.iaload, 1) := by decide +kernel
theorem dX7_lookAt_171 : decode cX7_lookAt 171 = .ok (.iconst 1, 1) := by decide +kernel
theorem dX7_lookAt_172 : decode cX7_lookAt 172 = .ok (.iload_n 3, 1) := by decide +kernel
theorem dX7_lookAt_173 : decode cX7_lookAt 173 = .ok (.ishl, 1) := by decide +kernel
theorem dX7_lookAt_174 : decode cX7_lookAt 174 = .ok (.ior, 1) := by decide +kernel
theorem dX7_lookAt_175 : decode cX7_lookAt 175 = .ok (.iastore, 1) := by decide +kernel
theorem dX7_lookAt_176 : decode cX7_lookAt 176 = .ok (.aload_n 0, 1) := by decide +kernel
theorem dX7_lookAt_177 : decode cX7_lookAt 177 = .ok (.getfield 319, 3) := by decide +kernel
theorem dX7_lookAt_180 : decode cX7_lookAt 180 = .ok (.bipush 16, 2) := by decide +kernel
theorem dX7_lookAt_182 : decode cX7_lookAt 182 = .ok (.iload_n 1, 1) := by decide +kernel
theorem dX7_lookAt_183 : decode cX7_lookAt 183 = .ok (.imul, 1) := by decide +kernel
theorem dX7_lookAt_184 : decode cX7_lookAt 184 = .ok (.iload_n 3, 1) := by decide +kernel
theorem dX7_lookAt_185 : decode cX7_lookAt 185 = .ok (.iadd, 1) := by decide +kernel
theorem dX7_lookAt_186 : decode cX7_lookAt 186 = .ok (.iconst 0, 1) := by decide +kernel
theorem dX7_lookAt_187 : decode cX7_lookAt 187 = .ok (.iastore, 1) := by decide +kernel
theorem dX7_lookAt_188 : decode cX7_lookAt 188 = .ok (.iconst 0, 1) := by decide +kernel
theorem dX7_lookAt_189 : decode cX7_lookAt 189 = .ok (.istore 4, 2) := by decide +kernel
theorem dX7_lookAt_191 : decode cX7_lookAt 191 = .ok (.iload 4, 2) := by decide +kernel
theorem dX7_lookAt_193 : decode cX7_lookAt 193 = .ok (.aload_n 0, 1) := by decide +kernel
theorem dX7_lookAt_194 : decode cX7_lookAt 194 = .ok (.getfield 122, 3) := by decide +kernel
theorem dX7_lookAt_197 : decode cX7_lookAt 197 = .ok (.aload_n 0, 1) := by decide +kernel
theorem dX7_lookAt_198 : decode cX7_lookAt 198 = .ok (.getfield 116, 3) := by decide +kernel
theorem dX7_lookAt_201 : decode cX7_lookAt 201 = .ok (.iaload, 1) := by decide +kernel
theorem dX7_lookAt_202 : decode cX7_lookAt 202 = .ok (.if_icmp .ge 93, 3) := by decide +kernel
theorem dX7_lookAt_205 : decode cX7_lookAt 205 = .ok (.aload_n 0, 1) := by decide +kernel
theorem dX7_lookAt_206 : decode cX7_lookAt 206 = .ok (.getfield 226, 3) := by decide +kernel
theorem dX7_lookAt_209 : decode cX7_lookAt 209 = .ok (.iload_n 2, 1) := by decide +kernel
theorem dX7_lookAt_210 : decode cX7_lookAt 210 = .ok (.iaload, 1) := by decide +kernel
theorem dX7_lookAt_211 : decode cX7_lookAt 211 = .ok (.ifCond .lt 84, 3) := by decide +kernel
theorem dX7_lookAt_214 : decode cX7_lookAt 214 = .ok (.aload_n 0, 1) := by decide +kernel
theorem dX7_lookAt_215 : decode cX7_lookAt 215 = .ok (.iload_n 3, 1) := by decide +kernel
theorem dX7_lookAt_216 : decode cX7_lookAt 216 = .ok (.invokevirtual 194, 3) := by decide +kernel
theorem dX7_lookAt_219 : decode cX7_lookAt 219 = .ok (.aload_n 0, 1) := by decide +kernel
theorem dX7_lookAt_220 : decode cX7_lookAt 220 = .ok (.getfield 229, 3) := by decide +kernel
theorem dX7_lookAt_223 : decode cX7_lookAt 223 = .ok (.iload_n 2, 1) := by decide +kernel
theorem dX7_lookAt_224 : decode cX7_lookAt 224 = .ok (.iaload, 1) := by decide +kernel
theorem dX7_lookAt_225 : decode cX7_lookAt 225 = .ok (.if_icmp .ne 70, 3) := by decide +kernel
theorem dX7_lookAt_228 : decode cX7_lookAt 228 = .ok (.aload_n 0, 1) := by decide +kernel
theorem dX7_lookAt_229 : decode cX7_lookAt 229 = .ok (.iload 4, 2) := by decide +kernel
theorem dX7_lookAt_231 : decode cX7_lookAt 231 = .ok (.invokevirtual 194, 3) := by decide +kernel
theorem dX7_lookAt_234 : decode cX7_lookAt 234 = .ok (.aload_n 0, 1) := by decide +kernel
theorem dX7_lookAt_235 : decode cX7_lookAt 235 = .ok (.getfield 226, 3) := by decide +kernel
theorem dX7_lookAt_238 : decode cX7_lookAt 238 = .ok (.iload_n 2, 1) := by decide +kernel
theorem dX7_lookAt_239 : decode cX7_lookAt 239 = .ok (.iaload, 1) := by decide +kernel
theorem dX7_lookAt_240 : decode cX7_lookAt 240 = .ok (.if_icmp .ne 49, 3) := by decide +kernel
theorem dX7_lookAt_243 : decode cX7_lookAt 243 = .ok (.aload_n 0, 1) := by decide +kernel
theorem dX7_lookAt_244 : decode cX7_lookAt 244 = .ok (.getfield 147, 3) := by decide +kernel
theorem dX7_lookAt_247 : decode cX7_lookAt 247 = .ok (.iload 4, 2) := by decide +kernel
theorem dX7_lookAt_249 : decode cX7_lookAt 249 = .ok (.ishr, 1) := by decide +kernel
theorem dX7_lookAt_250 : decode cX7_lookAt 250 = .ok (.iconst 1, 1) := by decide +kernel
theorem dX7_lookAt_251 : decode cX7_lookAt 251 = .ok (.iand, 1) := by decide +kernel
theorem dX7_lookAt_252 : decode cX7_lookAt 252 = .ok (.ifCond .ne 37, 3) := by decide +kernel
theorem dX7_lookAt_255 : decode cX7_lookAt 255 = .ok (.aload_n 0, 1) := by decide +kernel
theorem dX7_lookAt_256 : decode cX7_lookAt 256 = .ok (.iload 4, 2) := by decide +kernel
theorem dX7_lookAt_258 : decode cX7_lookAt 258 = .ok (.aload_n 0, 1) := by decide +kernel
theorem dX7_lookAt_259 : decode cX7_lookAt 259 = .ok (.getfield 254, 3) := by decide +kernel
theorem dX7_lookAt_262 : decode cX7_lookAt 262 = .ok (.iload_n 2, 1) := by decide +kernel
theorem dX7_lookAt_263 : decode cX7_lookAt 263 = .ok (.iaload, 1) := by decide +kernel
theorem dX7_lookAt_264 : decode cX7_lookAt 264 = .ok (.invokevirtual 207, 3) := by decide +kernel
theorem dX7_lookAt_267 : decode cX7_lookAt 267 = .ok (.iload_n 3, 1) := by decide +kernel
theorem dX7_lookAt_268 : decode cX7_lookAt 268 = .ok (.if_icmp .ne 21, 3) := by decide +kernel
theorem dX7_lookAt_271 : decode cX7_lookAt 271 = .ok (.aload_n 0, 1) := by decide +kernel
theorem dX7_lookAt_272 : decode cX7_lookAt 272 = .ok (.getfield 319, 3) := by decide +kernel
theorem dX7_lookAt_275 : decode cX7_lookAt 275 = .ok (.bipush 16, 2) := by decide +kernel
theorem dX7_lookAt_277 : decode cX7_lookAt 277 = .ok (.iload_n 1, 1) := by decide +kernel
theorem dX7_lookAt_278 : decode cX7_lookAt 278 = .ok (.imul, 1) := by decide +kernel
theorem dX7_lookAt_279 : decode cX7_lookAt 279 = .ok (.iload_n 3, 1) := by decide +kernel
theorem dX7_lookAt_280 : decode cX7_lookAt 280 = .ok (.iadd, 1) := by decide +kernel
theorem dX7_lookAt_281 : decode cX7_lookAt 281 = .ok (.dup2, 1) := by decide +kernel
theorem dX7_lookAt_282 : decode cX7_lookAt 282 = .ok (.iaload, 1) := by decide +kernel
theorem dX7_lookAt_283 : decode cX7_lookAt 283 = .ok (.iconst 1, 1) := by decide +kernel
theorem dX7_lookAt_284 : decode cX7_lookAt 284 = .ok (.iload 4, 2) := by decide +kernel
theorem dX7_lookAt_286 : decode cX7_lookAt 286 = .ok (.ishl, 1) := by decide +kernel
theorem dX7_lookAt_287 : decode cX7_lookAt 287 = .ok (.ior, 1) := by decide +kernel
theorem dX7_lookAt_288 : decode cX7_lookAt 288 = .ok (.iastore, 1) := by decide +kernel
theorem dX7_lookAt_289 : decode cX7_lookAt 289 = .ok (.iinc 4 1, 3) := by decide +kernel
theorem dX7_lookAt_292 : decode cX7_lookAt 292 = .ok (.goto (-101), 3) := by decide +kernel
theorem dX7_lookAt_295 : decode cX7_lookAt 295 = .ok (.iinc 3 1, 3) := by decide +kernel
theorem dX7_lookAt_298 : decode cX7_lookAt 298 = .ok (.goto (-179), 3) := by decide +kernel
theorem dX7_lookAt_301 : decode cX7_lookAt 301 = .ok (.iinc 1 1, 3) := by decide +kernel
theorem dX7_lookAt_304 : decode cX7_lookAt 304 = .ok (.goto (-217), 3) := by decide +kernel
theorem dX7_lookAt_307 : decode cX7_lookAt 307 = .ok (.return_, 1) := by decide +kernel
theorem dX7_isPiece_0 : decode cX7_isPiece 0 = .ok (.iload_n 1, 1) := by decide +kernel
theorem dX7_isPiece_1 : decode cX7_isPiece 1 = .ok (.aload_n 0, 1) := by decide +kernel
theorem dX7_isPiece_2 : decode cX7_isPiece 2 = .ok (.getfield 147, 3) := by decide +kernel
theorem dX7_isPiece_5 : decode cX7_isPiece 5 = .ok (.iand, 1) := by decide +kernel
theorem dX7_isPiece_6 : decode cX7_isPiece 6 = .ok (.ifCond .eq 5, 3) := by decide +kernel
theorem dX7_isPiece_9 : decode cX7_isPiece 9 = .ok (.iconst 0, 1) := by decide +kernel
theorem dX7_isPiece_10 : decode cX7_isPiece 10 = .ok (.ireturn, 1) := by decide +kernel
theorem dX7_isPiece_11 : decode cX7_isPiece 11 = .ok (.iconst 0, 1) := by decide +kernel
theorem dX7_isPiece_12 : decode cX7_isPiece 12 = .ok (.istore_n 2, 1) := by decide +kernel
theorem dX7_isPiece_13 : decode cX7_isPiece 13 = .ok (.iload_n 2, 1) := by decide +kernel
theorem dX7_isPiece_14 : decode cX7_isPiece 14 = .ok (.aload_n 0, 1) := by decide +kernel
theorem dX7_isPiece_15 : decode cX7_isPiece 15 = .ok (.getfield 122, 3) := by decide +kernel
theorem dX7_isPiece_18 : decode cX7_isPiece 18 = .ok (.aload_n 0, 1) := by decide +kernel
theorem dX7_isPiece_19 : decode cX7_isPiece 19 = .ok (.getfield 116, 3) := by decide +kernel
theorem dX7_isPiece_22 : decode cX7_isPiece 22 = .ok (.iaload, 1) := by decide +kernel
theorem dX7_isPiece_23 : decode cX7_isPiece 23 = .ok (.if_icmp .ge 33, 3) := by decide +kernel
theorem dX7_isPiece_26 : decode cX7_isPiece 26 = .ok (.iload_n 1, 1) := by decide +kernel
theorem dX7_isPiece_27 : decode cX7_isPiece 27 = .ok (.iload_n 2, 1) := by decide +kernel
theorem dX7_isPiece_28 : decode cX7_isPiece 28 = .ok (.ishr, 1) := by decide +kernel
theorem dX7_isPiece_29 : decode cX7_isPiece 29 = .ok (.iconst 1, 1) := by decide +kernel
theorem dX7_isPiece_30 : decode cX7_isPiece 30 = .ok (.iand, 1) := by decide +kernel
theorem dX7_isPiece_31 : decode cX7_isPiece 31 = .ok (.iconst 1, 1) := by decide +kernel
theorem dX7_isPiece_32 : decode cX7_isPiece 32 = .ok (.if_icmp .ne 18, 3) := by decide +kernel
theorem dX7_isPiece_35 : decode cX7_isPiece 35 = .ok (.aload_n 0, 1) := by decide +kernel
theorem dX7_isPiece_36 : decode cX7_isPiece 36 = .ok (.getfield 310, 3) := by decide +kernel
theorem dX7_isPiece_39 : decode cX7_isPiece 39 = .ok (.iload_n 2, 1) := by decide +kernel
theorem dX7_isPiece_40 : decode cX7_isPiece 40 = .ok (.iaload, 1) := by decide +kernel
theorem dX7_isPiece_41 : decode cX7_isPiece 41 = .ok (.iload_n 1, 1) := by decide +kernel
theorem dX7_isPiece_42 : decode cX7_isPiece 42 = .ok (.iconst (-1), 1) := by decide +kernel
theorem dX7_isPiece_43 : decode cX7_isPiece 43 = .ok (.ixor, 1) := by decide +kernel
theorem dX7_isPiece_44 : decode cX7_isPiece 44 = .ok (.iand, 1) := by decide +kernel
theorem dX7_isPiece_45 : decode cX7_isPiece 45 = .ok (.ifCond .eq 5, 3) := by decide +kernel
theorem dX7_isPiece_48 : decode cX7_isPiece 48 = .ok (.iconst 0, 1) := by decide +kernel
theorem dX7_isPiece_49 : decode cX7_isPiece 49 = .ok (.ireturn, 1) := by decide +kernel
theorem dX7_isPiece_50 : decode cX7_isPiece 50 = .ok (.iinc 2 1, 3) := by decide +kernel
theorem dX7_isPiece_53 : decode cX7_isPiece 53 = .ok (.goto (-40), 3) := by decide +kernel
theorem dX7_isPiece_56 : decode cX7_isPiece 56 = .ok (.iconst 0, 1) := by decide +kernel
theorem dX7_isPiece_57 : decode cX7_isPiece 57 = .ok (.istore_n 2, 1) := by decide +kernel
theorem dX7_isPiece_58 : decode cX7_isPiece 58 = .ok (.iload_n 2, 1) := by decide +kernel
theorem dX7_isPiece_59 : decode cX7_isPiece 59 = .ok (.aload_n 0, 1) := by decide +kernel
theorem dX7_isPiece_60 : decode cX7_isPiece 60 = .ok (.getfield 138, 3) := by decide +kernel
theorem dX7_isPiece_63 : decode cX7_isPiece 63 = .ok (.aload_n 0, 1) := by decide +kernel
theorem dX7_isPiece_64 : decode cX7_isPiece 64 = .ok (.getfield 141, 3) := by decide +kernel
theorem dX7_isPiece_67 : decode cX7_isPiece 67 = .ok (.iaload, 1) := by decide +kernel
theorem dX7_isPiece_68 : decode cX7_isPiece 68 = .ok (.if_icmp .ge 133, 3) := by decide +kernel
theorem dX7_isPiece_71 : decode cX7_isPiece 71 = .ok (.bipush 10, 2) := by decide +kernel
theorem dX7_isPiece_73 : decode cX7_isPiece 73 = .ok (.aload_n 0, 1) := by decide +kernel
theorem dX7_isPiece_74 : decode cX7_isPiece 74 = .ok (.getfield 141, 3) := by decide +kernel
theorem dX7_isPiece_77 : decode cX7_isPiece 77 = .ok (.imul, 1) := by decide +kernel
theorem dX7_isPiece_78 : decode cX7_isPiece 78 = .ok (.iload_n 2, 1) := by decide +kernel
theorem dX7_isPiece_79 : decode cX7_isPiece 79 = .ok (.iadd, 1) := by decide +kernel
theorem dX7_isPiece_80 : decode cX7_isPiece 80 = .ok (.istore_n 3, 1) := by decide +kernel
theorem dX7_isPiece_81 : decode cX7_isPiece 81 = .ok (.aload_n 0, 1) := by decide +kernel
theorem dX7_isPiece_82 : decode cX7_isPiece 82 = .ok (.getfield 226, 3) := by decide +kernel
theorem dX7_isPiece_85 : decode cX7_isPiece 85 = .ok (.iload_n 3, 1) := by decide +kernel
theorem dX7_isPiece_86 : decode cX7_isPiece 86 = .ok (.iaload, 1) := by decide +kernel
theorem dX7_isPiece_87 : decode cX7_isPiece 87 = .ok (.ifCond .ge 25, 3) := by decide +kernel
theorem dX7_isPiece_90 : decode cX7_isPiece 90 = .ok (.aload_n 0, 1) := by decide +kernel
theorem dX7_isPiece_91 : decode cX7_isPiece 91 = .ok (.getfield 316, 3) := by decide +kernel
theorem dX7_isPiece_94 : decode cX7_isPiece 94 = .ok (.iload_n 2, 1) := by decide +kernel
theorem dX7_isPiece_95 : decode cX7_isPiece 95 = .ok (.iaload, 1) := by decide +kernel
theorem dX7_isPiece_96 : decode cX7_isPiece 96 = .ok (.iload_n 1, 1) := by decide +kernel
theorem dX7_isPiece_97 : decode cX7_isPiece 97 = .ok (.iand, 1) := by decide +kernel
theorem dX7_isPiece_98 : decode cX7_isPiece 98 = .ok (.invokestatic 322, 3) := by decide +kernel
theorem dX7_isPiece_101 : decode cX7_isPiece 101 = .ok (.aload_n 0, 1) := by decide +kernel
theorem dX7_isPiece_102 : decode cX7_isPiece 102 = .ok (.getfield 236, 3) := by decide +kernel
theorem dX7_isPiece_105 : decode cX7_isPiece 105 = .ok (.iload_n 3, 1) := by decide +kernel
theorem dX7_isPiece_106 : decode cX7_isPiece 106 = .ok (.iaload, 1) := by decide +kernel
theorem dX7_isPiece_107 : decode cX7_isPiece 107 = .ok (.if_icmp .ge 5, 3) := by decide +kernel
theorem dX7_isPiece_110 : decode cX7_isPiece 110 = .ok (.iconst 0, 1) := by decide +kernel
theorem dX7_isPiece_111 : decode cX7_isPiece 111 = .ok (.ireturn, 1) := by decide +kernel
theorem dX7_isPiece_112 : decode cX7_isPiece 112 = .ok (.iconst 0, 1) := by decide +kernel
theorem dX7_isPiece_113 : decode cX7_isPiece 113 = .ok (.istore 4, 2) := by decide +kernel
theorem dX7_isPiece_115 : decode cX7_isPiece 115 = .ok (.iload 4, 2) := by decide +kernel
theorem dX7_isPiece_117 : decode cX7_isPiece 117 = .ok (.aload_n 0, 1) := by decide +kernel
theorem dX7_isPiece_118 : decode cX7_isPiece 118 = .ok (.getfield 122, 3) := by decide +kernel
theorem dX7_isPiece_121 : decode cX7_isPiece 121 = .ok (.aload_n 0, 1) := by decide +kernel
theorem dX7_isPiece_122 : decode cX7_isPiece 122 = .ok (.getfield 116, 3) := by decide +kernel
theorem dX7_isPiece_125 : decode cX7_isPiece 125 = .ok (.iaload, 1) := by decide +kernel
theorem dX7_isPiece_126 : decode cX7_isPiece 126 = .ok (.if_icmp .ge 69, 3) := by decide +kernel
theorem dX7_isPiece_129 : decode cX7_isPiece 129 = .ok (.aload_n 0, 1) := by decide +kernel
theorem dX7_isPiece_130 : decode cX7_isPiece 130 = .ok (.getfield 226, 3) := by decide +kernel
theorem dX7_isPiece_133 : decode cX7_isPiece 133 = .ok (.iload_n 3, 1) := by decide +kernel
theorem dX7_isPiece_134 : decode cX7_isPiece 134 = .ok (.iaload, 1) := by decide +kernel
theorem dX7_isPiece_135 : decode cX7_isPiece 135 = .ok (.ifCond .lt 60, 3) := by decide +kernel
theorem dX7_isPiece_138 : decode cX7_isPiece 138 = .ok (.aload_n 0, 1) := by decide +kernel
theorem dX7_isPiece_139 : decode cX7_isPiece 139 = .ok (.getfield 319, 3) := by decide +kernel
theorem dX7_isPiece_142 : decode cX7_isPiece 142 = .ok (.bipush 16, 2) := by decide +kernel
theorem dX7_isPiece_144 : decode cX7_isPiece 144 = .ok (.iload_n 2, 1) := by decide +kernel
theorem dX7_isPiece_145 : decode cX7_isPiece 145 = .ok (.imul, 1) := by decide +kernel
theorem dX7_isPiece_146 : decode cX7_isPiece 146 = .ok (.iload 4, 2) := by decide +kernel
theorem dX7_isPiece_148 : decode cX7_isPiece 148 = .ok (.iadd, 1) := by decide +kernel
theorem dX7_isPiece_149 : decode cX7_isPiece 149 = .ok (.iaload, 1) := by decide +kernel
theorem dX7_isPiece_150 : decode cX7_isPiece 150 = .ok (.istore 5, 2) := by decide +kernel
theorem dX7_isPiece_152 : decode cX7_isPiece 152 = .ok (.iload_n 1, 1) := by decide +kernel
theorem dX7_isPiece_153 : decode cX7_isPiece 153 = .ok (.iload 4, 2) := by decide +kernel
theorem dX7_isPiece_155 : decode cX7_isPiece 155 = .ok (.ishr, 1) := by decide +kernel
theorem dX7_isPiece_156 : decode cX7_isPiece 156 = .ok (.iconst 1, 1) := by decide +kernel
theorem dX7_isPiece_157 : decode cX7_isPiece 157 = .ok (.iand, 1) := by decide +kernel
theorem dX7_isPiece_158 : decode cX7_isPiece 158 = .ok (.iconst 1, 1) := by decide +kernel
theorem dX7_isPiece_159 : decode cX7_isPiece 159 = .ok (.if_icmp .ne 30, 3) := by decide +kernel
theorem dX7_isPiece_162 : decode cX7_isPiece 162 = .ok (.iload 5, 2) := by decide +kernel
theorem dX7_isPiece_164 : decode cX7_isPiece 164 = .ok (.iload_n 1, 1) := by decide +kernel
theorem dX7_isPiece_165 : decode cX7_isPiece 165 = .ok (.iconst (-1), 1) := by decide +kernel
theorem dX7_isPiece_166 : decode cX7_isPiece 166 = .ok (.ixor, 1) := by decide +kernel
theorem dX7_isPiece_167 : decode cX7_isPiece 167 = .ok (.iand, 1) := by decide +kernel
theorem dX7_isPiece_168 : decode cX7_isPiece 168 = .ok (.ifCond .eq 21, 3) := by decide +kernel
theorem dX7_isPiece_171 : decode cX7_isPiece 171 = .ok (.iload 5, 2) := by decide +kernel
theorem dX7_isPiece_173 : decode cX7_isPiece 173 = .ok (.iload_n 1, 1) := by decide +kernel
theorem dX7_isPiece_174 : decode cX7_isPiece 174 = .ok (.iand, 1) := by decide +kernel
theorem dX7_isPiece_175 : decode cX7_isPiece 175 = .ok (.invokestatic 322, 3) := by decide +kernel
theorem dX7_isPiece_178 : decode cX7_isPiece 178 = .ok (.aload_n 0, 1) := by decide +kernel
theorem dX7_isPiece_179 : decode cX7_isPiece 179 = .ok (.getfield 236, 3) := by decide +kernel
theorem dX7_isPiece_182 : decode cX7_isPiece 182 = .ok (.iload_n 3, 1) := by decide +kernel
theorem dX7_isPiece_183 : decode cX7_isPiece 183 = .ok (.iaload, 1) := by decide +kernel
theorem dX7_isPiece_184 : decode cX7_isPiece 184 = .ok (.if_icmp .ge 5, 3) := by decide +kernel
theorem dX7_isPiece_187 : decode cX7_isPiece 187 = .ok (.iconst 0, 1) := by decide +kernel
theorem dX7_isPiece_188 : decode cX7_isPiece 188 = .ok (.ireturn, 1) := by decide +kernel
theorem dX7_isPiece_189 : decode cX7_isPiece 189 = .ok (.iinc 4 1, 3) := by decide +kernel
theorem dX7_isPiece_192 : decode cX7_isPiece 192 = .ok (.goto (-77), 3) := by decide +kernel
theorem dX7_isPiece_195 : decode cX7_isPiece 195 = .ok (.iinc 2 1, 3) := by decide +kernel
theorem dX7_isPiece_198 : decode cX7_isPiece 198 = .ok (.goto (-140), 3) := by decide +kernel
theorem dX7_isPiece_201 : decode cX7_isPiece 201 = .ok (.iconst 1, 1) := by decide +kernel
theorem dX7_isPiece_202 : decode cX7_isPiece 202 = .ok (.ireturn, 1) := by decide +kernel
theorem dX7_isAhead_0 : decode cX7_isAhead 0 = .ok (.iload_n 0, 1) := by decide +kernel
theorem dX7_isAhead_1 : decode cX7_isAhead 1 = .ok (.iload_n 1, 1) := by decide +kernel
theorem dX7_isAhead_2 : decode cX7_isAhead 2 = .ok (.ixor, 1) := by decide +kernel
theorem dX7_isAhead_3 : decode cX7_isAhead 3 = .ok (.istore_n 2, 1) := by decide +kernel
theorem dX7_isAhead_4 : decode cX7_isAhead 4 = .ok (.iload_n 2, 1) := by decide +kernel
theorem dX7_isAhead_5 : decode cX7_isAhead 5 = .ok (.ifCond .eq 16, 3) := by decide +kernel
theorem dX7_isAhead_8 : decode cX7_isAhead 8 = .ok (.iload_n 0, 1) := by decide +kernel
theorem dX7_isAhead_9 : decode cX7_isAhead 9 = .ok (.iload_n 2, 1) := by decide +kernel
theorem dX7_isAhead_10 : decode cX7_isAhead 10 = .ok (.iand, 1) := by decide +kernel
theorem dX7_isAhead_11 : decode cX7_isAhead 11 = .ok (.iload_n 2, 1) := by decide +kernel
theorem dX7_isAhead_12 : decode cX7_isAhead 12 = .ok (.ineg, 1) := by decide +kernel
theorem dX7_isAhead_13 : decode cX7_isAhead 13 = .ok (.iand, 1) := by decide +kernel
theorem dX7_isAhead_14 : decode cX7_isAhead 14 = .ok (.ifCond .eq 7, 3) := by decide +kernel
theorem dX7_isAhead_17 : decode cX7_isAhead 17 = .ok (.iconst 1, 1) := by decide +kernel
theorem dX7_isAhead_18 : decode cX7_isAhead 18 = .ok (.goto 4, 3) := by decide +kernel
theorem dX7_isAhead_21 : decode cX7_isAhead 21 = .ok (.iconst 0, 1) := by decide +kernel
theorem dX7_isAhead_22 : decode cX7_isAhead 22 = .ok (.ireturn, 1) := by decide +kernel
theorem dX7_know_0 : decode cX7_know 0 = .ok (.aload_n 0, 1) := by decide +kernel
theorem dX7_know_1 : decode cX7_know 1 = .ok (.getfield 153, 3) := by decide +kernel
theorem dX7_know_4 : decode cX7_know 4 = .ok (.ifCond .eq 4, 3) := by decide +kernel
theorem dX7_know_7 : decode cX7_know 7 = .ok (.return_, 1) := by decide +kernel
theorem dX7_know_8 : decode cX7_know 8 = .ok (.aload_n 0, 1) := by decide +kernel
theorem dX7_know_9 : decode cX7_know 9 = .ok (.iconst 1, 1) := by decide +kernel
theorem dX7_know_10 : decode cX7_know 10 = .ok (.putfield 153, 3) := by decide +kernel
theorem dX7_know_13 : decode cX7_know 13 = .ok (.aload_n 0, 1) := by decide +kernel
theorem dX7_know_14 : decode cX7_know 14 = .ok (.invokevirtual 325, 3) := by decide +kernel
theorem dX7_know_17 : decode cX7_know 17 = .ok (.aload_n 0, 1) := by decide +kernel
theorem dX7_know_18 : decode cX7_know 18 = .ok (.iconst (-1), 1) := by decide +kernel
theorem dX7_know_19 : decode cX7_know 19 = .ok (.putfield 328, 3) := by decide +kernel
theorem dX7_know_22 : decode cX7_know 22 = .ok (.iconst 0, 1) := by decide +kernel
theorem dX7_know_23 : decode cX7_know 23 = .ok (.istore_n 1, 1) := by decide +kernel
theorem dX7_know_24 : decode cX7_know 24 = .ok (.iload_n 1, 1) := by decide +kernel
theorem dX7_know_25 : decode cX7_know 25 = .ok (.iconst 1, 1) := by decide +kernel
theorem dX7_know_26 : decode cX7_know 26 = .ok (.aload_n 0, 1) := by decide +kernel
theorem dX7_know_27 : decode cX7_know 27 = .ok (.getfield 122, 3) := by decide +kernel
theorem dX7_know_30 : decode cX7_know 30 = .ok (.aload_n 0, 1) := by decide +kernel
theorem dX7_know_31 : decode cX7_know 31 = .ok (.getfield 116, 3) := by decide +kernel
theorem dX7_know_34 : decode cX7_know 34 = .ok (.iaload, 1) := by decide +kernel
theorem dX7_know_35 : decode cX7_know 35 = .ok (.ishl, 1) := by decide +kernel
theorem dX7_know_36 : decode cX7_know 36 = .ok (.if_icmp .ge 78, 3) := by decide +kernel
theorem dX7_know_39 : decode cX7_know 39 = .ok (.aload_n 0, 1) := by decide +kernel
theorem dX7_know_40 : decode cX7_know 40 = .ok (.getfield 328, 3) := by decide +kernel
theorem dX7_know_43 : decode cX7_know 43 = .ok (.ifCond .lt 17, 3) := by decide +kernel
theorem dX7_know_46 : decode cX7_know 46 = .ok (.iload_n 1, 1) := by decide +kernel
theorem dX7_know_47 : decode cX7_know 47 = .ok (.invokestatic 322, 3) := by decide +kernel
theorem dX7_know_50 : decode cX7_know 50 = .ok (.aload_n 0, 1) := by decide +kernel
theorem dX7_know_51 : decode cX7_know 51 = .ok (.getfield 328, 3) := by decide +kernel
theorem dX7_know_54 : decode cX7_know 54 = .ok (.invokestatic 322, 3) := by decide +kernel
theorem dX7_know_57 : decode cX7_know 57 = .ok (.if_icmp .gt 51, 3) := by decide +kernel
theorem dX7_know_60 : decode cX7_know 60 = .ok (.aload_n 0, 1) := by decide +kernel
theorem dX7_know_61 : decode cX7_know 61 = .ok (.iload_n 1, 1) := by decide +kernel
theorem dX7_know_62 : decode cX7_know 62 = .ok (.invokevirtual 331, 3) := by decide +kernel
theorem dX7_know_65 : decode cX7_know 65 = .ok (.ifCond .ne 6, 3) := by decide +kernel
theorem dX7_know_68 : decode cX7_know 68 = .ok (.goto 40, 3) := by decide +kernel
theorem dX7_know_71 : decode cX7_know 71 = .ok (.aload_n 0, 1) := by decide +kernel
theorem dX7_know_72 : decode cX7_know 72 = .ok (.getfield 328, 3) := by decide +kernel
theorem dX7_know_75 : decode cX7_know 75 = .ok (.ifCond .lt 28, 3) := by decide +kernel
theorem dX7_know_78 : decode cX7_know 78 = .ok (.iload_n 1, 1) := by decide +kernel
theorem dX7_know_79 : decode cX7_know 79 = .ok (.invokestatic 322, 3) := by decide +kernel
theorem dX7_know_82 : decode cX7_know 82 = .ok (.aload_n 0, 1) := by decide +kernel
theorem dX7_know_83 : decode cX7_know 83 = .ok (.getfield 328, 3) := by decide +kernel
theorem dX7_know_86 : decode cX7_know 86 = .ok (.invokestatic 322, 3) := by decide +kernel
theorem dX7_know_89 : decode cX7_know 89 = .ok (.if_icmp .lt 14, 3) := by decide +kernel
theorem dX7_know_92 : decode cX7_know 92 = .ok (.iload_n 1, 1) := by decide +kernel
theorem dX7_know_93 : decode cX7_know 93 = .ok (.aload_n 0, 1) := by decide +kernel
theorem dX7_know_94 : decode cX7_know 94 = .ok (.getfield 328, 3) := by decide +kernel
theorem dX7_know_97 : decode cX7_know 97 = .ok (.invokestatic 334, 3) := by decide +kernel
theorem dX7_know_100 : decode cX7_know 100 = .ok (.ifCond .eq 8, 3) := by decide +kernel
theorem dX7_know_103 : decode cX7_know 103 = .ok (.aload_n 0, 1) := by decide +kernel
theorem dX7_know_104 : decode cX7_know 104 = .ok (.iload_n 1, 1) := by decide +kernel
theorem dX7_know_105 : decode cX7_know 105 = .ok (.putfield 328, 3) := by decide +kernel
theorem dX7_know_108 : decode cX7_know 108 = .ok (.iinc 1 1, 3) := by decide +kernel
theorem dX7_know_111 : decode cX7_know 111 = .ok (.goto (-87), 3) := by decide +kernel
theorem dX7_know_114 : decode cX7_know 114 = .ok (.return_, 1) := by decide +kernel
theorem dX7_gone_0 : decode cX7_gone 0 = .ok (.aload_n 0, 1) := by decide +kernel
theorem dX7_gone_1 : decode cX7_gone 1 = .ok (.iload_n 1, 1) := by decide +kernel
theorem dX7_gone_2 : decode cX7_gone 2 = .ok (.invokevirtual 200, 3) := by decide +kernel
theorem dX7_gone_5 : decode cX7_gone 5 = .ok (.ifCond .eq 15, 3) := by decide +kernel
theorem dX7_gone_8 : decode cX7_gone 8 = .ok (.aload_n 0, 1) := by decide +kernel
theorem dX7_gone_9 : decode cX7_gone 9 = .ok (.getfield 147, 3) := by decide +kernel
theorem dX7_gone_12 : decode cX7_gone 12 = .ok (.iload_n 1, 1) := by decide +kernel
theorem dX7_gone_13 : decode cX7_gone 13 = .ok (.ishr, 1) := by decide +kernel
theorem dX7_gone_14 : decode cX7_gone 14 = .ok (.iconst 1, 1) := by decide +kernel
theorem dX7_gone_15 : decode cX7_gone 15 = .ok (.iand, 1) := by decide +kernel
theorem dX7_gone_16 : decode cX7_gone 16 = .ok (.iconst 1, 1) := by decide +kernel
theorem dX7_gone_17 : decode cX7_gone 17 = .ok (.if_icmp .ne 5, 3) := by decide +kernel
theorem dX7_gone_20 : decode cX7_gone 20 = .ok (.iconst 0, 1) := by decide +kernel
theorem dX7_gone_21 : decode cX7_gone 21 = .ok (.ireturn, 1) := by decide +kernel
theorem dX7_gone_22 : decode cX7_gone 22 = .ok (.aload_n 0, 1) := by decide +kernel
theorem dX7_gone_23 : decode cX7_gone 23 = .ok (.invokevirtual 325, 3) := by decide +kernel
theorem dX7_gone_26 : decode cX7_gone 26 = .ok (.iconst 0, 1) := by decide +kernel
theorem dX7_gone_27 : decode cX7_gone 27 = .ok (.istore_n 2, 1) := by decide +kernel
theorem dX7_gone_28 : decode cX7_gone 28 = .ok (.iload_n 2, 1) := by decide +kernel
theorem dX7_gone_29 : decode cX7_gone 29 = .ok (.aload_n 0, 1) := by decide +kernel
theorem dX7_gone_30 : decode cX7_gone 30 = .ok (.getfield 122, 3) := by decide +kernel
theorem dX7_gone_33 : decode cX7_gone 33 = .ok (.aload_n 0, 1) := by decide +kernel
theorem dX7_gone_34 : decode cX7_gone 34 = .ok (.getfield 116, 3) := by decide +kernel
theorem dX7_gone_37 : decode cX7_gone 37 = .ok (.iaload, 1) := by decide +kernel
theorem dX7_gone_38 : decode cX7_gone 38 = .ok (.if_icmp .ge 36, 3) := by decide +kernel
theorem dX7_gone_41 : decode cX7_gone 41 = .ok (.aload_n 0, 1) := by decide +kernel
theorem dX7_gone_42 : decode cX7_gone 42 = .ok (.getfield 147, 3) := by decide +kernel
theorem dX7_gone_45 : decode cX7_gone 45 = .ok (.iload_n 2, 1) := by decide +kernel
theorem dX7_gone_46 : decode cX7_gone 46 = .ok (.ishr, 1) := by decide +kernel
theorem dX7_gone_47 : decode cX7_gone 47 = .ok (.iconst 1, 1) := by decide +kernel
theorem dX7_gone_48 : decode cX7_gone 48 = .ok (.iand, 1) := by decide +kernel
theorem dX7_gone_49 : decode cX7_gone 49 = .ok (.ifCond .ne 19, 3) := by decide +kernel
theorem dX7_gone_52 : decode cX7_gone 52 = .ok (.aload_n 0, 1) := by decide +kernel
theorem dX7_gone_53 : decode cX7_gone 53 = .ok (.getfield 310, 3) := by decide +kernel
theorem dX7_gone_56 : decode cX7_gone 56 = .ok (.iload_n 2, 1) := by decide +kernel
theorem dX7_gone_57 : decode cX7_gone 57 = .ok (.iaload, 1) := by decide +kernel
theorem dX7_gone_58 : decode cX7_gone 58 = .ok (.iload_n 1, 1) := by decide +kernel
theorem dX7_gone_59 : decode cX7_gone 59 = .ok (.ishr, 1) := by decide +kernel
theorem dX7_gone_60 : decode cX7_gone 60 = .ok (.iconst 1, 1) := by decide +kernel
theorem dX7_gone_61 : decode cX7_gone 61 = .ok (.iand, 1) := by decide +kernel
theorem dX7_gone_62 : decode cX7_gone 62 = .ok (.iconst 1, 1) := by decide +kernel
theorem dX7_gone_63 : decode cX7_gone 63 = .ok (.if_icmp .ne 5, 3) := by decide +kernel
theorem dX7_gone_66 : decode cX7_gone 66 = .ok (.iconst 0, 1) := by decide +kernel
theorem dX7_gone_67 : decode cX7_gone 67 = .ok (.ireturn, 1) := by decide +kernel
theorem dX7_gone_68 : decode cX7_gone 68 = .ok (.iinc 2 1, 3) := by decide +kernel
theorem dX7_gone_71 : decode cX7_gone 71 = .ok (.goto (-43), 3) := by decide +kernel
theorem dX7_gone_74 : decode cX7_gone 74 = .ok (.aload_n 0, 1) := by decide +kernel
theorem dX7_gone_75 : decode cX7_gone 75 = .ok (.dup, 1) := by decide +kernel
theorem dX7_gone_76 : decode cX7_gone 76 = .ok (.getfield 147, 3) := by decide +kernel
theorem dX7_gone_79 : decode cX7_gone 79 = .ok (.iconst 1, 1) := by decide +kernel
theorem dX7_gone_80 : decode cX7_gone 80 = .ok (.iload_n 1, 1) := by decide +kernel
theorem dX7_gone_81 : decode cX7_gone 81 = .ok (.ishl, 1) := by decide +kernel
theorem dX7_gone_82 : decode cX7_gone 82 = .ok (.ior, 1) := by decide +kernel
theorem dX7_gone_83 : decode cX7_gone 83 = .ok (.putfield 147, 3) := by decide +kernel
theorem dX7_gone_86 : decode cX7_gone 86 = .ok (.aload_n 0, 1) := by decide +kernel
theorem dX7_gone_87 : decode cX7_gone 87 = .ok (.iconst 0, 1) := by decide +kernel
theorem dX7_gone_88 : decode cX7_gone 88 = .ok (.putfield 153, 3) := by decide +kernel
theorem dX7_gone_91 : decode cX7_gone 91 = .ok (.iconst 1, 1) := by decide +kernel
theorem dX7_gone_92 : decode cX7_gone 92 = .ok (.ireturn, 1) := by decide +kernel
theorem dX7_least_0 : decode cX7_least 0 = .ok (.aload_n 0, 1) := by decide +kernel
theorem dX7_least_1 : decode cX7_least 1 = .ok (.invokevirtual 337, 3) := by decide +kernel
theorem dX7_least_4 : decode cX7_least 4 = .ok (.aload_n 0, 1) := by decide +kernel
theorem dX7_least_5 : decode cX7_least 5 = .ok (.getfield 328, 3) := by decide +kernel
theorem dX7_least_8 : decode cX7_least 8 = .ok (.ireturn, 1) := by decide +kernel
theorem dX7_keep_0 : decode cX7_keep 0 = .ok (.aload_n 0, 1) := by decide +kernel
theorem dX7_keep_1 : decode cX7_keep 1 = .ok (.invokevirtual 337, 3) := by decide +kernel
theorem dX7_keep_4 : decode cX7_keep 4 = .ok (.aload_n 0, 1) := by decide +kernel
theorem dX7_keep_5 : decode cX7_keep 5 = .ok (.getfield 328, 3) := by decide +kernel
theorem dX7_keep_8 : decode cX7_keep 8 = .ok (.ifCond .ge 5, 3) := by decide +kernel
theorem dX7_keep_11 : decode cX7_keep 11 = .ok (.iconst 0, 1) := by decide +kernel
theorem dX7_keep_12 : decode cX7_keep 12 = .ok (.ireturn, 1) := by decide +kernel
theorem dX7_keep_13 : decode cX7_keep 13 = .ok (.aload_n 0, 1) := by decide +kernel
theorem dX7_keep_14 : decode cX7_keep 14 = .ok (.aload_n 0, 1) := by decide +kernel
theorem dX7_keep_15 : decode cX7_keep 15 = .ok (.getfield 328, 3) := by decide +kernel
theorem dX7_keep_18 : decode cX7_keep 18 = .ok (.putfield 144, 3) := by decide +kernel
theorem dX7_keep_21 : decode cX7_keep 21 = .ok (.iconst 1, 1) := by decide +kernel
theorem dX7_keep_22 : decode cX7_keep 22 = .ok (.ireturn, 1) := by decide +kernel
theorem dX7_steady_0 : decode cX7_steady 0 = .ok (.aload_n 0, 1) := by decide +kernel
theorem dX7_steady_1 : decode cX7_steady 1 = .ok (.invokevirtual 337, 3) := by decide +kernel
theorem dX7_steady_4 : decode cX7_steady 4 = .ok (.iconst (-1), 1) := by decide +kernel
theorem dX7_steady_5 : decode cX7_steady 5 = .ok (.istore_n 1, 1) := by decide +kernel
theorem dX7_steady_6 : decode cX7_steady 6 = .ok (.iconst 0, 1) := by decide +kernel
theorem dX7_steady_7 : decode cX7_steady 7 = .ok (.istore_n 2, 1) := by decide +kernel
theorem dX7_steady_8 : decode cX7_steady 8 = .ok (.iconst 0, 1) := by decide +kernel
theorem dX7_steady_9 : decode cX7_steady 9 = .ok (.istore_n 3, 1) := by decide +kernel
theorem dX7_steady_10 : decode cX7_steady 10 = .ok (.iload_n 3, 1) := by decide +kernel
theorem dX7_steady_11 : decode cX7_steady 11 = .ok (.iconst 1, 1) := by decide +kernel
theorem dX7_steady_12 : decode cX7_steady 12 = .ok (.aload_n 0, 1) := by decide +kernel
theorem dX7_steady_13 : decode cX7_steady 13 = .ok (.getfield 122, 3) := by decide +kernel
theorem dX7_steady_16 : decode cX7_steady 16 = .ok (.aload_n 0, 1) := by decide +kernel
theorem dX7_steady_17 : decode cX7_steady 17 = .ok (.getfield 116, 3) := by decide +kernel
theorem dX7_steady_20 : decode cX7_steady 20 = .ok (.iaload, 1) := by decide +kernel
theorem dX7_steady_21 : decode cX7_steady 21 = .ok (.ishl, 1) := by decide +kernel
theorem dX7_steady_22 : decode cX7_steady 22 = .ok (.if_icmp .ge 96, 3) := by decide +kernel
theorem dX7_steady_25 : decode cX7_steady 25 = .ok (.iload_n 3, 1) := by decide +kernel
theorem dX7_steady_26 : decode cX7_steady 26 = .ok (.aload_n 0, 1) := by decide +kernel
theorem dX7_steady_27 : decode cX7_steady 27 = .ok (.getfield 144, 3) := by decide +kernel
theorem dX7_steady_30 : decode cX7_steady 30 = .ok (.ixor, 1) := by decide +kernel
theorem dX7_steady_31 : decode cX7_steady 31 = .ok (.aload_n 0, 1) := by decide +kernel
theorem dX7_steady_32 : decode cX7_steady 32 = .ok (.getfield 147, 3) := by decide +kernel
theorem dX7_steady_35 : decode cX7_steady 35 = .ok (.iconst (-1), 1) := by decide +kernel
theorem dX7_steady_36 : decode cX7_steady 36 = .ok (.ixor, 1) := by decide +kernel
theorem dX7_steady_37 : decode cX7_steady 37 = .ok (.iand, 1) := by decide +kernel
theorem dX7_steady_38 : decode cX7_steady 38 = .ok (.invokestatic 322, 3) := by decide +kernel
theorem dX7_steady_41 : decode cX7_steady 41 = .ok (.istore 4, 2) := by decide +kernel
theorem dX7_steady_43 : decode cX7_steady 43 = .ok (.iload_n 1, 1) := by decide +kernel
theorem dX7_steady_44 : decode cX7_steady 44 = .ok (.ifCond .lt 9, 3) := by decide +kernel
theorem dX7_steady_47 : decode cX7_steady 47 = .ok (.iload 4, 2) := by decide +kernel
theorem dX7_steady_49 : decode cX7_steady 49 = .ok (.iload_n 2, 1) := by decide +kernel
theorem dX7_steady_50 : decode cX7_steady 50 = .ok (.if_icmp .gt 62, 3) := by decide +kernel
theorem dX7_steady_53 : decode cX7_steady 53 = .ok (.aload_n 0, 1) := by decide +kernel
theorem dX7_steady_54 : decode cX7_steady 54 = .ok (.iload_n 3, 1) := by decide +kernel
theorem dX7_steady_55 : decode cX7_steady 55 = .ok (.invokevirtual 331, 3) := by decide +kernel
theorem dX7_steady_58 : decode cX7_steady 58 = .ok (.ifCond .ne 6, 3) := by decide +kernel
theorem dX7_steady_61 : decode cX7_steady 61 = .ok (.goto 51, 3) := by decide +kernel
theorem dX7_steady_64 : decode cX7_steady 64 = .ok (.iload_n 1, 1) := by decide +kernel
theorem dX7_steady_65 : decode cX7_steady 65 = .ok (.ifCond .lt 42, 3) := by decide +kernel
theorem dX7_steady_68 : decode cX7_steady 68 = .ok (.iload 4, 2) := by decide +kernel
theorem dX7_steady_70 : decode cX7_steady 70 = .ok (.iload_n 2, 1) := by decide +kernel
theorem dX7_steady_71 : decode cX7_steady 71 = .ok (.if_icmp .ne 36, 3) := by decide +kernel
theorem dX7_steady_74 : decode cX7_steady 74 = .ok (.iload_n 3, 1) := by decide +kernel
theorem dX7_steady_75 : decode cX7_steady 75 = .ok (.invokestatic 322, 3) := by decide +kernel
theorem dX7_steady_78 : decode cX7_steady 78 = .ok (.iload_n 1, 1) := by decide +kernel
theorem dX7_steady_79 : decode cX7_steady 79 = .ok (.invokestatic 322, 3) := by decide +kernel
theorem dX7_steady_82 : decode cX7_steady 82 = .ok (.if_icmp .gt 30, 3) := by decide +kernel
theorem dX7_steady_85 : decode cX7_steady 85 = .ok (.iload_n 3, 1) := by decide +kernel
theorem dX7_steady_86 : decode cX7_steady 86 = .ok (.invokestatic 322, 3) := by decide +kernel
theorem dX7_steady_89 : decode cX7_steady 89 = .ok (.iload_n 1, 1) := by decide +kernel
theorem dX7_steady_90 : decode cX7_steady 90 = .ok (.invokestatic 322, 3) := by decide +kernel
theorem dX7_steady_93 : decode cX7_steady 93 = .ok (.if_icmp .ne 14, 3) := by decide +kernel
theorem dX7_steady_96 : decode cX7_steady 96 = .ok (.iload_n 3, 1) := by decide +kernel
theorem dX7_steady_97 : decode cX7_steady 97 = .ok (.iload_n 1, 1) := by decide +kernel
theorem dX7_steady_98 : decode cX7_steady 98 = .ok (.invokestatic 334, 3) := by decide +kernel
theorem dX7_steady_101 : decode cX7_steady 101 = .ok (.ifCond .ne 6, 3) := by decide +kernel
theorem dX7_steady_104 : decode cX7_steady 104 = .ok (.goto 8, 3) := by decide +kernel
theorem dX7_steady_107 : decode cX7_steady 107 = .ok (.iload_n 3, 1) := by decide +kernel
theorem dX7_steady_108 : decode cX7_steady 108 = .ok (.istore_n 1, 1) := by decide +kernel
theorem dX7_steady_109 : decode cX7_steady 109 = .ok (.iload 4, 2) := by decide +kernel
theorem dX7_steady_111 : decode cX7_steady 111 = .ok (.istore_n 2, 1) := by decide +kernel
theorem dX7_steady_112 : decode cX7_steady 112 = .ok (.iinc 3 1, 3) := by decide +kernel
theorem dX7_steady_115 : decode cX7_steady 115 = .ok (.goto (-105), 3) := by decide +kernel
theorem dX7_steady_118 : decode cX7_steady 118 = .ok (.iload_n 1, 1) := by decide +kernel
theorem dX7_steady_119 : decode cX7_steady 119 = .ok (.ireturn, 1) := by decide +kernel
theorem dX7_piece_0 : decode cX7_piece 0 = .ok (.iload_n 1, 1) := by decide +kernel
theorem dX7_piece_1 : decode cX7_piece 1 = .ok (.ifCond .lt 18, 3) := by decide +kernel
theorem dX7_piece_4 : decode cX7_piece 4 = .ok (.iload_n 1, 1) := by decide +kernel
theorem dX7_piece_5 : decode cX7_piece 5 = .ok (.iconst 1, 1) := by decide +kernel
theorem dX7_piece_6 : decode cX7_piece 6 = .ok (.aload_n 0, 1) := by decide +kernel
theorem dX7_piece_7 : decode cX7_piece 7 = .ok (.getfield 122, 3) := by decide +kernel
theorem dX7_piece_10 : decode cX7_piece 10 = .ok (.aload_n 0, 1) := by decide +kernel
theorem dX7_piece_11 : decode cX7_piece 11 = .ok (.getfield 116, 3) := by decide +kernel
theorem dX7_piece_14 : decode cX7_piece 14 = .ok (.iaload, 1) := by decide +kernel
theorem dX7_piece_15 : decode cX7_piece 15 = .ok (.ishl, 1) := by decide +kernel
theorem dX7_piece_16 : decode cX7_piece 16 = .ok (.if_icmp .lt 5, 3) := by decide +kernel
theorem dX7_piece_19 : decode cX7_piece 19 = .ok (.iconst (-1), 1) := by decide +kernel
theorem dX7_piece_20 : decode cX7_piece 20 = .ok (.ireturn, 1) := by decide +kernel
theorem dX7_piece_21 : decode cX7_piece 21 = .ok (.aload_n 0, 1) := by decide +kernel
theorem dX7_piece_22 : decode cX7_piece 22 = .ok (.invokevirtual 337, 3) := by decide +kernel
theorem dX7_piece_25 : decode cX7_piece 25 = .ok (.aload_n 0, 1) := by decide +kernel
theorem dX7_piece_26 : decode cX7_piece 26 = .ok (.iload_n 1, 1) := by decide +kernel
theorem dX7_piece_27 : decode cX7_piece 27 = .ok (.invokevirtual 331, 3) := by decide +kernel
theorem dX7_piece_30 : decode cX7_piece 30 = .ok (.ifCond .eq 7, 3) := by decide +kernel
theorem dX7_piece_33 : decode cX7_piece 33 = .ok (.iconst 1, 1) := by decide +kernel
theorem dX7_piece_34 : decode cX7_piece 34 = .ok (.goto 4, 3) := by decide +kernel
theorem dX7_piece_37 : decode cX7_piece 37 = .ok (.iconst 0, 1) := by decide +kernel
theorem dX7_piece_38 : decode cX7_piece 38 = .ok (.ireturn, 1) := by decide +kernel
theorem dX7_why_0 : decode cX7_why 0 = .ok (.aload_n 0, 1) := by decide +kernel
theorem dX7_why_1 : decode cX7_why 1 = .ok (.iload_n 1, 1) := by decide +kernel
theorem dX7_why_2 : decode cX7_why 2 = .ok (.invokevirtual 200, 3) := by decide +kernel
theorem dX7_why_5 : decode cX7_why 5 = .ok (.ifCond .eq 10, 3) := by decide +kernel
theorem dX7_why_8 : decode cX7_why 8 = .ok (.aload_n 0, 1) := by decide +kernel
theorem dX7_why_9 : decode cX7_why 9 = .ok (.invokevirtual 340, 3) := by decide +kernel
theorem dX7_why_12 : decode cX7_why 12 = .ok (.ifCond .ge 5, 3) := by decide +kernel
theorem dX7_why_15 : decode cX7_why 15 = .ok (.iconst (-1), 1) := by decide +kernel
theorem dX7_why_16 : decode cX7_why 16 = .ok (.ireturn, 1) := by decide +kernel
theorem dX7_why_17 : decode cX7_why 17 = .ok (.aload_n 0, 1) := by decide +kernel
theorem dX7_why_18 : decode cX7_why 18 = .ok (.getfield 328, 3) := by decide +kernel
theorem dX7_why_21 : decode cX7_why 21 = .ok (.iload_n 1, 1) := by decide +kernel
theorem dX7_why_22 : decode cX7_why 22 = .ok (.ishr, 1) := by decide +kernel
theorem dX7_why_23 : decode cX7_why 23 = .ok (.iconst 1, 1) := by decide +kernel
theorem dX7_why_24 : decode cX7_why 24 = .ok (.iand, 1) := by decide +kernel
theorem dX7_why_25 : decode cX7_why 25 = .ok (.ifCond .ne 5, 3) := by decide +kernel
theorem dX7_why_28 : decode cX7_why 28 = .ok (.iconst 0, 1) := by decide +kernel
theorem dX7_why_29 : decode cX7_why 29 = .ok (.ireturn, 1) := by decide +kernel
theorem dX7_why_30 : decode cX7_why 30 = .ok (.iconst 0, 1) := by decide +kernel
theorem dX7_why_31 : decode cX7_why 31 = .ok (.istore_n 2, 1) := by decide +kernel
theorem dX7_why_32 : decode cX7_why 32 = .ok (.iload_n 2, 1) := by decide +kernel
theorem dX7_why_33 : decode cX7_why 33 = .ok (.aload_n 0, 1) := by decide +kernel
theorem dX7_why_34 : decode cX7_why 34 = .ok (.getfield 138, 3) := by decide +kernel
theorem dX7_why_37 : decode cX7_why 37 = .ok (.aload_n 0, 1) := by decide +kernel
theorem dX7_why_38 : decode cX7_why 38 = .ok (.getfield 141, 3) := by decide +kernel
theorem dX7_why_41 : decode cX7_why 41 = .ok (.iaload, 1) := by decide +kernel
theorem dX7_why_42 : decode cX7_why 42 = .ok (.if_icmp .ge 67, 3) := by decide +kernel
theorem dX7_why_45 : decode cX7_why 45 = .ok (.bipush 10, 2) := by decide +kernel
theorem dX7_why_47 : decode cX7_why 47 = .ok (.aload_n 0, 1) := by decide +kernel
theorem dX7_why_48 : decode cX7_why 48 = .ok (.getfield 141, 3) := by decide +kernel
theorem dX7_why_51 : decode cX7_why 51 = .ok (.imul, 1) := by decide +kernel
theorem dX7_why_52 : decode cX7_why 52 = .ok (.iload_n 2, 1) := by decide +kernel
theorem dX7_why_53 : decode cX7_why 53 = .ok (.iadd, 1) := by decide +kernel
theorem dX7_why_54 : decode cX7_why 54 = .ok (.istore_n 3, 1) := by decide +kernel
theorem dX7_why_55 : decode cX7_why 55 = .ok (.aload_n 0, 1) := by decide +kernel
theorem dX7_why_56 : decode cX7_why 56 = .ok (.getfield 226, 3) := by decide +kernel
theorem dX7_why_59 : decode cX7_why 59 = .ok (.iload_n 3, 1) := by decide +kernel
theorem dX7_why_60 : decode cX7_why 60 = .ok (.iaload, 1) := by decide +kernel
theorem dX7_why_61 : decode cX7_why 61 = .ok (.ifCond .ge 42, 3) := by decide +kernel
theorem dX7_why_64 : decode cX7_why 64 = .ok (.aload_n 0, 1) := by decide +kernel
theorem dX7_why_65 : decode cX7_why 65 = .ok (.getfield 316, 3) := by decide +kernel
theorem dX7_why_68 : decode cX7_why 68 = .ok (.iload_n 2, 1) := by decide +kernel
theorem dX7_why_69 : decode cX7_why 69 = .ok (.iaload, 1) := by decide +kernel
theorem dX7_why_70 : decode cX7_why 70 = .ok (.iload_n 1, 1) := by decide +kernel
theorem dX7_why_71 : decode cX7_why 71 = .ok (.ishr, 1) := by decide +kernel
theorem dX7_why_72 : decode cX7_why 72 = .ok (.iconst 1, 1) := by decide +kernel
theorem dX7_why_73 : decode cX7_why 73 = .ok (.iand, 1) := by decide +kernel
theorem dX7_why_74 : decode cX7_why 74 = .ok (.iconst 1, 1) := by decide +kernel
theorem dX7_why_75 : decode cX7_why 75 = .ok (.if_icmp .ne 28, 3) := by decide +kernel
theorem dX7_why_78 : decode cX7_why 78 = .ok (.aload_n 0, 1) := by decide +kernel
theorem dX7_why_79 : decode cX7_why 79 = .ok (.getfield 316, 3) := by decide +kernel
theorem dX7_why_82 : decode cX7_why 82 = .ok (.iload_n 2, 1) := by decide +kernel
theorem dX7_why_83 : decode cX7_why 83 = .ok (.iaload, 1) := by decide +kernel
theorem dX7_why_84 : decode cX7_why 84 = .ok (.aload_n 0, 1) := by decide +kernel
theorem dX7_why_85 : decode cX7_why 85 = .ok (.getfield 328, 3) := by decide +kernel
theorem dX7_why_88 : decode cX7_why 88 = .ok (.iand, 1) := by decide +kernel
theorem dX7_why_89 : decode cX7_why 89 = .ok (.invokestatic 322, 3) := by decide +kernel
theorem dX7_why_92 : decode cX7_why 92 = .ok (.aload_n 0, 1) := by decide +kernel
theorem dX7_why_93 : decode cX7_why 93 = .ok (.getfield 236, 3) := by decide +kernel
theorem dX7_why_96 : decode cX7_why 96 = .ok (.iload_n 3, 1) := by decide +kernel
theorem dX7_why_97 : decode cX7_why 97 = .ok (.iaload, 1) := by decide +kernel
theorem dX7_why_98 : decode cX7_why 98 = .ok (.if_icmp .gt 5, 3) := by decide +kernel
theorem dX7_why_101 : decode cX7_why 101 = .ok (.iconst 1, 1) := by decide +kernel
theorem dX7_why_102 : decode cX7_why 102 = .ok (.ireturn, 1) := by decide +kernel
theorem dX7_why_103 : decode cX7_why 103 = .ok (.iinc 2 1, 3) := by decide +kernel
theorem dX7_why_106 : decode cX7_why 106 = .ok (.goto (-74), 3) := by decide +kernel
theorem dX7_why_109 : decode cX7_why 109 = .ok (.iconst 0, 1) := by decide +kernel
theorem dX7_why_110 : decode cX7_why 110 = .ok (.istore_n 2, 1) := by decide +kernel
theorem dX7_why_111 : decode cX7_why 111 = .ok (.iload_n 2, 1) := by decide +kernel
theorem dX7_why_112 : decode cX7_why 112 = .ok (.aload_n 0, 1) := by decide +kernel
theorem dX7_why_113 : decode cX7_why 113 = .ok (.getfield 122, 3) := by decide +kernel
theorem dX7_why_116 : decode cX7_why 116 = .ok (.aload_n 0, 1) := by decide +kernel
theorem dX7_why_117 : decode cX7_why 117 = .ok (.getfield 116, 3) := by decide +kernel
theorem dX7_why_120 : decode cX7_why 120 = .ok (.iaload, 1) := by decide +kernel
theorem dX7_why_121 : decode cX7_why 121 = .ok (.if_icmp .ge 42, 3) := by decide +kernel
theorem dX7_why_124 : decode cX7_why 124 = .ok (.iload_n 2, 1) := by decide +kernel
theorem dX7_why_125 : decode cX7_why 125 = .ok (.iload_n 1, 1) := by decide +kernel
theorem dX7_why_126 : decode cX7_why 126 = .ok (.if_icmp .eq 31, 3) := by decide +kernel
theorem dX7_why_129 : decode cX7_why 129 = .ok (.aload_n 0, 1) := by decide +kernel
theorem dX7_why_130 : decode cX7_why 130 = .ok (.getfield 328, 3) := by decide +kernel
theorem dX7_why_133 : decode cX7_why 133 = .ok (.iload_n 2, 1) := by decide +kernel
theorem dX7_why_134 : decode cX7_why 134 = .ok (.ishr, 1) := by decide +kernel
theorem dX7_why_135 : decode cX7_why 135 = .ok (.iconst 1, 1) := by decide +kernel
theorem dX7_why_136 : decode cX7_why 136 = .ok (.iand, 1) := by decide +kernel
theorem dX7_why_137 : decode cX7_why 137 = .ok (.iconst 1, 1) := by decide +kernel
theorem dX7_why_138 : decode cX7_why 138 = .ok (.if_icmp .ne 19, 3) := by decide +kernel
theorem dX7_why_141 : decode cX7_why 141 = .ok (.aload_n 0, 1) := by decide +kernel
theorem dX7_why_142 : decode cX7_why 142 = .ok (.getfield 310, 3) := by decide +kernel
theorem dX7_why_145 : decode cX7_why 145 = .ok (.iload_n 2, 1) := by decide +kernel
theorem dX7_why_146 : decode cX7_why 146 = .ok (.iaload, 1) := by decide +kernel
theorem dX7_why_147 : decode cX7_why 147 = .ok (.iload_n 1, 1) := by decide +kernel
theorem dX7_why_148 : decode cX7_why 148 = .ok (.ishr, 1) := by decide +kernel
theorem dX7_why_149 : decode cX7_why 149 = .ok (.iconst 1, 1) := by decide +kernel
theorem dX7_why_150 : decode cX7_why 150 = .ok (.iand, 1) := by decide +kernel
theorem dX7_why_151 : decode cX7_why 151 = .ok (.iconst 1, 1) := by decide +kernel
theorem dX7_why_152 : decode cX7_why 152 = .ok (.if_icmp .ne 5, 3) := by decide +kernel
theorem dX7_why_155 : decode cX7_why 155 = .ok (.iconst 2, 1) := by decide +kernel
theorem dX7_why_156 : decode cX7_why 156 = .ok (.ireturn, 1) := by decide +kernel
theorem dX7_why_157 : decode cX7_why 157 = .ok (.iinc 2 1, 3) := by decide +kernel
theorem dX7_why_160 : decode cX7_why 160 = .ok (.goto (-49), 3) := by decide +kernel
theorem dX7_why_163 : decode cX7_why 163 = .ok (.iconst 3, 1) := by decide +kernel
theorem dX7_why_164 : decode cX7_why 164 = .ok (.ireturn, 1) := by decide +kernel
theorem dX7_place_0 : decode cX7_place 0 = .ok (.aload_n 0, 1) := by decide +kernel
theorem dX7_place_1 : decode cX7_place 1 = .ok (.getfield 328, 3) := by decide +kernel
theorem dX7_place_4 : decode cX7_place 4 = .ok (.istore_n 1, 1) := by decide +kernel
theorem dX7_place_5 : decode cX7_place 5 = .ok (.iconst 0, 1) := by decide +kernel
theorem dX7_place_6 : decode cX7_place 6 = .ok (.istore_n 2, 1) := by decide +kernel
theorem dX7_place_7 : decode cX7_place 7 = .ok (.iconst 0, 1) := by decide +kernel
theorem dX7_place_8 : decode cX7_place 8 = .ok (.istore_n 3, 1) := by decide +kernel
theorem dX7_place_9 : decode cX7_place 9 = .ok (.iload_n 3, 1) := by decide +kernel
theorem dX7_place_10 : decode cX7_place 10 = .ok (.aload_n 0, 1) := by decide +kernel
theorem dX7_place_11 : decode cX7_place 11 = .ok (.getfield 122, 3) := by decide +kernel
theorem dX7_place_14 : decode cX7_place 14 = .ok (.aload_n 0, 1) := by decide +kernel
theorem dX7_place_15 : decode cX7_place 15 = .ok (.getfield 116, 3) := by decide +kernel
theorem dX7_place_18 : decode cX7_place 18 = .ok (.iaload, 1) := by decide +kernel
theorem dX7_place_19 : decode cX7_place 19 = .ok (.if_icmp .ge 55, 3) := by decide +kernel
theorem dX7_place_22 : decode cX7_place 22 = .ok (.iload_n 1, 1) := by decide +kernel
theorem dX7_place_23 : decode cX7_place 23 = .ok (.iload_n 3, 1) := by decide +kernel
theorem dX7_place_24 : decode cX7_place 24 = .ok (.ishr, 1) := by decide +kernel
theorem dX7_place_25 : decode cX7_place 25 = .ok (.iconst 1, 1) := by decide +kernel
theorem dX7_place_26 : decode cX7_place 26 = .ok (.iand, 1) := by decide +kernel
theorem dX7_place_27 : decode cX7_place 27 = .ok (.ifCond .eq 20, 3) := by decide +kernel
theorem dX7_place_30 : decode cX7_place 30 = .ok (.aload_n 0, 1) := by decide +kernel
theorem dX7_place_31 : decode cX7_place 31 = .ok (.getfield 310, 3) := by decide +kernel
theorem dX7_place_34 : decode cX7_place 34 = .ok (.iload_n 3, 1) := by decide +kernel
theorem dX7_place_35 : decode cX7_place 35 = .ok (.iaload, 1) := by decide +kernel
theorem dX7_place_36 : decode cX7_place 36 = .ok (.iload_n 1, 1) := by decide +kernel
theorem dX7_place_37 : decode cX7_place 37 = .ok (.iand, 1) := by decide +kernel
theorem dX7_place_38 : decode cX7_place 38 = .ok (.iconst 1, 1) := by decide +kernel
theorem dX7_place_39 : decode cX7_place 39 = .ok (.iload_n 3, 1) := by decide +kernel
theorem dX7_place_40 : decode cX7_place 40 = .ok (.ishl, 1) := by decide +kernel
theorem dX7_place_41 : decode cX7_place 41 = .ok (.iconst (-1), 1) := by decide +kernel
theorem dX7_place_42 : decode cX7_place 42 = .ok (.ixor, 1) := by decide +kernel
theorem dX7_place_43 : decode cX7_place 43 = .ok (.iand, 1) := by decide +kernel
theorem dX7_place_44 : decode cX7_place 44 = .ok (.ifCond .eq 9, 3) := by decide +kernel
theorem dX7_place_47 : decode cX7_place 47 = .ok (.iinc 3 1, 3) := by decide +kernel
theorem dX7_place_50 : decode cX7_place 50 = .ok (.goto (-41), 3) := by decide +kernel
theorem dX7_place_53 : decode cX7_place 53 = .ok (.aload_n 0, 1) := by decide +kernel
theorem dX7_place_54 : decode cX7_place 54 = .ok (.getfield 343, 3) := by decide +kernel
theorem dX7_place_57 : decode cX7_place 57 = .ok (.iload_n 2, 1) := by decide +kernel
theorem dX7_place_58 : decode cX7_place 58 = .ok (.iload_n 3, 1) := by decide +kernel
theorem dX7_place_59 : decode cX7_place 59 = .ok (.iastore, 1) := by decide +kernel
theorem dX7_place_60 : decode cX7_place 60 = .ok (.iinc 2 1, 3) := by decide +kernel
theorem dX7_place_63 : decode cX7_place 63 = .ok (.iload_n 1, 1) := by decide +kernel
theorem dX7_place_64 : decode cX7_place 64 = .ok (.iconst 1, 1) := by decide +kernel
theorem dX7_place_65 : decode cX7_place 65 = .ok (.iload_n 3, 1) := by decide +kernel
theorem dX7_place_66 : decode cX7_place 66 = .ok (.ishl, 1) := by decide +kernel
theorem dX7_place_67 : decode cX7_place 67 = .ok (.ixor, 1) := by decide +kernel
theorem dX7_place_68 : decode cX7_place 68 = .ok (.istore_n 1, 1) := by decide +kernel
theorem dX7_place_69 : decode cX7_place 69 = .ok (.iconst 0, 1) := by decide +kernel
theorem dX7_place_70 : decode cX7_place 70 = .ok (.istore_n 3, 1) := by decide +kernel
theorem dX7_place_71 : decode cX7_place 71 = .ok (.goto (-62), 3) := by decide +kernel
theorem dX7_place_74 : decode cX7_place 74 = .ok (.iload_n 2, 1) := by decide +kernel
theorem dX7_place_75 : decode cX7_place 75 = .ok (.ireturn, 1) := by decide +kernel
theorem dX7_order_0 : decode cX7_order 0 = .ok (.aload_n 0, 1) := by decide +kernel
theorem dX7_order_1 : decode cX7_order 1 = .ok (.invokevirtual 340, 3) := by decide +kernel
theorem dX7_order_4 : decode cX7_order 4 = .ok (.ifCond .lt 15, 3) := by decide +kernel
theorem dX7_order_7 : decode cX7_order 7 = .ok (.iload_n 1, 1) := by decide +kernel
theorem dX7_order_8 : decode cX7_order 8 = .ok (.ifCond .lt 11, 3) := by decide +kernel
theorem dX7_order_11 : decode cX7_order 11 = .ok (.iload_n 1, 1) := by decide +kernel
theorem dX7_order_12 : decode cX7_order 12 = .ok (.aload_n 0, 1) := by decide +kernel
theorem dX7_order_13 : decode cX7_order 13 = .ok (.invokevirtual 346, 3) := by decide +kernel
theorem dX7_order_16 : decode cX7_order 16 = .ok (.if_icmp .lt 7, 3) := by decide +kernel
theorem dX7_order_19 : decode cX7_order 19 = .ok (.iconst (-1), 1) := by decide +kernel
theorem dX7_order_20 : decode cX7_order 20 = .ok (.goto 9, 3) := by decide +kernel
theorem dX7_order_23 : decode cX7_order 23 = .ok (.aload_n 0, 1) := by decide +kernel
theorem dX7_order_24 : decode cX7_order 24 = .ok (.getfield 343, 3) := by decide +kernel
theorem dX7_order_27 : decode cX7_order 27 = .ok (.iload_n 1, 1) := by decide +kernel
theorem dX7_order_28 : decode cX7_order 28 = .ok (.iaload, 1) := by decide +kernel
theorem dX7_order_29 : decode cX7_order 29 = .ok (.ireturn, 1) := by decide +kernel
theorem dX7_rings_0 : decode cX7_rings 0 = .ok (.aload_n 0, 1) := by decide +kernel
theorem dX7_rings_1 : decode cX7_rings 1 = .ok (.invokevirtual 340, 3) := by decide +kernel
theorem dX7_rings_4 : decode cX7_rings 4 = .ok (.ifCond .ge 7, 3) := by decide +kernel
theorem dX7_rings_7 : decode cX7_rings 7 = .ok (.iconst (-1), 1) := by decide +kernel
theorem dX7_rings_8 : decode cX7_rings 8 = .ok (.goto 15, 3) := by decide +kernel
theorem dX7_rings_11 : decode cX7_rings 11 = .ok (.aload_n 0, 1) := by decide +kernel
theorem dX7_rings_12 : decode cX7_rings 12 = .ok (.getfield 328, 3) := by decide +kernel
theorem dX7_rings_15 : decode cX7_rings 15 = .ok (.invokestatic 322, 3) := by decide +kernel
theorem dX7_rings_18 : decode cX7_rings 18 = .ok (.aload_n 0, 1) := by decide +kernel
theorem dX7_rings_19 : decode cX7_rings 19 = .ok (.invokevirtual 346, 3) := by decide +kernel
theorem dX7_rings_22 : decode cX7_rings 22 = .ok (.isub, 1) := by decide +kernel
theorem dX7_rings_23 : decode cX7_rings 23 = .ok (.ireturn, 1) := by decide +kernel
theorem dX7_init_0 : decode cX7_init 0 = .ok (.aload_n 0, 1) := by decide +kernel
theorem dX7_init_1 : decode cX7_init 1 = .ok (.invokespecial 349, 3) := by decide +kernel
theorem dX7_init_4 : decode cX7_init 4 = .ok (.aload_n 0, 1) := by decide +kernel
theorem dX7_init_5 : decode cX7_init 5 = .ok (.sipush 1220, 3) := by decide +kernel
theorem dX7_init_8 : decode cX7_init 8 = .ok (.newarray .byte, 2) := by decide +kernel
theorem dX7_init_10 : decode cX7_init 10 = .ok (.putfield 95, 3) := by decide +kernel
theorem dX7_init_13 : decode cX7_init 13 = .ok (.aload_n 0, 1) := by decide +kernel
theorem dX7_init_14 : decode cX7_init 14 = .ok (.sipush 1200, 3) := by decide +kernel
theorem dX7_init_17 : decode cX7_init 17 = .ok (.newarray .byte, 2) := by decide +kernel
theorem dX7_init_19 : decode cX7_init 19 = .ok (.putfield 7, 3) := by decide +kernel
theorem dX7_init_22 : decode cX7_init 22 = .ok (.aload_n 0, 1) := by decide +kernel
theorem dX7_init_23 : decode cX7_init 23 = .ok (.iconst (-1), 1) := by decide +kernel
theorem dX7_init_24 : decode cX7_init 24 = .ok (.putfield 14, 3) := by decide +kernel
theorem dX7_init_27 : decode cX7_init 27 = .ok (.aload_n 0, 1) := by decide +kernel
theorem dX7_init_28 : decode cX7_init 28 = .ok (.bipush 10, 2) := by decide +kernel
theorem dX7_init_30 : decode cX7_init 30 = .ok (.newarray .long, 2) := by decide +kernel
theorem dX7_init_32 : decode cX7_init 32 = .ok (.putfield 102, 3) := by decide +kernel
theorem dX7_init_35 : decode cX7_init 35 = .ok (.aload_n 0, 1) := by decide +kernel
theorem dX7_init_36 : decode cX7_init 36 = .ok (.bipush 50, 2) := by decide +kernel
theorem dX7_init_38 : decode cX7_init 38 = .ok (.newarray .long, 2) := by decide +kernel
theorem dX7_init_40 : decode cX7_init 40 = .ok (.putfield 109, 3) := by decide +kernel
theorem dX7_init_43 : decode cX7_init 43 = .ok (.aload_n 0, 1) := by decide +kernel
theorem dX7_init_44 : decode cX7_init 44 = .ok (.bipush 10, 2) := by decide +kernel
theorem dX7_init_46 : decode cX7_init 46 = .ok (.newarray .int, 2) := by decide +kernel
theorem dX7_init_48 : decode cX7_init 48 = .ok (.putfield 106, 3) := by decide +kernel
theorem dX7_init_51 : decode cX7_init 51 = .ok (.aload_n 0, 1) := by decide +kernel
theorem dX7_init_52 : decode cX7_init 52 = .ok (.bipush 10, 2) := by decide +kernel
theorem dX7_init_54 : decode cX7_init 54 = .ok (.newarray .int, 2) := by decide +kernel
theorem dX7_init_56 : decode cX7_init 56 = .ok (.putfield 160, 3) := by decide +kernel
theorem dX7_init_59 : decode cX7_init 59 = .ok (.aload_n 0, 1) := by decide +kernel
theorem dX7_init_60 : decode cX7_init 60 = .ok (.bipush 50, 2) := by decide +kernel
theorem dX7_init_62 : decode cX7_init 62 = .ok (.newarray .int, 2) := by decide +kernel
theorem dX7_init_64 : decode cX7_init 64 = .ok (.putfield 175, 3) := by decide +kernel
theorem dX7_init_67 : decode cX7_init 67 = .ok (.aload_n 0, 1) := by decide +kernel
theorem dX7_init_68 : decode cX7_init 68 = .ok (.bipush 32, 2) := by decide +kernel
theorem dX7_init_70 : decode cX7_init 70 = .ok (.newarray .int, 2) := by decide +kernel
theorem dX7_init_72 : decode cX7_init 72 = .ok (.putfield 182, 3) := by decide +kernel
theorem dX7_init_75 : decode cX7_init 75 = .ok (.aload_n 0, 1) := by decide +kernel
theorem dX7_init_76 : decode cX7_init 76 = .ok (.bipush 32, 2) := by decide +kernel
theorem dX7_init_78 : decode cX7_init 78 = .ok (.newarray .int, 2) := by decide +kernel
theorem dX7_init_80 : decode cX7_init 80 = .ok (.putfield 185, 3) := by decide +kernel
theorem dX7_init_83 : decode cX7_init 83 = .ok (.aload_n 0, 1) := by decide +kernel
theorem dX7_init_84 : decode cX7_init 84 = .ok (.sipush 160, 3) := by decide +kernel
theorem dX7_init_87 : decode cX7_init 87 = .ok (.newarray .int, 2) := by decide +kernel
theorem dX7_init_89 : decode cX7_init 89 = .ok (.putfield 188, 3) := by decide +kernel
theorem dX7_init_92 : decode cX7_init 92 = .ok (.aload_n 0, 1) := by decide +kernel
theorem dX7_init_93 : decode cX7_init 93 = .ok (.sipush 160, 3) := by decide +kernel
theorem dX7_init_96 : decode cX7_init 96 = .ok (.newarray .int, 2) := by decide +kernel
theorem dX7_init_98 : decode cX7_init 98 = .ok (.putfield 191, 3) := by decide +kernel
theorem dX7_init_101 : decode cX7_init 101 = .ok (.aload_n 0, 1) := by decide +kernel
theorem dX7_init_102 : decode cX7_init 102 = .ok (.iconst 2, 1) := by decide +kernel
theorem dX7_init_103 : decode cX7_init 103 = .ok (.newarray .int, 2) := by decide +kernel
theorem dX7_init_105 : decode cX7_init 105 = .ok (.putfield 98, 3) := by decide +kernel
theorem dX7_init_108 : decode cX7_init 108 = .ok (.aload_n 0, 1) := by decide +kernel
theorem dX7_init_109 : decode cX7_init 109 = .ok (.iconst 2, 1) := by decide +kernel
theorem dX7_init_110 : decode cX7_init 110 = .ok (.newarray .int, 2) := by decide +kernel
theorem dX7_init_112 : decode cX7_init 112 = .ok (.putfield 122, 3) := by decide +kernel
theorem dX7_init_115 : decode cX7_init 115 = .ok (.aload_n 0, 1) := by decide +kernel
theorem dX7_init_116 : decode cX7_init 116 = .ok (.iconst 2, 1) := by decide +kernel
theorem dX7_init_117 : decode cX7_init 117 = .ok (.newarray .int, 2) := by decide +kernel
theorem dX7_init_119 : decode cX7_init 119 = .ok (.putfield 138, 3) := by decide +kernel
theorem dX7_init_122 : decode cX7_init 122 = .ok (.aload_n 0, 1) := by decide +kernel
theorem dX7_init_123 : decode cX7_init 123 = .ok (.bipush 20, 2) := by decide +kernel
theorem dX7_init_125 : decode cX7_init 125 = .ok (.newarray .int, 2) := by decide +kernel
theorem dX7_init_127 : decode cX7_init 127 = .ok (.putfield 229, 3) := by decide +kernel
theorem dX7_init_130 : decode cX7_init 130 = .ok (.aload_n 0, 1) := by decide +kernel
theorem dX7_init_131 : decode cX7_init 131 = .ok (.bipush 20, 2) := by decide +kernel
theorem dX7_init_133 : decode cX7_init 133 = .ok (.newarray .int, 2) := by decide +kernel
theorem dX7_init_135 : decode cX7_init 135 = .ok (.putfield 236, 3) := by decide +kernel
theorem dX7_init_138 : decode cX7_init 138 = .ok (.aload_n 0, 1) := by decide +kernel
theorem dX7_init_139 : decode cX7_init 139 = .ok (.bipush 20, 2) := by decide +kernel
theorem dX7_init_141 : decode cX7_init 141 = .ok (.newarray .int, 2) := by decide +kernel
theorem dX7_init_143 : decode cX7_init 143 = .ok (.putfield 226, 3) := by decide +kernel
theorem dX7_init_146 : decode cX7_init 146 = .ok (.aload_n 0, 1) := by decide +kernel
theorem dX7_init_147 : decode cX7_init 147 = .ok (.bipush 20, 2) := by decide +kernel
theorem dX7_init_149 : decode cX7_init 149 = .ok (.newarray .int, 2) := by decide +kernel
theorem dX7_init_151 : decode cX7_init 151 = .ok (.putfield 254, 3) := by decide +kernel
theorem dX7_init_154 : decode cX7_init 154 = .ok (.aload_n 0, 1) := by decide +kernel
theorem dX7_init_155 : decode cX7_init 155 = .ok (.bipush 20, 2) := by decide +kernel
theorem dX7_init_157 : decode cX7_init 157 = .ok (.newarray .int, 2) := by decide +kernel
theorem dX7_init_159 : decode cX7_init 159 = .ok (.putfield 245, 3) := by decide +kernel
theorem dX7_init_162 : decode cX7_init 162 = .ok (.aload_n 0, 1) := by decide +kernel
theorem dX7_init_163 : decode cX7_init 163 = .ok (.bipush 20, 2) := by decide +kernel
theorem dX7_init_165 : decode cX7_init 165 = .ok (.newarray .int, 2) := by decide +kernel
theorem dX7_init_167 : decode cX7_init 167 = .ok (.putfield 251, 3) := by decide +kernel
theorem dX7_init_170 : decode cX7_init 170 = .ok (.aload_n 0, 1) := by decide +kernel
theorem dX7_init_171 : decode cX7_init 171 = .ok (.sipush 1200, 3) := by decide +kernel
theorem dX7_init_174 : decode cX7_init 174 = .ok (.newarray .int, 2) := by decide +kernel
theorem dX7_init_176 : decode cX7_init 176 = .ok (.putfield 257, 3) := by decide +kernel
theorem dX7_init_179 : decode cX7_init 179 = .ok (.aload_n 0, 1) := by decide +kernel
theorem dX7_init_180 : decode cX7_init 180 = .ok (.sipush 1200, 3) := by decide +kernel
theorem dX7_init_183 : decode cX7_init 183 = .ok (.newarray .int, 2) := by decide +kernel
theorem dX7_init_185 : decode cX7_init 185 = .ok (.putfield 260, 3) := by decide +kernel
theorem dX7_init_188 : decode cX7_init 188 = .ok (.aload_n 0, 1) := by decide +kernel
theorem dX7_init_189 : decode cX7_init 189 = .ok (.bipush 80, 2) := by decide +kernel
theorem dX7_init_191 : decode cX7_init 191 = .ok (.newarray .int, 2) := by decide +kernel
theorem dX7_init_193 : decode cX7_init 193 = .ok (.putfield 287, 3) := by decide +kernel
theorem dX7_init_196 : decode cX7_init 196 = .ok (.aload_n 0, 1) := by decide +kernel
theorem dX7_init_197 : decode cX7_init 197 = .ok (.bipush 80, 2) := by decide +kernel
theorem dX7_init_199 : decode cX7_init 199 = .ok (.newarray .int, 2) := by decide +kernel
theorem dX7_init_201 : decode cX7_init 201 = .ok (.putfield 293, 3) := by decide +kernel
theorem dX7_init_204 : decode cX7_init 204 = .ok (.aload_n 0, 1) := by decide +kernel
theorem dX7_init_205 : decode cX7_init 205 = .ok (.sipush 320, 3) := by decide +kernel
theorem dX7_init_208 : decode cX7_init 208 = .ok (.newarray .int, 2) := by decide +kernel
theorem dX7_init_210 : decode cX7_init 210 = .ok (.putfield 290, 3) := by decide +kernel
theorem dX7_init_213 : decode cX7_init 213 = .ok (.aload_n 0, 1) := by decide +kernel
theorem dX7_init_214 : decode cX7_init 214 = .ok (.bipush 60, 2) := by decide +kernel
theorem dX7_init_216 : decode cX7_init 216 = .ok (.newarray .int, 2) := by decide +kernel
theorem dX7_init_218 : decode cX7_init 218 = .ok (.putfield 263, 3) := by decide +kernel
theorem dX7_init_221 : decode cX7_init 221 = .ok (.aload_n 0, 1) := by decide +kernel
theorem dX7_init_222 : decode cX7_init 222 = .ok (.bipush 50, 2) := by decide +kernel
theorem dX7_init_224 : decode cX7_init 224 = .ok (.newarray .boolean, 2) := by decide +kernel
theorem dX7_init_226 : decode cX7_init 226 = .ok (.putfield 299, 3) := by decide +kernel
theorem dX7_init_229 : decode cX7_init 229 = .ok (.aload_n 0, 1) := by decide +kernel
theorem dX7_init_230 : decode cX7_init 230 = .ok (.bipush 16, 2) := by decide +kernel
theorem dX7_init_232 : decode cX7_init 232 = .ok (.newarray .int, 2) := by decide +kernel
theorem dX7_init_234 : decode cX7_init 234 = .ok (.putfield 310, 3) := by decide +kernel
theorem dX7_init_237 : decode cX7_init 237 = .ok (.aload_n 0, 1) := by decide +kernel
theorem dX7_init_238 : decode cX7_init 238 = .ok (.bipush 10, 2) := by decide +kernel
theorem dX7_init_240 : decode cX7_init 240 = .ok (.newarray .int, 2) := by decide +kernel
theorem dX7_init_242 : decode cX7_init 242 = .ok (.putfield 316, 3) := by decide +kernel
theorem dX7_init_245 : decode cX7_init 245 = .ok (.aload_n 0, 1) := by decide +kernel
theorem dX7_init_246 : decode cX7_init 246 = .ok (.sipush 160, 3) := by decide +kernel
theorem dX7_init_249 : decode cX7_init 249 = .ok (.newarray .int, 2) := by decide +kernel
theorem dX7_init_251 : decode cX7_init 251 = .ok (.putfield 319, 3) := by decide +kernel
theorem dX7_init_254 : decode cX7_init 254 = .ok (.aload_n 0, 1) := by decide +kernel
theorem dX7_init_255 : decode cX7_init 255 = .ok (.bipush 16, 2) := by decide +kernel
theorem dX7_init_257 : decode cX7_init 257 = .ok (.newarray .int, 2) := by decide +kernel
theorem dX7_init_259 : decode cX7_init 259 = .ok (.putfield 343, 3) := by decide +kernel
theorem dX7_init_262 : decode cX7_init 262 = .ok (.aload_n 0, 1) := by decide +kernel
theorem dX7_init_263 : decode cX7_init 263 = .ok (.bipush 25, 2) := by decide +kernel
theorem dX7_init_265 : decode cX7_init 265 = .ok (.newarray .int, 2) := by decide +kernel
theorem dX7_init_267 : decode cX7_init 267 = .ok (.putfield 150, 3) := by decide +kernel
theorem dX7_init_270 : decode cX7_init 270 = .ok (.iconst 0, 1) := by decide +kernel
theorem dX7_init_271 : decode cX7_init 271 = .ok (.istore_n 1, 1) := by decide +kernel
theorem dX7_init_272 : decode cX7_init 272 = .ok (.iload_n 1, 1) := by decide +kernel
theorem dX7_init_273 : decode cX7_init 273 = .ok (.bipush 25, 2) := by decide +kernel
theorem dX7_init_275 : decode cX7_init 275 = .ok (.if_icmp .ge 16, 3) := by decide +kernel
theorem dX7_init_278 : decode cX7_init 278 = .ok (.aload_n 0, 1) := by decide +kernel
theorem dX7_init_279 : decode cX7_init 279 = .ok (.getfield 150, 3) := by decide +kernel
theorem dX7_init_282 : decode cX7_init 282 = .ok (.iload_n 1, 1) := by decide +kernel
theorem dX7_init_283 : decode cX7_init 283 = .ok (.iconst (-1), 1) := by decide +kernel
theorem dX7_init_284 : decode cX7_init 284 = .ok (.iastore, 1) := by decide +kernel
theorem dX7_init_285 : decode cX7_init 285 = .ok (.iinc 1 1, 3) := by decide +kernel
theorem dX7_init_288 : decode cX7_init 288 = .ok (.goto (-16), 3) := by decide +kernel
theorem dX7_init_291 : decode cX7_init 291 = .ok (.return_, 1) := by decide +kernel
theorem dX7_isPlain_0 : decode cX7_isPlain 0 = .ok (.iload_n 1, 1) := by decide +kernel
theorem dX7_isPlain_1 : decode cX7_isPlain 1 = .ok (.ifCond .lt 61, 3) := by decide +kernel
theorem dX7_isPlain_4 : decode cX7_isPlain 4 = .ok (.iload_n 1, 1) := by decide +kernel
theorem dX7_isPlain_5 : decode cX7_isPlain 5 = .ok (.aload_n 0, 1) := by decide +kernel
theorem dX7_isPlain_6 : decode cX7_isPlain 6 = .ok (.getfield 98, 3) := by decide +kernel
theorem dX7_isPlain_9 : decode cX7_isPlain 9 = .ok (.aload_n 0, 1) := by decide +kernel
theorem dX7_isPlain_10 : decode cX7_isPlain 10 = .ok (.getfield 116, 3) := by decide +kernel
theorem dX7_isPlain_13 : decode cX7_isPlain 13 = .ok (.iaload, 1) := by decide +kernel
theorem dX7_isPlain_14 : decode cX7_isPlain 14 = .ok (.if_icmp .ge 48, 3) := by decide +kernel
theorem dX7_isPlain_17 : decode cX7_isPlain 17 = .ok (.iload_n 2, 1) := by decide +kernel
theorem dX7_isPlain_18 : decode cX7_isPlain 18 = .ok (.ifCond .lt 44, 3) := by decide +kernel
theorem dX7_isPlain_21 : decode cX7_isPlain 21 = .ok (.iload_n 2, 1) := by decide +kernel
theorem dX7_isPlain_22 : decode cX7_isPlain 22 = .ok (.aload_n 0, 1) := by decide +kernel
theorem dX7_isPlain_23 : decode cX7_isPlain 23 = .ok (.getfield 106, 3) := by decide +kernel
theorem dX7_isPlain_26 : decode cX7_isPlain 26 = .ok (.iconst 5, 1) := by decide +kernel
theorem dX7_isPlain_27 : decode cX7_isPlain 27 = .ok (.aload_n 0, 1) := by decide +kernel
theorem dX7_isPlain_28 : decode cX7_isPlain 28 = .ok (.getfield 116, 3) := by decide +kernel
theorem dX7_isPlain_31 : decode cX7_isPlain 31 = .ok (.imul, 1) := by decide +kernel
theorem dX7_isPlain_32 : decode cX7_isPlain 32 = .ok (.iload_n 1, 1) := by decide +kernel
theorem dX7_isPlain_33 : decode cX7_isPlain 33 = .ok (.iadd, 1) := by decide +kernel
theorem dX7_isPlain_34 : decode cX7_isPlain 34 = .ok (.iaload, 1) := by decide +kernel
theorem dX7_isPlain_35 : decode cX7_isPlain 35 = .ok (.if_icmp .ge 27, 3) := by decide +kernel
theorem dX7_isPlain_38 : decode cX7_isPlain 38 = .ok (.aload_n 0, 1) := by decide +kernel
theorem dX7_isPlain_39 : decode cX7_isPlain 39 = .ok (.getfield 175, 3) := by decide +kernel
theorem dX7_isPlain_42 : decode cX7_isPlain 42 = .ok (.iconst 5, 1) := by decide +kernel
theorem dX7_isPlain_43 : decode cX7_isPlain 43 = .ok (.iconst 5, 1) := by decide +kernel
theorem dX7_isPlain_44 : decode cX7_isPlain 44 = .ok (.aload_n 0, 1) := by decide +kernel
theorem dX7_isPlain_45 : decode cX7_isPlain 45 = .ok (.getfield 116, 3) := by decide +kernel
theorem dX7_isPlain_48 : decode cX7_isPlain 48 = .ok (.imul, 1) := by decide +kernel
theorem dX7_isPlain_49 : decode cX7_isPlain 49 = .ok (.iload_n 1, 1) := by decide +kernel
theorem dX7_isPlain_50 : decode cX7_isPlain 50 = .ok (.iadd, 1) := by decide +kernel
theorem dX7_isPlain_51 : decode cX7_isPlain 51 = .ok (.imul, 1) := by decide +kernel
theorem dX7_isPlain_52 : decode cX7_isPlain 52 = .ok (.iload_n 2, 1) := by decide +kernel
theorem dX7_isPlain_53 : decode cX7_isPlain 53 = .ok (.iadd, 1) := by decide +kernel
theorem dX7_isPlain_54 : decode cX7_isPlain 54 = .ok (.iaload, 1) := by decide +kernel
theorem dX7_isPlain_55 : decode cX7_isPlain 55 = .ok (.ifCond .ge 7, 3) := by decide +kernel
theorem dX7_isPlain_58 : decode cX7_isPlain 58 = .ok (.iconst 1, 1) := by decide +kernel
theorem dX7_isPlain_59 : decode cX7_isPlain 59 = .ok (.goto 4, 3) := by decide +kernel
theorem dX7_isPlain_62 : decode cX7_isPlain 62 = .ok (.iconst 0, 1) := by decide +kernel
theorem dX7_isPlain_63 : decode cX7_isPlain 63 = .ok (.ireturn, 1) := by decide +kernel
theorem dX7_hide_0 : decode cX7_hide 0 = .ok (.aload_n 0, 1) := by decide +kernel
theorem dX7_hide_1 : decode cX7_hide 1 = .ok (.iload_n 1, 1) := by decide +kernel
theorem dX7_hide_2 : decode cX7_hide 2 = .ok (.iload_n 2, 1) := by decide +kernel
theorem dX7_hide_3 : decode cX7_hide 3 = .ok (.invokevirtual 354, 3) := by decide +kernel
theorem dX7_hide_6 : decode cX7_hide 6 = .ok (.ifCond .eq 15, 3) := by decide +kernel
theorem dX7_hide_9 : decode cX7_hide 9 = .ok (.iload_n 3, 1) := by decide +kernel
theorem dX7_hide_10 : decode cX7_hide 10 = .ok (.iconst (-1), 1) := by decide +kernel
theorem dX7_hide_11 : decode cX7_hide 11 = .ok (.if_icmp .lt 10, 3) := by decide +kernel
theorem dX7_hide_14 : decode cX7_hide 14 = .ok (.iload_n 3, 1) := by decide +kernel
theorem dX7_hide_15 : decode cX7_hide 15 = .ok (.sipush 9999, 3) := by decide +kernel
theorem dX7_hide_18 : decode cX7_hide 18 = .ok (.if_icmp .le 5, 3) := by decide +kernel
theorem dX7_hide_21 : decode cX7_hide 21 = .ok (.iconst 0, 1) := by decide +kernel
theorem dX7_hide_22 : decode cX7_hide 22 = .ok (.ireturn, 1) := by decide +kernel
theorem dX7_hide_23 : decode cX7_hide 23 = .ok (.aload_n 0, 1) := by decide +kernel
theorem dX7_hide_24 : decode cX7_hide 24 = .ok (.getfield 150, 3) := by decide +kernel
theorem dX7_hide_27 : decode cX7_hide 27 = .ok (.iconst 5, 1) := by decide +kernel
theorem dX7_hide_28 : decode cX7_hide 28 = .ok (.iload_n 1, 1) := by decide +kernel
theorem dX7_hide_29 : decode cX7_hide 29 = .ok (.imul, 1) := by decide +kernel
theorem dX7_hide_30 : decode cX7_hide 30 = .ok (.iload_n 2, 1) := by decide +kernel
theorem dX7_hide_31 : decode cX7_hide 31 = .ok (.iadd, 1) := by decide +kernel
theorem dX7_hide_32 : decode cX7_hide 32 = .ok (.iload_n 3, 1) := by decide +kernel
theorem dX7_hide_33 : decode cX7_hide 33 = .ok (.iastore, 1) := by decide +kernel
theorem dX7_hide_34 : decode cX7_hide 34 = .ok (.iconst 1, 1) := by decide +kernel
theorem dX7_hide_35 : decode cX7_hide 35 = .ok (.ireturn, 1) := by decide +kernel
theorem dX7_shown_0 : decode cX7_shown 0 = .ok (.aload_n 0, 1) := by decide +kernel
theorem dX7_shown_1 : decode cX7_shown 1 = .ok (.iload_n 1, 1) := by decide +kernel
theorem dX7_shown_2 : decode cX7_shown 2 = .ok (.iload_n 2, 1) := by decide +kernel
theorem dX7_shown_3 : decode cX7_shown 3 = .ok (.invokevirtual 357, 3) := by decide +kernel
theorem dX7_shown_6 : decode cX7_shown 6 = .ok (.istore_n 3, 1) := by decide +kernel
theorem dX7_shown_7 : decode cX7_shown 7 = .ok (.aload_n 0, 1) := by decide +kernel
theorem dX7_shown_8 : decode cX7_shown 8 = .ok (.iload_n 1, 1) := by decide +kernel
theorem dX7_shown_9 : decode cX7_shown 9 = .ok (.iload_n 2, 1) := by decide +kernel
theorem dX7_shown_10 : decode cX7_shown 10 = .ok (.invokevirtual 203, 3) := by decide +kernel
theorem dX7_shown_13 : decode cX7_shown 13 = .ok (.ifCond .eq 27, 3) := by decide +kernel
theorem dX7_shown_16 : decode cX7_shown 16 = .ok (.aload_n 0, 1) := by decide +kernel
theorem dX7_shown_17 : decode cX7_shown 17 = .ok (.getfield 150, 3) := by decide +kernel
theorem dX7_shown_20 : decode cX7_shown 20 = .ok (.iconst 5, 1) := by decide +kernel
theorem dX7_shown_21 : decode cX7_shown 21 = .ok (.aload_n 0, 1) := by decide +kernel
theorem dX7_shown_22 : decode cX7_shown 22 = .ok (.iload_n 1, 1) := by decide +kernel
theorem dX7_shown_23 : decode cX7_shown 23 = .ok (.invokevirtual 194, 3) := by decide +kernel
theorem dX7_shown_26 : decode cX7_shown 26 = .ok (.iconst 5, 1) := by decide +kernel
theorem dX7_shown_27 : decode cX7_shown 27 = .ok (.aload_n 0, 1) := by decide +kernel
theorem dX7_shown_28 : decode cX7_shown 28 = .ok (.getfield 116, 3) := by decide +kernel
theorem dX7_shown_31 : decode cX7_shown 31 = .ok (.imul, 1) := by decide +kernel
theorem dX7_shown_32 : decode cX7_shown 32 = .ok (.isub, 1) := by decide +kernel
theorem dX7_shown_33 : decode cX7_shown 33 = .ok (.imul, 1) := by decide +kernel
theorem dX7_shown_34 : decode cX7_shown 34 = .ok (.iload_n 2, 1) := by decide +kernel
theorem dX7_shown_35 : decode cX7_shown 35 = .ok (.iadd, 1) := by decide +kernel
theorem dX7_shown_36 : decode cX7_shown 36 = .ok (.iaload, 1) := by decide +kernel
theorem dX7_shown_37 : decode cX7_shown 37 = .ok (.goto 4, 3) := by decide +kernel
theorem dX7_shown_40 : decode cX7_shown 40 = .ok (.iconst (-1), 1) := by decide +kernel
theorem dX7_shown_41 : decode cX7_shown 41 = .ok (.istore 4, 2) := by decide +kernel
theorem dX7_shown_43 : decode cX7_shown 43 = .ok (.iload_n 3, 1) := by decide +kernel
theorem dX7_shown_44 : decode cX7_shown 44 = .ok (.ifCond .lt 8, 3) := by decide +kernel
theorem dX7_shown_47 : decode cX7_shown 47 = .ok (.iload 4, 2) := by decide +kernel
theorem dX7_shown_49 : decode cX7_shown 49 = .ok (.ifCond .ge 7, 3) := by decide +kernel
theorem dX7_shown_52 : decode cX7_shown 52 = .ok (.iload_n 3, 1) := by decide +kernel
theorem dX7_shown_53 : decode cX7_shown 53 = .ok (.goto 22, 3) := by decide +kernel
theorem dX7_shown_56 : decode cX7_shown 56 = .ok (.iload_n 3, 1) := by decide +kernel
theorem dX7_shown_57 : decode cX7_shown 57 = .ok (.i2l, 1) := by decide +kernel
theorem dX7_shown_58 : decode cX7_shown 58 = .ok (.iconst 2, 1) := by decide +kernel
theorem dX7_shown_59 : decode cX7_shown 59 = .ok (.iload 4, 2) := by decide +kernel
theorem dX7_shown_61 : decode cX7_shown 61 = .ok (.imul, 1) := by decide +kernel
theorem dX7_shown_62 : decode cX7_shown 62 = .ok (.iconst 1, 1) := by decide +kernel
theorem dX7_shown_63 : decode cX7_shown 63 = .ok (.iadd, 1) := by decide +kernel
theorem dX7_shown_64 : decode cX7_shown 64 = .ok (.i2l, 1) := by decide +kernel
theorem dX7_shown_65 : decode cX7_shown 65 = .ok (.lmul, 1) := by decide +kernel
theorem dX7_shown_66 : decode cX7_shown 66 = .ok (.iload 4, 2) := by decide +kernel
theorem dX7_shown_68 : decode cX7_shown 68 = .ok (.i2l, 1) := by decide +kernel
theorem dX7_shown_69 : decode cX7_shown 69 = .ok (.ladd, 1) := by decide +kernel
theorem dX7_shown_70 : decode cX7_shown 70 = .ok (.ldc2_w 360, 3) := by decide +kernel
theorem dX7_shown_73 : decode cX7_shown 73 = .ok (.lrem, 1) := by decide +kernel
theorem dX7_shown_74 : decode cX7_shown 74 = .ok (.l2i, 1) := by decide +kernel
theorem dX7_shown_75 : decode cX7_shown 75 = .ok (.ireturn, 1) := by decide +kernel
theorem dX7_total_0 : decode cX7_total 0 = .ok (.iconst 0, 1) := by decide +kernel
theorem dX7_total_1 : decode cX7_total 1 = .ok (.istore 4, 2) := by decide +kernel
theorem dX7_total_3 : decode cX7_total 3 = .ok (.iconst 0, 1) := by decide +kernel
theorem dX7_total_4 : decode cX7_total 4 = .ok (.istore 5, 2) := by decide +kernel
theorem dX7_total_6 : decode cX7_total 6 = .ok (.iload 5, 2) := by decide +kernel
theorem dX7_total_8 : decode cX7_total 8 = .ok (.aload_n 0, 1) := by decide +kernel
theorem dX7_total_9 : decode cX7_total 9 = .ok (.getfield 122, 3) := by decide +kernel
theorem dX7_total_12 : decode cX7_total 12 = .ok (.aload_n 0, 1) := by decide +kernel
theorem dX7_total_13 : decode cX7_total 13 = .ok (.getfield 116, 3) := by decide +kernel
theorem dX7_total_16 : decode cX7_total 16 = .ok (.iaload, 1) := by decide +kernel
theorem dX7_total_17 : decode cX7_total 17 = .ok (.if_icmp .ge 60, 3) := by decide +kernel
theorem dX7_total_20 : decode cX7_total 20 = .ok (.iload_n 3, 1) := by decide +kernel
theorem dX7_total_21 : decode cX7_total 21 = .ok (.iload 5, 2) := by decide +kernel
theorem dX7_total_23 : decode cX7_total 23 = .ok (.ishr, 1) := by decide +kernel
theorem dX7_total_24 : decode cX7_total 24 = .ok (.iconst 1, 1) := by decide +kernel
theorem dX7_total_25 : decode cX7_total 25 = .ok (.iand, 1) := by decide +kernel
theorem dX7_total_26 : decode cX7_total 26 = .ok (.ifCond .eq 45, 3) := by decide +kernel
theorem dX7_total_29 : decode cX7_total 29 = .ok (.aload_n 0, 1) := by decide +kernel
theorem dX7_total_30 : decode cX7_total 30 = .ok (.iload 5, 2) := by decide +kernel
theorem dX7_total_32 : decode cX7_total 32 = .ok (.invokevirtual 194, 3) := by decide +kernel
theorem dX7_total_35 : decode cX7_total 35 = .ok (.iconst 5, 1) := by decide +kernel
theorem dX7_total_36 : decode cX7_total 36 = .ok (.aload_n 0, 1) := by decide +kernel
theorem dX7_total_37 : decode cX7_total 37 = .ok (.getfield 116, 3) := by decide +kernel
theorem dX7_total_40 : decode cX7_total 40 = .ok (.imul, 1) := by decide +kernel
theorem dX7_total_41 : decode cX7_total 41 = .ok (.iload_n 1, 1) := by decide +kernel
theorem dX7_total_42 : decode cX7_total 42 = .ok (.iadd, 1) := by decide +kernel
theorem dX7_total_43 : decode cX7_total 43 = .ok (.if_icmp .ne 28, 3) := by decide +kernel
theorem dX7_total_46 : decode cX7_total 46 = .ok (.aload_n 0, 1) := by decide +kernel
theorem dX7_total_47 : decode cX7_total 47 = .ok (.iload 5, 2) := by decide +kernel
theorem dX7_total_49 : decode cX7_total 49 = .ok (.iload_n 2, 1) := by decide +kernel
theorem dX7_total_50 : decode cX7_total 50 = .ok (.invokevirtual 207, 3) := by decide +kernel
theorem dX7_total_53 : decode cX7_total 53 = .ok (.ifCond .ge 6, 3) := by decide +kernel
theorem dX7_total_56 : decode cX7_total 56 = .ok (.goto 15, 3) := by decide +kernel
theorem dX7_total_59 : decode cX7_total 59 = .ok (.iload 4, 2) := by decide +kernel
theorem dX7_total_61 : decode cX7_total 61 = .ok (.aload_n 0, 1) := by decide +kernel
theorem dX7_total_62 : decode cX7_total 62 = .ok (.iload 5, 2) := by decide +kernel
theorem dX7_total_64 : decode cX7_total 64 = .ok (.iload_n 2, 1) := by decide +kernel
theorem dX7_total_65 : decode cX7_total 65 = .ok (.invokevirtual 207, 3) := by decide +kernel
theorem dX7_total_68 : decode cX7_total 68 = .ok (.iadd, 1) := by decide +kernel
theorem dX7_total_69 : decode cX7_total 69 = .ok (.istore 4, 2) := by decide +kernel
theorem dX7_total_71 : decode cX7_total 71 = .ok (.iinc 5 1, 3) := by decide +kernel
theorem dX7_total_74 : decode cX7_total 74 = .ok (.goto (-68), 3) := by decide +kernel
theorem dX7_total_77 : decode cX7_total 77 = .ok (.iload 4, 2) := by decide +kernel
theorem dX7_total_79 : decode cX7_total 79 = .ok (.ireturn, 1) := by decide +kernel
theorem dX7_weight_0 : decode cX7_weight 0 = .ok (.aload_n 0, 1) := by decide +kernel
theorem dX7_weight_1 : decode cX7_weight 1 = .ok (.iload_n 1, 1) := by decide +kernel
theorem dX7_weight_2 : decode cX7_weight 2 = .ok (.iload_n 2, 1) := by decide +kernel
theorem dX7_weight_3 : decode cX7_weight 3 = .ok (.invokevirtual 354, 3) := by decide +kernel
theorem dX7_weight_6 : decode cX7_weight 6 = .ok (.ifCond .eq 10, 3) := by decide +kernel
theorem dX7_weight_9 : decode cX7_weight 9 = .ok (.aload_n 0, 1) := by decide +kernel
theorem dX7_weight_10 : decode cX7_weight 10 = .ok (.invokevirtual 340, 3) := by decide +kernel
theorem dX7_weight_13 : decode cX7_weight 13 = .ok (.ifCond .ge 5, 3) := by decide +kernel
theorem dX7_weight_16 : decode cX7_weight 16 = .ok (.iconst (-1), 1) := by decide +kernel
theorem dX7_weight_17 : decode cX7_weight 17 = .ok (.ireturn, 1) := by decide +kernel
theorem dX7_weight_18 : decode cX7_weight 18 = .ok (.aload_n 0, 1) := by decide +kernel
theorem dX7_weight_19 : decode cX7_weight 19 = .ok (.iload_n 1, 1) := by decide +kernel
theorem dX7_weight_20 : decode cX7_weight 20 = .ok (.iload_n 2, 1) := by decide +kernel
theorem dX7_weight_21 : decode cX7_weight 21 = .ok (.aload_n 0, 1) := by decide +kernel
theorem dX7_weight_22 : decode cX7_weight 22 = .ok (.getfield 147, 3) := by decide +kernel
theorem dX7_weight_25 : decode cX7_weight 25 = .ok (.iconst (-1), 1) := by decide +kernel
theorem dX7_weight_26 : decode cX7_weight 26 = .ok (.ixor, 1) := by decide +kernel
theorem dX7_weight_27 : decode cX7_weight 27 = .ok (.invokevirtual 362, 3) := by decide +kernel
theorem dX7_weight_30 : decode cX7_weight 30 = .ok (.istore 4, 2) := by decide +kernel
theorem dX7_weight_32 : decode cX7_weight 32 = .ok (.aload_n 0, 1) := by decide +kernel
theorem dX7_weight_33 : decode cX7_weight 33 = .ok (.iload_n 1, 1) := by decide +kernel
theorem dX7_weight_34 : decode cX7_weight 34 = .ok (.iload_n 2, 1) := by decide +kernel
theorem dX7_weight_35 : decode cX7_weight 35 = .ok (.aload_n 0, 1) := by decide +kernel
theorem dX7_weight_36 : decode cX7_weight 36 = .ok (.getfield 328, 3) := by decide +kernel
theorem dX7_weight_39 : decode cX7_weight 39 = .ok (.invokevirtual 362, 3) := by decide +kernel
theorem dX7_weight_42 : decode cX7_weight 42 = .ok (.istore 5, 2) := by decide +kernel
theorem dX7_weight_44 : decode cX7_weight 44 = .ok (.iload 5, 2) := by decide +kernel
theorem dX7_weight_46 : decode cX7_weight 46 = .ok (.ifCond .ne 5, 3) := by decide +kernel
theorem dX7_weight_49 : decode cX7_weight 49 = .ok (.iconst (-1), 1) := by decide +kernel
theorem dX7_weight_50 : decode cX7_weight 50 = .ok (.ireturn, 1) := by decide +kernel
theorem dX7_weight_51 : decode cX7_weight 51 = .ok (.iload 4, 2) := by decide +kernel
theorem dX7_weight_53 : decode cX7_weight 53 = .ok (.istore 6, 2) := by decide +kernel
theorem dX7_weight_55 : decode cX7_weight 55 = .ok (.iload 5, 2) := by decide +kernel
theorem dX7_weight_57 : decode cX7_weight 57 = .ok (.istore 7, 2) := by decide +kernel
theorem dX7_weight_59 : decode cX7_weight 59 = .ok (.iload 7, 2) := by decide +kernel
theorem dX7_weight_61 : decode cX7_weight 61 = .ok (.ifCond .le 21, 3) := by decide +kernel
theorem dX7_weight_64 : decode cX7_weight 64 = .ok (.iload 6, 2) := by decide +kernel
theorem dX7_weight_66 : decode cX7_weight 66 = .ok (.iload 7, 2) := by decide +kernel
theorem dX7_weight_68 : decode cX7_weight 68 = .ok (.irem, 1) := by decide +kernel
theorem dX7_weight_69 : decode cX7_weight 69 = .ok (.istore 8, 2) := by decide +kernel
theorem dX7_weight_71 : decode cX7_weight 71 = .ok (.iload 7, 2) := by decide +kernel
theorem dX7_weight_73 : decode cX7_weight 73 = .ok (.istore 6, 2) := by decide +kernel
theorem dX7_weight_75 : decode cX7_weight 75 = .ok (.iload 8, 2) := by decide +kernel
theorem dX7_weight_77 : decode cX7_weight 77 = .ok (.istore 7, 2) := by decide +kernel
theorem dX7_weight_79 : decode cX7_weight 79 = .ok (.goto (-20), 3) := by decide +kernel
theorem dX7_weight_82 : decode cX7_weight 82 = .ok (.iload_n 3, 1) := by decide +kernel
theorem dX7_weight_83 : decode cX7_weight 83 = .ok (.ifCond .eq 8, 3) := by decide +kernel
theorem dX7_weight_86 : decode cX7_weight 86 = .ok (.iload 5, 2) := by decide +kernel
theorem dX7_weight_88 : decode cX7_weight 88 = .ok (.goto 5, 3) := by decide +kernel
theorem dX7_weight_91 : decode cX7_weight 91 = .ok (.iload 4, 2) := by decide +kernel
theorem dX7_weight_93 : decode cX7_weight 93 = .ok (.iload 6, 2) := by decide +kernel
theorem dX7_weight_95 : decode cX7_weight 95 = .ok (.idiv, 1) := by decide +kernel
theorem dX7_weight_96 : decode cX7_weight 96 = .ok (.ireturn, 1) := by decide +kernel
theorem dX7_about_0 : decode cX7_about 0 = .ok (.iload_n 1, 1) := by decide +kernel
theorem dX7_about_1 : decode cX7_about 1 = .ok (.tableswitch 87 0 5 #[39, 49, 59, 69, 77, 82], 39) := by decide +kernel
theorem dX7_about_40 : decode cX7_about 40 = .ok (.aload_n 0, 1) := by decide +kernel
theorem dX7_about_41 : decode cX7_about 41 = .ok (.getfield 98, 3) := by decide +kernel
theorem dX7_about_44 : decode cX7_about 44 = .ok (.aload_n 0, 1) := by decide +kernel
theorem dX7_about_45 : decode cX7_about 45 = .ok (.getfield 116, 3) := by decide +kernel
theorem dX7_about_48 : decode cX7_about 48 = .ok (.iaload, 1) := by decide +kernel
theorem dX7_about_49 : decode cX7_about 49 = .ok (.ireturn, 1) := by decide +kernel
theorem dX7_about_50 : decode cX7_about 50 = .ok (.aload_n 0, 1) := by decide +kernel
theorem dX7_about_51 : decode cX7_about 51 = .ok (.getfield 122, 3) := by decide +kernel
theorem dX7_about_54 : decode cX7_about 54 = .ok (.aload_n 0, 1) := by decide +kernel
theorem dX7_about_55 : decode cX7_about 55 = .ok (.getfield 116, 3) := by decide +kernel
theorem dX7_about_58 : decode cX7_about 58 = .ok (.iaload, 1) := by decide +kernel
theorem dX7_about_59 : decode cX7_about 59 = .ok (.ireturn, 1) := by decide +kernel
theorem dX7_about_60 : decode cX7_about 60 = .ok (.aload_n 0, 1) := by decide +kernel
theorem dX7_about_61 : decode cX7_about 61 = .ok (.getfield 138, 3) := by decide +kernel
theorem dX7_about_64 : decode cX7_about 64 = .ok (.aload_n 0, 1) := by decide +kernel
theorem dX7_about_65 : decode cX7_about 65 = .ok (.getfield 141, 3) := by decide +kernel
theorem dX7_about_68 : decode cX7_about 68 = .ok (.iaload, 1) := by decide +kernel
theorem dX7_about_69 : decode cX7_about 69 = .ok (.ireturn, 1) := by decide +kernel
theorem dX7_about_70 : decode cX7_about 70 = .ok (.aload_n 0, 1) := by decide +kernel
theorem dX7_about_71 : decode cX7_about 71 = .ok (.getfield 147, 3) := by decide +kernel
theorem dX7_about_74 : decode cX7_about 74 = .ok (.invokestatic 322, 3) := by decide +kernel
theorem dX7_about_77 : decode cX7_about 77 = .ok (.ireturn, 1) := by decide +kernel
theorem dX7_about_78 : decode cX7_about 78 = .ok (.aload_n 0, 1) := by decide +kernel
theorem dX7_about_79 : decode cX7_about 79 = .ok (.getfield 144, 3) := by decide +kernel
theorem dX7_about_82 : decode cX7_about 82 = .ok (.ireturn, 1) := by decide +kernel
theorem dX7_about_83 : decode cX7_about 83 = .ok (.aload_n 0, 1) := by decide +kernel
theorem dX7_about_84 : decode cX7_about 84 = .ok (.getfield 92, 3) := by decide +kernel
theorem dX7_about_87 : decode cX7_about 87 = .ok (.ireturn, 1) := by decide +kernel
theorem dX7_about_88 : decode cX7_about 88 = .ok (.iload_n 1, 1) := by decide +kernel
theorem dX7_about_89 : decode cX7_about 89 = .ok (.bipush 10, 2) := by decide +kernel
theorem dX7_about_91 : decode cX7_about 91 = .ok (.if_icmp .lt 36, 3) := by decide +kernel
theorem dX7_about_94 : decode cX7_about 94 = .ok (.iload_n 1, 1) := by decide +kernel
theorem dX7_about_95 : decode cX7_about 95 = .ok (.bipush 10, 2) := by decide +kernel
theorem dX7_about_97 : decode cX7_about 97 = .ok (.aload_n 0, 1) := by decide +kernel
theorem dX7_about_98 : decode cX7_about 98 = .ok (.getfield 98, 3) := by decide +kernel
theorem dX7_about_101 : decode cX7_about 101 = .ok (.aload_n 0, 1) := by decide +kernel
theorem dX7_about_102 : decode cX7_about 102 = .ok (.getfield 116, 3) := by decide +kernel
theorem dX7_about_105 : decode cX7_about 105 = .ok (.iaload, 1) := by decide +kernel
theorem dX7_about_106 : decode cX7_about 106 = .ok (.iadd, 1) := by decide +kernel
theorem dX7_about_107 : decode cX7_about 107 = .ok (.if_icmp .ge 20, 3) := by decide +kernel
theorem dX7_about_110 : decode cX7_about 110 = .ok (.aload_n 0, 1) := by decide +kernel
theorem dX7_about_111 : decode cX7_about 111 = .ok (.getfield 106, 3) := by decide +kernel
theorem dX7_about_114 : decode cX7_about 114 = .ok (.iconst 5, 1) := by decide +kernel
theorem dX7_about_115 : decode cX7_about 115 = .ok (.aload_n 0, 1) := by decide +kernel
theorem dX7_about_116 : decode cX7_about 116 = .ok (.getfield 116, 3) := by decide +kernel
theorem dX7_about_119 : decode cX7_about 119 = .ok (.imul, 1) := by decide +kernel
theorem dX7_about_120 : decode cX7_about 120 = .ok (.iload_n 1, 1) := by decide +kernel
theorem dX7_about_121 : decode cX7_about 121 = .ok (.iadd, 1) := by decide +kernel
theorem dX7_about_122 : decode cX7_about 122 = .ok (.bipush 10, 2) := by decide +kernel
theorem dX7_about_124 : decode cX7_about 124 = .ok (.isub, 1) := by decide +kernel
theorem dX7_about_125 : decode cX7_about 125 = .ok (.iaload, 1) := by decide +kernel
theorem dX7_about_126 : decode cX7_about 126 = .ok (.ireturn, 1) := by decide +kernel
theorem dX7_about_127 : decode cX7_about 127 = .ok (.iload_n 1, 1) := by decide +kernel
theorem dX7_about_128 : decode cX7_about 128 = .ok (.bipush 20, 2) := by decide +kernel
theorem dX7_about_130 : decode cX7_about 130 = .ok (.if_icmp .lt 38, 3) := by decide +kernel
theorem dX7_about_133 : decode cX7_about 133 = .ok (.iload_n 1, 1) := by decide +kernel
theorem dX7_about_134 : decode cX7_about 134 = .ok (.bipush 20, 2) := by decide +kernel
theorem dX7_about_136 : decode cX7_about 136 = .ok (.aload_n 0, 1) := by decide +kernel
theorem dX7_about_137 : decode cX7_about 137 = .ok (.getfield 98, 3) := by decide +kernel
theorem dX7_about_140 : decode cX7_about 140 = .ok (.aload_n 0, 1) := by decide +kernel
theorem dX7_about_141 : decode cX7_about 141 = .ok (.getfield 116, 3) := by decide +kernel
theorem dX7_about_144 : decode cX7_about 144 = .ok (.iaload, 1) := by decide +kernel
theorem dX7_about_145 : decode cX7_about 145 = .ok (.iadd, 1) := by decide +kernel
theorem dX7_about_146 : decode cX7_about 146 = .ok (.if_icmp .ge 22, 3) := by decide +kernel
theorem dX7_about_149 : decode cX7_about 149 = .ok (.aload_n 0, 1) := by decide +kernel
theorem dX7_about_150 : decode cX7_about 150 = .ok (.getfield 160, 3) := by decide +kernel
theorem dX7_about_153 : decode cX7_about 153 = .ok (.iconst 5, 1) := by decide +kernel
theorem dX7_about_154 : decode cX7_about 154 = .ok (.aload_n 0, 1) := by decide +kernel
theorem dX7_about_155 : decode cX7_about 155 = .ok (.getfield 116, 3) := by decide +kernel
theorem dX7_about_158 : decode cX7_about 158 = .ok (.imul, 1) := by decide +kernel
theorem dX7_about_159 : decode cX7_about 159 = .ok (.iload_n 1, 1) := by decide +kernel
theorem dX7_about_160 : decode cX7_about 160 = .ok (.iadd, 1) := by decide +kernel
theorem dX7_about_161 : decode cX7_about 161 = .ok (.bipush 20, 2) := by decide +kernel
theorem dX7_about_163 : decode cX7_about 163 = .ok (.isub, 1) := by decide +kernel
theorem dX7_about_164 : decode cX7_about 164 = .ok (.iaload, 1) := by decide +kernel
theorem dX7_about_165 : decode cX7_about 165 = .ok (.goto 4, 3) := by decide +kernel
theorem dX7_about_168 : decode cX7_about 168 = .ok (.iconst (-1), 1) := by decide +kernel
theorem dX7_about_169 : decode cX7_about 169 = .ok (.ireturn, 1) := by decide +kernel
theorem dX7_feed_0 : decode cX7_feed 0 = .ok (.aload_n 0, 1) := by decide +kernel
theorem dX7_feed_1 : decode cX7_feed 1 = .ok (.getfield 92, 3) := by decide +kernel
theorem dX7_feed_4 : decode cX7_feed 4 = .ok (.bipush 20, 2) := by decide +kernel
theorem dX7_feed_6 : decode cX7_feed 6 = .ok (.iadd, 1) := by decide +kernel
theorem dX7_feed_7 : decode cX7_feed 7 = .ok (.sipush 1200, 3) := by decide +kernel
theorem dX7_feed_10 : decode cX7_feed 10 = .ok (.if_icmp .le 5, 3) := by decide +kernel
theorem dX7_feed_13 : decode cX7_feed 13 = .ok (.iconst (-1), 1) := by decide +kernel
theorem dX7_feed_14 : decode cX7_feed 14 = .ok (.ireturn, 1) := by decide +kernel
theorem dX7_feed_15 : decode cX7_feed 15 = .ok (.iconst 0, 1) := by decide +kernel
theorem dX7_feed_16 : decode cX7_feed 16 = .ok (.istore 6, 2) := by decide +kernel
theorem dX7_feed_18 : decode cX7_feed 18 = .ok (.iload 6, 2) := by decide +kernel
theorem dX7_feed_20 : decode cX7_feed 20 = .ok (.bipush 20, 2) := by decide +kernel
theorem dX7_feed_22 : decode cX7_feed 22 = .ok (.if_icmp .ge 83, 3) := by decide +kernel
theorem dX7_feed_25 : decode cX7_feed 25 = .ok (.iload 6, 2) := by decide +kernel
theorem dX7_feed_27 : decode cX7_feed 27 = .ok (.iconst 4, 1) := by decide +kernel
theorem dX7_feed_28 : decode cX7_feed 28 = .ok (.if_icmp .ge 7, 3) := by decide +kernel
theorem dX7_feed_31 : decode cX7_feed 31 = .ok (.iload_n 1, 1) := by decide +kernel
theorem dX7_feed_32 : decode cX7_feed 32 = .ok (.goto 39, 3) := by decide +kernel
theorem dX7_feed_35 : decode cX7_feed 35 = .ok (.iload 6, 2) := by decide +kernel
theorem dX7_feed_37 : decode cX7_feed 37 = .ok (.bipush 8, 2) := by decide +kernel
theorem dX7_feed_39 : decode cX7_feed 39 = .ok (.if_icmp .ge 7, 3) := by decide +kernel
theorem dX7_feed_42 : decode cX7_feed 42 = .ok (.iload_n 2, 1) := by decide +kernel
theorem dX7_feed_43 : decode cX7_feed 43 = .ok (.goto 28, 3) := by decide +kernel
theorem dX7_feed_46 : decode cX7_feed 46 = .ok (.iload 6, 2) := by decide +kernel
theorem dX7_feed_48 : decode cX7_feed 48 = .ok (.bipush 12, 2) := by decide +kernel
theorem dX7_feed_50 : decode cX7_feed 50 = .ok (.if_icmp .ge 7, 3) := by decide +kernel
theorem dX7_feed_53 : decode cX7_feed 53 = .ok (.iload_n 3, 1) := by decide +kernel
theorem dX7_feed_54 : decode cX7_feed 54 = .ok (.goto 17, 3) := by decide +kernel
theorem dX7_feed_57 : decode cX7_feed 57 = .ok (.iload 6, 2) := by decide +kernel
theorem dX7_feed_59 : decode cX7_feed 59 = .ok (.bipush 16, 2) := by decide +kernel
theorem dX7_feed_61 : decode cX7_feed 61 = .ok (.if_icmp .ge 8, 3) := by decide +kernel
theorem dX7_feed_64 : decode cX7_feed 64 = .ok (.iload 4, 2) := by decide +kernel
theorem dX7_feed_66 : decode cX7_feed 66 = .ok (.goto 5, 3) := by decide +kernel
theorem dX7_feed_69 : decode cX7_feed 69 = .ok (.iload 5, 2) := by decide +kernel
theorem dX7_feed_71 : decode cX7_feed 71 = .ok (.istore 7, 2) := by decide +kernel
theorem dX7_feed_73 : decode cX7_feed 73 = .ok (.aload_n 0, 1) := by decide +kernel
theorem dX7_feed_74 : decode cX7_feed 74 = .ok (.getfield 95, 3) := by decide +kernel
theorem dX7_feed_77 : decode cX7_feed 77 = .ok (.aload_n 0, 1) := by decide +kernel
theorem dX7_feed_78 : decode cX7_feed 78 = .ok (.getfield 92, 3) := by decide +kernel
theorem dX7_feed_81 : decode cX7_feed 81 = .ok (.iload 6, 2) := by decide +kernel
theorem dX7_feed_83 : decode cX7_feed 83 = .ok (.iadd, 1) := by decide +kernel
theorem dX7_feed_84 : decode cX7_feed 84 = .ok (.iload 7, 2) := by decide +kernel
theorem dX7_feed_86 : decode cX7_feed 86 = .ok (.bipush 24, 2) := by decide +kernel
theorem dX7_feed_88 : decode cX7_feed 88 = .ok (.bipush 8, 2) := by decide +kernel
theorem dX7_feed_90 : decode cX7_feed 90 = .ok (.iload 6, 2) := by decide +kernel
theorem dX7_feed_92 : decode cX7_feed 92 = .ok (.iconst 3, 1) := by decide +kernel
theorem dX7_feed_93 : decode cX7_feed 93 = .ok (.iand, 1) := by decide +kernel
theorem dX7_feed_94 : decode cX7_feed 94 = .ok (.imul, 1) := by decide +kernel
theorem dX7_feed_95 : decode cX7_feed 95 = .ok (.isub, 1) := by decide +kernel
theorem dX7_feed_96 : decode cX7_feed 96 = .ok (.ishr, 1) := by decide +kernel
theorem dX7_feed_97 : decode cX7_feed 97 = .ok (.i2b, 1) := by decide +kernel
theorem dX7_feed_98 : decode cX7_feed 98 = .ok (.bastore, 1) := by decide +kernel
theorem dX7_feed_99 : decode cX7_feed 99 = .ok (.iinc 6 1, 3) := by decide +kernel
theorem dX7_feed_102 : decode cX7_feed 102 = .ok (.goto (-84), 3) := by decide +kernel
theorem dX7_feed_105 : decode cX7_feed 105 = .ok (.aload_n 0, 1) := by decide +kernel
theorem dX7_feed_106 : decode cX7_feed 106 = .ok (.dup, 1) := by decide +kernel
theorem dX7_feed_107 : decode cX7_feed 107 = .ok (.getfield 92, 3) := by decide +kernel
theorem dX7_feed_110 : decode cX7_feed 110 = .ok (.bipush 20, 2) := by decide +kernel
theorem dX7_feed_112 : decode cX7_feed 112 = .ok (.iadd, 1) := by decide +kernel
theorem dX7_feed_113 : decode cX7_feed 113 = .ok (.putfield 92, 3) := by decide +kernel
theorem dX7_feed_116 : decode cX7_feed 116 = .ok (.aload_n 0, 1) := by decide +kernel
theorem dX7_feed_117 : decode cX7_feed 117 = .ok (.getfield 92, 3) := by decide +kernel
theorem dX7_feed_120 : decode cX7_feed 120 = .ok (.ireturn, 1) := by decide +kernel
theorem dX7_end_0 : decode cX7_end 0 = .ok (.iload_n 1, 1) := by decide +kernel
theorem dX7_end_1 : decode cX7_end 1 = .ok (.ifCond .lt 11, 3) := by decide +kernel
theorem dX7_end_4 : decode cX7_end 4 = .ok (.iload_n 1, 1) := by decide +kernel
theorem dX7_end_5 : decode cX7_end 5 = .ok (.aload_n 0, 1) := by decide +kernel
theorem dX7_end_6 : decode cX7_end 6 = .ok (.getfield 92, 3) := by decide +kernel
theorem dX7_end_9 : decode cX7_end 9 = .ok (.if_icmp .le 5, 3) := by decide +kernel
theorem dX7_end_12 : decode cX7_end 12 = .ok (.iconst (-1), 1) := by decide +kernel
theorem dX7_end_13 : decode cX7_end 13 = .ok (.ireturn, 1) := by decide +kernel
theorem dX7_end_14 : decode cX7_end 14 = .ok (.aload_n 0, 1) := by decide +kernel
theorem dX7_end_15 : decode cX7_end 15 = .ok (.iload_n 1, 1) := by decide +kernel
theorem dX7_end_16 : decode cX7_end 16 = .ok (.putfield 92, 3) := by decide +kernel
theorem dX7_end_19 : decode cX7_end 19 = .ok (.iload_n 1, 1) := by decide +kernel
theorem dX7_end_20 : decode cX7_end 20 = .ok (.ireturn, 1) := by decide +kernel
end

section
-- ===== PART A: goes FIRST, ahead of the names: the tables' words, and 'selects' of the private methods out of them =====
/-- a private method of a class that the tables say can be made, by its rows of tables_1 -/
def lw_okq (q : MethodName × Nat) : Prop := (q.1.cls ≠ "java/lang/invoke/MethodHandle" ∧ q.1.cls ≠ "java/lang/invoke/VarHandle") ∧ Cond.instantiable q.1.cls q.2 ∈ tables_1 ∧ Cond.privateMethod q.1 ∈ tables_1 ∧ Cond.instanceMethod q.1 ∈ tables_1
theorem lw_p0 : lw_okq (⟨"KettleInquest", "finding", "(I)I"⟩, 7) := ⟨⟨by decide +kernel, by decide +kernel⟩, List.mem_of_getElem? (i := 14) (by decide +kernel), List.mem_of_getElem? (i := 161) (by decide +kernel), List.mem_of_getElem? (i := 162) (by decide +kernel)⟩
theorem lw_p1 : lw_okq (⟨"KettleInquest", "isWitness", "(I)Z"⟩, 7) := ⟨⟨by decide +kernel, by decide +kernel⟩, List.mem_of_getElem? (i := 14) (by decide +kernel), List.mem_of_getElem? (i := 188) (by decide +kernel), List.mem_of_getElem? (i := 189) (by decide +kernel)⟩
theorem lw_p2 : lw_okq (⟨"KettleInquest$Hall", "plumberHeat", "(II)I"⟩, 11) := ⟨⟨by decide +kernel, by decide +kernel⟩, List.mem_of_getElem? (i := 22) (by decide +kernel), List.mem_of_getElem? (i := 239) (by decide +kernel), List.mem_of_getElem? (i := 240) (by decide +kernel)⟩
theorem lw_p3 : lw_okq (⟨"KettleInquest$Hall", "witnessHeat", "(II)I"⟩, 11) := ⟨⟨by decide +kernel, by decide +kernel⟩, List.mem_of_getElem? (i := 22) (by decide +kernel), List.mem_of_getElem? (i := 247) (by decide +kernel), List.mem_of_getElem? (i := 248) (by decide +kernel)⟩
theorem lw_p4 : lw_okq (⟨"KettleInquest$Hall", "wifeHeat", "(II)I"⟩, 11) := ⟨⟨by decide +kernel, by decide +kernel⟩, List.mem_of_getElem? (i := 22) (by decide +kernel), List.mem_of_getElem? (i := 252) (by decide +kernel), List.mem_of_getElem? (i := 253) (by decide +kernel)⟩
theorem lw_p5 : lw_okq (⟨"KettleInquest$Hall", "anotherPlumberLies", "(II)Z"⟩, 11) := ⟨⟨by decide +kernel, by decide +kernel⟩, List.mem_of_getElem? (i := 22) (by decide +kernel), List.mem_of_getElem? (i := 256) (by decide +kernel), List.mem_of_getElem? (i := 257) (by decide +kernel)⟩
theorem lw_p6 : lw_okq (⟨"KettleInquest$Hall", "learnsBy", "(IIZ)Z"⟩, 11) := ⟨⟨by decide +kernel, by decide +kernel⟩, List.mem_of_getElem? (i := 22) (by decide +kernel), List.mem_of_getElem? (i := 278) (by decide +kernel), List.mem_of_getElem? (i := 279) (by decide +kernel)⟩
theorem lw_p7 : lw_okq (⟨"KettleInquest$Clerk", "nextToken", "()V"⟩, 7) := ⟨⟨by decide +kernel, by decide +kernel⟩, List.mem_of_getElem? (i := 80) (by decide +kernel), List.mem_of_getElem? (i := 390) (by decide +kernel), List.mem_of_getElem? (i := 391) (by decide +kernel)⟩
theorem lw_p8 : lw_okq (⟨"KettleInquest$Clerk", "endOfRun", "(CC)I"⟩, 7) := ⟨⟨by decide +kernel, by decide +kernel⟩, List.mem_of_getElem? (i := 80) (by decide +kernel), List.mem_of_getElem? (i := 394) (by decide +kernel), List.mem_of_getElem? (i := 395) (by decide +kernel)⟩
theorem lw_p9 : lw_okq (⟨"KettleInquest$Clerk", "numberThere", "()I"⟩, 7) := ⟨⟨by decide +kernel, by decide +kernel⟩, List.mem_of_getElem? (i := 80) (by decide +kernel), List.mem_of_getElem? (i := 398) (by decide +kernel), List.mem_of_getElem? (i := 399) (by decide +kernel)⟩
theorem lw_p10 : lw_okq (⟨"KettleInquest$Clerk", "takeItem", "(LKettleInquest$Hall;)Z"⟩, 7) := ⟨⟨by decide +kernel, by decide +kernel⟩, List.mem_of_getElem? (i := 80) (by decide +kernel), List.mem_of_getElem? (i := 402) (by decide +kernel), List.mem_of_getElem? (i := 403) (by decide +kernel)⟩
theorem lw_p11 : lw_okq (⟨"KettleInquest$Clerk", "kindNamed", "()I"⟩, 7) := ⟨⟨by decide +kernel, by decide +kernel⟩, List.mem_of_getElem? (i := 80) (by decide +kernel), List.mem_of_getElem? (i := 406) (by decide +kernel), List.mem_of_getElem? (i := 407) (by decide +kernel)⟩
theorem lw_p12 : lw_okq (⟨"KettleInquest$Clerk", "isWord", "(Ljava/lang/String;)Z"⟩, 7) := ⟨⟨by decide +kernel, by decide +kernel⟩, List.mem_of_getElem? (i := 80) (by decide +kernel), List.mem_of_getElem? (i := 419) (by decide +kernel), List.mem_of_getElem? (i := 420) (by decide +kernel)⟩
theorem lw_p13 : lw_okq (⟨"KettleInquest$Clerk", "takeWitness", "(LKettleInquest$Hall;I)Z"⟩, 7) := ⟨⟨by decide +kernel, by decide +kernel⟩, List.mem_of_getElem? (i := 80) (by decide +kernel), List.mem_of_getElem? (i := 471) (by decide +kernel), List.mem_of_getElem? (i := 472) (by decide +kernel)⟩
theorem lw_p14 : lw_okq (⟨"KettleInquest$Clerk", "isNumberUpTo", "(I)Z"⟩, 7) := ⟨⟨by decide +kernel, by decide +kernel⟩, List.mem_of_getElem? (i := 80) (by decide +kernel), List.mem_of_getElem? (i := 477) (by decide +kernel), List.mem_of_getElem? (i := 478) (by decide +kernel)⟩
theorem lw_p15 : lw_okq (⟨"KettleInquest$Clerk", "takeFacts", "()Z"⟩, 7) := ⟨⟨by decide +kernel, by decide +kernel⟩, List.mem_of_getElem? (i := 80) (by decide +kernel), List.mem_of_getElem? (i := 482) (by decide +kernel), List.mem_of_getElem? (i := 483) (by decide +kernel)⟩
def lw_privs_1 : List (MethodName × Nat) := [(⟨"KettleInquest", "finding", "(I)I"⟩, 7), (⟨"KettleInquest", "isWitness", "(I)Z"⟩, 7), (⟨"KettleInquest$Hall", "plumberHeat", "(II)I"⟩, 11), (⟨"KettleInquest$Hall", "witnessHeat", "(II)I"⟩, 11), (⟨"KettleInquest$Hall", "wifeHeat", "(II)I"⟩, 11), (⟨"KettleInquest$Hall", "anotherPlumberLies", "(II)Z"⟩, 11), (⟨"KettleInquest$Hall", "learnsBy", "(IIZ)Z"⟩, 11), (⟨"KettleInquest$Clerk", "nextToken", "()V"⟩, 7), (⟨"KettleInquest$Clerk", "endOfRun", "(CC)I"⟩, 7), (⟨"KettleInquest$Clerk", "numberThere", "()I"⟩, 7), (⟨"KettleInquest$Clerk", "takeItem", "(LKettleInquest$Hall;)Z"⟩, 7), (⟨"KettleInquest$Clerk", "kindNamed", "()I"⟩, 7), (⟨"KettleInquest$Clerk", "isWord", "(Ljava/lang/String;)Z"⟩, 7), (⟨"KettleInquest$Clerk", "takeWitness", "(LKettleInquest$Hall;I)Z"⟩, 7), (⟨"KettleInquest$Clerk", "isNumberUpTo", "(I)Z"⟩, 7), (⟨"KettleInquest$Clerk", "takeFacts", "()Z"⟩, 7)]
theorem lw_r1 : ∀ q ∈ lw_privs_1, lw_okq q := List.forall_mem_cons.mpr ⟨lw_p0, List.forall_mem_cons.mpr ⟨lw_p1, List.forall_mem_cons.mpr ⟨lw_p2, List.forall_mem_cons.mpr ⟨lw_p3, List.forall_mem_cons.mpr ⟨lw_p4, List.forall_mem_cons.mpr ⟨lw_p5, List.forall_mem_cons.mpr ⟨lw_p6, List.forall_mem_cons.mpr ⟨lw_p7, List.forall_mem_cons.mpr ⟨lw_p8, List.forall_mem_cons.mpr ⟨lw_p9, List.forall_mem_cons.mpr ⟨lw_p10, List.forall_mem_cons.mpr ⟨lw_p11, List.forall_mem_cons.mpr ⟨lw_p12, List.forall_mem_cons.mpr ⟨lw_p13, List.forall_mem_cons.mpr ⟨lw_p14, List.forall_mem_cons.mpr ⟨lw_p15, fun _ h => absurd h List.not_mem_nil⟩⟩⟩⟩⟩⟩⟩⟩⟩⟩⟩⟩⟩⟩⟩⟩
theorem lw_p16 : lw_okq (⟨"KettleInquest$Clerk", "takeTruth", "(LKettleInquest$Hall;Z)Z"⟩, 7) := ⟨⟨by decide +kernel, by decide +kernel⟩, List.mem_of_getElem? (i := 80) (by decide +kernel), List.mem_of_getElem? (i := 488) (by decide +kernel), List.mem_of_getElem? (i := 489) (by decide +kernel)⟩
theorem lw_p17 : lw_okq (⟨"KettleInquest$Clerk", "takeWater", "(LKettleInquest$Hall;)Z"⟩, 7) := ⟨⟨by decide +kernel, by decide +kernel⟩, List.mem_of_getElem? (i := 80) (by decide +kernel), List.mem_of_getElem? (i := 494) (by decide +kernel), List.mem_of_getElem? (i := 495) (by decide +kernel)⟩
theorem lw_p18 : lw_okq (⟨"KettleInquestModel", "becomes", "(II)I"⟩, 20) := ⟨⟨by decide +kernel, by decide +kernel⟩, List.mem_of_getElem? (i := 584) (by decide +kernel), List.mem_of_getElem? (i := 658) (by decide +kernel), List.mem_of_getElem? (i := 659) (by decide +kernel)⟩
theorem lw_p19 : lw_okq (⟨"KettleInquestModel", "finds", "(I)I"⟩, 20) := ⟨⟨by decide +kernel, by decide +kernel⟩, List.mem_of_getElem? (i := 584) (by decide +kernel), List.mem_of_getElem? (i := 663) (by decide +kernel), List.mem_of_getElem? (i := 664) (by decide +kernel)⟩
theorem lw_p20 : lw_okq (⟨"KettleInquestModel", "adds", "(IIII)V"⟩, 20) := ⟨⟨by decide +kernel, by decide +kernel⟩, List.mem_of_getElem? (i := 584) (by decide +kernel), List.mem_of_getElem? (i := 679) (by decide +kernel), List.mem_of_getElem? (i := 680) (by decide +kernel)⟩
theorem lw_p21 : lw_okq (⟨"KettleInquestModel", "puts", "(III)V"⟩, 20) := ⟨⟨by decide +kernel, by decide +kernel⟩, List.mem_of_getElem? (i := 584) (by decide +kernel), List.mem_of_getElem? (i := 683) (by decide +kernel), List.mem_of_getElem? (i := 684) (by decide +kernel)⟩
theorem lw_p22 : lw_okq (⟨"KettleInquestModel", "isOne", "(I)Z"⟩, 20) := ⟨⟨by decide +kernel, by decide +kernel⟩, List.mem_of_getElem? (i := 584) (by decide +kernel), List.mem_of_getElem? (i := 691) (by decide +kernel), List.mem_of_getElem? (i := 692) (by decide +kernel)⟩
theorem lw_p23 : lw_okq (⟨"KettleInquestModel", "lies", "(I)I"⟩, 20) := ⟨⟨by decide +kernel, by decide +kernel⟩, List.mem_of_getElem? (i := 584) (by decide +kernel), List.mem_of_getElem? (i := 695) (by decide +kernel), List.mem_of_getElem? (i := 696) (by decide +kernel)⟩
theorem lw_p24 : lw_okq (⟨"KettleInquestModel", "its", "(II)I"⟩, 20) := ⟨⟨by decide +kernel, by decide +kernel⟩, List.mem_of_getElem? (i := 584) (by decide +kernel), List.mem_of_getElem? (i := 699) (by decide +kernel), List.mem_of_getElem? (i := 700) (by decide +kernel)⟩
theorem lw_p25 : lw_okq (⟨"KettleInquestModel", "right", "(I)I"⟩, 20) := ⟨⟨by decide +kernel, by decide +kernel⟩, List.mem_of_getElem? (i := 584) (by decide +kernel), List.mem_of_getElem? (i := 703) (by decide +kernel), List.mem_of_getElem? (i := 704) (by decide +kernel)⟩
theorem lw_p26 : lw_okq (⟨"KettleInquestModel", "lucky", "(I)I"⟩, 20) := ⟨⟨by decide +kernel, by decide +kernel⟩, List.mem_of_getElem? (i := 584) (by decide +kernel), List.mem_of_getElem? (i := 707) (by decide +kernel), List.mem_of_getElem? (i := 708) (by decide +kernel)⟩
theorem lw_p27 : lw_okq (⟨"KettleInquestModel", "wrong", "(I)I"⟩, 20) := ⟨⟨by decide +kernel, by decide +kernel⟩, List.mem_of_getElem? (i := 584) (by decide +kernel), List.mem_of_getElem? (i := 711) (by decide +kernel), List.mem_of_getElem? (i := 712) (by decide +kernel)⟩
theorem lw_p28 : lw_okq (⟨"KettleInquestModel", "doubting", "(I)I"⟩, 20) := ⟨⟨by decide +kernel, by decide +kernel⟩, List.mem_of_getElem? (i := 584) (by decide +kernel), List.mem_of_getElem? (i := 715) (by decide +kernel), List.mem_of_getElem? (i := 716) (by decide +kernel)⟩
theorem lw_p29 : lw_okq (⟨"KettleInquestModel", "heating", "(II)I"⟩, 20) := ⟨⟨by decide +kernel, by decide +kernel⟩, List.mem_of_getElem? (i := 584) (by decide +kernel), List.mem_of_getElem? (i := 739) (by decide +kernel), List.mem_of_getElem? (i := 740) (by decide +kernel)⟩
theorem lw_p30 : lw_okq (⟨"KettleInquestModel", "besideLiar", "(II)Z"⟩, 20) := ⟨⟨by decide +kernel, by decide +kernel⟩, List.mem_of_getElem? (i := 584) (by decide +kernel), List.mem_of_getElem? (i := 743) (by decide +kernel), List.mem_of_getElem? (i := 744) (by decide +kernel)⟩
theorem lw_p31 : lw_okq (⟨"KettleInquestModel", "isPlumber", "(I)Z"⟩, 20) := ⟨⟨by decide +kernel, by decide +kernel⟩, List.mem_of_getElem? (i := 584) (by decide +kernel), List.mem_of_getElem? (i := 747) (by decide +kernel), List.mem_of_getElem? (i := 748) (by decide +kernel)⟩
def lw_privs_2 : List (MethodName × Nat) := [(⟨"KettleInquest$Clerk", "takeTruth", "(LKettleInquest$Hall;Z)Z"⟩, 7), (⟨"KettleInquest$Clerk", "takeWater", "(LKettleInquest$Hall;)Z"⟩, 7), (⟨"KettleInquestModel", "becomes", "(II)I"⟩, 20), (⟨"KettleInquestModel", "finds", "(I)I"⟩, 20), (⟨"KettleInquestModel", "adds", "(IIII)V"⟩, 20), (⟨"KettleInquestModel", "puts", "(III)V"⟩, 20), (⟨"KettleInquestModel", "isOne", "(I)Z"⟩, 20), (⟨"KettleInquestModel", "lies", "(I)I"⟩, 20), (⟨"KettleInquestModel", "its", "(II)I"⟩, 20), (⟨"KettleInquestModel", "right", "(I)I"⟩, 20), (⟨"KettleInquestModel", "lucky", "(I)I"⟩, 20), (⟨"KettleInquestModel", "wrong", "(I)I"⟩, 20), (⟨"KettleInquestModel", "doubting", "(I)I"⟩, 20), (⟨"KettleInquestModel", "heating", "(II)I"⟩, 20), (⟨"KettleInquestModel", "besideLiar", "(II)Z"⟩, 20), (⟨"KettleInquestModel", "isPlumber", "(I)Z"⟩, 20)]
theorem lw_r2 : ∀ q ∈ lw_privs_2, lw_okq q := List.forall_mem_cons.mpr ⟨lw_p16, List.forall_mem_cons.mpr ⟨lw_p17, List.forall_mem_cons.mpr ⟨lw_p18, List.forall_mem_cons.mpr ⟨lw_p19, List.forall_mem_cons.mpr ⟨lw_p20, List.forall_mem_cons.mpr ⟨lw_p21, List.forall_mem_cons.mpr ⟨lw_p22, List.forall_mem_cons.mpr ⟨lw_p23, List.forall_mem_cons.mpr ⟨lw_p24, List.forall_mem_cons.mpr ⟨lw_p25, List.forall_mem_cons.mpr ⟨lw_p26, List.forall_mem_cons.mpr ⟨lw_p27, List.forall_mem_cons.mpr ⟨lw_p28, List.forall_mem_cons.mpr ⟨lw_p29, List.forall_mem_cons.mpr ⟨lw_p30, List.forall_mem_cons.mpr ⟨lw_p31, fun _ h => absurd h List.not_mem_nil⟩⟩⟩⟩⟩⟩⟩⟩⟩⟩⟩⟩⟩⟩⟩⟩
theorem lw_p32 : lw_okq (⟨"KettleInquestModel", "answers", "(II)V"⟩, 20) := ⟨⟨by decide +kernel, by decide +kernel⟩, List.mem_of_getElem? (i := 584) (by decide +kernel), List.mem_of_getElem? (i := 755) (by decide +kernel), List.mem_of_getElem? (i := 756) (by decide +kernel)⟩
theorem lw_p33 : lw_okq (⟨"KettleInquestModel", "swaps", "(II)V"⟩, 20) := ⟨⟨by decide +kernel, by decide +kernel⟩, List.mem_of_getElem? (i := 584) (by decide +kernel), List.mem_of_getElem? (i := 766) (by decide +kernel), List.mem_of_getElem? (i := 767) (by decide +kernel)⟩
theorem lw_p34 : lw_okq (⟨"KettleInquestModel", "passes", "(I)V"⟩, 20) := ⟨⟨by decide +kernel, by decide +kernel⟩, List.mem_of_getElem? (i := 584) (by decide +kernel), List.mem_of_getElem? (i := 776) (by decide +kernel), List.mem_of_getElem? (i := 777) (by decide +kernel)⟩
theorem lw_p35 : lw_okq (⟨"KettleInquestModel", "oneMinute", "()V"⟩, 20) := ⟨⟨by decide +kernel, by decide +kernel⟩, List.mem_of_getElem? (i := 584) (by decide +kernel), List.mem_of_getElem? (i := 780) (by decide +kernel), List.mem_of_getElem? (i := 781) (by decide +kernel)⟩
theorem lw_p36 : lw_okq (⟨"KettleInquestModel", "whose", "()I"⟩, 20) := ⟨⟨by decide +kernel, by decide +kernel⟩, List.mem_of_getElem? (i := 584) (by decide +kernel), List.mem_of_getElem? (i := 784) (by decide +kernel), List.mem_of_getElem? (i := 785) (by decide +kernel)⟩
theorem lw_p37 : lw_okq (⟨"KettleInquestModel", "asked", "()I"⟩, 20) := ⟨⟨by decide +kernel, by decide +kernel⟩, List.mem_of_getElem? (i := 584) (by decide +kernel), List.mem_of_getElem? (i := 788) (by decide +kernel), List.mem_of_getElem? (i := 789) (by decide +kernel)⟩
theorem lw_p38 : lw_okq (⟨"KettleInquestModel", "moveAll", "(Z[I)V"⟩, 20) := ⟨⟨by decide +kernel, by decide +kernel⟩, List.mem_of_getElem? (i := 584) (by decide +kernel), List.mem_of_getElem? (i := 800) (by decide +kernel), List.mem_of_getElem? (i := 801) (by decide +kernel)⟩
theorem lw_p39 : lw_okq (⟨"KettleInquestModel", "teaBehind", "(I)I"⟩, 20) := ⟨⟨by decide +kernel, by decide +kernel⟩, List.mem_of_getElem? (i := 584) (by decide +kernel), List.mem_of_getElem? (i := 825) (by decide +kernel), List.mem_of_getElem? (i := 826) (by decide +kernel)⟩
theorem lw_p40 : lw_okq (⟨"KettleInquestModel", "advance", "()V"⟩, 20) := ⟨⟨by decide +kernel, by decide +kernel⟩, List.mem_of_getElem? (i := 584) (by decide +kernel), List.mem_of_getElem? (i := 861) (by decide +kernel), List.mem_of_getElem? (i := 862) (by decide +kernel)⟩
theorem lw_p41 : lw_okq (⟨"KettleInquestModel", "byteAt", "(I)I"⟩, 20) := ⟨⟨by decide +kernel, by decide +kernel⟩, List.mem_of_getElem? (i := 584) (by decide +kernel), List.mem_of_getElem? (i := 865) (by decide +kernel), List.mem_of_getElem? (i := 866) (by decide +kernel)⟩
theorem lw_p42 : lw_okq (⟨"KettleInquestModel", "wantItem", "()V"⟩, 20) := ⟨⟨by decide +kernel, by decide +kernel⟩, List.mem_of_getElem? (i := 584) (by decide +kernel), List.mem_of_getElem? (i := 878) (by decide +kernel), List.mem_of_getElem? (i := 879) (by decide +kernel)⟩
theorem lw_p43 : lw_okq (⟨"KettleInquestModel", "kindHere", "()I"⟩, 20) := ⟨⟨by decide +kernel, by decide +kernel⟩, List.mem_of_getElem? (i := 584) (by decide +kernel), List.mem_of_getElem? (i := 882) (by decide +kernel), List.mem_of_getElem? (i := 883) (by decide +kernel)⟩
theorem lw_p44 : lw_okq (⟨"KettleInquestModel", "isWord", "(J)Z"⟩, 20) := ⟨⟨by decide +kernel, by decide +kernel⟩, List.mem_of_getElem? (i := 584) (by decide +kernel), List.mem_of_getElem? (i := 887) (by decide +kernel), List.mem_of_getElem? (i := 888) (by decide +kernel)⟩
theorem lw_p45 : lw_okq (⟨"KettleInquestModel", "wantOne", "(I)V"⟩, 20) := ⟨⟨by decide +kernel, by decide +kernel⟩, List.mem_of_getElem? (i := 584) (by decide +kernel), List.mem_of_getElem? (i := 896) (by decide +kernel), List.mem_of_getElem? (i := 897) (by decide +kernel)⟩
theorem lw_p46 : lw_okq (⟨"KettleInquestModel", "mayWant", "(JIII)I"⟩, 20) := ⟨⟨by decide +kernel, by decide +kernel⟩, List.mem_of_getElem? (i := 584) (by decide +kernel), List.mem_of_getElem? (i := 901) (by decide +kernel), List.mem_of_getElem? (i := 902) (by decide +kernel)⟩
theorem lw_p47 : lw_okq (⟨"KettleInquestModel", "wantNumber", "(II)I"⟩, 20) := ⟨⟨by decide +kernel, by decide +kernel⟩, List.mem_of_getElem? (i := 584) (by decide +kernel), List.mem_of_getElem? (i := 905) (by decide +kernel), List.mem_of_getElem? (i := 906) (by decide +kernel)⟩
def lw_privs_3 : List (MethodName × Nat) := [(⟨"KettleInquestModel", "answers", "(II)V"⟩, 20), (⟨"KettleInquestModel", "swaps", "(II)V"⟩, 20), (⟨"KettleInquestModel", "passes", "(I)V"⟩, 20), (⟨"KettleInquestModel", "oneMinute", "()V"⟩, 20), (⟨"KettleInquestModel", "whose", "()I"⟩, 20), (⟨"KettleInquestModel", "asked", "()I"⟩, 20), (⟨"KettleInquestModel", "moveAll", "(Z[I)V"⟩, 20), (⟨"KettleInquestModel", "teaBehind", "(I)I"⟩, 20), (⟨"KettleInquestModel", "advance", "()V"⟩, 20), (⟨"KettleInquestModel", "byteAt", "(I)I"⟩, 20), (⟨"KettleInquestModel", "wantItem", "()V"⟩, 20), (⟨"KettleInquestModel", "kindHere", "()I"⟩, 20), (⟨"KettleInquestModel", "isWord", "(J)Z"⟩, 20), (⟨"KettleInquestModel", "wantOne", "(I)V"⟩, 20), (⟨"KettleInquestModel", "mayWant", "(JIII)I"⟩, 20), (⟨"KettleInquestModel", "wantNumber", "(II)I"⟩, 20)]
theorem lw_r3 : ∀ q ∈ lw_privs_3, lw_okq q := List.forall_mem_cons.mpr ⟨lw_p32, List.forall_mem_cons.mpr ⟨lw_p33, List.forall_mem_cons.mpr ⟨lw_p34, List.forall_mem_cons.mpr ⟨lw_p35, List.forall_mem_cons.mpr ⟨lw_p36, List.forall_mem_cons.mpr ⟨lw_p37, List.forall_mem_cons.mpr ⟨lw_p38, List.forall_mem_cons.mpr ⟨lw_p39, List.forall_mem_cons.mpr ⟨lw_p40, List.forall_mem_cons.mpr ⟨lw_p41, List.forall_mem_cons.mpr ⟨lw_p42, List.forall_mem_cons.mpr ⟨lw_p43, List.forall_mem_cons.mpr ⟨lw_p44, List.forall_mem_cons.mpr ⟨lw_p45, List.forall_mem_cons.mpr ⟨lw_p46, List.forall_mem_cons.mpr ⟨lw_p47, fun _ h => absurd h List.not_mem_nil⟩⟩⟩⟩⟩⟩⟩⟩⟩⟩⟩⟩⟩⟩⟩⟩
theorem lw_p48 : lw_okq (⟨"KettleInquestModel", "mayFacts", "(J)I"⟩, 20) := ⟨⟨by decide +kernel, by decide +kernel⟩, List.mem_of_getElem? (i := 584) (by decide +kernel), List.mem_of_getElem? (i := 910) (by decide +kernel), List.mem_of_getElem? (i := 911) (by decide +kernel)⟩
theorem lw_p49 : lw_okq (⟨"KettleInquestModel", "wantTruth", "(Z)V"⟩, 20) := ⟨⟨by decide +kernel, by decide +kernel⟩, List.mem_of_getElem? (i := 584) (by decide +kernel), List.mem_of_getElem? (i := 916) (by decide +kernel), List.mem_of_getElem? (i := 917) (by decide +kernel)⟩
theorem lw_p50 : lw_okq (⟨"KettleInquestModel", "isPart", "(III)Z"⟩, 20) := ⟨⟨by decide +kernel, by decide +kernel⟩, List.mem_of_getElem? (i := 584) (by decide +kernel), List.mem_of_getElem? (i := 942) (by decide +kernel), List.mem_of_getElem? (i := 943) (by decide +kernel)⟩
theorem lw_p51 : lw_okq (⟨"KettleInquestModel", "badSheet", "(I)I"⟩, 20) := ⟨⟨by decide +kernel, by decide +kernel⟩, List.mem_of_getElem? (i := 584) (by decide +kernel), List.mem_of_getElem? (i := 950) (by decide +kernel), List.mem_of_getElem? (i := 951) (by decide +kernel)⟩
theorem lw_p52 : lw_okq (⟨"KettleInquestModel", "isSo", "(I)Z"⟩, 20) := ⟨⟨by decide +kernel, by decide +kernel⟩, List.mem_of_getElem? (i := 584) (by decide +kernel), List.mem_of_getElem? (i := 963) (by decide +kernel), List.mem_of_getElem? (i := 964) (by decide +kernel)⟩
theorem lw_p53 : lw_okq (⟨"KettleInquestModel", "liesOfAll", "()I"⟩, 20) := ⟨⟨by decide +kernel, by decide +kernel⟩, List.mem_of_getElem? (i := 584) (by decide +kernel), List.mem_of_getElem? (i := 983) (by decide +kernel), List.mem_of_getElem? (i := 984) (by decide +kernel)⟩
theorem lw_p54 : lw_okq (⟨"KettleInquestModel", "sureOfAll", "()I"⟩, 20) := ⟨⟨by decide +kernel, by decide +kernel⟩, List.mem_of_getElem? (i := 584) (by decide +kernel), List.mem_of_getElem? (i := 990) (by decide +kernel), List.mem_of_getElem? (i := 991) (by decide +kernel)⟩
def lw_privs_4 : List (MethodName × Nat) := [(⟨"KettleInquestModel", "mayFacts", "(J)I"⟩, 20), (⟨"KettleInquestModel", "wantTruth", "(Z)V"⟩, 20), (⟨"KettleInquestModel", "isPart", "(III)Z"⟩, 20), (⟨"KettleInquestModel", "badSheet", "(I)I"⟩, 20), (⟨"KettleInquestModel", "isSo", "(I)Z"⟩, 20), (⟨"KettleInquestModel", "liesOfAll", "()I"⟩, 20), (⟨"KettleInquestModel", "sureOfAll", "()I"⟩, 20)]
theorem lw_r4 : ∀ q ∈ lw_privs_4, lw_okq q := List.forall_mem_cons.mpr ⟨lw_p48, List.forall_mem_cons.mpr ⟨lw_p49, List.forall_mem_cons.mpr ⟨lw_p50, List.forall_mem_cons.mpr ⟨lw_p51, List.forall_mem_cons.mpr ⟨lw_p52, List.forall_mem_cons.mpr ⟨lw_p53, List.forall_mem_cons.mpr ⟨lw_p54, fun _ h => absurd h List.not_mem_nil⟩⟩⟩⟩⟩⟩⟩
def lw_privs : List (MethodName × Nat) := lw_privs_1 ++ (lw_privs_2 ++ (lw_privs_3 ++ (lw_privs_4)))
def lw_tbl : List Cond := k2_sels lw_privs ++ tables_1
theorem lw_privs_ok : ∀ q ∈ lw_privs, lw_okq q := by
  show ∀ q ∈ lw_privs_1 ++ (lw_privs_2 ++ (lw_privs_3 ++ (lw_privs_4))), lw_okq q
  exact List.forall_mem_append.mpr ⟨lw_r1, List.forall_mem_append.mpr ⟨lw_r2, List.forall_mem_append.mpr ⟨lw_r3, lw_r4⟩⟩⟩
end
section
/-! NAMES, by program: fields, methods, the words of the tables that hold in every warmed state -/
def kq_tbl : List Cond := lw_tbl.filter goodWord
theorem kq_in_of {w : Cond} {n : Nat} (h : lw_tbl[n]? = some w) (hg : goodWord w = true) : w ∈ kq_tbl := List.mem_filter.mpr ⟨List.mem_of_getElem? h, hg⟩
theorem kq_good : ∀ w ∈ kq_tbl, (w.onTables && w.keeps) = true ∨ ∃ ty, w = .arrayClass ty := fun w h => good_of_word (List.mem_filter.mp h).2
def kq_F0 : u_T := fun k => match k with
  | 0 => ("KettleInquest", "hall", "LKettleInquest$Hall;", true)
  | 1 => ("KettleInquest", "trial", "LKettleInquest$Hall;", true)
  | 2 => ("KettleInquest", "kept", "LKettleInquest$Hall;", true)
  | 3 => ("KettleInquest", "isKept", "Z", false)
  | 4 => ("KettleInquest", "clerk", "LKettleInquest$Clerk;", true)
  | 5 => ("KettleInquest", "sheets", "[LKettleInquest$Sheet;", true)
  | _ => ("KettleInquest", "found", "[I", true)
def kq_t0 : Nat → FieldType := fun k => match k with
  | 0 => .object "KettleInquest$Hall"
  | 1 => .object "KettleInquest$Hall"
  | 2 => .object "KettleInquest$Hall"
  | 3 => .boolean
  | 4 => .object "KettleInquest$Clerk"
  | 5 => .array (.object "KettleInquest$Sheet")
  | _ => .array (.int)
def kq_pl0 : Nat → Nat := fun k => match k with
  | 0 => 193
  | 1 => 195
  | 2 => 197
  | 3 => 199
  | 4 => 201
  | 5 => 203
  | _ => 205
theorem kq_n0 : ∀ a, a < 7 → ∀ b, b < 7 → a ≠ b → (kq_F0 a).2.1 ≠ (kq_F0 b).2.1 := by decide +kernel
theorem kq_to0 : ∀ k, k < 7 → parseFieldDescriptor (kq_F0 k).2.2.1 = some (kq_t0 k) := by decide +kernel
theorem kq_lw0 : ∀ k, k < 7 → lw_tbl[kq_pl0 k]? = some (u_lay "KettleInquest" kq_F0 k) := by decide +kernel
theorem kq_gw0 : ∀ k, k < 7 → goodWord (u_lay "KettleInquest" kq_F0 k) = true := by decide +kernel
theorem kq_i0 : ∀ w ∈ u_ws "KettleInquest" kq_F0 7, w ∈ kq_tbl := by
  intro w hw
  obtain ⟨k, hk, rfl⟩ := List.mem_map.mp hw
  exact kq_in_of (kq_lw0 k (List.mem_range.mp hk)) (kq_gw0 k (List.mem_range.mp hk))
def kq_F1 : u_T := fun k => match k with
  | 0 => ("KettleInquest$Hall", "truth", "I", false)
  | 1 => ("KettleInquest$Hall", "heat", "I", false)
  | 2 => ("KettleInquest$Hall", "water", "I", false)
  | 3 => ("KettleInquest$Hall", "boilsAt", "I", false)
  | 4 => ("KettleInquest$Hall", "tea", "I", false)
  | 5 => ("KettleInquest$Hall", "minute", "I", false)
  | 6 => ("KettleInquest$Hall", "count", "I", false)
  | 7 => ("KettleInquest$Hall", "kinds", "[I", true)
  | 8 => ("KettleInquest$Hall", "known", "[I", true)
  | 9 => ("KettleInquest$Hall", "said", "[I", true)
  | _ => ("KettleInquest$Hall", "sures", "[I", true)
def kq_t1 : Nat → FieldType := fun k => match k with
  | 0 => .int
  | 1 => .int
  | 2 => .int
  | 3 => .int
  | 4 => .int
  | 5 => .int
  | 6 => .int
  | 7 => .array (.int)
  | 8 => .array (.int)
  | 9 => .array (.int)
  | _ => .array (.int)
def kq_pl1 : Nat → Nat := fun k => match k with
  | 0 => 110
  | 1 => 112
  | 2 => 114
  | 3 => 116
  | 4 => 118
  | 5 => 120
  | 6 => 122
  | 7 => 124
  | 8 => 126
  | 9 => 128
  | _ => 130
theorem kq_n1 : ∀ a, a < 11 → ∀ b, b < 11 → a ≠ b → (kq_F1 a).2.1 ≠ (kq_F1 b).2.1 := by decide +kernel
theorem kq_to1 : ∀ k, k < 11 → parseFieldDescriptor (kq_F1 k).2.2.1 = some (kq_t1 k) := by decide +kernel
theorem kq_lw1 : ∀ k, k < 11 → lw_tbl[kq_pl1 k]? = some (u_lay "KettleInquest$Hall" kq_F1 k) := by decide +kernel
theorem kq_gw1 : ∀ k, k < 11 → goodWord (u_lay "KettleInquest$Hall" kq_F1 k) = true := by decide +kernel
theorem kq_i1 : ∀ w ∈ u_ws "KettleInquest$Hall" kq_F1 11, w ∈ kq_tbl := by
  intro w hw
  obtain ⟨k, hk, rfl⟩ := List.mem_map.mp hw
  exact kq_in_of (kq_lw1 k (List.mem_range.mp hk)) (kq_gw1 k (List.mem_range.mp hk))
def kq_F2 : u_T := fun k => match k with
  | 0 => ("KettleInquest$Clerk", "tape", "[I", true)
  | 1 => ("KettleInquest$Clerk", "length", "I", false)
  | 2 => ("KettleInquest$Clerk", "token", "I", false)
  | 3 => ("KettleInquest$Clerk", "start", "I", false)
  | 4 => ("KettleInquest$Clerk", "end", "I", false)
  | 5 => ("KettleInquest$Clerk", "value", "I", false)
  | _ => ("KettleInquest$Clerk", "listed", "I", false)
def kq_t2 : Nat → FieldType := fun k => match k with
  | 0 => .array (.int)
  | 1 => .int
  | 2 => .int
  | 3 => .int
  | 4 => .int
  | 5 => .int
  | _ => .int
def kq_pl2 : Nat → Nat := fun k => match k with
  | 0 => 148
  | 1 => 150
  | 2 => 152
  | 3 => 154
  | 4 => 156
  | 5 => 158
  | _ => 160
theorem kq_n2 : ∀ a, a < 7 → ∀ b, b < 7 → a ≠ b → (kq_F2 a).2.1 ≠ (kq_F2 b).2.1 := by decide +kernel
theorem kq_to2 : ∀ k, k < 7 → parseFieldDescriptor (kq_F2 k).2.2.1 = some (kq_t2 k) := by decide +kernel
theorem kq_lw2 : ∀ k, k < 7 → lw_tbl[kq_pl2 k]? = some (u_lay "KettleInquest$Clerk" kq_F2 k) := by decide +kernel
theorem kq_gw2 : ∀ k, k < 7 → goodWord (u_lay "KettleInquest$Clerk" kq_F2 k) = true := by decide +kernel
theorem kq_i2 : ∀ w ∈ u_ws "KettleInquest$Clerk" kq_F2 7, w ∈ kq_tbl := by
  intro w hw
  obtain ⟨k, hk, rfl⟩ := List.mem_map.mp hw
  exact kq_in_of (kq_lw2 k (List.mem_range.mp hk)) (kq_gw2 k (List.mem_range.mp hk))
def kq_F3 : u_T := fun k => match k with
  | 0 => ("KettleInquest$Sheet", "bits", "I", false)
  | 1 => ("KettleInquest$Sheet", "length", "I", false)
  | _ => ("KettleInquest$Sheet", "numbers", "[J", true)
def kq_t3 : Nat → FieldType := fun k => match k with
  | 0 => .int
  | 1 => .int
  | _ => .array (.long)
def kq_pl3 : Nat → Nat := fun k => match k with
  | 0 => 178
  | 1 => 180
  | _ => 182
theorem kq_n3 : ∀ a, a < 3 → ∀ b, b < 3 → a ≠ b → (kq_F3 a).2.1 ≠ (kq_F3 b).2.1 := by decide +kernel
theorem kq_to3 : ∀ k, k < 3 → parseFieldDescriptor (kq_F3 k).2.2.1 = some (kq_t3 k) := by decide +kernel
theorem kq_lw3 : ∀ k, k < 3 → lw_tbl[kq_pl3 k]? = some (u_lay "KettleInquest$Sheet" kq_F3 k) := by decide +kernel
theorem kq_gw3 : ∀ k, k < 3 → goodWord (u_lay "KettleInquest$Sheet" kq_F3 k) = true := by decide +kernel
theorem kq_i3 : ∀ w ∈ u_ws "KettleInquest$Sheet" kq_F3 3, w ∈ kq_tbl := by
  intro w hw
  obtain ⟨k, hk, rfl⟩ := List.mem_map.mp hw
  exact kq_in_of (kq_lw3 k (List.mem_range.mp hk)) (kq_gw3 k (List.mem_range.mp hk))
def kq_F4 : u_T := fun k => match k with
  | 0 => ("KettleInquestModel", "row", "[I", true)
  | 1 => ("KettleInquestModel", "found", "[I", true)
  | 2 => ("KettleInquestModel", "boiled", "Z", false)
  | 3 => ("KettleInquestModel", "tried", "[I", true)
  | 4 => ("KettleInquestModel", "before1", "[I", true)
  | 5 => ("KettleInquestModel", "tape", "[I", true)
  | 6 => ("KettleInquestModel", "tapeMany", "I", false)
  | 7 => ("KettleInquestModel", "sort", "I", false)
  | 8 => ("KettleInquestModel", "begins", "I", false)
  | 9 => ("KettleInquestModel", "tokenEnds", "I", false)
  | 10 => ("KettleInquestModel", "word", "J", false)
  | 11 => ("KettleInquestModel", "value", "I", false)
  | 12 => ("KettleInquestModel", "good", "Z", false)
  | 13 => ("KettleInquestModel", "bitsOf", "[I", true)
  | 14 => ("KettleInquestModel", "sizeOf", "[I", true)
  | 15 => ("KettleInquestModel", "sheets", "[J", true)
  | 16 => ("KettleInquestModel", "lent", "[J", true)
  | 17 => ("KettleInquestModel", "image", "[I", true)
  | 18 => ("KettleInquestModel", "before", "[I", true)
  | _ => ("KettleInquestModel", "isKept", "Z", false)
def kq_t4 : Nat → FieldType := fun k => match k with
  | 0 => .array (.int)
  | 1 => .array (.int)
  | 2 => .boolean
  | 3 => .array (.int)
  | 4 => .array (.int)
  | 5 => .array (.int)
  | 6 => .int
  | 7 => .int
  | 8 => .int
  | 9 => .int
  | 10 => .long
  | 11 => .int
  | 12 => .boolean
  | 13 => .array (.int)
  | 14 => .array (.int)
  | 15 => .array (.long)
  | 16 => .array (.long)
  | 17 => .array (.int)
  | 18 => .array (.int)
  | _ => .boolean
def kq_pl4 : Nat → Nat := fun k => match k with
  | 0 => 664
  | 1 => 666
  | 2 => 668
  | 3 => 670
  | 4 => 672
  | 5 => 674
  | 6 => 676
  | 7 => 678
  | 8 => 680
  | 9 => 682
  | 10 => 684
  | 11 => 686
  | 12 => 688
  | 13 => 690
  | 14 => 692
  | 15 => 694
  | 16 => 696
  | 17 => 698
  | 18 => 700
  | _ => 702
theorem kq_n4 : ∀ a, a < 20 → ∀ b, b < 20 → a ≠ b → (kq_F4 a).2.1 ≠ (kq_F4 b).2.1 := by decide +kernel
theorem kq_to4 : ∀ k, k < 20 → parseFieldDescriptor (kq_F4 k).2.2.1 = some (kq_t4 k) := by decide +kernel
theorem kq_lw4 : ∀ k, k < 20 → lw_tbl[kq_pl4 k]? = some (u_lay "KettleInquestModel" kq_F4 k) := by decide +kernel
theorem kq_gw4 : ∀ k, k < 20 → goodWord (u_lay "KettleInquestModel" kq_F4 k) = true := by decide +kernel
theorem kq_i4 : ∀ w ∈ u_ws "KettleInquestModel" kq_F4 20, w ∈ kq_tbl := by
  intro w hw
  obtain ⟨k, hk, rfl⟩ := List.mem_map.mp hw
  exact kq_in_of (kq_lw4 k (List.mem_range.mp hk)) (kq_gw4 k (List.mem_range.mp hk))
abbrev kq_cls : List vw_C := [("KettleInquest", kq_F0, 7), ("KettleInquest$Hall", kq_F1, 11), ("KettleInquest$Clerk", kq_F2, 7), ("KettleInquest$Sheet", kq_F3, 3), ("KettleInquestModel", kq_F4, 20)]
def kq_cn : Nat → String := fun c => match c with
  | 0 => "KettleInquest"
  | 1 => "KettleInquest$Hall"
  | 2 => "KettleInquest$Clerk"
  | 3 => "KettleInquest$Sheet"
  | _ => "KettleInquestModel"
def kq_nF : Nat → Nat := fun c => match c with
  | 0 => 7
  | 1 => 11
  | 2 => 7
  | 3 => 3
  | _ => 20
def kq_FT : Nat → u_T := fun c => match c with
  | 0 => kq_F0
  | 1 => kq_F1
  | 2 => kq_F2
  | 3 => kq_F3
  | _ => kq_F4
def kq_tt : Nat → Nat → FieldType := fun c => match c with
  | 0 => kq_t0
  | 1 => kq_t1
  | 2 => kq_t2
  | 3 => kq_t3
  | _ => kq_t4
theorem kq_cg : ∀ c, c < 5 → kq_cls[c]? = some (kq_cn c, kq_FT c, kq_nF c) := fun c h => by
  rcases (show c = 0 ∨ c = 1 ∨ c = 2 ∨ c = 3 ∨ c = 4 by omega) with rfl | rfl | rfl | rfl | rfl <;> rfl
theorem kq_ci_in : ∀ c, c < 5 → ∀ w ∈ u_ws (kq_cn c) (kq_FT c) (kq_nF c), w ∈ kq_tbl := fun c h => by
  rcases (show c = 0 ∨ c = 1 ∨ c = 2 ∨ c = 3 ∨ c = 4 by omega) with rfl | rfl | rfl | rfl | rfl
  · exact kq_i0
  · exact kq_i1
  · exact kq_i2
  · exact kq_i3
  · exact kq_i4
theorem kq_ci_nm : ∀ c, c < 5 → ∀ a, a < kq_nF c → ∀ b, b < kq_nF c → a ≠ b → (kq_FT c a).2.1 ≠ (kq_FT c b).2.1 := fun c h => by
  rcases (show c = 0 ∨ c = 1 ∨ c = 2 ∨ c = 3 ∨ c = 4 by omega) with rfl | rfl | rfl | rfl | rfl
  · exact kq_n0
  · exact kq_n1
  · exact kq_n2
  · exact kq_n3
  · exact kq_n4
theorem kq_ci_ty : ∀ c, c < 5 → ∀ k, k < kq_nF c → parseFieldDescriptor (kq_FT c k).2.2.1 = some (kq_tt c k) := fun c h => by
  rcases (show c = 0 ∨ c = 1 ∨ c = 2 ∨ c = 3 ∨ c = 4 by omega) with rfl | rfl | rfl | rfl | rfl
  · exact kq_to0
  · exact kq_to1
  · exact kq_to2
  · exact kq_to3
  · exact kq_to4
/-- the class number of an object, by its place -/
def kq_ci : Nat → Nat := fun i => match i with
  | 0 => 0
  | 1 => 1
  | 6 => 2
  | 8 => 3
  | 20 => 4
  | _ => 9
/-- a field: 0 int or boolean, 1 long, 2 reference -/
def kq_fk : Nat → Nat → Nat := fun i k => match i, k with
  | 0, 0 => 2
  | 0, 1 => 2
  | 0, 2 => 2
  | 0, 4 => 2
  | 0, 5 => 2
  | 0, 6 => 2
  | 1, 7 => 2
  | 1, 8 => 2
  | 1, 9 => 2
  | 1, 10 => 2
  | 6, 0 => 2
  | 8, 2 => 2
  | 20, 0 => 2
  | 20, 1 => 2
  | 20, 3 => 2
  | 20, 4 => 2
  | 20, 5 => 2
  | 20, 10 => 1
  | 20, 13 => 2
  | 20, 14 => 2
  | 20, 15 => 2
  | 20, 16 => 2
  | 20, 17 => 2
  | 20, 18 => 2
  | _, _ => 0
def kq_tg : Nat → Nat → Nat → Nat × Nat := fun r i k => match i, k with
  | 0, 0 => (1, 1)
  | 0, 1 => (2, 1)
  | 0, 2 => (3, 1)
  | 0, 4 => (0, 6)
  | 0, 5 => (0, 10)
  | 0, 6 => (0, 11)
  | 1, 7 => (r, 2)
  | 1, 8 => (r, 3)
  | 1, 9 => (r, 4)
  | 1, 10 => (r, 5)
  | 6, 0 => (0, 7)
  | 8, 2 => (r, 9)
  | 20, 0 => (0, 21)
  | 20, 1 => (0, 22)
  | 20, 3 => (0, 23)
  | 20, 4 => (0, 24)
  | 20, 5 => (0, 25)
  | 20, 13 => (0, 26)
  | 20, 14 => (0, 27)
  | 20, 15 => (0, 28)
  | 20, 16 => (0, 29)
  | 20, 17 => (0, 30)
  | 20, 18 => (0, 31)
  | _, _ => (0, 0)
/-- a cell: 0 object, 1 int array, 2 long array, 3 the sheets, 9 none -/
def kq_ck : Nat → Nat := fun i => match i with
  | 0 => 0
  | 1 => 0
  | 2 => 1
  | 3 => 1
  | 4 => 1
  | 5 => 1
  | 6 => 0
  | 7 => 1
  | 8 => 0
  | 9 => 2
  | 10 => 3
  | 11 => 1
  | 20 => 0
  | 21 => 1
  | 22 => 1
  | 23 => 1
  | 24 => 1
  | 25 => 1
  | 26 => 1
  | 27 => 1
  | 28 => 2
  | 29 => 2
  | 30 => 1
  | 31 => 1
  | _ => 9
def kq_len : Nat → Nat := fun i => match i with
  | 2 => 8
  | 3 => 8
  | 4 => 8
  | 5 => 8
  | 7 => 120
  | 9 => 40
  | 10 => 4
  | 11 => 7
  | 21 => 39
  | 22 => 7
  | 23 => 39
  | 24 => 39
  | 25 => 120
  | 26 => 4
  | 27 => 4
  | 28 => 160
  | 29 => 40
  | 30 => 39
  | 31 => 39
  | _ => 0
def kq_hr (r : Nat) : Bool := Nat.beq r 1 || Nat.beq r 2 || Nat.beq r 3
/-- which cells stand: place i in region r -/
def kq_ok : Nat → Nat → Bool := fun i r => match i with
  | 0 => Nat.beq r 0
  | 1 => kq_hr r
  | 2 => kq_hr r
  | 3 => kq_hr r
  | 4 => kq_hr r
  | 5 => kq_hr r
  | 6 => Nat.beq r 0
  | 7 => Nat.beq r 0
  | 8 => Nat.blt r 4
  | 9 => Nat.blt r 4
  | 10 => Nat.beq r 0
  | 11 => Nat.beq r 0
  | 20 => Nat.beq r 0
  | 21 => Nat.beq r 0
  | 22 => Nat.beq r 0
  | 23 => Nat.beq r 0
  | 24 => Nat.beq r 0
  | 25 => Nat.beq r 0
  | 26 => Nat.beq r 0
  | 27 => Nat.beq r 0
  | 28 => Nat.beq r 0
  | 29 => Nat.beq r 0
  | 30 => Nat.beq r 0
  | 31 => Nat.beq r 0
  | _ => false
/-- a method: its name, its bytes, its number of locals, its answer -/
abbrev kq_D : Type := MethodName × ByteArray × Nat × Option FieldType
def kq_ws (M : kq_D) : List Cond := Cond.code M.1 M.2.1 M.2.2.1 M.2.2.2 :: kq_tbl
def km_K_truth : kq_D := (⟨"KettleInquest", "truth", "(I)I"⟩, prog_1_method_2_code, 3, some .int)
def km_K_isWithin : kq_D := (⟨"KettleInquest", "isWithin", "(III)Z"⟩, prog_1_method_41_code, 3, some .boolean)
def km_K_finding : kq_D := (⟨"KettleInquest", "finding", "(I)I"⟩, prog_1_method_39_code, 2, some .int)
def km_K_kettle : kq_D := (⟨"KettleInquest", "kettle", "(II)I"⟩, prog_1_method_3_code, 4, some .int)
def km_K_isKettleValue : kq_D := (⟨"KettleInquest", "isKettleValue", "(II)Z"⟩, prog_1_method_45_code, 2, some .boolean)
def km_K_witness : kq_D := (⟨"KettleInquest", "witness", "(I)I"⟩, prog_1_method_4_code, 2, some .int)
def km_K_isKind : kq_D := (⟨"KettleInquest", "isKind", "(I)Z"⟩, prog_1_method_43_code, 1, some .boolean)
def km_H_callWitness : kq_D := (⟨"KettleInquest$Hall", "callWitness", "(I)I"⟩, prog_3_method_3_code, 3, some .int)
def km_K_of : kq_D := (⟨"KettleInquest", "of", "(II)I"⟩, prog_1_method_5_code, 3, some .int)
def km_K_isWitness : kq_D := (⟨"KettleInquest", "isWitness", "(I)Z"⟩, prog_1_method_40_code, 2, some .boolean)
def km_H_lieSet : kq_D := (⟨"KettleInquest$Hall", "lieSet", "(I)I"⟩, prog_3_method_6_code, 2, some .int)
def km_H_luckySet : kq_D := (⟨"KettleInquest$Hall", "luckySet", "(I)I"⟩, prog_3_method_7_code, 2, some .int)
def km_H_wrongSet : kq_D := (⟨"KettleInquest$Hall", "wrongSet", "(I)I"⟩, prog_3_method_8_code, 2, some .int)
def km_H_doubtOf : kq_D := (⟨"KettleInquest$Hall", "doubtOf", "(I)I"⟩, prog_3_method_9_code, 3, some .int)
def km_K_set : kq_D := (⟨"KettleInquest", "set", "(III)I"⟩, prog_1_method_6_code, 6, some .int)
def km_K_turn : kq_D := (⟨"KettleInquest", "turn", "(II)I"⟩, prog_1_method_7_code, 4, some .int)
def km_K_as : kq_D := (⟨"KettleInquest", "as", "(II)I"⟩, prog_1_method_8_code, 3, some .int)
def km_K_isOfKind : kq_D := (⟨"KettleInquest", "isOfKind", "(II)Z"⟩, prog_1_method_46_code, 4, some .boolean)
def km_K_heats : kq_D := (⟨"KettleInquest", "heats", "(II)I"⟩, prog_1_method_9_code, 3, some .int)
def km_K_isFact : kq_D := (⟨"KettleInquest", "isFact", "(I)Z"⟩, prog_1_method_42_code, 1, some .boolean)
def km_H_heatBy : kq_D := (⟨"KettleInquest$Hall", "heatBy", "(II)I"⟩, prog_3_method_12_code, 3, some .int)
def km_H_plumberHeat : kq_D := (⟨"KettleInquest$Hall", "plumberHeat", "(II)I"⟩, prog_3_method_14_code, 4, some .int)
def km_K_isIn : kq_D := (⟨"KettleInquest", "isIn", "(II)Z"⟩, prog_1_method_47_code, 2, some .boolean)
def km_H_witnessHeat : kq_D := (⟨"KettleInquest$Hall", "witnessHeat", "(II)I"⟩, prog_3_method_13_code, 3, some .int)
def km_H_wifeHeat : kq_D := (⟨"KettleInquest$Hall", "wifeHeat", "(II)I"⟩, prog_3_method_15_code, 3, some .int)
def km_H_anotherPlumberLies : kq_D := (⟨"KettleInquest$Hall", "anotherPlumberLies", "(II)Z"⟩, prog_3_method_16_code, 4, some .boolean)
def km_K_ask : kq_D := (⟨"KettleInquest", "ask", "(II)I"⟩, prog_1_method_10_code, 3, some .int)
def km_H_hearAnswer : kq_D := (⟨"KettleInquest$Hall", "hearAnswer", "(II)Z"⟩, prog_3_method_17_code, 4, some .boolean)
def km_jM_min : kq_D := (⟨"java/lang/Math", "min", "(II)I"⟩, prog_8_method_69_code, 2, some .int)
def km_jM_max : kq_D := (⟨"java/lang/Math", "max", "(II)I"⟩, prog_8_method_65_code, 2, some .int)
def km_H_learnsBy : kq_D := (⟨"KettleInquest$Hall", "learnsBy", "(IIZ)Z"⟩, prog_3_method_18_code, 4, some .boolean)
def km_K_swap : kq_D := (⟨"KettleInquest", "swap", "(II)I"⟩, prog_1_method_11_code, 3, some .int)
def km_H_changeNumbers : kq_D := (⟨"KettleInquest$Hall", "changeNumbers", "(II)V"⟩, prog_3_method_4_code, 3, none)
def km_H_exchange : kq_D := (⟨"KettleInquest$Hall", "exchange", "([III)V"⟩, prog_3_method_5_code, 4, none)
def km_K_minutes : kq_D := (⟨"KettleInquest", "minutes", "(I)I"⟩, prog_1_method_12_code, 2, some .int)
def km_H_teaAfter : kq_D := (⟨"KettleInquest$Hall", "teaAfter", "(I)I"⟩, prog_3_method_22_code, 3, some .int)
def km_H_passMinute : kq_D := (⟨"KettleInquest$Hall", "passMinute", "()Z"⟩, prog_3_method_21_code, 2, some .boolean)
def km_H_whoseTurn : kq_D := (⟨"KettleInquest$Hall", "whoseTurn", "()I"⟩, prog_3_method_19_code, 1, some .int)
def km_H_factAsked : kq_D := (⟨"KettleInquest$Hall", "factAsked", "()I"⟩, prog_3_method_20_code, 1, some .int)
def km_K_now : kq_D := (⟨"KettleInquest", "now", "(I)I"⟩, prog_1_method_13_code, 3, some .int)
def km_K_on : kq_D := (⟨"KettleInquest", "on", "(II)I"⟩, prog_1_method_14_code, 4, some .int)
def km_H_become : kq_D := (⟨"KettleInquest$Hall", "become", "(LKettleInquest$Hall;)V"⟩, prog_3_method_2_code, 3, none)
def km_K_then : kq_D := (⟨"KettleInquest", "then", "(III)I"⟩, prog_1_method_15_code, 4, some .int)
def km_K_boils : kq_D := (⟨"KettleInquest", "boils", "()I"⟩, prog_1_method_16_code, 2, some .int)
def km_K_doubts : kq_D := (⟨"KettleInquest", "doubts", "(I)I"⟩, prog_1_method_17_code, 3, some .int)
def km_K_worst : kq_D := (⟨"KettleInquest", "worst", "(I)I"⟩, prog_1_method_18_code, 5, some .int)
def km_K_turns : kq_D := (⟨"KettleInquest", "turns", "(I)I"⟩, prog_1_method_19_code, 7, some .int)
def km_K_sure : kq_D := (⟨"KettleInquest", "sure", "(II)I"⟩, prog_1_method_20_code, 4, some .int)
def km_K_water : kq_D := (⟨"KettleInquest", "water", "(II)I"⟩, prog_1_method_21_code, 4, some .int)
def km_K_kind : kq_D := (⟨"KettleInquest", "kind", "(II)I"⟩, prog_1_method_22_code, 7, some .int)
def km_K_says : kq_D := (⟨"KettleInquest", "says", "(II)I"⟩, prog_1_method_23_code, 7, some .int)
def km_K_fact : kq_D := (⟨"KettleInquest", "fact", "(I)I"⟩, prog_1_method_24_code, 6, some .int)
def km_K_feed : kq_D := (⟨"KettleInquest", "feed", "(II)I"⟩, prog_1_method_25_code, 4, some .int)
def km_C_append : kq_D := (⟨"KettleInquest$Clerk", "append", "(I)V"⟩, prog_2_method_2_code, 2, none)
def km_K_wipe : kq_D := (⟨"KettleInquest", "wipe", "()I"⟩, prog_1_method_26_code, 2, some .int)
def km_K_inquest : kq_D := (⟨"KettleInquest", "inquest", "()I"⟩, prog_1_method_27_code, 2, some .int)
def km_C_takeDown : kq_D := (⟨"KettleInquest$Clerk", "takeDown", "(LKettleInquest$Hall;)I"⟩, prog_2_method_3_code, 3, some .int)
def km_C_nextToken : kq_D := (⟨"KettleInquest$Clerk", "nextToken", "()V"⟩, prog_2_method_13_code, 2, none)
def km_C_endOfRun : kq_D := (⟨"KettleInquest$Clerk", "endOfRun", "(CC)I"⟩, prog_2_method_14_code, 4, some .int)
def km_C_numberThere : kq_D := (⟨"KettleInquest$Clerk", "numberThere", "()I"⟩, prog_2_method_15_code, 3, some .int)
def km_C_takeItem : kq_D := (⟨"KettleInquest$Clerk", "takeItem", "(LKettleInquest$Hall;)Z"⟩, prog_2_method_4_code, 3, some .boolean)
def km_C_kindNamed : kq_D := (⟨"KettleInquest$Clerk", "kindNamed", "()I"⟩, prog_2_method_10_code, 2, some .int)
def km_C_nameOf : kq_D := (⟨"KettleInquest$Clerk", "nameOf", "(I)Ljava/lang/String;"⟩, prog_2_method_11_code, 1, some (.object "java/lang/String"))
def km_C_isWord : kq_D := (⟨"KettleInquest$Clerk", "isWord", "(Ljava/lang/String;)Z"⟩, prog_2_method_12_code, 3, some .boolean)
def km_jS_length : kq_D := (⟨"java/lang/String", "length", "()I"⟩, prog_9_method_54_code, 1, some .int)
def km_jS_coder : kq_D := (⟨"java/lang/String", "coder", "()B"⟩, prog_9_method_152_code, 1, some .byte)
def km_jS_charAt : kq_D := (⟨"java/lang/String", "charAt", "(I)C"⟩, prog_9_method_56_code, 2, some .char)
def km_jS_isLatin1 : kq_D := (⟨"java/lang/String", "isLatin1", "()Z"⟩, prog_9_method_154_code, 1, some .boolean)
def km_jL_charAt : kq_D := (⟨"java/lang/StringLatin1", "charAt", "([BI)C"⟩, prog_10_method_2_code, 2, some .char)
def km_jS_checkIndex : kq_D := (⟨"java/lang/String", "checkIndex", "(II)V"⟩, prog_9_method_155_code, 2, none)
def km_jP_checkIndex : kq_D := (⟨"jdk/internal/util/Preconditions", "checkIndex", "(IILjava/util/function/BiFunction;)I"⟩, prog_13_method_11_code, 3, some .int)
def km_C_takeWitness : kq_D := (⟨"KettleInquest$Clerk", "takeWitness", "(LKettleInquest$Hall;I)Z"⟩, prog_2_method_5_code, 4, some .boolean)
def km_C_isNumberUpTo : kq_D := (⟨"KettleInquest$Clerk", "isNumberUpTo", "(I)Z"⟩, prog_2_method_9_code, 2, some .boolean)
def km_C_takeFacts : kq_D := (⟨"KettleInquest$Clerk", "takeFacts", "()Z"⟩, prog_2_method_8_code, 2, some .boolean)
def km_C_takeTruth : kq_D := (⟨"KettleInquest$Clerk", "takeTruth", "(LKettleInquest$Hall;Z)Z"⟩, prog_2_method_6_code, 4, some .boolean)
def km_C_takeWater : kq_D := (⟨"KettleInquest$Clerk", "takeWater", "(LKettleInquest$Hall;)Z"⟩, prog_2_method_7_code, 2, some .boolean)
def km_K_sheet : kq_D := (⟨"KettleInquest", "sheet", "(III)I"⟩, prog_1_method_28_code, 4, some .int)
def km_K_isSheet : kq_D := (⟨"KettleInquest", "isSheet", "(I)Z"⟩, prog_1_method_44_code, 1, some .boolean)
def km_S_layOut : kq_D := (⟨"KettleInquest$Sheet", "layOut", "(II)V"⟩, prog_4_method_2_code, 4, none)
def km_K_write : kq_D := (⟨"KettleInquest", "write", "(IIJ)J"⟩, prog_1_method_29_code, 8, some .long)
def km_S_isMissing : kq_D := (⟨"KettleInquest$Sheet", "isMissing", "()Z"⟩, prog_4_method_3_code, 1, some .boolean)
def km_S_lowestBits : kq_D := (⟨"KettleInquest$Sheet", "lowestBits", "(J)J"⟩, prog_4_method_4_code, 3, some .long)
def km_K_copy : kq_D := (⟨"KettleInquest", "copy", "(IIIII)I"⟩, prog_1_method_30_code, 8, some .int)
def km_S_hasStretch : kq_D := (⟨"KettleInquest$Sheet", "hasStretch", "(II)Z"⟩, prog_4_method_5_code, 3, some .boolean)
def km_K_lays : kq_D := (⟨"KettleInquest", "lays", "(I)I"⟩, prog_1_method_31_code, 7, some .int)
def km_K_book : kq_D := (⟨"KettleInquest", "book", "(I)I"⟩, prog_1_method_32_code, 4, some .int)
def km_K_read : kq_D := (⟨"KettleInquest", "read", "(II)I"⟩, prog_1_method_33_code, 7, some .int)
def km_H_goesBy : kq_D := (⟨"KettleInquest$Hall", "goesBy", "(LKettleInquest$Sheet;)Z"⟩, prog_3_method_23_code, 3, some .boolean)
def km_K_image : kq_D := (⟨"KettleInquest", "image", "()I"⟩, prog_1_method_34_code, 1, some .int)
def km_K_undo : kq_D := (⟨"KettleInquest", "undo", "()I"⟩, prog_1_method_35_code, 1, some .int)
def km_K_tear : kq_D := (⟨"KettleInquest", "tear", "()I"⟩, prog_1_method_36_code, 2, some .int)
def km_K_count : kq_D := (⟨"KettleInquest", "count", "(I)I"⟩, prog_1_method_37_code, 2, some .int)
def km_H_allLies : kq_D := (⟨"KettleInquest$Hall", "allLies", "()I"⟩, prog_3_method_10_code, 3, some .int)
def km_jI_bitCount : kq_D := (⟨"java/lang/Integer", "bitCount", "(I)I"⟩, prog_7_method_49_code, 1, some .int)
def km_H_allSure : kq_D := (⟨"KettleInquest$Hall", "allSure", "()I"⟩, prog_3_method_11_code, 3, some .int)
def km_K_status : kq_D := (⟨"KettleInquest", "status", "(I)I"⟩, prog_1_method_38_code, 4, some .int)
def km_M_truth : kq_D := (⟨"KettleInquestModel", "truth", "(I)I"⟩, prog_6_method_12_code, 2, some .int)
def km_M_in : kq_D := (⟨"KettleInquestModel", "in", "(III)Z"⟩, prog_6_method_2_code, 3, some .boolean)
def km_M_becomes : kq_D := (⟨"KettleInquestModel", "becomes", "(II)I"⟩, prog_6_method_7_code, 4, some .int)
def km_M_finds : kq_D := (⟨"KettleInquestModel", "finds", "(I)I"⟩, prog_6_method_3_code, 2, some .int)
def km_M_kettle : kq_D := (⟨"KettleInquestModel", "kettle", "(II)I"⟩, prog_6_method_13_code, 3, some .int)
def km_M_witness : kq_D := (⟨"KettleInquestModel", "witness", "(I)I"⟩, prog_6_method_23_code, 2, some .int)
def km_M_isKind : kq_D := (⟨"KettleInquestModel", "isKind", "(I)Z"⟩, prog_6_method_9_code, 1, some .boolean)
def km_M_adds : kq_D := (⟨"KettleInquestModel", "adds", "(IIII)V"⟩, prog_6_method_22_code, 6, none)
def km_M_puts : kq_D := (⟨"KettleInquestModel", "puts", "(III)V"⟩, prog_6_method_6_code, 4, none)
def km_M_of : kq_D := (⟨"KettleInquestModel", "of", "(II)I"⟩, prog_6_method_24_code, 3, some .int)
def km_M_isOne : kq_D := (⟨"KettleInquestModel", "isOne", "(I)Z"⟩, prog_6_method_8_code, 2, some .boolean)
def km_M_lies : kq_D := (⟨"KettleInquestModel", "lies", "(I)I"⟩, prog_6_method_15_code, 2, some .int)
def km_M_its : kq_D := (⟨"KettleInquestModel", "its", "(II)I"⟩, prog_6_method_5_code, 3, some .int)
def km_M_right : kq_D := (⟨"KettleInquestModel", "right", "(I)I"⟩, prog_6_method_14_code, 2, some .int)
def km_M_lucky : kq_D := (⟨"KettleInquestModel", "lucky", "(I)I"⟩, prog_6_method_16_code, 2, some .int)
def km_M_wrong : kq_D := (⟨"KettleInquestModel", "wrong", "(I)I"⟩, prog_6_method_17_code, 2, some .int)
def km_M_doubting : kq_D := (⟨"KettleInquestModel", "doubting", "(I)I"⟩, prog_6_method_21_code, 2, some .int)
def km_M_set : kq_D := (⟨"KettleInquestModel", "set", "(III)I"⟩, prog_6_method_25_code, 5, some .int)
def km_M_turn : kq_D := (⟨"KettleInquestModel", "turn", "(II)I"⟩, prog_6_method_26_code, 3, some .int)
def km_M_as : kq_D := (⟨"KettleInquestModel", "as", "(II)I"⟩, prog_6_method_27_code, 5, some .int)
def km_M_heats : kq_D := (⟨"KettleInquestModel", "heats", "(II)I"⟩, prog_6_method_28_code, 3, some .int)
def km_M_isFact : kq_D := (⟨"KettleInquestModel", "isFact", "(I)Z"⟩, prog_6_method_10_code, 1, some .boolean)
def km_M_heating : kq_D := (⟨"KettleInquestModel", "heating", "(II)I"⟩, prog_6_method_20_code, 7, some .int)
def km_M_besideLiar : kq_D := (⟨"KettleInquestModel", "besideLiar", "(II)Z"⟩, prog_6_method_19_code, 5, some .boolean)
def km_M_isPlumber : kq_D := (⟨"KettleInquestModel", "isPlumber", "(I)Z"⟩, prog_6_method_18_code, 2, some .boolean)
def km_M_ask : kq_D := (⟨"KettleInquestModel", "ask", "(II)I"⟩, prog_6_method_30_code, 3, some .int)
def km_M_answers : kq_D := (⟨"KettleInquestModel", "answers", "(II)V"⟩, prog_6_method_29_code, 6, none)
def km_M_held : kq_D := (⟨"KettleInquestModel", "held", "(III)I"⟩, prog_6_method_4_code, 3, some .int)
def km_M_swap : kq_D := (⟨"KettleInquestModel", "swap", "(II)I"⟩, prog_6_method_32_code, 3, some .int)
def km_M_swaps : kq_D := (⟨"KettleInquestModel", "swaps", "(II)V"⟩, prog_6_method_31_code, 5, none)
def km_M_minutes : kq_D := (⟨"KettleInquestModel", "minutes", "(I)I"⟩, prog_6_method_37_code, 2, some .int)
def km_M_passes : kq_D := (⟨"KettleInquestModel", "passes", "(I)V"⟩, prog_6_method_36_code, 3, none)
def km_M_oneMinute : kq_D := (⟨"KettleInquestModel", "oneMinute", "()V"⟩, prog_6_method_35_code, 1, none)
def km_M_whose : kq_D := (⟨"KettleInquestModel", "whose", "()I"⟩, prog_6_method_33_code, 1, some .int)
def km_M_asked : kq_D := (⟨"KettleInquestModel", "asked", "()I"⟩, prog_6_method_34_code, 1, some .int)
def km_M_now : kq_D := (⟨"KettleInquestModel", "now", "(I)I"⟩, prog_6_method_38_code, 2, some .int)
def km_M_on : kq_D := (⟨"KettleInquestModel", "on", "(II)I"⟩, prog_6_method_39_code, 4, some .int)
def km_M_moveAll : kq_D := (⟨"KettleInquestModel", "moveAll", "(Z[I)V"⟩, prog_6_method_77_code, 4, none)
def km_M_then : kq_D := (⟨"KettleInquestModel", "then", "(III)I"⟩, prog_6_method_40_code, 5, some .int)
def km_M_boils : kq_D := (⟨"KettleInquestModel", "boils", "()I"⟩, prog_6_method_41_code, 2, some .int)
def km_M_doubts : kq_D := (⟨"KettleInquestModel", "doubts", "(I)I"⟩, prog_6_method_42_code, 3, some .int)
def km_M_worst : kq_D := (⟨"KettleInquestModel", "worst", "(I)I"⟩, prog_6_method_43_code, 6, some .int)
def km_M_turns : kq_D := (⟨"KettleInquestModel", "turns", "(I)I"⟩, prog_6_method_45_code, 7, some .int)
def km_M_teaBehind : kq_D := (⟨"KettleInquestModel", "teaBehind", "(I)I"⟩, prog_6_method_44_code, 3, some .int)
def km_M_sure : kq_D := (⟨"KettleInquestModel", "sure", "(II)I"⟩, prog_6_method_46_code, 5, some .int)
def km_M_water : kq_D := (⟨"KettleInquestModel", "water", "(II)I"⟩, prog_6_method_47_code, 5, some .int)
def km_M_kind : kq_D := (⟨"KettleInquestModel", "kind", "(II)I"⟩, prog_6_method_48_code, 7, some .int)
def km_M_says : kq_D := (⟨"KettleInquestModel", "says", "(II)I"⟩, prog_6_method_49_code, 7, some .int)
def km_M_fact : kq_D := (⟨"KettleInquestModel", "fact", "(I)I"⟩, prog_6_method_50_code, 6, some .int)
def km_M_feed : kq_D := (⟨"KettleInquestModel", "feed", "(II)I"⟩, prog_6_method_51_code, 4, some .int)
def km_M_wipe : kq_D := (⟨"KettleInquestModel", "wipe", "()I"⟩, prog_6_method_52_code, 2, some .int)
def km_M_inquest : kq_D := (⟨"KettleInquestModel", "inquest", "()I"⟩, prog_6_method_65_code, 3, some .int)
def km_M_advance : kq_D := (⟨"KettleInquestModel", "advance", "()V"⟩, prog_6_method_56_code, 2, none)
def km_M_byteAt : kq_D := (⟨"KettleInquestModel", "byteAt", "(I)I"⟩, prog_6_method_53_code, 2, some .int)
def km_M_isLetter : kq_D := (⟨"KettleInquestModel", "isLetter", "(I)Z"⟩, prog_6_method_54_code, 1, some .boolean)
def km_M_isDigit : kq_D := (⟨"KettleInquestModel", "isDigit", "(I)Z"⟩, prog_6_method_55_code, 1, some .boolean)
def km_M_wantItem : kq_D := (⟨"KettleInquestModel", "wantItem", "()V"⟩, prog_6_method_64_code, 2, none)
def km_M_kindHere : kq_D := (⟨"KettleInquestModel", "kindHere", "()I"⟩, prog_6_method_58_code, 1, some .int)
def km_M_isWord : kq_D := (⟨"KettleInquestModel", "isWord", "(J)Z"⟩, prog_6_method_57_code, 3, some .boolean)
def km_M_wantOne : kq_D := (⟨"KettleInquestModel", "wantOne", "(I)V"⟩, prog_6_method_62_code, 5, none)
def km_M_mayWant : kq_D := (⟨"KettleInquestModel", "mayWant", "(JIII)I"⟩, prog_6_method_60_code, 6, some .int)
def km_M_wantNumber : kq_D := (⟨"KettleInquestModel", "wantNumber", "(II)I"⟩, prog_6_method_59_code, 4, some .int)
def km_M_mayFacts : kq_D := (⟨"KettleInquestModel", "mayFacts", "(J)I"⟩, prog_6_method_61_code, 6, some .int)
def km_M_wantTruth : kq_D := (⟨"KettleInquestModel", "wantTruth", "(Z)V"⟩, prog_6_method_63_code, 3, none)
def km_M_sheet : kq_D := (⟨"KettleInquestModel", "sheet", "(III)I"⟩, prog_6_method_68_code, 5, some .int)
def km_M_isSheet : kq_D := (⟨"KettleInquestModel", "isSheet", "(I)Z"⟩, prog_6_method_66_code, 1, some .boolean)
def km_M_write : kq_D := (⟨"KettleInquestModel", "write", "(IIJ)J"⟩, prog_6_method_69_code, 7, some .long)
def km_M_narrow : kq_D := (⟨"KettleInquestModel", "narrow", "(IJ)J"⟩, prog_6_method_67_code, 3, some .long)
def km_M_copy : kq_D := (⟨"KettleInquestModel", "copy", "(IIIII)I"⟩, prog_6_method_71_code, 7, some .int)
def km_M_isPart : kq_D := (⟨"KettleInquestModel", "isPart", "(III)Z"⟩, prog_6_method_70_code, 4, some .boolean)
def km_M_lays : kq_D := (⟨"KettleInquestModel", "lays", "(I)I"⟩, prog_6_method_73_code, 7, some .int)
def km_M_badSheet : kq_D := (⟨"KettleInquestModel", "badSheet", "(I)I"⟩, prog_6_method_72_code, 2, some .int)
def km_M_book : kq_D := (⟨"KettleInquestModel", "book", "(I)I"⟩, prog_6_method_74_code, 4, some .int)
def km_M_read : kq_D := (⟨"KettleInquestModel", "read", "(II)I"⟩, prog_6_method_76_code, 6, some .int)
def km_M_isSo : kq_D := (⟨"KettleInquestModel", "isSo", "(I)Z"⟩, prog_6_method_75_code, 4, some .boolean)
def km_M_image : kq_D := (⟨"KettleInquestModel", "image", "()I"⟩, prog_6_method_78_code, 1, some .int)
def km_M_undo : kq_D := (⟨"KettleInquestModel", "undo", "()I"⟩, prog_6_method_79_code, 1, some .int)
def km_M_tear : kq_D := (⟨"KettleInquestModel", "tear", "()I"⟩, prog_6_method_80_code, 2, some .int)
def km_M_count : kq_D := (⟨"KettleInquestModel", "count", "(I)I"⟩, prog_6_method_81_code, 2, some .int)
def km_M_liesOfAll : kq_D := (⟨"KettleInquestModel", "liesOfAll", "()I"⟩, prog_6_method_82_code, 3, some .int)
def km_M_bits : kq_D := (⟨"KettleInquestModel", "bits", "(I)I"⟩, prog_6_method_11_code, 3, some .int)
def km_M_sureOfAll : kq_D := (⟨"KettleInquestModel", "sureOfAll", "()I"⟩, prog_6_method_83_code, 3, some .int)
def km_M_status : kq_D := (⟨"KettleInquestModel", "status", "(I)I"⟩, prog_6_method_84_code, 4, some .int)
/-- the words that a call of M wants -/
def kq_wV (M : kq_D) : Prop := Cond.code M.1 M.2.1 M.2.2.1 M.2.2.2 ∈ kq_tbl ∧ Cond.initialized M.1.cls ∈ kq_tbl ∧ Cond.instanceMethod M.1 ∈ kq_tbl ∧ Cond.selects M.1.cls M.1 M.1 ∈ kq_tbl
def kq_wS (M : kq_D) : Prop := Cond.code M.1 M.2.1 M.2.2.1 M.2.2.2 ∈ kq_tbl ∧ Cond.initialized M.1.cls ∈ kq_tbl ∧ Cond.static M.1 ∈ kq_tbl
theorem kw_K_truth : kq_wV km_K_truth := ⟨kq_in_of (n := 211) (by decide +kernel) rfl, kq_in_of (n := 56) (by decide +kernel) rfl, kq_in_of (n := 209) (by decide +kernel) rfl, kq_in_of (n := 210) (by decide +kernel) rfl⟩
theorem kw_K_isWithin : kq_wS km_K_isWithin := ⟨kq_in_of (n := 214) (by decide +kernel) rfl, kq_in_of (n := 56) (by decide +kernel) rfl, kq_in_of (n := 213) (by decide +kernel) rfl⟩
theorem kw_K_finding : kq_wV km_K_finding := ⟨kq_in_of (n := 218) (by decide +kernel) rfl, kq_in_of (n := 56) (by decide +kernel) rfl, kq_in_of (n := 217) (by decide +kernel) rfl, kq_in_of (n := 0) (by decide +kernel) rfl⟩
theorem kw_K_kettle : kq_wV km_K_kettle := ⟨kq_in_of (n := 223) (by decide +kernel) rfl, kq_in_of (n := 56) (by decide +kernel) rfl, kq_in_of (n := 221) (by decide +kernel) rfl, kq_in_of (n := 222) (by decide +kernel) rfl⟩
theorem kw_K_isKettleValue : kq_wS km_K_isKettleValue := ⟨kq_in_of (n := 226) (by decide +kernel) rfl, kq_in_of (n := 56) (by decide +kernel) rfl, kq_in_of (n := 225) (by decide +kernel) rfl⟩
theorem kw_K_witness : kq_wV km_K_witness := ⟨kq_in_of (n := 230) (by decide +kernel) rfl, kq_in_of (n := 56) (by decide +kernel) rfl, kq_in_of (n := 228) (by decide +kernel) rfl, kq_in_of (n := 229) (by decide +kernel) rfl⟩
theorem kw_K_isKind : kq_wS km_K_isKind := ⟨kq_in_of (n := 233) (by decide +kernel) rfl, kq_in_of (n := 56) (by decide +kernel) rfl, kq_in_of (n := 232) (by decide +kernel) rfl⟩
theorem kw_H_callWitness : kq_wV km_H_callWitness := ⟨kq_in_of (n := 237) (by decide +kernel) rfl, kq_in_of (n := 57) (by decide +kernel) rfl, kq_in_of (n := 235) (by decide +kernel) rfl, kq_in_of (n := 236) (by decide +kernel) rfl⟩
theorem kw_K_of : kq_wV km_K_of := ⟨kq_in_of (n := 241) (by decide +kernel) rfl, kq_in_of (n := 56) (by decide +kernel) rfl, kq_in_of (n := 239) (by decide +kernel) rfl, kq_in_of (n := 240) (by decide +kernel) rfl⟩
theorem kw_K_isWitness : kq_wV km_K_isWitness := ⟨kq_in_of (n := 245) (by decide +kernel) rfl, kq_in_of (n := 56) (by decide +kernel) rfl, kq_in_of (n := 244) (by decide +kernel) rfl, kq_in_of (n := 1) (by decide +kernel) rfl⟩
theorem kw_H_lieSet : kq_wV km_H_lieSet := ⟨kq_in_of (n := 249) (by decide +kernel) rfl, kq_in_of (n := 57) (by decide +kernel) rfl, kq_in_of (n := 247) (by decide +kernel) rfl, kq_in_of (n := 248) (by decide +kernel) rfl⟩
theorem kw_H_luckySet : kq_wV km_H_luckySet := ⟨kq_in_of (n := 253) (by decide +kernel) rfl, kq_in_of (n := 57) (by decide +kernel) rfl, kq_in_of (n := 251) (by decide +kernel) rfl, kq_in_of (n := 252) (by decide +kernel) rfl⟩
theorem kw_H_wrongSet : kq_wV km_H_wrongSet := ⟨kq_in_of (n := 257) (by decide +kernel) rfl, kq_in_of (n := 57) (by decide +kernel) rfl, kq_in_of (n := 255) (by decide +kernel) rfl, kq_in_of (n := 256) (by decide +kernel) rfl⟩
theorem kw_H_doubtOf : kq_wV km_H_doubtOf := ⟨kq_in_of (n := 261) (by decide +kernel) rfl, kq_in_of (n := 57) (by decide +kernel) rfl, kq_in_of (n := 259) (by decide +kernel) rfl, kq_in_of (n := 260) (by decide +kernel) rfl⟩
theorem kw_K_set : kq_wV km_K_set := ⟨kq_in_of (n := 268) (by decide +kernel) rfl, kq_in_of (n := 56) (by decide +kernel) rfl, kq_in_of (n := 266) (by decide +kernel) rfl, kq_in_of (n := 267) (by decide +kernel) rfl⟩
theorem kw_K_turn : kq_wV km_K_turn := ⟨kq_in_of (n := 272) (by decide +kernel) rfl, kq_in_of (n := 56) (by decide +kernel) rfl, kq_in_of (n := 270) (by decide +kernel) rfl, kq_in_of (n := 271) (by decide +kernel) rfl⟩
theorem kw_K_as : kq_wV km_K_as := ⟨kq_in_of (n := 276) (by decide +kernel) rfl, kq_in_of (n := 56) (by decide +kernel) rfl, kq_in_of (n := 274) (by decide +kernel) rfl, kq_in_of (n := 275) (by decide +kernel) rfl⟩
theorem kw_K_isOfKind : kq_wS km_K_isOfKind := ⟨kq_in_of (n := 279) (by decide +kernel) rfl, kq_in_of (n := 56) (by decide +kernel) rfl, kq_in_of (n := 278) (by decide +kernel) rfl⟩
theorem kw_K_heats : kq_wV km_K_heats := ⟨kq_in_of (n := 285) (by decide +kernel) rfl, kq_in_of (n := 56) (by decide +kernel) rfl, kq_in_of (n := 283) (by decide +kernel) rfl, kq_in_of (n := 284) (by decide +kernel) rfl⟩
theorem kw_K_isFact : kq_wS km_K_isFact := ⟨kq_in_of (n := 288) (by decide +kernel) rfl, kq_in_of (n := 56) (by decide +kernel) rfl, kq_in_of (n := 287) (by decide +kernel) rfl⟩
theorem kw_H_heatBy : kq_wV km_H_heatBy := ⟨kq_in_of (n := 292) (by decide +kernel) rfl, kq_in_of (n := 57) (by decide +kernel) rfl, kq_in_of (n := 290) (by decide +kernel) rfl, kq_in_of (n := 291) (by decide +kernel) rfl⟩
theorem kw_H_plumberHeat : kq_wV km_H_plumberHeat := ⟨kq_in_of (n := 296) (by decide +kernel) rfl, kq_in_of (n := 57) (by decide +kernel) rfl, kq_in_of (n := 295) (by decide +kernel) rfl, kq_in_of (n := 2) (by decide +kernel) rfl⟩
theorem kw_K_isIn : kq_wS km_K_isIn := ⟨kq_in_of (n := 300) (by decide +kernel) rfl, kq_in_of (n := 56) (by decide +kernel) rfl, kq_in_of (n := 299) (by decide +kernel) rfl⟩
theorem kw_H_witnessHeat : kq_wV km_H_witnessHeat := ⟨kq_in_of (n := 304) (by decide +kernel) rfl, kq_in_of (n := 57) (by decide +kernel) rfl, kq_in_of (n := 303) (by decide +kernel) rfl, kq_in_of (n := 3) (by decide +kernel) rfl⟩
theorem kw_H_wifeHeat : kq_wV km_H_wifeHeat := ⟨kq_in_of (n := 309) (by decide +kernel) rfl, kq_in_of (n := 57) (by decide +kernel) rfl, kq_in_of (n := 308) (by decide +kernel) rfl, kq_in_of (n := 4) (by decide +kernel) rfl⟩
theorem kw_H_anotherPlumberLies : kq_wV km_H_anotherPlumberLies := ⟨kq_in_of (n := 313) (by decide +kernel) rfl, kq_in_of (n := 57) (by decide +kernel) rfl, kq_in_of (n := 312) (by decide +kernel) rfl, kq_in_of (n := 5) (by decide +kernel) rfl⟩
theorem kw_K_ask : kq_wV km_K_ask := ⟨kq_in_of (n := 319) (by decide +kernel) rfl, kq_in_of (n := 56) (by decide +kernel) rfl, kq_in_of (n := 317) (by decide +kernel) rfl, kq_in_of (n := 318) (by decide +kernel) rfl⟩
theorem kw_H_hearAnswer : kq_wV km_H_hearAnswer := ⟨kq_in_of (n := 323) (by decide +kernel) rfl, kq_in_of (n := 57) (by decide +kernel) rfl, kq_in_of (n := 321) (by decide +kernel) rfl, kq_in_of (n := 322) (by decide +kernel) rfl⟩
theorem kw_jM_min : kq_wS km_jM_min := ⟨kq_in_of (n := 327) (by decide +kernel) rfl, kq_in_of (n := 61) (by decide +kernel) rfl, kq_in_of (n := 326) (by decide +kernel) rfl⟩
theorem kw_jM_max : kq_wS km_jM_max := ⟨kq_in_of (n := 330) (by decide +kernel) rfl, kq_in_of (n := 61) (by decide +kernel) rfl, kq_in_of (n := 329) (by decide +kernel) rfl⟩
theorem kw_H_learnsBy : kq_wV km_H_learnsBy := ⟨kq_in_of (n := 335) (by decide +kernel) rfl, kq_in_of (n := 57) (by decide +kernel) rfl, kq_in_of (n := 334) (by decide +kernel) rfl, kq_in_of (n := 6) (by decide +kernel) rfl⟩
theorem kw_K_swap : kq_wV km_K_swap := ⟨kq_in_of (n := 339) (by decide +kernel) rfl, kq_in_of (n := 56) (by decide +kernel) rfl, kq_in_of (n := 337) (by decide +kernel) rfl, kq_in_of (n := 338) (by decide +kernel) rfl⟩
theorem kw_H_changeNumbers : kq_wV km_H_changeNumbers := ⟨kq_in_of (n := 343) (by decide +kernel) rfl, kq_in_of (n := 57) (by decide +kernel) rfl, kq_in_of (n := 341) (by decide +kernel) rfl, kq_in_of (n := 342) (by decide +kernel) rfl⟩
theorem kw_H_exchange : kq_wS km_H_exchange := ⟨kq_in_of (n := 346) (by decide +kernel) rfl, kq_in_of (n := 57) (by decide +kernel) rfl, kq_in_of (n := 345) (by decide +kernel) rfl⟩
theorem kw_K_minutes : kq_wV km_K_minutes := ⟨kq_in_of (n := 350) (by decide +kernel) rfl, kq_in_of (n := 56) (by decide +kernel) rfl, kq_in_of (n := 348) (by decide +kernel) rfl, kq_in_of (n := 349) (by decide +kernel) rfl⟩
theorem kw_H_teaAfter : kq_wV km_H_teaAfter := ⟨kq_in_of (n := 355) (by decide +kernel) rfl, kq_in_of (n := 57) (by decide +kernel) rfl, kq_in_of (n := 353) (by decide +kernel) rfl, kq_in_of (n := 354) (by decide +kernel) rfl⟩
theorem kw_H_passMinute : kq_wV km_H_passMinute := ⟨kq_in_of (n := 359) (by decide +kernel) rfl, kq_in_of (n := 57) (by decide +kernel) rfl, kq_in_of (n := 357) (by decide +kernel) rfl, kq_in_of (n := 358) (by decide +kernel) rfl⟩
theorem kw_H_whoseTurn : kq_wV km_H_whoseTurn := ⟨kq_in_of (n := 363) (by decide +kernel) rfl, kq_in_of (n := 57) (by decide +kernel) rfl, kq_in_of (n := 361) (by decide +kernel) rfl, kq_in_of (n := 362) (by decide +kernel) rfl⟩
theorem kw_H_factAsked : kq_wV km_H_factAsked := ⟨kq_in_of (n := 367) (by decide +kernel) rfl, kq_in_of (n := 57) (by decide +kernel) rfl, kq_in_of (n := 365) (by decide +kernel) rfl, kq_in_of (n := 366) (by decide +kernel) rfl⟩
theorem kw_K_now : kq_wV km_K_now := ⟨kq_in_of (n := 372) (by decide +kernel) rfl, kq_in_of (n := 56) (by decide +kernel) rfl, kq_in_of (n := 370) (by decide +kernel) rfl, kq_in_of (n := 371) (by decide +kernel) rfl⟩
theorem kw_K_on : kq_wV km_K_on := ⟨kq_in_of (n := 378) (by decide +kernel) rfl, kq_in_of (n := 56) (by decide +kernel) rfl, kq_in_of (n := 376) (by decide +kernel) rfl, kq_in_of (n := 377) (by decide +kernel) rfl⟩
theorem kw_H_become : kq_wV km_H_become := ⟨kq_in_of (n := 382) (by decide +kernel) rfl, kq_in_of (n := 57) (by decide +kernel) rfl, kq_in_of (n := 380) (by decide +kernel) rfl, kq_in_of (n := 381) (by decide +kernel) rfl⟩
theorem kw_K_then : kq_wV km_K_then := ⟨kq_in_of (n := 386) (by decide +kernel) rfl, kq_in_of (n := 56) (by decide +kernel) rfl, kq_in_of (n := 384) (by decide +kernel) rfl, kq_in_of (n := 385) (by decide +kernel) rfl⟩
theorem kw_K_boils : kq_wV km_K_boils := ⟨kq_in_of (n := 390) (by decide +kernel) rfl, kq_in_of (n := 56) (by decide +kernel) rfl, kq_in_of (n := 388) (by decide +kernel) rfl, kq_in_of (n := 389) (by decide +kernel) rfl⟩
theorem kw_K_doubts : kq_wV km_K_doubts := ⟨kq_in_of (n := 395) (by decide +kernel) rfl, kq_in_of (n := 56) (by decide +kernel) rfl, kq_in_of (n := 393) (by decide +kernel) rfl, kq_in_of (n := 394) (by decide +kernel) rfl⟩
theorem kw_K_worst : kq_wV km_K_worst := ⟨kq_in_of (n := 399) (by decide +kernel) rfl, kq_in_of (n := 56) (by decide +kernel) rfl, kq_in_of (n := 397) (by decide +kernel) rfl, kq_in_of (n := 398) (by decide +kernel) rfl⟩
theorem kw_K_turns : kq_wV km_K_turns := ⟨kq_in_of (n := 403) (by decide +kernel) rfl, kq_in_of (n := 56) (by decide +kernel) rfl, kq_in_of (n := 401) (by decide +kernel) rfl, kq_in_of (n := 402) (by decide +kernel) rfl⟩
theorem kw_K_sure : kq_wV km_K_sure := ⟨kq_in_of (n := 407) (by decide +kernel) rfl, kq_in_of (n := 56) (by decide +kernel) rfl, kq_in_of (n := 405) (by decide +kernel) rfl, kq_in_of (n := 406) (by decide +kernel) rfl⟩
theorem kw_K_water : kq_wV km_K_water := ⟨kq_in_of (n := 411) (by decide +kernel) rfl, kq_in_of (n := 56) (by decide +kernel) rfl, kq_in_of (n := 409) (by decide +kernel) rfl, kq_in_of (n := 410) (by decide +kernel) rfl⟩
theorem kw_K_kind : kq_wV km_K_kind := ⟨kq_in_of (n := 415) (by decide +kernel) rfl, kq_in_of (n := 56) (by decide +kernel) rfl, kq_in_of (n := 413) (by decide +kernel) rfl, kq_in_of (n := 414) (by decide +kernel) rfl⟩
theorem kw_K_says : kq_wV km_K_says := ⟨kq_in_of (n := 419) (by decide +kernel) rfl, kq_in_of (n := 56) (by decide +kernel) rfl, kq_in_of (n := 417) (by decide +kernel) rfl, kq_in_of (n := 418) (by decide +kernel) rfl⟩
theorem kw_K_fact : kq_wV km_K_fact := ⟨kq_in_of (n := 423) (by decide +kernel) rfl, kq_in_of (n := 56) (by decide +kernel) rfl, kq_in_of (n := 421) (by decide +kernel) rfl, kq_in_of (n := 422) (by decide +kernel) rfl⟩
theorem kw_K_feed : kq_wV km_K_feed := ⟨kq_in_of (n := 427) (by decide +kernel) rfl, kq_in_of (n := 56) (by decide +kernel) rfl, kq_in_of (n := 425) (by decide +kernel) rfl, kq_in_of (n := 426) (by decide +kernel) rfl⟩
theorem kw_C_append : kq_wV km_C_append := ⟨kq_in_of (n := 431) (by decide +kernel) rfl, kq_in_of (n := 58) (by decide +kernel) rfl, kq_in_of (n := 429) (by decide +kernel) rfl, kq_in_of (n := 430) (by decide +kernel) rfl⟩
theorem kw_K_wipe : kq_wV km_K_wipe := ⟨kq_in_of (n := 435) (by decide +kernel) rfl, kq_in_of (n := 56) (by decide +kernel) rfl, kq_in_of (n := 433) (by decide +kernel) rfl, kq_in_of (n := 434) (by decide +kernel) rfl⟩
theorem kw_K_inquest : kq_wV km_K_inquest := ⟨kq_in_of (n := 439) (by decide +kernel) rfl, kq_in_of (n := 56) (by decide +kernel) rfl, kq_in_of (n := 437) (by decide +kernel) rfl, kq_in_of (n := 438) (by decide +kernel) rfl⟩
theorem kw_C_takeDown : kq_wV km_C_takeDown := ⟨kq_in_of (n := 443) (by decide +kernel) rfl, kq_in_of (n := 58) (by decide +kernel) rfl, kq_in_of (n := 441) (by decide +kernel) rfl, kq_in_of (n := 442) (by decide +kernel) rfl⟩
theorem kw_C_nextToken : kq_wV km_C_nextToken := ⟨kq_in_of (n := 447) (by decide +kernel) rfl, kq_in_of (n := 58) (by decide +kernel) rfl, kq_in_of (n := 446) (by decide +kernel) rfl, kq_in_of (n := 7) (by decide +kernel) rfl⟩
theorem kw_C_endOfRun : kq_wV km_C_endOfRun := ⟨kq_in_of (n := 451) (by decide +kernel) rfl, kq_in_of (n := 58) (by decide +kernel) rfl, kq_in_of (n := 450) (by decide +kernel) rfl, kq_in_of (n := 8) (by decide +kernel) rfl⟩
theorem kw_C_numberThere : kq_wV km_C_numberThere := ⟨kq_in_of (n := 455) (by decide +kernel) rfl, kq_in_of (n := 58) (by decide +kernel) rfl, kq_in_of (n := 454) (by decide +kernel) rfl, kq_in_of (n := 9) (by decide +kernel) rfl⟩
theorem kw_C_takeItem : kq_wV km_C_takeItem := ⟨kq_in_of (n := 459) (by decide +kernel) rfl, kq_in_of (n := 58) (by decide +kernel) rfl, kq_in_of (n := 458) (by decide +kernel) rfl, kq_in_of (n := 10) (by decide +kernel) rfl⟩
theorem kw_C_kindNamed : kq_wV km_C_kindNamed := ⟨kq_in_of (n := 463) (by decide +kernel) rfl, kq_in_of (n := 58) (by decide +kernel) rfl, kq_in_of (n := 462) (by decide +kernel) rfl, kq_in_of (n := 11) (by decide +kernel) rfl⟩
theorem kw_C_nameOf : kq_wS km_C_nameOf := ⟨kq_in_of (n := 466) (by decide +kernel) rfl, kq_in_of (n := 58) (by decide +kernel) rfl, kq_in_of (n := 465) (by decide +kernel) rfl⟩
theorem kw_C_isWord : kq_wV km_C_isWord := ⟨kq_in_of (n := 476) (by decide +kernel) rfl, kq_in_of (n := 58) (by decide +kernel) rfl, kq_in_of (n := 475) (by decide +kernel) rfl, kq_in_of (n := 12) (by decide +kernel) rfl⟩
theorem kw_jS_length : kq_wV km_jS_length := ⟨kq_in_of (n := 480) (by decide +kernel) rfl, kq_in_of (n := 62) (by decide +kernel) rfl, kq_in_of (n := 478) (by decide +kernel) rfl, kq_in_of (n := 479) (by decide +kernel) rfl⟩
theorem kw_jS_coder : kq_wV km_jS_coder := ⟨kq_in_of (n := 484) (by decide +kernel) rfl, kq_in_of (n := 62) (by decide +kernel) rfl, kq_in_of (n := 482) (by decide +kernel) rfl, kq_in_of (n := 483) (by decide +kernel) rfl⟩
theorem kw_jS_charAt : kq_wV km_jS_charAt := ⟨kq_in_of (n := 490) (by decide +kernel) rfl, kq_in_of (n := 62) (by decide +kernel) rfl, kq_in_of (n := 488) (by decide +kernel) rfl, kq_in_of (n := 489) (by decide +kernel) rfl⟩
theorem kw_jS_isLatin1 : kq_wV km_jS_isLatin1 := ⟨kq_in_of (n := 494) (by decide +kernel) rfl, kq_in_of (n := 62) (by decide +kernel) rfl, kq_in_of (n := 492) (by decide +kernel) rfl, kq_in_of (n := 493) (by decide +kernel) rfl⟩
theorem kw_jL_charAt : kq_wS km_jL_charAt := ⟨kq_in_of (n := 497) (by decide +kernel) rfl, kq_in_of (n := 63) (by decide +kernel) rfl, kq_in_of (n := 496) (by decide +kernel) rfl⟩
theorem kw_jS_checkIndex : kq_wS km_jS_checkIndex := ⟨kq_in_of (n := 500) (by decide +kernel) rfl, kq_in_of (n := 62) (by decide +kernel) rfl, kq_in_of (n := 499) (by decide +kernel) rfl⟩
theorem kw_jP_checkIndex : kq_wS km_jP_checkIndex := ⟨kq_in_of (n := 505) (by decide +kernel) rfl, kq_in_of (n := 64) (by decide +kernel) rfl, kq_in_of (n := 504) (by decide +kernel) rfl⟩
theorem kw_C_takeWitness : kq_wV km_C_takeWitness := ⟨kq_in_of (n := 528) (by decide +kernel) rfl, kq_in_of (n := 58) (by decide +kernel) rfl, kq_in_of (n := 527) (by decide +kernel) rfl, kq_in_of (n := 13) (by decide +kernel) rfl⟩
theorem kw_C_isNumberUpTo : kq_wV km_C_isNumberUpTo := ⟨kq_in_of (n := 534) (by decide +kernel) rfl, kq_in_of (n := 58) (by decide +kernel) rfl, kq_in_of (n := 533) (by decide +kernel) rfl, kq_in_of (n := 14) (by decide +kernel) rfl⟩
theorem kw_C_takeFacts : kq_wV km_C_takeFacts := ⟨kq_in_of (n := 539) (by decide +kernel) rfl, kq_in_of (n := 58) (by decide +kernel) rfl, kq_in_of (n := 538) (by decide +kernel) rfl, kq_in_of (n := 15) (by decide +kernel) rfl⟩
theorem kw_C_takeTruth : kq_wV km_C_takeTruth := ⟨kq_in_of (n := 545) (by decide +kernel) rfl, kq_in_of (n := 58) (by decide +kernel) rfl, kq_in_of (n := 544) (by decide +kernel) rfl, kq_in_of (n := 16) (by decide +kernel) rfl⟩
theorem kw_C_takeWater : kq_wV km_C_takeWater := ⟨kq_in_of (n := 551) (by decide +kernel) rfl, kq_in_of (n := 58) (by decide +kernel) rfl, kq_in_of (n := 550) (by decide +kernel) rfl, kq_in_of (n := 17) (by decide +kernel) rfl⟩
theorem kw_K_sheet : kq_wV km_K_sheet := ⟨kq_in_of (n := 556) (by decide +kernel) rfl, kq_in_of (n := 56) (by decide +kernel) rfl, kq_in_of (n := 554) (by decide +kernel) rfl, kq_in_of (n := 555) (by decide +kernel) rfl⟩
theorem kw_K_isSheet : kq_wS km_K_isSheet := ⟨kq_in_of (n := 559) (by decide +kernel) rfl, kq_in_of (n := 56) (by decide +kernel) rfl, kq_in_of (n := 558) (by decide +kernel) rfl⟩
theorem kw_S_layOut : kq_wV km_S_layOut := ⟨kq_in_of (n := 563) (by decide +kernel) rfl, kq_in_of (n := 59) (by decide +kernel) rfl, kq_in_of (n := 561) (by decide +kernel) rfl, kq_in_of (n := 562) (by decide +kernel) rfl⟩
theorem kw_K_write : kq_wV km_K_write := ⟨kq_in_of (n := 567) (by decide +kernel) rfl, kq_in_of (n := 56) (by decide +kernel) rfl, kq_in_of (n := 565) (by decide +kernel) rfl, kq_in_of (n := 566) (by decide +kernel) rfl⟩
theorem kw_S_isMissing : kq_wV km_S_isMissing := ⟨kq_in_of (n := 571) (by decide +kernel) rfl, kq_in_of (n := 59) (by decide +kernel) rfl, kq_in_of (n := 569) (by decide +kernel) rfl, kq_in_of (n := 570) (by decide +kernel) rfl⟩
theorem kw_S_lowestBits : kq_wV km_S_lowestBits := ⟨kq_in_of (n := 575) (by decide +kernel) rfl, kq_in_of (n := 59) (by decide +kernel) rfl, kq_in_of (n := 573) (by decide +kernel) rfl, kq_in_of (n := 574) (by decide +kernel) rfl⟩
theorem kw_K_copy : kq_wV km_K_copy := ⟨kq_in_of (n := 579) (by decide +kernel) rfl, kq_in_of (n := 56) (by decide +kernel) rfl, kq_in_of (n := 577) (by decide +kernel) rfl, kq_in_of (n := 578) (by decide +kernel) rfl⟩
theorem kw_S_hasStretch : kq_wV km_S_hasStretch := ⟨kq_in_of (n := 583) (by decide +kernel) rfl, kq_in_of (n := 59) (by decide +kernel) rfl, kq_in_of (n := 581) (by decide +kernel) rfl, kq_in_of (n := 582) (by decide +kernel) rfl⟩
theorem kw_K_lays : kq_wV km_K_lays := ⟨kq_in_of (n := 590) (by decide +kernel) rfl, kq_in_of (n := 56) (by decide +kernel) rfl, kq_in_of (n := 588) (by decide +kernel) rfl, kq_in_of (n := 589) (by decide +kernel) rfl⟩
theorem kw_K_book : kq_wV km_K_book := ⟨kq_in_of (n := 595) (by decide +kernel) rfl, kq_in_of (n := 56) (by decide +kernel) rfl, kq_in_of (n := 593) (by decide +kernel) rfl, kq_in_of (n := 594) (by decide +kernel) rfl⟩
theorem kw_K_read : kq_wV km_K_read := ⟨kq_in_of (n := 599) (by decide +kernel) rfl, kq_in_of (n := 56) (by decide +kernel) rfl, kq_in_of (n := 597) (by decide +kernel) rfl, kq_in_of (n := 598) (by decide +kernel) rfl⟩
theorem kw_H_goesBy : kq_wV km_H_goesBy := ⟨kq_in_of (n := 603) (by decide +kernel) rfl, kq_in_of (n := 57) (by decide +kernel) rfl, kq_in_of (n := 601) (by decide +kernel) rfl, kq_in_of (n := 602) (by decide +kernel) rfl⟩
theorem kw_K_image : kq_wV km_K_image := ⟨kq_in_of (n := 607) (by decide +kernel) rfl, kq_in_of (n := 56) (by decide +kernel) rfl, kq_in_of (n := 605) (by decide +kernel) rfl, kq_in_of (n := 606) (by decide +kernel) rfl⟩
theorem kw_K_undo : kq_wV km_K_undo := ⟨kq_in_of (n := 611) (by decide +kernel) rfl, kq_in_of (n := 56) (by decide +kernel) rfl, kq_in_of (n := 609) (by decide +kernel) rfl, kq_in_of (n := 610) (by decide +kernel) rfl⟩
theorem kw_K_tear : kq_wV km_K_tear := ⟨kq_in_of (n := 615) (by decide +kernel) rfl, kq_in_of (n := 56) (by decide +kernel) rfl, kq_in_of (n := 613) (by decide +kernel) rfl, kq_in_of (n := 614) (by decide +kernel) rfl⟩
theorem kw_K_count : kq_wV km_K_count := ⟨kq_in_of (n := 619) (by decide +kernel) rfl, kq_in_of (n := 56) (by decide +kernel) rfl, kq_in_of (n := 617) (by decide +kernel) rfl, kq_in_of (n := 618) (by decide +kernel) rfl⟩
theorem kw_H_allLies : kq_wV km_H_allLies := ⟨kq_in_of (n := 623) (by decide +kernel) rfl, kq_in_of (n := 57) (by decide +kernel) rfl, kq_in_of (n := 621) (by decide +kernel) rfl, kq_in_of (n := 622) (by decide +kernel) rfl⟩
theorem kw_jI_bitCount : kq_wS km_jI_bitCount := ⟨kq_in_of (n := 626) (by decide +kernel) rfl, kq_in_of (n := 67) (by decide +kernel) rfl, kq_in_of (n := 625) (by decide +kernel) rfl⟩
theorem kw_H_allSure : kq_wV km_H_allSure := ⟨kq_in_of (n := 633) (by decide +kernel) rfl, kq_in_of (n := 57) (by decide +kernel) rfl, kq_in_of (n := 631) (by decide +kernel) rfl, kq_in_of (n := 632) (by decide +kernel) rfl⟩
theorem kw_K_status : kq_wV km_K_status := ⟨kq_in_of (n := 637) (by decide +kernel) rfl, kq_in_of (n := 56) (by decide +kernel) rfl, kq_in_of (n := 635) (by decide +kernel) rfl, kq_in_of (n := 636) (by decide +kernel) rfl⟩
theorem kw_M_truth : kq_wV km_M_truth := ⟨kq_in_of (n := 708) (by decide +kernel) rfl, kq_in_of (n := 60) (by decide +kernel) rfl, kq_in_of (n := 706) (by decide +kernel) rfl, kq_in_of (n := 707) (by decide +kernel) rfl⟩
theorem kw_M_in : kq_wS km_M_in := ⟨kq_in_of (n := 711) (by decide +kernel) rfl, kq_in_of (n := 60) (by decide +kernel) rfl, kq_in_of (n := 710) (by decide +kernel) rfl⟩
theorem kw_M_becomes : kq_wV km_M_becomes := ⟨kq_in_of (n := 715) (by decide +kernel) rfl, kq_in_of (n := 60) (by decide +kernel) rfl, kq_in_of (n := 714) (by decide +kernel) rfl, kq_in_of (n := 18) (by decide +kernel) rfl⟩
theorem kw_M_finds : kq_wV km_M_finds := ⟨kq_in_of (n := 720) (by decide +kernel) rfl, kq_in_of (n := 60) (by decide +kernel) rfl, kq_in_of (n := 719) (by decide +kernel) rfl, kq_in_of (n := 19) (by decide +kernel) rfl⟩
theorem kw_M_kettle : kq_wV km_M_kettle := ⟨kq_in_of (n := 724) (by decide +kernel) rfl, kq_in_of (n := 60) (by decide +kernel) rfl, kq_in_of (n := 722) (by decide +kernel) rfl, kq_in_of (n := 723) (by decide +kernel) rfl⟩
theorem kw_M_witness : kq_wV km_M_witness := ⟨kq_in_of (n := 728) (by decide +kernel) rfl, kq_in_of (n := 60) (by decide +kernel) rfl, kq_in_of (n := 726) (by decide +kernel) rfl, kq_in_of (n := 727) (by decide +kernel) rfl⟩
theorem kw_M_isKind : kq_wS km_M_isKind := ⟨kq_in_of (n := 731) (by decide +kernel) rfl, kq_in_of (n := 60) (by decide +kernel) rfl, kq_in_of (n := 730) (by decide +kernel) rfl⟩
theorem kw_M_adds : kq_wV km_M_adds := ⟨kq_in_of (n := 736) (by decide +kernel) rfl, kq_in_of (n := 60) (by decide +kernel) rfl, kq_in_of (n := 735) (by decide +kernel) rfl, kq_in_of (n := 20) (by decide +kernel) rfl⟩
theorem kw_M_puts : kq_wV km_M_puts := ⟨kq_in_of (n := 740) (by decide +kernel) rfl, kq_in_of (n := 60) (by decide +kernel) rfl, kq_in_of (n := 739) (by decide +kernel) rfl, kq_in_of (n := 21) (by decide +kernel) rfl⟩
theorem kw_M_of : kq_wV km_M_of := ⟨kq_in_of (n := 744) (by decide +kernel) rfl, kq_in_of (n := 60) (by decide +kernel) rfl, kq_in_of (n := 742) (by decide +kernel) rfl, kq_in_of (n := 743) (by decide +kernel) rfl⟩
theorem kw_M_isOne : kq_wV km_M_isOne := ⟨kq_in_of (n := 748) (by decide +kernel) rfl, kq_in_of (n := 60) (by decide +kernel) rfl, kq_in_of (n := 747) (by decide +kernel) rfl, kq_in_of (n := 22) (by decide +kernel) rfl⟩
theorem kw_M_lies : kq_wV km_M_lies := ⟨kq_in_of (n := 752) (by decide +kernel) rfl, kq_in_of (n := 60) (by decide +kernel) rfl, kq_in_of (n := 751) (by decide +kernel) rfl, kq_in_of (n := 23) (by decide +kernel) rfl⟩
theorem kw_M_its : kq_wV km_M_its := ⟨kq_in_of (n := 756) (by decide +kernel) rfl, kq_in_of (n := 60) (by decide +kernel) rfl, kq_in_of (n := 755) (by decide +kernel) rfl, kq_in_of (n := 24) (by decide +kernel) rfl⟩
theorem kw_M_right : kq_wV km_M_right := ⟨kq_in_of (n := 760) (by decide +kernel) rfl, kq_in_of (n := 60) (by decide +kernel) rfl, kq_in_of (n := 759) (by decide +kernel) rfl, kq_in_of (n := 25) (by decide +kernel) rfl⟩
theorem kw_M_lucky : kq_wV km_M_lucky := ⟨kq_in_of (n := 764) (by decide +kernel) rfl, kq_in_of (n := 60) (by decide +kernel) rfl, kq_in_of (n := 763) (by decide +kernel) rfl, kq_in_of (n := 26) (by decide +kernel) rfl⟩
theorem kw_M_wrong : kq_wV km_M_wrong := ⟨kq_in_of (n := 768) (by decide +kernel) rfl, kq_in_of (n := 60) (by decide +kernel) rfl, kq_in_of (n := 767) (by decide +kernel) rfl, kq_in_of (n := 27) (by decide +kernel) rfl⟩
theorem kw_M_doubting : kq_wV km_M_doubting := ⟨kq_in_of (n := 772) (by decide +kernel) rfl, kq_in_of (n := 60) (by decide +kernel) rfl, kq_in_of (n := 771) (by decide +kernel) rfl, kq_in_of (n := 28) (by decide +kernel) rfl⟩
theorem kw_M_set : kq_wV km_M_set := ⟨kq_in_of (n := 776) (by decide +kernel) rfl, kq_in_of (n := 60) (by decide +kernel) rfl, kq_in_of (n := 774) (by decide +kernel) rfl, kq_in_of (n := 775) (by decide +kernel) rfl⟩
theorem kw_M_turn : kq_wV km_M_turn := ⟨kq_in_of (n := 780) (by decide +kernel) rfl, kq_in_of (n := 60) (by decide +kernel) rfl, kq_in_of (n := 778) (by decide +kernel) rfl, kq_in_of (n := 779) (by decide +kernel) rfl⟩
theorem kw_M_as : kq_wV km_M_as := ⟨kq_in_of (n := 784) (by decide +kernel) rfl, kq_in_of (n := 60) (by decide +kernel) rfl, kq_in_of (n := 782) (by decide +kernel) rfl, kq_in_of (n := 783) (by decide +kernel) rfl⟩
theorem kw_M_heats : kq_wV km_M_heats := ⟨kq_in_of (n := 789) (by decide +kernel) rfl, kq_in_of (n := 60) (by decide +kernel) rfl, kq_in_of (n := 787) (by decide +kernel) rfl, kq_in_of (n := 788) (by decide +kernel) rfl⟩
theorem kw_M_isFact : kq_wS km_M_isFact := ⟨kq_in_of (n := 792) (by decide +kernel) rfl, kq_in_of (n := 60) (by decide +kernel) rfl, kq_in_of (n := 791) (by decide +kernel) rfl⟩
theorem kw_M_heating : kq_wV km_M_heating := ⟨kq_in_of (n := 796) (by decide +kernel) rfl, kq_in_of (n := 60) (by decide +kernel) rfl, kq_in_of (n := 795) (by decide +kernel) rfl, kq_in_of (n := 29) (by decide +kernel) rfl⟩
theorem kw_M_besideLiar : kq_wV km_M_besideLiar := ⟨kq_in_of (n := 800) (by decide +kernel) rfl, kq_in_of (n := 60) (by decide +kernel) rfl, kq_in_of (n := 799) (by decide +kernel) rfl, kq_in_of (n := 30) (by decide +kernel) rfl⟩
theorem kw_M_isPlumber : kq_wV km_M_isPlumber := ⟨kq_in_of (n := 804) (by decide +kernel) rfl, kq_in_of (n := 60) (by decide +kernel) rfl, kq_in_of (n := 803) (by decide +kernel) rfl, kq_in_of (n := 31) (by decide +kernel) rfl⟩
theorem kw_M_ask : kq_wV km_M_ask := ⟨kq_in_of (n := 808) (by decide +kernel) rfl, kq_in_of (n := 60) (by decide +kernel) rfl, kq_in_of (n := 806) (by decide +kernel) rfl, kq_in_of (n := 807) (by decide +kernel) rfl⟩
theorem kw_M_answers : kq_wV km_M_answers := ⟨kq_in_of (n := 812) (by decide +kernel) rfl, kq_in_of (n := 60) (by decide +kernel) rfl, kq_in_of (n := 811) (by decide +kernel) rfl, kq_in_of (n := 32) (by decide +kernel) rfl⟩
theorem kw_M_held : kq_wS km_M_held := ⟨kq_in_of (n := 815) (by decide +kernel) rfl, kq_in_of (n := 60) (by decide +kernel) rfl, kq_in_of (n := 814) (by decide +kernel) rfl⟩
theorem kw_M_swap : kq_wV km_M_swap := ⟨kq_in_of (n := 819) (by decide +kernel) rfl, kq_in_of (n := 60) (by decide +kernel) rfl, kq_in_of (n := 817) (by decide +kernel) rfl, kq_in_of (n := 818) (by decide +kernel) rfl⟩
theorem kw_M_swaps : kq_wV km_M_swaps := ⟨kq_in_of (n := 823) (by decide +kernel) rfl, kq_in_of (n := 60) (by decide +kernel) rfl, kq_in_of (n := 822) (by decide +kernel) rfl, kq_in_of (n := 33) (by decide +kernel) rfl⟩
theorem kw_M_minutes : kq_wV km_M_minutes := ⟨kq_in_of (n := 827) (by decide +kernel) rfl, kq_in_of (n := 60) (by decide +kernel) rfl, kq_in_of (n := 825) (by decide +kernel) rfl, kq_in_of (n := 826) (by decide +kernel) rfl⟩
theorem kw_M_passes : kq_wV km_M_passes := ⟨kq_in_of (n := 833) (by decide +kernel) rfl, kq_in_of (n := 60) (by decide +kernel) rfl, kq_in_of (n := 832) (by decide +kernel) rfl, kq_in_of (n := 34) (by decide +kernel) rfl⟩
theorem kw_M_oneMinute : kq_wV km_M_oneMinute := ⟨kq_in_of (n := 837) (by decide +kernel) rfl, kq_in_of (n := 60) (by decide +kernel) rfl, kq_in_of (n := 836) (by decide +kernel) rfl, kq_in_of (n := 35) (by decide +kernel) rfl⟩
theorem kw_M_whose : kq_wV km_M_whose := ⟨kq_in_of (n := 841) (by decide +kernel) rfl, kq_in_of (n := 60) (by decide +kernel) rfl, kq_in_of (n := 840) (by decide +kernel) rfl, kq_in_of (n := 36) (by decide +kernel) rfl⟩
theorem kw_M_asked : kq_wV km_M_asked := ⟨kq_in_of (n := 845) (by decide +kernel) rfl, kq_in_of (n := 60) (by decide +kernel) rfl, kq_in_of (n := 844) (by decide +kernel) rfl, kq_in_of (n := 37) (by decide +kernel) rfl⟩
theorem kw_M_now : kq_wV km_M_now := ⟨kq_in_of (n := 849) (by decide +kernel) rfl, kq_in_of (n := 60) (by decide +kernel) rfl, kq_in_of (n := 847) (by decide +kernel) rfl, kq_in_of (n := 848) (by decide +kernel) rfl⟩
theorem kw_M_on : kq_wV km_M_on := ⟨kq_in_of (n := 853) (by decide +kernel) rfl, kq_in_of (n := 60) (by decide +kernel) rfl, kq_in_of (n := 851) (by decide +kernel) rfl, kq_in_of (n := 852) (by decide +kernel) rfl⟩
theorem kw_M_moveAll : kq_wV km_M_moveAll := ⟨kq_in_of (n := 857) (by decide +kernel) rfl, kq_in_of (n := 60) (by decide +kernel) rfl, kq_in_of (n := 856) (by decide +kernel) rfl, kq_in_of (n := 38) (by decide +kernel) rfl⟩
theorem kw_M_then : kq_wV km_M_then := ⟨kq_in_of (n := 861) (by decide +kernel) rfl, kq_in_of (n := 60) (by decide +kernel) rfl, kq_in_of (n := 859) (by decide +kernel) rfl, kq_in_of (n := 860) (by decide +kernel) rfl⟩
theorem kw_M_boils : kq_wV km_M_boils := ⟨kq_in_of (n := 865) (by decide +kernel) rfl, kq_in_of (n := 60) (by decide +kernel) rfl, kq_in_of (n := 863) (by decide +kernel) rfl, kq_in_of (n := 864) (by decide +kernel) rfl⟩
theorem kw_M_doubts : kq_wV km_M_doubts := ⟨kq_in_of (n := 870) (by decide +kernel) rfl, kq_in_of (n := 60) (by decide +kernel) rfl, kq_in_of (n := 868) (by decide +kernel) rfl, kq_in_of (n := 869) (by decide +kernel) rfl⟩
theorem kw_M_worst : kq_wV km_M_worst := ⟨kq_in_of (n := 874) (by decide +kernel) rfl, kq_in_of (n := 60) (by decide +kernel) rfl, kq_in_of (n := 872) (by decide +kernel) rfl, kq_in_of (n := 873) (by decide +kernel) rfl⟩
theorem kw_M_turns : kq_wV km_M_turns := ⟨kq_in_of (n := 878) (by decide +kernel) rfl, kq_in_of (n := 60) (by decide +kernel) rfl, kq_in_of (n := 876) (by decide +kernel) rfl, kq_in_of (n := 877) (by decide +kernel) rfl⟩
theorem kw_M_teaBehind : kq_wV km_M_teaBehind := ⟨kq_in_of (n := 882) (by decide +kernel) rfl, kq_in_of (n := 60) (by decide +kernel) rfl, kq_in_of (n := 881) (by decide +kernel) rfl, kq_in_of (n := 39) (by decide +kernel) rfl⟩
theorem kw_M_sure : kq_wV km_M_sure := ⟨kq_in_of (n := 886) (by decide +kernel) rfl, kq_in_of (n := 60) (by decide +kernel) rfl, kq_in_of (n := 884) (by decide +kernel) rfl, kq_in_of (n := 885) (by decide +kernel) rfl⟩
theorem kw_M_water : kq_wV km_M_water := ⟨kq_in_of (n := 890) (by decide +kernel) rfl, kq_in_of (n := 60) (by decide +kernel) rfl, kq_in_of (n := 888) (by decide +kernel) rfl, kq_in_of (n := 889) (by decide +kernel) rfl⟩
theorem kw_M_kind : kq_wV km_M_kind := ⟨kq_in_of (n := 894) (by decide +kernel) rfl, kq_in_of (n := 60) (by decide +kernel) rfl, kq_in_of (n := 892) (by decide +kernel) rfl, kq_in_of (n := 893) (by decide +kernel) rfl⟩
theorem kw_M_says : kq_wV km_M_says := ⟨kq_in_of (n := 898) (by decide +kernel) rfl, kq_in_of (n := 60) (by decide +kernel) rfl, kq_in_of (n := 896) (by decide +kernel) rfl, kq_in_of (n := 897) (by decide +kernel) rfl⟩
theorem kw_M_fact : kq_wV km_M_fact := ⟨kq_in_of (n := 902) (by decide +kernel) rfl, kq_in_of (n := 60) (by decide +kernel) rfl, kq_in_of (n := 900) (by decide +kernel) rfl, kq_in_of (n := 901) (by decide +kernel) rfl⟩
theorem kw_M_feed : kq_wV km_M_feed := ⟨kq_in_of (n := 906) (by decide +kernel) rfl, kq_in_of (n := 60) (by decide +kernel) rfl, kq_in_of (n := 904) (by decide +kernel) rfl, kq_in_of (n := 905) (by decide +kernel) rfl⟩
theorem kw_M_wipe : kq_wV km_M_wipe := ⟨kq_in_of (n := 910) (by decide +kernel) rfl, kq_in_of (n := 60) (by decide +kernel) rfl, kq_in_of (n := 908) (by decide +kernel) rfl, kq_in_of (n := 909) (by decide +kernel) rfl⟩
theorem kw_M_inquest : kq_wV km_M_inquest := ⟨kq_in_of (n := 914) (by decide +kernel) rfl, kq_in_of (n := 60) (by decide +kernel) rfl, kq_in_of (n := 912) (by decide +kernel) rfl, kq_in_of (n := 913) (by decide +kernel) rfl⟩
theorem kw_M_advance : kq_wV km_M_advance := ⟨kq_in_of (n := 918) (by decide +kernel) rfl, kq_in_of (n := 60) (by decide +kernel) rfl, kq_in_of (n := 917) (by decide +kernel) rfl, kq_in_of (n := 40) (by decide +kernel) rfl⟩
theorem kw_M_byteAt : kq_wV km_M_byteAt := ⟨kq_in_of (n := 922) (by decide +kernel) rfl, kq_in_of (n := 60) (by decide +kernel) rfl, kq_in_of (n := 921) (by decide +kernel) rfl, kq_in_of (n := 41) (by decide +kernel) rfl⟩
theorem kw_M_isLetter : kq_wS km_M_isLetter := ⟨kq_in_of (n := 925) (by decide +kernel) rfl, kq_in_of (n := 60) (by decide +kernel) rfl, kq_in_of (n := 924) (by decide +kernel) rfl⟩
theorem kw_M_isDigit : kq_wS km_M_isDigit := ⟨kq_in_of (n := 928) (by decide +kernel) rfl, kq_in_of (n := 60) (by decide +kernel) rfl, kq_in_of (n := 927) (by decide +kernel) rfl⟩
theorem kw_M_wantItem : kq_wV km_M_wantItem := ⟨kq_in_of (n := 935) (by decide +kernel) rfl, kq_in_of (n := 60) (by decide +kernel) rfl, kq_in_of (n := 934) (by decide +kernel) rfl, kq_in_of (n := 42) (by decide +kernel) rfl⟩
theorem kw_M_kindHere : kq_wV km_M_kindHere := ⟨kq_in_of (n := 939) (by decide +kernel) rfl, kq_in_of (n := 60) (by decide +kernel) rfl, kq_in_of (n := 938) (by decide +kernel) rfl, kq_in_of (n := 43) (by decide +kernel) rfl⟩
theorem kw_M_isWord : kq_wV km_M_isWord := ⟨kq_in_of (n := 944) (by decide +kernel) rfl, kq_in_of (n := 60) (by decide +kernel) rfl, kq_in_of (n := 943) (by decide +kernel) rfl, kq_in_of (n := 44) (by decide +kernel) rfl⟩
theorem kw_M_wantOne : kq_wV km_M_wantOne := ⟨kq_in_of (n := 953) (by decide +kernel) rfl, kq_in_of (n := 60) (by decide +kernel) rfl, kq_in_of (n := 952) (by decide +kernel) rfl, kq_in_of (n := 45) (by decide +kernel) rfl⟩
theorem kw_M_mayWant : kq_wV km_M_mayWant := ⟨kq_in_of (n := 958) (by decide +kernel) rfl, kq_in_of (n := 60) (by decide +kernel) rfl, kq_in_of (n := 957) (by decide +kernel) rfl, kq_in_of (n := 46) (by decide +kernel) rfl⟩
theorem kw_M_wantNumber : kq_wV km_M_wantNumber := ⟨kq_in_of (n := 962) (by decide +kernel) rfl, kq_in_of (n := 60) (by decide +kernel) rfl, kq_in_of (n := 961) (by decide +kernel) rfl, kq_in_of (n := 47) (by decide +kernel) rfl⟩
theorem kw_M_mayFacts : kq_wV km_M_mayFacts := ⟨kq_in_of (n := 967) (by decide +kernel) rfl, kq_in_of (n := 60) (by decide +kernel) rfl, kq_in_of (n := 966) (by decide +kernel) rfl, kq_in_of (n := 48) (by decide +kernel) rfl⟩
theorem kw_M_wantTruth : kq_wV km_M_wantTruth := ⟨kq_in_of (n := 973) (by decide +kernel) rfl, kq_in_of (n := 60) (by decide +kernel) rfl, kq_in_of (n := 972) (by decide +kernel) rfl, kq_in_of (n := 49) (by decide +kernel) rfl⟩
theorem kw_M_sheet : kq_wV km_M_sheet := ⟨kq_in_of (n := 979) (by decide +kernel) rfl, kq_in_of (n := 60) (by decide +kernel) rfl, kq_in_of (n := 977) (by decide +kernel) rfl, kq_in_of (n := 978) (by decide +kernel) rfl⟩
theorem kw_M_isSheet : kq_wS km_M_isSheet := ⟨kq_in_of (n := 982) (by decide +kernel) rfl, kq_in_of (n := 60) (by decide +kernel) rfl, kq_in_of (n := 981) (by decide +kernel) rfl⟩
theorem kw_M_write : kq_wV km_M_write := ⟨kq_in_of (n := 987) (by decide +kernel) rfl, kq_in_of (n := 60) (by decide +kernel) rfl, kq_in_of (n := 985) (by decide +kernel) rfl, kq_in_of (n := 986) (by decide +kernel) rfl⟩
theorem kw_M_narrow : kq_wS km_M_narrow := ⟨kq_in_of (n := 991) (by decide +kernel) rfl, kq_in_of (n := 60) (by decide +kernel) rfl, kq_in_of (n := 990) (by decide +kernel) rfl⟩
theorem kw_M_copy : kq_wV km_M_copy := ⟨kq_in_of (n := 995) (by decide +kernel) rfl, kq_in_of (n := 60) (by decide +kernel) rfl, kq_in_of (n := 993) (by decide +kernel) rfl, kq_in_of (n := 994) (by decide +kernel) rfl⟩
theorem kw_M_isPart : kq_wV km_M_isPart := ⟨kq_in_of (n := 999) (by decide +kernel) rfl, kq_in_of (n := 60) (by decide +kernel) rfl, kq_in_of (n := 998) (by decide +kernel) rfl, kq_in_of (n := 50) (by decide +kernel) rfl⟩
theorem kw_M_lays : kq_wV km_M_lays := ⟨kq_in_of (n := 1003) (by decide +kernel) rfl, kq_in_of (n := 60) (by decide +kernel) rfl, kq_in_of (n := 1001) (by decide +kernel) rfl, kq_in_of (n := 1002) (by decide +kernel) rfl⟩
theorem kw_M_badSheet : kq_wV km_M_badSheet := ⟨kq_in_of (n := 1007) (by decide +kernel) rfl, kq_in_of (n := 60) (by decide +kernel) rfl, kq_in_of (n := 1006) (by decide +kernel) rfl, kq_in_of (n := 51) (by decide +kernel) rfl⟩
theorem kw_M_book : kq_wV km_M_book := ⟨kq_in_of (n := 1012) (by decide +kernel) rfl, kq_in_of (n := 60) (by decide +kernel) rfl, kq_in_of (n := 1010) (by decide +kernel) rfl, kq_in_of (n := 1011) (by decide +kernel) rfl⟩
theorem kw_M_read : kq_wV km_M_read := ⟨kq_in_of (n := 1016) (by decide +kernel) rfl, kq_in_of (n := 60) (by decide +kernel) rfl, kq_in_of (n := 1014) (by decide +kernel) rfl, kq_in_of (n := 1015) (by decide +kernel) rfl⟩
theorem kw_M_isSo : kq_wV km_M_isSo := ⟨kq_in_of (n := 1020) (by decide +kernel) rfl, kq_in_of (n := 60) (by decide +kernel) rfl, kq_in_of (n := 1019) (by decide +kernel) rfl, kq_in_of (n := 52) (by decide +kernel) rfl⟩
theorem kw_M_image : kq_wV km_M_image := ⟨kq_in_of (n := 1024) (by decide +kernel) rfl, kq_in_of (n := 60) (by decide +kernel) rfl, kq_in_of (n := 1022) (by decide +kernel) rfl, kq_in_of (n := 1023) (by decide +kernel) rfl⟩
theorem kw_M_undo : kq_wV km_M_undo := ⟨kq_in_of (n := 1028) (by decide +kernel) rfl, kq_in_of (n := 60) (by decide +kernel) rfl, kq_in_of (n := 1026) (by decide +kernel) rfl, kq_in_of (n := 1027) (by decide +kernel) rfl⟩
theorem kw_M_tear : kq_wV km_M_tear := ⟨kq_in_of (n := 1032) (by decide +kernel) rfl, kq_in_of (n := 60) (by decide +kernel) rfl, kq_in_of (n := 1030) (by decide +kernel) rfl, kq_in_of (n := 1031) (by decide +kernel) rfl⟩
theorem kw_M_count : kq_wV km_M_count := ⟨kq_in_of (n := 1036) (by decide +kernel) rfl, kq_in_of (n := 60) (by decide +kernel) rfl, kq_in_of (n := 1034) (by decide +kernel) rfl, kq_in_of (n := 1035) (by decide +kernel) rfl⟩
theorem kw_M_liesOfAll : kq_wV km_M_liesOfAll := ⟨kq_in_of (n := 1040) (by decide +kernel) rfl, kq_in_of (n := 60) (by decide +kernel) rfl, kq_in_of (n := 1039) (by decide +kernel) rfl, kq_in_of (n := 53) (by decide +kernel) rfl⟩
theorem kw_M_bits : kq_wS km_M_bits := ⟨kq_in_of (n := 1043) (by decide +kernel) rfl, kq_in_of (n := 60) (by decide +kernel) rfl, kq_in_of (n := 1042) (by decide +kernel) rfl⟩
theorem kw_M_sureOfAll : kq_wV km_M_sureOfAll := ⟨kq_in_of (n := 1047) (by decide +kernel) rfl, kq_in_of (n := 60) (by decide +kernel) rfl, kq_in_of (n := 1046) (by decide +kernel) rfl, kq_in_of (n := 54) (by decide +kernel) rfl⟩
theorem kw_M_status : kq_wV km_M_status := ⟨kq_in_of (n := 1051) (by decide +kernel) rfl, kq_in_of (n := 60) (by decide +kernel) rfl, kq_in_of (n := 1049) (by decide +kernel) rfl, kq_in_of (n := 1050) (by decide +kernel) rfl⟩
def kq_sl : List Nat := [7, 4, 5, 6, 5, 7, 4, 5, 4, 4, 5, 5]
def kq_sb : List (List Int32) := [[112, 108, 117, 109, 98, 101, 114], [119, 105, 102, 101], [99, 104, 105, 108, 100], [101, 120, 112, 101, 114, 116], [110, 117, 114, 115, 101], [119, 105, 116, 110, 101, 115, 115], [115, 117, 114, 101], [107, 110, 111, 119, 115], [115, 97, 121, 115], [116, 114, 117, 101], [102, 97, 108, 115, 101], [119, 97, 116, 101, 114]]
def kq_si : Nat → Nat := fun j => match j with
  | 0 => 107
  | 1 => 109
  | 2 => 111
  | 3 => 113
  | 4 => 115
  | 5 => 117
  | 6 => 75
  | 7 => 84
  | 8 => 93
  | 9 => 49
  | 10 => 59
  | _ => 61
def kq_st : Nat → String := fun j => match j with
  | 0 => "plumber"
  | 1 => "wife"
  | 2 => "child"
  | 3 => "expert"
  | 4 => "nurse"
  | 5 => "witness"
  | 6 => "sure"
  | 7 => "knows"
  | 8 => "says"
  | 9 => "true"
  | 10 => "false"
  | _ => "water"
def kq_KA : Nat → Int32 := fun j => match j with
  | 0 => -1
  | 1 => 0
  | 2 => 0
  | 3 => 0
  | 4 => 1
  | _ => 2
def kq_DK : Nat → Int32 := fun j => match j with
  | 0 => 1
  | 1 => 2
  | 2 => 1
  | 3 => 0
  | 4 => 0
  | _ => 1
end
section
/-! AN ABSTRACT MACHINE over one fixed memory: values, memory, what a state of the machine holds of it -/
abbrev kq_V : Type := Int32 ⊕ Int64 ⊕ (Nat × Nat)
abbrev kq_I (x : Int32) : kq_V := Sum.inl x
abbrev kq_L (x : Int64) : kq_V := Sum.inr (Sum.inl x)
abbrev kq_R (r i : Nat) : kq_V := Sum.inr (Sum.inr (r, i))
abbrev kq_M : Type := (Nat → Nat → Nat → Int32) × (Nat → Nat → Nat → Int64) × (Nat × (Nat → Int32))
def kq_rI (μ : kq_M) (r i k : Nat) : Int32 := μ.1 r i k
def kq_rL (μ : kq_M) (r i k : Nat) : Int64 := μ.2.1 r i k
def kq_sc (μ : kq_M) : Nat × (Nat → Int32) := μ.2.2
def kq_wI (μ : kq_M) (r i k : Nat) (v : Int32) : kq_M := (fun a b c => if a = r ∧ b = i ∧ c = k then v else μ.1 a b c, μ.2)
def kq_wL (μ : kq_M) (r i k : Nat) (v : Int64) : kq_M := (μ.1, fun a b c => if a = r ∧ b = i ∧ c = k then v else μ.2.1 a b c, μ.2.2)
/-- numbers of a long row come to another (or the same), as they all were -/
def kq_cL (μ : kq_M) (r i sp r' i' dp n : Nat) : kq_M := (μ.1, fun a b c => if a = r' ∧ b = i' ∧ dp ≤ c ∧ c < dp + n then μ.2.1 r i (sp + (c - dp)) else μ.2.1 a b c, μ.2.2)
theorem kq_rI_wI (μ : kq_M) (r i k : Nat) (v : Int32) (a b c : Nat) : kq_rI (kq_wI μ r i k v) a b c = if a = r ∧ b = i ∧ c = k then v else kq_rI μ a b c := rfl
theorem kq_rI_wL (μ : kq_M) (r i k : Nat) (v : Int64) (a b c : Nat) : kq_rI (kq_wL μ r i k v) a b c = kq_rI μ a b c := rfl
theorem kq_rL_wI (μ : kq_M) (r i k : Nat) (v : Int32) (a b c : Nat) : kq_rL (kq_wI μ r i k v) a b c = kq_rL μ a b c := rfl
theorem kq_rL_wL (μ : kq_M) (r i k : Nat) (v : Int64) (a b c : Nat) : kq_rL (kq_wL μ r i k v) a b c = if a = r ∧ b = i ∧ c = k then v else kq_rL μ a b c := rfl
theorem kq_rI_cL (μ : kq_M) (r i sp r' i' dp n a b c : Nat) : kq_rI (kq_cL μ r i sp r' i' dp n) a b c = kq_rI μ a b c := rfl
theorem kq_rL_cL (μ : kq_M) (r i sp r' i' dp n a b c : Nat) : kq_rL (kq_cL μ r i sp r' i' dp n) a b c = if a = r' ∧ b = i' ∧ dp ≤ c ∧ c < dp + n then kq_rL μ r i (sp + (c - dp)) else kq_rL μ a b c := rfl
theorem kq_sc_wI (μ : kq_M) (r i k : Nat) (v : Int32) : kq_sc (kq_wI μ r i k v) = kq_sc μ := rfl
theorem kq_sc_wL (μ : kq_M) (r i k : Nat) (v : Int64) : kq_sc (kq_wL μ r i k v) = kq_sc μ := rfl
theorem kq_sc_cL (μ : kq_M) (r i sp r' i' dp n : Nat) : kq_sc (kq_cL μ r i sp r' i' dp n) = kq_sc μ := rfl
/-- where all stands: classes and slots, array classes, addresses, the heap at the law's start, a static that is only carried -/
abbrev kq_G : Type := va_G × (Nat → ClassId) × (Nat → Nat → Nat) × Heap × Value
def kq_gD (g : kq_G) : va_G := g.1
def kq_gA (g : kq_G) : Nat → ClassId := g.2.1
def kq_gd (g : kq_G) : Nat → Nat → Nat := g.2.2.1
def kq_gH (g : kq_G) : Heap := g.2.2.2.1
def kq_gF (g : kq_G) : Value := g.2.2.2.2
def kq_A (g : kq_G) : Nat → Prop := fun q => (kq_gH g).size ≤ q
def kq_tr (g : kq_G) : kq_V → Value
  | .inl x => .int x
  | .inr (.inl x) => .long x
  | .inr (.inr (r, i)) => if i = 45 then kq_gF g else .ref (kq_gd g r i)
def kq_cat : kq_V → Nat
  | .inr (.inl _) => 2
  | _ => 1
theorem kq_trR (g : kq_G) (r : Nat) {i : Nat} (h : i ≠ 45) : kq_tr g (kq_R r i) = .ref (kq_gd g r i) := by
  show (if i = 45 then kq_gF g else .ref (kq_gd g r i)) = _
  rw [if_neg h]
/-- what a field holds -/
def kq_val (g : kq_G) (μ : kq_M) (r i k : Nat) : Value := match kq_fk i k with
  | 0 => .int (kq_rI μ r i k)
  | 1 => .long (kq_rL μ r i k)
  | _ => .ref (kq_gd g (kq_tg r i k).1 (kq_tg r i k).2)
def kq_av (μ : kq_M) (r i k : Nat) : kq_V := match kq_fk i k with
  | 0 => kq_I (kq_rI μ r i k)
  | 1 => kq_L (kq_rL μ r i k)
  | _ => kq_R (kq_tg r i k).1 (kq_tg r i k).2
theorem kq_tr_av (g : kq_G) (μ : kq_M) (r i k : Nat) (h : (kq_tg r i k).2 ≠ 45) : kq_tr g (kq_av μ r i k) = kq_val g μ r i k := by
  unfold kq_av kq_val
  split
  · rfl
  · rfl
  · exact kq_trR g _ h
def kq_at (g : kq_G) (μ : kq_M) (r i : Nat) (H : Heap) : Prop := match kq_ck i with
  | 0 => t_OB (kq_gd g r i) ((kq_gD g).1 (kq_ci i)) (kq_nF (kq_ci i)) ((kq_gD g).2 (kq_ci i)) H (kq_val g μ r i)
  | 1 => H[kq_gd g r i]? = some (arrV (kq_gA g 0) (kq_len i) (fun j => .int (kq_rI μ r i j)))
  | 2 => H[kq_gd g r i]? = some (arrV (kq_gA g 1) (kq_len i) (fun j => .long (kq_rL μ r i j)))
  | _ => H[kq_gd g r i]? = some (arrV (kq_gA g 2) (kq_len i) (fun j => .ref (kq_gd g j 8)))
theorem kq_at.keep {g : kq_G} {μ μ' : kq_M} {r i : Nat} {H H' : Heap} (h : kq_at g μ r i H) (hq : H'[kq_gd g r i]? = H[kq_gd g r i]?) (hI : ∀ k, kq_rI μ' r i k = kq_rI μ r i k) (hL : ∀ k, kq_rL μ' r i k = kq_rL μ r i k) : kq_at g μ' r i H' := by
  have e1 : (fun j => Value.int (kq_rI μ' r i j)) = fun j => .int (kq_rI μ r i j) := funext fun j => by rw [hI]
  have e2 : (fun j => Value.long (kq_rL μ' r i j)) = fun j => .long (kq_rL μ r i j) := funext fun j => by rw [hL]
  have e3 : kq_val g μ' r i = kq_val g μ r i := funext fun k => by unfold kq_val; rw [hI, hL]
  unfold kq_at at h ⊢
  rw [e1, e2, e3]
  split at h
  · exact h.kept hq
  · exact hq.trans h
  · exact hq.trans h
  · exact hq.trans h
theorem kq_at.lt {g : kq_G} {μ : kq_M} {r i : Nat} {H : Heap} (h : kq_at g μ r i H) : kq_gd g r i < H.size := by
  unfold kq_at at h
  split at h
  · obtain ⟨cell, h1, -⟩ := h
    exact (Array.getElem?_eq_some_iff.mp h1).1
  · exact (Array.getElem?_eq_some_iff.mp h).1
  · exact (Array.getElem?_eq_some_iff.mp h).1
  · exact (Array.getElem?_eq_some_iff.mp h).1
/-- the heap holds the memory; nothing that was there at the law's start has changed -/
def kq_Hd (g : kq_G) (μ : kq_M) (H : Heap) : Prop := (∀ r i, kq_ok i r = true → kq_at g μ r i H) ∧ (kq_gH g).size ≤ H.size ∧ ∀ q : Nat, q < (kq_gH g).size → H[q]? = (kq_gH g)[q]?
/-- the cells are apart, and new -/
def kq_Ap (g : kq_G) : Prop := (∀ r i r' i', kq_ok i r = true → kq_ok i' r' = true → kq_gd g r i = kq_gd g r' i' → r = r' ∧ i = i') ∧ ∀ r i, kq_ok i r = true → kq_A g (kq_gd g r i)
def kq_tys (g : kq_G) : List (ClassId × FieldType) := [(kq_gA g 0, .int), (kq_gA g 1, .long), (kq_gA g 2, .object "KettleInquest$Sheet")]
def kq_nwK : Cond := .methodLinkNest "KettleInquest$Hall" 50 ⟨"KettleInquest", "isKind", "(I)Z"⟩ "KettleInquest"
def kq_nwI : Cond := .methodLinkNest "KettleInquest$Hall" 76 ⟨"KettleInquest", "isIn", "(II)Z"⟩ "KettleInquest"
def kq_nwO : Cond := .methodLinkNest "KettleInquest$Hall" 89 ⟨"KettleInquest", "isOfKind", "(II)Z"⟩ "KettleInquest"
def kq_nwD : Cond := .fieldLinkNest "KettleInquest$Hall" 54 "KettleInquest" "DOUBT_OF_KIND" "[I" "KettleInquest"
/-- what the tables, statics, constants and the script are, at a state -/
def kq_Wd (g : kq_G) (S : Nat × (Nat → Int32)) (U : State) : Prop :=
  va_K (kq_gD g) kq_cls (kq_tys g) U ∧
  (va_X (kq_gd g 0 40) S.1 S.2 U (kq_gH g) ∧ kq_gd g 0 40 < (kq_gH g).size) ∧
  (va_Z "KettleInquest" "KIND_ABOVE" "[I" (.ref (kq_gd g 0 41)) (kq_A g) U (kq_gH g) ∧ va_T .int (kq_gd g 0 41) 6 (fun j => .int (kq_KA j)) (kq_A g) U (kq_gH g)) ∧
  (va_Z "KettleInquest" "DOUBT_OF_KIND" "[I" (.ref (kq_gd g 0 42)) (kq_A g) U (kq_gH g) ∧ va_T .int (kq_gd g 0 42) 6 (fun j => .int (kq_DK j)) (kq_A g) U (kq_gH g)) ∧
  vk_S 12 kq_sl kq_sb (fun j => kq_gd g j 43) (fun j => kq_gd g j 44) (kq_A g) U (kq_gH g) ∧
  (∀ j, j < 12 → vk_R "KettleInquest$Clerk" (kq_si j) (kq_st j) (kq_gd g j 43) U) ∧
  va_Z "java/lang/String" "COMPACT_STRINGS" "Z" (.int 1) (kq_A g) U (kq_gH g) ∧
  (va_Z "jdk/internal/util/Preconditions" "SIOOBE_FORMATTER" "Ljava/util/function/BiFunction;" (kq_gF g) (kq_A g) U (kq_gH g) ∧ (kq_gF g = .null ∨ ∃ t, kq_gF g = .ref t)) ∧
  va_Nw kq_nwK U ∧ va_Nw kq_nwI U ∧ va_Nw kq_nwO U ∧ va_Nw kq_nwD U
theorem kq_Wd.warm {g : kq_G} {S : Nat × (Nat → Int32)} {s U : State} (hW : s.WarmedH U.vm) (h : kq_Wd g S s) : kq_Wd g S U := by
  obtain ⟨h1, ⟨h2, h2'⟩, ⟨h3, h3'⟩, ⟨h4, h4'⟩, h5, h6, h7, ⟨h8, h8'⟩, h9, h10, h11, h12⟩ := h
  have ha := hW.alike
  exact ⟨va_K.moved ha h1, ⟨va_X.moved ha h2, h2'⟩, ⟨va_Z.moved ha h3, va_T.moved ha h3'⟩, ⟨va_Z.moved ha h4, va_T.moved ha h4'⟩, vk_S.moved ha h5, fun j hj => (h6 j hj).warm hW, va_Z.moved ha h7, ⟨va_Z.moved ha h8, h8'⟩, va_Nw.warmM hW h9, va_Nw.warmM hW h10, va_Nw.warmM hW h11, va_Nw.warmF hW h12⟩
theorem kq_Wd.same {g : kq_G} {S : Nat × (Nat → Int32)} {s U : State} (hv : U.vm = s.vm) (h : kq_Wd g S s) : kq_Wd g S U := by
  obtain ⟨h1, ⟨h2, h2'⟩, ⟨h3, h3'⟩, ⟨h4, h4'⟩, h5, h6, h7, ⟨h8, h8'⟩, h9, h10, h11, h12⟩ := h
  have ha : s.vm.Alike U.vm := by rw [hv]; exact Vm.Alike.refl s.vm
  exact ⟨va_K.moved ha h1, ⟨va_X.moved ha h2, h2'⟩, ⟨va_Z.moved ha h3, va_T.moved ha h3'⟩, ⟨va_Z.moved ha h4, va_T.moved ha h4'⟩, vk_S.moved ha h5, fun j hj => (h6 j hj).same hv, va_Z.moved ha h7, ⟨va_Z.moved ha h8, h8'⟩, va_Nw.same rfl hv.symm h9, va_Nw.same rfl hv.symm h10, va_Nw.same rfl hv.symm h11, va_Nw.same rfl hv.symm h12⟩
theorem kq_Wd.gF {g : kq_G} {S : Nat × (Nat → Int32)} {s : State} (h : kq_Wd g S s) : (kq_gF g).category = 1 := by
  obtain ⟨-, -, -, -, -, -, -, ⟨-, h8⟩, -⟩ := h
  rcases h8 with h | ⟨t, h⟩ <;> rw [h] <;> rfl
theorem kq_tr_cat {g : kq_G} (hF : (kq_gF g).category = 1) (v : kq_V) : (kq_tr g v).category = kq_cat v := by
  rcases v with x | x | ⟨r, i⟩
  · rfl
  · rfl
  · show (if i = 45 then kq_gF g else Value.ref (kq_gd g r i)).category = 1
    split
    · exact hF
    · rfl
theorem kq_map_cat {g : kq_G} (hF : (kq_gF g).category = 1) (st : List kq_V) : ((st.map (kq_tr g)).map fun v => v.category).sum = (st.map kq_cat).sum := by
  rw [List.map_map]
  congr 1
  exact List.map_congr_left fun v _ => kq_tr_cat hF v
/-! a method's start, end, and its walk -/
def kq_rm (d : Nat) : Room := { frames := d, cells := 0, slots := 0, locals := 38 * d }
def kq_Pc (g : kq_G) (as : List kq_V) (μ : kq_M) : Array Value → State → Prop := fun v U => v = (as.map (kq_tr g)).toArray ∧ kq_Hd g μ U.heap ∧ kq_Wd g (kq_sc μ) U ∧ kq_Ap g
def kq_Qc (g : kq_G) (S : Nat × (Nat → Int32)) (Q : Option kq_V → kq_M → Prop) : Array Value → State → Outcome → State → Prop := fun _ st oc t =>
  ∃ (r : Option kq_V) (μ' : kq_M), oc = .returned (r.map (kq_tr g)) ∧ Q r μ' ∧ kq_Hd g μ' t.heap ∧ kq_sc μ' = S ∧ t.heap.size = st.heap.size
/-- the method M, called with as over the memory μ, ends with Q -/
def kq_Call (d : Nat) (M : kq_D) (as : List kq_V) (μ : kq_M) (Q : Option kq_V → kq_M → Prop) : Prop := ∀ (l : Launch) (g : kq_G), Met l M.1 (kq_ws M) (kq_rm d) (kq_Pc g as μ) (kq_Qc g (kq_sc μ) Q) 0 0 (kq_A g)
theorem kq_Pc.blind (g : kq_G) (as : List kq_V) (μ : kq_M) : FrameBlind (kq_Pc g as μ) := fun a U f mk h => ⟨h.1, h.2.1, h.2.2.1.same (s := U) rfl, h.2.2.2⟩
def kq_C (M : kq_D) (g : kq_G) (S : Nat × (Nat → Int32)) (p : Program) (s : State) (m : MethodId) (args : Array Value) (meth : Method) (c : Code) : Prop :=
  p.tables.exec = Jvm.exec ∧ c.code = M.2.1 ∧ meth.sig.returnType = M.2.2.2 ∧ meth.locks = false ∧ c.maxLocals = M.2.2.1 ∧ s.vm.findClass M.1.cls = some m.cls ∧ (∀ w ∈ kq_tbl, w.before args s = true) ∧ kq_Wd g S s ∧ kq_Ap g ∧ ((kq_gH g).size ≤ s.heap.size ∧ ∀ q : Nat, q < (kq_gH g).size → s.heap[q]? = (kq_gH g)[q]?)
def kq_lv (g : kq_G) (ls : List (Option kq_V)) (lc : Array Slot) (n : Nat) : Prop := lc.size = n ∧ lv_wf lc ∧ ∀ (i : Nat) (v : kq_V), ls[i]? = some (some v) → lc[i]? = some (.val (kq_tr g v))
/-- M's body goes on from pc to an end with Q -/
def kq_S (M : kq_D) (d pc : Nat) (ls : List (Option kq_V)) (st : List kq_V) (μ : kq_M) (Q : Option kq_V → kq_M → Prop) : Prop :=
  ∀ (R : Room) (kc ks : Nat) (l : Launch) (g : kq_G) (p : Program) (e : Env) (s : State) (m : MethodId) (args : Array Value) (below : List Frame) (meth : Method) (c : Code) (H : Heap) (locs : List Loc) (lc : Array Slot),
    (d ≤ R.frames ∧ 38 * d ≤ R.locals ∧ kc ≤ R.cells ∧ ks ≤ R.slots) → kq_C M g (kq_sc μ) p s m args meth c → kq_Hd g μ H → H.size = s.heap.size → (∀ q ∈ locs, kq_A g q.base) → kq_lv g ls lc M.2.2.1 →
    W p l e R s m args below meth c H locs kc ks (MQ below (kq_Qc g (kq_sc μ) Q) args s kc ks (kq_A g)) (F0 m pc lc (st.map (kq_tr g)))
/-- behind a call -/
def kq_K (M : kq_D) (d pc : Nat) (ls : List (Option kq_V)) (st : List kq_V) (Q : Option kq_V → kq_M → Prop) : Option kq_V → kq_M → Prop := fun ret μ => match ret with
  | some v => kq_S M d pc ls (v :: st) μ Q
  | none => kq_S M d pc ls st μ Q
/-! the first locals -/
def kq_l0 : List kq_V → Nat → List (Option kq_V)
  | [], n => List.replicate n none
  | .inr (.inl x) :: vs, n => some (kq_L x) :: none :: kq_l0 vs (n - 2)
  | .inl x :: vs, n => some (kq_I x) :: kq_l0 vs (n - 1)
  | .inr (.inr q) :: vs, n => some (.inr (.inr q)) :: kq_l0 vs (n - 1)
theorem kq_l0_in {g : kq_G} (hF : (kq_gF g).category = 1) : ∀ (vs : List kq_V) (n k i : Nat) (v : kq_V), (kq_l0 vs n)[i]? = some (some v) → (k + i, kq_tr g v) ∈ lv_args k (vs.map (kq_tr g))
  | [], n, k, i, v, h => by
    simp [kq_l0, List.getElem?_replicate] at h
  | w :: vs, n, k, i, v, h => by
    have hc := kq_tr_cat hF w
    rcases w with x | x | q
    · cases i with
      | zero => cases h; exact List.mem_cons_self
      | succ i =>
        have h1 := kq_l0_in hF vs (n - 1) (k + 1) i v h
        refine List.mem_cons_of_mem _ ?_
        rw [if_neg (by rw [hc]; show ¬ (1 : Nat) = 2; decide)]
        rw [show k + (i + 1) = k + 1 + i by omega]
        exact h1
    · cases i with
      | zero => cases h; exact List.mem_cons_self
      | succ i =>
        cases i with
        | zero => cases h
        | succ i =>
          have h1 := kq_l0_in hF vs (n - 2) (k + 2) i v h
          refine List.mem_cons_of_mem _ ?_
          rw [if_pos (by rw [hc]; rfl)]
          rw [show k + (i + 1 + 1) = k + 2 + i by omega]
          exact h1
    · cases i with
      | zero => cases h; exact List.mem_cons_self
      | succ i =>
        have h1 := kq_l0_in hF vs (n - 1) (k + 1) i v h
        refine List.mem_cons_of_mem _ ?_
        rw [if_neg (by rw [hc]; show ¬ (1 : Nat) = 2; decide)]
        rw [show k + (i + 1) = k + 1 + i by omega]
        exact h1
theorem kq_sl_len {g : kq_G} (hF : (kq_gF g).category = 1) : ∀ vs : List kq_V, (lg_sl (vs.map (kq_tr g))).length = (vs.map kq_cat).sum
  | [] => rfl
  | v :: vs => by
    have ih := kq_sl_len hF vs
    have hc := kq_tr_cat hF v
    have e : lg_sl ((v :: vs).map (kq_tr g)) = (if (kq_tr g v).category = 2 then [Slot.val (kq_tr g v), .second] else [.val (kq_tr g v)]) ++ lg_sl (vs.map (kq_tr g)) := rfl
    rw [e, List.length_append, ih, hc]
    show _ = kq_cat v + (vs.map kq_cat).sum
    congr 1
    rcases v with x | x | q <;> rfl
theorem kq_enter {d : Nat} {M : kq_D} {as : List kq_V} {μ : kq_M} {Q : Option kq_V → kq_M → Prop} (hy : plainName M.1.cls = true) (hn : (as.map kq_cat).sum ≤ M.2.2.1) (k : kq_S M d 0 (kq_l0 as M.2.2.1) [] μ Q) : kq_Call d M as μ Q := by
  intro l g
  refine Met.ofW (cc := M.2.1) (maxL := M.2.2.1) (ret := M.2.2.2) hy rfl ?_
  intro p e s m args below meth c s₁ B hml hv
  obtain ⟨rfl, hH, hW, hA⟩ := hv
  have hF := hW.gF
  have hl := lv_entry (as.map (kq_tr g)) (n := M.2.2.1) (by rw [kq_sl_len hF]; exact hn)
  rw [lg_entry_eq]
  refine k _ 0 0 l g p e s m _ below meth c s.heap [] _ ⟨Nat.le_refl _, Nat.le_refl _, Nat.zero_le _, Nat.zero_le _⟩ ⟨B.exec, B.bytes, B.returns, B.notSynchronized, hml, findClass_of_methodNamed B.named, fun w h => atoms_spec (ws := kq_ws M) B.pre w (List.mem_cons_of_mem _ h), hW, hA, hH.2⟩ hH rfl (fun q h => by cases h) ⟨hl.1, hl.2.1, fun i v h => ?_⟩
  have h1 := kq_l0_in hF as M.2.2.1 0 i v h
  rw [Nat.zero_add] at h1
  exact hl.2.2 _ h1
end
section
/-! THE RULES of the abstract machine: an instruction each (locals, stack, arithmetic, branches, returns) -/
theorem kq_iconst {M : kq_D} {d pc : Nat} {ls : List (Option kq_V)} {st : List kq_V} {μ : kq_M} {Q : Option kq_V → kq_M → Prop} {n : Int} {v : Int32} (hd : decode M.2.1 pc = .ok (.iconst n, 1)) (hv : Int32.ofInt n = v) (k : kq_S M d (pc + 1) ls (kq_I v :: st) μ Q) : kq_S M d pc ls (st) μ Q := by
  intro R kc ks l g p e s m args below meth c H locs lc hR hC hH hz hL hV
  exact lv_iconst (v := v) hC.1 hC.2.1 hd hv (k R kc ks l g p e s m args below meth c H locs lc hR hC hH hz hL hV)
theorem kq_bipush {M : kq_D} {d pc : Nat} {ls : List (Option kq_V)} {st : List kq_V} {μ : kq_M} {Q : Option kq_V → kq_M → Prop} {n : Int} {v : Int32} (hd : decode M.2.1 pc = .ok (.bipush n, 2)) (hv : (Int8.ofInt n).toInt32 = v) (k : kq_S M d (pc + 2) ls (kq_I v :: st) μ Q) : kq_S M d pc ls (st) μ Q := by
  intro R kc ks l g p e s m args below meth c H locs lc hR hC hH hz hL hV
  exact lv_bipush (v := v) hC.1 hC.2.1 hd hv (k R kc ks l g p e s m args below meth c H locs lc hR hC hH hz hL hV)
theorem kq_sipush {M : kq_D} {d pc : Nat} {ls : List (Option kq_V)} {st : List kq_V} {μ : kq_M} {Q : Option kq_V → kq_M → Prop} {n : Int} {v : Int32} (hd : decode M.2.1 pc = .ok (.sipush n, 3)) (hv : (Int16.ofInt n).toInt32 = v) (k : kq_S M d (pc + 3) ls (kq_I v :: st) μ Q) : kq_S M d pc ls (st) μ Q := by
  intro R kc ks l g p e s m args below meth c H locs lc hR hC hH hz hL hV
  exact lv_sipush (v := v) hC.1 hC.2.1 hd hv (k R kc ks l g p e s m args below meth c H locs lc hR hC hH hz hL hV)
theorem kq_lconst {M : kq_D} {d pc : Nat} {ls : List (Option kq_V)} {st : List kq_V} {μ : kq_M} {Q : Option kq_V → kq_M → Prop} {n : Fin 2} {v : Int64} (hd : decode M.2.1 pc = .ok (.lconst n, 1)) (hv : Int64.ofNat (n : Nat) = v) (k : kq_S M d (pc + 1) ls (kq_L v :: st) μ Q) : kq_S M d pc ls (st) μ Q := by
  intro R kc ks l g p e s m args below meth c H locs lc hR hC hH hz hL hV
  exact lv_lconst (v := v) hC.1 hC.2.1 hd hv (k R kc ks l g p e s m args below meth c H locs lc hR hC hH hz hL hV)
theorem kq_ldc {M : kq_D} {d pc : Nat} {ls : List (Option kq_V)} {st : List kq_V} {μ : kq_M} {Q : Option kq_V → kq_M → Prop} {idx : Nat} {v : Int32} (hd : decode M.2.1 pc = .ok (.ldc idx, 2)) (hw : Cond.constant M.1.cls idx v ∈ kq_tbl) (k : kq_S M d (pc + 2) ls (kq_I v :: st) μ Q) : kq_S M d pc ls (st) μ Q := by
  intro R kc ks l g p e s m args below meth c H locs lc hR hC hH hz hL hV
  exact lv_ldc hC.1 hC.2.1 hC.2.2.2.2.2.1 (hC.2.2.2.2.2.2.1 _ hw) hd (k R kc ks l g p e s m args below meth c H locs lc hR hC hH hz hL hV)
theorem kq_ldcw {M : kq_D} {d pc : Nat} {ls : List (Option kq_V)} {st : List kq_V} {μ : kq_M} {Q : Option kq_V → kq_M → Prop} {idx : Nat} {v : Int32} (hd : decode M.2.1 pc = .ok (.ldc_w idx, 3)) (hw : Cond.constant M.1.cls idx v ∈ kq_tbl) (k : kq_S M d (pc + 3) ls (kq_I v :: st) μ Q) : kq_S M d pc ls (st) μ Q := by
  intro R kc ks l g p e s m args below meth c H locs lc hR hC hH hz hL hV
  exact lv_ldcw hC.1 hC.2.1 hC.2.2.2.2.2.1 (hC.2.2.2.2.2.2.1 _ hw) hd (k R kc ks l g p e s m args below meth c H locs lc hR hC hH hz hL hV)
theorem kq_ldc2 {M : kq_D} {d pc : Nat} {ls : List (Option kq_V)} {st : List kq_V} {μ : kq_M} {Q : Option kq_V → kq_M → Prop} {idx : Nat} {v : Int64} (hd : decode M.2.1 pc = .ok (.ldc2_w idx, 3)) (hw : Cond.constantLong M.1.cls idx v ∈ kq_tbl) (k : kq_S M d (pc + 3) ls (kq_L v :: st) μ Q) : kq_S M d pc ls (st) μ Q := by
  intro R kc ks l g p e s m args below meth c H locs lc hR hC hH hz hL hV
  exact lv_ldc2 hC.1 hC.2.1 hC.2.2.2.2.2.1 (hC.2.2.2.2.2.2.1 _ hw) hd (k R kc ks l g p e s m args below meth c H locs lc hR hC hH hz hL hV)
theorem kq_ldcS {M : kq_D} {d pc : Nat} {ls : List (Option kq_V)} {st : List kq_V} {μ : kq_M} {Q : Option kq_V → kq_M → Prop} {idx : Nat} (j : Nat) (hd : decode M.2.1 pc = .ok (.ldc idx, 2)) (hj : j < 12) (ho : M.1.cls = "KettleInquest$Clerk") (hx : kq_si j = idx) (k : kq_S M d (pc + 2) ls (kq_R j 43 :: st) μ Q) : kq_S M d pc ls (st) μ Q := by
  intro R kc ks l g p e s m args below meth c H locs lc hR hC hH hz hL hV
  have hZ := hC.2.2.2.2.2.2.2.1.2.2.2.2.2.1 j hj
  rw [hx] at hZ
  have hown := hC.2.2.2.2.2.1
  rw [ho] at hown
  exact va_ldcS (tx := kq_st j) hC.1 hC.2.1 hown hZ hd (k R kc ks l g p e s m args below meth c H locs lc hR hC hH hz hL hV)
theorem kq_iload_n {M : kq_D} {d pc : Nat} {ls : List (Option kq_V)} {st : List kq_V} {μ : kq_M} {Q : Option kq_V → kq_M → Prop} {n : Fin 4} (i : Nat) {x : Int32} (hd : decode M.2.1 pc = .ok (.iload_n n, 1)) (hi : (n : Nat) = i) (hl : ls[i]? = some (some (kq_I x))) (k : kq_S M d (pc + 1) ls (kq_I x :: st) μ Q) : kq_S M d pc ls (st) μ Q := by
  intro R kc ks l g p e s m args below meth c H locs lc hR hC hH hz hL hV
  exact lv_iload_n hC.1 hC.2.1 hd hi (hV.2.2 i _ hl) (k R kc ks l g p e s m args below meth c H locs lc hR hC hH hz hL hV)
theorem kq_iload {M : kq_D} {d pc : Nat} {ls : List (Option kq_V)} {st : List kq_V} {μ : kq_M} {Q : Option kq_V → kq_M → Prop} {i : Nat} {x : Int32} (hd : decode M.2.1 pc = .ok (.iload i, 2)) (hl : ls[i]? = some (some (kq_I x))) (k : kq_S M d (pc + 2) ls (kq_I x :: st) μ Q) : kq_S M d pc ls (st) μ Q := by
  intro R kc ks l g p e s m args below meth c H locs lc hR hC hH hz hL hV
  exact lv_iload hC.1 hC.2.1 hd (hV.2.2 i _ hl) (k R kc ks l g p e s m args below meth c H locs lc hR hC hH hz hL hV)
theorem kq_lload_n {M : kq_D} {d pc : Nat} {ls : List (Option kq_V)} {st : List kq_V} {μ : kq_M} {Q : Option kq_V → kq_M → Prop} {n : Fin 4} (i : Nat) {x : Int64} (hd : decode M.2.1 pc = .ok (.lload_n n, 1)) (hi : (n : Nat) = i) (hl : ls[i]? = some (some (kq_L x))) (k : kq_S M d (pc + 1) ls (kq_L x :: st) μ Q) : kq_S M d pc ls (st) μ Q := by
  intro R kc ks l g p e s m args below meth c H locs lc hR hC hH hz hL hV
  exact lv_lload_n hC.1 hC.2.1 hd hi (hV.2.2 i _ hl) (k R kc ks l g p e s m args below meth c H locs lc hR hC hH hz hL hV)
theorem kq_lload {M : kq_D} {d pc : Nat} {ls : List (Option kq_V)} {st : List kq_V} {μ : kq_M} {Q : Option kq_V → kq_M → Prop} {i : Nat} {x : Int64} (hd : decode M.2.1 pc = .ok (.lload i, 2)) (hl : ls[i]? = some (some (kq_L x))) (k : kq_S M d (pc + 2) ls (kq_L x :: st) μ Q) : kq_S M d pc ls (st) μ Q := by
  intro R kc ks l g p e s m args below meth c H locs lc hR hC hH hz hL hV
  exact lv_lload hC.1 hC.2.1 hd (hV.2.2 i _ hl) (k R kc ks l g p e s m args below meth c H locs lc hR hC hH hz hL hV)
theorem kq_aload_n {M : kq_D} {d pc : Nat} {ls : List (Option kq_V)} {st : List kq_V} {μ : kq_M} {Q : Option kq_V → kq_M → Prop} {n : Fin 4} (i : Nat) {r j : Nat} (hd : decode M.2.1 pc = .ok (.aload_n n, 1)) (hi : (n : Nat) = i) (hl : ls[i]? = some (some (kq_R r j))) (h5 : j ≠ 45) (k : kq_S M d (pc + 1) ls (kq_R r j :: st) μ Q) : kq_S M d pc ls (st) μ Q := by
  intro R kc ks l g p e s m args below meth c H locs lc hR hC hH hz hL hV
  have h1 := hV.2.2 i _ hl
  have k1 := k R kc ks l g p e s m args below meth c H locs lc hR hC hH hz hL hV
  rw [kq_trR g r h5] at h1
  rw [List.map_cons, kq_trR g r h5] at k1
  exact lv_aload_n hC.1 hC.2.1 hd hi h1 k1
theorem kq_aload {M : kq_D} {d pc : Nat} {ls : List (Option kq_V)} {st : List kq_V} {μ : kq_M} {Q : Option kq_V → kq_M → Prop} {i : Nat} {r j : Nat} (hd : decode M.2.1 pc = .ok (.aload i, 2)) (hl : ls[i]? = some (some (kq_R r j))) (h5 : j ≠ 45) (k : kq_S M d (pc + 2) ls (kq_R r j :: st) μ Q) : kq_S M d pc ls (st) μ Q := by
  intro R kc ks l g p e s m args below meth c H locs lc hR hC hH hz hL hV
  have h1 := hV.2.2 i _ hl
  have k1 := k R kc ks l g p e s m args below meth c H locs lc hR hC hH hz hL hV
  rw [kq_trR g r h5] at h1
  rw [List.map_cons, kq_trR g r h5] at k1
  exact lv_aload hC.1 hC.2.1 hd h1 k1
/-- no long stands just ahead of slot i -/
def kq_nl (ls : List (Option kq_V)) : Nat → Bool
  | 0 => true
  | j + 1 => match ls[j]? with
    | some (some (.inr (.inl _))) => false
    | _ => true
def kq_vl (g : kq_G) (ls : List (Option kq_V)) : List (Nat × Value) := (List.range ls.length).filterMap (fun j => match ls[j]? with
  | some (some v) => some (j, kq_tr g v)
  | _ => none)
theorem kq_vl_in {g : kq_G} {ls : List (Option kq_V)} {j : Nat} {v : kq_V} (h : ls[j]? = some (some v)) : (j, kq_tr g v) ∈ kq_vl g ls := by
  refine List.mem_filterMap.mpr ⟨j, List.mem_range.mpr (List.getElem?_eq_some_iff.mp h).1, ?_⟩
  rw [h]
theorem kq_vl_of {g : kq_G} {ls : List (Option kq_V)} {q : Nat × Value} (h : q ∈ kq_vl g ls) : ∃ v, ls[q.1]? = some (some v) ∧ q.2 = kq_tr g v := by
  obtain ⟨j, -, hj⟩ := List.mem_filterMap.mp h
  split at hj
  next v hv => cases hj; exact ⟨v, hv, rfl⟩
  next => cases hj
theorem kq_lv.has {g : kq_G} {ls : List (Option kq_V)} {lc : Array Slot} {n : Nat} (h : kq_lv g ls lc n) : lv_has lc n (kq_vl g ls) := by
  refine ⟨h.1, h.2.1, fun q hq => ?_⟩
  obtain ⟨v, h1, h2⟩ := kq_vl_of hq
  rw [h2]
  exact h.2.2 _ _ h1
theorem kq_lv.set1 {g : kq_G} {ls : List (Option kq_V)} {lc : Array Slot} {n i : Nat} {v : kq_V} (hF : (kq_gF g).category = 1) (hp : kq_nl ls i = true) (h : lv_has lc n ((i, kq_tr g v) :: (kq_vl g ls).filter (fun q => !(q.1 == i) && !(q.1 + 1 == i && q.2.category == 2)))) : kq_lv g (ls.set i (some v)) lc n := by
  refine ⟨h.1, h.2.1, fun j w hj => ?_⟩
  by_cases e : j = i
  · subst e
    have hlt : j < ls.length := by
      have := (List.getElem?_eq_some_iff.mp hj).1
      rwa [List.length_set] at this
    rw [List.getElem?_set_self hlt] at hj
    cases hj
    exact h.2.2 (j, kq_tr g v) List.mem_cons_self
  · rw [List.getElem?_set_ne (Ne.symm e)] at hj
    refine h.2.2 (j, kq_tr g w) (List.mem_cons_of_mem _ (List.mem_filter.mpr ⟨kq_vl_in hj, ?_⟩))
    have hc := kq_tr_cat hF w
    simp only [Bool.and_eq_true, Bool.not_eq_true', beq_eq_false_iff_ne, ne_eq, Bool.and_eq_false_iff, hc]
    refine ⟨e, ?_⟩
    by_cases e2 : j + 1 = i
    · refine Or.inr ?_
      subst e2
      rcases w with x | x | q
      · show ¬ (1 : Nat) = 2; decide
      · simp [kq_nl, hj] at hp
      · show ¬ (1 : Nat) = 2; decide
    · exact Or.inl e2
theorem kq_lv.set2 {g : kq_G} {ls : List (Option kq_V)} {lc : Array Slot} {n i : Nat} {v : kq_V} (hF : (kq_gF g).category = 1) (hp : kq_nl ls i = true) (h : lv_has lc n ((i, kq_tr g v) :: (kq_vl g ls).filter (fun q => !(q.1 == i) && (!(q.1 == i + 1) && !(q.1 + 1 == i && q.2.category == 2))))) : kq_lv g ((ls.set i (some v)).set (i + 1) none) lc n := by
  refine ⟨h.1, h.2.1, fun j w hj => ?_⟩
  by_cases e1 : j = i + 1
  · subst e1
    have hlt := (List.getElem?_eq_some_iff.mp hj).1
    rw [List.length_set] at hlt
    rw [List.getElem?_set_self hlt] at hj
    cases hj
  rw [List.getElem?_set_ne (Ne.symm e1)] at hj
  by_cases e : j = i
  · subst e
    have hlt : j < ls.length := by
      have := (List.getElem?_eq_some_iff.mp hj).1
      rwa [List.length_set] at this
    rw [List.getElem?_set_self hlt] at hj
    cases hj
    exact h.2.2 (j, kq_tr g v) List.mem_cons_self
  · rw [List.getElem?_set_ne (Ne.symm e)] at hj
    refine h.2.2 (j, kq_tr g w) (List.mem_cons_of_mem _ (List.mem_filter.mpr ⟨kq_vl_in hj, ?_⟩))
    have hc := kq_tr_cat hF w
    simp only [Bool.and_eq_true, Bool.not_eq_true', beq_eq_false_iff_ne, ne_eq, Bool.and_eq_false_iff, hc]
    refine ⟨e, e1, ?_⟩
    by_cases e2 : j + 1 = i
    · refine Or.inr ?_
      subst e2
      rcases w with x | x | q
      · show ¬ (1 : Nat) = 2; decide
      · simp [kq_nl, hj] at hp
      · show ¬ (1 : Nat) = 2; decide
    · exact Or.inl e2
theorem kq_istore_n {M : kq_D} {d pc : Nat} {ls : List (Option kq_V)} {st : List kq_V} {μ : kq_M} {Q : Option kq_V → kq_M → Prop} {x : Int32} {n : Fin 4} (i : Nat) (hd : decode M.2.1 pc = .ok (.istore_n n, 1)) (hi : (n : Nat) = i) (hn : i < M.2.2.1) (hp : kq_nl ls i = true) (k : kq_S M d (pc + 1) (ls.set i (some (kq_I x))) st μ Q) : kq_S M d pc ls (kq_I x :: st) μ Q := by
  intro R kc ks l g p e s m args below meth c H locs lc hR hC hH hz hL hV
  refine lv_istore_n hC.1 hC.2.1 hd hi (kq_lv.has hV) hn rfl (fun lc' h' => k R kc ks l g p e s m args below meth c H locs lc' hR hC hH hz hL (kq_lv.set1 (v := kq_I x) hC.2.2.2.2.2.2.2.1.gF hp ?_))
  exact h'
theorem kq_istore {M : kq_D} {d pc : Nat} {ls : List (Option kq_V)} {st : List kq_V} {μ : kq_M} {Q : Option kq_V → kq_M → Prop} {x : Int32} {i : Nat} (hd : decode M.2.1 pc = .ok (.istore i, 2)) (hn : i < M.2.2.1) (hp : kq_nl ls i = true) (k : kq_S M d (pc + 2) (ls.set i (some (kq_I x))) st μ Q) : kq_S M d pc ls (kq_I x :: st) μ Q := by
  intro R kc ks l g p e s m args below meth c H locs lc hR hC hH hz hL hV
  refine lv_istore hC.1 hC.2.1 hd (kq_lv.has hV) hn rfl (fun lc' h' => k R kc ks l g p e s m args below meth c H locs lc' hR hC hH hz hL (kq_lv.set1 (v := kq_I x) hC.2.2.2.2.2.2.2.1.gF hp ?_))
  exact h'
theorem kq_lstore_n {M : kq_D} {d pc : Nat} {ls : List (Option kq_V)} {st : List kq_V} {μ : kq_M} {Q : Option kq_V → kq_M → Prop} {x : Int64} {n : Fin 4} (i : Nat) (hd : decode M.2.1 pc = .ok (.lstore_n n, 1)) (hi : (n : Nat) = i) (hn : i + 1 < M.2.2.1) (hp : kq_nl ls i = true) (k : kq_S M d (pc + 1) ((ls.set i (some (kq_L x))).set (i + 1) none) st μ Q) : kq_S M d pc ls (kq_L x :: st) μ Q := by
  intro R kc ks l g p e s m args below meth c H locs lc hR hC hH hz hL hV
  refine lv_lstore_n hC.1 hC.2.1 hd hi (kq_lv.has hV) hn rfl (fun lc' h' => k R kc ks l g p e s m args below meth c H locs lc' hR hC hH hz hL (kq_lv.set2 (v := kq_L x) hC.2.2.2.2.2.2.2.1.gF hp ?_))
  exact h'
theorem kq_lstore {M : kq_D} {d pc : Nat} {ls : List (Option kq_V)} {st : List kq_V} {μ : kq_M} {Q : Option kq_V → kq_M → Prop} {x : Int64} {i : Nat} (hd : decode M.2.1 pc = .ok (.lstore i, 2)) (hn : i + 1 < M.2.2.1) (hp : kq_nl ls i = true) (k : kq_S M d (pc + 2) ((ls.set i (some (kq_L x))).set (i + 1) none) st μ Q) : kq_S M d pc ls (kq_L x :: st) μ Q := by
  intro R kc ks l g p e s m args below meth c H locs lc hR hC hH hz hL hV
  refine lv_lstore hC.1 hC.2.1 hd (kq_lv.has hV) hn rfl (fun lc' h' => k R kc ks l g p e s m args below meth c H locs lc' hR hC hH hz hL (kq_lv.set2 (v := kq_L x) hC.2.2.2.2.2.2.2.1.gF hp ?_))
  exact h'
theorem kq_astore_n {M : kq_D} {d pc : Nat} {ls : List (Option kq_V)} {st : List kq_V} {μ : kq_M} {Q : Option kq_V → kq_M → Prop} {r j : Nat} {n : Fin 4} (i : Nat) (hd : decode M.2.1 pc = .ok (.astore_n n, 1)) (hi : (n : Nat) = i) (hn : i < M.2.2.1) (hp : kq_nl ls i = true) (h5 : j ≠ 45) (k : kq_S M d (pc + 1) (ls.set i (some (kq_R r j))) st μ Q) : kq_S M d pc ls (kq_R r j :: st) μ Q := by
  intro R kc ks l g p e s m args below meth c H locs lc hR hC hH hz hL hV
  show W p l e R s m args below meth c H locs kc ks _ (F0 m pc lc (kq_tr g (kq_R r j) :: st.map (kq_tr g)))
  rw [kq_trR g r h5]
  refine lv_astore_n hC.1 hC.2.1 hd hi (kq_lv.has hV) hn rfl (fun lc' h' => k R kc ks l g p e s m args below meth c H locs lc' hR hC hH hz hL (kq_lv.set1 (v := kq_R r j) hC.2.2.2.2.2.2.2.1.gF hp ?_))
  rw [kq_trR g r h5]
  exact h'
theorem kq_astore {M : kq_D} {d pc : Nat} {ls : List (Option kq_V)} {st : List kq_V} {μ : kq_M} {Q : Option kq_V → kq_M → Prop} {r j : Nat} {i : Nat} (hd : decode M.2.1 pc = .ok (.astore i, 2)) (hn : i < M.2.2.1) (hp : kq_nl ls i = true) (h5 : j ≠ 45) (k : kq_S M d (pc + 2) (ls.set i (some (kq_R r j))) st μ Q) : kq_S M d pc ls (kq_R r j :: st) μ Q := by
  intro R kc ks l g p e s m args below meth c H locs lc hR hC hH hz hL hV
  show W p l e R s m args below meth c H locs kc ks _ (F0 m pc lc (kq_tr g (kq_R r j) :: st.map (kq_tr g)))
  rw [kq_trR g r h5]
  refine lv_astore hC.1 hC.2.1 hd (kq_lv.has hV) hn rfl (fun lc' h' => k R kc ks l g p e s m args below meth c H locs lc' hR hC hH hz hL (kq_lv.set1 (v := kq_R r j) hC.2.2.2.2.2.2.2.1.gF hp ?_))
  rw [kq_trR g r h5]
  exact h'
theorem kq_iinc {M : kq_D} {d pc : Nat} {ls : List (Option kq_V)} {st : List kq_V} {μ : kq_M} {Q : Option kq_V → kq_M → Prop} {i : Nat} {n : Int} {x : Int32} (v : Int32) (hd : decode M.2.1 pc = .ok (.iinc i n, 3)) (hl : ls[i]? = some (some (kq_I x))) (hv : x + Int32.ofInt n = v) (hn : i < M.2.2.1) (hp : kq_nl ls i = true) (k : kq_S M d (pc + 3) (ls.set i (some (kq_I v))) st μ Q) : kq_S M d pc ls st μ Q := by
  intro R kc ks l g p e s m args below meth c H locs lc hR hC hH hz hL hV
  obtain ⟨k0, hk0⟩ := List.getElem?_of_mem (kq_vl_in (g := g) hl)
  exact lv_iinc hC.1 hC.2.1 hd (kq_lv.has hV) (k := k0) hk0 hv hn rfl (fun lc' h' => k R kc ks l g p e s m args below meth c H locs lc' hR hC hH hz hL (kq_lv.set1 (v := kq_I v) hC.2.2.2.2.2.2.2.1.gF hp h'))
theorem kq_iadd {M : kq_D} {d pc : Nat} {ls : List (Option kq_V)} {st : List kq_V} {μ : kq_M} {Q : Option kq_V → kq_M → Prop} {x y : Int32} (hd : decode M.2.1 pc = .ok (.iadd, 1)) (k : kq_S M d (pc + 1) ls (kq_I (x + y) :: st) μ Q) : kq_S M d pc ls (kq_I y :: kq_I x :: st) μ Q := by
  intro R kc ks l g p e s m args below meth c H locs lc hR hC hH hz hL hV
  exact lv_iadd hC.1 hC.2.1 hd (k R kc ks l g p e s m args below meth c H locs lc hR hC hH hz hL hV)
theorem kq_isub {M : kq_D} {d pc : Nat} {ls : List (Option kq_V)} {st : List kq_V} {μ : kq_M} {Q : Option kq_V → kq_M → Prop} {x y : Int32} (hd : decode M.2.1 pc = .ok (.isub, 1)) (k : kq_S M d (pc + 1) ls (kq_I (x - y) :: st) μ Q) : kq_S M d pc ls (kq_I y :: kq_I x :: st) μ Q := by
  intro R kc ks l g p e s m args below meth c H locs lc hR hC hH hz hL hV
  exact lv_isub hC.1 hC.2.1 hd (k R kc ks l g p e s m args below meth c H locs lc hR hC hH hz hL hV)
theorem kq_imul {M : kq_D} {d pc : Nat} {ls : List (Option kq_V)} {st : List kq_V} {μ : kq_M} {Q : Option kq_V → kq_M → Prop} {x y : Int32} (hd : decode M.2.1 pc = .ok (.imul, 1)) (k : kq_S M d (pc + 1) ls (kq_I (x * y) :: st) μ Q) : kq_S M d pc ls (kq_I y :: kq_I x :: st) μ Q := by
  intro R kc ks l g p e s m args below meth c H locs lc hR hC hH hz hL hV
  exact lv_imul hC.1 hC.2.1 hd (k R kc ks l g p e s m args below meth c H locs lc hR hC hH hz hL hV)
theorem kq_iand {M : kq_D} {d pc : Nat} {ls : List (Option kq_V)} {st : List kq_V} {μ : kq_M} {Q : Option kq_V → kq_M → Prop} {x y : Int32} (hd : decode M.2.1 pc = .ok (.iand, 1)) (k : kq_S M d (pc + 1) ls (kq_I (x &&& y) :: st) μ Q) : kq_S M d pc ls (kq_I y :: kq_I x :: st) μ Q := by
  intro R kc ks l g p e s m args below meth c H locs lc hR hC hH hz hL hV
  exact lv_iand hC.1 hC.2.1 hd (k R kc ks l g p e s m args below meth c H locs lc hR hC hH hz hL hV)
theorem kq_ior {M : kq_D} {d pc : Nat} {ls : List (Option kq_V)} {st : List kq_V} {μ : kq_M} {Q : Option kq_V → kq_M → Prop} {x y : Int32} (hd : decode M.2.1 pc = .ok (.ior, 1)) (k : kq_S M d (pc + 1) ls (kq_I (x ||| y) :: st) μ Q) : kq_S M d pc ls (kq_I y :: kq_I x :: st) μ Q := by
  intro R kc ks l g p e s m args below meth c H locs lc hR hC hH hz hL hV
  exact lv_ior hC.1 hC.2.1 hd (k R kc ks l g p e s m args below meth c H locs lc hR hC hH hz hL hV)
theorem kq_ixor {M : kq_D} {d pc : Nat} {ls : List (Option kq_V)} {st : List kq_V} {μ : kq_M} {Q : Option kq_V → kq_M → Prop} {x y : Int32} (hd : decode M.2.1 pc = .ok (.ixor, 1)) (k : kq_S M d (pc + 1) ls (kq_I (x ^^^ y) :: st) μ Q) : kq_S M d pc ls (kq_I y :: kq_I x :: st) μ Q := by
  intro R kc ks l g p e s m args below meth c H locs lc hR hC hH hz hL hV
  exact lv_ixor hC.1 hC.2.1 hd (k R kc ks l g p e s m args below meth c H locs lc hR hC hH hz hL hV)
theorem kq_ishl {M : kq_D} {d pc : Nat} {ls : List (Option kq_V)} {st : List kq_V} {μ : kq_M} {Q : Option kq_V → kq_M → Prop} {x y : Int32} (hd : decode M.2.1 pc = .ok (.ishl, 1)) (k : kq_S M d (pc + 1) ls (kq_I (x <<< (y &&& 31)) :: st) μ Q) : kq_S M d pc ls (kq_I y :: kq_I x :: st) μ Q := by
  intro R kc ks l g p e s m args below meth c H locs lc hR hC hH hz hL hV
  exact lv_ishl hC.1 hC.2.1 hd (k R kc ks l g p e s m args below meth c H locs lc hR hC hH hz hL hV)
theorem kq_ishr {M : kq_D} {d pc : Nat} {ls : List (Option kq_V)} {st : List kq_V} {μ : kq_M} {Q : Option kq_V → kq_M → Prop} {x y : Int32} (hd : decode M.2.1 pc = .ok (.ishr, 1)) (k : kq_S M d (pc + 1) ls (kq_I (x >>> (y &&& 31)) :: st) μ Q) : kq_S M d pc ls (kq_I y :: kq_I x :: st) μ Q := by
  intro R kc ks l g p e s m args below meth c H locs lc hR hC hH hz hL hV
  exact lv_ishr hC.1 hC.2.1 hd (k R kc ks l g p e s m args below meth c H locs lc hR hC hH hz hL hV)
theorem kq_idiv {M : kq_D} {d pc : Nat} {ls : List (Option kq_V)} {st : List kq_V} {μ : kq_M} {Q : Option kq_V → kq_M → Prop} {x y : Int32} (hd : decode M.2.1 pc = .ok (.idiv, 1)) (hne : ¬ y = 0) (k : kq_S M d (pc + 1) ls (kq_I (x / y) :: st) μ Q) : kq_S M d pc ls (kq_I y :: kq_I x :: st) μ Q := by
  intro R kc ks l g p e s m args below meth c H locs lc hR hC hH hz hL hV
  exact lv_idiv hC.1 hC.2.1 hd hne (k R kc ks l g p e s m args below meth c H locs lc hR hC hH hz hL hV)
theorem kq_irem {M : kq_D} {d pc : Nat} {ls : List (Option kq_V)} {st : List kq_V} {μ : kq_M} {Q : Option kq_V → kq_M → Prop} {x y : Int32} (hd : decode M.2.1 pc = .ok (.irem, 1)) (hne : ¬ y = 0) (k : kq_S M d (pc + 1) ls (kq_I (x - x / y * y) :: st) μ Q) : kq_S M d pc ls (kq_I y :: kq_I x :: st) μ Q := by
  intro R kc ks l g p e s m args below meth c H locs lc hR hC hH hz hL hV
  exact lv_irem hC.1 hC.2.1 hd hne (k R kc ks l g p e s m args below meth c H locs lc hR hC hH hz hL hV)
theorem kq_ineg {M : kq_D} {d pc : Nat} {ls : List (Option kq_V)} {st : List kq_V} {μ : kq_M} {Q : Option kq_V → kq_M → Prop} {x : Int32} (hd : decode M.2.1 pc = .ok (.ineg, 1)) (k : kq_S M d (pc + 1) ls (kq_I (-x) :: st) μ Q) : kq_S M d pc ls (kq_I x :: st) μ Q := by
  intro R kc ks l g p e s m args below meth c H locs lc hR hC hH hz hL hV
  exact lv_ineg hC.1 hC.2.1 hd (k R kc ks l g p e s m args below meth c H locs lc hR hC hH hz hL hV)
theorem kq_iushr {M : kq_D} {d pc : Nat} {ls : List (Option kq_V)} {st : List kq_V} {μ : kq_M} {Q : Option kq_V → kq_M → Prop} {x y : Int32} (hd : decode M.2.1 pc = .ok (.iushr, 1)) (k : kq_S M d (pc + 1) ls (kq_I ((x.toUInt32 >>> (y.toUInt32 &&& Int32.toUInt32 31)).toInt32) :: st) μ Q) : kq_S M d pc ls (kq_I y :: kq_I x :: st) μ Q := by
  intro R kc ks l g p e s m args below meth c H locs lc hR hC hH hz hL hV
  exact lv_iushr hC.1 hC.2.1 hd rfl (k R kc ks l g p e s m args below meth c H locs lc hR hC hH hz hL hV)
theorem kq_ladd {M : kq_D} {d pc : Nat} {ls : List (Option kq_V)} {st : List kq_V} {μ : kq_M} {Q : Option kq_V → kq_M → Prop} {x y : Int64} (hd : decode M.2.1 pc = .ok (.ladd, 1)) (k : kq_S M d (pc + 1) ls (kq_L (x + y) :: st) μ Q) : kq_S M d pc ls (kq_L y :: kq_L x :: st) μ Q := by
  intro R kc ks l g p e s m args below meth c H locs lc hR hC hH hz hL hV
  exact lv_ladd hC.1 hC.2.1 hd (k R kc ks l g p e s m args below meth c H locs lc hR hC hH hz hL hV)
theorem kq_lsub {M : kq_D} {d pc : Nat} {ls : List (Option kq_V)} {st : List kq_V} {μ : kq_M} {Q : Option kq_V → kq_M → Prop} {x y : Int64} (hd : decode M.2.1 pc = .ok (.lsub, 1)) (k : kq_S M d (pc + 1) ls (kq_L (x - y) :: st) μ Q) : kq_S M d pc ls (kq_L y :: kq_L x :: st) μ Q := by
  intro R kc ks l g p e s m args below meth c H locs lc hR hC hH hz hL hV
  exact lv_lsub hC.1 hC.2.1 hd (k R kc ks l g p e s m args below meth c H locs lc hR hC hH hz hL hV)
theorem kq_lmul {M : kq_D} {d pc : Nat} {ls : List (Option kq_V)} {st : List kq_V} {μ : kq_M} {Q : Option kq_V → kq_M → Prop} {x y : Int64} (hd : decode M.2.1 pc = .ok (.lmul, 1)) (k : kq_S M d (pc + 1) ls (kq_L (x * y) :: st) μ Q) : kq_S M d pc ls (kq_L y :: kq_L x :: st) μ Q := by
  intro R kc ks l g p e s m args below meth c H locs lc hR hC hH hz hL hV
  exact lv_lmul hC.1 hC.2.1 hd (k R kc ks l g p e s m args below meth c H locs lc hR hC hH hz hL hV)
theorem kq_land {M : kq_D} {d pc : Nat} {ls : List (Option kq_V)} {st : List kq_V} {μ : kq_M} {Q : Option kq_V → kq_M → Prop} {x y : Int64} (hd : decode M.2.1 pc = .ok (.land, 1)) (k : kq_S M d (pc + 1) ls (kq_L (x &&& y) :: st) μ Q) : kq_S M d pc ls (kq_L y :: kq_L x :: st) μ Q := by
  intro R kc ks l g p e s m args below meth c H locs lc hR hC hH hz hL hV
  exact lv_land hC.1 hC.2.1 hd (k R kc ks l g p e s m args below meth c H locs lc hR hC hH hz hL hV)
theorem kq_lor {M : kq_D} {d pc : Nat} {ls : List (Option kq_V)} {st : List kq_V} {μ : kq_M} {Q : Option kq_V → kq_M → Prop} {x y : Int64} (hd : decode M.2.1 pc = .ok (.lor, 1)) (k : kq_S M d (pc + 1) ls (kq_L (x ||| y) :: st) μ Q) : kq_S M d pc ls (kq_L y :: kq_L x :: st) μ Q := by
  intro R kc ks l g p e s m args below meth c H locs lc hR hC hH hz hL hV
  exact lv_lor hC.1 hC.2.1 hd (k R kc ks l g p e s m args below meth c H locs lc hR hC hH hz hL hV)
theorem kq_lshl {M : kq_D} {d pc : Nat} {ls : List (Option kq_V)} {st : List kq_V} {μ : kq_M} {Q : Option kq_V → kq_M → Prop} {x : Int64} {y : Int32} (hd : decode M.2.1 pc = .ok (.lshl, 1)) (k : kq_S M d (pc + 1) ls (kq_L (x <<< (y.toInt64 &&& 63)) :: st) μ Q) : kq_S M d pc ls (kq_I y :: kq_L x :: st) μ Q := by
  intro R kc ks l g p e s m args below meth c H locs lc hR hC hH hz hL hV
  exact lv_lshl hC.1 hC.2.1 hd rfl (k R kc ks l g p e s m args below meth c H locs lc hR hC hH hz hL hV)
theorem kq_lshr {M : kq_D} {d pc : Nat} {ls : List (Option kq_V)} {st : List kq_V} {μ : kq_M} {Q : Option kq_V → kq_M → Prop} {x : Int64} {y : Int32} (hd : decode M.2.1 pc = .ok (.lshr, 1)) (k : kq_S M d (pc + 1) ls (kq_L (x >>> (y.toInt64 &&& 63)) :: st) μ Q) : kq_S M d pc ls (kq_I y :: kq_L x :: st) μ Q := by
  intro R kc ks l g p e s m args below meth c H locs lc hR hC hH hz hL hV
  exact lv_lshr hC.1 hC.2.1 hd rfl (k R kc ks l g p e s m args below meth c H locs lc hR hC hH hz hL hV)
theorem kq_lcmp {M : kq_D} {d pc : Nat} {ls : List (Option kq_V)} {st : List kq_V} {μ : kq_M} {Q : Option kq_V → kq_M → Prop} {x y : Int64} (hd : decode M.2.1 pc = .ok (.lcmp, 1)) (k : kq_S M d (pc + 1) ls (kq_I (lg_cmp x y) :: st) μ Q) : kq_S M d pc ls (kq_L y :: kq_L x :: st) μ Q := by
  intro R kc ks l g p e s m args below meth c H locs lc hR hC hH hz hL hV
  exact W.lcmp hC.1 hC.2.1 hd (k R kc ks l g p e s m args below meth c H locs lc hR hC hH hz hL hV)
theorem kq_i2l {M : kq_D} {d pc : Nat} {ls : List (Option kq_V)} {st : List kq_V} {μ : kq_M} {Q : Option kq_V → kq_M → Prop} {x : Int32} (hd : decode M.2.1 pc = .ok (.i2l, 1)) (k : kq_S M d (pc + 1) ls (kq_L x.toInt64 :: st) μ Q) : kq_S M d pc ls (kq_I x :: st) μ Q := by
  intro R kc ks l g p e s m args below meth c H locs lc hR hC hH hz hL hV
  exact lv_i2l hC.1 hC.2.1 hd rfl (k R kc ks l g p e s m args below meth c H locs lc hR hC hH hz hL hV)
theorem kq_l2i {M : kq_D} {d pc : Nat} {ls : List (Option kq_V)} {st : List kq_V} {μ : kq_M} {Q : Option kq_V → kq_M → Prop} {x : Int64} (hd : decode M.2.1 pc = .ok (.l2i, 1)) (k : kq_S M d (pc + 1) ls (kq_I x.toInt32 :: st) μ Q) : kq_S M d pc ls (kq_L x :: st) μ Q := by
  intro R kc ks l g p e s m args below meth c H locs lc hR hC hH hz hL hV
  exact lv_l2i hC.1 hC.2.1 hd rfl (k R kc ks l g p e s m args below meth c H locs lc hR hC hH hz hL hV)
theorem kq_i2b {M : kq_D} {d pc : Nat} {ls : List (Option kq_V)} {st : List kq_V} {μ : kq_M} {Q : Option kq_V → kq_M → Prop} {x : Int32} (hd : decode M.2.1 pc = .ok (.i2b, 1)) (k : kq_S M d (pc + 1) ls (kq_I x.toInt8.toInt32 :: st) μ Q) : kq_S M d pc ls (kq_I x :: st) μ Q := by
  intro R kc ks l g p e s m args below meth c H locs lc hR hC hH hz hL hV
  exact lv_i2b hC.1 hC.2.1 hd rfl (k R kc ks l g p e s m args below meth c H locs lc hR hC hH hz hL hV)
theorem kq_i2s {M : kq_D} {d pc : Nat} {ls : List (Option kq_V)} {st : List kq_V} {μ : kq_M} {Q : Option kq_V → kq_M → Prop} {x : Int32} (hd : decode M.2.1 pc = .ok (.i2s, 1)) (k : kq_S M d (pc + 1) ls (kq_I x.toInt16.toInt32 :: st) μ Q) : kq_S M d pc ls (kq_I x :: st) μ Q := by
  intro R kc ks l g p e s m args below meth c H locs lc hR hC hH hz hL hV
  exact lv_i2s hC.1 hC.2.1 hd rfl (k R kc ks l g p e s m args below meth c H locs lc hR hC hH hz hL hV)
theorem kq_i2c {M : kq_D} {d pc : Nat} {ls : List (Option kq_V)} {st : List kq_V} {μ : kq_M} {Q : Option kq_V → kq_M → Prop} {x : Int32} (hd : decode M.2.1 pc = .ok (.i2c, 1)) (k : kq_S M d (pc + 1) ls (kq_I (x.toUInt32 % 65536).toInt32 :: st) μ Q) : kq_S M d pc ls (kq_I x :: st) μ Q := by
  intro R kc ks l g p e s m args below meth c H locs lc hR hC hH hz hL hV
  exact lv_i2c hC.1 hC.2.1 hd rfl (k R kc ks l g p e s m args below meth c H locs lc hR hC hH hz hL hV)
theorem kq_dup {M : kq_D} {d pc : Nat} {ls : List (Option kq_V)} {st : List kq_V} {μ : kq_M} {Q : Option kq_V → kq_M → Prop} {v : kq_V} (hd : decode M.2.1 pc = .ok (.dup, 1)) (hc : kq_cat v = 1) (k : kq_S M d (pc + 1) ls (v :: v :: st) μ Q) : kq_S M d pc ls (v :: st) μ Q := by
  intro R kc ks l g p e s m args below meth c H locs lc hR hC hH hz hL hV
  exact lv_dup hC.1 hC.2.1 hd (by rw [kq_tr_cat hC.2.2.2.2.2.2.2.1.gF]; exact hc) (k R kc ks l g p e s m args below meth c H locs lc hR hC hH hz hL hV)
theorem kq_pop {M : kq_D} {d pc : Nat} {ls : List (Option kq_V)} {st : List kq_V} {μ : kq_M} {Q : Option kq_V → kq_M → Prop} {v : kq_V} (hd : decode M.2.1 pc = .ok (.pop, 1)) (hc : kq_cat v = 1) (k : kq_S M d (pc + 1) ls (st) μ Q) : kq_S M d pc ls (v :: st) μ Q := by
  intro R kc ks l g p e s m args below meth c H locs lc hR hC hH hz hL hV
  exact lv_pop hC.1 hC.2.1 hd (by rw [kq_tr_cat hC.2.2.2.2.2.2.2.1.gF]; exact hc) (k R kc ks l g p e s m args below meth c H locs lc hR hC hH hz hL hV)
theorem kq_dup2 {M : kq_D} {d pc : Nat} {ls : List (Option kq_V)} {st : List kq_V} {μ : kq_M} {Q : Option kq_V → kq_M → Prop} {v w : kq_V} (hd : decode M.2.1 pc = .ok (.dup2, 1)) (hc : kq_cat v = 1) (hc2 : kq_cat w = 1) (k : kq_S M d (pc + 1) ls (v :: w :: v :: w :: st) μ Q) : kq_S M d pc ls (v :: w :: st) μ Q := by
  intro R kc ks l g p e s m args below meth c H locs lc hR hC hH hz hL hV
  exact lv_dup2_11 hC.1 hC.2.1 hd (by rw [kq_tr_cat hC.2.2.2.2.2.2.2.1.gF]; exact hc) (by rw [kq_tr_cat hC.2.2.2.2.2.2.2.1.gF]; exact hc2) (k R kc ks l g p e s m args below meth c H locs lc hR hC hH hz hL hV)
theorem kq_if_eq {M : kq_D} {d pc : Nat} {ls : List (Option kq_V)} {st : List kq_V} {μ : kq_M} {Q : Option kq_V → kq_M → Prop} {x : Int32} {off : Int} (tgt : Nat) (hd : decode M.2.1 pc = .ok (.ifCond .eq off, 3)) (ht : (pc : Int) + off = (tgt : Int)) (kt : x = 0 → kq_S M d tgt ls st μ Q) (kf : ¬ x = 0 → kq_S M d (pc + 3) ls st μ Q) : kq_S M d pc ls (kq_I x :: st) μ Q := by
  intro R kc ks l g p e s m args below meth c H locs lc hR hC hH hz hL hV
  exact lv_if_eq (tgt := tgt) hC.1 hC.2.1 hd ht (fun h => kt h R kc ks l g p e s m args below meth c H locs lc hR hC hH hz hL hV) (fun h => kf h R kc ks l g p e s m args below meth c H locs lc hR hC hH hz hL hV)
theorem kq_icmp_eq {M : kq_D} {d pc : Nat} {ls : List (Option kq_V)} {st : List kq_V} {μ : kq_M} {Q : Option kq_V → kq_M → Prop} {x y : Int32} {off : Int} (tgt : Nat) (hd : decode M.2.1 pc = .ok (.if_icmp .eq off, 3)) (ht : (pc : Int) + off = (tgt : Int)) (kt : x = y → kq_S M d tgt ls st μ Q) (kf : ¬ x = y → kq_S M d (pc + 3) ls st μ Q) : kq_S M d pc ls (kq_I y :: kq_I x :: st) μ Q := by
  intro R kc ks l g p e s m args below meth c H locs lc hR hC hH hz hL hV
  exact lv_icmp_eq (tgt := tgt) hC.1 hC.2.1 hd ht (fun h => kt h R kc ks l g p e s m args below meth c H locs lc hR hC hH hz hL hV) (fun h => kf h R kc ks l g p e s m args below meth c H locs lc hR hC hH hz hL hV)
theorem kq_if_ne {M : kq_D} {d pc : Nat} {ls : List (Option kq_V)} {st : List kq_V} {μ : kq_M} {Q : Option kq_V → kq_M → Prop} {x : Int32} {off : Int} (tgt : Nat) (hd : decode M.2.1 pc = .ok (.ifCond .ne off, 3)) (ht : (pc : Int) + off = (tgt : Int)) (kt : ¬ x = 0 → kq_S M d tgt ls st μ Q) (kf : x = 0 → kq_S M d (pc + 3) ls st μ Q) : kq_S M d pc ls (kq_I x :: st) μ Q := by
  intro R kc ks l g p e s m args below meth c H locs lc hR hC hH hz hL hV
  exact lv_if_ne (tgt := tgt) hC.1 hC.2.1 hd ht (fun h => kt h R kc ks l g p e s m args below meth c H locs lc hR hC hH hz hL hV) (fun h => kf h R kc ks l g p e s m args below meth c H locs lc hR hC hH hz hL hV)
theorem kq_icmp_ne {M : kq_D} {d pc : Nat} {ls : List (Option kq_V)} {st : List kq_V} {μ : kq_M} {Q : Option kq_V → kq_M → Prop} {x y : Int32} {off : Int} (tgt : Nat) (hd : decode M.2.1 pc = .ok (.if_icmp .ne off, 3)) (ht : (pc : Int) + off = (tgt : Int)) (kt : ¬ x = y → kq_S M d tgt ls st μ Q) (kf : x = y → kq_S M d (pc + 3) ls st μ Q) : kq_S M d pc ls (kq_I y :: kq_I x :: st) μ Q := by
  intro R kc ks l g p e s m args below meth c H locs lc hR hC hH hz hL hV
  exact lv_icmp_ne (tgt := tgt) hC.1 hC.2.1 hd ht (fun h => kt h R kc ks l g p e s m args below meth c H locs lc hR hC hH hz hL hV) (fun h => kf h R kc ks l g p e s m args below meth c H locs lc hR hC hH hz hL hV)
theorem kq_if_lt {M : kq_D} {d pc : Nat} {ls : List (Option kq_V)} {st : List kq_V} {μ : kq_M} {Q : Option kq_V → kq_M → Prop} {x : Int32} {off : Int} (tgt : Nat) (hd : decode M.2.1 pc = .ok (.ifCond .lt off, 3)) (ht : (pc : Int) + off = (tgt : Int)) (kt : x < 0 → kq_S M d tgt ls st μ Q) (kf : ¬ x < 0 → kq_S M d (pc + 3) ls st μ Q) : kq_S M d pc ls (kq_I x :: st) μ Q := by
  intro R kc ks l g p e s m args below meth c H locs lc hR hC hH hz hL hV
  exact lv_if_lt (tgt := tgt) hC.1 hC.2.1 hd ht (fun h => kt h R kc ks l g p e s m args below meth c H locs lc hR hC hH hz hL hV) (fun h => kf h R kc ks l g p e s m args below meth c H locs lc hR hC hH hz hL hV)
theorem kq_icmp_lt {M : kq_D} {d pc : Nat} {ls : List (Option kq_V)} {st : List kq_V} {μ : kq_M} {Q : Option kq_V → kq_M → Prop} {x y : Int32} {off : Int} (tgt : Nat) (hd : decode M.2.1 pc = .ok (.if_icmp .lt off, 3)) (ht : (pc : Int) + off = (tgt : Int)) (kt : x < y → kq_S M d tgt ls st μ Q) (kf : ¬ x < y → kq_S M d (pc + 3) ls st μ Q) : kq_S M d pc ls (kq_I y :: kq_I x :: st) μ Q := by
  intro R kc ks l g p e s m args below meth c H locs lc hR hC hH hz hL hV
  exact lv_icmp_lt (tgt := tgt) hC.1 hC.2.1 hd ht (fun h => kt h R kc ks l g p e s m args below meth c H locs lc hR hC hH hz hL hV) (fun h => kf h R kc ks l g p e s m args below meth c H locs lc hR hC hH hz hL hV)
theorem kq_if_ge {M : kq_D} {d pc : Nat} {ls : List (Option kq_V)} {st : List kq_V} {μ : kq_M} {Q : Option kq_V → kq_M → Prop} {x : Int32} {off : Int} (tgt : Nat) (hd : decode M.2.1 pc = .ok (.ifCond .ge off, 3)) (ht : (pc : Int) + off = (tgt : Int)) (kt : 0 ≤ x → kq_S M d tgt ls st μ Q) (kf : ¬ 0 ≤ x → kq_S M d (pc + 3) ls st μ Q) : kq_S M d pc ls (kq_I x :: st) μ Q := by
  intro R kc ks l g p e s m args below meth c H locs lc hR hC hH hz hL hV
  exact lv_if_ge (tgt := tgt) hC.1 hC.2.1 hd ht (fun h => kt h R kc ks l g p e s m args below meth c H locs lc hR hC hH hz hL hV) (fun h => kf h R kc ks l g p e s m args below meth c H locs lc hR hC hH hz hL hV)
theorem kq_icmp_ge {M : kq_D} {d pc : Nat} {ls : List (Option kq_V)} {st : List kq_V} {μ : kq_M} {Q : Option kq_V → kq_M → Prop} {x y : Int32} {off : Int} (tgt : Nat) (hd : decode M.2.1 pc = .ok (.if_icmp .ge off, 3)) (ht : (pc : Int) + off = (tgt : Int)) (kt : y ≤ x → kq_S M d tgt ls st μ Q) (kf : ¬ y ≤ x → kq_S M d (pc + 3) ls st μ Q) : kq_S M d pc ls (kq_I y :: kq_I x :: st) μ Q := by
  intro R kc ks l g p e s m args below meth c H locs lc hR hC hH hz hL hV
  exact lv_icmp_ge (tgt := tgt) hC.1 hC.2.1 hd ht (fun h => kt h R kc ks l g p e s m args below meth c H locs lc hR hC hH hz hL hV) (fun h => kf h R kc ks l g p e s m args below meth c H locs lc hR hC hH hz hL hV)
theorem kq_if_gt {M : kq_D} {d pc : Nat} {ls : List (Option kq_V)} {st : List kq_V} {μ : kq_M} {Q : Option kq_V → kq_M → Prop} {x : Int32} {off : Int} (tgt : Nat) (hd : decode M.2.1 pc = .ok (.ifCond .gt off, 3)) (ht : (pc : Int) + off = (tgt : Int)) (kt : 0 < x → kq_S M d tgt ls st μ Q) (kf : ¬ 0 < x → kq_S M d (pc + 3) ls st μ Q) : kq_S M d pc ls (kq_I x :: st) μ Q := by
  intro R kc ks l g p e s m args below meth c H locs lc hR hC hH hz hL hV
  exact lv_if_gt (tgt := tgt) hC.1 hC.2.1 hd ht (fun h => kt h R kc ks l g p e s m args below meth c H locs lc hR hC hH hz hL hV) (fun h => kf h R kc ks l g p e s m args below meth c H locs lc hR hC hH hz hL hV)
theorem kq_icmp_gt {M : kq_D} {d pc : Nat} {ls : List (Option kq_V)} {st : List kq_V} {μ : kq_M} {Q : Option kq_V → kq_M → Prop} {x y : Int32} {off : Int} (tgt : Nat) (hd : decode M.2.1 pc = .ok (.if_icmp .gt off, 3)) (ht : (pc : Int) + off = (tgt : Int)) (kt : y < x → kq_S M d tgt ls st μ Q) (kf : ¬ y < x → kq_S M d (pc + 3) ls st μ Q) : kq_S M d pc ls (kq_I y :: kq_I x :: st) μ Q := by
  intro R kc ks l g p e s m args below meth c H locs lc hR hC hH hz hL hV
  exact lv_icmp_gt (tgt := tgt) hC.1 hC.2.1 hd ht (fun h => kt h R kc ks l g p e s m args below meth c H locs lc hR hC hH hz hL hV) (fun h => kf h R kc ks l g p e s m args below meth c H locs lc hR hC hH hz hL hV)
theorem kq_if_le {M : kq_D} {d pc : Nat} {ls : List (Option kq_V)} {st : List kq_V} {μ : kq_M} {Q : Option kq_V → kq_M → Prop} {x : Int32} {off : Int} (tgt : Nat) (hd : decode M.2.1 pc = .ok (.ifCond .le off, 3)) (ht : (pc : Int) + off = (tgt : Int)) (kt : x ≤ 0 → kq_S M d tgt ls st μ Q) (kf : ¬ x ≤ 0 → kq_S M d (pc + 3) ls st μ Q) : kq_S M d pc ls (kq_I x :: st) μ Q := by
  intro R kc ks l g p e s m args below meth c H locs lc hR hC hH hz hL hV
  exact lv_if_le (tgt := tgt) hC.1 hC.2.1 hd ht (fun h => kt h R kc ks l g p e s m args below meth c H locs lc hR hC hH hz hL hV) (fun h => kf h R kc ks l g p e s m args below meth c H locs lc hR hC hH hz hL hV)
theorem kq_icmp_le {M : kq_D} {d pc : Nat} {ls : List (Option kq_V)} {st : List kq_V} {μ : kq_M} {Q : Option kq_V → kq_M → Prop} {x y : Int32} {off : Int} (tgt : Nat) (hd : decode M.2.1 pc = .ok (.if_icmp .le off, 3)) (ht : (pc : Int) + off = (tgt : Int)) (kt : x ≤ y → kq_S M d tgt ls st μ Q) (kf : ¬ x ≤ y → kq_S M d (pc + 3) ls st μ Q) : kq_S M d pc ls (kq_I y :: kq_I x :: st) μ Q := by
  intro R kc ks l g p e s m args below meth c H locs lc hR hC hH hz hL hV
  exact lv_icmp_le (tgt := tgt) hC.1 hC.2.1 hd ht (fun h => kt h R kc ks l g p e s m args below meth c H locs lc hR hC hH hz hL hV) (fun h => kf h R kc ks l g p e s m args below meth c H locs lc hR hC hH hz hL hV)
theorem kq_goto {M : kq_D} {d pc : Nat} {ls : List (Option kq_V)} {st : List kq_V} {μ : kq_M} {Q : Option kq_V → kq_M → Prop} {off : Int} (tgt : Nat) (hd : decode M.2.1 pc = .ok (.goto off, 3)) (ht : (pc : Int) + off = (tgt : Int)) (k : kq_S M d tgt ls st μ Q) : kq_S M d pc ls st μ Q := by
  intro R kc ks l g p e s m args below meth c H locs lc hR hC hH hz hL hV
  exact lv_goto (tgt := tgt) hC.1 hC.2.1 hd ht (k R kc ks l g p e s m args below meth c H locs lc hR hC hH hz hL hV)
theorem kq_tabOut {M : kq_D} {d pc : Nat} {ls : List (Option kq_V)} {st : List kq_V} {μ : kq_M} {Q : Option kq_V → kq_M → Prop} {dflt lo hi : Int} {offs : Array Int} {len : Nat} {x : Int32} (tgt : Nat) (hd : decode M.2.1 pc = .ok (.tableswitch dflt lo hi offs, len)) (h : x.toInt < lo ∨ hi < x.toInt) (ht : (pc : Int) + dflt = (tgt : Int)) (k : kq_S M d tgt ls st μ Q) : kq_S M d pc ls (kq_I x :: st) μ Q := by
  intro R kc ks l g p e s m args below meth c H locs lc hR hC hH hz hL hV
  exact lv_tableOut (tgt := tgt) hC.1 hC.2.1 hd h ht (k R kc ks l g p e s m args below meth c H locs lc hR hC hH hz hL hV)
theorem kq_tabIn {M : kq_D} {d pc : Nat} {ls : List (Option kq_V)} {st : List kq_V} {μ : kq_M} {Q : Option kq_V → kq_M → Prop} {dflt lo hi : Int} {offs : Array Int} {len : Nat} {x : Int32} {off : Int} (tgt : Nat) (hd : decode M.2.1 pc = .ok (.tableswitch dflt lo hi offs, len)) (h1 : ¬ x.toInt < lo) (h2 : ¬ hi < x.toInt) (ho : offs[(x.toInt - lo).toNat]? = some off) (ht : (pc : Int) + off = (tgt : Int)) (k : kq_S M d tgt ls st μ Q) : kq_S M d pc ls (kq_I x :: st) μ Q := by
  intro R kc ks l g p e s m args below meth c H locs lc hR hC hH hz hL hV
  exact lv_tableIn (tgt := tgt) hC.1 hC.2.1 hd h1 h2 ho ht (k R kc ks l g p e s m args below meth c H locs lc hR hC hH hz hL hV)
theorem kq_lookup {M : kq_D} {d pc : Nat} {ls : List (Option kq_V)} {st : List kq_V} {μ : kq_M} {Q : Option kq_V → kq_M → Prop} {dflt : Int} {ps : Array (Int × Int)} {len : Nat} {x : Int32} {off : Int} (tgt : Nat) (hd : decode M.2.1 pc = .ok (.lookupswitch dflt ps, len)) (hp : (ps.toList.zip (ps.toList.drop 1)).all (fun (a, next) => a.1 < next.1) = true) (ho : Op.lookupswitch.offset ps.toList dflt x.toInt = off) (ht : (pc : Int) + off = (tgt : Int)) (k : kq_S M d tgt ls st μ Q) : kq_S M d pc ls (kq_I x :: st) μ Q := by
  intro R kc ks l g p e s m args below meth c H locs lc hR hC hH hz hL hV
  exact lv_lookup (tgt := tgt) hC.1 hC.2.1 hd hp ho ht (k R kc ks l g p e s m args below meth c H locs lc hR hC hH hz hL hV)
theorem kq_iret {M : kq_D} {d pc : Nat} {ls : List (Option kq_V)} {μ : kq_M} {Q : Option kq_V → kq_M → Prop} {v : Int32} (hd : decode M.2.1 pc = .ok (.ireturn, 1)) (hr : M.2.2.2 = some .int) (k : Q (some (kq_I v)) μ) : kq_S M d pc ls ([kq_I v]) μ Q := by
  intro R kc ks l g p e s m args below meth c H locs lc hR hC hH hz hL hV
  exact W.iret hC.1 hC.2.1 (hC.2.2.1.trans hr) (fun t ht hW => ⟨some (kq_I v), μ, rfl, k, by rw [ht]; exact hH, rfl, by rw [ht]; exact hz⟩) hL hd hC.2.2.2.1
theorem kq_zret {M : kq_D} {d pc : Nat} {ls : List (Option kq_V)} {μ : kq_M} {Q : Option kq_V → kq_M → Prop} {v : Int32} {ty : FieldType} (hd : decode M.2.1 pc = .ok (.ireturn, 1)) (hr : M.2.2.2 = some ty) (hn : narrow ty (.int v) = .int v) (k : Q (some (kq_I v)) μ) : kq_S M d pc ls ([kq_I v]) μ Q := by
  intro R kc ks l g p e s m args below meth c H locs lc hR hC hH hz hL hV
  exact W.zret hC.1 hC.2.1 (hC.2.2.1.trans hr) hn (fun t ht hW => ⟨some (kq_I v), μ, rfl, k, by rw [ht]; exact hH, rfl, by rw [ht]; exact hz⟩) hL hd hC.2.2.2.1
theorem kq_lret {M : kq_D} {d pc : Nat} {ls : List (Option kq_V)} {μ : kq_M} {Q : Option kq_V → kq_M → Prop} {v : Int64} (hd : decode M.2.1 pc = .ok (.lreturn, 1)) (hr : M.2.2.2 = some .long) (k : Q (some (kq_L v)) μ) : kq_S M d pc ls ([kq_L v]) μ Q := by
  intro R kc ks l g p e s m args below meth c H locs lc hR hC hH hz hL hV
  exact W.lret hC.1 hC.2.1 (hC.2.2.1.trans hr) (fun t ht hW => ⟨some (kq_L v), μ, rfl, k, by rw [ht]; exact hH, rfl, by rw [ht]; exact hz⟩) hL hd hC.2.2.2.1
theorem kq_aret {M : kq_D} {d pc : Nat} {ls : List (Option kq_V)} {μ : kq_M} {Q : Option kq_V → kq_M → Prop} {r j : Nat} {nm : String} (hd : decode M.2.1 pc = .ok (.areturn, 1)) (hr : M.2.2.2 = some (.object nm)) (h5 : j ≠ 45) (k : Q (some (kq_R r j)) μ) : kq_S M d pc ls ([kq_R r j]) μ Q := by
  intro R kc ks l g p e s m args below meth c H locs lc hR hC hH hz hL hV
  show W p l e R s m args below meth c H locs kc ks _ (F0 m pc lc [kq_tr g (kq_R r j)])
  exact W.aret hC.1 hC.2.1 (hC.2.2.1.trans hr) (Or.inl ⟨nm, rfl⟩) (Or.inr ⟨_, kq_trR g r h5⟩) (fun t ht hW => ⟨some (kq_R r j), μ, rfl, k, by rw [ht]; exact hH, rfl, by rw [ht]; exact hz⟩) hL hd hC.2.2.2.1
theorem kq_vret {M : kq_D} {d pc : Nat} {ls : List (Option kq_V)} {μ : kq_M} {Q : Option kq_V → kq_M → Prop} (hd : decode M.2.1 pc = .ok (.return_, 1)) (hr : M.2.2.2 = none) (k : Q none μ) : kq_S M d pc ls [] μ Q := by
  intro R kc ks l g p e s m args below meth c H locs lc hR hC hH hz hL hV
  exact W.vret hC.1 hC.2.1 (hC.2.2.1.trans hr) (fun t ht hW => ⟨none, μ, rfl, k, by rw [ht]; exact hH, rfl, by rw [ht]; exact hz⟩) hL hd hC.2.2.2.1
end
section
/-! THE RULES of the memory and of calls -/
theorem kq_C.S {M : kq_D} {g : kq_G} {S : Nat × (Nat → Int32)} {p : Program} {s : State} {m : MethodId} {args : Array Value} {meth : Method} {c : Code} {μ : kq_M} {H : Heap} {locs : List Loc} (hC : kq_C M g S p s m args meth c) (hH : kq_Hd g μ H) (hz : H.size = s.heap.size) (hL : ∀ q ∈ locs, kq_A g q.base) : va_S (kq_A g) s.heap H locs :=
  ⟨Nat.le_of_eq hz.symm, fun q _ h2 => by
    have h3 : q < (kq_gH g).size := Nat.not_le.mp h2
    rw [hH.2.2 q h3, hC.2.2.2.2.2.2.2.2.2.2 q h3], hL⟩
/-- a fact of the law's heap is one of the method's first heap -/
theorem kq_C.old {M : kq_D} {g : kq_G} {S : Nat × (Nat → Int32)} {p : Program} {s : State} {m : MethodId} {args : Array Value} {meth : Method} {c : Code} (hC : kq_C M g S p s m args meth c) : ∀ a : Nat, a < (kq_gH g).size → ¬ kq_A g a → s.heap[a]? = (kq_gH g)[a]? := fun a h _ => hC.2.2.2.2.2.2.2.2.2.2 a h
theorem kq_C.w {M : kq_D} {g : kq_G} {S : Nat × (Nat → Int32)} {p : Program} {s : State} {m : MethodId} {args : Array Value} {meth : Method} {c : Code} (hC : kq_C M g S p s m args meth c) {w : Cond} (hw : w ∈ kq_tbl) : w.before args s = true := hC.2.2.2.2.2.2.1 _ hw
theorem kq_C.D {M : kq_D} {g : kq_G} {S : Nat × (Nat → Int32)} {p : Program} {s : State} {m : MethodId} {args : Array Value} {meth : Method} {c : Code} (hC : kq_C M g S p s m args meth c) : kq_Wd g S s := hC.2.2.2.2.2.2.2.1
theorem kq_Wd.K {g : kq_G} {S : Nat × (Nat → Int32)} {s : State} (h : kq_Wd g S s) {c : Nat} (hc : c < 5) : u_Kn s (kq_cn c) (kq_FT c) (kq_nF c) ((kq_gD g).1 c) ((kq_gD g).2 c) := h.1.1 c _ (kq_cg c hc)
theorem kq_Wd.aI {g : kq_G} {S : Nat × (Nat → Int32)} {s : State} (h : kq_Wd g S s) : ArrOfT s (kq_gA g 0) .int := (h.1.2 0 _ rfl).1
theorem kq_Wd.aL {g : kq_G} {S : Nat × (Nat → Int32)} {s : State} (h : kq_Wd g S s) : ArrOfT s (kq_gA g 1) .long := (h.1.2 1 _ rfl).1
theorem kq_Wd.aS {g : kq_G} {S : Nat × (Nat → Int32)} {s : State} (h : kq_Wd g S s) : ArrOfT s (kq_gA g 2) (.object "KettleInquest$Sheet") := (h.1.2 2 _ rfl).1
theorem kq_at0 {g : kq_G} {μ : kq_M} {r i : Nat} {H : Heap} (h : kq_at g μ r i H) (hi : kq_ck i = 0) : t_OB (kq_gd g r i) ((kq_gD g).1 (kq_ci i)) (kq_nF (kq_ci i)) ((kq_gD g).2 (kq_ci i)) H (kq_val g μ r i) := by
  unfold kq_at at h
  rw [hi] at h
  exact h
theorem kq_at1 {g : kq_G} {μ : kq_M} {r i : Nat} {H : Heap} (h : kq_at g μ r i H) (hi : kq_ck i = 1) : H[kq_gd g r i]? = some (arrV (kq_gA g 0) (kq_len i) (fun j => .int (kq_rI μ r i j))) := by
  unfold kq_at at h
  rw [hi] at h
  exact h
theorem kq_at2 {g : kq_G} {μ : kq_M} {r i : Nat} {H : Heap} (h : kq_at g μ r i H) (hi : kq_ck i = 2) : H[kq_gd g r i]? = some (arrV (kq_gA g 1) (kq_len i) (fun j => .long (kq_rL μ r i j))) := by
  unfold kq_at at h
  rw [hi] at h
  exact h
theorem kq_at3 {g : kq_G} {μ : kq_M} {r i : Nat} {H : Heap} (h : kq_at g μ r i H) (hi : kq_ck i = 3) : H[kq_gd g r i]? = some (arrV (kq_gA g 2) (kq_len i) (fun j => .ref (kq_gd g j 8))) := by
  unfold kq_at at h
  rw [hi] at h
  exact h
/-- one cell changes, and the memory there -/
theorem kq_Hd.put {g : kq_G} {μ μ' : kq_M} {r i : Nat} {H H' : Heap} (hA : kq_Ap g) (hH : kq_Hd g μ H) (hok : kq_ok i r = true) (hz : H'.size = H.size) (ho : ∀ q : Nat, q ≠ kq_gd g r i → H'[q]? = H[q]?) (hat : kq_at g μ' r i H') (hI : ∀ a b k, ¬ (a = r ∧ b = i) → kq_rI μ' a b k = kq_rI μ a b k) (hL : ∀ a b k, ¬ (a = r ∧ b = i) → kq_rL μ' a b k = kq_rL μ a b k) : kq_Hd g μ' H' := by
  refine ⟨fun a b hab => ?_, by rw [hz]; exact hH.2.1, fun q hq => ?_⟩
  · by_cases e : a = r ∧ b = i
    · obtain ⟨rfl, rfl⟩ := e
      exact hat
    · exact (hH.1 a b hab).keep (ho _ (fun q => e (hA.1 a b r i hab hok q))) (fun k => hI a b k e) (fun k => hL a b k e)
  · rw [ho q (fun e => ?_)]
    · exact hH.2.2 q hq
    · have h1 := hA.2 r i hok
      rw [← e] at h1
      exact absurd hq (Nat.not_lt.mpr h1)
section KM
variable {M : kq_D} {d pc : Nat} {ls : List (Option kq_V)} {st : List kq_V} {μ : kq_M} {Q : Option kq_V → kq_M → Prop}
theorem kq_getf {idx r : Nat} (i k : Nat) (hd : decode M.2.1 pc = .ok (.getfield idx, 3)) (hw : Cond.fieldLink M.1.cls idx (kq_FT (kq_ci i) k).1 (kq_FT (kq_ci i) k).2.1 (kq_FT (kq_ci i) k).2.2.1 ∈ kq_tbl) (hi : kq_ck i = 0 ∧ kq_ci i < 5 ∧ k < kq_nF (kq_ci i) ∧ i ≠ 45) (h5 : (kq_tg r i k).2 ≠ 45) (hok : kq_ok i r = true) (kk : kq_S M d (pc + 3) ls (kq_av μ r i k :: st) μ Q) : kq_S M d pc ls (kq_R r i :: st) μ Q := by
  intro R kc ks l g p e s m args below meth c H locs lc hR hC hH hz hL hV
  obtain ⟨h0, h1, h2, h3⟩ := hi
  have k1 := kk R kc ks l g p e s m args below meth c H locs lc hR hC hH hz hL hV
  rw [List.map_cons, kq_tr_av g μ r i k h5] at k1
  rw [List.map_cons, kq_trR g r h3]
  obtain ⟨cell, q1, q2, q3, q4⟩ := kq_at0 (hH.1 r i hok) h0
  obtain ⟨hS, hfc, kC, hkC, hkind⟩ := hC.D.K h1
  obtain ⟨cf, kf, fi, f, hfi, hsl⟩ := hS k h2
  refine W.getf hC.1 hC.2.1 hC.2.2.2.2.2.1 (hC.w hw) hfi (u_facts hfc hkC (u_lays (ws := kq_tbl) (fun w h => hC.w h) (kq_ci_in _ h1) h2) hfi).1 q1 (by rw [q3]; exact fun h => by cases h) (v := kq_val g μ r i k) ?_ rfl rfl hd k1
  rw [hsl, q4 k h2]
theorem kq_putI {idx r : Nat} {v : Int32} {ty : FieldType} (i k : Nat) (hd : decode M.2.1 pc = .ok (.putfield idx, 3)) (hw : Cond.fieldLink M.1.cls idx (kq_FT (kq_ci i) k).1 (kq_FT (kq_ci i) k).2.1 (kq_FT (kq_ci i) k).2.2.1 ∈ kq_tbl) (hi : kq_ck i = 0 ∧ kq_ci i < 5 ∧ k < kq_nF (kq_ci i) ∧ i ≠ 45 ∧ kq_fk i k = 0 ∧ (kq_FT (kq_ci i) k).2.2.2 = false ∧ kq_tt (kq_ci i) k = ty) (hn : narrow ty (.int v) = .int v ∧ fits ty (.int v) = true) (hok : kq_ok i r = true) (kk : kq_S M d (pc + 3) ls st (kq_wI μ r i k v) Q) : kq_S M d pc ls (kq_I v :: kq_R r i :: st) μ Q := by
  intro R kc ks l g p e s m args below meth c H locs lc hR hC hH hz hL hV
  obtain ⟨h0, h1, h2, h3, h4, h6, h7⟩ := hi
  rw [List.map_cons, List.map_cons, kq_trR g r h3]
  have hts : ∀ w ∈ kq_tbl, w.before args s = true := fun w h => hC.w h
  have hin := kq_ci_in _ h1
  have hKn := hC.D.K h1
  have hap : ∀ x y, x < kq_nF (kq_ci i) → y < kq_nF (kq_ci i) → x ≠ y → ((kq_gD g).2 (kq_ci i)) x ≠ ((kq_gD g).2 (kq_ci i)) y := va_apart (own := M.1.cls) hts hin (kq_tt (kq_ci i)) (kq_ci_ty _ h1) (kq_ci_nm _ h1) hC.D.1 (kq_cg _ h1)
  obtain ⟨cell, q1, q2, q3, q4⟩ := kq_at0 (hH.1 r i hok) h0
  obtain ⟨hS, hfc, kC, hkC, hkind⟩ := hKn
  obtain ⟨cf, kf, fi, f, hfi, hsl⟩ := hS k h2
  have hlay := hts _ (hin _ (u_in_lay h2))
  unfold u_lay at hlay
  rw [if_neg (by rw [h6]; decide)] at hlay
  have hst := (u_facts hfc hkC (u_lays hts hin h2) hfi).1
  have hty := kq_ci_ty _ h1 k h2
  rw [h7] at hty
  have h9 := u_store hfc hkC hkind hlay hfi hty hn.1 hn.2
  refine W.putK hC.1 hC.2.1 (f := f) ⟨hC.2.2.2.2.2.1, hC.w hw, ⟨_, _, _, hfi⟩, hst⟩ (by rw [q2]; exact h9) q1 q3 (by rw [hsl]; exact k2_hasslot (q4 k h2)) rfl rfl hd fun H' e1 e2 e3 => ?_
  rw [hsl] at e1 ⊢
  refine kk R kc ks l g p e s m args below meth c H' _ lc hR hC (kq_Hd.put (μ := μ) hC.2.2.2.2.2.2.2.2.1 hH hok e2 e3 ?_ (fun a b k' h => ?_) (fun a b k' h => rfl)) (e2.trans hz) (fun q hq => ?_) hV
  · unfold kq_at
    rw [h0]
    refine t_OB.to (V := updV (kq_val g μ r i) k (.int v)) ⟨_, e1, q2, q3, t_set q4 hap h2 (.int v)⟩ (fun j _ => ?_)
    by_cases hj : j = k
    · subst hj
      unfold kq_val
      rw [h4]
      simp [updV, kq_rI_wI]
    · unfold kq_val
      simp only [updV, if_neg hj, kq_rI_wI, hj, and_false, if_false, kq_rL_wI]
  · rw [kq_rI_wI, if_neg (fun z => h ⟨z.1, z.2.1⟩)]
  · rcases List.mem_append.mp hq with h | h
    · exact hL q h
    · rw [List.mem_singleton.mp h]
      exact hC.2.2.2.2.2.2.2.2.1.2 r i hok
theorem kq_putL {idx r : Nat} {v : Int64} (i k : Nat) (hd : decode M.2.1 pc = .ok (.putfield idx, 3)) (hw : Cond.fieldLink M.1.cls idx (kq_FT (kq_ci i) k).1 (kq_FT (kq_ci i) k).2.1 (kq_FT (kq_ci i) k).2.2.1 ∈ kq_tbl) (hi : kq_ck i = 0 ∧ kq_ci i < 5 ∧ k < kq_nF (kq_ci i) ∧ i ≠ 45 ∧ kq_fk i k = 1 ∧ (kq_FT (kq_ci i) k).2.2.2 = false ∧ kq_tt (kq_ci i) k = .long) (hok : kq_ok i r = true) (kk : kq_S M d (pc + 3) ls st (kq_wL μ r i k v) Q) : kq_S M d pc ls (kq_L v :: kq_R r i :: st) μ Q := by
  intro R kc ks l g p e s m args below meth c H locs lc hR hC hH hz hL hV
  obtain ⟨h0, h1, h2, h3, h4, h6, h7⟩ := hi
  rw [List.map_cons, List.map_cons, kq_trR g r h3]
  have hts : ∀ w ∈ kq_tbl, w.before args s = true := fun w h => hC.w h
  have hin := kq_ci_in _ h1
  have hKn := hC.D.K h1
  have hap : ∀ x y, x < kq_nF (kq_ci i) → y < kq_nF (kq_ci i) → x ≠ y → ((kq_gD g).2 (kq_ci i)) x ≠ ((kq_gD g).2 (kq_ci i)) y := va_apart (own := M.1.cls) hts hin (kq_tt (kq_ci i)) (kq_ci_ty _ h1) (kq_ci_nm _ h1) hC.D.1 (kq_cg _ h1)
  obtain ⟨cell, q1, q2, q3, q4⟩ := kq_at0 (hH.1 r i hok) h0
  obtain ⟨hS, hfc, kC, hkC, hkind⟩ := hKn
  obtain ⟨cf, kf, fi, f, hfi, hsl⟩ := hS k h2
  have hlay := hts _ (hin _ (u_in_lay h2))
  unfold u_lay at hlay
  rw [if_neg (by rw [h6]; decide)] at hlay
  have hst := (u_facts hfc hkC (u_lays hts hin h2) hfi).1
  have hty := kq_ci_ty _ h1 k h2
  rw [h7] at hty
  have h9 := u_store (v := .long v) hfc hkC hkind hlay hfi hty rfl rfl
  refine W.putK hC.1 hC.2.1 (f := f) ⟨hC.2.2.2.2.2.1, hC.w hw, ⟨_, _, _, hfi⟩, hst⟩ (by rw [q2]; exact h9) q1 q3 (by rw [hsl]; exact k2_hasslot (q4 k h2)) rfl rfl hd fun H' e1 e2 e3 => ?_
  rw [hsl] at e1 ⊢
  refine kk R kc ks l g p e s m args below meth c H' _ lc hR hC (kq_Hd.put (μ := μ) hC.2.2.2.2.2.2.2.2.1 hH hok e2 e3 ?_ (fun a b k' h => rfl) (fun a b k' h => ?_)) (e2.trans hz) (fun q hq => ?_) hV
  · unfold kq_at
    rw [h0]
    refine t_OB.to (V := updV (kq_val g μ r i) k (.long v)) ⟨_, e1, q2, q3, t_set q4 hap h2 (.long v)⟩ (fun j _ => ?_)
    by_cases hj : j = k
    · subst hj
      unfold kq_val
      rw [h4]
      simp [updV, kq_rL_wL]
    · unfold kq_val
      simp only [updV, if_neg hj, kq_rL_wL, hj, and_false, if_false, kq_rI_wL]
  · rw [kq_rL_wL, if_neg (fun z => h ⟨z.1, z.2.1⟩)]
  · rcases List.mem_append.mp hq with h | h
    · exact hL q h
    · rw [List.mem_singleton.mp h]
      exact hC.2.2.2.2.2.2.2.2.1.2 r i hok
/-! rows of numbers -/
theorem kq_lenlt : ∀ i, kq_len i < 2 ^ 31 := by
  intro i
  unfold kq_len
  split <;> decide
theorem kq_iald {r : Nat} {x : Int32} (i j : Nat) (hd : decode M.2.1 pc = .ok (.iaload, 1)) (hi : kq_ck i = 1 ∧ i ≠ 45) (hok : kq_ok i r = true) (hx : x = nI j) (hj : j < kq_len i) (kk : kq_S M d (pc + 1) ls (kq_I (kq_rI μ r i j) :: st) μ Q) : kq_S M d pc ls (kq_I x :: kq_R r i :: st) μ Q := by
  intro R kc ks l g p e s m args below meth c H locs lc hR hC hH hz hL hV
  rw [List.map_cons, List.map_cons, kq_trR g r hi.2]
  have h1 := kq_at1 (hH.1 r i hok) hi.1
  have hc : x.toNatClampNeg = j := by rw [hx]; exact nI_clamp (Nat.lt_trans hj (kq_lenlt i))
  subst hc
  refine W.iald (v := .int (kq_rI μ r i x.toNatClampNeg)) hC.1 hC.2.1 h1 (hC.D.aI _ _) (fun q => by cases q) ?_ ?_ rfl rfl hd (kk R kc ks l g p e s m args below meth c H locs lc hR hC hH hz hL hV)
  · rw [arrV_size, hx]
    have := vp_in_nI hj (kq_lenlt i)
    exact this
  · rw [arrV_read _ _ hj]
theorem kq_lald {r : Nat} {x : Int32} (i j : Nat) (hd : decode M.2.1 pc = .ok (.laload, 1)) (hi : kq_ck i = 2 ∧ i ≠ 45) (hok : kq_ok i r = true) (hx : x = nI j) (hj : j < kq_len i) (kk : kq_S M d (pc + 1) ls (kq_L (kq_rL μ r i j) :: st) μ Q) : kq_S M d pc ls (kq_I x :: kq_R r i :: st) μ Q := by
  intro R kc ks l g p e s m args below meth c H locs lc hR hC hH hz hL hV
  rw [List.map_cons, List.map_cons, kq_trR g r hi.2]
  have h1 := kq_at2 (hH.1 r i hok) hi.1
  have hc : x.toNatClampNeg = j := by rw [hx]; exact nI_clamp (Nat.lt_trans hj (kq_lenlt i))
  subst hc
  refine W.lald (v := .long (kq_rL μ r i x.toNatClampNeg)) hC.1 hC.2.1 h1 (hC.D.aL _ _) (fun q => by cases q) ?_ ?_ rfl rfl hd (kk R kc ks l g p e s m args below meth c H locs lc hR hC hH hz hL hV)
  · rw [arrV_size, hx]
    have := vp_in_nI hj (kq_lenlt i)
    exact this
  · rw [arrV_read _ _ hj]
theorem kq_aald {r : Nat} {x : Int32} (i j : Nat) (hd : decode M.2.1 pc = .ok (.aaload, 1)) (hi : kq_ck i = 3 ∧ i ≠ 45) (hok : kq_ok i r = true) (hx : x = nI j) (hj : j < kq_len i) (kk : kq_S M d (pc + 1) ls (kq_R j 8 :: st) μ Q) : kq_S M d pc ls (kq_I x :: kq_R r i :: st) μ Q := by
  intro R kc ks l g p e s m args below meth c H locs lc hR hC hH hz hL hV
  rw [List.map_cons, List.map_cons, kq_trR g r hi.2]
  have h1 := kq_at3 (hH.1 r i hok) hi.1
  have hc : x.toNatClampNeg = j := by rw [hx]; exact nI_clamp (Nat.lt_trans hj (kq_lenlt i))
  subst hc
  refine W.aald (v := .ref (kq_gd g x.toNatClampNeg 8)) (ty := .object "KettleInquest$Sheet") hC.1 hC.2.1 h1 (hC.D.aS _ _) rfl (fun q => by cases q) ?_ ?_ rfl rfl hd ?_
  · rw [arrV_size, hx]
    have := vp_in_nI hj (kq_lenlt i)
    exact this
  · rw [arrV_read _ _ hj]
  · have k1 := kk R kc ks l g p e s m args below meth c H locs lc hR hC hH hz hL hV
    rw [List.map_cons, kq_trR g _ (by decide)] at k1
    exact k1
theorem kq_iast {r : Nat} {x v : Int32} (i j : Nat) (hd : decode M.2.1 pc = .ok (.iastore, 1)) (hi : kq_ck i = 1 ∧ i ≠ 45) (hok : kq_ok i r = true) (hx : x = nI j) (hj : j < kq_len i) (kk : kq_S M d (pc + 1) ls st (kq_wI μ r i j v) Q) : kq_S M d pc ls (kq_I v :: kq_I x :: kq_R r i :: st) μ Q := by
  intro R kc ks l g p e s m args below meth c H locs lc hR hC hH hz hL hV
  rw [List.map_cons, List.map_cons, List.map_cons, kq_trR g r hi.2]
  have h1 := kq_at1 (hH.1 r i hok) hi.1
  have hc : x.toNatClampNeg = j := by rw [hx]; exact nI_clamp (Nat.lt_trans hj (kq_lenlt i))
  subst hc
  refine W.iast hC.1 hC.2.1 h1 (hC.D.aI _ _) (fun q => by cases q) ?_ rfl rfl hd fun H' e1 e2 e3 => ?_
  · rw [arrV_size, hx]
    have := vp_in_nI hj (kq_lenlt i)
    exact this
  · refine kk R kc ks l g p e s m args below meth c H' _ lc hR hC (kq_Hd.put (μ := μ) hC.2.2.2.2.2.2.2.2.1 hH hok e2 e3 ?_ (fun a b k' h => ?_) (fun a b k' h => rfl)) (e2.trans hz) (fun q hq => ?_) hV
    · unfold kq_at
      rw [hi.1]
      show H'[kq_gd g r i]? = some (arrV (kq_gA g 0) (kq_len i) _)
      rw [e1, arrV_store]
      congr 2
      funext q
      by_cases hq : q = x.toNatClampNeg
      · subst hq
        simp [updV, kq_rI_wI]
      · simp [updV, kq_rI_wI, hq]
    · rw [kq_rI_wI, if_neg (fun z => h ⟨z.1, z.2.1⟩)]
    · rcases List.mem_append.mp hq with h | h
      · exact hL q h
      · rw [List.mem_singleton.mp h]
        exact hC.2.2.2.2.2.2.2.2.1.2 r i hok
theorem kq_last {r : Nat} {x : Int32} {v : Int64} (i j : Nat) (hd : decode M.2.1 pc = .ok (.lastore, 1)) (hi : kq_ck i = 2 ∧ i ≠ 45) (hok : kq_ok i r = true) (hx : x = nI j) (hj : j < kq_len i) (kk : kq_S M d (pc + 1) ls st (kq_wL μ r i j v) Q) : kq_S M d pc ls (kq_L v :: kq_I x :: kq_R r i :: st) μ Q := by
  intro R kc ks l g p e s m args below meth c H locs lc hR hC hH hz hL hV
  rw [List.map_cons, List.map_cons, List.map_cons, kq_trR g r hi.2]
  have h1 := kq_at2 (hH.1 r i hok) hi.1
  have hc : x.toNatClampNeg = j := by rw [hx]; exact nI_clamp (Nat.lt_trans hj (kq_lenlt i))
  subst hc
  refine W.last hC.1 hC.2.1 h1 (hC.D.aL _ _) (fun q => by cases q) ?_ rfl rfl hd fun H' e1 e2 e3 => ?_
  · rw [arrV_size, hx]
    have := vp_in_nI hj (kq_lenlt i)
    exact this
  · refine kk R kc ks l g p e s m args below meth c H' _ lc hR hC (kq_Hd.put (μ := μ) hC.2.2.2.2.2.2.2.2.1 hH hok e2 e3 ?_ (fun a b k' h => rfl) (fun a b k' h => ?_)) (e2.trans hz) (fun q hq => ?_) hV
    · unfold kq_at
      rw [hi.1]
      show H'[kq_gd g r i]? = some (arrV (kq_gA g 1) (kq_len i) _)
      rw [e1, arrV_store]
      congr 2
      funext q
      by_cases hq : q = x.toNatClampNeg
      · subst hq
        simp [updV, kq_rL_wL]
      · simp [updV, kq_rL_wL, hq]
    · rw [kq_rL_wL, if_neg (fun z => h ⟨z.1, z.2.1⟩)]
    · rcases List.mem_append.mp hq with h | h
      · exact hL q h
      · rw [List.mem_singleton.mp h]
        exact hC.2.2.2.2.2.2.2.2.1.2 r i hok
/-! what nobody writes: the script, the two tables, the texts -/
theorem kq_sald {x : Int32} (j : Nat) (hd : decode M.2.1 pc = .ok (.iaload, 1)) (hx : x = nI j) (hj : j < (kq_sc μ).1) (hb : (kq_sc μ).1 < 2 ^ 31) (kk : kq_S M d (pc + 1) ls (kq_I ((kq_sc μ).2 j) :: st) μ Q) : kq_S M d pc ls (kq_I x :: kq_R 0 40 :: st) μ Q := by
  intro R kc ks l g p e s m args below meth c H locs lc hR hC hH hz hL hV
  rw [List.map_cons, List.map_cons, kq_trR g 0 (by decide)]
  have hX := hC.D.2.1.1.kept (H1 := s.heap) (hC.2.2.2.2.2.2.2.2.2.2 _ hC.D.2.1.2)
  have hc : x.toNatClampNeg = j := by rw [hx]; exact nI_clamp (Nat.lt_trans hj hb)
  subst hc
  exact va_sld (A := kq_A g) hC.1 hC.2.1 hX (Nat.lt_of_lt_of_le hC.D.2.1.2 hC.2.2.2.2.2.2.2.2.2.1) (Nat.not_le.mpr hC.D.2.1.2) (hC.S hH hz hL) (by rw [hx]; exact vp_in_nI hj hb) hd (kk R kc ks l g p e s m args below meth c H locs lc hR hC hH hz hL hV)
theorem kq_slen (hd : decode M.2.1 pc = .ok (.arraylength, 1)) (kk : kq_S M d (pc + 1) ls (kq_I (nI (kq_sc μ).1) :: st) μ Q) : kq_S M d pc ls (kq_R 0 40 :: st) μ Q := by
  intro R kc ks l g p e s m args below meth c H locs lc hR hC hH hz hL hV
  rw [List.map_cons, kq_trR g 0 (by decide)]
  have hX := hC.D.2.1.1.kept (H1 := s.heap) (hC.2.2.2.2.2.2.2.2.2.2 _ hC.D.2.1.2)
  exact va_slen (A := kq_A g) hC.1 hC.2.1 hX (Nat.lt_of_lt_of_le hC.D.2.1.2 hC.2.2.2.2.2.2.2.2.2.1) (Nat.not_le.mpr hC.D.2.1.2) (hC.S hH hz hL) hd (kk R kc ks l g p e s m args below meth c H locs lc hR hC hH hz hL hV)
theorem kq_ald41 {x : Int32} (j : Nat) (hd : decode M.2.1 pc = .ok (.iaload, 1)) (hx : x = nI j) (hj : j < 6) (kk : kq_S M d (pc + 1) ls (kq_I (kq_KA j) :: st) μ Q) : kq_S M d pc ls (kq_I x :: kq_R 0 41 :: st) μ Q := by
  intro R kc ks l g p e s m args below meth c H locs lc hR hC hH hz hL hV
  rw [List.map_cons, List.map_cons, kq_trR g 0 (by decide)]
  have hc : x.toNatClampNeg = j := by rw [hx]; exact nI_clamp (by omega)
  subst hc
  exact va_ti (v := .int (kq_KA x.toNatClampNeg)) hC.1 hC.2.1 (hC.D.2.2.1.2.kept hC.old) (hC.S hH hz hL) (by rw [hx]; exact vp_in_nI hj (by decide)) rfl hd (kk R kc ks l g p e s m args below meth c H locs lc hR hC hH hz hL hV)
theorem kq_ald42 {x : Int32} (j : Nat) (hd : decode M.2.1 pc = .ok (.iaload, 1)) (hx : x = nI j) (hj : j < 6) (kk : kq_S M d (pc + 1) ls (kq_I (kq_DK j) :: st) μ Q) : kq_S M d pc ls (kq_I x :: kq_R 0 42 :: st) μ Q := by
  intro R kc ks l g p e s m args below meth c H locs lc hR hC hH hz hL hV
  rw [List.map_cons, List.map_cons, kq_trR g 0 (by decide)]
  have hc : x.toNatClampNeg = j := by rw [hx]; exact nI_clamp (by omega)
  subst hc
  exact va_ti (v := .int (kq_DK x.toNatClampNeg)) hC.1 hC.2.1 (hC.D.2.2.2.1.2.kept hC.old) (hC.S hH hz hL) (by rw [hx]; exact vp_in_nI hj (by decide)) rfl hd (kk R kc ks l g p e s m args below meth c H locs lc hR hC hH hz hL hV)
theorem kq_gs41 {idx : Nat} (hd : decode M.2.1 pc = .ok (.getstatic idx, 3)) (hw : Cond.fieldLink M.1.cls idx "KettleInquest" "KIND_ABOVE" "[I" ∈ kq_tbl) (kk : kq_S M d (pc + 3) ls (kq_R 0 41 :: st) μ Q) : kq_S M d pc ls st μ Q := by
  intro R kc ks l g p e s m args below meth c H locs lc hR hC hH hz hL hV
  exact va_gets hC.1 hC.2.1 (hC.D.2.2.1.1.kept hC.old) (hC.S hH hz hL) hC.2.2.2.2.2.1 (hC.w hw) (fun _ h => h) hd (kk R kc ks l g p e s m args below meth c H locs lc hR hC hH hz hL hV)
theorem kq_gs42 (hd : decode M.2.1 pc = .ok (.getstatic 54, 3)) (ho : M.1.cls = "KettleInquest$Hall") (kk : kq_S M d (pc + 3) ls (kq_R 0 42 :: st) μ Q) : kq_S M d pc ls st μ Q := by
  intro R kc ks l g p e s m args below meth c H locs lc hR hC hH hz hL hV
  have hown := hC.2.2.2.2.2.1
  rw [ho] at hown
  exact va_getsN hC.1 hC.2.1 (hC.D.2.2.2.1.1.kept hC.old) (hC.S hH hz hL) hown (va_Nw.use (w := kq_nwD) rfl hC.D.2.2.2.2.2.2.2.2.2.2.2) (fun _ h => h) hd (kk R kc ks l g p e s m args below meth c H locs lc hR hC hH hz hL hV)
theorem kq_gsC {idx : Nat} (hd : decode M.2.1 pc = .ok (.getstatic idx, 3)) (hw : Cond.fieldLink M.1.cls idx "java/lang/String" "COMPACT_STRINGS" "Z" ∈ kq_tbl) (kk : kq_S M d (pc + 3) ls (kq_I 1 :: st) μ Q) : kq_S M d pc ls st μ Q := by
  intro R kc ks l g p e s m args below meth c H locs lc hR hC hH hz hL hV
  exact va_gets hC.1 hC.2.1 (hC.D.2.2.2.2.2.2.1.kept hC.old) (hC.S hH hz hL) hC.2.2.2.2.2.1 (hC.w hw) (fun _ h => h) hd (kk R kc ks l g p e s m args below meth c H locs lc hR hC hH hz hL hV)
theorem kq_gsF {idx : Nat} (hd : decode M.2.1 pc = .ok (.getstatic idx, 3)) (hw : Cond.fieldLink M.1.cls idx "jdk/internal/util/Preconditions" "SIOOBE_FORMATTER" "Ljava/util/function/BiFunction;" ∈ kq_tbl) (kk : kq_S M d (pc + 3) ls (kq_R 0 45 :: st) μ Q) : kq_S M d pc ls st μ Q := by
  intro R kc ks l g p e s m args below meth c H locs lc hR hC hH hz hL hV
  exact va_gets hC.1 hC.2.1 (hC.D.2.2.2.2.2.2.2.1.1.kept hC.old) (hC.S hH hz hL) hC.2.2.2.2.2.1 (hC.w hw) (fun _ h => h) hd (kk R kc ks l g p e s m args below meth c H locs lc hR hC hH hz hL hV)
theorem kq_txV {idx r : Nat} (hd : decode M.2.1 pc = .ok (.getfield idx, 3)) (hw : Cond.fieldLink M.1.cls idx "java/lang/String" "value" "[B" ∈ kq_tbl) (hr : r < 12) (kk : kq_S M d (pc + 3) ls (kq_R r 44 :: st) μ Q) : kq_S M d pc ls (kq_R r 43 :: st) μ Q := by
  intro R kc ks l g p e s m args below meth c H locs lc hR hC hH hz hL hV
  have k1 := kk R kc ks l g p e s m args below meth c H locs lc hR hC hH hz hL hV
  rw [List.map_cons, kq_trR g r (by decide)] at k1 ⊢
  exact vk_getf hC.1 hC.2.1 ((hC.D.2.2.2.2.1.1 r hr).2.2.1.kept hC.old) (hC.S hH hz hL) hC.2.2.2.2.2.1 (hC.w hw) (fun _ h => h) hd k1
theorem kq_txC {idx r : Nat} (hd : decode M.2.1 pc = .ok (.getfield idx, 3)) (hw : Cond.fieldLink M.1.cls idx "java/lang/String" "coder" "B" ∈ kq_tbl) (hr : r < 12) (kk : kq_S M d (pc + 3) ls (kq_I 0 :: st) μ Q) : kq_S M d pc ls (kq_R r 43 :: st) μ Q := by
  intro R kc ks l g p e s m args below meth c H locs lc hR hC hH hz hL hV
  rw [List.map_cons, kq_trR g r (by decide)]
  exact vk_getf hC.1 hC.2.1 ((hC.D.2.2.2.2.1.1 r hr).2.1.kept hC.old) (hC.S hH hz hL) hC.2.2.2.2.2.1 (hC.w hw) (fun _ h => h) hd (kk R kc ks l g p e s m args below meth c H locs lc hR hC hH hz hL hV)
theorem kq_txL {r : Nat} (hd : decode M.2.1 pc = .ok (.arraylength, 1)) (hr : r < 12) (kk : kq_S M d (pc + 1) ls (kq_I (nI (kq_sl.getD r 0)) :: st) μ Q) : kq_S M d pc ls (kq_R r 44 :: st) μ Q := by
  intro R kc ks l g p e s m args below meth c H locs lc hR hC hH hz hL hV
  rw [List.map_cons, kq_trR g r (by decide)]
  exact va_tlen (v := nI (kq_sl.getD r 0)) hC.1 hC.2.1 ((hC.D.2.2.2.2.1.1 r hr).2.2.2.kept hC.old) (hC.S hH hz hL) rfl hd (kk R kc ks l g p e s m args below meth c H locs lc hR hC hH hz hL hV)
theorem kq_txB {r : Nat} {x : Int32} (j : Nat) (hd : decode M.2.1 pc = .ok (.baload, 1)) (hr : r < 12) (hx : x = nI j) (hj : j < kq_sl.getD r 0) (kk : kq_S M d (pc + 1) ls (kq_I ((kq_sb.getD r []).getD j 0) :: st) μ Q) : kq_S M d pc ls (kq_I x :: kq_R r 44 :: st) μ Q := by
  intro R kc ks l g p e s m args below meth c H locs lc hR hC hH hz hL hV
  rw [List.map_cons, List.map_cons, kq_trR g r (by decide)]
  have hlt : kq_sl.getD r 0 < 2 ^ 31 := by
    have : ∀ r, r < 12 → kq_sl.getD r 0 < 2 ^ 31 := by decide
    exact this r hr
  have hc : x.toNatClampNeg = j := by rw [hx]; exact nI_clamp (Nat.lt_trans hj hlt)
  subst hc
  exact va_tb (v := .int ((kq_sb.getD r []).getD x.toNatClampNeg 0)) hC.1 hC.2.1 ((hC.D.2.2.2.2.1.1 r hr).2.2.2.kept hC.old) (hC.S hH hz hL) (by rw [hx]; exact vp_in_nI hj hlt) rfl hd (kk R kc ks l g p e s m args below meth c H locs lc hR hC hH hz hL hV)
end KM
end
section
/-! CALLS -/
/-- whatever the world: the cell (r, i) is an object of the class C -/
def kq_rc (C : String) (r i : Nat) : Prop := i ≠ 45 ∧ ∀ (M : kq_D) (g : kq_G) (S : Nat × (Nat → Int32)) (p : Program) (s : State) (m : MethodId) (args : Array Value) (meth : Method) (c : Code) (μ : kq_M) (H : Heap) (locs : List Loc), kq_C M g S p s m args meth c → kq_Hd g μ H → H.size = s.heap.size → (∀ q ∈ locs, kq_A g q.base) → ∃ cell : Cell, H[kq_gd g r i]? = some cell ∧ cell.vm.isStatics = false ∧ s.vm.findClass C = some cell.cls
theorem kq_rc_obj {r : Nat} (i : Nat) {C : String} (hi : kq_ck i = 0 ∧ kq_ci i < 5 ∧ i ≠ 45 ∧ kq_cn (kq_ci i) = C) (hok : kq_ok i r = true) : kq_rc C r i := by
  refine ⟨hi.2.2.1, fun M g S p s m args meth c μ H locs hC hH _ _ => ?_⟩
  obtain ⟨cell, q1, q2, q3, -⟩ := kq_at0 (hH.1 r i hok) hi.1
  refine ⟨cell, q1, by rw [q3]; rfl, ?_⟩
  rw [q2, ← hi.2.2.2]
  exact (hC.D.K hi.2.1).2.1
theorem kq_rc_txt {r : Nat} (hr : r < 12) : kq_rc "java/lang/String" r 43 := by
  refine ⟨by decide, fun M g S p s m args meth c μ H locs hC hH hz hL => ?_⟩
  exact vk_recv (adK := fun j => kq_gd g j 43) (i := r) (hC.D.2.2.2.2.1.kept hC.old) hr (hC.S hH hz hL)
/-- n arguments, few locals, no handle -/
def kq_sg (M : kq_D) (n : Nat) : Prop := (M.1.cls ≠ "java/lang/invoke/MethodHandle" ∧ M.1.cls ≠ "java/lang/invoke/VarHandle" ∧ (parseMethodDescriptor M.1.desc).map (fun d => d.parameters.length) = some n) ∧ M.2.2.1 + 19 ≤ 38
theorem kq_goodws (M' : kq_D) (h : Cond.code M'.1 M'.2.1 M'.2.2.1 M'.2.2.2 ∈ kq_tbl) : GoodIn kq_tbl (kq_ws M') := by
  intro w hw
  rcases List.mem_cons.mp hw with rfl | hw
  · exact ⟨h, kq_good _ h⟩
  · exact ⟨hw, kq_good w hw⟩
theorem kq_room {M : kq_D} {R : Room} {kc ks : Nat} (d : Nat) (h : M.2.2.1 + 19 ≤ 38) (hR : d + 1 ≤ R.frames ∧ 38 * (d + 1) ≤ R.locals ∧ kc ≤ R.cells ∧ ks ≤ R.slots) : (kq_rm d).frames + 1 ≤ R.frames ∧ 8 + (M.2.2.1 + 11) + (kq_rm d).locals ≤ R.locals := by
  refine ⟨hR.1, ?_⟩
  show 8 + (M.2.2.1 + 11) + 38 * d ≤ R.locals
  have := hR.2.1
  omega
/-- a run of a callee, taken on -/
theorem kq_goes {M : kq_D} {d pc : Nat} {ls : List (Option kq_V)} {st : List kq_V} {μ : kq_M} {Q : Option kq_V → kq_M → Prop} {R : Room} {kc ks : Nat} {l : Launch} {g : kq_G} {p : Program} {e : Env} {s : State} {m : MethodId} {args : Array Value} {below : List Frame} {meth : Method} {c : Code} {H : Heap} {locs : List Loc} {lc : Array Slot} {st0 : List Value} {a : Array Value}
    (hR : d + 1 ≤ R.frames ∧ 38 * (d + 1) ≤ R.locals ∧ kc ≤ R.cells ∧ ks ≤ R.slots) (hC : kq_C M g (kq_sc μ) p s m args meth c) (hz : H.size = s.heap.size) (hL : ∀ q ∈ locs, kq_A g q.base) (hV : kq_lv g ls lc M.2.2.1)
    (hr : va_Run p l e R s m args below meth c H locs kc ks 0 0 (F0 m pc lc st0) (st.map (kq_tr g)) (kq_Qc g (kq_sc μ) (kq_K M (d + 1) (pc + 3) ls st Q) a) (kq_A g)) :
    W p l e R s m args below meth c H locs kc ks (MQ below (kq_Qc g (kq_sc μ) Q) args s kc ks (kq_A g)) (F0 m pc lc st0) := by
  intro T hT X
  obtain ⟨v, st₀, t, T', L, h0, X', hL', e1, e2, ⟨r, μ', hv, hq, hH', hs, hz'⟩, st'⟩ := hr T hT X
  have hloc : ∀ q ∈ locs ++ L, kq_A g q.base := fun q hq => by
    rcases List.mem_append.mp hq with h | h
    · exact hL q h
    · exact hL' q h
  have hv' := Outcome.returned.inj hv
  subst hv'
  have hz2 : T'.heap.size = s.heap.size := by rw [e1, hz', h0, hz]
  rw [← e1] at hH'
  have hC' : kq_C M g (kq_sc μ') p s m args meth c := by rw [hs]; exact hC
  cases r with
  | none =>
    have k1 := hq R kc ks l g p e s m args below meth c T'.heap (locs ++ L) lc hR hC' hH' hz2 hloc hV T' rfl X'
    rw [hs] at k1
    obtain ⟨t2, a1, b1⟩ := k1
    exact ⟨t2, st' t2 a1, b1⟩
  | some w =>
    have k1 := hq R kc ks l g p e s m args below meth c T'.heap (locs ++ L) lc hR hC' hH' hz2 hloc hV T' rfl X'
    rw [hs] at k1
    obtain ⟨t2, a1, b1⟩ := k1
    exact ⟨t2, st' t2 a1, b1⟩
section KC
variable {M M' : kq_D} {d pc : Nat} {ls : List (Option kq_V)} {st : List kq_V} {μ : kq_M} {Q : Option kq_V → kq_M → Prop}
theorem kq_callV {idx r i : Nat} (as : List kq_V) (hd : decode M.2.1 pc = .ok (.invokevirtual idx, 3)) (hw : Cond.methodLink M.1.cls idx M'.1 ∈ kq_tbl) (hM : kq_wV M') (hg : kq_sg M' as.length) (hr : kq_rc M'.1.cls r i) (hst : (st.map kq_cat).sum ≤ 8) (k : kq_Call d M' (kq_R r i :: as) μ (kq_K M (d + 1) (pc + 3) ls st Q)) : kq_S M (d + 1) pc ls (as.reverse ++ kq_R r i :: st) μ Q := by
  intro R kc ks l g p e s m args below meth c H locs lc hR hC hH hz hL hV
  refine kq_goes (st := st) hR hC hz hL hV (a := (Value.ref (kq_gd g r i) :: as.map (kq_tr g)).toArray) ?_
  have hgw := kq_goodws M' hM.1
  have cw : CallW R s args M.1.cls M'.1.cls idx M'.1 M'.2.1 M'.2.2.1 M'.2.2.2 (kq_ws M') (kq_rm d) 0 0 as.length :=
    ⟨callB_of (Ts := kq_tbl) as.length hC.2.2.2.2.2.2.1 hgw rfl rfl rfl (hC.w hM.2.1) (hC.w hw) hg.1 (kq_room d hg.2 hR), hC.w hM.2.2.1, hC.w hM.2.2.2⟩
  have hp : PreV s H M'.1.cls (kq_gd g r i) (kq_Pc g (kq_R r i :: as) μ) (as.map (kq_tr g)) := by
    refine ⟨kq_Pc.blind _ _ _, hr.2 M g _ p s m args meth c μ H locs hC hH hz hL, fun U hU hW => ⟨?_, by rw [hU]; exact hH, hC.D.warm hW, hC.2.2.2.2.2.2.2.2.1⟩⟩
    rw [List.map_cons, kq_trR g r hr.1]
  refine va_runV (Ts := kq_tbl) ⟨hC.1, hC.2.1, hC.2.2.2.2.1, hC.2.2.2.2.2.1, hC.2.2.2.2.2.2.1⟩ (k l g) cw hp rfl (by rw [List.length_map]) hV.1 ?_ ?_ hd ⟨hR.2.2.1, hR.2.2.2⟩
  · rw [List.map_append, List.map_reverse, List.map_cons, kq_trR g r hr.1]
  · show 2 * 0 + _ ≤ 8
    rw [kq_map_cat hC.D.gF]
    omega
theorem kq_callS {idx : Nat} (as : List kq_V) (hd : decode M.2.1 pc = .ok (.invokestatic idx, 3)) (hw : Cond.methodLink M.1.cls idx M'.1 ∈ kq_tbl) (hM : kq_wS M') (hg : kq_sg M' as.length) (hst : (st.map kq_cat).sum ≤ 8) (k : kq_Call d M' as μ (kq_K M (d + 1) (pc + 3) ls st Q)) : kq_S M (d + 1) pc ls (as.reverse ++ st) μ Q := by
  intro R kc ks l g p e s m args below meth c H locs lc hR hC hH hz hL hV
  refine kq_goes (st := st) hR hC hz hL hV (a := (as.map (kq_tr g)).toArray) ?_
  have hgw := kq_goodws M' hM.1
  have cw : CallB R s args M.1.cls idx M'.1 M'.2.1 M'.2.2.1 M'.2.2.2 (kq_ws M') (kq_rm d) 0 0 as.length ∧ (Cond.static M'.1).before args s = true :=
    ⟨callB_of (Ts := kq_tbl) as.length hC.2.2.2.2.2.2.1 hgw rfl rfl rfl (hC.w hM.2.1) (hC.w hw) hg.1 (kq_room d hg.2 hR), hC.w hM.2.2⟩
  have hp : PreS s H (kq_Pc g as μ) (as.map (kq_tr g)) := ⟨kq_Pc.blind _ _ _, fun U hU hW => ⟨rfl, by rw [hU]; exact hH, hC.D.warm hW, hC.2.2.2.2.2.2.2.2.1⟩⟩
  refine va_runS (Ts := kq_tbl) ⟨hC.1, hC.2.1, hC.2.2.2.2.1, hC.2.2.2.2.2.1, hC.2.2.2.2.2.2.1⟩ (k l g) cw hp rfl (by rw [List.length_map]) hV.1 ?_ ?_ hd ⟨hR.2.2.1, hR.2.2.2⟩
  · rw [List.map_append, List.map_reverse]
  · show 2 * 0 + _ ≤ 8
    rw [kq_map_cat hC.D.gF]
    omega
/-- a private static method of a nest mate: the words of the tables, wherever they hold -/
def kq_nw (own : String) (idx : Nat) (y : MethodName) : Prop := ∀ (g : kq_G) (S : Nat × (Nat → Int32)) (s : State), kq_Wd g S s → va_Nw (.methodLinkNest own idx y "KettleInquest") s
theorem kq_callN {idx : Nat} (as : List kq_V) (hd : decode M.2.1 pc = .ok (.invokestatic idx, 3)) (hw : kq_nw M.1.cls idx M'.1) (hM : kq_wS M') (hg : kq_sg M' as.length) (hst : (st.map kq_cat).sum ≤ 8) (k : kq_Call d M' as μ (kq_K M (d + 1) (pc + 3) ls st Q)) : kq_S M (d + 1) pc ls (as.reverse ++ st) μ Q := by
  intro R kc ks l g p e s m args below meth c H locs lc hR hC hH hz hL hV
  refine kq_goes (st := st) hR hC hz hL hV (a := (as.map (kq_tr g)).toArray) ?_
  have hgw := kq_goodws M' hM.1
  have cw : va_CN R s args M.1.cls idx M'.1 "KettleInquest" M'.2.1 M'.2.2.1 M'.2.2.2 (kq_ws M') (kq_rm d) 0 0 as.length ∧ (Cond.static M'.1).before args s = true ∧ True :=
    ⟨va_cnB (Ts := kq_tbl) as.length hC.2.2.2.2.2.2.1 hgw rfl rfl rfl (hw g _ s hC.D) (hC.w hM.2.1) hg.1 (kq_room d hg.2 hR), hC.w hM.2.2, trivial⟩
  have hp : PreS s H (kq_Pc g as μ) (as.map (kq_tr g)) := ⟨kq_Pc.blind _ _ _, fun U hU hW => ⟨rfl, by rw [hU]; exact hH, hC.D.warm hW, hC.2.2.2.2.2.2.2.2.1⟩⟩
  refine va_runSN (Ts := kq_tbl) ⟨hC.1, hC.2.1, hC.2.2.2.2.1, hC.2.2.2.2.2.1, hC.2.2.2.2.2.2.1⟩ (k l g) cw hp rfl (by rw [List.length_map]) hV.1 ?_ ?_ hd ⟨hR.2.2.1, hR.2.2.2⟩
  · rw [List.map_append, List.map_reverse]
  · show 2 * 0 + _ ≤ 8
    rw [kq_map_cat hC.D.gF]
    omega
theorem kq_nwK_ok : kq_nw "KettleInquest$Hall" 50 ⟨"KettleInquest", "isKind", "(I)Z"⟩ := fun _ _ _ h => h.2.2.2.2.2.2.2.2.1
theorem kq_nwI_ok : kq_nw "KettleInquest$Hall" 76 ⟨"KettleInquest", "isIn", "(II)Z"⟩ := fun _ _ _ h => h.2.2.2.2.2.2.2.2.2.1
theorem kq_nwO_ok : kq_nw "KettleInquest$Hall" 89 ⟨"KettleInquest", "isOfKind", "(II)Z"⟩ := fun _ _ _ h => h.2.2.2.2.2.2.2.2.2.2.1
/-- System.arraycopy between rows of longs -/
theorem kq_copy {idx r r' : Nat} {xs xd xn : Int32} (i i' sp dp n : Nat) (hd : decode M.2.1 pc = .ok (.invokestatic idx, 3)) (hw : Cond.methodLink M.1.cls idx arraycopyName ∈ kq_tbl) (hw2 : Cond.native arraycopyName ∈ kq_tbl ∧ Cond.static arraycopyName ∈ kq_tbl ∧ Cond.initialized "java/lang/System" ∈ kq_tbl) (hi : kq_ck i = 2 ∧ i ≠ 45) (hi' : kq_ck i' = 2 ∧ i' ≠ 45) (hok : kq_ok i r = true) (hok' : kq_ok i' r' = true) (h1 : xs = nI sp) (h2 : xd = nI dp) (h3 : xn = nI n) (h4 : sp + n ≤ kq_len i) (h5 : dp + n ≤ kq_len i') (hst : (st.map kq_cat).sum ≤ 8)
    (kk : kq_S M (d + 1) (pc + 3) ls st (kq_cL μ r i sp r' i' dp n) Q) : kq_S M (d + 1) pc ls (kq_I xn :: kq_I xd :: kq_R r' i' :: kq_I xs :: kq_R r i :: st) μ Q := by
  intro R kc ks l g p e s m args below meth c H locs lc hR hC hH hz hL hV
  simp only [List.map_cons]
  rw [kq_trR g r hi.2, kq_trR g r' hi'.2]
  have hl1 := kq_lenlt i
  have hl2 := kq_lenlt i'
  have c1 : xs.toNatClampNeg = sp := by rw [h1]; exact nI_clamp (by omega)
  have c2 : xd.toNatClampNeg = dp := by rw [h2]; exact nI_clamp (by omega)
  have c3 : xn.toNatClampNeg = n := by rw [h3]; exact nI_clamp (by omega)
  have n1 : ¬ xs < 0 := by rw [h1]; exact nI_pos (by omega)
  have n2 : ¬ xd < 0 := by rw [h2]; exact nI_pos (by omega)
  have n3 : ¬ xn < 0 := by rw [h3]; exact nI_pos (by omega)
  have t1 : xs.toInt = (sp : Int) := by rw [h1]; exact nI_toInt (by omega)
  have t2 : xd.toInt = (dp : Int) := by rw [h2]; exact nI_toInt (by omega)
  have t3 : xn.toInt = (n : Int) := by rw [h3]; exact nI_toInt (by omega)
  have hc0 := kq_at2 (hH.1 r i hok) hi.1
  have hc1 := kq_at2 (hH.1 r' i' hok') hi'.1
  intro T hT X
  obtain ⟨-, k0, hk0, cm0, hkk0⟩ := hC.D.aL (kq_len i) (fun j => .long (kq_rL μ r i j))
  obtain ⟨-, k1, hk1, cm1, hkk1⟩ := hC.D.aL (kq_len i') (fun j => .long (kq_rL μ r' i' j))
  obtain ⟨vm', X', step⟩ := X.arraycopy hC.1 hC.2.2.2.2.2.1 (hC.w hw) (hC.w hw2.1) (hC.w hw2.2.1) (hC.w hw2.2.2) (src := kq_gd g r i) (dst := kq_gd g r' i') (cs := arrV (kq_gA g 1) (kq_len i) (fun j => .long (kq_rL μ r i j))) (cd := arrV (kq_gA g 1) (kq_len i') (fun j => .long (kq_rL μ r' i' j))) (srcPos := xs) (destPos := xd) (n := xn) (by rw [hT]; exact hc0) (by rw [hT]; exact hc1)
    (fun _ h => by cases h) (fun _ h => by cases h) (fun h => by cases h) (fun h => by cases h) hk0 hk1 hkk0 hkk1 (by simp [refKind]) n1 n2 n3
    (by rw [t1, t3, arrV_size]; omega)
    (by rw [t2, t3, arrV_size]; omega)
    (fun vm₁ _ j hj => by
      rw [c3] at hj
      have e : (arrV (kq_gA g 1) (kq_len i) (fun j => .long (kq_rL μ r i j))).slots.getD (xs.toNatClampNeg + j) .null = .long (kq_rL μ r i (xs.toNatClampNeg + j)) := by
        rw [Array.getD_eq_getD_getElem?, arrV_read _ _ (by rw [c1]; omega)]
        rfl
      refine ⟨?_, ?_⟩
      · rw [e]; rfl
      · rw [e]; exact trivial)
    (g := F0 m pc lc (.int xn :: .int xd :: .ref (kq_gd g r' i') :: .int xs :: .ref (kq_gd g r i) :: st.map (kq_tr g))) rfl (by rw [hC.2.2.2.2.1]; exact hV.1) (rest := st.map (kq_tr g)) rfl (by rw [hC.2.1]; exact hd) (Nat.le_trans (Nat.le_add_left 1 d) hR.1) (by
      rw [kq_map_cat hC.D.gF]
      show 2 * 0 + (st.map kq_cat).sum + _ ≤ R.locals
      have hR2 := hR.2.1
      have hnf : nativeFrameWords "java/lang/System" "arraycopy" 5 + 11 ≤ 30 := by decide
      omega)
  have e1 : copied (arrV (kq_gA g 1) (kq_len i) (fun j => .long (kq_rL μ r i j))) (arrV (kq_gA g 1) (kq_len i') (fun j => .long (kq_rL μ r' i' j))) xs xd xn = arrV (kq_gA g 1) (kq_len i') (fun j => .long (va_cpy (fun j => kq_rL μ r i j) (fun j => kq_rL μ r' i' j) xs.toNatClampNeg xd.toNatClampNeg xn.toNatClampNeg j)) := va_copied (fun z => .long z) (kq_gA g 1) (kq_gA g 1) (fun j => kq_rL μ r i j) (fun j => kq_rL μ r' i' j) (by rw [c1, c3]; exact h4)
  rw [e1] at X' step
  have hl : kq_gd g r' i' < H.size := (Array.getElem?_eq_some_iff.mp hc1).1
  have hcell : (fun j => Value.long (va_cpy (fun j => kq_rL μ r i j) (fun j => kq_rL μ r' i' j) xs.toNatClampNeg xd.toNatClampNeg xn.toNatClampNeg j)) = fun j => .long (kq_rL (kq_cL μ r i sp r' i' dp n) r' i' j) := by
    funext j
    rw [kq_rL_cL, c1, c2, c3]
    unfold va_cpy
    simp
  rw [hcell] at X' step
  have hheap : ((T.setVm vm').setCell (kq_gd g r' i') (arrV (kq_gA g 1) (kq_len i') (fun j => .long (kq_rL (kq_cL μ r i sp r' i' dp n) r' i' j)))).heap = H.setIfInBounds (kq_gd g r' i') (arrV (kq_gA g 1) (kq_len i') (fun j => .long (kq_rL (kq_cL μ r i sp r' i' dp n) r' i' j))) := by rw [← hT]; rfl
  have oq : ∀ q : Nat, q ≠ kq_gd g r' i' → (H.setIfInBounds (kq_gd g r' i') (arrV (kq_gA g 1) (kq_len i') (fun j => .long (kq_rL (kq_cL μ r i sp r' i' dp n) r' i' j))))[q]? = H[q]? := fun q hq => by simp [Array.getElem?_setIfInBounds, Ne.symm hq]
  have hz1 : (H.setIfInBounds (kq_gd g r' i') (arrV (kq_gA g 1) (kq_len i') (fun j => .long (kq_rL (kq_cL μ r i sp r' i' dp n) r' i' j)))).size = H.size := by simp
  have hH' : kq_Hd g (kq_cL μ r i sp r' i' dp n) (H.setIfInBounds (kq_gd g r' i') (arrV (kq_gA g 1) (kq_len i') (fun j => .long (kq_rL (kq_cL μ r i sp r' i' dp n) r' i' j)))) := by
    refine kq_Hd.put (μ := μ) hC.2.2.2.2.2.2.2.2.1 hH hok' hz1 oq ?_ (fun a b k' h => rfl) (fun a b k' h => ?_)
    · unfold kq_at
      rw [hi'.1]
      show (H.setIfInBounds _ _)[kq_gd g r' i']? = some _
      simp [Array.getElem?_setIfInBounds, hl]
    · rw [kq_rL_cL, if_neg (fun z => h ⟨z.1, z.2.1⟩)]
  obtain ⟨t, a1, b1⟩ := kk R kc ks l g p e s m args below meth c _ _ lc hR hC hH' (hz1.trans hz) (fun q hq => by
      rcases List.mem_append.mp hq with h | h
      · exact hL q h
      · obtain ⟨z, -, hz⟩ := List.mem_map.mp h
        rw [← hz]
        exact hC.2.2.2.2.2.2.2.2.1.2 r' i' hok') hV _ hheap X'
  exact ⟨t, step t a1, b1⟩
end KC
end
section
/-! words of the tables by their places; small facts that the instruction rows use -/
theorem kx_66 : (Cond.initialized "java/lang/System") ∈ kq_tbl := kq_in_of (n := 66) (by decide +kernel) rfl
theorem kx_82 : (Cond.fieldLink "KettleInquest$Hall" (9 : Nat) "KettleInquest$Hall" "truth" "I") ∈ kq_tbl := kq_in_of (n := 82) (by decide +kernel) rfl
theorem kx_83 : (Cond.fieldLink "KettleInquest" (52 : Nat) "KettleInquest$Hall" "truth" "I") ∈ kq_tbl := kq_in_of (n := 83) (by decide +kernel) rfl
theorem kx_84 : (Cond.fieldLink "KettleInquest$Clerk" (98 : Nat) "KettleInquest$Hall" "truth" "I") ∈ kq_tbl := kq_in_of (n := 84) (by decide +kernel) rfl
theorem kx_85 : (Cond.fieldLink "KettleInquest$Hall" (15 : Nat) "KettleInquest$Hall" "heat" "I") ∈ kq_tbl := kq_in_of (n := 85) (by decide +kernel) rfl
theorem kx_86 : (Cond.fieldLink "KettleInquest" (60 : Nat) "KettleInquest$Hall" "heat" "I") ∈ kq_tbl := kq_in_of (n := 86) (by decide +kernel) rfl
theorem kx_87 : (Cond.fieldLink "KettleInquest$Hall" (18 : Nat) "KettleInquest$Hall" "water" "I") ∈ kq_tbl := kq_in_of (n := 87) (by decide +kernel) rfl
theorem kx_88 : (Cond.fieldLink "KettleInquest" (63 : Nat) "KettleInquest$Hall" "water" "I") ∈ kq_tbl := kq_in_of (n := 88) (by decide +kernel) rfl
theorem kx_89 : (Cond.fieldLink "KettleInquest$Clerk" (101 : Nat) "KettleInquest$Hall" "water" "I") ∈ kq_tbl := kq_in_of (n := 89) (by decide +kernel) rfl
theorem kx_90 : (Cond.fieldLink "KettleInquest$Hall" (21 : Nat) "KettleInquest$Hall" "boilsAt" "I") ∈ kq_tbl := kq_in_of (n := 90) (by decide +kernel) rfl
theorem kx_91 : (Cond.fieldLink "KettleInquest" (66 : Nat) "KettleInquest$Hall" "boilsAt" "I") ∈ kq_tbl := kq_in_of (n := 91) (by decide +kernel) rfl
theorem kx_92 : (Cond.fieldLink "KettleInquest$Hall" (24 : Nat) "KettleInquest$Hall" "tea" "I") ∈ kq_tbl := kq_in_of (n := 92) (by decide +kernel) rfl
theorem kx_93 : (Cond.fieldLink "KettleInquest" (130 : Nat) "KettleInquest$Hall" "tea" "I") ∈ kq_tbl := kq_in_of (n := 93) (by decide +kernel) rfl
theorem kx_94 : (Cond.fieldLink "KettleInquest$Hall" (27 : Nat) "KettleInquest$Hall" "minute" "I") ∈ kq_tbl := kq_in_of (n := 94) (by decide +kernel) rfl
theorem kx_95 : (Cond.fieldLink "KettleInquest" (123 : Nat) "KettleInquest$Hall" "minute" "I") ∈ kq_tbl := kq_in_of (n := 95) (by decide +kernel) rfl
theorem kx_96 : (Cond.fieldLink "KettleInquest$Hall" (30 : Nat) "KettleInquest$Hall" "count" "I") ∈ kq_tbl := kq_in_of (n := 96) (by decide +kernel) rfl
theorem kx_97 : (Cond.fieldLink "KettleInquest" (73 : Nat) "KettleInquest$Hall" "count" "I") ∈ kq_tbl := kq_in_of (n := 97) (by decide +kernel) rfl
theorem kx_98 : (Cond.fieldLink "KettleInquest$Clerk" (66 : Nat) "KettleInquest$Hall" "count" "I") ∈ kq_tbl := kq_in_of (n := 98) (by decide +kernel) rfl
theorem kx_99 : (Cond.fieldLink "KettleInquest$Hall" (33 : Nat) "KettleInquest$Hall" "kinds" "[I") ∈ kq_tbl := kq_in_of (n := 99) (by decide +kernel) rfl
theorem kx_100 : (Cond.fieldLink "KettleInquest" (82 : Nat) "KettleInquest$Hall" "kinds" "[I") ∈ kq_tbl := kq_in_of (n := 100) (by decide +kernel) rfl
theorem kx_101 : (Cond.fieldLink "KettleInquest$Hall" (37 : Nat) "KettleInquest$Hall" "known" "[I") ∈ kq_tbl := kq_in_of (n := 101) (by decide +kernel) rfl
theorem kx_102 : (Cond.fieldLink "KettleInquest" (85 : Nat) "KettleInquest$Hall" "known" "[I") ∈ kq_tbl := kq_in_of (n := 102) (by decide +kernel) rfl
theorem kx_103 : (Cond.fieldLink "KettleInquest$Clerk" (90 : Nat) "KettleInquest$Hall" "known" "[I") ∈ kq_tbl := kq_in_of (n := 103) (by decide +kernel) rfl
theorem kx_104 : (Cond.fieldLink "KettleInquest$Hall" (40 : Nat) "KettleInquest$Hall" "said" "[I") ∈ kq_tbl := kq_in_of (n := 104) (by decide +kernel) rfl
theorem kx_105 : (Cond.fieldLink "KettleInquest" (88 : Nat) "KettleInquest$Hall" "said" "[I") ∈ kq_tbl := kq_in_of (n := 105) (by decide +kernel) rfl
theorem kx_106 : (Cond.fieldLink "KettleInquest$Clerk" (95 : Nat) "KettleInquest$Hall" "said" "[I") ∈ kq_tbl := kq_in_of (n := 106) (by decide +kernel) rfl
theorem kx_107 : (Cond.fieldLink "KettleInquest$Hall" (43 : Nat) "KettleInquest$Hall" "sures" "[I") ∈ kq_tbl := kq_in_of (n := 107) (by decide +kernel) rfl
theorem kx_108 : (Cond.fieldLink "KettleInquest$Clerk" (81 : Nat) "KettleInquest$Hall" "sures" "[I") ∈ kq_tbl := kq_in_of (n := 108) (by decide +kernel) rfl
theorem kx_109 : (Cond.fieldLink "KettleInquest" (91 : Nat) "KettleInquest$Hall" "sures" "[I") ∈ kq_tbl := kq_in_of (n := 109) (by decide +kernel) rfl
theorem kx_140 : (Cond.fieldLink "KettleInquest$Clerk" (9 : Nat) "KettleInquest$Clerk" "tape" "[I") ∈ kq_tbl := kq_in_of (n := 140) (by decide +kernel) rfl
theorem kx_141 : (Cond.fieldLink "KettleInquest$Clerk" (15 : Nat) "KettleInquest$Clerk" "length" "I") ∈ kq_tbl := kq_in_of (n := 141) (by decide +kernel) rfl
theorem kx_142 : (Cond.fieldLink "KettleInquest" (148 : Nat) "KettleInquest$Clerk" "length" "I") ∈ kq_tbl := kq_in_of (n := 142) (by decide +kernel) rfl
theorem kx_143 : (Cond.fieldLink "KettleInquest$Clerk" (19 : Nat) "KettleInquest$Clerk" "token" "I") ∈ kq_tbl := kq_in_of (n := 143) (by decide +kernel) rfl
theorem kx_144 : (Cond.fieldLink "KettleInquest$Clerk" (22 : Nat) "KettleInquest$Clerk" "start" "I") ∈ kq_tbl := kq_in_of (n := 144) (by decide +kernel) rfl
theorem kx_145 : (Cond.fieldLink "KettleInquest$Clerk" (25 : Nat) "KettleInquest$Clerk" "end" "I") ∈ kq_tbl := kq_in_of (n := 145) (by decide +kernel) rfl
theorem kx_146 : (Cond.fieldLink "KettleInquest$Clerk" (28 : Nat) "KettleInquest$Clerk" "value" "I") ∈ kq_tbl := kq_in_of (n := 146) (by decide +kernel) rfl
theorem kx_147 : (Cond.fieldLink "KettleInquest$Clerk" (31 : Nat) "KettleInquest$Clerk" "listed" "I") ∈ kq_tbl := kq_in_of (n := 147) (by decide +kernel) rfl
theorem kx_170 : (Cond.fieldLink "KettleInquest$Sheet" (9 : Nat) "KettleInquest$Sheet" "bits" "I") ∈ kq_tbl := kq_in_of (n := 170) (by decide +kernel) rfl
theorem kx_171 : (Cond.fieldLink "KettleInquest" (177 : Nat) "KettleInquest$Sheet" "bits" "I") ∈ kq_tbl := kq_in_of (n := 171) (by decide +kernel) rfl
theorem kx_172 : (Cond.fieldLink "KettleInquest$Sheet" (15 : Nat) "KettleInquest$Sheet" "length" "I") ∈ kq_tbl := kq_in_of (n := 172) (by decide +kernel) rfl
theorem kx_173 : (Cond.fieldLink "KettleInquest$Hall" (124 : Nat) "KettleInquest$Sheet" "length" "I") ∈ kq_tbl := kq_in_of (n := 173) (by decide +kernel) rfl
theorem kx_174 : (Cond.fieldLink "KettleInquest" (165 : Nat) "KettleInquest$Sheet" "length" "I") ∈ kq_tbl := kq_in_of (n := 174) (by decide +kernel) rfl
theorem kx_175 : (Cond.fieldLink "KettleInquest$Sheet" (18 : Nat) "KettleInquest$Sheet" "numbers" "[J") ∈ kq_tbl := kq_in_of (n := 175) (by decide +kernel) rfl
theorem kx_176 : (Cond.fieldLink "KettleInquest$Hall" (129 : Nat) "KettleInquest$Sheet" "numbers" "[J") ∈ kq_tbl := kq_in_of (n := 176) (by decide +kernel) rfl
theorem kx_177 : (Cond.fieldLink "KettleInquest" (169 : Nat) "KettleInquest$Sheet" "numbers" "[J") ∈ kq_tbl := kq_in_of (n := 177) (by decide +kernel) rfl
theorem kx_186 : (Cond.fieldLink "KettleInquest" (10 : Nat) "KettleInquest" "hall" "LKettleInquest$Hall;") ∈ kq_tbl := kq_in_of (n := 186) (by decide +kernel) rfl
theorem kx_187 : (Cond.fieldLink "KettleInquest" (16 : Nat) "KettleInquest" "trial" "LKettleInquest$Hall;") ∈ kq_tbl := kq_in_of (n := 187) (by decide +kernel) rfl
theorem kx_188 : (Cond.fieldLink "KettleInquest" (19 : Nat) "KettleInquest" "kept" "LKettleInquest$Hall;") ∈ kq_tbl := kq_in_of (n := 188) (by decide +kernel) rfl
theorem kx_189 : (Cond.fieldLink "KettleInquest" (22 : Nat) "KettleInquest" "isKept" "Z") ∈ kq_tbl := kq_in_of (n := 189) (by decide +kernel) rfl
theorem kx_190 : (Cond.fieldLink "KettleInquest" (29 : Nat) "KettleInquest" "clerk" "LKettleInquest$Clerk;") ∈ kq_tbl := kq_in_of (n := 190) (by decide +kernel) rfl
theorem kx_191 : (Cond.fieldLink "KettleInquest" (35 : Nat) "KettleInquest" "sheets" "[LKettleInquest$Sheet;") ∈ kq_tbl := kq_in_of (n := 191) (by decide +kernel) rfl
theorem kx_192 : (Cond.fieldLink "KettleInquest" (39 : Nat) "KettleInquest" "found" "[I") ∈ kq_tbl := kq_in_of (n := 192) (by decide +kernel) rfl
theorem kx_208 : (Cond.methodLink "KettleInquestLaw" (13 : Nat) ({ cls := "KettleInquest", name := "truth", desc := "(I)I" } : MethodName)) ∈ kq_tbl := kq_in_of (n := 208) (by decide +kernel) rfl
theorem kx_212 : (Cond.methodLink "KettleInquest" (44 : Nat) ({ cls := "KettleInquest", name := "isWithin", desc := "(III)Z" } : MethodName)) ∈ kq_tbl := kq_in_of (n := 212) (by decide +kernel) rfl
theorem kx_215 : (Cond.methodLink "KettleInquest" (48 : Nat) ({ cls := "KettleInquest", name := "finding", desc := "(I)I" } : MethodName)) ∈ kq_tbl := kq_in_of (n := 215) (by decide +kernel) rfl
theorem kx_219 : (Cond.constant "KettleInquest" (201 : Nat) (-1000000001 : Int32)) ∈ kq_tbl := kq_in_of (n := 219) (by decide +kernel) rfl
theorem kx_220 : (Cond.methodLink "KettleInquestLaw" (18 : Nat) ({ cls := "KettleInquest", name := "kettle", desc := "(II)I" } : MethodName)) ∈ kq_tbl := kq_in_of (n := 220) (by decide +kernel) rfl
theorem kx_224 : (Cond.methodLink "KettleInquest" (56 : Nat) ({ cls := "KettleInquest", name := "isKettleValue", desc := "(II)Z" } : MethodName)) ∈ kq_tbl := kq_in_of (n := 224) (by decide +kernel) rfl
theorem kx_227 : (Cond.methodLink "KettleInquestLaw" (23 : Nat) ({ cls := "KettleInquest", name := "witness", desc := "(I)I" } : MethodName)) ∈ kq_tbl := kq_in_of (n := 227) (by decide +kernel) rfl
theorem kx_231 : (Cond.methodLink "KettleInquest" (69 : Nat) ({ cls := "KettleInquest", name := "isKind", desc := "(I)Z" } : MethodName)) ∈ kq_tbl := kq_in_of (n := 231) (by decide +kernel) rfl
theorem kx_234 : (Cond.methodLink "KettleInquest" (76 : Nat) ({ cls := "KettleInquest$Hall", name := "callWitness", desc := "(I)I" } : MethodName)) ∈ kq_tbl := kq_in_of (n := 234) (by decide +kernel) rfl
theorem kx_238 : (Cond.methodLink "KettleInquestLaw" (27 : Nat) ({ cls := "KettleInquest", name := "of", desc := "(II)I" } : MethodName)) ∈ kq_tbl := kq_in_of (n := 238) (by decide +kernel) rfl
theorem kx_242 : (Cond.methodLink "KettleInquest" (79 : Nat) ({ cls := "KettleInquest", name := "isWitness", desc := "(I)Z" } : MethodName)) ∈ kq_tbl := kq_in_of (n := 242) (by decide +kernel) rfl
theorem kx_246 : (Cond.methodLink "KettleInquest" (94 : Nat) ({ cls := "KettleInquest$Hall", name := "lieSet", desc := "(I)I" } : MethodName)) ∈ kq_tbl := kq_in_of (n := 246) (by decide +kernel) rfl
theorem kx_250 : (Cond.methodLink "KettleInquest" (97 : Nat) ({ cls := "KettleInquest$Hall", name := "luckySet", desc := "(I)I" } : MethodName)) ∈ kq_tbl := kq_in_of (n := 250) (by decide +kernel) rfl
theorem kx_254 : (Cond.methodLink "KettleInquest" (100 : Nat) ({ cls := "KettleInquest$Hall", name := "wrongSet", desc := "(I)I" } : MethodName)) ∈ kq_tbl := kq_in_of (n := 254) (by decide +kernel) rfl
theorem kx_258 : (Cond.methodLink "KettleInquest" (103 : Nat) ({ cls := "KettleInquest$Hall", name := "doubtOf", desc := "(I)I" } : MethodName)) ∈ kq_tbl := kq_in_of (n := 258) (by decide +kernel) rfl
theorem kx_265 : (Cond.methodLink "KettleInquestLaw" (31 : Nat) ({ cls := "KettleInquest", name := "set", desc := "(III)I" } : MethodName)) ∈ kq_tbl := kq_in_of (n := 265) (by decide +kernel) rfl
theorem kx_269 : (Cond.methodLink "KettleInquestLaw" (36 : Nat) ({ cls := "KettleInquest", name := "turn", desc := "(II)I" } : MethodName)) ∈ kq_tbl := kq_in_of (n := 269) (by decide +kernel) rfl
theorem kx_273 : (Cond.methodLink "KettleInquestLaw" (40 : Nat) ({ cls := "KettleInquest", name := "as", desc := "(II)I" } : MethodName)) ∈ kq_tbl := kq_in_of (n := 273) (by decide +kernel) rfl
theorem kx_277 : (Cond.methodLink "KettleInquest" (106 : Nat) ({ cls := "KettleInquest", name := "isOfKind", desc := "(II)Z" } : MethodName)) ∈ kq_tbl := kq_in_of (n := 277) (by decide +kernel) rfl
theorem kx_280 : (Cond.fieldLink "KettleInquest" (202 : Nat) "KettleInquest" "KIND_ABOVE" "[I") ∈ kq_tbl := kq_in_of (n := 280) (by decide +kernel) rfl
theorem kx_282 : (Cond.methodLink "KettleInquestLaw" (44 : Nat) ({ cls := "KettleInquest", name := "heats", desc := "(II)I" } : MethodName)) ∈ kq_tbl := kq_in_of (n := 282) (by decide +kernel) rfl
theorem kx_286 : (Cond.methodLink "KettleInquest" (109 : Nat) ({ cls := "KettleInquest", name := "isFact", desc := "(I)Z" } : MethodName)) ∈ kq_tbl := kq_in_of (n := 286) (by decide +kernel) rfl
theorem kx_289 : (Cond.methodLink "KettleInquest" (112 : Nat) ({ cls := "KettleInquest$Hall", name := "heatBy", desc := "(II)I" } : MethodName)) ∈ kq_tbl := kq_in_of (n := 289) (by decide +kernel) rfl
theorem kx_293 : (Cond.methodLink "KettleInquest$Hall" (66 : Nat) ({ cls := "KettleInquest$Hall", name := "plumberHeat", desc := "(II)I" } : MethodName)) ∈ kq_tbl := kq_in_of (n := 293) (by decide +kernel) rfl
theorem kx_297 : (Cond.methodLink "KettleInquest$Hall" (57 : Nat) ({ cls := "KettleInquest$Hall", name := "lieSet", desc := "(I)I" } : MethodName)) ∈ kq_tbl := kq_in_of (n := 297) (by decide +kernel) rfl
theorem kx_301 : (Cond.methodLink "KettleInquest$Hall" (80 : Nat) ({ cls := "KettleInquest$Hall", name := "witnessHeat", desc := "(II)I" } : MethodName)) ∈ kq_tbl := kq_in_of (n := 301) (by decide +kernel) rfl
theorem kx_305 : (Cond.methodLink "KettleInquest$Hall" (83 : Nat) ({ cls := "KettleInquest$Hall", name := "luckySet", desc := "(I)I" } : MethodName)) ∈ kq_tbl := kq_in_of (n := 305) (by decide +kernel) rfl
theorem kx_306 : (Cond.methodLink "KettleInquest$Hall" (70 : Nat) ({ cls := "KettleInquest$Hall", name := "wifeHeat", desc := "(II)I" } : MethodName)) ∈ kq_tbl := kq_in_of (n := 306) (by decide +kernel) rfl
theorem kx_310 : (Cond.methodLink "KettleInquest$Hall" (86 : Nat) ({ cls := "KettleInquest$Hall", name := "anotherPlumberLies", desc := "(II)Z" } : MethodName)) ∈ kq_tbl := kq_in_of (n := 310) (by decide +kernel) rfl
theorem kx_315 : (Cond.methodLink "KettleInquest$Hall" (73 : Nat) ({ cls := "KettleInquest$Hall", name := "wrongSet", desc := "(I)I" } : MethodName)) ∈ kq_tbl := kq_in_of (n := 315) (by decide +kernel) rfl
theorem kx_316 : (Cond.methodLink "KettleInquestLaw" (48 : Nat) ({ cls := "KettleInquest", name := "ask", desc := "(II)I" } : MethodName)) ∈ kq_tbl := kq_in_of (n := 316) (by decide +kernel) rfl
theorem kx_320 : (Cond.methodLink "KettleInquest" (116 : Nat) ({ cls := "KettleInquest$Hall", name := "hearAnswer", desc := "(II)Z" } : MethodName)) ∈ kq_tbl := kq_in_of (n := 320) (by decide +kernel) rfl
theorem kx_324 : (Cond.methodLink "KettleInquest$Hall" (92 : Nat) ({ cls := "KettleInquest$Hall", name := "heatBy", desc := "(II)I" } : MethodName)) ∈ kq_tbl := kq_in_of (n := 324) (by decide +kernel) rfl
theorem kx_325 : (Cond.methodLink "KettleInquest$Hall" (95 : Nat) ({ cls := "java/lang/Math", name := "min", desc := "(II)I" } : MethodName)) ∈ kq_tbl := kq_in_of (n := 325) (by decide +kernel) rfl
theorem kx_328 : (Cond.methodLink "KettleInquest$Hall" (100 : Nat) ({ cls := "java/lang/Math", name := "max", desc := "(II)I" } : MethodName)) ∈ kq_tbl := kq_in_of (n := 328) (by decide +kernel) rfl
theorem kx_331 : (Cond.methodLink "KettleInquest$Hall" (103 : Nat) ({ cls := "KettleInquest$Hall", name := "doubtOf", desc := "(I)I" } : MethodName)) ∈ kq_tbl := kq_in_of (n := 331) (by decide +kernel) rfl
theorem kx_332 : (Cond.methodLink "KettleInquest$Hall" (106 : Nat) ({ cls := "KettleInquest$Hall", name := "learnsBy", desc := "(IIZ)Z" } : MethodName)) ∈ kq_tbl := kq_in_of (n := 332) (by decide +kernel) rfl
theorem kx_336 : (Cond.methodLink "KettleInquestLaw" (52 : Nat) ({ cls := "KettleInquest", name := "swap", desc := "(II)I" } : MethodName)) ∈ kq_tbl := kq_in_of (n := 336) (by decide +kernel) rfl
theorem kx_340 : (Cond.methodLink "KettleInquest" (119 : Nat) ({ cls := "KettleInquest$Hall", name := "changeNumbers", desc := "(II)V" } : MethodName)) ∈ kq_tbl := kq_in_of (n := 340) (by decide +kernel) rfl
theorem kx_344 : (Cond.methodLink "KettleInquest$Hall" (46 : Nat) ({ cls := "KettleInquest$Hall", name := "exchange", desc := "([III)V" } : MethodName)) ∈ kq_tbl := kq_in_of (n := 344) (by decide +kernel) rfl
theorem kx_347 : (Cond.methodLink "KettleInquestLaw" (56 : Nat) ({ cls := "KettleInquest", name := "minutes", desc := "(I)I" } : MethodName)) ∈ kq_tbl := kq_in_of (n := 347) (by decide +kernel) rfl
theorem kx_351 : (Cond.constant "KettleInquest" (126 : Nat) (99999 : Int32)) ∈ kq_tbl := kq_in_of (n := 351) (by decide +kernel) rfl
theorem kx_352 : (Cond.methodLink "KettleInquest" (127 : Nat) ({ cls := "KettleInquest$Hall", name := "teaAfter", desc := "(I)I" } : MethodName)) ∈ kq_tbl := kq_in_of (n := 352) (by decide +kernel) rfl
theorem kx_356 : (Cond.methodLink "KettleInquest$Hall" (120 : Nat) ({ cls := "KettleInquest$Hall", name := "passMinute", desc := "()Z" } : MethodName)) ∈ kq_tbl := kq_in_of (n := 356) (by decide +kernel) rfl
theorem kx_360 : (Cond.methodLink "KettleInquest$Hall" (110 : Nat) ({ cls := "KettleInquest$Hall", name := "whoseTurn", desc := "()I" } : MethodName)) ∈ kq_tbl := kq_in_of (n := 360) (by decide +kernel) rfl
theorem kx_364 : (Cond.methodLink "KettleInquest$Hall" (114 : Nat) ({ cls := "KettleInquest$Hall", name := "factAsked", desc := "()I" } : MethodName)) ∈ kq_tbl := kq_in_of (n := 364) (by decide +kernel) rfl
theorem kx_368 : (Cond.methodLink "KettleInquest$Hall" (117 : Nat) ({ cls := "KettleInquest$Hall", name := "hearAnswer", desc := "(II)Z" } : MethodName)) ∈ kq_tbl := kq_in_of (n := 368) (by decide +kernel) rfl
theorem kx_369 : (Cond.methodLink "KettleInquestLaw" (60 : Nat) ({ cls := "KettleInquest", name := "now", desc := "(I)I" } : MethodName)) ∈ kq_tbl := kq_in_of (n := 369) (by decide +kernel) rfl
theorem kx_373 : (Cond.methodLink "KettleInquest" (133 : Nat) ({ cls := "KettleInquest$Hall", name := "whoseTurn", desc := "()I" } : MethodName)) ∈ kq_tbl := kq_in_of (n := 373) (by decide +kernel) rfl
theorem kx_374 : (Cond.methodLink "KettleInquest" (137 : Nat) ({ cls := "KettleInquest$Hall", name := "factAsked", desc := "()I" } : MethodName)) ∈ kq_tbl := kq_in_of (n := 374) (by decide +kernel) rfl
theorem kx_375 : (Cond.methodLink "KettleInquestLaw" (64 : Nat) ({ cls := "KettleInquest", name := "on", desc := "(II)I" } : MethodName)) ∈ kq_tbl := kq_in_of (n := 375) (by decide +kernel) rfl
theorem kx_379 : (Cond.methodLink "KettleInquest" (140 : Nat) ({ cls := "KettleInquest$Hall", name := "become", desc := "(LKettleInquest$Hall;)V" } : MethodName)) ∈ kq_tbl := kq_in_of (n := 379) (by decide +kernel) rfl
theorem kx_383 : (Cond.methodLink "KettleInquestLaw" (68 : Nat) ({ cls := "KettleInquest", name := "then", desc := "(III)I" } : MethodName)) ∈ kq_tbl := kq_in_of (n := 383) (by decide +kernel) rfl
theorem kx_387 : (Cond.methodLink "KettleInquestLaw" (72 : Nat) ({ cls := "KettleInquest", name := "boils", desc := "()I" } : MethodName)) ∈ kq_tbl := kq_in_of (n := 387) (by decide +kernel) rfl
theorem kx_391 : (Cond.methodLink "KettleInquest" (144 : Nat) ({ cls := "KettleInquest$Hall", name := "passMinute", desc := "()Z" } : MethodName)) ∈ kq_tbl := kq_in_of (n := 391) (by decide +kernel) rfl
theorem kx_392 : (Cond.methodLink "KettleInquestLaw" (77 : Nat) ({ cls := "KettleInquest", name := "doubts", desc := "(I)I" } : MethodName)) ∈ kq_tbl := kq_in_of (n := 392) (by decide +kernel) rfl
theorem kx_396 : (Cond.methodLink "KettleInquestLaw" (81 : Nat) ({ cls := "KettleInquest", name := "worst", desc := "(I)I" } : MethodName)) ∈ kq_tbl := kq_in_of (n := 396) (by decide +kernel) rfl
theorem kx_400 : (Cond.methodLink "KettleInquestLaw" (85 : Nat) ({ cls := "KettleInquest", name := "turns", desc := "(I)I" } : MethodName)) ∈ kq_tbl := kq_in_of (n := 400) (by decide +kernel) rfl
theorem kx_404 : (Cond.methodLink "KettleInquestLaw" (89 : Nat) ({ cls := "KettleInquest", name := "sure", desc := "(II)I" } : MethodName)) ∈ kq_tbl := kq_in_of (n := 404) (by decide +kernel) rfl
theorem kx_408 : (Cond.methodLink "KettleInquestLaw" (93 : Nat) ({ cls := "KettleInquest", name := "water", desc := "(II)I" } : MethodName)) ∈ kq_tbl := kq_in_of (n := 408) (by decide +kernel) rfl
theorem kx_412 : (Cond.methodLink "KettleInquestLaw" (97 : Nat) ({ cls := "KettleInquest", name := "kind", desc := "(II)I" } : MethodName)) ∈ kq_tbl := kq_in_of (n := 412) (by decide +kernel) rfl
theorem kx_416 : (Cond.methodLink "KettleInquestLaw" (101 : Nat) ({ cls := "KettleInquest", name := "says", desc := "(II)I" } : MethodName)) ∈ kq_tbl := kq_in_of (n := 416) (by decide +kernel) rfl
theorem kx_420 : (Cond.methodLink "KettleInquestLaw" (105 : Nat) ({ cls := "KettleInquest", name := "fact", desc := "(I)I" } : MethodName)) ∈ kq_tbl := kq_in_of (n := 420) (by decide +kernel) rfl
theorem kx_424 : (Cond.methodLink "KettleInquestLaw" (109 : Nat) ({ cls := "KettleInquest", name := "feed", desc := "(II)I" } : MethodName)) ∈ kq_tbl := kq_in_of (n := 424) (by decide +kernel) rfl
theorem kx_428 : (Cond.methodLink "KettleInquest" (151 : Nat) ({ cls := "KettleInquest$Clerk", name := "append", desc := "(I)V" } : MethodName)) ∈ kq_tbl := kq_in_of (n := 428) (by decide +kernel) rfl
theorem kx_432 : (Cond.methodLink "KettleInquestLaw" (113 : Nat) ({ cls := "KettleInquest", name := "wipe", desc := "()I" } : MethodName)) ∈ kq_tbl := kq_in_of (n := 432) (by decide +kernel) rfl
theorem kx_436 : (Cond.methodLink "KettleInquestLaw" (117 : Nat) ({ cls := "KettleInquest", name := "inquest", desc := "()I" } : MethodName)) ∈ kq_tbl := kq_in_of (n := 436) (by decide +kernel) rfl
theorem kx_440 : (Cond.methodLink "KettleInquest" (155 : Nat) ({ cls := "KettleInquest$Clerk", name := "takeDown", desc := "(LKettleInquest$Hall;)I" } : MethodName)) ∈ kq_tbl := kq_in_of (n := 440) (by decide +kernel) rfl
theorem kx_444 : (Cond.methodLink "KettleInquest$Clerk" (34 : Nat) ({ cls := "KettleInquest$Clerk", name := "nextToken", desc := "()V" } : MethodName)) ∈ kq_tbl := kq_in_of (n := 444) (by decide +kernel) rfl
theorem kx_448 : (Cond.methodLink "KettleInquest$Clerk" (127 : Nat) ({ cls := "KettleInquest$Clerk", name := "endOfRun", desc := "(CC)I" } : MethodName)) ∈ kq_tbl := kq_in_of (n := 448) (by decide +kernel) rfl
theorem kx_452 : (Cond.methodLink "KettleInquest$Clerk" (131 : Nat) ({ cls := "KettleInquest$Clerk", name := "numberThere", desc := "()I" } : MethodName)) ∈ kq_tbl := kq_in_of (n := 452) (by decide +kernel) rfl
theorem kx_456 : (Cond.methodLink "KettleInquest$Clerk" (37 : Nat) ({ cls := "KettleInquest$Clerk", name := "takeItem", desc := "(LKettleInquest$Hall;)Z" } : MethodName)) ∈ kq_tbl := kq_in_of (n := 456) (by decide +kernel) rfl
theorem kx_460 : (Cond.methodLink "KettleInquest$Clerk" (41 : Nat) ({ cls := "KettleInquest$Clerk", name := "kindNamed", desc := "()I" } : MethodName)) ∈ kq_tbl := kq_in_of (n := 460) (by decide +kernel) rfl
theorem kx_464 : (Cond.methodLink "KettleInquest$Clerk" (103 : Nat) ({ cls := "KettleInquest$Clerk", name := "nameOf", desc := "(I)Ljava/lang/String;" } : MethodName)) ∈ kq_tbl := kq_in_of (n := 464) (by decide +kernel) rfl
theorem kx_473 : (Cond.methodLink "KettleInquest$Clerk" (51 : Nat) ({ cls := "KettleInquest$Clerk", name := "isWord", desc := "(Ljava/lang/String;)Z" } : MethodName)) ∈ kq_tbl := kq_in_of (n := 473) (by decide +kernel) rfl
theorem kx_477 : (Cond.methodLink "KettleInquest$Clerk" (119 : Nat) ({ cls := "java/lang/String", name := "length", desc := "()I" } : MethodName)) ∈ kq_tbl := kq_in_of (n := 477) (by decide +kernel) rfl
theorem kx_481 : (Cond.methodLink "java/lang/String" (335 : Nat) ({ cls := "java/lang/String", name := "coder", desc := "()B" } : MethodName)) ∈ kq_tbl := kq_in_of (n := 481) (by decide +kernel) rfl
theorem kx_485 : (Cond.fieldLink "java/lang/String" (38 : Nat) "java/lang/String" "COMPACT_STRINGS" "Z") ∈ kq_tbl := kq_in_of (n := 485) (by decide +kernel) rfl
theorem kx_487 : (Cond.methodLink "KettleInquest$Clerk" (123 : Nat) ({ cls := "java/lang/String", name := "charAt", desc := "(I)C" } : MethodName)) ∈ kq_tbl := kq_in_of (n := 487) (by decide +kernel) rfl
theorem kx_491 : (Cond.methodLink "java/lang/String" (492 : Nat) ({ cls := "java/lang/String", name := "isLatin1", desc := "()Z" } : MethodName)) ∈ kq_tbl := kq_in_of (n := 491) (by decide +kernel) rfl
theorem kx_495 : (Cond.methodLink "java/lang/String" (495 : Nat) ({ cls := "java/lang/StringLatin1", name := "charAt", desc := "([BI)C" } : MethodName)) ∈ kq_tbl := kq_in_of (n := 495) (by decide +kernel) rfl
theorem kx_498 : (Cond.methodLink "java/lang/StringLatin1" (9 : Nat) ({ cls := "java/lang/String", name := "checkIndex", desc := "(II)V" } : MethodName)) ∈ kq_tbl := kq_in_of (n := 498) (by decide +kernel) rfl
theorem kx_501 : (Cond.fieldLink "java/lang/String" (1053 : Nat) "jdk/internal/util/Preconditions" "SIOOBE_FORMATTER" "Ljava/util/function/BiFunction;") ∈ kq_tbl := kq_in_of (n := 501) (by decide +kernel) rfl
theorem kx_503 : (Cond.methodLink "java/lang/String" (1059 : Nat) ({ cls := "jdk/internal/util/Preconditions", name := "checkIndex", desc := "(IILjava/util/function/BiFunction;)I" } : MethodName)) ∈ kq_tbl := kq_in_of (n := 503) (by decide +kernel) rfl
theorem kx_525 : (Cond.methodLink "KettleInquest$Clerk" (45 : Nat) ({ cls := "KettleInquest$Clerk", name := "takeWitness", desc := "(LKettleInquest$Hall;I)Z" } : MethodName)) ∈ kq_tbl := kq_in_of (n := 525) (by decide +kernel) rfl
theorem kx_529 : (Cond.methodLink "KettleInquest$Clerk" (71 : Nat) ({ cls := "KettleInquest$Hall", name := "callWitness", desc := "(I)I" } : MethodName)) ∈ kq_tbl := kq_in_of (n := 529) (by decide +kernel) rfl
theorem kx_531 : (Cond.methodLink "KettleInquest$Clerk" (77 : Nat) ({ cls := "KettleInquest$Clerk", name := "isNumberUpTo", desc := "(I)Z" } : MethodName)) ∈ kq_tbl := kq_in_of (n := 531) (by decide +kernel) rfl
theorem kx_536 : (Cond.methodLink "KettleInquest$Clerk" (86 : Nat) ({ cls := "KettleInquest$Clerk", name := "takeFacts", desc := "()Z" } : MethodName)) ∈ kq_tbl := kq_in_of (n := 536) (by decide +kernel) rfl
theorem kx_542 : (Cond.methodLink "KettleInquest$Clerk" (55 : Nat) ({ cls := "KettleInquest$Clerk", name := "takeTruth", desc := "(LKettleInquest$Hall;Z)Z" } : MethodName)) ∈ kq_tbl := kq_in_of (n := 542) (by decide +kernel) rfl
theorem kx_548 : (Cond.methodLink "KettleInquest$Clerk" (63 : Nat) ({ cls := "KettleInquest$Clerk", name := "takeWater", desc := "(LKettleInquest$Hall;)Z" } : MethodName)) ∈ kq_tbl := kq_in_of (n := 548) (by decide +kernel) rfl
theorem kx_553 : (Cond.methodLink "KettleInquestLaw" (121 : Nat) ({ cls := "KettleInquest", name := "sheet", desc := "(III)I" } : MethodName)) ∈ kq_tbl := kq_in_of (n := 553) (by decide +kernel) rfl
theorem kx_557 : (Cond.methodLink "KettleInquest" (159 : Nat) ({ cls := "KettleInquest", name := "isSheet", desc := "(I)Z" } : MethodName)) ∈ kq_tbl := kq_in_of (n := 557) (by decide +kernel) rfl
theorem kx_560 : (Cond.methodLink "KettleInquest" (162 : Nat) ({ cls := "KettleInquest$Sheet", name := "layOut", desc := "(II)V" } : MethodName)) ∈ kq_tbl := kq_in_of (n := 560) (by decide +kernel) rfl
theorem kx_564 : (Cond.methodLink "KettleInquestLaw" (127 : Nat) ({ cls := "KettleInquest", name := "write", desc := "(IIJ)J" } : MethodName)) ∈ kq_tbl := kq_in_of (n := 564) (by decide +kernel) rfl
theorem kx_568 : (Cond.methodLink "KettleInquest" (166 : Nat) ({ cls := "KettleInquest$Sheet", name := "isMissing", desc := "()Z" } : MethodName)) ∈ kq_tbl := kq_in_of (n := 568) (by decide +kernel) rfl
theorem kx_572 : (Cond.methodLink "KettleInquest" (173 : Nat) ({ cls := "KettleInquest$Sheet", name := "lowestBits", desc := "(J)J" } : MethodName)) ∈ kq_tbl := kq_in_of (n := 572) (by decide +kernel) rfl
theorem kx_576 : (Cond.methodLink "KettleInquestLaw" (132 : Nat) ({ cls := "KettleInquest", name := "copy", desc := "(IIIII)I" } : MethodName)) ∈ kq_tbl := kq_in_of (n := 576) (by decide +kernel) rfl
theorem kx_580 : (Cond.methodLink "KettleInquest" (180 : Nat) ({ cls := "KettleInquest$Sheet", name := "hasStretch", desc := "(II)Z" } : MethodName)) ∈ kq_tbl := kq_in_of (n := 580) (by decide +kernel) rfl
theorem kx_584 : (Cond.methodLink "KettleInquest" (183 : Nat) ({ cls := "java/lang/System", name := "arraycopy", desc := "(Ljava/lang/Object;ILjava/lang/Object;II)V" } : MethodName)) ∈ kq_tbl := kq_in_of (n := 584) (by decide +kernel) rfl
theorem kx_585 : (Cond.static ({ cls := "java/lang/System", name := "arraycopy", desc := "(Ljava/lang/Object;ILjava/lang/Object;II)V" } : MethodName)) ∈ kq_tbl := kq_in_of (n := 585) (by decide +kernel) rfl
theorem kx_586 : (Cond.native ({ cls := "java/lang/System", name := "arraycopy", desc := "(Ljava/lang/Object;ILjava/lang/Object;II)V" } : MethodName)) ∈ kq_tbl := kq_in_of (n := 586) (by decide +kernel) rfl
theorem kx_587 : (Cond.methodLink "KettleInquestLaw" (137 : Nat) ({ cls := "KettleInquest", name := "lays", desc := "(I)I" } : MethodName)) ∈ kq_tbl := kq_in_of (n := 587) (by decide +kernel) rfl
theorem kx_591 : (Cond.constantLong "KettleInquest" (189 : Nat) (9 : Int64)) ∈ kq_tbl := kq_in_of (n := 591) (by decide +kernel) rfl
theorem kx_592 : (Cond.methodLink "KettleInquestLaw" (141 : Nat) ({ cls := "KettleInquest", name := "book", desc := "(I)I" } : MethodName)) ∈ kq_tbl := kq_in_of (n := 592) (by decide +kernel) rfl
theorem kx_596 : (Cond.methodLink "KettleInquestLaw" (145 : Nat) ({ cls := "KettleInquest", name := "read", desc := "(II)I" } : MethodName)) ∈ kq_tbl := kq_in_of (n := 596) (by decide +kernel) rfl
theorem kx_600 : (Cond.methodLink "KettleInquest" (191 : Nat) ({ cls := "KettleInquest$Hall", name := "goesBy", desc := "(LKettleInquest$Sheet;)Z" } : MethodName)) ∈ kq_tbl := kq_in_of (n := 600) (by decide +kernel) rfl
theorem kx_604 : (Cond.methodLink "KettleInquestLaw" (149 : Nat) ({ cls := "KettleInquest", name := "image", desc := "()I" } : MethodName)) ∈ kq_tbl := kq_in_of (n := 604) (by decide +kernel) rfl
theorem kx_608 : (Cond.methodLink "KettleInquestLaw" (153 : Nat) ({ cls := "KettleInquest", name := "undo", desc := "()I" } : MethodName)) ∈ kq_tbl := kq_in_of (n := 608) (by decide +kernel) rfl
theorem kx_612 : (Cond.methodLink "KettleInquestLaw" (157 : Nat) ({ cls := "KettleInquest", name := "tear", desc := "()I" } : MethodName)) ∈ kq_tbl := kq_in_of (n := 612) (by decide +kernel) rfl
theorem kx_616 : (Cond.methodLink "KettleInquestLaw" (161 : Nat) ({ cls := "KettleInquest", name := "count", desc := "(I)I" } : MethodName)) ∈ kq_tbl := kq_in_of (n := 616) (by decide +kernel) rfl
theorem kx_620 : (Cond.methodLink "KettleInquest" (195 : Nat) ({ cls := "KettleInquest$Hall", name := "allLies", desc := "()I" } : MethodName)) ∈ kq_tbl := kq_in_of (n := 620) (by decide +kernel) rfl
theorem kx_624 : (Cond.methodLink "KettleInquest$Hall" (61 : Nat) ({ cls := "java/lang/Integer", name := "bitCount", desc := "(I)I" } : MethodName)) ∈ kq_tbl := kq_in_of (n := 624) (by decide +kernel) rfl
theorem kx_627 : (Cond.constant "java/lang/Integer" (265 : Nat) (1431655765 : Int32)) ∈ kq_tbl := kq_in_of (n := 627) (by decide +kernel) rfl
theorem kx_628 : (Cond.constant "java/lang/Integer" (266 : Nat) (858993459 : Int32)) ∈ kq_tbl := kq_in_of (n := 628) (by decide +kernel) rfl
theorem kx_629 : (Cond.constant "java/lang/Integer" (267 : Nat) (252645135 : Int32)) ∈ kq_tbl := kq_in_of (n := 629) (by decide +kernel) rfl
theorem kx_630 : (Cond.methodLink "KettleInquest" (198 : Nat) ({ cls := "KettleInquest$Hall", name := "allSure", desc := "()I" } : MethodName)) ∈ kq_tbl := kq_in_of (n := 630) (by decide +kernel) rfl
theorem kx_634 : (Cond.methodLink "KettleInquestLaw" (165 : Nat) ({ cls := "KettleInquest", name := "status", desc := "(I)I" } : MethodName)) ∈ kq_tbl := kq_in_of (n := 634) (by decide +kernel) rfl
theorem kx_644 : (Cond.fieldLink "KettleInquestModel" (7 : Nat) "KettleInquestModel" "row" "[I") ∈ kq_tbl := kq_in_of (n := 644) (by decide +kernel) rfl
theorem kx_645 : (Cond.fieldLink "KettleInquestModel" (13 : Nat) "KettleInquestModel" "found" "[I") ∈ kq_tbl := kq_in_of (n := 645) (by decide +kernel) rfl
theorem kx_646 : (Cond.fieldLink "KettleInquestModel" (109 : Nat) "KettleInquestModel" "boiled" "Z") ∈ kq_tbl := kq_in_of (n := 646) (by decide +kernel) rfl
theorem kx_647 : (Cond.fieldLink "KettleInquestModel" (16 : Nat) "KettleInquestModel" "tried" "[I") ∈ kq_tbl := kq_in_of (n := 647) (by decide +kernel) rfl
theorem kx_648 : (Cond.fieldLink "KettleInquestModel" (19 : Nat) "KettleInquestModel" "before1" "[I") ∈ kq_tbl := kq_in_of (n := 648) (by decide +kernel) rfl
theorem kx_649 : (Cond.fieldLink "KettleInquestModel" (22 : Nat) "KettleInquestModel" "tape" "[I") ∈ kq_tbl := kq_in_of (n := 649) (by decide +kernel) rfl
theorem kx_650 : (Cond.fieldLink "KettleInquestModel" (144 : Nat) "KettleInquestModel" "tapeMany" "I") ∈ kq_tbl := kq_in_of (n := 650) (by decide +kernel) rfl
theorem kx_651 : (Cond.fieldLink "KettleInquestModel" (163 : Nat) "KettleInquestModel" "sort" "I") ∈ kq_tbl := kq_in_of (n := 651) (by decide +kernel) rfl
theorem kx_652 : (Cond.fieldLink "KettleInquestModel" (151 : Nat) "KettleInquestModel" "begins" "I") ∈ kq_tbl := kq_in_of (n := 652) (by decide +kernel) rfl
theorem kx_653 : (Cond.fieldLink "KettleInquestModel" (148 : Nat) "KettleInquestModel" "tokenEnds" "I") ∈ kq_tbl := kq_in_of (n := 653) (by decide +kernel) rfl
theorem kx_654 : (Cond.fieldLink "KettleInquestModel" (166 : Nat) "KettleInquestModel" "word" "J") ∈ kq_tbl := kq_in_of (n := 654) (by decide +kernel) rfl
theorem kx_655 : (Cond.fieldLink "KettleInquestModel" (170 : Nat) "KettleInquestModel" "value" "I") ∈ kq_tbl := kq_in_of (n := 655) (by decide +kernel) rfl
theorem kx_656 : (Cond.fieldLink "KettleInquestModel" (195 : Nat) "KettleInquestModel" "good" "Z") ∈ kq_tbl := kq_in_of (n := 656) (by decide +kernel) rfl
theorem kx_657 : (Cond.fieldLink "KettleInquestModel" (25 : Nat) "KettleInquestModel" "bitsOf" "[I") ∈ kq_tbl := kq_in_of (n := 657) (by decide +kernel) rfl
theorem kx_658 : (Cond.fieldLink "KettleInquestModel" (28 : Nat) "KettleInquestModel" "sizeOf" "[I") ∈ kq_tbl := kq_in_of (n := 658) (by decide +kernel) rfl
theorem kx_659 : (Cond.fieldLink "KettleInquestModel" (31 : Nat) "KettleInquestModel" "sheets" "[J") ∈ kq_tbl := kq_in_of (n := 659) (by decide +kernel) rfl
theorem kx_660 : (Cond.fieldLink "KettleInquestModel" (35 : Nat) "KettleInquestModel" "lent" "[J") ∈ kq_tbl := kq_in_of (n := 660) (by decide +kernel) rfl
theorem kx_661 : (Cond.fieldLink "KettleInquestModel" (38 : Nat) "KettleInquestModel" "image" "[I") ∈ kq_tbl := kq_in_of (n := 661) (by decide +kernel) rfl
theorem kx_662 : (Cond.fieldLink "KettleInquestModel" (41 : Nat) "KettleInquestModel" "before" "[I") ∈ kq_tbl := kq_in_of (n := 662) (by decide +kernel) rfl
theorem kx_663 : (Cond.fieldLink "KettleInquestModel" (257 : Nat) "KettleInquestModel" "isKept" "Z") ∈ kq_tbl := kq_in_of (n := 663) (by decide +kernel) rfl
theorem kx_705 : (Cond.methodLink "KettleInquestLaw" (17 : Nat) ({ cls := "KettleInquestModel", name := "truth", desc := "(I)I" } : MethodName)) ∈ kq_tbl := kq_in_of (n := 705) (by decide +kernel) rfl
theorem kx_709 : (Cond.methodLink "KettleInquestModel" (45 : Nat) ({ cls := "KettleInquestModel", name := "in", desc := "(III)Z" } : MethodName)) ∈ kq_tbl := kq_in_of (n := 709) (by decide +kernel) rfl
theorem kx_712 : (Cond.methodLink "KettleInquestModel" (49 : Nat) ({ cls := "KettleInquestModel", name := "becomes", desc := "(II)I" } : MethodName)) ∈ kq_tbl := kq_in_of (n := 712) (by decide +kernel) rfl
theorem kx_716 : (Cond.constant "KettleInquestModel" (44 : Nat) (-1000000001 : Int32)) ∈ kq_tbl := kq_in_of (n := 716) (by decide +kernel) rfl
theorem kx_717 : (Cond.methodLink "KettleInquestModel" (53 : Nat) ({ cls := "KettleInquestModel", name := "finds", desc := "(I)I" } : MethodName)) ∈ kq_tbl := kq_in_of (n := 717) (by decide +kernel) rfl
theorem kx_721 : (Cond.methodLink "KettleInquestLaw" (22 : Nat) ({ cls := "KettleInquestModel", name := "kettle", desc := "(II)I" } : MethodName)) ∈ kq_tbl := kq_in_of (n := 721) (by decide +kernel) rfl
theorem kx_725 : (Cond.methodLink "KettleInquestLaw" (26 : Nat) ({ cls := "KettleInquestModel", name := "witness", desc := "(I)I" } : MethodName)) ∈ kq_tbl := kq_in_of (n := 725) (by decide +kernel) rfl
theorem kx_729 : (Cond.methodLink "KettleInquestModel" (84 : Nat) ({ cls := "KettleInquestModel", name := "isKind", desc := "(I)Z" } : MethodName)) ∈ kq_tbl := kq_in_of (n := 729) (by decide +kernel) rfl
theorem kx_732 : (Cond.constant "KettleInquestModel" (87 : Nat) (-1000000002 : Int32)) ∈ kq_tbl := kq_in_of (n := 732) (by decide +kernel) rfl
theorem kx_733 : (Cond.methodLink "KettleInquestModel" (88 : Nat) ({ cls := "KettleInquestModel", name := "adds", desc := "(IIII)V" } : MethodName)) ∈ kq_tbl := kq_in_of (n := 733) (by decide +kernel) rfl
theorem kx_737 : (Cond.methodLink "KettleInquestModel" (80 : Nat) ({ cls := "KettleInquestModel", name := "puts", desc := "(III)V" } : MethodName)) ∈ kq_tbl := kq_in_of (n := 737) (by decide +kernel) rfl
theorem kx_741 : (Cond.methodLink "KettleInquestLaw" (30 : Nat) ({ cls := "KettleInquestModel", name := "of", desc := "(II)I" } : MethodName)) ∈ kq_tbl := kq_in_of (n := 741) (by decide +kernel) rfl
theorem kx_745 : (Cond.methodLink "KettleInquestModel" (92 : Nat) ({ cls := "KettleInquestModel", name := "isOne", desc := "(I)Z" } : MethodName)) ∈ kq_tbl := kq_in_of (n := 745) (by decide +kernel) rfl
theorem kx_749 : (Cond.methodLink "KettleInquestModel" (67 : Nat) ({ cls := "KettleInquestModel", name := "lies", desc := "(I)I" } : MethodName)) ∈ kq_tbl := kq_in_of (n := 749) (by decide +kernel) rfl
theorem kx_753 : (Cond.methodLink "KettleInquestModel" (57 : Nat) ({ cls := "KettleInquestModel", name := "its", desc := "(II)I" } : MethodName)) ∈ kq_tbl := kq_in_of (n := 753) (by decide +kernel) rfl
theorem kx_757 : (Cond.methodLink "KettleInquestModel" (60 : Nat) ({ cls := "KettleInquestModel", name := "right", desc := "(I)I" } : MethodName)) ∈ kq_tbl := kq_in_of (n := 757) (by decide +kernel) rfl
theorem kx_761 : (Cond.methodLink "KettleInquestModel" (70 : Nat) ({ cls := "KettleInquestModel", name := "lucky", desc := "(I)I" } : MethodName)) ∈ kq_tbl := kq_in_of (n := 761) (by decide +kernel) rfl
theorem kx_765 : (Cond.methodLink "KettleInquestModel" (73 : Nat) ({ cls := "KettleInquestModel", name := "wrong", desc := "(I)I" } : MethodName)) ∈ kq_tbl := kq_in_of (n := 765) (by decide +kernel) rfl
theorem kx_769 : (Cond.methodLink "KettleInquestModel" (95 : Nat) ({ cls := "KettleInquestModel", name := "doubting", desc := "(I)I" } : MethodName)) ∈ kq_tbl := kq_in_of (n := 769) (by decide +kernel) rfl
theorem kx_773 : (Cond.methodLink "KettleInquestLaw" (35 : Nat) ({ cls := "KettleInquestModel", name := "set", desc := "(III)I" } : MethodName)) ∈ kq_tbl := kq_in_of (n := 773) (by decide +kernel) rfl
theorem kx_777 : (Cond.methodLink "KettleInquestLaw" (39 : Nat) ({ cls := "KettleInquestModel", name := "turn", desc := "(II)I" } : MethodName)) ∈ kq_tbl := kq_in_of (n := 777) (by decide +kernel) rfl
theorem kx_781 : (Cond.methodLink "KettleInquestLaw" (43 : Nat) ({ cls := "KettleInquestModel", name := "as", desc := "(II)I" } : MethodName)) ∈ kq_tbl := kq_in_of (n := 781) (by decide +kernel) rfl
theorem kx_785 : (Cond.constant "KettleInquestModel" (98 : Nat) (-1000000003 : Int32)) ∈ kq_tbl := kq_in_of (n := 785) (by decide +kernel) rfl
theorem kx_786 : (Cond.methodLink "KettleInquestLaw" (47 : Nat) ({ cls := "KettleInquestModel", name := "heats", desc := "(II)I" } : MethodName)) ∈ kq_tbl := kq_in_of (n := 786) (by decide +kernel) rfl
theorem kx_790 : (Cond.methodLink "KettleInquestModel" (99 : Nat) ({ cls := "KettleInquestModel", name := "isFact", desc := "(I)Z" } : MethodName)) ∈ kq_tbl := kq_in_of (n := 790) (by decide +kernel) rfl
theorem kx_793 : (Cond.methodLink "KettleInquestModel" (102 : Nat) ({ cls := "KettleInquestModel", name := "heating", desc := "(II)I" } : MethodName)) ∈ kq_tbl := kq_in_of (n := 793) (by decide +kernel) rfl
theorem kx_797 : (Cond.methodLink "KettleInquestModel" (76 : Nat) ({ cls := "KettleInquestModel", name := "besideLiar", desc := "(II)Z" } : MethodName)) ∈ kq_tbl := kq_in_of (n := 797) (by decide +kernel) rfl
theorem kx_801 : (Cond.methodLink "KettleInquestModel" (63 : Nat) ({ cls := "KettleInquestModel", name := "isPlumber", desc := "(I)Z" } : MethodName)) ∈ kq_tbl := kq_in_of (n := 801) (by decide +kernel) rfl
theorem kx_805 : (Cond.methodLink "KettleInquestLaw" (51 : Nat) ({ cls := "KettleInquestModel", name := "ask", desc := "(II)I" } : MethodName)) ∈ kq_tbl := kq_in_of (n := 805) (by decide +kernel) rfl
theorem kx_809 : (Cond.methodLink "KettleInquestModel" (113 : Nat) ({ cls := "KettleInquestModel", name := "answers", desc := "(II)V" } : MethodName)) ∈ kq_tbl := kq_in_of (n := 809) (by decide +kernel) rfl
theorem kx_813 : (Cond.methodLink "KettleInquestModel" (105 : Nat) ({ cls := "KettleInquestModel", name := "held", desc := "(III)I" } : MethodName)) ∈ kq_tbl := kq_in_of (n := 813) (by decide +kernel) rfl
theorem kx_816 : (Cond.methodLink "KettleInquestLaw" (55 : Nat) ({ cls := "KettleInquestModel", name := "swap", desc := "(II)I" } : MethodName)) ∈ kq_tbl := kq_in_of (n := 816) (by decide +kernel) rfl
theorem kx_820 : (Cond.methodLink "KettleInquestModel" (117 : Nat) ({ cls := "KettleInquestModel", name := "swaps", desc := "(II)V" } : MethodName)) ∈ kq_tbl := kq_in_of (n := 820) (by decide +kernel) rfl
theorem kx_824 : (Cond.methodLink "KettleInquestLaw" (59 : Nat) ({ cls := "KettleInquestModel", name := "minutes", desc := "(I)I" } : MethodName)) ∈ kq_tbl := kq_in_of (n := 824) (by decide +kernel) rfl
theorem kx_828 : (Cond.constant "KettleInquestModel" (130 : Nat) (99999 : Int32)) ∈ kq_tbl := kq_in_of (n := 828) (by decide +kernel) rfl
theorem kx_829 : (Cond.constant "KettleInquestModel" (131 : Nat) (-1000000005 : Int32)) ∈ kq_tbl := kq_in_of (n := 829) (by decide +kernel) rfl
theorem kx_830 : (Cond.methodLink "KettleInquestModel" (132 : Nat) ({ cls := "KettleInquestModel", name := "passes", desc := "(I)V" } : MethodName)) ∈ kq_tbl := kq_in_of (n := 830) (by decide +kernel) rfl
theorem kx_834 : (Cond.methodLink "KettleInquestModel" (127 : Nat) ({ cls := "KettleInquestModel", name := "oneMinute", desc := "()V" } : MethodName)) ∈ kq_tbl := kq_in_of (n := 834) (by decide +kernel) rfl
theorem kx_838 : (Cond.methodLink "KettleInquestModel" (120 : Nat) ({ cls := "KettleInquestModel", name := "whose", desc := "()I" } : MethodName)) ∈ kq_tbl := kq_in_of (n := 838) (by decide +kernel) rfl
theorem kx_842 : (Cond.methodLink "KettleInquestModel" (124 : Nat) ({ cls := "KettleInquestModel", name := "asked", desc := "()I" } : MethodName)) ∈ kq_tbl := kq_in_of (n := 842) (by decide +kernel) rfl
theorem kx_846 : (Cond.methodLink "KettleInquestLaw" (63 : Nat) ({ cls := "KettleInquestModel", name := "now", desc := "(I)I" } : MethodName)) ∈ kq_tbl := kq_in_of (n := 846) (by decide +kernel) rfl
theorem kx_850 : (Cond.methodLink "KettleInquestLaw" (67 : Nat) ({ cls := "KettleInquestModel", name := "on", desc := "(II)I" } : MethodName)) ∈ kq_tbl := kq_in_of (n := 850) (by decide +kernel) rfl
theorem kx_854 : (Cond.methodLink "KettleInquestModel" (136 : Nat) ({ cls := "KettleInquestModel", name := "moveAll", desc := "(Z[I)V" } : MethodName)) ∈ kq_tbl := kq_in_of (n := 854) (by decide +kernel) rfl
theorem kx_858 : (Cond.methodLink "KettleInquestLaw" (71 : Nat) ({ cls := "KettleInquestModel", name := "then", desc := "(III)I" } : MethodName)) ∈ kq_tbl := kq_in_of (n := 858) (by decide +kernel) rfl
theorem kx_862 : (Cond.methodLink "KettleInquestLaw" (76 : Nat) ({ cls := "KettleInquestModel", name := "boils", desc := "()I" } : MethodName)) ∈ kq_tbl := kq_in_of (n := 862) (by decide +kernel) rfl
theorem kx_866 : (Cond.constant "KettleInquestModel" (140 : Nat) (-1000000004 : Int32)) ∈ kq_tbl := kq_in_of (n := 866) (by decide +kernel) rfl
theorem kx_867 : (Cond.methodLink "KettleInquestLaw" (80 : Nat) ({ cls := "KettleInquestModel", name := "doubts", desc := "(I)I" } : MethodName)) ∈ kq_tbl := kq_in_of (n := 867) (by decide +kernel) rfl
theorem kx_871 : (Cond.methodLink "KettleInquestLaw" (84 : Nat) ({ cls := "KettleInquestModel", name := "worst", desc := "(I)I" } : MethodName)) ∈ kq_tbl := kq_in_of (n := 871) (by decide +kernel) rfl
theorem kx_875 : (Cond.methodLink "KettleInquestLaw" (88 : Nat) ({ cls := "KettleInquestModel", name := "turns", desc := "(I)I" } : MethodName)) ∈ kq_tbl := kq_in_of (n := 875) (by decide +kernel) rfl
theorem kx_879 : (Cond.methodLink "KettleInquestModel" (141 : Nat) ({ cls := "KettleInquestModel", name := "teaBehind", desc := "(I)I" } : MethodName)) ∈ kq_tbl := kq_in_of (n := 879) (by decide +kernel) rfl
theorem kx_883 : (Cond.methodLink "KettleInquestLaw" (92 : Nat) ({ cls := "KettleInquestModel", name := "sure", desc := "(II)I" } : MethodName)) ∈ kq_tbl := kq_in_of (n := 883) (by decide +kernel) rfl
theorem kx_887 : (Cond.methodLink "KettleInquestLaw" (96 : Nat) ({ cls := "KettleInquestModel", name := "water", desc := "(II)I" } : MethodName)) ∈ kq_tbl := kq_in_of (n := 887) (by decide +kernel) rfl
theorem kx_891 : (Cond.methodLink "KettleInquestLaw" (100 : Nat) ({ cls := "KettleInquestModel", name := "kind", desc := "(II)I" } : MethodName)) ∈ kq_tbl := kq_in_of (n := 891) (by decide +kernel) rfl
theorem kx_895 : (Cond.methodLink "KettleInquestLaw" (104 : Nat) ({ cls := "KettleInquestModel", name := "says", desc := "(II)I" } : MethodName)) ∈ kq_tbl := kq_in_of (n := 895) (by decide +kernel) rfl
theorem kx_899 : (Cond.methodLink "KettleInquestLaw" (108 : Nat) ({ cls := "KettleInquestModel", name := "fact", desc := "(I)I" } : MethodName)) ∈ kq_tbl := kq_in_of (n := 899) (by decide +kernel) rfl
theorem kx_903 : (Cond.methodLink "KettleInquestLaw" (112 : Nat) ({ cls := "KettleInquestModel", name := "feed", desc := "(II)I" } : MethodName)) ∈ kq_tbl := kq_in_of (n := 903) (by decide +kernel) rfl
theorem kx_907 : (Cond.methodLink "KettleInquestLaw" (116 : Nat) ({ cls := "KettleInquestModel", name := "wipe", desc := "()I" } : MethodName)) ∈ kq_tbl := kq_in_of (n := 907) (by decide +kernel) rfl
theorem kx_911 : (Cond.methodLink "KettleInquestLaw" (120 : Nat) ({ cls := "KettleInquestModel", name := "inquest", desc := "()I" } : MethodName)) ∈ kq_tbl := kq_in_of (n := 911) (by decide +kernel) rfl
theorem kx_915 : (Cond.methodLink "KettleInquestModel" (198 : Nat) ({ cls := "KettleInquestModel", name := "advance", desc := "()V" } : MethodName)) ∈ kq_tbl := kq_in_of (n := 915) (by decide +kernel) rfl
theorem kx_919 : (Cond.methodLink "KettleInquestModel" (154 : Nat) ({ cls := "KettleInquestModel", name := "byteAt", desc := "(I)I" } : MethodName)) ∈ kq_tbl := kq_in_of (n := 919) (by decide +kernel) rfl
theorem kx_923 : (Cond.methodLink "KettleInquestModel" (157 : Nat) ({ cls := "KettleInquestModel", name := "isLetter", desc := "(I)Z" } : MethodName)) ∈ kq_tbl := kq_in_of (n := 923) (by decide +kernel) rfl
theorem kx_926 : (Cond.methodLink "KettleInquestModel" (160 : Nat) ({ cls := "KettleInquestModel", name := "isDigit", desc := "(I)Z" } : MethodName)) ∈ kq_tbl := kq_in_of (n := 926) (by decide +kernel) rfl
theorem kx_929 : (Cond.constantLong "KettleInquestModel" (173 : Nat) (27 : Int64)) ∈ kq_tbl := kq_in_of (n := 929) (by decide +kernel) rfl
theorem kx_930 : (Cond.constantLong "KettleInquestModel" (175 : Nat) (96 : Int64)) ∈ kq_tbl := kq_in_of (n := 930) (by decide +kernel) rfl
theorem kx_931 : (Cond.constantLong "KettleInquestModel" (177 : Nat) (-1 : Int64)) ∈ kq_tbl := kq_in_of (n := 931) (by decide +kernel) rfl
theorem kx_932 : (Cond.methodLink "KettleInquestModel" (234 : Nat) ({ cls := "KettleInquestModel", name := "wantItem", desc := "()V" } : MethodName)) ∈ kq_tbl := kq_in_of (n := 932) (by decide +kernel) rfl
theorem kx_936 : (Cond.methodLink "KettleInquestModel" (218 : Nat) ({ cls := "KettleInquestModel", name := "kindHere", desc := "()I" } : MethodName)) ∈ kq_tbl := kq_in_of (n := 936) (by decide +kernel) rfl
theorem kx_940 : (Cond.constantLong "KettleInquestModel" (179 : Nat) (9050719969 : Int64)) ∈ kq_tbl := kq_in_of (n := 940) (by decide +kernel) rfl
theorem kx_941 : (Cond.methodLink "KettleInquestModel" (181 : Nat) ({ cls := "KettleInquestModel", name := "isWord", desc := "(J)Z" } : MethodName)) ∈ kq_tbl := kq_in_of (n := 941) (by decide +kernel) rfl
theorem kx_945 : (Cond.constantLong "KettleInquestModel" (185 : Nat) (6382332459 : Int64)) ∈ kq_tbl := kq_in_of (n := 945) (by decide +kernel) rfl
theorem kx_946 : (Cond.constantLong "KettleInquestModel" (187 : Nat) (459437 : Int64)) ∈ kq_tbl := kq_in_of (n := 946) (by decide +kernel) rfl
theorem kx_947 : (Cond.constantLong "KettleInquestModel" (189 : Nat) (1758676 : Int64)) ∈ kq_tbl := kq_in_of (n := 947) (by decide +kernel) rfl
theorem kx_948 : (Cond.constantLong "KettleInquestModel" (191 : Nat) (84818198 : Int64)) ∈ kq_tbl := kq_in_of (n := 948) (by decide +kernel) rfl
theorem kx_949 : (Cond.constantLong "KettleInquestModel" (193 : Nat) (7867157 : Int64)) ∈ kq_tbl := kq_in_of (n := 949) (by decide +kernel) rfl
theorem kx_950 : (Cond.methodLink "KettleInquestModel" (221 : Nat) ({ cls := "KettleInquestModel", name := "wantOne", desc := "(I)V" } : MethodName)) ∈ kq_tbl := kq_in_of (n := 950) (by decide +kernel) rfl
theorem kx_954 : (Cond.constantLong "KettleInquestModel" (204 : Nat) (389777 : Int64)) ∈ kq_tbl := kq_in_of (n := 954) (by decide +kernel) rfl
theorem kx_955 : (Cond.methodLink "KettleInquestModel" (206 : Nat) ({ cls := "KettleInquestModel", name := "mayWant", desc := "(JIII)I" } : MethodName)) ∈ kq_tbl := kq_in_of (n := 955) (by decide +kernel) rfl
theorem kx_959 : (Cond.methodLink "KettleInquestModel" (201 : Nat) ({ cls := "KettleInquestModel", name := "wantNumber", desc := "(II)I" } : MethodName)) ∈ kq_tbl := kq_in_of (n := 959) (by decide +kernel) rfl
theorem kx_963 : (Cond.constantLong "KettleInquestModel" (210 : Nat) (6132988 : Int64)) ∈ kq_tbl := kq_in_of (n := 963) (by decide +kernel) rfl
theorem kx_964 : (Cond.methodLink "KettleInquestModel" (212 : Nat) ({ cls := "KettleInquestModel", name := "mayFacts", desc := "(J)I" } : MethodName)) ∈ kq_tbl := kq_in_of (n := 964) (by decide +kernel) rfl
theorem kx_968 : (Cond.constantLong "KettleInquestModel" (216 : Nat) (375400 : Int64)) ∈ kq_tbl := kq_in_of (n := 968) (by decide +kernel) rfl
theorem kx_969 : (Cond.constantLong "KettleInquestModel" (224 : Nat) (407354 : Int64)) ∈ kq_tbl := kq_in_of (n := 969) (by decide +kernel) rfl
theorem kx_970 : (Cond.methodLink "KettleInquestModel" (226 : Nat) ({ cls := "KettleInquestModel", name := "wantTruth", desc := "(Z)V" } : MethodName)) ∈ kq_tbl := kq_in_of (n := 970) (by decide +kernel) rfl
theorem kx_974 : (Cond.constantLong "KettleInquestModel" (230 : Nat) (3217595 : Int64)) ∈ kq_tbl := kq_in_of (n := 974) (by decide +kernel) rfl
theorem kx_975 : (Cond.constantLong "KettleInquestModel" (232 : Nat) (12257559 : Int64)) ∈ kq_tbl := kq_in_of (n := 975) (by decide +kernel) rfl
theorem kx_976 : (Cond.methodLink "KettleInquestLaw" (124 : Nat) ({ cls := "KettleInquestModel", name := "sheet", desc := "(III)I" } : MethodName)) ∈ kq_tbl := kq_in_of (n := 976) (by decide +kernel) rfl
theorem kx_980 : (Cond.methodLink "KettleInquestModel" (237 : Nat) ({ cls := "KettleInquestModel", name := "isSheet", desc := "(I)Z" } : MethodName)) ∈ kq_tbl := kq_in_of (n := 980) (by decide +kernel) rfl
theorem kx_983 : (Cond.constant "KettleInquestModel" (240 : Nat) (-1000000007 : Int32)) ∈ kq_tbl := kq_in_of (n := 983) (by decide +kernel) rfl
theorem kx_984 : (Cond.methodLink "KettleInquestLaw" (131 : Nat) ({ cls := "KettleInquestModel", name := "write", desc := "(IIJ)J" } : MethodName)) ∈ kq_tbl := kq_in_of (n := 984) (by decide +kernel) rfl
theorem kx_988 : (Cond.constant "KettleInquestModel" (241 : Nat) (-1000000006 : Int32)) ∈ kq_tbl := kq_in_of (n := 988) (by decide +kernel) rfl
theorem kx_989 : (Cond.methodLink "KettleInquestModel" (242 : Nat) ({ cls := "KettleInquestModel", name := "narrow", desc := "(IJ)J" } : MethodName)) ∈ kq_tbl := kq_in_of (n := 989) (by decide +kernel) rfl
theorem kx_992 : (Cond.methodLink "KettleInquestLaw" (136 : Nat) ({ cls := "KettleInquestModel", name := "copy", desc := "(IIIII)I" } : MethodName)) ∈ kq_tbl := kq_in_of (n := 992) (by decide +kernel) rfl
theorem kx_996 : (Cond.methodLink "KettleInquestModel" (246 : Nat) ({ cls := "KettleInquestModel", name := "isPart", desc := "(III)Z" } : MethodName)) ∈ kq_tbl := kq_in_of (n := 996) (by decide +kernel) rfl
theorem kx_1000 : (Cond.methodLink "KettleInquestLaw" (140 : Nat) ({ cls := "KettleInquestModel", name := "lays", desc := "(I)I" } : MethodName)) ∈ kq_tbl := kq_in_of (n := 1000) (by decide +kernel) rfl
theorem kx_1004 : (Cond.methodLink "KettleInquestModel" (249 : Nat) ({ cls := "KettleInquestModel", name := "badSheet", desc := "(I)I" } : MethodName)) ∈ kq_tbl := kq_in_of (n := 1004) (by decide +kernel) rfl
theorem kx_1008 : (Cond.constantLong "KettleInquestModel" (252 : Nat) (9 : Int64)) ∈ kq_tbl := kq_in_of (n := 1008) (by decide +kernel) rfl
theorem kx_1009 : (Cond.methodLink "KettleInquestLaw" (144 : Nat) ({ cls := "KettleInquestModel", name := "book", desc := "(I)I" } : MethodName)) ∈ kq_tbl := kq_in_of (n := 1009) (by decide +kernel) rfl
theorem kx_1013 : (Cond.methodLink "KettleInquestLaw" (148 : Nat) ({ cls := "KettleInquestModel", name := "read", desc := "(II)I" } : MethodName)) ∈ kq_tbl := kq_in_of (n := 1013) (by decide +kernel) rfl
theorem kx_1017 : (Cond.methodLink "KettleInquestModel" (254 : Nat) ({ cls := "KettleInquestModel", name := "isSo", desc := "(I)Z" } : MethodName)) ∈ kq_tbl := kq_in_of (n := 1017) (by decide +kernel) rfl
theorem kx_1021 : (Cond.methodLink "KettleInquestLaw" (152 : Nat) ({ cls := "KettleInquestModel", name := "image", desc := "()I" } : MethodName)) ∈ kq_tbl := kq_in_of (n := 1021) (by decide +kernel) rfl
theorem kx_1025 : (Cond.methodLink "KettleInquestLaw" (156 : Nat) ({ cls := "KettleInquestModel", name := "undo", desc := "()I" } : MethodName)) ∈ kq_tbl := kq_in_of (n := 1025) (by decide +kernel) rfl
theorem kx_1029 : (Cond.methodLink "KettleInquestLaw" (160 : Nat) ({ cls := "KettleInquestModel", name := "tear", desc := "()I" } : MethodName)) ∈ kq_tbl := kq_in_of (n := 1029) (by decide +kernel) rfl
theorem kx_1033 : (Cond.methodLink "KettleInquestLaw" (164 : Nat) ({ cls := "KettleInquestModel", name := "count", desc := "(I)I" } : MethodName)) ∈ kq_tbl := kq_in_of (n := 1033) (by decide +kernel) rfl
theorem kx_1037 : (Cond.methodLink "KettleInquestModel" (260 : Nat) ({ cls := "KettleInquestModel", name := "liesOfAll", desc := "()I" } : MethodName)) ∈ kq_tbl := kq_in_of (n := 1037) (by decide +kernel) rfl
theorem kx_1041 : (Cond.methodLink "KettleInquestModel" (266 : Nat) ({ cls := "KettleInquestModel", name := "bits", desc := "(I)I" } : MethodName)) ∈ kq_tbl := kq_in_of (n := 1041) (by decide +kernel) rfl
theorem kx_1044 : (Cond.methodLink "KettleInquestModel" (263 : Nat) ({ cls := "KettleInquestModel", name := "sureOfAll", desc := "()I" } : MethodName)) ∈ kq_tbl := kq_in_of (n := 1044) (by decide +kernel) rfl
theorem kx_1048 : (Cond.methodLink "KettleInquestLaw" (168 : Nat) ({ cls := "KettleInquestModel", name := "status", desc := "(I)I" } : MethodName)) ∈ kq_tbl := kq_in_of (n := 1048) (by decide +kernel) rfl
theorem kx_1052 : (Cond.constantLong "KettleInquestLaw" (125 : Nat) (4294967295 : Int64)) ∈ kq_tbl := kq_in_of (n := 1052) (by decide +kernel) rfl
theorem kx_1053 : (Cond.fieldLink "java/lang/String" (9 : Nat) "java/lang/String" "value" "[B") ∈ kq_tbl := kq_in_of (n := 1053) (by decide +kernel) rfl
theorem kx_1054 : (Cond.fieldLink "java/lang/String" (15 : Nat) "java/lang/String" "coder" "B") ∈ kq_tbl := kq_in_of (n := 1054) (by decide +kernel) rfl
theorem kg_K_truth : kq_sg km_K_truth 1 := ⟨⟨by decide, by decide, by decide +kernel⟩, by decide⟩
theorem kg_K_isWithin : kq_sg km_K_isWithin 3 := ⟨⟨by decide, by decide, by decide +kernel⟩, by decide⟩
theorem kg_K_finding : kq_sg km_K_finding 1 := ⟨⟨by decide, by decide, by decide +kernel⟩, by decide⟩
theorem kg_K_kettle : kq_sg km_K_kettle 2 := ⟨⟨by decide, by decide, by decide +kernel⟩, by decide⟩
theorem kg_K_isKettleValue : kq_sg km_K_isKettleValue 2 := ⟨⟨by decide, by decide, by decide +kernel⟩, by decide⟩
theorem kg_K_witness : kq_sg km_K_witness 1 := ⟨⟨by decide, by decide, by decide +kernel⟩, by decide⟩
theorem kg_K_isKind : kq_sg km_K_isKind 1 := ⟨⟨by decide, by decide, by decide +kernel⟩, by decide⟩
theorem kg_H_callWitness : kq_sg km_H_callWitness 1 := ⟨⟨by decide, by decide, by decide +kernel⟩, by decide⟩
theorem kg_K_of : kq_sg km_K_of 2 := ⟨⟨by decide, by decide, by decide +kernel⟩, by decide⟩
theorem kg_K_isWitness : kq_sg km_K_isWitness 1 := ⟨⟨by decide, by decide, by decide +kernel⟩, by decide⟩
theorem kg_H_lieSet : kq_sg km_H_lieSet 1 := ⟨⟨by decide, by decide, by decide +kernel⟩, by decide⟩
theorem kg_H_luckySet : kq_sg km_H_luckySet 1 := ⟨⟨by decide, by decide, by decide +kernel⟩, by decide⟩
theorem kg_H_wrongSet : kq_sg km_H_wrongSet 1 := ⟨⟨by decide, by decide, by decide +kernel⟩, by decide⟩
theorem kg_H_doubtOf : kq_sg km_H_doubtOf 1 := ⟨⟨by decide, by decide, by decide +kernel⟩, by decide⟩
theorem kg_K_set : kq_sg km_K_set 3 := ⟨⟨by decide, by decide, by decide +kernel⟩, by decide⟩
theorem kg_K_turn : kq_sg km_K_turn 2 := ⟨⟨by decide, by decide, by decide +kernel⟩, by decide⟩
theorem kg_K_as : kq_sg km_K_as 2 := ⟨⟨by decide, by decide, by decide +kernel⟩, by decide⟩
theorem kg_K_isOfKind : kq_sg km_K_isOfKind 2 := ⟨⟨by decide, by decide, by decide +kernel⟩, by decide⟩
theorem kg_K_heats : kq_sg km_K_heats 2 := ⟨⟨by decide, by decide, by decide +kernel⟩, by decide⟩
theorem kg_K_isFact : kq_sg km_K_isFact 1 := ⟨⟨by decide, by decide, by decide +kernel⟩, by decide⟩
theorem kg_H_heatBy : kq_sg km_H_heatBy 2 := ⟨⟨by decide, by decide, by decide +kernel⟩, by decide⟩
theorem kg_H_plumberHeat : kq_sg km_H_plumberHeat 2 := ⟨⟨by decide, by decide, by decide +kernel⟩, by decide⟩
theorem kg_K_isIn : kq_sg km_K_isIn 2 := ⟨⟨by decide, by decide, by decide +kernel⟩, by decide⟩
theorem kg_H_witnessHeat : kq_sg km_H_witnessHeat 2 := ⟨⟨by decide, by decide, by decide +kernel⟩, by decide⟩
theorem kg_H_wifeHeat : kq_sg km_H_wifeHeat 2 := ⟨⟨by decide, by decide, by decide +kernel⟩, by decide⟩
theorem kg_H_anotherPlumberLies : kq_sg km_H_anotherPlumberLies 2 := ⟨⟨by decide, by decide, by decide +kernel⟩, by decide⟩
theorem kg_K_ask : kq_sg km_K_ask 2 := ⟨⟨by decide, by decide, by decide +kernel⟩, by decide⟩
theorem kg_H_hearAnswer : kq_sg km_H_hearAnswer 2 := ⟨⟨by decide, by decide, by decide +kernel⟩, by decide⟩
theorem kg_jM_min : kq_sg km_jM_min 2 := ⟨⟨by decide, by decide, by decide +kernel⟩, by decide⟩
theorem kg_jM_max : kq_sg km_jM_max 2 := ⟨⟨by decide, by decide, by decide +kernel⟩, by decide⟩
theorem kg_H_learnsBy : kq_sg km_H_learnsBy 3 := ⟨⟨by decide, by decide, by decide +kernel⟩, by decide⟩
theorem kg_K_swap : kq_sg km_K_swap 2 := ⟨⟨by decide, by decide, by decide +kernel⟩, by decide⟩
theorem kg_H_changeNumbers : kq_sg km_H_changeNumbers 2 := ⟨⟨by decide, by decide, by decide +kernel⟩, by decide⟩
theorem kg_H_exchange : kq_sg km_H_exchange 3 := ⟨⟨by decide, by decide, by decide +kernel⟩, by decide⟩
theorem kg_K_minutes : kq_sg km_K_minutes 1 := ⟨⟨by decide, by decide, by decide +kernel⟩, by decide⟩
theorem kg_H_teaAfter : kq_sg km_H_teaAfter 1 := ⟨⟨by decide, by decide, by decide +kernel⟩, by decide⟩
theorem kg_H_passMinute : kq_sg km_H_passMinute 0 := ⟨⟨by decide, by decide, by decide +kernel⟩, by decide⟩
theorem kg_H_whoseTurn : kq_sg km_H_whoseTurn 0 := ⟨⟨by decide, by decide, by decide +kernel⟩, by decide⟩
theorem kg_H_factAsked : kq_sg km_H_factAsked 0 := ⟨⟨by decide, by decide, by decide +kernel⟩, by decide⟩
theorem kg_K_now : kq_sg km_K_now 1 := ⟨⟨by decide, by decide, by decide +kernel⟩, by decide⟩
theorem kg_K_on : kq_sg km_K_on 2 := ⟨⟨by decide, by decide, by decide +kernel⟩, by decide⟩
theorem kg_H_become : kq_sg km_H_become 1 := ⟨⟨by decide, by decide, by decide +kernel⟩, by decide⟩
theorem kg_K_then : kq_sg km_K_then 3 := ⟨⟨by decide, by decide, by decide +kernel⟩, by decide⟩
theorem kg_K_boils : kq_sg km_K_boils 0 := ⟨⟨by decide, by decide, by decide +kernel⟩, by decide⟩
theorem kg_K_doubts : kq_sg km_K_doubts 1 := ⟨⟨by decide, by decide, by decide +kernel⟩, by decide⟩
theorem kg_K_worst : kq_sg km_K_worst 1 := ⟨⟨by decide, by decide, by decide +kernel⟩, by decide⟩
theorem kg_K_turns : kq_sg km_K_turns 1 := ⟨⟨by decide, by decide, by decide +kernel⟩, by decide⟩
theorem kg_K_sure : kq_sg km_K_sure 2 := ⟨⟨by decide, by decide, by decide +kernel⟩, by decide⟩
theorem kg_K_water : kq_sg km_K_water 2 := ⟨⟨by decide, by decide, by decide +kernel⟩, by decide⟩
theorem kg_K_kind : kq_sg km_K_kind 2 := ⟨⟨by decide, by decide, by decide +kernel⟩, by decide⟩
theorem kg_K_says : kq_sg km_K_says 2 := ⟨⟨by decide, by decide, by decide +kernel⟩, by decide⟩
theorem kg_K_fact : kq_sg km_K_fact 1 := ⟨⟨by decide, by decide, by decide +kernel⟩, by decide⟩
theorem kg_K_feed : kq_sg km_K_feed 2 := ⟨⟨by decide, by decide, by decide +kernel⟩, by decide⟩
theorem kg_C_append : kq_sg km_C_append 1 := ⟨⟨by decide, by decide, by decide +kernel⟩, by decide⟩
theorem kg_K_wipe : kq_sg km_K_wipe 0 := ⟨⟨by decide, by decide, by decide +kernel⟩, by decide⟩
theorem kg_K_inquest : kq_sg km_K_inquest 0 := ⟨⟨by decide, by decide, by decide +kernel⟩, by decide⟩
theorem kg_C_takeDown : kq_sg km_C_takeDown 1 := ⟨⟨by decide, by decide, by decide +kernel⟩, by decide⟩
theorem kg_C_nextToken : kq_sg km_C_nextToken 0 := ⟨⟨by decide, by decide, by decide +kernel⟩, by decide⟩
theorem kg_C_endOfRun : kq_sg km_C_endOfRun 2 := ⟨⟨by decide, by decide, by decide +kernel⟩, by decide⟩
theorem kg_C_numberThere : kq_sg km_C_numberThere 0 := ⟨⟨by decide, by decide, by decide +kernel⟩, by decide⟩
theorem kg_C_takeItem : kq_sg km_C_takeItem 1 := ⟨⟨by decide, by decide, by decide +kernel⟩, by decide⟩
theorem kg_C_kindNamed : kq_sg km_C_kindNamed 0 := ⟨⟨by decide, by decide, by decide +kernel⟩, by decide⟩
theorem kg_C_nameOf : kq_sg km_C_nameOf 1 := ⟨⟨by decide, by decide, by decide +kernel⟩, by decide⟩
theorem kg_C_isWord : kq_sg km_C_isWord 1 := ⟨⟨by decide, by decide, by decide +kernel⟩, by decide⟩
theorem kg_jS_length : kq_sg km_jS_length 0 := ⟨⟨by decide, by decide, by decide +kernel⟩, by decide⟩
theorem kg_jS_coder : kq_sg km_jS_coder 0 := ⟨⟨by decide, by decide, by decide +kernel⟩, by decide⟩
theorem kg_jS_charAt : kq_sg km_jS_charAt 1 := ⟨⟨by decide, by decide, by decide +kernel⟩, by decide⟩
theorem kg_jS_isLatin1 : kq_sg km_jS_isLatin1 0 := ⟨⟨by decide, by decide, by decide +kernel⟩, by decide⟩
theorem kg_jL_charAt : kq_sg km_jL_charAt 2 := ⟨⟨by decide, by decide, by decide +kernel⟩, by decide⟩
theorem kg_jS_checkIndex : kq_sg km_jS_checkIndex 2 := ⟨⟨by decide, by decide, by decide +kernel⟩, by decide⟩
theorem kg_jP_checkIndex : kq_sg km_jP_checkIndex 3 := ⟨⟨by decide, by decide, by decide +kernel⟩, by decide⟩
theorem kg_C_takeWitness : kq_sg km_C_takeWitness 2 := ⟨⟨by decide, by decide, by decide +kernel⟩, by decide⟩
theorem kg_C_isNumberUpTo : kq_sg km_C_isNumberUpTo 1 := ⟨⟨by decide, by decide, by decide +kernel⟩, by decide⟩
theorem kg_C_takeFacts : kq_sg km_C_takeFacts 0 := ⟨⟨by decide, by decide, by decide +kernel⟩, by decide⟩
theorem kg_C_takeTruth : kq_sg km_C_takeTruth 2 := ⟨⟨by decide, by decide, by decide +kernel⟩, by decide⟩
theorem kg_C_takeWater : kq_sg km_C_takeWater 1 := ⟨⟨by decide, by decide, by decide +kernel⟩, by decide⟩
theorem kg_K_sheet : kq_sg km_K_sheet 3 := ⟨⟨by decide, by decide, by decide +kernel⟩, by decide⟩
theorem kg_K_isSheet : kq_sg km_K_isSheet 1 := ⟨⟨by decide, by decide, by decide +kernel⟩, by decide⟩
theorem kg_S_layOut : kq_sg km_S_layOut 2 := ⟨⟨by decide, by decide, by decide +kernel⟩, by decide⟩
theorem kg_K_write : kq_sg km_K_write 3 := ⟨⟨by decide, by decide, by decide +kernel⟩, by decide⟩
theorem kg_S_isMissing : kq_sg km_S_isMissing 0 := ⟨⟨by decide, by decide, by decide +kernel⟩, by decide⟩
theorem kg_S_lowestBits : kq_sg km_S_lowestBits 1 := ⟨⟨by decide, by decide, by decide +kernel⟩, by decide⟩
theorem kg_K_copy : kq_sg km_K_copy 5 := ⟨⟨by decide, by decide, by decide +kernel⟩, by decide⟩
theorem kg_S_hasStretch : kq_sg km_S_hasStretch 2 := ⟨⟨by decide, by decide, by decide +kernel⟩, by decide⟩
theorem kg_K_lays : kq_sg km_K_lays 1 := ⟨⟨by decide, by decide, by decide +kernel⟩, by decide⟩
theorem kg_K_book : kq_sg km_K_book 1 := ⟨⟨by decide, by decide, by decide +kernel⟩, by decide⟩
theorem kg_K_read : kq_sg km_K_read 2 := ⟨⟨by decide, by decide, by decide +kernel⟩, by decide⟩
theorem kg_H_goesBy : kq_sg km_H_goesBy 1 := ⟨⟨by decide, by decide, by decide +kernel⟩, by decide⟩
theorem kg_K_image : kq_sg km_K_image 0 := ⟨⟨by decide, by decide, by decide +kernel⟩, by decide⟩
theorem kg_K_undo : kq_sg km_K_undo 0 := ⟨⟨by decide, by decide, by decide +kernel⟩, by decide⟩
theorem kg_K_tear : kq_sg km_K_tear 0 := ⟨⟨by decide, by decide, by decide +kernel⟩, by decide⟩
theorem kg_K_count : kq_sg km_K_count 1 := ⟨⟨by decide, by decide, by decide +kernel⟩, by decide⟩
theorem kg_H_allLies : kq_sg km_H_allLies 0 := ⟨⟨by decide, by decide, by decide +kernel⟩, by decide⟩
theorem kg_jI_bitCount : kq_sg km_jI_bitCount 1 := ⟨⟨by decide, by decide, by decide +kernel⟩, by decide⟩
theorem kg_H_allSure : kq_sg km_H_allSure 0 := ⟨⟨by decide, by decide, by decide +kernel⟩, by decide⟩
theorem kg_K_status : kq_sg km_K_status 1 := ⟨⟨by decide, by decide, by decide +kernel⟩, by decide⟩
theorem kg_M_truth : kq_sg km_M_truth 1 := ⟨⟨by decide, by decide, by decide +kernel⟩, by decide⟩
theorem kg_M_in : kq_sg km_M_in 3 := ⟨⟨by decide, by decide, by decide +kernel⟩, by decide⟩
theorem kg_M_becomes : kq_sg km_M_becomes 2 := ⟨⟨by decide, by decide, by decide +kernel⟩, by decide⟩
theorem kg_M_finds : kq_sg km_M_finds 1 := ⟨⟨by decide, by decide, by decide +kernel⟩, by decide⟩
theorem kg_M_kettle : kq_sg km_M_kettle 2 := ⟨⟨by decide, by decide, by decide +kernel⟩, by decide⟩
theorem kg_M_witness : kq_sg km_M_witness 1 := ⟨⟨by decide, by decide, by decide +kernel⟩, by decide⟩
theorem kg_M_isKind : kq_sg km_M_isKind 1 := ⟨⟨by decide, by decide, by decide +kernel⟩, by decide⟩
theorem kg_M_adds : kq_sg km_M_adds 4 := ⟨⟨by decide, by decide, by decide +kernel⟩, by decide⟩
theorem kg_M_puts : kq_sg km_M_puts 3 := ⟨⟨by decide, by decide, by decide +kernel⟩, by decide⟩
theorem kg_M_of : kq_sg km_M_of 2 := ⟨⟨by decide, by decide, by decide +kernel⟩, by decide⟩
theorem kg_M_isOne : kq_sg km_M_isOne 1 := ⟨⟨by decide, by decide, by decide +kernel⟩, by decide⟩
theorem kg_M_lies : kq_sg km_M_lies 1 := ⟨⟨by decide, by decide, by decide +kernel⟩, by decide⟩
theorem kg_M_its : kq_sg km_M_its 2 := ⟨⟨by decide, by decide, by decide +kernel⟩, by decide⟩
theorem kg_M_right : kq_sg km_M_right 1 := ⟨⟨by decide, by decide, by decide +kernel⟩, by decide⟩
theorem kg_M_lucky : kq_sg km_M_lucky 1 := ⟨⟨by decide, by decide, by decide +kernel⟩, by decide⟩
theorem kg_M_wrong : kq_sg km_M_wrong 1 := ⟨⟨by decide, by decide, by decide +kernel⟩, by decide⟩
theorem kg_M_doubting : kq_sg km_M_doubting 1 := ⟨⟨by decide, by decide, by decide +kernel⟩, by decide⟩
theorem kg_M_set : kq_sg km_M_set 3 := ⟨⟨by decide, by decide, by decide +kernel⟩, by decide⟩
theorem kg_M_turn : kq_sg km_M_turn 2 := ⟨⟨by decide, by decide, by decide +kernel⟩, by decide⟩
theorem kg_M_as : kq_sg km_M_as 2 := ⟨⟨by decide, by decide, by decide +kernel⟩, by decide⟩
theorem kg_M_heats : kq_sg km_M_heats 2 := ⟨⟨by decide, by decide, by decide +kernel⟩, by decide⟩
theorem kg_M_isFact : kq_sg km_M_isFact 1 := ⟨⟨by decide, by decide, by decide +kernel⟩, by decide⟩
theorem kg_M_heating : kq_sg km_M_heating 2 := ⟨⟨by decide, by decide, by decide +kernel⟩, by decide⟩
theorem kg_M_besideLiar : kq_sg km_M_besideLiar 2 := ⟨⟨by decide, by decide, by decide +kernel⟩, by decide⟩
theorem kg_M_isPlumber : kq_sg km_M_isPlumber 1 := ⟨⟨by decide, by decide, by decide +kernel⟩, by decide⟩
theorem kg_M_ask : kq_sg km_M_ask 2 := ⟨⟨by decide, by decide, by decide +kernel⟩, by decide⟩
theorem kg_M_answers : kq_sg km_M_answers 2 := ⟨⟨by decide, by decide, by decide +kernel⟩, by decide⟩
theorem kg_M_held : kq_sg km_M_held 3 := ⟨⟨by decide, by decide, by decide +kernel⟩, by decide⟩
theorem kg_M_swap : kq_sg km_M_swap 2 := ⟨⟨by decide, by decide, by decide +kernel⟩, by decide⟩
theorem kg_M_swaps : kq_sg km_M_swaps 2 := ⟨⟨by decide, by decide, by decide +kernel⟩, by decide⟩
theorem kg_M_minutes : kq_sg km_M_minutes 1 := ⟨⟨by decide, by decide, by decide +kernel⟩, by decide⟩
theorem kg_M_passes : kq_sg km_M_passes 1 := ⟨⟨by decide, by decide, by decide +kernel⟩, by decide⟩
theorem kg_M_oneMinute : kq_sg km_M_oneMinute 0 := ⟨⟨by decide, by decide, by decide +kernel⟩, by decide⟩
theorem kg_M_whose : kq_sg km_M_whose 0 := ⟨⟨by decide, by decide, by decide +kernel⟩, by decide⟩
theorem kg_M_asked : kq_sg km_M_asked 0 := ⟨⟨by decide, by decide, by decide +kernel⟩, by decide⟩
theorem kg_M_now : kq_sg km_M_now 1 := ⟨⟨by decide, by decide, by decide +kernel⟩, by decide⟩
theorem kg_M_on : kq_sg km_M_on 2 := ⟨⟨by decide, by decide, by decide +kernel⟩, by decide⟩
theorem kg_M_moveAll : kq_sg km_M_moveAll 2 := ⟨⟨by decide, by decide, by decide +kernel⟩, by decide⟩
theorem kg_M_then : kq_sg km_M_then 3 := ⟨⟨by decide, by decide, by decide +kernel⟩, by decide⟩
theorem kg_M_boils : kq_sg km_M_boils 0 := ⟨⟨by decide, by decide, by decide +kernel⟩, by decide⟩
theorem kg_M_doubts : kq_sg km_M_doubts 1 := ⟨⟨by decide, by decide, by decide +kernel⟩, by decide⟩
theorem kg_M_worst : kq_sg km_M_worst 1 := ⟨⟨by decide, by decide, by decide +kernel⟩, by decide⟩
theorem kg_M_turns : kq_sg km_M_turns 1 := ⟨⟨by decide, by decide, by decide +kernel⟩, by decide⟩
theorem kg_M_teaBehind : kq_sg km_M_teaBehind 1 := ⟨⟨by decide, by decide, by decide +kernel⟩, by decide⟩
theorem kg_M_sure : kq_sg km_M_sure 2 := ⟨⟨by decide, by decide, by decide +kernel⟩, by decide⟩
theorem kg_M_water : kq_sg km_M_water 2 := ⟨⟨by decide, by decide, by decide +kernel⟩, by decide⟩
theorem kg_M_kind : kq_sg km_M_kind 2 := ⟨⟨by decide, by decide, by decide +kernel⟩, by decide⟩
theorem kg_M_says : kq_sg km_M_says 2 := ⟨⟨by decide, by decide, by decide +kernel⟩, by decide⟩
theorem kg_M_fact : kq_sg km_M_fact 1 := ⟨⟨by decide, by decide, by decide +kernel⟩, by decide⟩
theorem kg_M_feed : kq_sg km_M_feed 2 := ⟨⟨by decide, by decide, by decide +kernel⟩, by decide⟩
theorem kg_M_wipe : kq_sg km_M_wipe 0 := ⟨⟨by decide, by decide, by decide +kernel⟩, by decide⟩
theorem kg_M_inquest : kq_sg km_M_inquest 0 := ⟨⟨by decide, by decide, by decide +kernel⟩, by decide⟩
theorem kg_M_advance : kq_sg km_M_advance 0 := ⟨⟨by decide, by decide, by decide +kernel⟩, by decide⟩
theorem kg_M_byteAt : kq_sg km_M_byteAt 1 := ⟨⟨by decide, by decide, by decide +kernel⟩, by decide⟩
theorem kg_M_isLetter : kq_sg km_M_isLetter 1 := ⟨⟨by decide, by decide, by decide +kernel⟩, by decide⟩
theorem kg_M_isDigit : kq_sg km_M_isDigit 1 := ⟨⟨by decide, by decide, by decide +kernel⟩, by decide⟩
theorem kg_M_wantItem : kq_sg km_M_wantItem 0 := ⟨⟨by decide, by decide, by decide +kernel⟩, by decide⟩
theorem kg_M_kindHere : kq_sg km_M_kindHere 0 := ⟨⟨by decide, by decide, by decide +kernel⟩, by decide⟩
theorem kg_M_isWord : kq_sg km_M_isWord 1 := ⟨⟨by decide, by decide, by decide +kernel⟩, by decide⟩
theorem kg_M_wantOne : kq_sg km_M_wantOne 1 := ⟨⟨by decide, by decide, by decide +kernel⟩, by decide⟩
theorem kg_M_mayWant : kq_sg km_M_mayWant 4 := ⟨⟨by decide, by decide, by decide +kernel⟩, by decide⟩
theorem kg_M_wantNumber : kq_sg km_M_wantNumber 2 := ⟨⟨by decide, by decide, by decide +kernel⟩, by decide⟩
theorem kg_M_mayFacts : kq_sg km_M_mayFacts 1 := ⟨⟨by decide, by decide, by decide +kernel⟩, by decide⟩
theorem kg_M_wantTruth : kq_sg km_M_wantTruth 1 := ⟨⟨by decide, by decide, by decide +kernel⟩, by decide⟩
theorem kg_M_sheet : kq_sg km_M_sheet 3 := ⟨⟨by decide, by decide, by decide +kernel⟩, by decide⟩
theorem kg_M_isSheet : kq_sg km_M_isSheet 1 := ⟨⟨by decide, by decide, by decide +kernel⟩, by decide⟩
theorem kg_M_write : kq_sg km_M_write 3 := ⟨⟨by decide, by decide, by decide +kernel⟩, by decide⟩
theorem kg_M_narrow : kq_sg km_M_narrow 2 := ⟨⟨by decide, by decide, by decide +kernel⟩, by decide⟩
theorem kg_M_copy : kq_sg km_M_copy 5 := ⟨⟨by decide, by decide, by decide +kernel⟩, by decide⟩
theorem kg_M_isPart : kq_sg km_M_isPart 3 := ⟨⟨by decide, by decide, by decide +kernel⟩, by decide⟩
theorem kg_M_lays : kq_sg km_M_lays 1 := ⟨⟨by decide, by decide, by decide +kernel⟩, by decide⟩
theorem kg_M_badSheet : kq_sg km_M_badSheet 1 := ⟨⟨by decide, by decide, by decide +kernel⟩, by decide⟩
theorem kg_M_book : kq_sg km_M_book 1 := ⟨⟨by decide, by decide, by decide +kernel⟩, by decide⟩
theorem kg_M_read : kq_sg km_M_read 2 := ⟨⟨by decide, by decide, by decide +kernel⟩, by decide⟩
theorem kg_M_isSo : kq_sg km_M_isSo 1 := ⟨⟨by decide, by decide, by decide +kernel⟩, by decide⟩
theorem kg_M_image : kq_sg km_M_image 0 := ⟨⟨by decide, by decide, by decide +kernel⟩, by decide⟩
theorem kg_M_undo : kq_sg km_M_undo 0 := ⟨⟨by decide, by decide, by decide +kernel⟩, by decide⟩
theorem kg_M_tear : kq_sg km_M_tear 0 := ⟨⟨by decide, by decide, by decide +kernel⟩, by decide⟩
theorem kg_M_count : kq_sg km_M_count 1 := ⟨⟨by decide, by decide, by decide +kernel⟩, by decide⟩
theorem kg_M_liesOfAll : kq_sg km_M_liesOfAll 0 := ⟨⟨by decide, by decide, by decide +kernel⟩, by decide⟩
theorem kg_M_bits : kq_sg km_M_bits 1 := ⟨⟨by decide, by decide, by decide +kernel⟩, by decide⟩
theorem kg_M_sureOfAll : kq_sg km_M_sureOfAll 0 := ⟨⟨by decide, by decide, by decide +kernel⟩, by decide⟩
theorem kg_M_status : kq_sg km_M_status 1 := ⟨⟨by decide, by decide, by decide +kernel⟩, by decide⟩
def kq_nj (o : Option kq_V) : Bool := match o with
  | some (.inr (.inl _)) => false
  | _ => true
theorem kq_nl_of {ls : List (Option kq_V)} {j : Nat} {o : Option kq_V} (h : ls[j]? = some o) (hn : kq_nj o = true) : kq_nl ls (j + 1) = true := by
  unfold kq_nl
  simp only [h]
  unfold kq_nj at hn
  split at hn
  · cases hn
  · next h2 =>
    rcases o with _ | x | x | q
    · rfl
    · rfl
    · exact absurd rfl (h2 x)
    · rfl
theorem kq_b01 {v : Int32} (h : v = 0 ∨ v = 1) : narrow .boolean (.int v) = .int v ∧ fits .boolean (.int v) = true := by
  rcases h with rfl | rfl <;> decide
def km_law : kq_D := (x, code, maxLocals, ret)
end
section
/-! a row for each instruction, by program -/
theorem ks_jM_min_0 {d : Nat} {st : List kq_V} {μ : kq_M} {Q : Option kq_V → kq_M → Prop} {x1 : Option kq_V} {v : Int32} (k : kq_S km_jM_min d 1 [some (kq_I v), x1] (kq_I v :: st) μ Q) : kq_S km_jM_min d 0 [some (kq_I v), x1] (st) μ Q := kq_iload_n 0 (show decode km_jM_min.2.1 0 = .ok (.iload_n 0, 1) by decide +kernel) rfl rfl k
theorem ks_jM_min_1 {d : Nat} {st : List kq_V} {μ : kq_M} {Q : Option kq_V → kq_M → Prop} {x0 : Option kq_V} {v : Int32} (k : kq_S km_jM_min d 2 [x0, some (kq_I v)] (kq_I v :: st) μ Q) : kq_S km_jM_min d 1 [x0, some (kq_I v)] (st) μ Q := kq_iload_n 1 (show decode km_jM_min.2.1 1 = .ok (.iload_n 1, 1) by decide +kernel) rfl rfl k
theorem ks_jM_min_2 {d : Nat} {st : List kq_V} {μ : kq_M} {Q : Option kq_V → kq_M → Prop} {x0 x1 : Option kq_V} {x y : Int32} (kt : y < x → kq_S km_jM_min d 9 [x0, x1] st μ Q) (kf : ¬ y < x → kq_S km_jM_min d 5 [x0, x1] st μ Q) : kq_S km_jM_min d 2 [x0, x1] (kq_I y :: kq_I x :: st) μ Q := kq_icmp_gt 9 (show decode km_jM_min.2.1 2 = .ok (.if_icmp .gt 7, 3) by decide +kernel) (by decide) kt kf
theorem ks_jM_min_5 {d : Nat} {st : List kq_V} {μ : kq_M} {Q : Option kq_V → kq_M → Prop} {x1 : Option kq_V} {v : Int32} (k : kq_S km_jM_min d 6 [some (kq_I v), x1] (kq_I v :: st) μ Q) : kq_S km_jM_min d 5 [some (kq_I v), x1] (st) μ Q := kq_iload_n 0 (show decode km_jM_min.2.1 5 = .ok (.iload_n 0, 1) by decide +kernel) rfl rfl k
theorem ks_jM_min_6 {d : Nat} {st : List kq_V} {μ : kq_M} {Q : Option kq_V → kq_M → Prop} {x0 x1 : Option kq_V} (k : kq_S km_jM_min d 10 [x0, x1] (st) μ Q) : kq_S km_jM_min d 6 [x0, x1] (st) μ Q := kq_goto 10 (show decode km_jM_min.2.1 6 = .ok (.goto 4, 3) by decide +kernel) (by decide) k
theorem ks_jM_min_9 {d : Nat} {st : List kq_V} {μ : kq_M} {Q : Option kq_V → kq_M → Prop} {x0 : Option kq_V} {v : Int32} (k : kq_S km_jM_min d 10 [x0, some (kq_I v)] (kq_I v :: st) μ Q) : kq_S km_jM_min d 9 [x0, some (kq_I v)] (st) μ Q := kq_iload_n 1 (show decode km_jM_min.2.1 9 = .ok (.iload_n 1, 1) by decide +kernel) rfl rfl k
theorem ks_jM_min_10 {d : Nat} {μ : kq_M} {Q : Option kq_V → kq_M → Prop} {x0 x1 : Option kq_V} {v : Int32} (k : Q (some (kq_I v)) μ) : kq_S km_jM_min d 10 [x0, x1] [kq_I v] μ Q := kq_iret (show decode km_jM_min.2.1 10 = .ok (.ireturn, 1) by decide +kernel) rfl k
theorem ks_jM_max_0 {d : Nat} {st : List kq_V} {μ : kq_M} {Q : Option kq_V → kq_M → Prop} {x1 : Option kq_V} {v : Int32} (k : kq_S km_jM_max d 1 [some (kq_I v), x1] (kq_I v :: st) μ Q) : kq_S km_jM_max d 0 [some (kq_I v), x1] (st) μ Q := kq_iload_n 0 (show decode km_jM_max.2.1 0 = .ok (.iload_n 0, 1) by decide +kernel) rfl rfl k
theorem ks_jM_max_1 {d : Nat} {st : List kq_V} {μ : kq_M} {Q : Option kq_V → kq_M → Prop} {x0 : Option kq_V} {v : Int32} (k : kq_S km_jM_max d 2 [x0, some (kq_I v)] (kq_I v :: st) μ Q) : kq_S km_jM_max d 1 [x0, some (kq_I v)] (st) μ Q := kq_iload_n 1 (show decode km_jM_max.2.1 1 = .ok (.iload_n 1, 1) by decide +kernel) rfl rfl k
theorem ks_jM_max_2 {d : Nat} {st : List kq_V} {μ : kq_M} {Q : Option kq_V → kq_M → Prop} {x0 x1 : Option kq_V} {x y : Int32} (kt : x < y → kq_S km_jM_max d 9 [x0, x1] st μ Q) (kf : ¬ x < y → kq_S km_jM_max d 5 [x0, x1] st μ Q) : kq_S km_jM_max d 2 [x0, x1] (kq_I y :: kq_I x :: st) μ Q := kq_icmp_lt 9 (show decode km_jM_max.2.1 2 = .ok (.if_icmp .lt 7, 3) by decide +kernel) (by decide) kt kf
theorem ks_jM_max_5 {d : Nat} {st : List kq_V} {μ : kq_M} {Q : Option kq_V → kq_M → Prop} {x1 : Option kq_V} {v : Int32} (k : kq_S km_jM_max d 6 [some (kq_I v), x1] (kq_I v :: st) μ Q) : kq_S km_jM_max d 5 [some (kq_I v), x1] (st) μ Q := kq_iload_n 0 (show decode km_jM_max.2.1 5 = .ok (.iload_n 0, 1) by decide +kernel) rfl rfl k
theorem ks_jM_max_6 {d : Nat} {st : List kq_V} {μ : kq_M} {Q : Option kq_V → kq_M → Prop} {x0 x1 : Option kq_V} (k : kq_S km_jM_max d 10 [x0, x1] (st) μ Q) : kq_S km_jM_max d 6 [x0, x1] (st) μ Q := kq_goto 10 (show decode km_jM_max.2.1 6 = .ok (.goto 4, 3) by decide +kernel) (by decide) k
theorem ks_jM_max_9 {d : Nat} {st : List kq_V} {μ : kq_M} {Q : Option kq_V → kq_M → Prop} {x0 : Option kq_V} {v : Int32} (k : kq_S km_jM_max d 10 [x0, some (kq_I v)] (kq_I v :: st) μ Q) : kq_S km_jM_max d 9 [x0, some (kq_I v)] (st) μ Q := kq_iload_n 1 (show decode km_jM_max.2.1 9 = .ok (.iload_n 1, 1) by decide +kernel) rfl rfl k
theorem ks_jM_max_10 {d : Nat} {μ : kq_M} {Q : Option kq_V → kq_M → Prop} {x0 x1 : Option kq_V} {v : Int32} (k : Q (some (kq_I v)) μ) : kq_S km_jM_max d 10 [x0, x1] [kq_I v] μ Q := kq_iret (show decode km_jM_max.2.1 10 = .ok (.ireturn, 1) by decide +kernel) rfl k
theorem ks_jS_length_0 {d : Nat} {st : List kq_V} {μ : kq_M} {Q : Option kq_V → kq_M → Prop} {r : Nat} (k : kq_S km_jS_length d 1 [some (kq_R r 43)] (kq_R r 43 :: st) μ Q) : kq_S km_jS_length d 0 [some (kq_R r 43)] (st) μ Q := kq_aload_n 0 (show decode km_jS_length.2.1 0 = .ok (.aload_n 0, 1) by decide +kernel) rfl rfl (by decide) k
theorem ks_jS_length_1 {d : Nat} {st : List kq_V} {μ : kq_M} {Q : Option kq_V → kq_M → Prop} {x0 : Option kq_V} {r : Nat} (hr : r < 12) (k : kq_S km_jS_length d 4 [x0] (kq_R r 44 :: st) μ Q) : kq_S km_jS_length d 1 [x0] (kq_R r 43 :: st) μ Q := kq_txV (show decode km_jS_length.2.1 1 = .ok (.getfield 9, 3) by decide +kernel) kx_1053 hr k
theorem ks_jS_length_4 {d : Nat} {st : List kq_V} {μ : kq_M} {Q : Option kq_V → kq_M → Prop} {x0 : Option kq_V} {r : Nat} (hr : r < 12) (k : kq_S km_jS_length d 5 [x0] (kq_I (nI (kq_sl.getD r 0)) :: st) μ Q) : kq_S km_jS_length d 4 [x0] (kq_R r 44 :: st) μ Q := kq_txL (show decode km_jS_length.2.1 4 = .ok (.arraylength, 1) by decide +kernel) hr k
theorem ks_jS_length_5 {d : Nat} {st : List kq_V} {μ : kq_M} {Q : Option kq_V → kq_M → Prop} {r : Nat} (k : kq_S km_jS_length d 6 [some (kq_R r 43)] (kq_R r 43 :: st) μ Q) : kq_S km_jS_length d 5 [some (kq_R r 43)] (st) μ Q := kq_aload_n 0 (show decode km_jS_length.2.1 5 = .ok (.aload_n 0, 1) by decide +kernel) rfl rfl (by decide) k
theorem ks_jS_length_6 {d : Nat} {st : List kq_V} {μ : kq_M} {Q : Option kq_V → kq_M → Prop} {x0 : Option kq_V} {r : Nat} (hr : r < 12) (hst : (st.map kq_cat).sum ≤ 8) (k : kq_Call d km_jS_coder [kq_R r 43] μ (kq_K km_jS_length (d + 1) 9 [x0] st Q)) : kq_S km_jS_length (d + 1) 6 [x0] (kq_R r 43 :: st) μ Q := kq_callV (M' := km_jS_coder) [] (show decode km_jS_length.2.1 6 = .ok (.invokevirtual 335, 3) by decide +kernel) kx_481 kw_jS_coder kg_jS_coder (kq_rc_txt hr) hst k
theorem ks_jS_length_9 {d : Nat} {st : List kq_V} {μ : kq_M} {Q : Option kq_V → kq_M → Prop} {x0 : Option kq_V} {x y : Int32} (k : kq_S km_jS_length d 10 [x0] (kq_I (x >>> (y &&& 31)) :: st) μ Q) : kq_S km_jS_length d 9 [x0] (kq_I y :: kq_I x :: st) μ Q := kq_ishr (show decode km_jS_length.2.1 9 = .ok (.ishr, 1) by decide +kernel) k
theorem ks_jS_length_10 {d : Nat} {μ : kq_M} {Q : Option kq_V → kq_M → Prop} {x0 : Option kq_V} {v : Int32} (k : Q (some (kq_I v)) μ) : kq_S km_jS_length d 10 [x0] [kq_I v] μ Q := kq_iret (show decode km_jS_length.2.1 10 = .ok (.ireturn, 1) by decide +kernel) rfl k
theorem ks_jS_coder_0 {d : Nat} {st : List kq_V} {μ : kq_M} {Q : Option kq_V → kq_M → Prop} {x0 : Option kq_V} (k : kq_S km_jS_coder d 3 [x0] (kq_I 1 :: st) μ Q) : kq_S km_jS_coder d 0 [x0] (st) μ Q := kq_gsC (show decode km_jS_coder.2.1 0 = .ok (.getstatic 38, 3) by decide +kernel) kx_485 k
theorem ks_jS_coder_3 {d : Nat} {st : List kq_V} {μ : kq_M} {Q : Option kq_V → kq_M → Prop} {x0 : Option kq_V} {x : Int32} (kt : x = 0 → kq_S km_jS_coder d 13 [x0] st μ Q) (kf : ¬ x = 0 → kq_S km_jS_coder d 6 [x0] st μ Q) : kq_S km_jS_coder d 3 [x0] (kq_I x :: st) μ Q := kq_if_eq 13 (show decode km_jS_coder.2.1 3 = .ok (.ifCond .eq 10, 3) by decide +kernel) (by decide) kt kf
theorem ks_jS_coder_6 {d : Nat} {st : List kq_V} {μ : kq_M} {Q : Option kq_V → kq_M → Prop} {r : Nat} (k : kq_S km_jS_coder d 7 [some (kq_R r 43)] (kq_R r 43 :: st) μ Q) : kq_S km_jS_coder d 6 [some (kq_R r 43)] (st) μ Q := kq_aload_n 0 (show decode km_jS_coder.2.1 6 = .ok (.aload_n 0, 1) by decide +kernel) rfl rfl (by decide) k
theorem ks_jS_coder_7 {d : Nat} {st : List kq_V} {μ : kq_M} {Q : Option kq_V → kq_M → Prop} {x0 : Option kq_V} {r : Nat} (hr : r < 12) (k : kq_S km_jS_coder d 10 [x0] (kq_I 0 :: st) μ Q) : kq_S km_jS_coder d 7 [x0] (kq_R r 43 :: st) μ Q := kq_txC (show decode km_jS_coder.2.1 7 = .ok (.getfield 15, 3) by decide +kernel) kx_1054 hr k
theorem ks_jS_coder_10 {d : Nat} {st : List kq_V} {μ : kq_M} {Q : Option kq_V → kq_M → Prop} {x0 : Option kq_V} (k : kq_S km_jS_coder d 14 [x0] (st) μ Q) : kq_S km_jS_coder d 10 [x0] (st) μ Q := kq_goto 14 (show decode km_jS_coder.2.1 10 = .ok (.goto 4, 3) by decide +kernel) (by decide) k
theorem ks_jS_coder_13 {d : Nat} {st : List kq_V} {μ : kq_M} {Q : Option kq_V → kq_M → Prop} {x0 : Option kq_V} (k : kq_S km_jS_coder d 14 [x0] (kq_I 1 :: st) μ Q) : kq_S km_jS_coder d 13 [x0] (st) μ Q := kq_iconst (v := 1) (show decode km_jS_coder.2.1 13 = .ok (.iconst 1, 1) by decide +kernel) (by decide) k
theorem ks_jS_coder_14 {d : Nat} {μ : kq_M} {Q : Option kq_V → kq_M → Prop} {x0 : Option kq_V} {v : Int32} (hn : narrow .byte (.int v) = .int v) (k : Q (some (kq_I v)) μ) : kq_S km_jS_coder d 14 [x0] [kq_I v] μ Q := kq_zret (ty := .byte) (show decode km_jS_coder.2.1 14 = .ok (.ireturn, 1) by decide +kernel) rfl hn k
theorem ks_jS_charAt_0 {d : Nat} {st : List kq_V} {μ : kq_M} {Q : Option kq_V → kq_M → Prop} {x1 : Option kq_V} {r : Nat} (k : kq_S km_jS_charAt d 1 [some (kq_R r 43), x1] (kq_R r 43 :: st) μ Q) : kq_S km_jS_charAt d 0 [some (kq_R r 43), x1] (st) μ Q := kq_aload_n 0 (show decode km_jS_charAt.2.1 0 = .ok (.aload_n 0, 1) by decide +kernel) rfl rfl (by decide) k
theorem ks_jS_charAt_1 {d : Nat} {st : List kq_V} {μ : kq_M} {Q : Option kq_V → kq_M → Prop} {x0 x1 : Option kq_V} {r : Nat} (hr : r < 12) (hst : (st.map kq_cat).sum ≤ 8) (k : kq_Call d km_jS_isLatin1 [kq_R r 43] μ (kq_K km_jS_charAt (d + 1) 4 [x0, x1] st Q)) : kq_S km_jS_charAt (d + 1) 1 [x0, x1] (kq_R r 43 :: st) μ Q := kq_callV (M' := km_jS_isLatin1) [] (show decode km_jS_charAt.2.1 1 = .ok (.invokevirtual 492, 3) by decide +kernel) kx_491 kw_jS_isLatin1 kg_jS_isLatin1 (kq_rc_txt hr) hst k
theorem ks_jS_charAt_4 {d : Nat} {st : List kq_V} {μ : kq_M} {Q : Option kq_V → kq_M → Prop} {x0 x1 : Option kq_V} {x : Int32} (kt : x = 0 → kq_S km_jS_charAt d 16 [x0, x1] st μ Q) (kf : ¬ x = 0 → kq_S km_jS_charAt d 7 [x0, x1] st μ Q) : kq_S km_jS_charAt d 4 [x0, x1] (kq_I x :: st) μ Q := kq_if_eq 16 (show decode km_jS_charAt.2.1 4 = .ok (.ifCond .eq 12, 3) by decide +kernel) (by decide) kt kf
theorem ks_jS_charAt_7 {d : Nat} {st : List kq_V} {μ : kq_M} {Q : Option kq_V → kq_M → Prop} {x1 : Option kq_V} {r : Nat} (k : kq_S km_jS_charAt d 8 [some (kq_R r 43), x1] (kq_R r 43 :: st) μ Q) : kq_S km_jS_charAt d 7 [some (kq_R r 43), x1] (st) μ Q := kq_aload_n 0 (show decode km_jS_charAt.2.1 7 = .ok (.aload_n 0, 1) by decide +kernel) rfl rfl (by decide) k
theorem ks_jS_charAt_8 {d : Nat} {st : List kq_V} {μ : kq_M} {Q : Option kq_V → kq_M → Prop} {x0 x1 : Option kq_V} {r : Nat} (hr : r < 12) (k : kq_S km_jS_charAt d 11 [x0, x1] (kq_R r 44 :: st) μ Q) : kq_S km_jS_charAt d 8 [x0, x1] (kq_R r 43 :: st) μ Q := kq_txV (show decode km_jS_charAt.2.1 8 = .ok (.getfield 9, 3) by decide +kernel) kx_1053 hr k
theorem ks_jS_charAt_11 {d : Nat} {st : List kq_V} {μ : kq_M} {Q : Option kq_V → kq_M → Prop} {x0 : Option kq_V} {v : Int32} (k : kq_S km_jS_charAt d 12 [x0, some (kq_I v)] (kq_I v :: st) μ Q) : kq_S km_jS_charAt d 11 [x0, some (kq_I v)] (st) μ Q := kq_iload_n 1 (show decode km_jS_charAt.2.1 11 = .ok (.iload_n 1, 1) by decide +kernel) rfl rfl k
theorem ks_jS_charAt_12 {d : Nat} {st : List kq_V} {μ : kq_M} {Q : Option kq_V → kq_M → Prop} {x0 x1 : Option kq_V} {a1 a2 : kq_V} (hst : (st.map kq_cat).sum ≤ 8) (k : kq_Call d km_jL_charAt [a1, a2] μ (kq_K km_jS_charAt (d + 1) 15 [x0, x1] st Q)) : kq_S km_jS_charAt (d + 1) 12 [x0, x1] (a2 :: a1 :: st) μ Q := kq_callS (M' := km_jL_charAt) [a1, a2] (show decode km_jS_charAt.2.1 12 = .ok (.invokestatic 495, 3) by decide +kernel) kx_495 kw_jL_charAt kg_jL_charAt hst k
theorem ks_jS_charAt_15 {d : Nat} {μ : kq_M} {Q : Option kq_V → kq_M → Prop} {x0 x1 : Option kq_V} {v : Int32} (hn : narrow .char (.int v) = .int v) (k : Q (some (kq_I v)) μ) : kq_S km_jS_charAt d 15 [x0, x1] [kq_I v] μ Q := kq_zret (ty := .char) (show decode km_jS_charAt.2.1 15 = .ok (.ireturn, 1) by decide +kernel) rfl hn k
theorem ks_jS_charAt_16 {d : Nat} {st : List kq_V} {μ : kq_M} {Q : Option kq_V → kq_M → Prop} {x1 : Option kq_V} {r : Nat} (k : kq_S km_jS_charAt d 17 [some (kq_R r 43), x1] (kq_R r 43 :: st) μ Q) : kq_S km_jS_charAt d 16 [some (kq_R r 43), x1] (st) μ Q := kq_aload_n 0 (show decode km_jS_charAt.2.1 16 = .ok (.aload_n 0, 1) by decide +kernel) rfl rfl (by decide) k
theorem ks_jS_charAt_17 {d : Nat} {st : List kq_V} {μ : kq_M} {Q : Option kq_V → kq_M → Prop} {x0 x1 : Option kq_V} {r : Nat} (hr : r < 12) (k : kq_S km_jS_charAt d 20 [x0, x1] (kq_R r 44 :: st) μ Q) : kq_S km_jS_charAt d 17 [x0, x1] (kq_R r 43 :: st) μ Q := kq_txV (show decode km_jS_charAt.2.1 17 = .ok (.getfield 9, 3) by decide +kernel) kx_1053 hr k
theorem ks_jS_charAt_20 {d : Nat} {st : List kq_V} {μ : kq_M} {Q : Option kq_V → kq_M → Prop} {x0 : Option kq_V} {v : Int32} (k : kq_S km_jS_charAt d 21 [x0, some (kq_I v)] (kq_I v :: st) μ Q) : kq_S km_jS_charAt d 20 [x0, some (kq_I v)] (st) μ Q := kq_iload_n 1 (show decode km_jS_charAt.2.1 20 = .ok (.iload_n 1, 1) by decide +kernel) rfl rfl k
theorem ks_jS_charAt_24 {d : Nat} {μ : kq_M} {Q : Option kq_V → kq_M → Prop} {x0 x1 : Option kq_V} {v : Int32} (hn : narrow .char (.int v) = .int v) (k : Q (some (kq_I v)) μ) : kq_S km_jS_charAt d 24 [x0, x1] [kq_I v] μ Q := kq_zret (ty := .char) (show decode km_jS_charAt.2.1 24 = .ok (.ireturn, 1) by decide +kernel) rfl hn k
theorem ks_jS_isLatin1_0 {d : Nat} {st : List kq_V} {μ : kq_M} {Q : Option kq_V → kq_M → Prop} {x0 : Option kq_V} (k : kq_S km_jS_isLatin1 d 3 [x0] (kq_I 1 :: st) μ Q) : kq_S km_jS_isLatin1 d 0 [x0] (st) μ Q := kq_gsC (show decode km_jS_isLatin1.2.1 0 = .ok (.getstatic 38, 3) by decide +kernel) kx_485 k
theorem ks_jS_isLatin1_3 {d : Nat} {st : List kq_V} {μ : kq_M} {Q : Option kq_V → kq_M → Prop} {x0 : Option kq_V} {x : Int32} (kt : x = 0 → kq_S km_jS_isLatin1 d 17 [x0] st μ Q) (kf : ¬ x = 0 → kq_S km_jS_isLatin1 d 6 [x0] st μ Q) : kq_S km_jS_isLatin1 d 3 [x0] (kq_I x :: st) μ Q := kq_if_eq 17 (show decode km_jS_isLatin1.2.1 3 = .ok (.ifCond .eq 14, 3) by decide +kernel) (by decide) kt kf
theorem ks_jS_isLatin1_6 {d : Nat} {st : List kq_V} {μ : kq_M} {Q : Option kq_V → kq_M → Prop} {r : Nat} (k : kq_S km_jS_isLatin1 d 7 [some (kq_R r 43)] (kq_R r 43 :: st) μ Q) : kq_S km_jS_isLatin1 d 6 [some (kq_R r 43)] (st) μ Q := kq_aload_n 0 (show decode km_jS_isLatin1.2.1 6 = .ok (.aload_n 0, 1) by decide +kernel) rfl rfl (by decide) k
theorem ks_jS_isLatin1_7 {d : Nat} {st : List kq_V} {μ : kq_M} {Q : Option kq_V → kq_M → Prop} {x0 : Option kq_V} {r : Nat} (hr : r < 12) (k : kq_S km_jS_isLatin1 d 10 [x0] (kq_I 0 :: st) μ Q) : kq_S km_jS_isLatin1 d 7 [x0] (kq_R r 43 :: st) μ Q := kq_txC (show decode km_jS_isLatin1.2.1 7 = .ok (.getfield 15, 3) by decide +kernel) kx_1054 hr k
theorem ks_jS_isLatin1_10 {d : Nat} {st : List kq_V} {μ : kq_M} {Q : Option kq_V → kq_M → Prop} {x0 : Option kq_V} {x : Int32} (kt : ¬ x = 0 → kq_S km_jS_isLatin1 d 17 [x0] st μ Q) (kf : x = 0 → kq_S km_jS_isLatin1 d 13 [x0] st μ Q) : kq_S km_jS_isLatin1 d 10 [x0] (kq_I x :: st) μ Q := kq_if_ne 17 (show decode km_jS_isLatin1.2.1 10 = .ok (.ifCond .ne 7, 3) by decide +kernel) (by decide) kt kf
theorem ks_jS_isLatin1_13 {d : Nat} {st : List kq_V} {μ : kq_M} {Q : Option kq_V → kq_M → Prop} {x0 : Option kq_V} (k : kq_S km_jS_isLatin1 d 14 [x0] (kq_I 1 :: st) μ Q) : kq_S km_jS_isLatin1 d 13 [x0] (st) μ Q := kq_iconst (v := 1) (show decode km_jS_isLatin1.2.1 13 = .ok (.iconst 1, 1) by decide +kernel) (by decide) k
theorem ks_jS_isLatin1_14 {d : Nat} {st : List kq_V} {μ : kq_M} {Q : Option kq_V → kq_M → Prop} {x0 : Option kq_V} (k : kq_S km_jS_isLatin1 d 18 [x0] (st) μ Q) : kq_S km_jS_isLatin1 d 14 [x0] (st) μ Q := kq_goto 18 (show decode km_jS_isLatin1.2.1 14 = .ok (.goto 4, 3) by decide +kernel) (by decide) k
theorem ks_jS_isLatin1_17 {d : Nat} {st : List kq_V} {μ : kq_M} {Q : Option kq_V → kq_M → Prop} {x0 : Option kq_V} (k : kq_S km_jS_isLatin1 d 18 [x0] (kq_I 0 :: st) μ Q) : kq_S km_jS_isLatin1 d 17 [x0] (st) μ Q := kq_iconst (v := 0) (show decode km_jS_isLatin1.2.1 17 = .ok (.iconst 0, 1) by decide +kernel) (by decide) k
theorem ks_jS_isLatin1_18 {d : Nat} {μ : kq_M} {Q : Option kq_V → kq_M → Prop} {x0 : Option kq_V} {v : Int32} (hv : v = 0 ∨ v = 1) (k : Q (some (kq_I v)) μ) : kq_S km_jS_isLatin1 d 18 [x0] [kq_I v] μ Q := kq_zret (ty := .boolean) (show decode km_jS_isLatin1.2.1 18 = .ok (.ireturn, 1) by decide +kernel) rfl (kq_b01 hv).1 k
theorem ks_jL_charAt_0 {d : Nat} {st : List kq_V} {μ : kq_M} {Q : Option kq_V → kq_M → Prop} {x0 : Option kq_V} {v : Int32} (k : kq_S km_jL_charAt d 1 [x0, some (kq_I v)] (kq_I v :: st) μ Q) : kq_S km_jL_charAt d 0 [x0, some (kq_I v)] (st) μ Q := kq_iload_n 1 (show decode km_jL_charAt.2.1 0 = .ok (.iload_n 1, 1) by decide +kernel) rfl rfl k
theorem ks_jL_charAt_1 {d : Nat} {st : List kq_V} {μ : kq_M} {Q : Option kq_V → kq_M → Prop} {x1 : Option kq_V} {r : Nat} (k : kq_S km_jL_charAt d 2 [some (kq_R r 44), x1] (kq_R r 44 :: st) μ Q) : kq_S km_jL_charAt d 1 [some (kq_R r 44), x1] (st) μ Q := kq_aload_n 0 (show decode km_jL_charAt.2.1 1 = .ok (.aload_n 0, 1) by decide +kernel) rfl rfl (by decide) k
theorem ks_jL_charAt_2 {d : Nat} {st : List kq_V} {μ : kq_M} {Q : Option kq_V → kq_M → Prop} {x0 x1 : Option kq_V} {r : Nat} (hr : r < 12) (k : kq_S km_jL_charAt d 3 [x0, x1] (kq_I (nI (kq_sl.getD r 0)) :: st) μ Q) : kq_S km_jL_charAt d 2 [x0, x1] (kq_R r 44 :: st) μ Q := kq_txL (show decode km_jL_charAt.2.1 2 = .ok (.arraylength, 1) by decide +kernel) hr k
theorem ks_jL_charAt_3 {d : Nat} {st : List kq_V} {μ : kq_M} {Q : Option kq_V → kq_M → Prop} {x0 x1 : Option kq_V} {a1 a2 : kq_V} (hst : (st.map kq_cat).sum ≤ 8) (k : kq_Call d km_jS_checkIndex [a1, a2] μ (kq_K km_jL_charAt (d + 1) 6 [x0, x1] st Q)) : kq_S km_jL_charAt (d + 1) 3 [x0, x1] (a2 :: a1 :: st) μ Q := kq_callS (M' := km_jS_checkIndex) [a1, a2] (show decode km_jL_charAt.2.1 3 = .ok (.invokestatic 9, 3) by decide +kernel) kx_498 kw_jS_checkIndex kg_jS_checkIndex hst k
theorem ks_jL_charAt_6 {d : Nat} {st : List kq_V} {μ : kq_M} {Q : Option kq_V → kq_M → Prop} {x1 : Option kq_V} {r : Nat} (k : kq_S km_jL_charAt d 7 [some (kq_R r 44), x1] (kq_R r 44 :: st) μ Q) : kq_S km_jL_charAt d 6 [some (kq_R r 44), x1] (st) μ Q := kq_aload_n 0 (show decode km_jL_charAt.2.1 6 = .ok (.aload_n 0, 1) by decide +kernel) rfl rfl (by decide) k
theorem ks_jL_charAt_7 {d : Nat} {st : List kq_V} {μ : kq_M} {Q : Option kq_V → kq_M → Prop} {x0 : Option kq_V} {v : Int32} (k : kq_S km_jL_charAt d 8 [x0, some (kq_I v)] (kq_I v :: st) μ Q) : kq_S km_jL_charAt d 7 [x0, some (kq_I v)] (st) μ Q := kq_iload_n 1 (show decode km_jL_charAt.2.1 7 = .ok (.iload_n 1, 1) by decide +kernel) rfl rfl k
theorem ks_jL_charAt_8 {d : Nat} {st : List kq_V} {μ : kq_M} {Q : Option kq_V → kq_M → Prop} {x0 x1 : Option kq_V} {x : Int32} {r : Nat} (j : Nat) (hr : r < 12) (hx : x = nI j) (hj : j < kq_sl.getD r 0) (k : kq_S km_jL_charAt d 9 [x0, x1] (kq_I ((kq_sb.getD r []).getD j 0) :: st) μ Q) : kq_S km_jL_charAt d 8 [x0, x1] (kq_I x :: kq_R r 44 :: st) μ Q := kq_txB j (show decode km_jL_charAt.2.1 8 = .ok (.baload, 1) by decide +kernel) hr hx hj k
theorem ks_jL_charAt_9 {d : Nat} {st : List kq_V} {μ : kq_M} {Q : Option kq_V → kq_M → Prop} {x0 x1 : Option kq_V} (k : kq_S km_jL_charAt d 12 [x0, x1] (kq_I 255 :: st) μ Q) : kq_S km_jL_charAt d 9 [x0, x1] (st) μ Q := kq_sipush (v := 255) (show decode km_jL_charAt.2.1 9 = .ok (.sipush 255, 3) by decide +kernel) (by decide) k
theorem ks_jL_charAt_12 {d : Nat} {st : List kq_V} {μ : kq_M} {Q : Option kq_V → kq_M → Prop} {x0 x1 : Option kq_V} {x y : Int32} (k : kq_S km_jL_charAt d 13 [x0, x1] (kq_I (x &&& y) :: st) μ Q) : kq_S km_jL_charAt d 12 [x0, x1] (kq_I y :: kq_I x :: st) μ Q := kq_iand (show decode km_jL_charAt.2.1 12 = .ok (.iand, 1) by decide +kernel) k
theorem ks_jL_charAt_13 {d : Nat} {st : List kq_V} {μ : kq_M} {Q : Option kq_V → kq_M → Prop} {x0 x1 : Option kq_V} {x : Int32} (k : kq_S km_jL_charAt d 14 [x0, x1] (kq_I (x.toUInt32 % 65536).toInt32 :: st) μ Q) : kq_S km_jL_charAt d 13 [x0, x1] (kq_I x :: st) μ Q := kq_i2c (show decode km_jL_charAt.2.1 13 = .ok (.i2c, 1) by decide +kernel) k
theorem ks_jL_charAt_14 {d : Nat} {μ : kq_M} {Q : Option kq_V → kq_M → Prop} {x0 x1 : Option kq_V} {v : Int32} (hn : narrow .char (.int v) = .int v) (k : Q (some (kq_I v)) μ) : kq_S km_jL_charAt d 14 [x0, x1] [kq_I v] μ Q := kq_zret (ty := .char) (show decode km_jL_charAt.2.1 14 = .ok (.ireturn, 1) by decide +kernel) rfl hn k
theorem ks_jS_checkIndex_0 {d : Nat} {st : List kq_V} {μ : kq_M} {Q : Option kq_V → kq_M → Prop} {x1 : Option kq_V} {v : Int32} (k : kq_S km_jS_checkIndex d 1 [some (kq_I v), x1] (kq_I v :: st) μ Q) : kq_S km_jS_checkIndex d 0 [some (kq_I v), x1] (st) μ Q := kq_iload_n 0 (show decode km_jS_checkIndex.2.1 0 = .ok (.iload_n 0, 1) by decide +kernel) rfl rfl k
theorem ks_jS_checkIndex_1 {d : Nat} {st : List kq_V} {μ : kq_M} {Q : Option kq_V → kq_M → Prop} {x0 : Option kq_V} {v : Int32} (k : kq_S km_jS_checkIndex d 2 [x0, some (kq_I v)] (kq_I v :: st) μ Q) : kq_S km_jS_checkIndex d 1 [x0, some (kq_I v)] (st) μ Q := kq_iload_n 1 (show decode km_jS_checkIndex.2.1 1 = .ok (.iload_n 1, 1) by decide +kernel) rfl rfl k
theorem ks_jS_checkIndex_2 {d : Nat} {st : List kq_V} {μ : kq_M} {Q : Option kq_V → kq_M → Prop} {x0 x1 : Option kq_V} (k : kq_S km_jS_checkIndex d 5 [x0, x1] (kq_R 0 45 :: st) μ Q) : kq_S km_jS_checkIndex d 2 [x0, x1] (st) μ Q := kq_gsF (show decode km_jS_checkIndex.2.1 2 = .ok (.getstatic 1053, 3) by decide +kernel) kx_501 k
theorem ks_jS_checkIndex_5 {d : Nat} {st : List kq_V} {μ : kq_M} {Q : Option kq_V → kq_M → Prop} {x0 x1 : Option kq_V} {a1 a2 a3 : kq_V} (hst : (st.map kq_cat).sum ≤ 8) (k : kq_Call d km_jP_checkIndex [a1, a2, a3] μ (kq_K km_jS_checkIndex (d + 1) 8 [x0, x1] st Q)) : kq_S km_jS_checkIndex (d + 1) 5 [x0, x1] (a3 :: a2 :: a1 :: st) μ Q := kq_callS (M' := km_jP_checkIndex) [a1, a2, a3] (show decode km_jS_checkIndex.2.1 5 = .ok (.invokestatic 1059, 3) by decide +kernel) kx_503 kw_jP_checkIndex kg_jP_checkIndex hst k
theorem ks_jS_checkIndex_8 {d : Nat} {st : List kq_V} {μ : kq_M} {Q : Option kq_V → kq_M → Prop} {x0 x1 : Option kq_V} {v : kq_V} (hc : kq_cat v = 1) (k : kq_S km_jS_checkIndex d 9 [x0, x1] (st) μ Q) : kq_S km_jS_checkIndex d 8 [x0, x1] (v :: st) μ Q := kq_pop (show decode km_jS_checkIndex.2.1 8 = .ok (.pop, 1) by decide +kernel) hc k
theorem ks_jS_checkIndex_9 {d : Nat} {μ : kq_M} {Q : Option kq_V → kq_M → Prop} {x0 x1 : Option kq_V} (k : Q none μ) : kq_S km_jS_checkIndex d 9 [x0, x1] [] μ Q := kq_vret (show decode km_jS_checkIndex.2.1 9 = .ok (.return_, 1) by decide +kernel) rfl k
theorem ks_jP_checkIndex_0 {d : Nat} {st : List kq_V} {μ : kq_M} {Q : Option kq_V → kq_M → Prop} {x1 x2 : Option kq_V} {v : Int32} (k : kq_S km_jP_checkIndex d 1 [some (kq_I v), x1, x2] (kq_I v :: st) μ Q) : kq_S km_jP_checkIndex d 0 [some (kq_I v), x1, x2] (st) μ Q := kq_iload_n 0 (show decode km_jP_checkIndex.2.1 0 = .ok (.iload_n 0, 1) by decide +kernel) rfl rfl k
theorem ks_jP_checkIndex_1 {d : Nat} {st : List kq_V} {μ : kq_M} {Q : Option kq_V → kq_M → Prop} {x0 x1 x2 : Option kq_V} {x : Int32} (kt : x < 0 → kq_S km_jP_checkIndex d 9 [x0, x1, x2] st μ Q) (kf : ¬ x < 0 → kq_S km_jP_checkIndex d 4 [x0, x1, x2] st μ Q) : kq_S km_jP_checkIndex d 1 [x0, x1, x2] (kq_I x :: st) μ Q := kq_if_lt 9 (show decode km_jP_checkIndex.2.1 1 = .ok (.ifCond .lt 8, 3) by decide +kernel) (by decide) kt kf
theorem ks_jP_checkIndex_4 {d : Nat} {st : List kq_V} {μ : kq_M} {Q : Option kq_V → kq_M → Prop} {x1 x2 : Option kq_V} {v : Int32} (k : kq_S km_jP_checkIndex d 5 [some (kq_I v), x1, x2] (kq_I v :: st) μ Q) : kq_S km_jP_checkIndex d 4 [some (kq_I v), x1, x2] (st) μ Q := kq_iload_n 0 (show decode km_jP_checkIndex.2.1 4 = .ok (.iload_n 0, 1) by decide +kernel) rfl rfl k
theorem ks_jP_checkIndex_5 {d : Nat} {st : List kq_V} {μ : kq_M} {Q : Option kq_V → kq_M → Prop} {x0 x2 : Option kq_V} {v : Int32} (k : kq_S km_jP_checkIndex d 6 [x0, some (kq_I v), x2] (kq_I v :: st) μ Q) : kq_S km_jP_checkIndex d 5 [x0, some (kq_I v), x2] (st) μ Q := kq_iload_n 1 (show decode km_jP_checkIndex.2.1 5 = .ok (.iload_n 1, 1) by decide +kernel) rfl rfl k
theorem ks_jP_checkIndex_6 {d : Nat} {st : List kq_V} {μ : kq_M} {Q : Option kq_V → kq_M → Prop} {x0 x1 x2 : Option kq_V} {x y : Int32} (kt : x < y → kq_S km_jP_checkIndex d 16 [x0, x1, x2] st μ Q) (kf : ¬ x < y → kq_S km_jP_checkIndex d 9 [x0, x1, x2] st μ Q) : kq_S km_jP_checkIndex d 6 [x0, x1, x2] (kq_I y :: kq_I x :: st) μ Q := kq_icmp_lt 16 (show decode km_jP_checkIndex.2.1 6 = .ok (.if_icmp .lt 10, 3) by decide +kernel) (by decide) kt kf
theorem ks_jP_checkIndex_10 {d : Nat} {st : List kq_V} {μ : kq_M} {Q : Option kq_V → kq_M → Prop} {x1 x2 : Option kq_V} {v : Int32} (k : kq_S km_jP_checkIndex d 11 [some (kq_I v), x1, x2] (kq_I v :: st) μ Q) : kq_S km_jP_checkIndex d 10 [some (kq_I v), x1, x2] (st) μ Q := kq_iload_n 0 (show decode km_jP_checkIndex.2.1 10 = .ok (.iload_n 0, 1) by decide +kernel) rfl rfl k
theorem ks_jP_checkIndex_11 {d : Nat} {st : List kq_V} {μ : kq_M} {Q : Option kq_V → kq_M → Prop} {x0 x2 : Option kq_V} {v : Int32} (k : kq_S km_jP_checkIndex d 12 [x0, some (kq_I v), x2] (kq_I v :: st) μ Q) : kq_S km_jP_checkIndex d 11 [x0, some (kq_I v), x2] (st) μ Q := kq_iload_n 1 (show decode km_jP_checkIndex.2.1 11 = .ok (.iload_n 1, 1) by decide +kernel) rfl rfl k
theorem ks_jP_checkIndex_16 {d : Nat} {st : List kq_V} {μ : kq_M} {Q : Option kq_V → kq_M → Prop} {x1 x2 : Option kq_V} {v : Int32} (k : kq_S km_jP_checkIndex d 17 [some (kq_I v), x1, x2] (kq_I v :: st) μ Q) : kq_S km_jP_checkIndex d 16 [some (kq_I v), x1, x2] (st) μ Q := kq_iload_n 0 (show decode km_jP_checkIndex.2.1 16 = .ok (.iload_n 0, 1) by decide +kernel) rfl rfl k
theorem ks_jP_checkIndex_17 {d : Nat} {μ : kq_M} {Q : Option kq_V → kq_M → Prop} {x0 x1 x2 : Option kq_V} {v : Int32} (k : Q (some (kq_I v)) μ) : kq_S km_jP_checkIndex d 17 [x0, x1, x2] [kq_I v] μ Q := kq_iret (show decode km_jP_checkIndex.2.1 17 = .ok (.ireturn, 1) by decide +kernel) rfl k
theorem ks_jI_bitCount_0 {d : Nat} {st : List kq_V} {μ : kq_M} {Q : Option kq_V → kq_M → Prop} {v : Int32} (k : kq_S km_jI_bitCount d 1 [some (kq_I v)] (kq_I v :: st) μ Q) : kq_S km_jI_bitCount d 0 [some (kq_I v)] (st) μ Q := kq_iload_n 0 (show decode km_jI_bitCount.2.1 0 = .ok (.iload_n 0, 1) by decide +kernel) rfl rfl k
theorem ks_jI_bitCount_1 {d : Nat} {st : List kq_V} {μ : kq_M} {Q : Option kq_V → kq_M → Prop} {v : Int32} (k : kq_S km_jI_bitCount d 2 [some (kq_I v)] (kq_I v :: st) μ Q) : kq_S km_jI_bitCount d 1 [some (kq_I v)] (st) μ Q := kq_iload_n 0 (show decode km_jI_bitCount.2.1 1 = .ok (.iload_n 0, 1) by decide +kernel) rfl rfl k
theorem ks_jI_bitCount_2 {d : Nat} {st : List kq_V} {μ : kq_M} {Q : Option kq_V → kq_M → Prop} {x0 : Option kq_V} (k : kq_S km_jI_bitCount d 3 [x0] (kq_I 1 :: st) μ Q) : kq_S km_jI_bitCount d 2 [x0] (st) μ Q := kq_iconst (v := 1) (show decode km_jI_bitCount.2.1 2 = .ok (.iconst 1, 1) by decide +kernel) (by decide) k
theorem ks_jI_bitCount_3 {d : Nat} {st : List kq_V} {μ : kq_M} {Q : Option kq_V → kq_M → Prop} {x0 : Option kq_V} {x y : Int32} (k : kq_S km_jI_bitCount d 4 [x0] (kq_I ((x.toUInt32 >>> (y.toUInt32 &&& Int32.toUInt32 31)).toInt32) :: st) μ Q) : kq_S km_jI_bitCount d 3 [x0] (kq_I y :: kq_I x :: st) μ Q := kq_iushr (show decode km_jI_bitCount.2.1 3 = .ok (.iushr, 1) by decide +kernel) k
theorem ks_jI_bitCount_4 {d : Nat} {st : List kq_V} {μ : kq_M} {Q : Option kq_V → kq_M → Prop} {x0 : Option kq_V} (k : kq_S km_jI_bitCount d 7 [x0] (kq_I 1431655765 :: st) μ Q) : kq_S km_jI_bitCount d 4 [x0] (st) μ Q := kq_ldcw (v := 1431655765) (show decode km_jI_bitCount.2.1 4 = .ok (.ldc_w 265, 3) by decide +kernel) kx_627 k
theorem ks_jI_bitCount_7 {d : Nat} {st : List kq_V} {μ : kq_M} {Q : Option kq_V → kq_M → Prop} {x0 : Option kq_V} {x y : Int32} (k : kq_S km_jI_bitCount d 8 [x0] (kq_I (x &&& y) :: st) μ Q) : kq_S km_jI_bitCount d 7 [x0] (kq_I y :: kq_I x :: st) μ Q := kq_iand (show decode km_jI_bitCount.2.1 7 = .ok (.iand, 1) by decide +kernel) k
theorem ks_jI_bitCount_8 {d : Nat} {st : List kq_V} {μ : kq_M} {Q : Option kq_V → kq_M → Prop} {x0 : Option kq_V} {x y : Int32} (k : kq_S km_jI_bitCount d 9 [x0] (kq_I (x - y) :: st) μ Q) : kq_S km_jI_bitCount d 8 [x0] (kq_I y :: kq_I x :: st) μ Q := kq_isub (show decode km_jI_bitCount.2.1 8 = .ok (.isub, 1) by decide +kernel) k
theorem ks_jI_bitCount_9 {d : Nat} {st : List kq_V} {μ : kq_M} {Q : Option kq_V → kq_M → Prop} {x0 : Option kq_V} {v : Int32} (k : kq_S km_jI_bitCount d 10 [some (kq_I v)] (st) μ Q) : kq_S km_jI_bitCount d 9 [x0] (kq_I v :: st) μ Q := kq_istore_n 0 (show decode km_jI_bitCount.2.1 9 = .ok (.istore_n 0, 1) by decide +kernel) rfl (by decide) rfl k
theorem ks_jI_bitCount_10 {d : Nat} {st : List kq_V} {μ : kq_M} {Q : Option kq_V → kq_M → Prop} {v : Int32} (k : kq_S km_jI_bitCount d 11 [some (kq_I v)] (kq_I v :: st) μ Q) : kq_S km_jI_bitCount d 10 [some (kq_I v)] (st) μ Q := kq_iload_n 0 (show decode km_jI_bitCount.2.1 10 = .ok (.iload_n 0, 1) by decide +kernel) rfl rfl k
theorem ks_jI_bitCount_11 {d : Nat} {st : List kq_V} {μ : kq_M} {Q : Option kq_V → kq_M → Prop} {x0 : Option kq_V} (k : kq_S km_jI_bitCount d 14 [x0] (kq_I 858993459 :: st) μ Q) : kq_S km_jI_bitCount d 11 [x0] (st) μ Q := kq_ldcw (v := 858993459) (show decode km_jI_bitCount.2.1 11 = .ok (.ldc_w 266, 3) by decide +kernel) kx_628 k
theorem ks_jI_bitCount_14 {d : Nat} {st : List kq_V} {μ : kq_M} {Q : Option kq_V → kq_M → Prop} {x0 : Option kq_V} {x y : Int32} (k : kq_S km_jI_bitCount d 15 [x0] (kq_I (x &&& y) :: st) μ Q) : kq_S km_jI_bitCount d 14 [x0] (kq_I y :: kq_I x :: st) μ Q := kq_iand (show decode km_jI_bitCount.2.1 14 = .ok (.iand, 1) by decide +kernel) k
theorem ks_jI_bitCount_15 {d : Nat} {st : List kq_V} {μ : kq_M} {Q : Option kq_V → kq_M → Prop} {v : Int32} (k : kq_S km_jI_bitCount d 16 [some (kq_I v)] (kq_I v :: st) μ Q) : kq_S km_jI_bitCount d 15 [some (kq_I v)] (st) μ Q := kq_iload_n 0 (show decode km_jI_bitCount.2.1 15 = .ok (.iload_n 0, 1) by decide +kernel) rfl rfl k
theorem ks_jI_bitCount_16 {d : Nat} {st : List kq_V} {μ : kq_M} {Q : Option kq_V → kq_M → Prop} {x0 : Option kq_V} (k : kq_S km_jI_bitCount d 17 [x0] (kq_I 2 :: st) μ Q) : kq_S km_jI_bitCount d 16 [x0] (st) μ Q := kq_iconst (v := 2) (show decode km_jI_bitCount.2.1 16 = .ok (.iconst 2, 1) by decide +kernel) (by decide) k
theorem ks_jI_bitCount_17 {d : Nat} {st : List kq_V} {μ : kq_M} {Q : Option kq_V → kq_M → Prop} {x0 : Option kq_V} {x y : Int32} (k : kq_S km_jI_bitCount d 18 [x0] (kq_I ((x.toUInt32 >>> (y.toUInt32 &&& Int32.toUInt32 31)).toInt32) :: st) μ Q) : kq_S km_jI_bitCount d 17 [x0] (kq_I y :: kq_I x :: st) μ Q := kq_iushr (show decode km_jI_bitCount.2.1 17 = .ok (.iushr, 1) by decide +kernel) k
theorem ks_jI_bitCount_18 {d : Nat} {st : List kq_V} {μ : kq_M} {Q : Option kq_V → kq_M → Prop} {x0 : Option kq_V} (k : kq_S km_jI_bitCount d 21 [x0] (kq_I 858993459 :: st) μ Q) : kq_S km_jI_bitCount d 18 [x0] (st) μ Q := kq_ldcw (v := 858993459) (show decode km_jI_bitCount.2.1 18 = .ok (.ldc_w 266, 3) by decide +kernel) kx_628 k
theorem ks_jI_bitCount_21 {d : Nat} {st : List kq_V} {μ : kq_M} {Q : Option kq_V → kq_M → Prop} {x0 : Option kq_V} {x y : Int32} (k : kq_S km_jI_bitCount d 22 [x0] (kq_I (x &&& y) :: st) μ Q) : kq_S km_jI_bitCount d 21 [x0] (kq_I y :: kq_I x :: st) μ Q := kq_iand (show decode km_jI_bitCount.2.1 21 = .ok (.iand, 1) by decide +kernel) k
theorem ks_jI_bitCount_22 {d : Nat} {st : List kq_V} {μ : kq_M} {Q : Option kq_V → kq_M → Prop} {x0 : Option kq_V} {x y : Int32} (k : kq_S km_jI_bitCount d 23 [x0] (kq_I (x + y) :: st) μ Q) : kq_S km_jI_bitCount d 22 [x0] (kq_I y :: kq_I x :: st) μ Q := kq_iadd (show decode km_jI_bitCount.2.1 22 = .ok (.iadd, 1) by decide +kernel) k
theorem ks_jI_bitCount_23 {d : Nat} {st : List kq_V} {μ : kq_M} {Q : Option kq_V → kq_M → Prop} {x0 : Option kq_V} {v : Int32} (k : kq_S km_jI_bitCount d 24 [some (kq_I v)] (st) μ Q) : kq_S km_jI_bitCount d 23 [x0] (kq_I v :: st) μ Q := kq_istore_n 0 (show decode km_jI_bitCount.2.1 23 = .ok (.istore_n 0, 1) by decide +kernel) rfl (by decide) rfl k
theorem ks_jI_bitCount_24 {d : Nat} {st : List kq_V} {μ : kq_M} {Q : Option kq_V → kq_M → Prop} {v : Int32} (k : kq_S km_jI_bitCount d 25 [some (kq_I v)] (kq_I v :: st) μ Q) : kq_S km_jI_bitCount d 24 [some (kq_I v)] (st) μ Q := kq_iload_n 0 (show decode km_jI_bitCount.2.1 24 = .ok (.iload_n 0, 1) by decide +kernel) rfl rfl k
theorem ks_jI_bitCount_25 {d : Nat} {st : List kq_V} {μ : kq_M} {Q : Option kq_V → kq_M → Prop} {v : Int32} (k : kq_S km_jI_bitCount d 26 [some (kq_I v)] (kq_I v :: st) μ Q) : kq_S km_jI_bitCount d 25 [some (kq_I v)] (st) μ Q := kq_iload_n 0 (show decode km_jI_bitCount.2.1 25 = .ok (.iload_n 0, 1) by decide +kernel) rfl rfl k
theorem ks_jI_bitCount_26 {d : Nat} {st : List kq_V} {μ : kq_M} {Q : Option kq_V → kq_M → Prop} {x0 : Option kq_V} (k : kq_S km_jI_bitCount d 27 [x0] (kq_I 4 :: st) μ Q) : kq_S km_jI_bitCount d 26 [x0] (st) μ Q := kq_iconst (v := 4) (show decode km_jI_bitCount.2.1 26 = .ok (.iconst 4, 1) by decide +kernel) (by decide) k
theorem ks_jI_bitCount_27 {d : Nat} {st : List kq_V} {μ : kq_M} {Q : Option kq_V → kq_M → Prop} {x0 : Option kq_V} {x y : Int32} (k : kq_S km_jI_bitCount d 28 [x0] (kq_I ((x.toUInt32 >>> (y.toUInt32 &&& Int32.toUInt32 31)).toInt32) :: st) μ Q) : kq_S km_jI_bitCount d 27 [x0] (kq_I y :: kq_I x :: st) μ Q := kq_iushr (show decode km_jI_bitCount.2.1 27 = .ok (.iushr, 1) by decide +kernel) k
theorem ks_jI_bitCount_28 {d : Nat} {st : List kq_V} {μ : kq_M} {Q : Option kq_V → kq_M → Prop} {x0 : Option kq_V} {x y : Int32} (k : kq_S km_jI_bitCount d 29 [x0] (kq_I (x + y) :: st) μ Q) : kq_S km_jI_bitCount d 28 [x0] (kq_I y :: kq_I x :: st) μ Q := kq_iadd (show decode km_jI_bitCount.2.1 28 = .ok (.iadd, 1) by decide +kernel) k
theorem ks_jI_bitCount_29 {d : Nat} {st : List kq_V} {μ : kq_M} {Q : Option kq_V → kq_M → Prop} {x0 : Option kq_V} (k : kq_S km_jI_bitCount d 32 [x0] (kq_I 252645135 :: st) μ Q) : kq_S km_jI_bitCount d 29 [x0] (st) μ Q := kq_ldcw (v := 252645135) (show decode km_jI_bitCount.2.1 29 = .ok (.ldc_w 267, 3) by decide +kernel) kx_629 k
theorem ks_jI_bitCount_32 {d : Nat} {st : List kq_V} {μ : kq_M} {Q : Option kq_V → kq_M → Prop} {x0 : Option kq_V} {x y : Int32} (k : kq_S km_jI_bitCount d 33 [x0] (kq_I (x &&& y) :: st) μ Q) : kq_S km_jI_bitCount d 32 [x0] (kq_I y :: kq_I x :: st) μ Q := kq_iand (show decode km_jI_bitCount.2.1 32 = .ok (.iand, 1) by decide +kernel) k
theorem ks_jI_bitCount_33 {d : Nat} {st : List kq_V} {μ : kq_M} {Q : Option kq_V → kq_M → Prop} {x0 : Option kq_V} {v : Int32} (k : kq_S km_jI_bitCount d 34 [some (kq_I v)] (st) μ Q) : kq_S km_jI_bitCount d 33 [x0] (kq_I v :: st) μ Q := kq_istore_n 0 (show decode km_jI_bitCount.2.1 33 = .ok (.istore_n 0, 1) by decide +kernel) rfl (by decide) rfl k
theorem ks_jI_bitCount_34 {d : Nat} {st : List kq_V} {μ : kq_M} {Q : Option kq_V → kq_M → Prop} {v : Int32} (k : kq_S km_jI_bitCount d 35 [some (kq_I v)] (kq_I v :: st) μ Q) : kq_S km_jI_bitCount d 34 [some (kq_I v)] (st) μ Q := kq_iload_n 0 (show decode km_jI_bitCount.2.1 34 = .ok (.iload_n 0, 1) by decide +kernel) rfl rfl k
theorem ks_jI_bitCount_35 {d : Nat} {st : List kq_V} {μ : kq_M} {Q : Option kq_V → kq_M → Prop} {v : Int32} (k : kq_S km_jI_bitCount d 36 [some (kq_I v)] (kq_I v :: st) μ Q) : kq_S km_jI_bitCount d 35 [some (kq_I v)] (st) μ Q := kq_iload_n 0 (show decode km_jI_bitCount.2.1 35 = .ok (.iload_n 0, 1) by decide +kernel) rfl rfl k
theorem ks_jI_bitCount_36 {d : Nat} {st : List kq_V} {μ : kq_M} {Q : Option kq_V → kq_M → Prop} {x0 : Option kq_V} (k : kq_S km_jI_bitCount d 38 [x0] (kq_I 8 :: st) μ Q) : kq_S km_jI_bitCount d 36 [x0] (st) μ Q := kq_bipush (v := 8) (show decode km_jI_bitCount.2.1 36 = .ok (.bipush 8, 2) by decide +kernel) (by decide) k
theorem ks_jI_bitCount_38 {d : Nat} {st : List kq_V} {μ : kq_M} {Q : Option kq_V → kq_M → Prop} {x0 : Option kq_V} {x y : Int32} (k : kq_S km_jI_bitCount d 39 [x0] (kq_I ((x.toUInt32 >>> (y.toUInt32 &&& Int32.toUInt32 31)).toInt32) :: st) μ Q) : kq_S km_jI_bitCount d 38 [x0] (kq_I y :: kq_I x :: st) μ Q := kq_iushr (show decode km_jI_bitCount.2.1 38 = .ok (.iushr, 1) by decide +kernel) k
theorem ks_jI_bitCount_39 {d : Nat} {st : List kq_V} {μ : kq_M} {Q : Option kq_V → kq_M → Prop} {x0 : Option kq_V} {x y : Int32} (k : kq_S km_jI_bitCount d 40 [x0] (kq_I (x + y) :: st) μ Q) : kq_S km_jI_bitCount d 39 [x0] (kq_I y :: kq_I x :: st) μ Q := kq_iadd (show decode km_jI_bitCount.2.1 39 = .ok (.iadd, 1) by decide +kernel) k
theorem ks_jI_bitCount_40 {d : Nat} {st : List kq_V} {μ : kq_M} {Q : Option kq_V → kq_M → Prop} {x0 : Option kq_V} {v : Int32} (k : kq_S km_jI_bitCount d 41 [some (kq_I v)] (st) μ Q) : kq_S km_jI_bitCount d 40 [x0] (kq_I v :: st) μ Q := kq_istore_n 0 (show decode km_jI_bitCount.2.1 40 = .ok (.istore_n 0, 1) by decide +kernel) rfl (by decide) rfl k
theorem ks_jI_bitCount_41 {d : Nat} {st : List kq_V} {μ : kq_M} {Q : Option kq_V → kq_M → Prop} {v : Int32} (k : kq_S km_jI_bitCount d 42 [some (kq_I v)] (kq_I v :: st) μ Q) : kq_S km_jI_bitCount d 41 [some (kq_I v)] (st) μ Q := kq_iload_n 0 (show decode km_jI_bitCount.2.1 41 = .ok (.iload_n 0, 1) by decide +kernel) rfl rfl k
theorem ks_jI_bitCount_42 {d : Nat} {st : List kq_V} {μ : kq_M} {Q : Option kq_V → kq_M → Prop} {v : Int32} (k : kq_S km_jI_bitCount d 43 [some (kq_I v)] (kq_I v :: st) μ Q) : kq_S km_jI_bitCount d 42 [some (kq_I v)] (st) μ Q := kq_iload_n 0 (show decode km_jI_bitCount.2.1 42 = .ok (.iload_n 0, 1) by decide +kernel) rfl rfl k
theorem ks_jI_bitCount_43 {d : Nat} {st : List kq_V} {μ : kq_M} {Q : Option kq_V → kq_M → Prop} {x0 : Option kq_V} (k : kq_S km_jI_bitCount d 45 [x0] (kq_I 16 :: st) μ Q) : kq_S km_jI_bitCount d 43 [x0] (st) μ Q := kq_bipush (v := 16) (show decode km_jI_bitCount.2.1 43 = .ok (.bipush 16, 2) by decide +kernel) (by decide) k
theorem ks_jI_bitCount_45 {d : Nat} {st : List kq_V} {μ : kq_M} {Q : Option kq_V → kq_M → Prop} {x0 : Option kq_V} {x y : Int32} (k : kq_S km_jI_bitCount d 46 [x0] (kq_I ((x.toUInt32 >>> (y.toUInt32 &&& Int32.toUInt32 31)).toInt32) :: st) μ Q) : kq_S km_jI_bitCount d 45 [x0] (kq_I y :: kq_I x :: st) μ Q := kq_iushr (show decode km_jI_bitCount.2.1 45 = .ok (.iushr, 1) by decide +kernel) k
theorem ks_jI_bitCount_46 {d : Nat} {st : List kq_V} {μ : kq_M} {Q : Option kq_V → kq_M → Prop} {x0 : Option kq_V} {x y : Int32} (k : kq_S km_jI_bitCount d 47 [x0] (kq_I (x + y) :: st) μ Q) : kq_S km_jI_bitCount d 46 [x0] (kq_I y :: kq_I x :: st) μ Q := kq_iadd (show decode km_jI_bitCount.2.1 46 = .ok (.iadd, 1) by decide +kernel) k
theorem ks_jI_bitCount_47 {d : Nat} {st : List kq_V} {μ : kq_M} {Q : Option kq_V → kq_M → Prop} {x0 : Option kq_V} {v : Int32} (k : kq_S km_jI_bitCount d 48 [some (kq_I v)] (st) μ Q) : kq_S km_jI_bitCount d 47 [x0] (kq_I v :: st) μ Q := kq_istore_n 0 (show decode km_jI_bitCount.2.1 47 = .ok (.istore_n 0, 1) by decide +kernel) rfl (by decide) rfl k
theorem ks_jI_bitCount_48 {d : Nat} {st : List kq_V} {μ : kq_M} {Q : Option kq_V → kq_M → Prop} {v : Int32} (k : kq_S km_jI_bitCount d 49 [some (kq_I v)] (kq_I v :: st) μ Q) : kq_S km_jI_bitCount d 48 [some (kq_I v)] (st) μ Q := kq_iload_n 0 (show decode km_jI_bitCount.2.1 48 = .ok (.iload_n 0, 1) by decide +kernel) rfl rfl k
theorem ks_jI_bitCount_49 {d : Nat} {st : List kq_V} {μ : kq_M} {Q : Option kq_V → kq_M → Prop} {x0 : Option kq_V} (k : kq_S km_jI_bitCount d 51 [x0] (kq_I 63 :: st) μ Q) : kq_S km_jI_bitCount d 49 [x0] (st) μ Q := kq_bipush (v := 63) (show decode km_jI_bitCount.2.1 49 = .ok (.bipush 63, 2) by decide +kernel) (by decide) k
theorem ks_jI_bitCount_51 {d : Nat} {st : List kq_V} {μ : kq_M} {Q : Option kq_V → kq_M → Prop} {x0 : Option kq_V} {x y : Int32} (k : kq_S km_jI_bitCount d 52 [x0] (kq_I (x &&& y) :: st) μ Q) : kq_S km_jI_bitCount d 51 [x0] (kq_I y :: kq_I x :: st) μ Q := kq_iand (show decode km_jI_bitCount.2.1 51 = .ok (.iand, 1) by decide +kernel) k
theorem ks_jI_bitCount_52 {d : Nat} {μ : kq_M} {Q : Option kq_V → kq_M → Prop} {x0 : Option kq_V} {v : Int32} (k : Q (some (kq_I v)) μ) : kq_S km_jI_bitCount d 52 [x0] [kq_I v] μ Q := kq_iret (show decode km_jI_bitCount.2.1 52 = .ok (.ireturn, 1) by decide +kernel) rfl k
end
section
/-! a row for each instruction, by program -/
theorem ks_H_callWitness_0 {d : Nat} {st : List kq_V} {μ : kq_M} {Q : Option kq_V → kq_M → Prop} {x1 x2 : Option kq_V} {r : Nat} (k : kq_S km_H_callWitness d 1 [some (kq_R r 1), x1, x2] (kq_R r 1 :: st) μ Q) : kq_S km_H_callWitness d 0 [some (kq_R r 1), x1, x2] (st) μ Q := kq_aload_n 0 (show decode km_H_callWitness.2.1 0 = .ok (.aload_n 0, 1) by decide +kernel) rfl rfl (by decide) k
theorem ks_H_callWitness_1 {d : Nat} {st : List kq_V} {μ : kq_M} {Q : Option kq_V → kq_M → Prop} {x0 x1 x2 : Option kq_V} {r : Nat} (hok : kq_hr r = true) (k : kq_S km_H_callWitness d 4 [x0, x1, x2] (kq_I (kq_rI μ r 1 6) :: st) μ Q) : kq_S km_H_callWitness d 1 [x0, x1, x2] (kq_R r 1 :: st) μ Q := kq_getf 1 6 (show decode km_H_callWitness.2.1 1 = .ok (.getfield 30, 3) by decide +kernel) kx_96 ⟨rfl, by decide, by decide, by decide⟩ (show (0 : Nat) ≠ 45 by decide) hok k
theorem ks_H_callWitness_4 {d : Nat} {st : List kq_V} {μ : kq_M} {Q : Option kq_V → kq_M → Prop} {x0 x1 x2 : Option kq_V} {v : Int32} (hp : kq_nj x1 = true) (k : kq_S km_H_callWitness d 5 [x0, x1, some (kq_I v)] (st) μ Q) : kq_S km_H_callWitness d 4 [x0, x1, x2] (kq_I v :: st) μ Q := kq_istore_n 2 (show decode km_H_callWitness.2.1 4 = .ok (.istore_n 2, 1) by decide +kernel) rfl (by decide) (kq_nl_of rfl hp) k
theorem ks_H_callWitness_5 {d : Nat} {st : List kq_V} {μ : kq_M} {Q : Option kq_V → kq_M → Prop} {x1 x2 : Option kq_V} {r : Nat} (k : kq_S km_H_callWitness d 6 [some (kq_R r 1), x1, x2] (kq_R r 1 :: st) μ Q) : kq_S km_H_callWitness d 5 [some (kq_R r 1), x1, x2] (st) μ Q := kq_aload_n 0 (show decode km_H_callWitness.2.1 5 = .ok (.aload_n 0, 1) by decide +kernel) rfl rfl (by decide) k
theorem ks_H_callWitness_6 {d : Nat} {st : List kq_V} {μ : kq_M} {Q : Option kq_V → kq_M → Prop} {x0 x1 x2 : Option kq_V} {r : Nat} (hok : kq_hr r = true) (k : kq_S km_H_callWitness d 9 [x0, x1, x2] (kq_R r 2 :: st) μ Q) : kq_S km_H_callWitness d 6 [x0, x1, x2] (kq_R r 1 :: st) μ Q := kq_getf 1 7 (show decode km_H_callWitness.2.1 6 = .ok (.getfield 33, 3) by decide +kernel) kx_99 ⟨rfl, by decide, by decide, by decide⟩ (show (2 : Nat) ≠ 45 by decide) hok k
theorem ks_H_callWitness_9 {d : Nat} {st : List kq_V} {μ : kq_M} {Q : Option kq_V → kq_M → Prop} {x0 x1 : Option kq_V} {v : Int32} (k : kq_S km_H_callWitness d 10 [x0, x1, some (kq_I v)] (kq_I v :: st) μ Q) : kq_S km_H_callWitness d 9 [x0, x1, some (kq_I v)] (st) μ Q := kq_iload_n 2 (show decode km_H_callWitness.2.1 9 = .ok (.iload_n 2, 1) by decide +kernel) rfl rfl k
theorem ks_H_callWitness_10 {d : Nat} {st : List kq_V} {μ : kq_M} {Q : Option kq_V → kq_M → Prop} {x0 x2 : Option kq_V} {v : Int32} (k : kq_S km_H_callWitness d 11 [x0, some (kq_I v), x2] (kq_I v :: st) μ Q) : kq_S km_H_callWitness d 10 [x0, some (kq_I v), x2] (st) μ Q := kq_iload_n 1 (show decode km_H_callWitness.2.1 10 = .ok (.iload_n 1, 1) by decide +kernel) rfl rfl k
theorem ks_H_callWitness_11 {d : Nat} {st : List kq_V} {μ : kq_M} {Q : Option kq_V → kq_M → Prop} {x0 x1 x2 : Option kq_V} {v : Int32} {x : Int32} {r : Nat} (j : Nat) (hok : kq_hr r = true) (hx : x = nI j) (hj : j < 8) (k : kq_S km_H_callWitness d 12 [x0, x1, x2] (st) (kq_wI μ r 2 j v) Q) : kq_S km_H_callWitness d 11 [x0, x1, x2] (kq_I v :: kq_I x :: kq_R r 2 :: st) μ Q := kq_iast 2 j (show decode km_H_callWitness.2.1 11 = .ok (.iastore, 1) by decide +kernel) ⟨rfl, by decide⟩ hok hx hj k
theorem ks_H_callWitness_11n {d : Nat} {st : List kq_V} {μ : kq_M} {Q : Option kq_V → kq_M → Prop} {x0 x1 x2 : Option kq_V} {v : Int32} {r : Nat} {j : Nat} (hok : kq_hr r = true) (hj : j < 8) (k : kq_S km_H_callWitness d 12 [x0, x1, x2] (st) (kq_wI μ r 2 j v) Q) : kq_S km_H_callWitness d 11 [x0, x1, x2] (kq_I v :: kq_I (nI j) :: kq_R r 2 :: st) μ Q := kq_iast 2 j (show decode km_H_callWitness.2.1 11 = .ok (.iastore, 1) by decide +kernel) ⟨rfl, by decide⟩ hok rfl hj k
theorem ks_H_callWitness_12 {d : Nat} {st : List kq_V} {μ : kq_M} {Q : Option kq_V → kq_M → Prop} {x1 x2 : Option kq_V} {r : Nat} (k : kq_S km_H_callWitness d 13 [some (kq_R r 1), x1, x2] (kq_R r 1 :: st) μ Q) : kq_S km_H_callWitness d 12 [some (kq_R r 1), x1, x2] (st) μ Q := kq_aload_n 0 (show decode km_H_callWitness.2.1 12 = .ok (.aload_n 0, 1) by decide +kernel) rfl rfl (by decide) k
theorem ks_H_callWitness_13 {d : Nat} {st : List kq_V} {μ : kq_M} {Q : Option kq_V → kq_M → Prop} {x0 x1 x2 : Option kq_V} {r : Nat} (hok : kq_hr r = true) (k : kq_S km_H_callWitness d 16 [x0, x1, x2] (kq_R r 3 :: st) μ Q) : kq_S km_H_callWitness d 13 [x0, x1, x2] (kq_R r 1 :: st) μ Q := kq_getf 1 8 (show decode km_H_callWitness.2.1 13 = .ok (.getfield 37, 3) by decide +kernel) kx_101 ⟨rfl, by decide, by decide, by decide⟩ (show (3 : Nat) ≠ 45 by decide) hok k
theorem ks_H_callWitness_16 {d : Nat} {st : List kq_V} {μ : kq_M} {Q : Option kq_V → kq_M → Prop} {x0 x1 : Option kq_V} {v : Int32} (k : kq_S km_H_callWitness d 17 [x0, x1, some (kq_I v)] (kq_I v :: st) μ Q) : kq_S km_H_callWitness d 16 [x0, x1, some (kq_I v)] (st) μ Q := kq_iload_n 2 (show decode km_H_callWitness.2.1 16 = .ok (.iload_n 2, 1) by decide +kernel) rfl rfl k
theorem ks_H_callWitness_17 {d : Nat} {st : List kq_V} {μ : kq_M} {Q : Option kq_V → kq_M → Prop} {x0 x1 x2 : Option kq_V} (k : kq_S km_H_callWitness d 18 [x0, x1, x2] (kq_I 0 :: st) μ Q) : kq_S km_H_callWitness d 17 [x0, x1, x2] (st) μ Q := kq_iconst (v := 0) (show decode km_H_callWitness.2.1 17 = .ok (.iconst 0, 1) by decide +kernel) (by decide) k
theorem ks_H_callWitness_18 {d : Nat} {st : List kq_V} {μ : kq_M} {Q : Option kq_V → kq_M → Prop} {x0 x1 x2 : Option kq_V} {v : Int32} {x : Int32} {r : Nat} (j : Nat) (hok : kq_hr r = true) (hx : x = nI j) (hj : j < 8) (k : kq_S km_H_callWitness d 19 [x0, x1, x2] (st) (kq_wI μ r 3 j v) Q) : kq_S km_H_callWitness d 18 [x0, x1, x2] (kq_I v :: kq_I x :: kq_R r 3 :: st) μ Q := kq_iast 3 j (show decode km_H_callWitness.2.1 18 = .ok (.iastore, 1) by decide +kernel) ⟨rfl, by decide⟩ hok hx hj k
theorem ks_H_callWitness_18n {d : Nat} {st : List kq_V} {μ : kq_M} {Q : Option kq_V → kq_M → Prop} {x0 x1 x2 : Option kq_V} {v : Int32} {r : Nat} {j : Nat} (hok : kq_hr r = true) (hj : j < 8) (k : kq_S km_H_callWitness d 19 [x0, x1, x2] (st) (kq_wI μ r 3 j v) Q) : kq_S km_H_callWitness d 18 [x0, x1, x2] (kq_I v :: kq_I (nI j) :: kq_R r 3 :: st) μ Q := kq_iast 3 j (show decode km_H_callWitness.2.1 18 = .ok (.iastore, 1) by decide +kernel) ⟨rfl, by decide⟩ hok rfl hj k
theorem ks_H_callWitness_19 {d : Nat} {st : List kq_V} {μ : kq_M} {Q : Option kq_V → kq_M → Prop} {x1 x2 : Option kq_V} {r : Nat} (k : kq_S km_H_callWitness d 20 [some (kq_R r 1), x1, x2] (kq_R r 1 :: st) μ Q) : kq_S km_H_callWitness d 19 [some (kq_R r 1), x1, x2] (st) μ Q := kq_aload_n 0 (show decode km_H_callWitness.2.1 19 = .ok (.aload_n 0, 1) by decide +kernel) rfl rfl (by decide) k
theorem ks_H_callWitness_20 {d : Nat} {st : List kq_V} {μ : kq_M} {Q : Option kq_V → kq_M → Prop} {x0 x1 x2 : Option kq_V} {r : Nat} (hok : kq_hr r = true) (k : kq_S km_H_callWitness d 23 [x0, x1, x2] (kq_R r 4 :: st) μ Q) : kq_S km_H_callWitness d 20 [x0, x1, x2] (kq_R r 1 :: st) μ Q := kq_getf 1 9 (show decode km_H_callWitness.2.1 20 = .ok (.getfield 40, 3) by decide +kernel) kx_104 ⟨rfl, by decide, by decide, by decide⟩ (show (4 : Nat) ≠ 45 by decide) hok k
theorem ks_H_callWitness_23 {d : Nat} {st : List kq_V} {μ : kq_M} {Q : Option kq_V → kq_M → Prop} {x0 x1 : Option kq_V} {v : Int32} (k : kq_S km_H_callWitness d 24 [x0, x1, some (kq_I v)] (kq_I v :: st) μ Q) : kq_S km_H_callWitness d 23 [x0, x1, some (kq_I v)] (st) μ Q := kq_iload_n 2 (show decode km_H_callWitness.2.1 23 = .ok (.iload_n 2, 1) by decide +kernel) rfl rfl k
theorem ks_H_callWitness_24 {d : Nat} {st : List kq_V} {μ : kq_M} {Q : Option kq_V → kq_M → Prop} {x0 x1 x2 : Option kq_V} (k : kq_S km_H_callWitness d 25 [x0, x1, x2] (kq_I 0 :: st) μ Q) : kq_S km_H_callWitness d 24 [x0, x1, x2] (st) μ Q := kq_iconst (v := 0) (show decode km_H_callWitness.2.1 24 = .ok (.iconst 0, 1) by decide +kernel) (by decide) k
theorem ks_H_callWitness_25 {d : Nat} {st : List kq_V} {μ : kq_M} {Q : Option kq_V → kq_M → Prop} {x0 x1 x2 : Option kq_V} {v : Int32} {x : Int32} {r : Nat} (j : Nat) (hok : kq_hr r = true) (hx : x = nI j) (hj : j < 8) (k : kq_S km_H_callWitness d 26 [x0, x1, x2] (st) (kq_wI μ r 4 j v) Q) : kq_S km_H_callWitness d 25 [x0, x1, x2] (kq_I v :: kq_I x :: kq_R r 4 :: st) μ Q := kq_iast 4 j (show decode km_H_callWitness.2.1 25 = .ok (.iastore, 1) by decide +kernel) ⟨rfl, by decide⟩ hok hx hj k
theorem ks_H_callWitness_25n {d : Nat} {st : List kq_V} {μ : kq_M} {Q : Option kq_V → kq_M → Prop} {x0 x1 x2 : Option kq_V} {v : Int32} {r : Nat} {j : Nat} (hok : kq_hr r = true) (hj : j < 8) (k : kq_S km_H_callWitness d 26 [x0, x1, x2] (st) (kq_wI μ r 4 j v) Q) : kq_S km_H_callWitness d 25 [x0, x1, x2] (kq_I v :: kq_I (nI j) :: kq_R r 4 :: st) μ Q := kq_iast 4 j (show decode km_H_callWitness.2.1 25 = .ok (.iastore, 1) by decide +kernel) ⟨rfl, by decide⟩ hok rfl hj k
theorem ks_H_callWitness_26 {d : Nat} {st : List kq_V} {μ : kq_M} {Q : Option kq_V → kq_M → Prop} {x1 x2 : Option kq_V} {r : Nat} (k : kq_S km_H_callWitness d 27 [some (kq_R r 1), x1, x2] (kq_R r 1 :: st) μ Q) : kq_S km_H_callWitness d 26 [some (kq_R r 1), x1, x2] (st) μ Q := kq_aload_n 0 (show decode km_H_callWitness.2.1 26 = .ok (.aload_n 0, 1) by decide +kernel) rfl rfl (by decide) k
theorem ks_H_callWitness_27 {d : Nat} {st : List kq_V} {μ : kq_M} {Q : Option kq_V → kq_M → Prop} {x0 x1 x2 : Option kq_V} {r : Nat} (hok : kq_hr r = true) (k : kq_S km_H_callWitness d 30 [x0, x1, x2] (kq_R r 5 :: st) μ Q) : kq_S km_H_callWitness d 27 [x0, x1, x2] (kq_R r 1 :: st) μ Q := kq_getf 1 10 (show decode km_H_callWitness.2.1 27 = .ok (.getfield 43, 3) by decide +kernel) kx_107 ⟨rfl, by decide, by decide, by decide⟩ (show (5 : Nat) ≠ 45 by decide) hok k
theorem ks_H_callWitness_30 {d : Nat} {st : List kq_V} {μ : kq_M} {Q : Option kq_V → kq_M → Prop} {x0 x1 : Option kq_V} {v : Int32} (k : kq_S km_H_callWitness d 31 [x0, x1, some (kq_I v)] (kq_I v :: st) μ Q) : kq_S km_H_callWitness d 30 [x0, x1, some (kq_I v)] (st) μ Q := kq_iload_n 2 (show decode km_H_callWitness.2.1 30 = .ok (.iload_n 2, 1) by decide +kernel) rfl rfl k
theorem ks_H_callWitness_31 {d : Nat} {st : List kq_V} {μ : kq_M} {Q : Option kq_V → kq_M → Prop} {x0 x1 x2 : Option kq_V} (k : kq_S km_H_callWitness d 32 [x0, x1, x2] (kq_I 3 :: st) μ Q) : kq_S km_H_callWitness d 31 [x0, x1, x2] (st) μ Q := kq_iconst (v := 3) (show decode km_H_callWitness.2.1 31 = .ok (.iconst 3, 1) by decide +kernel) (by decide) k
theorem ks_H_callWitness_32 {d : Nat} {st : List kq_V} {μ : kq_M} {Q : Option kq_V → kq_M → Prop} {x0 x1 x2 : Option kq_V} {v : Int32} {x : Int32} {r : Nat} (j : Nat) (hok : kq_hr r = true) (hx : x = nI j) (hj : j < 8) (k : kq_S km_H_callWitness d 33 [x0, x1, x2] (st) (kq_wI μ r 5 j v) Q) : kq_S km_H_callWitness d 32 [x0, x1, x2] (kq_I v :: kq_I x :: kq_R r 5 :: st) μ Q := kq_iast 5 j (show decode km_H_callWitness.2.1 32 = .ok (.iastore, 1) by decide +kernel) ⟨rfl, by decide⟩ hok hx hj k
theorem ks_H_callWitness_32n {d : Nat} {st : List kq_V} {μ : kq_M} {Q : Option kq_V → kq_M → Prop} {x0 x1 x2 : Option kq_V} {v : Int32} {r : Nat} {j : Nat} (hok : kq_hr r = true) (hj : j < 8) (k : kq_S km_H_callWitness d 33 [x0, x1, x2] (st) (kq_wI μ r 5 j v) Q) : kq_S km_H_callWitness d 32 [x0, x1, x2] (kq_I v :: kq_I (nI j) :: kq_R r 5 :: st) μ Q := kq_iast 5 j (show decode km_H_callWitness.2.1 32 = .ok (.iastore, 1) by decide +kernel) ⟨rfl, by decide⟩ hok rfl hj k
theorem ks_H_callWitness_33 {d : Nat} {st : List kq_V} {μ : kq_M} {Q : Option kq_V → kq_M → Prop} {x1 x2 : Option kq_V} {r : Nat} (k : kq_S km_H_callWitness d 34 [some (kq_R r 1), x1, x2] (kq_R r 1 :: st) μ Q) : kq_S km_H_callWitness d 33 [some (kq_R r 1), x1, x2] (st) μ Q := kq_aload_n 0 (show decode km_H_callWitness.2.1 33 = .ok (.aload_n 0, 1) by decide +kernel) rfl rfl (by decide) k
theorem ks_H_callWitness_34 {d : Nat} {st : List kq_V} {μ : kq_M} {Q : Option kq_V → kq_M → Prop} {x0 x1 x2 : Option kq_V} {v : kq_V} (hc : kq_cat v = 1) (k : kq_S km_H_callWitness d 35 [x0, x1, x2] (v :: v :: st) μ Q) : kq_S km_H_callWitness d 34 [x0, x1, x2] (v :: st) μ Q := kq_dup (show decode km_H_callWitness.2.1 34 = .ok (.dup, 1) by decide +kernel) hc k
theorem ks_H_callWitness_35 {d : Nat} {st : List kq_V} {μ : kq_M} {Q : Option kq_V → kq_M → Prop} {x0 x1 x2 : Option kq_V} {r : Nat} (hok : kq_hr r = true) (k : kq_S km_H_callWitness d 38 [x0, x1, x2] (kq_I (kq_rI μ r 1 6) :: st) μ Q) : kq_S km_H_callWitness d 35 [x0, x1, x2] (kq_R r 1 :: st) μ Q := kq_getf 1 6 (show decode km_H_callWitness.2.1 35 = .ok (.getfield 30, 3) by decide +kernel) kx_96 ⟨rfl, by decide, by decide, by decide⟩ (show (0 : Nat) ≠ 45 by decide) hok k
theorem ks_H_callWitness_38 {d : Nat} {st : List kq_V} {μ : kq_M} {Q : Option kq_V → kq_M → Prop} {x0 x1 x2 : Option kq_V} (k : kq_S km_H_callWitness d 39 [x0, x1, x2] (kq_I 1 :: st) μ Q) : kq_S km_H_callWitness d 38 [x0, x1, x2] (st) μ Q := kq_iconst (v := 1) (show decode km_H_callWitness.2.1 38 = .ok (.iconst 1, 1) by decide +kernel) (by decide) k
theorem ks_H_callWitness_39 {d : Nat} {st : List kq_V} {μ : kq_M} {Q : Option kq_V → kq_M → Prop} {x0 x1 x2 : Option kq_V} {x y : Int32} (k : kq_S km_H_callWitness d 40 [x0, x1, x2] (kq_I (x + y) :: st) μ Q) : kq_S km_H_callWitness d 39 [x0, x1, x2] (kq_I y :: kq_I x :: st) μ Q := kq_iadd (show decode km_H_callWitness.2.1 39 = .ok (.iadd, 1) by decide +kernel) k
theorem ks_H_callWitness_40 {d : Nat} {st : List kq_V} {μ : kq_M} {Q : Option kq_V → kq_M → Prop} {x0 x1 x2 : Option kq_V} {r : Nat} {v : Int32} (hok : kq_hr r = true) (k : kq_S km_H_callWitness d 43 [x0, x1, x2] (st) (kq_wI μ r 1 6 v) Q) : kq_S km_H_callWitness d 40 [x0, x1, x2] (kq_I v :: kq_R r 1 :: st) μ Q := kq_putI (ty := .int) 1 6 (show decode km_H_callWitness.2.1 40 = .ok (.putfield 30, 3) by decide +kernel) kx_96 ⟨rfl, by decide, by decide, by decide, rfl, rfl, rfl⟩ ⟨rfl, rfl⟩ hok k
theorem ks_H_callWitness_43 {d : Nat} {st : List kq_V} {μ : kq_M} {Q : Option kq_V → kq_M → Prop} {x0 x1 : Option kq_V} {v : Int32} (k : kq_S km_H_callWitness d 44 [x0, x1, some (kq_I v)] (kq_I v :: st) μ Q) : kq_S km_H_callWitness d 43 [x0, x1, some (kq_I v)] (st) μ Q := kq_iload_n 2 (show decode km_H_callWitness.2.1 43 = .ok (.iload_n 2, 1) by decide +kernel) rfl rfl k
theorem ks_H_callWitness_44 {d : Nat} {μ : kq_M} {Q : Option kq_V → kq_M → Prop} {x0 x1 x2 : Option kq_V} {v : Int32} (k : Q (some (kq_I v)) μ) : kq_S km_H_callWitness d 44 [x0, x1, x2] [kq_I v] μ Q := kq_iret (show decode km_H_callWitness.2.1 44 = .ok (.ireturn, 1) by decide +kernel) rfl k
theorem ks_H_lieSet_0 {d : Nat} {st : List kq_V} {μ : kq_M} {Q : Option kq_V → kq_M → Prop} {x1 : Option kq_V} {r : Nat} (k : kq_S km_H_lieSet d 1 [some (kq_R r 1), x1] (kq_R r 1 :: st) μ Q) : kq_S km_H_lieSet d 0 [some (kq_R r 1), x1] (st) μ Q := kq_aload_n 0 (show decode km_H_lieSet.2.1 0 = .ok (.aload_n 0, 1) by decide +kernel) rfl rfl (by decide) k
theorem ks_H_lieSet_1 {d : Nat} {st : List kq_V} {μ : kq_M} {Q : Option kq_V → kq_M → Prop} {x0 x1 : Option kq_V} {r : Nat} (hok : kq_hr r = true) (k : kq_S km_H_lieSet d 4 [x0, x1] (kq_R r 3 :: st) μ Q) : kq_S km_H_lieSet d 1 [x0, x1] (kq_R r 1 :: st) μ Q := kq_getf 1 8 (show decode km_H_lieSet.2.1 1 = .ok (.getfield 37, 3) by decide +kernel) kx_101 ⟨rfl, by decide, by decide, by decide⟩ (show (3 : Nat) ≠ 45 by decide) hok k
theorem ks_H_lieSet_4 {d : Nat} {st : List kq_V} {μ : kq_M} {Q : Option kq_V → kq_M → Prop} {x0 : Option kq_V} {v : Int32} (k : kq_S km_H_lieSet d 5 [x0, some (kq_I v)] (kq_I v :: st) μ Q) : kq_S km_H_lieSet d 4 [x0, some (kq_I v)] (st) μ Q := kq_iload_n 1 (show decode km_H_lieSet.2.1 4 = .ok (.iload_n 1, 1) by decide +kernel) rfl rfl k
theorem ks_H_lieSet_5 {d : Nat} {st : List kq_V} {μ : kq_M} {Q : Option kq_V → kq_M → Prop} {x0 x1 : Option kq_V} {x : Int32} {r : Nat} (j : Nat) (hok : kq_hr r = true) (hx : x = nI j) (hj : j < 8) (k : kq_S km_H_lieSet d 6 [x0, x1] (kq_I (kq_rI μ r 3 j) :: st) μ Q) : kq_S km_H_lieSet d 5 [x0, x1] (kq_I x :: kq_R r 3 :: st) μ Q := kq_iald 3 j (show decode km_H_lieSet.2.1 5 = .ok (.iaload, 1) by decide +kernel) ⟨rfl, by decide⟩ hok hx hj k
theorem ks_H_lieSet_5n {d : Nat} {st : List kq_V} {μ : kq_M} {Q : Option kq_V → kq_M → Prop} {x0 x1 : Option kq_V} {r : Nat} {j : Nat} (hok : kq_hr r = true) (hj : j < 8) (k : kq_S km_H_lieSet d 6 [x0, x1] (kq_I (kq_rI μ r 3 j) :: st) μ Q) : kq_S km_H_lieSet d 5 [x0, x1] (kq_I (nI j) :: kq_R r 3 :: st) μ Q := kq_iald 3 j (show decode km_H_lieSet.2.1 5 = .ok (.iaload, 1) by decide +kernel) ⟨rfl, by decide⟩ hok rfl hj k
theorem ks_H_lieSet_6 {d : Nat} {st : List kq_V} {μ : kq_M} {Q : Option kq_V → kq_M → Prop} {x1 : Option kq_V} {r : Nat} (k : kq_S km_H_lieSet d 7 [some (kq_R r 1), x1] (kq_R r 1 :: st) μ Q) : kq_S km_H_lieSet d 6 [some (kq_R r 1), x1] (st) μ Q := kq_aload_n 0 (show decode km_H_lieSet.2.1 6 = .ok (.aload_n 0, 1) by decide +kernel) rfl rfl (by decide) k
theorem ks_H_lieSet_7 {d : Nat} {st : List kq_V} {μ : kq_M} {Q : Option kq_V → kq_M → Prop} {x0 x1 : Option kq_V} {r : Nat} (hok : kq_hr r = true) (k : kq_S km_H_lieSet d 10 [x0, x1] (kq_R r 4 :: st) μ Q) : kq_S km_H_lieSet d 7 [x0, x1] (kq_R r 1 :: st) μ Q := kq_getf 1 9 (show decode km_H_lieSet.2.1 7 = .ok (.getfield 40, 3) by decide +kernel) kx_104 ⟨rfl, by decide, by decide, by decide⟩ (show (4 : Nat) ≠ 45 by decide) hok k
theorem ks_H_lieSet_10 {d : Nat} {st : List kq_V} {μ : kq_M} {Q : Option kq_V → kq_M → Prop} {x0 : Option kq_V} {v : Int32} (k : kq_S km_H_lieSet d 11 [x0, some (kq_I v)] (kq_I v :: st) μ Q) : kq_S km_H_lieSet d 10 [x0, some (kq_I v)] (st) μ Q := kq_iload_n 1 (show decode km_H_lieSet.2.1 10 = .ok (.iload_n 1, 1) by decide +kernel) rfl rfl k
theorem ks_H_lieSet_11 {d : Nat} {st : List kq_V} {μ : kq_M} {Q : Option kq_V → kq_M → Prop} {x0 x1 : Option kq_V} {x : Int32} {r : Nat} (j : Nat) (hok : kq_hr r = true) (hx : x = nI j) (hj : j < 8) (k : kq_S km_H_lieSet d 12 [x0, x1] (kq_I (kq_rI μ r 4 j) :: st) μ Q) : kq_S km_H_lieSet d 11 [x0, x1] (kq_I x :: kq_R r 4 :: st) μ Q := kq_iald 4 j (show decode km_H_lieSet.2.1 11 = .ok (.iaload, 1) by decide +kernel) ⟨rfl, by decide⟩ hok hx hj k
theorem ks_H_lieSet_11n {d : Nat} {st : List kq_V} {μ : kq_M} {Q : Option kq_V → kq_M → Prop} {x0 x1 : Option kq_V} {r : Nat} {j : Nat} (hok : kq_hr r = true) (hj : j < 8) (k : kq_S km_H_lieSet d 12 [x0, x1] (kq_I (kq_rI μ r 4 j) :: st) μ Q) : kq_S km_H_lieSet d 11 [x0, x1] (kq_I (nI j) :: kq_R r 4 :: st) μ Q := kq_iald 4 j (show decode km_H_lieSet.2.1 11 = .ok (.iaload, 1) by decide +kernel) ⟨rfl, by decide⟩ hok rfl hj k
theorem ks_H_lieSet_12 {d : Nat} {st : List kq_V} {μ : kq_M} {Q : Option kq_V → kq_M → Prop} {x1 : Option kq_V} {r : Nat} (k : kq_S km_H_lieSet d 13 [some (kq_R r 1), x1] (kq_R r 1 :: st) μ Q) : kq_S km_H_lieSet d 12 [some (kq_R r 1), x1] (st) μ Q := kq_aload_n 0 (show decode km_H_lieSet.2.1 12 = .ok (.aload_n 0, 1) by decide +kernel) rfl rfl (by decide) k
theorem ks_H_lieSet_13 {d : Nat} {st : List kq_V} {μ : kq_M} {Q : Option kq_V → kq_M → Prop} {x0 x1 : Option kq_V} {r : Nat} (hok : kq_hr r = true) (k : kq_S km_H_lieSet d 16 [x0, x1] (kq_I (kq_rI μ r 1 0) :: st) μ Q) : kq_S km_H_lieSet d 13 [x0, x1] (kq_R r 1 :: st) μ Q := kq_getf 1 0 (show decode km_H_lieSet.2.1 13 = .ok (.getfield 9, 3) by decide +kernel) kx_82 ⟨rfl, by decide, by decide, by decide⟩ (show (0 : Nat) ≠ 45 by decide) hok k
theorem ks_H_lieSet_16 {d : Nat} {st : List kq_V} {μ : kq_M} {Q : Option kq_V → kq_M → Prop} {x0 x1 : Option kq_V} {x y : Int32} (k : kq_S km_H_lieSet d 17 [x0, x1] (kq_I (x ^^^ y) :: st) μ Q) : kq_S km_H_lieSet d 16 [x0, x1] (kq_I y :: kq_I x :: st) μ Q := kq_ixor (show decode km_H_lieSet.2.1 16 = .ok (.ixor, 1) by decide +kernel) k
theorem ks_H_lieSet_17 {d : Nat} {st : List kq_V} {μ : kq_M} {Q : Option kq_V → kq_M → Prop} {x0 x1 : Option kq_V} {x y : Int32} (k : kq_S km_H_lieSet d 18 [x0, x1] (kq_I (x &&& y) :: st) μ Q) : kq_S km_H_lieSet d 17 [x0, x1] (kq_I y :: kq_I x :: st) μ Q := kq_iand (show decode km_H_lieSet.2.1 17 = .ok (.iand, 1) by decide +kernel) k
theorem ks_H_lieSet_18 {d : Nat} {μ : kq_M} {Q : Option kq_V → kq_M → Prop} {x0 x1 : Option kq_V} {v : Int32} (k : Q (some (kq_I v)) μ) : kq_S km_H_lieSet d 18 [x0, x1] [kq_I v] μ Q := kq_iret (show decode km_H_lieSet.2.1 18 = .ok (.ireturn, 1) by decide +kernel) rfl k
theorem ks_H_luckySet_0 {d : Nat} {st : List kq_V} {μ : kq_M} {Q : Option kq_V → kq_M → Prop} {x0 x1 : Option kq_V} (k : kq_S km_H_luckySet d 3 [x0, x1] (kq_I 255 :: st) μ Q) : kq_S km_H_luckySet d 0 [x0, x1] (st) μ Q := kq_sipush (v := 255) (show decode km_H_luckySet.2.1 0 = .ok (.sipush 255, 3) by decide +kernel) (by decide) k
theorem ks_H_luckySet_3 {d : Nat} {st : List kq_V} {μ : kq_M} {Q : Option kq_V → kq_M → Prop} {x1 : Option kq_V} {r : Nat} (k : kq_S km_H_luckySet d 4 [some (kq_R r 1), x1] (kq_R r 1 :: st) μ Q) : kq_S km_H_luckySet d 3 [some (kq_R r 1), x1] (st) μ Q := kq_aload_n 0 (show decode km_H_luckySet.2.1 3 = .ok (.aload_n 0, 1) by decide +kernel) rfl rfl (by decide) k
theorem ks_H_luckySet_4 {d : Nat} {st : List kq_V} {μ : kq_M} {Q : Option kq_V → kq_M → Prop} {x0 x1 : Option kq_V} {r : Nat} (hok : kq_hr r = true) (k : kq_S km_H_luckySet d 7 [x0, x1] (kq_R r 3 :: st) μ Q) : kq_S km_H_luckySet d 4 [x0, x1] (kq_R r 1 :: st) μ Q := kq_getf 1 8 (show decode km_H_luckySet.2.1 4 = .ok (.getfield 37, 3) by decide +kernel) kx_101 ⟨rfl, by decide, by decide, by decide⟩ (show (3 : Nat) ≠ 45 by decide) hok k
theorem ks_H_luckySet_7 {d : Nat} {st : List kq_V} {μ : kq_M} {Q : Option kq_V → kq_M → Prop} {x0 : Option kq_V} {v : Int32} (k : kq_S km_H_luckySet d 8 [x0, some (kq_I v)] (kq_I v :: st) μ Q) : kq_S km_H_luckySet d 7 [x0, some (kq_I v)] (st) μ Q := kq_iload_n 1 (show decode km_H_luckySet.2.1 7 = .ok (.iload_n 1, 1) by decide +kernel) rfl rfl k
theorem ks_H_luckySet_8 {d : Nat} {st : List kq_V} {μ : kq_M} {Q : Option kq_V → kq_M → Prop} {x0 x1 : Option kq_V} {x : Int32} {r : Nat} (j : Nat) (hok : kq_hr r = true) (hx : x = nI j) (hj : j < 8) (k : kq_S km_H_luckySet d 9 [x0, x1] (kq_I (kq_rI μ r 3 j) :: st) μ Q) : kq_S km_H_luckySet d 8 [x0, x1] (kq_I x :: kq_R r 3 :: st) μ Q := kq_iald 3 j (show decode km_H_luckySet.2.1 8 = .ok (.iaload, 1) by decide +kernel) ⟨rfl, by decide⟩ hok hx hj k
theorem ks_H_luckySet_8n {d : Nat} {st : List kq_V} {μ : kq_M} {Q : Option kq_V → kq_M → Prop} {x0 x1 : Option kq_V} {r : Nat} {j : Nat} (hok : kq_hr r = true) (hj : j < 8) (k : kq_S km_H_luckySet d 9 [x0, x1] (kq_I (kq_rI μ r 3 j) :: st) μ Q) : kq_S km_H_luckySet d 8 [x0, x1] (kq_I (nI j) :: kq_R r 3 :: st) μ Q := kq_iald 3 j (show decode km_H_luckySet.2.1 8 = .ok (.iaload, 1) by decide +kernel) ⟨rfl, by decide⟩ hok rfl hj k
theorem ks_H_luckySet_9 {d : Nat} {st : List kq_V} {μ : kq_M} {Q : Option kq_V → kq_M → Prop} {x0 x1 : Option kq_V} (k : kq_S km_H_luckySet d 10 [x0, x1] (kq_I (-1) :: st) μ Q) : kq_S km_H_luckySet d 9 [x0, x1] (st) μ Q := kq_iconst (v := (-1)) (show decode km_H_luckySet.2.1 9 = .ok (.iconst (-1), 1) by decide +kernel) (by decide) k
theorem ks_H_luckySet_10 {d : Nat} {st : List kq_V} {μ : kq_M} {Q : Option kq_V → kq_M → Prop} {x0 x1 : Option kq_V} {x y : Int32} (k : kq_S km_H_luckySet d 11 [x0, x1] (kq_I (x ^^^ y) :: st) μ Q) : kq_S km_H_luckySet d 10 [x0, x1] (kq_I y :: kq_I x :: st) μ Q := kq_ixor (show decode km_H_luckySet.2.1 10 = .ok (.ixor, 1) by decide +kernel) k
theorem ks_H_luckySet_11 {d : Nat} {st : List kq_V} {μ : kq_M} {Q : Option kq_V → kq_M → Prop} {x0 x1 : Option kq_V} {x y : Int32} (k : kq_S km_H_luckySet d 12 [x0, x1] (kq_I (x &&& y) :: st) μ Q) : kq_S km_H_luckySet d 11 [x0, x1] (kq_I y :: kq_I x :: st) μ Q := kq_iand (show decode km_H_luckySet.2.1 11 = .ok (.iand, 1) by decide +kernel) k
theorem ks_H_luckySet_12 {d : Nat} {st : List kq_V} {μ : kq_M} {Q : Option kq_V → kq_M → Prop} {x1 : Option kq_V} {r : Nat} (k : kq_S km_H_luckySet d 13 [some (kq_R r 1), x1] (kq_R r 1 :: st) μ Q) : kq_S km_H_luckySet d 12 [some (kq_R r 1), x1] (st) μ Q := kq_aload_n 0 (show decode km_H_luckySet.2.1 12 = .ok (.aload_n 0, 1) by decide +kernel) rfl rfl (by decide) k
theorem ks_H_luckySet_13 {d : Nat} {st : List kq_V} {μ : kq_M} {Q : Option kq_V → kq_M → Prop} {x0 x1 : Option kq_V} {r : Nat} (hok : kq_hr r = true) (k : kq_S km_H_luckySet d 16 [x0, x1] (kq_R r 4 :: st) μ Q) : kq_S km_H_luckySet d 13 [x0, x1] (kq_R r 1 :: st) μ Q := kq_getf 1 9 (show decode km_H_luckySet.2.1 13 = .ok (.getfield 40, 3) by decide +kernel) kx_104 ⟨rfl, by decide, by decide, by decide⟩ (show (4 : Nat) ≠ 45 by decide) hok k
theorem ks_H_luckySet_16 {d : Nat} {st : List kq_V} {μ : kq_M} {Q : Option kq_V → kq_M → Prop} {x0 : Option kq_V} {v : Int32} (k : kq_S km_H_luckySet d 17 [x0, some (kq_I v)] (kq_I v :: st) μ Q) : kq_S km_H_luckySet d 16 [x0, some (kq_I v)] (st) μ Q := kq_iload_n 1 (show decode km_H_luckySet.2.1 16 = .ok (.iload_n 1, 1) by decide +kernel) rfl rfl k
theorem ks_H_luckySet_17 {d : Nat} {st : List kq_V} {μ : kq_M} {Q : Option kq_V → kq_M → Prop} {x0 x1 : Option kq_V} {x : Int32} {r : Nat} (j : Nat) (hok : kq_hr r = true) (hx : x = nI j) (hj : j < 8) (k : kq_S km_H_luckySet d 18 [x0, x1] (kq_I (kq_rI μ r 4 j) :: st) μ Q) : kq_S km_H_luckySet d 17 [x0, x1] (kq_I x :: kq_R r 4 :: st) μ Q := kq_iald 4 j (show decode km_H_luckySet.2.1 17 = .ok (.iaload, 1) by decide +kernel) ⟨rfl, by decide⟩ hok hx hj k
theorem ks_H_luckySet_17n {d : Nat} {st : List kq_V} {μ : kq_M} {Q : Option kq_V → kq_M → Prop} {x0 x1 : Option kq_V} {r : Nat} {j : Nat} (hok : kq_hr r = true) (hj : j < 8) (k : kq_S km_H_luckySet d 18 [x0, x1] (kq_I (kq_rI μ r 4 j) :: st) μ Q) : kq_S km_H_luckySet d 17 [x0, x1] (kq_I (nI j) :: kq_R r 4 :: st) μ Q := kq_iald 4 j (show decode km_H_luckySet.2.1 17 = .ok (.iaload, 1) by decide +kernel) ⟨rfl, by decide⟩ hok rfl hj k
theorem ks_H_luckySet_18 {d : Nat} {st : List kq_V} {μ : kq_M} {Q : Option kq_V → kq_M → Prop} {x1 : Option kq_V} {r : Nat} (k : kq_S km_H_luckySet d 19 [some (kq_R r 1), x1] (kq_R r 1 :: st) μ Q) : kq_S km_H_luckySet d 18 [some (kq_R r 1), x1] (st) μ Q := kq_aload_n 0 (show decode km_H_luckySet.2.1 18 = .ok (.aload_n 0, 1) by decide +kernel) rfl rfl (by decide) k
theorem ks_H_luckySet_19 {d : Nat} {st : List kq_V} {μ : kq_M} {Q : Option kq_V → kq_M → Prop} {x0 x1 : Option kq_V} {r : Nat} (hok : kq_hr r = true) (k : kq_S km_H_luckySet d 22 [x0, x1] (kq_I (kq_rI μ r 1 0) :: st) μ Q) : kq_S km_H_luckySet d 19 [x0, x1] (kq_R r 1 :: st) μ Q := kq_getf 1 0 (show decode km_H_luckySet.2.1 19 = .ok (.getfield 9, 3) by decide +kernel) kx_82 ⟨rfl, by decide, by decide, by decide⟩ (show (0 : Nat) ≠ 45 by decide) hok k
theorem ks_H_luckySet_22 {d : Nat} {st : List kq_V} {μ : kq_M} {Q : Option kq_V → kq_M → Prop} {x0 x1 : Option kq_V} {x y : Int32} (k : kq_S km_H_luckySet d 23 [x0, x1] (kq_I (x ^^^ y) :: st) μ Q) : kq_S km_H_luckySet d 22 [x0, x1] (kq_I y :: kq_I x :: st) μ Q := kq_ixor (show decode km_H_luckySet.2.1 22 = .ok (.ixor, 1) by decide +kernel) k
theorem ks_H_luckySet_23 {d : Nat} {st : List kq_V} {μ : kq_M} {Q : Option kq_V → kq_M → Prop} {x0 x1 : Option kq_V} (k : kq_S km_H_luckySet d 24 [x0, x1] (kq_I (-1) :: st) μ Q) : kq_S km_H_luckySet d 23 [x0, x1] (st) μ Q := kq_iconst (v := (-1)) (show decode km_H_luckySet.2.1 23 = .ok (.iconst (-1), 1) by decide +kernel) (by decide) k
theorem ks_H_luckySet_24 {d : Nat} {st : List kq_V} {μ : kq_M} {Q : Option kq_V → kq_M → Prop} {x0 x1 : Option kq_V} {x y : Int32} (k : kq_S km_H_luckySet d 25 [x0, x1] (kq_I (x ^^^ y) :: st) μ Q) : kq_S km_H_luckySet d 24 [x0, x1] (kq_I y :: kq_I x :: st) μ Q := kq_ixor (show decode km_H_luckySet.2.1 24 = .ok (.ixor, 1) by decide +kernel) k
theorem ks_H_luckySet_25 {d : Nat} {st : List kq_V} {μ : kq_M} {Q : Option kq_V → kq_M → Prop} {x0 x1 : Option kq_V} {x y : Int32} (k : kq_S km_H_luckySet d 26 [x0, x1] (kq_I (x &&& y) :: st) μ Q) : kq_S km_H_luckySet d 25 [x0, x1] (kq_I y :: kq_I x :: st) μ Q := kq_iand (show decode km_H_luckySet.2.1 25 = .ok (.iand, 1) by decide +kernel) k
theorem ks_H_luckySet_26 {d : Nat} {μ : kq_M} {Q : Option kq_V → kq_M → Prop} {x0 x1 : Option kq_V} {v : Int32} (k : Q (some (kq_I v)) μ) : kq_S km_H_luckySet d 26 [x0, x1] [kq_I v] μ Q := kq_iret (show decode km_H_luckySet.2.1 26 = .ok (.ireturn, 1) by decide +kernel) rfl k
theorem ks_H_wrongSet_0 {d : Nat} {st : List kq_V} {μ : kq_M} {Q : Option kq_V → kq_M → Prop} {x0 x1 : Option kq_V} (k : kq_S km_H_wrongSet d 3 [x0, x1] (kq_I 255 :: st) μ Q) : kq_S km_H_wrongSet d 0 [x0, x1] (st) μ Q := kq_sipush (v := 255) (show decode km_H_wrongSet.2.1 0 = .ok (.sipush 255, 3) by decide +kernel) (by decide) k
theorem ks_H_wrongSet_3 {d : Nat} {st : List kq_V} {μ : kq_M} {Q : Option kq_V → kq_M → Prop} {x1 : Option kq_V} {r : Nat} (k : kq_S km_H_wrongSet d 4 [some (kq_R r 1), x1] (kq_R r 1 :: st) μ Q) : kq_S km_H_wrongSet d 3 [some (kq_R r 1), x1] (st) μ Q := kq_aload_n 0 (show decode km_H_wrongSet.2.1 3 = .ok (.aload_n 0, 1) by decide +kernel) rfl rfl (by decide) k
theorem ks_H_wrongSet_4 {d : Nat} {st : List kq_V} {μ : kq_M} {Q : Option kq_V → kq_M → Prop} {x0 x1 : Option kq_V} {r : Nat} (hok : kq_hr r = true) (k : kq_S km_H_wrongSet d 7 [x0, x1] (kq_R r 3 :: st) μ Q) : kq_S km_H_wrongSet d 4 [x0, x1] (kq_R r 1 :: st) μ Q := kq_getf 1 8 (show decode km_H_wrongSet.2.1 4 = .ok (.getfield 37, 3) by decide +kernel) kx_101 ⟨rfl, by decide, by decide, by decide⟩ (show (3 : Nat) ≠ 45 by decide) hok k
theorem ks_H_wrongSet_7 {d : Nat} {st : List kq_V} {μ : kq_M} {Q : Option kq_V → kq_M → Prop} {x0 : Option kq_V} {v : Int32} (k : kq_S km_H_wrongSet d 8 [x0, some (kq_I v)] (kq_I v :: st) μ Q) : kq_S km_H_wrongSet d 7 [x0, some (kq_I v)] (st) μ Q := kq_iload_n 1 (show decode km_H_wrongSet.2.1 7 = .ok (.iload_n 1, 1) by decide +kernel) rfl rfl k
theorem ks_H_wrongSet_8 {d : Nat} {st : List kq_V} {μ : kq_M} {Q : Option kq_V → kq_M → Prop} {x0 x1 : Option kq_V} {x : Int32} {r : Nat} (j : Nat) (hok : kq_hr r = true) (hx : x = nI j) (hj : j < 8) (k : kq_S km_H_wrongSet d 9 [x0, x1] (kq_I (kq_rI μ r 3 j) :: st) μ Q) : kq_S km_H_wrongSet d 8 [x0, x1] (kq_I x :: kq_R r 3 :: st) μ Q := kq_iald 3 j (show decode km_H_wrongSet.2.1 8 = .ok (.iaload, 1) by decide +kernel) ⟨rfl, by decide⟩ hok hx hj k
theorem ks_H_wrongSet_8n {d : Nat} {st : List kq_V} {μ : kq_M} {Q : Option kq_V → kq_M → Prop} {x0 x1 : Option kq_V} {r : Nat} {j : Nat} (hok : kq_hr r = true) (hj : j < 8) (k : kq_S km_H_wrongSet d 9 [x0, x1] (kq_I (kq_rI μ r 3 j) :: st) μ Q) : kq_S km_H_wrongSet d 8 [x0, x1] (kq_I (nI j) :: kq_R r 3 :: st) μ Q := kq_iald 3 j (show decode km_H_wrongSet.2.1 8 = .ok (.iaload, 1) by decide +kernel) ⟨rfl, by decide⟩ hok rfl hj k
theorem ks_H_wrongSet_9 {d : Nat} {st : List kq_V} {μ : kq_M} {Q : Option kq_V → kq_M → Prop} {x0 x1 : Option kq_V} (k : kq_S km_H_wrongSet d 10 [x0, x1] (kq_I (-1) :: st) μ Q) : kq_S km_H_wrongSet d 9 [x0, x1] (st) μ Q := kq_iconst (v := (-1)) (show decode km_H_wrongSet.2.1 9 = .ok (.iconst (-1), 1) by decide +kernel) (by decide) k
theorem ks_H_wrongSet_10 {d : Nat} {st : List kq_V} {μ : kq_M} {Q : Option kq_V → kq_M → Prop} {x0 x1 : Option kq_V} {x y : Int32} (k : kq_S km_H_wrongSet d 11 [x0, x1] (kq_I (x ^^^ y) :: st) μ Q) : kq_S km_H_wrongSet d 10 [x0, x1] (kq_I y :: kq_I x :: st) μ Q := kq_ixor (show decode km_H_wrongSet.2.1 10 = .ok (.ixor, 1) by decide +kernel) k
theorem ks_H_wrongSet_11 {d : Nat} {st : List kq_V} {μ : kq_M} {Q : Option kq_V → kq_M → Prop} {x0 x1 : Option kq_V} {x y : Int32} (k : kq_S km_H_wrongSet d 12 [x0, x1] (kq_I (x &&& y) :: st) μ Q) : kq_S km_H_wrongSet d 11 [x0, x1] (kq_I y :: kq_I x :: st) μ Q := kq_iand (show decode km_H_wrongSet.2.1 11 = .ok (.iand, 1) by decide +kernel) k
theorem ks_H_wrongSet_12 {d : Nat} {st : List kq_V} {μ : kq_M} {Q : Option kq_V → kq_M → Prop} {x1 : Option kq_V} {r : Nat} (k : kq_S km_H_wrongSet d 13 [some (kq_R r 1), x1] (kq_R r 1 :: st) μ Q) : kq_S km_H_wrongSet d 12 [some (kq_R r 1), x1] (st) μ Q := kq_aload_n 0 (show decode km_H_wrongSet.2.1 12 = .ok (.aload_n 0, 1) by decide +kernel) rfl rfl (by decide) k
theorem ks_H_wrongSet_13 {d : Nat} {st : List kq_V} {μ : kq_M} {Q : Option kq_V → kq_M → Prop} {x0 x1 : Option kq_V} {r : Nat} (hok : kq_hr r = true) (k : kq_S km_H_wrongSet d 16 [x0, x1] (kq_R r 4 :: st) μ Q) : kq_S km_H_wrongSet d 13 [x0, x1] (kq_R r 1 :: st) μ Q := kq_getf 1 9 (show decode km_H_wrongSet.2.1 13 = .ok (.getfield 40, 3) by decide +kernel) kx_104 ⟨rfl, by decide, by decide, by decide⟩ (show (4 : Nat) ≠ 45 by decide) hok k
theorem ks_H_wrongSet_16 {d : Nat} {st : List kq_V} {μ : kq_M} {Q : Option kq_V → kq_M → Prop} {x0 : Option kq_V} {v : Int32} (k : kq_S km_H_wrongSet d 17 [x0, some (kq_I v)] (kq_I v :: st) μ Q) : kq_S km_H_wrongSet d 16 [x0, some (kq_I v)] (st) μ Q := kq_iload_n 1 (show decode km_H_wrongSet.2.1 16 = .ok (.iload_n 1, 1) by decide +kernel) rfl rfl k
theorem ks_H_wrongSet_17 {d : Nat} {st : List kq_V} {μ : kq_M} {Q : Option kq_V → kq_M → Prop} {x0 x1 : Option kq_V} {x : Int32} {r : Nat} (j : Nat) (hok : kq_hr r = true) (hx : x = nI j) (hj : j < 8) (k : kq_S km_H_wrongSet d 18 [x0, x1] (kq_I (kq_rI μ r 4 j) :: st) μ Q) : kq_S km_H_wrongSet d 17 [x0, x1] (kq_I x :: kq_R r 4 :: st) μ Q := kq_iald 4 j (show decode km_H_wrongSet.2.1 17 = .ok (.iaload, 1) by decide +kernel) ⟨rfl, by decide⟩ hok hx hj k
theorem ks_H_wrongSet_17n {d : Nat} {st : List kq_V} {μ : kq_M} {Q : Option kq_V → kq_M → Prop} {x0 x1 : Option kq_V} {r : Nat} {j : Nat} (hok : kq_hr r = true) (hj : j < 8) (k : kq_S km_H_wrongSet d 18 [x0, x1] (kq_I (kq_rI μ r 4 j) :: st) μ Q) : kq_S km_H_wrongSet d 17 [x0, x1] (kq_I (nI j) :: kq_R r 4 :: st) μ Q := kq_iald 4 j (show decode km_H_wrongSet.2.1 17 = .ok (.iaload, 1) by decide +kernel) ⟨rfl, by decide⟩ hok rfl hj k
theorem ks_H_wrongSet_18 {d : Nat} {st : List kq_V} {μ : kq_M} {Q : Option kq_V → kq_M → Prop} {x1 : Option kq_V} {r : Nat} (k : kq_S km_H_wrongSet d 19 [some (kq_R r 1), x1] (kq_R r 1 :: st) μ Q) : kq_S km_H_wrongSet d 18 [some (kq_R r 1), x1] (st) μ Q := kq_aload_n 0 (show decode km_H_wrongSet.2.1 18 = .ok (.aload_n 0, 1) by decide +kernel) rfl rfl (by decide) k
theorem ks_H_wrongSet_19 {d : Nat} {st : List kq_V} {μ : kq_M} {Q : Option kq_V → kq_M → Prop} {x0 x1 : Option kq_V} {r : Nat} (hok : kq_hr r = true) (k : kq_S km_H_wrongSet d 22 [x0, x1] (kq_I (kq_rI μ r 1 0) :: st) μ Q) : kq_S km_H_wrongSet d 19 [x0, x1] (kq_R r 1 :: st) μ Q := kq_getf 1 0 (show decode km_H_wrongSet.2.1 19 = .ok (.getfield 9, 3) by decide +kernel) kx_82 ⟨rfl, by decide, by decide, by decide⟩ (show (0 : Nat) ≠ 45 by decide) hok k
theorem ks_H_wrongSet_22 {d : Nat} {st : List kq_V} {μ : kq_M} {Q : Option kq_V → kq_M → Prop} {x0 x1 : Option kq_V} {x y : Int32} (k : kq_S km_H_wrongSet d 23 [x0, x1] (kq_I (x ^^^ y) :: st) μ Q) : kq_S km_H_wrongSet d 22 [x0, x1] (kq_I y :: kq_I x :: st) μ Q := kq_ixor (show decode km_H_wrongSet.2.1 22 = .ok (.ixor, 1) by decide +kernel) k
theorem ks_H_wrongSet_23 {d : Nat} {st : List kq_V} {μ : kq_M} {Q : Option kq_V → kq_M → Prop} {x0 x1 : Option kq_V} {x y : Int32} (k : kq_S km_H_wrongSet d 24 [x0, x1] (kq_I (x &&& y) :: st) μ Q) : kq_S km_H_wrongSet d 23 [x0, x1] (kq_I y :: kq_I x :: st) μ Q := kq_iand (show decode km_H_wrongSet.2.1 23 = .ok (.iand, 1) by decide +kernel) k
theorem ks_H_wrongSet_24 {d : Nat} {μ : kq_M} {Q : Option kq_V → kq_M → Prop} {x0 x1 : Option kq_V} {v : Int32} (k : Q (some (kq_I v)) μ) : kq_S km_H_wrongSet d 24 [x0, x1] [kq_I v] μ Q := kq_iret (show decode km_H_wrongSet.2.1 24 = .ok (.ireturn, 1) by decide +kernel) rfl k
theorem ks_H_doubtOf_0 {d : Nat} {st : List kq_V} {μ : kq_M} {Q : Option kq_V → kq_M → Prop} {x1 x2 : Option kq_V} {r : Nat} (k : kq_S km_H_doubtOf d 1 [some (kq_R r 1), x1, x2] (kq_R r 1 :: st) μ Q) : kq_S km_H_doubtOf d 0 [some (kq_R r 1), x1, x2] (st) μ Q := kq_aload_n 0 (show decode km_H_doubtOf.2.1 0 = .ok (.aload_n 0, 1) by decide +kernel) rfl rfl (by decide) k
theorem ks_H_doubtOf_1 {d : Nat} {st : List kq_V} {μ : kq_M} {Q : Option kq_V → kq_M → Prop} {x0 x1 x2 : Option kq_V} {r : Nat} (hok : kq_hr r = true) (k : kq_S km_H_doubtOf d 4 [x0, x1, x2] (kq_R r 2 :: st) μ Q) : kq_S km_H_doubtOf d 1 [x0, x1, x2] (kq_R r 1 :: st) μ Q := kq_getf 1 7 (show decode km_H_doubtOf.2.1 1 = .ok (.getfield 33, 3) by decide +kernel) kx_99 ⟨rfl, by decide, by decide, by decide⟩ (show (2 : Nat) ≠ 45 by decide) hok k
theorem ks_H_doubtOf_4 {d : Nat} {st : List kq_V} {μ : kq_M} {Q : Option kq_V → kq_M → Prop} {x0 x2 : Option kq_V} {v : Int32} (k : kq_S km_H_doubtOf d 5 [x0, some (kq_I v), x2] (kq_I v :: st) μ Q) : kq_S km_H_doubtOf d 4 [x0, some (kq_I v), x2] (st) μ Q := kq_iload_n 1 (show decode km_H_doubtOf.2.1 4 = .ok (.iload_n 1, 1) by decide +kernel) rfl rfl k
theorem ks_H_doubtOf_5 {d : Nat} {st : List kq_V} {μ : kq_M} {Q : Option kq_V → kq_M → Prop} {x0 x1 x2 : Option kq_V} {x : Int32} {r : Nat} (j : Nat) (hok : kq_hr r = true) (hx : x = nI j) (hj : j < 8) (k : kq_S km_H_doubtOf d 6 [x0, x1, x2] (kq_I (kq_rI μ r 2 j) :: st) μ Q) : kq_S km_H_doubtOf d 5 [x0, x1, x2] (kq_I x :: kq_R r 2 :: st) μ Q := kq_iald 2 j (show decode km_H_doubtOf.2.1 5 = .ok (.iaload, 1) by decide +kernel) ⟨rfl, by decide⟩ hok hx hj k
theorem ks_H_doubtOf_5n {d : Nat} {st : List kq_V} {μ : kq_M} {Q : Option kq_V → kq_M → Prop} {x0 x1 x2 : Option kq_V} {r : Nat} {j : Nat} (hok : kq_hr r = true) (hj : j < 8) (k : kq_S km_H_doubtOf d 6 [x0, x1, x2] (kq_I (kq_rI μ r 2 j) :: st) μ Q) : kq_S km_H_doubtOf d 5 [x0, x1, x2] (kq_I (nI j) :: kq_R r 2 :: st) μ Q := kq_iald 2 j (show decode km_H_doubtOf.2.1 5 = .ok (.iaload, 1) by decide +kernel) ⟨rfl, by decide⟩ hok rfl hj k
theorem ks_H_doubtOf_6 {d : Nat} {st : List kq_V} {μ : kq_M} {Q : Option kq_V → kq_M → Prop} {x0 x1 x2 : Option kq_V} {v : Int32} (hp : kq_nj x1 = true) (k : kq_S km_H_doubtOf d 7 [x0, x1, some (kq_I v)] (st) μ Q) : kq_S km_H_doubtOf d 6 [x0, x1, x2] (kq_I v :: st) μ Q := kq_istore_n 2 (show decode km_H_doubtOf.2.1 6 = .ok (.istore_n 2, 1) by decide +kernel) rfl (by decide) (kq_nl_of rfl hp) k
theorem ks_H_doubtOf_7 {d : Nat} {st : List kq_V} {μ : kq_M} {Q : Option kq_V → kq_M → Prop} {x0 x1 : Option kq_V} {v : Int32} (k : kq_S km_H_doubtOf d 8 [x0, x1, some (kq_I v)] (kq_I v :: st) μ Q) : kq_S km_H_doubtOf d 7 [x0, x1, some (kq_I v)] (st) μ Q := kq_iload_n 2 (show decode km_H_doubtOf.2.1 7 = .ok (.iload_n 2, 1) by decide +kernel) rfl rfl k
theorem ks_H_doubtOf_8 {d : Nat} {st : List kq_V} {μ : kq_M} {Q : Option kq_V → kq_M → Prop} {x0 x1 x2 : Option kq_V} {a1 : kq_V} (hst : (st.map kq_cat).sum ≤ 8) (k : kq_Call d km_K_isKind [a1] μ (kq_K km_H_doubtOf (d + 1) 11 [x0, x1, x2] st Q)) : kq_S km_H_doubtOf (d + 1) 8 [x0, x1, x2] (a1 :: st) μ Q := kq_callN (M' := km_K_isKind) [a1] (show decode km_H_doubtOf.2.1 8 = .ok (.invokestatic 50, 3) by decide +kernel) kq_nwK_ok kw_K_isKind kg_K_isKind hst k
theorem ks_H_doubtOf_11 {d : Nat} {st : List kq_V} {μ : kq_M} {Q : Option kq_V → kq_M → Prop} {x0 x1 x2 : Option kq_V} {x : Int32} (kt : x = 0 → kq_S km_H_doubtOf d 22 [x0, x1, x2] st μ Q) (kf : ¬ x = 0 → kq_S km_H_doubtOf d 14 [x0, x1, x2] st μ Q) : kq_S km_H_doubtOf d 11 [x0, x1, x2] (kq_I x :: st) μ Q := kq_if_eq 22 (show decode km_H_doubtOf.2.1 11 = .ok (.ifCond .eq 11, 3) by decide +kernel) (by decide) kt kf
theorem ks_H_doubtOf_14 {d : Nat} {st : List kq_V} {μ : kq_M} {Q : Option kq_V → kq_M → Prop} {x0 x1 x2 : Option kq_V} (k : kq_S km_H_doubtOf d 17 [x0, x1, x2] (kq_R 0 42 :: st) μ Q) : kq_S km_H_doubtOf d 14 [x0, x1, x2] (st) μ Q := kq_gs42 (show decode km_H_doubtOf.2.1 14 = .ok (.getstatic 54, 3) by decide +kernel) rfl k
theorem ks_H_doubtOf_17 {d : Nat} {st : List kq_V} {μ : kq_M} {Q : Option kq_V → kq_M → Prop} {x0 x1 : Option kq_V} {v : Int32} (k : kq_S km_H_doubtOf d 18 [x0, x1, some (kq_I v)] (kq_I v :: st) μ Q) : kq_S km_H_doubtOf d 17 [x0, x1, some (kq_I v)] (st) μ Q := kq_iload_n 2 (show decode km_H_doubtOf.2.1 17 = .ok (.iload_n 2, 1) by decide +kernel) rfl rfl k
theorem ks_H_doubtOf_18 {d : Nat} {st : List kq_V} {μ : kq_M} {Q : Option kq_V → kq_M → Prop} {x0 x1 x2 : Option kq_V} {x : Int32} (j : Nat) (hx : x = nI j) (hj : j < 6) (k : kq_S km_H_doubtOf d 19 [x0, x1, x2] (kq_I (kq_DK j) :: st) μ Q) : kq_S km_H_doubtOf d 18 [x0, x1, x2] (kq_I x :: kq_R 0 42 :: st) μ Q := kq_ald42 j (show decode km_H_doubtOf.2.1 18 = .ok (.iaload, 1) by decide +kernel) hx hj k
theorem ks_H_doubtOf_19 {d : Nat} {st : List kq_V} {μ : kq_M} {Q : Option kq_V → kq_M → Prop} {x0 x1 x2 : Option kq_V} (k : kq_S km_H_doubtOf d 23 [x0, x1, x2] (st) μ Q) : kq_S km_H_doubtOf d 19 [x0, x1, x2] (st) μ Q := kq_goto 23 (show decode km_H_doubtOf.2.1 19 = .ok (.goto 4, 3) by decide +kernel) (by decide) k
theorem ks_H_doubtOf_22 {d : Nat} {st : List kq_V} {μ : kq_M} {Q : Option kq_V → kq_M → Prop} {x0 x1 x2 : Option kq_V} (k : kq_S km_H_doubtOf d 23 [x0, x1, x2] (kq_I 0 :: st) μ Q) : kq_S km_H_doubtOf d 22 [x0, x1, x2] (st) μ Q := kq_iconst (v := 0) (show decode km_H_doubtOf.2.1 22 = .ok (.iconst 0, 1) by decide +kernel) (by decide) k
theorem ks_H_doubtOf_23 {d : Nat} {μ : kq_M} {Q : Option kq_V → kq_M → Prop} {x0 x1 x2 : Option kq_V} {v : Int32} (k : Q (some (kq_I v)) μ) : kq_S km_H_doubtOf d 23 [x0, x1, x2] [kq_I v] μ Q := kq_iret (show decode km_H_doubtOf.2.1 23 = .ok (.ireturn, 1) by decide +kernel) rfl k
theorem ks_H_heatBy_0 {d : Nat} {st : List kq_V} {μ : kq_M} {Q : Option kq_V → kq_M → Prop} {x1 x2 : Option kq_V} {r : Nat} (k : kq_S km_H_heatBy d 1 [some (kq_R r 1), x1, x2] (kq_R r 1 :: st) μ Q) : kq_S km_H_heatBy d 0 [some (kq_R r 1), x1, x2] (st) μ Q := kq_aload_n 0 (show decode km_H_heatBy.2.1 0 = .ok (.aload_n 0, 1) by decide +kernel) rfl rfl (by decide) k
theorem ks_H_heatBy_1 {d : Nat} {st : List kq_V} {μ : kq_M} {Q : Option kq_V → kq_M → Prop} {x0 x1 x2 : Option kq_V} {r : Nat} (hok : kq_hr r = true) (k : kq_S km_H_heatBy d 4 [x0, x1, x2] (kq_R r 2 :: st) μ Q) : kq_S km_H_heatBy d 1 [x0, x1, x2] (kq_R r 1 :: st) μ Q := kq_getf 1 7 (show decode km_H_heatBy.2.1 1 = .ok (.getfield 33, 3) by decide +kernel) kx_99 ⟨rfl, by decide, by decide, by decide⟩ (show (2 : Nat) ≠ 45 by decide) hok k
theorem ks_H_heatBy_4 {d : Nat} {st : List kq_V} {μ : kq_M} {Q : Option kq_V → kq_M → Prop} {x0 x2 : Option kq_V} {v : Int32} (k : kq_S km_H_heatBy d 5 [x0, some (kq_I v), x2] (kq_I v :: st) μ Q) : kq_S km_H_heatBy d 4 [x0, some (kq_I v), x2] (st) μ Q := kq_iload_n 1 (show decode km_H_heatBy.2.1 4 = .ok (.iload_n 1, 1) by decide +kernel) rfl rfl k
theorem ks_H_heatBy_5 {d : Nat} {st : List kq_V} {μ : kq_M} {Q : Option kq_V → kq_M → Prop} {x0 x1 x2 : Option kq_V} {x : Int32} {r : Nat} (j : Nat) (hok : kq_hr r = true) (hx : x = nI j) (hj : j < 8) (k : kq_S km_H_heatBy d 6 [x0, x1, x2] (kq_I (kq_rI μ r 2 j) :: st) μ Q) : kq_S km_H_heatBy d 5 [x0, x1, x2] (kq_I x :: kq_R r 2 :: st) μ Q := kq_iald 2 j (show decode km_H_heatBy.2.1 5 = .ok (.iaload, 1) by decide +kernel) ⟨rfl, by decide⟩ hok hx hj k
theorem ks_H_heatBy_5n {d : Nat} {st : List kq_V} {μ : kq_M} {Q : Option kq_V → kq_M → Prop} {x0 x1 x2 : Option kq_V} {r : Nat} {j : Nat} (hok : kq_hr r = true) (hj : j < 8) (k : kq_S km_H_heatBy d 6 [x0, x1, x2] (kq_I (kq_rI μ r 2 j) :: st) μ Q) : kq_S km_H_heatBy d 5 [x0, x1, x2] (kq_I (nI j) :: kq_R r 2 :: st) μ Q := kq_iald 2 j (show decode km_H_heatBy.2.1 5 = .ok (.iaload, 1) by decide +kernel) ⟨rfl, by decide⟩ hok rfl hj k
theorem ks_H_heatBy_6 {d : Nat} {st : List kq_V} {μ : kq_M} {Q : Option kq_V → kq_M → Prop} {x0 x1 x2 : Option kq_V} {x : Int32} (k0 : x = 1 → kq_S km_H_heatBy d 40 [x0, x1, x2] st μ Q) (k1 : x = 2 → kq_S km_H_heatBy d 47 [x0, x1, x2] st μ Q) (k2 : x = 3 → kq_S km_H_heatBy d 54 [x0, x1, x2] st μ Q) (k3 : x = 4 → kq_S km_H_heatBy d 62 [x0, x1, x2] st μ Q) (k4 : x = 5 → kq_S km_H_heatBy d 89 [x0, x1, x2] st μ Q) (kd : x.toInt < 1 ∨ 5 < x.toInt → kq_S km_H_heatBy d 109 [x0, x1, x2] st μ Q) : kq_S km_H_heatBy d 6 [x0, x1, x2] (kq_I x :: st) μ Q := by
  have D := (show decode km_H_heatBy.2.1 6 = .ok (.tableswitch 103 1 5 #[34, 41, 48, 56, 83], 34) by decide +kernel)
  by_cases h1 : x.toInt < 1
  · exact kq_tabOut 109 D (Or.inl h1) (by decide) (kd (Or.inl h1))
  by_cases h2 : 5 < x.toInt
  · exact kq_tabOut 109 D (Or.inr h2) (by decide) (kd (Or.inr h2))
  rcases (show x.toInt = 1 ∨ x.toInt = 2 ∨ x.toInt = 3 ∨ x.toInt = 4 ∨ x.toInt = 5 by omega) with h | h | h | h | h
  · have e : x = 1 := Int32.toInt_inj.mp (h.trans (by decide))
    exact kq_tabIn 40 D h1 h2 (by rw [h]; rfl) (by decide) (k0 e)
  · have e : x = 2 := Int32.toInt_inj.mp (h.trans (by decide))
    exact kq_tabIn 47 D h1 h2 (by rw [h]; rfl) (by decide) (k1 e)
  · have e : x = 3 := Int32.toInt_inj.mp (h.trans (by decide))
    exact kq_tabIn 54 D h1 h2 (by rw [h]; rfl) (by decide) (k2 e)
  · have e : x = 4 := Int32.toInt_inj.mp (h.trans (by decide))
    exact kq_tabIn 62 D h1 h2 (by rw [h]; rfl) (by decide) (k3 e)
  · have e : x = 5 := Int32.toInt_inj.mp (h.trans (by decide))
    exact kq_tabIn 89 D h1 h2 (by rw [h]; rfl) (by decide) (k4 e)
theorem ks_H_heatBy_40 {d : Nat} {st : List kq_V} {μ : kq_M} {Q : Option kq_V → kq_M → Prop} {x1 x2 : Option kq_V} {r : Nat} (k : kq_S km_H_heatBy d 41 [some (kq_R r 1), x1, x2] (kq_R r 1 :: st) μ Q) : kq_S km_H_heatBy d 40 [some (kq_R r 1), x1, x2] (st) μ Q := kq_aload_n 0 (show decode km_H_heatBy.2.1 40 = .ok (.aload_n 0, 1) by decide +kernel) rfl rfl (by decide) k
theorem ks_H_heatBy_41 {d : Nat} {st : List kq_V} {μ : kq_M} {Q : Option kq_V → kq_M → Prop} {x0 x2 : Option kq_V} {v : Int32} (k : kq_S km_H_heatBy d 42 [x0, some (kq_I v), x2] (kq_I v :: st) μ Q) : kq_S km_H_heatBy d 41 [x0, some (kq_I v), x2] (st) μ Q := kq_iload_n 1 (show decode km_H_heatBy.2.1 41 = .ok (.iload_n 1, 1) by decide +kernel) rfl rfl k
theorem ks_H_heatBy_42 {d : Nat} {st : List kq_V} {μ : kq_M} {Q : Option kq_V → kq_M → Prop} {x0 x1 : Option kq_V} {v : Int32} (k : kq_S km_H_heatBy d 43 [x0, x1, some (kq_I v)] (kq_I v :: st) μ Q) : kq_S km_H_heatBy d 42 [x0, x1, some (kq_I v)] (st) μ Q := kq_iload_n 2 (show decode km_H_heatBy.2.1 42 = .ok (.iload_n 2, 1) by decide +kernel) rfl rfl k
theorem ks_H_heatBy_43 {d : Nat} {st : List kq_V} {μ : kq_M} {Q : Option kq_V → kq_M → Prop} {x0 x1 x2 : Option kq_V} {a1 a2 : kq_V} {r : Nat} (hok : kq_hr r = true) (hst : (st.map kq_cat).sum ≤ 8) (k : kq_Call d km_H_plumberHeat [kq_R r 1, a1, a2] μ (kq_K km_H_heatBy (d + 1) 46 [x0, x1, x2] st Q)) : kq_S km_H_heatBy (d + 1) 43 [x0, x1, x2] (a2 :: a1 :: kq_R r 1 :: st) μ Q := kq_callV (M' := km_H_plumberHeat) [a1, a2] (show decode km_H_heatBy.2.1 43 = .ok (.invokevirtual 66, 3) by decide +kernel) kx_293 kw_H_plumberHeat kg_H_plumberHeat (kq_rc_obj 1 ⟨rfl, by decide, by decide, rfl⟩ hok) hst k
theorem ks_H_heatBy_46 {d : Nat} {μ : kq_M} {Q : Option kq_V → kq_M → Prop} {x0 x1 x2 : Option kq_V} {v : Int32} (k : Q (some (kq_I v)) μ) : kq_S km_H_heatBy d 46 [x0, x1, x2] [kq_I v] μ Q := kq_iret (show decode km_H_heatBy.2.1 46 = .ok (.ireturn, 1) by decide +kernel) rfl k
theorem ks_H_heatBy_47 {d : Nat} {st : List kq_V} {μ : kq_M} {Q : Option kq_V → kq_M → Prop} {x1 x2 : Option kq_V} {r : Nat} (k : kq_S km_H_heatBy d 48 [some (kq_R r 1), x1, x2] (kq_R r 1 :: st) μ Q) : kq_S km_H_heatBy d 47 [some (kq_R r 1), x1, x2] (st) μ Q := kq_aload_n 0 (show decode km_H_heatBy.2.1 47 = .ok (.aload_n 0, 1) by decide +kernel) rfl rfl (by decide) k
theorem ks_H_heatBy_48 {d : Nat} {st : List kq_V} {μ : kq_M} {Q : Option kq_V → kq_M → Prop} {x0 x2 : Option kq_V} {v : Int32} (k : kq_S km_H_heatBy d 49 [x0, some (kq_I v), x2] (kq_I v :: st) μ Q) : kq_S km_H_heatBy d 48 [x0, some (kq_I v), x2] (st) μ Q := kq_iload_n 1 (show decode km_H_heatBy.2.1 48 = .ok (.iload_n 1, 1) by decide +kernel) rfl rfl k
theorem ks_H_heatBy_49 {d : Nat} {st : List kq_V} {μ : kq_M} {Q : Option kq_V → kq_M → Prop} {x0 x1 : Option kq_V} {v : Int32} (k : kq_S km_H_heatBy d 50 [x0, x1, some (kq_I v)] (kq_I v :: st) μ Q) : kq_S km_H_heatBy d 49 [x0, x1, some (kq_I v)] (st) μ Q := kq_iload_n 2 (show decode km_H_heatBy.2.1 49 = .ok (.iload_n 2, 1) by decide +kernel) rfl rfl k
theorem ks_H_heatBy_50 {d : Nat} {st : List kq_V} {μ : kq_M} {Q : Option kq_V → kq_M → Prop} {x0 x1 x2 : Option kq_V} {a1 a2 : kq_V} {r : Nat} (hok : kq_hr r = true) (hst : (st.map kq_cat).sum ≤ 8) (k : kq_Call d km_H_wifeHeat [kq_R r 1, a1, a2] μ (kq_K km_H_heatBy (d + 1) 53 [x0, x1, x2] st Q)) : kq_S km_H_heatBy (d + 1) 50 [x0, x1, x2] (a2 :: a1 :: kq_R r 1 :: st) μ Q := kq_callV (M' := km_H_wifeHeat) [a1, a2] (show decode km_H_heatBy.2.1 50 = .ok (.invokevirtual 70, 3) by decide +kernel) kx_306 kw_H_wifeHeat kg_H_wifeHeat (kq_rc_obj 1 ⟨rfl, by decide, by decide, rfl⟩ hok) hst k
theorem ks_H_heatBy_53 {d : Nat} {μ : kq_M} {Q : Option kq_V → kq_M → Prop} {x0 x1 x2 : Option kq_V} {v : Int32} (k : Q (some (kq_I v)) μ) : kq_S km_H_heatBy d 53 [x0, x1, x2] [kq_I v] μ Q := kq_iret (show decode km_H_heatBy.2.1 53 = .ok (.ireturn, 1) by decide +kernel) rfl k
theorem ks_H_heatBy_54 {d : Nat} {st : List kq_V} {μ : kq_M} {Q : Option kq_V → kq_M → Prop} {x1 x2 : Option kq_V} {r : Nat} (k : kq_S km_H_heatBy d 55 [some (kq_R r 1), x1, x2] (kq_R r 1 :: st) μ Q) : kq_S km_H_heatBy d 54 [some (kq_R r 1), x1, x2] (st) μ Q := kq_aload_n 0 (show decode km_H_heatBy.2.1 54 = .ok (.aload_n 0, 1) by decide +kernel) rfl rfl (by decide) k
theorem ks_H_heatBy_55 {d : Nat} {st : List kq_V} {μ : kq_M} {Q : Option kq_V → kq_M → Prop} {x0 x1 x2 : Option kq_V} {r : Nat} (hok : kq_hr r = true) (k : kq_S km_H_heatBy d 58 [x0, x1, x2] (kq_R r 5 :: st) μ Q) : kq_S km_H_heatBy d 55 [x0, x1, x2] (kq_R r 1 :: st) μ Q := kq_getf 1 10 (show decode km_H_heatBy.2.1 55 = .ok (.getfield 43, 3) by decide +kernel) kx_107 ⟨rfl, by decide, by decide, by decide⟩ (show (5 : Nat) ≠ 45 by decide) hok k
theorem ks_H_heatBy_58 {d : Nat} {st : List kq_V} {μ : kq_M} {Q : Option kq_V → kq_M → Prop} {x0 x2 : Option kq_V} {v : Int32} (k : kq_S km_H_heatBy d 59 [x0, some (kq_I v), x2] (kq_I v :: st) μ Q) : kq_S km_H_heatBy d 58 [x0, some (kq_I v), x2] (st) μ Q := kq_iload_n 1 (show decode km_H_heatBy.2.1 58 = .ok (.iload_n 1, 1) by decide +kernel) rfl rfl k
theorem ks_H_heatBy_59 {d : Nat} {st : List kq_V} {μ : kq_M} {Q : Option kq_V → kq_M → Prop} {x0 x1 x2 : Option kq_V} {x : Int32} {r : Nat} (j : Nat) (hok : kq_hr r = true) (hx : x = nI j) (hj : j < 8) (k : kq_S km_H_heatBy d 60 [x0, x1, x2] (kq_I (kq_rI μ r 5 j) :: st) μ Q) : kq_S km_H_heatBy d 59 [x0, x1, x2] (kq_I x :: kq_R r 5 :: st) μ Q := kq_iald 5 j (show decode km_H_heatBy.2.1 59 = .ok (.iaload, 1) by decide +kernel) ⟨rfl, by decide⟩ hok hx hj k
theorem ks_H_heatBy_59n {d : Nat} {st : List kq_V} {μ : kq_M} {Q : Option kq_V → kq_M → Prop} {x0 x1 x2 : Option kq_V} {r : Nat} {j : Nat} (hok : kq_hr r = true) (hj : j < 8) (k : kq_S km_H_heatBy d 60 [x0, x1, x2] (kq_I (kq_rI μ r 5 j) :: st) μ Q) : kq_S km_H_heatBy d 59 [x0, x1, x2] (kq_I (nI j) :: kq_R r 5 :: st) μ Q := kq_iald 5 j (show decode km_H_heatBy.2.1 59 = .ok (.iaload, 1) by decide +kernel) ⟨rfl, by decide⟩ hok rfl hj k
theorem ks_H_heatBy_60 {d : Nat} {st : List kq_V} {μ : kq_M} {Q : Option kq_V → kq_M → Prop} {x0 x1 x2 : Option kq_V} {x : Int32} (k : kq_S km_H_heatBy d 61 [x0, x1, x2] (kq_I (-x) :: st) μ Q) : kq_S km_H_heatBy d 60 [x0, x1, x2] (kq_I x :: st) μ Q := kq_ineg (show decode km_H_heatBy.2.1 60 = .ok (.ineg, 1) by decide +kernel) k
theorem ks_H_heatBy_61 {d : Nat} {μ : kq_M} {Q : Option kq_V → kq_M → Prop} {x0 x1 x2 : Option kq_V} {v : Int32} (k : Q (some (kq_I v)) μ) : kq_S km_H_heatBy d 61 [x0, x1, x2] [kq_I v] μ Q := kq_iret (show decode km_H_heatBy.2.1 61 = .ok (.ireturn, 1) by decide +kernel) rfl k
theorem ks_H_heatBy_62 {d : Nat} {st : List kq_V} {μ : kq_M} {Q : Option kq_V → kq_M → Prop} {x1 x2 : Option kq_V} {r : Nat} (k : kq_S km_H_heatBy d 63 [some (kq_R r 1), x1, x2] (kq_R r 1 :: st) μ Q) : kq_S km_H_heatBy d 62 [some (kq_R r 1), x1, x2] (st) μ Q := kq_aload_n 0 (show decode km_H_heatBy.2.1 62 = .ok (.aload_n 0, 1) by decide +kernel) rfl rfl (by decide) k
theorem ks_H_heatBy_63 {d : Nat} {st : List kq_V} {μ : kq_M} {Q : Option kq_V → kq_M → Prop} {x0 x2 : Option kq_V} {v : Int32} (k : kq_S km_H_heatBy d 64 [x0, some (kq_I v), x2] (kq_I v :: st) μ Q) : kq_S km_H_heatBy d 63 [x0, some (kq_I v), x2] (st) μ Q := kq_iload_n 1 (show decode km_H_heatBy.2.1 63 = .ok (.iload_n 1, 1) by decide +kernel) rfl rfl k
theorem ks_H_heatBy_64 {d : Nat} {st : List kq_V} {μ : kq_M} {Q : Option kq_V → kq_M → Prop} {x0 x1 : Option kq_V} {v : Int32} (k : kq_S km_H_heatBy d 65 [x0, x1, some (kq_I v)] (kq_I v :: st) μ Q) : kq_S km_H_heatBy d 64 [x0, x1, some (kq_I v)] (st) μ Q := kq_iload_n 2 (show decode km_H_heatBy.2.1 64 = .ok (.iload_n 2, 1) by decide +kernel) rfl rfl k
theorem ks_H_heatBy_65 {d : Nat} {st : List kq_V} {μ : kq_M} {Q : Option kq_V → kq_M → Prop} {x0 x1 x2 : Option kq_V} {a1 a2 : kq_V} {r : Nat} (hok : kq_hr r = true) (hst : (st.map kq_cat).sum ≤ 8) (k : kq_Call d km_H_plumberHeat [kq_R r 1, a1, a2] μ (kq_K km_H_heatBy (d + 1) 68 [x0, x1, x2] st Q)) : kq_S km_H_heatBy (d + 1) 65 [x0, x1, x2] (a2 :: a1 :: kq_R r 1 :: st) μ Q := kq_callV (M' := km_H_plumberHeat) [a1, a2] (show decode km_H_heatBy.2.1 65 = .ok (.invokevirtual 66, 3) by decide +kernel) kx_293 kw_H_plumberHeat kg_H_plumberHeat (kq_rc_obj 1 ⟨rfl, by decide, by decide, rfl⟩ hok) hst k
theorem ks_H_heatBy_68 {d : Nat} {st : List kq_V} {μ : kq_M} {Q : Option kq_V → kq_M → Prop} {x0 x1 x2 : Option kq_V} (k : kq_S km_H_heatBy d 69 [x0, x1, x2] (kq_I 2 :: st) μ Q) : kq_S km_H_heatBy d 68 [x0, x1, x2] (st) μ Q := kq_iconst (v := 2) (show decode km_H_heatBy.2.1 68 = .ok (.iconst 2, 1) by decide +kernel) (by decide) k
theorem ks_H_heatBy_69 {d : Nat} {st : List kq_V} {μ : kq_M} {Q : Option kq_V → kq_M → Prop} {x0 x1 x2 : Option kq_V} {x : Int32} (k : kq_S km_H_heatBy d 70 [x0, x1, x2] (kq_I (x / 2) :: st) μ Q) : kq_S km_H_heatBy d 69 [x0, x1, x2] (kq_I 2 :: kq_I x :: st) μ Q := kq_idiv (show decode km_H_heatBy.2.1 69 = .ok (.idiv, 1) by decide +kernel) (by decide) k
theorem ks_H_heatBy_70 {d : Nat} {st : List kq_V} {μ : kq_M} {Q : Option kq_V → kq_M → Prop} {x1 x2 : Option kq_V} {r : Nat} (k : kq_S km_H_heatBy d 71 [some (kq_R r 1), x1, x2] (kq_R r 1 :: st) μ Q) : kq_S km_H_heatBy d 70 [some (kq_R r 1), x1, x2] (st) μ Q := kq_aload_n 0 (show decode km_H_heatBy.2.1 70 = .ok (.aload_n 0, 1) by decide +kernel) rfl rfl (by decide) k
theorem ks_H_heatBy_71 {d : Nat} {st : List kq_V} {μ : kq_M} {Q : Option kq_V → kq_M → Prop} {x0 x2 : Option kq_V} {v : Int32} (k : kq_S km_H_heatBy d 72 [x0, some (kq_I v), x2] (kq_I v :: st) μ Q) : kq_S km_H_heatBy d 71 [x0, some (kq_I v), x2] (st) μ Q := kq_iload_n 1 (show decode km_H_heatBy.2.1 71 = .ok (.iload_n 1, 1) by decide +kernel) rfl rfl k
theorem ks_H_heatBy_72 {d : Nat} {st : List kq_V} {μ : kq_M} {Q : Option kq_V → kq_M → Prop} {x0 x1 x2 : Option kq_V} {a1 : kq_V} {r : Nat} (hok : kq_hr r = true) (hst : (st.map kq_cat).sum ≤ 8) (k : kq_Call d km_H_wrongSet [kq_R r 1, a1] μ (kq_K km_H_heatBy (d + 1) 75 [x0, x1, x2] st Q)) : kq_S km_H_heatBy (d + 1) 72 [x0, x1, x2] (a1 :: kq_R r 1 :: st) μ Q := kq_callV (M' := km_H_wrongSet) [a1] (show decode km_H_heatBy.2.1 72 = .ok (.invokevirtual 73, 3) by decide +kernel) kx_315 kw_H_wrongSet kg_H_wrongSet (kq_rc_obj 1 ⟨rfl, by decide, by decide, rfl⟩ hok) hst k
theorem ks_H_heatBy_75 {d : Nat} {st : List kq_V} {μ : kq_M} {Q : Option kq_V → kq_M → Prop} {x0 x1 : Option kq_V} {v : Int32} (k : kq_S km_H_heatBy d 76 [x0, x1, some (kq_I v)] (kq_I v :: st) μ Q) : kq_S km_H_heatBy d 75 [x0, x1, some (kq_I v)] (st) μ Q := kq_iload_n 2 (show decode km_H_heatBy.2.1 75 = .ok (.iload_n 2, 1) by decide +kernel) rfl rfl k
theorem ks_H_heatBy_76 {d : Nat} {st : List kq_V} {μ : kq_M} {Q : Option kq_V → kq_M → Prop} {x0 x1 x2 : Option kq_V} {a1 a2 : kq_V} (hst : (st.map kq_cat).sum ≤ 8) (k : kq_Call d km_K_isIn [a1, a2] μ (kq_K km_H_heatBy (d + 1) 79 [x0, x1, x2] st Q)) : kq_S km_H_heatBy (d + 1) 76 [x0, x1, x2] (a2 :: a1 :: st) μ Q := kq_callN (M' := km_K_isIn) [a1, a2] (show decode km_H_heatBy.2.1 76 = .ok (.invokestatic 76, 3) by decide +kernel) kq_nwI_ok kw_K_isIn kg_K_isIn hst k
theorem ks_H_heatBy_79 {d : Nat} {st : List kq_V} {μ : kq_M} {Q : Option kq_V → kq_M → Prop} {x0 x1 x2 : Option kq_V} {x : Int32} (kt : x = 0 → kq_S km_H_heatBy d 86 [x0, x1, x2] st μ Q) (kf : ¬ x = 0 → kq_S km_H_heatBy d 82 [x0, x1, x2] st μ Q) : kq_S km_H_heatBy d 79 [x0, x1, x2] (kq_I x :: st) μ Q := kq_if_eq 86 (show decode km_H_heatBy.2.1 79 = .ok (.ifCond .eq 7, 3) by decide +kernel) (by decide) kt kf
theorem ks_H_heatBy_82 {d : Nat} {st : List kq_V} {μ : kq_M} {Q : Option kq_V → kq_M → Prop} {x0 x1 x2 : Option kq_V} (k : kq_S km_H_heatBy d 83 [x0, x1, x2] (kq_I 1 :: st) μ Q) : kq_S km_H_heatBy d 82 [x0, x1, x2] (st) μ Q := kq_iconst (v := 1) (show decode km_H_heatBy.2.1 82 = .ok (.iconst 1, 1) by decide +kernel) (by decide) k
theorem ks_H_heatBy_83 {d : Nat} {st : List kq_V} {μ : kq_M} {Q : Option kq_V → kq_M → Prop} {x0 x1 x2 : Option kq_V} (k : kq_S km_H_heatBy d 87 [x0, x1, x2] (st) μ Q) : kq_S km_H_heatBy d 83 [x0, x1, x2] (st) μ Q := kq_goto 87 (show decode km_H_heatBy.2.1 83 = .ok (.goto 4, 3) by decide +kernel) (by decide) k
theorem ks_H_heatBy_86 {d : Nat} {st : List kq_V} {μ : kq_M} {Q : Option kq_V → kq_M → Prop} {x0 x1 x2 : Option kq_V} (k : kq_S km_H_heatBy d 87 [x0, x1, x2] (kq_I 0 :: st) μ Q) : kq_S km_H_heatBy d 86 [x0, x1, x2] (st) μ Q := kq_iconst (v := 0) (show decode km_H_heatBy.2.1 86 = .ok (.iconst 0, 1) by decide +kernel) (by decide) k
theorem ks_H_heatBy_87 {d : Nat} {st : List kq_V} {μ : kq_M} {Q : Option kq_V → kq_M → Prop} {x0 x1 x2 : Option kq_V} {x y : Int32} (k : kq_S km_H_heatBy d 88 [x0, x1, x2] (kq_I (x + y) :: st) μ Q) : kq_S km_H_heatBy d 87 [x0, x1, x2] (kq_I y :: kq_I x :: st) μ Q := kq_iadd (show decode km_H_heatBy.2.1 87 = .ok (.iadd, 1) by decide +kernel) k
theorem ks_H_heatBy_88 {d : Nat} {μ : kq_M} {Q : Option kq_V → kq_M → Prop} {x0 x1 x2 : Option kq_V} {v : Int32} (k : Q (some (kq_I v)) μ) : kq_S km_H_heatBy d 88 [x0, x1, x2] [kq_I v] μ Q := kq_iret (show decode km_H_heatBy.2.1 88 = .ok (.ireturn, 1) by decide +kernel) rfl k
theorem ks_H_heatBy_89 {d : Nat} {st : List kq_V} {μ : kq_M} {Q : Option kq_V → kq_M → Prop} {x1 x2 : Option kq_V} {r : Nat} (k : kq_S km_H_heatBy d 90 [some (kq_R r 1), x1, x2] (kq_R r 1 :: st) μ Q) : kq_S km_H_heatBy d 89 [some (kq_R r 1), x1, x2] (st) μ Q := kq_aload_n 0 (show decode km_H_heatBy.2.1 89 = .ok (.aload_n 0, 1) by decide +kernel) rfl rfl (by decide) k
theorem ks_H_heatBy_90 {d : Nat} {st : List kq_V} {μ : kq_M} {Q : Option kq_V → kq_M → Prop} {x0 x1 x2 : Option kq_V} {r : Nat} (hok : kq_hr r = true) (k : kq_S km_H_heatBy d 93 [x0, x1, x2] (kq_I (kq_rI μ r 1 1) :: st) μ Q) : kq_S km_H_heatBy d 90 [x0, x1, x2] (kq_R r 1 :: st) μ Q := kq_getf 1 1 (show decode km_H_heatBy.2.1 90 = .ok (.getfield 15, 3) by decide +kernel) kx_85 ⟨rfl, by decide, by decide, by decide⟩ (show (0 : Nat) ≠ 45 by decide) hok k
theorem ks_H_heatBy_93 {d : Nat} {st : List kq_V} {μ : kq_M} {Q : Option kq_V → kq_M → Prop} {x0 x1 x2 : Option kq_V} (k : kq_S km_H_heatBy d 95 [x0, x1, x2] (kq_I 15 :: st) μ Q) : kq_S km_H_heatBy d 93 [x0, x1, x2] (st) μ Q := kq_bipush (v := 15) (show decode km_H_heatBy.2.1 93 = .ok (.bipush 15, 2) by decide +kernel) (by decide) k
theorem ks_H_heatBy_95 {d : Nat} {st : List kq_V} {μ : kq_M} {Q : Option kq_V → kq_M → Prop} {x0 x1 x2 : Option kq_V} {x y : Int32} (kt : x ≤ y → kq_S km_H_heatBy d 102 [x0, x1, x2] st μ Q) (kf : ¬ x ≤ y → kq_S km_H_heatBy d 98 [x0, x1, x2] st μ Q) : kq_S km_H_heatBy d 95 [x0, x1, x2] (kq_I y :: kq_I x :: st) μ Q := kq_icmp_le 102 (show decode km_H_heatBy.2.1 95 = .ok (.if_icmp .le 7, 3) by decide +kernel) (by decide) kt kf
theorem ks_H_heatBy_98 {d : Nat} {st : List kq_V} {μ : kq_M} {Q : Option kq_V → kq_M → Prop} {x0 x1 x2 : Option kq_V} (k : kq_S km_H_heatBy d 99 [x0, x1, x2] (kq_I 0 :: st) μ Q) : kq_S km_H_heatBy d 98 [x0, x1, x2] (st) μ Q := kq_iconst (v := 0) (show decode km_H_heatBy.2.1 98 = .ok (.iconst 0, 1) by decide +kernel) (by decide) k
theorem ks_H_heatBy_99 {d : Nat} {st : List kq_V} {μ : kq_M} {Q : Option kq_V → kq_M → Prop} {x0 x1 x2 : Option kq_V} (k : kq_S km_H_heatBy d 108 [x0, x1, x2] (st) μ Q) : kq_S km_H_heatBy d 99 [x0, x1, x2] (st) μ Q := kq_goto 108 (show decode km_H_heatBy.2.1 99 = .ok (.goto 9, 3) by decide +kernel) (by decide) k
theorem ks_H_heatBy_102 {d : Nat} {st : List kq_V} {μ : kq_M} {Q : Option kq_V → kq_M → Prop} {x1 x2 : Option kq_V} {r : Nat} (k : kq_S km_H_heatBy d 103 [some (kq_R r 1), x1, x2] (kq_R r 1 :: st) μ Q) : kq_S km_H_heatBy d 102 [some (kq_R r 1), x1, x2] (st) μ Q := kq_aload_n 0 (show decode km_H_heatBy.2.1 102 = .ok (.aload_n 0, 1) by decide +kernel) rfl rfl (by decide) k
theorem ks_H_heatBy_103 {d : Nat} {st : List kq_V} {μ : kq_M} {Q : Option kq_V → kq_M → Prop} {x0 x2 : Option kq_V} {v : Int32} (k : kq_S km_H_heatBy d 104 [x0, some (kq_I v), x2] (kq_I v :: st) μ Q) : kq_S km_H_heatBy d 103 [x0, some (kq_I v), x2] (st) μ Q := kq_iload_n 1 (show decode km_H_heatBy.2.1 103 = .ok (.iload_n 1, 1) by decide +kernel) rfl rfl k
theorem ks_H_heatBy_104 {d : Nat} {st : List kq_V} {μ : kq_M} {Q : Option kq_V → kq_M → Prop} {x0 x1 : Option kq_V} {v : Int32} (k : kq_S km_H_heatBy d 105 [x0, x1, some (kq_I v)] (kq_I v :: st) μ Q) : kq_S km_H_heatBy d 104 [x0, x1, some (kq_I v)] (st) μ Q := kq_iload_n 2 (show decode km_H_heatBy.2.1 104 = .ok (.iload_n 2, 1) by decide +kernel) rfl rfl k
theorem ks_H_heatBy_105 {d : Nat} {st : List kq_V} {μ : kq_M} {Q : Option kq_V → kq_M → Prop} {x0 x1 x2 : Option kq_V} {a1 a2 : kq_V} {r : Nat} (hok : kq_hr r = true) (hst : (st.map kq_cat).sum ≤ 8) (k : kq_Call d km_H_wifeHeat [kq_R r 1, a1, a2] μ (kq_K km_H_heatBy (d + 1) 108 [x0, x1, x2] st Q)) : kq_S km_H_heatBy (d + 1) 105 [x0, x1, x2] (a2 :: a1 :: kq_R r 1 :: st) μ Q := kq_callV (M' := km_H_wifeHeat) [a1, a2] (show decode km_H_heatBy.2.1 105 = .ok (.invokevirtual 70, 3) by decide +kernel) kx_306 kw_H_wifeHeat kg_H_wifeHeat (kq_rc_obj 1 ⟨rfl, by decide, by decide, rfl⟩ hok) hst k
theorem ks_H_heatBy_108 {d : Nat} {μ : kq_M} {Q : Option kq_V → kq_M → Prop} {x0 x1 x2 : Option kq_V} {v : Int32} (k : Q (some (kq_I v)) μ) : kq_S km_H_heatBy d 108 [x0, x1, x2] [kq_I v] μ Q := kq_iret (show decode km_H_heatBy.2.1 108 = .ok (.ireturn, 1) by decide +kernel) rfl k
theorem ks_H_heatBy_109 {d : Nat} {st : List kq_V} {μ : kq_M} {Q : Option kq_V → kq_M → Prop} {x1 x2 : Option kq_V} {r : Nat} (k : kq_S km_H_heatBy d 110 [some (kq_R r 1), x1, x2] (kq_R r 1 :: st) μ Q) : kq_S km_H_heatBy d 109 [some (kq_R r 1), x1, x2] (st) μ Q := kq_aload_n 0 (show decode km_H_heatBy.2.1 109 = .ok (.aload_n 0, 1) by decide +kernel) rfl rfl (by decide) k
theorem ks_H_heatBy_110 {d : Nat} {st : List kq_V} {μ : kq_M} {Q : Option kq_V → kq_M → Prop} {x0 x2 : Option kq_V} {v : Int32} (k : kq_S km_H_heatBy d 111 [x0, some (kq_I v), x2] (kq_I v :: st) μ Q) : kq_S km_H_heatBy d 110 [x0, some (kq_I v), x2] (st) μ Q := kq_iload_n 1 (show decode km_H_heatBy.2.1 110 = .ok (.iload_n 1, 1) by decide +kernel) rfl rfl k
theorem ks_H_heatBy_111 {d : Nat} {st : List kq_V} {μ : kq_M} {Q : Option kq_V → kq_M → Prop} {x0 x1 : Option kq_V} {v : Int32} (k : kq_S km_H_heatBy d 112 [x0, x1, some (kq_I v)] (kq_I v :: st) μ Q) : kq_S km_H_heatBy d 111 [x0, x1, some (kq_I v)] (st) μ Q := kq_iload_n 2 (show decode km_H_heatBy.2.1 111 = .ok (.iload_n 2, 1) by decide +kernel) rfl rfl k
theorem ks_H_heatBy_112 {d : Nat} {st : List kq_V} {μ : kq_M} {Q : Option kq_V → kq_M → Prop} {x0 x1 x2 : Option kq_V} {a1 a2 : kq_V} {r : Nat} (hok : kq_hr r = true) (hst : (st.map kq_cat).sum ≤ 8) (k : kq_Call d km_H_witnessHeat [kq_R r 1, a1, a2] μ (kq_K km_H_heatBy (d + 1) 115 [x0, x1, x2] st Q)) : kq_S km_H_heatBy (d + 1) 112 [x0, x1, x2] (a2 :: a1 :: kq_R r 1 :: st) μ Q := kq_callV (M' := km_H_witnessHeat) [a1, a2] (show decode km_H_heatBy.2.1 112 = .ok (.invokevirtual 80, 3) by decide +kernel) kx_301 kw_H_witnessHeat kg_H_witnessHeat (kq_rc_obj 1 ⟨rfl, by decide, by decide, rfl⟩ hok) hst k
theorem ks_H_heatBy_115 {d : Nat} {μ : kq_M} {Q : Option kq_V → kq_M → Prop} {x0 x1 x2 : Option kq_V} {v : Int32} (k : Q (some (kq_I v)) μ) : kq_S km_H_heatBy d 115 [x0, x1, x2] [kq_I v] μ Q := kq_iret (show decode km_H_heatBy.2.1 115 = .ok (.ireturn, 1) by decide +kernel) rfl k
theorem ks_H_plumberHeat_0 {d : Nat} {st : List kq_V} {μ : kq_M} {Q : Option kq_V → kq_M → Prop} {x0 x1 x3 : Option kq_V} {v : Int32} (k : kq_S km_H_plumberHeat d 1 [x0, x1, some (kq_I v), x3] (kq_I v :: st) μ Q) : kq_S km_H_plumberHeat d 0 [x0, x1, some (kq_I v), x3] (st) μ Q := kq_iload_n 2 (show decode km_H_plumberHeat.2.1 0 = .ok (.iload_n 2, 1) by decide +kernel) rfl rfl k
theorem ks_H_plumberHeat_1 {d : Nat} {st : List kq_V} {μ : kq_M} {Q : Option kq_V → kq_M → Prop} {x0 x1 x2 x3 : Option kq_V} (k : kq_S km_H_plumberHeat d 2 [x0, x1, x2, x3] (kq_I 3 :: st) μ Q) : kq_S km_H_plumberHeat d 1 [x0, x1, x2, x3] (st) μ Q := kq_iconst (v := 3) (show decode km_H_plumberHeat.2.1 1 = .ok (.iconst 3, 1) by decide +kernel) (by decide) k
theorem ks_H_plumberHeat_2 {d : Nat} {st : List kq_V} {μ : kq_M} {Q : Option kq_V → kq_M → Prop} {x0 x1 x2 x3 : Option kq_V} {x y : Int32} (kt : y < x → kq_S km_H_plumberHeat d 21 [x0, x1, x2, x3] st μ Q) (kf : ¬ y < x → kq_S km_H_plumberHeat d 5 [x0, x1, x2, x3] st μ Q) : kq_S km_H_plumberHeat d 2 [x0, x1, x2, x3] (kq_I y :: kq_I x :: st) μ Q := kq_icmp_gt 21 (show decode km_H_plumberHeat.2.1 2 = .ok (.if_icmp .gt 19, 3) by decide +kernel) (by decide) kt kf
theorem ks_H_plumberHeat_5 {d : Nat} {st : List kq_V} {μ : kq_M} {Q : Option kq_V → kq_M → Prop} {x1 x2 x3 : Option kq_V} {r : Nat} (k : kq_S km_H_plumberHeat d 6 [some (kq_R r 1), x1, x2, x3] (kq_R r 1 :: st) μ Q) : kq_S km_H_plumberHeat d 5 [some (kq_R r 1), x1, x2, x3] (st) μ Q := kq_aload_n 0 (show decode km_H_plumberHeat.2.1 5 = .ok (.aload_n 0, 1) by decide +kernel) rfl rfl (by decide) k
theorem ks_H_plumberHeat_6 {d : Nat} {st : List kq_V} {μ : kq_M} {Q : Option kq_V → kq_M → Prop} {x0 x2 x3 : Option kq_V} {v : Int32} (k : kq_S km_H_plumberHeat d 7 [x0, some (kq_I v), x2, x3] (kq_I v :: st) μ Q) : kq_S km_H_plumberHeat d 6 [x0, some (kq_I v), x2, x3] (st) μ Q := kq_iload_n 1 (show decode km_H_plumberHeat.2.1 6 = .ok (.iload_n 1, 1) by decide +kernel) rfl rfl k
theorem ks_H_plumberHeat_7 {d : Nat} {st : List kq_V} {μ : kq_M} {Q : Option kq_V → kq_M → Prop} {x0 x1 x2 x3 : Option kq_V} {a1 : kq_V} {r : Nat} (hok : kq_hr r = true) (hst : (st.map kq_cat).sum ≤ 8) (k : kq_Call d km_H_lieSet [kq_R r 1, a1] μ (kq_K km_H_plumberHeat (d + 1) 10 [x0, x1, x2, x3] st Q)) : kq_S km_H_plumberHeat (d + 1) 7 [x0, x1, x2, x3] (a1 :: kq_R r 1 :: st) μ Q := kq_callV (M' := km_H_lieSet) [a1] (show decode km_H_plumberHeat.2.1 7 = .ok (.invokevirtual 57, 3) by decide +kernel) kx_297 kw_H_lieSet kg_H_lieSet (kq_rc_obj 1 ⟨rfl, by decide, by decide, rfl⟩ hok) hst k
theorem ks_H_plumberHeat_10 {d : Nat} {st : List kq_V} {μ : kq_M} {Q : Option kq_V → kq_M → Prop} {x0 x1 x3 : Option kq_V} {v : Int32} (k : kq_S km_H_plumberHeat d 11 [x0, x1, some (kq_I v), x3] (kq_I v :: st) μ Q) : kq_S km_H_plumberHeat d 10 [x0, x1, some (kq_I v), x3] (st) μ Q := kq_iload_n 2 (show decode km_H_plumberHeat.2.1 10 = .ok (.iload_n 2, 1) by decide +kernel) rfl rfl k
theorem ks_H_plumberHeat_11 {d : Nat} {st : List kq_V} {μ : kq_M} {Q : Option kq_V → kq_M → Prop} {x0 x1 x2 x3 : Option kq_V} {a1 a2 : kq_V} (hst : (st.map kq_cat).sum ≤ 8) (k : kq_Call d km_K_isIn [a1, a2] μ (kq_K km_H_plumberHeat (d + 1) 14 [x0, x1, x2, x3] st Q)) : kq_S km_H_plumberHeat (d + 1) 11 [x0, x1, x2, x3] (a2 :: a1 :: st) μ Q := kq_callN (M' := km_K_isIn) [a1, a2] (show decode km_H_plumberHeat.2.1 11 = .ok (.invokestatic 76, 3) by decide +kernel) kq_nwI_ok kw_K_isIn kg_K_isIn hst k
theorem ks_H_plumberHeat_14 {d : Nat} {st : List kq_V} {μ : kq_M} {Q : Option kq_V → kq_M → Prop} {x0 x1 x2 x3 : Option kq_V} {x : Int32} (kt : x = 0 → kq_S km_H_plumberHeat d 21 [x0, x1, x2, x3] st μ Q) (kf : ¬ x = 0 → kq_S km_H_plumberHeat d 17 [x0, x1, x2, x3] st μ Q) : kq_S km_H_plumberHeat d 14 [x0, x1, x2, x3] (kq_I x :: st) μ Q := kq_if_eq 21 (show decode km_H_plumberHeat.2.1 14 = .ok (.ifCond .eq 7, 3) by decide +kernel) (by decide) kt kf
theorem ks_H_plumberHeat_17 {d : Nat} {st : List kq_V} {μ : kq_M} {Q : Option kq_V → kq_M → Prop} {x0 x1 x2 x3 : Option kq_V} (k : kq_S km_H_plumberHeat d 18 [x0, x1, x2, x3] (kq_I 1 :: st) μ Q) : kq_S km_H_plumberHeat d 17 [x0, x1, x2, x3] (st) μ Q := kq_iconst (v := 1) (show decode km_H_plumberHeat.2.1 17 = .ok (.iconst 1, 1) by decide +kernel) (by decide) k
theorem ks_H_plumberHeat_18 {d : Nat} {st : List kq_V} {μ : kq_M} {Q : Option kq_V → kq_M → Prop} {x0 x1 x2 x3 : Option kq_V} (k : kq_S km_H_plumberHeat d 22 [x0, x1, x2, x3] (st) μ Q) : kq_S km_H_plumberHeat d 18 [x0, x1, x2, x3] (st) μ Q := kq_goto 22 (show decode km_H_plumberHeat.2.1 18 = .ok (.goto 4, 3) by decide +kernel) (by decide) k
theorem ks_H_plumberHeat_21 {d : Nat} {st : List kq_V} {μ : kq_M} {Q : Option kq_V → kq_M → Prop} {x0 x1 x2 x3 : Option kq_V} (k : kq_S km_H_plumberHeat d 22 [x0, x1, x2, x3] (kq_I 0 :: st) μ Q) : kq_S km_H_plumberHeat d 21 [x0, x1, x2, x3] (st) μ Q := kq_iconst (v := 0) (show decode km_H_plumberHeat.2.1 21 = .ok (.iconst 0, 1) by decide +kernel) (by decide) k
theorem ks_H_plumberHeat_22 {d : Nat} {st : List kq_V} {μ : kq_M} {Q : Option kq_V → kq_M → Prop} {x0 x1 x2 x3 : Option kq_V} {v : Int32} (hp : kq_nj x2 = true) (k : kq_S km_H_plumberHeat d 23 [x0, x1, x2, some (kq_I v)] (st) μ Q) : kq_S km_H_plumberHeat d 22 [x0, x1, x2, x3] (kq_I v :: st) μ Q := kq_istore_n 3 (show decode km_H_plumberHeat.2.1 22 = .ok (.istore_n 3, 1) by decide +kernel) rfl (by decide) (kq_nl_of rfl hp) k
theorem ks_H_plumberHeat_23 {d : Nat} {st : List kq_V} {μ : kq_M} {Q : Option kq_V → kq_M → Prop} {x1 x2 x3 : Option kq_V} {r : Nat} (k : kq_S km_H_plumberHeat d 24 [some (kq_R r 1), x1, x2, x3] (kq_R r 1 :: st) μ Q) : kq_S km_H_plumberHeat d 23 [some (kq_R r 1), x1, x2, x3] (st) μ Q := kq_aload_n 0 (show decode km_H_plumberHeat.2.1 23 = .ok (.aload_n 0, 1) by decide +kernel) rfl rfl (by decide) k
theorem ks_H_plumberHeat_24 {d : Nat} {st : List kq_V} {μ : kq_M} {Q : Option kq_V → kq_M → Prop} {x0 x2 x3 : Option kq_V} {v : Int32} (k : kq_S km_H_plumberHeat d 25 [x0, some (kq_I v), x2, x3] (kq_I v :: st) μ Q) : kq_S km_H_plumberHeat d 24 [x0, some (kq_I v), x2, x3] (st) μ Q := kq_iload_n 1 (show decode km_H_plumberHeat.2.1 24 = .ok (.iload_n 1, 1) by decide +kernel) rfl rfl k
theorem ks_H_plumberHeat_25 {d : Nat} {st : List kq_V} {μ : kq_M} {Q : Option kq_V → kq_M → Prop} {x0 x1 x3 : Option kq_V} {v : Int32} (k : kq_S km_H_plumberHeat d 26 [x0, x1, some (kq_I v), x3] (kq_I v :: st) μ Q) : kq_S km_H_plumberHeat d 25 [x0, x1, some (kq_I v), x3] (st) μ Q := kq_iload_n 2 (show decode km_H_plumberHeat.2.1 25 = .ok (.iload_n 2, 1) by decide +kernel) rfl rfl k
theorem ks_H_plumberHeat_26 {d : Nat} {st : List kq_V} {μ : kq_M} {Q : Option kq_V → kq_M → Prop} {x0 x1 x2 x3 : Option kq_V} {a1 a2 : kq_V} {r : Nat} (hok : kq_hr r = true) (hst : (st.map kq_cat).sum ≤ 8) (k : kq_Call d km_H_witnessHeat [kq_R r 1, a1, a2] μ (kq_K km_H_plumberHeat (d + 1) 29 [x0, x1, x2, x3] st Q)) : kq_S km_H_plumberHeat (d + 1) 26 [x0, x1, x2, x3] (a2 :: a1 :: kq_R r 1 :: st) μ Q := kq_callV (M' := km_H_witnessHeat) [a1, a2] (show decode km_H_plumberHeat.2.1 26 = .ok (.invokevirtual 80, 3) by decide +kernel) kx_301 kw_H_witnessHeat kg_H_witnessHeat (kq_rc_obj 1 ⟨rfl, by decide, by decide, rfl⟩ hok) hst k
theorem ks_H_plumberHeat_29 {d : Nat} {st : List kq_V} {μ : kq_M} {Q : Option kq_V → kq_M → Prop} {x0 x1 x2 : Option kq_V} {v : Int32} (k : kq_S km_H_plumberHeat d 30 [x0, x1, x2, some (kq_I v)] (kq_I v :: st) μ Q) : kq_S km_H_plumberHeat d 29 [x0, x1, x2, some (kq_I v)] (st) μ Q := kq_iload_n 3 (show decode km_H_plumberHeat.2.1 29 = .ok (.iload_n 3, 1) by decide +kernel) rfl rfl k
theorem ks_H_plumberHeat_30 {d : Nat} {st : List kq_V} {μ : kq_M} {Q : Option kq_V → kq_M → Prop} {x0 x1 x2 x3 : Option kq_V} {x : Int32} (kt : x = 0 → kq_S km_H_plumberHeat d 37 [x0, x1, x2, x3] st μ Q) (kf : ¬ x = 0 → kq_S km_H_plumberHeat d 33 [x0, x1, x2, x3] st μ Q) : kq_S km_H_plumberHeat d 30 [x0, x1, x2, x3] (kq_I x :: st) μ Q := kq_if_eq 37 (show decode km_H_plumberHeat.2.1 30 = .ok (.ifCond .eq 7, 3) by decide +kernel) (by decide) kt kf
theorem ks_H_plumberHeat_33 {d : Nat} {st : List kq_V} {μ : kq_M} {Q : Option kq_V → kq_M → Prop} {x0 x1 x2 x3 : Option kq_V} (k : kq_S km_H_plumberHeat d 34 [x0, x1, x2, x3] (kq_I 5 :: st) μ Q) : kq_S km_H_plumberHeat d 33 [x0, x1, x2, x3] (st) μ Q := kq_iconst (v := 5) (show decode km_H_plumberHeat.2.1 33 = .ok (.iconst 5, 1) by decide +kernel) (by decide) k
theorem ks_H_plumberHeat_34 {d : Nat} {st : List kq_V} {μ : kq_M} {Q : Option kq_V → kq_M → Prop} {x0 x1 x2 x3 : Option kq_V} (k : kq_S km_H_plumberHeat d 38 [x0, x1, x2, x3] (st) μ Q) : kq_S km_H_plumberHeat d 34 [x0, x1, x2, x3] (st) μ Q := kq_goto 38 (show decode km_H_plumberHeat.2.1 34 = .ok (.goto 4, 3) by decide +kernel) (by decide) k
theorem ks_H_plumberHeat_37 {d : Nat} {st : List kq_V} {μ : kq_M} {Q : Option kq_V → kq_M → Prop} {x0 x1 x2 x3 : Option kq_V} (k : kq_S km_H_plumberHeat d 38 [x0, x1, x2, x3] (kq_I 0 :: st) μ Q) : kq_S km_H_plumberHeat d 37 [x0, x1, x2, x3] (st) μ Q := kq_iconst (v := 0) (show decode km_H_plumberHeat.2.1 37 = .ok (.iconst 0, 1) by decide +kernel) (by decide) k
theorem ks_H_plumberHeat_38 {d : Nat} {st : List kq_V} {μ : kq_M} {Q : Option kq_V → kq_M → Prop} {x0 x1 x2 x3 : Option kq_V} {x y : Int32} (k : kq_S km_H_plumberHeat d 39 [x0, x1, x2, x3] (kq_I (x + y) :: st) μ Q) : kq_S km_H_plumberHeat d 38 [x0, x1, x2, x3] (kq_I y :: kq_I x :: st) μ Q := kq_iadd (show decode km_H_plumberHeat.2.1 38 = .ok (.iadd, 1) by decide +kernel) k
theorem ks_H_plumberHeat_39 {d : Nat} {μ : kq_M} {Q : Option kq_V → kq_M → Prop} {x0 x1 x2 x3 : Option kq_V} {v : Int32} (k : Q (some (kq_I v)) μ) : kq_S km_H_plumberHeat d 39 [x0, x1, x2, x3] [kq_I v] μ Q := kq_iret (show decode km_H_plumberHeat.2.1 39 = .ok (.ireturn, 1) by decide +kernel) rfl k
theorem ks_H_witnessHeat_0 {d : Nat} {st : List kq_V} {μ : kq_M} {Q : Option kq_V → kq_M → Prop} {x1 x2 : Option kq_V} {r : Nat} (k : kq_S km_H_witnessHeat d 1 [some (kq_R r 1), x1, x2] (kq_R r 1 :: st) μ Q) : kq_S km_H_witnessHeat d 0 [some (kq_R r 1), x1, x2] (st) μ Q := kq_aload_n 0 (show decode km_H_witnessHeat.2.1 0 = .ok (.aload_n 0, 1) by decide +kernel) rfl rfl (by decide) k
theorem ks_H_witnessHeat_1 {d : Nat} {st : List kq_V} {μ : kq_M} {Q : Option kq_V → kq_M → Prop} {x0 x2 : Option kq_V} {v : Int32} (k : kq_S km_H_witnessHeat d 2 [x0, some (kq_I v), x2] (kq_I v :: st) μ Q) : kq_S km_H_witnessHeat d 1 [x0, some (kq_I v), x2] (st) μ Q := kq_iload_n 1 (show decode km_H_witnessHeat.2.1 1 = .ok (.iload_n 1, 1) by decide +kernel) rfl rfl k
theorem ks_H_witnessHeat_2 {d : Nat} {st : List kq_V} {μ : kq_M} {Q : Option kq_V → kq_M → Prop} {x0 x1 x2 : Option kq_V} {a1 : kq_V} {r : Nat} (hok : kq_hr r = true) (hst : (st.map kq_cat).sum ≤ 8) (k : kq_Call d km_H_lieSet [kq_R r 1, a1] μ (kq_K km_H_witnessHeat (d + 1) 5 [x0, x1, x2] st Q)) : kq_S km_H_witnessHeat (d + 1) 2 [x0, x1, x2] (a1 :: kq_R r 1 :: st) μ Q := kq_callV (M' := km_H_lieSet) [a1] (show decode km_H_witnessHeat.2.1 2 = .ok (.invokevirtual 57, 3) by decide +kernel) kx_297 kw_H_lieSet kg_H_lieSet (kq_rc_obj 1 ⟨rfl, by decide, by decide, rfl⟩ hok) hst k
theorem ks_H_witnessHeat_5 {d : Nat} {st : List kq_V} {μ : kq_M} {Q : Option kq_V → kq_M → Prop} {x0 x1 : Option kq_V} {v : Int32} (k : kq_S km_H_witnessHeat d 6 [x0, x1, some (kq_I v)] (kq_I v :: st) μ Q) : kq_S km_H_witnessHeat d 5 [x0, x1, some (kq_I v)] (st) μ Q := kq_iload_n 2 (show decode km_H_witnessHeat.2.1 5 = .ok (.iload_n 2, 1) by decide +kernel) rfl rfl k
theorem ks_H_witnessHeat_6 {d : Nat} {st : List kq_V} {μ : kq_M} {Q : Option kq_V → kq_M → Prop} {x0 x1 x2 : Option kq_V} {a1 a2 : kq_V} (hst : (st.map kq_cat).sum ≤ 8) (k : kq_Call d km_K_isIn [a1, a2] μ (kq_K km_H_witnessHeat (d + 1) 9 [x0, x1, x2] st Q)) : kq_S km_H_witnessHeat (d + 1) 6 [x0, x1, x2] (a2 :: a1 :: st) μ Q := kq_callN (M' := km_K_isIn) [a1, a2] (show decode km_H_witnessHeat.2.1 6 = .ok (.invokestatic 76, 3) by decide +kernel) kq_nwI_ok kw_K_isIn kg_K_isIn hst k
theorem ks_H_witnessHeat_9 {d : Nat} {st : List kq_V} {μ : kq_M} {Q : Option kq_V → kq_M → Prop} {x0 x1 x2 : Option kq_V} {x : Int32} (kt : x = 0 → kq_S km_H_witnessHeat d 21 [x0, x1, x2] st μ Q) (kf : ¬ x = 0 → kq_S km_H_witnessHeat d 12 [x0, x1, x2] st μ Q) : kq_S km_H_witnessHeat d 9 [x0, x1, x2] (kq_I x :: st) μ Q := kq_if_eq 21 (show decode km_H_witnessHeat.2.1 9 = .ok (.ifCond .eq 12, 3) by decide +kernel) (by decide) kt kf
theorem ks_H_witnessHeat_12 {d : Nat} {st : List kq_V} {μ : kq_M} {Q : Option kq_V → kq_M → Prop} {x0 x1 x2 : Option kq_V} (k : kq_S km_H_witnessHeat d 13 [x0, x1, x2] (kq_I 1 :: st) μ Q) : kq_S km_H_witnessHeat d 12 [x0, x1, x2] (st) μ Q := kq_iconst (v := 1) (show decode km_H_witnessHeat.2.1 12 = .ok (.iconst 1, 1) by decide +kernel) (by decide) k
theorem ks_H_witnessHeat_13 {d : Nat} {st : List kq_V} {μ : kq_M} {Q : Option kq_V → kq_M → Prop} {x1 x2 : Option kq_V} {r : Nat} (k : kq_S km_H_witnessHeat d 14 [some (kq_R r 1), x1, x2] (kq_R r 1 :: st) μ Q) : kq_S km_H_witnessHeat d 13 [some (kq_R r 1), x1, x2] (st) μ Q := kq_aload_n 0 (show decode km_H_witnessHeat.2.1 13 = .ok (.aload_n 0, 1) by decide +kernel) rfl rfl (by decide) k
theorem ks_H_witnessHeat_14 {d : Nat} {st : List kq_V} {μ : kq_M} {Q : Option kq_V → kq_M → Prop} {x0 x1 x2 : Option kq_V} {r : Nat} (hok : kq_hr r = true) (k : kq_S km_H_witnessHeat d 17 [x0, x1, x2] (kq_R r 5 :: st) μ Q) : kq_S km_H_witnessHeat d 14 [x0, x1, x2] (kq_R r 1 :: st) μ Q := kq_getf 1 10 (show decode km_H_witnessHeat.2.1 14 = .ok (.getfield 43, 3) by decide +kernel) kx_107 ⟨rfl, by decide, by decide, by decide⟩ (show (5 : Nat) ≠ 45 by decide) hok k
theorem ks_H_witnessHeat_17 {d : Nat} {st : List kq_V} {μ : kq_M} {Q : Option kq_V → kq_M → Prop} {x0 x2 : Option kq_V} {v : Int32} (k : kq_S km_H_witnessHeat d 18 [x0, some (kq_I v), x2] (kq_I v :: st) μ Q) : kq_S km_H_witnessHeat d 17 [x0, some (kq_I v), x2] (st) μ Q := kq_iload_n 1 (show decode km_H_witnessHeat.2.1 17 = .ok (.iload_n 1, 1) by decide +kernel) rfl rfl k
theorem ks_H_witnessHeat_18 {d : Nat} {st : List kq_V} {μ : kq_M} {Q : Option kq_V → kq_M → Prop} {x0 x1 x2 : Option kq_V} {x : Int32} {r : Nat} (j : Nat) (hok : kq_hr r = true) (hx : x = nI j) (hj : j < 8) (k : kq_S km_H_witnessHeat d 19 [x0, x1, x2] (kq_I (kq_rI μ r 5 j) :: st) μ Q) : kq_S km_H_witnessHeat d 18 [x0, x1, x2] (kq_I x :: kq_R r 5 :: st) μ Q := kq_iald 5 j (show decode km_H_witnessHeat.2.1 18 = .ok (.iaload, 1) by decide +kernel) ⟨rfl, by decide⟩ hok hx hj k
theorem ks_H_witnessHeat_18n {d : Nat} {st : List kq_V} {μ : kq_M} {Q : Option kq_V → kq_M → Prop} {x0 x1 x2 : Option kq_V} {r : Nat} {j : Nat} (hok : kq_hr r = true) (hj : j < 8) (k : kq_S km_H_witnessHeat d 19 [x0, x1, x2] (kq_I (kq_rI μ r 5 j) :: st) μ Q) : kq_S km_H_witnessHeat d 18 [x0, x1, x2] (kq_I (nI j) :: kq_R r 5 :: st) μ Q := kq_iald 5 j (show decode km_H_witnessHeat.2.1 18 = .ok (.iaload, 1) by decide +kernel) ⟨rfl, by decide⟩ hok rfl hj k
theorem ks_H_witnessHeat_19 {d : Nat} {st : List kq_V} {μ : kq_M} {Q : Option kq_V → kq_M → Prop} {x0 x1 x2 : Option kq_V} {x y : Int32} (k : kq_S km_H_witnessHeat d 20 [x0, x1, x2] (kq_I (x + y) :: st) μ Q) : kq_S km_H_witnessHeat d 19 [x0, x1, x2] (kq_I y :: kq_I x :: st) μ Q := kq_iadd (show decode km_H_witnessHeat.2.1 19 = .ok (.iadd, 1) by decide +kernel) k
theorem ks_H_witnessHeat_20 {d : Nat} {μ : kq_M} {Q : Option kq_V → kq_M → Prop} {x0 x1 x2 : Option kq_V} {v : Int32} (k : Q (some (kq_I v)) μ) : kq_S km_H_witnessHeat d 20 [x0, x1, x2] [kq_I v] μ Q := kq_iret (show decode km_H_witnessHeat.2.1 20 = .ok (.ireturn, 1) by decide +kernel) rfl k
theorem ks_H_witnessHeat_21 {d : Nat} {st : List kq_V} {μ : kq_M} {Q : Option kq_V → kq_M → Prop} {x1 x2 : Option kq_V} {r : Nat} (k : kq_S km_H_witnessHeat d 22 [some (kq_R r 1), x1, x2] (kq_R r 1 :: st) μ Q) : kq_S km_H_witnessHeat d 21 [some (kq_R r 1), x1, x2] (st) μ Q := kq_aload_n 0 (show decode km_H_witnessHeat.2.1 21 = .ok (.aload_n 0, 1) by decide +kernel) rfl rfl (by decide) k
theorem ks_H_witnessHeat_22 {d : Nat} {st : List kq_V} {μ : kq_M} {Q : Option kq_V → kq_M → Prop} {x0 x2 : Option kq_V} {v : Int32} (k : kq_S km_H_witnessHeat d 23 [x0, some (kq_I v), x2] (kq_I v :: st) μ Q) : kq_S km_H_witnessHeat d 22 [x0, some (kq_I v), x2] (st) μ Q := kq_iload_n 1 (show decode km_H_witnessHeat.2.1 22 = .ok (.iload_n 1, 1) by decide +kernel) rfl rfl k
theorem ks_H_witnessHeat_23 {d : Nat} {st : List kq_V} {μ : kq_M} {Q : Option kq_V → kq_M → Prop} {x0 x1 x2 : Option kq_V} {a1 : kq_V} {r : Nat} (hok : kq_hr r = true) (hst : (st.map kq_cat).sum ≤ 8) (k : kq_Call d km_H_luckySet [kq_R r 1, a1] μ (kq_K km_H_witnessHeat (d + 1) 26 [x0, x1, x2] st Q)) : kq_S km_H_witnessHeat (d + 1) 23 [x0, x1, x2] (a1 :: kq_R r 1 :: st) μ Q := kq_callV (M' := km_H_luckySet) [a1] (show decode km_H_witnessHeat.2.1 23 = .ok (.invokevirtual 83, 3) by decide +kernel) kx_305 kw_H_luckySet kg_H_luckySet (kq_rc_obj 1 ⟨rfl, by decide, by decide, rfl⟩ hok) hst k
theorem ks_H_witnessHeat_26 {d : Nat} {st : List kq_V} {μ : kq_M} {Q : Option kq_V → kq_M → Prop} {x0 x1 : Option kq_V} {v : Int32} (k : kq_S km_H_witnessHeat d 27 [x0, x1, some (kq_I v)] (kq_I v :: st) μ Q) : kq_S km_H_witnessHeat d 26 [x0, x1, some (kq_I v)] (st) μ Q := kq_iload_n 2 (show decode km_H_witnessHeat.2.1 26 = .ok (.iload_n 2, 1) by decide +kernel) rfl rfl k
theorem ks_H_witnessHeat_27 {d : Nat} {st : List kq_V} {μ : kq_M} {Q : Option kq_V → kq_M → Prop} {x0 x1 x2 : Option kq_V} {a1 a2 : kq_V} (hst : (st.map kq_cat).sum ≤ 8) (k : kq_Call d km_K_isIn [a1, a2] μ (kq_K km_H_witnessHeat (d + 1) 30 [x0, x1, x2] st Q)) : kq_S km_H_witnessHeat (d + 1) 27 [x0, x1, x2] (a2 :: a1 :: st) μ Q := kq_callN (M' := km_K_isIn) [a1, a2] (show decode km_H_witnessHeat.2.1 27 = .ok (.invokestatic 76, 3) by decide +kernel) kq_nwI_ok kw_K_isIn kg_K_isIn hst k
theorem ks_H_witnessHeat_30 {d : Nat} {st : List kq_V} {μ : kq_M} {Q : Option kq_V → kq_M → Prop} {x0 x1 x2 : Option kq_V} {x : Int32} (kt : x = 0 → kq_S km_H_witnessHeat d 44 [x0, x1, x2] st μ Q) (kf : ¬ x = 0 → kq_S km_H_witnessHeat d 33 [x0, x1, x2] st μ Q) : kq_S km_H_witnessHeat d 30 [x0, x1, x2] (kq_I x :: st) μ Q := kq_if_eq 44 (show decode km_H_witnessHeat.2.1 30 = .ok (.ifCond .eq 14, 3) by decide +kernel) (by decide) kt kf
theorem ks_H_witnessHeat_33 {d : Nat} {st : List kq_V} {μ : kq_M} {Q : Option kq_V → kq_M → Prop} {x1 x2 : Option kq_V} {r : Nat} (k : kq_S km_H_witnessHeat d 34 [some (kq_R r 1), x1, x2] (kq_R r 1 :: st) μ Q) : kq_S km_H_witnessHeat d 33 [some (kq_R r 1), x1, x2] (st) μ Q := kq_aload_n 0 (show decode km_H_witnessHeat.2.1 33 = .ok (.aload_n 0, 1) by decide +kernel) rfl rfl (by decide) k
theorem ks_H_witnessHeat_34 {d : Nat} {st : List kq_V} {μ : kq_M} {Q : Option kq_V → kq_M → Prop} {x0 x1 x2 : Option kq_V} {r : Nat} (hok : kq_hr r = true) (k : kq_S km_H_witnessHeat d 37 [x0, x1, x2] (kq_R r 5 :: st) μ Q) : kq_S km_H_witnessHeat d 34 [x0, x1, x2] (kq_R r 1 :: st) μ Q := kq_getf 1 10 (show decode km_H_witnessHeat.2.1 34 = .ok (.getfield 43, 3) by decide +kernel) kx_107 ⟨rfl, by decide, by decide, by decide⟩ (show (5 : Nat) ≠ 45 by decide) hok k
theorem ks_H_witnessHeat_37 {d : Nat} {st : List kq_V} {μ : kq_M} {Q : Option kq_V → kq_M → Prop} {x0 x2 : Option kq_V} {v : Int32} (k : kq_S km_H_witnessHeat d 38 [x0, some (kq_I v), x2] (kq_I v :: st) μ Q) : kq_S km_H_witnessHeat d 37 [x0, some (kq_I v), x2] (st) μ Q := kq_iload_n 1 (show decode km_H_witnessHeat.2.1 37 = .ok (.iload_n 1, 1) by decide +kernel) rfl rfl k
theorem ks_H_witnessHeat_38 {d : Nat} {st : List kq_V} {μ : kq_M} {Q : Option kq_V → kq_M → Prop} {x0 x1 x2 : Option kq_V} {x : Int32} {r : Nat} (j : Nat) (hok : kq_hr r = true) (hx : x = nI j) (hj : j < 8) (k : kq_S km_H_witnessHeat d 39 [x0, x1, x2] (kq_I (kq_rI μ r 5 j) :: st) μ Q) : kq_S km_H_witnessHeat d 38 [x0, x1, x2] (kq_I x :: kq_R r 5 :: st) μ Q := kq_iald 5 j (show decode km_H_witnessHeat.2.1 38 = .ok (.iaload, 1) by decide +kernel) ⟨rfl, by decide⟩ hok hx hj k
theorem ks_H_witnessHeat_38n {d : Nat} {st : List kq_V} {μ : kq_M} {Q : Option kq_V → kq_M → Prop} {x0 x1 x2 : Option kq_V} {r : Nat} {j : Nat} (hok : kq_hr r = true) (hj : j < 8) (k : kq_S km_H_witnessHeat d 39 [x0, x1, x2] (kq_I (kq_rI μ r 5 j) :: st) μ Q) : kq_S km_H_witnessHeat d 38 [x0, x1, x2] (kq_I (nI j) :: kq_R r 5 :: st) μ Q := kq_iald 5 j (show decode km_H_witnessHeat.2.1 38 = .ok (.iaload, 1) by decide +kernel) ⟨rfl, by decide⟩ hok rfl hj k
theorem ks_H_witnessHeat_39 {d : Nat} {st : List kq_V} {μ : kq_M} {Q : Option kq_V → kq_M → Prop} {x0 x1 x2 : Option kq_V} (k : kq_S km_H_witnessHeat d 40 [x0, x1, x2] (kq_I 2 :: st) μ Q) : kq_S km_H_witnessHeat d 39 [x0, x1, x2] (st) μ Q := kq_iconst (v := 2) (show decode km_H_witnessHeat.2.1 39 = .ok (.iconst 2, 1) by decide +kernel) (by decide) k
theorem ks_H_witnessHeat_40 {d : Nat} {st : List kq_V} {μ : kq_M} {Q : Option kq_V → kq_M → Prop} {x0 x1 x2 : Option kq_V} {x : Int32} (k : kq_S km_H_witnessHeat d 41 [x0, x1, x2] (kq_I (x / 2) :: st) μ Q) : kq_S km_H_witnessHeat d 40 [x0, x1, x2] (kq_I 2 :: kq_I x :: st) μ Q := kq_idiv (show decode km_H_witnessHeat.2.1 40 = .ok (.idiv, 1) by decide +kernel) (by decide) k
theorem ks_H_witnessHeat_41 {d : Nat} {st : List kq_V} {μ : kq_M} {Q : Option kq_V → kq_M → Prop} {x0 x1 x2 : Option kq_V} (k : kq_S km_H_witnessHeat d 45 [x0, x1, x2] (st) μ Q) : kq_S km_H_witnessHeat d 41 [x0, x1, x2] (st) μ Q := kq_goto 45 (show decode km_H_witnessHeat.2.1 41 = .ok (.goto 4, 3) by decide +kernel) (by decide) k
theorem ks_H_witnessHeat_44 {d : Nat} {st : List kq_V} {μ : kq_M} {Q : Option kq_V → kq_M → Prop} {x0 x1 x2 : Option kq_V} (k : kq_S km_H_witnessHeat d 45 [x0, x1, x2] (kq_I 0 :: st) μ Q) : kq_S km_H_witnessHeat d 44 [x0, x1, x2] (st) μ Q := kq_iconst (v := 0) (show decode km_H_witnessHeat.2.1 44 = .ok (.iconst 0, 1) by decide +kernel) (by decide) k
theorem ks_H_witnessHeat_45 {d : Nat} {μ : kq_M} {Q : Option kq_V → kq_M → Prop} {x0 x1 x2 : Option kq_V} {v : Int32} (k : Q (some (kq_I v)) μ) : kq_S km_H_witnessHeat d 45 [x0, x1, x2] [kq_I v] μ Q := kq_iret (show decode km_H_witnessHeat.2.1 45 = .ok (.ireturn, 1) by decide +kernel) rfl k
theorem ks_H_wifeHeat_0 {d : Nat} {st : List kq_V} {μ : kq_M} {Q : Option kq_V → kq_M → Prop} {x1 x2 : Option kq_V} {r : Nat} (k : kq_S km_H_wifeHeat d 1 [some (kq_R r 1), x1, x2] (kq_R r 1 :: st) μ Q) : kq_S km_H_wifeHeat d 0 [some (kq_R r 1), x1, x2] (st) μ Q := kq_aload_n 0 (show decode km_H_wifeHeat.2.1 0 = .ok (.aload_n 0, 1) by decide +kernel) rfl rfl (by decide) k
theorem ks_H_wifeHeat_1 {d : Nat} {st : List kq_V} {μ : kq_M} {Q : Option kq_V → kq_M → Prop} {x0 x2 : Option kq_V} {v : Int32} (k : kq_S km_H_wifeHeat d 2 [x0, some (kq_I v), x2] (kq_I v :: st) μ Q) : kq_S km_H_wifeHeat d 1 [x0, some (kq_I v), x2] (st) μ Q := kq_iload_n 1 (show decode km_H_wifeHeat.2.1 1 = .ok (.iload_n 1, 1) by decide +kernel) rfl rfl k
theorem ks_H_wifeHeat_2 {d : Nat} {st : List kq_V} {μ : kq_M} {Q : Option kq_V → kq_M → Prop} {x0 x1 : Option kq_V} {v : Int32} (k : kq_S km_H_wifeHeat d 3 [x0, x1, some (kq_I v)] (kq_I v :: st) μ Q) : kq_S km_H_wifeHeat d 2 [x0, x1, some (kq_I v)] (st) μ Q := kq_iload_n 2 (show decode km_H_wifeHeat.2.1 2 = .ok (.iload_n 2, 1) by decide +kernel) rfl rfl k
theorem ks_H_wifeHeat_3 {d : Nat} {st : List kq_V} {μ : kq_M} {Q : Option kq_V → kq_M → Prop} {x0 x1 x2 : Option kq_V} {a1 a2 : kq_V} {r : Nat} (hok : kq_hr r = true) (hst : (st.map kq_cat).sum ≤ 8) (k : kq_Call d km_H_witnessHeat [kq_R r 1, a1, a2] μ (kq_K km_H_wifeHeat (d + 1) 6 [x0, x1, x2] st Q)) : kq_S km_H_wifeHeat (d + 1) 3 [x0, x1, x2] (a2 :: a1 :: kq_R r 1 :: st) μ Q := kq_callV (M' := km_H_witnessHeat) [a1, a2] (show decode km_H_wifeHeat.2.1 3 = .ok (.invokevirtual 80, 3) by decide +kernel) kx_301 kw_H_witnessHeat kg_H_witnessHeat (kq_rc_obj 1 ⟨rfl, by decide, by decide, rfl⟩ hok) hst k
theorem ks_H_wifeHeat_6 {d : Nat} {st : List kq_V} {μ : kq_M} {Q : Option kq_V → kq_M → Prop} {x1 x2 : Option kq_V} {r : Nat} (k : kq_S km_H_wifeHeat d 7 [some (kq_R r 1), x1, x2] (kq_R r 1 :: st) μ Q) : kq_S km_H_wifeHeat d 6 [some (kq_R r 1), x1, x2] (st) μ Q := kq_aload_n 0 (show decode km_H_wifeHeat.2.1 6 = .ok (.aload_n 0, 1) by decide +kernel) rfl rfl (by decide) k
theorem ks_H_wifeHeat_7 {d : Nat} {st : List kq_V} {μ : kq_M} {Q : Option kq_V → kq_M → Prop} {x0 x2 : Option kq_V} {v : Int32} (k : kq_S km_H_wifeHeat d 8 [x0, some (kq_I v), x2] (kq_I v :: st) μ Q) : kq_S km_H_wifeHeat d 7 [x0, some (kq_I v), x2] (st) μ Q := kq_iload_n 1 (show decode km_H_wifeHeat.2.1 7 = .ok (.iload_n 1, 1) by decide +kernel) rfl rfl k
theorem ks_H_wifeHeat_8 {d : Nat} {st : List kq_V} {μ : kq_M} {Q : Option kq_V → kq_M → Prop} {x0 x1 : Option kq_V} {v : Int32} (k : kq_S km_H_wifeHeat d 9 [x0, x1, some (kq_I v)] (kq_I v :: st) μ Q) : kq_S km_H_wifeHeat d 8 [x0, x1, some (kq_I v)] (st) μ Q := kq_iload_n 2 (show decode km_H_wifeHeat.2.1 8 = .ok (.iload_n 2, 1) by decide +kernel) rfl rfl k
theorem ks_H_wifeHeat_9 {d : Nat} {st : List kq_V} {μ : kq_M} {Q : Option kq_V → kq_M → Prop} {x0 x1 x2 : Option kq_V} {a1 a2 : kq_V} {r : Nat} (hok : kq_hr r = true) (hst : (st.map kq_cat).sum ≤ 8) (k : kq_Call d km_H_anotherPlumberLies [kq_R r 1, a1, a2] μ (kq_K km_H_wifeHeat (d + 1) 12 [x0, x1, x2] st Q)) : kq_S km_H_wifeHeat (d + 1) 9 [x0, x1, x2] (a2 :: a1 :: kq_R r 1 :: st) μ Q := kq_callV (M' := km_H_anotherPlumberLies) [a1, a2] (show decode km_H_wifeHeat.2.1 9 = .ok (.invokevirtual 86, 3) by decide +kernel) kx_310 kw_H_anotherPlumberLies kg_H_anotherPlumberLies (kq_rc_obj 1 ⟨rfl, by decide, by decide, rfl⟩ hok) hst k
theorem ks_H_wifeHeat_12 {d : Nat} {st : List kq_V} {μ : kq_M} {Q : Option kq_V → kq_M → Prop} {x0 x1 x2 : Option kq_V} {x : Int32} (kt : x = 0 → kq_S km_H_wifeHeat d 19 [x0, x1, x2] st μ Q) (kf : ¬ x = 0 → kq_S km_H_wifeHeat d 15 [x0, x1, x2] st μ Q) : kq_S km_H_wifeHeat d 12 [x0, x1, x2] (kq_I x :: st) μ Q := kq_if_eq 19 (show decode km_H_wifeHeat.2.1 12 = .ok (.ifCond .eq 7, 3) by decide +kernel) (by decide) kt kf
theorem ks_H_wifeHeat_15 {d : Nat} {st : List kq_V} {μ : kq_M} {Q : Option kq_V → kq_M → Prop} {x0 x1 x2 : Option kq_V} (k : kq_S km_H_wifeHeat d 16 [x0, x1, x2] (kq_I 1 :: st) μ Q) : kq_S km_H_wifeHeat d 15 [x0, x1, x2] (st) μ Q := kq_iconst (v := 1) (show decode km_H_wifeHeat.2.1 15 = .ok (.iconst 1, 1) by decide +kernel) (by decide) k
theorem ks_H_wifeHeat_16 {d : Nat} {st : List kq_V} {μ : kq_M} {Q : Option kq_V → kq_M → Prop} {x0 x1 x2 : Option kq_V} (k : kq_S km_H_wifeHeat d 20 [x0, x1, x2] (st) μ Q) : kq_S km_H_wifeHeat d 16 [x0, x1, x2] (st) μ Q := kq_goto 20 (show decode km_H_wifeHeat.2.1 16 = .ok (.goto 4, 3) by decide +kernel) (by decide) k
theorem ks_H_wifeHeat_19 {d : Nat} {st : List kq_V} {μ : kq_M} {Q : Option kq_V → kq_M → Prop} {x0 x1 x2 : Option kq_V} (k : kq_S km_H_wifeHeat d 20 [x0, x1, x2] (kq_I 0 :: st) μ Q) : kq_S km_H_wifeHeat d 19 [x0, x1, x2] (st) μ Q := kq_iconst (v := 0) (show decode km_H_wifeHeat.2.1 19 = .ok (.iconst 0, 1) by decide +kernel) (by decide) k
theorem ks_H_wifeHeat_20 {d : Nat} {st : List kq_V} {μ : kq_M} {Q : Option kq_V → kq_M → Prop} {x0 x1 x2 : Option kq_V} {x y : Int32} (k : kq_S km_H_wifeHeat d 21 [x0, x1, x2] (kq_I (x + y) :: st) μ Q) : kq_S km_H_wifeHeat d 20 [x0, x1, x2] (kq_I y :: kq_I x :: st) μ Q := kq_iadd (show decode km_H_wifeHeat.2.1 20 = .ok (.iadd, 1) by decide +kernel) k
theorem ks_H_wifeHeat_21 {d : Nat} {μ : kq_M} {Q : Option kq_V → kq_M → Prop} {x0 x1 x2 : Option kq_V} {v : Int32} (k : Q (some (kq_I v)) μ) : kq_S km_H_wifeHeat d 21 [x0, x1, x2] [kq_I v] μ Q := kq_iret (show decode km_H_wifeHeat.2.1 21 = .ok (.ireturn, 1) by decide +kernel) rfl k
theorem ks_H_anotherPlumberLies_0 {d : Nat} {st : List kq_V} {μ : kq_M} {Q : Option kq_V → kq_M → Prop} {x0 x1 x2 x3 : Option kq_V} (k : kq_S km_H_anotherPlumberLies d 1 [x0, x1, x2, x3] (kq_I 0 :: st) μ Q) : kq_S km_H_anotherPlumberLies d 0 [x0, x1, x2, x3] (st) μ Q := kq_iconst (v := 0) (show decode km_H_anotherPlumberLies.2.1 0 = .ok (.iconst 0, 1) by decide +kernel) (by decide) k
theorem ks_H_anotherPlumberLies_1 {d : Nat} {st : List kq_V} {μ : kq_M} {Q : Option kq_V → kq_M → Prop} {x0 x1 x2 x3 : Option kq_V} {v : Int32} (hp : kq_nj x2 = true) (k : kq_S km_H_anotherPlumberLies d 2 [x0, x1, x2, some (kq_I v)] (st) μ Q) : kq_S km_H_anotherPlumberLies d 1 [x0, x1, x2, x3] (kq_I v :: st) μ Q := kq_istore_n 3 (show decode km_H_anotherPlumberLies.2.1 1 = .ok (.istore_n 3, 1) by decide +kernel) rfl (by decide) (kq_nl_of rfl hp) k
theorem ks_H_anotherPlumberLies_2 {d : Nat} {st : List kq_V} {μ : kq_M} {Q : Option kq_V → kq_M → Prop} {x0 x1 x2 : Option kq_V} {v : Int32} (k : kq_S km_H_anotherPlumberLies d 3 [x0, x1, x2, some (kq_I v)] (kq_I v :: st) μ Q) : kq_S km_H_anotherPlumberLies d 2 [x0, x1, x2, some (kq_I v)] (st) μ Q := kq_iload_n 3 (show decode km_H_anotherPlumberLies.2.1 2 = .ok (.iload_n 3, 1) by decide +kernel) rfl rfl k
theorem ks_H_anotherPlumberLies_3 {d : Nat} {st : List kq_V} {μ : kq_M} {Q : Option kq_V → kq_M → Prop} {x1 x2 x3 : Option kq_V} {r : Nat} (k : kq_S km_H_anotherPlumberLies d 4 [some (kq_R r 1), x1, x2, x3] (kq_R r 1 :: st) μ Q) : kq_S km_H_anotherPlumberLies d 3 [some (kq_R r 1), x1, x2, x3] (st) μ Q := kq_aload_n 0 (show decode km_H_anotherPlumberLies.2.1 3 = .ok (.aload_n 0, 1) by decide +kernel) rfl rfl (by decide) k
theorem ks_H_anotherPlumberLies_4 {d : Nat} {st : List kq_V} {μ : kq_M} {Q : Option kq_V → kq_M → Prop} {x0 x1 x2 x3 : Option kq_V} {r : Nat} (hok : kq_hr r = true) (k : kq_S km_H_anotherPlumberLies d 7 [x0, x1, x2, x3] (kq_I (kq_rI μ r 1 6) :: st) μ Q) : kq_S km_H_anotherPlumberLies d 4 [x0, x1, x2, x3] (kq_R r 1 :: st) μ Q := kq_getf 1 6 (show decode km_H_anotherPlumberLies.2.1 4 = .ok (.getfield 30, 3) by decide +kernel) kx_96 ⟨rfl, by decide, by decide, by decide⟩ (show (0 : Nat) ≠ 45 by decide) hok k
theorem ks_H_anotherPlumberLies_7 {d : Nat} {st : List kq_V} {μ : kq_M} {Q : Option kq_V → kq_M → Prop} {x0 x1 x2 x3 : Option kq_V} {x y : Int32} (kt : y ≤ x → kq_S km_H_anotherPlumberLies d 48 [x0, x1, x2, x3] st μ Q) (kf : ¬ y ≤ x → kq_S km_H_anotherPlumberLies d 10 [x0, x1, x2, x3] st μ Q) : kq_S km_H_anotherPlumberLies d 7 [x0, x1, x2, x3] (kq_I y :: kq_I x :: st) μ Q := kq_icmp_ge 48 (show decode km_H_anotherPlumberLies.2.1 7 = .ok (.if_icmp .ge 41, 3) by decide +kernel) (by decide) kt kf
theorem ks_H_anotherPlumberLies_10 {d : Nat} {st : List kq_V} {μ : kq_M} {Q : Option kq_V → kq_M → Prop} {x0 x1 x2 : Option kq_V} {v : Int32} (k : kq_S km_H_anotherPlumberLies d 11 [x0, x1, x2, some (kq_I v)] (kq_I v :: st) μ Q) : kq_S km_H_anotherPlumberLies d 10 [x0, x1, x2, some (kq_I v)] (st) μ Q := kq_iload_n 3 (show decode km_H_anotherPlumberLies.2.1 10 = .ok (.iload_n 3, 1) by decide +kernel) rfl rfl k
theorem ks_H_anotherPlumberLies_11 {d : Nat} {st : List kq_V} {μ : kq_M} {Q : Option kq_V → kq_M → Prop} {x0 x2 x3 : Option kq_V} {v : Int32} (k : kq_S km_H_anotherPlumberLies d 12 [x0, some (kq_I v), x2, x3] (kq_I v :: st) μ Q) : kq_S km_H_anotherPlumberLies d 11 [x0, some (kq_I v), x2, x3] (st) μ Q := kq_iload_n 1 (show decode km_H_anotherPlumberLies.2.1 11 = .ok (.iload_n 1, 1) by decide +kernel) rfl rfl k
theorem ks_H_anotherPlumberLies_12 {d : Nat} {st : List kq_V} {μ : kq_M} {Q : Option kq_V → kq_M → Prop} {x0 x1 x2 x3 : Option kq_V} {x y : Int32} (kt : x = y → kq_S km_H_anotherPlumberLies d 42 [x0, x1, x2, x3] st μ Q) (kf : ¬ x = y → kq_S km_H_anotherPlumberLies d 15 [x0, x1, x2, x3] st μ Q) : kq_S km_H_anotherPlumberLies d 12 [x0, x1, x2, x3] (kq_I y :: kq_I x :: st) μ Q := kq_icmp_eq 42 (show decode km_H_anotherPlumberLies.2.1 12 = .ok (.if_icmp .eq 30, 3) by decide +kernel) (by decide) kt kf
theorem ks_H_anotherPlumberLies_15 {d : Nat} {st : List kq_V} {μ : kq_M} {Q : Option kq_V → kq_M → Prop} {x1 x2 x3 : Option kq_V} {r : Nat} (k : kq_S km_H_anotherPlumberLies d 16 [some (kq_R r 1), x1, x2, x3] (kq_R r 1 :: st) μ Q) : kq_S km_H_anotherPlumberLies d 15 [some (kq_R r 1), x1, x2, x3] (st) μ Q := kq_aload_n 0 (show decode km_H_anotherPlumberLies.2.1 15 = .ok (.aload_n 0, 1) by decide +kernel) rfl rfl (by decide) k
theorem ks_H_anotherPlumberLies_16 {d : Nat} {st : List kq_V} {μ : kq_M} {Q : Option kq_V → kq_M → Prop} {x0 x1 x2 : Option kq_V} {v : Int32} (k : kq_S km_H_anotherPlumberLies d 17 [x0, x1, x2, some (kq_I v)] (kq_I v :: st) μ Q) : kq_S km_H_anotherPlumberLies d 16 [x0, x1, x2, some (kq_I v)] (st) μ Q := kq_iload_n 3 (show decode km_H_anotherPlumberLies.2.1 16 = .ok (.iload_n 3, 1) by decide +kernel) rfl rfl k
theorem ks_H_anotherPlumberLies_17 {d : Nat} {st : List kq_V} {μ : kq_M} {Q : Option kq_V → kq_M → Prop} {x0 x1 x2 x3 : Option kq_V} {a1 : kq_V} {r : Nat} (hok : kq_hr r = true) (hst : (st.map kq_cat).sum ≤ 8) (k : kq_Call d km_H_lieSet [kq_R r 1, a1] μ (kq_K km_H_anotherPlumberLies (d + 1) 20 [x0, x1, x2, x3] st Q)) : kq_S km_H_anotherPlumberLies (d + 1) 17 [x0, x1, x2, x3] (a1 :: kq_R r 1 :: st) μ Q := kq_callV (M' := km_H_lieSet) [a1] (show decode km_H_anotherPlumberLies.2.1 17 = .ok (.invokevirtual 57, 3) by decide +kernel) kx_297 kw_H_lieSet kg_H_lieSet (kq_rc_obj 1 ⟨rfl, by decide, by decide, rfl⟩ hok) hst k
theorem ks_H_anotherPlumberLies_20 {d : Nat} {st : List kq_V} {μ : kq_M} {Q : Option kq_V → kq_M → Prop} {x0 x1 x3 : Option kq_V} {v : Int32} (k : kq_S km_H_anotherPlumberLies d 21 [x0, x1, some (kq_I v), x3] (kq_I v :: st) μ Q) : kq_S km_H_anotherPlumberLies d 20 [x0, x1, some (kq_I v), x3] (st) μ Q := kq_iload_n 2 (show decode km_H_anotherPlumberLies.2.1 20 = .ok (.iload_n 2, 1) by decide +kernel) rfl rfl k
theorem ks_H_anotherPlumberLies_21 {d : Nat} {st : List kq_V} {μ : kq_M} {Q : Option kq_V → kq_M → Prop} {x0 x1 x2 x3 : Option kq_V} {a1 a2 : kq_V} (hst : (st.map kq_cat).sum ≤ 8) (k : kq_Call d km_K_isIn [a1, a2] μ (kq_K km_H_anotherPlumberLies (d + 1) 24 [x0, x1, x2, x3] st Q)) : kq_S km_H_anotherPlumberLies (d + 1) 21 [x0, x1, x2, x3] (a2 :: a1 :: st) μ Q := kq_callN (M' := km_K_isIn) [a1, a2] (show decode km_H_anotherPlumberLies.2.1 21 = .ok (.invokestatic 76, 3) by decide +kernel) kq_nwI_ok kw_K_isIn kg_K_isIn hst k
theorem ks_H_anotherPlumberLies_24 {d : Nat} {st : List kq_V} {μ : kq_M} {Q : Option kq_V → kq_M → Prop} {x0 x1 x2 x3 : Option kq_V} {x : Int32} (kt : x = 0 → kq_S km_H_anotherPlumberLies d 42 [x0, x1, x2, x3] st μ Q) (kf : ¬ x = 0 → kq_S km_H_anotherPlumberLies d 27 [x0, x1, x2, x3] st μ Q) : kq_S km_H_anotherPlumberLies d 24 [x0, x1, x2, x3] (kq_I x :: st) μ Q := kq_if_eq 42 (show decode km_H_anotherPlumberLies.2.1 24 = .ok (.ifCond .eq 18, 3) by decide +kernel) (by decide) kt kf
theorem ks_H_anotherPlumberLies_27 {d : Nat} {st : List kq_V} {μ : kq_M} {Q : Option kq_V → kq_M → Prop} {x1 x2 x3 : Option kq_V} {r : Nat} (k : kq_S km_H_anotherPlumberLies d 28 [some (kq_R r 1), x1, x2, x3] (kq_R r 1 :: st) μ Q) : kq_S km_H_anotherPlumberLies d 27 [some (kq_R r 1), x1, x2, x3] (st) μ Q := kq_aload_n 0 (show decode km_H_anotherPlumberLies.2.1 27 = .ok (.aload_n 0, 1) by decide +kernel) rfl rfl (by decide) k
theorem ks_H_anotherPlumberLies_28 {d : Nat} {st : List kq_V} {μ : kq_M} {Q : Option kq_V → kq_M → Prop} {x0 x1 x2 x3 : Option kq_V} {r : Nat} (hok : kq_hr r = true) (k : kq_S km_H_anotherPlumberLies d 31 [x0, x1, x2, x3] (kq_R r 2 :: st) μ Q) : kq_S km_H_anotherPlumberLies d 28 [x0, x1, x2, x3] (kq_R r 1 :: st) μ Q := kq_getf 1 7 (show decode km_H_anotherPlumberLies.2.1 28 = .ok (.getfield 33, 3) by decide +kernel) kx_99 ⟨rfl, by decide, by decide, by decide⟩ (show (2 : Nat) ≠ 45 by decide) hok k
theorem ks_H_anotherPlumberLies_31 {d : Nat} {st : List kq_V} {μ : kq_M} {Q : Option kq_V → kq_M → Prop} {x0 x1 x2 : Option kq_V} {v : Int32} (k : kq_S km_H_anotherPlumberLies d 32 [x0, x1, x2, some (kq_I v)] (kq_I v :: st) μ Q) : kq_S km_H_anotherPlumberLies d 31 [x0, x1, x2, some (kq_I v)] (st) μ Q := kq_iload_n 3 (show decode km_H_anotherPlumberLies.2.1 31 = .ok (.iload_n 3, 1) by decide +kernel) rfl rfl k
theorem ks_H_anotherPlumberLies_32 {d : Nat} {st : List kq_V} {μ : kq_M} {Q : Option kq_V → kq_M → Prop} {x0 x1 x2 x3 : Option kq_V} {x : Int32} {r : Nat} (j : Nat) (hok : kq_hr r = true) (hx : x = nI j) (hj : j < 8) (k : kq_S km_H_anotherPlumberLies d 33 [x0, x1, x2, x3] (kq_I (kq_rI μ r 2 j) :: st) μ Q) : kq_S km_H_anotherPlumberLies d 32 [x0, x1, x2, x3] (kq_I x :: kq_R r 2 :: st) μ Q := kq_iald 2 j (show decode km_H_anotherPlumberLies.2.1 32 = .ok (.iaload, 1) by decide +kernel) ⟨rfl, by decide⟩ hok hx hj k
theorem ks_H_anotherPlumberLies_32n {d : Nat} {st : List kq_V} {μ : kq_M} {Q : Option kq_V → kq_M → Prop} {x0 x1 x2 x3 : Option kq_V} {r : Nat} {j : Nat} (hok : kq_hr r = true) (hj : j < 8) (k : kq_S km_H_anotherPlumberLies d 33 [x0, x1, x2, x3] (kq_I (kq_rI μ r 2 j) :: st) μ Q) : kq_S km_H_anotherPlumberLies d 32 [x0, x1, x2, x3] (kq_I (nI j) :: kq_R r 2 :: st) μ Q := kq_iald 2 j (show decode km_H_anotherPlumberLies.2.1 32 = .ok (.iaload, 1) by decide +kernel) ⟨rfl, by decide⟩ hok rfl hj k
theorem ks_H_anotherPlumberLies_33 {d : Nat} {st : List kq_V} {μ : kq_M} {Q : Option kq_V → kq_M → Prop} {x0 x1 x2 x3 : Option kq_V} (k : kq_S km_H_anotherPlumberLies d 34 [x0, x1, x2, x3] (kq_I 1 :: st) μ Q) : kq_S km_H_anotherPlumberLies d 33 [x0, x1, x2, x3] (st) μ Q := kq_iconst (v := 1) (show decode km_H_anotherPlumberLies.2.1 33 = .ok (.iconst 1, 1) by decide +kernel) (by decide) k
theorem ks_H_anotherPlumberLies_34 {d : Nat} {st : List kq_V} {μ : kq_M} {Q : Option kq_V → kq_M → Prop} {x0 x1 x2 x3 : Option kq_V} {a1 a2 : kq_V} (hst : (st.map kq_cat).sum ≤ 8) (k : kq_Call d km_K_isOfKind [a1, a2] μ (kq_K km_H_anotherPlumberLies (d + 1) 37 [x0, x1, x2, x3] st Q)) : kq_S km_H_anotherPlumberLies (d + 1) 34 [x0, x1, x2, x3] (a2 :: a1 :: st) μ Q := kq_callN (M' := km_K_isOfKind) [a1, a2] (show decode km_H_anotherPlumberLies.2.1 34 = .ok (.invokestatic 89, 3) by decide +kernel) kq_nwO_ok kw_K_isOfKind kg_K_isOfKind hst k
theorem ks_H_anotherPlumberLies_37 {d : Nat} {st : List kq_V} {μ : kq_M} {Q : Option kq_V → kq_M → Prop} {x0 x1 x2 x3 : Option kq_V} {x : Int32} (kt : x = 0 → kq_S km_H_anotherPlumberLies d 42 [x0, x1, x2, x3] st μ Q) (kf : ¬ x = 0 → kq_S km_H_anotherPlumberLies d 40 [x0, x1, x2, x3] st μ Q) : kq_S km_H_anotherPlumberLies d 37 [x0, x1, x2, x3] (kq_I x :: st) μ Q := kq_if_eq 42 (show decode km_H_anotherPlumberLies.2.1 37 = .ok (.ifCond .eq 5, 3) by decide +kernel) (by decide) kt kf
theorem ks_H_anotherPlumberLies_40 {d : Nat} {st : List kq_V} {μ : kq_M} {Q : Option kq_V → kq_M → Prop} {x0 x1 x2 x3 : Option kq_V} (k : kq_S km_H_anotherPlumberLies d 41 [x0, x1, x2, x3] (kq_I 1 :: st) μ Q) : kq_S km_H_anotherPlumberLies d 40 [x0, x1, x2, x3] (st) μ Q := kq_iconst (v := 1) (show decode km_H_anotherPlumberLies.2.1 40 = .ok (.iconst 1, 1) by decide +kernel) (by decide) k
theorem ks_H_anotherPlumberLies_41 {d : Nat} {μ : kq_M} {Q : Option kq_V → kq_M → Prop} {x0 x1 x2 x3 : Option kq_V} (k : Q (some (kq_I 1)) μ) : kq_S km_H_anotherPlumberLies d 41 [x0, x1, x2, x3] [kq_I 1] μ Q := kq_zret (ty := .boolean) (show decode km_H_anotherPlumberLies.2.1 41 = .ok (.ireturn, 1) by decide +kernel) rfl (by decide) k
theorem ks_H_anotherPlumberLies_42 {d : Nat} {st : List kq_V} {μ : kq_M} {Q : Option kq_V → kq_M → Prop} {x0 x1 x2 : Option kq_V} {v : Int32} (hp : kq_nj x2 = true) (k : kq_S km_H_anotherPlumberLies d 45 [x0, x1, x2, some (kq_I (v + 1))] (st) μ Q) : kq_S km_H_anotherPlumberLies d 42 [x0, x1, x2, some (kq_I v)] (st) μ Q := kq_iinc _ (show decode km_H_anotherPlumberLies.2.1 42 = .ok (.iinc 3 1, 3) by decide +kernel) rfl rfl (by decide) (kq_nl_of rfl hp) k
theorem ks_H_anotherPlumberLies_42n {d : Nat} {st : List kq_V} {μ : kq_M} {Q : Option kq_V → kq_M → Prop} {x0 x1 x2 : Option kq_V} {v : Nat} (hp : kq_nj x2 = true) (k : kq_S km_H_anotherPlumberLies d 45 [x0, x1, x2, some (kq_I (nI (v + 1)))] (st) μ Q) : kq_S km_H_anotherPlumberLies d 42 [x0, x1, x2, some (kq_I (nI v))] (st) μ Q := kq_iinc _ (show decode km_H_anotherPlumberLies.2.1 42 = .ok (.iinc 3 1, 3) by decide +kernel) rfl (nI_1 v) (by decide) (kq_nl_of rfl hp) k
theorem ks_H_anotherPlumberLies_45 {d : Nat} {st : List kq_V} {μ : kq_M} {Q : Option kq_V → kq_M → Prop} {x0 x1 x2 x3 : Option kq_V} (k : kq_S km_H_anotherPlumberLies d 2 [x0, x1, x2, x3] (st) μ Q) : kq_S km_H_anotherPlumberLies d 45 [x0, x1, x2, x3] (st) μ Q := kq_goto 2 (show decode km_H_anotherPlumberLies.2.1 45 = .ok (.goto (-43), 3) by decide +kernel) (by decide) k
theorem ks_H_anotherPlumberLies_48 {d : Nat} {st : List kq_V} {μ : kq_M} {Q : Option kq_V → kq_M → Prop} {x0 x1 x2 x3 : Option kq_V} (k : kq_S km_H_anotherPlumberLies d 49 [x0, x1, x2, x3] (kq_I 0 :: st) μ Q) : kq_S km_H_anotherPlumberLies d 48 [x0, x1, x2, x3] (st) μ Q := kq_iconst (v := 0) (show decode km_H_anotherPlumberLies.2.1 48 = .ok (.iconst 0, 1) by decide +kernel) (by decide) k
theorem ks_H_anotherPlumberLies_49 {d : Nat} {μ : kq_M} {Q : Option kq_V → kq_M → Prop} {x0 x1 x2 x3 : Option kq_V} (k : Q (some (kq_I 0)) μ) : kq_S km_H_anotherPlumberLies d 49 [x0, x1, x2, x3] [kq_I 0] μ Q := kq_zret (ty := .boolean) (show decode km_H_anotherPlumberLies.2.1 49 = .ok (.ireturn, 1) by decide +kernel) rfl (by decide) k
theorem ks_H_hearAnswer_0 {d : Nat} {st : List kq_V} {μ : kq_M} {Q : Option kq_V → kq_M → Prop} {x1 x2 x3 : Option kq_V} {r : Nat} (k : kq_S km_H_hearAnswer d 1 [some (kq_R r 1), x1, x2, x3] (kq_R r 1 :: st) μ Q) : kq_S km_H_hearAnswer d 0 [some (kq_R r 1), x1, x2, x3] (st) μ Q := kq_aload_n 0 (show decode km_H_hearAnswer.2.1 0 = .ok (.aload_n 0, 1) by decide +kernel) rfl rfl (by decide) k
theorem ks_H_hearAnswer_1 {d : Nat} {st : List kq_V} {μ : kq_M} {Q : Option kq_V → kq_M → Prop} {x0 x1 x2 x3 : Option kq_V} (k : kq_S km_H_hearAnswer d 2 [x0, x1, x2, x3] (kq_I 0 :: st) μ Q) : kq_S km_H_hearAnswer d 1 [x0, x1, x2, x3] (st) μ Q := kq_iconst (v := 0) (show decode km_H_hearAnswer.2.1 1 = .ok (.iconst 0, 1) by decide +kernel) (by decide) k
theorem ks_H_hearAnswer_2 {d : Nat} {st : List kq_V} {μ : kq_M} {Q : Option kq_V → kq_M → Prop} {x0 x1 x2 x3 : Option kq_V} (k : kq_S km_H_hearAnswer d 4 [x0, x1, x2, x3] (kq_I 99 :: st) μ Q) : kq_S km_H_hearAnswer d 2 [x0, x1, x2, x3] (st) μ Q := kq_bipush (v := 99) (show decode km_H_hearAnswer.2.1 2 = .ok (.bipush 99, 2) by decide +kernel) (by decide) k
theorem ks_H_hearAnswer_4 {d : Nat} {st : List kq_V} {μ : kq_M} {Q : Option kq_V → kq_M → Prop} {x1 x2 x3 : Option kq_V} {r : Nat} (k : kq_S km_H_hearAnswer d 5 [some (kq_R r 1), x1, x2, x3] (kq_R r 1 :: st) μ Q) : kq_S km_H_hearAnswer d 4 [some (kq_R r 1), x1, x2, x3] (st) μ Q := kq_aload_n 0 (show decode km_H_hearAnswer.2.1 4 = .ok (.aload_n 0, 1) by decide +kernel) rfl rfl (by decide) k
theorem ks_H_hearAnswer_5 {d : Nat} {st : List kq_V} {μ : kq_M} {Q : Option kq_V → kq_M → Prop} {x0 x1 x2 x3 : Option kq_V} {r : Nat} (hok : kq_hr r = true) (k : kq_S km_H_hearAnswer d 8 [x0, x1, x2, x3] (kq_I (kq_rI μ r 1 1) :: st) μ Q) : kq_S km_H_hearAnswer d 5 [x0, x1, x2, x3] (kq_R r 1 :: st) μ Q := kq_getf 1 1 (show decode km_H_hearAnswer.2.1 5 = .ok (.getfield 15, 3) by decide +kernel) kx_85 ⟨rfl, by decide, by decide, by decide⟩ (show (0 : Nat) ≠ 45 by decide) hok k
theorem ks_H_hearAnswer_8 {d : Nat} {st : List kq_V} {μ : kq_M} {Q : Option kq_V → kq_M → Prop} {x1 x2 x3 : Option kq_V} {r : Nat} (k : kq_S km_H_hearAnswer d 9 [some (kq_R r 1), x1, x2, x3] (kq_R r 1 :: st) μ Q) : kq_S km_H_hearAnswer d 8 [some (kq_R r 1), x1, x2, x3] (st) μ Q := kq_aload_n 0 (show decode km_H_hearAnswer.2.1 8 = .ok (.aload_n 0, 1) by decide +kernel) rfl rfl (by decide) k
theorem ks_H_hearAnswer_9 {d : Nat} {st : List kq_V} {μ : kq_M} {Q : Option kq_V → kq_M → Prop} {x0 x2 x3 : Option kq_V} {v : Int32} (k : kq_S km_H_hearAnswer d 10 [x0, some (kq_I v), x2, x3] (kq_I v :: st) μ Q) : kq_S km_H_hearAnswer d 9 [x0, some (kq_I v), x2, x3] (st) μ Q := kq_iload_n 1 (show decode km_H_hearAnswer.2.1 9 = .ok (.iload_n 1, 1) by decide +kernel) rfl rfl k
theorem ks_H_hearAnswer_10 {d : Nat} {st : List kq_V} {μ : kq_M} {Q : Option kq_V → kq_M → Prop} {x0 x1 x3 : Option kq_V} {v : Int32} (k : kq_S km_H_hearAnswer d 11 [x0, x1, some (kq_I v), x3] (kq_I v :: st) μ Q) : kq_S km_H_hearAnswer d 10 [x0, x1, some (kq_I v), x3] (st) μ Q := kq_iload_n 2 (show decode km_H_hearAnswer.2.1 10 = .ok (.iload_n 2, 1) by decide +kernel) rfl rfl k
theorem ks_H_hearAnswer_11 {d : Nat} {st : List kq_V} {μ : kq_M} {Q : Option kq_V → kq_M → Prop} {x0 x1 x2 x3 : Option kq_V} {a1 a2 : kq_V} {r : Nat} (hok : kq_hr r = true) (hst : (st.map kq_cat).sum ≤ 8) (k : kq_Call d km_H_heatBy [kq_R r 1, a1, a2] μ (kq_K km_H_hearAnswer (d + 1) 14 [x0, x1, x2, x3] st Q)) : kq_S km_H_hearAnswer (d + 1) 11 [x0, x1, x2, x3] (a2 :: a1 :: kq_R r 1 :: st) μ Q := kq_callV (M' := km_H_heatBy) [a1, a2] (show decode km_H_hearAnswer.2.1 11 = .ok (.invokevirtual 92, 3) by decide +kernel) kx_324 kw_H_heatBy kg_H_heatBy (kq_rc_obj 1 ⟨rfl, by decide, by decide, rfl⟩ hok) hst k
theorem ks_H_hearAnswer_14 {d : Nat} {st : List kq_V} {μ : kq_M} {Q : Option kq_V → kq_M → Prop} {x0 x1 x2 x3 : Option kq_V} {x y : Int32} (k : kq_S km_H_hearAnswer d 15 [x0, x1, x2, x3] (kq_I (x + y) :: st) μ Q) : kq_S km_H_hearAnswer d 14 [x0, x1, x2, x3] (kq_I y :: kq_I x :: st) μ Q := kq_iadd (show decode km_H_hearAnswer.2.1 14 = .ok (.iadd, 1) by decide +kernel) k
theorem ks_H_hearAnswer_15 {d : Nat} {st : List kq_V} {μ : kq_M} {Q : Option kq_V → kq_M → Prop} {x0 x1 x2 x3 : Option kq_V} {a1 a2 : kq_V} (hst : (st.map kq_cat).sum ≤ 8) (k : kq_Call d km_jM_min [a1, a2] μ (kq_K km_H_hearAnswer (d + 1) 18 [x0, x1, x2, x3] st Q)) : kq_S km_H_hearAnswer (d + 1) 15 [x0, x1, x2, x3] (a2 :: a1 :: st) μ Q := kq_callS (M' := km_jM_min) [a1, a2] (show decode km_H_hearAnswer.2.1 15 = .ok (.invokestatic 95, 3) by decide +kernel) kx_325 kw_jM_min kg_jM_min hst k
theorem ks_H_hearAnswer_18 {d : Nat} {st : List kq_V} {μ : kq_M} {Q : Option kq_V → kq_M → Prop} {x0 x1 x2 x3 : Option kq_V} {a1 a2 : kq_V} (hst : (st.map kq_cat).sum ≤ 8) (k : kq_Call d km_jM_max [a1, a2] μ (kq_K km_H_hearAnswer (d + 1) 21 [x0, x1, x2, x3] st Q)) : kq_S km_H_hearAnswer (d + 1) 18 [x0, x1, x2, x3] (a2 :: a1 :: st) μ Q := kq_callS (M' := km_jM_max) [a1, a2] (show decode km_H_hearAnswer.2.1 18 = .ok (.invokestatic 100, 3) by decide +kernel) kx_328 kw_jM_max kg_jM_max hst k
theorem ks_H_hearAnswer_21 {d : Nat} {st : List kq_V} {μ : kq_M} {Q : Option kq_V → kq_M → Prop} {x0 x1 x2 x3 : Option kq_V} {r : Nat} {v : Int32} (hok : kq_hr r = true) (k : kq_S km_H_hearAnswer d 24 [x0, x1, x2, x3] (st) (kq_wI μ r 1 1 v) Q) : kq_S km_H_hearAnswer d 21 [x0, x1, x2, x3] (kq_I v :: kq_R r 1 :: st) μ Q := kq_putI (ty := .int) 1 1 (show decode km_H_hearAnswer.2.1 21 = .ok (.putfield 15, 3) by decide +kernel) kx_85 ⟨rfl, by decide, by decide, by decide, rfl, rfl, rfl⟩ ⟨rfl, rfl⟩ hok k
theorem ks_H_hearAnswer_24 {d : Nat} {st : List kq_V} {μ : kq_M} {Q : Option kq_V → kq_M → Prop} {x1 x2 x3 : Option kq_V} {r : Nat} (k : kq_S km_H_hearAnswer d 25 [some (kq_R r 1), x1, x2, x3] (kq_R r 1 :: st) μ Q) : kq_S km_H_hearAnswer d 24 [some (kq_R r 1), x1, x2, x3] (st) μ Q := kq_aload_n 0 (show decode km_H_hearAnswer.2.1 24 = .ok (.aload_n 0, 1) by decide +kernel) rfl rfl (by decide) k
theorem ks_H_hearAnswer_25 {d : Nat} {st : List kq_V} {μ : kq_M} {Q : Option kq_V → kq_M → Prop} {x0 x1 x2 x3 : Option kq_V} {r : Nat} (hok : kq_hr r = true) (k : kq_S km_H_hearAnswer d 28 [x0, x1, x2, x3] (kq_I (kq_rI μ r 1 1) :: st) μ Q) : kq_S km_H_hearAnswer d 25 [x0, x1, x2, x3] (kq_R r 1 :: st) μ Q := kq_getf 1 1 (show decode km_H_hearAnswer.2.1 25 = .ok (.getfield 15, 3) by decide +kernel) kx_85 ⟨rfl, by decide, by decide, by decide⟩ (show (0 : Nat) ≠ 45 by decide) hok k
theorem ks_H_hearAnswer_28 {d : Nat} {st : List kq_V} {μ : kq_M} {Q : Option kq_V → kq_M → Prop} {x1 x2 x3 : Option kq_V} {r : Nat} (k : kq_S km_H_hearAnswer d 29 [some (kq_R r 1), x1, x2, x3] (kq_R r 1 :: st) μ Q) : kq_S km_H_hearAnswer d 28 [some (kq_R r 1), x1, x2, x3] (st) μ Q := kq_aload_n 0 (show decode km_H_hearAnswer.2.1 28 = .ok (.aload_n 0, 1) by decide +kernel) rfl rfl (by decide) k
theorem ks_H_hearAnswer_29 {d : Nat} {st : List kq_V} {μ : kq_M} {Q : Option kq_V → kq_M → Prop} {x0 x1 x2 x3 : Option kq_V} {r : Nat} (hok : kq_hr r = true) (k : kq_S km_H_hearAnswer d 32 [x0, x1, x2, x3] (kq_I (kq_rI μ r 1 3) :: st) μ Q) : kq_S km_H_hearAnswer d 29 [x0, x1, x2, x3] (kq_R r 1 :: st) μ Q := kq_getf 1 3 (show decode km_H_hearAnswer.2.1 29 = .ok (.getfield 21, 3) by decide +kernel) kx_90 ⟨rfl, by decide, by decide, by decide⟩ (show (0 : Nat) ≠ 45 by decide) hok k
theorem ks_H_hearAnswer_32 {d : Nat} {st : List kq_V} {μ : kq_M} {Q : Option kq_V → kq_M → Prop} {x0 x1 x2 x3 : Option kq_V} {x y : Int32} (kt : x < y → kq_S km_H_hearAnswer d 47 [x0, x1, x2, x3] st μ Q) (kf : ¬ x < y → kq_S km_H_hearAnswer d 35 [x0, x1, x2, x3] st μ Q) : kq_S km_H_hearAnswer d 32 [x0, x1, x2, x3] (kq_I y :: kq_I x :: st) μ Q := kq_icmp_lt 47 (show decode km_H_hearAnswer.2.1 32 = .ok (.if_icmp .lt 15, 3) by decide +kernel) (by decide) kt kf
theorem ks_H_hearAnswer_35 {d : Nat} {st : List kq_V} {μ : kq_M} {Q : Option kq_V → kq_M → Prop} {x1 x2 x3 : Option kq_V} {r : Nat} (k : kq_S km_H_hearAnswer d 36 [some (kq_R r 1), x1, x2, x3] (kq_R r 1 :: st) μ Q) : kq_S km_H_hearAnswer d 35 [some (kq_R r 1), x1, x2, x3] (st) μ Q := kq_aload_n 0 (show decode km_H_hearAnswer.2.1 35 = .ok (.aload_n 0, 1) by decide +kernel) rfl rfl (by decide) k
theorem ks_H_hearAnswer_36 {d : Nat} {st : List kq_V} {μ : kq_M} {Q : Option kq_V → kq_M → Prop} {x0 x1 x2 x3 : Option kq_V} {r : Nat} (hok : kq_hr r = true) (k : kq_S km_H_hearAnswer d 39 [x0, x1, x2, x3] (kq_I (kq_rI μ r 1 2) :: st) μ Q) : kq_S km_H_hearAnswer d 36 [x0, x1, x2, x3] (kq_R r 1 :: st) μ Q := kq_getf 1 2 (show decode km_H_hearAnswer.2.1 36 = .ok (.getfield 18, 3) by decide +kernel) kx_87 ⟨rfl, by decide, by decide, by decide⟩ (show (0 : Nat) ≠ 45 by decide) hok k
theorem ks_H_hearAnswer_39 {d : Nat} {st : List kq_V} {μ : kq_M} {Q : Option kq_V → kq_M → Prop} {x0 x1 x2 x3 : Option kq_V} (k : kq_S km_H_hearAnswer d 40 [x0, x1, x2, x3] (kq_I 4 :: st) μ Q) : kq_S km_H_hearAnswer d 39 [x0, x1, x2, x3] (st) μ Q := kq_iconst (v := 4) (show decode km_H_hearAnswer.2.1 39 = .ok (.iconst 4, 1) by decide +kernel) (by decide) k
theorem ks_H_hearAnswer_40 {d : Nat} {st : List kq_V} {μ : kq_M} {Q : Option kq_V → kq_M → Prop} {x0 x1 x2 x3 : Option kq_V} {x y : Int32} (kt : x < y → kq_S km_H_hearAnswer d 47 [x0, x1, x2, x3] st μ Q) (kf : ¬ x < y → kq_S km_H_hearAnswer d 43 [x0, x1, x2, x3] st μ Q) : kq_S km_H_hearAnswer d 40 [x0, x1, x2, x3] (kq_I y :: kq_I x :: st) μ Q := kq_icmp_lt 47 (show decode km_H_hearAnswer.2.1 40 = .ok (.if_icmp .lt 7, 3) by decide +kernel) (by decide) kt kf
theorem ks_H_hearAnswer_43 {d : Nat} {st : List kq_V} {μ : kq_M} {Q : Option kq_V → kq_M → Prop} {x0 x1 x2 x3 : Option kq_V} (k : kq_S km_H_hearAnswer d 44 [x0, x1, x2, x3] (kq_I 1 :: st) μ Q) : kq_S km_H_hearAnswer d 43 [x0, x1, x2, x3] (st) μ Q := kq_iconst (v := 1) (show decode km_H_hearAnswer.2.1 43 = .ok (.iconst 1, 1) by decide +kernel) (by decide) k
theorem ks_H_hearAnswer_44 {d : Nat} {st : List kq_V} {μ : kq_M} {Q : Option kq_V → kq_M → Prop} {x0 x1 x2 x3 : Option kq_V} (k : kq_S km_H_hearAnswer d 48 [x0, x1, x2, x3] (st) μ Q) : kq_S km_H_hearAnswer d 44 [x0, x1, x2, x3] (st) μ Q := kq_goto 48 (show decode km_H_hearAnswer.2.1 44 = .ok (.goto 4, 3) by decide +kernel) (by decide) k
theorem ks_H_hearAnswer_47 {d : Nat} {st : List kq_V} {μ : kq_M} {Q : Option kq_V → kq_M → Prop} {x0 x1 x2 x3 : Option kq_V} (k : kq_S km_H_hearAnswer d 48 [x0, x1, x2, x3] (kq_I 0 :: st) μ Q) : kq_S km_H_hearAnswer d 47 [x0, x1, x2, x3] (st) μ Q := kq_iconst (v := 0) (show decode km_H_hearAnswer.2.1 47 = .ok (.iconst 0, 1) by decide +kernel) (by decide) k
theorem ks_H_hearAnswer_48 {d : Nat} {st : List kq_V} {μ : kq_M} {Q : Option kq_V → kq_M → Prop} {x0 x1 x2 x3 : Option kq_V} {v : Int32} (hp : kq_nj x2 = true) (k : kq_S km_H_hearAnswer d 49 [x0, x1, x2, some (kq_I v)] (st) μ Q) : kq_S km_H_hearAnswer d 48 [x0, x1, x2, x3] (kq_I v :: st) μ Q := kq_istore_n 3 (show decode km_H_hearAnswer.2.1 48 = .ok (.istore_n 3, 1) by decide +kernel) rfl (by decide) (kq_nl_of rfl hp) k
theorem ks_H_hearAnswer_49 {d : Nat} {st : List kq_V} {μ : kq_M} {Q : Option kq_V → kq_M → Prop} {x0 x1 x2 : Option kq_V} {v : Int32} (k : kq_S km_H_hearAnswer d 50 [x0, x1, x2, some (kq_I v)] (kq_I v :: st) μ Q) : kq_S km_H_hearAnswer d 49 [x0, x1, x2, some (kq_I v)] (st) μ Q := kq_iload_n 3 (show decode km_H_hearAnswer.2.1 49 = .ok (.iload_n 3, 1) by decide +kernel) rfl rfl k
theorem ks_H_hearAnswer_50 {d : Nat} {st : List kq_V} {μ : kq_M} {Q : Option kq_V → kq_M → Prop} {x0 x1 x2 x3 : Option kq_V} {x : Int32} (kt : x = 0 → kq_S km_H_hearAnswer d 111 [x0, x1, x2, x3] st μ Q) (kf : ¬ x = 0 → kq_S km_H_hearAnswer d 53 [x0, x1, x2, x3] st μ Q) : kq_S km_H_hearAnswer d 50 [x0, x1, x2, x3] (kq_I x :: st) μ Q := kq_if_eq 111 (show decode km_H_hearAnswer.2.1 50 = .ok (.ifCond .eq 61, 3) by decide +kernel) (by decide) kt kf
theorem ks_H_hearAnswer_53 {d : Nat} {st : List kq_V} {μ : kq_M} {Q : Option kq_V → kq_M → Prop} {x1 x2 x3 : Option kq_V} {r : Nat} (k : kq_S km_H_hearAnswer d 54 [some (kq_R r 1), x1, x2, x3] (kq_R r 1 :: st) μ Q) : kq_S km_H_hearAnswer d 53 [some (kq_R r 1), x1, x2, x3] (st) μ Q := kq_aload_n 0 (show decode km_H_hearAnswer.2.1 53 = .ok (.aload_n 0, 1) by decide +kernel) rfl rfl (by decide) k
theorem ks_H_hearAnswer_54 {d : Nat} {st : List kq_V} {μ : kq_M} {Q : Option kq_V → kq_M → Prop} {x0 x1 x2 x3 : Option kq_V} (k : kq_S km_H_hearAnswer d 57 [x0, x1, x2, x3] (kq_I 9999 :: st) μ Q) : kq_S km_H_hearAnswer d 54 [x0, x1, x2, x3] (st) μ Q := kq_sipush (v := 9999) (show decode km_H_hearAnswer.2.1 54 = .ok (.sipush 9999, 3) by decide +kernel) (by decide) k
theorem ks_H_hearAnswer_57 {d : Nat} {st : List kq_V} {μ : kq_M} {Q : Option kq_V → kq_M → Prop} {x1 x2 x3 : Option kq_V} {r : Nat} (k : kq_S km_H_hearAnswer d 58 [some (kq_R r 1), x1, x2, x3] (kq_R r 1 :: st) μ Q) : kq_S km_H_hearAnswer d 57 [some (kq_R r 1), x1, x2, x3] (st) μ Q := kq_aload_n 0 (show decode km_H_hearAnswer.2.1 57 = .ok (.aload_n 0, 1) by decide +kernel) rfl rfl (by decide) k
theorem ks_H_hearAnswer_58 {d : Nat} {st : List kq_V} {μ : kq_M} {Q : Option kq_V → kq_M → Prop} {x0 x1 x2 x3 : Option kq_V} {r : Nat} (hok : kq_hr r = true) (k : kq_S km_H_hearAnswer d 61 [x0, x1, x2, x3] (kq_I (kq_rI μ r 1 4) :: st) μ Q) : kq_S km_H_hearAnswer d 58 [x0, x1, x2, x3] (kq_R r 1 :: st) μ Q := kq_getf 1 4 (show decode km_H_hearAnswer.2.1 58 = .ok (.getfield 24, 3) by decide +kernel) kx_92 ⟨rfl, by decide, by decide, by decide⟩ (show (0 : Nat) ≠ 45 by decide) hok k
theorem ks_H_hearAnswer_61 {d : Nat} {st : List kq_V} {μ : kq_M} {Q : Option kq_V → kq_M → Prop} {x0 x1 x2 x3 : Option kq_V} (k : kq_S km_H_hearAnswer d 62 [x0, x1, x2, x3] (kq_I 2 :: st) μ Q) : kq_S km_H_hearAnswer d 61 [x0, x1, x2, x3] (st) μ Q := kq_iconst (v := 2) (show decode km_H_hearAnswer.2.1 61 = .ok (.iconst 2, 1) by decide +kernel) (by decide) k
theorem ks_H_hearAnswer_62 {d : Nat} {st : List kq_V} {μ : kq_M} {Q : Option kq_V → kq_M → Prop} {x0 x1 x2 x3 : Option kq_V} {x y : Int32} (k : kq_S km_H_hearAnswer d 63 [x0, x1, x2, x3] (kq_I (x + y) :: st) μ Q) : kq_S km_H_hearAnswer d 62 [x0, x1, x2, x3] (kq_I y :: kq_I x :: st) μ Q := kq_iadd (show decode km_H_hearAnswer.2.1 62 = .ok (.iadd, 1) by decide +kernel) k
theorem ks_H_hearAnswer_63 {d : Nat} {st : List kq_V} {μ : kq_M} {Q : Option kq_V → kq_M → Prop} {x0 x1 x2 x3 : Option kq_V} {a1 a2 : kq_V} (hst : (st.map kq_cat).sum ≤ 8) (k : kq_Call d km_jM_min [a1, a2] μ (kq_K km_H_hearAnswer (d + 1) 66 [x0, x1, x2, x3] st Q)) : kq_S km_H_hearAnswer (d + 1) 63 [x0, x1, x2, x3] (a2 :: a1 :: st) μ Q := kq_callS (M' := km_jM_min) [a1, a2] (show decode km_H_hearAnswer.2.1 63 = .ok (.invokestatic 95, 3) by decide +kernel) kx_325 kw_jM_min kg_jM_min hst k
theorem ks_H_hearAnswer_66 {d : Nat} {st : List kq_V} {μ : kq_M} {Q : Option kq_V → kq_M → Prop} {x0 x1 x2 x3 : Option kq_V} {r : Nat} {v : Int32} (hok : kq_hr r = true) (k : kq_S km_H_hearAnswer d 69 [x0, x1, x2, x3] (st) (kq_wI μ r 1 4 v) Q) : kq_S km_H_hearAnswer d 66 [x0, x1, x2, x3] (kq_I v :: kq_R r 1 :: st) μ Q := kq_putI (ty := .int) 1 4 (show decode km_H_hearAnswer.2.1 66 = .ok (.putfield 24, 3) by decide +kernel) kx_92 ⟨rfl, by decide, by decide, by decide, rfl, rfl, rfl⟩ ⟨rfl, rfl⟩ hok k
theorem ks_H_hearAnswer_69 {d : Nat} {st : List kq_V} {μ : kq_M} {Q : Option kq_V → kq_M → Prop} {x1 x2 x3 : Option kq_V} {r : Nat} (k : kq_S km_H_hearAnswer d 70 [some (kq_R r 1), x1, x2, x3] (kq_R r 1 :: st) μ Q) : kq_S km_H_hearAnswer d 69 [some (kq_R r 1), x1, x2, x3] (st) μ Q := kq_aload_n 0 (show decode km_H_hearAnswer.2.1 69 = .ok (.aload_n 0, 1) by decide +kernel) rfl rfl (by decide) k
theorem ks_H_hearAnswer_70 {d : Nat} {st : List kq_V} {μ : kq_M} {Q : Option kq_V → kq_M → Prop} {x0 x1 x2 x3 : Option kq_V} {v : kq_V} (hc : kq_cat v = 1) (k : kq_S km_H_hearAnswer d 71 [x0, x1, x2, x3] (v :: v :: st) μ Q) : kq_S km_H_hearAnswer d 70 [x0, x1, x2, x3] (v :: st) μ Q := kq_dup (show decode km_H_hearAnswer.2.1 70 = .ok (.dup, 1) by decide +kernel) hc k
theorem ks_H_hearAnswer_71 {d : Nat} {st : List kq_V} {μ : kq_M} {Q : Option kq_V → kq_M → Prop} {x0 x1 x2 x3 : Option kq_V} {r : Nat} (hok : kq_hr r = true) (k : kq_S km_H_hearAnswer d 74 [x0, x1, x2, x3] (kq_I (kq_rI μ r 1 2) :: st) μ Q) : kq_S km_H_hearAnswer d 71 [x0, x1, x2, x3] (kq_R r 1 :: st) μ Q := kq_getf 1 2 (show decode km_H_hearAnswer.2.1 71 = .ok (.getfield 18, 3) by decide +kernel) kx_87 ⟨rfl, by decide, by decide, by decide⟩ (show (0 : Nat) ≠ 45 by decide) hok k
theorem ks_H_hearAnswer_74 {d : Nat} {st : List kq_V} {μ : kq_M} {Q : Option kq_V → kq_M → Prop} {x0 x1 x2 x3 : Option kq_V} (k : kq_S km_H_hearAnswer d 75 [x0, x1, x2, x3] (kq_I 4 :: st) μ Q) : kq_S km_H_hearAnswer d 74 [x0, x1, x2, x3] (st) μ Q := kq_iconst (v := 4) (show decode km_H_hearAnswer.2.1 74 = .ok (.iconst 4, 1) by decide +kernel) (by decide) k
theorem ks_H_hearAnswer_75 {d : Nat} {st : List kq_V} {μ : kq_M} {Q : Option kq_V → kq_M → Prop} {x0 x1 x2 x3 : Option kq_V} {x y : Int32} (k : kq_S km_H_hearAnswer d 76 [x0, x1, x2, x3] (kq_I (x - y) :: st) μ Q) : kq_S km_H_hearAnswer d 75 [x0, x1, x2, x3] (kq_I y :: kq_I x :: st) μ Q := kq_isub (show decode km_H_hearAnswer.2.1 75 = .ok (.isub, 1) by decide +kernel) k
theorem ks_H_hearAnswer_76 {d : Nat} {st : List kq_V} {μ : kq_M} {Q : Option kq_V → kq_M → Prop} {x0 x1 x2 x3 : Option kq_V} {r : Nat} {v : Int32} (hok : kq_hr r = true) (k : kq_S km_H_hearAnswer d 79 [x0, x1, x2, x3] (st) (kq_wI μ r 1 2 v) Q) : kq_S km_H_hearAnswer d 76 [x0, x1, x2, x3] (kq_I v :: kq_R r 1 :: st) μ Q := kq_putI (ty := .int) 1 2 (show decode km_H_hearAnswer.2.1 76 = .ok (.putfield 18, 3) by decide +kernel) kx_87 ⟨rfl, by decide, by decide, by decide, rfl, rfl, rfl⟩ ⟨rfl, rfl⟩ hok k
theorem ks_H_hearAnswer_79 {d : Nat} {st : List kq_V} {μ : kq_M} {Q : Option kq_V → kq_M → Prop} {x1 x2 x3 : Option kq_V} {r : Nat} (k : kq_S km_H_hearAnswer d 80 [some (kq_R r 1), x1, x2, x3] (kq_R r 1 :: st) μ Q) : kq_S km_H_hearAnswer d 79 [some (kq_R r 1), x1, x2, x3] (st) μ Q := kq_aload_n 0 (show decode km_H_hearAnswer.2.1 79 = .ok (.aload_n 0, 1) by decide +kernel) rfl rfl (by decide) k
theorem ks_H_hearAnswer_80 {d : Nat} {st : List kq_V} {μ : kq_M} {Q : Option kq_V → kq_M → Prop} {x0 x1 x2 x3 : Option kq_V} {v : kq_V} (hc : kq_cat v = 1) (k : kq_S km_H_hearAnswer d 81 [x0, x1, x2, x3] (v :: v :: st) μ Q) : kq_S km_H_hearAnswer d 80 [x0, x1, x2, x3] (v :: st) μ Q := kq_dup (show decode km_H_hearAnswer.2.1 80 = .ok (.dup, 1) by decide +kernel) hc k
theorem ks_H_hearAnswer_81 {d : Nat} {st : List kq_V} {μ : kq_M} {Q : Option kq_V → kq_M → Prop} {x0 x1 x2 x3 : Option kq_V} {r : Nat} (hok : kq_hr r = true) (k : kq_S km_H_hearAnswer d 84 [x0, x1, x2, x3] (kq_I (kq_rI μ r 1 1) :: st) μ Q) : kq_S km_H_hearAnswer d 81 [x0, x1, x2, x3] (kq_R r 1 :: st) μ Q := kq_getf 1 1 (show decode km_H_hearAnswer.2.1 81 = .ok (.getfield 15, 3) by decide +kernel) kx_85 ⟨rfl, by decide, by decide, by decide⟩ (show (0 : Nat) ≠ 45 by decide) hok k
theorem ks_H_hearAnswer_84 {d : Nat} {st : List kq_V} {μ : kq_M} {Q : Option kq_V → kq_M → Prop} {x0 x1 x2 x3 : Option kq_V} (k : kq_S km_H_hearAnswer d 85 [x0, x1, x2, x3] (kq_I 2 :: st) μ Q) : kq_S km_H_hearAnswer d 84 [x0, x1, x2, x3] (st) μ Q := kq_iconst (v := 2) (show decode km_H_hearAnswer.2.1 84 = .ok (.iconst 2, 1) by decide +kernel) (by decide) k
theorem ks_H_hearAnswer_85 {d : Nat} {st : List kq_V} {μ : kq_M} {Q : Option kq_V → kq_M → Prop} {x0 x1 x2 x3 : Option kq_V} {x : Int32} (k : kq_S km_H_hearAnswer d 86 [x0, x1, x2, x3] (kq_I (x / 2) :: st) μ Q) : kq_S km_H_hearAnswer d 85 [x0, x1, x2, x3] (kq_I 2 :: kq_I x :: st) μ Q := kq_idiv (show decode km_H_hearAnswer.2.1 85 = .ok (.idiv, 1) by decide +kernel) (by decide) k
theorem ks_H_hearAnswer_86 {d : Nat} {st : List kq_V} {μ : kq_M} {Q : Option kq_V → kq_M → Prop} {x0 x1 x2 x3 : Option kq_V} {r : Nat} {v : Int32} (hok : kq_hr r = true) (k : kq_S km_H_hearAnswer d 89 [x0, x1, x2, x3] (st) (kq_wI μ r 1 1 v) Q) : kq_S km_H_hearAnswer d 86 [x0, x1, x2, x3] (kq_I v :: kq_R r 1 :: st) μ Q := kq_putI (ty := .int) 1 1 (show decode km_H_hearAnswer.2.1 86 = .ok (.putfield 15, 3) by decide +kernel) kx_85 ⟨rfl, by decide, by decide, by decide, rfl, rfl, rfl⟩ ⟨rfl, rfl⟩ hok k
theorem ks_H_hearAnswer_89 {d : Nat} {st : List kq_V} {μ : kq_M} {Q : Option kq_V → kq_M → Prop} {x1 x2 x3 : Option kq_V} {r : Nat} (k : kq_S km_H_hearAnswer d 90 [some (kq_R r 1), x1, x2, x3] (kq_R r 1 :: st) μ Q) : kq_S km_H_hearAnswer d 89 [some (kq_R r 1), x1, x2, x3] (st) μ Q := kq_aload_n 0 (show decode km_H_hearAnswer.2.1 89 = .ok (.aload_n 0, 1) by decide +kernel) rfl rfl (by decide) k
theorem ks_H_hearAnswer_90 {d : Nat} {st : List kq_V} {μ : kq_M} {Q : Option kq_V → kq_M → Prop} {x0 x1 x2 x3 : Option kq_V} {r : Nat} (hok : kq_hr r = true) (k : kq_S km_H_hearAnswer d 93 [x0, x1, x2, x3] (kq_R r 5 :: st) μ Q) : kq_S km_H_hearAnswer d 90 [x0, x1, x2, x3] (kq_R r 1 :: st) μ Q := kq_getf 1 10 (show decode km_H_hearAnswer.2.1 90 = .ok (.getfield 43, 3) by decide +kernel) kx_107 ⟨rfl, by decide, by decide, by decide⟩ (show (5 : Nat) ≠ 45 by decide) hok k
theorem ks_H_hearAnswer_93 {d : Nat} {st : List kq_V} {μ : kq_M} {Q : Option kq_V → kq_M → Prop} {x0 x2 x3 : Option kq_V} {v : Int32} (k : kq_S km_H_hearAnswer d 94 [x0, some (kq_I v), x2, x3] (kq_I v :: st) μ Q) : kq_S km_H_hearAnswer d 93 [x0, some (kq_I v), x2, x3] (st) μ Q := kq_iload_n 1 (show decode km_H_hearAnswer.2.1 93 = .ok (.iload_n 1, 1) by decide +kernel) rfl rfl k
theorem ks_H_hearAnswer_94 {d : Nat} {st : List kq_V} {μ : kq_M} {Q : Option kq_V → kq_M → Prop} {x0 x1 x2 x3 : Option kq_V} (k : kq_S km_H_hearAnswer d 95 [x0, x1, x2, x3] (kq_I 0 :: st) μ Q) : kq_S km_H_hearAnswer d 94 [x0, x1, x2, x3] (st) μ Q := kq_iconst (v := 0) (show decode km_H_hearAnswer.2.1 94 = .ok (.iconst 0, 1) by decide +kernel) (by decide) k
theorem ks_H_hearAnswer_95 {d : Nat} {st : List kq_V} {μ : kq_M} {Q : Option kq_V → kq_M → Prop} {x1 x2 x3 : Option kq_V} {r : Nat} (k : kq_S km_H_hearAnswer d 96 [some (kq_R r 1), x1, x2, x3] (kq_R r 1 :: st) μ Q) : kq_S km_H_hearAnswer d 95 [some (kq_R r 1), x1, x2, x3] (st) μ Q := kq_aload_n 0 (show decode km_H_hearAnswer.2.1 95 = .ok (.aload_n 0, 1) by decide +kernel) rfl rfl (by decide) k
theorem ks_H_hearAnswer_96 {d : Nat} {st : List kq_V} {μ : kq_M} {Q : Option kq_V → kq_M → Prop} {x0 x1 x2 x3 : Option kq_V} {r : Nat} (hok : kq_hr r = true) (k : kq_S km_H_hearAnswer d 99 [x0, x1, x2, x3] (kq_R r 5 :: st) μ Q) : kq_S km_H_hearAnswer d 96 [x0, x1, x2, x3] (kq_R r 1 :: st) μ Q := kq_getf 1 10 (show decode km_H_hearAnswer.2.1 96 = .ok (.getfield 43, 3) by decide +kernel) kx_107 ⟨rfl, by decide, by decide, by decide⟩ (show (5 : Nat) ≠ 45 by decide) hok k
theorem ks_H_hearAnswer_99 {d : Nat} {st : List kq_V} {μ : kq_M} {Q : Option kq_V → kq_M → Prop} {x0 x2 x3 : Option kq_V} {v : Int32} (k : kq_S km_H_hearAnswer d 100 [x0, some (kq_I v), x2, x3] (kq_I v :: st) μ Q) : kq_S km_H_hearAnswer d 99 [x0, some (kq_I v), x2, x3] (st) μ Q := kq_iload_n 1 (show decode km_H_hearAnswer.2.1 99 = .ok (.iload_n 1, 1) by decide +kernel) rfl rfl k
theorem ks_H_hearAnswer_100 {d : Nat} {st : List kq_V} {μ : kq_M} {Q : Option kq_V → kq_M → Prop} {x0 x1 x2 x3 : Option kq_V} {x : Int32} {r : Nat} (j : Nat) (hok : kq_hr r = true) (hx : x = nI j) (hj : j < 8) (k : kq_S km_H_hearAnswer d 101 [x0, x1, x2, x3] (kq_I (kq_rI μ r 5 j) :: st) μ Q) : kq_S km_H_hearAnswer d 100 [x0, x1, x2, x3] (kq_I x :: kq_R r 5 :: st) μ Q := kq_iald 5 j (show decode km_H_hearAnswer.2.1 100 = .ok (.iaload, 1) by decide +kernel) ⟨rfl, by decide⟩ hok hx hj k
theorem ks_H_hearAnswer_100n {d : Nat} {st : List kq_V} {μ : kq_M} {Q : Option kq_V → kq_M → Prop} {x0 x1 x2 x3 : Option kq_V} {r : Nat} {j : Nat} (hok : kq_hr r = true) (hj : j < 8) (k : kq_S km_H_hearAnswer d 101 [x0, x1, x2, x3] (kq_I (kq_rI μ r 5 j) :: st) μ Q) : kq_S km_H_hearAnswer d 100 [x0, x1, x2, x3] (kq_I (nI j) :: kq_R r 5 :: st) μ Q := kq_iald 5 j (show decode km_H_hearAnswer.2.1 100 = .ok (.iaload, 1) by decide +kernel) ⟨rfl, by decide⟩ hok rfl hj k
theorem ks_H_hearAnswer_101 {d : Nat} {st : List kq_V} {μ : kq_M} {Q : Option kq_V → kq_M → Prop} {x1 x2 x3 : Option kq_V} {r : Nat} (k : kq_S km_H_hearAnswer d 102 [some (kq_R r 1), x1, x2, x3] (kq_R r 1 :: st) μ Q) : kq_S km_H_hearAnswer d 101 [some (kq_R r 1), x1, x2, x3] (st) μ Q := kq_aload_n 0 (show decode km_H_hearAnswer.2.1 101 = .ok (.aload_n 0, 1) by decide +kernel) rfl rfl (by decide) k
theorem ks_H_hearAnswer_102 {d : Nat} {st : List kq_V} {μ : kq_M} {Q : Option kq_V → kq_M → Prop} {x0 x2 x3 : Option kq_V} {v : Int32} (k : kq_S km_H_hearAnswer d 103 [x0, some (kq_I v), x2, x3] (kq_I v :: st) μ Q) : kq_S km_H_hearAnswer d 102 [x0, some (kq_I v), x2, x3] (st) μ Q := kq_iload_n 1 (show decode km_H_hearAnswer.2.1 102 = .ok (.iload_n 1, 1) by decide +kernel) rfl rfl k
theorem ks_H_hearAnswer_103 {d : Nat} {st : List kq_V} {μ : kq_M} {Q : Option kq_V → kq_M → Prop} {x0 x1 x2 x3 : Option kq_V} {a1 : kq_V} {r : Nat} (hok : kq_hr r = true) (hst : (st.map kq_cat).sum ≤ 8) (k : kq_Call d km_H_doubtOf [kq_R r 1, a1] μ (kq_K km_H_hearAnswer (d + 1) 106 [x0, x1, x2, x3] st Q)) : kq_S km_H_hearAnswer (d + 1) 103 [x0, x1, x2, x3] (a1 :: kq_R r 1 :: st) μ Q := kq_callV (M' := km_H_doubtOf) [a1] (show decode km_H_hearAnswer.2.1 103 = .ok (.invokevirtual 103, 3) by decide +kernel) kx_331 kw_H_doubtOf kg_H_doubtOf (kq_rc_obj 1 ⟨rfl, by decide, by decide, rfl⟩ hok) hst k
theorem ks_H_hearAnswer_106 {d : Nat} {st : List kq_V} {μ : kq_M} {Q : Option kq_V → kq_M → Prop} {x0 x1 x2 x3 : Option kq_V} {x y : Int32} (k : kq_S km_H_hearAnswer d 107 [x0, x1, x2, x3] (kq_I (x - y) :: st) μ Q) : kq_S km_H_hearAnswer d 106 [x0, x1, x2, x3] (kq_I y :: kq_I x :: st) μ Q := kq_isub (show decode km_H_hearAnswer.2.1 106 = .ok (.isub, 1) by decide +kernel) k
theorem ks_H_hearAnswer_107 {d : Nat} {st : List kq_V} {μ : kq_M} {Q : Option kq_V → kq_M → Prop} {x0 x1 x2 x3 : Option kq_V} {a1 a2 : kq_V} (hst : (st.map kq_cat).sum ≤ 8) (k : kq_Call d km_jM_max [a1, a2] μ (kq_K km_H_hearAnswer (d + 1) 110 [x0, x1, x2, x3] st Q)) : kq_S km_H_hearAnswer (d + 1) 107 [x0, x1, x2, x3] (a2 :: a1 :: st) μ Q := kq_callS (M' := km_jM_max) [a1, a2] (show decode km_H_hearAnswer.2.1 107 = .ok (.invokestatic 100, 3) by decide +kernel) kx_328 kw_jM_max kg_jM_max hst k
theorem ks_H_hearAnswer_110 {d : Nat} {st : List kq_V} {μ : kq_M} {Q : Option kq_V → kq_M → Prop} {x0 x1 x2 x3 : Option kq_V} {v : Int32} {x : Int32} {r : Nat} (j : Nat) (hok : kq_hr r = true) (hx : x = nI j) (hj : j < 8) (k : kq_S km_H_hearAnswer d 111 [x0, x1, x2, x3] (st) (kq_wI μ r 5 j v) Q) : kq_S km_H_hearAnswer d 110 [x0, x1, x2, x3] (kq_I v :: kq_I x :: kq_R r 5 :: st) μ Q := kq_iast 5 j (show decode km_H_hearAnswer.2.1 110 = .ok (.iastore, 1) by decide +kernel) ⟨rfl, by decide⟩ hok hx hj k
theorem ks_H_hearAnswer_110n {d : Nat} {st : List kq_V} {μ : kq_M} {Q : Option kq_V → kq_M → Prop} {x0 x1 x2 x3 : Option kq_V} {v : Int32} {r : Nat} {j : Nat} (hok : kq_hr r = true) (hj : j < 8) (k : kq_S km_H_hearAnswer d 111 [x0, x1, x2, x3] (st) (kq_wI μ r 5 j v) Q) : kq_S km_H_hearAnswer d 110 [x0, x1, x2, x3] (kq_I v :: kq_I (nI j) :: kq_R r 5 :: st) μ Q := kq_iast 5 j (show decode km_H_hearAnswer.2.1 110 = .ok (.iastore, 1) by decide +kernel) ⟨rfl, by decide⟩ hok rfl hj k
theorem ks_H_hearAnswer_111 {d : Nat} {st : List kq_V} {μ : kq_M} {Q : Option kq_V → kq_M → Prop} {x1 x2 x3 : Option kq_V} {r : Nat} (k : kq_S km_H_hearAnswer d 112 [some (kq_R r 1), x1, x2, x3] (kq_R r 1 :: st) μ Q) : kq_S km_H_hearAnswer d 111 [some (kq_R r 1), x1, x2, x3] (st) μ Q := kq_aload_n 0 (show decode km_H_hearAnswer.2.1 111 = .ok (.aload_n 0, 1) by decide +kernel) rfl rfl (by decide) k
theorem ks_H_hearAnswer_112 {d : Nat} {st : List kq_V} {μ : kq_M} {Q : Option kq_V → kq_M → Prop} {x0 x2 x3 : Option kq_V} {v : Int32} (k : kq_S km_H_hearAnswer d 113 [x0, some (kq_I v), x2, x3] (kq_I v :: st) μ Q) : kq_S km_H_hearAnswer d 112 [x0, some (kq_I v), x2, x3] (st) μ Q := kq_iload_n 1 (show decode km_H_hearAnswer.2.1 112 = .ok (.iload_n 1, 1) by decide +kernel) rfl rfl k
theorem ks_H_hearAnswer_113 {d : Nat} {st : List kq_V} {μ : kq_M} {Q : Option kq_V → kq_M → Prop} {x0 x1 x3 : Option kq_V} {v : Int32} (k : kq_S km_H_hearAnswer d 114 [x0, x1, some (kq_I v), x3] (kq_I v :: st) μ Q) : kq_S km_H_hearAnswer d 113 [x0, x1, some (kq_I v), x3] (st) μ Q := kq_iload_n 2 (show decode km_H_hearAnswer.2.1 113 = .ok (.iload_n 2, 1) by decide +kernel) rfl rfl k
theorem ks_H_hearAnswer_114 {d : Nat} {st : List kq_V} {μ : kq_M} {Q : Option kq_V → kq_M → Prop} {x0 x1 x2 : Option kq_V} {v : Int32} (k : kq_S km_H_hearAnswer d 115 [x0, x1, x2, some (kq_I v)] (kq_I v :: st) μ Q) : kq_S km_H_hearAnswer d 114 [x0, x1, x2, some (kq_I v)] (st) μ Q := kq_iload_n 3 (show decode km_H_hearAnswer.2.1 114 = .ok (.iload_n 3, 1) by decide +kernel) rfl rfl k
theorem ks_H_hearAnswer_115 {d : Nat} {st : List kq_V} {μ : kq_M} {Q : Option kq_V → kq_M → Prop} {x0 x1 x2 x3 : Option kq_V} {a1 a2 a3 : kq_V} {r : Nat} (hok : kq_hr r = true) (hst : (st.map kq_cat).sum ≤ 8) (k : kq_Call d km_H_learnsBy [kq_R r 1, a1, a2, a3] μ (kq_K km_H_hearAnswer (d + 1) 118 [x0, x1, x2, x3] st Q)) : kq_S km_H_hearAnswer (d + 1) 115 [x0, x1, x2, x3] (a3 :: a2 :: a1 :: kq_R r 1 :: st) μ Q := kq_callV (M' := km_H_learnsBy) [a1, a2, a3] (show decode km_H_hearAnswer.2.1 115 = .ok (.invokevirtual 106, 3) by decide +kernel) kx_332 kw_H_learnsBy kg_H_learnsBy (kq_rc_obj 1 ⟨rfl, by decide, by decide, rfl⟩ hok) hst k
theorem ks_H_hearAnswer_118 {d : Nat} {st : List kq_V} {μ : kq_M} {Q : Option kq_V → kq_M → Prop} {x0 x1 x2 x3 : Option kq_V} {x : Int32} (kt : x = 0 → kq_S km_H_hearAnswer d 133 [x0, x1, x2, x3] st μ Q) (kf : ¬ x = 0 → kq_S km_H_hearAnswer d 121 [x0, x1, x2, x3] st μ Q) : kq_S km_H_hearAnswer d 118 [x0, x1, x2, x3] (kq_I x :: st) μ Q := kq_if_eq 133 (show decode km_H_hearAnswer.2.1 118 = .ok (.ifCond .eq 15, 3) by decide +kernel) (by decide) kt kf
theorem ks_H_hearAnswer_121 {d : Nat} {st : List kq_V} {μ : kq_M} {Q : Option kq_V → kq_M → Prop} {x1 x2 x3 : Option kq_V} {r : Nat} (k : kq_S km_H_hearAnswer d 122 [some (kq_R r 1), x1, x2, x3] (kq_R r 1 :: st) μ Q) : kq_S km_H_hearAnswer d 121 [some (kq_R r 1), x1, x2, x3] (st) μ Q := kq_aload_n 0 (show decode km_H_hearAnswer.2.1 121 = .ok (.aload_n 0, 1) by decide +kernel) rfl rfl (by decide) k
theorem ks_H_hearAnswer_122 {d : Nat} {st : List kq_V} {μ : kq_M} {Q : Option kq_V → kq_M → Prop} {x0 x1 x2 x3 : Option kq_V} {r : Nat} (hok : kq_hr r = true) (k : kq_S km_H_hearAnswer d 125 [x0, x1, x2, x3] (kq_R r 3 :: st) μ Q) : kq_S km_H_hearAnswer d 122 [x0, x1, x2, x3] (kq_R r 1 :: st) μ Q := kq_getf 1 8 (show decode km_H_hearAnswer.2.1 122 = .ok (.getfield 37, 3) by decide +kernel) kx_101 ⟨rfl, by decide, by decide, by decide⟩ (show (3 : Nat) ≠ 45 by decide) hok k
theorem ks_H_hearAnswer_125 {d : Nat} {st : List kq_V} {μ : kq_M} {Q : Option kq_V → kq_M → Prop} {x0 x2 x3 : Option kq_V} {v : Int32} (k : kq_S km_H_hearAnswer d 126 [x0, some (kq_I v), x2, x3] (kq_I v :: st) μ Q) : kq_S km_H_hearAnswer d 125 [x0, some (kq_I v), x2, x3] (st) μ Q := kq_iload_n 1 (show decode km_H_hearAnswer.2.1 125 = .ok (.iload_n 1, 1) by decide +kernel) rfl rfl k
theorem ks_H_hearAnswer_126 {d : Nat} {st : List kq_V} {μ : kq_M} {Q : Option kq_V → kq_M → Prop} {x0 x1 x2 x3 : Option kq_V} {v w : kq_V} (hc : kq_cat v = 1) (hc2 : kq_cat w = 1) (k : kq_S km_H_hearAnswer d 127 [x0, x1, x2, x3] (v :: w :: v :: w :: st) μ Q) : kq_S km_H_hearAnswer d 126 [x0, x1, x2, x3] (v :: w :: st) μ Q := kq_dup2 (show decode km_H_hearAnswer.2.1 126 = .ok (.dup2, 1) by decide +kernel) hc hc2 k
theorem ks_H_hearAnswer_127 {d : Nat} {st : List kq_V} {μ : kq_M} {Q : Option kq_V → kq_M → Prop} {x0 x1 x2 x3 : Option kq_V} {x : Int32} {r : Nat} (j : Nat) (hok : kq_hr r = true) (hx : x = nI j) (hj : j < 8) (k : kq_S km_H_hearAnswer d 128 [x0, x1, x2, x3] (kq_I (kq_rI μ r 3 j) :: st) μ Q) : kq_S km_H_hearAnswer d 127 [x0, x1, x2, x3] (kq_I x :: kq_R r 3 :: st) μ Q := kq_iald 3 j (show decode km_H_hearAnswer.2.1 127 = .ok (.iaload, 1) by decide +kernel) ⟨rfl, by decide⟩ hok hx hj k
theorem ks_H_hearAnswer_127n {d : Nat} {st : List kq_V} {μ : kq_M} {Q : Option kq_V → kq_M → Prop} {x0 x1 x2 x3 : Option kq_V} {r : Nat} {j : Nat} (hok : kq_hr r = true) (hj : j < 8) (k : kq_S km_H_hearAnswer d 128 [x0, x1, x2, x3] (kq_I (kq_rI μ r 3 j) :: st) μ Q) : kq_S km_H_hearAnswer d 127 [x0, x1, x2, x3] (kq_I (nI j) :: kq_R r 3 :: st) μ Q := kq_iald 3 j (show decode km_H_hearAnswer.2.1 127 = .ok (.iaload, 1) by decide +kernel) ⟨rfl, by decide⟩ hok rfl hj k
theorem ks_H_hearAnswer_128 {d : Nat} {st : List kq_V} {μ : kq_M} {Q : Option kq_V → kq_M → Prop} {x0 x1 x2 x3 : Option kq_V} (k : kq_S km_H_hearAnswer d 129 [x0, x1, x2, x3] (kq_I 1 :: st) μ Q) : kq_S km_H_hearAnswer d 128 [x0, x1, x2, x3] (st) μ Q := kq_iconst (v := 1) (show decode km_H_hearAnswer.2.1 128 = .ok (.iconst 1, 1) by decide +kernel) (by decide) k
theorem ks_H_hearAnswer_129 {d : Nat} {st : List kq_V} {μ : kq_M} {Q : Option kq_V → kq_M → Prop} {x0 x1 x3 : Option kq_V} {v : Int32} (k : kq_S km_H_hearAnswer d 130 [x0, x1, some (kq_I v), x3] (kq_I v :: st) μ Q) : kq_S km_H_hearAnswer d 129 [x0, x1, some (kq_I v), x3] (st) μ Q := kq_iload_n 2 (show decode km_H_hearAnswer.2.1 129 = .ok (.iload_n 2, 1) by decide +kernel) rfl rfl k
theorem ks_H_hearAnswer_130 {d : Nat} {st : List kq_V} {μ : kq_M} {Q : Option kq_V → kq_M → Prop} {x0 x1 x2 x3 : Option kq_V} {x y : Int32} (k : kq_S km_H_hearAnswer d 131 [x0, x1, x2, x3] (kq_I (x <<< (y &&& 31)) :: st) μ Q) : kq_S km_H_hearAnswer d 130 [x0, x1, x2, x3] (kq_I y :: kq_I x :: st) μ Q := kq_ishl (show decode km_H_hearAnswer.2.1 130 = .ok (.ishl, 1) by decide +kernel) k
theorem ks_H_hearAnswer_131 {d : Nat} {st : List kq_V} {μ : kq_M} {Q : Option kq_V → kq_M → Prop} {x0 x1 x2 x3 : Option kq_V} {x y : Int32} (k : kq_S km_H_hearAnswer d 132 [x0, x1, x2, x3] (kq_I (x ||| y) :: st) μ Q) : kq_S km_H_hearAnswer d 131 [x0, x1, x2, x3] (kq_I y :: kq_I x :: st) μ Q := kq_ior (show decode km_H_hearAnswer.2.1 131 = .ok (.ior, 1) by decide +kernel) k
theorem ks_H_hearAnswer_132 {d : Nat} {st : List kq_V} {μ : kq_M} {Q : Option kq_V → kq_M → Prop} {x0 x1 x2 x3 : Option kq_V} {v : Int32} {x : Int32} {r : Nat} (j : Nat) (hok : kq_hr r = true) (hx : x = nI j) (hj : j < 8) (k : kq_S km_H_hearAnswer d 133 [x0, x1, x2, x3] (st) (kq_wI μ r 3 j v) Q) : kq_S km_H_hearAnswer d 132 [x0, x1, x2, x3] (kq_I v :: kq_I x :: kq_R r 3 :: st) μ Q := kq_iast 3 j (show decode km_H_hearAnswer.2.1 132 = .ok (.iastore, 1) by decide +kernel) ⟨rfl, by decide⟩ hok hx hj k
theorem ks_H_hearAnswer_132n {d : Nat} {st : List kq_V} {μ : kq_M} {Q : Option kq_V → kq_M → Prop} {x0 x1 x2 x3 : Option kq_V} {v : Int32} {r : Nat} {j : Nat} (hok : kq_hr r = true) (hj : j < 8) (k : kq_S km_H_hearAnswer d 133 [x0, x1, x2, x3] (st) (kq_wI μ r 3 j v) Q) : kq_S km_H_hearAnswer d 132 [x0, x1, x2, x3] (kq_I v :: kq_I (nI j) :: kq_R r 3 :: st) μ Q := kq_iast 3 j (show decode km_H_hearAnswer.2.1 132 = .ok (.iastore, 1) by decide +kernel) ⟨rfl, by decide⟩ hok rfl hj k
theorem ks_H_hearAnswer_133 {d : Nat} {st : List kq_V} {μ : kq_M} {Q : Option kq_V → kq_M → Prop} {x0 x1 x2 : Option kq_V} {v : Int32} (k : kq_S km_H_hearAnswer d 134 [x0, x1, x2, some (kq_I v)] (kq_I v :: st) μ Q) : kq_S km_H_hearAnswer d 133 [x0, x1, x2, some (kq_I v)] (st) μ Q := kq_iload_n 3 (show decode km_H_hearAnswer.2.1 133 = .ok (.iload_n 3, 1) by decide +kernel) rfl rfl k
theorem ks_H_hearAnswer_134 {d : Nat} {μ : kq_M} {Q : Option kq_V → kq_M → Prop} {x0 x1 x2 x3 : Option kq_V} {v : Int32} (hv : v = 0 ∨ v = 1) (k : Q (some (kq_I v)) μ) : kq_S km_H_hearAnswer d 134 [x0, x1, x2, x3] [kq_I v] μ Q := kq_zret (ty := .boolean) (show decode km_H_hearAnswer.2.1 134 = .ok (.ireturn, 1) by decide +kernel) rfl (kq_b01 hv).1 k
theorem ks_H_learnsBy_0 {d : Nat} {st : List kq_V} {μ : kq_M} {Q : Option kq_V → kq_M → Prop} {x1 x2 x3 : Option kq_V} {r : Nat} (k : kq_S km_H_learnsBy d 1 [some (kq_R r 1), x1, x2, x3] (kq_R r 1 :: st) μ Q) : kq_S km_H_learnsBy d 0 [some (kq_R r 1), x1, x2, x3] (st) μ Q := kq_aload_n 0 (show decode km_H_learnsBy.2.1 0 = .ok (.aload_n 0, 1) by decide +kernel) rfl rfl (by decide) k
theorem ks_H_learnsBy_1 {d : Nat} {st : List kq_V} {μ : kq_M} {Q : Option kq_V → kq_M → Prop} {x0 x1 x2 x3 : Option kq_V} {r : Nat} (hok : kq_hr r = true) (k : kq_S km_H_learnsBy d 4 [x0, x1, x2, x3] (kq_R r 2 :: st) μ Q) : kq_S km_H_learnsBy d 1 [x0, x1, x2, x3] (kq_R r 1 :: st) μ Q := kq_getf 1 7 (show decode km_H_learnsBy.2.1 1 = .ok (.getfield 33, 3) by decide +kernel) kx_99 ⟨rfl, by decide, by decide, by decide⟩ (show (2 : Nat) ≠ 45 by decide) hok k
theorem ks_H_learnsBy_4 {d : Nat} {st : List kq_V} {μ : kq_M} {Q : Option kq_V → kq_M → Prop} {x0 x2 x3 : Option kq_V} {v : Int32} (k : kq_S km_H_learnsBy d 5 [x0, some (kq_I v), x2, x3] (kq_I v :: st) μ Q) : kq_S km_H_learnsBy d 4 [x0, some (kq_I v), x2, x3] (st) μ Q := kq_iload_n 1 (show decode km_H_learnsBy.2.1 4 = .ok (.iload_n 1, 1) by decide +kernel) rfl rfl k
theorem ks_H_learnsBy_5 {d : Nat} {st : List kq_V} {μ : kq_M} {Q : Option kq_V → kq_M → Prop} {x0 x1 x2 x3 : Option kq_V} {x : Int32} {r : Nat} (j : Nat) (hok : kq_hr r = true) (hx : x = nI j) (hj : j < 8) (k : kq_S km_H_learnsBy d 6 [x0, x1, x2, x3] (kq_I (kq_rI μ r 2 j) :: st) μ Q) : kq_S km_H_learnsBy d 5 [x0, x1, x2, x3] (kq_I x :: kq_R r 2 :: st) μ Q := kq_iald 2 j (show decode km_H_learnsBy.2.1 5 = .ok (.iaload, 1) by decide +kernel) ⟨rfl, by decide⟩ hok hx hj k
theorem ks_H_learnsBy_5n {d : Nat} {st : List kq_V} {μ : kq_M} {Q : Option kq_V → kq_M → Prop} {x0 x1 x2 x3 : Option kq_V} {r : Nat} {j : Nat} (hok : kq_hr r = true) (hj : j < 8) (k : kq_S km_H_learnsBy d 6 [x0, x1, x2, x3] (kq_I (kq_rI μ r 2 j) :: st) μ Q) : kq_S km_H_learnsBy d 5 [x0, x1, x2, x3] (kq_I (nI j) :: kq_R r 2 :: st) μ Q := kq_iald 2 j (show decode km_H_learnsBy.2.1 5 = .ok (.iaload, 1) by decide +kernel) ⟨rfl, by decide⟩ hok rfl hj k
theorem ks_H_learnsBy_6 {d : Nat} {st : List kq_V} {μ : kq_M} {Q : Option kq_V → kq_M → Prop} {x0 x1 x2 x3 : Option kq_V} {x : Int32} (k0 : x = 2 → kq_S km_H_learnsBy d 36 [x0, x1, x2, x3] st μ Q) (k1 : x = 3 → kq_S km_H_learnsBy d 48 [x0, x1, x2, x3] st μ Q) (k2 : x = 4 → kq_S km_H_learnsBy d 38 [x0, x1, x2, x3] st μ Q) (k3 : x = 5 → kq_S km_H_learnsBy d 36 [x0, x1, x2, x3] st μ Q) (kd : x.toInt < 2 ∨ 5 < x.toInt → kq_S km_H_learnsBy d 48 [x0, x1, x2, x3] st μ Q) : kq_S km_H_learnsBy d 6 [x0, x1, x2, x3] (kq_I x :: st) μ Q := by
  have D := (show decode km_H_learnsBy.2.1 6 = .ok (.tableswitch 42 2 5 #[30, 42, 32, 30], 30) by decide +kernel)
  by_cases h1 : x.toInt < 2
  · exact kq_tabOut 48 D (Or.inl h1) (by decide) (kd (Or.inl h1))
  by_cases h2 : 5 < x.toInt
  · exact kq_tabOut 48 D (Or.inr h2) (by decide) (kd (Or.inr h2))
  rcases (show x.toInt = 2 ∨ x.toInt = 3 ∨ x.toInt = 4 ∨ x.toInt = 5 by omega) with h | h | h | h
  · have e : x = 2 := Int32.toInt_inj.mp (h.trans (by decide))
    exact kq_tabIn 36 D h1 h2 (by rw [h]; rfl) (by decide) (k0 e)
  · have e : x = 3 := Int32.toInt_inj.mp (h.trans (by decide))
    exact kq_tabIn 48 D h1 h2 (by rw [h]; rfl) (by decide) (k1 e)
  · have e : x = 4 := Int32.toInt_inj.mp (h.trans (by decide))
    exact kq_tabIn 38 D h1 h2 (by rw [h]; rfl) (by decide) (k2 e)
  · have e : x = 5 := Int32.toInt_inj.mp (h.trans (by decide))
    exact kq_tabIn 36 D h1 h2 (by rw [h]; rfl) (by decide) (k3 e)
theorem ks_H_learnsBy_36 {d : Nat} {st : List kq_V} {μ : kq_M} {Q : Option kq_V → kq_M → Prop} {x0 x1 x2 : Option kq_V} {v : Int32} (k : kq_S km_H_learnsBy d 37 [x0, x1, x2, some (kq_I v)] (kq_I v :: st) μ Q) : kq_S km_H_learnsBy d 36 [x0, x1, x2, some (kq_I v)] (st) μ Q := kq_iload_n 3 (show decode km_H_learnsBy.2.1 36 = .ok (.iload_n 3, 1) by decide +kernel) rfl rfl k
theorem ks_H_learnsBy_37 {d : Nat} {μ : kq_M} {Q : Option kq_V → kq_M → Prop} {x0 x1 x2 x3 : Option kq_V} {v : Int32} (hv : v = 0 ∨ v = 1) (k : Q (some (kq_I v)) μ) : kq_S km_H_learnsBy d 37 [x0, x1, x2, x3] [kq_I v] μ Q := kq_zret (ty := .boolean) (show decode km_H_learnsBy.2.1 37 = .ok (.ireturn, 1) by decide +kernel) rfl (kq_b01 hv).1 k
theorem ks_H_learnsBy_38 {d : Nat} {st : List kq_V} {μ : kq_M} {Q : Option kq_V → kq_M → Prop} {x1 x2 x3 : Option kq_V} {r : Nat} (k : kq_S km_H_learnsBy d 39 [some (kq_R r 1), x1, x2, x3] (kq_R r 1 :: st) μ Q) : kq_S km_H_learnsBy d 38 [some (kq_R r 1), x1, x2, x3] (st) μ Q := kq_aload_n 0 (show decode km_H_learnsBy.2.1 38 = .ok (.aload_n 0, 1) by decide +kernel) rfl rfl (by decide) k
theorem ks_H_learnsBy_39 {d : Nat} {st : List kq_V} {μ : kq_M} {Q : Option kq_V → kq_M → Prop} {x0 x2 x3 : Option kq_V} {v : Int32} (k : kq_S km_H_learnsBy d 40 [x0, some (kq_I v), x2, x3] (kq_I v :: st) μ Q) : kq_S km_H_learnsBy d 39 [x0, some (kq_I v), x2, x3] (st) μ Q := kq_iload_n 1 (show decode km_H_learnsBy.2.1 39 = .ok (.iload_n 1, 1) by decide +kernel) rfl rfl k
theorem ks_H_learnsBy_40 {d : Nat} {st : List kq_V} {μ : kq_M} {Q : Option kq_V → kq_M → Prop} {x0 x1 x2 x3 : Option kq_V} {a1 : kq_V} {r : Nat} (hok : kq_hr r = true) (hst : (st.map kq_cat).sum ≤ 8) (k : kq_Call d km_H_luckySet [kq_R r 1, a1] μ (kq_K km_H_learnsBy (d + 1) 43 [x0, x1, x2, x3] st Q)) : kq_S km_H_learnsBy (d + 1) 40 [x0, x1, x2, x3] (a1 :: kq_R r 1 :: st) μ Q := kq_callV (M' := km_H_luckySet) [a1] (show decode km_H_learnsBy.2.1 40 = .ok (.invokevirtual 83, 3) by decide +kernel) kx_305 kw_H_luckySet kg_H_luckySet (kq_rc_obj 1 ⟨rfl, by decide, by decide, rfl⟩ hok) hst k
theorem ks_H_learnsBy_43 {d : Nat} {st : List kq_V} {μ : kq_M} {Q : Option kq_V → kq_M → Prop} {x0 x1 x3 : Option kq_V} {v : Int32} (k : kq_S km_H_learnsBy d 44 [x0, x1, some (kq_I v), x3] (kq_I v :: st) μ Q) : kq_S km_H_learnsBy d 43 [x0, x1, some (kq_I v), x3] (st) μ Q := kq_iload_n 2 (show decode km_H_learnsBy.2.1 43 = .ok (.iload_n 2, 1) by decide +kernel) rfl rfl k
theorem ks_H_learnsBy_44 {d : Nat} {st : List kq_V} {μ : kq_M} {Q : Option kq_V → kq_M → Prop} {x0 x1 x2 x3 : Option kq_V} {a1 a2 : kq_V} (hst : (st.map kq_cat).sum ≤ 8) (k : kq_Call d km_K_isIn [a1, a2] μ (kq_K km_H_learnsBy (d + 1) 47 [x0, x1, x2, x3] st Q)) : kq_S km_H_learnsBy (d + 1) 44 [x0, x1, x2, x3] (a2 :: a1 :: st) μ Q := kq_callN (M' := km_K_isIn) [a1, a2] (show decode km_H_learnsBy.2.1 44 = .ok (.invokestatic 76, 3) by decide +kernel) kq_nwI_ok kw_K_isIn kg_K_isIn hst k
theorem ks_H_learnsBy_47 {d : Nat} {μ : kq_M} {Q : Option kq_V → kq_M → Prop} {x0 x1 x2 x3 : Option kq_V} {v : Int32} (hv : v = 0 ∨ v = 1) (k : Q (some (kq_I v)) μ) : kq_S km_H_learnsBy d 47 [x0, x1, x2, x3] [kq_I v] μ Q := kq_zret (ty := .boolean) (show decode km_H_learnsBy.2.1 47 = .ok (.ireturn, 1) by decide +kernel) rfl (kq_b01 hv).1 k
theorem ks_H_learnsBy_48 {d : Nat} {st : List kq_V} {μ : kq_M} {Q : Option kq_V → kq_M → Prop} {x0 x1 x2 x3 : Option kq_V} (k : kq_S km_H_learnsBy d 49 [x0, x1, x2, x3] (kq_I 0 :: st) μ Q) : kq_S km_H_learnsBy d 48 [x0, x1, x2, x3] (st) μ Q := kq_iconst (v := 0) (show decode km_H_learnsBy.2.1 48 = .ok (.iconst 0, 1) by decide +kernel) (by decide) k
theorem ks_H_learnsBy_49 {d : Nat} {μ : kq_M} {Q : Option kq_V → kq_M → Prop} {x0 x1 x2 x3 : Option kq_V} (k : Q (some (kq_I 0)) μ) : kq_S km_H_learnsBy d 49 [x0, x1, x2, x3] [kq_I 0] μ Q := kq_zret (ty := .boolean) (show decode km_H_learnsBy.2.1 49 = .ok (.ireturn, 1) by decide +kernel) rfl (by decide) k
theorem ks_H_changeNumbers_0 {d : Nat} {st : List kq_V} {μ : kq_M} {Q : Option kq_V → kq_M → Prop} {x1 x2 : Option kq_V} {r : Nat} (k : kq_S km_H_changeNumbers d 1 [some (kq_R r 1), x1, x2] (kq_R r 1 :: st) μ Q) : kq_S km_H_changeNumbers d 0 [some (kq_R r 1), x1, x2] (st) μ Q := kq_aload_n 0 (show decode km_H_changeNumbers.2.1 0 = .ok (.aload_n 0, 1) by decide +kernel) rfl rfl (by decide) k
theorem ks_H_changeNumbers_1 {d : Nat} {st : List kq_V} {μ : kq_M} {Q : Option kq_V → kq_M → Prop} {x0 x1 x2 : Option kq_V} {r : Nat} (hok : kq_hr r = true) (k : kq_S km_H_changeNumbers d 4 [x0, x1, x2] (kq_R r 2 :: st) μ Q) : kq_S km_H_changeNumbers d 1 [x0, x1, x2] (kq_R r 1 :: st) μ Q := kq_getf 1 7 (show decode km_H_changeNumbers.2.1 1 = .ok (.getfield 33, 3) by decide +kernel) kx_99 ⟨rfl, by decide, by decide, by decide⟩ (show (2 : Nat) ≠ 45 by decide) hok k
theorem ks_H_changeNumbers_4 {d : Nat} {st : List kq_V} {μ : kq_M} {Q : Option kq_V → kq_M → Prop} {x0 x2 : Option kq_V} {v : Int32} (k : kq_S km_H_changeNumbers d 5 [x0, some (kq_I v), x2] (kq_I v :: st) μ Q) : kq_S km_H_changeNumbers d 4 [x0, some (kq_I v), x2] (st) μ Q := kq_iload_n 1 (show decode km_H_changeNumbers.2.1 4 = .ok (.iload_n 1, 1) by decide +kernel) rfl rfl k
theorem ks_H_changeNumbers_5 {d : Nat} {st : List kq_V} {μ : kq_M} {Q : Option kq_V → kq_M → Prop} {x0 x1 : Option kq_V} {v : Int32} (k : kq_S km_H_changeNumbers d 6 [x0, x1, some (kq_I v)] (kq_I v :: st) μ Q) : kq_S km_H_changeNumbers d 5 [x0, x1, some (kq_I v)] (st) μ Q := kq_iload_n 2 (show decode km_H_changeNumbers.2.1 5 = .ok (.iload_n 2, 1) by decide +kernel) rfl rfl k
theorem ks_H_changeNumbers_6 {d : Nat} {st : List kq_V} {μ : kq_M} {Q : Option kq_V → kq_M → Prop} {x0 x1 x2 : Option kq_V} {a1 a2 a3 : kq_V} (hst : (st.map kq_cat).sum ≤ 8) (k : kq_Call d km_H_exchange [a1, a2, a3] μ (kq_K km_H_changeNumbers (d + 1) 9 [x0, x1, x2] st Q)) : kq_S km_H_changeNumbers (d + 1) 6 [x0, x1, x2] (a3 :: a2 :: a1 :: st) μ Q := kq_callS (M' := km_H_exchange) [a1, a2, a3] (show decode km_H_changeNumbers.2.1 6 = .ok (.invokestatic 46, 3) by decide +kernel) kx_344 kw_H_exchange kg_H_exchange hst k
theorem ks_H_changeNumbers_9 {d : Nat} {st : List kq_V} {μ : kq_M} {Q : Option kq_V → kq_M → Prop} {x1 x2 : Option kq_V} {r : Nat} (k : kq_S km_H_changeNumbers d 10 [some (kq_R r 1), x1, x2] (kq_R r 1 :: st) μ Q) : kq_S km_H_changeNumbers d 9 [some (kq_R r 1), x1, x2] (st) μ Q := kq_aload_n 0 (show decode km_H_changeNumbers.2.1 9 = .ok (.aload_n 0, 1) by decide +kernel) rfl rfl (by decide) k
theorem ks_H_changeNumbers_10 {d : Nat} {st : List kq_V} {μ : kq_M} {Q : Option kq_V → kq_M → Prop} {x0 x1 x2 : Option kq_V} {r : Nat} (hok : kq_hr r = true) (k : kq_S km_H_changeNumbers d 13 [x0, x1, x2] (kq_R r 3 :: st) μ Q) : kq_S km_H_changeNumbers d 10 [x0, x1, x2] (kq_R r 1 :: st) μ Q := kq_getf 1 8 (show decode km_H_changeNumbers.2.1 10 = .ok (.getfield 37, 3) by decide +kernel) kx_101 ⟨rfl, by decide, by decide, by decide⟩ (show (3 : Nat) ≠ 45 by decide) hok k
theorem ks_H_changeNumbers_13 {d : Nat} {st : List kq_V} {μ : kq_M} {Q : Option kq_V → kq_M → Prop} {x0 x2 : Option kq_V} {v : Int32} (k : kq_S km_H_changeNumbers d 14 [x0, some (kq_I v), x2] (kq_I v :: st) μ Q) : kq_S km_H_changeNumbers d 13 [x0, some (kq_I v), x2] (st) μ Q := kq_iload_n 1 (show decode km_H_changeNumbers.2.1 13 = .ok (.iload_n 1, 1) by decide +kernel) rfl rfl k
theorem ks_H_changeNumbers_14 {d : Nat} {st : List kq_V} {μ : kq_M} {Q : Option kq_V → kq_M → Prop} {x0 x1 : Option kq_V} {v : Int32} (k : kq_S km_H_changeNumbers d 15 [x0, x1, some (kq_I v)] (kq_I v :: st) μ Q) : kq_S km_H_changeNumbers d 14 [x0, x1, some (kq_I v)] (st) μ Q := kq_iload_n 2 (show decode km_H_changeNumbers.2.1 14 = .ok (.iload_n 2, 1) by decide +kernel) rfl rfl k
theorem ks_H_changeNumbers_15 {d : Nat} {st : List kq_V} {μ : kq_M} {Q : Option kq_V → kq_M → Prop} {x0 x1 x2 : Option kq_V} {a1 a2 a3 : kq_V} (hst : (st.map kq_cat).sum ≤ 8) (k : kq_Call d km_H_exchange [a1, a2, a3] μ (kq_K km_H_changeNumbers (d + 1) 18 [x0, x1, x2] st Q)) : kq_S km_H_changeNumbers (d + 1) 15 [x0, x1, x2] (a3 :: a2 :: a1 :: st) μ Q := kq_callS (M' := km_H_exchange) [a1, a2, a3] (show decode km_H_changeNumbers.2.1 15 = .ok (.invokestatic 46, 3) by decide +kernel) kx_344 kw_H_exchange kg_H_exchange hst k
theorem ks_H_changeNumbers_18 {d : Nat} {st : List kq_V} {μ : kq_M} {Q : Option kq_V → kq_M → Prop} {x1 x2 : Option kq_V} {r : Nat} (k : kq_S km_H_changeNumbers d 19 [some (kq_R r 1), x1, x2] (kq_R r 1 :: st) μ Q) : kq_S km_H_changeNumbers d 18 [some (kq_R r 1), x1, x2] (st) μ Q := kq_aload_n 0 (show decode km_H_changeNumbers.2.1 18 = .ok (.aload_n 0, 1) by decide +kernel) rfl rfl (by decide) k
theorem ks_H_changeNumbers_19 {d : Nat} {st : List kq_V} {μ : kq_M} {Q : Option kq_V → kq_M → Prop} {x0 x1 x2 : Option kq_V} {r : Nat} (hok : kq_hr r = true) (k : kq_S km_H_changeNumbers d 22 [x0, x1, x2] (kq_R r 4 :: st) μ Q) : kq_S km_H_changeNumbers d 19 [x0, x1, x2] (kq_R r 1 :: st) μ Q := kq_getf 1 9 (show decode km_H_changeNumbers.2.1 19 = .ok (.getfield 40, 3) by decide +kernel) kx_104 ⟨rfl, by decide, by decide, by decide⟩ (show (4 : Nat) ≠ 45 by decide) hok k
theorem ks_H_changeNumbers_22 {d : Nat} {st : List kq_V} {μ : kq_M} {Q : Option kq_V → kq_M → Prop} {x0 x2 : Option kq_V} {v : Int32} (k : kq_S km_H_changeNumbers d 23 [x0, some (kq_I v), x2] (kq_I v :: st) μ Q) : kq_S km_H_changeNumbers d 22 [x0, some (kq_I v), x2] (st) μ Q := kq_iload_n 1 (show decode km_H_changeNumbers.2.1 22 = .ok (.iload_n 1, 1) by decide +kernel) rfl rfl k
theorem ks_H_changeNumbers_23 {d : Nat} {st : List kq_V} {μ : kq_M} {Q : Option kq_V → kq_M → Prop} {x0 x1 : Option kq_V} {v : Int32} (k : kq_S km_H_changeNumbers d 24 [x0, x1, some (kq_I v)] (kq_I v :: st) μ Q) : kq_S km_H_changeNumbers d 23 [x0, x1, some (kq_I v)] (st) μ Q := kq_iload_n 2 (show decode km_H_changeNumbers.2.1 23 = .ok (.iload_n 2, 1) by decide +kernel) rfl rfl k
theorem ks_H_changeNumbers_24 {d : Nat} {st : List kq_V} {μ : kq_M} {Q : Option kq_V → kq_M → Prop} {x0 x1 x2 : Option kq_V} {a1 a2 a3 : kq_V} (hst : (st.map kq_cat).sum ≤ 8) (k : kq_Call d km_H_exchange [a1, a2, a3] μ (kq_K km_H_changeNumbers (d + 1) 27 [x0, x1, x2] st Q)) : kq_S km_H_changeNumbers (d + 1) 24 [x0, x1, x2] (a3 :: a2 :: a1 :: st) μ Q := kq_callS (M' := km_H_exchange) [a1, a2, a3] (show decode km_H_changeNumbers.2.1 24 = .ok (.invokestatic 46, 3) by decide +kernel) kx_344 kw_H_exchange kg_H_exchange hst k
theorem ks_H_changeNumbers_27 {d : Nat} {st : List kq_V} {μ : kq_M} {Q : Option kq_V → kq_M → Prop} {x1 x2 : Option kq_V} {r : Nat} (k : kq_S km_H_changeNumbers d 28 [some (kq_R r 1), x1, x2] (kq_R r 1 :: st) μ Q) : kq_S km_H_changeNumbers d 27 [some (kq_R r 1), x1, x2] (st) μ Q := kq_aload_n 0 (show decode km_H_changeNumbers.2.1 27 = .ok (.aload_n 0, 1) by decide +kernel) rfl rfl (by decide) k
theorem ks_H_changeNumbers_28 {d : Nat} {st : List kq_V} {μ : kq_M} {Q : Option kq_V → kq_M → Prop} {x0 x1 x2 : Option kq_V} {r : Nat} (hok : kq_hr r = true) (k : kq_S km_H_changeNumbers d 31 [x0, x1, x2] (kq_R r 5 :: st) μ Q) : kq_S km_H_changeNumbers d 28 [x0, x1, x2] (kq_R r 1 :: st) μ Q := kq_getf 1 10 (show decode km_H_changeNumbers.2.1 28 = .ok (.getfield 43, 3) by decide +kernel) kx_107 ⟨rfl, by decide, by decide, by decide⟩ (show (5 : Nat) ≠ 45 by decide) hok k
theorem ks_H_changeNumbers_31 {d : Nat} {st : List kq_V} {μ : kq_M} {Q : Option kq_V → kq_M → Prop} {x0 x2 : Option kq_V} {v : Int32} (k : kq_S km_H_changeNumbers d 32 [x0, some (kq_I v), x2] (kq_I v :: st) μ Q) : kq_S km_H_changeNumbers d 31 [x0, some (kq_I v), x2] (st) μ Q := kq_iload_n 1 (show decode km_H_changeNumbers.2.1 31 = .ok (.iload_n 1, 1) by decide +kernel) rfl rfl k
theorem ks_H_changeNumbers_32 {d : Nat} {st : List kq_V} {μ : kq_M} {Q : Option kq_V → kq_M → Prop} {x0 x1 : Option kq_V} {v : Int32} (k : kq_S km_H_changeNumbers d 33 [x0, x1, some (kq_I v)] (kq_I v :: st) μ Q) : kq_S km_H_changeNumbers d 32 [x0, x1, some (kq_I v)] (st) μ Q := kq_iload_n 2 (show decode km_H_changeNumbers.2.1 32 = .ok (.iload_n 2, 1) by decide +kernel) rfl rfl k
theorem ks_H_changeNumbers_33 {d : Nat} {st : List kq_V} {μ : kq_M} {Q : Option kq_V → kq_M → Prop} {x0 x1 x2 : Option kq_V} {a1 a2 a3 : kq_V} (hst : (st.map kq_cat).sum ≤ 8) (k : kq_Call d km_H_exchange [a1, a2, a3] μ (kq_K km_H_changeNumbers (d + 1) 36 [x0, x1, x2] st Q)) : kq_S km_H_changeNumbers (d + 1) 33 [x0, x1, x2] (a3 :: a2 :: a1 :: st) μ Q := kq_callS (M' := km_H_exchange) [a1, a2, a3] (show decode km_H_changeNumbers.2.1 33 = .ok (.invokestatic 46, 3) by decide +kernel) kx_344 kw_H_exchange kg_H_exchange hst k
theorem ks_H_changeNumbers_36 {d : Nat} {μ : kq_M} {Q : Option kq_V → kq_M → Prop} {x0 x1 x2 : Option kq_V} (k : Q none μ) : kq_S km_H_changeNumbers d 36 [x0, x1, x2] [] μ Q := kq_vret (show decode km_H_changeNumbers.2.1 36 = .ok (.return_, 1) by decide +kernel) rfl k
theorem ks_H_exchange_0 {d : Nat} {st : List kq_V} {μ : kq_M} {Q : Option kq_V → kq_M → Prop} {x1 x2 x3 : Option kq_V} {r j : Nat} (h5 : Nat.beq j 45 = false) (k : kq_S km_H_exchange d 1 [some (kq_R r j), x1, x2, x3] (kq_R r j :: st) μ Q) : kq_S km_H_exchange d 0 [some (kq_R r j), x1, x2, x3] (st) μ Q := kq_aload_n 0 (show decode km_H_exchange.2.1 0 = .ok (.aload_n 0, 1) by decide +kernel) rfl rfl (Nat.ne_of_beq_eq_false h5) k
theorem ks_H_exchange_1 {d : Nat} {st : List kq_V} {μ : kq_M} {Q : Option kq_V → kq_M → Prop} {x0 x2 x3 : Option kq_V} {v : Int32} (k : kq_S km_H_exchange d 2 [x0, some (kq_I v), x2, x3] (kq_I v :: st) μ Q) : kq_S km_H_exchange d 1 [x0, some (kq_I v), x2, x3] (st) μ Q := kq_iload_n 1 (show decode km_H_exchange.2.1 1 = .ok (.iload_n 1, 1) by decide +kernel) rfl rfl k
theorem ks_H_exchange_2n {d : Nat} {st : List kq_V} {μ : kq_M} {Q : Option kq_V → kq_M → Prop} {x0 x1 x2 x3 : Option kq_V} {r i j : Nat} (hi : kq_ck i = 1) (h5 : Nat.beq i 45 = false) (hok : kq_ok i r = true) (hj : j < kq_len i) (k : kq_S km_H_exchange d 3 [x0, x1, x2, x3] (kq_I (kq_rI μ r i j) :: st) μ Q) : kq_S km_H_exchange d 2 [x0, x1, x2, x3] (kq_I (nI j) :: kq_R r i :: st) μ Q := kq_iald i j (show decode km_H_exchange.2.1 2 = .ok (.iaload, 1) by decide +kernel) ⟨hi, Nat.ne_of_beq_eq_false h5⟩ hok rfl hj k
theorem ks_H_exchange_3 {d : Nat} {st : List kq_V} {μ : kq_M} {Q : Option kq_V → kq_M → Prop} {x0 x1 x2 x3 : Option kq_V} {v : Int32} (hp : kq_nj x2 = true) (k : kq_S km_H_exchange d 4 [x0, x1, x2, some (kq_I v)] (st) μ Q) : kq_S km_H_exchange d 3 [x0, x1, x2, x3] (kq_I v :: st) μ Q := kq_istore_n 3 (show decode km_H_exchange.2.1 3 = .ok (.istore_n 3, 1) by decide +kernel) rfl (by decide) (kq_nl_of rfl hp) k
theorem ks_H_exchange_4 {d : Nat} {st : List kq_V} {μ : kq_M} {Q : Option kq_V → kq_M → Prop} {x1 x2 x3 : Option kq_V} {r j : Nat} (h5 : Nat.beq j 45 = false) (k : kq_S km_H_exchange d 5 [some (kq_R r j), x1, x2, x3] (kq_R r j :: st) μ Q) : kq_S km_H_exchange d 4 [some (kq_R r j), x1, x2, x3] (st) μ Q := kq_aload_n 0 (show decode km_H_exchange.2.1 4 = .ok (.aload_n 0, 1) by decide +kernel) rfl rfl (Nat.ne_of_beq_eq_false h5) k
theorem ks_H_exchange_5 {d : Nat} {st : List kq_V} {μ : kq_M} {Q : Option kq_V → kq_M → Prop} {x0 x2 x3 : Option kq_V} {v : Int32} (k : kq_S km_H_exchange d 6 [x0, some (kq_I v), x2, x3] (kq_I v :: st) μ Q) : kq_S km_H_exchange d 5 [x0, some (kq_I v), x2, x3] (st) μ Q := kq_iload_n 1 (show decode km_H_exchange.2.1 5 = .ok (.iload_n 1, 1) by decide +kernel) rfl rfl k
theorem ks_H_exchange_6 {d : Nat} {st : List kq_V} {μ : kq_M} {Q : Option kq_V → kq_M → Prop} {x1 x2 x3 : Option kq_V} {r j : Nat} (h5 : Nat.beq j 45 = false) (k : kq_S km_H_exchange d 7 [some (kq_R r j), x1, x2, x3] (kq_R r j :: st) μ Q) : kq_S km_H_exchange d 6 [some (kq_R r j), x1, x2, x3] (st) μ Q := kq_aload_n 0 (show decode km_H_exchange.2.1 6 = .ok (.aload_n 0, 1) by decide +kernel) rfl rfl (Nat.ne_of_beq_eq_false h5) k
theorem ks_H_exchange_7 {d : Nat} {st : List kq_V} {μ : kq_M} {Q : Option kq_V → kq_M → Prop} {x0 x1 x3 : Option kq_V} {v : Int32} (k : kq_S km_H_exchange d 8 [x0, x1, some (kq_I v), x3] (kq_I v :: st) μ Q) : kq_S km_H_exchange d 7 [x0, x1, some (kq_I v), x3] (st) μ Q := kq_iload_n 2 (show decode km_H_exchange.2.1 7 = .ok (.iload_n 2, 1) by decide +kernel) rfl rfl k
theorem ks_H_exchange_8n {d : Nat} {st : List kq_V} {μ : kq_M} {Q : Option kq_V → kq_M → Prop} {x0 x1 x2 x3 : Option kq_V} {r i j : Nat} (hi : kq_ck i = 1) (h5 : Nat.beq i 45 = false) (hok : kq_ok i r = true) (hj : j < kq_len i) (k : kq_S km_H_exchange d 9 [x0, x1, x2, x3] (kq_I (kq_rI μ r i j) :: st) μ Q) : kq_S km_H_exchange d 8 [x0, x1, x2, x3] (kq_I (nI j) :: kq_R r i :: st) μ Q := kq_iald i j (show decode km_H_exchange.2.1 8 = .ok (.iaload, 1) by decide +kernel) ⟨hi, Nat.ne_of_beq_eq_false h5⟩ hok rfl hj k
theorem ks_H_exchange_9n {d : Nat} {st : List kq_V} {μ : kq_M} {Q : Option kq_V → kq_M → Prop} {x0 x1 x2 x3 : Option kq_V} {v : Int32} {r i j : Nat} (hi : kq_ck i = 1) (h5 : Nat.beq i 45 = false) (hok : kq_ok i r = true) (hj : j < kq_len i) (k : kq_S km_H_exchange d 10 [x0, x1, x2, x3] (st) (kq_wI μ r i j v) Q) : kq_S km_H_exchange d 9 [x0, x1, x2, x3] (kq_I v :: kq_I (nI j) :: kq_R r i :: st) μ Q := kq_iast i j (show decode km_H_exchange.2.1 9 = .ok (.iastore, 1) by decide +kernel) ⟨hi, Nat.ne_of_beq_eq_false h5⟩ hok rfl hj k
theorem ks_H_exchange_10 {d : Nat} {st : List kq_V} {μ : kq_M} {Q : Option kq_V → kq_M → Prop} {x1 x2 x3 : Option kq_V} {r j : Nat} (h5 : Nat.beq j 45 = false) (k : kq_S km_H_exchange d 11 [some (kq_R r j), x1, x2, x3] (kq_R r j :: st) μ Q) : kq_S km_H_exchange d 10 [some (kq_R r j), x1, x2, x3] (st) μ Q := kq_aload_n 0 (show decode km_H_exchange.2.1 10 = .ok (.aload_n 0, 1) by decide +kernel) rfl rfl (Nat.ne_of_beq_eq_false h5) k
theorem ks_H_exchange_11 {d : Nat} {st : List kq_V} {μ : kq_M} {Q : Option kq_V → kq_M → Prop} {x0 x1 x3 : Option kq_V} {v : Int32} (k : kq_S km_H_exchange d 12 [x0, x1, some (kq_I v), x3] (kq_I v :: st) μ Q) : kq_S km_H_exchange d 11 [x0, x1, some (kq_I v), x3] (st) μ Q := kq_iload_n 2 (show decode km_H_exchange.2.1 11 = .ok (.iload_n 2, 1) by decide +kernel) rfl rfl k
theorem ks_H_exchange_12 {d : Nat} {st : List kq_V} {μ : kq_M} {Q : Option kq_V → kq_M → Prop} {x0 x1 x2 : Option kq_V} {v : Int32} (k : kq_S km_H_exchange d 13 [x0, x1, x2, some (kq_I v)] (kq_I v :: st) μ Q) : kq_S km_H_exchange d 12 [x0, x1, x2, some (kq_I v)] (st) μ Q := kq_iload_n 3 (show decode km_H_exchange.2.1 12 = .ok (.iload_n 3, 1) by decide +kernel) rfl rfl k
theorem ks_H_exchange_13n {d : Nat} {st : List kq_V} {μ : kq_M} {Q : Option kq_V → kq_M → Prop} {x0 x1 x2 x3 : Option kq_V} {v : Int32} {r i j : Nat} (hi : kq_ck i = 1) (h5 : Nat.beq i 45 = false) (hok : kq_ok i r = true) (hj : j < kq_len i) (k : kq_S km_H_exchange d 14 [x0, x1, x2, x3] (st) (kq_wI μ r i j v) Q) : kq_S km_H_exchange d 13 [x0, x1, x2, x3] (kq_I v :: kq_I (nI j) :: kq_R r i :: st) μ Q := kq_iast i j (show decode km_H_exchange.2.1 13 = .ok (.iastore, 1) by decide +kernel) ⟨hi, Nat.ne_of_beq_eq_false h5⟩ hok rfl hj k
theorem ks_H_exchange_14 {d : Nat} {μ : kq_M} {Q : Option kq_V → kq_M → Prop} {x0 x1 x2 x3 : Option kq_V} (k : Q none μ) : kq_S km_H_exchange d 14 [x0, x1, x2, x3] [] μ Q := kq_vret (show decode km_H_exchange.2.1 14 = .ok (.return_, 1) by decide +kernel) rfl k
theorem ks_H_teaAfter_0 {d : Nat} {st : List kq_V} {μ : kq_M} {Q : Option kq_V → kq_M → Prop} {x0 x1 x2 : Option kq_V} (k : kq_S km_H_teaAfter d 1 [x0, x1, x2] (kq_I 0 :: st) μ Q) : kq_S km_H_teaAfter d 0 [x0, x1, x2] (st) μ Q := kq_iconst (v := 0) (show decode km_H_teaAfter.2.1 0 = .ok (.iconst 0, 1) by decide +kernel) (by decide) k
theorem ks_H_teaAfter_1 {d : Nat} {st : List kq_V} {μ : kq_M} {Q : Option kq_V → kq_M → Prop} {x0 x1 x2 : Option kq_V} {v : Int32} (hp : kq_nj x1 = true) (k : kq_S km_H_teaAfter d 2 [x0, x1, some (kq_I v)] (st) μ Q) : kq_S km_H_teaAfter d 1 [x0, x1, x2] (kq_I v :: st) μ Q := kq_istore_n 2 (show decode km_H_teaAfter.2.1 1 = .ok (.istore_n 2, 1) by decide +kernel) rfl (by decide) (kq_nl_of rfl hp) k
theorem ks_H_teaAfter_2 {d : Nat} {st : List kq_V} {μ : kq_M} {Q : Option kq_V → kq_M → Prop} {x0 x1 : Option kq_V} {v : Int32} (k : kq_S km_H_teaAfter d 3 [x0, x1, some (kq_I v)] (kq_I v :: st) μ Q) : kq_S km_H_teaAfter d 2 [x0, x1, some (kq_I v)] (st) μ Q := kq_iload_n 2 (show decode km_H_teaAfter.2.1 2 = .ok (.iload_n 2, 1) by decide +kernel) rfl rfl k
theorem ks_H_teaAfter_3 {d : Nat} {st : List kq_V} {μ : kq_M} {Q : Option kq_V → kq_M → Prop} {x0 x2 : Option kq_V} {v : Int32} (k : kq_S km_H_teaAfter d 4 [x0, some (kq_I v), x2] (kq_I v :: st) μ Q) : kq_S km_H_teaAfter d 3 [x0, some (kq_I v), x2] (st) μ Q := kq_iload_n 1 (show decode km_H_teaAfter.2.1 3 = .ok (.iload_n 1, 1) by decide +kernel) rfl rfl k
theorem ks_H_teaAfter_4 {d : Nat} {st : List kq_V} {μ : kq_M} {Q : Option kq_V → kq_M → Prop} {x0 x1 x2 : Option kq_V} {x y : Int32} (kt : y ≤ x → kq_S km_H_teaAfter d 18 [x0, x1, x2] st μ Q) (kf : ¬ y ≤ x → kq_S km_H_teaAfter d 7 [x0, x1, x2] st μ Q) : kq_S km_H_teaAfter d 4 [x0, x1, x2] (kq_I y :: kq_I x :: st) μ Q := kq_icmp_ge 18 (show decode km_H_teaAfter.2.1 4 = .ok (.if_icmp .ge 14, 3) by decide +kernel) (by decide) kt kf
theorem ks_H_teaAfter_7 {d : Nat} {st : List kq_V} {μ : kq_M} {Q : Option kq_V → kq_M → Prop} {x1 x2 : Option kq_V} {r : Nat} (k : kq_S km_H_teaAfter d 8 [some (kq_R r 1), x1, x2] (kq_R r 1 :: st) μ Q) : kq_S km_H_teaAfter d 7 [some (kq_R r 1), x1, x2] (st) μ Q := kq_aload_n 0 (show decode km_H_teaAfter.2.1 7 = .ok (.aload_n 0, 1) by decide +kernel) rfl rfl (by decide) k
theorem ks_H_teaAfter_8 {d : Nat} {st : List kq_V} {μ : kq_M} {Q : Option kq_V → kq_M → Prop} {x0 x1 x2 : Option kq_V} {r : Nat} (hok : kq_hr r = true) (hst : (st.map kq_cat).sum ≤ 8) (k : kq_Call d km_H_passMinute [kq_R r 1] μ (kq_K km_H_teaAfter (d + 1) 11 [x0, x1, x2] st Q)) : kq_S km_H_teaAfter (d + 1) 8 [x0, x1, x2] (kq_R r 1 :: st) μ Q := kq_callV (M' := km_H_passMinute) [] (show decode km_H_teaAfter.2.1 8 = .ok (.invokevirtual 120, 3) by decide +kernel) kx_356 kw_H_passMinute kg_H_passMinute (kq_rc_obj 1 ⟨rfl, by decide, by decide, rfl⟩ hok) hst k
theorem ks_H_teaAfter_11 {d : Nat} {st : List kq_V} {μ : kq_M} {Q : Option kq_V → kq_M → Prop} {x0 x1 x2 : Option kq_V} {v : kq_V} (hc : kq_cat v = 1) (k : kq_S km_H_teaAfter d 12 [x0, x1, x2] (st) μ Q) : kq_S km_H_teaAfter d 11 [x0, x1, x2] (v :: st) μ Q := kq_pop (show decode km_H_teaAfter.2.1 11 = .ok (.pop, 1) by decide +kernel) hc k
theorem ks_H_teaAfter_12 {d : Nat} {st : List kq_V} {μ : kq_M} {Q : Option kq_V → kq_M → Prop} {x0 x1 : Option kq_V} {v : Int32} (hp : kq_nj x1 = true) (k : kq_S km_H_teaAfter d 15 [x0, x1, some (kq_I (v + 1))] (st) μ Q) : kq_S km_H_teaAfter d 12 [x0, x1, some (kq_I v)] (st) μ Q := kq_iinc _ (show decode km_H_teaAfter.2.1 12 = .ok (.iinc 2 1, 3) by decide +kernel) rfl rfl (by decide) (kq_nl_of rfl hp) k
theorem ks_H_teaAfter_12n {d : Nat} {st : List kq_V} {μ : kq_M} {Q : Option kq_V → kq_M → Prop} {x0 x1 : Option kq_V} {v : Nat} (hp : kq_nj x1 = true) (k : kq_S km_H_teaAfter d 15 [x0, x1, some (kq_I (nI (v + 1)))] (st) μ Q) : kq_S km_H_teaAfter d 12 [x0, x1, some (kq_I (nI v))] (st) μ Q := kq_iinc _ (show decode km_H_teaAfter.2.1 12 = .ok (.iinc 2 1, 3) by decide +kernel) rfl (nI_1 v) (by decide) (kq_nl_of rfl hp) k
theorem ks_H_teaAfter_15 {d : Nat} {st : List kq_V} {μ : kq_M} {Q : Option kq_V → kq_M → Prop} {x0 x1 x2 : Option kq_V} (k : kq_S km_H_teaAfter d 2 [x0, x1, x2] (st) μ Q) : kq_S km_H_teaAfter d 15 [x0, x1, x2] (st) μ Q := kq_goto 2 (show decode km_H_teaAfter.2.1 15 = .ok (.goto (-13), 3) by decide +kernel) (by decide) k
theorem ks_H_teaAfter_18 {d : Nat} {st : List kq_V} {μ : kq_M} {Q : Option kq_V → kq_M → Prop} {x1 x2 : Option kq_V} {r : Nat} (k : kq_S km_H_teaAfter d 19 [some (kq_R r 1), x1, x2] (kq_R r 1 :: st) μ Q) : kq_S km_H_teaAfter d 18 [some (kq_R r 1), x1, x2] (st) μ Q := kq_aload_n 0 (show decode km_H_teaAfter.2.1 18 = .ok (.aload_n 0, 1) by decide +kernel) rfl rfl (by decide) k
theorem ks_H_teaAfter_19 {d : Nat} {st : List kq_V} {μ : kq_M} {Q : Option kq_V → kq_M → Prop} {x0 x1 x2 : Option kq_V} {r : Nat} (hok : kq_hr r = true) (k : kq_S km_H_teaAfter d 22 [x0, x1, x2] (kq_I (kq_rI μ r 1 4) :: st) μ Q) : kq_S km_H_teaAfter d 19 [x0, x1, x2] (kq_R r 1 :: st) μ Q := kq_getf 1 4 (show decode km_H_teaAfter.2.1 19 = .ok (.getfield 24, 3) by decide +kernel) kx_92 ⟨rfl, by decide, by decide, by decide⟩ (show (0 : Nat) ≠ 45 by decide) hok k
theorem ks_H_teaAfter_22 {d : Nat} {μ : kq_M} {Q : Option kq_V → kq_M → Prop} {x0 x1 x2 : Option kq_V} {v : Int32} (k : Q (some (kq_I v)) μ) : kq_S km_H_teaAfter d 22 [x0, x1, x2] [kq_I v] μ Q := kq_iret (show decode km_H_teaAfter.2.1 22 = .ok (.ireturn, 1) by decide +kernel) rfl k
theorem ks_H_passMinute_0 {d : Nat} {st : List kq_V} {μ : kq_M} {Q : Option kq_V → kq_M → Prop} {x0 x1 : Option kq_V} (k : kq_S km_H_passMinute d 1 [x0, x1] (kq_I 0 :: st) μ Q) : kq_S km_H_passMinute d 0 [x0, x1] (st) μ Q := kq_iconst (v := 0) (show decode km_H_passMinute.2.1 0 = .ok (.iconst 0, 1) by decide +kernel) (by decide) k
theorem ks_H_passMinute_1 {d : Nat} {st : List kq_V} {μ : kq_M} {Q : Option kq_V → kq_M → Prop} {x0 x1 : Option kq_V} {v : Int32} (hp : kq_nj x0 = true) (k : kq_S km_H_passMinute d 2 [x0, some (kq_I v)] (st) μ Q) : kq_S km_H_passMinute d 1 [x0, x1] (kq_I v :: st) μ Q := kq_istore_n 1 (show decode km_H_passMinute.2.1 1 = .ok (.istore_n 1, 1) by decide +kernel) rfl (by decide) (kq_nl_of rfl hp) k
theorem ks_H_passMinute_2 {d : Nat} {st : List kq_V} {μ : kq_M} {Q : Option kq_V → kq_M → Prop} {x1 : Option kq_V} {r : Nat} (k : kq_S km_H_passMinute d 3 [some (kq_R r 1), x1] (kq_R r 1 :: st) μ Q) : kq_S km_H_passMinute d 2 [some (kq_R r 1), x1] (st) μ Q := kq_aload_n 0 (show decode km_H_passMinute.2.1 2 = .ok (.aload_n 0, 1) by decide +kernel) rfl rfl (by decide) k
theorem ks_H_passMinute_3 {d : Nat} {st : List kq_V} {μ : kq_M} {Q : Option kq_V → kq_M → Prop} {x0 x1 : Option kq_V} {r : Nat} (hok : kq_hr r = true) (k : kq_S km_H_passMinute d 6 [x0, x1] (kq_I (kq_rI μ r 1 6) :: st) μ Q) : kq_S km_H_passMinute d 3 [x0, x1] (kq_R r 1 :: st) μ Q := kq_getf 1 6 (show decode km_H_passMinute.2.1 3 = .ok (.getfield 30, 3) by decide +kernel) kx_96 ⟨rfl, by decide, by decide, by decide⟩ (show (0 : Nat) ≠ 45 by decide) hok k
theorem ks_H_passMinute_6 {d : Nat} {st : List kq_V} {μ : kq_M} {Q : Option kq_V → kq_M → Prop} {x0 x1 : Option kq_V} {x : Int32} (kt : x ≤ 0 → kq_S km_H_passMinute d 25 [x0, x1] st μ Q) (kf : ¬ x ≤ 0 → kq_S km_H_passMinute d 9 [x0, x1] st μ Q) : kq_S km_H_passMinute d 6 [x0, x1] (kq_I x :: st) μ Q := kq_if_le 25 (show decode km_H_passMinute.2.1 6 = .ok (.ifCond .le 19, 3) by decide +kernel) (by decide) kt kf
theorem ks_H_passMinute_9 {d : Nat} {st : List kq_V} {μ : kq_M} {Q : Option kq_V → kq_M → Prop} {x1 : Option kq_V} {r : Nat} (k : kq_S km_H_passMinute d 10 [some (kq_R r 1), x1] (kq_R r 1 :: st) μ Q) : kq_S km_H_passMinute d 9 [some (kq_R r 1), x1] (st) μ Q := kq_aload_n 0 (show decode km_H_passMinute.2.1 9 = .ok (.aload_n 0, 1) by decide +kernel) rfl rfl (by decide) k
theorem ks_H_passMinute_10 {d : Nat} {st : List kq_V} {μ : kq_M} {Q : Option kq_V → kq_M → Prop} {x1 : Option kq_V} {r : Nat} (k : kq_S km_H_passMinute d 11 [some (kq_R r 1), x1] (kq_R r 1 :: st) μ Q) : kq_S km_H_passMinute d 10 [some (kq_R r 1), x1] (st) μ Q := kq_aload_n 0 (show decode km_H_passMinute.2.1 10 = .ok (.aload_n 0, 1) by decide +kernel) rfl rfl (by decide) k
theorem ks_H_passMinute_11 {d : Nat} {st : List kq_V} {μ : kq_M} {Q : Option kq_V → kq_M → Prop} {x0 x1 : Option kq_V} {r : Nat} (hok : kq_hr r = true) (hst : (st.map kq_cat).sum ≤ 8) (k : kq_Call d km_H_whoseTurn [kq_R r 1] μ (kq_K km_H_passMinute (d + 1) 14 [x0, x1] st Q)) : kq_S km_H_passMinute (d + 1) 11 [x0, x1] (kq_R r 1 :: st) μ Q := kq_callV (M' := km_H_whoseTurn) [] (show decode km_H_passMinute.2.1 11 = .ok (.invokevirtual 110, 3) by decide +kernel) kx_360 kw_H_whoseTurn kg_H_whoseTurn (kq_rc_obj 1 ⟨rfl, by decide, by decide, rfl⟩ hok) hst k
theorem ks_H_passMinute_14 {d : Nat} {st : List kq_V} {μ : kq_M} {Q : Option kq_V → kq_M → Prop} {x1 : Option kq_V} {r : Nat} (k : kq_S km_H_passMinute d 15 [some (kq_R r 1), x1] (kq_R r 1 :: st) μ Q) : kq_S km_H_passMinute d 14 [some (kq_R r 1), x1] (st) μ Q := kq_aload_n 0 (show decode km_H_passMinute.2.1 14 = .ok (.aload_n 0, 1) by decide +kernel) rfl rfl (by decide) k
theorem ks_H_passMinute_15 {d : Nat} {st : List kq_V} {μ : kq_M} {Q : Option kq_V → kq_M → Prop} {x0 x1 : Option kq_V} {r : Nat} (hok : kq_hr r = true) (hst : (st.map kq_cat).sum ≤ 8) (k : kq_Call d km_H_factAsked [kq_R r 1] μ (kq_K km_H_passMinute (d + 1) 18 [x0, x1] st Q)) : kq_S km_H_passMinute (d + 1) 15 [x0, x1] (kq_R r 1 :: st) μ Q := kq_callV (M' := km_H_factAsked) [] (show decode km_H_passMinute.2.1 15 = .ok (.invokevirtual 114, 3) by decide +kernel) kx_364 kw_H_factAsked kg_H_factAsked (kq_rc_obj 1 ⟨rfl, by decide, by decide, rfl⟩ hok) hst k
theorem ks_H_passMinute_18 {d : Nat} {st : List kq_V} {μ : kq_M} {Q : Option kq_V → kq_M → Prop} {x0 x1 : Option kq_V} {a1 a2 : kq_V} {r : Nat} (hok : kq_hr r = true) (hst : (st.map kq_cat).sum ≤ 8) (k : kq_Call d km_H_hearAnswer [kq_R r 1, a1, a2] μ (kq_K km_H_passMinute (d + 1) 21 [x0, x1] st Q)) : kq_S km_H_passMinute (d + 1) 18 [x0, x1] (a2 :: a1 :: kq_R r 1 :: st) μ Q := kq_callV (M' := km_H_hearAnswer) [a1, a2] (show decode km_H_passMinute.2.1 18 = .ok (.invokevirtual 117, 3) by decide +kernel) kx_368 kw_H_hearAnswer kg_H_hearAnswer (kq_rc_obj 1 ⟨rfl, by decide, by decide, rfl⟩ hok) hst k
theorem ks_H_passMinute_21 {d : Nat} {st : List kq_V} {μ : kq_M} {Q : Option kq_V → kq_M → Prop} {x0 x1 : Option kq_V} {v : Int32} (hp : kq_nj x0 = true) (k : kq_S km_H_passMinute d 22 [x0, some (kq_I v)] (st) μ Q) : kq_S km_H_passMinute d 21 [x0, x1] (kq_I v :: st) μ Q := kq_istore_n 1 (show decode km_H_passMinute.2.1 21 = .ok (.istore_n 1, 1) by decide +kernel) rfl (by decide) (kq_nl_of rfl hp) k
theorem ks_H_passMinute_22 {d : Nat} {st : List kq_V} {μ : kq_M} {Q : Option kq_V → kq_M → Prop} {x0 x1 : Option kq_V} (k : kq_S km_H_passMinute d 39 [x0, x1] (st) μ Q) : kq_S km_H_passMinute d 22 [x0, x1] (st) μ Q := kq_goto 39 (show decode km_H_passMinute.2.1 22 = .ok (.goto 17, 3) by decide +kernel) (by decide) k
theorem ks_H_passMinute_25 {d : Nat} {st : List kq_V} {μ : kq_M} {Q : Option kq_V → kq_M → Prop} {x1 : Option kq_V} {r : Nat} (k : kq_S km_H_passMinute d 26 [some (kq_R r 1), x1] (kq_R r 1 :: st) μ Q) : kq_S km_H_passMinute d 25 [some (kq_R r 1), x1] (st) μ Q := kq_aload_n 0 (show decode km_H_passMinute.2.1 25 = .ok (.aload_n 0, 1) by decide +kernel) rfl rfl (by decide) k
theorem ks_H_passMinute_26 {d : Nat} {st : List kq_V} {μ : kq_M} {Q : Option kq_V → kq_M → Prop} {x0 x1 : Option kq_V} (k : kq_S km_H_passMinute d 27 [x0, x1] (kq_I 0 :: st) μ Q) : kq_S km_H_passMinute d 26 [x0, x1] (st) μ Q := kq_iconst (v := 0) (show decode km_H_passMinute.2.1 26 = .ok (.iconst 0, 1) by decide +kernel) (by decide) k
theorem ks_H_passMinute_27 {d : Nat} {st : List kq_V} {μ : kq_M} {Q : Option kq_V → kq_M → Prop} {x1 : Option kq_V} {r : Nat} (k : kq_S km_H_passMinute d 28 [some (kq_R r 1), x1] (kq_R r 1 :: st) μ Q) : kq_S km_H_passMinute d 27 [some (kq_R r 1), x1] (st) μ Q := kq_aload_n 0 (show decode km_H_passMinute.2.1 27 = .ok (.aload_n 0, 1) by decide +kernel) rfl rfl (by decide) k
theorem ks_H_passMinute_28 {d : Nat} {st : List kq_V} {μ : kq_M} {Q : Option kq_V → kq_M → Prop} {x0 x1 : Option kq_V} {r : Nat} (hok : kq_hr r = true) (k : kq_S km_H_passMinute d 31 [x0, x1] (kq_I (kq_rI μ r 1 1) :: st) μ Q) : kq_S km_H_passMinute d 28 [x0, x1] (kq_R r 1 :: st) μ Q := kq_getf 1 1 (show decode km_H_passMinute.2.1 28 = .ok (.getfield 15, 3) by decide +kernel) kx_85 ⟨rfl, by decide, by decide, by decide⟩ (show (0 : Nat) ≠ 45 by decide) hok k
theorem ks_H_passMinute_31 {d : Nat} {st : List kq_V} {μ : kq_M} {Q : Option kq_V → kq_M → Prop} {x0 x1 : Option kq_V} (k : kq_S km_H_passMinute d 32 [x0, x1] (kq_I 1 :: st) μ Q) : kq_S km_H_passMinute d 31 [x0, x1] (st) μ Q := kq_iconst (v := 1) (show decode km_H_passMinute.2.1 31 = .ok (.iconst 1, 1) by decide +kernel) (by decide) k
theorem ks_H_passMinute_32 {d : Nat} {st : List kq_V} {μ : kq_M} {Q : Option kq_V → kq_M → Prop} {x0 x1 : Option kq_V} {x y : Int32} (k : kq_S km_H_passMinute d 33 [x0, x1] (kq_I (x - y) :: st) μ Q) : kq_S km_H_passMinute d 32 [x0, x1] (kq_I y :: kq_I x :: st) μ Q := kq_isub (show decode km_H_passMinute.2.1 32 = .ok (.isub, 1) by decide +kernel) k
theorem ks_H_passMinute_33 {d : Nat} {st : List kq_V} {μ : kq_M} {Q : Option kq_V → kq_M → Prop} {x0 x1 : Option kq_V} {a1 a2 : kq_V} (hst : (st.map kq_cat).sum ≤ 8) (k : kq_Call d km_jM_max [a1, a2] μ (kq_K km_H_passMinute (d + 1) 36 [x0, x1] st Q)) : kq_S km_H_passMinute (d + 1) 33 [x0, x1] (a2 :: a1 :: st) μ Q := kq_callS (M' := km_jM_max) [a1, a2] (show decode km_H_passMinute.2.1 33 = .ok (.invokestatic 100, 3) by decide +kernel) kx_328 kw_jM_max kg_jM_max hst k
theorem ks_H_passMinute_36 {d : Nat} {st : List kq_V} {μ : kq_M} {Q : Option kq_V → kq_M → Prop} {x0 x1 : Option kq_V} {r : Nat} {v : Int32} (hok : kq_hr r = true) (k : kq_S km_H_passMinute d 39 [x0, x1] (st) (kq_wI μ r 1 1 v) Q) : kq_S km_H_passMinute d 36 [x0, x1] (kq_I v :: kq_R r 1 :: st) μ Q := kq_putI (ty := .int) 1 1 (show decode km_H_passMinute.2.1 36 = .ok (.putfield 15, 3) by decide +kernel) kx_85 ⟨rfl, by decide, by decide, by decide, rfl, rfl, rfl⟩ ⟨rfl, rfl⟩ hok k
theorem ks_H_passMinute_39 {d : Nat} {st : List kq_V} {μ : kq_M} {Q : Option kq_V → kq_M → Prop} {x1 : Option kq_V} {r : Nat} (k : kq_S km_H_passMinute d 40 [some (kq_R r 1), x1] (kq_R r 1 :: st) μ Q) : kq_S km_H_passMinute d 39 [some (kq_R r 1), x1] (st) μ Q := kq_aload_n 0 (show decode km_H_passMinute.2.1 39 = .ok (.aload_n 0, 1) by decide +kernel) rfl rfl (by decide) k
theorem ks_H_passMinute_40 {d : Nat} {st : List kq_V} {μ : kq_M} {Q : Option kq_V → kq_M → Prop} {x0 x1 : Option kq_V} {v : kq_V} (hc : kq_cat v = 1) (k : kq_S km_H_passMinute d 41 [x0, x1] (v :: v :: st) μ Q) : kq_S km_H_passMinute d 40 [x0, x1] (v :: st) μ Q := kq_dup (show decode km_H_passMinute.2.1 40 = .ok (.dup, 1) by decide +kernel) hc k
theorem ks_H_passMinute_41 {d : Nat} {st : List kq_V} {μ : kq_M} {Q : Option kq_V → kq_M → Prop} {x0 x1 : Option kq_V} {r : Nat} (hok : kq_hr r = true) (k : kq_S km_H_passMinute d 44 [x0, x1] (kq_I (kq_rI μ r 1 5) :: st) μ Q) : kq_S km_H_passMinute d 41 [x0, x1] (kq_R r 1 :: st) μ Q := kq_getf 1 5 (show decode km_H_passMinute.2.1 41 = .ok (.getfield 27, 3) by decide +kernel) kx_94 ⟨rfl, by decide, by decide, by decide⟩ (show (0 : Nat) ≠ 45 by decide) hok k
theorem ks_H_passMinute_44 {d : Nat} {st : List kq_V} {μ : kq_M} {Q : Option kq_V → kq_M → Prop} {x0 x1 : Option kq_V} (k : kq_S km_H_passMinute d 45 [x0, x1] (kq_I 1 :: st) μ Q) : kq_S km_H_passMinute d 44 [x0, x1] (st) μ Q := kq_iconst (v := 1) (show decode km_H_passMinute.2.1 44 = .ok (.iconst 1, 1) by decide +kernel) (by decide) k
theorem ks_H_passMinute_45 {d : Nat} {st : List kq_V} {μ : kq_M} {Q : Option kq_V → kq_M → Prop} {x0 x1 : Option kq_V} {x y : Int32} (k : kq_S km_H_passMinute d 46 [x0, x1] (kq_I (x + y) :: st) μ Q) : kq_S km_H_passMinute d 45 [x0, x1] (kq_I y :: kq_I x :: st) μ Q := kq_iadd (show decode km_H_passMinute.2.1 45 = .ok (.iadd, 1) by decide +kernel) k
theorem ks_H_passMinute_46 {d : Nat} {st : List kq_V} {μ : kq_M} {Q : Option kq_V → kq_M → Prop} {x0 x1 : Option kq_V} {r : Nat} {v : Int32} (hok : kq_hr r = true) (k : kq_S km_H_passMinute d 49 [x0, x1] (st) (kq_wI μ r 1 5 v) Q) : kq_S km_H_passMinute d 46 [x0, x1] (kq_I v :: kq_R r 1 :: st) μ Q := kq_putI (ty := .int) 1 5 (show decode km_H_passMinute.2.1 46 = .ok (.putfield 27, 3) by decide +kernel) kx_94 ⟨rfl, by decide, by decide, by decide, rfl, rfl, rfl⟩ ⟨rfl, rfl⟩ hok k
theorem ks_H_passMinute_49 {d : Nat} {st : List kq_V} {μ : kq_M} {Q : Option kq_V → kq_M → Prop} {x0 : Option kq_V} {v : Int32} (k : kq_S km_H_passMinute d 50 [x0, some (kq_I v)] (kq_I v :: st) μ Q) : kq_S km_H_passMinute d 49 [x0, some (kq_I v)] (st) μ Q := kq_iload_n 1 (show decode km_H_passMinute.2.1 49 = .ok (.iload_n 1, 1) by decide +kernel) rfl rfl k
theorem ks_H_passMinute_50 {d : Nat} {μ : kq_M} {Q : Option kq_V → kq_M → Prop} {x0 x1 : Option kq_V} {v : Int32} (hv : v = 0 ∨ v = 1) (k : Q (some (kq_I v)) μ) : kq_S km_H_passMinute d 50 [x0, x1] [kq_I v] μ Q := kq_zret (ty := .boolean) (show decode km_H_passMinute.2.1 50 = .ok (.ireturn, 1) by decide +kernel) rfl (kq_b01 hv).1 k
theorem ks_H_whoseTurn_0 {d : Nat} {st : List kq_V} {μ : kq_M} {Q : Option kq_V → kq_M → Prop} {r : Nat} (k : kq_S km_H_whoseTurn d 1 [some (kq_R r 1)] (kq_R r 1 :: st) μ Q) : kq_S km_H_whoseTurn d 0 [some (kq_R r 1)] (st) μ Q := kq_aload_n 0 (show decode km_H_whoseTurn.2.1 0 = .ok (.aload_n 0, 1) by decide +kernel) rfl rfl (by decide) k
theorem ks_H_whoseTurn_1 {d : Nat} {st : List kq_V} {μ : kq_M} {Q : Option kq_V → kq_M → Prop} {x0 : Option kq_V} {r : Nat} (hok : kq_hr r = true) (k : kq_S km_H_whoseTurn d 4 [x0] (kq_I (kq_rI μ r 1 6) :: st) μ Q) : kq_S km_H_whoseTurn d 1 [x0] (kq_R r 1 :: st) μ Q := kq_getf 1 6 (show decode km_H_whoseTurn.2.1 1 = .ok (.getfield 30, 3) by decide +kernel) kx_96 ⟨rfl, by decide, by decide, by decide⟩ (show (0 : Nat) ≠ 45 by decide) hok k
theorem ks_H_whoseTurn_4 {d : Nat} {st : List kq_V} {μ : kq_M} {Q : Option kq_V → kq_M → Prop} {x0 : Option kq_V} {x : Int32} (kt : x ≤ 0 → kq_S km_H_whoseTurn d 19 [x0] st μ Q) (kf : ¬ x ≤ 0 → kq_S km_H_whoseTurn d 7 [x0] st μ Q) : kq_S km_H_whoseTurn d 4 [x0] (kq_I x :: st) μ Q := kq_if_le 19 (show decode km_H_whoseTurn.2.1 4 = .ok (.ifCond .le 15, 3) by decide +kernel) (by decide) kt kf
theorem ks_H_whoseTurn_7 {d : Nat} {st : List kq_V} {μ : kq_M} {Q : Option kq_V → kq_M → Prop} {r : Nat} (k : kq_S km_H_whoseTurn d 8 [some (kq_R r 1)] (kq_R r 1 :: st) μ Q) : kq_S km_H_whoseTurn d 7 [some (kq_R r 1)] (st) μ Q := kq_aload_n 0 (show decode km_H_whoseTurn.2.1 7 = .ok (.aload_n 0, 1) by decide +kernel) rfl rfl (by decide) k
theorem ks_H_whoseTurn_8 {d : Nat} {st : List kq_V} {μ : kq_M} {Q : Option kq_V → kq_M → Prop} {x0 : Option kq_V} {r : Nat} (hok : kq_hr r = true) (k : kq_S km_H_whoseTurn d 11 [x0] (kq_I (kq_rI μ r 1 5) :: st) μ Q) : kq_S km_H_whoseTurn d 8 [x0] (kq_R r 1 :: st) μ Q := kq_getf 1 5 (show decode km_H_whoseTurn.2.1 8 = .ok (.getfield 27, 3) by decide +kernel) kx_94 ⟨rfl, by decide, by decide, by decide⟩ (show (0 : Nat) ≠ 45 by decide) hok k
theorem ks_H_whoseTurn_11 {d : Nat} {st : List kq_V} {μ : kq_M} {Q : Option kq_V → kq_M → Prop} {r : Nat} (k : kq_S km_H_whoseTurn d 12 [some (kq_R r 1)] (kq_R r 1 :: st) μ Q) : kq_S km_H_whoseTurn d 11 [some (kq_R r 1)] (st) μ Q := kq_aload_n 0 (show decode km_H_whoseTurn.2.1 11 = .ok (.aload_n 0, 1) by decide +kernel) rfl rfl (by decide) k
theorem ks_H_whoseTurn_12 {d : Nat} {st : List kq_V} {μ : kq_M} {Q : Option kq_V → kq_M → Prop} {x0 : Option kq_V} {r : Nat} (hok : kq_hr r = true) (k : kq_S km_H_whoseTurn d 15 [x0] (kq_I (kq_rI μ r 1 6) :: st) μ Q) : kq_S km_H_whoseTurn d 12 [x0] (kq_R r 1 :: st) μ Q := kq_getf 1 6 (show decode km_H_whoseTurn.2.1 12 = .ok (.getfield 30, 3) by decide +kernel) kx_96 ⟨rfl, by decide, by decide, by decide⟩ (show (0 : Nat) ≠ 45 by decide) hok k
theorem ks_H_whoseTurn_15 {d : Nat} {st : List kq_V} {μ : kq_M} {Q : Option kq_V → kq_M → Prop} {x0 : Option kq_V} {x y : Int32} (hne : ¬ y = 0) (k : kq_S km_H_whoseTurn d 16 [x0] (kq_I (x - x / y * y) :: st) μ Q) : kq_S km_H_whoseTurn d 15 [x0] (kq_I y :: kq_I x :: st) μ Q := kq_irem (show decode km_H_whoseTurn.2.1 15 = .ok (.irem, 1) by decide +kernel) hne k
theorem ks_H_whoseTurn_16 {d : Nat} {st : List kq_V} {μ : kq_M} {Q : Option kq_V → kq_M → Prop} {x0 : Option kq_V} (k : kq_S km_H_whoseTurn d 20 [x0] (st) μ Q) : kq_S km_H_whoseTurn d 16 [x0] (st) μ Q := kq_goto 20 (show decode km_H_whoseTurn.2.1 16 = .ok (.goto 4, 3) by decide +kernel) (by decide) k
theorem ks_H_whoseTurn_19 {d : Nat} {st : List kq_V} {μ : kq_M} {Q : Option kq_V → kq_M → Prop} {x0 : Option kq_V} (k : kq_S km_H_whoseTurn d 20 [x0] (kq_I 0 :: st) μ Q) : kq_S km_H_whoseTurn d 19 [x0] (st) μ Q := kq_iconst (v := 0) (show decode km_H_whoseTurn.2.1 19 = .ok (.iconst 0, 1) by decide +kernel) (by decide) k
theorem ks_H_whoseTurn_20 {d : Nat} {μ : kq_M} {Q : Option kq_V → kq_M → Prop} {x0 : Option kq_V} {v : Int32} (k : Q (some (kq_I v)) μ) : kq_S km_H_whoseTurn d 20 [x0] [kq_I v] μ Q := kq_iret (show decode km_H_whoseTurn.2.1 20 = .ok (.ireturn, 1) by decide +kernel) rfl k
theorem ks_H_factAsked_0 {d : Nat} {st : List kq_V} {μ : kq_M} {Q : Option kq_V → kq_M → Prop} {r : Nat} (k : kq_S km_H_factAsked d 1 [some (kq_R r 1)] (kq_R r 1 :: st) μ Q) : kq_S km_H_factAsked d 0 [some (kq_R r 1)] (st) μ Q := kq_aload_n 0 (show decode km_H_factAsked.2.1 0 = .ok (.aload_n 0, 1) by decide +kernel) rfl rfl (by decide) k
theorem ks_H_factAsked_1 {d : Nat} {st : List kq_V} {μ : kq_M} {Q : Option kq_V → kq_M → Prop} {x0 : Option kq_V} {r : Nat} (hok : kq_hr r = true) (k : kq_S km_H_factAsked d 4 [x0] (kq_I (kq_rI μ r 1 6) :: st) μ Q) : kq_S km_H_factAsked d 1 [x0] (kq_R r 1 :: st) μ Q := kq_getf 1 6 (show decode km_H_factAsked.2.1 1 = .ok (.getfield 30, 3) by decide +kernel) kx_96 ⟨rfl, by decide, by decide, by decide⟩ (show (0 : Nat) ≠ 45 by decide) hok k
theorem ks_H_factAsked_4 {d : Nat} {st : List kq_V} {μ : kq_M} {Q : Option kq_V → kq_M → Prop} {x0 : Option kq_V} {x : Int32} (kt : x ≤ 0 → kq_S km_H_factAsked d 22 [x0] st μ Q) (kf : ¬ x ≤ 0 → kq_S km_H_factAsked d 7 [x0] st μ Q) : kq_S km_H_factAsked d 4 [x0] (kq_I x :: st) μ Q := kq_if_le 22 (show decode km_H_factAsked.2.1 4 = .ok (.ifCond .le 18, 3) by decide +kernel) (by decide) kt kf
theorem ks_H_factAsked_7 {d : Nat} {st : List kq_V} {μ : kq_M} {Q : Option kq_V → kq_M → Prop} {r : Nat} (k : kq_S km_H_factAsked d 8 [some (kq_R r 1)] (kq_R r 1 :: st) μ Q) : kq_S km_H_factAsked d 7 [some (kq_R r 1)] (st) μ Q := kq_aload_n 0 (show decode km_H_factAsked.2.1 7 = .ok (.aload_n 0, 1) by decide +kernel) rfl rfl (by decide) k
theorem ks_H_factAsked_8 {d : Nat} {st : List kq_V} {μ : kq_M} {Q : Option kq_V → kq_M → Prop} {x0 : Option kq_V} {r : Nat} (hok : kq_hr r = true) (k : kq_S km_H_factAsked d 11 [x0] (kq_I (kq_rI μ r 1 5) :: st) μ Q) : kq_S km_H_factAsked d 8 [x0] (kq_R r 1 :: st) μ Q := kq_getf 1 5 (show decode km_H_factAsked.2.1 8 = .ok (.getfield 27, 3) by decide +kernel) kx_94 ⟨rfl, by decide, by decide, by decide⟩ (show (0 : Nat) ≠ 45 by decide) hok k
theorem ks_H_factAsked_11 {d : Nat} {st : List kq_V} {μ : kq_M} {Q : Option kq_V → kq_M → Prop} {r : Nat} (k : kq_S km_H_factAsked d 12 [some (kq_R r 1)] (kq_R r 1 :: st) μ Q) : kq_S km_H_factAsked d 11 [some (kq_R r 1)] (st) μ Q := kq_aload_n 0 (show decode km_H_factAsked.2.1 11 = .ok (.aload_n 0, 1) by decide +kernel) rfl rfl (by decide) k
theorem ks_H_factAsked_12 {d : Nat} {st : List kq_V} {μ : kq_M} {Q : Option kq_V → kq_M → Prop} {x0 : Option kq_V} {r : Nat} (hok : kq_hr r = true) (k : kq_S km_H_factAsked d 15 [x0] (kq_I (kq_rI μ r 1 6) :: st) μ Q) : kq_S km_H_factAsked d 12 [x0] (kq_R r 1 :: st) μ Q := kq_getf 1 6 (show decode km_H_factAsked.2.1 12 = .ok (.getfield 30, 3) by decide +kernel) kx_96 ⟨rfl, by decide, by decide, by decide⟩ (show (0 : Nat) ≠ 45 by decide) hok k
theorem ks_H_factAsked_15 {d : Nat} {st : List kq_V} {μ : kq_M} {Q : Option kq_V → kq_M → Prop} {x0 : Option kq_V} {x y : Int32} (hne : ¬ y = 0) (k : kq_S km_H_factAsked d 16 [x0] (kq_I (x / y) :: st) μ Q) : kq_S km_H_factAsked d 15 [x0] (kq_I y :: kq_I x :: st) μ Q := kq_idiv (show decode km_H_factAsked.2.1 15 = .ok (.idiv, 1) by decide +kernel) hne k
theorem ks_H_factAsked_16 {d : Nat} {st : List kq_V} {μ : kq_M} {Q : Option kq_V → kq_M → Prop} {x0 : Option kq_V} (k : kq_S km_H_factAsked d 18 [x0] (kq_I 8 :: st) μ Q) : kq_S km_H_factAsked d 16 [x0] (st) μ Q := kq_bipush (v := 8) (show decode km_H_factAsked.2.1 16 = .ok (.bipush 8, 2) by decide +kernel) (by decide) k
theorem ks_H_factAsked_18 {d : Nat} {st : List kq_V} {μ : kq_M} {Q : Option kq_V → kq_M → Prop} {x0 : Option kq_V} {x : Int32} (k : kq_S km_H_factAsked d 19 [x0] (kq_I (x - x / 8 * 8) :: st) μ Q) : kq_S km_H_factAsked d 18 [x0] (kq_I 8 :: kq_I x :: st) μ Q := kq_irem (show decode km_H_factAsked.2.1 18 = .ok (.irem, 1) by decide +kernel) (by decide) k
theorem ks_H_factAsked_19 {d : Nat} {st : List kq_V} {μ : kq_M} {Q : Option kq_V → kq_M → Prop} {x0 : Option kq_V} (k : kq_S km_H_factAsked d 23 [x0] (st) μ Q) : kq_S km_H_factAsked d 19 [x0] (st) μ Q := kq_goto 23 (show decode km_H_factAsked.2.1 19 = .ok (.goto 4, 3) by decide +kernel) (by decide) k
theorem ks_H_factAsked_22 {d : Nat} {st : List kq_V} {μ : kq_M} {Q : Option kq_V → kq_M → Prop} {x0 : Option kq_V} (k : kq_S km_H_factAsked d 23 [x0] (kq_I 0 :: st) μ Q) : kq_S km_H_factAsked d 22 [x0] (st) μ Q := kq_iconst (v := 0) (show decode km_H_factAsked.2.1 22 = .ok (.iconst 0, 1) by decide +kernel) (by decide) k
theorem ks_H_factAsked_23 {d : Nat} {μ : kq_M} {Q : Option kq_V → kq_M → Prop} {x0 : Option kq_V} {v : Int32} (k : Q (some (kq_I v)) μ) : kq_S km_H_factAsked d 23 [x0] [kq_I v] μ Q := kq_iret (show decode km_H_factAsked.2.1 23 = .ok (.ireturn, 1) by decide +kernel) rfl k
theorem ks_H_become_0 {d : Nat} {st : List kq_V} {μ : kq_M} {Q : Option kq_V → kq_M → Prop} {x1 x2 : Option kq_V} {r : Nat} (k : kq_S km_H_become d 1 [some (kq_R r 1), x1, x2] (kq_R r 1 :: st) μ Q) : kq_S km_H_become d 0 [some (kq_R r 1), x1, x2] (st) μ Q := kq_aload_n 0 (show decode km_H_become.2.1 0 = .ok (.aload_n 0, 1) by decide +kernel) rfl rfl (by decide) k
theorem ks_H_become_1 {d : Nat} {st : List kq_V} {μ : kq_M} {Q : Option kq_V → kq_M → Prop} {x0 x2 : Option kq_V} {r : Nat} (k : kq_S km_H_become d 2 [x0, some (kq_R r 1), x2] (kq_R r 1 :: st) μ Q) : kq_S km_H_become d 1 [x0, some (kq_R r 1), x2] (st) μ Q := kq_aload_n 1 (show decode km_H_become.2.1 1 = .ok (.aload_n 1, 1) by decide +kernel) rfl rfl (by decide) k
theorem ks_H_become_2 {d : Nat} {st : List kq_V} {μ : kq_M} {Q : Option kq_V → kq_M → Prop} {x0 x1 x2 : Option kq_V} {r : Nat} (hok : kq_hr r = true) (k : kq_S km_H_become d 5 [x0, x1, x2] (kq_I (kq_rI μ r 1 0) :: st) μ Q) : kq_S km_H_become d 2 [x0, x1, x2] (kq_R r 1 :: st) μ Q := kq_getf 1 0 (show decode km_H_become.2.1 2 = .ok (.getfield 9, 3) by decide +kernel) kx_82 ⟨rfl, by decide, by decide, by decide⟩ (show (0 : Nat) ≠ 45 by decide) hok k
theorem ks_H_become_5 {d : Nat} {st : List kq_V} {μ : kq_M} {Q : Option kq_V → kq_M → Prop} {x0 x1 x2 : Option kq_V} {r : Nat} {v : Int32} (hok : kq_hr r = true) (k : kq_S km_H_become d 8 [x0, x1, x2] (st) (kq_wI μ r 1 0 v) Q) : kq_S km_H_become d 5 [x0, x1, x2] (kq_I v :: kq_R r 1 :: st) μ Q := kq_putI (ty := .int) 1 0 (show decode km_H_become.2.1 5 = .ok (.putfield 9, 3) by decide +kernel) kx_82 ⟨rfl, by decide, by decide, by decide, rfl, rfl, rfl⟩ ⟨rfl, rfl⟩ hok k
theorem ks_H_become_8 {d : Nat} {st : List kq_V} {μ : kq_M} {Q : Option kq_V → kq_M → Prop} {x1 x2 : Option kq_V} {r : Nat} (k : kq_S km_H_become d 9 [some (kq_R r 1), x1, x2] (kq_R r 1 :: st) μ Q) : kq_S km_H_become d 8 [some (kq_R r 1), x1, x2] (st) μ Q := kq_aload_n 0 (show decode km_H_become.2.1 8 = .ok (.aload_n 0, 1) by decide +kernel) rfl rfl (by decide) k
theorem ks_H_become_9 {d : Nat} {st : List kq_V} {μ : kq_M} {Q : Option kq_V → kq_M → Prop} {x0 x2 : Option kq_V} {r : Nat} (k : kq_S km_H_become d 10 [x0, some (kq_R r 1), x2] (kq_R r 1 :: st) μ Q) : kq_S km_H_become d 9 [x0, some (kq_R r 1), x2] (st) μ Q := kq_aload_n 1 (show decode km_H_become.2.1 9 = .ok (.aload_n 1, 1) by decide +kernel) rfl rfl (by decide) k
theorem ks_H_become_10 {d : Nat} {st : List kq_V} {μ : kq_M} {Q : Option kq_V → kq_M → Prop} {x0 x1 x2 : Option kq_V} {r : Nat} (hok : kq_hr r = true) (k : kq_S km_H_become d 13 [x0, x1, x2] (kq_I (kq_rI μ r 1 1) :: st) μ Q) : kq_S km_H_become d 10 [x0, x1, x2] (kq_R r 1 :: st) μ Q := kq_getf 1 1 (show decode km_H_become.2.1 10 = .ok (.getfield 15, 3) by decide +kernel) kx_85 ⟨rfl, by decide, by decide, by decide⟩ (show (0 : Nat) ≠ 45 by decide) hok k
theorem ks_H_become_13 {d : Nat} {st : List kq_V} {μ : kq_M} {Q : Option kq_V → kq_M → Prop} {x0 x1 x2 : Option kq_V} {r : Nat} {v : Int32} (hok : kq_hr r = true) (k : kq_S km_H_become d 16 [x0, x1, x2] (st) (kq_wI μ r 1 1 v) Q) : kq_S km_H_become d 13 [x0, x1, x2] (kq_I v :: kq_R r 1 :: st) μ Q := kq_putI (ty := .int) 1 1 (show decode km_H_become.2.1 13 = .ok (.putfield 15, 3) by decide +kernel) kx_85 ⟨rfl, by decide, by decide, by decide, rfl, rfl, rfl⟩ ⟨rfl, rfl⟩ hok k
theorem ks_H_become_16 {d : Nat} {st : List kq_V} {μ : kq_M} {Q : Option kq_V → kq_M → Prop} {x1 x2 : Option kq_V} {r : Nat} (k : kq_S km_H_become d 17 [some (kq_R r 1), x1, x2] (kq_R r 1 :: st) μ Q) : kq_S km_H_become d 16 [some (kq_R r 1), x1, x2] (st) μ Q := kq_aload_n 0 (show decode km_H_become.2.1 16 = .ok (.aload_n 0, 1) by decide +kernel) rfl rfl (by decide) k
theorem ks_H_become_17 {d : Nat} {st : List kq_V} {μ : kq_M} {Q : Option kq_V → kq_M → Prop} {x0 x2 : Option kq_V} {r : Nat} (k : kq_S km_H_become d 18 [x0, some (kq_R r 1), x2] (kq_R r 1 :: st) μ Q) : kq_S km_H_become d 17 [x0, some (kq_R r 1), x2] (st) μ Q := kq_aload_n 1 (show decode km_H_become.2.1 17 = .ok (.aload_n 1, 1) by decide +kernel) rfl rfl (by decide) k
theorem ks_H_become_18 {d : Nat} {st : List kq_V} {μ : kq_M} {Q : Option kq_V → kq_M → Prop} {x0 x1 x2 : Option kq_V} {r : Nat} (hok : kq_hr r = true) (k : kq_S km_H_become d 21 [x0, x1, x2] (kq_I (kq_rI μ r 1 2) :: st) μ Q) : kq_S km_H_become d 18 [x0, x1, x2] (kq_R r 1 :: st) μ Q := kq_getf 1 2 (show decode km_H_become.2.1 18 = .ok (.getfield 18, 3) by decide +kernel) kx_87 ⟨rfl, by decide, by decide, by decide⟩ (show (0 : Nat) ≠ 45 by decide) hok k
theorem ks_H_become_21 {d : Nat} {st : List kq_V} {μ : kq_M} {Q : Option kq_V → kq_M → Prop} {x0 x1 x2 : Option kq_V} {r : Nat} {v : Int32} (hok : kq_hr r = true) (k : kq_S km_H_become d 24 [x0, x1, x2] (st) (kq_wI μ r 1 2 v) Q) : kq_S km_H_become d 21 [x0, x1, x2] (kq_I v :: kq_R r 1 :: st) μ Q := kq_putI (ty := .int) 1 2 (show decode km_H_become.2.1 21 = .ok (.putfield 18, 3) by decide +kernel) kx_87 ⟨rfl, by decide, by decide, by decide, rfl, rfl, rfl⟩ ⟨rfl, rfl⟩ hok k
theorem ks_H_become_24 {d : Nat} {st : List kq_V} {μ : kq_M} {Q : Option kq_V → kq_M → Prop} {x1 x2 : Option kq_V} {r : Nat} (k : kq_S km_H_become d 25 [some (kq_R r 1), x1, x2] (kq_R r 1 :: st) μ Q) : kq_S km_H_become d 24 [some (kq_R r 1), x1, x2] (st) μ Q := kq_aload_n 0 (show decode km_H_become.2.1 24 = .ok (.aload_n 0, 1) by decide +kernel) rfl rfl (by decide) k
theorem ks_H_become_25 {d : Nat} {st : List kq_V} {μ : kq_M} {Q : Option kq_V → kq_M → Prop} {x0 x2 : Option kq_V} {r : Nat} (k : kq_S km_H_become d 26 [x0, some (kq_R r 1), x2] (kq_R r 1 :: st) μ Q) : kq_S km_H_become d 25 [x0, some (kq_R r 1), x2] (st) μ Q := kq_aload_n 1 (show decode km_H_become.2.1 25 = .ok (.aload_n 1, 1) by decide +kernel) rfl rfl (by decide) k
theorem ks_H_become_26 {d : Nat} {st : List kq_V} {μ : kq_M} {Q : Option kq_V → kq_M → Prop} {x0 x1 x2 : Option kq_V} {r : Nat} (hok : kq_hr r = true) (k : kq_S km_H_become d 29 [x0, x1, x2] (kq_I (kq_rI μ r 1 3) :: st) μ Q) : kq_S km_H_become d 26 [x0, x1, x2] (kq_R r 1 :: st) μ Q := kq_getf 1 3 (show decode km_H_become.2.1 26 = .ok (.getfield 21, 3) by decide +kernel) kx_90 ⟨rfl, by decide, by decide, by decide⟩ (show (0 : Nat) ≠ 45 by decide) hok k
theorem ks_H_become_29 {d : Nat} {st : List kq_V} {μ : kq_M} {Q : Option kq_V → kq_M → Prop} {x0 x1 x2 : Option kq_V} {r : Nat} {v : Int32} (hok : kq_hr r = true) (k : kq_S km_H_become d 32 [x0, x1, x2] (st) (kq_wI μ r 1 3 v) Q) : kq_S km_H_become d 29 [x0, x1, x2] (kq_I v :: kq_R r 1 :: st) μ Q := kq_putI (ty := .int) 1 3 (show decode km_H_become.2.1 29 = .ok (.putfield 21, 3) by decide +kernel) kx_90 ⟨rfl, by decide, by decide, by decide, rfl, rfl, rfl⟩ ⟨rfl, rfl⟩ hok k
theorem ks_H_become_32 {d : Nat} {st : List kq_V} {μ : kq_M} {Q : Option kq_V → kq_M → Prop} {x1 x2 : Option kq_V} {r : Nat} (k : kq_S km_H_become d 33 [some (kq_R r 1), x1, x2] (kq_R r 1 :: st) μ Q) : kq_S km_H_become d 32 [some (kq_R r 1), x1, x2] (st) μ Q := kq_aload_n 0 (show decode km_H_become.2.1 32 = .ok (.aload_n 0, 1) by decide +kernel) rfl rfl (by decide) k
theorem ks_H_become_33 {d : Nat} {st : List kq_V} {μ : kq_M} {Q : Option kq_V → kq_M → Prop} {x0 x2 : Option kq_V} {r : Nat} (k : kq_S km_H_become d 34 [x0, some (kq_R r 1), x2] (kq_R r 1 :: st) μ Q) : kq_S km_H_become d 33 [x0, some (kq_R r 1), x2] (st) μ Q := kq_aload_n 1 (show decode km_H_become.2.1 33 = .ok (.aload_n 1, 1) by decide +kernel) rfl rfl (by decide) k
theorem ks_H_become_34 {d : Nat} {st : List kq_V} {μ : kq_M} {Q : Option kq_V → kq_M → Prop} {x0 x1 x2 : Option kq_V} {r : Nat} (hok : kq_hr r = true) (k : kq_S km_H_become d 37 [x0, x1, x2] (kq_I (kq_rI μ r 1 4) :: st) μ Q) : kq_S km_H_become d 34 [x0, x1, x2] (kq_R r 1 :: st) μ Q := kq_getf 1 4 (show decode km_H_become.2.1 34 = .ok (.getfield 24, 3) by decide +kernel) kx_92 ⟨rfl, by decide, by decide, by decide⟩ (show (0 : Nat) ≠ 45 by decide) hok k
theorem ks_H_become_37 {d : Nat} {st : List kq_V} {μ : kq_M} {Q : Option kq_V → kq_M → Prop} {x0 x1 x2 : Option kq_V} {r : Nat} {v : Int32} (hok : kq_hr r = true) (k : kq_S km_H_become d 40 [x0, x1, x2] (st) (kq_wI μ r 1 4 v) Q) : kq_S km_H_become d 37 [x0, x1, x2] (kq_I v :: kq_R r 1 :: st) μ Q := kq_putI (ty := .int) 1 4 (show decode km_H_become.2.1 37 = .ok (.putfield 24, 3) by decide +kernel) kx_92 ⟨rfl, by decide, by decide, by decide, rfl, rfl, rfl⟩ ⟨rfl, rfl⟩ hok k
theorem ks_H_become_40 {d : Nat} {st : List kq_V} {μ : kq_M} {Q : Option kq_V → kq_M → Prop} {x1 x2 : Option kq_V} {r : Nat} (k : kq_S km_H_become d 41 [some (kq_R r 1), x1, x2] (kq_R r 1 :: st) μ Q) : kq_S km_H_become d 40 [some (kq_R r 1), x1, x2] (st) μ Q := kq_aload_n 0 (show decode km_H_become.2.1 40 = .ok (.aload_n 0, 1) by decide +kernel) rfl rfl (by decide) k
theorem ks_H_become_41 {d : Nat} {st : List kq_V} {μ : kq_M} {Q : Option kq_V → kq_M → Prop} {x0 x2 : Option kq_V} {r : Nat} (k : kq_S km_H_become d 42 [x0, some (kq_R r 1), x2] (kq_R r 1 :: st) μ Q) : kq_S km_H_become d 41 [x0, some (kq_R r 1), x2] (st) μ Q := kq_aload_n 1 (show decode km_H_become.2.1 41 = .ok (.aload_n 1, 1) by decide +kernel) rfl rfl (by decide) k
theorem ks_H_become_42 {d : Nat} {st : List kq_V} {μ : kq_M} {Q : Option kq_V → kq_M → Prop} {x0 x1 x2 : Option kq_V} {r : Nat} (hok : kq_hr r = true) (k : kq_S km_H_become d 45 [x0, x1, x2] (kq_I (kq_rI μ r 1 5) :: st) μ Q) : kq_S km_H_become d 42 [x0, x1, x2] (kq_R r 1 :: st) μ Q := kq_getf 1 5 (show decode km_H_become.2.1 42 = .ok (.getfield 27, 3) by decide +kernel) kx_94 ⟨rfl, by decide, by decide, by decide⟩ (show (0 : Nat) ≠ 45 by decide) hok k
theorem ks_H_become_45 {d : Nat} {st : List kq_V} {μ : kq_M} {Q : Option kq_V → kq_M → Prop} {x0 x1 x2 : Option kq_V} {r : Nat} {v : Int32} (hok : kq_hr r = true) (k : kq_S km_H_become d 48 [x0, x1, x2] (st) (kq_wI μ r 1 5 v) Q) : kq_S km_H_become d 45 [x0, x1, x2] (kq_I v :: kq_R r 1 :: st) μ Q := kq_putI (ty := .int) 1 5 (show decode km_H_become.2.1 45 = .ok (.putfield 27, 3) by decide +kernel) kx_94 ⟨rfl, by decide, by decide, by decide, rfl, rfl, rfl⟩ ⟨rfl, rfl⟩ hok k
theorem ks_H_become_48 {d : Nat} {st : List kq_V} {μ : kq_M} {Q : Option kq_V → kq_M → Prop} {x1 x2 : Option kq_V} {r : Nat} (k : kq_S km_H_become d 49 [some (kq_R r 1), x1, x2] (kq_R r 1 :: st) μ Q) : kq_S km_H_become d 48 [some (kq_R r 1), x1, x2] (st) μ Q := kq_aload_n 0 (show decode km_H_become.2.1 48 = .ok (.aload_n 0, 1) by decide +kernel) rfl rfl (by decide) k
theorem ks_H_become_49 {d : Nat} {st : List kq_V} {μ : kq_M} {Q : Option kq_V → kq_M → Prop} {x0 x2 : Option kq_V} {r : Nat} (k : kq_S km_H_become d 50 [x0, some (kq_R r 1), x2] (kq_R r 1 :: st) μ Q) : kq_S km_H_become d 49 [x0, some (kq_R r 1), x2] (st) μ Q := kq_aload_n 1 (show decode km_H_become.2.1 49 = .ok (.aload_n 1, 1) by decide +kernel) rfl rfl (by decide) k
theorem ks_H_become_50 {d : Nat} {st : List kq_V} {μ : kq_M} {Q : Option kq_V → kq_M → Prop} {x0 x1 x2 : Option kq_V} {r : Nat} (hok : kq_hr r = true) (k : kq_S km_H_become d 53 [x0, x1, x2] (kq_I (kq_rI μ r 1 6) :: st) μ Q) : kq_S km_H_become d 50 [x0, x1, x2] (kq_R r 1 :: st) μ Q := kq_getf 1 6 (show decode km_H_become.2.1 50 = .ok (.getfield 30, 3) by decide +kernel) kx_96 ⟨rfl, by decide, by decide, by decide⟩ (show (0 : Nat) ≠ 45 by decide) hok k
theorem ks_H_become_53 {d : Nat} {st : List kq_V} {μ : kq_M} {Q : Option kq_V → kq_M → Prop} {x0 x1 x2 : Option kq_V} {r : Nat} {v : Int32} (hok : kq_hr r = true) (k : kq_S km_H_become d 56 [x0, x1, x2] (st) (kq_wI μ r 1 6 v) Q) : kq_S km_H_become d 53 [x0, x1, x2] (kq_I v :: kq_R r 1 :: st) μ Q := kq_putI (ty := .int) 1 6 (show decode km_H_become.2.1 53 = .ok (.putfield 30, 3) by decide +kernel) kx_96 ⟨rfl, by decide, by decide, by decide, rfl, rfl, rfl⟩ ⟨rfl, rfl⟩ hok k
theorem ks_H_become_56 {d : Nat} {st : List kq_V} {μ : kq_M} {Q : Option kq_V → kq_M → Prop} {x0 x1 x2 : Option kq_V} (k : kq_S km_H_become d 57 [x0, x1, x2] (kq_I 0 :: st) μ Q) : kq_S km_H_become d 56 [x0, x1, x2] (st) μ Q := kq_iconst (v := 0) (show decode km_H_become.2.1 56 = .ok (.iconst 0, 1) by decide +kernel) (by decide) k
theorem ks_H_become_57 {d : Nat} {st : List kq_V} {μ : kq_M} {Q : Option kq_V → kq_M → Prop} {x0 x1 x2 : Option kq_V} {v : Int32} (hp : kq_nj x1 = true) (k : kq_S km_H_become d 58 [x0, x1, some (kq_I v)] (st) μ Q) : kq_S km_H_become d 57 [x0, x1, x2] (kq_I v :: st) μ Q := kq_istore_n 2 (show decode km_H_become.2.1 57 = .ok (.istore_n 2, 1) by decide +kernel) rfl (by decide) (kq_nl_of rfl hp) k
theorem ks_H_become_58 {d : Nat} {st : List kq_V} {μ : kq_M} {Q : Option kq_V → kq_M → Prop} {x0 x1 : Option kq_V} {v : Int32} (k : kq_S km_H_become d 59 [x0, x1, some (kq_I v)] (kq_I v :: st) μ Q) : kq_S km_H_become d 58 [x0, x1, some (kq_I v)] (st) μ Q := kq_iload_n 2 (show decode km_H_become.2.1 58 = .ok (.iload_n 2, 1) by decide +kernel) rfl rfl k
theorem ks_H_become_59 {d : Nat} {st : List kq_V} {μ : kq_M} {Q : Option kq_V → kq_M → Prop} {x1 x2 : Option kq_V} {r : Nat} (k : kq_S km_H_become d 60 [some (kq_R r 1), x1, x2] (kq_R r 1 :: st) μ Q) : kq_S km_H_become d 59 [some (kq_R r 1), x1, x2] (st) μ Q := kq_aload_n 0 (show decode km_H_become.2.1 59 = .ok (.aload_n 0, 1) by decide +kernel) rfl rfl (by decide) k
theorem ks_H_become_60 {d : Nat} {st : List kq_V} {μ : kq_M} {Q : Option kq_V → kq_M → Prop} {x0 x1 x2 : Option kq_V} {r : Nat} (hok : kq_hr r = true) (k : kq_S km_H_become d 63 [x0, x1, x2] (kq_I (kq_rI μ r 1 6) :: st) μ Q) : kq_S km_H_become d 60 [x0, x1, x2] (kq_R r 1 :: st) μ Q := kq_getf 1 6 (show decode km_H_become.2.1 60 = .ok (.getfield 30, 3) by decide +kernel) kx_96 ⟨rfl, by decide, by decide, by decide⟩ (show (0 : Nat) ≠ 45 by decide) hok k
theorem ks_H_become_63 {d : Nat} {st : List kq_V} {μ : kq_M} {Q : Option kq_V → kq_M → Prop} {x0 x1 x2 : Option kq_V} {x y : Int32} (kt : y ≤ x → kq_S km_H_become d 126 [x0, x1, x2] st μ Q) (kf : ¬ y ≤ x → kq_S km_H_become d 66 [x0, x1, x2] st μ Q) : kq_S km_H_become d 63 [x0, x1, x2] (kq_I y :: kq_I x :: st) μ Q := kq_icmp_ge 126 (show decode km_H_become.2.1 63 = .ok (.if_icmp .ge 63, 3) by decide +kernel) (by decide) kt kf
theorem ks_H_become_66 {d : Nat} {st : List kq_V} {μ : kq_M} {Q : Option kq_V → kq_M → Prop} {x0 x1 : Option kq_V} {v : Int32} (k : kq_S km_H_become d 67 [x0, x1, some (kq_I v)] (kq_I v :: st) μ Q) : kq_S km_H_become d 66 [x0, x1, some (kq_I v)] (st) μ Q := kq_iload_n 2 (show decode km_H_become.2.1 66 = .ok (.iload_n 2, 1) by decide +kernel) rfl rfl k
theorem ks_H_become_67 {d : Nat} {st : List kq_V} {μ : kq_M} {Q : Option kq_V → kq_M → Prop} {x0 x1 x2 : Option kq_V} (k : kq_S km_H_become d 69 [x0, x1, x2] (kq_I 8 :: st) μ Q) : kq_S km_H_become d 67 [x0, x1, x2] (st) μ Q := kq_bipush (v := 8) (show decode km_H_become.2.1 67 = .ok (.bipush 8, 2) by decide +kernel) (by decide) k
theorem ks_H_become_69 {d : Nat} {st : List kq_V} {μ : kq_M} {Q : Option kq_V → kq_M → Prop} {x0 x1 x2 : Option kq_V} {x y : Int32} (kt : y ≤ x → kq_S km_H_become d 126 [x0, x1, x2] st μ Q) (kf : ¬ y ≤ x → kq_S km_H_become d 72 [x0, x1, x2] st μ Q) : kq_S km_H_become d 69 [x0, x1, x2] (kq_I y :: kq_I x :: st) μ Q := kq_icmp_ge 126 (show decode km_H_become.2.1 69 = .ok (.if_icmp .ge 57, 3) by decide +kernel) (by decide) kt kf
theorem ks_H_become_72 {d : Nat} {st : List kq_V} {μ : kq_M} {Q : Option kq_V → kq_M → Prop} {x1 x2 : Option kq_V} {r : Nat} (k : kq_S km_H_become d 73 [some (kq_R r 1), x1, x2] (kq_R r 1 :: st) μ Q) : kq_S km_H_become d 72 [some (kq_R r 1), x1, x2] (st) μ Q := kq_aload_n 0 (show decode km_H_become.2.1 72 = .ok (.aload_n 0, 1) by decide +kernel) rfl rfl (by decide) k
theorem ks_H_become_73 {d : Nat} {st : List kq_V} {μ : kq_M} {Q : Option kq_V → kq_M → Prop} {x0 x1 x2 : Option kq_V} {r : Nat} (hok : kq_hr r = true) (k : kq_S km_H_become d 76 [x0, x1, x2] (kq_R r 2 :: st) μ Q) : kq_S km_H_become d 73 [x0, x1, x2] (kq_R r 1 :: st) μ Q := kq_getf 1 7 (show decode km_H_become.2.1 73 = .ok (.getfield 33, 3) by decide +kernel) kx_99 ⟨rfl, by decide, by decide, by decide⟩ (show (2 : Nat) ≠ 45 by decide) hok k
theorem ks_H_become_76 {d : Nat} {st : List kq_V} {μ : kq_M} {Q : Option kq_V → kq_M → Prop} {x0 x1 : Option kq_V} {v : Int32} (k : kq_S km_H_become d 77 [x0, x1, some (kq_I v)] (kq_I v :: st) μ Q) : kq_S km_H_become d 76 [x0, x1, some (kq_I v)] (st) μ Q := kq_iload_n 2 (show decode km_H_become.2.1 76 = .ok (.iload_n 2, 1) by decide +kernel) rfl rfl k
theorem ks_H_become_77 {d : Nat} {st : List kq_V} {μ : kq_M} {Q : Option kq_V → kq_M → Prop} {x0 x2 : Option kq_V} {r : Nat} (k : kq_S km_H_become d 78 [x0, some (kq_R r 1), x2] (kq_R r 1 :: st) μ Q) : kq_S km_H_become d 77 [x0, some (kq_R r 1), x2] (st) μ Q := kq_aload_n 1 (show decode km_H_become.2.1 77 = .ok (.aload_n 1, 1) by decide +kernel) rfl rfl (by decide) k
theorem ks_H_become_78 {d : Nat} {st : List kq_V} {μ : kq_M} {Q : Option kq_V → kq_M → Prop} {x0 x1 x2 : Option kq_V} {r : Nat} (hok : kq_hr r = true) (k : kq_S km_H_become d 81 [x0, x1, x2] (kq_R r 2 :: st) μ Q) : kq_S km_H_become d 78 [x0, x1, x2] (kq_R r 1 :: st) μ Q := kq_getf 1 7 (show decode km_H_become.2.1 78 = .ok (.getfield 33, 3) by decide +kernel) kx_99 ⟨rfl, by decide, by decide, by decide⟩ (show (2 : Nat) ≠ 45 by decide) hok k
theorem ks_H_become_81 {d : Nat} {st : List kq_V} {μ : kq_M} {Q : Option kq_V → kq_M → Prop} {x0 x1 : Option kq_V} {v : Int32} (k : kq_S km_H_become d 82 [x0, x1, some (kq_I v)] (kq_I v :: st) μ Q) : kq_S km_H_become d 81 [x0, x1, some (kq_I v)] (st) μ Q := kq_iload_n 2 (show decode km_H_become.2.1 81 = .ok (.iload_n 2, 1) by decide +kernel) rfl rfl k
theorem ks_H_become_82 {d : Nat} {st : List kq_V} {μ : kq_M} {Q : Option kq_V → kq_M → Prop} {x0 x1 x2 : Option kq_V} {x : Int32} {r : Nat} (j : Nat) (hok : kq_hr r = true) (hx : x = nI j) (hj : j < 8) (k : kq_S km_H_become d 83 [x0, x1, x2] (kq_I (kq_rI μ r 2 j) :: st) μ Q) : kq_S km_H_become d 82 [x0, x1, x2] (kq_I x :: kq_R r 2 :: st) μ Q := kq_iald 2 j (show decode km_H_become.2.1 82 = .ok (.iaload, 1) by decide +kernel) ⟨rfl, by decide⟩ hok hx hj k
theorem ks_H_become_82n {d : Nat} {st : List kq_V} {μ : kq_M} {Q : Option kq_V → kq_M → Prop} {x0 x1 x2 : Option kq_V} {r : Nat} {j : Nat} (hok : kq_hr r = true) (hj : j < 8) (k : kq_S km_H_become d 83 [x0, x1, x2] (kq_I (kq_rI μ r 2 j) :: st) μ Q) : kq_S km_H_become d 82 [x0, x1, x2] (kq_I (nI j) :: kq_R r 2 :: st) μ Q := kq_iald 2 j (show decode km_H_become.2.1 82 = .ok (.iaload, 1) by decide +kernel) ⟨rfl, by decide⟩ hok rfl hj k
theorem ks_H_become_83 {d : Nat} {st : List kq_V} {μ : kq_M} {Q : Option kq_V → kq_M → Prop} {x0 x1 x2 : Option kq_V} {v : Int32} {x : Int32} {r : Nat} (j : Nat) (hok : kq_hr r = true) (hx : x = nI j) (hj : j < 8) (k : kq_S km_H_become d 84 [x0, x1, x2] (st) (kq_wI μ r 2 j v) Q) : kq_S km_H_become d 83 [x0, x1, x2] (kq_I v :: kq_I x :: kq_R r 2 :: st) μ Q := kq_iast 2 j (show decode km_H_become.2.1 83 = .ok (.iastore, 1) by decide +kernel) ⟨rfl, by decide⟩ hok hx hj k
theorem ks_H_become_83n {d : Nat} {st : List kq_V} {μ : kq_M} {Q : Option kq_V → kq_M → Prop} {x0 x1 x2 : Option kq_V} {v : Int32} {r : Nat} {j : Nat} (hok : kq_hr r = true) (hj : j < 8) (k : kq_S km_H_become d 84 [x0, x1, x2] (st) (kq_wI μ r 2 j v) Q) : kq_S km_H_become d 83 [x0, x1, x2] (kq_I v :: kq_I (nI j) :: kq_R r 2 :: st) μ Q := kq_iast 2 j (show decode km_H_become.2.1 83 = .ok (.iastore, 1) by decide +kernel) ⟨rfl, by decide⟩ hok rfl hj k
theorem ks_H_become_84 {d : Nat} {st : List kq_V} {μ : kq_M} {Q : Option kq_V → kq_M → Prop} {x1 x2 : Option kq_V} {r : Nat} (k : kq_S km_H_become d 85 [some (kq_R r 1), x1, x2] (kq_R r 1 :: st) μ Q) : kq_S km_H_become d 84 [some (kq_R r 1), x1, x2] (st) μ Q := kq_aload_n 0 (show decode km_H_become.2.1 84 = .ok (.aload_n 0, 1) by decide +kernel) rfl rfl (by decide) k
theorem ks_H_become_85 {d : Nat} {st : List kq_V} {μ : kq_M} {Q : Option kq_V → kq_M → Prop} {x0 x1 x2 : Option kq_V} {r : Nat} (hok : kq_hr r = true) (k : kq_S km_H_become d 88 [x0, x1, x2] (kq_R r 3 :: st) μ Q) : kq_S km_H_become d 85 [x0, x1, x2] (kq_R r 1 :: st) μ Q := kq_getf 1 8 (show decode km_H_become.2.1 85 = .ok (.getfield 37, 3) by decide +kernel) kx_101 ⟨rfl, by decide, by decide, by decide⟩ (show (3 : Nat) ≠ 45 by decide) hok k
theorem ks_H_become_88 {d : Nat} {st : List kq_V} {μ : kq_M} {Q : Option kq_V → kq_M → Prop} {x0 x1 : Option kq_V} {v : Int32} (k : kq_S km_H_become d 89 [x0, x1, some (kq_I v)] (kq_I v :: st) μ Q) : kq_S km_H_become d 88 [x0, x1, some (kq_I v)] (st) μ Q := kq_iload_n 2 (show decode km_H_become.2.1 88 = .ok (.iload_n 2, 1) by decide +kernel) rfl rfl k
theorem ks_H_become_89 {d : Nat} {st : List kq_V} {μ : kq_M} {Q : Option kq_V → kq_M → Prop} {x0 x2 : Option kq_V} {r : Nat} (k : kq_S km_H_become d 90 [x0, some (kq_R r 1), x2] (kq_R r 1 :: st) μ Q) : kq_S km_H_become d 89 [x0, some (kq_R r 1), x2] (st) μ Q := kq_aload_n 1 (show decode km_H_become.2.1 89 = .ok (.aload_n 1, 1) by decide +kernel) rfl rfl (by decide) k
theorem ks_H_become_90 {d : Nat} {st : List kq_V} {μ : kq_M} {Q : Option kq_V → kq_M → Prop} {x0 x1 x2 : Option kq_V} {r : Nat} (hok : kq_hr r = true) (k : kq_S km_H_become d 93 [x0, x1, x2] (kq_R r 3 :: st) μ Q) : kq_S km_H_become d 90 [x0, x1, x2] (kq_R r 1 :: st) μ Q := kq_getf 1 8 (show decode km_H_become.2.1 90 = .ok (.getfield 37, 3) by decide +kernel) kx_101 ⟨rfl, by decide, by decide, by decide⟩ (show (3 : Nat) ≠ 45 by decide) hok k
theorem ks_H_become_93 {d : Nat} {st : List kq_V} {μ : kq_M} {Q : Option kq_V → kq_M → Prop} {x0 x1 : Option kq_V} {v : Int32} (k : kq_S km_H_become d 94 [x0, x1, some (kq_I v)] (kq_I v :: st) μ Q) : kq_S km_H_become d 93 [x0, x1, some (kq_I v)] (st) μ Q := kq_iload_n 2 (show decode km_H_become.2.1 93 = .ok (.iload_n 2, 1) by decide +kernel) rfl rfl k
theorem ks_H_become_94 {d : Nat} {st : List kq_V} {μ : kq_M} {Q : Option kq_V → kq_M → Prop} {x0 x1 x2 : Option kq_V} {x : Int32} {r : Nat} (j : Nat) (hok : kq_hr r = true) (hx : x = nI j) (hj : j < 8) (k : kq_S km_H_become d 95 [x0, x1, x2] (kq_I (kq_rI μ r 3 j) :: st) μ Q) : kq_S km_H_become d 94 [x0, x1, x2] (kq_I x :: kq_R r 3 :: st) μ Q := kq_iald 3 j (show decode km_H_become.2.1 94 = .ok (.iaload, 1) by decide +kernel) ⟨rfl, by decide⟩ hok hx hj k
theorem ks_H_become_94n {d : Nat} {st : List kq_V} {μ : kq_M} {Q : Option kq_V → kq_M → Prop} {x0 x1 x2 : Option kq_V} {r : Nat} {j : Nat} (hok : kq_hr r = true) (hj : j < 8) (k : kq_S km_H_become d 95 [x0, x1, x2] (kq_I (kq_rI μ r 3 j) :: st) μ Q) : kq_S km_H_become d 94 [x0, x1, x2] (kq_I (nI j) :: kq_R r 3 :: st) μ Q := kq_iald 3 j (show decode km_H_become.2.1 94 = .ok (.iaload, 1) by decide +kernel) ⟨rfl, by decide⟩ hok rfl hj k
theorem ks_H_become_95 {d : Nat} {st : List kq_V} {μ : kq_M} {Q : Option kq_V → kq_M → Prop} {x0 x1 x2 : Option kq_V} {v : Int32} {x : Int32} {r : Nat} (j : Nat) (hok : kq_hr r = true) (hx : x = nI j) (hj : j < 8) (k : kq_S km_H_become d 96 [x0, x1, x2] (st) (kq_wI μ r 3 j v) Q) : kq_S km_H_become d 95 [x0, x1, x2] (kq_I v :: kq_I x :: kq_R r 3 :: st) μ Q := kq_iast 3 j (show decode km_H_become.2.1 95 = .ok (.iastore, 1) by decide +kernel) ⟨rfl, by decide⟩ hok hx hj k
theorem ks_H_become_95n {d : Nat} {st : List kq_V} {μ : kq_M} {Q : Option kq_V → kq_M → Prop} {x0 x1 x2 : Option kq_V} {v : Int32} {r : Nat} {j : Nat} (hok : kq_hr r = true) (hj : j < 8) (k : kq_S km_H_become d 96 [x0, x1, x2] (st) (kq_wI μ r 3 j v) Q) : kq_S km_H_become d 95 [x0, x1, x2] (kq_I v :: kq_I (nI j) :: kq_R r 3 :: st) μ Q := kq_iast 3 j (show decode km_H_become.2.1 95 = .ok (.iastore, 1) by decide +kernel) ⟨rfl, by decide⟩ hok rfl hj k
theorem ks_H_become_96 {d : Nat} {st : List kq_V} {μ : kq_M} {Q : Option kq_V → kq_M → Prop} {x1 x2 : Option kq_V} {r : Nat} (k : kq_S km_H_become d 97 [some (kq_R r 1), x1, x2] (kq_R r 1 :: st) μ Q) : kq_S km_H_become d 96 [some (kq_R r 1), x1, x2] (st) μ Q := kq_aload_n 0 (show decode km_H_become.2.1 96 = .ok (.aload_n 0, 1) by decide +kernel) rfl rfl (by decide) k
theorem ks_H_become_97 {d : Nat} {st : List kq_V} {μ : kq_M} {Q : Option kq_V → kq_M → Prop} {x0 x1 x2 : Option kq_V} {r : Nat} (hok : kq_hr r = true) (k : kq_S km_H_become d 100 [x0, x1, x2] (kq_R r 4 :: st) μ Q) : kq_S km_H_become d 97 [x0, x1, x2] (kq_R r 1 :: st) μ Q := kq_getf 1 9 (show decode km_H_become.2.1 97 = .ok (.getfield 40, 3) by decide +kernel) kx_104 ⟨rfl, by decide, by decide, by decide⟩ (show (4 : Nat) ≠ 45 by decide) hok k
theorem ks_H_become_100 {d : Nat} {st : List kq_V} {μ : kq_M} {Q : Option kq_V → kq_M → Prop} {x0 x1 : Option kq_V} {v : Int32} (k : kq_S km_H_become d 101 [x0, x1, some (kq_I v)] (kq_I v :: st) μ Q) : kq_S km_H_become d 100 [x0, x1, some (kq_I v)] (st) μ Q := kq_iload_n 2 (show decode km_H_become.2.1 100 = .ok (.iload_n 2, 1) by decide +kernel) rfl rfl k
theorem ks_H_become_101 {d : Nat} {st : List kq_V} {μ : kq_M} {Q : Option kq_V → kq_M → Prop} {x0 x2 : Option kq_V} {r : Nat} (k : kq_S km_H_become d 102 [x0, some (kq_R r 1), x2] (kq_R r 1 :: st) μ Q) : kq_S km_H_become d 101 [x0, some (kq_R r 1), x2] (st) μ Q := kq_aload_n 1 (show decode km_H_become.2.1 101 = .ok (.aload_n 1, 1) by decide +kernel) rfl rfl (by decide) k
theorem ks_H_become_102 {d : Nat} {st : List kq_V} {μ : kq_M} {Q : Option kq_V → kq_M → Prop} {x0 x1 x2 : Option kq_V} {r : Nat} (hok : kq_hr r = true) (k : kq_S km_H_become d 105 [x0, x1, x2] (kq_R r 4 :: st) μ Q) : kq_S km_H_become d 102 [x0, x1, x2] (kq_R r 1 :: st) μ Q := kq_getf 1 9 (show decode km_H_become.2.1 102 = .ok (.getfield 40, 3) by decide +kernel) kx_104 ⟨rfl, by decide, by decide, by decide⟩ (show (4 : Nat) ≠ 45 by decide) hok k
theorem ks_H_become_105 {d : Nat} {st : List kq_V} {μ : kq_M} {Q : Option kq_V → kq_M → Prop} {x0 x1 : Option kq_V} {v : Int32} (k : kq_S km_H_become d 106 [x0, x1, some (kq_I v)] (kq_I v :: st) μ Q) : kq_S km_H_become d 105 [x0, x1, some (kq_I v)] (st) μ Q := kq_iload_n 2 (show decode km_H_become.2.1 105 = .ok (.iload_n 2, 1) by decide +kernel) rfl rfl k
theorem ks_H_become_106 {d : Nat} {st : List kq_V} {μ : kq_M} {Q : Option kq_V → kq_M → Prop} {x0 x1 x2 : Option kq_V} {x : Int32} {r : Nat} (j : Nat) (hok : kq_hr r = true) (hx : x = nI j) (hj : j < 8) (k : kq_S km_H_become d 107 [x0, x1, x2] (kq_I (kq_rI μ r 4 j) :: st) μ Q) : kq_S km_H_become d 106 [x0, x1, x2] (kq_I x :: kq_R r 4 :: st) μ Q := kq_iald 4 j (show decode km_H_become.2.1 106 = .ok (.iaload, 1) by decide +kernel) ⟨rfl, by decide⟩ hok hx hj k
theorem ks_H_become_106n {d : Nat} {st : List kq_V} {μ : kq_M} {Q : Option kq_V → kq_M → Prop} {x0 x1 x2 : Option kq_V} {r : Nat} {j : Nat} (hok : kq_hr r = true) (hj : j < 8) (k : kq_S km_H_become d 107 [x0, x1, x2] (kq_I (kq_rI μ r 4 j) :: st) μ Q) : kq_S km_H_become d 106 [x0, x1, x2] (kq_I (nI j) :: kq_R r 4 :: st) μ Q := kq_iald 4 j (show decode km_H_become.2.1 106 = .ok (.iaload, 1) by decide +kernel) ⟨rfl, by decide⟩ hok rfl hj k
theorem ks_H_become_107 {d : Nat} {st : List kq_V} {μ : kq_M} {Q : Option kq_V → kq_M → Prop} {x0 x1 x2 : Option kq_V} {v : Int32} {x : Int32} {r : Nat} (j : Nat) (hok : kq_hr r = true) (hx : x = nI j) (hj : j < 8) (k : kq_S km_H_become d 108 [x0, x1, x2] (st) (kq_wI μ r 4 j v) Q) : kq_S km_H_become d 107 [x0, x1, x2] (kq_I v :: kq_I x :: kq_R r 4 :: st) μ Q := kq_iast 4 j (show decode km_H_become.2.1 107 = .ok (.iastore, 1) by decide +kernel) ⟨rfl, by decide⟩ hok hx hj k
theorem ks_H_become_107n {d : Nat} {st : List kq_V} {μ : kq_M} {Q : Option kq_V → kq_M → Prop} {x0 x1 x2 : Option kq_V} {v : Int32} {r : Nat} {j : Nat} (hok : kq_hr r = true) (hj : j < 8) (k : kq_S km_H_become d 108 [x0, x1, x2] (st) (kq_wI μ r 4 j v) Q) : kq_S km_H_become d 107 [x0, x1, x2] (kq_I v :: kq_I (nI j) :: kq_R r 4 :: st) μ Q := kq_iast 4 j (show decode km_H_become.2.1 107 = .ok (.iastore, 1) by decide +kernel) ⟨rfl, by decide⟩ hok rfl hj k
theorem ks_H_become_108 {d : Nat} {st : List kq_V} {μ : kq_M} {Q : Option kq_V → kq_M → Prop} {x1 x2 : Option kq_V} {r : Nat} (k : kq_S km_H_become d 109 [some (kq_R r 1), x1, x2] (kq_R r 1 :: st) μ Q) : kq_S km_H_become d 108 [some (kq_R r 1), x1, x2] (st) μ Q := kq_aload_n 0 (show decode km_H_become.2.1 108 = .ok (.aload_n 0, 1) by decide +kernel) rfl rfl (by decide) k
theorem ks_H_become_109 {d : Nat} {st : List kq_V} {μ : kq_M} {Q : Option kq_V → kq_M → Prop} {x0 x1 x2 : Option kq_V} {r : Nat} (hok : kq_hr r = true) (k : kq_S km_H_become d 112 [x0, x1, x2] (kq_R r 5 :: st) μ Q) : kq_S km_H_become d 109 [x0, x1, x2] (kq_R r 1 :: st) μ Q := kq_getf 1 10 (show decode km_H_become.2.1 109 = .ok (.getfield 43, 3) by decide +kernel) kx_107 ⟨rfl, by decide, by decide, by decide⟩ (show (5 : Nat) ≠ 45 by decide) hok k
theorem ks_H_become_112 {d : Nat} {st : List kq_V} {μ : kq_M} {Q : Option kq_V → kq_M → Prop} {x0 x1 : Option kq_V} {v : Int32} (k : kq_S km_H_become d 113 [x0, x1, some (kq_I v)] (kq_I v :: st) μ Q) : kq_S km_H_become d 112 [x0, x1, some (kq_I v)] (st) μ Q := kq_iload_n 2 (show decode km_H_become.2.1 112 = .ok (.iload_n 2, 1) by decide +kernel) rfl rfl k
theorem ks_H_become_113 {d : Nat} {st : List kq_V} {μ : kq_M} {Q : Option kq_V → kq_M → Prop} {x0 x2 : Option kq_V} {r : Nat} (k : kq_S km_H_become d 114 [x0, some (kq_R r 1), x2] (kq_R r 1 :: st) μ Q) : kq_S km_H_become d 113 [x0, some (kq_R r 1), x2] (st) μ Q := kq_aload_n 1 (show decode km_H_become.2.1 113 = .ok (.aload_n 1, 1) by decide +kernel) rfl rfl (by decide) k
theorem ks_H_become_114 {d : Nat} {st : List kq_V} {μ : kq_M} {Q : Option kq_V → kq_M → Prop} {x0 x1 x2 : Option kq_V} {r : Nat} (hok : kq_hr r = true) (k : kq_S km_H_become d 117 [x0, x1, x2] (kq_R r 5 :: st) μ Q) : kq_S km_H_become d 114 [x0, x1, x2] (kq_R r 1 :: st) μ Q := kq_getf 1 10 (show decode km_H_become.2.1 114 = .ok (.getfield 43, 3) by decide +kernel) kx_107 ⟨rfl, by decide, by decide, by decide⟩ (show (5 : Nat) ≠ 45 by decide) hok k
theorem ks_H_become_117 {d : Nat} {st : List kq_V} {μ : kq_M} {Q : Option kq_V → kq_M → Prop} {x0 x1 : Option kq_V} {v : Int32} (k : kq_S km_H_become d 118 [x0, x1, some (kq_I v)] (kq_I v :: st) μ Q) : kq_S km_H_become d 117 [x0, x1, some (kq_I v)] (st) μ Q := kq_iload_n 2 (show decode km_H_become.2.1 117 = .ok (.iload_n 2, 1) by decide +kernel) rfl rfl k
theorem ks_H_become_118 {d : Nat} {st : List kq_V} {μ : kq_M} {Q : Option kq_V → kq_M → Prop} {x0 x1 x2 : Option kq_V} {x : Int32} {r : Nat} (j : Nat) (hok : kq_hr r = true) (hx : x = nI j) (hj : j < 8) (k : kq_S km_H_become d 119 [x0, x1, x2] (kq_I (kq_rI μ r 5 j) :: st) μ Q) : kq_S km_H_become d 118 [x0, x1, x2] (kq_I x :: kq_R r 5 :: st) μ Q := kq_iald 5 j (show decode km_H_become.2.1 118 = .ok (.iaload, 1) by decide +kernel) ⟨rfl, by decide⟩ hok hx hj k
theorem ks_H_become_118n {d : Nat} {st : List kq_V} {μ : kq_M} {Q : Option kq_V → kq_M → Prop} {x0 x1 x2 : Option kq_V} {r : Nat} {j : Nat} (hok : kq_hr r = true) (hj : j < 8) (k : kq_S km_H_become d 119 [x0, x1, x2] (kq_I (kq_rI μ r 5 j) :: st) μ Q) : kq_S km_H_become d 118 [x0, x1, x2] (kq_I (nI j) :: kq_R r 5 :: st) μ Q := kq_iald 5 j (show decode km_H_become.2.1 118 = .ok (.iaload, 1) by decide +kernel) ⟨rfl, by decide⟩ hok rfl hj k
theorem ks_H_become_119 {d : Nat} {st : List kq_V} {μ : kq_M} {Q : Option kq_V → kq_M → Prop} {x0 x1 x2 : Option kq_V} {v : Int32} {x : Int32} {r : Nat} (j : Nat) (hok : kq_hr r = true) (hx : x = nI j) (hj : j < 8) (k : kq_S km_H_become d 120 [x0, x1, x2] (st) (kq_wI μ r 5 j v) Q) : kq_S km_H_become d 119 [x0, x1, x2] (kq_I v :: kq_I x :: kq_R r 5 :: st) μ Q := kq_iast 5 j (show decode km_H_become.2.1 119 = .ok (.iastore, 1) by decide +kernel) ⟨rfl, by decide⟩ hok hx hj k
theorem ks_H_become_119n {d : Nat} {st : List kq_V} {μ : kq_M} {Q : Option kq_V → kq_M → Prop} {x0 x1 x2 : Option kq_V} {v : Int32} {r : Nat} {j : Nat} (hok : kq_hr r = true) (hj : j < 8) (k : kq_S km_H_become d 120 [x0, x1, x2] (st) (kq_wI μ r 5 j v) Q) : kq_S km_H_become d 119 [x0, x1, x2] (kq_I v :: kq_I (nI j) :: kq_R r 5 :: st) μ Q := kq_iast 5 j (show decode km_H_become.2.1 119 = .ok (.iastore, 1) by decide +kernel) ⟨rfl, by decide⟩ hok rfl hj k
theorem ks_H_become_120 {d : Nat} {st : List kq_V} {μ : kq_M} {Q : Option kq_V → kq_M → Prop} {x0 x1 : Option kq_V} {v : Int32} (hp : kq_nj x1 = true) (k : kq_S km_H_become d 123 [x0, x1, some (kq_I (v + 1))] (st) μ Q) : kq_S km_H_become d 120 [x0, x1, some (kq_I v)] (st) μ Q := kq_iinc _ (show decode km_H_become.2.1 120 = .ok (.iinc 2 1, 3) by decide +kernel) rfl rfl (by decide) (kq_nl_of rfl hp) k
theorem ks_H_become_120n {d : Nat} {st : List kq_V} {μ : kq_M} {Q : Option kq_V → kq_M → Prop} {x0 x1 : Option kq_V} {v : Nat} (hp : kq_nj x1 = true) (k : kq_S km_H_become d 123 [x0, x1, some (kq_I (nI (v + 1)))] (st) μ Q) : kq_S km_H_become d 120 [x0, x1, some (kq_I (nI v))] (st) μ Q := kq_iinc _ (show decode km_H_become.2.1 120 = .ok (.iinc 2 1, 3) by decide +kernel) rfl (nI_1 v) (by decide) (kq_nl_of rfl hp) k
theorem ks_H_become_123 {d : Nat} {st : List kq_V} {μ : kq_M} {Q : Option kq_V → kq_M → Prop} {x0 x1 x2 : Option kq_V} (k : kq_S km_H_become d 58 [x0, x1, x2] (st) μ Q) : kq_S km_H_become d 123 [x0, x1, x2] (st) μ Q := kq_goto 58 (show decode km_H_become.2.1 123 = .ok (.goto (-65), 3) by decide +kernel) (by decide) k
theorem ks_H_become_126 {d : Nat} {μ : kq_M} {Q : Option kq_V → kq_M → Prop} {x0 x1 x2 : Option kq_V} (k : Q none μ) : kq_S km_H_become d 126 [x0, x1, x2] [] μ Q := kq_vret (show decode km_H_become.2.1 126 = .ok (.return_, 1) by decide +kernel) rfl k
theorem ks_H_goesBy_0 {d : Nat} {st : List kq_V} {μ : kq_M} {Q : Option kq_V → kq_M → Prop} {x0 x1 x2 : Option kq_V} (k : kq_S km_H_goesBy d 1 [x0, x1, x2] (kq_I 0 :: st) μ Q) : kq_S km_H_goesBy d 0 [x0, x1, x2] (st) μ Q := kq_iconst (v := 0) (show decode km_H_goesBy.2.1 0 = .ok (.iconst 0, 1) by decide +kernel) (by decide) k
theorem ks_H_goesBy_1 {d : Nat} {st : List kq_V} {μ : kq_M} {Q : Option kq_V → kq_M → Prop} {x0 x1 x2 : Option kq_V} {v : Int32} (hp : kq_nj x1 = true) (k : kq_S km_H_goesBy d 2 [x0, x1, some (kq_I v)] (st) μ Q) : kq_S km_H_goesBy d 1 [x0, x1, x2] (kq_I v :: st) μ Q := kq_istore_n 2 (show decode km_H_goesBy.2.1 1 = .ok (.istore_n 2, 1) by decide +kernel) rfl (by decide) (kq_nl_of rfl hp) k
theorem ks_H_goesBy_2 {d : Nat} {st : List kq_V} {μ : kq_M} {Q : Option kq_V → kq_M → Prop} {x0 x1 : Option kq_V} {v : Int32} (k : kq_S km_H_goesBy d 3 [x0, x1, some (kq_I v)] (kq_I v :: st) μ Q) : kq_S km_H_goesBy d 2 [x0, x1, some (kq_I v)] (st) μ Q := kq_iload_n 2 (show decode km_H_goesBy.2.1 2 = .ok (.iload_n 2, 1) by decide +kernel) rfl rfl k
theorem ks_H_goesBy_3 {d : Nat} {st : List kq_V} {μ : kq_M} {Q : Option kq_V → kq_M → Prop} {x0 x2 : Option kq_V} {r : Nat} (k : kq_S km_H_goesBy d 4 [x0, some (kq_R r 8), x2] (kq_R r 8 :: st) μ Q) : kq_S km_H_goesBy d 3 [x0, some (kq_R r 8), x2] (st) μ Q := kq_aload_n 1 (show decode km_H_goesBy.2.1 3 = .ok (.aload_n 1, 1) by decide +kernel) rfl rfl (by decide) k
theorem ks_H_goesBy_4 {d : Nat} {st : List kq_V} {μ : kq_M} {Q : Option kq_V → kq_M → Prop} {x0 x1 x2 : Option kq_V} {r : Nat} (hok : Nat.blt r 4 = true) (k : kq_S km_H_goesBy d 7 [x0, x1, x2] (kq_I (kq_rI μ r 8 1) :: st) μ Q) : kq_S km_H_goesBy d 4 [x0, x1, x2] (kq_R r 8 :: st) μ Q := kq_getf 8 1 (show decode km_H_goesBy.2.1 4 = .ok (.getfield 124, 3) by decide +kernel) kx_173 ⟨rfl, by decide, by decide, by decide⟩ (show (0 : Nat) ≠ 45 by decide) hok k
theorem ks_H_goesBy_7 {d : Nat} {st : List kq_V} {μ : kq_M} {Q : Option kq_V → kq_M → Prop} {x0 x1 x2 : Option kq_V} {x y : Int32} (kt : y ≤ x → kq_S km_H_goesBy d 38 [x0, x1, x2] st μ Q) (kf : ¬ y ≤ x → kq_S km_H_goesBy d 10 [x0, x1, x2] st μ Q) : kq_S km_H_goesBy d 7 [x0, x1, x2] (kq_I y :: kq_I x :: st) μ Q := kq_icmp_ge 38 (show decode km_H_goesBy.2.1 7 = .ok (.if_icmp .ge 31, 3) by decide +kernel) (by decide) kt kf
theorem ks_H_goesBy_10 {d : Nat} {st : List kq_V} {μ : kq_M} {Q : Option kq_V → kq_M → Prop} {x1 x2 : Option kq_V} {r : Nat} (k : kq_S km_H_goesBy d 11 [some (kq_R r 1), x1, x2] (kq_R r 1 :: st) μ Q) : kq_S km_H_goesBy d 10 [some (kq_R r 1), x1, x2] (st) μ Q := kq_aload_n 0 (show decode km_H_goesBy.2.1 10 = .ok (.aload_n 0, 1) by decide +kernel) rfl rfl (by decide) k
theorem ks_H_goesBy_11 {d : Nat} {st : List kq_V} {μ : kq_M} {Q : Option kq_V → kq_M → Prop} {x0 x1 x2 : Option kq_V} {r : Nat} (hok : kq_hr r = true) (k : kq_S km_H_goesBy d 14 [x0, x1, x2] (kq_I (kq_rI μ r 1 1) :: st) μ Q) : kq_S km_H_goesBy d 11 [x0, x1, x2] (kq_R r 1 :: st) μ Q := kq_getf 1 1 (show decode km_H_goesBy.2.1 11 = .ok (.getfield 15, 3) by decide +kernel) kx_85 ⟨rfl, by decide, by decide, by decide⟩ (show (0 : Nat) ≠ 45 by decide) hok k
theorem ks_H_goesBy_14 {d : Nat} {st : List kq_V} {μ : kq_M} {Q : Option kq_V → kq_M → Prop} {x0 x1 x2 : Option kq_V} {x : Int32} (k : kq_S km_H_goesBy d 15 [x0, x1, x2] (kq_L x.toInt64 :: st) μ Q) : kq_S km_H_goesBy d 14 [x0, x1, x2] (kq_I x :: st) μ Q := kq_i2l (show decode km_H_goesBy.2.1 14 = .ok (.i2l, 1) by decide +kernel) k
theorem ks_H_goesBy_15 {d : Nat} {st : List kq_V} {μ : kq_M} {Q : Option kq_V → kq_M → Prop} {x0 x2 : Option kq_V} {r : Nat} (k : kq_S km_H_goesBy d 16 [x0, some (kq_R r 8), x2] (kq_R r 8 :: st) μ Q) : kq_S km_H_goesBy d 15 [x0, some (kq_R r 8), x2] (st) μ Q := kq_aload_n 1 (show decode km_H_goesBy.2.1 15 = .ok (.aload_n 1, 1) by decide +kernel) rfl rfl (by decide) k
theorem ks_H_goesBy_16 {d : Nat} {st : List kq_V} {μ : kq_M} {Q : Option kq_V → kq_M → Prop} {x0 x1 x2 : Option kq_V} {r : Nat} (hok : Nat.blt r 4 = true) (k : kq_S km_H_goesBy d 19 [x0, x1, x2] (kq_R r 9 :: st) μ Q) : kq_S km_H_goesBy d 16 [x0, x1, x2] (kq_R r 8 :: st) μ Q := kq_getf 8 2 (show decode km_H_goesBy.2.1 16 = .ok (.getfield 129, 3) by decide +kernel) kx_176 ⟨rfl, by decide, by decide, by decide⟩ (show (9 : Nat) ≠ 45 by decide) hok k
theorem ks_H_goesBy_19 {d : Nat} {st : List kq_V} {μ : kq_M} {Q : Option kq_V → kq_M → Prop} {x0 x1 : Option kq_V} {v : Int32} (k : kq_S km_H_goesBy d 20 [x0, x1, some (kq_I v)] (kq_I v :: st) μ Q) : kq_S km_H_goesBy d 19 [x0, x1, some (kq_I v)] (st) μ Q := kq_iload_n 2 (show decode km_H_goesBy.2.1 19 = .ok (.iload_n 2, 1) by decide +kernel) rfl rfl k
theorem ks_H_goesBy_20 {d : Nat} {st : List kq_V} {μ : kq_M} {Q : Option kq_V → kq_M → Prop} {x0 x1 x2 : Option kq_V} {x : Int32} {r : Nat} (j : Nat) (hok : Nat.blt r 4 = true) (hx : x = nI j) (hj : j < 40) (k : kq_S km_H_goesBy d 21 [x0, x1, x2] (kq_L (kq_rL μ r 9 j) :: st) μ Q) : kq_S km_H_goesBy d 20 [x0, x1, x2] (kq_I x :: kq_R r 9 :: st) μ Q := kq_lald 9 j (show decode km_H_goesBy.2.1 20 = .ok (.laload, 1) by decide +kernel) ⟨rfl, by decide⟩ hok hx hj k
theorem ks_H_goesBy_20n {d : Nat} {st : List kq_V} {μ : kq_M} {Q : Option kq_V → kq_M → Prop} {x0 x1 x2 : Option kq_V} {r : Nat} {j : Nat} (hok : Nat.blt r 4 = true) (hj : j < 40) (k : kq_S km_H_goesBy d 21 [x0, x1, x2] (kq_L (kq_rL μ r 9 j) :: st) μ Q) : kq_S km_H_goesBy d 20 [x0, x1, x2] (kq_I (nI j) :: kq_R r 9 :: st) μ Q := kq_lald 9 j (show decode km_H_goesBy.2.1 20 = .ok (.laload, 1) by decide +kernel) ⟨rfl, by decide⟩ hok rfl hj k
theorem ks_H_goesBy_21 {d : Nat} {st : List kq_V} {μ : kq_M} {Q : Option kq_V → kq_M → Prop} {x0 x1 x2 : Option kq_V} {x y : Int64} (k : kq_S km_H_goesBy d 22 [x0, x1, x2] (kq_I (lg_cmp x y) :: st) μ Q) : kq_S km_H_goesBy d 21 [x0, x1, x2] (kq_L y :: kq_L x :: st) μ Q := kq_lcmp (show decode km_H_goesBy.2.1 21 = .ok (.lcmp, 1) by decide +kernel) k
theorem ks_H_goesBy_22 {d : Nat} {st : List kq_V} {μ : kq_M} {Q : Option kq_V → kq_M → Prop} {x0 x1 x2 : Option kq_V} {x : Int32} (kt : x = 0 → kq_S km_H_goesBy d 27 [x0, x1, x2] st μ Q) (kf : ¬ x = 0 → kq_S km_H_goesBy d 25 [x0, x1, x2] st μ Q) : kq_S km_H_goesBy d 22 [x0, x1, x2] (kq_I x :: st) μ Q := kq_if_eq 27 (show decode km_H_goesBy.2.1 22 = .ok (.ifCond .eq 5, 3) by decide +kernel) (by decide) kt kf
theorem ks_H_goesBy_25 {d : Nat} {st : List kq_V} {μ : kq_M} {Q : Option kq_V → kq_M → Prop} {x0 x1 x2 : Option kq_V} (k : kq_S km_H_goesBy d 26 [x0, x1, x2] (kq_I 0 :: st) μ Q) : kq_S km_H_goesBy d 25 [x0, x1, x2] (st) μ Q := kq_iconst (v := 0) (show decode km_H_goesBy.2.1 25 = .ok (.iconst 0, 1) by decide +kernel) (by decide) k
theorem ks_H_goesBy_26 {d : Nat} {μ : kq_M} {Q : Option kq_V → kq_M → Prop} {x0 x1 x2 : Option kq_V} (k : Q (some (kq_I 0)) μ) : kq_S km_H_goesBy d 26 [x0, x1, x2] [kq_I 0] μ Q := kq_zret (ty := .boolean) (show decode km_H_goesBy.2.1 26 = .ok (.ireturn, 1) by decide +kernel) rfl (by decide) k
theorem ks_H_goesBy_27 {d : Nat} {st : List kq_V} {μ : kq_M} {Q : Option kq_V → kq_M → Prop} {x1 x2 : Option kq_V} {r : Nat} (k : kq_S km_H_goesBy d 28 [some (kq_R r 1), x1, x2] (kq_R r 1 :: st) μ Q) : kq_S km_H_goesBy d 27 [some (kq_R r 1), x1, x2] (st) μ Q := kq_aload_n 0 (show decode km_H_goesBy.2.1 27 = .ok (.aload_n 0, 1) by decide +kernel) rfl rfl (by decide) k
theorem ks_H_goesBy_28 {d : Nat} {st : List kq_V} {μ : kq_M} {Q : Option kq_V → kq_M → Prop} {x0 x1 x2 : Option kq_V} {r : Nat} (hok : kq_hr r = true) (hst : (st.map kq_cat).sum ≤ 8) (k : kq_Call d km_H_passMinute [kq_R r 1] μ (kq_K km_H_goesBy (d + 1) 31 [x0, x1, x2] st Q)) : kq_S km_H_goesBy (d + 1) 28 [x0, x1, x2] (kq_R r 1 :: st) μ Q := kq_callV (M' := km_H_passMinute) [] (show decode km_H_goesBy.2.1 28 = .ok (.invokevirtual 120, 3) by decide +kernel) kx_356 kw_H_passMinute kg_H_passMinute (kq_rc_obj 1 ⟨rfl, by decide, by decide, rfl⟩ hok) hst k
theorem ks_H_goesBy_31 {d : Nat} {st : List kq_V} {μ : kq_M} {Q : Option kq_V → kq_M → Prop} {x0 x1 x2 : Option kq_V} {v : kq_V} (hc : kq_cat v = 1) (k : kq_S km_H_goesBy d 32 [x0, x1, x2] (st) μ Q) : kq_S km_H_goesBy d 31 [x0, x1, x2] (v :: st) μ Q := kq_pop (show decode km_H_goesBy.2.1 31 = .ok (.pop, 1) by decide +kernel) hc k
theorem ks_H_goesBy_32 {d : Nat} {st : List kq_V} {μ : kq_M} {Q : Option kq_V → kq_M → Prop} {x0 x1 : Option kq_V} {v : Int32} (hp : kq_nj x1 = true) (k : kq_S km_H_goesBy d 35 [x0, x1, some (kq_I (v + 1))] (st) μ Q) : kq_S km_H_goesBy d 32 [x0, x1, some (kq_I v)] (st) μ Q := kq_iinc _ (show decode km_H_goesBy.2.1 32 = .ok (.iinc 2 1, 3) by decide +kernel) rfl rfl (by decide) (kq_nl_of rfl hp) k
theorem ks_H_goesBy_32n {d : Nat} {st : List kq_V} {μ : kq_M} {Q : Option kq_V → kq_M → Prop} {x0 x1 : Option kq_V} {v : Nat} (hp : kq_nj x1 = true) (k : kq_S km_H_goesBy d 35 [x0, x1, some (kq_I (nI (v + 1)))] (st) μ Q) : kq_S km_H_goesBy d 32 [x0, x1, some (kq_I (nI v))] (st) μ Q := kq_iinc _ (show decode km_H_goesBy.2.1 32 = .ok (.iinc 2 1, 3) by decide +kernel) rfl (nI_1 v) (by decide) (kq_nl_of rfl hp) k
theorem ks_H_goesBy_35 {d : Nat} {st : List kq_V} {μ : kq_M} {Q : Option kq_V → kq_M → Prop} {x0 x1 x2 : Option kq_V} (k : kq_S km_H_goesBy d 2 [x0, x1, x2] (st) μ Q) : kq_S km_H_goesBy d 35 [x0, x1, x2] (st) μ Q := kq_goto 2 (show decode km_H_goesBy.2.1 35 = .ok (.goto (-33), 3) by decide +kernel) (by decide) k
theorem ks_H_goesBy_38 {d : Nat} {st : List kq_V} {μ : kq_M} {Q : Option kq_V → kq_M → Prop} {x0 x1 x2 : Option kq_V} (k : kq_S km_H_goesBy d 39 [x0, x1, x2] (kq_I 1 :: st) μ Q) : kq_S km_H_goesBy d 38 [x0, x1, x2] (st) μ Q := kq_iconst (v := 1) (show decode km_H_goesBy.2.1 38 = .ok (.iconst 1, 1) by decide +kernel) (by decide) k
theorem ks_H_goesBy_39 {d : Nat} {μ : kq_M} {Q : Option kq_V → kq_M → Prop} {x0 x1 x2 : Option kq_V} (k : Q (some (kq_I 1)) μ) : kq_S km_H_goesBy d 39 [x0, x1, x2] [kq_I 1] μ Q := kq_zret (ty := .boolean) (show decode km_H_goesBy.2.1 39 = .ok (.ireturn, 1) by decide +kernel) rfl (by decide) k
theorem ks_H_allLies_0 {d : Nat} {st : List kq_V} {μ : kq_M} {Q : Option kq_V → kq_M → Prop} {x0 x1 x2 : Option kq_V} (k : kq_S km_H_allLies d 1 [x0, x1, x2] (kq_I 0 :: st) μ Q) : kq_S km_H_allLies d 0 [x0, x1, x2] (st) μ Q := kq_iconst (v := 0) (show decode km_H_allLies.2.1 0 = .ok (.iconst 0, 1) by decide +kernel) (by decide) k
theorem ks_H_allLies_1 {d : Nat} {st : List kq_V} {μ : kq_M} {Q : Option kq_V → kq_M → Prop} {x0 x1 x2 : Option kq_V} {v : Int32} (hp : kq_nj x0 = true) (k : kq_S km_H_allLies d 2 [x0, some (kq_I v), x2] (st) μ Q) : kq_S km_H_allLies d 1 [x0, x1, x2] (kq_I v :: st) μ Q := kq_istore_n 1 (show decode km_H_allLies.2.1 1 = .ok (.istore_n 1, 1) by decide +kernel) rfl (by decide) (kq_nl_of rfl hp) k
theorem ks_H_allLies_2 {d : Nat} {st : List kq_V} {μ : kq_M} {Q : Option kq_V → kq_M → Prop} {x0 x1 x2 : Option kq_V} (k : kq_S km_H_allLies d 3 [x0, x1, x2] (kq_I 0 :: st) μ Q) : kq_S km_H_allLies d 2 [x0, x1, x2] (st) μ Q := kq_iconst (v := 0) (show decode km_H_allLies.2.1 2 = .ok (.iconst 0, 1) by decide +kernel) (by decide) k
theorem ks_H_allLies_3 {d : Nat} {st : List kq_V} {μ : kq_M} {Q : Option kq_V → kq_M → Prop} {x0 x1 x2 : Option kq_V} {v : Int32} (hp : kq_nj x1 = true) (k : kq_S km_H_allLies d 4 [x0, x1, some (kq_I v)] (st) μ Q) : kq_S km_H_allLies d 3 [x0, x1, x2] (kq_I v :: st) μ Q := kq_istore_n 2 (show decode km_H_allLies.2.1 3 = .ok (.istore_n 2, 1) by decide +kernel) rfl (by decide) (kq_nl_of rfl hp) k
theorem ks_H_allLies_4 {d : Nat} {st : List kq_V} {μ : kq_M} {Q : Option kq_V → kq_M → Prop} {x0 x1 : Option kq_V} {v : Int32} (k : kq_S km_H_allLies d 5 [x0, x1, some (kq_I v)] (kq_I v :: st) μ Q) : kq_S km_H_allLies d 4 [x0, x1, some (kq_I v)] (st) μ Q := kq_iload_n 2 (show decode km_H_allLies.2.1 4 = .ok (.iload_n 2, 1) by decide +kernel) rfl rfl k
theorem ks_H_allLies_5 {d : Nat} {st : List kq_V} {μ : kq_M} {Q : Option kq_V → kq_M → Prop} {x1 x2 : Option kq_V} {r : Nat} (k : kq_S km_H_allLies d 6 [some (kq_R r 1), x1, x2] (kq_R r 1 :: st) μ Q) : kq_S km_H_allLies d 5 [some (kq_R r 1), x1, x2] (st) μ Q := kq_aload_n 0 (show decode km_H_allLies.2.1 5 = .ok (.aload_n 0, 1) by decide +kernel) rfl rfl (by decide) k
theorem ks_H_allLies_6 {d : Nat} {st : List kq_V} {μ : kq_M} {Q : Option kq_V → kq_M → Prop} {x0 x1 x2 : Option kq_V} {r : Nat} (hok : kq_hr r = true) (k : kq_S km_H_allLies d 9 [x0, x1, x2] (kq_I (kq_rI μ r 1 6) :: st) μ Q) : kq_S km_H_allLies d 6 [x0, x1, x2] (kq_R r 1 :: st) μ Q := kq_getf 1 6 (show decode km_H_allLies.2.1 6 = .ok (.getfield 30, 3) by decide +kernel) kx_96 ⟨rfl, by decide, by decide, by decide⟩ (show (0 : Nat) ≠ 45 by decide) hok k
theorem ks_H_allLies_9 {d : Nat} {st : List kq_V} {μ : kq_M} {Q : Option kq_V → kq_M → Prop} {x0 x1 x2 : Option kq_V} {x y : Int32} (kt : y ≤ x → kq_S km_H_allLies d 29 [x0, x1, x2] st μ Q) (kf : ¬ y ≤ x → kq_S km_H_allLies d 12 [x0, x1, x2] st μ Q) : kq_S km_H_allLies d 9 [x0, x1, x2] (kq_I y :: kq_I x :: st) μ Q := kq_icmp_ge 29 (show decode km_H_allLies.2.1 9 = .ok (.if_icmp .ge 20, 3) by decide +kernel) (by decide) kt kf
theorem ks_H_allLies_12 {d : Nat} {st : List kq_V} {μ : kq_M} {Q : Option kq_V → kq_M → Prop} {x0 x2 : Option kq_V} {v : Int32} (k : kq_S km_H_allLies d 13 [x0, some (kq_I v), x2] (kq_I v :: st) μ Q) : kq_S km_H_allLies d 12 [x0, some (kq_I v), x2] (st) μ Q := kq_iload_n 1 (show decode km_H_allLies.2.1 12 = .ok (.iload_n 1, 1) by decide +kernel) rfl rfl k
theorem ks_H_allLies_13 {d : Nat} {st : List kq_V} {μ : kq_M} {Q : Option kq_V → kq_M → Prop} {x1 x2 : Option kq_V} {r : Nat} (k : kq_S km_H_allLies d 14 [some (kq_R r 1), x1, x2] (kq_R r 1 :: st) μ Q) : kq_S km_H_allLies d 13 [some (kq_R r 1), x1, x2] (st) μ Q := kq_aload_n 0 (show decode km_H_allLies.2.1 13 = .ok (.aload_n 0, 1) by decide +kernel) rfl rfl (by decide) k
theorem ks_H_allLies_14 {d : Nat} {st : List kq_V} {μ : kq_M} {Q : Option kq_V → kq_M → Prop} {x0 x1 : Option kq_V} {v : Int32} (k : kq_S km_H_allLies d 15 [x0, x1, some (kq_I v)] (kq_I v :: st) μ Q) : kq_S km_H_allLies d 14 [x0, x1, some (kq_I v)] (st) μ Q := kq_iload_n 2 (show decode km_H_allLies.2.1 14 = .ok (.iload_n 2, 1) by decide +kernel) rfl rfl k
theorem ks_H_allLies_15 {d : Nat} {st : List kq_V} {μ : kq_M} {Q : Option kq_V → kq_M → Prop} {x0 x1 x2 : Option kq_V} {a1 : kq_V} {r : Nat} (hok : kq_hr r = true) (hst : (st.map kq_cat).sum ≤ 8) (k : kq_Call d km_H_lieSet [kq_R r 1, a1] μ (kq_K km_H_allLies (d + 1) 18 [x0, x1, x2] st Q)) : kq_S km_H_allLies (d + 1) 15 [x0, x1, x2] (a1 :: kq_R r 1 :: st) μ Q := kq_callV (M' := km_H_lieSet) [a1] (show decode km_H_allLies.2.1 15 = .ok (.invokevirtual 57, 3) by decide +kernel) kx_297 kw_H_lieSet kg_H_lieSet (kq_rc_obj 1 ⟨rfl, by decide, by decide, rfl⟩ hok) hst k
theorem ks_H_allLies_18 {d : Nat} {st : List kq_V} {μ : kq_M} {Q : Option kq_V → kq_M → Prop} {x0 x1 x2 : Option kq_V} {a1 : kq_V} (hst : (st.map kq_cat).sum ≤ 8) (k : kq_Call d km_jI_bitCount [a1] μ (kq_K km_H_allLies (d + 1) 21 [x0, x1, x2] st Q)) : kq_S km_H_allLies (d + 1) 18 [x0, x1, x2] (a1 :: st) μ Q := kq_callS (M' := km_jI_bitCount) [a1] (show decode km_H_allLies.2.1 18 = .ok (.invokestatic 61, 3) by decide +kernel) kx_624 kw_jI_bitCount kg_jI_bitCount hst k
theorem ks_H_allLies_21 {d : Nat} {st : List kq_V} {μ : kq_M} {Q : Option kq_V → kq_M → Prop} {x0 x1 x2 : Option kq_V} {x y : Int32} (k : kq_S km_H_allLies d 22 [x0, x1, x2] (kq_I (x + y) :: st) μ Q) : kq_S km_H_allLies d 21 [x0, x1, x2] (kq_I y :: kq_I x :: st) μ Q := kq_iadd (show decode km_H_allLies.2.1 21 = .ok (.iadd, 1) by decide +kernel) k
theorem ks_H_allLies_22 {d : Nat} {st : List kq_V} {μ : kq_M} {Q : Option kq_V → kq_M → Prop} {x0 x1 x2 : Option kq_V} {v : Int32} (hp : kq_nj x0 = true) (k : kq_S km_H_allLies d 23 [x0, some (kq_I v), x2] (st) μ Q) : kq_S km_H_allLies d 22 [x0, x1, x2] (kq_I v :: st) μ Q := kq_istore_n 1 (show decode km_H_allLies.2.1 22 = .ok (.istore_n 1, 1) by decide +kernel) rfl (by decide) (kq_nl_of rfl hp) k
theorem ks_H_allLies_23 {d : Nat} {st : List kq_V} {μ : kq_M} {Q : Option kq_V → kq_M → Prop} {x0 x1 : Option kq_V} {v : Int32} (hp : kq_nj x1 = true) (k : kq_S km_H_allLies d 26 [x0, x1, some (kq_I (v + 1))] (st) μ Q) : kq_S km_H_allLies d 23 [x0, x1, some (kq_I v)] (st) μ Q := kq_iinc _ (show decode km_H_allLies.2.1 23 = .ok (.iinc 2 1, 3) by decide +kernel) rfl rfl (by decide) (kq_nl_of rfl hp) k
theorem ks_H_allLies_23n {d : Nat} {st : List kq_V} {μ : kq_M} {Q : Option kq_V → kq_M → Prop} {x0 x1 : Option kq_V} {v : Nat} (hp : kq_nj x1 = true) (k : kq_S km_H_allLies d 26 [x0, x1, some (kq_I (nI (v + 1)))] (st) μ Q) : kq_S km_H_allLies d 23 [x0, x1, some (kq_I (nI v))] (st) μ Q := kq_iinc _ (show decode km_H_allLies.2.1 23 = .ok (.iinc 2 1, 3) by decide +kernel) rfl (nI_1 v) (by decide) (kq_nl_of rfl hp) k
theorem ks_H_allLies_26 {d : Nat} {st : List kq_V} {μ : kq_M} {Q : Option kq_V → kq_M → Prop} {x0 x1 x2 : Option kq_V} (k : kq_S km_H_allLies d 4 [x0, x1, x2] (st) μ Q) : kq_S km_H_allLies d 26 [x0, x1, x2] (st) μ Q := kq_goto 4 (show decode km_H_allLies.2.1 26 = .ok (.goto (-22), 3) by decide +kernel) (by decide) k
theorem ks_H_allLies_29 {d : Nat} {st : List kq_V} {μ : kq_M} {Q : Option kq_V → kq_M → Prop} {x0 x2 : Option kq_V} {v : Int32} (k : kq_S km_H_allLies d 30 [x0, some (kq_I v), x2] (kq_I v :: st) μ Q) : kq_S km_H_allLies d 29 [x0, some (kq_I v), x2] (st) μ Q := kq_iload_n 1 (show decode km_H_allLies.2.1 29 = .ok (.iload_n 1, 1) by decide +kernel) rfl rfl k
theorem ks_H_allLies_30 {d : Nat} {μ : kq_M} {Q : Option kq_V → kq_M → Prop} {x0 x1 x2 : Option kq_V} {v : Int32} (k : Q (some (kq_I v)) μ) : kq_S km_H_allLies d 30 [x0, x1, x2] [kq_I v] μ Q := kq_iret (show decode km_H_allLies.2.1 30 = .ok (.ireturn, 1) by decide +kernel) rfl k
theorem ks_H_allSure_0 {d : Nat} {st : List kq_V} {μ : kq_M} {Q : Option kq_V → kq_M → Prop} {x0 x1 x2 : Option kq_V} (k : kq_S km_H_allSure d 1 [x0, x1, x2] (kq_I 0 :: st) μ Q) : kq_S km_H_allSure d 0 [x0, x1, x2] (st) μ Q := kq_iconst (v := 0) (show decode km_H_allSure.2.1 0 = .ok (.iconst 0, 1) by decide +kernel) (by decide) k
theorem ks_H_allSure_1 {d : Nat} {st : List kq_V} {μ : kq_M} {Q : Option kq_V → kq_M → Prop} {x0 x1 x2 : Option kq_V} {v : Int32} (hp : kq_nj x0 = true) (k : kq_S km_H_allSure d 2 [x0, some (kq_I v), x2] (st) μ Q) : kq_S km_H_allSure d 1 [x0, x1, x2] (kq_I v :: st) μ Q := kq_istore_n 1 (show decode km_H_allSure.2.1 1 = .ok (.istore_n 1, 1) by decide +kernel) rfl (by decide) (kq_nl_of rfl hp) k
theorem ks_H_allSure_2 {d : Nat} {st : List kq_V} {μ : kq_M} {Q : Option kq_V → kq_M → Prop} {x0 x1 x2 : Option kq_V} (k : kq_S km_H_allSure d 3 [x0, x1, x2] (kq_I 0 :: st) μ Q) : kq_S km_H_allSure d 2 [x0, x1, x2] (st) μ Q := kq_iconst (v := 0) (show decode km_H_allSure.2.1 2 = .ok (.iconst 0, 1) by decide +kernel) (by decide) k
theorem ks_H_allSure_3 {d : Nat} {st : List kq_V} {μ : kq_M} {Q : Option kq_V → kq_M → Prop} {x0 x1 x2 : Option kq_V} {v : Int32} (hp : kq_nj x1 = true) (k : kq_S km_H_allSure d 4 [x0, x1, some (kq_I v)] (st) μ Q) : kq_S km_H_allSure d 3 [x0, x1, x2] (kq_I v :: st) μ Q := kq_istore_n 2 (show decode km_H_allSure.2.1 3 = .ok (.istore_n 2, 1) by decide +kernel) rfl (by decide) (kq_nl_of rfl hp) k
theorem ks_H_allSure_4 {d : Nat} {st : List kq_V} {μ : kq_M} {Q : Option kq_V → kq_M → Prop} {x0 x1 : Option kq_V} {v : Int32} (k : kq_S km_H_allSure d 5 [x0, x1, some (kq_I v)] (kq_I v :: st) μ Q) : kq_S km_H_allSure d 4 [x0, x1, some (kq_I v)] (st) μ Q := kq_iload_n 2 (show decode km_H_allSure.2.1 4 = .ok (.iload_n 2, 1) by decide +kernel) rfl rfl k
theorem ks_H_allSure_5 {d : Nat} {st : List kq_V} {μ : kq_M} {Q : Option kq_V → kq_M → Prop} {x1 x2 : Option kq_V} {r : Nat} (k : kq_S km_H_allSure d 6 [some (kq_R r 1), x1, x2] (kq_R r 1 :: st) μ Q) : kq_S km_H_allSure d 5 [some (kq_R r 1), x1, x2] (st) μ Q := kq_aload_n 0 (show decode km_H_allSure.2.1 5 = .ok (.aload_n 0, 1) by decide +kernel) rfl rfl (by decide) k
theorem ks_H_allSure_6 {d : Nat} {st : List kq_V} {μ : kq_M} {Q : Option kq_V → kq_M → Prop} {x0 x1 x2 : Option kq_V} {r : Nat} (hok : kq_hr r = true) (k : kq_S km_H_allSure d 9 [x0, x1, x2] (kq_I (kq_rI μ r 1 6) :: st) μ Q) : kq_S km_H_allSure d 6 [x0, x1, x2] (kq_R r 1 :: st) μ Q := kq_getf 1 6 (show decode km_H_allSure.2.1 6 = .ok (.getfield 30, 3) by decide +kernel) kx_96 ⟨rfl, by decide, by decide, by decide⟩ (show (0 : Nat) ≠ 45 by decide) hok k
theorem ks_H_allSure_9 {d : Nat} {st : List kq_V} {μ : kq_M} {Q : Option kq_V → kq_M → Prop} {x0 x1 x2 : Option kq_V} {x y : Int32} (kt : y ≤ x → kq_S km_H_allSure d 27 [x0, x1, x2] st μ Q) (kf : ¬ y ≤ x → kq_S km_H_allSure d 12 [x0, x1, x2] st μ Q) : kq_S km_H_allSure d 9 [x0, x1, x2] (kq_I y :: kq_I x :: st) μ Q := kq_icmp_ge 27 (show decode km_H_allSure.2.1 9 = .ok (.if_icmp .ge 18, 3) by decide +kernel) (by decide) kt kf
theorem ks_H_allSure_12 {d : Nat} {st : List kq_V} {μ : kq_M} {Q : Option kq_V → kq_M → Prop} {x0 x2 : Option kq_V} {v : Int32} (k : kq_S km_H_allSure d 13 [x0, some (kq_I v), x2] (kq_I v :: st) μ Q) : kq_S km_H_allSure d 12 [x0, some (kq_I v), x2] (st) μ Q := kq_iload_n 1 (show decode km_H_allSure.2.1 12 = .ok (.iload_n 1, 1) by decide +kernel) rfl rfl k
theorem ks_H_allSure_13 {d : Nat} {st : List kq_V} {μ : kq_M} {Q : Option kq_V → kq_M → Prop} {x1 x2 : Option kq_V} {r : Nat} (k : kq_S km_H_allSure d 14 [some (kq_R r 1), x1, x2] (kq_R r 1 :: st) μ Q) : kq_S km_H_allSure d 13 [some (kq_R r 1), x1, x2] (st) μ Q := kq_aload_n 0 (show decode km_H_allSure.2.1 13 = .ok (.aload_n 0, 1) by decide +kernel) rfl rfl (by decide) k
theorem ks_H_allSure_14 {d : Nat} {st : List kq_V} {μ : kq_M} {Q : Option kq_V → kq_M → Prop} {x0 x1 x2 : Option kq_V} {r : Nat} (hok : kq_hr r = true) (k : kq_S km_H_allSure d 17 [x0, x1, x2] (kq_R r 5 :: st) μ Q) : kq_S km_H_allSure d 14 [x0, x1, x2] (kq_R r 1 :: st) μ Q := kq_getf 1 10 (show decode km_H_allSure.2.1 14 = .ok (.getfield 43, 3) by decide +kernel) kx_107 ⟨rfl, by decide, by decide, by decide⟩ (show (5 : Nat) ≠ 45 by decide) hok k
theorem ks_H_allSure_17 {d : Nat} {st : List kq_V} {μ : kq_M} {Q : Option kq_V → kq_M → Prop} {x0 x1 : Option kq_V} {v : Int32} (k : kq_S km_H_allSure d 18 [x0, x1, some (kq_I v)] (kq_I v :: st) μ Q) : kq_S km_H_allSure d 17 [x0, x1, some (kq_I v)] (st) μ Q := kq_iload_n 2 (show decode km_H_allSure.2.1 17 = .ok (.iload_n 2, 1) by decide +kernel) rfl rfl k
theorem ks_H_allSure_18 {d : Nat} {st : List kq_V} {μ : kq_M} {Q : Option kq_V → kq_M → Prop} {x0 x1 x2 : Option kq_V} {x : Int32} {r : Nat} (j : Nat) (hok : kq_hr r = true) (hx : x = nI j) (hj : j < 8) (k : kq_S km_H_allSure d 19 [x0, x1, x2] (kq_I (kq_rI μ r 5 j) :: st) μ Q) : kq_S km_H_allSure d 18 [x0, x1, x2] (kq_I x :: kq_R r 5 :: st) μ Q := kq_iald 5 j (show decode km_H_allSure.2.1 18 = .ok (.iaload, 1) by decide +kernel) ⟨rfl, by decide⟩ hok hx hj k
theorem ks_H_allSure_18n {d : Nat} {st : List kq_V} {μ : kq_M} {Q : Option kq_V → kq_M → Prop} {x0 x1 x2 : Option kq_V} {r : Nat} {j : Nat} (hok : kq_hr r = true) (hj : j < 8) (k : kq_S km_H_allSure d 19 [x0, x1, x2] (kq_I (kq_rI μ r 5 j) :: st) μ Q) : kq_S km_H_allSure d 18 [x0, x1, x2] (kq_I (nI j) :: kq_R r 5 :: st) μ Q := kq_iald 5 j (show decode km_H_allSure.2.1 18 = .ok (.iaload, 1) by decide +kernel) ⟨rfl, by decide⟩ hok rfl hj k
theorem ks_H_allSure_19 {d : Nat} {st : List kq_V} {μ : kq_M} {Q : Option kq_V → kq_M → Prop} {x0 x1 x2 : Option kq_V} {x y : Int32} (k : kq_S km_H_allSure d 20 [x0, x1, x2] (kq_I (x + y) :: st) μ Q) : kq_S km_H_allSure d 19 [x0, x1, x2] (kq_I y :: kq_I x :: st) μ Q := kq_iadd (show decode km_H_allSure.2.1 19 = .ok (.iadd, 1) by decide +kernel) k
theorem ks_H_allSure_20 {d : Nat} {st : List kq_V} {μ : kq_M} {Q : Option kq_V → kq_M → Prop} {x0 x1 x2 : Option kq_V} {v : Int32} (hp : kq_nj x0 = true) (k : kq_S km_H_allSure d 21 [x0, some (kq_I v), x2] (st) μ Q) : kq_S km_H_allSure d 20 [x0, x1, x2] (kq_I v :: st) μ Q := kq_istore_n 1 (show decode km_H_allSure.2.1 20 = .ok (.istore_n 1, 1) by decide +kernel) rfl (by decide) (kq_nl_of rfl hp) k
theorem ks_H_allSure_21 {d : Nat} {st : List kq_V} {μ : kq_M} {Q : Option kq_V → kq_M → Prop} {x0 x1 : Option kq_V} {v : Int32} (hp : kq_nj x1 = true) (k : kq_S km_H_allSure d 24 [x0, x1, some (kq_I (v + 1))] (st) μ Q) : kq_S km_H_allSure d 21 [x0, x1, some (kq_I v)] (st) μ Q := kq_iinc _ (show decode km_H_allSure.2.1 21 = .ok (.iinc 2 1, 3) by decide +kernel) rfl rfl (by decide) (kq_nl_of rfl hp) k
theorem ks_H_allSure_21n {d : Nat} {st : List kq_V} {μ : kq_M} {Q : Option kq_V → kq_M → Prop} {x0 x1 : Option kq_V} {v : Nat} (hp : kq_nj x1 = true) (k : kq_S km_H_allSure d 24 [x0, x1, some (kq_I (nI (v + 1)))] (st) μ Q) : kq_S km_H_allSure d 21 [x0, x1, some (kq_I (nI v))] (st) μ Q := kq_iinc _ (show decode km_H_allSure.2.1 21 = .ok (.iinc 2 1, 3) by decide +kernel) rfl (nI_1 v) (by decide) (kq_nl_of rfl hp) k
theorem ks_H_allSure_24 {d : Nat} {st : List kq_V} {μ : kq_M} {Q : Option kq_V → kq_M → Prop} {x0 x1 x2 : Option kq_V} (k : kq_S km_H_allSure d 4 [x0, x1, x2] (st) μ Q) : kq_S km_H_allSure d 24 [x0, x1, x2] (st) μ Q := kq_goto 4 (show decode km_H_allSure.2.1 24 = .ok (.goto (-20), 3) by decide +kernel) (by decide) k
theorem ks_H_allSure_27 {d : Nat} {st : List kq_V} {μ : kq_M} {Q : Option kq_V → kq_M → Prop} {x0 x2 : Option kq_V} {v : Int32} (k : kq_S km_H_allSure d 28 [x0, some (kq_I v), x2] (kq_I v :: st) μ Q) : kq_S km_H_allSure d 27 [x0, some (kq_I v), x2] (st) μ Q := kq_iload_n 1 (show decode km_H_allSure.2.1 27 = .ok (.iload_n 1, 1) by decide +kernel) rfl rfl k
theorem ks_H_allSure_28 {d : Nat} {μ : kq_M} {Q : Option kq_V → kq_M → Prop} {x0 x1 x2 : Option kq_V} {v : Int32} (k : Q (some (kq_I v)) μ) : kq_S km_H_allSure d 28 [x0, x1, x2] [kq_I v] μ Q := kq_iret (show decode km_H_allSure.2.1 28 = .ok (.ireturn, 1) by decide +kernel) rfl k
end

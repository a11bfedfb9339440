section
-- ===== PART A: goes FIRST, ahead of the names: the tables' words, and 'selects' of the private methods out of them =====
/-- a private method of a class that the tables say can be made, by its rows of tables_1 -/
def lw_okq (q : MethodName × Nat) : Prop := (q.1.cls ≠ "java/lang/invoke/MethodHandle" ∧ q.1.cls ≠ "java/lang/invoke/VarHandle") ∧ Cond.instantiable q.1.cls q.2 ∈ tables_1 ∧ Cond.privateMethod q.1 ∈ tables_1 ∧ Cond.instanceMethod q.1 ∈ tables_1
theorem lw_p0 : lw_okq (⟨"KettleInquest", "finding", "(I)I"⟩, 7) := ⟨⟨by decide +kernel, by decide +kernel⟩, List.mem_of_getElem? (i := 14) (by decide +kernel), List.mem_of_getElem? (i := 161) (by decide +kernel), List.mem_of_getElem? (i := 162) (by decide +kernel)⟩
theorem lw_p1 : lw_okq (⟨"KettleInquest", "isWitness", "(I)Z"⟩, 7) := ⟨⟨by decide +kernel, by decide +kernel⟩, List.mem_of_getElem? (i := 14) (by decide +kernel), List.mem_of_getElem? (i := 188) (by decide +kernel), List.mem_of_getElem? (i := 189) (by decide +kernel)⟩
theorem lw_p2 : lw_okq (⟨"KettleInquest$Hall", "plumberHeat", "(II)I"⟩, 11) := ⟨⟨by decide +kernel, by decide +kernel⟩, List.mem_of_getElem? (i := 22) (by decide +kernel), List.mem_of_getElem? (i := 239) (by decide +kernel), List.mem_of_getElem? (i := 240) (by decide +kernel)⟩
theorem lw_p3 : lw_okq (⟨"KettleInquest$Hall", "witnessHeat", "(II)I"⟩, 11) := ⟨⟨by decide +kernel, by decide +kernel⟩, List.mem_of_getElem? (i := 22) (by decide +kernel), List.mem_of_getElem? (i := 247) (by decide +kernel), List.mem_of_getElem? (i := 248) (by decide +kernel)⟩
theorem lw_p4 : lw_okq (⟨"KettleInquest$Hall", "wifeHeat", "(II)I"⟩, 11) := ⟨⟨by decide +kernel, by decide +kernel⟩, List.mem_of_getElem? (i := 22) (by decide +kernel), List.mem_of_getElem? (i := 252) (by decide +kernel), List.mem_of_getElem? (i := 253) (by decide +kernel)⟩
theorem lw_p5 : lw_okq (⟨"KettleInquest$Hall", "anotherPlumberLies", "(II)Z"⟩, 11) := ⟨⟨by decide +kernel, by decide +kernel⟩, List.mem_of_getElem? (i := 22) (by decide +kernel), List.mem_of_getElem? (i := 256) (by decide +kernel), List.mem_of_getElem? (i := 257) (by decide +kernel)⟩
theorem lw_p6 : lw_okq (⟨"KettleInquest$Hall", "learnsBy", "(IIZ)Z"⟩, 11) := ⟨⟨by decide +kernel, by decide +kernel⟩, List.mem_of_getElem? (i := 22) (by decide +kernel), List.mem_of_getElem? (i := 278) (by decide +kernel), List.mem_of_getElem? (i := 279) (by decide +kernel)⟩
theorem lw_p7 : lw_okq (⟨"KettleInquest$Clerk", "nextToken", "()V"⟩, 7) := ⟨⟨by decide +kernel, by decide +kernel⟩, List.mem_of_getElem? (i := 80) (by decide +kernel), List.mem_of_getElem? (i := 390) (by decide +kernel), List.mem_of_getElem? (i := 391) (by decide +kernel)⟩
theorem lw_p8 : lw_okq (⟨"KettleInquest$Clerk", "endOfRun", "(CC)I"⟩, 7) := ⟨⟨by decide +kernel, by decide +kernel⟩, List.mem_of_getElem? (i := 80) (by decide +kernel), List.mem_of_getElem? (i := 394) (by decide +kernel), List.mem_of_getElem? (i := 395) (by decide +kernel)⟩
theorem lw_p9 : lw_okq (⟨"KettleInquest$Clerk", "numberThere", "()I"⟩, 7) := ⟨⟨by decide +kernel, by decide +kernel⟩, List.mem_of_getElem? (i := 80) (by decide +kernel), List.mem_of_getElem? (i := 398) (by decide +kernel), List.mem_of_getElem? (i := 399) (by decide +kernel)⟩
theorem lw_p10 : lw_okq (⟨"KettleInquest$Clerk", "takeItem", "(LKettleInquest$Hall;)Z"⟩, 7) := ⟨⟨by decide +kernel, by decide +kernel⟩, List.mem_of_getElem? (i := 80) (by decide +kernel), List.mem_of_getElem? (i := 402) (by decide +kernel), List.mem_of_getElem? (i := 403) (by decide +kernel)⟩
theorem lw_p11 : lw_okq (⟨"KettleInquest$Clerk", "kindNamed", "()I"⟩, 7) := ⟨⟨by decide +kernel, by decide +kernel⟩, List.mem_of_getElem? (i := 80) (by decide +kernel), List.mem_of_getElem? (i := 406) (by decide +kernel), List.mem_of_getElem? (i := 407) (by decide +kernel)⟩
theorem lw_p12 : lw_okq (⟨"KettleInquest$Clerk", "isWord", "(Ljava/lang/String;)Z"⟩, 7) := ⟨⟨by decide +kernel, by decide +kernel⟩, List.mem_of_getElem? (i := 80) (by decide +kernel), List.mem_of_getElem? (i := 419) (by decide +kernel), List.mem_of_getElem? (i := 420) (by decide +kernel)⟩
theorem lw_p13 : lw_okq (⟨"KettleInquest$Clerk", "takeWitness", "(LKettleInquest$Hall;I)Z"⟩, 7) := ⟨⟨by decide +kernel, by decide +kernel⟩, List.mem_of_getElem? (i := 80) (by decide +kernel), List.mem_of_getElem? (i := 471) (by decide +kernel), List.mem_of_getElem? (i := 472) (by decide +kernel)⟩
theorem lw_p14 : lw_okq (⟨"KettleInquest$Clerk", "isNumberUpTo", "(I)Z"⟩, 7) := ⟨⟨by decide +kernel, by decide +kernel⟩, List.mem_of_getElem? (i := 80) (by decide +kernel), List.mem_of_getElem? (i := 477) (by decide +kernel), List.mem_of_getElem? (i := 478) (by decide +kernel)⟩
theorem lw_p15 : lw_okq (⟨"KettleInquest$Clerk", "takeFacts", "()Z"⟩, 7) := ⟨⟨by decide +kernel, by decide +kernel⟩, List.mem_of_getElem? (i := 80) (by decide +kernel), List.mem_of_getElem? (i := 482) (by decide +kernel), List.mem_of_getElem? (i := 483) (by decide +kernel)⟩
def lw_privs_1 : List (MethodName × Nat) := [(⟨"KettleInquest", "finding", "(I)I"⟩, 7), (⟨"KettleInquest", "isWitness", "(I)Z"⟩, 7), (⟨"KettleInquest$Hall", "plumberHeat", "(II)I"⟩, 11), (⟨"KettleInquest$Hall", "witnessHeat", "(II)I"⟩, 11), (⟨"KettleInquest$Hall", "wifeHeat", "(II)I"⟩, 11), (⟨"KettleInquest$Hall", "anotherPlumberLies", "(II)Z"⟩, 11), (⟨"KettleInquest$Hall", "learnsBy", "(IIZ)Z"⟩, 11), (⟨"KettleInquest$Clerk", "nextToken", "()V"⟩, 7), (⟨"KettleInquest$Clerk", "endOfRun", "(CC)I"⟩, 7), (⟨"KettleInquest$Clerk", "numberThere", "()I"⟩, 7), (⟨"KettleInquest$Clerk", "takeItem", "(LKettleInquest$Hall;)Z"⟩, 7), (⟨"KettleInquest$Clerk", "kindNamed", "()I"⟩, 7), (⟨"KettleInquest$Clerk", "isWord", "(Ljava/lang/String;)Z"⟩, 7), (⟨"KettleInquest$Clerk", "takeWitness", "(LKettleInquest$Hall;I)Z"⟩, 7), (⟨"KettleInquest$Clerk", "isNumberUpTo", "(I)Z"⟩, 7), (⟨"KettleInquest$Clerk", "takeFacts", "()Z"⟩, 7)]
theorem lw_r1 : ∀ q ∈ lw_privs_1, lw_okq q := List.forall_mem_cons.mpr ⟨lw_p0, List.forall_mem_cons.mpr ⟨lw_p1, List.forall_mem_cons.mpr ⟨lw_p2, List.forall_mem_cons.mpr ⟨lw_p3, List.forall_mem_cons.mpr ⟨lw_p4, List.forall_mem_cons.mpr ⟨lw_p5, List.forall_mem_cons.mpr ⟨lw_p6, List.forall_mem_cons.mpr ⟨lw_p7, List.forall_mem_cons.mpr ⟨lw_p8, List.forall_mem_cons.mpr ⟨lw_p9, List.forall_mem_cons.mpr ⟨lw_p10, List.forall_mem_cons.mpr ⟨lw_p11, List.forall_mem_cons.mpr ⟨lw_p12, List.forall_mem_cons.mpr ⟨lw_p13, List.forall_mem_cons.mpr ⟨lw_p14, List.forall_mem_cons.mpr ⟨lw_p15, fun _ h => absurd h List.not_mem_nil⟩⟩⟩⟩⟩⟩⟩⟩⟩⟩⟩⟩⟩⟩⟩⟩
theorem lw_p16 : lw_okq (⟨"KettleInquest$Clerk", "takeTruth", "(LKettleInquest$Hall;Z)Z"⟩, 7) := ⟨⟨by decide +kernel, by decide +kernel⟩, List.mem_of_getElem? (i := 80) (by decide +kernel), List.mem_of_getElem? (i := 488) (by decide +kernel), List.mem_of_getElem? (i := 489) (by decide +kernel)⟩
theorem lw_p17 : lw_okq (⟨"KettleInquest$Clerk", "takeWater", "(LKettleInquest$Hall;)Z"⟩, 7) := ⟨⟨by decide +kernel, by decide +kernel⟩, List.mem_of_getElem? (i := 80) (by decide +kernel), List.mem_of_getElem? (i := 494) (by decide +kernel), List.mem_of_getElem? (i := 495) (by decide +kernel)⟩
theorem lw_p18 : lw_okq (⟨"KettleInquestModel", "becomes", "(II)I"⟩, 20) := ⟨⟨by decide +kernel, by decide +kernel⟩, List.mem_of_getElem? (i := 584) (by decide +kernel), List.mem_of_getElem? (i := 658) (by decide +kernel), List.mem_of_getElem? (i := 659) (by decide +kernel)⟩
theorem lw_p19 : lw_okq (⟨"KettleInquestModel", "finds", "(I)I"⟩, 20) := ⟨⟨by decide +kernel, by decide +kernel⟩, List.mem_of_getElem? (i := 584) (by decide +kernel), List.mem_of_getElem? (i := 663) (by decide +kernel), List.mem_of_getElem? (i := 664) (by decide +kernel)⟩
theorem lw_p20 : lw_okq (⟨"KettleInquestModel", "adds", "(IIII)V"⟩, 20) := ⟨⟨by decide +kernel, by decide +kernel⟩, List.mem_of_getElem? (i := 584) (by decide +kernel), List.mem_of_getElem? (i := 679) (by decide +kernel), List.mem_of_getElem? (i := 680) (by decide +kernel)⟩
theorem lw_p21 : lw_okq (⟨"KettleInquestModel", "puts", "(III)V"⟩, 20) := ⟨⟨by decide +kernel, by decide +kernel⟩, List.mem_of_getElem? (i := 584) (by decide +kernel), List.mem_of_getElem? (i := 683) (by decide +kernel), List.mem_of_getElem? (i := 684) (by decide +kernel)⟩
theorem lw_p22 : lw_okq (⟨"KettleInquestModel", "isOne", "(I)Z"⟩, 20) := ⟨⟨by decide +kernel, by decide +kernel⟩, List.mem_of_getElem? (i := 584) (by decide +kernel), List.mem_of_getElem? (i := 691) (by decide +kernel), List.mem_of_getElem? (i := 692) (by decide +kernel)⟩
theorem lw_p23 : lw_okq (⟨"KettleInquestModel", "lies", "(I)I"⟩, 20) := ⟨⟨by decide +kernel, by decide +kernel⟩, List.mem_of_getElem? (i := 584) (by decide +kernel), List.mem_of_getElem? (i := 695) (by decide +kernel), List.mem_of_getElem? (i := 696) (by decide +kernel)⟩
theorem lw_p24 : lw_okq (⟨"KettleInquestModel", "its", "(II)I"⟩, 20) := ⟨⟨by decide +kernel, by decide +kernel⟩, List.mem_of_getElem? (i := 584) (by decide +kernel), List.mem_of_getElem? (i := 699) (by decide +kernel), List.mem_of_getElem? (i := 700) (by decide +kernel)⟩
theorem lw_p25 : lw_okq (⟨"KettleInquestModel", "right", "(I)I"⟩, 20) := ⟨⟨by decide +kernel, by decide +kernel⟩, List.mem_of_getElem? (i := 584) (by decide +kernel), List.mem_of_getElem? (i := 703) (by decide +kernel), List.mem_of_getElem? (i := 704) (by decide +kernel)⟩
theorem lw_p26 : lw_okq (⟨"KettleInquestModel", "lucky", "(I)I"⟩, 20) := ⟨⟨by decide +kernel, by decide +kernel⟩, List.mem_of_getElem? (i := 584) (by decide +kernel), List.mem_of_getElem? (i := 707) (by decide +kernel), List.mem_of_getElem? (i := 708) (by decide +kernel)⟩
theorem lw_p27 : lw_okq (⟨"KettleInquestModel", "wrong", "(I)I"⟩, 20) := ⟨⟨by decide +kernel, by decide +kernel⟩, List.mem_of_getElem? (i := 584) (by decide +kernel), List.mem_of_getElem? (i := 711) (by decide +kernel), List.mem_of_getElem? (i := 712) (by decide +kernel)⟩
theorem lw_p28 : lw_okq (⟨"KettleInquestModel", "doubting", "(I)I"⟩, 20) := ⟨⟨by decide +kernel, by decide +kernel⟩, List.mem_of_getElem? (i := 584) (by decide +kernel), List.mem_of_getElem? (i := 715) (by decide +kernel), List.mem_of_getElem? (i := 716) (by decide +kernel)⟩
theorem lw_p29 : lw_okq (⟨"KettleInquestModel", "heating", "(II)I"⟩, 20) := ⟨⟨by decide +kernel, by decide +kernel⟩, List.mem_of_getElem? (i := 584) (by decide +kernel), List.mem_of_getElem? (i := 739) (by decide +kernel), List.mem_of_getElem? (i := 740) (by decide +kernel)⟩
theorem lw_p30 : lw_okq (⟨"KettleInquestModel", "besideLiar", "(II)Z"⟩, 20) := ⟨⟨by decide +kernel, by decide +kernel⟩, List.mem_of_getElem? (i := 584) (by decide +kernel), List.mem_of_getElem? (i := 743) (by decide +kernel), List.mem_of_getElem? (i := 744) (by decide +kernel)⟩
theorem lw_p31 : lw_okq (⟨"KettleInquestModel", "isPlumber", "(I)Z"⟩, 20) := ⟨⟨by decide +kernel, by decide +kernel⟩, List.mem_of_getElem? (i := 584) (by decide +kernel), List.mem_of_getElem? (i := 747) (by decide +kernel), List.mem_of_getElem? (i := 748) (by decide +kernel)⟩
def lw_privs_2 : List (MethodName × Nat) := [(⟨"KettleInquest$Clerk", "takeTruth", "(LKettleInquest$Hall;Z)Z"⟩, 7), (⟨"KettleInquest$Clerk", "takeWater", "(LKettleInquest$Hall;)Z"⟩, 7), (⟨"KettleInquestModel", "becomes", "(II)I"⟩, 20), (⟨"KettleInquestModel", "finds", "(I)I"⟩, 20), (⟨"KettleInquestModel", "adds", "(IIII)V"⟩, 20), (⟨"KettleInquestModel", "puts", "(III)V"⟩, 20), (⟨"KettleInquestModel", "isOne", "(I)Z"⟩, 20), (⟨"KettleInquestModel", "lies", "(I)I"⟩, 20), (⟨"KettleInquestModel", "its", "(II)I"⟩, 20), (⟨"KettleInquestModel", "right", "(I)I"⟩, 20), (⟨"KettleInquestModel", "lucky", "(I)I"⟩, 20), (⟨"KettleInquestModel", "wrong", "(I)I"⟩, 20), (⟨"KettleInquestModel", "doubting", "(I)I"⟩, 20), (⟨"KettleInquestModel", "heating", "(II)I"⟩, 20), (⟨"KettleInquestModel", "besideLiar", "(II)Z"⟩, 20), (⟨"KettleInquestModel", "isPlumber", "(I)Z"⟩, 20)]
theorem lw_r2 : ∀ q ∈ lw_privs_2, lw_okq q := List.forall_mem_cons.mpr ⟨lw_p16, List.forall_mem_cons.mpr ⟨lw_p17, List.forall_mem_cons.mpr ⟨lw_p18, List.forall_mem_cons.mpr ⟨lw_p19, List.forall_mem_cons.mpr ⟨lw_p20, List.forall_mem_cons.mpr ⟨lw_p21, List.forall_mem_cons.mpr ⟨lw_p22, List.forall_mem_cons.mpr ⟨lw_p23, List.forall_mem_cons.mpr ⟨lw_p24, List.forall_mem_cons.mpr ⟨lw_p25, List.forall_mem_cons.mpr ⟨lw_p26, List.forall_mem_cons.mpr ⟨lw_p27, List.forall_mem_cons.mpr ⟨lw_p28, List.forall_mem_cons.mpr ⟨lw_p29, List.forall_mem_cons.mpr ⟨lw_p30, List.forall_mem_cons.mpr ⟨lw_p31, fun _ h => absurd h List.not_mem_nil⟩⟩⟩⟩⟩⟩⟩⟩⟩⟩⟩⟩⟩⟩⟩⟩
theorem lw_p32 : lw_okq (⟨"KettleInquestModel", "answers", "(II)V"⟩, 20) := ⟨⟨by decide +kernel, by decide +kernel⟩, List.mem_of_getElem? (i := 584) (by decide +kernel), List.mem_of_getElem? (i := 755) (by decide +kernel), List.mem_of_getElem? (i := 756) (by decide +kernel)⟩
theorem lw_p33 : lw_okq (⟨"KettleInquestModel", "swaps", "(II)V"⟩, 20) := ⟨⟨by decide +kernel, by decide +kernel⟩, List.mem_of_getElem? (i := 584) (by decide +kernel), List.mem_of_getElem? (i := 766) (by decide +kernel), List.mem_of_getElem? (i := 767) (by decide +kernel)⟩
theorem lw_p34 : lw_okq (⟨"KettleInquestModel", "passes", "(I)V"⟩, 20) := ⟨⟨by decide +kernel, by decide +kernel⟩, List.mem_of_getElem? (i := 584) (by decide +kernel), List.mem_of_getElem? (i := 776) (by decide +kernel), List.mem_of_getElem? (i := 777) (by decide +kernel)⟩
theorem lw_p35 : lw_okq (⟨"KettleInquestModel", "oneMinute", "()V"⟩, 20) := ⟨⟨by decide +kernel, by decide +kernel⟩, List.mem_of_getElem? (i := 584) (by decide +kernel), List.mem_of_getElem? (i := 780) (by decide +kernel), List.mem_of_getElem? (i := 781) (by decide +kernel)⟩
theorem lw_p36 : lw_okq (⟨"KettleInquestModel", "whose", "()I"⟩, 20) := ⟨⟨by decide +kernel, by decide +kernel⟩, List.mem_of_getElem? (i := 584) (by decide +kernel), List.mem_of_getElem? (i := 784) (by decide +kernel), List.mem_of_getElem? (i := 785) (by decide +kernel)⟩
theorem lw_p37 : lw_okq (⟨"KettleInquestModel", "asked", "()I"⟩, 20) := ⟨⟨by decide +kernel, by decide +kernel⟩, List.mem_of_getElem? (i := 584) (by decide +kernel), List.mem_of_getElem? (i := 788) (by decide +kernel), List.mem_of_getElem? (i := 789) (by decide +kernel)⟩
theorem lw_p38 : lw_okq (⟨"KettleInquestModel", "moveAll", "(Z[I)V"⟩, 20) := ⟨⟨by decide +kernel, by decide +kernel⟩, List.mem_of_getElem? (i := 584) (by decide +kernel), List.mem_of_getElem? (i := 800) (by decide +kernel), List.mem_of_getElem? (i := 801) (by decide +kernel)⟩
theorem lw_p39 : lw_okq (⟨"KettleInquestModel", "teaBehind", "(I)I"⟩, 20) := ⟨⟨by decide +kernel, by decide +kernel⟩, List.mem_of_getElem? (i := 584) (by decide +kernel), List.mem_of_getElem? (i := 825) (by decide +kernel), List.mem_of_getElem? (i := 826) (by decide +kernel)⟩
theorem lw_p40 : lw_okq (⟨"KettleInquestModel", "advance", "()V"⟩, 20) := ⟨⟨by decide +kernel, by decide +kernel⟩, List.mem_of_getElem? (i := 584) (by decide +kernel), List.mem_of_getElem? (i := 861) (by decide +kernel), List.mem_of_getElem? (i := 862) (by decide +kernel)⟩
theorem lw_p41 : lw_okq (⟨"KettleInquestModel", "byteAt", "(I)I"⟩, 20) := ⟨⟨by decide +kernel, by decide +kernel⟩, List.mem_of_getElem? (i := 584) (by decide +kernel), List.mem_of_getElem? (i := 865) (by decide +kernel), List.mem_of_getElem? (i := 866) (by decide +kernel)⟩
theorem lw_p42 : lw_okq (⟨"KettleInquestModel", "wantItem", "()V"⟩, 20) := ⟨⟨by decide +kernel, by decide +kernel⟩, List.mem_of_getElem? (i := 584) (by decide +kernel), List.mem_of_getElem? (i := 878) (by decide +kernel), List.mem_of_getElem? (i := 879) (by decide +kernel)⟩
theorem lw_p43 : lw_okq (⟨"KettleInquestModel", "kindHere", "()I"⟩, 20) := ⟨⟨by decide +kernel, by decide +kernel⟩, List.mem_of_getElem? (i := 584) (by decide +kernel), List.mem_of_getElem? (i := 882) (by decide +kernel), List.mem_of_getElem? (i := 883) (by decide +kernel)⟩
theorem lw_p44 : lw_okq (⟨"KettleInquestModel", "isWord", "(J)Z"⟩, 20) := ⟨⟨by decide +kernel, by decide +kernel⟩, List.mem_of_getElem? (i := 584) (by decide +kernel), List.mem_of_getElem? (i := 887) (by decide +kernel), List.mem_of_getElem? (i := 888) (by decide +kernel)⟩
theorem lw_p45 : lw_okq (⟨"KettleInquestModel", "wantOne", "(I)V"⟩, 20) := ⟨⟨by decide +kernel, by decide +kernel⟩, List.mem_of_getElem? (i := 584) (by decide +kernel), List.mem_of_getElem? (i := 896) (by decide +kernel), List.mem_of_getElem? (i := 897) (by decide +kernel)⟩
theorem lw_p46 : lw_okq (⟨"KettleInquestModel", "mayWant", "(JIII)I"⟩, 20) := ⟨⟨by decide +kernel, by decide +kernel⟩, List.mem_of_getElem? (i := 584) (by decide +kernel), List.mem_of_getElem? (i := 901) (by decide +kernel), List.mem_of_getElem? (i := 902) (by decide +kernel)⟩
theorem lw_p47 : lw_okq (⟨"KettleInquestModel", "wantNumber", "(II)I"⟩, 20) := ⟨⟨by decide +kernel, by decide +kernel⟩, List.mem_of_getElem? (i := 584) (by decide +kernel), List.mem_of_getElem? (i := 905) (by decide +kernel), List.mem_of_getElem? (i := 906) (by decide +kernel)⟩
def lw_privs_3 : List (MethodName × Nat) := [(⟨"KettleInquestModel", "answers", "(II)V"⟩, 20), (⟨"KettleInquestModel", "swaps", "(II)V"⟩, 20), (⟨"KettleInquestModel", "passes", "(I)V"⟩, 20), (⟨"KettleInquestModel", "oneMinute", "()V"⟩, 20), (⟨"KettleInquestModel", "whose", "()I"⟩, 20), (⟨"KettleInquestModel", "asked", "()I"⟩, 20), (⟨"KettleInquestModel", "moveAll", "(Z[I)V"⟩, 20), (⟨"KettleInquestModel", "teaBehind", "(I)I"⟩, 20), (⟨"KettleInquestModel", "advance", "()V"⟩, 20), (⟨"KettleInquestModel", "byteAt", "(I)I"⟩, 20), (⟨"KettleInquestModel", "wantItem", "()V"⟩, 20), (⟨"KettleInquestModel", "kindHere", "()I"⟩, 20), (⟨"KettleInquestModel", "isWord", "(J)Z"⟩, 20), (⟨"KettleInquestModel", "wantOne", "(I)V"⟩, 20), (⟨"KettleInquestModel", "mayWant", "(JIII)I"⟩, 20), (⟨"KettleInquestModel", "wantNumber", "(II)I"⟩, 20)]
theorem lw_r3 : ∀ q ∈ lw_privs_3, lw_okq q := List.forall_mem_cons.mpr ⟨lw_p32, List.forall_mem_cons.mpr ⟨lw_p33, List.forall_mem_cons.mpr ⟨lw_p34, List.forall_mem_cons.mpr ⟨lw_p35, List.forall_mem_cons.mpr ⟨lw_p36, List.forall_mem_cons.mpr ⟨lw_p37, List.forall_mem_cons.mpr ⟨lw_p38, List.forall_mem_cons.mpr ⟨lw_p39, List.forall_mem_cons.mpr ⟨lw_p40, List.forall_mem_cons.mpr ⟨lw_p41, List.forall_mem_cons.mpr ⟨lw_p42, List.forall_mem_cons.mpr ⟨lw_p43, List.forall_mem_cons.mpr ⟨lw_p44, List.forall_mem_cons.mpr ⟨lw_p45, List.forall_mem_cons.mpr ⟨lw_p46, List.forall_mem_cons.mpr ⟨lw_p47, fun _ h => absurd h List.not_mem_nil⟩⟩⟩⟩⟩⟩⟩⟩⟩⟩⟩⟩⟩⟩⟩⟩
theorem lw_p48 : lw_okq (⟨"KettleInquestModel", "mayFacts", "(J)I"⟩, 20) := ⟨⟨by decide +kernel, by decide +kernel⟩, List.mem_of_getElem? (i := 584) (by decide +kernel), List.mem_of_getElem? (i := 910) (by decide +kernel), List.mem_of_getElem? (i := 911) (by decide +kernel)⟩
theorem lw_p49 : lw_okq (⟨"KettleInquestModel", "wantTruth", "(Z)V"⟩, 20) := ⟨⟨by decide +kernel, by decide +kernel⟩, List.mem_of_getElem? (i := 584) (by decide +kernel), List.mem_of_getElem? (i := 916) (by decide +kernel), List.mem_of_getElem? (i := 917) (by decide +kernel)⟩
theorem lw_p50 : lw_okq (⟨"KettleInquestModel", "isPart", "(III)Z"⟩, 20) := ⟨⟨by decide +kernel, by decide +kernel⟩, List.mem_of_getElem? (i := 584) (by decide +kernel), List.mem_of_getElem? (i := 942) (by decide +kernel), List.mem_of_getElem? (i := 943) (by decide +kernel)⟩
theorem lw_p51 : lw_okq (⟨"KettleInquestModel", "badSheet", "(I)I"⟩, 20) := ⟨⟨by decide +kernel, by decide +kernel⟩, List.mem_of_getElem? (i := 584) (by decide +kernel), List.mem_of_getElem? (i := 950) (by decide +kernel), List.mem_of_getElem? (i := 951) (by decide +kernel)⟩
theorem lw_p52 : lw_okq (⟨"KettleInquestModel", "isSo", "(I)Z"⟩, 20) := ⟨⟨by decide +kernel, by decide +kernel⟩, List.mem_of_getElem? (i := 584) (by decide +kernel), List.mem_of_getElem? (i := 963) (by decide +kernel), List.mem_of_getElem? (i := 964) (by decide +kernel)⟩
theorem lw_p53 : lw_okq (⟨"KettleInquestModel", "liesOfAll", "()I"⟩, 20) := ⟨⟨by decide +kernel, by decide +kernel⟩, List.mem_of_getElem? (i := 584) (by decide +kernel), List.mem_of_getElem? (i := 983) (by decide +kernel), List.mem_of_getElem? (i := 984) (by decide +kernel)⟩
theorem lw_p54 : lw_okq (⟨"KettleInquestModel", "sureOfAll", "()I"⟩, 20) := ⟨⟨by decide +kernel, by decide +kernel⟩, List.mem_of_getElem? (i := 584) (by decide +kernel), List.mem_of_getElem? (i := 990) (by decide +kernel), List.mem_of_getElem? (i := 991) (by decide +kernel)⟩
def lw_privs_4 : List (MethodName × Nat) := [(⟨"KettleInquestModel", "mayFacts", "(J)I"⟩, 20), (⟨"KettleInquestModel", "wantTruth", "(Z)V"⟩, 20), (⟨"KettleInquestModel", "isPart", "(III)Z"⟩, 20), (⟨"KettleInquestModel", "badSheet", "(I)I"⟩, 20), (⟨"KettleInquestModel", "isSo", "(I)Z"⟩, 20), (⟨"KettleInquestModel", "liesOfAll", "()I"⟩, 20), (⟨"KettleInquestModel", "sureOfAll", "()I"⟩, 20)]
theorem lw_r4 : ∀ q ∈ lw_privs_4, lw_okq q := List.forall_mem_cons.mpr ⟨lw_p48, List.forall_mem_cons.mpr ⟨lw_p49, List.forall_mem_cons.mpr ⟨lw_p50, List.forall_mem_cons.mpr ⟨lw_p51, List.forall_mem_cons.mpr ⟨lw_p52, List.forall_mem_cons.mpr ⟨lw_p53, List.forall_mem_cons.mpr ⟨lw_p54, fun _ h => absurd h List.not_mem_nil⟩⟩⟩⟩⟩⟩⟩
def lw_privs : List (MethodName × Nat) := lw_privs_1 ++ (lw_privs_2 ++ (lw_privs_3 ++ (lw_privs_4)))
def lw_tbl : List Cond := k2_sels lw_privs ++ tables_1
theorem lw_privs_ok : ∀ q ∈ lw_privs, lw_okq q := by
  show ∀ q ∈ lw_privs_1 ++ (lw_privs_2 ++ (lw_privs_3 ++ (lw_privs_4))), lw_okq q
  exact List.forall_mem_append.mpr ⟨lw_r1, List.forall_mem_append.mpr ⟨lw_r2, List.forall_mem_append.mpr ⟨lw_r3, lw_r4⟩⟩⟩
end
section
/-! NAMES, by program: fields, methods, the words of the tables that hold in every warmed state -/
def kq_tbl : List Cond := lw_tbl.filter goodWord
theorem kq_in_of {w : Cond} {n : Nat} (h : lw_tbl[n]? = some w) (hg : goodWord w = true) : w ∈ kq_tbl := List.mem_filter.mpr ⟨List.mem_of_getElem? h, hg⟩
theorem kq_good : ∀ w ∈ kq_tbl, (w.onTables && w.keeps) = true ∨ ∃ ty, w = .arrayClass ty := fun w h => good_of_word (List.mem_filter.mp h).2
def kq_F0 : u_T := fun k => match k with
  | 0 => ("KettleInquest", "hall", "LKettleInquest$Hall;", true)
  | 1 => ("KettleInquest", "trial", "LKettleInquest$Hall;", true)
  | 2 => ("KettleInquest", "kept", "LKettleInquest$Hall;", true)
  | 3 => ("KettleInquest", "isKept", "Z", false)
  | 4 => ("KettleInquest", "clerk", "LKettleInquest$Clerk;", true)
  | 5 => ("KettleInquest", "sheets", "[LKettleInquest$Sheet;", true)
  | _ => ("KettleInquest", "found", "[I", true)
def kq_t0 : Nat → FieldType := fun k => match k with
  | 0 => .object "KettleInquest$Hall"
  | 1 => .object "KettleInquest$Hall"
  | 2 => .object "KettleInquest$Hall"
  | 3 => .boolean
  | 4 => .object "KettleInquest$Clerk"
  | 5 => .array (.object "KettleInquest$Sheet")
  | _ => .array (.int)
def kq_pl0 : Nat → Nat := fun k => match k with
  | 0 => 193
  | 1 => 195
  | 2 => 197
  | 3 => 199
  | 4 => 201
  | 5 => 203
  | _ => 205
theorem kq_n0 : ∀ a, a < 7 → ∀ b, b < 7 → a ≠ b → (kq_F0 a).2.1 ≠ (kq_F0 b).2.1 := by decide +kernel
theorem kq_to0 : ∀ k, k < 7 → parseFieldDescriptor (kq_F0 k).2.2.1 = some (kq_t0 k) := by decide +kernel
theorem kq_lw0 : ∀ k, k < 7 → lw_tbl[kq_pl0 k]? = some (u_lay "KettleInquest" kq_F0 k) := by decide +kernel
theorem kq_gw0 : ∀ k, k < 7 → goodWord (u_lay "KettleInquest" kq_F0 k) = true := by decide +kernel
theorem kq_i0 : ∀ w ∈ u_ws "KettleInquest" kq_F0 7, w ∈ kq_tbl := by
  intro w hw
  obtain ⟨k, hk, rfl⟩ := List.mem_map.mp hw
  exact kq_in_of (kq_lw0 k (List.mem_range.mp hk)) (kq_gw0 k (List.mem_range.mp hk))
def kq_F1 : u_T := fun k => match k with
  | 0 => ("KettleInquest$Hall", "truth", "I", false)
  | 1 => ("KettleInquest$Hall", "heat", "I", false)
  | 2 => ("KettleInquest$Hall", "water", "I", false)
  | 3 => ("KettleInquest$Hall", "boilsAt", "I", false)
  | 4 => ("KettleInquest$Hall", "tea", "I", false)
  | 5 => ("KettleInquest$Hall", "minute", "I", false)
  | 6 => ("KettleInquest$Hall", "count", "I", false)
  | 7 => ("KettleInquest$Hall", "kinds", "[I", true)
  | 8 => ("KettleInquest$Hall", "known", "[I", true)
  | 9 => ("KettleInquest$Hall", "said", "[I", true)
  | _ => ("KettleInquest$Hall", "sures", "[I", true)
def kq_t1 : Nat → FieldType := fun k => match k with
  | 0 => .int
  | 1 => .int
  | 2 => .int
  | 3 => .int
  | 4 => .int
  | 5 => .int
  | 6 => .int
  | 7 => .array (.int)
  | 8 => .array (.int)
  | 9 => .array (.int)
  | _ => .array (.int)
def kq_pl1 : Nat → Nat := fun k => match k with
  | 0 => 110
  | 1 => 112
  | 2 => 114
  | 3 => 116
  | 4 => 118
  | 5 => 120
  | 6 => 122
  | 7 => 124
  | 8 => 126
  | 9 => 128
  | _ => 130
theorem kq_n1 : ∀ a, a < 11 → ∀ b, b < 11 → a ≠ b → (kq_F1 a).2.1 ≠ (kq_F1 b).2.1 := by decide +kernel
theorem kq_to1 : ∀ k, k < 11 → parseFieldDescriptor (kq_F1 k).2.2.1 = some (kq_t1 k) := by decide +kernel
theorem kq_lw1 : ∀ k, k < 11 → lw_tbl[kq_pl1 k]? = some (u_lay "KettleInquest$Hall" kq_F1 k) := by decide +kernel
theorem kq_gw1 : ∀ k, k < 11 → goodWord (u_lay "KettleInquest$Hall" kq_F1 k) = true := by decide +kernel
theorem kq_i1 : ∀ w ∈ u_ws "KettleInquest$Hall" kq_F1 11, w ∈ kq_tbl := by
  intro w hw
  obtain ⟨k, hk, rfl⟩ := List.mem_map.mp hw
  exact kq_in_of (kq_lw1 k (List.mem_range.mp hk)) (kq_gw1 k (List.mem_range.mp hk))
def kq_F2 : u_T := fun k => match k with
  | 0 => ("KettleInquest$Clerk", "tape", "[I", true)
  | 1 => ("KettleInquest$Clerk", "length", "I", false)
  | 2 => ("KettleInquest$Clerk", "token", "I", false)
  | 3 => ("KettleInquest$Clerk", "start", "I", false)
  | 4 => ("KettleInquest$Clerk", "end", "I", false)
  | 5 => ("KettleInquest$Clerk", "value", "I", false)
  | _ => ("KettleInquest$Clerk", "listed", "I", false)
def kq_t2 : Nat → FieldType := fun k => match k with
  | 0 => .array (.int)
  | 1 => .int
  | 2 => .int
  | 3 => .int
  | 4 => .int
  | 5 => .int
  | _ => .int
def kq_pl2 : Nat → Nat := fun k => match k with
  | 0 => 148
  | 1 => 150
  | 2 => 152
  | 3 => 154
  | 4 => 156
  | 5 => 158
  | _ => 160
theorem kq_n2 : ∀ a, a < 7 → ∀ b, b < 7 → a ≠ b → (kq_F2 a).2.1 ≠ (kq_F2 b).2.1 := by decide +kernel
theorem kq_to2 : ∀ k, k < 7 → parseFieldDescriptor (kq_F2 k).2.2.1 = some (kq_t2 k) := by decide +kernel
theorem kq_lw2 : ∀ k, k < 7 → lw_tbl[kq_pl2 k]? = some (u_lay "KettleInquest$Clerk" kq_F2 k) := by decide +kernel
theorem kq_gw2 : ∀ k, k < 7 → goodWord (u_lay "KettleInquest$Clerk" kq_F2 k) = true := by decide +kernel
theorem kq_i2 : ∀ w ∈ u_ws "KettleInquest$Clerk" kq_F2 7, w ∈ kq_tbl := by
  intro w hw
  obtain ⟨k, hk, rfl⟩ := List.mem_map.mp hw
  exact kq_in_of (kq_lw2 k (List.mem_range.mp hk)) (kq_gw2 k (List.mem_range.mp hk))
def kq_F3 : u_T := fun k => match k with
  | 0 => ("KettleInquest$Sheet", "bits", "I", false)
  | 1 => ("KettleInquest$Sheet", "length", "I", false)
  | _ => ("KettleInquest$Sheet", "numbers", "[J", true)
def kq_t3 : Nat → FieldType := fun k => match k with
  | 0 => .int
  | 1 => .int
  | _ => .array (.long)
def kq_pl3 : Nat → Nat := fun k => match k with
  | 0 => 178
  | 1 => 180
  | _ => 182
theorem kq_n3 : ∀ a, a < 3 → ∀ b, b < 3 → a ≠ b → (kq_F3 a).2.1 ≠ (kq_F3 b).2.1 := by decide +kernel
theorem kq_to3 : ∀ k, k < 3 → parseFieldDescriptor (kq_F3 k).2.2.1 = some (kq_t3 k) := by decide +kernel
theorem kq_lw3 : ∀ k, k < 3 → lw_tbl[kq_pl3 k]? = some (u_lay "KettleInquest$Sheet" kq_F3 k) := by decide +kernel
theorem kq_gw3 : ∀ k, k < 3 → goodWord (u_lay "KettleInquest$Sheet" kq_F3 k) = true := by decide +kernel
theorem kq_i3 : ∀ w ∈ u_ws "KettleInquest$Sheet" kq_F3 3, w ∈ kq_tbl := by
  intro w hw
  obtain ⟨k, hk, rfl⟩ := List.mem_map.mp hw
  exact kq_in_of (kq_lw3 k (List.mem_range.mp hk)) (kq_gw3 k (List.mem_range.mp hk))
def kq_F4 : u_T := fun k => match k with
  | 0 => ("KettleInquestModel", "row", "[I", true)
  | 1 => ("KettleInquestModel", "found", "[I", true)
  | 2 => ("KettleInquestModel", "boiled", "Z", false)
  | 3 => ("KettleInquestModel", "tried", "[I", true)
  | 4 => ("KettleInquestModel", "before1", "[I", true)
  | 5 => ("KettleInquestModel", "tape", "[I", true)
  | 6 => ("KettleInquestModel", "tapeMany", "I", false)
  | 7 => ("KettleInquestModel", "sort", "I", false)
  | 8 => ("KettleInquestModel", "begins", "I", false)
  | 9 => ("KettleInquestModel", "tokenEnds", "I", false)
  | 10 => ("KettleInquestModel", "word", "J", false)
  | 11 => ("KettleInquestModel", "value", "I", false)
  | 12 => ("KettleInquestModel", "good", "Z", false)
  | 13 => ("KettleInquestModel", "bitsOf", "[I", true)
  | 14 => ("KettleInquestModel", "sizeOf", "[I", true)
  | 15 => ("KettleInquestModel", "sheets", "[J", true)
  | 16 => ("KettleInquestModel", "lent", "[J", true)
  | 17 => ("KettleInquestModel", "image", "[I", true)
  | 18 => ("KettleInquestModel", "before", "[I", true)
  | _ => ("KettleInquestModel", "isKept", "Z", false)
def kq_t4 : Nat → FieldType := fun k => match k with
  | 0 => .array (.int)
  | 1 => .array (.int)
  | 2 => .boolean
  | 3 => .array (.int)
  | 4 => .array (.int)
  | 5 => .array (.int)
  | 6 => .int
  | 7 => .int
  | 8 => .int
  | 9 => .int
  | 10 => .long
  | 11 => .int
  | 12 => .boolean
  | 13 => .array (.int)
  | 14 => .array (.int)
  | 15 => .array (.long)
  | 16 => .array (.long)
  | 17 => .array (.int)
  | 18 => .array (.int)
  | _ => .boolean
def kq_pl4 : Nat → Nat := fun k => match k with
  | 0 => 664
  | 1 => 666
  | 2 => 668
  | 3 => 670
  | 4 => 672
  | 5 => 674
  | 6 => 676
  | 7 => 678
  | 8 => 680
  | 9 => 682
  | 10 => 684
  | 11 => 686
  | 12 => 688
  | 13 => 690
  | 14 => 692
  | 15 => 694
  | 16 => 696
  | 17 => 698
  | 18 => 700
  | _ => 702
theorem kq_n4 : ∀ a, a < 20 → ∀ b, b < 20 → a ≠ b → (kq_F4 a).2.1 ≠ (kq_F4 b).2.1 := by decide +kernel
theorem kq_to4 : ∀ k, k < 20 → parseFieldDescriptor (kq_F4 k).2.2.1 = some (kq_t4 k) := by decide +kernel
theorem kq_lw4 : ∀ k, k < 20 → lw_tbl[kq_pl4 k]? = some (u_lay "KettleInquestModel" kq_F4 k) := by decide +kernel
theorem kq_gw4 : ∀ k, k < 20 → goodWord (u_lay "KettleInquestModel" kq_F4 k) = true := by decide +kernel
theorem kq_i4 : ∀ w ∈ u_ws "KettleInquestModel" kq_F4 20, w ∈ kq_tbl := by
  intro w hw
  obtain ⟨k, hk, rfl⟩ := List.mem_map.mp hw
  exact kq_in_of (kq_lw4 k (List.mem_range.mp hk)) (kq_gw4 k (List.mem_range.mp hk))
abbrev kq_cls : List vw_C := [("KettleInquest", kq_F0, 7), ("KettleInquest$Hall", kq_F1, 11), ("KettleInquest$Clerk", kq_F2, 7), ("KettleInquest$Sheet", kq_F3, 3), ("KettleInquestModel", kq_F4, 20)]
def kq_cn : Nat → String := fun c => match c with
  | 0 => "KettleInquest"
  | 1 => "KettleInquest$Hall"
  | 2 => "KettleInquest$Clerk"
  | 3 => "KettleInquest$Sheet"
  | _ => "KettleInquestModel"
def kq_nF : Nat → Nat := fun c => match c with
  | 0 => 7
  | 1 => 11
  | 2 => 7
  | 3 => 3
  | _ => 20
def kq_FT : Nat → u_T := fun c => match c with
  | 0 => kq_F0
  | 1 => kq_F1
  | 2 => kq_F2
  | 3 => kq_F3
  | _ => kq_F4
def kq_tt : Nat → Nat → FieldType := fun c => match c with
  | 0 => kq_t0
  | 1 => kq_t1
  | 2 => kq_t2
  | 3 => kq_t3
  | _ => kq_t4
theorem kq_cg : ∀ c, c < 5 → kq_cls[c]? = some (kq_cn c, kq_FT c, kq_nF c) := fun c h => by
  rcases (show c = 0 ∨ c = 1 ∨ c = 2 ∨ c = 3 ∨ c = 4 by omega) with rfl | rfl | rfl | rfl | rfl <;> rfl
theorem kq_ci_in : ∀ c, c < 5 → ∀ w ∈ u_ws (kq_cn c) (kq_FT c) (kq_nF c), w ∈ kq_tbl := fun c h => by
  rcases (show c = 0 ∨ c = 1 ∨ c = 2 ∨ c = 3 ∨ c = 4 by omega) with rfl | rfl | rfl | rfl | rfl
  · exact kq_i0
  · exact kq_i1
  · exact kq_i2
  · exact kq_i3
  · exact kq_i4
theorem kq_ci_nm : ∀ c, c < 5 → ∀ a, a < kq_nF c → ∀ b, b < kq_nF c → a ≠ b → (kq_FT c a).2.1 ≠ (kq_FT c b).2.1 := fun c h => by
  rcases (show c = 0 ∨ c = 1 ∨ c = 2 ∨ c = 3 ∨ c = 4 by omega) with rfl | rfl | rfl | rfl | rfl
  · exact kq_n0
  · exact kq_n1
  · exact kq_n2
  · exact kq_n3
  · exact kq_n4
theorem kq_ci_ty : ∀ c, c < 5 → ∀ k, k < kq_nF c → parseFieldDescriptor (kq_FT c k).2.2.1 = some (kq_tt c k) := fun c h => by
  rcases (show c = 0 ∨ c = 1 ∨ c = 2 ∨ c = 3 ∨ c = 4 by omega) with rfl | rfl | rfl | rfl | rfl
  · exact kq_to0
  · exact kq_to1
  · exact kq_to2
  · exact kq_to3
  · exact kq_to4
/-- the class number of an object, by its place -/
def kq_ci : Nat → Nat := fun i => match i with
  | 0 => 0
  | 1 => 1
  | 6 => 2
  | 8 => 3
  | 20 => 4
  | _ => 9
/-- a field: 0 int or boolean, 1 long, 2 reference -/
def kq_fk : Nat → Nat → Nat := fun i k => match i, k with
  | 0, 0 => 2
  | 0, 1 => 2
  | 0, 2 => 2
  | 0, 4 => 2
  | 0, 5 => 2
  | 0, 6 => 2
  | 1, 7 => 2
  | 1, 8 => 2
  | 1, 9 => 2
  | 1, 10 => 2
  | 6, 0 => 2
  | 8, 2 => 2
  | 20, 0 => 2
  | 20, 1 => 2
  | 20, 3 => 2
  | 20, 4 => 2
  | 20, 5 => 2
  | 20, 10 => 1
  | 20, 13 => 2
  | 20, 14 => 2
  | 20, 15 => 2
  | 20, 16 => 2
  | 20, 17 => 2
  | 20, 18 => 2
  | _, _ => 0
def kq_tg : Nat → Nat → Nat → Nat × Nat := fun r i k => match i, k with
  | 0, 0 => (1, 1)
  | 0, 1 => (2, 1)
  | 0, 2 => (3, 1)
  | 0, 4 => (0, 6)
  | 0, 5 => (0, 10)
  | 0, 6 => (0, 11)
  | 1, 7 => (r, 2)
  | 1, 8 => (r, 3)
  | 1, 9 => (r, 4)
  | 1, 10 => (r, 5)
  | 6, 0 => (0, 7)
  | 8, 2 => (r, 9)
  | 20, 0 => (0, 21)
  | 20, 1 => (0, 22)
  | 20, 3 => (0, 23)
  | 20, 4 => (0, 24)
  | 20, 5 => (0, 25)
  | 20, 13 => (0, 26)
  | 20, 14 => (0, 27)
  | 20, 15 => (0, 28)
  | 20, 16 => (0, 29)
  | 20, 17 => (0, 30)
  | 20, 18 => (0, 31)
  | _, _ => (0, 0)
/-- a cell: 0 object, 1 int array, 2 long array, 3 the sheets, 9 none -/
def kq_ck : Nat → Nat := fun i => match i with
  | 0 => 0
  | 1 => 0
  | 2 => 1
  | 3 => 1
  | 4 => 1
  | 5 => 1
  | 6 => 0
  | 7 => 1
  | 8 => 0
  | 9 => 2
  | 10 => 3
  | 11 => 1
  | 20 => 0
  | 21 => 1
  | 22 => 1
  | 23 => 1
  | 24 => 1
  | 25 => 1
  | 26 => 1
  | 27 => 1
  | 28 => 2
  | 29 => 2
  | 30 => 1
  | 31 => 1
  | _ => 9
def kq_len : Nat → Nat := fun i => match i with
  | 2 => 8
  | 3 => 8
  | 4 => 8
  | 5 => 8
  | 7 => 120
  | 9 => 40
  | 10 => 4
  | 11 => 7
  | 21 => 39
  | 22 => 7
  | 23 => 39
  | 24 => 39
  | 25 => 120
  | 26 => 4
  | 27 => 4
  | 28 => 160
  | 29 => 40
  | 30 => 39
  | 31 => 39
  | _ => 0
def kq_hr (r : Nat) : Bool := Nat.beq r 1 || Nat.beq r 2 || Nat.beq r 3
/-- which cells stand: place i in region r -/
def kq_ok : Nat → Nat → Bool := fun i r => match i with
  | 0 => Nat.beq r 0
  | 1 => kq_hr r
  | 2 => kq_hr r
  | 3 => kq_hr r
  | 4 => kq_hr r
  | 5 => kq_hr r
  | 6 => Nat.beq r 0
  | 7 => Nat.beq r 0
  | 8 => Nat.blt r 4
  | 9 => Nat.blt r 4
  | 10 => Nat.beq r 0
  | 11 => Nat.beq r 0
  | 20 => Nat.beq r 0
  | 21 => Nat.beq r 0
  | 22 => Nat.beq r 0
  | 23 => Nat.beq r 0
  | 24 => Nat.beq r 0
  | 25 => Nat.beq r 0
  | 26 => Nat.beq r 0
  | 27 => Nat.beq r 0
  | 28 => Nat.beq r 0
  | 29 => Nat.beq r 0
  | 30 => Nat.beq r 0
  | 31 => Nat.beq r 0
  | _ => false
/-- a method: its name, its bytes, its number of locals, its answer -/
abbrev kq_D : Type := MethodName × ByteArray × Nat × Option FieldType
def kq_ws (M : kq_D) : List Cond := Cond.code M.1 M.2.1 M.2.2.1 M.2.2.2 :: kq_tbl
def km_K_truth : kq_D := (⟨"KettleInquest", "truth", "(I)I"⟩, prog_1_method_2_code, 3, some .int)
def km_K_isWithin : kq_D := (⟨"KettleInquest", "isWithin", "(III)Z"⟩, prog_1_method_41_code, 3, some .boolean)
def km_K_finding : kq_D := (⟨"KettleInquest", "finding", "(I)I"⟩, prog_1_method_39_code, 2, some .int)
def km_K_kettle : kq_D := (⟨"KettleInquest", "kettle", "(II)I"⟩, prog_1_method_3_code, 4, some .int)
def km_K_isKettleValue : kq_D := (⟨"KettleInquest", "isKettleValue", "(II)Z"⟩, prog_1_method_45_code, 2, some .boolean)
def km_K_witness : kq_D := (⟨"KettleInquest", "witness", "(I)I"⟩, prog_1_method_4_code, 2, some .int)
def km_K_isKind : kq_D := (⟨"KettleInquest", "isKind", "(I)Z"⟩, prog_1_method_43_code, 1, some .boolean)
def km_H_callWitness : kq_D := (⟨"KettleInquest$Hall", "callWitness", "(I)I"⟩, prog_3_method_3_code, 3, some .int)
def km_K_of : kq_D := (⟨"KettleInquest", "of", "(II)I"⟩, prog_1_method_5_code, 3, some .int)
def km_K_isWitness : kq_D := (⟨"KettleInquest", "isWitness", "(I)Z"⟩, prog_1_method_40_code, 2, some .boolean)
def km_H_lieSet : kq_D := (⟨"KettleInquest$Hall", "lieSet", "(I)I"⟩, prog_3_method_6_code, 2, some .int)
def km_H_luckySet : kq_D := (⟨"KettleInquest$Hall", "luckySet", "(I)I"⟩, prog_3_method_7_code, 2, some .int)
def km_H_wrongSet : kq_D := (⟨"KettleInquest$Hall", "wrongSet", "(I)I"⟩, prog_3_method_8_code, 2, some .int)
def km_H_doubtOf : kq_D := (⟨"KettleInquest$Hall", "doubtOf", "(I)I"⟩, prog_3_method_9_code, 3, some .int)
def km_K_set : kq_D := (⟨"KettleInquest", "set", "(III)I"⟩, prog_1_method_6_code, 6, some .int)
def km_K_turn : kq_D := (⟨"KettleInquest", "turn", "(II)I"⟩, prog_1_method_7_code, 4, some .int)
def km_K_as : kq_D := (⟨"KettleInquest", "as", "(II)I"⟩, prog_1_method_8_code, 3, some .int)
def km_K_isOfKind : kq_D := (⟨"KettleInquest", "isOfKind", "(II)Z"⟩, prog_1_method_46_code, 4, some .boolean)
def km_K_heats : kq_D := (⟨"KettleInquest", "heats", "(II)I"⟩, prog_1_method_9_code, 3, some .int)
def km_K_isFact : kq_D := (⟨"KettleInquest", "isFact", "(I)Z"⟩, prog_1_method_42_code, 1, some .boolean)
def km_H_heatBy : kq_D := (⟨"KettleInquest$Hall", "heatBy", "(II)I"⟩, prog_3_method_12_code, 3, some .int)
def km_H_plumberHeat : kq_D := (⟨"KettleInquest$Hall", "plumberHeat", "(II)I"⟩, prog_3_method_14_code, 4, some .int)
def km_K_isIn : kq_D := (⟨"KettleInquest", "isIn", "(II)Z"⟩, prog_1_method_47_code, 2, some .boolean)
def km_H_witnessHeat : kq_D := (⟨"KettleInquest$Hall", "witnessHeat", "(II)I"⟩, prog_3_method_13_code, 3, some .int)
def km_H_wifeHeat : kq_D := (⟨"KettleInquest$Hall", "wifeHeat", "(II)I"⟩, prog_3_method_15_code, 3, some .int)
def km_H_anotherPlumberLies : kq_D := (⟨"KettleInquest$Hall", "anotherPlumberLies", "(II)Z"⟩, prog_3_method_16_code, 4, some .boolean)
def km_K_ask : kq_D := (⟨"KettleInquest", "ask", "(II)I"⟩, prog_1_method_10_code, 3, some .int)
def km_H_hearAnswer : kq_D := (⟨"KettleInquest$Hall", "hearAnswer", "(II)Z"⟩, prog_3_method_17_code, 4, some .boolean)
def km_jM_min : kq_D := (⟨"java/lang/Math", "min", "(II)I"⟩, prog_8_method_69_code, 2, some .int)
def km_jM_max : kq_D := (⟨"java/lang/Math", "max", "(II)I"⟩, prog_8_method_65_code, 2, some .int)
def km_H_learnsBy : kq_D := (⟨"KettleInquest$Hall", "learnsBy", "(IIZ)Z"⟩, prog_3_method_18_code, 4, some .boolean)
def km_K_swap : kq_D := (⟨"KettleInquest", "swap", "(II)I"⟩, prog_1_method_11_code, 3, some .int)
def km_H_changeNumbers : kq_D := (⟨"KettleInquest$Hall", "changeNumbers", "(II)V"⟩, prog_3_method_4_code, 3, none)
def km_H_exchange : kq_D := (⟨"KettleInquest$Hall", "exchange", "([III)V"⟩, prog_3_method_5_code, 4, none)
def km_K_minutes : kq_D := (⟨"KettleInquest", "minutes", "(I)I"⟩, prog_1_method_12_code, 2, some .int)
def km_H_teaAfter : kq_D := (⟨"KettleInquest$Hall", "teaAfter", "(I)I"⟩, prog_3_method_22_code, 3, some .int)
def km_H_passMinute : kq_D := (⟨"KettleInquest$Hall", "passMinute", "()Z"⟩, prog_3_method_21_code, 2, some .boolean)
def km_H_whoseTurn : kq_D := (⟨"KettleInquest$Hall", "whoseTurn", "()I"⟩, prog_3_method_19_code, 1, some .int)
def km_H_factAsked : kq_D := (⟨"KettleInquest$Hall", "factAsked", "()I"⟩, prog_3_method_20_code, 1, some .int)
def km_K_now : kq_D := (⟨"KettleInquest", "now", "(I)I"⟩, prog_1_method_13_code, 3, some .int)
def km_K_on : kq_D := (⟨"KettleInquest", "on", "(II)I"⟩, prog_1_method_14_code, 4, some .int)
def km_H_become : kq_D := (⟨"KettleInquest$Hall", "become", "(LKettleInquest$Hall;)V"⟩, prog_3_method_2_code, 3, none)
def km_K_then : kq_D := (⟨"KettleInquest", "then", "(III)I"⟩, prog_1_method_15_code, 4, some .int)
def km_K_boils : kq_D := (⟨"KettleInquest", "boils", "()I"⟩, prog_1_method_16_code, 2, some .int)
def km_K_doubts : kq_D := (⟨"KettleInquest", "doubts", "(I)I"⟩, prog_1_method_17_code, 3, some .int)
def km_K_worst : kq_D := (⟨"KettleInquest", "worst", "(I)I"⟩, prog_1_method_18_code, 5, some .int)
def km_K_turns : kq_D := (⟨"KettleInquest", "turns", "(I)I"⟩, prog_1_method_19_code, 7, some .int)
def km_K_sure : kq_D := (⟨"KettleInquest", "sure", "(II)I"⟩, prog_1_method_20_code, 4, some .int)
def km_K_water : kq_D := (⟨"KettleInquest", "water", "(II)I"⟩, prog_1_method_21_code, 4, some .int)
def km_K_kind : kq_D := (⟨"KettleInquest", "kind", "(II)I"⟩, prog_1_method_22_code, 7, some .int)
def km_K_says : kq_D := (⟨"KettleInquest", "says", "(II)I"⟩, prog_1_method_23_code, 7, some .int)
def km_K_fact : kq_D := (⟨"KettleInquest", "fact", "(I)I"⟩, prog_1_method_24_code, 6, some .int)
def km_K_feed : kq_D := (⟨"KettleInquest", "feed", "(II)I"⟩, prog_1_method_25_code, 4, some .int)
def km_C_append : kq_D := (⟨"KettleInquest$Clerk", "append", "(I)V"⟩, prog_2_method_2_code, 2, none)
def km_K_wipe : kq_D := (⟨"KettleInquest", "wipe", "()I"⟩, prog_1_method_26_code, 2, some .int)
def km_K_inquest : kq_D := (⟨"KettleInquest", "inquest", "()I"⟩, prog_1_method_27_code, 2, some .int)
def km_C_takeDown : kq_D := (⟨"KettleInquest$Clerk", "takeDown", "(LKettleInquest$Hall;)I"⟩, prog_2_method_3_code, 3, some .int)
def km_C_nextToken : kq_D := (⟨"KettleInquest$Clerk", "nextToken", "()V"⟩, prog_2_method_13_code, 2, none)
def km_C_endOfRun : kq_D := (⟨"KettleInquest$Clerk", "endOfRun", "(CC)I"⟩, prog_2_method_14_code, 4, some .int)
def km_C_numberThere : kq_D := (⟨"KettleInquest$Clerk", "numberThere", "()I"⟩, prog_2_method_15_code, 3, some .int)
def km_C_takeItem : kq_D := (⟨"KettleInquest$Clerk", "takeItem", "(LKettleInquest$Hall;)Z"⟩, prog_2_method_4_code, 3, some .boolean)
def km_C_kindNamed : kq_D := (⟨"KettleInquest$Clerk", "kindNamed", "()I"⟩, prog_2_method_10_code, 2, some .int)
def km_C_nameOf : kq_D := (⟨"KettleInquest$Clerk", "nameOf", "(I)Ljava/lang/String;"⟩, prog_2_method_11_code, 1, some (.object "java/lang/String"))
def km_C_isWord : kq_D := (⟨"KettleInquest$Clerk", "isWord", "(Ljava/lang/String;)Z"⟩, prog_2_method_12_code, 3, some .boolean)
def km_jS_length : kq_D := (⟨"java/lang/String", "length", "()I"⟩, prog_9_method_54_code, 1, some .int)
def km_jS_coder : kq_D := (⟨"java/lang/String", "coder", "()B"⟩, prog_9_method_152_code, 1, some .byte)
def km_jS_charAt : kq_D := (⟨"java/lang/String", "charAt", "(I)C"⟩, prog_9_method_56_code, 2, some .char)
def km_jS_isLatin1 : kq_D := (⟨"java/lang/String", "isLatin1", "()Z"⟩, prog_9_method_154_code, 1, some .boolean)
def km_jL_charAt : kq_D := (⟨"java/lang/StringLatin1", "charAt", "([BI)C"⟩, prog_10_method_2_code, 2, some .char)
def km_jS_checkIndex : kq_D := (⟨"java/lang/String", "checkIndex", "(II)V"⟩, prog_9_method_155_code, 2, none)
def km_jP_checkIndex : kq_D := (⟨"jdk/internal/util/Preconditions", "checkIndex", "(IILjava/util/function/BiFunction;)I"⟩, prog_13_method_11_code, 3, some .int)
def km_C_takeWitness : kq_D := (⟨"KettleInquest$Clerk", "takeWitness", "(LKettleInquest$Hall;I)Z"⟩, prog_2_method_5_code, 4, some .boolean)
def km_C_isNumberUpTo : kq_D := (⟨"KettleInquest$Clerk", "isNumberUpTo", "(I)Z"⟩, prog_2_method_9_code, 2, some .boolean)
def km_C_takeFacts : kq_D := (⟨"KettleInquest$Clerk", "takeFacts", "()Z"⟩, prog_2_method_8_code, 2, some .boolean)
def km_C_takeTruth : kq_D := (⟨"KettleInquest$Clerk", "takeTruth", "(LKettleInquest$Hall;Z)Z"⟩, prog_2_method_6_code, 4, some .boolean)
def km_C_takeWater : kq_D := (⟨"KettleInquest$Clerk", "takeWater", "(LKettleInquest$Hall;)Z"⟩, prog_2_method_7_code, 2, some .boolean)
def km_K_sheet : kq_D := (⟨"KettleInquest", "sheet", "(III)I"⟩, prog_1_method_28_code, 4, some .int)
def km_K_isSheet : kq_D := (⟨"KettleInquest", "isSheet", "(I)Z"⟩, prog_1_method_44_code, 1, some .boolean)
def km_S_layOut : kq_D := (⟨"KettleInquest$Sheet", "layOut", "(II)V"⟩, prog_4_method_2_code, 4, none)
def km_K_write : kq_D := (⟨"KettleInquest", "write", "(IIJ)J"⟩, prog_1_method_29_code, 8, some .long)
def km_S_isMissing : kq_D := (⟨"KettleInquest$Sheet", "isMissing", "()Z"⟩, prog_4_method_3_code, 1, some .boolean)
def km_S_lowestBits : kq_D := (⟨"KettleInquest$Sheet", "lowestBits", "(J)J"⟩, prog_4_method_4_code, 3, some .long)
def km_K_copy : kq_D := (⟨"KettleInquest", "copy", "(IIIII)I"⟩, prog_1_method_30_code, 8, some .int)
def km_S_hasStretch : kq_D := (⟨"KettleInquest$Sheet", "hasStretch", "(II)Z"⟩, prog_4_method_5_code, 3, some .boolean)
def km_K_lays : kq_D := (⟨"KettleInquest", "lays", "(I)I"⟩, prog_1_method_31_code, 7, some .int)
def km_K_book : kq_D := (⟨"KettleInquest", "book", "(I)I"⟩, prog_1_method_32_code, 4, some .int)
def km_K_read : kq_D := (⟨"KettleInquest", "read", "(II)I"⟩, prog_1_method_33_code, 7, some .int)
def km_H_goesBy : kq_D := (⟨"KettleInquest$Hall", "goesBy", "(LKettleInquest$Sheet;)Z"⟩, prog_3_method_23_code, 3, some .boolean)
def km_K_image : kq_D := (⟨"KettleInquest", "image", "()I"⟩, prog_1_method_34_code, 1, some .int)
def km_K_undo : kq_D := (⟨"KettleInquest", "undo", "()I"⟩, prog_1_method_35_code, 1, some .int)
def km_K_tear : kq_D := (⟨"KettleInquest", "tear", "()I"⟩, prog_1_method_36_code, 2, some .int)
def km_K_count : kq_D := (⟨"KettleInquest", "count", "(I)I"⟩, prog_1_method_37_code, 2, some .int)
def km_H_allLies : kq_D := (⟨"KettleInquest$Hall", "allLies", "()I"⟩, prog_3_method_10_code, 3, some .int)
def km_jI_bitCount : kq_D := (⟨"java/lang/Integer", "bitCount", "(I)I"⟩, prog_7_method_49_code, 1, some .int)
def km_H_allSure : kq_D := (⟨"KettleInquest$Hall", "allSure", "()I"⟩, prog_3_method_11_code, 3, some .int)
def km_K_status : kq_D := (⟨"KettleInquest", "status", "(I)I"⟩, prog_1_method_38_code, 4, some .int)
def km_M_truth : kq_D := (⟨"KettleInquestModel", "truth", "(I)I"⟩, prog_6_method_12_code, 2, some .int)
def km_M_in : kq_D := (⟨"KettleInquestModel", "in", "(III)Z"⟩, prog_6_method_2_code, 3, some .boolean)
def km_M_becomes : kq_D := (⟨"KettleInquestModel", "becomes", "(II)I"⟩, prog_6_method_7_code, 4, some .int)
def km_M_finds : kq_D := (⟨"KettleInquestModel", "finds", "(I)I"⟩, prog_6_method_3_code, 2, some .int)
def km_M_kettle : kq_D := (⟨"KettleInquestModel", "kettle", "(II)I"⟩, prog_6_method_13_code, 3, some .int)
def km_M_witness : kq_D := (⟨"KettleInquestModel", "witness", "(I)I"⟩, prog_6_method_23_code, 2, some .int)
def km_M_isKind : kq_D := (⟨"KettleInquestModel", "isKind", "(I)Z"⟩, prog_6_method_9_code, 1, some .boolean)
def km_M_adds : kq_D := (⟨"KettleInquestModel", "adds", "(IIII)V"⟩, prog_6_method_22_code, 6, none)
def km_M_puts : kq_D := (⟨"KettleInquestModel", "puts", "(III)V"⟩, prog_6_method_6_code, 4, none)
def km_M_of : kq_D := (⟨"KettleInquestModel", "of", "(II)I"⟩, prog_6_method_24_code, 3, some .int)
def km_M_isOne : kq_D := (⟨"KettleInquestModel", "isOne", "(I)Z"⟩, prog_6_method_8_code, 2, some .boolean)
def km_M_lies : kq_D := (⟨"KettleInquestModel", "lies", "(I)I"⟩, prog_6_method_15_code, 2, some .int)
def km_M_its : kq_D := (⟨"KettleInquestModel", "its", "(II)I"⟩, prog_6_method_5_code, 3, some .int)
def km_M_right : kq_D := (⟨"KettleInquestModel", "right", "(I)I"⟩, prog_6_method_14_code, 2, some .int)
def km_M_lucky : kq_D := (⟨"KettleInquestModel", "lucky", "(I)I"⟩, prog_6_method_16_code, 2, some .int)
def km_M_wrong : kq_D := (⟨"KettleInquestModel", "wrong", "(I)I"⟩, prog_6_method_17_code, 2, some .int)
def km_M_doubting : kq_D := (⟨"KettleInquestModel", "doubting", "(I)I"⟩, prog_6_method_21_code, 2, some .int)
def km_M_set : kq_D := (⟨"KettleInquestModel", "set", "(III)I"⟩, prog_6_method_25_code, 5, some .int)
def km_M_turn : kq_D := (⟨"KettleInquestModel", "turn", "(II)I"⟩, prog_6_method_26_code, 3, some .int)
def km_M_as : kq_D := (⟨"KettleInquestModel", "as", "(II)I"⟩, prog_6_method_27_code, 5, some .int)
def km_M_heats : kq_D := (⟨"KettleInquestModel", "heats", "(II)I"⟩, prog_6_method_28_code, 3, some .int)
def km_M_isFact : kq_D := (⟨"KettleInquestModel", "isFact", "(I)Z"⟩, prog_6_method_10_code, 1, some .boolean)
def km_M_heating : kq_D := (⟨"KettleInquestModel", "heating", "(II)I"⟩, prog_6_method_20_code, 7, some .int)
def km_M_besideLiar : kq_D := (⟨"KettleInquestModel", "besideLiar", "(II)Z"⟩, prog_6_method_19_code, 5, some .boolean)
def km_M_isPlumber : kq_D := (⟨"KettleInquestModel", "isPlumber", "(I)Z"⟩, prog_6_method_18_code, 2, some .boolean)
def km_M_ask : kq_D := (⟨"KettleInquestModel", "ask", "(II)I"⟩, prog_6_method_30_code, 3, some .int)
def km_M_answers : kq_D := (⟨"KettleInquestModel", "answers", "(II)V"⟩, prog_6_method_29_code, 6, none)
def km_M_held : kq_D := (⟨"KettleInquestModel", "held", "(III)I"⟩, prog_6_method_4_code, 3, some .int)
def km_M_swap : kq_D := (⟨"KettleInquestModel", "swap", "(II)I"⟩, prog_6_method_32_code, 3, some .int)
def km_M_swaps : kq_D := (⟨"KettleInquestModel", "swaps", "(II)V"⟩, prog_6_method_31_code, 5, none)
def km_M_minutes : kq_D := (⟨"KettleInquestModel", "minutes", "(I)I"⟩, prog_6_method_37_code, 2, some .int)
def km_M_passes : kq_D := (⟨"KettleInquestModel", "passes", "(I)V"⟩, prog_6_method_36_code, 3, none)
def km_M_oneMinute : kq_D := (⟨"KettleInquestModel", "oneMinute", "()V"⟩, prog_6_method_35_code, 1, none)
def km_M_whose : kq_D := (⟨"KettleInquestModel", "whose", "()I"⟩, prog_6_method_33_code, 1, some .int)
def km_M_asked : kq_D := (⟨"KettleInquestModel", "asked", "()I"⟩, prog_6_method_34_code, 1, some .int)
def km_M_now : kq_D := (⟨"KettleInquestModel", "now", "(I)I"⟩, prog_6_method_38_code, 2, some .int)
def km_M_on : kq_D := (⟨"KettleInquestModel", "on", "(II)I"⟩, prog_6_method_39_code, 4, some .int)
def km_M_moveAll : kq_D := (⟨"KettleInquestModel", "moveAll", "(Z[I)V"⟩, prog_6_method_77_code, 4, none)
def km_M_then : kq_D := (⟨"KettleInquestModel", "then", "(III)I"⟩, prog_6_method_40_code, 5, some .int)
def km_M_boils : kq_D := (⟨"KettleInquestModel", "boils", "()I"⟩, prog_6_method_41_code, 2, some .int)
def km_M_doubts : kq_D := (⟨"KettleInquestModel", "doubts", "(I)I"⟩, prog_6_method_42_code, 3, some .int)
def km_M_worst : kq_D := (⟨"KettleInquestModel", "worst", "(I)I"⟩, prog_6_method_43_code, 6, some .int)
def km_M_turns : kq_D := (⟨"KettleInquestModel", "turns", "(I)I"⟩, prog_6_method_45_code, 7, some .int)
def km_M_teaBehind : kq_D := (⟨"KettleInquestModel", "teaBehind", "(I)I"⟩, prog_6_method_44_code, 3, some .int)
def km_M_sure : kq_D := (⟨"KettleInquestModel", "sure", "(II)I"⟩, prog_6_method_46_code, 5, some .int)
def km_M_water : kq_D := (⟨"KettleInquestModel", "water", "(II)I"⟩, prog_6_method_47_code, 5, some .int)
def km_M_kind : kq_D := (⟨"KettleInquestModel", "kind", "(II)I"⟩, prog_6_method_48_code, 7, some .int)
def km_M_says : kq_D := (⟨"KettleInquestModel", "says", "(II)I"⟩, prog_6_method_49_code, 7, some .int)
def km_M_fact : kq_D := (⟨"KettleInquestModel", "fact", "(I)I"⟩, prog_6_method_50_code, 6, some .int)
def km_M_feed : kq_D := (⟨"KettleInquestModel", "feed", "(II)I"⟩, prog_6_method_51_code, 4, some .int)
def km_M_wipe : kq_D := (⟨"KettleInquestModel", "wipe", "()I"⟩, prog_6_method_52_code, 2, some .int)
def km_M_inquest : kq_D := (⟨"KettleInquestModel", "inquest", "()I"⟩, prog_6_method_65_code, 3, some .int)
def km_M_advance : kq_D := (⟨"KettleInquestModel", "advance", "()V"⟩, prog_6_method_56_code, 2, none)
def km_M_byteAt : kq_D := (⟨"KettleInquestModel", "byteAt", "(I)I"⟩, prog_6_method_53_code, 2, some .int)
def km_M_isLetter : kq_D := (⟨"KettleInquestModel", "isLetter", "(I)Z"⟩, prog_6_method_54_code, 1, some .boolean)
def km_M_isDigit : kq_D := (⟨"KettleInquestModel", "isDigit", "(I)Z"⟩, prog_6_method_55_code, 1, some .boolean)
def km_M_wantItem : kq_D := (⟨"KettleInquestModel", "wantItem", "()V"⟩, prog_6_method_64_code, 2, none)
def km_M_kindHere : kq_D := (⟨"KettleInquestModel", "kindHere", "()I"⟩, prog_6_method_58_code, 1, some .int)
def km_M_isWord : kq_D := (⟨"KettleInquestModel", "isWord", "(J)Z"⟩, prog_6_method_57_code, 3, some .boolean)
def km_M_wantOne : kq_D := (⟨"KettleInquestModel", "wantOne", "(I)V"⟩, prog_6_method_62_code, 5, none)
def km_M_mayWant : kq_D := (⟨"KettleInquestModel", "mayWant", "(JIII)I"⟩, prog_6_method_60_code, 6, some .int)
def km_M_wantNumber : kq_D := (⟨"KettleInquestModel", "wantNumber", "(II)I"⟩, prog_6_method_59_code, 4, some .int)
def km_M_mayFacts : kq_D := (⟨"KettleInquestModel", "mayFacts", "(J)I"⟩, prog_6_method_61_code, 6, some .int)
def km_M_wantTruth : kq_D := (⟨"KettleInquestModel", "wantTruth", "(Z)V"⟩, prog_6_method_63_code, 3, none)
def km_M_sheet : kq_D := (⟨"KettleInquestModel", "sheet", "(III)I"⟩, prog_6_method_68_code, 5, some .int)
def km_M_isSheet : kq_D := (⟨"KettleInquestModel", "isSheet", "(I)Z"⟩, prog_6_method_66_code, 1, some .boolean)
def km_M_write : kq_D := (⟨"KettleInquestModel", "write", "(IIJ)J"⟩, prog_6_method_69_code, 7, some .long)
def km_M_narrow : kq_D := (⟨"KettleInquestModel", "narrow", "(IJ)J"⟩, prog_6_method_67_code, 3, some .long)
def km_M_copy : kq_D := (⟨"KettleInquestModel", "copy", "(IIIII)I"⟩, prog_6_method_71_code, 7, some .int)
def km_M_isPart : kq_D := (⟨"KettleInquestModel", "isPart", "(III)Z"⟩, prog_6_method_70_code, 4, some .boolean)
def km_M_lays : kq_D := (⟨"KettleInquestModel", "lays", "(I)I"⟩, prog_6_method_73_code, 7, some .int)
def km_M_badSheet : kq_D := (⟨"KettleInquestModel", "badSheet", "(I)I"⟩, prog_6_method_72_code, 2, some .int)
def km_M_book : kq_D := (⟨"KettleInquestModel", "book", "(I)I"⟩, prog_6_method_74_code, 4, some .int)
def km_M_read : kq_D := (⟨"KettleInquestModel", "read", "(II)I"⟩, prog_6_method_76_code, 6, some .int)
def km_M_isSo : kq_D := (⟨"KettleInquestModel", "isSo", "(I)Z"⟩, prog_6_method_75_code, 4, some .boolean)
def km_M_image : kq_D := (⟨"KettleInquestModel", "image", "()I"⟩, prog_6_method_78_code, 1, some .int)
def km_M_undo : kq_D := (⟨"KettleInquestModel", "undo", "()I"⟩, prog_6_method_79_code, 1, some .int)
def km_M_tear : kq_D := (⟨"KettleInquestModel", "tear", "()I"⟩, prog_6_method_80_code, 2, some .int)
def km_M_count : kq_D := (⟨"KettleInquestModel", "count", "(I)I"⟩, prog_6_method_81_code, 2, some .int)
def km_M_liesOfAll : kq_D := (⟨"KettleInquestModel", "liesOfAll", "()I"⟩, prog_6_method_82_code, 3, some .int)
def km_M_bits : kq_D := (⟨"KettleInquestModel", "bits", "(I)I"⟩, prog_6_method_11_code, 3, some .int)
def km_M_sureOfAll : kq_D := (⟨"KettleInquestModel", "sureOfAll", "()I"⟩, prog_6_method_83_code, 3, some .int)
def km_M_status : kq_D := (⟨"KettleInquestModel", "status", "(I)I"⟩, prog_6_method_84_code, 4, some .int)
/-- the words that a call of M wants -/
def kq_wV (M : kq_D) : Prop := Cond.code M.1 M.2.1 M.2.2.1 M.2.2.2 ∈ kq_tbl ∧ Cond.initialized M.1.cls ∈ kq_tbl ∧ Cond.instanceMethod M.1 ∈ kq_tbl ∧ Cond.selects M.1.cls M.1 M.1 ∈ kq_tbl
def kq_wS (M : kq_D) : Prop := Cond.code M.1 M.2.1 M.2.2.1 M.2.2.2 ∈ kq_tbl ∧ Cond.initialized M.1.cls ∈ kq_tbl ∧ Cond.static M.1 ∈ kq_tbl
theorem kw_K_truth : kq_wV km_K_truth := ⟨kq_in_of (n := 211) (by decide +kernel) rfl, kq_in_of (n := 56) (by decide +kernel) rfl, kq_in_of (n := 209) (by decide +kernel) rfl, kq_in_of (n := 210) (by decide +kernel) rfl⟩
theorem kw_K_isWithin : kq_wS km_K_isWithin := ⟨kq_in_of (n := 214) (by decide +kernel) rfl, kq_in_of (n := 56) (by decide +kernel) rfl, kq_in_of (n := 213) (by decide +kernel) rfl⟩
theorem kw_K_finding : kq_wV km_K_finding := ⟨kq_in_of (n := 218) (by decide +kernel) rfl, kq_in_of (n := 56) (by decide +kernel) rfl, kq_in_of (n := 217) (by decide +kernel) rfl, kq_in_of (n := 0) (by decide +kernel) rfl⟩
theorem kw_K_kettle : kq_wV km_K_kettle := ⟨kq_in_of (n := 223) (by decide +kernel) rfl, kq_in_of (n := 56) (by decide +kernel) rfl, kq_in_of (n := 221) (by decide +kernel) rfl, kq_in_of (n := 222) (by decide +kernel) rfl⟩
theorem kw_K_isKettleValue : kq_wS km_K_isKettleValue := ⟨kq_in_of (n := 226) (by decide +kernel) rfl, kq_in_of (n := 56) (by decide +kernel) rfl, kq_in_of (n := 225) (by decide +kernel) rfl⟩
theorem kw_K_witness : kq_wV km_K_witness := ⟨kq_in_of (n := 230) (by decide +kernel) rfl, kq_in_of (n := 56) (by decide +kernel) rfl, kq_in_of (n := 228) (by decide +kernel) rfl, kq_in_of (n := 229) (by decide +kernel) rfl⟩
theorem kw_K_isKind : kq_wS km_K_isKind := ⟨kq_in_of (n := 233) (by decide +kernel) rfl, kq_in_of (n := 56) (by decide +kernel) rfl, kq_in_of (n := 232) (by decide +kernel) rfl⟩
theorem kw_H_callWitness : kq_wV km_H_callWitness := ⟨kq_in_of (n := 237) (by decide +kernel) rfl, kq_in_of (n := 57) (by decide +kernel) rfl, kq_in_of (n := 235) (by decide +kernel) rfl, kq_in_of (n := 236) (by decide +kernel) rfl⟩
theorem kw_K_of : kq_wV km_K_of := ⟨kq_in_of (n := 241) (by decide +kernel) rfl, kq_in_of (n := 56) (by decide +kernel) rfl, kq_in_of (n := 239) (by decide +kernel) rfl, kq_in_of (n := 240) (by decide +kernel) rfl⟩
theorem kw_K_isWitness : kq_wV km_K_isWitness := ⟨kq_in_of (n := 245) (by decide +kernel) rfl, kq_in_of (n := 56) (by decide +kernel) rfl, kq_in_of (n := 244) (by decide +kernel) rfl, kq_in_of (n := 1) (by decide +kernel) rfl⟩
theorem kw_H_lieSet : kq_wV km_H_lieSet := ⟨kq_in_of (n := 249) (by decide +kernel) rfl, kq_in_of (n := 57) (by decide +kernel) rfl, kq_in_of (n := 247) (by decide +kernel) rfl, kq_in_of (n := 248) (by decide +kernel) rfl⟩
theorem kw_H_luckySet : kq_wV km_H_luckySet := ⟨kq_in_of (n := 253) (by decide +kernel) rfl, kq_in_of (n := 57) (by decide +kernel) rfl, kq_in_of (n := 251) (by decide +kernel) rfl, kq_in_of (n := 252) (by decide +kernel) rfl⟩
theorem kw_H_wrongSet : kq_wV km_H_wrongSet := ⟨kq_in_of (n := 257) (by decide +kernel) rfl, kq_in_of (n := 57) (by decide +kernel) rfl, kq_in_of (n := 255) (by decide +kernel) rfl, kq_in_of (n := 256) (by decide +kernel) rfl⟩
theorem kw_H_doubtOf : kq_wV km_H_doubtOf := ⟨kq_in_of (n := 261) (by decide +kernel) rfl, kq_in_of (n := 57) (by decide +kernel) rfl, kq_in_of (n := 259) (by decide +kernel) rfl, kq_in_of (n := 260) (by decide +kernel) rfl⟩
theorem kw_K_set : kq_wV km_K_set := ⟨kq_in_of (n := 268) (by decide +kernel) rfl, kq_in_of (n := 56) (by decide +kernel) rfl, kq_in_of (n := 266) (by decide +kernel) rfl, kq_in_of (n := 267) (by decide +kernel) rfl⟩
theorem kw_K_turn : kq_wV km_K_turn := ⟨kq_in_of (n := 272) (by decide +kernel) rfl, kq_in_of (n := 56) (by decide +kernel) rfl, kq_in_of (n := 270) (by decide +kernel) rfl, kq_in_of (n := 271) (by decide +kernel) rfl⟩
theorem kw_K_as : kq_wV km_K_as := ⟨kq_in_of (n := 276) (by decide +kernel) rfl, kq_in_of (n := 56) (by decide +kernel) rfl, kq_in_of (n := 274) (by decide +kernel) rfl, kq_in_of (n := 275) (by decide +kernel) rfl⟩
theorem kw_K_isOfKind : kq_wS km_K_isOfKind := ⟨kq_in_of (n := 279) (by decide +kernel) rfl, kq_in_of (n := 56) (by decide +kernel) rfl, kq_in_of (n := 278) (by decide +kernel) rfl⟩
theorem kw_K_heats : kq_wV km_K_heats := ⟨kq_in_of (n := 285) (by decide +kernel) rfl, kq_in_of (n := 56) (by decide +kernel) rfl, kq_in_of (n := 283) (by decide +kernel) rfl, kq_in_of (n := 284) (by decide +kernel) rfl⟩
theorem kw_K_isFact : kq_wS km_K_isFact := ⟨kq_in_of (n := 288) (by decide +kernel) rfl, kq_in_of (n := 56) (by decide +kernel) rfl, kq_in_of (n := 287) (by decide +kernel) rfl⟩
theorem kw_H_heatBy : kq_wV km_H_heatBy := ⟨kq_in_of (n := 292) (by decide +kernel) rfl, kq_in_of (n := 57) (by decide +kernel) rfl, kq_in_of (n := 290) (by decide +kernel) rfl, kq_in_of (n := 291) (by decide +kernel) rfl⟩
theorem kw_H_plumberHeat : kq_wV km_H_plumberHeat := ⟨kq_in_of (n := 296) (by decide +kernel) rfl, kq_in_of (n := 57) (by decide +kernel) rfl, kq_in_of (n := 295) (by decide +kernel) rfl, kq_in_of (n := 2) (by decide +kernel) rfl⟩
theorem kw_K_isIn : kq_wS km_K_isIn := ⟨kq_in_of (n := 300) (by decide +kernel) rfl, kq_in_of (n := 56) (by decide +kernel) rfl, kq_in_of (n := 299) (by decide +kernel) rfl⟩
theorem kw_H_witnessHeat : kq_wV km_H_witnessHeat := ⟨kq_in_of (n := 304) (by decide +kernel) rfl, kq_in_of (n := 57) (by decide +kernel) rfl, kq_in_of (n := 303) (by decide +kernel) rfl, kq_in_of (n := 3) (by decide +kernel) rfl⟩
theorem kw_H_wifeHeat : kq_wV km_H_wifeHeat := ⟨kq_in_of (n := 309) (by decide +kernel) rfl, kq_in_of (n := 57) (by decide +kernel) rfl, kq_in_of (n := 308) (by decide +kernel) rfl, kq_in_of (n := 4) (by decide +kernel) rfl⟩
theorem kw_H_anotherPlumberLies : kq_wV km_H_anotherPlumberLies := ⟨kq_in_of (n := 313) (by decide +kernel) rfl, kq_in_of (n := 57) (by decide +kernel) rfl, kq_in_of (n := 312) (by decide +kernel) rfl, kq_in_of (n := 5) (by decide +kernel) rfl⟩
theorem kw_K_ask : kq_wV km_K_ask := ⟨kq_in_of (n := 319) (by decide +kernel) rfl, kq_in_of (n := 56) (by decide +kernel) rfl, kq_in_of (n := 317) (by decide +kernel) rfl, kq_in_of (n := 318) (by decide +kernel) rfl⟩
theorem kw_H_hearAnswer : kq_wV km_H_hearAnswer := ⟨kq_in_of (n := 323) (by decide +kernel) rfl, kq_in_of (n := 57) (by decide +kernel) rfl, kq_in_of (n := 321) (by decide +kernel) rfl, kq_in_of (n := 322) (by decide +kernel) rfl⟩
theorem kw_jM_min : kq_wS km_jM_min := ⟨kq_in_of (n := 327) (by decide +kernel) rfl, kq_in_of (n := 61) (by decide +kernel) rfl, kq_in_of (n := 326) (by decide +kernel) rfl⟩
theorem kw_jM_max : kq_wS km_jM_max := ⟨kq_in_of (n := 330) (by decide +kernel) rfl, kq_in_of (n := 61) (by decide +kernel) rfl, kq_in_of (n := 329) (by decide +kernel) rfl⟩
theorem kw_H_learnsBy : kq_wV km_H_learnsBy := ⟨kq_in_of (n := 335) (by decide +kernel) rfl, kq_in_of (n := 57) (by decide +kernel) rfl, kq_in_of (n := 334) (by decide +kernel) rfl, kq_in_of (n := 6) (by decide +kernel) rfl⟩
theorem kw_K_swap : kq_wV km_K_swap := ⟨kq_in_of (n := 339) (by decide +kernel) rfl, kq_in_of (n := 56) (by decide +kernel) rfl, kq_in_of (n := 337) (by decide +kernel) rfl, kq_in_of (n := 338) (by decide +kernel) rfl⟩
theorem kw_H_changeNumbers : kq_wV km_H_changeNumbers := ⟨kq_in_of (n := 343) (by decide +kernel) rfl, kq_in_of (n := 57) (by decide +kernel) rfl, kq_in_of (n := 341) (by decide +kernel) rfl, kq_in_of (n := 342) (by decide +kernel) rfl⟩
theorem kw_H_exchange : kq_wS km_H_exchange := ⟨kq_in_of (n := 346) (by decide +kernel) rfl, kq_in_of (n := 57) (by decide +kernel) rfl, kq_in_of (n := 345) (by decide +kernel) rfl⟩
theorem kw_K_minutes : kq_wV km_K_minutes := ⟨kq_in_of (n := 350) (by decide +kernel) rfl, kq_in_of (n := 56) (by decide +kernel) rfl, kq_in_of (n := 348) (by decide +kernel) rfl, kq_in_of (n := 349) (by decide +kernel) rfl⟩
theorem kw_H_teaAfter : kq_wV km_H_teaAfter := ⟨kq_in_of (n := 355) (by decide +kernel) rfl, kq_in_of (n := 57) (by decide +kernel) rfl, kq_in_of (n := 353) (by decide +kernel) rfl, kq_in_of (n := 354) (by decide +kernel) rfl⟩
theorem kw_H_passMinute : kq_wV km_H_passMinute := ⟨kq_in_of (n := 359) (by decide +kernel) rfl, kq_in_of (n := 57) (by decide +kernel) rfl, kq_in_of (n := 357) (by decide +kernel) rfl, kq_in_of (n := 358) (by decide +kernel) rfl⟩
theorem kw_H_whoseTurn : kq_wV km_H_whoseTurn := ⟨kq_in_of (n := 363) (by decide +kernel) rfl, kq_in_of (n := 57) (by decide +kernel) rfl, kq_in_of (n := 361) (by decide +kernel) rfl, kq_in_of (n := 362) (by decide +kernel) rfl⟩
theorem kw_H_factAsked : kq_wV km_H_factAsked := ⟨kq_in_of (n := 367) (by decide +kernel) rfl, kq_in_of (n := 57) (by decide +kernel) rfl, kq_in_of (n := 365) (by decide +kernel) rfl, kq_in_of (n := 366) (by decide +kernel) rfl⟩
theorem kw_K_now : kq_wV km_K_now := ⟨kq_in_of (n := 372) (by decide +kernel) rfl, kq_in_of (n := 56) (by decide +kernel) rfl, kq_in_of (n := 370) (by decide +kernel) rfl, kq_in_of (n := 371) (by decide +kernel) rfl⟩
theorem kw_K_on : kq_wV km_K_on := ⟨kq_in_of (n := 378) (by decide +kernel) rfl, kq_in_of (n := 56) (by decide +kernel) rfl, kq_in_of (n := 376) (by decide +kernel) rfl, kq_in_of (n := 377) (by decide +kernel) rfl⟩
theorem kw_H_become : kq_wV km_H_become := ⟨kq_in_of (n := 382) (by decide +kernel) rfl, kq_in_of (n := 57) (by decide +kernel) rfl, kq_in_of (n := 380) (by decide +kernel) rfl, kq_in_of (n := 381) (by decide +kernel) rfl⟩
theorem kw_K_then : kq_wV km_K_then := ⟨kq_in_of (n := 386) (by decide +kernel) rfl, kq_in_of (n := 56) (by decide +kernel) rfl, kq_in_of (n := 384) (by decide +kernel) rfl, kq_in_of (n := 385) (by decide +kernel) rfl⟩
theorem kw_K_boils : kq_wV km_K_boils := ⟨kq_in_of (n := 390) (by decide +kernel) rfl, kq_in_of (n := 56) (by decide +kernel) rfl, kq_in_of (n := 388) (by decide +kernel) rfl, kq_in_of (n := 389) (by decide +kernel) rfl⟩
theorem kw_K_doubts : kq_wV km_K_doubts := ⟨kq_in_of (n := 395) (by decide +kernel) rfl, kq_in_of (n := 56) (by decide +kernel) rfl, kq_in_of (n := 393) (by decide +kernel) rfl, kq_in_of (n := 394) (by decide +kernel) rfl⟩
theorem kw_K_worst : kq_wV km_K_worst := ⟨kq_in_of (n := 399) (by decide +kernel) rfl, kq_in_of (n := 56) (by decide +kernel) rfl, kq_in_of (n := 397) (by decide +kernel) rfl, kq_in_of (n := 398) (by decide +kernel) rfl⟩
theorem kw_K_turns : kq_wV km_K_turns := ⟨kq_in_of (n := 403) (by decide +kernel) rfl, kq_in_of (n := 56) (by decide +kernel) rfl, kq_in_of (n := 401) (by decide +kernel) rfl, kq_in_of (n := 402) (by decide +kernel) rfl⟩
theorem kw_K_sure : kq_wV km_K_sure := ⟨kq_in_of (n := 407) (by decide +kernel) rfl, kq_in_of (n := 56) (by decide +kernel) rfl, kq_in_of (n := 405) (by decide +kernel) rfl, kq_in_of (n := 406) (by decide +kernel) rfl⟩
theorem kw_K_water : kq_wV km_K_water := ⟨kq_in_of (n := 411) (by decide +kernel) rfl, kq_in_of (n := 56) (by decide +kernel) rfl, kq_in_of (n := 409) (by decide +kernel) rfl, kq_in_of (n := 410) (by decide +kernel) rfl⟩
theorem kw_K_kind : kq_wV km_K_kind := ⟨kq_in_of (n := 415) (by decide +kernel) rfl, kq_in_of (n := 56) (by decide +kernel) rfl, kq_in_of (n := 413) (by decide +kernel) rfl, kq_in_of (n := 414) (by decide +kernel) rfl⟩
theorem kw_K_says : kq_wV km_K_says := ⟨kq_in_of (n := 419) (by decide +kernel) rfl, kq_in_of (n := 56) (by decide +kernel) rfl, kq_in_of (n := 417) (by decide +kernel) rfl, kq_in_of (n := 418) (by decide +kernel) rfl⟩
theorem kw_K_fact : kq_wV km_K_fact := ⟨kq_in_of (n := 423) (by decide +kernel) rfl, kq_in_of (n := 56) (by decide +kernel) rfl, kq_in_of (n := 421) (by decide +kernel) rfl, kq_in_of (n := 422) (by decide +kernel) rfl⟩
theorem kw_K_feed : kq_wV km_K_feed := ⟨kq_in_of (n := 427) (by decide +kernel) rfl, kq_in_of (n := 56) (by decide +kernel) rfl, kq_in_of (n := 425) (by decide +kernel) rfl, kq_in_of (n := 426) (by decide +kernel) rfl⟩
theorem kw_C_append : kq_wV km_C_append := ⟨kq_in_of (n := 431) (by decide +kernel) rfl, kq_in_of (n := 58) (by decide +kernel) rfl, kq_in_of (n := 429) (by decide +kernel) rfl, kq_in_of (n := 430) (by decide +kernel) rfl⟩
theorem kw_K_wipe : kq_wV km_K_wipe := ⟨kq_in_of (n := 435) (by decide +kernel) rfl, kq_in_of (n := 56) (by decide +kernel) rfl, kq_in_of (n := 433) (by decide +kernel) rfl, kq_in_of (n := 434) (by decide +kernel) rfl⟩
theorem kw_K_inquest : kq_wV km_K_inquest := ⟨kq_in_of (n := 439) (by decide +kernel) rfl, kq_in_of (n := 56) (by decide +kernel) rfl, kq_in_of (n := 437) (by decide +kernel) rfl, kq_in_of (n := 438) (by decide +kernel) rfl⟩
theorem kw_C_takeDown : kq_wV km_C_takeDown := ⟨kq_in_of (n := 443) (by decide +kernel) rfl, kq_in_of (n := 58) (by decide +kernel) rfl, kq_in_of (n := 441) (by decide +kernel) rfl, kq_in_of (n := 442) (by decide +kernel) rfl⟩
theorem kw_C_nextToken : kq_wV km_C_nextToken := ⟨kq_in_of (n := 447) (by decide +kernel) rfl, kq_in_of (n := 58) (by decide +kernel) rfl, kq_in_of (n := 446) (by decide +kernel) rfl, kq_in_of (n := 7) (by decide +kernel) rfl⟩
theorem kw_C_endOfRun : kq_wV km_C_endOfRun := ⟨kq_in_of (n := 451) (by decide +kernel) rfl, kq_in_of (n := 58) (by decide +kernel) rfl, kq_in_of (n := 450) (by decide +kernel) rfl, kq_in_of (n := 8) (by decide +kernel) rfl⟩
theorem kw_C_numberThere : kq_wV km_C_numberThere := ⟨kq_in_of (n := 455) (by decide +kernel) rfl, kq_in_of (n := 58) (by decide +kernel) rfl, kq_in_of (n := 454) (by decide +kernel) rfl, kq_in_of (n := 9) (by decide +kernel) rfl⟩
theorem kw_C_takeItem : kq_wV km_C_takeItem := ⟨kq_in_of (n := 459) (by decide +kernel) rfl, kq_in_of (n := 58) (by decide +kernel) rfl, kq_in_of (n := 458) (by decide +kernel) rfl, kq_in_of (n := 10) (by decide +kernel) rfl⟩
theorem kw_C_kindNamed : kq_wV km_C_kindNamed := ⟨kq_in_of (n := 463) (by decide +kernel) rfl, kq_in_of (n := 58) (by decide +kernel) rfl, kq_in_of (n := 462) (by decide +kernel) rfl, kq_in_of (n := 11) (by decide +kernel) rfl⟩
theorem kw_C_nameOf : kq_wS km_C_nameOf := ⟨kq_in_of (n := 466) (by decide +kernel) rfl, kq_in_of (n := 58) (by decide +kernel) rfl, kq_in_of (n := 465) (by decide +kernel) rfl⟩
theorem kw_C_isWord : kq_wV km_C_isWord := ⟨kq_in_of (n := 476) (by decide +kernel) rfl, kq_in_of (n := 58) (by decide +kernel) rfl, kq_in_of (n := 475) (by decide +kernel) rfl, kq_in_of (n := 12) (by decide +kernel) rfl⟩
theorem kw_jS_length : kq_wV km_jS_length := ⟨kq_in_of (n := 480) (by decide +kernel) rfl, kq_in_of (n := 62) (by decide +kernel) rfl, kq_in_of (n := 478) (by decide +kernel) rfl, kq_in_of (n := 479) (by decide +kernel) rfl⟩
theorem kw_jS_coder : kq_wV km_jS_coder := ⟨kq_in_of (n := 484) (by decide +kernel) rfl, kq_in_of (n := 62) (by decide +kernel) rfl, kq_in_of (n := 482) (by decide +kernel) rfl, kq_in_of (n := 483) (by decide +kernel) rfl⟩
theorem kw_jS_charAt : kq_wV km_jS_charAt := ⟨kq_in_of (n := 490) (by decide +kernel) rfl, kq_in_of (n := 62) (by decide +kernel) rfl, kq_in_of (n := 488) (by decide +kernel) rfl, kq_in_of (n := 489) (by decide +kernel) rfl⟩
theorem kw_jS_isLatin1 : kq_wV km_jS_isLatin1 := ⟨kq_in_of (n := 494) (by decide +kernel) rfl, kq_in_of (n := 62) (by decide +kernel) rfl, kq_in_of (n := 492) (by decide +kernel) rfl, kq_in_of (n := 493) (by decide +kernel) rfl⟩
theorem kw_jL_charAt : kq_wS km_jL_charAt := ⟨kq_in_of (n := 497) (by decide +kernel) rfl, kq_in_of (n := 63) (by decide +kernel) rfl, kq_in_of (n := 496) (by decide +kernel) rfl⟩
theorem kw_jS_checkIndex : kq_wS km_jS_checkIndex := ⟨kq_in_of (n := 500) (by decide +kernel) rfl, kq_in_of (n := 62) (by decide +kernel) rfl, kq_in_of (n := 499) (by decide +kernel) rfl⟩
theorem kw_jP_checkIndex : kq_wS km_jP_checkIndex := ⟨kq_in_of (n := 505) (by decide +kernel) rfl, kq_in_of (n := 64) (by decide +kernel) rfl, kq_in_of (n := 504) (by decide +kernel) rfl⟩
theorem kw_C_takeWitness : kq_wV km_C_takeWitness := ⟨kq_in_of (n := 528) (by decide +kernel) rfl, kq_in_of (n := 58) (by decide +kernel) rfl, kq_in_of (n := 527) (by decide +kernel) rfl, kq_in_of (n := 13) (by decide +kernel) rfl⟩
theorem kw_C_isNumberUpTo : kq_wV km_C_isNumberUpTo := ⟨kq_in_of (n := 534) (by decide +kernel) rfl, kq_in_of (n := 58) (by decide +kernel) rfl, kq_in_of (n := 533) (by decide +kernel) rfl, kq_in_of (n := 14) (by decide +kernel) rfl⟩
theorem kw_C_takeFacts : kq_wV km_C_takeFacts := ⟨kq_in_of (n := 539) (by decide +kernel) rfl, kq_in_of (n := 58) (by decide +kernel) rfl, kq_in_of (n := 538) (by decide +kernel) rfl, kq_in_of (n := 15) (by decide +kernel) rfl⟩
theorem kw_C_takeTruth : kq_wV km_C_takeTruth := ⟨kq_in_of (n := 545) (by decide +kernel) rfl, kq_in_of (n := 58) (by decide +kernel) rfl, kq_in_of (n := 544) (by decide +kernel) rfl, kq_in_of (n := 16) (by decide +kernel) rfl⟩
theorem kw_C_takeWater : kq_wV km_C_takeWater := ⟨kq_in_of (n := 551) (by decide +kernel) rfl, kq_in_of (n := 58) (by decide +kernel) rfl, kq_in_of (n := 550) (by decide +kernel) rfl, kq_in_of (n := 17) (by decide +kernel) rfl⟩
theorem kw_K_sheet : kq_wV km_K_sheet := ⟨kq_in_of (n := 556) (by decide +kernel) rfl, kq_in_of (n := 56) (by decide +kernel) rfl, kq_in_of (n := 554) (by decide +kernel) rfl, kq_in_of (n := 555) (by decide +kernel) rfl⟩
theorem kw_K_isSheet : kq_wS km_K_isSheet := ⟨kq_in_of (n := 559) (by decide +kernel) rfl, kq_in_of (n := 56) (by decide +kernel) rfl, kq_in_of (n := 558) (by decide +kernel) rfl⟩
theorem kw_S_layOut : kq_wV km_S_layOut := ⟨kq_in_of (n := 563) (by decide +kernel) rfl, kq_in_of (n := 59) (by decide +kernel) rfl, kq_in_of (n := 561) (by decide +kernel) rfl, kq_in_of (n := 562) (by decide +kernel) rfl⟩
theorem kw_K_write : kq_wV km_K_write := ⟨kq_in_of (n := 567) (by decide +kernel) rfl, kq_in_of (n := 56) (by decide +kernel) rfl, kq_in_of (n := 565) (by decide +kernel) rfl, kq_in_of (n := 566) (by decide +kernel) rfl⟩
theorem kw_S_isMissing : kq_wV km_S_isMissing := ⟨kq_in_of (n := 571) (by decide +kernel) rfl, kq_in_of (n := 59) (by decide +kernel) rfl, kq_in_of (n := 569) (by decide +kernel) rfl, kq_in_of (n := 570) (by decide +kernel) rfl⟩
theorem kw_S_lowestBits : kq_wV km_S_lowestBits := ⟨kq_in_of (n := 575) (by decide +kernel) rfl, kq_in_of (n := 59) (by decide +kernel) rfl, kq_in_of (n := 573) (by decide +kernel) rfl, kq_in_of (n := 574) (by decide +kernel) rfl⟩
theorem kw_K_copy : kq_wV km_K_copy := ⟨kq_in_of (n := 579) (by decide +kernel) rfl, kq_in_of (n := 56) (by decide +kernel) rfl, kq_in_of (n := 577) (by decide +kernel) rfl, kq_in_of (n := 578) (by decide +kernel) rfl⟩
theorem kw_S_hasStretch : kq_wV km_S_hasStretch := ⟨kq_in_of (n := 583) (by decide +kernel) rfl, kq_in_of (n := 59) (by decide +kernel) rfl, kq_in_of (n := 581) (by decide +kernel) rfl, kq_in_of (n := 582) (by decide +kernel) rfl⟩
theorem kw_K_lays : kq_wV km_K_lays := ⟨kq_in_of (n := 590) (by decide +kernel) rfl, kq_in_of (n := 56) (by decide +kernel) rfl, kq_in_of (n := 588) (by decide +kernel) rfl, kq_in_of (n := 589) (by decide +kernel) rfl⟩
theorem kw_K_book : kq_wV km_K_book := ⟨kq_in_of (n := 595) (by decide +kernel) rfl, kq_in_of (n := 56) (by decide +kernel) rfl, kq_in_of (n := 593) (by decide +kernel) rfl, kq_in_of (n := 594) (by decide +kernel) rfl⟩
theorem kw_K_read : kq_wV km_K_read := ⟨kq_in_of (n := 599) (by decide +kernel) rfl, kq_in_of (n := 56) (by decide +kernel) rfl, kq_in_of (n := 597) (by decide +kernel) rfl, kq_in_of (n := 598) (by decide +kernel) rfl⟩
theorem kw_H_goesBy : kq_wV km_H_goesBy := ⟨kq_in_of (n := 603) (by decide +kernel) rfl, kq_in_of (n := 57) (by decide +kernel) rfl, kq_in_of (n := 601) (by decide +kernel) rfl, kq_in_of (n := 602) (by decide +kernel) rfl⟩
theorem kw_K_image : kq_wV km_K_image := ⟨kq_in_of (n := 607) (by decide +kernel) rfl, kq_in_of (n := 56) (by decide +kernel) rfl, kq_in_of (n := 605) (by decide +kernel) rfl, kq_in_of (n := 606) (by decide +kernel) rfl⟩
theorem kw_K_undo : kq_wV km_K_undo := ⟨kq_in_of (n := 611) (by decide +kernel) rfl, kq_in_of (n := 56) (by decide +kernel) rfl, kq_in_of (n := 609) (by decide +kernel) rfl, kq_in_of (n := 610) (by decide +kernel) rfl⟩
theorem kw_K_tear : kq_wV km_K_tear := ⟨kq_in_of (n := 615) (by decide +kernel) rfl, kq_in_of (n := 56) (by decide +kernel) rfl, kq_in_of (n := 613) (by decide +kernel) rfl, kq_in_of (n := 614) (by decide +kernel) rfl⟩
theorem kw_K_count : kq_wV km_K_count := ⟨kq_in_of (n := 619) (by decide +kernel) rfl, kq_in_of (n := 56) (by decide +kernel) rfl, kq_in_of (n := 617) (by decide +kernel) rfl, kq_in_of (n := 618) (by decide +kernel) rfl⟩
theorem kw_H_allLies : kq_wV km_H_allLies := ⟨kq_in_of (n := 623) (by decide +kernel) rfl, kq_in_of (n := 57) (by decide +kernel) rfl, kq_in_of (n := 621) (by decide +kernel) rfl, kq_in_of (n := 622) (by decide +kernel) rfl⟩
theorem kw_jI_bitCount : kq_wS km_jI_bitCount := ⟨kq_in_of (n := 626) (by decide +kernel) rfl, kq_in_of (n := 67) (by decide +kernel) rfl, kq_in_of (n := 625) (by decide +kernel) rfl⟩
theorem kw_H_allSure : kq_wV km_H_allSure := ⟨kq_in_of (n := 633) (by decide +kernel) rfl, kq_in_of (n := 57) (by decide +kernel) rfl, kq_in_of (n := 631) (by decide +kernel) rfl, kq_in_of (n := 632) (by decide +kernel) rfl⟩
theorem kw_K_status : kq_wV km_K_status := ⟨kq_in_of (n := 637) (by decide +kernel) rfl, kq_in_of (n := 56) (by decide +kernel) rfl, kq_in_of (n := 635) (by decide +kernel) rfl, kq_in_of (n := 636) (by decide +kernel) rfl⟩
theorem kw_M_truth : kq_wV km_M_truth := ⟨kq_in_of (n := 708) (by decide +kernel) rfl, kq_in_of (n := 60) (by decide +kernel) rfl, kq_in_of (n := 706) (by decide +kernel) rfl, kq_in_of (n := 707) (by decide +kernel) rfl⟩
theorem kw_M_in : kq_wS km_M_in := ⟨kq_in_of (n := 711) (by decide +kernel) rfl, kq_in_of (n := 60) (by decide +kernel) rfl, kq_in_of (n := 710) (by decide +kernel) rfl⟩
theorem kw_M_becomes : kq_wV km_M_becomes := ⟨kq_in_of (n := 715) (by decide +kernel) rfl, kq_in_of (n := 60) (by decide +kernel) rfl, kq_in_of (n := 714) (by decide +kernel) rfl, kq_in_of (n := 18) (by decide +kernel) rfl⟩
theorem kw_M_finds : kq_wV km_M_finds := ⟨kq_in_of (n := 720) (by decide +kernel) rfl, kq_in_of (n := 60) (by decide +kernel) rfl, kq_in_of (n := 719) (by decide +kernel) rfl, kq_in_of (n := 19) (by decide +kernel) rfl⟩
theorem kw_M_kettle : kq_wV km_M_kettle := ⟨kq_in_of (n := 724) (by decide +kernel) rfl, kq_in_of (n := 60) (by decide +kernel) rfl, kq_in_of (n := 722) (by decide +kernel) rfl, kq_in_of (n := 723) (by decide +kernel) rfl⟩
theorem kw_M_witness : kq_wV km_M_witness := ⟨kq_in_of (n := 728) (by decide +kernel) rfl, kq_in_of (n := 60) (by decide +kernel) rfl, kq_in_of (n := 726) (by decide +kernel) rfl, kq_in_of (n := 727) (by decide +kernel) rfl⟩
theorem kw_M_isKind : kq_wS km_M_isKind := ⟨kq_in_of (n := 731) (by decide +kernel) rfl, kq_in_of (n := 60) (by decide +kernel) rfl, kq_in_of (n := 730) (by decide +kernel) rfl⟩
theorem kw_M_adds : kq_wV km_M_adds := ⟨kq_in_of (n := 736) (by decide +kernel) rfl, kq_in_of (n := 60) (by decide +kernel) rfl, kq_in_of (n := 735) (by decide +kernel) rfl, kq_in_of (n := 20) (by decide +kernel) rfl⟩
theorem kw_M_puts : kq_wV km_M_puts := ⟨kq_in_of (n := 740) (by decide +kernel) rfl, kq_in_of (n := 60) (by decide +kernel) rfl, kq_in_of (n := 739) (by decide +kernel) rfl, kq_in_of (n := 21) (by decide +kernel) rfl⟩
theorem kw_M_of : kq_wV km_M_of := ⟨kq_in_of (n := 744) (by decide +kernel) rfl, kq_in_of (n := 60) (by decide +kernel) rfl, kq_in_of (n := 742) (by decide +kernel) rfl, kq_in_of (n := 743) (by decide +kernel) rfl⟩
theorem kw_M_isOne : kq_wV km_M_isOne := ⟨kq_in_of (n := 748) (by decide +kernel) rfl, kq_in_of (n := 60) (by decide +kernel) rfl, kq_in_of (n := 747) (by decide +kernel) rfl, kq_in_of (n := 22) (by decide +kernel) rfl⟩
theorem kw_M_lies : kq_wV km_M_lies := ⟨kq_in_of (n := 752) (by decide +kernel) rfl, kq_in_of (n := 60) (by decide +kernel) rfl, kq_in_of (n := 751) (by decide +kernel) rfl, kq_in_of (n := 23) (by decide +kernel) rfl⟩
theorem kw_M_its : kq_wV km_M_its := ⟨kq_in_of (n := 756) (by decide +kernel) rfl, kq_in_of (n := 60) (by decide +kernel) rfl, kq_in_of (n := 755) (by decide +kernel) rfl, kq_in_of (n := 24) (by decide +kernel) rfl⟩
theorem kw_M_right : kq_wV km_M_right := ⟨kq_in_of (n := 760) (by decide +kernel) rfl, kq_in_of (n := 60) (by decide +kernel) rfl, kq_in_of (n := 759) (by decide +kernel) rfl, kq_in_of (n := 25) (by decide +kernel) rfl⟩
theorem kw_M_lucky : kq_wV km_M_lucky := ⟨kq_in_of (n := 764) (by decide +kernel) rfl, kq_in_of (n := 60) (by decide +kernel) rfl, kq_in_of (n := 763) (by decide +kernel) rfl, kq_in_of (n := 26) (by decide +kernel) rfl⟩
theorem kw_M_wrong : kq_wV km_M_wrong := ⟨kq_in_of (n := 768) (by decide +kernel) rfl, kq_in_of (n := 60) (by decide +kernel) rfl, kq_in_of (n := 767) (by decide +kernel) rfl, kq_in_of (n := 27) (by decide +kernel) rfl⟩
theorem kw_M_doubting : kq_wV km_M_doubting := ⟨kq_in_of (n := 772) (by decide +kernel) rfl, kq_in_of (n := 60) (by decide +kernel) rfl, kq_in_of (n := 771) (by decide +kernel) rfl, kq_in_of (n := 28) (by decide +kernel) rfl⟩
theorem kw_M_set : kq_wV km_M_set := ⟨kq_in_of (n := 776) (by decide +kernel) rfl, kq_in_of (n := 60) (by decide +kernel) rfl, kq_in_of (n := 774) (by decide +kernel) rfl, kq_in_of (n := 775) (by decide +kernel) rfl⟩
theorem kw_M_turn : kq_wV km_M_turn := ⟨kq_in_of (n := 780) (by decide +kernel) rfl, kq_in_of (n := 60) (by decide +kernel) rfl, kq_in_of (n := 778) (by decide +kernel) rfl, kq_in_of (n := 779) (by decide +kernel) rfl⟩
theorem kw_M_as : kq_wV km_M_as := ⟨kq_in_of (n := 784) (by decide +kernel) rfl, kq_in_of (n := 60) (by decide +kernel) rfl, kq_in_of (n := 782) (by decide +kernel) rfl, kq_in_of (n := 783) (by decide +kernel) rfl⟩
theorem kw_M_heats : kq_wV km_M_heats := ⟨kq_in_of (n := 789) (by decide +kernel) rfl, kq_in_of (n := 60) (by decide +kernel) rfl, kq_in_of (n := 787) (by decide +kernel) rfl, kq_in_of (n := 788) (by decide +kernel) rfl⟩
theorem kw_M_isFact : kq_wS km_M_isFact := ⟨kq_in_of (n := 792) (by decide +kernel) rfl, kq_in_of (n := 60) (by decide +kernel) rfl, kq_in_of (n := 791) (by decide +kernel) rfl⟩
theorem kw_M_heating : kq_wV km_M_heating := ⟨kq_in_of (n := 796) (by decide +kernel) rfl, kq_in_of (n := 60) (by decide +kernel) rfl, kq_in_of (n := 795) (by decide +kernel) rfl, kq_in_of (n := 29) (by decide +kernel) rfl⟩
theorem kw_M_besideLiar : kq_wV km_M_besideLiar := ⟨kq_in_of (n := 800) (by decide +kernel) rfl, kq_in_of (n := 60) (by decide +kernel) rfl, kq_in_of (n := 799) (by decide +kernel) rfl, kq_in_of (n := 30) (by decide +kernel) rfl⟩
theorem kw_M_isPlumber : kq_wV km_M_isPlumber := ⟨kq_in_of (n := 804) (by decide +kernel) rfl, kq_in_of (n := 60) (by decide +kernel) rfl, kq_in_of (n := 803) (by decide +kernel) rfl, kq_in_of (n := 31) (by decide +kernel) rfl⟩
theorem kw_M_ask : kq_wV km_M_ask := ⟨kq_in_of (n := 808) (by decide +kernel) rfl, kq_in_of (n := 60) (by decide +kernel) rfl, kq_in_of (n := 806) (by decide +kernel) rfl, kq_in_of (n := 807) (by decide +kernel) rfl⟩
theorem kw_M_answers : kq_wV km_M_answers := ⟨kq_in_of (n := 812) (by decide +kernel) rfl, kq_in_of (n := 60) (by decide +kernel) rfl, kq_in_of (n := 811) (by decide +kernel) rfl, kq_in_of (n := 32) (by decide +kernel) rfl⟩
theorem kw_M_held : kq_wS km_M_held := ⟨kq_in_of (n := 815) (by decide +kernel) rfl, kq_in_of (n := 60) (by decide +kernel) rfl, kq_in_of (n := 814) (by decide +kernel) rfl⟩
theorem kw_M_swap : kq_wV km_M_swap := ⟨kq_in_of (n := 819) (by decide +kernel) rfl, kq_in_of (n := 60) (by decide +kernel) rfl, kq_in_of (n := 817) (by decide +kernel) rfl, kq_in_of (n := 818) (by decide +kernel) rfl⟩
theorem kw_M_swaps : kq_wV km_M_swaps := ⟨kq_in_of (n := 823) (by decide +kernel) rfl, kq_in_of (n := 60) (by decide +kernel) rfl, kq_in_of (n := 822) (by decide +kernel) rfl, kq_in_of (n := 33) (by decide +kernel) rfl⟩
theorem kw_M_minutes : kq_wV km_M_minutes := ⟨kq_in_of (n := 827) (by decide +kernel) rfl, kq_in_of (n := 60) (by decide +kernel) rfl, kq_in_of (n := 825) (by decide +kernel) rfl, kq_in_of (n := 826) (by decide +kernel) rfl⟩
theorem kw_M_passes : kq_wV km_M_passes := ⟨kq_in_of (n := 833) (by decide +kernel) rfl, kq_in_of (n := 60) (by decide +kernel) rfl, kq_in_of (n := 832) (by decide +kernel) rfl, kq_in_of (n := 34) (by decide +kernel) rfl⟩
theorem kw_M_oneMinute : kq_wV km_M_oneMinute := ⟨kq_in_of (n := 837) (by decide +kernel) rfl, kq_in_of (n := 60) (by decide +kernel) rfl, kq_in_of (n := 836) (by decide +kernel) rfl, kq_in_of (n := 35) (by decide +kernel) rfl⟩
theorem kw_M_whose : kq_wV km_M_whose := ⟨kq_in_of (n := 841) (by decide +kernel) rfl, kq_in_of (n := 60) (by decide +kernel) rfl, kq_in_of (n := 840) (by decide +kernel) rfl, kq_in_of (n := 36) (by decide +kernel) rfl⟩
theorem kw_M_asked : kq_wV km_M_asked := ⟨kq_in_of (n := 845) (by decide +kernel) rfl, kq_in_of (n := 60) (by decide +kernel) rfl, kq_in_of (n := 844) (by decide +kernel) rfl, kq_in_of (n := 37) (by decide +kernel) rfl⟩
theorem kw_M_now : kq_wV km_M_now := ⟨kq_in_of (n := 849) (by decide +kernel) rfl, kq_in_of (n := 60) (by decide +kernel) rfl, kq_in_of (n := 847) (by decide +kernel) rfl, kq_in_of (n := 848) (by decide +kernel) rfl⟩
theorem kw_M_on : kq_wV km_M_on := ⟨kq_in_of (n := 853) (by decide +kernel) rfl, kq_in_of (n := 60) (by decide +kernel) rfl, kq_in_of (n := 851) (by decide +kernel) rfl, kq_in_of (n := 852) (by decide +kernel) rfl⟩
theorem kw_M_moveAll : kq_wV km_M_moveAll := ⟨kq_in_of (n := 857) (by decide +kernel) rfl, kq_in_of (n := 60) (by decide +kernel) rfl, kq_in_of (n := 856) (by decide +kernel) rfl, kq_in_of (n := 38) (by decide +kernel) rfl⟩
theorem kw_M_then : kq_wV km_M_then := ⟨kq_in_of (n := 861) (by decide +kernel) rfl, kq_in_of (n := 60) (by decide +kernel) rfl, kq_in_of (n := 859) (by decide +kernel) rfl, kq_in_of (n := 860) (by decide +kernel) rfl⟩
theorem kw_M_boils : kq_wV km_M_boils := ⟨kq_in_of (n := 865) (by decide +kernel) rfl, kq_in_of (n := 60) (by decide +kernel) rfl, kq_in_of (n := 863) (by decide +kernel) rfl, kq_in_of (n := 864) (by decide +kernel) rfl⟩
theorem kw_M_doubts : kq_wV km_M_doubts := ⟨kq_in_of (n := 870) (by decide +kernel) rfl, kq_in_of (n := 60) (by decide +kernel) rfl, kq_in_of (n := 868) (by decide +kernel) rfl, kq_in_of (n := 869) (by decide +kernel) rfl⟩
theorem kw_M_worst : kq_wV km_M_worst := ⟨kq_in_of (n := 874) (by decide +kernel) rfl, kq_in_of (n := 60) (by decide +kernel) rfl, kq_in_of (n := 872) (by decide +kernel) rfl, kq_in_of (n := 873) (by decide +kernel) rfl⟩
theorem kw_M_turns : kq_wV km_M_turns := ⟨kq_in_of (n := 878) (by decide +kernel) rfl, kq_in_of (n := 60) (by decide +kernel) rfl, kq_in_of (n := 876) (by decide +kernel) rfl, kq_in_of (n := 877) (by decide +kernel) rfl⟩
theorem kw_M_teaBehind : kq_wV km_M_teaBehind := ⟨kq_in_of (n := 882) (by decide +kernel) rfl, kq_in_of (n := 60) (by decide +kernel) rfl, kq_in_of (n := 881) (by decide +kernel) rfl, kq_in_of (n := 39) (by decide +kernel) rfl⟩
theorem kw_M_sure : kq_wV km_M_sure := ⟨kq_in_of (n := 886) (by decide +kernel) rfl, kq_in_of (n := 60) (by decide +kernel) rfl, kq_in_of (n := 884) (by decide +kernel) rfl, kq_in_of (n := 885) (by decide +kernel) rfl⟩
theorem kw_M_water : kq_wV km_M_water := ⟨kq_in_of (n := 890) (by decide +kernel) rfl, kq_in_of (n := 60) (by decide +kernel) rfl, kq_in_of (n := 888) (by decide +kernel) rfl, kq_in_of (n := 889) (by decide +kernel) rfl⟩
theorem kw_M_kind : kq_wV km_M_kind := ⟨kq_in_of (n := 894) (by decide +kernel) rfl, kq_in_of (n := 60) (by decide +kernel) rfl, kq_in_of (n := 892) (by decide +kernel) rfl, kq_in_of (n := 893) (by decide +kernel) rfl⟩
theorem kw_M_says : kq_wV km_M_says := ⟨kq_in_of (n := 898) (by decide +kernel) rfl, kq_in_of (n := 60) (by decide +kernel) rfl, kq_in_of (n := 896) (by decide +kernel) rfl, kq_in_of (n := 897) (by decide +kernel) rfl⟩
theorem kw_M_fact : kq_wV km_M_fact := ⟨kq_in_of (n := 902) (by decide +kernel) rfl, kq_in_of (n := 60) (by decide +kernel) rfl, kq_in_of (n := 900) (by decide +kernel) rfl, kq_in_of (n := 901) (by decide +kernel) rfl⟩
theorem kw_M_feed : kq_wV km_M_feed := ⟨kq_in_of (n := 906) (by decide +kernel) rfl, kq_in_of (n := 60) (by decide +kernel) rfl, kq_in_of (n := 904) (by decide +kernel) rfl, kq_in_of (n := 905) (by decide +kernel) rfl⟩
theorem kw_M_wipe : kq_wV km_M_wipe := ⟨kq_in_of (n := 910) (by decide +kernel) rfl, kq_in_of (n := 60) (by decide +kernel) rfl, kq_in_of (n := 908) (by decide +kernel) rfl, kq_in_of (n := 909) (by decide +kernel) rfl⟩
theorem kw_M_inquest : kq_wV km_M_inquest := ⟨kq_in_of (n := 914) (by decide +kernel) rfl, kq_in_of (n := 60) (by decide +kernel) rfl, kq_in_of (n := 912) (by decide +kernel) rfl, kq_in_of (n := 913) (by decide +kernel) rfl⟩
theorem kw_M_advance : kq_wV km_M_advance := ⟨kq_in_of (n := 918) (by decide +kernel) rfl, kq_in_of (n := 60) (by decide +kernel) rfl, kq_in_of (n := 917) (by decide +kernel) rfl, kq_in_of (n := 40) (by decide +kernel) rfl⟩
theorem kw_M_byteAt : kq_wV km_M_byteAt := ⟨kq_in_of (n := 922) (by decide +kernel) rfl, kq_in_of (n := 60) (by decide +kernel) rfl, kq_in_of (n := 921) (by decide +kernel) rfl, kq_in_of (n := 41) (by decide +kernel) rfl⟩
theorem kw_M_isLetter : kq_wS km_M_isLetter := ⟨kq_in_of (n := 925) (by decide +kernel) rfl, kq_in_of (n := 60) (by decide +kernel) rfl, kq_in_of (n := 924) (by decide +kernel) rfl⟩
theorem kw_M_isDigit : kq_wS km_M_isDigit := ⟨kq_in_of (n := 928) (by decide +kernel) rfl, kq_in_of (n := 60) (by decide +kernel) rfl, kq_in_of (n := 927) (by decide +kernel) rfl⟩
theorem kw_M_wantItem : kq_wV km_M_wantItem := ⟨kq_in_of (n := 935) (by decide +kernel) rfl, kq_in_of (n := 60) (by decide +kernel) rfl, kq_in_of (n := 934) (by decide +kernel) rfl, kq_in_of (n := 42) (by decide +kernel) rfl⟩
theorem kw_M_kindHere : kq_wV km_M_kindHere := ⟨kq_in_of (n := 939) (by decide +kernel) rfl, kq_in_of (n := 60) (by decide +kernel) rfl, kq_in_of (n := 938) (by decide +kernel) rfl, kq_in_of (n := 43) (by decide +kernel) rfl⟩
theorem kw_M_isWord : kq_wV km_M_isWord := ⟨kq_in_of (n := 944) (by decide +kernel) rfl, kq_in_of (n := 60) (by decide +kernel) rfl, kq_in_of (n := 943) (by decide +kernel) rfl, kq_in_of (n := 44) (by decide +kernel) rfl⟩
theorem kw_M_wantOne : kq_wV km_M_wantOne := ⟨kq_in_of (n := 953) (by decide +kernel) rfl, kq_in_of (n := 60) (by decide +kernel) rfl, kq_in_of (n := 952) (by decide +kernel) rfl, kq_in_of (n := 45) (by decide +kernel) rfl⟩
theorem kw_M_mayWant : kq_wV km_M_mayWant := ⟨kq_in_of (n := 958) (by decide +kernel) rfl, kq_in_of (n := 60) (by decide +kernel) rfl, kq_in_of (n := 957) (by decide +kernel) rfl, kq_in_of (n := 46) (by decide +kernel) rfl⟩
theorem kw_M_wantNumber : kq_wV km_M_wantNumber := ⟨kq_in_of (n := 962) (by decide +kernel) rfl, kq_in_of (n := 60) (by decide +kernel) rfl, kq_in_of (n := 961) (by decide +kernel) rfl, kq_in_of (n := 47) (by decide +kernel) rfl⟩
theorem kw_M_mayFacts : kq_wV km_M_mayFacts := ⟨kq_in_of (n := 967) (by decide +kernel) rfl, kq_in_of (n := 60) (by decide +kernel) rfl, kq_in_of (n := 966) (by decide +kernel) rfl, kq_in_of (n := 48) (by decide +kernel) rfl⟩
theorem kw_M_wantTruth : kq_wV km_M_wantTruth := ⟨kq_in_of (n := 973) (by decide +kernel) rfl, kq_in_of (n := 60) (by decide +kernel) rfl, kq_in_of (n := 972) (by decide +kernel) rfl, kq_in_of (n := 49) (by decide +kernel) rfl⟩
theorem kw_M_sheet : kq_wV km_M_sheet := ⟨kq_in_of (n := 979) (by decide +kernel) rfl, kq_in_of (n := 60) (by decide +kernel) rfl, kq_in_of (n := 977) (by decide +kernel) rfl, kq_in_of (n := 978) (by decide +kernel) rfl⟩
theorem kw_M_isSheet : kq_wS km_M_isSheet := ⟨kq_in_of (n := 982) (by decide +kernel) rfl, kq_in_of (n := 60) (by decide +kernel) rfl, kq_in_of (n := 981) (by decide +kernel) rfl⟩
theorem kw_M_write : kq_wV km_M_write := ⟨kq_in_of (n := 987) (by decide +kernel) rfl, kq_in_of (n := 60) (by decide +kernel) rfl, kq_in_of (n := 985) (by decide +kernel) rfl, kq_in_of (n := 986) (by decide +kernel) rfl⟩
theorem kw_M_narrow : kq_wS km_M_narrow := ⟨kq_in_of (n := 991) (by decide +kernel) rfl, kq_in_of (n := 60) (by decide +kernel) rfl, kq_in_of (n := 990) (by decide +kernel) rfl⟩
theorem kw_M_copy : kq_wV km_M_copy := ⟨kq_in_of (n := 995) (by decide +kernel) rfl, kq_in_of (n := 60) (by decide +kernel) rfl, kq_in_of (n := 993) (by decide +kernel) rfl, kq_in_of (n := 994) (by decide +kernel) rfl⟩
theorem kw_M_isPart : kq_wV km_M_isPart := ⟨kq_in_of (n := 999) (by decide +kernel) rfl, kq_in_of (n := 60) (by decide +kernel) rfl, kq_in_of (n := 998) (by decide +kernel) rfl, kq_in_of (n := 50) (by decide +kernel) rfl⟩
theorem kw_M_lays : kq_wV km_M_lays := ⟨kq_in_of (n := 1003) (by decide +kernel) rfl, kq_in_of (n := 60) (by decide +kernel) rfl, kq_in_of (n := 1001) (by decide +kernel) rfl, kq_in_of (n := 1002) (by decide +kernel) rfl⟩
theorem kw_M_badSheet : kq_wV km_M_badSheet := ⟨kq_in_of (n := 1007) (by decide +kernel) rfl, kq_in_of (n := 60) (by decide +kernel) rfl, kq_in_of (n := 1006) (by decide +kernel) rfl, kq_in_of (n := 51) (by decide +kernel) rfl⟩
theorem kw_M_book : kq_wV km_M_book := ⟨kq_in_of (n := 1012) (by decide +kernel) rfl, kq_in_of (n := 60) (by decide +kernel) rfl, kq_in_of (n := 1010) (by decide +kernel) rfl, kq_in_of (n := 1011) (by decide +kernel) rfl⟩
theorem kw_M_read : kq_wV km_M_read := ⟨kq_in_of (n := 1016) (by decide +kernel) rfl, kq_in_of (n := 60) (by decide +kernel) rfl, kq_in_of (n := 1014) (by decide +kernel) rfl, kq_in_of (n := 1015) (by decide +kernel) rfl⟩
theorem kw_M_isSo : kq_wV km_M_isSo := ⟨kq_in_of (n := 1020) (by decide +kernel) rfl, kq_in_of (n := 60) (by decide +kernel) rfl, kq_in_of (n := 1019) (by decide +kernel) rfl, kq_in_of (n := 52) (by decide +kernel) rfl⟩
theorem kw_M_image : kq_wV km_M_image := ⟨kq_in_of (n := 1024) (by decide +kernel) rfl, kq_in_of (n := 60) (by decide +kernel) rfl, kq_in_of (n := 1022) (by decide +kernel) rfl, kq_in_of (n := 1023) (by decide +kernel) rfl⟩
theorem kw_M_undo : kq_wV km_M_undo := ⟨kq_in_of (n := 1028) (by decide +kernel) rfl, kq_in_of (n := 60) (by decide +kernel) rfl, kq_in_of (n := 1026) (by decide +kernel) rfl, kq_in_of (n := 1027) (by decide +kernel) rfl⟩
theorem kw_M_tear : kq_wV km_M_tear := ⟨kq_in_of (n := 1032) (by decide +kernel) rfl, kq_in_of (n := 60) (by decide +kernel) rfl, kq_in_of (n := 1030) (by decide +kernel) rfl, kq_in_of (n := 1031) (by decide +kernel) rfl⟩
theorem kw_M_count : kq_wV km_M_count := ⟨kq_in_of (n := 1036) (by decide +kernel) rfl, kq_in_of (n := 60) (by decide +kernel) rfl, kq_in_of (n := 1034) (by decide +kernel) rfl, kq_in_of (n := 1035) (by decide +kernel) rfl⟩
theorem kw_M_liesOfAll : kq_wV km_M_liesOfAll := ⟨kq_in_of (n := 1040) (by decide +kernel) rfl, kq_in_of (n := 60) (by decide +kernel) rfl, kq_in_of (n := 1039) (by decide +kernel) rfl, kq_in_of (n := 53) (by decide +kernel) rfl⟩
theorem kw_M_bits : kq_wS km_M_bits := ⟨kq_in_of (n := 1043) (by decide +kernel) rfl, kq_in_of (n := 60) (by decide +kernel) rfl, kq_in_of (n := 1042) (by decide +kernel) rfl⟩
theorem kw_M_sureOfAll : kq_wV km_M_sureOfAll := ⟨kq_in_of (n := 1047) (by decide +kernel) rfl, kq_in_of (n := 60) (by decide +kernel) rfl, kq_in_of (n := 1046) (by decide +kernel) rfl, kq_in_of (n := 54) (by decide +kernel) rfl⟩
theorem kw_M_status : kq_wV km_M_status := ⟨kq_in_of (n := 1051) (by decide +kernel) rfl, kq_in_of (n := 60) (by decide +kernel) rfl, kq_in_of (n := 1049) (by decide +kernel) rfl, kq_in_of (n := 1050) (by decide +kernel) rfl⟩
def kq_sl : List Nat := [7, 4, 5, 6, 5, 7, 4, 5, 4, 4, 5, 5]
def kq_sb : List (List Int32) := [[112, 108, 117, 109, 98, 101, 114], [119, 105, 102, 101], [99, 104, 105, 108, 100], [101, 120, 112, 101, 114, 116], [110, 117, 114, 115, 101], [119, 105, 116, 110, 101, 115, 115], [115, 117, 114, 101], [107, 110, 111, 119, 115], [115, 97, 121, 115], [116, 114, 117, 101], [102, 97, 108, 115, 101], [119, 97, 116, 101, 114]]
def kq_si : Nat → Nat := fun j => match j with
  | 0 => 107
  | 1 => 109
  | 2 => 111
  | 3 => 113
  | 4 => 115
  | 5 => 117
  | 6 => 75
  | 7 => 84
  | 8 => 93
  | 9 => 49
  | 10 => 59
  | _ => 61
def kq_st : Nat → String := fun j => match j with
  | 0 => "plumber"
  | 1 => "wife"
  | 2 => "child"
  | 3 => "expert"
  | 4 => "nurse"
  | 5 => "witness"
  | 6 => "sure"
  | 7 => "knows"
  | 8 => "says"
  | 9 => "true"
  | 10 => "false"
  | _ => "water"
def kq_KA : Nat → Int32 := fun j => match j with
  | 0 => -1
  | 1 => 0
  | 2 => 0
  | 3 => 0
  | 4 => 1
  | _ => 2
def kq_DK : Nat → Int32 := fun j => match j with
  | 0 => 1
  | 1 => 2
  | 2 => 1
  | 3 => 0
  | 4 => 0
  | _ => 1
end
section
/-! AN ABSTRACT MACHINE over one fixed memory: values, memory, what a state of the machine holds of it -/
abbrev kq_V : Type := Int32 ⊕ Int64 ⊕ (Nat × Nat)
abbrev kq_I (x : Int32) : kq_V := Sum.inl x
abbrev kq_L (x : Int64) : kq_V := Sum.inr (Sum.inl x)
abbrev kq_R (r i : Nat) : kq_V := Sum.inr (Sum.inr (r, i))
abbrev kq_M : Type := (Nat → Nat → Nat → Int32) × (Nat → Nat → Nat → Int64) × (Nat × (Nat → Int32))
def kq_rI (μ : kq_M) (r i k : Nat) : Int32 := μ.1 r i k
def kq_rL (μ : kq_M) (r i k : Nat) : Int64 := μ.2.1 r i k
def kq_sc (μ : kq_M) : Nat × (Nat → Int32) := μ.2.2
def kq_wI (μ : kq_M) (r i k : Nat) (v : Int32) : kq_M := (fun a b c => if a = r ∧ b = i ∧ c = k then v else μ.1 a b c, μ.2)
def kq_wL (μ : kq_M) (r i k : Nat) (v : Int64) : kq_M := (μ.1, fun a b c => if a = r ∧ b = i ∧ c = k then v else μ.2.1 a b c, μ.2.2)
/-- numbers of a long row come to another (or the same), as they all were -/
def kq_cL (μ : kq_M) (r i sp r' i' dp n : Nat) : kq_M := (μ.1, fun a b c => if a = r' ∧ b = i' ∧ dp ≤ c ∧ c < dp + n then μ.2.1 r i (sp + (c - dp)) else μ.2.1 a b c, μ.2.2)
theorem kq_rI_wI (μ : kq_M) (r i k : Nat) (v : Int32) (a b c : Nat) : kq_rI (kq_wI μ r i k v) a b c = if a = r ∧ b = i ∧ c = k then v else kq_rI μ a b c := rfl
theorem kq_rI_wL (μ : kq_M) (r i k : Nat) (v : Int64) (a b c : Nat) : kq_rI (kq_wL μ r i k v) a b c = kq_rI μ a b c := rfl
theorem kq_rL_wI (μ : kq_M) (r i k : Nat) (v : Int32) (a b c : Nat) : kq_rL (kq_wI μ r i k v) a b c = kq_rL μ a b c := rfl
theorem kq_rL_wL (μ : kq_M) (r i k : Nat) (v : Int64) (a b c : Nat) : kq_rL (kq_wL μ r i k v) a b c = if a = r ∧ b = i ∧ c = k then v else kq_rL μ a b c := rfl
theorem kq_rI_cL (μ : kq_M) (r i sp r' i' dp n a b c : Nat) : kq_rI (kq_cL μ r i sp r' i' dp n) a b c = kq_rI μ a b c := rfl
theorem kq_rL_cL (μ : kq_M) (r i sp r' i' dp n a b c : Nat) : kq_rL (kq_cL μ r i sp r' i' dp n) a b c = if a = r' ∧ b = i' ∧ dp ≤ c ∧ c < dp + n then kq_rL μ r i (sp + (c - dp)) else kq_rL μ a b c := rfl
theorem kq_sc_wI (μ : kq_M) (r i k : Nat) (v : Int32) : kq_sc (kq_wI μ r i k v) = kq_sc μ := rfl
theorem kq_sc_wL (μ : kq_M) (r i k : Nat) (v : Int64) : kq_sc (kq_wL μ r i k v) = kq_sc μ := rfl
theorem kq_sc_cL (μ : kq_M) (r i sp r' i' dp n : Nat) : kq_sc (kq_cL μ r i sp r' i' dp n) = kq_sc μ := rfl
/-- where all stands: classes and slots, array classes, addresses, the heap at the law's start, a static that is only carried -/
abbrev kq_G : Type := va_G × (Nat → ClassId) × (Nat → Nat → Nat) × Heap × Value
def kq_gD (g : kq_G) : va_G := g.1
def kq_gA (g : kq_G) : Nat → ClassId := g.2.1
def kq_gd (g : kq_G) : Nat → Nat → Nat := g.2.2.1
def kq_gH (g : kq_G) : Heap := g.2.2.2.1
def kq_gF (g : kq_G) : Value := g.2.2.2.2
def kq_A (g : kq_G) : Nat → Prop := fun q => (kq_gH g).size ≤ q
def kq_tr (g : kq_G) : kq_V → Value
  | .inl x => .int x
  | .inr (.inl x) => .long x
  | .inr (.inr (r, i)) => if i = 45 then kq_gF g else .ref (kq_gd g r i)
def kq_cat : kq_V → Nat
  | .inr (.inl _) => 2
  | _ => 1
theorem kq_trR (g : kq_G) (r : Nat) {i : Nat} (h : i ≠ 45) : kq_tr g (kq_R r i) = .ref (kq_gd g r i) := by
  show (if i = 45 then kq_gF g else .ref (kq_gd g r i)) = _
  rw [if_neg h]
/-- what a field holds -/
def kq_val (g : kq_G) (μ : kq_M) (r i k : Nat) : Value := match kq_fk i k with
  | 0 => .int (kq_rI μ r i k)
  | 1 => .long (kq_rL μ r i k)
  | _ => .ref (kq_gd g (kq_tg r i k).1 (kq_tg r i k).2)
def kq_av (μ : kq_M) (r i k : Nat) : kq_V := match kq_fk i k with
  | 0 => kq_I (kq_rI μ r i k)
  | 1 => kq_L (kq_rL μ r i k)
  | _ => kq_R (kq_tg r i k).1 (kq_tg r i k).2
theorem kq_tr_av (g : kq_G) (μ : kq_M) (r i k : Nat) (h : (kq_tg r i k).2 ≠ 45) : kq_tr g (kq_av μ r i k) = kq_val g μ r i k := by
  unfold kq_av kq_val
  split
  · rfl
  · rfl
  · exact kq_trR g _ h
def kq_at (g : kq_G) (μ : kq_M) (r i : Nat) (H : Heap) : Prop := match kq_ck i with
  | 0 => t_OB (kq_gd g r i) ((kq_gD g).1 (kq_ci i)) (kq_nF (kq_ci i)) ((kq_gD g).2 (kq_ci i)) H (kq_val g μ r i)
  | 1 => H[kq_gd g r i]? = some (arrV (kq_gA g 0) (kq_len i) (fun j => .int (kq_rI μ r i j)))
  | 2 => H[kq_gd g r i]? = some (arrV (kq_gA g 1) (kq_len i) (fun j => .long (kq_rL μ r i j)))
  | _ => H[kq_gd g r i]? = some (arrV (kq_gA g 2) (kq_len i) (fun j => .ref (kq_gd g j 8)))
theorem kq_at.keep {g : kq_G} {μ μ' : kq_M} {r i : Nat} {H H' : Heap} (h : kq_at g μ r i H) (hq : H'[kq_gd g r i]? = H[kq_gd g r i]?) (hI : ∀ k, kq_rI μ' r i k = kq_rI μ r i k) (hL : ∀ k, kq_rL μ' r i k = kq_rL μ r i k) : kq_at g μ' r i H' := by
  have e1 : (fun j => Value.int (kq_rI μ' r i j)) = fun j => .int (kq_rI μ r i j) := funext fun j => by rw [hI]
  have e2 : (fun j => Value.long (kq_rL μ' r i j)) = fun j => .long (kq_rL μ r i j) := funext fun j => by rw [hL]
  have e3 : kq_val g μ' r i = kq_val g μ r i := funext fun k => by unfold kq_val; rw [hI, hL]
  unfold kq_at at h ⊢
  rw [e1, e2, e3]
  split at h
  · exact h.kept hq
  · exact hq.trans h
  · exact hq.trans h
  · exact hq.trans h
theorem kq_at.lt {g : kq_G} {μ : kq_M} {r i : Nat} {H : Heap} (h : kq_at g μ r i H) : kq_gd g r i < H.size := by
  unfold kq_at at h
  split at h
  · obtain ⟨cell, h1, -⟩ := h
    exact (Array.getElem?_eq_some_iff.mp h1).1
  · exact (Array.getElem?_eq_some_iff.mp h).1
  · exact (Array.getElem?_eq_some_iff.mp h).1
  · exact (Array.getElem?_eq_some_iff.mp h).1
/-- the heap holds the memory; nothing that was there at the law's start has changed -/
def kq_Hd (g : kq_G) (μ : kq_M) (H : Heap) : Prop := (∀ r i, kq_ok i r = true → kq_at g μ r i H) ∧ (kq_gH g).size ≤ H.size ∧ ∀ q : Nat, q < (kq_gH g).size → H[q]? = (kq_gH g)[q]?
/-- the cells are apart, and new -/
def kq_Ap (g : kq_G) : Prop := (∀ r i r' i', kq_ok i r = true → kq_ok i' r' = true → kq_gd g r i = kq_gd g r' i' → r = r' ∧ i = i') ∧ ∀ r i, kq_ok i r = true → kq_A g (kq_gd g r i)
def kq_tys (g : kq_G) : List (ClassId × FieldType) := [(kq_gA g 0, .int), (kq_gA g 1, .long), (kq_gA g 2, .object "KettleInquest$Sheet")]
def kq_nwK : Cond := .methodLinkNest "KettleInquest$Hall" 50 ⟨"KettleInquest", "isKind", "(I)Z"⟩ "KettleInquest"
def kq_nwI : Cond := .methodLinkNest "KettleInquest$Hall" 76 ⟨"KettleInquest", "isIn", "(II)Z"⟩ "KettleInquest"
def kq_nwO : Cond := .methodLinkNest "KettleInquest$Hall" 89 ⟨"KettleInquest", "isOfKind", "(II)Z"⟩ "KettleInquest"
def kq_nwD : Cond := .fieldLinkNest "KettleInquest$Hall" 54 "KettleInquest" "DOUBT_OF_KIND" "[I" "KettleInquest"
/-- what the tables, statics, constants and the script are, at a state -/
def kq_Wd (g : kq_G) (S : Nat × (Nat → Int32)) (U : State) : Prop :=
  va_K (kq_gD g) kq_cls (kq_tys g) U ∧
  (va_X (kq_gd g 0 40) S.1 S.2 U (kq_gH g) ∧ kq_gd g 0 40 < (kq_gH g).size) ∧
  (va_Z "KettleInquest" "KIND_ABOVE" "[I" (.ref (kq_gd g 0 41)) (kq_A g) U (kq_gH g) ∧ va_T .int (kq_gd g 0 41) 6 (fun j => .int (kq_KA j)) (kq_A g) U (kq_gH g)) ∧
  (va_Z "KettleInquest" "DOUBT_OF_KIND" "[I" (.ref (kq_gd g 0 42)) (kq_A g) U (kq_gH g) ∧ va_T .int (kq_gd g 0 42) 6 (fun j => .int (kq_DK j)) (kq_A g) U (kq_gH g)) ∧
  vk_S 12 kq_sl kq_sb (fun j => kq_gd g j 43) (fun j => kq_gd g j 44) (kq_A g) U (kq_gH g) ∧
  (∀ j, j < 12 → vk_R "KettleInquest$Clerk" (kq_si j) (kq_st j) (kq_gd g j 43) U) ∧
  va_Z "java/lang/String" "COMPACT_STRINGS" "Z" (.int 1) (kq_A g) U (kq_gH g) ∧
  (va_Z "jdk/internal/util/Preconditions" "SIOOBE_FORMATTER" "Ljava/util/function/BiFunction;" (kq_gF g) (kq_A g) U (kq_gH g) ∧ (kq_gF g = .null ∨ ∃ t, kq_gF g = .ref t)) ∧
  va_Nw kq_nwK U ∧ va_Nw kq_nwI U ∧ va_Nw kq_nwO U ∧ va_Nw kq_nwD U
theorem kq_Wd.warm {g : kq_G} {S : Nat × (Nat → Int32)} {s U : State} (hW : s.WarmedH U.vm) (h : kq_Wd g S s) : kq_Wd g S U := by
  obtain ⟨h1, ⟨h2, h2'⟩, ⟨h3, h3'⟩, ⟨h4, h4'⟩, h5, h6, h7, ⟨h8, h8'⟩, h9, h10, h11, h12⟩ := h
  have ha := hW.alike
  exact ⟨va_K.moved ha h1, ⟨va_X.moved ha h2, h2'⟩, ⟨va_Z.moved ha h3, va_T.moved ha h3'⟩, ⟨va_Z.moved ha h4, va_T.moved ha h4'⟩, vk_S.moved ha h5, fun j hj => (h6 j hj).warm hW, va_Z.moved ha h7, ⟨va_Z.moved ha h8, h8'⟩, va_Nw.warmM hW h9, va_Nw.warmM hW h10, va_Nw.warmM hW h11, va_Nw.warmF hW h12⟩
theorem kq_Wd.same {g : kq_G} {S : Nat × (Nat → Int32)} {s U : State} (hv : U.vm = s.vm) (h : kq_Wd g S s) : kq_Wd g S U := by
  obtain ⟨h1, ⟨h2, h2'⟩, ⟨h3, h3'⟩, ⟨h4, h4'⟩, h5, h6, h7, ⟨h8, h8'⟩, h9, h10, h11, h12⟩ := h
  have ha : s.vm.Alike U.vm := by rw [hv]; exact Vm.Alike.refl s.vm
  exact ⟨va_K.moved ha h1, ⟨va_X.moved ha h2, h2'⟩, ⟨va_Z.moved ha h3, va_T.moved ha h3'⟩, ⟨va_Z.moved ha h4, va_T.moved ha h4'⟩, vk_S.moved ha h5, fun j hj => (h6 j hj).same hv, va_Z.moved ha h7, ⟨va_Z.moved ha h8, h8'⟩, va_Nw.same rfl hv.symm h9, va_Nw.same rfl hv.symm h10, va_Nw.same rfl hv.symm h11, va_Nw.same rfl hv.symm h12⟩
theorem kq_Wd.gF {g : kq_G} {S : Nat × (Nat → Int32)} {s : State} (h : kq_Wd g S s) : (kq_gF g).category = 1 := by
  obtain ⟨-, -, -, -, -, -, -, ⟨-, h8⟩, -⟩ := h
  rcases h8 with h | ⟨t, h⟩ <;> rw [h] <;> rfl
theorem kq_tr_cat {g : kq_G} (hF : (kq_gF g).category = 1) (v : kq_V) : (kq_tr g v).category = kq_cat v := by
  rcases v with x | x | ⟨r, i⟩
  · rfl
  · rfl
  · show (if i = 45 then kq_gF g else Value.ref (kq_gd g r i)).category = 1
    split
    · exact hF
    · rfl
theorem kq_map_cat {g : kq_G} (hF : (kq_gF g).category = 1) (st : List kq_V) : ((st.map (kq_tr g)).map fun v => v.category).sum = (st.map kq_cat).sum := by
  rw [List.map_map]
  congr 1
  exact List.map_congr_left fun v _ => kq_tr_cat hF v
/-! a method's start, end, and its walk -/
def kq_rm (d : Nat) : Room := { frames := d, cells := 0, slots := 0, locals := 38 * d }
def kq_Pc (g : kq_G) (as : List kq_V) (μ : kq_M) : Array Value → State → Prop := fun v U => v = (as.map (kq_tr g)).toArray ∧ kq_Hd g μ U.heap ∧ kq_Wd g (kq_sc μ) U ∧ kq_Ap g
def kq_Qc (g : kq_G) (S : Nat × (Nat → Int32)) (Q : Option kq_V → kq_M → Prop) : Array Value → State → Outcome → State → Prop := fun _ st oc t =>
  ∃ (r : Option kq_V) (μ' : kq_M), oc = .returned (r.map (kq_tr g)) ∧ Q r μ' ∧ kq_Hd g μ' t.heap ∧ kq_sc μ' = S ∧ t.heap.size = st.heap.size
/-- the method M, called with as over the memory μ, ends with Q -/
def kq_Call (d : Nat) (M : kq_D) (as : List kq_V) (μ : kq_M) (Q : Option kq_V → kq_M → Prop) : Prop := ∀ (l : Launch) (g : kq_G), Met l M.1 (kq_ws M) (kq_rm d) (kq_Pc g as μ) (kq_Qc g (kq_sc μ) Q) 0 0 (kq_A g)
theorem kq_Pc.blind (g : kq_G) (as : List kq_V) (μ : kq_M) : FrameBlind (kq_Pc g as μ) := fun a U f mk h => ⟨h.1, h.2.1, h.2.2.1.same (s := U) rfl, h.2.2.2⟩
def kq_C (M : kq_D) (g : kq_G) (S : Nat × (Nat → Int32)) (p : Program) (s : State) (m : MethodId) (args : Array Value) (meth : Method) (c : Code) : Prop :=
  p.tables.exec = Jvm.exec ∧ c.code = M.2.1 ∧ meth.sig.returnType = M.2.2.2 ∧ meth.locks = false ∧ c.maxLocals = M.2.2.1 ∧ s.vm.findClass M.1.cls = some m.cls ∧ (∀ w ∈ kq_tbl, w.before args s = true) ∧ kq_Wd g S s ∧ kq_Ap g ∧ ((kq_gH g).size ≤ s.heap.size ∧ ∀ q : Nat, q < (kq_gH g).size → s.heap[q]? = (kq_gH g)[q]?)
def kq_lv (g : kq_G) (ls : List (Option kq_V)) (lc : Array Slot) (n : Nat) : Prop := lc.size = n ∧ lv_wf lc ∧ ∀ (i : Nat) (v : kq_V), ls[i]? = some (some v) → lc[i]? = some (.val (kq_tr g v))
/-- M's body goes on from pc to an end with Q -/
def kq_S (M : kq_D) (d pc : Nat) (ls : List (Option kq_V)) (st : List kq_V) (μ : kq_M) (Q : Option kq_V → kq_M → Prop) : Prop :=
  ∀ (R : Room) (kc ks : Nat) (l : Launch) (g : kq_G) (p : Program) (e : Env) (s : State) (m : MethodId) (args : Array Value) (below : List Frame) (meth : Method) (c : Code) (H : Heap) (locs : List Loc) (lc : Array Slot),
    (d ≤ R.frames ∧ 38 * d ≤ R.locals ∧ kc ≤ R.cells ∧ ks ≤ R.slots) → kq_C M g (kq_sc μ) p s m args meth c → kq_Hd g μ H → H.size = s.heap.size → (∀ q ∈ locs, kq_A g q.base) → kq_lv g ls lc M.2.2.1 →
    W p l e R s m args below meth c H locs kc ks (MQ below (kq_Qc g (kq_sc μ) Q) args s kc ks (kq_A g)) (F0 m pc lc (st.map (kq_tr g)))
/-- behind a call -/
def kq_K (M : kq_D) (d pc : Nat) (ls : List (Option kq_V)) (st : List kq_V) (Q : Option kq_V → kq_M → Prop) : Option kq_V → kq_M → Prop := fun ret μ => match ret with
  | some v => kq_S M d pc ls (v :: st) μ Q
  | none => kq_S M d pc ls st μ Q
/-! the first locals -/
def kq_l0 : List kq_V → Nat → List (Option kq_V)
  | [], n => List.replicate n none
  | .inr (.inl x) :: vs, n => some (kq_L x) :: none :: kq_l0 vs (n - 2)
  | .inl x :: vs, n => some (kq_I x) :: kq_l0 vs (n - 1)
  | .inr (.inr q) :: vs, n => some (.inr (.inr q)) :: kq_l0 vs (n - 1)
theorem kq_l0_in {g : kq_G} (hF : (kq_gF g).category = 1) : ∀ (vs : List kq_V) (n k i : Nat) (v : kq_V), (kq_l0 vs n)[i]? = some (some v) → (k + i, kq_tr g v) ∈ lv_args k (vs.map (kq_tr g))
  | [], n, k, i, v, h => by
    simp [kq_l0, List.getElem?_replicate] at h
  | w :: vs, n, k, i, v, h => by
    have hc := kq_tr_cat hF w
    rcases w with x | x | q
    · cases i with
      | zero => cases h; exact List.mem_cons_self
      | succ i =>
        have h1 := kq_l0_in hF vs (n - 1) (k + 1) i v h
        refine List.mem_cons_of_mem _ ?_
        rw [if_neg (by rw [hc]; show ¬ (1 : Nat) = 2; decide)]
        rw [show k + (i + 1) = k + 1 + i by omega]
        exact h1
    · cases i with
      | zero => cases h; exact List.mem_cons_self
      | succ i =>
        cases i with
        | zero => cases h
        | succ i =>
          have h1 := kq_l0_in hF vs (n - 2) (k + 2) i v h
          refine List.mem_cons_of_mem _ ?_
          rw [if_pos (by rw [hc]; rfl)]
          rw [show k + (i + 1 + 1) = k + 2 + i by omega]
          exact h1
    · cases i with
      | zero => cases h; exact List.mem_cons_self
      | succ i =>
        have h1 := kq_l0_in hF vs (n - 1) (k + 1) i v h
        refine List.mem_cons_of_mem _ ?_
        rw [if_neg (by rw [hc]; show ¬ (1 : Nat) = 2; decide)]
        rw [show k + (i + 1) = k + 1 + i by omega]
        exact h1
theorem kq_sl_len {g : kq_G} (hF : (kq_gF g).category = 1) : ∀ vs : List kq_V, (lg_sl (vs.map (kq_tr g))).length = (vs.map kq_cat).sum
  | [] => rfl
  | v :: vs => by
    have ih := kq_sl_len hF vs
    have hc := kq_tr_cat hF v
    have e : lg_sl ((v :: vs).map (kq_tr g)) = (if (kq_tr g v).category = 2 then [Slot.val (kq_tr g v), .second] else [.val (kq_tr g v)]) ++ lg_sl (vs.map (kq_tr g)) := rfl
    rw [e, List.length_append, ih, hc]
    show _ = kq_cat v + (vs.map kq_cat).sum
    congr 1
    rcases v with x | x | q <;> rfl
theorem kq_enter {d : Nat} {M : kq_D} {as : List kq_V} {μ : kq_M} {Q : Option kq_V → kq_M → Prop} (hy : plainName M.1.cls = true) (hn : (as.map kq_cat).sum ≤ M.2.2.1) (k : kq_S M d 0 (kq_l0 as M.2.2.1) [] μ Q) : kq_Call d M as μ Q := by
  intro l g
  refine Met.ofW (cc := M.2.1) (maxL := M.2.2.1) (ret := M.2.2.2) hy rfl ?_
  intro p e s m args below meth c s₁ B hml hv
  obtain ⟨rfl, hH, hW, hA⟩ := hv
  have hF := hW.gF
  have hl := lv_entry (as.map (kq_tr g)) (n := M.2.2.1) (by rw [kq_sl_len hF]; exact hn)
  rw [lg_entry_eq]
  refine k _ 0 0 l g p e s m _ below meth c s.heap [] _ ⟨Nat.le_refl _, Nat.le_refl _, Nat.zero_le _, Nat.zero_le _⟩ ⟨B.exec, B.bytes, B.returns, B.notSynchronized, hml, findClass_of_methodNamed B.named, fun w h => atoms_spec (ws := kq_ws M) B.pre w (List.mem_cons_of_mem _ h), hW, hA, hH.2⟩ hH rfl (fun q h => by cases h) ⟨hl.1, hl.2.1, fun i v h => ?_⟩
  have h1 := kq_l0_in hF as M.2.2.1 0 i v h
  rw [Nat.zero_add] at h1
  exact hl.2.2 _ h1
end
section
/-! THE RULES of the abstract machine: an instruction each (locals, stack, arithmetic, branches, returns) -/
theorem kq_iconst {M : kq_D} {d pc : Nat} {ls : List (Option kq_V)} {st : List kq_V} {μ : kq_M} {Q : Option kq_V → kq_M → Prop} {n : Int} {v : Int32} (hd : decode M.2.1 pc = .ok (.iconst n, 1)) (hv : Int32.ofInt n = v) (k : kq_S M d (pc + 1) ls (kq_I v :: st) μ Q) : kq_S M d pc ls (st) μ Q := by
  intro R kc ks l g p e s m args below meth c H locs lc hR hC hH hz hL hV
  exact lv_iconst (v := v) hC.1 hC.2.1 hd hv (k R kc ks l g p e s m args below meth c H locs lc hR hC hH hz hL hV)
theorem kq_bipush {M : kq_D} {d pc : Nat} {ls : List (Option kq_V)} {st : List kq_V} {μ : kq_M} {Q : Option kq_V → kq_M → Prop} {n : Int} {v : Int32} (hd : decode M.2.1 pc = .ok (.bipush n, 2)) (hv : (Int8.ofInt n).toInt32 = v) (k : kq_S M d (pc + 2) ls (kq_I v :: st) μ Q) : kq_S M d pc ls (st) μ Q := by
  intro R kc ks l g p e s m args below meth c H locs lc hR hC hH hz hL hV
  exact lv_bipush (v := v) hC.1 hC.2.1 hd hv (k R kc ks l g p e s m args below meth c H locs lc hR hC hH hz hL hV)
theorem kq_sipush {M : kq_D} {d pc : Nat} {ls : List (Option kq_V)} {st : List kq_V} {μ : kq_M} {Q : Option kq_V → kq_M → Prop} {n : Int} {v : Int32} (hd : decode M.2.1 pc = .ok (.sipush n, 3)) (hv : (Int16.ofInt n).toInt32 = v) (k : kq_S M d (pc + 3) ls (kq_I v :: st) μ Q) : kq_S M d pc ls (st) μ Q := by
  intro R kc ks l g p e s m args below meth c H locs lc hR hC hH hz hL hV
  exact lv_sipush (v := v) hC.1 hC.2.1 hd hv (k R kc ks l g p e s m args below meth c H locs lc hR hC hH hz hL hV)
theorem kq_lconst {M : kq_D} {d pc : Nat} {ls : List (Option kq_V)} {st : List kq_V} {μ : kq_M} {Q : Option kq_V → kq_M → Prop} {n : Fin 2} {v : Int64} (hd : decode M.2.1 pc = .ok (.lconst n, 1)) (hv : Int64.ofNat (n : Nat) = v) (k : kq_S M d (pc + 1) ls (kq_L v :: st) μ Q) : kq_S M d pc ls (st) μ Q := by
  intro R kc ks l g p e s m args below meth c H locs lc hR hC hH hz hL hV
  exact lv_lconst (v := v) hC.1 hC.2.1 hd hv (k R kc ks l g p e s m args below meth c H locs lc hR hC hH hz hL hV)
theorem kq_ldc {M : kq_D} {d pc : Nat} {ls : List (Option kq_V)} {st : List kq_V} {μ : kq_M} {Q : Option kq_V → kq_M → Prop} {idx : Nat} {v : Int32} (hd : decode M.2.1 pc = .ok (.ldc idx, 2)) (hw : Cond.constant M.1.cls idx v ∈ kq_tbl) (k : kq_S M d (pc + 2) ls (kq_I v :: st) μ Q) : kq_S M d pc ls (st) μ Q := by
  intro R kc ks l g p e s m args below meth c H locs lc hR hC hH hz hL hV
  exact lv_ldc hC.1 hC.2.1 hC.2.2.2.2.2.1 (hC.2.2.2.2.2.2.1 _ hw) hd (k R kc ks l g p e s m args below meth c H locs lc hR hC hH hz hL hV)
theorem kq_ldcw {M : kq_D} {d pc : Nat} {ls : List (Option kq_V)} {st : List kq_V} {μ : kq_M} {Q : Option kq_V → kq_M → Prop} {idx : Nat} {v : Int32} (hd : decode M.2.1 pc = .ok (.ldc_w idx, 3)) (hw : Cond.constant M.1.cls idx v ∈ kq_tbl) (k : kq_S M d (pc + 3) ls (kq_I v :: st) μ Q) : kq_S M d pc ls (st) μ Q := by
  intro R kc ks l g p e s m args below meth c H locs lc hR hC hH hz hL hV
  exact lv_ldcw hC.1 hC.2.1 hC.2.2.2.2.2.1 (hC.2.2.2.2.2.2.1 _ hw) hd (k R kc ks l g p e s m args below meth c H locs lc hR hC hH hz hL hV)
theorem kq_ldc2 {M : kq_D} {d pc : Nat} {ls : List (Option kq_V)} {st : List kq_V} {μ : kq_M} {Q : Option kq_V → kq_M → Prop} {idx : Nat} {v : Int64} (hd : decode M.2.1 pc = .ok (.ldc2_w idx, 3)) (hw : Cond.constantLong M.1.cls idx v ∈ kq_tbl) (k : kq_S M d (pc + 3) ls (kq_L v :: st) μ Q) : kq_S M d pc ls (st) μ Q := by
  intro R kc ks l g p e s m args below meth c H locs lc hR hC hH hz hL hV
  exact lv_ldc2 hC.1 hC.2.1 hC.2.2.2.2.2.1 (hC.2.2.2.2.2.2.1 _ hw) hd (k R kc ks l g p e s m args below meth c H locs lc hR hC hH hz hL hV)
theorem kq_ldcS {M : kq_D} {d pc : Nat} {ls : List (Option kq_V)} {st : List kq_V} {μ : kq_M} {Q : Option kq_V → kq_M → Prop} {idx : Nat} (j : Nat) (hd : decode M.2.1 pc = .ok (.ldc idx, 2)) (hj : j < 12) (ho : M.1.cls = "KettleInquest$Clerk") (hx : kq_si j = idx) (k : kq_S M d (pc + 2) ls (kq_R j 43 :: st) μ Q) : kq_S M d pc ls (st) μ Q := by
  intro R kc ks l g p e s m args below meth c H locs lc hR hC hH hz hL hV
  have hZ := hC.2.2.2.2.2.2.2.1.2.2.2.2.2.1 j hj
  rw [hx] at hZ
  have hown := hC.2.2.2.2.2.1
  rw [ho] at hown
  exact va_ldcS (tx := kq_st j) hC.1 hC.2.1 hown hZ hd (k R kc ks l g p e s m args below meth c H locs lc hR hC hH hz hL hV)
theorem kq_iload_n {M : kq_D} {d pc : Nat} {ls : List (Option kq_V)} {st : List kq_V} {μ : kq_M} {Q : Option kq_V → kq_M → Prop} {n : Fin 4} (i : Nat) {x : Int32} (hd : decode M.2.1 pc = .ok (.iload_n n, 1)) (hi : (n : Nat) = i) (hl : ls[i]? = some (some (kq_I x))) (k : kq_S M d (pc + 1) ls (kq_I x :: st) μ Q) : kq_S M d pc ls (st) μ Q := by
  intro R kc ks l g p e s m args below meth c H locs lc hR hC hH hz hL hV
  exact lv_iload_n hC.1 hC.2.1 hd hi (hV.2.2 i _ hl) (k R kc ks l g p e s m args below meth c H locs lc hR hC hH hz hL hV)
theorem kq_iload {M : kq_D} {d pc : Nat} {ls : List (Option kq_V)} {st : List kq_V} {μ : kq_M} {Q : Option kq_V → kq_M → Prop} {i : Nat} {x : Int32} (hd : decode M.2.1 pc = .ok (.iload i, 2)) (hl : ls[i]? = some (some (kq_I x))) (k : kq_S M d (pc + 2) ls (kq_I x :: st) μ Q) : kq_S M d pc ls (st) μ Q := by
  intro R kc ks l g p e s m args below meth c H locs lc hR hC hH hz hL hV
  exact lv_iload hC.1 hC.2.1 hd (hV.2.2 i _ hl) (k R kc ks l g p e s m args below meth c H locs lc hR hC hH hz hL hV)
theorem kq_lload_n {M : kq_D} {d pc : Nat} {ls : List (Option kq_V)} {st : List kq_V} {μ : kq_M} {Q : Option kq_V → kq_M → Prop} {n : Fin 4} (i : Nat) {x : Int64} (hd : decode M.2.1 pc = .ok (.lload_n n, 1)) (hi : (n : Nat) = i) (hl : ls[i]? = some (some (kq_L x))) (k : kq_S M d (pc + 1) ls (kq_L x :: st) μ Q) : kq_S M d pc ls (st) μ Q := by
  intro R kc ks l g p e s m args below meth c H locs lc hR hC hH hz hL hV
  exact lv_lload_n hC.1 hC.2.1 hd hi (hV.2.2 i _ hl) (k R kc ks l g p e s m args below meth c H locs lc hR hC hH hz hL hV)
theorem kq_lload {M : kq_D} {d pc : Nat} {ls : List (Option kq_V)} {st : List kq_V} {μ : kq_M} {Q : Option kq_V → kq_M → Prop} {i : Nat} {x : Int64} (hd : decode M.2.1 pc = .ok (.lload i, 2)) (hl : ls[i]? = some (some (kq_L x))) (k : kq_S M d (pc + 2) ls (kq_L x :: st) μ Q) : kq_S M d pc ls (st) μ Q := by
  intro R kc ks l g p e s m args below meth c H locs lc hR hC hH hz hL hV
  exact lv_lload hC.1 hC.2.1 hd (hV.2.2 i _ hl) (k R kc ks l g p e s m args below meth c H locs lc hR hC hH hz hL hV)
theorem kq_aload_n {M : kq_D} {d pc : Nat} {ls : List (Option kq_V)} {st : List kq_V} {μ : kq_M} {Q : Option kq_V → kq_M → Prop} {n : Fin 4} (i : Nat) {r j : Nat} (hd : decode M.2.1 pc = .ok (.aload_n n, 1)) (hi : (n : Nat) = i) (hl : ls[i]? = some (some (kq_R r j))) (h5 : j ≠ 45) (k : kq_S M d (pc + 1) ls (kq_R r j :: st) μ Q) : kq_S M d pc ls (st) μ Q := by
  intro R kc ks l g p e s m args below meth c H locs lc hR hC hH hz hL hV
  have h1 := hV.2.2 i _ hl
  have k1 := k R kc ks l g p e s m args below meth c H locs lc hR hC hH hz hL hV
  rw [kq_trR g r h5] at h1
  rw [List.map_cons, kq_trR g r h5] at k1
  exact lv_aload_n hC.1 hC.2.1 hd hi h1 k1
theorem kq_aload {M : kq_D} {d pc : Nat} {ls : List (Option kq_V)} {st : List kq_V} {μ : kq_M} {Q : Option kq_V → kq_M → Prop} {i : Nat} {r j : Nat} (hd : decode M.2.1 pc = .ok (.aload i, 2)) (hl : ls[i]? = some (some (kq_R r j))) (h5 : j ≠ 45) (k : kq_S M d (pc + 2) ls (kq_R r j :: st) μ Q) : kq_S M d pc ls (st) μ Q := by
  intro R kc ks l g p e s m args below meth c H locs lc hR hC hH hz hL hV
  have h1 := hV.2.2 i _ hl
  have k1 := k R kc ks l g p e s m args below meth c H locs lc hR hC hH hz hL hV
  rw [kq_trR g r h5] at h1
  rw [List.map_cons, kq_trR g r h5] at k1
  exact lv_aload hC.1 hC.2.1 hd h1 k1
/-- no long stands just ahead of slot i -/
def kq_nl (ls : List (Option kq_V)) : Nat → Bool
  | 0 => true
  | j + 1 => match ls[j]? with
    | some (some (.inr (.inl _))) => false
    | _ => true
def kq_vl (g : kq_G) (ls : List (Option kq_V)) : List (Nat × Value) := (List.range ls.length).filterMap (fun j => match ls[j]? with
  | some (some v) => some (j, kq_tr g v)
  | _ => none)
theorem kq_vl_in {g : kq_G} {ls : List (Option kq_V)} {j : Nat} {v : kq_V} (h : ls[j]? = some (some v)) : (j, kq_tr g v) ∈ kq_vl g ls := by
  refine List.mem_filterMap.mpr ⟨j, List.mem_range.mpr (List.getElem?_eq_some_iff.mp h).1, ?_⟩
  rw [h]
theorem kq_vl_of {g : kq_G} {ls : List (Option kq_V)} {q : Nat × Value} (h : q ∈ kq_vl g ls) : ∃ v, ls[q.1]? = some (some v) ∧ q.2 = kq_tr g v := by
  obtain ⟨j, -, hj⟩ := List.mem_filterMap.mp h
  split at hj
  next v hv => cases hj; exact ⟨v, hv, rfl⟩
  next => cases hj
theorem kq_lv.has {g : kq_G} {ls : List (Option kq_V)} {lc : Array Slot} {n : Nat} (h : kq_lv g ls lc n) : lv_has lc n (kq_vl g ls) := by
  refine ⟨h.1, h.2.1, fun q hq => ?_⟩
  obtain ⟨v, h1, h2⟩ := kq_vl_of hq
  rw [h2]
  exact h.2.2 _ _ h1
theorem kq_lv.set1 {g : kq_G} {ls : List (Option kq_V)} {lc : Array Slot} {n i : Nat} {v : kq_V} (hF : (kq_gF g).category = 1) (hp : kq_nl ls i = true) (h : lv_has lc n ((i, kq_tr g v) :: (kq_vl g ls).filter (fun q => !(q.1 == i) && !(q.1 + 1 == i && q.2.category == 2)))) : kq_lv g (ls.set i (some v)) lc n := by
  refine ⟨h.1, h.2.1, fun j w hj => ?_⟩
  by_cases e : j = i
  · subst e
    have hlt : j < ls.length := by
      have := (List.getElem?_eq_some_iff.mp hj).1
      rwa [List.length_set] at this
    rw [List.getElem?_set_self hlt] at hj
    cases hj
    exact h.2.2 (j, kq_tr g v) List.mem_cons_self
  · rw [List.getElem?_set_ne (Ne.symm e)] at hj
    refine h.2.2 (j, kq_tr g w) (List.mem_cons_of_mem _ (List.mem_filter.mpr ⟨kq_vl_in hj, ?_⟩))
    have hc := kq_tr_cat hF w
    simp only [Bool.and_eq_true, Bool.not_eq_true', beq_eq_false_iff_ne, ne_eq, Bool.and_eq_false_iff, hc]
    refine ⟨e, ?_⟩
    by_cases e2 : j + 1 = i
    · refine Or.inr ?_
      subst e2
      rcases w with x | x | q
      · show ¬ (1 : Nat) = 2; decide
      · simp [kq_nl, hj] at hp
      · show ¬ (1 : Nat) = 2; decide
    · exact Or.inl e2
theorem kq_lv.set2 {g : kq_G} {ls : List (Option kq_V)} {lc : Array Slot} {n i : Nat} {v : kq_V} (hF : (kq_gF g).category = 1) (hp : kq_nl ls i = true) (h : lv_has lc n ((i, kq_tr g v) :: (kq_vl g ls).filter (fun q => !(q.1 == i) && (!(q.1 == i + 1) && !(q.1 + 1 == i && q.2.category == 2))))) : kq_lv g ((ls.set i (some v)).set (i + 1) none) lc n := by
  refine ⟨h.1, h.2.1, fun j w hj => ?_⟩
  by_cases e1 : j = i + 1
  · subst e1
    have hlt := (List.getElem?_eq_some_iff.mp hj).1
    rw [List.length_set] at hlt
    rw [List.getElem?_set_self hlt] at hj
    cases hj
  rw [List.getElem?_set_ne (Ne.symm e1)] at hj
  by_cases e : j = i
  · subst e
    have hlt : j < ls.length := by
      have := (List.getElem?_eq_some_iff.mp hj).1
      rwa [List.length_set] at this
    rw [List.getElem?_set_self hlt] at hj
    cases hj
    exact h.2.2 (j, kq_tr g v) List.mem_cons_self
  · rw [List.getElem?_set_ne (Ne.symm e)] at hj
    refine h.2.2 (j, kq_tr g w) (List.mem_cons_of_mem _ (List.mem_filter.mpr ⟨kq_vl_in hj, ?_⟩))
    have hc := kq_tr_cat hF w
    simp only [Bool.and_eq_true, Bool.not_eq_true', beq_eq_false_iff_ne, ne_eq, Bool.and_eq_false_iff, hc]
    refine ⟨e, e1, ?_⟩
    by_cases e2 : j + 1 = i
    · refine Or.inr ?_
      subst e2
      rcases w with x | x | q
      · show ¬ (1 : Nat) = 2; decide
      · simp [kq_nl, hj] at hp
      · show ¬ (1 : Nat) = 2; decide
    · exact Or.inl e2
theorem kq_istore_n {M : kq_D} {d pc : Nat} {ls : List (Option kq_V)} {st : List kq_V} {μ : kq_M} {Q : Option kq_V → kq_M → Prop} {x : Int32} {n : Fin 4} (i : Nat) (hd : decode M.2.1 pc = .ok (.istore_n n, 1)) (hi : (n : Nat) = i) (hn : i < M.2.2.1) (hp : kq_nl ls i = true) (k : kq_S M d (pc + 1) (ls.set i (some (kq_I x))) st μ Q) : kq_S M d pc ls (kq_I x :: st) μ Q := by
  intro R kc ks l g p e s m args below meth c H locs lc hR hC hH hz hL hV
  refine lv_istore_n hC.1 hC.2.1 hd hi (kq_lv.has hV) hn rfl (fun lc' h' => k R kc ks l g p e s m args below meth c H locs lc' hR hC hH hz hL (kq_lv.set1 (v := kq_I x) hC.2.2.2.2.2.2.2.1.gF hp ?_))
  exact h'
theorem kq_istore {M : kq_D} {d pc : Nat} {ls : List (Option kq_V)} {st : List kq_V} {μ : kq_M} {Q : Option kq_V → kq_M → Prop} {x : Int32} {i : Nat} (hd : decode M.2.1 pc = .ok (.istore i, 2)) (hn : i < M.2.2.1) (hp : kq_nl ls i = true) (k : kq_S M d (pc + 2) (ls.set i (some (kq_I x))) st μ Q) : kq_S M d pc ls (kq_I x :: st) μ Q := by
  intro R kc ks l g p e s m args below meth c H locs lc hR hC hH hz hL hV
  refine lv_istore hC.1 hC.2.1 hd (kq_lv.has hV) hn rfl (fun lc' h' => k R kc ks l g p e s m args below meth c H locs lc' hR hC hH hz hL (kq_lv.set1 (v := kq_I x) hC.2.2.2.2.2.2.2.1.gF hp ?_))
  exact h'
theorem kq_lstore_n {M : kq_D} {d pc : Nat} {ls : List (Option kq_V)} {st : List kq_V} {μ : kq_M} {Q : Option kq_V → kq_M → Prop} {x : Int64} {n : Fin 4} (i : Nat) (hd : decode M.2.1 pc = .ok (.lstore_n n, 1)) (hi : (n : Nat) = i) (hn : i + 1 < M.2.2.1) (hp : kq_nl ls i = true) (k : kq_S M d (pc + 1) ((ls.set i (some (kq_L x))).set (i + 1) none) st μ Q) : kq_S M d pc ls (kq_L x :: st) μ Q := by
  intro R kc ks l g p e s m args below meth c H locs lc hR hC hH hz hL hV
  refine lv_lstore_n hC.1 hC.2.1 hd hi (kq_lv.has hV) hn rfl (fun lc' h' => k R kc ks l g p e s m args below meth c H locs lc' hR hC hH hz hL (kq_lv.set2 (v := kq_L x) hC.2.2.2.2.2.2.2.1.gF hp ?_))
  exact h'
theorem kq_lstore {M : kq_D} {d pc : Nat} {ls : List (Option kq_V)} {st : List kq_V} {μ : kq_M} {Q : Option kq_V → kq_M → Prop} {x : Int64} {i : Nat} (hd : decode M.2.1 pc = .ok (.lstore i, 2)) (hn : i + 1 < M.2.2.1) (hp : kq_nl ls i = true) (k : kq_S M d (pc + 2) ((ls.set i (some (kq_L x))).set (i + 1) none) st μ Q) : kq_S M d pc ls (kq_L x :: st) μ Q := by
  intro R kc ks l g p e s m args below meth c H locs lc hR hC hH hz hL hV
  refine lv_lstore hC.1 hC.2.1 hd (kq_lv.has hV) hn rfl (fun lc' h' => k R kc ks l g p e s m args below meth c H locs lc' hR hC hH hz hL (kq_lv.set2 (v := kq_L x) hC.2.2.2.2.2.2.2.1.gF hp ?_))
  exact h'
theorem kq_astore_n {M : kq_D} {d pc : Nat} {ls : List (Option kq_V)} {st : List kq_V} {μ : kq_M} {Q : Option kq_V → kq_M → Prop} {r j : Nat} {n : Fin 4} (i : Nat) (hd : decode M.2.1 pc = .ok (.astore_n n, 1)) (hi : (n : Nat) = i) (hn : i < M.2.2.1) (hp : kq_nl ls i = true) (h5 : j ≠ 45) (k : kq_S M d (pc + 1) (ls.set i (some (kq_R r j))) st μ Q) : kq_S M d pc ls (kq_R r j :: st) μ Q := by
  intro R kc ks l g p e s m args below meth c H locs lc hR hC hH hz hL hV
  show W p l e R s m args below meth c H locs kc ks _ (F0 m pc lc (kq_tr g (kq_R r j) :: st.map (kq_tr g)))
  rw [kq_trR g r h5]
  refine lv_astore_n hC.1 hC.2.1 hd hi (kq_lv.has hV) hn rfl (fun lc' h' => k R kc ks l g p e s m args below meth c H locs lc' hR hC hH hz hL (kq_lv.set1 (v := kq_R r j) hC.2.2.2.2.2.2.2.1.gF hp ?_))
  rw [kq_trR g r h5]
  exact h'
theorem kq_astore {M : kq_D} {d pc : Nat} {ls : List (Option kq_V)} {st : List kq_V} {μ : kq_M} {Q : Option kq_V → kq_M → Prop} {r j : Nat} {i : Nat} (hd : decode M.2.1 pc = .ok (.astore i, 2)) (hn : i < M.2.2.1) (hp : kq_nl ls i = true) (h5 : j ≠ 45) (k : kq_S M d (pc + 2) (ls.set i (some (kq_R r j))) st μ Q) : kq_S M d pc ls (kq_R r j :: st) μ Q := by
  intro R kc ks l g p e s m args below meth c H locs lc hR hC hH hz hL hV
  show W p l e R s m args below meth c H locs kc ks _ (F0 m pc lc (kq_tr g (kq_R r j) :: st.map (kq_tr g)))
  rw [kq_trR g r h5]
  refine lv_astore hC.1 hC.2.1 hd (kq_lv.has hV) hn rfl (fun lc' h' => k R kc ks l g p e s m args below meth c H locs lc' hR hC hH hz hL (kq_lv.set1 (v := kq_R r j) hC.2.2.2.2.2.2.2.1.gF hp ?_))
  rw [kq_trR g r h5]
  exact h'
theorem kq_iinc {M : kq_D} {d pc : Nat} {ls : List (Option kq_V)} {st : List kq_V} {μ : kq_M} {Q : Option kq_V → kq_M → Prop} {i : Nat} {n : Int} {x : Int32} (v : Int32) (hd : decode M.2.1 pc = .ok (.iinc i n, 3)) (hl : ls[i]? = some (some (kq_I x))) (hv : x + Int32.ofInt n = v) (hn : i < M.2.2.1) (hp : kq_nl ls i = true) (k : kq_S M d (pc + 3) (ls.set i (some (kq_I v))) st μ Q) : kq_S M d pc ls st μ Q := by
  intro R kc ks l g p e s m args below meth c H locs lc hR hC hH hz hL hV
  obtain ⟨k0, hk0⟩ := List.getElem?_of_mem (kq_vl_in (g := g) hl)
  exact lv_iinc hC.1 hC.2.1 hd (kq_lv.has hV) (k := k0) hk0 hv hn rfl (fun lc' h' => k R kc ks l g p e s m args below meth c H locs lc' hR hC hH hz hL (kq_lv.set1 (v := kq_I v) hC.2.2.2.2.2.2.2.1.gF hp h'))
theorem kq_iadd {M : kq_D} {d pc : Nat} {ls : List (Option kq_V)} {st : List kq_V} {μ : kq_M} {Q : Option kq_V → kq_M → Prop} {x y : Int32} (hd : decode M.2.1 pc = .ok (.iadd, 1)) (k : kq_S M d (pc + 1) ls (kq_I (x + y) :: st) μ Q) : kq_S M d pc ls (kq_I y :: kq_I x :: st) μ Q := by
  intro R kc ks l g p e s m args below meth c H locs lc hR hC hH hz hL hV
  exact lv_iadd hC.1 hC.2.1 hd (k R kc ks l g p e s m args below meth c H locs lc hR hC hH hz hL hV)
theorem kq_isub {M : kq_D} {d pc : Nat} {ls : List (Option kq_V)} {st : List kq_V} {μ : kq_M} {Q : Option kq_V → kq_M → Prop} {x y : Int32} (hd : decode M.2.1 pc = .ok (.isub, 1)) (k : kq_S M d (pc + 1) ls (kq_I (x - y) :: st) μ Q) : kq_S M d pc ls (kq_I y :: kq_I x :: st) μ Q := by
  intro R kc ks l g p e s m args below meth c H locs lc hR hC hH hz hL hV
  exact lv_isub hC.1 hC.2.1 hd (k R kc ks l g p e s m args below meth c H locs lc hR hC hH hz hL hV)
theorem kq_imul {M : kq_D} {d pc : Nat} {ls : List (Option kq_V)} {st : List kq_V} {μ : kq_M} {Q : Option kq_V → kq_M → Prop} {x y : Int32} (hd : decode M.2.1 pc = .ok (.imul, 1)) (k : kq_S M d (pc + 1) ls (kq_I (x * y) :: st) μ Q) : kq_S M d pc ls (kq_I y :: kq_I x :: st) μ Q := by
  intro R kc ks l g p e s m args below meth c H locs lc hR hC hH hz hL hV
  exact lv_imul hC.1 hC.2.1 hd (k R kc ks l g p e s m args below meth c H locs lc hR hC hH hz hL hV)
theorem kq_iand {M : kq_D} {d pc : Nat} {ls : List (Option kq_V)} {st : List kq_V} {μ : kq_M} {Q : Option kq_V → kq_M → Prop} {x y : Int32} (hd : decode M.2.1 pc = .ok (.iand, 1)) (k : kq_S M d (pc + 1) ls (kq_I (x &&& y) :: st) μ Q) : kq_S M d pc ls (kq_I y :: kq_I x :: st) μ Q := by
  intro R kc ks l g p e s m args below meth c H locs lc hR hC hH hz hL hV
  exact lv_iand hC.1 hC.2.1 hd (k R kc ks l g p e s m args below meth c H locs lc hR hC hH hz hL hV)
theorem kq_ior {M : kq_D} {d pc : Nat} {ls : List (Option kq_V)} {st : List kq_V} {μ : kq_M} {Q : Option kq_V → kq_M → Prop} {x y : Int32} (hd : decode M.2.1 pc = .ok (.ior, 1)) (k : kq_S M d (pc + 1) ls (kq_I (x ||| y) :: st) μ Q) : kq_S M d pc ls (kq_I y :: kq_I x :: st) μ Q := by
  intro R kc ks l g p e s m args below meth c H locs lc hR hC hH hz hL hV
  exact lv_ior hC.1 hC.2.1 hd (k R kc ks l g p e s m args below meth c H locs lc hR hC hH hz hL hV)
theorem kq_ixor {M : kq_D} {d pc : Nat} {ls : List (Option kq_V)} {st : List kq_V} {μ : kq_M} {Q : Option kq_V → kq_M → Prop} {x y : Int32} (hd : decode M.2.1 pc = .ok (.ixor, 1)) (k : kq_S M d (pc + 1) ls (kq_I (x ^^^ y) :: st) μ Q) : kq_S M d pc ls (kq_I y :: kq_I x :: st) μ Q := by
  intro R kc ks l g p e s m args below meth c H locs lc hR hC hH hz hL hV
  exact lv_ixor hC.1 hC.2.1 hd (k R kc ks l g p e s m args below meth c H locs lc hR hC hH hz hL hV)
theorem kq_ishl {M : kq_D} {d pc : Nat} {ls : List (Option kq_V)} {st : List kq_V} {μ : kq_M} {Q : Option kq_V → kq_M → Prop} {x y : Int32} (hd : decode M.2.1 pc = .ok (.ishl, 1)) (k : kq_S M d (pc + 1) ls (kq_I (x <<< (y &&& 31)) :: st) μ Q) : kq_S M d pc ls (kq_I y :: kq_I x :: st) μ Q := by
  intro R kc ks l g p e s m args below meth c H locs lc hR hC hH hz hL hV
  exact lv_ishl hC.1 hC.2.1 hd (k R kc ks l g p e s m args below meth c H locs lc hR hC hH hz hL hV)
theorem kq_ishr {M : kq_D} {d pc : Nat} {ls : List (Option kq_V)} {st : List kq_V} {μ : kq_M} {Q : Option kq_V → kq_M → Prop} {x y : Int32} (hd : decode M.2.1 pc = .ok (.ishr, 1)) (k : kq_S M d (pc + 1) ls (kq_I (x >>> (y &&& 31)) :: st) μ Q) : kq_S M d pc ls (kq_I y :: kq_I x :: st) μ Q := by
  intro R kc ks l g p e s m args below meth c H locs lc hR hC hH hz hL hV
  exact lv_ishr hC.1 hC.2.1 hd (k R kc ks l g p e s m args below meth c H locs lc hR hC hH hz hL hV)
theorem kq_idiv {M : kq_D} {d pc : Nat} {ls : List (Option kq_V)} {st : List kq_V} {μ : kq_M} {Q : Option kq_V → kq_M → Prop} {x y : Int32} (hd : decode M.2.1 pc = .ok (.idiv, 1)) (hne : ¬ y = 0) (k : kq_S M d (pc + 1) ls (kq_I (x / y) :: st) μ Q) : kq_S M d pc ls (kq_I y :: kq_I x :: st) μ Q := by
  intro R kc ks l g p e s m args below meth c H locs lc hR hC hH hz hL hV
  exact lv_idiv hC.1 hC.2.1 hd hne (k R kc ks l g p e s m args below meth c H locs lc hR hC hH hz hL hV)
theorem kq_irem {M : kq_D} {d pc : Nat} {ls : List (Option kq_V)} {st : List kq_V} {μ : kq_M} {Q : Option kq_V → kq_M → Prop} {x y : Int32} (hd : decode M.2.1 pc = .ok (.irem, 1)) (hne : ¬ y = 0) (k : kq_S M d (pc + 1) ls (kq_I (x - x / y * y) :: st) μ Q) : kq_S M d pc ls (kq_I y :: kq_I x :: st) μ Q := by
  intro R kc ks l g p e s m args below meth c H locs lc hR hC hH hz hL hV
  exact lv_irem hC.1 hC.2.1 hd hne (k R kc ks l g p e s m args below meth c H locs lc hR hC hH hz hL hV)
theorem kq_ineg {M : kq_D} {d pc : Nat} {ls : List (Option kq_V)} {st : List kq_V} {μ : kq_M} {Q : Option kq_V → kq_M → Prop} {x : Int32} (hd : decode M.2.1 pc = .ok (.ineg, 1)) (k : kq_S M d (pc + 1) ls (kq_I (-x) :: st) μ Q) : kq_S M d pc ls (kq_I x :: st) μ Q := by
  intro R kc ks l g p e s m args below meth c H locs lc hR hC hH hz hL hV
  exact lv_ineg hC.1 hC.2.1 hd (k R kc ks l g p e s m args below meth c H locs lc hR hC hH hz hL hV)
theorem kq_iushr {M : kq_D} {d pc : Nat} {ls : List (Option kq_V)} {st : List kq_V} {μ : kq_M} {Q : Option kq_V → kq_M → Prop} {x y : Int32} (hd : decode M.2.1 pc = .ok (.iushr, 1)) (k : kq_S M d (pc + 1) ls (kq_I ((x.toUInt32 >>> (y.toUInt32 &&& Int32.toUInt32 31)).toInt32) :: st) μ Q) : kq_S M d pc ls (kq_I y :: kq_I x :: st) μ Q := by
  intro R kc ks l g p e s m args below meth c H locs lc hR hC hH hz hL hV
  exact lv_iushr hC.1 hC.2.1 hd rfl (k R kc ks l g p e s m args below meth c H locs lc hR hC hH hz hL hV)
theorem kq_ladd {M : kq_D} {d pc : Nat} {ls : List (Option kq_V)} {st : List kq_V} {μ : kq_M} {Q : Option kq_V → kq_M → Prop} {x y : Int64} (hd : decode M.2.1 pc = .ok (.ladd, 1)) (k : kq_S M d (pc + 1) ls (kq_L (x + y) :: st) μ Q) : kq_S M d pc ls (kq_L y :: kq_L x :: st) μ Q := by
  intro R kc ks l g p e s m args below meth c H locs lc hR hC hH hz hL hV
  exact lv_ladd hC.1 hC.2.1 hd (k R kc ks l g p e s m args below meth c H locs lc hR hC hH hz hL hV)
theorem kq_lsub {M : kq_D} {d pc : Nat} {ls : List (Option kq_V)} {st : List kq_V} {μ : kq_M} {Q : Option kq_V → kq_M → Prop} {x y : Int64} (hd : decode M.2.1 pc = .ok (.lsub, 1)) (k : kq_S M d (pc + 1) ls (kq_L (x - y) :: st) μ Q) : kq_S M d pc ls (kq_L y :: kq_L x :: st) μ Q := by
  intro R kc ks l g p e s m args below meth c H locs lc hR hC hH hz hL hV
  exact lv_lsub hC.1 hC.2.1 hd (k R kc ks l g p e s m args below meth c H locs lc hR hC hH hz hL hV)
theorem kq_lmul {M : kq_D} {d pc : Nat} {ls : List (Option kq_V)} {st : List kq_V} {μ : kq_M} {Q : Option kq_V → kq_M → Prop} {x y : Int64} (hd : decode M.2.1 pc = .ok (.lmul, 1)) (k : kq_S M d (pc + 1) ls (kq_L (x * y) :: st) μ Q) : kq_S M d pc ls (kq_L y :: kq_L x :: st) μ Q := by
  intro R kc ks l g p e s m args below meth c H locs lc hR hC hH hz hL hV
  exact lv_lmul hC.1 hC.2.1 hd (k R kc ks l g p e s m args below meth c H locs lc hR hC hH hz hL hV)
theorem kq_land {M : kq_D} {d pc : Nat} {ls : List (Option kq_V)} {st : List kq_V} {μ : kq_M} {Q : Option kq_V → kq_M → Prop} {x y : Int64} (hd : decode M.2.1 pc = .ok (.land, 1)) (k : kq_S M d (pc + 1) ls (kq_L (x &&& y) :: st) μ Q) : kq_S M d pc ls (kq_L y :: kq_L x :: st) μ Q := by
  intro R kc ks l g p e s m args below meth c H locs lc hR hC hH hz hL hV
  exact lv_land hC.1 hC.2.1 hd (k R kc ks l g p e s m args below meth c H locs lc hR hC hH hz hL hV)
theorem kq_lor {M : kq_D} {d pc : Nat} {ls : List (Option kq_V)} {st : List kq_V} {μ : kq_M} {Q : Option kq_V → kq_M → Prop} {x y : Int64} (hd : decode M.2.1 pc = .ok (.lor, 1)) (k : kq_S M d (pc + 1) ls (kq_L (x ||| y) :: st) μ Q) : kq_S M d pc ls (kq_L y :: kq_L x :: st) μ Q := by
  intro R kc ks l g p e s m args below meth c H locs lc hR hC hH hz hL hV
  exact lv_lor hC.1 hC.2.1 hd (k R kc ks l g p e s m args below meth c H locs lc hR hC hH hz hL hV)
theorem kq_lshl {M : kq_D} {d pc : Nat} {ls : List (Option kq_V)} {st : List kq_V} {μ : kq_M} {Q : Option kq_V → kq_M → Prop} {x : Int64} {y : Int32} (hd : decode M.2.1 pc = .ok (.lshl, 1)) (k : kq_S M d (pc + 1) ls (kq_L (x <<< (y.toInt64 &&& 63)) :: st) μ Q) : kq_S M d pc ls (kq_I y :: kq_L x :: st) μ Q := by
  intro R kc ks l g p e s m args below meth c H locs lc hR hC hH hz hL hV
  exact lv_lshl hC.1 hC.2.1 hd rfl (k R kc ks l g p e s m args below meth c H locs lc hR hC hH hz hL hV)
theorem kq_lshr {M : kq_D} {d pc : Nat} {ls : List (Option kq_V)} {st : List kq_V} {μ : kq_M} {Q : Option kq_V → kq_M → Prop} {x : Int64} {y : Int32} (hd : decode M.2.1 pc = .ok (.lshr, 1)) (k : kq_S M d (pc + 1) ls (kq_L (x >>> (y.toInt64 &&& 63)) :: st) μ Q) : kq_S M d pc ls (kq_I y :: kq_L x :: st) μ Q := by
  intro R kc ks l g p e s m args below meth c H locs lc hR hC hH hz hL hV
  exact lv_lshr hC.1 hC.2.1 hd rfl (k R kc ks l g p e s m args below meth c H locs lc hR hC hH hz hL hV)
theorem kq_lcmp {M : kq_D} {d pc : Nat} {ls : List (Option kq_V)} {st : List kq_V} {μ : kq_M} {Q : Option kq_V → kq_M → Prop} {x y : Int64} (hd : decode M.2.1 pc = .ok (.lcmp, 1)) (k : kq_S M d (pc + 1) ls (kq_I (lg_cmp x y) :: st) μ Q) : kq_S M d pc ls (kq_L y :: kq_L x :: st) μ Q := by
  intro R kc ks l g p e s m args below meth c H locs lc hR hC hH hz hL hV
  exact W.lcmp hC.1 hC.2.1 hd (k R kc ks l g p e s m args below meth c H locs lc hR hC hH hz hL hV)
theorem kq_i2l {M : kq_D} {d pc : Nat} {ls : List (Option kq_V)} {st : List kq_V} {μ : kq_M} {Q : Option kq_V → kq_M → Prop} {x : Int32} (hd : decode M.2.1 pc = .ok (.i2l, 1)) (k : kq_S M d (pc + 1) ls (kq_L x.toInt64 :: st) μ Q) : kq_S M d pc ls (kq_I x :: st) μ Q := by
  intro R kc ks l g p e s m args below meth c H locs lc hR hC hH hz hL hV
  exact lv_i2l hC.1 hC.2.1 hd rfl (k R kc ks l g p e s m args below meth c H locs lc hR hC hH hz hL hV)
theorem kq_l2i {M : kq_D} {d pc : Nat} {ls : List (Option kq_V)} {st : List kq_V} {μ : kq_M} {Q : Option kq_V → kq_M → Prop} {x : Int64} (hd : decode M.2.1 pc = .ok (.l2i, 1)) (k : kq_S M d (pc + 1) ls (kq_I x.toInt32 :: st) μ Q) : kq_S M d pc ls (kq_L x :: st) μ Q := by
  intro R kc ks l g p e s m args below meth c H locs lc hR hC hH hz hL hV
  exact lv_l2i hC.1 hC.2.1 hd rfl (k R kc ks l g p e s m args below meth c H locs lc hR hC hH hz hL hV)
theorem kq_i2b {M : kq_D} {d pc : Nat} {ls : List (Option kq_V)} {st : List kq_V} {μ : kq_M} {Q : Option kq_V → kq_M → Prop} {x : Int32} (hd : decode M.2.1 pc = .ok (.i2b, 1)) (k : kq_S M d (pc + 1) ls (kq_I x.toInt8.toInt32 :: st) μ Q) : kq_S M d pc ls (kq_I x :: st) μ Q := by
  intro R kc ks l g p e s m args below meth c H locs lc hR hC hH hz hL hV
  exact lv_i2b hC.1 hC.2.1 hd rfl (k R kc ks l g p e s m args below meth c H locs lc hR hC hH hz hL hV)
theorem kq_i2s {M : kq_D} {d pc : Nat} {ls : List (Option kq_V)} {st : List kq_V} {μ : kq_M} {Q : Option kq_V → kq_M → Prop} {x : Int32} (hd : decode M.2.1 pc = .ok (.i2s, 1)) (k : kq_S M d (pc + 1) ls (kq_I x.toInt16.toInt32 :: st) μ Q) : kq_S M d pc ls (kq_I x :: st) μ Q := by
  intro R kc ks l g p e s m args below meth c H locs lc hR hC hH hz hL hV
  exact lv_i2s hC.1 hC.2.1 hd rfl (k R kc ks l g p e s m args below meth c H locs lc hR hC hH hz hL hV)
theorem kq_i2c {M : kq_D} {d pc : Nat} {ls : List (Option kq_V)} {st : List kq_V} {μ : kq_M} {Q : Option kq_V → kq_M → Prop} {x : Int32} (hd : decode M.2.1 pc = .ok (.i2c, 1)) (k : kq_S M d (pc + 1) ls (kq_I (x.toUInt32 % 65536).toInt32 :: st) μ Q) : kq_S M d pc ls (kq_I x :: st) μ Q := by
  intro R kc ks l g p e s m args below meth c H locs lc hR hC hH hz hL hV
  exact lv_i2c hC.1 hC.2.1 hd rfl (k R kc ks l g p e s m args below meth c H locs lc hR hC hH hz hL hV)
theorem kq_dup {M : kq_D} {d pc : Nat} {ls : List (Option kq_V)} {st : List kq_V} {μ : kq_M} {Q : Option kq_V → kq_M → Prop} {v : kq_V} (hd : decode M.2.1 pc = .ok (.dup, 1)) (hc : kq_cat v = 1) (k : kq_S M d (pc + 1) ls (v :: v :: st) μ Q) : kq_S M d pc ls (v :: st) μ Q := by
  intro R kc ks l g p e s m args below meth c H locs lc hR hC hH hz hL hV
  exact lv_dup hC.1 hC.2.1 hd (by rw [kq_tr_cat hC.2.2.2.2.2.2.2.1.gF]; exact hc) (k R kc ks l g p e s m args below meth c H locs lc hR hC hH hz hL hV)
theorem kq_pop {M : kq_D} {d pc : Nat} {ls : List (Option kq_V)} {st : List kq_V} {μ : kq_M} {Q : Option kq_V → kq_M → Prop} {v : kq_V} (hd : decode M.2.1 pc = .ok (.pop, 1)) (hc : kq_cat v = 1) (k : kq_S M d (pc + 1) ls (st) μ Q) : kq_S M d pc ls (v :: st) μ Q := by
  intro R kc ks l g p e s m args below meth c H locs lc hR hC hH hz hL hV
  exact lv_pop hC.1 hC.2.1 hd (by rw [kq_tr_cat hC.2.2.2.2.2.2.2.1.gF]; exact hc) (k R kc ks l g p e s m args below meth c H locs lc hR hC hH hz hL hV)
theorem kq_dup2 {M : kq_D} {d pc : Nat} {ls : List (Option kq_V)} {st : List kq_V} {μ : kq_M} {Q : Option kq_V → kq_M → Prop} {v w : kq_V} (hd : decode M.2.1 pc = .ok (.dup2, 1)) (hc : kq_cat v = 1) (hc2 : kq_cat w = 1) (k : kq_S M d (pc + 1) ls (v :: w :: v :: w :: st) μ Q) : kq_S M d pc ls (v :: w :: st) μ Q := by
  intro R kc ks l g p e s m args below meth c H locs lc hR hC hH hz hL hV
  exact lv_dup2_11 hC.1 hC.2.1 hd (by rw [kq_tr_cat hC.2.2.2.2.2.2.2.1.gF]; exact hc) (by rw [kq_tr_cat hC.2.2.2.2.2.2.2.1.gF]; exact hc2) (k R kc ks l g p e s m args below meth c H locs lc hR hC hH hz hL hV)
theorem kq_if_eq {M : kq_D} {d pc : Nat} {ls : List (Option kq_V)} {st : List kq_V} {μ : kq_M} {Q : Option kq_V → kq_M → Prop} {x : Int32} {off : Int} (tgt : Nat) (hd : decode M.2.1 pc = .ok (.ifCond .eq off, 3)) (ht : (pc : Int) + off = (tgt : Int)) (kt : x = 0 → kq_S M d tgt ls st μ Q) (kf : ¬ x = 0 → kq_S M d (pc + 3) ls st μ Q) : kq_S M d pc ls (kq_I x :: st) μ Q := by
  intro R kc ks l g p e s m args below meth c H locs lc hR hC hH hz hL hV
  exact lv_if_eq (tgt := tgt) hC.1 hC.2.1 hd ht (fun h => kt h R kc ks l g p e s m args below meth c H locs lc hR hC hH hz hL hV) (fun h => kf h R kc ks l g p e s m args below meth c H locs lc hR hC hH hz hL hV)
theorem kq_icmp_eq {M : kq_D} {d pc : Nat} {ls : List (Option kq_V)} {st : List kq_V} {μ : kq_M} {Q : Option kq_V → kq_M → Prop} {x y : Int32} {off : Int} (tgt : Nat) (hd : decode M.2.1 pc = .ok (.if_icmp .eq off, 3)) (ht : (pc : Int) + off = (tgt : Int)) (kt : x = y → kq_S M d tgt ls st μ Q) (kf : ¬ x = y → kq_S M d (pc + 3) ls st μ Q) : kq_S M d pc ls (kq_I y :: kq_I x :: st) μ Q := by
  intro R kc ks l g p e s m args below meth c H locs lc hR hC hH hz hL hV
  exact lv_icmp_eq (tgt := tgt) hC.1 hC.2.1 hd ht (fun h => kt h R kc ks l g p e s m args below meth c H locs lc hR hC hH hz hL hV) (fun h => kf h R kc ks l g p e s m args below meth c H locs lc hR hC hH hz hL hV)
theorem kq_if_ne {M : kq_D} {d pc : Nat} {ls : List (Option kq_V)} {st : List kq_V} {μ : kq_M} {Q : Option kq_V → kq_M → Prop} {x : Int32} {off : Int} (tgt : Nat) (hd : decode M.2.1 pc = .ok (.ifCond .ne off, 3)) (ht : (pc : Int) + off = (tgt : Int)) (kt : ¬ x = 0 → kq_S M d tgt ls st μ Q) (kf : x = 0 → kq_S M d (pc + 3) ls st μ Q) : kq_S M d pc ls (kq_I x :: st) μ Q := by
  intro R kc ks l g p e s m args below meth c H locs lc hR hC hH hz hL hV
  exact lv_if_ne (tgt := tgt) hC.1 hC.2.1 hd ht (fun h => kt h R kc ks l g p e s m args below meth c H locs lc hR hC hH hz hL hV) (fun h => kf h R kc ks l g p e s m args below meth c H locs lc hR hC hH hz hL hV)
theorem kq_icmp_ne {M : kq_D} {d pc : Nat} {ls : List (Option kq_V)} {st : List kq_V} {μ : kq_M} {Q : Option kq_V → kq_M → Prop} {x y : Int32} {off : Int} (tgt : Nat) (hd : decode M.2.1 pc = .ok (.if_icmp .ne off, 3)) (ht : (pc : Int) + off = (tgt : Int)) (kt : ¬ x = y → kq_S M d tgt ls st μ Q) (kf : x = y → kq_S M d (pc + 3) ls st μ Q) : kq_S M d pc ls (kq_I y :: kq_I x :: st) μ Q := by
  intro R kc ks l g p e s m args below meth c H locs lc hR hC hH hz hL hV
  exact lv_icmp_ne (tgt := tgt) hC.1 hC.2.1 hd ht (fun h => kt h R kc ks l g p e s m args below meth c H locs lc hR hC hH hz hL hV) (fun h => kf h R kc ks l g p e s m args below meth c H locs lc hR hC hH hz hL hV)
theorem kq_if_lt {M : kq_D} {d pc : Nat} {ls : List (Option kq_V)} {st : List kq_V} {μ : kq_M} {Q : Option kq_V → kq_M → Prop} {x : Int32} {off : Int} (tgt : Nat) (hd : decode M.2.1 pc = .ok (.ifCond .lt off, 3)) (ht : (pc : Int) + off = (tgt : Int)) (kt : x < 0 → kq_S M d tgt ls st μ Q) (kf : ¬ x < 0 → kq_S M d (pc + 3) ls st μ Q) : kq_S M d pc ls (kq_I x :: st) μ Q := by
  intro R kc ks l g p e s m args below meth c H locs lc hR hC hH hz hL hV
  exact lv_if_lt (tgt := tgt) hC.1 hC.2.1 hd ht (fun h => kt h R kc ks l g p e s m args below meth c H locs lc hR hC hH hz hL hV) (fun h => kf h R kc ks l g p e s m args below meth c H locs lc hR hC hH hz hL hV)
theorem kq_icmp_lt {M : kq_D} {d pc : Nat} {ls : List (Option kq_V)} {st : List kq_V} {μ : kq_M} {Q : Option kq_V → kq_M → Prop} {x y : Int32} {off : Int} (tgt : Nat) (hd : decode M.2.1 pc = .ok (.if_icmp .lt off, 3)) (ht : (pc : Int) + off = (tgt : Int)) (kt : x < y → kq_S M d tgt ls st μ Q) (kf : ¬ x < y → kq_S M d (pc + 3) ls st μ Q) : kq_S M d pc ls (kq_I y :: kq_I x :: st) μ Q := by
  intro R kc ks l g p e s m args below meth c H locs lc hR hC hH hz hL hV
  exact lv_icmp_lt (tgt := tgt) hC.1 hC.2.1 hd ht (fun h => kt h R kc ks l g p e s m args below meth c H locs lc hR hC hH hz hL hV) (fun h => kf h R kc ks l g p e s m args below meth c H locs lc hR hC hH hz hL hV)
theorem kq_if_ge {M : kq_D} {d pc : Nat} {ls : List (Option kq_V)} {st : List kq_V} {μ : kq_M} {Q : Option kq_V → kq_M → Prop} {x : Int32} {off : Int} (tgt : Nat) (hd : decode M.2.1 pc = .ok (.ifCond .ge off, 3)) (ht : (pc : Int) + off = (tgt : Int)) (kt : 0 ≤ x → kq_S M d tgt ls st μ Q) (kf : ¬ 0 ≤ x → kq_S M d (pc + 3) ls st μ Q) : kq_S M d pc ls (kq_I x :: st) μ Q := by
  intro R kc ks l g p e s m args below meth c H locs lc hR hC hH hz hL hV
  exact lv_if_ge (tgt := tgt) hC.1 hC.2.1 hd ht (fun h => kt h R kc ks l g p e s m args below meth c H locs lc hR hC hH hz hL hV) (fun h => kf h R kc ks l g p e s m args below meth c H locs lc hR hC hH hz hL hV)
theorem kq_icmp_ge {M : kq_D} {d pc : Nat} {ls : List (Option kq_V)} {st : List kq_V} {μ : kq_M} {Q : Option kq_V → kq_M → Prop} {x y : Int32} {off : Int} (tgt : Nat) (hd : decode M.2.1 pc = .ok (.if_icmp .ge off, 3)) (ht : (pc : Int) + off = (tgt : Int)) (kt : y ≤ x → kq_S M d tgt ls st μ Q) (kf : ¬ y ≤ x → kq_S M d (pc + 3) ls st μ Q) : kq_S M d pc ls (kq_I y :: kq_I x :: st) μ Q := by
  intro R kc ks l g p e s m args below meth c H locs lc hR hC hH hz hL hV
  exact lv_icmp_ge (tgt := tgt) hC.1 hC.2.1 hd ht (fun h => kt h R kc ks l g p e s m args below meth c H locs lc hR hC hH hz hL hV) (fun h => kf h R kc ks l g p e s m args below meth c H locs lc hR hC hH hz hL hV)
theorem kq_if_gt {M : kq_D} {d pc : Nat} {ls : List (Option kq_V)} {st : List kq_V} {μ : kq_M} {Q : Option kq_V → kq_M → Prop} {x : Int32} {off : Int} (tgt : Nat) (hd : decode M.2.1 pc = .ok (.ifCond .gt off, 3)) (ht : (pc : Int) + off = (tgt : Int)) (kt : 0 < x → kq_S M d tgt ls st μ Q) (kf : ¬ 0 < x → kq_S M d (pc + 3) ls st μ Q) : kq_S M d pc ls (kq_I x :: st) μ Q := by
  intro R kc ks l g p e s m args below meth c H locs lc hR hC hH hz hL hV
  exact lv_if_gt (tgt := tgt) hC.1 hC.2.1 hd ht (fun h => kt h R kc ks l g p e s m args below meth c H locs lc hR hC hH hz hL hV) (fun h => kf h R kc ks l g p e s m args below meth c H locs lc hR hC hH hz hL hV)
theorem kq_icmp_gt {M : kq_D} {d pc : Nat} {ls : List (Option kq_V)} {st : List kq_V} {μ : kq_M} {Q : Option kq_V → kq_M → Prop} {x y : Int32} {off : Int} (tgt : Nat) (hd : decode M.2.1 pc = .ok (.if_icmp .gt off, 3)) (ht : (pc : Int) + off = (tgt : Int)) (kt : y < x → kq_S M d tgt ls st μ Q) (kf : ¬ y < x → kq_S M d (pc + 3) ls st μ Q) : kq_S M d pc ls (kq_I y :: kq_I x :: st) μ Q := by
  intro R kc ks l g p e s m args below meth c H locs lc hR hC hH hz hL hV
  exact lv_icmp_gt (tgt := tgt) hC.1 hC.2.1 hd ht (fun h => kt h R kc ks l g p e s m args below meth c H locs lc hR hC hH hz hL hV) (fun h => kf h R kc ks l g p e s m args below meth c H locs lc hR hC hH hz hL hV)
theorem kq_if_le {M : kq_D} {d pc : Nat} {ls : List (Option kq_V)} {st : List kq_V} {μ : kq_M} {Q : Option kq_V → kq_M → Prop} {x : Int32} {off : Int} (tgt : Nat) (hd : decode M.2.1 pc = .ok (.ifCond .le off, 3)) (ht : (pc : Int) + off = (tgt : Int)) (kt : x ≤ 0 → kq_S M d tgt ls st μ Q) (kf : ¬ x ≤ 0 → kq_S M d (pc + 3) ls st μ Q) : kq_S M d pc ls (kq_I x :: st) μ Q := by
  intro R kc ks l g p e s m args below meth c H locs lc hR hC hH hz hL hV
  exact lv_if_le (tgt := tgt) hC.1 hC.2.1 hd ht (fun h => kt h R kc ks l g p e s m args below meth c H locs lc hR hC hH hz hL hV) (fun h => kf h R kc ks l g p e s m args below meth c H locs lc hR hC hH hz hL hV)
theorem kq_icmp_le {M : kq_D} {d pc : Nat} {ls : List (Option kq_V)} {st : List kq_V} {μ : kq_M} {Q : Option kq_V → kq_M → Prop} {x y : Int32} {off : Int} (tgt : Nat) (hd : decode M.2.1 pc = .ok (.if_icmp .le off, 3)) (ht : (pc : Int) + off = (tgt : Int)) (kt : x ≤ y → kq_S M d tgt ls st μ Q) (kf : ¬ x ≤ y → kq_S M d (pc + 3) ls st μ Q) : kq_S M d pc ls (kq_I y :: kq_I x :: st) μ Q := by
  intro R kc ks l g p e s m args below meth c H locs lc hR hC hH hz hL hV
  exact lv_icmp_le (tgt := tgt) hC.1 hC.2.1 hd ht (fun h => kt h R kc ks l g p e s m args below meth c H locs lc hR hC hH hz hL hV) (fun h => kf h R kc ks l g p e s m args below meth c H locs lc hR hC hH hz hL hV)
theorem kq_goto {M : kq_D} {d pc : Nat} {ls : List (Option kq_V)} {st : List kq_V} {μ : kq_M} {Q : Option kq_V → kq_M → Prop} {off : Int} (tgt : Nat) (hd : decode M.2.1 pc = .ok (.goto off, 3)) (ht : (pc : Int) + off = (tgt : Int)) (k : kq_S M d tgt ls st μ Q) : kq_S M d pc ls st μ Q := by
  intro R kc ks l g p e s m args below meth c H locs lc hR hC hH hz hL hV
  exact lv_goto (tgt := tgt) hC.1 hC.2.1 hd ht (k R kc ks l g p e s m args below meth c H locs lc hR hC hH hz hL hV)
theorem kq_tabOut {M : kq_D} {d pc : Nat} {ls : List (Option kq_V)} {st : List kq_V} {μ : kq_M} {Q : Option kq_V → kq_M → Prop} {dflt lo hi : Int} {offs : Array Int} {len : Nat} {x : Int32} (tgt : Nat) (hd : decode M.2.1 pc = .ok (.tableswitch dflt lo hi offs, len)) (h : x.toInt < lo ∨ hi < x.toInt) (ht : (pc : Int) + dflt = (tgt : Int)) (k : kq_S M d tgt ls st μ Q) : kq_S M d pc ls (kq_I x :: st) μ Q := by
  intro R kc ks l g p e s m args below meth c H locs lc hR hC hH hz hL hV
  exact lv_tableOut (tgt := tgt) hC.1 hC.2.1 hd h ht (k R kc ks l g p e s m args below meth c H locs lc hR hC hH hz hL hV)
theorem kq_tabIn {M : kq_D} {d pc : Nat} {ls : List (Option kq_V)} {st : List kq_V} {μ : kq_M} {Q : Option kq_V → kq_M → Prop} {dflt lo hi : Int} {offs : Array Int} {len : Nat} {x : Int32} {off : Int} (tgt : Nat) (hd : decode M.2.1 pc = .ok (.tableswitch dflt lo hi offs, len)) (h1 : ¬ x.toInt < lo) (h2 : ¬ hi < x.toInt) (ho : offs[(x.toInt - lo).toNat]? = some off) (ht : (pc : Int) + off = (tgt : Int)) (k : kq_S M d tgt ls st μ Q) : kq_S M d pc ls (kq_I x :: st) μ Q := by
  intro R kc ks l g p e s m args below meth c H locs lc hR hC hH hz hL hV
  exact lv_tableIn (tgt := tgt) hC.1 hC.2.1 hd h1 h2 ho ht (k R kc ks l g p e s m args below meth c H locs lc hR hC hH hz hL hV)
theorem kq_lookup {M : kq_D} {d pc : Nat} {ls : List (Option kq_V)} {st : List kq_V} {μ : kq_M} {Q : Option kq_V → kq_M → Prop} {dflt : Int} {ps : Array (Int × Int)} {len : Nat} {x : Int32} {off : Int} (tgt : Nat) (hd : decode M.2.1 pc = .ok (.lookupswitch dflt ps, len)) (hp : (ps.toList.zip (ps.toList.drop 1)).all (fun (a, next) => a.1 < next.1) = true) (ho : Op.lookupswitch.offset ps.toList dflt x.toInt = off) (ht : (pc : Int) + off = (tgt : Int)) (k : kq_S M d tgt ls st μ Q) : kq_S M d pc ls (kq_I x :: st) μ Q := by
  intro R kc ks l g p e s m args below meth c H locs lc hR hC hH hz hL hV
  exact lv_lookup (tgt := tgt) hC.1 hC.2.1 hd hp ho ht (k R kc ks l g p e s m args below meth c H locs lc hR hC hH hz hL hV)
theorem kq_iret {M : kq_D} {d pc : Nat} {ls : List (Option kq_V)} {μ : kq_M} {Q : Option kq_V → kq_M → Prop} {v : Int32} (hd : decode M.2.1 pc = .ok (.ireturn, 1)) (hr : M.2.2.2 = some .int) (k : Q (some (kq_I v)) μ) : kq_S M d pc ls ([kq_I v]) μ Q := by
  intro R kc ks l g p e s m args below meth c H locs lc hR hC hH hz hL hV
  exact W.iret hC.1 hC.2.1 (hC.2.2.1.trans hr) (fun t ht hW => ⟨some (kq_I v), μ, rfl, k, by rw [ht]; exact hH, rfl, by rw [ht]; exact hz⟩) hL hd hC.2.2.2.1
theorem kq_zret {M : kq_D} {d pc : Nat} {ls : List (Option kq_V)} {μ : kq_M} {Q : Option kq_V → kq_M → Prop} {v : Int32} {ty : FieldType} (hd : decode M.2.1 pc = .ok (.ireturn, 1)) (hr : M.2.2.2 = some ty) (hn : narrow ty (.int v) = .int v) (k : Q (some (kq_I v)) μ) : kq_S M d pc ls ([kq_I v]) μ Q := by
  intro R kc ks l g p e s m args below meth c H locs lc hR hC hH hz hL hV
  exact W.zret hC.1 hC.2.1 (hC.2.2.1.trans hr) hn (fun t ht hW => ⟨some (kq_I v), μ, rfl, k, by rw [ht]; exact hH, rfl, by rw [ht]; exact hz⟩) hL hd hC.2.2.2.1
theorem kq_lret {M : kq_D} {d pc : Nat} {ls : List (Option kq_V)} {μ : kq_M} {Q : Option kq_V → kq_M → Prop} {v : Int64} (hd : decode M.2.1 pc = .ok (.lreturn, 1)) (hr : M.2.2.2 = some .long) (k : Q (some (kq_L v)) μ) : kq_S M d pc ls ([kq_L v]) μ Q := by
  intro R kc ks l g p e s m args below meth c H locs lc hR hC hH hz hL hV
  exact W.lret hC.1 hC.2.1 (hC.2.2.1.trans hr) (fun t ht hW => ⟨some (kq_L v), μ, rfl, k, by rw [ht]; exact hH, rfl, by rw [ht]; exact hz⟩) hL hd hC.2.2.2.1
theorem kq_aret {M : kq_D} {d pc : Nat} {ls : List (Option kq_V)} {μ : kq_M} {Q : Option kq_V → kq_M → Prop} {r j : Nat} {nm : String} (hd : decode M.2.1 pc = .ok (.areturn, 1)) (hr : M.2.2.2 = some (.object nm)) (h5 : j ≠ 45) (k : Q (some (kq_R r j)) μ) : kq_S M d pc ls ([kq_R r j]) μ Q := by
  intro R kc ks l g p e s m args below meth c H locs lc hR hC hH hz hL hV
  show W p l e R s m args below meth c H locs kc ks _ (F0 m pc lc [kq_tr g (kq_R r j)])
  exact W.aret hC.1 hC.2.1 (hC.2.2.1.trans hr) (Or.inl ⟨nm, rfl⟩) (Or.inr ⟨_, kq_trR g r h5⟩) (fun t ht hW => ⟨some (kq_R r j), μ, rfl, k, by rw [ht]; exact hH, rfl, by rw [ht]; exact hz⟩) hL hd hC.2.2.2.1
theorem kq_vret {M : kq_D} {d pc : Nat} {ls : List (Option kq_V)} {μ : kq_M} {Q : Option kq_V → kq_M → Prop} (hd : decode M.2.1 pc = .ok (.return_, 1)) (hr : M.2.2.2 = none) (k : Q none μ) : kq_S M d pc ls [] μ Q := by
  intro R kc ks l g p e s m args below meth c H locs lc hR hC hH hz hL hV
  exact W.vret hC.1 hC.2.1 (hC.2.2.1.trans hr) (fun t ht hW => ⟨none, μ, rfl, k, by rw [ht]; exact hH, rfl, by rw [ht]; exact hz⟩) hL hd hC.2.2.2.1
end
section
/-! THE RULES of the memory and of calls -/
theorem kq_C.S {M : kq_D} {g : kq_G} {S : Nat × (Nat → Int32)} {p : Program} {s : State} {m : MethodId} {args : Array Value} {meth : Method} {c : Code} {μ : kq_M} {H : Heap} {locs : List Loc} (hC : kq_C M g S p s m args meth c) (hH : kq_Hd g μ H) (hz : H.size = s.heap.size) (hL : ∀ q ∈ locs, kq_A g q.base) : va_S (kq_A g) s.heap H locs :=
  ⟨Nat.le_of_eq hz.symm, fun q _ h2 => by
    have h3 : q < (kq_gH g).size := Nat.not_le.mp h2
    rw [hH.2.2 q h3, hC.2.2.2.2.2.2.2.2.2.2 q h3], hL⟩
/-- a fact of the law's heap is one of the method's first heap -/
theorem kq_C.old {M : kq_D} {g : kq_G} {S : Nat × (Nat → Int32)} {p : Program} {s : State} {m : MethodId} {args : Array Value} {meth : Method} {c : Code} (hC : kq_C M g S p s m args meth c) : ∀ a : Nat, a < (kq_gH g).size → ¬ kq_A g a → s.heap[a]? = (kq_gH g)[a]? := fun a h _ => hC.2.2.2.2.2.2.2.2.2.2 a h
theorem kq_C.w {M : kq_D} {g : kq_G} {S : Nat × (Nat → Int32)} {p : Program} {s : State} {m : MethodId} {args : Array Value} {meth : Method} {c : Code} (hC : kq_C M g S p s m args meth c) {w : Cond} (hw : w ∈ kq_tbl) : w.before args s = true := hC.2.2.2.2.2.2.1 _ hw
theorem kq_C.D {M : kq_D} {g : kq_G} {S : Nat × (Nat → Int32)} {p : Program} {s : State} {m : MethodId} {args : Array Value} {meth : Method} {c : Code} (hC : kq_C M g S p s m args meth c) : kq_Wd g S s := hC.2.2.2.2.2.2.2.1
theorem kq_Wd.K {g : kq_G} {S : Nat × (Nat → Int32)} {s : State} (h : kq_Wd g S s) {c : Nat} (hc : c < 5) : u_Kn s (kq_cn c) (kq_FT c) (kq_nF c) ((kq_gD g).1 c) ((kq_gD g).2 c) := h.1.1 c _ (kq_cg c hc)
theorem kq_Wd.aI {g : kq_G} {S : Nat × (Nat → Int32)} {s : State} (h : kq_Wd g S s) : ArrOfT s (kq_gA g 0) .int := (h.1.2 0 _ rfl).1
theorem kq_Wd.aL {g : kq_G} {S : Nat × (Nat → Int32)} {s : State} (h : kq_Wd g S s) : ArrOfT s (kq_gA g 1) .long := (h.1.2 1 _ rfl).1
theorem kq_Wd.aS {g : kq_G} {S : Nat × (Nat → Int32)} {s : State} (h : kq_Wd g S s) : ArrOfT s (kq_gA g 2) (.object "KettleInquest$Sheet") := (h.1.2 2 _ rfl).1
theorem kq_at0 {g : kq_G} {μ : kq_M} {r i : Nat} {H : Heap} (h : kq_at g μ r i H) (hi : kq_ck i = 0) : t_OB (kq_gd g r i) ((kq_gD g).1 (kq_ci i)) (kq_nF (kq_ci i)) ((kq_gD g).2 (kq_ci i)) H (kq_val g μ r i) := by
  unfold kq_at at h
  rw [hi] at h
  exact h
theorem kq_at1 {g : kq_G} {μ : kq_M} {r i : Nat} {H : Heap} (h : kq_at g μ r i H) (hi : kq_ck i = 1) : H[kq_gd g r i]? = some (arrV (kq_gA g 0) (kq_len i) (fun j => .int (kq_rI μ r i j))) := by
  unfold kq_at at h
  rw [hi] at h
  exact h
theorem kq_at2 {g : kq_G} {μ : kq_M} {r i : Nat} {H : Heap} (h : kq_at g μ r i H) (hi : kq_ck i = 2) : H[kq_gd g r i]? = some (arrV (kq_gA g 1) (kq_len i) (fun j => .long (kq_rL μ r i j))) := by
  unfold kq_at at h
  rw [hi] at h
  exact h
theorem kq_at3 {g : kq_G} {μ : kq_M} {r i : Nat} {H : Heap} (h : kq_at g μ r i H) (hi : kq_ck i = 3) : H[kq_gd g r i]? = some (arrV (kq_gA g 2) (kq_len i) (fun j => .ref (kq_gd g j 8))) := by
  unfold kq_at at h
  rw [hi] at h
  exact h
/-- one cell changes, and the memory there -/
theorem kq_Hd.put {g : kq_G} {μ μ' : kq_M} {r i : Nat} {H H' : Heap} (hA : kq_Ap g) (hH : kq_Hd g μ H) (hok : kq_ok i r = true) (hz : H'.size = H.size) (ho : ∀ q : Nat, q ≠ kq_gd g r i → H'[q]? = H[q]?) (hat : kq_at g μ' r i H') (hI : ∀ a b k, ¬ (a = r ∧ b = i) → kq_rI μ' a b k = kq_rI μ a b k) (hL : ∀ a b k, ¬ (a = r ∧ b = i) → kq_rL μ' a b k = kq_rL μ a b k) : kq_Hd g μ' H' := by
  refine ⟨fun a b hab => ?_, by rw [hz]; exact hH.2.1, fun q hq => ?_⟩
  · by_cases e : a = r ∧ b = i
    · obtain ⟨rfl, rfl⟩ := e
      exact hat
    · exact (hH.1 a b hab).keep (ho _ (fun q => e (hA.1 a b r i hab hok q))) (fun k => hI a b k e) (fun k => hL a b k e)
  · rw [ho q (fun e => ?_)]
    · exact hH.2.2 q hq
    · have h1 := hA.2 r i hok
      rw [← e] at h1
      exact absurd hq (Nat.not_lt.mpr h1)
section KM
variable {M : kq_D} {d pc : Nat} {ls : List (Option kq_V)} {st : List kq_V} {μ : kq_M} {Q : Option kq_V → kq_M → Prop}
theorem kq_getf {idx r : Nat} (i k : Nat) (hd : decode M.2.1 pc = .ok (.getfield idx, 3)) (hw : Cond.fieldLink M.1.cls idx (kq_FT (kq_ci i) k).1 (kq_FT (kq_ci i) k).2.1 (kq_FT (kq_ci i) k).2.2.1 ∈ kq_tbl) (hi : kq_ck i = 0 ∧ kq_ci i < 5 ∧ k < kq_nF (kq_ci i) ∧ i ≠ 45) (h5 : (kq_tg r i k).2 ≠ 45) (hok : kq_ok i r = true) (kk : kq_S M d (pc + 3) ls (kq_av μ r i k :: st) μ Q) : kq_S M d pc ls (kq_R r i :: st) μ Q := by
  intro R kc ks l g p e s m args below meth c H locs lc hR hC hH hz hL hV
  obtain ⟨h0, h1, h2, h3⟩ := hi
  have k1 := kk R kc ks l g p e s m args below meth c H locs lc hR hC hH hz hL hV
  rw [List.map_cons, kq_tr_av g μ r i k h5] at k1
  rw [List.map_cons, kq_trR g r h3]
  obtain ⟨cell, q1, q2, q3, q4⟩ := kq_at0 (hH.1 r i hok) h0
  obtain ⟨hS, hfc, kC, hkC, hkind⟩ := hC.D.K h1
  obtain ⟨cf, kf, fi, f, hfi, hsl⟩ := hS k h2
  refine W.getf hC.1 hC.2.1 hC.2.2.2.2.2.1 (hC.w hw) hfi (u_facts hfc hkC (u_lays (ws := kq_tbl) (fun w h => hC.w h) (kq_ci_in _ h1) h2) hfi).1 q1 (by rw [q3]; exact fun h => by cases h) (v := kq_val g μ r i k) ?_ rfl rfl hd k1
  rw [hsl, q4 k h2]
theorem kq_putI {idx r : Nat} {v : Int32} {ty : FieldType} (i k : Nat) (hd : decode M.2.1 pc = .ok (.putfield idx, 3)) (hw : Cond.fieldLink M.1.cls idx (kq_FT (kq_ci i) k).1 (kq_FT (kq_ci i) k).2.1 (kq_FT (kq_ci i) k).2.2.1 ∈ kq_tbl) (hi : kq_ck i = 0 ∧ kq_ci i < 5 ∧ k < kq_nF (kq_ci i) ∧ i ≠ 45 ∧ kq_fk i k = 0 ∧ (kq_FT (kq_ci i) k).2.2.2 = false ∧ kq_tt (kq_ci i) k = ty) (hn : narrow ty (.int v) = .int v ∧ fits ty (.int v) = true) (hok : kq_ok i r = true) (kk : kq_S M d (pc + 3) ls st (kq_wI μ r i k v) Q) : kq_S M d pc ls (kq_I v :: kq_R r i :: st) μ Q := by
  intro R kc ks l g p e s m args below meth c H locs lc hR hC hH hz hL hV
  obtain ⟨h0, h1, h2, h3, h4, h6, h7⟩ := hi
  rw [List.map_cons, List.map_cons, kq_trR g r h3]
  have hts : ∀ w ∈ kq_tbl, w.before args s = true := fun w h => hC.w h
  have hin := kq_ci_in _ h1
  have hKn := hC.D.K h1
  have hap : ∀ x y, x < kq_nF (kq_ci i) → y < kq_nF (kq_ci i) → x ≠ y → ((kq_gD g).2 (kq_ci i)) x ≠ ((kq_gD g).2 (kq_ci i)) y := va_apart (own := M.1.cls) hts hin (kq_tt (kq_ci i)) (kq_ci_ty _ h1) (kq_ci_nm _ h1) hC.D.1 (kq_cg _ h1)
  obtain ⟨cell, q1, q2, q3, q4⟩ := kq_at0 (hH.1 r i hok) h0
  obtain ⟨hS, hfc, kC, hkC, hkind⟩ := hKn
  obtain ⟨cf, kf, fi, f, hfi, hsl⟩ := hS k h2
  have hlay := hts _ (hin _ (u_in_lay h2))
  unfold u_lay at hlay
  rw [if_neg (by rw [h6]; decide)] at hlay
  have hst := (u_facts hfc hkC (u_lays hts hin h2) hfi).1
  have hty := kq_ci_ty _ h1 k h2
  rw [h7] at hty
  have h9 := u_store hfc hkC hkind hlay hfi hty hn.1 hn.2
  refine W.putK hC.1 hC.2.1 (f := f) ⟨hC.2.2.2.2.2.1, hC.w hw, ⟨_, _, _, hfi⟩, hst⟩ (by rw [q2]; exact h9) q1 q3 (by rw [hsl]; exact k2_hasslot (q4 k h2)) rfl rfl hd fun H' e1 e2 e3 => ?_
  rw [hsl] at e1 ⊢
  refine kk R kc ks l g p e s m args below meth c H' _ lc hR hC (kq_Hd.put (μ := μ) hC.2.2.2.2.2.2.2.2.1 hH hok e2 e3 ?_ (fun a b k' h => ?_) (fun a b k' h => rfl)) (e2.trans hz) (fun q hq => ?_) hV
  · unfold kq_at
    rw [h0]
    refine t_OB.to (V := updV (kq_val g μ r i) k (.int v)) ⟨_, e1, q2, q3, t_set q4 hap h2 (.int v)⟩ (fun j _ => ?_)
    by_cases hj : j = k
    · subst hj
      unfold kq_val
      rw [h4]
      simp [updV, kq_rI_wI]
    · unfold kq_val
      simp only [updV, if_neg hj, kq_rI_wI, hj, and_false, if_false, kq_rL_wI]
  · rw [kq_rI_wI, if_neg (fun z => h ⟨z.1, z.2.1⟩)]
  · rcases List.mem_append.mp hq with h | h
    · exact hL q h
    · rw [List.mem_singleton.mp h]
      exact hC.2.2.2.2.2.2.2.2.1.2 r i hok
theorem kq_putL {idx r : Nat} {v : Int64} (i k : Nat) (hd : decode M.2.1 pc = .ok (.putfield idx, 3)) (hw : Cond.fieldLink M.1.cls idx (kq_FT (kq_ci i) k).1 (kq_FT (kq_ci i) k).2.1 (kq_FT (kq_ci i) k).2.2.1 ∈ kq_tbl) (hi : kq_ck i = 0 ∧ kq_ci i < 5 ∧ k < kq_nF (kq_ci i) ∧ i ≠ 45 ∧ kq_fk i k = 1 ∧ (kq_FT (kq_ci i) k).2.2.2 = false ∧ kq_tt (kq_ci i) k = .long) (hok : kq_ok i r = true) (kk : kq_S M d (pc + 3) ls st (kq_wL μ r i k v) Q) : kq_S M d pc ls (kq_L v :: kq_R r i :: st) μ Q := by
  intro R kc ks l g p e s m args below meth c H locs lc hR hC hH hz hL hV
  obtain ⟨h0, h1, h2, h3, h4, h6, h7⟩ := hi
  rw [List.map_cons, List.map_cons, kq_trR g r h3]
  have hts : ∀ w ∈ kq_tbl, w.before args s = true := fun w h => hC.w h
  have hin := kq_ci_in _ h1
  have hKn := hC.D.K h1
  have hap : ∀ x y, x < kq_nF (kq_ci i) → y < kq_nF (kq_ci i) → x ≠ y → ((kq_gD g).2 (kq_ci i)) x ≠ ((kq_gD g).2 (kq_ci i)) y := va_apart (own := M.1.cls) hts hin (kq_tt (kq_ci i)) (kq_ci_ty _ h1) (kq_ci_nm _ h1) hC.D.1 (kq_cg _ h1)
  obtain ⟨cell, q1, q2, q3, q4⟩ := kq_at0 (hH.1 r i hok) h0
  obtain ⟨hS, hfc, kC, hkC, hkind⟩ := hKn
  obtain ⟨cf, kf, fi, f, hfi, hsl⟩ := hS k h2
  have hlay := hts _ (hin _ (u_in_lay h2))
  unfold u_lay at hlay
  rw [if_neg (by rw [h6]; decide)] at hlay
  have hst := (u_facts hfc hkC (u_lays hts hin h2) hfi).1
  have hty := kq_ci_ty _ h1 k h2
  rw [h7] at hty
  have h9 := u_store (v := .long v) hfc hkC hkind hlay hfi hty rfl rfl
  refine W.putK hC.1 hC.2.1 (f := f) ⟨hC.2.2.2.2.2.1, hC.w hw, ⟨_, _, _, hfi⟩, hst⟩ (by rw [q2]; exact h9) q1 q3 (by rw [hsl]; exact k2_hasslot (q4 k h2)) rfl rfl hd fun H' e1 e2 e3 => ?_
  rw [hsl] at e1 ⊢
  refine kk R kc ks l g p e s m args below meth c H' _ lc hR hC (kq_Hd.put (μ := μ) hC.2.2.2.2.2.2.2.2.1 hH hok e2 e3 ?_ (fun a b k' h => rfl) (fun a b k' h => ?_)) (e2.trans hz) (fun q hq => ?_) hV
  · unfold kq_at
    rw [h0]
    refine t_OB.to (V := updV (kq_val g μ r i) k (.long v)) ⟨_, e1, q2, q3, t_set q4 hap h2 (.long v)⟩ (fun j _ => ?_)
    by_cases hj : j = k
    · subst hj
      unfold kq_val
      rw [h4]
      simp [updV, kq_rL_wL]
    · unfold kq_val
      simp only [updV, if_neg hj, kq_rL_wL, hj, and_false, if_false, kq_rI_wL]
  · rw [kq_rL_wL, if_neg (fun z => h ⟨z.1, z.2.1⟩)]
  · rcases List.mem_append.mp hq with h | h
    · exact hL q h
    · rw [List.mem_singleton.mp h]
      exact hC.2.2.2.2.2.2.2.2.1.2 r i hok
/-! rows of numbers -/
theorem kq_lenlt : ∀ i, kq_len i < 2 ^ 31 := by
  intro i
  unfold kq_len
  split <;> decide
theorem kq_iald {r : Nat} {x : Int32} (i j : Nat) (hd : decode M.2.1 pc = .ok (.iaload, 1)) (hi : kq_ck i = 1 ∧ i ≠ 45) (hok : kq_ok i r = true) (hx : x = nI j) (hj : j < kq_len i) (kk : kq_S M d (pc + 1) ls (kq_I (kq_rI μ r i j) :: st) μ Q) : kq_S M d pc ls (kq_I x :: kq_R r i :: st) μ Q := by
  intro R kc ks l g p e s m args below meth c H locs lc hR hC hH hz hL hV
  rw [List.map_cons, List.map_cons, kq_trR g r hi.2]
  have h1 := kq_at1 (hH.1 r i hok) hi.1
  have hc : x.toNatClampNeg = j := by rw [hx]; exact nI_clamp (Nat.lt_trans hj (kq_lenlt i))
  subst hc
  refine W.iald (v := .int (kq_rI μ r i x.toNatClampNeg)) hC.1 hC.2.1 h1 (hC.D.aI _ _) (fun q => by cases q) ?_ ?_ rfl rfl hd (kk R kc ks l g p e s m args below meth c H locs lc hR hC hH hz hL hV)
  · rw [arrV_size, hx]
    have := vp_in_nI hj (kq_lenlt i)
    exact this
  · rw [arrV_read _ _ hj]
theorem kq_lald {r : Nat} {x : Int32} (i j : Nat) (hd : decode M.2.1 pc = .ok (.laload, 1)) (hi : kq_ck i = 2 ∧ i ≠ 45) (hok : kq_ok i r = true) (hx : x = nI j) (hj : j < kq_len i) (kk : kq_S M d (pc + 1) ls (kq_L (kq_rL μ r i j) :: st) μ Q) : kq_S M d pc ls (kq_I x :: kq_R r i :: st) μ Q := by
  intro R kc ks l g p e s m args below meth c H locs lc hR hC hH hz hL hV
  rw [List.map_cons, List.map_cons, kq_trR g r hi.2]
  have h1 := kq_at2 (hH.1 r i hok) hi.1
  have hc : x.toNatClampNeg = j := by rw [hx]; exact nI_clamp (Nat.lt_trans hj (kq_lenlt i))
  subst hc
  refine W.lald (v := .long (kq_rL μ r i x.toNatClampNeg)) hC.1 hC.2.1 h1 (hC.D.aL _ _) (fun q => by cases q) ?_ ?_ rfl rfl hd (kk R kc ks l g p e s m args below meth c H locs lc hR hC hH hz hL hV)
  · rw [arrV_size, hx]
    have := vp_in_nI hj (kq_lenlt i)
    exact this
  · rw [arrV_read _ _ hj]
theorem kq_aald {r : Nat} {x : Int32} (i j : Nat) (hd : decode M.2.1 pc = .ok (.aaload, 1)) (hi : kq_ck i = 3 ∧ i ≠ 45) (hok : kq_ok i r = true) (hx : x = nI j) (hj : j < kq_len i) (kk : kq_S M d (pc + 1) ls (kq_R j 8 :: st) μ Q) : kq_S M d pc ls (kq_I x :: kq_R r i :: st) μ Q := by
  intro R kc ks l g p e s m args below meth c H locs lc hR hC hH hz hL hV
  rw [List.map_cons, List.map_cons, kq_trR g r hi.2]
  have h1 := kq_at3 (hH.1 r i hok) hi.1
  have hc : x.toNatClampNeg = j := by rw [hx]; exact nI_clamp (Nat.lt_trans hj (kq_lenlt i))
  subst hc
  refine W.aald (v := .ref (kq_gd g x.toNatClampNeg 8)) (ty := .object "KettleInquest$Sheet") hC.1 hC.2.1 h1 (hC.D.aS _ _) rfl (fun q => by cases q) ?_ ?_ rfl rfl hd ?_
  · rw [arrV_size, hx]
    have := vp_in_nI hj (kq_lenlt i)
    exact this
  · rw [arrV_read _ _ hj]
  · have k1 := kk R kc ks l g p e s m args below meth c H locs lc hR hC hH hz hL hV
    rw [List.map_cons, kq_trR g _ (by decide)] at k1
    exact k1
theorem kq_iast {r : Nat} {x v : Int32} (i j : Nat) (hd : decode M.2.1 pc = .ok (.iastore, 1)) (hi : kq_ck i = 1 ∧ i ≠ 45) (hok : kq_ok i r = true) (hx : x = nI j) (hj : j < kq_len i) (kk : kq_S M d (pc + 1) ls st (kq_wI μ r i j v) Q) : kq_S M d pc ls (kq_I v :: kq_I x :: kq_R r i :: st) μ Q := by
  intro R kc ks l g p e s m args below meth c H locs lc hR hC hH hz hL hV
  rw [List.map_cons, List.map_cons, List.map_cons, kq_trR g r hi.2]
  have h1 := kq_at1 (hH.1 r i hok) hi.1
  have hc : x.toNatClampNeg = j := by rw [hx]; exact nI_clamp (Nat.lt_trans hj (kq_lenlt i))
  subst hc
  refine W.iast hC.1 hC.2.1 h1 (hC.D.aI _ _) (fun q => by cases q) ?_ rfl rfl hd fun H' e1 e2 e3 => ?_
  · rw [arrV_size, hx]
    have := vp_in_nI hj (kq_lenlt i)
    exact this
  · refine kk R kc ks l g p e s m args below meth c H' _ lc hR hC (kq_Hd.put (μ := μ) hC.2.2.2.2.2.2.2.2.1 hH hok e2 e3 ?_ (fun a b k' h => ?_) (fun a b k' h => rfl)) (e2.trans hz) (fun q hq => ?_) hV
    · unfold kq_at
      rw [hi.1]
      show H'[kq_gd g r i]? = some (arrV (kq_gA g 0) (kq_len i) _)
      rw [e1, arrV_store]
      congr 2
      funext q
      by_cases hq : q = x.toNatClampNeg
      · subst hq
        simp [updV, kq_rI_wI]
      · simp [updV, kq_rI_wI, hq]
    · rw [kq_rI_wI, if_neg (fun z => h ⟨z.1, z.2.1⟩)]
    · rcases List.mem_append.mp hq with h | h
      · exact hL q h
      · rw [List.mem_singleton.mp h]
        exact hC.2.2.2.2.2.2.2.2.1.2 r i hok
theorem kq_last {r : Nat} {x : Int32} {v : Int64} (i j : Nat) (hd : decode M.2.1 pc = .ok (.lastore, 1)) (hi : kq_ck i = 2 ∧ i ≠ 45) (hok : kq_ok i r = true) (hx : x = nI j) (hj : j < kq_len i) (kk : kq_S M d (pc + 1) ls st (kq_wL μ r i j v) Q) : kq_S M d pc ls (kq_L v :: kq_I x :: kq_R r i :: st) μ Q := by
  intro R kc ks l g p e s m args below meth c H locs lc hR hC hH hz hL hV
  rw [List.map_cons, List.map_cons, List.map_cons, kq_trR g r hi.2]
  have h1 := kq_at2 (hH.1 r i hok) hi.1
  have hc : x.toNatClampNeg = j := by rw [hx]; exact nI_clamp (Nat.lt_trans hj (kq_lenlt i))
  subst hc
  refine W.last hC.1 hC.2.1 h1 (hC.D.aL _ _) (fun q => by cases q) ?_ rfl rfl hd fun H' e1 e2 e3 => ?_
  · rw [arrV_size, hx]
    have := vp_in_nI hj (kq_lenlt i)
    exact this
  · refine kk R kc ks l g p e s m args below meth c H' _ lc hR hC (kq_Hd.put (μ := μ) hC.2.2.2.2.2.2.2.2.1 hH hok e2 e3 ?_ (fun a b k' h => rfl) (fun a b k' h => ?_)) (e2.trans hz) (fun q hq => ?_) hV
    · unfold kq_at
      rw [hi.1]
      show H'[kq_gd g r i]? = some (arrV (kq_gA g 1) (kq_len i) _)
      rw [e1, arrV_store]
      congr 2
      funext q
      by_cases hq : q = x.toNatClampNeg
      · subst hq
        simp [updV, kq_rL_wL]
      · simp [updV, kq_rL_wL, hq]
    · rw [kq_rL_wL, if_neg (fun z => h ⟨z.1, z.2.1⟩)]
    · rcases List.mem_append.mp hq with h | h
      · exact hL q h
      · rw [List.mem_singleton.mp h]
        exact hC.2.2.2.2.2.2.2.2.1.2 r i hok
/-! what nobody writes: the script, the two tables, the texts -/
theorem kq_sald {x : Int32} (j : Nat) (hd : decode M.2.1 pc = .ok (.iaload, 1)) (hx : x = nI j) (hj : j < (kq_sc μ).1) (hb : (kq_sc μ).1 < 2 ^ 31) (kk : kq_S M d (pc + 1) ls (kq_I ((kq_sc μ).2 j) :: st) μ Q) : kq_S M d pc ls (kq_I x :: kq_R 0 40 :: st) μ Q := by
  intro R kc ks l g p e s m args below meth c H locs lc hR hC hH hz hL hV
  rw [List.map_cons, List.map_cons, kq_trR g 0 (by decide)]
  have hX := hC.D.2.1.1.kept (H1 := s.heap) (hC.2.2.2.2.2.2.2.2.2.2 _ hC.D.2.1.2)
  have hc : x.toNatClampNeg = j := by rw [hx]; exact nI_clamp (Nat.lt_trans hj hb)
  subst hc
  exact va_sld (A := kq_A g) hC.1 hC.2.1 hX (Nat.lt_of_lt_of_le hC.D.2.1.2 hC.2.2.2.2.2.2.2.2.2.1) (Nat.not_le.mpr hC.D.2.1.2) (hC.S hH hz hL) (by rw [hx]; exact vp_in_nI hj hb) hd (kk R kc ks l g p e s m args below meth c H locs lc hR hC hH hz hL hV)
theorem kq_slen (hd : decode M.2.1 pc = .ok (.arraylength, 1)) (kk : kq_S M d (pc + 1) ls (kq_I (nI (kq_sc μ).1) :: st) μ Q) : kq_S M d pc ls (kq_R 0 40 :: st) μ Q := by
  intro R kc ks l g p e s m args below meth c H locs lc hR hC hH hz hL hV
  rw [List.map_cons, kq_trR g 0 (by decide)]
  have hX := hC.D.2.1.1.kept (H1 := s.heap) (hC.2.2.2.2.2.2.2.2.2.2 _ hC.D.2.1.2)
  exact va_slen (A := kq_A g) hC.1 hC.2.1 hX (Nat.lt_of_lt_of_le hC.D.2.1.2 hC.2.2.2.2.2.2.2.2.2.1) (Nat.not_le.mpr hC.D.2.1.2) (hC.S hH hz hL) hd (kk R kc ks l g p e s m args below meth c H locs lc hR hC hH hz hL hV)
theorem kq_ald41 {x : Int32} (j : Nat) (hd : decode M.2.1 pc = .ok (.iaload, 1)) (hx : x = nI j) (hj : j < 6) (kk : kq_S M d (pc + 1) ls (kq_I (kq_KA j) :: st) μ Q) : kq_S M d pc ls (kq_I x :: kq_R 0 41 :: st) μ Q := by
  intro R kc ks l g p e s m args below meth c H locs lc hR hC hH hz hL hV
  rw [List.map_cons, List.map_cons, kq_trR g 0 (by decide)]
  have hc : x.toNatClampNeg = j := by rw [hx]; exact nI_clamp (by omega)
  subst hc
  exact va_ti (v := .int (kq_KA x.toNatClampNeg)) hC.1 hC.2.1 (hC.D.2.2.1.2.kept hC.old) (hC.S hH hz hL) (by rw [hx]; exact vp_in_nI hj (by decide)) rfl hd (kk R kc ks l g p e s m args below meth c H locs lc hR hC hH hz hL hV)
theorem kq_ald42 {x : Int32} (j : Nat) (hd : decode M.2.1 pc = .ok (.iaload, 1)) (hx : x = nI j) (hj : j < 6) (kk : kq_S M d (pc + 1) ls (kq_I (kq_DK j) :: st) μ Q) : kq_S M d pc ls (kq_I x :: kq_R 0 42 :: st) μ Q := by
  intro R kc ks l g p e s m args below meth c H locs lc hR hC hH hz hL hV
  rw [List.map_cons, List.map_cons, kq_trR g 0 (by decide)]
  have hc : x.toNatClampNeg = j := by rw [hx]; exact nI_clamp (by omega)
  subst hc
  exact va_ti (v := .int (kq_DK x.toNatClampNeg)) hC.1 hC.2.1 (hC.D.2.2.2.1.2.kept hC.old) (hC.S hH hz hL) (by rw [hx]; exact vp_in_nI hj (by decide)) rfl hd (kk R kc ks l g p e s m args below meth c H locs lc hR hC hH hz hL hV)
theorem kq_gs41 {idx : Nat} (hd : decode M.2.1 pc = .ok (.getstatic idx, 3)) (hw : Cond.fieldLink M.1.cls idx "KettleInquest" "KIND_ABOVE" "[I" ∈ kq_tbl) (kk : kq_S M d (pc + 3) ls (kq_R 0 41 :: st) μ Q) : kq_S M d pc ls st μ Q := by
  intro R kc ks l g p e s m args below meth c H locs lc hR hC hH hz hL hV
  exact va_gets hC.1 hC.2.1 (hC.D.2.2.1.1.kept hC.old) (hC.S hH hz hL) hC.2.2.2.2.2.1 (hC.w hw) (fun _ h => h) hd (kk R kc ks l g p e s m args below meth c H locs lc hR hC hH hz hL hV)
theorem kq_gs42 (hd : decode M.2.1 pc = .ok (.getstatic 54, 3)) (ho : M.1.cls = "KettleInquest$Hall") (kk : kq_S M d (pc + 3) ls (kq_R 0 42 :: st) μ Q) : kq_S M d pc ls st μ Q := by
  intro R kc ks l g p e s m args below meth c H locs lc hR hC hH hz hL hV
  have hown := hC.2.2.2.2.2.1
  rw [ho] at hown
  exact va_getsN hC.1 hC.2.1 (hC.D.2.2.2.1.1.kept hC.old) (hC.S hH hz hL) hown (va_Nw.use (w := kq_nwD) rfl hC.D.2.2.2.2.2.2.2.2.2.2.2) (fun _ h => h) hd (kk R kc ks l g p e s m args below meth c H locs lc hR hC hH hz hL hV)
theorem kq_gsC {idx : Nat} (hd : decode M.2.1 pc = .ok (.getstatic idx, 3)) (hw : Cond.fieldLink M.1.cls idx "java/lang/String" "COMPACT_STRINGS" "Z" ∈ kq_tbl) (kk : kq_S M d (pc + 3) ls (kq_I 1 :: st) μ Q) : kq_S M d pc ls st μ Q := by
  intro R kc ks l g p e s m args below meth c H locs lc hR hC hH hz hL hV
  exact va_gets hC.1 hC.2.1 (hC.D.2.2.2.2.2.2.1.kept hC.old) (hC.S hH hz hL) hC.2.2.2.2.2.1 (hC.w hw) (fun _ h => h) hd (kk R kc ks l g p e s m args below meth c H locs lc hR hC hH hz hL hV)
theorem kq_gsF {idx : Nat} (hd : decode M.2.1 pc = .ok (.getstatic idx, 3)) (hw : Cond.fieldLink M.1.cls idx "jdk/internal/util/Preconditions" "SIOOBE_FORMATTER" "Ljava/util/function/BiFunction;" ∈ kq_tbl) (kk : kq_S M d (pc + 3) ls (kq_R 0 45 :: st) μ Q) : kq_S M d pc ls st μ Q := by
  intro R kc ks l g p e s m args below meth c H locs lc hR hC hH hz hL hV
  exact va_gets hC.1 hC.2.1 (hC.D.2.2.2.2.2.2.2.1.1.kept hC.old) (hC.S hH hz hL) hC.2.2.2.2.2.1 (hC.w hw) (fun _ h => h) hd (kk R kc ks l g p e s m args below meth c H locs lc hR hC hH hz hL hV)
theorem kq_txV {idx r : Nat} (hd : decode M.2.1 pc = .ok (.getfield idx, 3)) (hw : Cond.fieldLink M.1.cls idx "java/lang/String" "value" "[B" ∈ kq_tbl) (hr : r < 12) (kk : kq_S M d (pc + 3) ls (kq_R r 44 :: st) μ Q) : kq_S M d pc ls (kq_R r 43 :: st) μ Q := by
  intro R kc ks l g p e s m args below meth c H locs lc hR hC hH hz hL hV
  have k1 := kk R kc ks l g p e s m args below meth c H locs lc hR hC hH hz hL hV
  rw [List.map_cons, kq_trR g r (by decide)] at k1 ⊢
  exact vk_getf hC.1 hC.2.1 ((hC.D.2.2.2.2.1.1 r hr).2.2.1.kept hC.old) (hC.S hH hz hL) hC.2.2.2.2.2.1 (hC.w hw) (fun _ h => h) hd k1
theorem kq_txC {idx r : Nat} (hd : decode M.2.1 pc = .ok (.getfield idx, 3)) (hw : Cond.fieldLink M.1.cls idx "java/lang/String" "coder" "B" ∈ kq_tbl) (hr : r < 12) (kk : kq_S M d (pc + 3) ls (kq_I 0 :: st) μ Q) : kq_S M d pc ls (kq_R r 43 :: st) μ Q := by
  intro R kc ks l g p e s m args below meth c H locs lc hR hC hH hz hL hV
  rw [List.map_cons, kq_trR g r (by decide)]
  exact vk_getf hC.1 hC.2.1 ((hC.D.2.2.2.2.1.1 r hr).2.1.kept hC.old) (hC.S hH hz hL) hC.2.2.2.2.2.1 (hC.w hw) (fun _ h => h) hd (kk R kc ks l g p e s m args below meth c H locs lc hR hC hH hz hL hV)
theorem kq_txL {r : Nat} (hd : decode M.2.1 pc = .ok (.arraylength, 1)) (hr : r < 12) (kk : kq_S M d (pc + 1) ls (kq_I (nI (kq_sl.getD r 0)) :: st) μ Q) : kq_S M d pc ls (kq_R r 44 :: st) μ Q := by
  intro R kc ks l g p e s m args below meth c H locs lc hR hC hH hz hL hV
  rw [List.map_cons, kq_trR g r (by decide)]
  exact va_tlen (v := nI (kq_sl.getD r 0)) hC.1 hC.2.1 ((hC.D.2.2.2.2.1.1 r hr).2.2.2.kept hC.old) (hC.S hH hz hL) rfl hd (kk R kc ks l g p e s m args below meth c H locs lc hR hC hH hz hL hV)
theorem kq_txB {r : Nat} {x : Int32} (j : Nat) (hd : decode M.2.1 pc = .ok (.baload, 1)) (hr : r < 12) (hx : x = nI j) (hj : j < kq_sl.getD r 0) (kk : kq_S M d (pc + 1) ls (kq_I ((kq_sb.getD r []).getD j 0) :: st) μ Q) : kq_S M d pc ls (kq_I x :: kq_R r 44 :: st) μ Q := by
  intro R kc ks l g p e s m args below meth c H locs lc hR hC hH hz hL hV
  rw [List.map_cons, List.map_cons, kq_trR g r (by decide)]
  have hlt : kq_sl.getD r 0 < 2 ^ 31 := by
    have : ∀ r, r < 12 → kq_sl.getD r 0 < 2 ^ 31 := by decide
    exact this r hr
  have hc : x.toNatClampNeg = j := by rw [hx]; exact nI_clamp (Nat.lt_trans hj hlt)
  subst hc
  exact va_tb (v := .int ((kq_sb.getD r []).getD x.toNatClampNeg 0)) hC.1 hC.2.1 ((hC.D.2.2.2.2.1.1 r hr).2.2.2.kept hC.old) (hC.S hH hz hL) (by rw [hx]; exact vp_in_nI hj hlt) rfl hd (kk R kc ks l g p e s m args below meth c H locs lc hR hC hH hz hL hV)
end KM
end
section
/-! CALLS -/
/-- whatever the world: the cell (r, i) is an object of the class C -/
def kq_rc (C : String) (r i : Nat) : Prop := i ≠ 45 ∧ ∀ (M : kq_D) (g : kq_G) (S : Nat × (Nat → Int32)) (p : Program) (s : State) (m : MethodId) (args : Array Value) (meth : Method) (c : Code) (μ : kq_M) (H : Heap) (locs : List Loc), kq_C M g S p s m args meth c → kq_Hd g μ H → H.size = s.heap.size → (∀ q ∈ locs, kq_A g q.base) → ∃ cell : Cell, H[kq_gd g r i]? = some cell ∧ cell.vm.isStatics = false ∧ s.vm.findClass C = some cell.cls
theorem kq_rc_obj {r : Nat} (i : Nat) {C : String} (hi : kq_ck i = 0 ∧ kq_ci i < 5 ∧ i ≠ 45 ∧ kq_cn (kq_ci i) = C) (hok : kq_ok i r = true) : kq_rc C r i := by
  refine ⟨hi.2.2.1, fun M g S p s m args meth c μ H locs hC hH _ _ => ?_⟩
  obtain ⟨cell, q1, q2, q3, -⟩ := kq_at0 (hH.1 r i hok) hi.1
  refine ⟨cell, q1, by rw [q3]; rfl, ?_⟩
  rw [q2, ← hi.2.2.2]
  exact (hC.D.K hi.2.1).2.1
theorem kq_rc_txt {r : Nat} (hr : r < 12) : kq_rc "java/lang/String" r 43 := by
  refine ⟨by decide, fun M g S p s m args meth c μ H locs hC hH hz hL => ?_⟩
  exact vk_recv (adK := fun j => kq_gd g j 43) (i := r) (hC.D.2.2.2.2.1.kept hC.old) hr (hC.S hH hz hL)
/-- n arguments, few locals, no handle -/
def kq_sg (M : kq_D) (n : Nat) : Prop := (M.1.cls ≠ "java/lang/invoke/MethodHandle" ∧ M.1.cls ≠ "java/lang/invoke/VarHandle" ∧ (parseMethodDescriptor M.1.desc).map (fun d => d.parameters.length) = some n) ∧ M.2.2.1 + 19 ≤ 38
theorem kq_goodws (M' : kq_D) (h : Cond.code M'.1 M'.2.1 M'.2.2.1 M'.2.2.2 ∈ kq_tbl) : GoodIn kq_tbl (kq_ws M') := by
  intro w hw
  rcases List.mem_cons.mp hw with rfl | hw
  · exact ⟨h, kq_good _ h⟩
  · exact ⟨hw, kq_good w hw⟩
theorem kq_room {M : kq_D} {R : Room} {kc ks : Nat} (d : Nat) (h : M.2.2.1 + 19 ≤ 38) (hR : d + 1 ≤ R.frames ∧ 38 * (d + 1) ≤ R.locals ∧ kc ≤ R.cells ∧ ks ≤ R.slots) : (kq_rm d).frames + 1 ≤ R.frames ∧ 8 + (M.2.2.1 + 11) + (kq_rm d).locals ≤ R.locals := by
  refine ⟨hR.1, ?_⟩
  show 8 + (M.2.2.1 + 11) + 38 * d ≤ R.locals
  have := hR.2.1
  omega
/-- a run of a callee, taken on -/
theorem kq_goes {M : kq_D} {d pc : Nat} {ls : List (Option kq_V)} {st : List kq_V} {μ : kq_M} {Q : Option kq_V → kq_M → Prop} {R : Room} {kc ks : Nat} {l : Launch} {g : kq_G} {p : Program} {e : Env} {s : State} {m : MethodId} {args : Array Value} {below : List Frame} {meth : Method} {c : Code} {H : Heap} {locs : List Loc} {lc : Array Slot} {st0 : List Value} {a : Array Value}
    (hR : d + 1 ≤ R.frames ∧ 38 * (d + 1) ≤ R.locals ∧ kc ≤ R.cells ∧ ks ≤ R.slots) (hC : kq_C M g (kq_sc μ) p s m args meth c) (hz : H.size = s.heap.size) (hL : ∀ q ∈ locs, kq_A g q.base) (hV : kq_lv g ls lc M.2.2.1)
    (hr : va_Run p l e R s m args below meth c H locs kc ks 0 0 (F0 m pc lc st0) (st.map (kq_tr g)) (kq_Qc g (kq_sc μ) (kq_K M (d + 1) (pc + 3) ls st Q) a) (kq_A g)) :
    W p l e R s m args below meth c H locs kc ks (MQ below (kq_Qc g (kq_sc μ) Q) args s kc ks (kq_A g)) (F0 m pc lc st0) := by
  intro T hT X
  obtain ⟨v, st₀, t, T', L, h0, X', hL', e1, e2, ⟨r, μ', hv, hq, hH', hs, hz'⟩, st'⟩ := hr T hT X
  have hloc : ∀ q ∈ locs ++ L, kq_A g q.base := fun q hq => by
    rcases List.mem_append.mp hq with h | h
    · exact hL q h
    · exact hL' q h
  have hv' := Outcome.returned.inj hv
  subst hv'
  have hz2 : T'.heap.size = s.heap.size := by rw [e1, hz', h0, hz]
  rw [← e1] at hH'
  have hC' : kq_C M g (kq_sc μ') p s m args meth c := by rw [hs]; exact hC
  cases r with
  | none =>
    have k1 := hq R kc ks l g p e s m args below meth c T'.heap (locs ++ L) lc hR hC' hH' hz2 hloc hV T' rfl X'
    rw [hs] at k1
    obtain ⟨t2, a1, b1⟩ := k1
    exact ⟨t2, st' t2 a1, b1⟩
  | some w =>
    have k1 := hq R kc ks l g p e s m args below meth c T'.heap (locs ++ L) lc hR hC' hH' hz2 hloc hV T' rfl X'
    rw [hs] at k1
    obtain ⟨t2, a1, b1⟩ := k1
    exact ⟨t2, st' t2 a1, b1⟩
section KC
variable {M M' : kq_D} {d pc : Nat} {ls : List (Option kq_V)} {st : List kq_V} {μ : kq_M} {Q : Option kq_V → kq_M → Prop}
theorem kq_callV {idx r i : Nat} (as : List kq_V) (hd : decode M.2.1 pc = .ok (.invokevirtual idx, 3)) (hw : Cond.methodLink M.1.cls idx M'.1 ∈ kq_tbl) (hM : kq_wV M') (hg : kq_sg M' as.length) (hr : kq_rc M'.1.cls r i) (hst : (st.map kq_cat).sum ≤ 8) (k : kq_Call d M' (kq_R r i :: as) μ (kq_K M (d + 1) (pc + 3) ls st Q)) : kq_S M (d + 1) pc ls (as.reverse ++ kq_R r i :: st) μ Q := by
  intro R kc ks l g p e s m args below meth c H locs lc hR hC hH hz hL hV
  refine kq_goes (st := st) hR hC hz hL hV (a := (Value.ref (kq_gd g r i) :: as.map (kq_tr g)).toArray) ?_
  have hgw := kq_goodws M' hM.1
  have cw : CallW R s args M.1.cls M'.1.cls idx M'.1 M'.2.1 M'.2.2.1 M'.2.2.2 (kq_ws M') (kq_rm d) 0 0 as.length :=
    ⟨callB_of (Ts := kq_tbl) as.length hC.2.2.2.2.2.2.1 hgw rfl rfl rfl (hC.w hM.2.1) (hC.w hw) hg.1 (kq_room d hg.2 hR), hC.w hM.2.2.1, hC.w hM.2.2.2⟩
  have hp : PreV s H M'.1.cls (kq_gd g r i) (kq_Pc g (kq_R r i :: as) μ) (as.map (kq_tr g)) := by
    refine ⟨kq_Pc.blind _ _ _, hr.2 M g _ p s m args meth c μ H locs hC hH hz hL, fun U hU hW => ⟨?_, by rw [hU]; exact hH, hC.D.warm hW, hC.2.2.2.2.2.2.2.2.1⟩⟩
    rw [List.map_cons, kq_trR g r hr.1]
  refine va_runV (Ts := kq_tbl) ⟨hC.1, hC.2.1, hC.2.2.2.2.1, hC.2.2.2.2.2.1, hC.2.2.2.2.2.2.1⟩ (k l g) cw hp rfl (by rw [List.length_map]) hV.1 ?_ ?_ hd ⟨hR.2.2.1, hR.2.2.2⟩
  · rw [List.map_append, List.map_reverse, List.map_cons, kq_trR g r hr.1]
  · show 2 * 0 + _ ≤ 8
    rw [kq_map_cat hC.D.gF]
    omega
theorem kq_callS {idx : Nat} (as : List kq_V) (hd : decode M.2.1 pc = .ok (.invokestatic idx, 3)) (hw : Cond.methodLink M.1.cls idx M'.1 ∈ kq_tbl) (hM : kq_wS M') (hg : kq_sg M' as.length) (hst : (st.map kq_cat).sum ≤ 8) (k : kq_Call d M' as μ (kq_K M (d + 1) (pc + 3) ls st Q)) : kq_S M (d + 1) pc ls (as.reverse ++ st) μ Q := by
  intro R kc ks l g p e s m args below meth c H locs lc hR hC hH hz hL hV
  refine kq_goes (st := st) hR hC hz hL hV (a := (as.map (kq_tr g)).toArray) ?_
  have hgw := kq_goodws M' hM.1
  have cw : CallB R s args M.1.cls idx M'.1 M'.2.1 M'.2.2.1 M'.2.2.2 (kq_ws M') (kq_rm d) 0 0 as.length ∧ (Cond.static M'.1).before args s = true :=
    ⟨callB_of (Ts := kq_tbl) as.length hC.2.2.2.2.2.2.1 hgw rfl rfl rfl (hC.w hM.2.1) (hC.w hw) hg.1 (kq_room d hg.2 hR), hC.w hM.2.2⟩
  have hp : PreS s H (kq_Pc g as μ) (as.map (kq_tr g)) := ⟨kq_Pc.blind _ _ _, fun U hU hW => ⟨rfl, by rw [hU]; exact hH, hC.D.warm hW, hC.2.2.2.2.2.2.2.2.1⟩⟩
  refine va_runS (Ts := kq_tbl) ⟨hC.1, hC.2.1, hC.2.2.2.2.1, hC.2.2.2.2.2.1, hC.2.2.2.2.2.2.1⟩ (k l g) cw hp rfl (by rw [List.length_map]) hV.1 ?_ ?_ hd ⟨hR.2.2.1, hR.2.2.2⟩
  · rw [List.map_append, List.map_reverse]
  · show 2 * 0 + _ ≤ 8
    rw [kq_map_cat hC.D.gF]
    omega
/-- a private static method of a nest mate: the words of the tables, wherever they hold -/
def kq_nw (own : String) (idx : Nat) (y : MethodName) : Prop := ∀ (g : kq_G) (S : Nat × (Nat → Int32)) (s : State), kq_Wd g S s → va_Nw (.methodLinkNest own idx y "KettleInquest") s
theorem kq_callN {idx : Nat} (as : List kq_V) (hd : decode M.2.1 pc = .ok (.invokestatic idx, 3)) (hw : kq_nw M.1.cls idx M'.1) (hM : kq_wS M') (hg : kq_sg M' as.length) (hst : (st.map kq_cat).sum ≤ 8) (k : kq_Call d M' as μ (kq_K M (d + 1) (pc + 3) ls st Q)) : kq_S M (d + 1) pc ls (as.reverse ++ st) μ Q := by
  intro R kc ks l g p e s m args below meth c H locs lc hR hC hH hz hL hV
  refine kq_goes (st := st) hR hC hz hL hV (a := (as.map (kq_tr g)).toArray) ?_
  have hgw := kq_goodws M' hM.1
  have cw : va_CN R s args M.1.cls idx M'.1 "KettleInquest" M'.2.1 M'.2.2.1 M'.2.2.2 (kq_ws M') (kq_rm d) 0 0 as.length ∧ (Cond.static M'.1).before args s = true ∧ True :=
    ⟨va_cnB (Ts := kq_tbl) as.length hC.2.2.2.2.2.2.1 hgw rfl rfl rfl (hw g _ s hC.D) (hC.w hM.2.1) hg.1 (kq_room d hg.2 hR), hC.w hM.2.2, trivial⟩
  have hp : PreS s H (kq_Pc g as μ) (as.map (kq_tr g)) := ⟨kq_Pc.blind _ _ _, fun U hU hW => ⟨rfl, by rw [hU]; exact hH, hC.D.warm hW, hC.2.2.2.2.2.2.2.2.1⟩⟩
  refine va_runSN (Ts := kq_tbl) ⟨hC.1, hC.2.1, hC.2.2.2.2.1, hC.2.2.2.2.2.1, hC.2.2.2.2.2.2.1⟩ (k l g) cw hp rfl (by rw [List.length_map]) hV.1 ?_ ?_ hd ⟨hR.2.2.1, hR.2.2.2⟩
  · rw [List.map_append, List.map_reverse]
  · show 2 * 0 + _ ≤ 8
    rw [kq_map_cat hC.D.gF]
    omega
theorem kq_nwK_ok : kq_nw "KettleInquest$Hall" 50 ⟨"KettleInquest", "isKind", "(I)Z"⟩ := fun _ _ _ h => h.2.2.2.2.2.2.2.2.1
theorem kq_nwI_ok : kq_nw "KettleInquest$Hall" 76 ⟨"KettleInquest", "isIn", "(II)Z"⟩ := fun _ _ _ h => h.2.2.2.2.2.2.2.2.2.1
theorem kq_nwO_ok : kq_nw "KettleInquest$Hall" 89 ⟨"KettleInquest", "isOfKind", "(II)Z"⟩ := fun _ _ _ h => h.2.2.2.2.2.2.2.2.2.2.1
/-- System.arraycopy between rows of longs -/
theorem kq_copy {idx r r' : Nat} {xs xd xn : Int32} (i i' sp dp n : Nat) (hd : decode M.2.1 pc = .ok (.invokestatic idx, 3)) (hw : Cond.methodLink M.1.cls idx arraycopyName ∈ kq_tbl) (hw2 : Cond.native arraycopyName ∈ kq_tbl ∧ Cond.static arraycopyName ∈ kq_tbl ∧ Cond.initialized "java/lang/System" ∈ kq_tbl) (hi : kq_ck i = 2 ∧ i ≠ 45) (hi' : kq_ck i' = 2 ∧ i' ≠ 45) (hok : kq_ok i r = true) (hok' : kq_ok i' r' = true) (h1 : xs = nI sp) (h2 : xd = nI dp) (h3 : xn = nI n) (h4 : sp + n ≤ kq_len i) (h5 : dp + n ≤ kq_len i') (hst : (st.map kq_cat).sum ≤ 8)
    (kk : kq_S M (d + 1) (pc + 3) ls st (kq_cL μ r i sp r' i' dp n) Q) : kq_S M (d + 1) pc ls (kq_I xn :: kq_I xd :: kq_R r' i' :: kq_I xs :: kq_R r i :: st) μ Q := by
  intro R kc ks l g p e s m args below meth c H locs lc hR hC hH hz hL hV
  simp only [List.map_cons]
  rw [kq_trR g r hi.2, kq_trR g r' hi'.2]
  have hl1 := kq_lenlt i
  have hl2 := kq_lenlt i'
  have c1 : xs.toNatClampNeg = sp := by rw [h1]; exact nI_clamp (by omega)
  have c2 : xd.toNatClampNeg = dp := by rw [h2]; exact nI_clamp (by omega)
  have c3 : xn.toNatClampNeg = n := by rw [h3]; exact nI_clamp (by omega)
  have n1 : ¬ xs < 0 := by rw [h1]; exact nI_pos (by omega)
  have n2 : ¬ xd < 0 := by rw [h2]; exact nI_pos (by omega)
  have n3 : ¬ xn < 0 := by rw [h3]; exact nI_pos (by omega)
  have t1 : xs.toInt = (sp : Int) := by rw [h1]; exact nI_toInt (by omega)
  have t2 : xd.toInt = (dp : Int) := by rw [h2]; exact nI_toInt (by omega)
  have t3 : xn.toInt = (n : Int) := by rw [h3]; exact nI_toInt (by omega)
  have hc0 := kq_at2 (hH.1 r i hok) hi.1
  have hc1 := kq_at2 (hH.1 r' i' hok') hi'.1
  intro T hT X
  obtain ⟨-, k0, hk0, cm0, hkk0⟩ := hC.D.aL (kq_len i) (fun j => .long (kq_rL μ r i j))
  obtain ⟨-, k1, hk1, cm1, hkk1⟩ := hC.D.aL (kq_len i') (fun j => .long (kq_rL μ r' i' j))
  obtain ⟨vm', X', step⟩ := X.arraycopy hC.1 hC.2.2.2.2.2.1 (hC.w hw) (hC.w hw2.1) (hC.w hw2.2.1) (hC.w hw2.2.2) (src := kq_gd g r i) (dst := kq_gd g r' i') (cs := arrV (kq_gA g 1) (kq_len i) (fun j => .long (kq_rL μ r i j))) (cd := arrV (kq_gA g 1) (kq_len i') (fun j => .long (kq_rL μ r' i' j))) (srcPos := xs) (destPos := xd) (n := xn) (by rw [hT]; exact hc0) (by rw [hT]; exact hc1)
    (fun _ h => by cases h) (fun _ h => by cases h) (fun h => by cases h) (fun h => by cases h) hk0 hk1 hkk0 hkk1 (by simp [refKind]) n1 n2 n3
    (by rw [t1, t3, arrV_size]; omega)
    (by rw [t2, t3, arrV_size]; omega)
    (fun vm₁ _ j hj => by
      rw [c3] at hj
      have e : (arrV (kq_gA g 1) (kq_len i) (fun j => .long (kq_rL μ r i j))).slots.getD (xs.toNatClampNeg + j) .null = .long (kq_rL μ r i (xs.toNatClampNeg + j)) := by
        rw [Array.getD_eq_getD_getElem?, arrV_read _ _ (by rw [c1]; omega)]
        rfl
      refine ⟨?_, ?_⟩
      · rw [e]; rfl
      · rw [e]; exact trivial)
    (g := F0 m pc lc (.int xn :: .int xd :: .ref (kq_gd g r' i') :: .int xs :: .ref (kq_gd g r i) :: st.map (kq_tr g))) rfl (by rw [hC.2.2.2.2.1]; exact hV.1) (rest := st.map (kq_tr g)) rfl (by rw [hC.2.1]; exact hd) (Nat.le_trans (Nat.le_add_left 1 d) hR.1) (by
      rw [kq_map_cat hC.D.gF]
      show 2 * 0 + (st.map kq_cat).sum + _ ≤ R.locals
      have hR2 := hR.2.1
      have hnf : nativeFrameWords "java/lang/System" "arraycopy" 5 + 11 ≤ 30 := by decide
      omega)
  have e1 : copied (arrV (kq_gA g 1) (kq_len i) (fun j => .long (kq_rL μ r i j))) (arrV (kq_gA g 1) (kq_len i') (fun j => .long (kq_rL μ r' i' j))) xs xd xn = arrV (kq_gA g 1) (kq_len i') (fun j => .long (va_cpy (fun j => kq_rL μ r i j) (fun j => kq_rL μ r' i' j) xs.toNatClampNeg xd.toNatClampNeg xn.toNatClampNeg j)) := va_copied (fun z => .long z) (kq_gA g 1) (kq_gA g 1) (fun j => kq_rL μ r i j) (fun j => kq_rL μ r' i' j) (by rw [c1, c3]; exact h4)
  rw [e1] at X' step
  have hl : kq_gd g r' i' < H.size := (Array.getElem?_eq_some_iff.mp hc1).1
  have hcell : (fun j => Value.long (va_cpy (fun j => kq_rL μ r i j) (fun j => kq_rL μ r' i' j) xs.toNatClampNeg xd.toNatClampNeg xn.toNatClampNeg j)) = fun j => .long (kq_rL (kq_cL μ r i sp r' i' dp n) r' i' j) := by
    funext j
    rw [kq_rL_cL, c1, c2, c3]
    unfold va_cpy
    simp
  rw [hcell] at X' step
  have hheap : ((T.setVm vm').setCell (kq_gd g r' i') (arrV (kq_gA g 1) (kq_len i') (fun j => .long (kq_rL (kq_cL μ r i sp r' i' dp n) r' i' j)))).heap = H.setIfInBounds (kq_gd g r' i') (arrV (kq_gA g 1) (kq_len i') (fun j => .long (kq_rL (kq_cL μ r i sp r' i' dp n) r' i' j))) := by rw [← hT]; rfl
  have oq : ∀ q : Nat, q ≠ kq_gd g r' i' → (H.setIfInBounds (kq_gd g r' i') (arrV (kq_gA g 1) (kq_len i') (fun j => .long (kq_rL (kq_cL μ r i sp r' i' dp n) r' i' j))))[q]? = H[q]? := fun q hq => by simp [Array.getElem?_setIfInBounds, Ne.symm hq]
  have hz1 : (H.setIfInBounds (kq_gd g r' i') (arrV (kq_gA g 1) (kq_len i') (fun j => .long (kq_rL (kq_cL μ r i sp r' i' dp n) r' i' j)))).size = H.size := by simp
  have hH' : kq_Hd g (kq_cL μ r i sp r' i' dp n) (H.setIfInBounds (kq_gd g r' i') (arrV (kq_gA g 1) (kq_len i') (fun j => .long (kq_rL (kq_cL μ r i sp r' i' dp n) r' i' j)))) := by
    refine kq_Hd.put (μ := μ) hC.2.2.2.2.2.2.2.2.1 hH hok' hz1 oq ?_ (fun a b k' h => rfl) (fun a b k' h => ?_)
    · unfold kq_at
      rw [hi'.1]
      show (H.setIfInBounds _ _)[kq_gd g r' i']? = some _
      simp [Array.getElem?_setIfInBounds, hl]
    · rw [kq_rL_cL, if_neg (fun z => h ⟨z.1, z.2.1⟩)]
  obtain ⟨t, a1, b1⟩ := kk R kc ks l g p e s m args below meth c _ _ lc hR hC hH' (hz1.trans hz) (fun q hq => by
      rcases List.mem_append.mp hq with h | h
      · exact hL q h
      · obtain ⟨z, -, hz⟩ := List.mem_map.mp h
        rw [← hz]
        exact hC.2.2.2.2.2.2.2.2.1.2 r' i' hok') hV _ hheap X'
  exact ⟨t, step t a1, b1⟩
end KC
end

/-! THE CONSTRUCTORS: words, decode rows, leaves (by gen80.py) -/
def kv_K : kq_D := (⟨"KettleInquest", "<init>", "()V"⟩, prog_1_method_1_code, 2, none)
theorem kv_cw_K : Cond.code kv_K.1 kv_K.2.1 kv_K.2.2.1 kv_K.2.2.2 ∈ kq_tbl := kq_in_of (n := 72) (by decide +kernel) rfl
def kv_H : kq_D := (⟨"KettleInquest$Hall", "<init>", "()V"⟩, prog_3_method_1_code, 1, none)
theorem kv_cw_H : Cond.code kv_H.1 kv_H.2.1 kv_H.2.2.1 kv_H.2.2.2 ∈ kq_tbl := kq_in_of (n := 80) (by decide +kernel) rfl
def kv_C : kq_D := (⟨"KettleInquest$Clerk", "<init>", "()V"⟩, prog_2_method_1_code, 1, none)
theorem kv_cw_C : Cond.code kv_C.1 kv_C.2.1 kv_C.2.2.1 kv_C.2.2.2 ∈ kq_tbl := kq_in_of (n := 138) (by decide +kernel) rfl
def kv_S : kq_D := (⟨"KettleInquest$Sheet", "<init>", "()V"⟩, prog_4_method_1_code, 1, none)
theorem kv_cw_S : Cond.code kv_S.1 kv_S.2.1 kv_S.2.2.1 kv_S.2.2.2 ∈ kq_tbl := kq_in_of (n := 168) (by decide +kernel) rfl
def kv_M : kq_D := (⟨"KettleInquestModel", "<init>", "()V"⟩, prog_6_method_1_code, 1, none)
theorem kv_cw_M : Cond.code kv_M.1 kv_M.2.1 kv_M.2.2.1 kv_M.2.2.2 ∈ kq_tbl := kq_in_of (n := 642) (by decide +kernel) rfl
theorem kv_oc : Cond.code Lib.objectInit ⟨#[0xb1]⟩ 1 none ∈ kq_tbl := kq_in_of (n := 75) (by decide +kernel) rfl
theorem kv_w57 : (Cond.initialized "KettleInquest$Hall") ∈ kq_tbl := kq_in_of (n := 57) (by decide +kernel) rfl
theorem kv_w58 : (Cond.initialized "KettleInquest$Clerk") ∈ kq_tbl := kq_in_of (n := 58) (by decide +kernel) rfl
theorem kv_w59 : (Cond.initialized "KettleInquest$Sheet") ∈ kq_tbl := kq_in_of (n := 59) (by decide +kernel) rfl
theorem kv_w73 : (Cond.methodLink "KettleInquest" (1 : Nat) ({ cls := "java/lang/Object", name := "<init>", desc := "()V" } : MethodName)) ∈ kq_tbl := kq_in_of (n := 73) (by decide +kernel) rfl
theorem kv_w74 : (Cond.instanceMethod ({ cls := "java/lang/Object", name := "<init>", desc := "()V" } : MethodName)) ∈ kq_tbl := kq_in_of (n := 74) (by decide +kernel) rfl
theorem kv_w76 : (Cond.classLink "KettleInquest" (7 : Nat) "KettleInquest$Hall") ∈ kq_tbl := kq_in_of (n := 76) (by decide +kernel) rfl
theorem kv_w77 : (Cond.instantiable "KettleInquest$Hall" (11 : Nat)) ∈ kq_tbl := kq_in_of (n := 77) (by decide +kernel) rfl
theorem kv_w79 : (Cond.instanceMethod ({ cls := "KettleInquest$Hall", name := "<init>", desc := "()V" } : MethodName)) ∈ kq_tbl := kq_in_of (n := 79) (by decide +kernel) rfl
theorem kv_w81 : (Cond.methodLink "KettleInquest$Hall" (3 : Nat) ({ cls := "java/lang/Object", name := "<init>", desc := "()V" } : MethodName)) ∈ kq_tbl := kq_in_of (n := 81) (by decide +kernel) rfl
theorem kv_w82 : (Cond.fieldLink "KettleInquest$Hall" (9 : Nat) "KettleInquest$Hall" "truth" "I") ∈ kq_tbl := kq_in_of (n := 82) (by decide +kernel) rfl
theorem kv_w85 : (Cond.fieldLink "KettleInquest$Hall" (15 : Nat) "KettleInquest$Hall" "heat" "I") ∈ kq_tbl := kq_in_of (n := 85) (by decide +kernel) rfl
theorem kv_w87 : (Cond.fieldLink "KettleInquest$Hall" (18 : Nat) "KettleInquest$Hall" "water" "I") ∈ kq_tbl := kq_in_of (n := 87) (by decide +kernel) rfl
theorem kv_w90 : (Cond.fieldLink "KettleInquest$Hall" (21 : Nat) "KettleInquest$Hall" "boilsAt" "I") ∈ kq_tbl := kq_in_of (n := 90) (by decide +kernel) rfl
theorem kv_w92 : (Cond.fieldLink "KettleInquest$Hall" (24 : Nat) "KettleInquest$Hall" "tea" "I") ∈ kq_tbl := kq_in_of (n := 92) (by decide +kernel) rfl
theorem kv_w94 : (Cond.fieldLink "KettleInquest$Hall" (27 : Nat) "KettleInquest$Hall" "minute" "I") ∈ kq_tbl := kq_in_of (n := 94) (by decide +kernel) rfl
theorem kv_w96 : (Cond.fieldLink "KettleInquest$Hall" (30 : Nat) "KettleInquest$Hall" "count" "I") ∈ kq_tbl := kq_in_of (n := 96) (by decide +kernel) rfl
theorem kv_w99 : (Cond.fieldLink "KettleInquest$Hall" (33 : Nat) "KettleInquest$Hall" "kinds" "[I") ∈ kq_tbl := kq_in_of (n := 99) (by decide +kernel) rfl
theorem kv_w101 : (Cond.fieldLink "KettleInquest$Hall" (37 : Nat) "KettleInquest$Hall" "known" "[I") ∈ kq_tbl := kq_in_of (n := 101) (by decide +kernel) rfl
theorem kv_w104 : (Cond.fieldLink "KettleInquest$Hall" (40 : Nat) "KettleInquest$Hall" "said" "[I") ∈ kq_tbl := kq_in_of (n := 104) (by decide +kernel) rfl
theorem kv_w107 : (Cond.fieldLink "KettleInquest$Hall" (43 : Nat) "KettleInquest$Hall" "sures" "[I") ∈ kq_tbl := kq_in_of (n := 107) (by decide +kernel) rfl
theorem kv_w133 : (Cond.arrayClass FieldType.int) ∈ kq_tbl := kq_in_of (n := 133) (by decide +kernel) rfl
theorem kv_w134 : (Cond.classLink "KettleInquest" (26 : Nat) "KettleInquest$Clerk") ∈ kq_tbl := kq_in_of (n := 134) (by decide +kernel) rfl
theorem kv_w135 : (Cond.instantiable "KettleInquest$Clerk" (7 : Nat)) ∈ kq_tbl := kq_in_of (n := 135) (by decide +kernel) rfl
theorem kv_w137 : (Cond.instanceMethod ({ cls := "KettleInquest$Clerk", name := "<init>", desc := "()V" } : MethodName)) ∈ kq_tbl := kq_in_of (n := 137) (by decide +kernel) rfl
theorem kv_w139 : (Cond.methodLink "KettleInquest$Clerk" (3 : Nat) ({ cls := "java/lang/Object", name := "<init>", desc := "()V" } : MethodName)) ∈ kq_tbl := kq_in_of (n := 139) (by decide +kernel) rfl
theorem kv_w140 : (Cond.fieldLink "KettleInquest$Clerk" (9 : Nat) "KettleInquest$Clerk" "tape" "[I") ∈ kq_tbl := kq_in_of (n := 140) (by decide +kernel) rfl
theorem kv_w141 : (Cond.fieldLink "KettleInquest$Clerk" (15 : Nat) "KettleInquest$Clerk" "length" "I") ∈ kq_tbl := kq_in_of (n := 141) (by decide +kernel) rfl
theorem kv_w143 : (Cond.fieldLink "KettleInquest$Clerk" (19 : Nat) "KettleInquest$Clerk" "token" "I") ∈ kq_tbl := kq_in_of (n := 143) (by decide +kernel) rfl
theorem kv_w144 : (Cond.fieldLink "KettleInquest$Clerk" (22 : Nat) "KettleInquest$Clerk" "start" "I") ∈ kq_tbl := kq_in_of (n := 144) (by decide +kernel) rfl
theorem kv_w145 : (Cond.fieldLink "KettleInquest$Clerk" (25 : Nat) "KettleInquest$Clerk" "end" "I") ∈ kq_tbl := kq_in_of (n := 145) (by decide +kernel) rfl
theorem kv_w146 : (Cond.fieldLink "KettleInquest$Clerk" (28 : Nat) "KettleInquest$Clerk" "value" "I") ∈ kq_tbl := kq_in_of (n := 146) (by decide +kernel) rfl
theorem kv_w147 : (Cond.fieldLink "KettleInquest$Clerk" (31 : Nat) "KettleInquest$Clerk" "listed" "I") ∈ kq_tbl := kq_in_of (n := 147) (by decide +kernel) rfl
theorem kv_w163 : (Cond.classLink "KettleInquest" (33 : Nat) "KettleInquest$Sheet") ∈ kq_tbl := kq_in_of (n := 163) (by decide +kernel) rfl
theorem kv_w165 : (Cond.instantiable "KettleInquest$Sheet" (3 : Nat)) ∈ kq_tbl := kq_in_of (n := 165) (by decide +kernel) rfl
theorem kv_w167 : (Cond.instanceMethod ({ cls := "KettleInquest$Sheet", name := "<init>", desc := "()V" } : MethodName)) ∈ kq_tbl := kq_in_of (n := 167) (by decide +kernel) rfl
theorem kv_w169 : (Cond.methodLink "KettleInquest$Sheet" (3 : Nat) ({ cls := "java/lang/Object", name := "<init>", desc := "()V" } : MethodName)) ∈ kq_tbl := kq_in_of (n := 169) (by decide +kernel) rfl
theorem kv_w170 : (Cond.fieldLink "KettleInquest$Sheet" (9 : Nat) "KettleInquest$Sheet" "bits" "I") ∈ kq_tbl := kq_in_of (n := 170) (by decide +kernel) rfl
theorem kv_w172 : (Cond.fieldLink "KettleInquest$Sheet" (15 : Nat) "KettleInquest$Sheet" "length" "I") ∈ kq_tbl := kq_in_of (n := 172) (by decide +kernel) rfl
theorem kv_w175 : (Cond.fieldLink "KettleInquest$Sheet" (18 : Nat) "KettleInquest$Sheet" "numbers" "[J") ∈ kq_tbl := kq_in_of (n := 175) (by decide +kernel) rfl
theorem kv_w185 : (Cond.arrayClass FieldType.long) ∈ kq_tbl := kq_in_of (n := 185) (by decide +kernel) rfl
theorem kv_w186 : (Cond.fieldLink "KettleInquest" (10 : Nat) "KettleInquest" "hall" "LKettleInquest$Hall;") ∈ kq_tbl := kq_in_of (n := 186) (by decide +kernel) rfl
theorem kv_w187 : (Cond.fieldLink "KettleInquest" (16 : Nat) "KettleInquest" "trial" "LKettleInquest$Hall;") ∈ kq_tbl := kq_in_of (n := 187) (by decide +kernel) rfl
theorem kv_w188 : (Cond.fieldLink "KettleInquest" (19 : Nat) "KettleInquest" "kept" "LKettleInquest$Hall;") ∈ kq_tbl := kq_in_of (n := 188) (by decide +kernel) rfl
theorem kv_w189 : (Cond.fieldLink "KettleInquest" (22 : Nat) "KettleInquest" "isKept" "Z") ∈ kq_tbl := kq_in_of (n := 189) (by decide +kernel) rfl
theorem kv_w190 : (Cond.fieldLink "KettleInquest" (29 : Nat) "KettleInquest" "clerk" "LKettleInquest$Clerk;") ∈ kq_tbl := kq_in_of (n := 190) (by decide +kernel) rfl
theorem kv_w191 : (Cond.fieldLink "KettleInquest" (35 : Nat) "KettleInquest" "sheets" "[LKettleInquest$Sheet;") ∈ kq_tbl := kq_in_of (n := 191) (by decide +kernel) rfl
theorem kv_w192 : (Cond.fieldLink "KettleInquest" (39 : Nat) "KettleInquest" "found" "[I") ∈ kq_tbl := kq_in_of (n := 192) (by decide +kernel) rfl
theorem kv_w643 : (Cond.methodLink "KettleInquestModel" (1 : Nat) ({ cls := "java/lang/Object", name := "<init>", desc := "()V" } : MethodName)) ∈ kq_tbl := kq_in_of (n := 643) (by decide +kernel) rfl
theorem kv_w644 : (Cond.fieldLink "KettleInquestModel" (7 : Nat) "KettleInquestModel" "row" "[I") ∈ kq_tbl := kq_in_of (n := 644) (by decide +kernel) rfl
theorem kv_w645 : (Cond.fieldLink "KettleInquestModel" (13 : Nat) "KettleInquestModel" "found" "[I") ∈ kq_tbl := kq_in_of (n := 645) (by decide +kernel) rfl
theorem kv_w647 : (Cond.fieldLink "KettleInquestModel" (16 : Nat) "KettleInquestModel" "tried" "[I") ∈ kq_tbl := kq_in_of (n := 647) (by decide +kernel) rfl
theorem kv_w648 : (Cond.fieldLink "KettleInquestModel" (19 : Nat) "KettleInquestModel" "before1" "[I") ∈ kq_tbl := kq_in_of (n := 648) (by decide +kernel) rfl
theorem kv_w649 : (Cond.fieldLink "KettleInquestModel" (22 : Nat) "KettleInquestModel" "tape" "[I") ∈ kq_tbl := kq_in_of (n := 649) (by decide +kernel) rfl
theorem kv_w657 : (Cond.fieldLink "KettleInquestModel" (25 : Nat) "KettleInquestModel" "bitsOf" "[I") ∈ kq_tbl := kq_in_of (n := 657) (by decide +kernel) rfl
theorem kv_w658 : (Cond.fieldLink "KettleInquestModel" (28 : Nat) "KettleInquestModel" "sizeOf" "[I") ∈ kq_tbl := kq_in_of (n := 658) (by decide +kernel) rfl
theorem kv_w659 : (Cond.fieldLink "KettleInquestModel" (31 : Nat) "KettleInquestModel" "sheets" "[J") ∈ kq_tbl := kq_in_of (n := 659) (by decide +kernel) rfl
theorem kv_w660 : (Cond.fieldLink "KettleInquestModel" (35 : Nat) "KettleInquestModel" "lent" "[J") ∈ kq_tbl := kq_in_of (n := 660) (by decide +kernel) rfl
theorem kv_w661 : (Cond.fieldLink "KettleInquestModel" (38 : Nat) "KettleInquestModel" "image" "[I") ∈ kq_tbl := kq_in_of (n := 661) (by decide +kernel) rfl
theorem kv_w662 : (Cond.fieldLink "KettleInquestModel" (41 : Nat) "KettleInquestModel" "before" "[I") ∈ kq_tbl := kq_in_of (n := 662) (by decide +kernel) rfl
theorem kv_dH_0 : decode prog_3_method_1_code 0 = .ok (.aload_n 0, 1) := by decide +kernel
theorem kv_dH_1 : decode prog_3_method_1_code 1 = .ok (.invokespecial 3, 3) := by decide +kernel
theorem kv_dH_4 : decode prog_3_method_1_code 4 = .ok (.aload_n 0, 1) := by decide +kernel
theorem kv_dH_5 : decode prog_3_method_1_code 5 = .ok (.iconst 0, 1) := by decide +kernel
theorem kv_dH_6 : decode prog_3_method_1_code 6 = .ok (.putfield 9, 3) := by decide +kernel
theorem kv_dH_9 : decode prog_3_method_1_code 9 = .ok (.aload_n 0, 1) := by decide +kernel
theorem kv_dH_10 : decode prog_3_method_1_code 10 = .ok (.iconst 0, 1) := by decide +kernel
theorem kv_dH_11 : decode prog_3_method_1_code 11 = .ok (.putfield 15, 3) := by decide +kernel
theorem kv_dH_14 : decode prog_3_method_1_code 14 = .ok (.aload_n 0, 1) := by decide +kernel
theorem kv_dH_15 : decode prog_3_method_1_code 15 = .ok (.bipush 40, 2) := by decide +kernel
theorem kv_dH_17 : decode prog_3_method_1_code 17 = .ok (.putfield 18, 3) := by decide +kernel
theorem kv_dH_20 : decode prog_3_method_1_code 20 = .ok (.aload_n 0, 1) := by decide +kernel
theorem kv_dH_21 : decode prog_3_method_1_code 21 = .ok (.bipush 20, 2) := by decide +kernel
theorem kv_dH_23 : decode prog_3_method_1_code 23 = .ok (.putfield 21, 3) := by decide +kernel
theorem kv_dH_26 : decode prog_3_method_1_code 26 = .ok (.aload_n 0, 1) := by decide +kernel
theorem kv_dH_27 : decode prog_3_method_1_code 27 = .ok (.iconst 0, 1) := by decide +kernel
theorem kv_dH_28 : decode prog_3_method_1_code 28 = .ok (.putfield 24, 3) := by decide +kernel
theorem kv_dH_31 : decode prog_3_method_1_code 31 = .ok (.aload_n 0, 1) := by decide +kernel
theorem kv_dH_32 : decode prog_3_method_1_code 32 = .ok (.iconst 0, 1) := by decide +kernel
theorem kv_dH_33 : decode prog_3_method_1_code 33 = .ok (.putfield 27, 3) := by decide +kernel
theorem kv_dH_36 : decode prog_3_method_1_code 36 = .ok (.aload_n 0, 1) := by decide +kernel
theorem kv_dH_37 : decode prog_3_method_1_code 37 = .ok (.iconst 0, 1) := by decide +kernel
theorem kv_dH_38 : decode prog_3_method_1_code 38 = .ok (.putfield 30, 3) := by decide +kernel
theorem kv_dH_41 : decode prog_3_method_1_code 41 = .ok (.aload_n 0, 1) := by decide +kernel
theorem kv_dH_42 : decode prog_3_method_1_code 42 = .ok (.bipush 8, 2) := by decide +kernel
theorem kv_dH_44 : decode prog_3_method_1_code 44 = .ok (.newarray .int, 2) := by decide +kernel
theorem kv_dH_46 : decode prog_3_method_1_code 46 = .ok (.putfield 33, 3) := by decide +kernel
theorem kv_dH_49 : decode prog_3_method_1_code 49 = .ok (.aload_n 0, 1) := by decide +kernel
theorem kv_dH_50 : decode prog_3_method_1_code 50 = .ok (.bipush 8, 2) := by decide +kernel
theorem kv_dH_52 : decode prog_3_method_1_code 52 = .ok (.newarray .int, 2) := by decide +kernel
theorem kv_dH_54 : decode prog_3_method_1_code 54 = .ok (.putfield 37, 3) := by decide +kernel
theorem kv_dH_57 : decode prog_3_method_1_code 57 = .ok (.aload_n 0, 1) := by decide +kernel
theorem kv_dH_58 : decode prog_3_method_1_code 58 = .ok (.bipush 8, 2) := by decide +kernel
theorem kv_dH_60 : decode prog_3_method_1_code 60 = .ok (.newarray .int, 2) := by decide +kernel
theorem kv_dH_62 : decode prog_3_method_1_code 62 = .ok (.putfield 40, 3) := by decide +kernel
theorem kv_dH_65 : decode prog_3_method_1_code 65 = .ok (.aload_n 0, 1) := by decide +kernel
theorem kv_dH_66 : decode prog_3_method_1_code 66 = .ok (.bipush 8, 2) := by decide +kernel
theorem kv_dH_68 : decode prog_3_method_1_code 68 = .ok (.newarray .int, 2) := by decide +kernel
theorem kv_dH_70 : decode prog_3_method_1_code 70 = .ok (.putfield 43, 3) := by decide +kernel
theorem kv_dH_73 : decode prog_3_method_1_code 73 = .ok (.return_, 1) := by decide +kernel
theorem kv_dC_0 : decode prog_2_method_1_code 0 = .ok (.aload_n 0, 1) := by decide +kernel
theorem kv_dC_1 : decode prog_2_method_1_code 1 = .ok (.invokespecial 3, 3) := by decide +kernel
theorem kv_dC_4 : decode prog_2_method_1_code 4 = .ok (.aload_n 0, 1) := by decide +kernel
theorem kv_dC_5 : decode prog_2_method_1_code 5 = .ok (.bipush 120, 2) := by decide +kernel
theorem kv_dC_7 : decode prog_2_method_1_code 7 = .ok (.newarray .int, 2) := by decide +kernel
theorem kv_dC_9 : decode prog_2_method_1_code 9 = .ok (.putfield 9, 3) := by decide +kernel
theorem kv_dC_12 : decode prog_2_method_1_code 12 = .ok (.aload_n 0, 1) := by decide +kernel
theorem kv_dC_13 : decode prog_2_method_1_code 13 = .ok (.iconst 0, 1) := by decide +kernel
theorem kv_dC_14 : decode prog_2_method_1_code 14 = .ok (.putfield 15, 3) := by decide +kernel
theorem kv_dC_17 : decode prog_2_method_1_code 17 = .ok (.aload_n 0, 1) := by decide +kernel
theorem kv_dC_18 : decode prog_2_method_1_code 18 = .ok (.iconst 0, 1) := by decide +kernel
theorem kv_dC_19 : decode prog_2_method_1_code 19 = .ok (.putfield 19, 3) := by decide +kernel
theorem kv_dC_22 : decode prog_2_method_1_code 22 = .ok (.aload_n 0, 1) := by decide +kernel
theorem kv_dC_23 : decode prog_2_method_1_code 23 = .ok (.iconst 0, 1) := by decide +kernel
theorem kv_dC_24 : decode prog_2_method_1_code 24 = .ok (.putfield 22, 3) := by decide +kernel
theorem kv_dC_27 : decode prog_2_method_1_code 27 = .ok (.aload_n 0, 1) := by decide +kernel
theorem kv_dC_28 : decode prog_2_method_1_code 28 = .ok (.iconst 0, 1) := by decide +kernel
theorem kv_dC_29 : decode prog_2_method_1_code 29 = .ok (.putfield 25, 3) := by decide +kernel
theorem kv_dC_32 : decode prog_2_method_1_code 32 = .ok (.aload_n 0, 1) := by decide +kernel
theorem kv_dC_33 : decode prog_2_method_1_code 33 = .ok (.iconst 0, 1) := by decide +kernel
theorem kv_dC_34 : decode prog_2_method_1_code 34 = .ok (.putfield 28, 3) := by decide +kernel
theorem kv_dC_37 : decode prog_2_method_1_code 37 = .ok (.aload_n 0, 1) := by decide +kernel
theorem kv_dC_38 : decode prog_2_method_1_code 38 = .ok (.iconst 0, 1) := by decide +kernel
theorem kv_dC_39 : decode prog_2_method_1_code 39 = .ok (.putfield 31, 3) := by decide +kernel
theorem kv_dC_42 : decode prog_2_method_1_code 42 = .ok (.return_, 1) := by decide +kernel
theorem kv_dS_0 : decode prog_4_method_1_code 0 = .ok (.aload_n 0, 1) := by decide +kernel
theorem kv_dS_1 : decode prog_4_method_1_code 1 = .ok (.invokespecial 3, 3) := by decide +kernel
theorem kv_dS_4 : decode prog_4_method_1_code 4 = .ok (.aload_n 0, 1) := by decide +kernel
theorem kv_dS_5 : decode prog_4_method_1_code 5 = .ok (.iconst 0, 1) := by decide +kernel
theorem kv_dS_6 : decode prog_4_method_1_code 6 = .ok (.putfield 9, 3) := by decide +kernel
theorem kv_dS_9 : decode prog_4_method_1_code 9 = .ok (.aload_n 0, 1) := by decide +kernel
theorem kv_dS_10 : decode prog_4_method_1_code 10 = .ok (.iconst 0, 1) := by decide +kernel
theorem kv_dS_11 : decode prog_4_method_1_code 11 = .ok (.putfield 15, 3) := by decide +kernel
theorem kv_dS_14 : decode prog_4_method_1_code 14 = .ok (.aload_n 0, 1) := by decide +kernel
theorem kv_dS_15 : decode prog_4_method_1_code 15 = .ok (.bipush 40, 2) := by decide +kernel
theorem kv_dS_17 : decode prog_4_method_1_code 17 = .ok (.newarray .long, 2) := by decide +kernel
theorem kv_dS_19 : decode prog_4_method_1_code 19 = .ok (.putfield 18, 3) := by decide +kernel
theorem kv_dS_22 : decode prog_4_method_1_code 22 = .ok (.return_, 1) := by decide +kernel
theorem kv_dM_0 : decode prog_6_method_1_code 0 = .ok (.aload_n 0, 1) := by decide +kernel
theorem kv_dM_1 : decode prog_6_method_1_code 1 = .ok (.invokespecial 1, 3) := by decide +kernel
theorem kv_dM_4 : decode prog_6_method_1_code 4 = .ok (.aload_n 0, 1) := by decide +kernel
theorem kv_dM_5 : decode prog_6_method_1_code 5 = .ok (.bipush 39, 2) := by decide +kernel
theorem kv_dM_7 : decode prog_6_method_1_code 7 = .ok (.newarray .int, 2) := by decide +kernel
theorem kv_dM_9 : decode prog_6_method_1_code 9 = .ok (.putfield 7, 3) := by decide +kernel
theorem kv_dM_12 : decode prog_6_method_1_code 12 = .ok (.aload_n 0, 1) := by decide +kernel
theorem kv_dM_13 : decode prog_6_method_1_code 13 = .ok (.bipush 7, 2) := by decide +kernel
theorem kv_dM_15 : decode prog_6_method_1_code 15 = .ok (.newarray .int, 2) := by decide +kernel
theorem kv_dM_17 : decode prog_6_method_1_code 17 = .ok (.putfield 13, 3) := by decide +kernel
theorem kv_dM_20 : decode prog_6_method_1_code 20 = .ok (.aload_n 0, 1) := by decide +kernel
theorem kv_dM_21 : decode prog_6_method_1_code 21 = .ok (.bipush 39, 2) := by decide +kernel
theorem kv_dM_23 : decode prog_6_method_1_code 23 = .ok (.newarray .int, 2) := by decide +kernel
theorem kv_dM_25 : decode prog_6_method_1_code 25 = .ok (.putfield 16, 3) := by decide +kernel
theorem kv_dM_28 : decode prog_6_method_1_code 28 = .ok (.aload_n 0, 1) := by decide +kernel
theorem kv_dM_29 : decode prog_6_method_1_code 29 = .ok (.bipush 39, 2) := by decide +kernel
theorem kv_dM_31 : decode prog_6_method_1_code 31 = .ok (.newarray .int, 2) := by decide +kernel
theorem kv_dM_33 : decode prog_6_method_1_code 33 = .ok (.putfield 19, 3) := by decide +kernel
theorem kv_dM_36 : decode prog_6_method_1_code 36 = .ok (.aload_n 0, 1) := by decide +kernel
theorem kv_dM_37 : decode prog_6_method_1_code 37 = .ok (.bipush 120, 2) := by decide +kernel
theorem kv_dM_39 : decode prog_6_method_1_code 39 = .ok (.newarray .int, 2) := by decide +kernel
theorem kv_dM_41 : decode prog_6_method_1_code 41 = .ok (.putfield 22, 3) := by decide +kernel
theorem kv_dM_44 : decode prog_6_method_1_code 44 = .ok (.aload_n 0, 1) := by decide +kernel
theorem kv_dM_45 : decode prog_6_method_1_code 45 = .ok (.iconst 4, 1) := by decide +kernel
theorem kv_dM_46 : decode prog_6_method_1_code 46 = .ok (.newarray .int, 2) := by decide +kernel
theorem kv_dM_48 : decode prog_6_method_1_code 48 = .ok (.putfield 25, 3) := by decide +kernel
theorem kv_dM_51 : decode prog_6_method_1_code 51 = .ok (.aload_n 0, 1) := by decide +kernel
theorem kv_dM_52 : decode prog_6_method_1_code 52 = .ok (.iconst 4, 1) := by decide +kernel
theorem kv_dM_53 : decode prog_6_method_1_code 53 = .ok (.newarray .int, 2) := by decide +kernel
theorem kv_dM_55 : decode prog_6_method_1_code 55 = .ok (.putfield 28, 3) := by decide +kernel
theorem kv_dM_58 : decode prog_6_method_1_code 58 = .ok (.aload_n 0, 1) := by decide +kernel
theorem kv_dM_59 : decode prog_6_method_1_code 59 = .ok (.sipush 160, 3) := by decide +kernel
theorem kv_dM_62 : decode prog_6_method_1_code 62 = .ok (.newarray .long, 2) := by decide +kernel
theorem kv_dM_64 : decode prog_6_method_1_code 64 = .ok (.putfield 31, 3) := by decide +kernel
theorem kv_dM_67 : decode prog_6_method_1_code 67 = .ok (.aload_n 0, 1) := by decide +kernel
theorem kv_dM_68 : decode prog_6_method_1_code 68 = .ok (.bipush 40, 2) := by decide +kernel
theorem kv_dM_70 : decode prog_6_method_1_code 70 = .ok (.newarray .long, 2) := by decide +kernel
theorem kv_dM_72 : decode prog_6_method_1_code 72 = .ok (.putfield 35, 3) := by decide +kernel
theorem kv_dM_75 : decode prog_6_method_1_code 75 = .ok (.aload_n 0, 1) := by decide +kernel
theorem kv_dM_76 : decode prog_6_method_1_code 76 = .ok (.bipush 39, 2) := by decide +kernel
theorem kv_dM_78 : decode prog_6_method_1_code 78 = .ok (.newarray .int, 2) := by decide +kernel
theorem kv_dM_80 : decode prog_6_method_1_code 80 = .ok (.putfield 38, 3) := by decide +kernel
theorem kv_dM_83 : decode prog_6_method_1_code 83 = .ok (.aload_n 0, 1) := by decide +kernel
theorem kv_dM_84 : decode prog_6_method_1_code 84 = .ok (.bipush 39, 2) := by decide +kernel
theorem kv_dM_86 : decode prog_6_method_1_code 86 = .ok (.newarray .int, 2) := by decide +kernel
theorem kv_dM_88 : decode prog_6_method_1_code 88 = .ok (.putfield 41, 3) := by decide +kernel
theorem kv_dM_91 : decode prog_6_method_1_code 91 = .ok (.aload_n 0, 1) := by decide +kernel
theorem kv_dM_92 : decode prog_6_method_1_code 92 = .ok (.getfield 7, 3) := by decide +kernel
theorem kv_dM_95 : decode prog_6_method_1_code 95 = .ok (.iconst 2, 1) := by decide +kernel
theorem kv_dM_96 : decode prog_6_method_1_code 96 = .ok (.bipush 40, 2) := by decide +kernel
theorem kv_dM_98 : decode prog_6_method_1_code 98 = .ok (.iastore, 1) := by decide +kernel
theorem kv_dM_99 : decode prog_6_method_1_code 99 = .ok (.aload_n 0, 1) := by decide +kernel
theorem kv_dM_100 : decode prog_6_method_1_code 100 = .ok (.getfield 7, 3) := by decide +kernel
theorem kv_dM_103 : decode prog_6_method_1_code 103 = .ok (.iconst 4, 1) := by decide +kernel
theorem kv_dM_104 : decode prog_6_method_1_code 104 = .ok (.bipush 20, 2) := by decide +kernel
theorem kv_dM_106 : decode prog_6_method_1_code 106 = .ok (.iastore, 1) := by decide +kernel
theorem kv_dM_107 : decode prog_6_method_1_code 107 = .ok (.return_, 1) := by decide +kernel
theorem kv_dK_0 : decode prog_1_method_1_code 0 = .ok (.aload_n 0, 1) := by decide +kernel
theorem kv_dK_1 : decode prog_1_method_1_code 1 = .ok (.invokespecial 1, 3) := by decide +kernel
theorem kv_dK_4 : decode prog_1_method_1_code 4 = .ok (.aload_n 0, 1) := by decide +kernel
theorem kv_dK_5 : decode prog_1_method_1_code 5 = .ok (.new 7, 3) := by decide +kernel
theorem kv_dK_8 : decode prog_1_method_1_code 8 = .ok (.dup, 1) := by decide +kernel
theorem kv_dK_9 : decode prog_1_method_1_code 9 = .ok (.invokespecial 9, 3) := by decide +kernel
theorem kv_dK_12 : decode prog_1_method_1_code 12 = .ok (.putfield 10, 3) := by decide +kernel
theorem kv_dK_15 : decode prog_1_method_1_code 15 = .ok (.aload_n 0, 1) := by decide +kernel
theorem kv_dK_16 : decode prog_1_method_1_code 16 = .ok (.new 7, 3) := by decide +kernel
theorem kv_dK_19 : decode prog_1_method_1_code 19 = .ok (.dup, 1) := by decide +kernel
theorem kv_dK_20 : decode prog_1_method_1_code 20 = .ok (.invokespecial 9, 3) := by decide +kernel
theorem kv_dK_23 : decode prog_1_method_1_code 23 = .ok (.putfield 16, 3) := by decide +kernel
theorem kv_dK_26 : decode prog_1_method_1_code 26 = .ok (.aload_n 0, 1) := by decide +kernel
theorem kv_dK_27 : decode prog_1_method_1_code 27 = .ok (.new 7, 3) := by decide +kernel
theorem kv_dK_30 : decode prog_1_method_1_code 30 = .ok (.dup, 1) := by decide +kernel
theorem kv_dK_31 : decode prog_1_method_1_code 31 = .ok (.invokespecial 9, 3) := by decide +kernel
theorem kv_dK_34 : decode prog_1_method_1_code 34 = .ok (.putfield 19, 3) := by decide +kernel
theorem kv_dK_37 : decode prog_1_method_1_code 37 = .ok (.aload_n 0, 1) := by decide +kernel
theorem kv_dK_38 : decode prog_1_method_1_code 38 = .ok (.iconst 0, 1) := by decide +kernel
theorem kv_dK_39 : decode prog_1_method_1_code 39 = .ok (.putfield 22, 3) := by decide +kernel
theorem kv_dK_42 : decode prog_1_method_1_code 42 = .ok (.aload_n 0, 1) := by decide +kernel
theorem kv_dK_43 : decode prog_1_method_1_code 43 = .ok (.new 26, 3) := by decide +kernel
theorem kv_dK_46 : decode prog_1_method_1_code 46 = .ok (.dup, 1) := by decide +kernel
theorem kv_dK_47 : decode prog_1_method_1_code 47 = .ok (.invokespecial 28, 3) := by decide +kernel
theorem kv_dK_50 : decode prog_1_method_1_code 50 = .ok (.putfield 29, 3) := by decide +kernel
theorem kv_dK_53 : decode prog_1_method_1_code 53 = .ok (.aload_n 0, 1) := by decide +kernel
theorem kv_dK_54 : decode prog_1_method_1_code 54 = .ok (.iconst 4, 1) := by decide +kernel
theorem kv_dK_55 : decode prog_1_method_1_code 55 = .ok (.anewarray 33, 3) := by decide +kernel
theorem kv_dK_58 : decode prog_1_method_1_code 58 = .ok (.putfield 35, 3) := by decide +kernel
theorem kv_dK_61 : decode prog_1_method_1_code 61 = .ok (.aload_n 0, 1) := by decide +kernel
theorem kv_dK_62 : decode prog_1_method_1_code 62 = .ok (.bipush 7, 2) := by decide +kernel
theorem kv_dK_64 : decode prog_1_method_1_code 64 = .ok (.newarray .int, 2) := by decide +kernel
theorem kv_dK_66 : decode prog_1_method_1_code 66 = .ok (.putfield 39, 3) := by decide +kernel
theorem kv_dK_69 : decode prog_1_method_1_code 69 = .ok (.iconst 0, 1) := by decide +kernel
theorem kv_dK_70 : decode prog_1_method_1_code 70 = .ok (.istore_n 1, 1) := by decide +kernel
theorem kv_dK_71 : decode prog_1_method_1_code 71 = .ok (.iload_n 1, 1) := by decide +kernel
theorem kv_dK_72 : decode prog_1_method_1_code 72 = .ok (.iconst 4, 1) := by decide +kernel
theorem kv_dK_73 : decode prog_1_method_1_code 73 = .ok (.if_icmp .ge 22, 3) := by decide +kernel
theorem kv_dK_76 : decode prog_1_method_1_code 76 = .ok (.aload_n 0, 1) := by decide +kernel
theorem kv_dK_77 : decode prog_1_method_1_code 77 = .ok (.getfield 35, 3) := by decide +kernel
theorem kv_dK_80 : decode prog_1_method_1_code 80 = .ok (.iload_n 1, 1) := by decide +kernel
theorem kv_dK_81 : decode prog_1_method_1_code 81 = .ok (.new 33, 3) := by decide +kernel
theorem kv_dK_84 : decode prog_1_method_1_code 84 = .ok (.dup, 1) := by decide +kernel
theorem kv_dK_85 : decode prog_1_method_1_code 85 = .ok (.invokespecial 43, 3) := by decide +kernel
theorem kv_dK_88 : decode prog_1_method_1_code 88 = .ok (.aastore, 1) := by decide +kernel
theorem kv_dK_89 : decode prog_1_method_1_code 89 = .ok (.iinc 1 1, 3) := by decide +kernel
theorem kv_dK_92 : decode prog_1_method_1_code 92 = .ok (.goto (-21), 3) := by decide +kernel
theorem kv_dK_95 : decode prog_1_method_1_code 95 = .ok (.return_, 1) := by decide +kernel
theorem kv_df0 : ∀ j, j < 7 → defaultValue (kq_t0 j) = vp_V [.null, .null, .null, .int 0, .null, .null, .null] j := by
  intro j hj
  match j, hj with
  | 0, _ => rfl
  | 1, _ => rfl
  | 2, _ => rfl
  | 3, _ => rfl
  | 4, _ => rfl
  | 5, _ => rfl
  | 6, _ => rfl
  | j + 7, h => exact absurd h (by omega)
theorem kv_df1 : ∀ j, j < 11 → defaultValue (kq_t1 j) = vp_V [.int 0, .int 0, .int 0, .int 0, .int 0, .int 0, .int 0, .null, .null, .null, .null] j := by
  intro j hj
  match j, hj with
  | 0, _ => rfl
  | 1, _ => rfl
  | 2, _ => rfl
  | 3, _ => rfl
  | 4, _ => rfl
  | 5, _ => rfl
  | 6, _ => rfl
  | 7, _ => rfl
  | 8, _ => rfl
  | 9, _ => rfl
  | 10, _ => rfl
  | j + 11, h => exact absurd h (by omega)
theorem kv_df2 : ∀ j, j < 7 → defaultValue (kq_t2 j) = vp_V [.null, .int 0, .int 0, .int 0, .int 0, .int 0, .int 0] j := by
  intro j hj
  match j, hj with
  | 0, _ => rfl
  | 1, _ => rfl
  | 2, _ => rfl
  | 3, _ => rfl
  | 4, _ => rfl
  | 5, _ => rfl
  | 6, _ => rfl
  | j + 7, h => exact absurd h (by omega)
theorem kv_df3 : ∀ j, j < 3 → defaultValue (kq_t3 j) = vp_V [.int 0, .int 0, .null] j := by
  intro j hj
  match j, hj with
  | 0, _ => rfl
  | 1, _ => rfl
  | 2, _ => rfl
  | j + 3, h => exact absurd h (by omega)
theorem kv_df4 : ∀ j, j < 20 → defaultValue (kq_t4 j) = vp_V [.null, .null, .int 0, .null, .null, .null, .int 0, .int 0, .int 0, .int 0, .long 0, .int 0, .int 0, .null, .null, .null, .null, .null, .null, .int 0] j := by
  intro j hj
  match j, hj with
  | 0, _ => rfl
  | 1, _ => rfl
  | 2, _ => rfl
  | 3, _ => rfl
  | 4, _ => rfl
  | 5, _ => rfl
  | 6, _ => rfl
  | 7, _ => rfl
  | 8, _ => rfl
  | 9, _ => rfl
  | 10, _ => rfl
  | 11, _ => rfl
  | 12, _ => rfl
  | 13, _ => rfl
  | 14, _ => rfl
  | 15, _ => rfl
  | 16, _ => rfl
  | 17, _ => rfl
  | 18, _ => rfl
  | 19, _ => rfl
  | j + 20, h => exact absurd h (by omega)
abbrev kv_ty (c0 c1 c2 : ClassId) : List (ClassId × FieldType) := [(c0, .int), (c1, .long), (c2, .object "KettleInquest$Sheet")]
def kv_nwH : Cond := .methodLinkNest "KettleInquest" 9 ⟨"KettleInquest$Hall", "<init>", "()V"⟩ "KettleInquest"
def kv_nwC : Cond := .methodLinkNest "KettleInquest" 28 ⟨"KettleInquest$Clerk", "<init>", "()V"⟩ "KettleInquest"
def kv_nwS : Cond := .methodLinkNest "KettleInquest" 43 ⟨"KettleInquest$Sheet", "<init>", "()V"⟩ "KettleInquest"
theorem kv_raI {s : State} {cA cB : ClassId} (h1 : va_RA s cA .int) (h2 : va_RA s cB .int) : cA = cB := Option.some.inj (h1.symm.trans h2)
theorem kv_raL {s : State} {cA cB : ClassId} (h1 : va_RA s cA .long) (h2 : va_RA s cB .long) : cA = cB := Option.some.inj (h1.symm.trans h2)
theorem kv_raO {s : State} {cA cB : ClassId} {C : String} (h1 : va_RA s cA (.object C)) (h2 : va_RA s cB (.object C)) : cA = cB := by
  obtain ⟨_, _, _, _, _, h1⟩ := h1
  obtain ⟨_, _, _, _, _, h2⟩ := h2
  exact Option.some.inj (h1.symm.trans h2)
theorem kv_bl {av : List Value} {sz : Nat} {D : va_G} {cl : List vw_C} {ws : va_W} {tys : List (ClassId × FieldType)} : FrameBlind (va_Pc av (fun U => U.heap.size = sz ∧ va_P D cl ws U.heap ∧ va_K D cl tys U ∧ va_D (fun _ => True) ws)) := fun a U g mk q => by
  obtain ⟨q0, q1, qP, qK, qD⟩ := q
  exact ⟨q0, q1, qP, va_K.moved (u := U) (U := U.calling g mk a) (Vm.Alike.refl U.vm) qK, qD⟩
section KN
variable {p : Program} {l : Launch} {e : Env} {R : Room} {s : State} {m : MethodId} {args : Array Value} {below : List Frame} {meth : Method} {c : Code} {H : Heap} {locs : List Loc} {cells slots : Nat} {Q : State → Prop}
variable {cc : ByteArray} {pc : Nat} {ls : Array Slot} {rest : List Value} {D : va_G} {cl : List vw_C} {A : Nat → Prop} {tys : List (ClassId × FieldType)} {ws : va_W} {H0 : Heap}
theorem kv_newa (hexec : p.tables.exec = Jvm.exec) (hb : c.code = cc) {atype : ArrayType} (harr : (Cond.arrayClass (newarray.typeOf atype)).before args s = true) {ty : FieldType} (hty : newarray.typeOf atype = ty) (hK : va_K D cl tys s) (hP : va_P D cl ws H) (hD : va_D A ws) (hS : va_S A H0 H locs) (hA : ∀ q, H0.size ≤ q → A q) (t0 : Nat) {cB : ClassId} (ht : tys[t0]? = some (cB, ty)) (hra : ∀ {cA cB : ClassId}, va_RA s cA ty → va_RA s cB ty → cA = cB)
    {n : Int32} {N' : Nat} {a0 : vp_A} (ha : ∀ cA : ClassId, vp_cell cA a0 = arrV cA N' (fun _ => defaultValue ty)) (hn : ¬ n < 0) (hN : n.toNatClampNeg = N') (hbytes : N' * componentBytes ty ≤ 536870912) (hcells : cells + 1 ≤ R.cells) (hslots : slots + N' ≤ R.slots) (hdg : decode cc pc = .ok (.newarray atype, 2))
    (kk : ∀ (q : Nat) (H1 : Heap), va_P D cl (ws ++ [(q, .inl (cB, a0))]) H1 → va_D A (ws ++ [(q, .inl (cB, a0))]) → va_S A H0 H1 locs →
      W p l e R s m args below meth c H1 locs (cells + 1) (slots + N') Q (F0 m (pc + 2) ls (.ref q :: rest))) : W p l e R s m args below meth c H locs cells slots Q (F0 m pc ls (.int n :: rest)) := by
  refine va_newa hexec hb harr hty hK hP hD hS hA ha hn hN hbytes hcells hslots hdg (fun q cA H1 hK1 hP1 hD1 hS1 => ?_)
  have e : cA = cB := hra (hK1.2 tys.length (cA, ty) (by simp)).2 (hK.2 t0 _ ht).2
  subst e
  exact kk q H1 hP1 hD1 hS1
theorem kv_newq (hexec : p.tables.exec = Jvm.exec) (hb : c.code = cc) {own C : String} {index : Nat} (hown : s.vm.findClass own = some m.cls) (hclink : (Cond.classLink own index C).before args s = true) (hover : va_AO C s) (hK : va_K D cl tys s) (hP : va_P D cl ws H) (hD : va_D A ws) (hS : va_S A H0 H locs) (hA : ∀ q, H0.size ≤ q → A q) (t0 : Nat) {cB : ClassId} (ht : tys[t0]? = some (cB, .object C))
    {n : Int32} {N' : Nat} (hn : ¬ n < 0) (hN : n.toNatClampNeg = N') (hbytes : N' * 4 ≤ 536870912) (hcells : cells + 1 ≤ R.cells) (hslots : slots + N' ≤ R.slots) (hdg : decode cc pc = .ok (.anewarray index, 3))
    (kk : ∀ (q : Nat) (H1 : Heap), va_P D cl (ws ++ [(q, .inl (cB, N', .inr (.inr (.inr (.inr (fun _ => none))))))]) H1 → va_D A (ws ++ [(q, .inl (cB, N', .inr (.inr (.inr (.inr (fun _ => none))))))]) → va_S A H0 H1 locs →
      W p l e R s m args below meth c H1 locs (cells + 1) (slots + N') Q (F0 m (pc + 3) ls (.ref q :: rest))) : W p l e R s m args below meth c H locs cells slots Q (F0 m pc ls (.int n :: rest)) := by
  refine va_newq hexec hb hown hclink hover hK hP hD hS hA hn hN hbytes hcells hslots hdg (fun q cA H1 hK1 hP1 hD1 hS1 => ?_)
  have e : cA = cB := kv_raO (hK1.2 tys.length (cA, .object C) (by simp)).2 (hK.2 t0 _ ht).2
  subst e
  exact kk q H1 hP1 hD1 hS1
end KN
set_option maxHeartbeats 4000000 in
set_option maxRecDepth 100000 in
theorem kv_c_H (l : Launch) (D : va_G) (c0 c1 c2 : ClassId) (h0 sz : Nat) : Met l kv_H.1 (kq_ws kv_H) { frames := 1, cells := 4, slots := 32, locals := 12 } (va_Pc [.ref h0] (fun U => U.heap.size = sz ∧ va_P D kq_cls [(h0, .inr (1, [.int 0, .int 0, .int 0, .int 0, .int 0, .int 0, .int 0, .null, .null, .null, .null]))] U.heap ∧ va_K D kq_cls (kv_ty c0 c1 c2) U ∧ va_D (fun _ => True) [(h0, .inr (1, [.int 0, .int 0, .int 0, .int 0, .int 0, .int 0, .int 0, .null, .null, .null, .null]))])) (va_Qv (fun _ : Unit => True) (fun _ t => ∃ q44 q52 q60 q68 : Nat, va_P D kq_cls [(h0, .inr (1, [.int 0, .int 0, .int 40, .int 20, .int 0, .int 0, .int 0, .ref q44, .ref q52, .ref q60, .ref q68])), (q44, .inl (c0, 8, .inl (fun _ => 0))), (q52, .inl (c0, 8, .inl (fun _ => 0))), (q60, .inl (c0, 8, .inl (fun _ => 0))), (q68, .inl (c0, 8, .inl (fun _ => 0)))] t.heap ∧ va_K D kq_cls (kv_ty c0 c1 c2) t ∧ va_D (va_A [(h0, .inr (1, [.int 0, .int 0, .int 0, .int 0, .int 0, .int 0, .int 0, .null, .null, .null, .null]))] sz) [(h0, .inr (1, [.int 0, .int 0, .int 40, .int 20, .int 0, .int 0, .int 0, .ref q44, .ref q52, .ref q60, .ref q68])), (q44, .inl (c0, 8, .inl (fun _ => 0))), (q52, .inl (c0, 8, .inl (fun _ => 0))), (q60, .inl (c0, 8, .inl (fun _ => 0))), (q68, .inl (c0, 8, .inl (fun _ => 0)))]) (va_A [(h0, .inr (1, [.int 0, .int 0, .int 0, .int 0, .int 0, .int 0, .int 0, .null, .null, .null, .null]))] sz)) 4 32 (va_A [(h0, .inr (1, [.int 0, .int 0, .int 0, .int 0, .int 0, .int 0, .int 0, .null, .null, .null, .null]))] sz) := by
  refine Met.ofW (cc := prog_3_method_1_code) (maxL := 1) (ret := none) (by decide) rfl ?_
  intro p e s m args below meth c s₁ B hml hv
  obtain ⟨rfl, hsz, hP, hK, hD0⟩ := hv
  have hx := B.exec
  have hb := B.bytes
  have hr := B.returns
  have hts0 := atoms_spec (ws := kq_ws kv_H) B.pre
  have hts := fun (w : Cond) (h : w ∈ kq_tbl) => hts0 w (List.mem_cons_of_mem _ h)
  have hown : s.vm.findClass "KettleInquest$Hall" = some m.cls := findClass_of_methodNamed B.named
  have hlocks := B.notSynchronized
  have hin : meth.name = "<init>" := (name_of_methodNamed B.named B.method).1
  subst hsz
  have hD := hD0.self (sz := s.heap.size)
  generalize hAe : va_A [(h0, .inr (1, [.int 0, .int 0, .int 0, .int 0, .int 0, .int 0, .int 0, .null, .null, .null, .null]))] s.heap.size = A at hD ⊢
  have hA : ∀ q : Nat, s.heap.size ≤ q → A q := fun q h => by rw [← hAe]; exact Or.inr h
  have hS : va_S A s.heap s.heap [] := va_S.rf
  have hl := lv_entry ([.ref h0]) (n := 1) (Nat.le_of_ble_eq_true rfl)
  rw [lg_entry_eq]
  generalize (lg_sl ([.ref h0]) ++ List.replicate (1 - (lg_sl ([.ref h0])).length) Slot.unset).toArray = ls at hl ⊢
  have hl : lv_has ls 1 [(0, .ref h0)] := hl
  have hP : va_P D kq_cls [(h0, .inr (1, [.int 0, .int 0, .int 0, .int 0, .int 0, .int 0, .int 0, .null, .null, .null, .null]))] s.heap := hP
  refine lv_aload_n hx hb kv_dH_0 rfl (lv_at hl 0 rfl) ?_
  refine W.objInit hx hb hown (hts _ kv_w81) (hts _ kv_w74) (hts _ kv_oc) rfl (by rw [hml]; exact hl.1) rfl kv_dH_1 (Nat.le_of_ble_eq_true rfl) (Nat.le_of_ble_eq_true rfl) ?_
  refine W.eq (g2 := F0 m 4 ls []) rfl ?_
  refine lv_aload_n hx hb kv_dH_4 rfl (lv_at hl 0 rfl) ?_
  refine lv_iconst (v := 0) hx hb kv_dH_5 (by decide) ?_
  refine va_put (D := D) (ci := 1) (v := .int 0) (ty := .int) (C := "KettleInquest$Hall") (T := kq_F1) (N := 11) hx hb hts kq_i1 kq_t1 kq_to1 kq_n1 hown hK hP hD hS 0 rfl rfl 0 (by decide) (hts _ kv_w82) (fun _ h9 => h9) rfl (by decide +kernel) rfl rfl (Nat.le_of_ble_eq_true rfl) kv_dH_6 (fun H locs hP hD hS => ?_)
  have hP : va_P D kq_cls [(h0, .inr (1, [.int 0, .int 0, .int 0, .int 0, .int 0, .int 0, .int 0, .null, .null, .null, .null]))] H := hP
  have hD : va_D A [(h0, .inr (1, [.int 0, .int 0, .int 0, .int 0, .int 0, .int 0, .int 0, .null, .null, .null, .null]))] := hD
  refine lv_aload_n hx hb kv_dH_9 rfl (lv_at hl 0 rfl) ?_
  refine lv_iconst (v := 0) hx hb kv_dH_10 (by decide) ?_
  refine va_put (D := D) (ci := 1) (v := .int 0) (ty := .int) (C := "KettleInquest$Hall") (T := kq_F1) (N := 11) hx hb hts kq_i1 kq_t1 kq_to1 kq_n1 hown hK hP hD hS 0 rfl rfl 1 (by decide) (hts _ kv_w85) (fun _ h9 => h9) rfl (by decide +kernel) rfl rfl (Nat.le_of_ble_eq_true rfl) kv_dH_11 (fun H locs hP hD hS => ?_)
  have hP : va_P D kq_cls [(h0, .inr (1, [.int 0, .int 0, .int 0, .int 0, .int 0, .int 0, .int 0, .null, .null, .null, .null]))] H := hP
  have hD : va_D A [(h0, .inr (1, [.int 0, .int 0, .int 0, .int 0, .int 0, .int 0, .int 0, .null, .null, .null, .null]))] := hD
  refine lv_aload_n hx hb kv_dH_14 rfl (lv_at hl 0 rfl) ?_
  refine lv_bipush (v := 40) hx hb kv_dH_15 (by decide) ?_
  refine va_put (D := D) (ci := 1) (v := .int 40) (ty := .int) (C := "KettleInquest$Hall") (T := kq_F1) (N := 11) hx hb hts kq_i1 kq_t1 kq_to1 kq_n1 hown hK hP hD hS 0 rfl rfl 2 (by decide) (hts _ kv_w87) (fun _ h9 => h9) rfl (by decide +kernel) rfl rfl (Nat.le_of_ble_eq_true rfl) kv_dH_17 (fun H locs hP hD hS => ?_)
  have hP : va_P D kq_cls [(h0, .inr (1, [.int 0, .int 0, .int 40, .int 0, .int 0, .int 0, .int 0, .null, .null, .null, .null]))] H := hP
  have hD : va_D A [(h0, .inr (1, [.int 0, .int 0, .int 40, .int 0, .int 0, .int 0, .int 0, .null, .null, .null, .null]))] := hD
  refine lv_aload_n hx hb kv_dH_20 rfl (lv_at hl 0 rfl) ?_
  refine lv_bipush (v := 20) hx hb kv_dH_21 (by decide) ?_
  refine va_put (D := D) (ci := 1) (v := .int 20) (ty := .int) (C := "KettleInquest$Hall") (T := kq_F1) (N := 11) hx hb hts kq_i1 kq_t1 kq_to1 kq_n1 hown hK hP hD hS 0 rfl rfl 3 (by decide) (hts _ kv_w90) (fun _ h9 => h9) rfl (by decide +kernel) rfl rfl (Nat.le_of_ble_eq_true rfl) kv_dH_23 (fun H locs hP hD hS => ?_)
  have hP : va_P D kq_cls [(h0, .inr (1, [.int 0, .int 0, .int 40, .int 20, .int 0, .int 0, .int 0, .null, .null, .null, .null]))] H := hP
  have hD : va_D A [(h0, .inr (1, [.int 0, .int 0, .int 40, .int 20, .int 0, .int 0, .int 0, .null, .null, .null, .null]))] := hD
  refine lv_aload_n hx hb kv_dH_26 rfl (lv_at hl 0 rfl) ?_
  refine lv_iconst (v := 0) hx hb kv_dH_27 (by decide) ?_
  refine va_put (D := D) (ci := 1) (v := .int 0) (ty := .int) (C := "KettleInquest$Hall") (T := kq_F1) (N := 11) hx hb hts kq_i1 kq_t1 kq_to1 kq_n1 hown hK hP hD hS 0 rfl rfl 4 (by decide) (hts _ kv_w92) (fun _ h9 => h9) rfl (by decide +kernel) rfl rfl (Nat.le_of_ble_eq_true rfl) kv_dH_28 (fun H locs hP hD hS => ?_)
  have hP : va_P D kq_cls [(h0, .inr (1, [.int 0, .int 0, .int 40, .int 20, .int 0, .int 0, .int 0, .null, .null, .null, .null]))] H := hP
  have hD : va_D A [(h0, .inr (1, [.int 0, .int 0, .int 40, .int 20, .int 0, .int 0, .int 0, .null, .null, .null, .null]))] := hD
  refine lv_aload_n hx hb kv_dH_31 rfl (lv_at hl 0 rfl) ?_
  refine lv_iconst (v := 0) hx hb kv_dH_32 (by decide) ?_
  refine va_put (D := D) (ci := 1) (v := .int 0) (ty := .int) (C := "KettleInquest$Hall") (T := kq_F1) (N := 11) hx hb hts kq_i1 kq_t1 kq_to1 kq_n1 hown hK hP hD hS 0 rfl rfl 5 (by decide) (hts _ kv_w94) (fun _ h9 => h9) rfl (by decide +kernel) rfl rfl (Nat.le_of_ble_eq_true rfl) kv_dH_33 (fun H locs hP hD hS => ?_)
  have hP : va_P D kq_cls [(h0, .inr (1, [.int 0, .int 0, .int 40, .int 20, .int 0, .int 0, .int 0, .null, .null, .null, .null]))] H := hP
  have hD : va_D A [(h0, .inr (1, [.int 0, .int 0, .int 40, .int 20, .int 0, .int 0, .int 0, .null, .null, .null, .null]))] := hD
  refine lv_aload_n hx hb kv_dH_36 rfl (lv_at hl 0 rfl) ?_
  refine lv_iconst (v := 0) hx hb kv_dH_37 (by decide) ?_
  refine va_put (D := D) (ci := 1) (v := .int 0) (ty := .int) (C := "KettleInquest$Hall") (T := kq_F1) (N := 11) hx hb hts kq_i1 kq_t1 kq_to1 kq_n1 hown hK hP hD hS 0 rfl rfl 6 (by decide) (hts _ kv_w96) (fun _ h9 => h9) rfl (by decide +kernel) rfl rfl (Nat.le_of_ble_eq_true rfl) kv_dH_38 (fun H locs hP hD hS => ?_)
  have hP : va_P D kq_cls [(h0, .inr (1, [.int 0, .int 0, .int 40, .int 20, .int 0, .int 0, .int 0, .null, .null, .null, .null]))] H := hP
  have hD : va_D A [(h0, .inr (1, [.int 0, .int 0, .int 40, .int 20, .int 0, .int 0, .int 0, .null, .null, .null, .null]))] := hD
  refine lv_aload_n hx hb kv_dH_41 rfl (lv_at hl 0 rfl) ?_
  refine lv_bipush (v := 8) hx hb kv_dH_42 (by decide) ?_
  refine kv_newa (atype := .int) (ty := .int) hx hb (hts _ kv_w133) rfl hK hP hD hS hA 0 rfl kv_raI (a0 := (8, .inl (fun _ => (0 : Int32)))) (fun _ => rfl) (by decide) (N' := 8) (by decide) (Nat.le_of_ble_eq_true rfl) (Nat.le_of_ble_eq_true rfl) (Nat.le_of_ble_eq_true rfl) kv_dH_44 (fun q44 H hP hD hS => ?_)
  have hP : va_P D kq_cls [(h0, .inr (1, [.int 0, .int 0, .int 40, .int 20, .int 0, .int 0, .int 0, .null, .null, .null, .null])), (q44, .inl (c0, 8, .inl (fun _ => 0)))] H := hP
  have hD : va_D A [(h0, .inr (1, [.int 0, .int 0, .int 40, .int 20, .int 0, .int 0, .int 0, .null, .null, .null, .null])), (q44, .inl (c0, 8, .inl (fun _ => 0)))] := hD
  refine W.widen (k := 1) (n := 8) (Nat.le_of_ble_eq_true rfl) (Nat.le_of_ble_eq_true rfl) ?_
  refine va_putF (D := D) (ci := 1) (v := .ref q44) (ty := (kq_t1 7)) (C := "KettleInquest$Hall") (T := kq_F1) (N := 11) hx hb hts kq_i1 kq_t1 kq_to1 kq_n1 hown hK hP hD hS 0 rfl rfl 7 (by decide) (hts _ kv_w99) (fun _ h9 => h9) rfl hin rfl (by decide +kernel) rfl rfl (Nat.le_of_ble_eq_true rfl) kv_dH_46 (fun H locs hP hD hS => ?_)
  have hP : va_P D kq_cls [(h0, .inr (1, [.int 0, .int 0, .int 40, .int 20, .int 0, .int 0, .int 0, .ref q44, .null, .null, .null])), (q44, .inl (c0, 8, .inl (fun _ => 0)))] H := hP
  have hD : va_D A [(h0, .inr (1, [.int 0, .int 0, .int 40, .int 20, .int 0, .int 0, .int 0, .ref q44, .null, .null, .null])), (q44, .inl (c0, 8, .inl (fun _ => 0)))] := hD
  refine lv_aload_n hx hb kv_dH_49 rfl (lv_at hl 0 rfl) ?_
  refine lv_bipush (v := 8) hx hb kv_dH_50 (by decide) ?_
  refine kv_newa (atype := .int) (ty := .int) hx hb (hts _ kv_w133) rfl hK hP hD hS hA 0 rfl kv_raI (a0 := (8, .inl (fun _ => (0 : Int32)))) (fun _ => rfl) (by decide) (N' := 8) (by decide) (Nat.le_of_ble_eq_true rfl) (Nat.le_of_ble_eq_true rfl) (Nat.le_of_ble_eq_true rfl) kv_dH_52 (fun q52 H hP hD hS => ?_)
  have hP : va_P D kq_cls [(h0, .inr (1, [.int 0, .int 0, .int 40, .int 20, .int 0, .int 0, .int 0, .ref q44, .null, .null, .null])), (q44, .inl (c0, 8, .inl (fun _ => 0))), (q52, .inl (c0, 8, .inl (fun _ => 0)))] H := hP
  have hD : va_D A [(h0, .inr (1, [.int 0, .int 0, .int 40, .int 20, .int 0, .int 0, .int 0, .ref q44, .null, .null, .null])), (q44, .inl (c0, 8, .inl (fun _ => 0))), (q52, .inl (c0, 8, .inl (fun _ => 0)))] := hD
  refine W.widen (k := 2) (n := 16) (Nat.le_of_ble_eq_true rfl) (Nat.le_of_ble_eq_true rfl) ?_
  refine va_putF (D := D) (ci := 1) (v := .ref q52) (ty := (kq_t1 8)) (C := "KettleInquest$Hall") (T := kq_F1) (N := 11) hx hb hts kq_i1 kq_t1 kq_to1 kq_n1 hown hK hP hD hS 0 rfl rfl 8 (by decide) (hts _ kv_w101) (fun _ h9 => h9) rfl hin rfl (by decide +kernel) rfl rfl (Nat.le_of_ble_eq_true rfl) kv_dH_54 (fun H locs hP hD hS => ?_)
  have hP : va_P D kq_cls [(h0, .inr (1, [.int 0, .int 0, .int 40, .int 20, .int 0, .int 0, .int 0, .ref q44, .ref q52, .null, .null])), (q44, .inl (c0, 8, .inl (fun _ => 0))), (q52, .inl (c0, 8, .inl (fun _ => 0)))] H := hP
  have hD : va_D A [(h0, .inr (1, [.int 0, .int 0, .int 40, .int 20, .int 0, .int 0, .int 0, .ref q44, .ref q52, .null, .null])), (q44, .inl (c0, 8, .inl (fun _ => 0))), (q52, .inl (c0, 8, .inl (fun _ => 0)))] := hD
  refine lv_aload_n hx hb kv_dH_57 rfl (lv_at hl 0 rfl) ?_
  refine lv_bipush (v := 8) hx hb kv_dH_58 (by decide) ?_
  refine kv_newa (atype := .int) (ty := .int) hx hb (hts _ kv_w133) rfl hK hP hD hS hA 0 rfl kv_raI (a0 := (8, .inl (fun _ => (0 : Int32)))) (fun _ => rfl) (by decide) (N' := 8) (by decide) (Nat.le_of_ble_eq_true rfl) (Nat.le_of_ble_eq_true rfl) (Nat.le_of_ble_eq_true rfl) kv_dH_60 (fun q60 H hP hD hS => ?_)
  have hP : va_P D kq_cls [(h0, .inr (1, [.int 0, .int 0, .int 40, .int 20, .int 0, .int 0, .int 0, .ref q44, .ref q52, .null, .null])), (q44, .inl (c0, 8, .inl (fun _ => 0))), (q52, .inl (c0, 8, .inl (fun _ => 0))), (q60, .inl (c0, 8, .inl (fun _ => 0)))] H := hP
  have hD : va_D A [(h0, .inr (1, [.int 0, .int 0, .int 40, .int 20, .int 0, .int 0, .int 0, .ref q44, .ref q52, .null, .null])), (q44, .inl (c0, 8, .inl (fun _ => 0))), (q52, .inl (c0, 8, .inl (fun _ => 0))), (q60, .inl (c0, 8, .inl (fun _ => 0)))] := hD
  refine W.widen (k := 3) (n := 24) (Nat.le_of_ble_eq_true rfl) (Nat.le_of_ble_eq_true rfl) ?_
  refine va_putF (D := D) (ci := 1) (v := .ref q60) (ty := (kq_t1 9)) (C := "KettleInquest$Hall") (T := kq_F1) (N := 11) hx hb hts kq_i1 kq_t1 kq_to1 kq_n1 hown hK hP hD hS 0 rfl rfl 9 (by decide) (hts _ kv_w104) (fun _ h9 => h9) rfl hin rfl (by decide +kernel) rfl rfl (Nat.le_of_ble_eq_true rfl) kv_dH_62 (fun H locs hP hD hS => ?_)
  have hP : va_P D kq_cls [(h0, .inr (1, [.int 0, .int 0, .int 40, .int 20, .int 0, .int 0, .int 0, .ref q44, .ref q52, .ref q60, .null])), (q44, .inl (c0, 8, .inl (fun _ => 0))), (q52, .inl (c0, 8, .inl (fun _ => 0))), (q60, .inl (c0, 8, .inl (fun _ => 0)))] H := hP
  have hD : va_D A [(h0, .inr (1, [.int 0, .int 0, .int 40, .int 20, .int 0, .int 0, .int 0, .ref q44, .ref q52, .ref q60, .null])), (q44, .inl (c0, 8, .inl (fun _ => 0))), (q52, .inl (c0, 8, .inl (fun _ => 0))), (q60, .inl (c0, 8, .inl (fun _ => 0)))] := hD
  refine lv_aload_n hx hb kv_dH_65 rfl (lv_at hl 0 rfl) ?_
  refine lv_bipush (v := 8) hx hb kv_dH_66 (by decide) ?_
  refine kv_newa (atype := .int) (ty := .int) hx hb (hts _ kv_w133) rfl hK hP hD hS hA 0 rfl kv_raI (a0 := (8, .inl (fun _ => (0 : Int32)))) (fun _ => rfl) (by decide) (N' := 8) (by decide) (Nat.le_of_ble_eq_true rfl) (Nat.le_of_ble_eq_true rfl) (Nat.le_of_ble_eq_true rfl) kv_dH_68 (fun q68 H hP hD hS => ?_)
  have hP : va_P D kq_cls [(h0, .inr (1, [.int 0, .int 0, .int 40, .int 20, .int 0, .int 0, .int 0, .ref q44, .ref q52, .ref q60, .null])), (q44, .inl (c0, 8, .inl (fun _ => 0))), (q52, .inl (c0, 8, .inl (fun _ => 0))), (q60, .inl (c0, 8, .inl (fun _ => 0))), (q68, .inl (c0, 8, .inl (fun _ => 0)))] H := hP
  have hD : va_D A [(h0, .inr (1, [.int 0, .int 0, .int 40, .int 20, .int 0, .int 0, .int 0, .ref q44, .ref q52, .ref q60, .null])), (q44, .inl (c0, 8, .inl (fun _ => 0))), (q52, .inl (c0, 8, .inl (fun _ => 0))), (q60, .inl (c0, 8, .inl (fun _ => 0))), (q68, .inl (c0, 8, .inl (fun _ => 0)))] := hD
  refine W.widen (k := 4) (n := 32) (Nat.le_of_ble_eq_true rfl) (Nat.le_of_ble_eq_true rfl) ?_
  refine va_putF (D := D) (ci := 1) (v := .ref q68) (ty := (kq_t1 10)) (C := "KettleInquest$Hall") (T := kq_F1) (N := 11) hx hb hts kq_i1 kq_t1 kq_to1 kq_n1 hown hK hP hD hS 0 rfl rfl 10 (by decide) (hts _ kv_w107) (fun _ h9 => h9) rfl hin rfl (by decide +kernel) rfl rfl (Nat.le_of_ble_eq_true rfl) kv_dH_70 (fun H locs hP hD hS => ?_)
  have hP : va_P D kq_cls [(h0, .inr (1, [.int 0, .int 0, .int 40, .int 20, .int 0, .int 0, .int 0, .ref q44, .ref q52, .ref q60, .ref q68])), (q44, .inl (c0, 8, .inl (fun _ => 0))), (q52, .inl (c0, 8, .inl (fun _ => 0))), (q60, .inl (c0, 8, .inl (fun _ => 0))), (q68, .inl (c0, 8, .inl (fun _ => 0)))] H := hP
  have hD : va_D A [(h0, .inr (1, [.int 0, .int 0, .int 40, .int 20, .int 0, .int 0, .int 0, .ref q44, .ref q52, .ref q60, .ref q68])), (q44, .inl (c0, 8, .inl (fun _ => 0))), (q52, .inl (c0, 8, .inl (fun _ => 0))), (q60, .inl (c0, 8, .inl (fun _ => 0))), (q68, .inl (c0, 8, .inl (fun _ => 0)))] := hD
  exact W.vret hx hb hr (fun t ht hW => ⟨⟨(), rfl, trivial, q44, q52, q60, q68, by rw [ht]; exact hP, va_K.moved hW.alike hK, hD⟩, hS.F ht⟩) hS.2.2 kv_dH_73
set_option maxHeartbeats 4000000 in
set_option maxRecDepth 100000 in
theorem kv_c_C (l : Launch) (D : va_G) (c0 c1 c2 : ClassId) (h0 sz : Nat) : Met l kv_C.1 (kq_ws kv_C) { frames := 1, cells := 1, slots := 120, locals := 12 } (va_Pc [.ref h0] (fun U => U.heap.size = sz ∧ va_P D kq_cls [(h0, .inr (2, [.null, .int 0, .int 0, .int 0, .int 0, .int 0, .int 0]))] U.heap ∧ va_K D kq_cls (kv_ty c0 c1 c2) U ∧ va_D (fun _ => True) [(h0, .inr (2, [.null, .int 0, .int 0, .int 0, .int 0, .int 0, .int 0]))])) (va_Qv (fun _ : Unit => True) (fun _ t => ∃ q7 : Nat, va_P D kq_cls [(h0, .inr (2, [.ref q7, .int 0, .int 0, .int 0, .int 0, .int 0, .int 0])), (q7, .inl (c0, 120, .inl (fun _ => 0)))] t.heap ∧ va_K D kq_cls (kv_ty c0 c1 c2) t ∧ va_D (va_A [(h0, .inr (2, [.null, .int 0, .int 0, .int 0, .int 0, .int 0, .int 0]))] sz) [(h0, .inr (2, [.ref q7, .int 0, .int 0, .int 0, .int 0, .int 0, .int 0])), (q7, .inl (c0, 120, .inl (fun _ => 0)))]) (va_A [(h0, .inr (2, [.null, .int 0, .int 0, .int 0, .int 0, .int 0, .int 0]))] sz)) 1 120 (va_A [(h0, .inr (2, [.null, .int 0, .int 0, .int 0, .int 0, .int 0, .int 0]))] sz) := by
  refine Met.ofW (cc := prog_2_method_1_code) (maxL := 1) (ret := none) (by decide) rfl ?_
  intro p e s m args below meth c s₁ B hml hv
  obtain ⟨rfl, hsz, hP, hK, hD0⟩ := hv
  have hx := B.exec
  have hb := B.bytes
  have hr := B.returns
  have hts0 := atoms_spec (ws := kq_ws kv_C) B.pre
  have hts := fun (w : Cond) (h : w ∈ kq_tbl) => hts0 w (List.mem_cons_of_mem _ h)
  have hown : s.vm.findClass "KettleInquest$Clerk" = some m.cls := findClass_of_methodNamed B.named
  have hlocks := B.notSynchronized
  have hin : meth.name = "<init>" := (name_of_methodNamed B.named B.method).1
  subst hsz
  have hD := hD0.self (sz := s.heap.size)
  generalize hAe : va_A [(h0, .inr (2, [.null, .int 0, .int 0, .int 0, .int 0, .int 0, .int 0]))] s.heap.size = A at hD ⊢
  have hA : ∀ q : Nat, s.heap.size ≤ q → A q := fun q h => by rw [← hAe]; exact Or.inr h
  have hS : va_S A s.heap s.heap [] := va_S.rf
  have hl := lv_entry ([.ref h0]) (n := 1) (Nat.le_of_ble_eq_true rfl)
  rw [lg_entry_eq]
  generalize (lg_sl ([.ref h0]) ++ List.replicate (1 - (lg_sl ([.ref h0])).length) Slot.unset).toArray = ls at hl ⊢
  have hl : lv_has ls 1 [(0, .ref h0)] := hl
  have hP : va_P D kq_cls [(h0, .inr (2, [.null, .int 0, .int 0, .int 0, .int 0, .int 0, .int 0]))] s.heap := hP
  refine lv_aload_n hx hb kv_dC_0 rfl (lv_at hl 0 rfl) ?_
  refine W.objInit hx hb hown (hts _ kv_w139) (hts _ kv_w74) (hts _ kv_oc) rfl (by rw [hml]; exact hl.1) rfl kv_dC_1 (Nat.le_of_ble_eq_true rfl) (Nat.le_of_ble_eq_true rfl) ?_
  refine W.eq (g2 := F0 m 4 ls []) rfl ?_
  refine lv_aload_n hx hb kv_dC_4 rfl (lv_at hl 0 rfl) ?_
  refine lv_bipush (v := 120) hx hb kv_dC_5 (by decide) ?_
  refine kv_newa (atype := .int) (ty := .int) hx hb (hts _ kv_w133) rfl hK hP hD hS hA 0 rfl kv_raI (a0 := (120, .inl (fun _ => (0 : Int32)))) (fun _ => rfl) (by decide) (N' := 120) (by decide) (Nat.le_of_ble_eq_true rfl) (Nat.le_of_ble_eq_true rfl) (Nat.le_of_ble_eq_true rfl) kv_dC_7 (fun q7 H hP hD hS => ?_)
  have hP : va_P D kq_cls [(h0, .inr (2, [.null, .int 0, .int 0, .int 0, .int 0, .int 0, .int 0])), (q7, .inl (c0, 120, .inl (fun _ => 0)))] H := hP
  have hD : va_D A [(h0, .inr (2, [.null, .int 0, .int 0, .int 0, .int 0, .int 0, .int 0])), (q7, .inl (c0, 120, .inl (fun _ => 0)))] := hD
  refine W.widen (k := 1) (n := 120) (Nat.le_of_ble_eq_true rfl) (Nat.le_of_ble_eq_true rfl) ?_
  refine va_putF (D := D) (ci := 2) (v := .ref q7) (ty := (kq_t2 0)) (C := "KettleInquest$Clerk") (T := kq_F2) (N := 7) hx hb hts kq_i2 kq_t2 kq_to2 kq_n2 hown hK hP hD hS 0 rfl rfl 0 (by decide) (hts _ kv_w140) (fun _ h9 => h9) rfl hin rfl (by decide +kernel) rfl rfl (Nat.le_of_ble_eq_true rfl) kv_dC_9 (fun H locs hP hD hS => ?_)
  have hP : va_P D kq_cls [(h0, .inr (2, [.ref q7, .int 0, .int 0, .int 0, .int 0, .int 0, .int 0])), (q7, .inl (c0, 120, .inl (fun _ => 0)))] H := hP
  have hD : va_D A [(h0, .inr (2, [.ref q7, .int 0, .int 0, .int 0, .int 0, .int 0, .int 0])), (q7, .inl (c0, 120, .inl (fun _ => 0)))] := hD
  refine lv_aload_n hx hb kv_dC_12 rfl (lv_at hl 0 rfl) ?_
  refine lv_iconst (v := 0) hx hb kv_dC_13 (by decide) ?_
  refine va_put (D := D) (ci := 2) (v := .int 0) (ty := .int) (C := "KettleInquest$Clerk") (T := kq_F2) (N := 7) hx hb hts kq_i2 kq_t2 kq_to2 kq_n2 hown hK hP hD hS 0 rfl rfl 1 (by decide) (hts _ kv_w141) (fun _ h9 => h9) rfl (by decide +kernel) rfl rfl (Nat.le_of_ble_eq_true rfl) kv_dC_14 (fun H locs hP hD hS => ?_)
  have hP : va_P D kq_cls [(h0, .inr (2, [.ref q7, .int 0, .int 0, .int 0, .int 0, .int 0, .int 0])), (q7, .inl (c0, 120, .inl (fun _ => 0)))] H := hP
  have hD : va_D A [(h0, .inr (2, [.ref q7, .int 0, .int 0, .int 0, .int 0, .int 0, .int 0])), (q7, .inl (c0, 120, .inl (fun _ => 0)))] := hD
  refine lv_aload_n hx hb kv_dC_17 rfl (lv_at hl 0 rfl) ?_
  refine lv_iconst (v := 0) hx hb kv_dC_18 (by decide) ?_
  refine va_put (D := D) (ci := 2) (v := .int 0) (ty := .int) (C := "KettleInquest$Clerk") (T := kq_F2) (N := 7) hx hb hts kq_i2 kq_t2 kq_to2 kq_n2 hown hK hP hD hS 0 rfl rfl 2 (by decide) (hts _ kv_w143) (fun _ h9 => h9) rfl (by decide +kernel) rfl rfl (Nat.le_of_ble_eq_true rfl) kv_dC_19 (fun H locs hP hD hS => ?_)
  have hP : va_P D kq_cls [(h0, .inr (2, [.ref q7, .int 0, .int 0, .int 0, .int 0, .int 0, .int 0])), (q7, .inl (c0, 120, .inl (fun _ => 0)))] H := hP
  have hD : va_D A [(h0, .inr (2, [.ref q7, .int 0, .int 0, .int 0, .int 0, .int 0, .int 0])), (q7, .inl (c0, 120, .inl (fun _ => 0)))] := hD
  refine lv_aload_n hx hb kv_dC_22 rfl (lv_at hl 0 rfl) ?_
  refine lv_iconst (v := 0) hx hb kv_dC_23 (by decide) ?_
  refine va_put (D := D) (ci := 2) (v := .int 0) (ty := .int) (C := "KettleInquest$Clerk") (T := kq_F2) (N := 7) hx hb hts kq_i2 kq_t2 kq_to2 kq_n2 hown hK hP hD hS 0 rfl rfl 3 (by decide) (hts _ kv_w144) (fun _ h9 => h9) rfl (by decide +kernel) rfl rfl (Nat.le_of_ble_eq_true rfl) kv_dC_24 (fun H locs hP hD hS => ?_)
  have hP : va_P D kq_cls [(h0, .inr (2, [.ref q7, .int 0, .int 0, .int 0, .int 0, .int 0, .int 0])), (q7, .inl (c0, 120, .inl (fun _ => 0)))] H := hP
  have hD : va_D A [(h0, .inr (2, [.ref q7, .int 0, .int 0, .int 0, .int 0, .int 0, .int 0])), (q7, .inl (c0, 120, .inl (fun _ => 0)))] := hD
  refine lv_aload_n hx hb kv_dC_27 rfl (lv_at hl 0 rfl) ?_
  refine lv_iconst (v := 0) hx hb kv_dC_28 (by decide) ?_
  refine va_put (D := D) (ci := 2) (v := .int 0) (ty := .int) (C := "KettleInquest$Clerk") (T := kq_F2) (N := 7) hx hb hts kq_i2 kq_t2 kq_to2 kq_n2 hown hK hP hD hS 0 rfl rfl 4 (by decide) (hts _ kv_w145) (fun _ h9 => h9) rfl (by decide +kernel) rfl rfl (Nat.le_of_ble_eq_true rfl) kv_dC_29 (fun H locs hP hD hS => ?_)
  have hP : va_P D kq_cls [(h0, .inr (2, [.ref q7, .int 0, .int 0, .int 0, .int 0, .int 0, .int 0])), (q7, .inl (c0, 120, .inl (fun _ => 0)))] H := hP
  have hD : va_D A [(h0, .inr (2, [.ref q7, .int 0, .int 0, .int 0, .int 0, .int 0, .int 0])), (q7, .inl (c0, 120, .inl (fun _ => 0)))] := hD
  refine lv_aload_n hx hb kv_dC_32 rfl (lv_at hl 0 rfl) ?_
  refine lv_iconst (v := 0) hx hb kv_dC_33 (by decide) ?_
  refine va_put (D := D) (ci := 2) (v := .int 0) (ty := .int) (C := "KettleInquest$Clerk") (T := kq_F2) (N := 7) hx hb hts kq_i2 kq_t2 kq_to2 kq_n2 hown hK hP hD hS 0 rfl rfl 5 (by decide) (hts _ kv_w146) (fun _ h9 => h9) rfl (by decide +kernel) rfl rfl (Nat.le_of_ble_eq_true rfl) kv_dC_34 (fun H locs hP hD hS => ?_)
  have hP : va_P D kq_cls [(h0, .inr (2, [.ref q7, .int 0, .int 0, .int 0, .int 0, .int 0, .int 0])), (q7, .inl (c0, 120, .inl (fun _ => 0)))] H := hP
  have hD : va_D A [(h0, .inr (2, [.ref q7, .int 0, .int 0, .int 0, .int 0, .int 0, .int 0])), (q7, .inl (c0, 120, .inl (fun _ => 0)))] := hD
  refine lv_aload_n hx hb kv_dC_37 rfl (lv_at hl 0 rfl) ?_
  refine lv_iconst (v := 0) hx hb kv_dC_38 (by decide) ?_
  refine va_put (D := D) (ci := 2) (v := .int 0) (ty := .int) (C := "KettleInquest$Clerk") (T := kq_F2) (N := 7) hx hb hts kq_i2 kq_t2 kq_to2 kq_n2 hown hK hP hD hS 0 rfl rfl 6 (by decide) (hts _ kv_w147) (fun _ h9 => h9) rfl (by decide +kernel) rfl rfl (Nat.le_of_ble_eq_true rfl) kv_dC_39 (fun H locs hP hD hS => ?_)
  have hP : va_P D kq_cls [(h0, .inr (2, [.ref q7, .int 0, .int 0, .int 0, .int 0, .int 0, .int 0])), (q7, .inl (c0, 120, .inl (fun _ => 0)))] H := hP
  have hD : va_D A [(h0, .inr (2, [.ref q7, .int 0, .int 0, .int 0, .int 0, .int 0, .int 0])), (q7, .inl (c0, 120, .inl (fun _ => 0)))] := hD
  exact W.vret hx hb hr (fun t ht hW => ⟨⟨(), rfl, trivial, q7, by rw [ht]; exact hP, va_K.moved hW.alike hK, hD⟩, hS.F ht⟩) hS.2.2 kv_dC_42
set_option maxHeartbeats 4000000 in
set_option maxRecDepth 100000 in
theorem kv_c_S (l : Launch) (D : va_G) (c0 c1 c2 : ClassId) (h0 sz : Nat) : Met l kv_S.1 (kq_ws kv_S) { frames := 1, cells := 1, slots := 40, locals := 12 } (va_Pc [.ref h0] (fun U => U.heap.size = sz ∧ va_P D kq_cls [(h0, .inr (3, [.int 0, .int 0, .null]))] U.heap ∧ va_K D kq_cls (kv_ty c0 c1 c2) U ∧ va_D (fun _ => True) [(h0, .inr (3, [.int 0, .int 0, .null]))])) (va_Qv (fun _ : Unit => True) (fun _ t => ∃ q17 : Nat, va_P D kq_cls [(h0, .inr (3, [.int 0, .int 0, .ref q17])), (q17, .inl (c1, 40, .inr (.inl (fun _ => 0))))] t.heap ∧ va_K D kq_cls (kv_ty c0 c1 c2) t ∧ va_D (va_A [(h0, .inr (3, [.int 0, .int 0, .null]))] sz) [(h0, .inr (3, [.int 0, .int 0, .ref q17])), (q17, .inl (c1, 40, .inr (.inl (fun _ => 0))))]) (va_A [(h0, .inr (3, [.int 0, .int 0, .null]))] sz)) 1 40 (va_A [(h0, .inr (3, [.int 0, .int 0, .null]))] sz) := by
  refine Met.ofW (cc := prog_4_method_1_code) (maxL := 1) (ret := none) (by decide) rfl ?_
  intro p e s m args below meth c s₁ B hml hv
  obtain ⟨rfl, hsz, hP, hK, hD0⟩ := hv
  have hx := B.exec
  have hb := B.bytes
  have hr := B.returns
  have hts0 := atoms_spec (ws := kq_ws kv_S) B.pre
  have hts := fun (w : Cond) (h : w ∈ kq_tbl) => hts0 w (List.mem_cons_of_mem _ h)
  have hown : s.vm.findClass "KettleInquest$Sheet" = some m.cls := findClass_of_methodNamed B.named
  have hlocks := B.notSynchronized
  have hin : meth.name = "<init>" := (name_of_methodNamed B.named B.method).1
  subst hsz
  have hD := hD0.self (sz := s.heap.size)
  generalize hAe : va_A [(h0, .inr (3, [.int 0, .int 0, .null]))] s.heap.size = A at hD ⊢
  have hA : ∀ q : Nat, s.heap.size ≤ q → A q := fun q h => by rw [← hAe]; exact Or.inr h
  have hS : va_S A s.heap s.heap [] := va_S.rf
  have hl := lv_entry ([.ref h0]) (n := 1) (Nat.le_of_ble_eq_true rfl)
  rw [lg_entry_eq]
  generalize (lg_sl ([.ref h0]) ++ List.replicate (1 - (lg_sl ([.ref h0])).length) Slot.unset).toArray = ls at hl ⊢
  have hl : lv_has ls 1 [(0, .ref h0)] := hl
  have hP : va_P D kq_cls [(h0, .inr (3, [.int 0, .int 0, .null]))] s.heap := hP
  refine lv_aload_n hx hb kv_dS_0 rfl (lv_at hl 0 rfl) ?_
  refine W.objInit hx hb hown (hts _ kv_w169) (hts _ kv_w74) (hts _ kv_oc) rfl (by rw [hml]; exact hl.1) rfl kv_dS_1 (Nat.le_of_ble_eq_true rfl) (Nat.le_of_ble_eq_true rfl) ?_
  refine W.eq (g2 := F0 m 4 ls []) rfl ?_
  refine lv_aload_n hx hb kv_dS_4 rfl (lv_at hl 0 rfl) ?_
  refine lv_iconst (v := 0) hx hb kv_dS_5 (by decide) ?_
  refine va_put (D := D) (ci := 3) (v := .int 0) (ty := .int) (C := "KettleInquest$Sheet") (T := kq_F3) (N := 3) hx hb hts kq_i3 kq_t3 kq_to3 kq_n3 hown hK hP hD hS 0 rfl rfl 0 (by decide) (hts _ kv_w170) (fun _ h9 => h9) rfl (by decide +kernel) rfl rfl (Nat.le_of_ble_eq_true rfl) kv_dS_6 (fun H locs hP hD hS => ?_)
  have hP : va_P D kq_cls [(h0, .inr (3, [.int 0, .int 0, .null]))] H := hP
  have hD : va_D A [(h0, .inr (3, [.int 0, .int 0, .null]))] := hD
  refine lv_aload_n hx hb kv_dS_9 rfl (lv_at hl 0 rfl) ?_
  refine lv_iconst (v := 0) hx hb kv_dS_10 (by decide) ?_
  refine va_put (D := D) (ci := 3) (v := .int 0) (ty := .int) (C := "KettleInquest$Sheet") (T := kq_F3) (N := 3) hx hb hts kq_i3 kq_t3 kq_to3 kq_n3 hown hK hP hD hS 0 rfl rfl 1 (by decide) (hts _ kv_w172) (fun _ h9 => h9) rfl (by decide +kernel) rfl rfl (Nat.le_of_ble_eq_true rfl) kv_dS_11 (fun H locs hP hD hS => ?_)
  have hP : va_P D kq_cls [(h0, .inr (3, [.int 0, .int 0, .null]))] H := hP
  have hD : va_D A [(h0, .inr (3, [.int 0, .int 0, .null]))] := hD
  refine lv_aload_n hx hb kv_dS_14 rfl (lv_at hl 0 rfl) ?_
  refine lv_bipush (v := 40) hx hb kv_dS_15 (by decide) ?_
  refine kv_newa (atype := .long) (ty := .long) hx hb (hts _ kv_w185) rfl hK hP hD hS hA 1 rfl kv_raL (a0 := (40, .inr (.inl (fun _ => (0 : Int64))))) (fun _ => rfl) (by decide) (N' := 40) (by decide) (Nat.le_of_ble_eq_true rfl) (Nat.le_of_ble_eq_true rfl) (Nat.le_of_ble_eq_true rfl) kv_dS_17 (fun q17 H hP hD hS => ?_)
  have hP : va_P D kq_cls [(h0, .inr (3, [.int 0, .int 0, .null])), (q17, .inl (c1, 40, .inr (.inl (fun _ => 0))))] H := hP
  have hD : va_D A [(h0, .inr (3, [.int 0, .int 0, .null])), (q17, .inl (c1, 40, .inr (.inl (fun _ => 0))))] := hD
  refine W.widen (k := 1) (n := 40) (Nat.le_of_ble_eq_true rfl) (Nat.le_of_ble_eq_true rfl) ?_
  refine va_putF (D := D) (ci := 3) (v := .ref q17) (ty := (kq_t3 2)) (C := "KettleInquest$Sheet") (T := kq_F3) (N := 3) hx hb hts kq_i3 kq_t3 kq_to3 kq_n3 hown hK hP hD hS 0 rfl rfl 2 (by decide) (hts _ kv_w175) (fun _ h9 => h9) rfl hin rfl (by decide +kernel) rfl rfl (Nat.le_of_ble_eq_true rfl) kv_dS_19 (fun H locs hP hD hS => ?_)
  have hP : va_P D kq_cls [(h0, .inr (3, [.int 0, .int 0, .ref q17])), (q17, .inl (c1, 40, .inr (.inl (fun _ => 0))))] H := hP
  have hD : va_D A [(h0, .inr (3, [.int 0, .int 0, .ref q17])), (q17, .inl (c1, 40, .inr (.inl (fun _ => 0))))] := hD
  exact W.vret hx hb hr (fun t ht hW => ⟨⟨(), rfl, trivial, q17, by rw [ht]; exact hP, va_K.moved hW.alike hK, hD⟩, hS.F ht⟩) hS.2.2 kv_dS_22
set_option maxHeartbeats 4000000 in
set_option maxRecDepth 100000 in
theorem kv_c_M (l : Launch) (D : va_G) (c0 c1 c2 : ClassId) (h0 sz : Nat) : Met l kv_M.1 (kq_ws kv_M) { frames := 1, cells := 11, slots := 530, locals := 12 } (va_Pc [.ref h0] (fun U => U.heap.size = sz ∧ va_P D kq_cls [(h0, .inr (4, [.null, .null, .int 0, .null, .null, .null, .int 0, .int 0, .int 0, .int 0, .long 0, .int 0, .int 0, .null, .null, .null, .null, .null, .null, .int 0]))] U.heap ∧ va_K D kq_cls (kv_ty c0 c1 c2) U ∧ va_D (fun _ => True) [(h0, .inr (4, [.null, .null, .int 0, .null, .null, .null, .int 0, .int 0, .int 0, .int 0, .long 0, .int 0, .int 0, .null, .null, .null, .null, .null, .null, .int 0]))])) (va_Qv (fun _ : Unit => True) (fun _ t => ∃ q7 q15 q23 q31 q39 q46 q53 q62 q70 q78 q86 : Nat, va_P D kq_cls [(h0, .inr (4, [.ref q7, .ref q15, .int 0, .ref q23, .ref q31, .ref q39, .int 0, .int 0, .int 0, .int 0, .long 0, .int 0, .int 0, .ref q46, .ref q53, .ref q62, .ref q70, .ref q78, .ref q86, .int 0])), (q7, .inl (c0, 39, .inl (upd (upd (fun _ => 0) (2 : Int32).toNatClampNeg 40) (4 : Int32).toNatClampNeg 20))), (q15, .inl (c0, 7, .inl (fun _ => 0))), (q23, .inl (c0, 39, .inl (fun _ => 0))), (q31, .inl (c0, 39, .inl (fun _ => 0))), (q39, .inl (c0, 120, .inl (fun _ => 0))), (q46, .inl (c0, 4, .inl (fun _ => 0))), (q53, .inl (c0, 4, .inl (fun _ => 0))), (q62, .inl (c1, 160, .inr (.inl (fun _ => 0)))), (q70, .inl (c1, 40, .inr (.inl (fun _ => 0)))), (q78, .inl (c0, 39, .inl (fun _ => 0))), (q86, .inl (c0, 39, .inl (fun _ => 0)))] t.heap ∧ va_K D kq_cls (kv_ty c0 c1 c2) t ∧ va_D (va_A [(h0, .inr (4, [.null, .null, .int 0, .null, .null, .null, .int 0, .int 0, .int 0, .int 0, .long 0, .int 0, .int 0, .null, .null, .null, .null, .null, .null, .int 0]))] sz) [(h0, .inr (4, [.ref q7, .ref q15, .int 0, .ref q23, .ref q31, .ref q39, .int 0, .int 0, .int 0, .int 0, .long 0, .int 0, .int 0, .ref q46, .ref q53, .ref q62, .ref q70, .ref q78, .ref q86, .int 0])), (q7, .inl (c0, 39, .inl (upd (upd (fun _ => 0) (2 : Int32).toNatClampNeg 40) (4 : Int32).toNatClampNeg 20))), (q15, .inl (c0, 7, .inl (fun _ => 0))), (q23, .inl (c0, 39, .inl (fun _ => 0))), (q31, .inl (c0, 39, .inl (fun _ => 0))), (q39, .inl (c0, 120, .inl (fun _ => 0))), (q46, .inl (c0, 4, .inl (fun _ => 0))), (q53, .inl (c0, 4, .inl (fun _ => 0))), (q62, .inl (c1, 160, .inr (.inl (fun _ => 0)))), (q70, .inl (c1, 40, .inr (.inl (fun _ => 0)))), (q78, .inl (c0, 39, .inl (fun _ => 0))), (q86, .inl (c0, 39, .inl (fun _ => 0)))]) (va_A [(h0, .inr (4, [.null, .null, .int 0, .null, .null, .null, .int 0, .int 0, .int 0, .int 0, .long 0, .int 0, .int 0, .null, .null, .null, .null, .null, .null, .int 0]))] sz)) 11 530 (va_A [(h0, .inr (4, [.null, .null, .int 0, .null, .null, .null, .int 0, .int 0, .int 0, .int 0, .long 0, .int 0, .int 0, .null, .null, .null, .null, .null, .null, .int 0]))] sz) := by
  refine Met.ofW (cc := prog_6_method_1_code) (maxL := 1) (ret := none) (by decide) rfl ?_
  intro p e s m args below meth c s₁ B hml hv
  obtain ⟨rfl, hsz, hP, hK, hD0⟩ := hv
  have hx := B.exec
  have hb := B.bytes
  have hr := B.returns
  have hts0 := atoms_spec (ws := kq_ws kv_M) B.pre
  have hts := fun (w : Cond) (h : w ∈ kq_tbl) => hts0 w (List.mem_cons_of_mem _ h)
  have hown : s.vm.findClass "KettleInquestModel" = some m.cls := findClass_of_methodNamed B.named
  have hlocks := B.notSynchronized
  have hin : meth.name = "<init>" := (name_of_methodNamed B.named B.method).1
  subst hsz
  have hD := hD0.self (sz := s.heap.size)
  generalize hAe : va_A [(h0, .inr (4, [.null, .null, .int 0, .null, .null, .null, .int 0, .int 0, .int 0, .int 0, .long 0, .int 0, .int 0, .null, .null, .null, .null, .null, .null, .int 0]))] s.heap.size = A at hD ⊢
  have hA : ∀ q : Nat, s.heap.size ≤ q → A q := fun q h => by rw [← hAe]; exact Or.inr h
  have hS : va_S A s.heap s.heap [] := va_S.rf
  have hl := lv_entry ([.ref h0]) (n := 1) (Nat.le_of_ble_eq_true rfl)
  rw [lg_entry_eq]
  generalize (lg_sl ([.ref h0]) ++ List.replicate (1 - (lg_sl ([.ref h0])).length) Slot.unset).toArray = ls at hl ⊢
  have hl : lv_has ls 1 [(0, .ref h0)] := hl
  have hP : va_P D kq_cls [(h0, .inr (4, [.null, .null, .int 0, .null, .null, .null, .int 0, .int 0, .int 0, .int 0, .long 0, .int 0, .int 0, .null, .null, .null, .null, .null, .null, .int 0]))] s.heap := hP
  refine lv_aload_n hx hb kv_dM_0 rfl (lv_at hl 0 rfl) ?_
  refine W.objInit hx hb hown (hts _ kv_w643) (hts _ kv_w74) (hts _ kv_oc) rfl (by rw [hml]; exact hl.1) rfl kv_dM_1 (Nat.le_of_ble_eq_true rfl) (Nat.le_of_ble_eq_true rfl) ?_
  refine W.eq (g2 := F0 m 4 ls []) rfl ?_
  refine lv_aload_n hx hb kv_dM_4 rfl (lv_at hl 0 rfl) ?_
  refine lv_bipush (v := 39) hx hb kv_dM_5 (by decide) ?_
  refine kv_newa (atype := .int) (ty := .int) hx hb (hts _ kv_w133) rfl hK hP hD hS hA 0 rfl kv_raI (a0 := (39, .inl (fun _ => (0 : Int32)))) (fun _ => rfl) (by decide) (N' := 39) (by decide) (Nat.le_of_ble_eq_true rfl) (Nat.le_of_ble_eq_true rfl) (Nat.le_of_ble_eq_true rfl) kv_dM_7 (fun q7 H hP hD hS => ?_)
  have hP : va_P D kq_cls [(h0, .inr (4, [.null, .null, .int 0, .null, .null, .null, .int 0, .int 0, .int 0, .int 0, .long 0, .int 0, .int 0, .null, .null, .null, .null, .null, .null, .int 0])), (q7, .inl (c0, 39, .inl (fun _ => 0)))] H := hP
  have hD : va_D A [(h0, .inr (4, [.null, .null, .int 0, .null, .null, .null, .int 0, .int 0, .int 0, .int 0, .long 0, .int 0, .int 0, .null, .null, .null, .null, .null, .null, .int 0])), (q7, .inl (c0, 39, .inl (fun _ => 0)))] := hD
  refine W.widen (k := 1) (n := 39) (Nat.le_of_ble_eq_true rfl) (Nat.le_of_ble_eq_true rfl) ?_
  refine va_putF (D := D) (ci := 4) (v := .ref q7) (ty := (kq_t4 0)) (C := "KettleInquestModel") (T := kq_F4) (N := 20) hx hb hts kq_i4 kq_t4 kq_to4 kq_n4 hown hK hP hD hS 0 rfl rfl 0 (by decide) (hts _ kv_w644) (fun _ h9 => h9) rfl hin rfl (by decide +kernel) rfl rfl (Nat.le_of_ble_eq_true rfl) kv_dM_9 (fun H locs hP hD hS => ?_)
  have hP : va_P D kq_cls [(h0, .inr (4, [.ref q7, .null, .int 0, .null, .null, .null, .int 0, .int 0, .int 0, .int 0, .long 0, .int 0, .int 0, .null, .null, .null, .null, .null, .null, .int 0])), (q7, .inl (c0, 39, .inl (fun _ => 0)))] H := hP
  have hD : va_D A [(h0, .inr (4, [.ref q7, .null, .int 0, .null, .null, .null, .int 0, .int 0, .int 0, .int 0, .long 0, .int 0, .int 0, .null, .null, .null, .null, .null, .null, .int 0])), (q7, .inl (c0, 39, .inl (fun _ => 0)))] := hD
  refine lv_aload_n hx hb kv_dM_12 rfl (lv_at hl 0 rfl) ?_
  refine lv_bipush (v := 7) hx hb kv_dM_13 (by decide) ?_
  refine kv_newa (atype := .int) (ty := .int) hx hb (hts _ kv_w133) rfl hK hP hD hS hA 0 rfl kv_raI (a0 := (7, .inl (fun _ => (0 : Int32)))) (fun _ => rfl) (by decide) (N' := 7) (by decide) (Nat.le_of_ble_eq_true rfl) (Nat.le_of_ble_eq_true rfl) (Nat.le_of_ble_eq_true rfl) kv_dM_15 (fun q15 H hP hD hS => ?_)
  have hP : va_P D kq_cls [(h0, .inr (4, [.ref q7, .null, .int 0, .null, .null, .null, .int 0, .int 0, .int 0, .int 0, .long 0, .int 0, .int 0, .null, .null, .null, .null, .null, .null, .int 0])), (q7, .inl (c0, 39, .inl (fun _ => 0))), (q15, .inl (c0, 7, .inl (fun _ => 0)))] H := hP
  have hD : va_D A [(h0, .inr (4, [.ref q7, .null, .int 0, .null, .null, .null, .int 0, .int 0, .int 0, .int 0, .long 0, .int 0, .int 0, .null, .null, .null, .null, .null, .null, .int 0])), (q7, .inl (c0, 39, .inl (fun _ => 0))), (q15, .inl (c0, 7, .inl (fun _ => 0)))] := hD
  refine W.widen (k := 2) (n := 46) (Nat.le_of_ble_eq_true rfl) (Nat.le_of_ble_eq_true rfl) ?_
  refine va_putF (D := D) (ci := 4) (v := .ref q15) (ty := (kq_t4 1)) (C := "KettleInquestModel") (T := kq_F4) (N := 20) hx hb hts kq_i4 kq_t4 kq_to4 kq_n4 hown hK hP hD hS 0 rfl rfl 1 (by decide) (hts _ kv_w645) (fun _ h9 => h9) rfl hin rfl (by decide +kernel) rfl rfl (Nat.le_of_ble_eq_true rfl) kv_dM_17 (fun H locs hP hD hS => ?_)
  have hP : va_P D kq_cls [(h0, .inr (4, [.ref q7, .ref q15, .int 0, .null, .null, .null, .int 0, .int 0, .int 0, .int 0, .long 0, .int 0, .int 0, .null, .null, .null, .null, .null, .null, .int 0])), (q7, .inl (c0, 39, .inl (fun _ => 0))), (q15, .inl (c0, 7, .inl (fun _ => 0)))] H := hP
  have hD : va_D A [(h0, .inr (4, [.ref q7, .ref q15, .int 0, .null, .null, .null, .int 0, .int 0, .int 0, .int 0, .long 0, .int 0, .int 0, .null, .null, .null, .null, .null, .null, .int 0])), (q7, .inl (c0, 39, .inl (fun _ => 0))), (q15, .inl (c0, 7, .inl (fun _ => 0)))] := hD
  refine lv_aload_n hx hb kv_dM_20 rfl (lv_at hl 0 rfl) ?_
  refine lv_bipush (v := 39) hx hb kv_dM_21 (by decide) ?_
  refine kv_newa (atype := .int) (ty := .int) hx hb (hts _ kv_w133) rfl hK hP hD hS hA 0 rfl kv_raI (a0 := (39, .inl (fun _ => (0 : Int32)))) (fun _ => rfl) (by decide) (N' := 39) (by decide) (Nat.le_of_ble_eq_true rfl) (Nat.le_of_ble_eq_true rfl) (Nat.le_of_ble_eq_true rfl) kv_dM_23 (fun q23 H hP hD hS => ?_)
  have hP : va_P D kq_cls [(h0, .inr (4, [.ref q7, .ref q15, .int 0, .null, .null, .null, .int 0, .int 0, .int 0, .int 0, .long 0, .int 0, .int 0, .null, .null, .null, .null, .null, .null, .int 0])), (q7, .inl (c0, 39, .inl (fun _ => 0))), (q15, .inl (c0, 7, .inl (fun _ => 0))), (q23, .inl (c0, 39, .inl (fun _ => 0)))] H := hP
  have hD : va_D A [(h0, .inr (4, [.ref q7, .ref q15, .int 0, .null, .null, .null, .int 0, .int 0, .int 0, .int 0, .long 0, .int 0, .int 0, .null, .null, .null, .null, .null, .null, .int 0])), (q7, .inl (c0, 39, .inl (fun _ => 0))), (q15, .inl (c0, 7, .inl (fun _ => 0))), (q23, .inl (c0, 39, .inl (fun _ => 0)))] := hD
  refine W.widen (k := 3) (n := 85) (Nat.le_of_ble_eq_true rfl) (Nat.le_of_ble_eq_true rfl) ?_
  refine va_putF (D := D) (ci := 4) (v := .ref q23) (ty := (kq_t4 3)) (C := "KettleInquestModel") (T := kq_F4) (N := 20) hx hb hts kq_i4 kq_t4 kq_to4 kq_n4 hown hK hP hD hS 0 rfl rfl 3 (by decide) (hts _ kv_w647) (fun _ h9 => h9) rfl hin rfl (by decide +kernel) rfl rfl (Nat.le_of_ble_eq_true rfl) kv_dM_25 (fun H locs hP hD hS => ?_)
  have hP : va_P D kq_cls [(h0, .inr (4, [.ref q7, .ref q15, .int 0, .ref q23, .null, .null, .int 0, .int 0, .int 0, .int 0, .long 0, .int 0, .int 0, .null, .null, .null, .null, .null, .null, .int 0])), (q7, .inl (c0, 39, .inl (fun _ => 0))), (q15, .inl (c0, 7, .inl (fun _ => 0))), (q23, .inl (c0, 39, .inl (fun _ => 0)))] H := hP
  have hD : va_D A [(h0, .inr (4, [.ref q7, .ref q15, .int 0, .ref q23, .null, .null, .int 0, .int 0, .int 0, .int 0, .long 0, .int 0, .int 0, .null, .null, .null, .null, .null, .null, .int 0])), (q7, .inl (c0, 39, .inl (fun _ => 0))), (q15, .inl (c0, 7, .inl (fun _ => 0))), (q23, .inl (c0, 39, .inl (fun _ => 0)))] := hD
  refine lv_aload_n hx hb kv_dM_28 rfl (lv_at hl 0 rfl) ?_
  refine lv_bipush (v := 39) hx hb kv_dM_29 (by decide) ?_
  refine kv_newa (atype := .int) (ty := .int) hx hb (hts _ kv_w133) rfl hK hP hD hS hA 0 rfl kv_raI (a0 := (39, .inl (fun _ => (0 : Int32)))) (fun _ => rfl) (by decide) (N' := 39) (by decide) (Nat.le_of_ble_eq_true rfl) (Nat.le_of_ble_eq_true rfl) (Nat.le_of_ble_eq_true rfl) kv_dM_31 (fun q31 H hP hD hS => ?_)
  have hP : va_P D kq_cls [(h0, .inr (4, [.ref q7, .ref q15, .int 0, .ref q23, .null, .null, .int 0, .int 0, .int 0, .int 0, .long 0, .int 0, .int 0, .null, .null, .null, .null, .null, .null, .int 0])), (q7, .inl (c0, 39, .inl (fun _ => 0))), (q15, .inl (c0, 7, .inl (fun _ => 0))), (q23, .inl (c0, 39, .inl (fun _ => 0))), (q31, .inl (c0, 39, .inl (fun _ => 0)))] H := hP
  have hD : va_D A [(h0, .inr (4, [.ref q7, .ref q15, .int 0, .ref q23, .null, .null, .int 0, .int 0, .int 0, .int 0, .long 0, .int 0, .int 0, .null, .null, .null, .null, .null, .null, .int 0])), (q7, .inl (c0, 39, .inl (fun _ => 0))), (q15, .inl (c0, 7, .inl (fun _ => 0))), (q23, .inl (c0, 39, .inl (fun _ => 0))), (q31, .inl (c0, 39, .inl (fun _ => 0)))] := hD
  refine W.widen (k := 4) (n := 124) (Nat.le_of_ble_eq_true rfl) (Nat.le_of_ble_eq_true rfl) ?_
  refine va_putF (D := D) (ci := 4) (v := .ref q31) (ty := (kq_t4 4)) (C := "KettleInquestModel") (T := kq_F4) (N := 20) hx hb hts kq_i4 kq_t4 kq_to4 kq_n4 hown hK hP hD hS 0 rfl rfl 4 (by decide) (hts _ kv_w648) (fun _ h9 => h9) rfl hin rfl (by decide +kernel) rfl rfl (Nat.le_of_ble_eq_true rfl) kv_dM_33 (fun H locs hP hD hS => ?_)
  have hP : va_P D kq_cls [(h0, .inr (4, [.ref q7, .ref q15, .int 0, .ref q23, .ref q31, .null, .int 0, .int 0, .int 0, .int 0, .long 0, .int 0, .int 0, .null, .null, .null, .null, .null, .null, .int 0])), (q7, .inl (c0, 39, .inl (fun _ => 0))), (q15, .inl (c0, 7, .inl (fun _ => 0))), (q23, .inl (c0, 39, .inl (fun _ => 0))), (q31, .inl (c0, 39, .inl (fun _ => 0)))] H := hP
  have hD : va_D A [(h0, .inr (4, [.ref q7, .ref q15, .int 0, .ref q23, .ref q31, .null, .int 0, .int 0, .int 0, .int 0, .long 0, .int 0, .int 0, .null, .null, .null, .null, .null, .null, .int 0])), (q7, .inl (c0, 39, .inl (fun _ => 0))), (q15, .inl (c0, 7, .inl (fun _ => 0))), (q23, .inl (c0, 39, .inl (fun _ => 0))), (q31, .inl (c0, 39, .inl (fun _ => 0)))] := hD
  refine lv_aload_n hx hb kv_dM_36 rfl (lv_at hl 0 rfl) ?_
  refine lv_bipush (v := 120) hx hb kv_dM_37 (by decide) ?_
  refine kv_newa (atype := .int) (ty := .int) hx hb (hts _ kv_w133) rfl hK hP hD hS hA 0 rfl kv_raI (a0 := (120, .inl (fun _ => (0 : Int32)))) (fun _ => rfl) (by decide) (N' := 120) (by decide) (Nat.le_of_ble_eq_true rfl) (Nat.le_of_ble_eq_true rfl) (Nat.le_of_ble_eq_true rfl) kv_dM_39 (fun q39 H hP hD hS => ?_)
  have hP : va_P D kq_cls [(h0, .inr (4, [.ref q7, .ref q15, .int 0, .ref q23, .ref q31, .null, .int 0, .int 0, .int 0, .int 0, .long 0, .int 0, .int 0, .null, .null, .null, .null, .null, .null, .int 0])), (q7, .inl (c0, 39, .inl (fun _ => 0))), (q15, .inl (c0, 7, .inl (fun _ => 0))), (q23, .inl (c0, 39, .inl (fun _ => 0))), (q31, .inl (c0, 39, .inl (fun _ => 0))), (q39, .inl (c0, 120, .inl (fun _ => 0)))] H := hP
  have hD : va_D A [(h0, .inr (4, [.ref q7, .ref q15, .int 0, .ref q23, .ref q31, .null, .int 0, .int 0, .int 0, .int 0, .long 0, .int 0, .int 0, .null, .null, .null, .null, .null, .null, .int 0])), (q7, .inl (c0, 39, .inl (fun _ => 0))), (q15, .inl (c0, 7, .inl (fun _ => 0))), (q23, .inl (c0, 39, .inl (fun _ => 0))), (q31, .inl (c0, 39, .inl (fun _ => 0))), (q39, .inl (c0, 120, .inl (fun _ => 0)))] := hD
  refine W.widen (k := 5) (n := 244) (Nat.le_of_ble_eq_true rfl) (Nat.le_of_ble_eq_true rfl) ?_
  refine va_putF (D := D) (ci := 4) (v := .ref q39) (ty := (kq_t4 5)) (C := "KettleInquestModel") (T := kq_F4) (N := 20) hx hb hts kq_i4 kq_t4 kq_to4 kq_n4 hown hK hP hD hS 0 rfl rfl 5 (by decide) (hts _ kv_w649) (fun _ h9 => h9) rfl hin rfl (by decide +kernel) rfl rfl (Nat.le_of_ble_eq_true rfl) kv_dM_41 (fun H locs hP hD hS => ?_)
  have hP : va_P D kq_cls [(h0, .inr (4, [.ref q7, .ref q15, .int 0, .ref q23, .ref q31, .ref q39, .int 0, .int 0, .int 0, .int 0, .long 0, .int 0, .int 0, .null, .null, .null, .null, .null, .null, .int 0])), (q7, .inl (c0, 39, .inl (fun _ => 0))), (q15, .inl (c0, 7, .inl (fun _ => 0))), (q23, .inl (c0, 39, .inl (fun _ => 0))), (q31, .inl (c0, 39, .inl (fun _ => 0))), (q39, .inl (c0, 120, .inl (fun _ => 0)))] H := hP
  have hD : va_D A [(h0, .inr (4, [.ref q7, .ref q15, .int 0, .ref q23, .ref q31, .ref q39, .int 0, .int 0, .int 0, .int 0, .long 0, .int 0, .int 0, .null, .null, .null, .null, .null, .null, .int 0])), (q7, .inl (c0, 39, .inl (fun _ => 0))), (q15, .inl (c0, 7, .inl (fun _ => 0))), (q23, .inl (c0, 39, .inl (fun _ => 0))), (q31, .inl (c0, 39, .inl (fun _ => 0))), (q39, .inl (c0, 120, .inl (fun _ => 0)))] := hD
  refine lv_aload_n hx hb kv_dM_44 rfl (lv_at hl 0 rfl) ?_
  refine lv_iconst (v := 4) hx hb kv_dM_45 (by decide) ?_
  refine kv_newa (atype := .int) (ty := .int) hx hb (hts _ kv_w133) rfl hK hP hD hS hA 0 rfl kv_raI (a0 := (4, .inl (fun _ => (0 : Int32)))) (fun _ => rfl) (by decide) (N' := 4) (by decide) (Nat.le_of_ble_eq_true rfl) (Nat.le_of_ble_eq_true rfl) (Nat.le_of_ble_eq_true rfl) kv_dM_46 (fun q46 H hP hD hS => ?_)
  have hP : va_P D kq_cls [(h0, .inr (4, [.ref q7, .ref q15, .int 0, .ref q23, .ref q31, .ref q39, .int 0, .int 0, .int 0, .int 0, .long 0, .int 0, .int 0, .null, .null, .null, .null, .null, .null, .int 0])), (q7, .inl (c0, 39, .inl (fun _ => 0))), (q15, .inl (c0, 7, .inl (fun _ => 0))), (q23, .inl (c0, 39, .inl (fun _ => 0))), (q31, .inl (c0, 39, .inl (fun _ => 0))), (q39, .inl (c0, 120, .inl (fun _ => 0))), (q46, .inl (c0, 4, .inl (fun _ => 0)))] H := hP
  have hD : va_D A [(h0, .inr (4, [.ref q7, .ref q15, .int 0, .ref q23, .ref q31, .ref q39, .int 0, .int 0, .int 0, .int 0, .long 0, .int 0, .int 0, .null, .null, .null, .null, .null, .null, .int 0])), (q7, .inl (c0, 39, .inl (fun _ => 0))), (q15, .inl (c0, 7, .inl (fun _ => 0))), (q23, .inl (c0, 39, .inl (fun _ => 0))), (q31, .inl (c0, 39, .inl (fun _ => 0))), (q39, .inl (c0, 120, .inl (fun _ => 0))), (q46, .inl (c0, 4, .inl (fun _ => 0)))] := hD
  refine W.widen (k := 6) (n := 248) (Nat.le_of_ble_eq_true rfl) (Nat.le_of_ble_eq_true rfl) ?_
  refine va_putF (D := D) (ci := 4) (v := .ref q46) (ty := (kq_t4 13)) (C := "KettleInquestModel") (T := kq_F4) (N := 20) hx hb hts kq_i4 kq_t4 kq_to4 kq_n4 hown hK hP hD hS 0 rfl rfl 13 (by decide) (hts _ kv_w657) (fun _ h9 => h9) rfl hin rfl (by decide +kernel) rfl rfl (Nat.le_of_ble_eq_true rfl) kv_dM_48 (fun H locs hP hD hS => ?_)
  have hP : va_P D kq_cls [(h0, .inr (4, [.ref q7, .ref q15, .int 0, .ref q23, .ref q31, .ref q39, .int 0, .int 0, .int 0, .int 0, .long 0, .int 0, .int 0, .ref q46, .null, .null, .null, .null, .null, .int 0])), (q7, .inl (c0, 39, .inl (fun _ => 0))), (q15, .inl (c0, 7, .inl (fun _ => 0))), (q23, .inl (c0, 39, .inl (fun _ => 0))), (q31, .inl (c0, 39, .inl (fun _ => 0))), (q39, .inl (c0, 120, .inl (fun _ => 0))), (q46, .inl (c0, 4, .inl (fun _ => 0)))] H := hP
  have hD : va_D A [(h0, .inr (4, [.ref q7, .ref q15, .int 0, .ref q23, .ref q31, .ref q39, .int 0, .int 0, .int 0, .int 0, .long 0, .int 0, .int 0, .ref q46, .null, .null, .null, .null, .null, .int 0])), (q7, .inl (c0, 39, .inl (fun _ => 0))), (q15, .inl (c0, 7, .inl (fun _ => 0))), (q23, .inl (c0, 39, .inl (fun _ => 0))), (q31, .inl (c0, 39, .inl (fun _ => 0))), (q39, .inl (c0, 120, .inl (fun _ => 0))), (q46, .inl (c0, 4, .inl (fun _ => 0)))] := hD
  refine lv_aload_n hx hb kv_dM_51 rfl (lv_at hl 0 rfl) ?_
  refine lv_iconst (v := 4) hx hb kv_dM_52 (by decide) ?_
  refine kv_newa (atype := .int) (ty := .int) hx hb (hts _ kv_w133) rfl hK hP hD hS hA 0 rfl kv_raI (a0 := (4, .inl (fun _ => (0 : Int32)))) (fun _ => rfl) (by decide) (N' := 4) (by decide) (Nat.le_of_ble_eq_true rfl) (Nat.le_of_ble_eq_true rfl) (Nat.le_of_ble_eq_true rfl) kv_dM_53 (fun q53 H hP hD hS => ?_)
  have hP : va_P D kq_cls [(h0, .inr (4, [.ref q7, .ref q15, .int 0, .ref q23, .ref q31, .ref q39, .int 0, .int 0, .int 0, .int 0, .long 0, .int 0, .int 0, .ref q46, .null, .null, .null, .null, .null, .int 0])), (q7, .inl (c0, 39, .inl (fun _ => 0))), (q15, .inl (c0, 7, .inl (fun _ => 0))), (q23, .inl (c0, 39, .inl (fun _ => 0))), (q31, .inl (c0, 39, .inl (fun _ => 0))), (q39, .inl (c0, 120, .inl (fun _ => 0))), (q46, .inl (c0, 4, .inl (fun _ => 0))), (q53, .inl (c0, 4, .inl (fun _ => 0)))] H := hP
  have hD : va_D A [(h0, .inr (4, [.ref q7, .ref q15, .int 0, .ref q23, .ref q31, .ref q39, .int 0, .int 0, .int 0, .int 0, .long 0, .int 0, .int 0, .ref q46, .null, .null, .null, .null, .null, .int 0])), (q7, .inl (c0, 39, .inl (fun _ => 0))), (q15, .inl (c0, 7, .inl (fun _ => 0))), (q23, .inl (c0, 39, .inl (fun _ => 0))), (q31, .inl (c0, 39, .inl (fun _ => 0))), (q39, .inl (c0, 120, .inl (fun _ => 0))), (q46, .inl (c0, 4, .inl (fun _ => 0))), (q53, .inl (c0, 4, .inl (fun _ => 0)))] := hD
  refine W.widen (k := 7) (n := 252) (Nat.le_of_ble_eq_true rfl) (Nat.le_of_ble_eq_true rfl) ?_
  refine va_putF (D := D) (ci := 4) (v := .ref q53) (ty := (kq_t4 14)) (C := "KettleInquestModel") (T := kq_F4) (N := 20) hx hb hts kq_i4 kq_t4 kq_to4 kq_n4 hown hK hP hD hS 0 rfl rfl 14 (by decide) (hts _ kv_w658) (fun _ h9 => h9) rfl hin rfl (by decide +kernel) rfl rfl (Nat.le_of_ble_eq_true rfl) kv_dM_55 (fun H locs hP hD hS => ?_)
  have hP : va_P D kq_cls [(h0, .inr (4, [.ref q7, .ref q15, .int 0, .ref q23, .ref q31, .ref q39, .int 0, .int 0, .int 0, .int 0, .long 0, .int 0, .int 0, .ref q46, .ref q53, .null, .null, .null, .null, .int 0])), (q7, .inl (c0, 39, .inl (fun _ => 0))), (q15, .inl (c0, 7, .inl (fun _ => 0))), (q23, .inl (c0, 39, .inl (fun _ => 0))), (q31, .inl (c0, 39, .inl (fun _ => 0))), (q39, .inl (c0, 120, .inl (fun _ => 0))), (q46, .inl (c0, 4, .inl (fun _ => 0))), (q53, .inl (c0, 4, .inl (fun _ => 0)))] H := hP
  have hD : va_D A [(h0, .inr (4, [.ref q7, .ref q15, .int 0, .ref q23, .ref q31, .ref q39, .int 0, .int 0, .int 0, .int 0, .long 0, .int 0, .int 0, .ref q46, .ref q53, .null, .null, .null, .null, .int 0])), (q7, .inl (c0, 39, .inl (fun _ => 0))), (q15, .inl (c0, 7, .inl (fun _ => 0))), (q23, .inl (c0, 39, .inl (fun _ => 0))), (q31, .inl (c0, 39, .inl (fun _ => 0))), (q39, .inl (c0, 120, .inl (fun _ => 0))), (q46, .inl (c0, 4, .inl (fun _ => 0))), (q53, .inl (c0, 4, .inl (fun _ => 0)))] := hD
  refine lv_aload_n hx hb kv_dM_58 rfl (lv_at hl 0 rfl) ?_
  refine lv_sipush (v := 160) hx hb kv_dM_59 (by decide) ?_
  refine kv_newa (atype := .long) (ty := .long) hx hb (hts _ kv_w185) rfl hK hP hD hS hA 1 rfl kv_raL (a0 := (160, .inr (.inl (fun _ => (0 : Int64))))) (fun _ => rfl) (by decide) (N' := 160) (by decide) (Nat.le_of_ble_eq_true rfl) (Nat.le_of_ble_eq_true rfl) (Nat.le_of_ble_eq_true rfl) kv_dM_62 (fun q62 H hP hD hS => ?_)
  have hP : va_P D kq_cls [(h0, .inr (4, [.ref q7, .ref q15, .int 0, .ref q23, .ref q31, .ref q39, .int 0, .int 0, .int 0, .int 0, .long 0, .int 0, .int 0, .ref q46, .ref q53, .null, .null, .null, .null, .int 0])), (q7, .inl (c0, 39, .inl (fun _ => 0))), (q15, .inl (c0, 7, .inl (fun _ => 0))), (q23, .inl (c0, 39, .inl (fun _ => 0))), (q31, .inl (c0, 39, .inl (fun _ => 0))), (q39, .inl (c0, 120, .inl (fun _ => 0))), (q46, .inl (c0, 4, .inl (fun _ => 0))), (q53, .inl (c0, 4, .inl (fun _ => 0))), (q62, .inl (c1, 160, .inr (.inl (fun _ => 0))))] H := hP
  have hD : va_D A [(h0, .inr (4, [.ref q7, .ref q15, .int 0, .ref q23, .ref q31, .ref q39, .int 0, .int 0, .int 0, .int 0, .long 0, .int 0, .int 0, .ref q46, .ref q53, .null, .null, .null, .null, .int 0])), (q7, .inl (c0, 39, .inl (fun _ => 0))), (q15, .inl (c0, 7, .inl (fun _ => 0))), (q23, .inl (c0, 39, .inl (fun _ => 0))), (q31, .inl (c0, 39, .inl (fun _ => 0))), (q39, .inl (c0, 120, .inl (fun _ => 0))), (q46, .inl (c0, 4, .inl (fun _ => 0))), (q53, .inl (c0, 4, .inl (fun _ => 0))), (q62, .inl (c1, 160, .inr (.inl (fun _ => 0))))] := hD
  refine W.widen (k := 8) (n := 412) (Nat.le_of_ble_eq_true rfl) (Nat.le_of_ble_eq_true rfl) ?_
  refine va_putF (D := D) (ci := 4) (v := .ref q62) (ty := (kq_t4 15)) (C := "KettleInquestModel") (T := kq_F4) (N := 20) hx hb hts kq_i4 kq_t4 kq_to4 kq_n4 hown hK hP hD hS 0 rfl rfl 15 (by decide) (hts _ kv_w659) (fun _ h9 => h9) rfl hin rfl (by decide +kernel) rfl rfl (Nat.le_of_ble_eq_true rfl) kv_dM_64 (fun H locs hP hD hS => ?_)
  have hP : va_P D kq_cls [(h0, .inr (4, [.ref q7, .ref q15, .int 0, .ref q23, .ref q31, .ref q39, .int 0, .int 0, .int 0, .int 0, .long 0, .int 0, .int 0, .ref q46, .ref q53, .ref q62, .null, .null, .null, .int 0])), (q7, .inl (c0, 39, .inl (fun _ => 0))), (q15, .inl (c0, 7, .inl (fun _ => 0))), (q23, .inl (c0, 39, .inl (fun _ => 0))), (q31, .inl (c0, 39, .inl (fun _ => 0))), (q39, .inl (c0, 120, .inl (fun _ => 0))), (q46, .inl (c0, 4, .inl (fun _ => 0))), (q53, .inl (c0, 4, .inl (fun _ => 0))), (q62, .inl (c1, 160, .inr (.inl (fun _ => 0))))] H := hP
  have hD : va_D A [(h0, .inr (4, [.ref q7, .ref q15, .int 0, .ref q23, .ref q31, .ref q39, .int 0, .int 0, .int 0, .int 0, .long 0, .int 0, .int 0, .ref q46, .ref q53, .ref q62, .null, .null, .null, .int 0])), (q7, .inl (c0, 39, .inl (fun _ => 0))), (q15, .inl (c0, 7, .inl (fun _ => 0))), (q23, .inl (c0, 39, .inl (fun _ => 0))), (q31, .inl (c0, 39, .inl (fun _ => 0))), (q39, .inl (c0, 120, .inl (fun _ => 0))), (q46, .inl (c0, 4, .inl (fun _ => 0))), (q53, .inl (c0, 4, .inl (fun _ => 0))), (q62, .inl (c1, 160, .inr (.inl (fun _ => 0))))] := hD
  refine lv_aload_n hx hb kv_dM_67 rfl (lv_at hl 0 rfl) ?_
  refine lv_bipush (v := 40) hx hb kv_dM_68 (by decide) ?_
  refine kv_newa (atype := .long) (ty := .long) hx hb (hts _ kv_w185) rfl hK hP hD hS hA 1 rfl kv_raL (a0 := (40, .inr (.inl (fun _ => (0 : Int64))))) (fun _ => rfl) (by decide) (N' := 40) (by decide) (Nat.le_of_ble_eq_true rfl) (Nat.le_of_ble_eq_true rfl) (Nat.le_of_ble_eq_true rfl) kv_dM_70 (fun q70 H hP hD hS => ?_)
  have hP : va_P D kq_cls [(h0, .inr (4, [.ref q7, .ref q15, .int 0, .ref q23, .ref q31, .ref q39, .int 0, .int 0, .int 0, .int 0, .long 0, .int 0, .int 0, .ref q46, .ref q53, .ref q62, .null, .null, .null, .int 0])), (q7, .inl (c0, 39, .inl (fun _ => 0))), (q15, .inl (c0, 7, .inl (fun _ => 0))), (q23, .inl (c0, 39, .inl (fun _ => 0))), (q31, .inl (c0, 39, .inl (fun _ => 0))), (q39, .inl (c0, 120, .inl (fun _ => 0))), (q46, .inl (c0, 4, .inl (fun _ => 0))), (q53, .inl (c0, 4, .inl (fun _ => 0))), (q62, .inl (c1, 160, .inr (.inl (fun _ => 0)))), (q70, .inl (c1, 40, .inr (.inl (fun _ => 0))))] H := hP
  have hD : va_D A [(h0, .inr (4, [.ref q7, .ref q15, .int 0, .ref q23, .ref q31, .ref q39, .int 0, .int 0, .int 0, .int 0, .long 0, .int 0, .int 0, .ref q46, .ref q53, .ref q62, .null, .null, .null, .int 0])), (q7, .inl (c0, 39, .inl (fun _ => 0))), (q15, .inl (c0, 7, .inl (fun _ => 0))), (q23, .inl (c0, 39, .inl (fun _ => 0))), (q31, .inl (c0, 39, .inl (fun _ => 0))), (q39, .inl (c0, 120, .inl (fun _ => 0))), (q46, .inl (c0, 4, .inl (fun _ => 0))), (q53, .inl (c0, 4, .inl (fun _ => 0))), (q62, .inl (c1, 160, .inr (.inl (fun _ => 0)))), (q70, .inl (c1, 40, .inr (.inl (fun _ => 0))))] := hD
  refine W.widen (k := 9) (n := 452) (Nat.le_of_ble_eq_true rfl) (Nat.le_of_ble_eq_true rfl) ?_
  refine va_putF (D := D) (ci := 4) (v := .ref q70) (ty := (kq_t4 16)) (C := "KettleInquestModel") (T := kq_F4) (N := 20) hx hb hts kq_i4 kq_t4 kq_to4 kq_n4 hown hK hP hD hS 0 rfl rfl 16 (by decide) (hts _ kv_w660) (fun _ h9 => h9) rfl hin rfl (by decide +kernel) rfl rfl (Nat.le_of_ble_eq_true rfl) kv_dM_72 (fun H locs hP hD hS => ?_)
  have hP : va_P D kq_cls [(h0, .inr (4, [.ref q7, .ref q15, .int 0, .ref q23, .ref q31, .ref q39, .int 0, .int 0, .int 0, .int 0, .long 0, .int 0, .int 0, .ref q46, .ref q53, .ref q62, .ref q70, .null, .null, .int 0])), (q7, .inl (c0, 39, .inl (fun _ => 0))), (q15, .inl (c0, 7, .inl (fun _ => 0))), (q23, .inl (c0, 39, .inl (fun _ => 0))), (q31, .inl (c0, 39, .inl (fun _ => 0))), (q39, .inl (c0, 120, .inl (fun _ => 0))), (q46, .inl (c0, 4, .inl (fun _ => 0))), (q53, .inl (c0, 4, .inl (fun _ => 0))), (q62, .inl (c1, 160, .inr (.inl (fun _ => 0)))), (q70, .inl (c1, 40, .inr (.inl (fun _ => 0))))] H := hP
  have hD : va_D A [(h0, .inr (4, [.ref q7, .ref q15, .int 0, .ref q23, .ref q31, .ref q39, .int 0, .int 0, .int 0, .int 0, .long 0, .int 0, .int 0, .ref q46, .ref q53, .ref q62, .ref q70, .null, .null, .int 0])), (q7, .inl (c0, 39, .inl (fun _ => 0))), (q15, .inl (c0, 7, .inl (fun _ => 0))), (q23, .inl (c0, 39, .inl (fun _ => 0))), (q31, .inl (c0, 39, .inl (fun _ => 0))), (q39, .inl (c0, 120, .inl (fun _ => 0))), (q46, .inl (c0, 4, .inl (fun _ => 0))), (q53, .inl (c0, 4, .inl (fun _ => 0))), (q62, .inl (c1, 160, .inr (.inl (fun _ => 0)))), (q70, .inl (c1, 40, .inr (.inl (fun _ => 0))))] := hD
  refine lv_aload_n hx hb kv_dM_75 rfl (lv_at hl 0 rfl) ?_
  refine lv_bipush (v := 39) hx hb kv_dM_76 (by decide) ?_
  refine kv_newa (atype := .int) (ty := .int) hx hb (hts _ kv_w133) rfl hK hP hD hS hA 0 rfl kv_raI (a0 := (39, .inl (fun _ => (0 : Int32)))) (fun _ => rfl) (by decide) (N' := 39) (by decide) (Nat.le_of_ble_eq_true rfl) (Nat.le_of_ble_eq_true rfl) (Nat.le_of_ble_eq_true rfl) kv_dM_78 (fun q78 H hP hD hS => ?_)
  have hP : va_P D kq_cls [(h0, .inr (4, [.ref q7, .ref q15, .int 0, .ref q23, .ref q31, .ref q39, .int 0, .int 0, .int 0, .int 0, .long 0, .int 0, .int 0, .ref q46, .ref q53, .ref q62, .ref q70, .null, .null, .int 0])), (q7, .inl (c0, 39, .inl (fun _ => 0))), (q15, .inl (c0, 7, .inl (fun _ => 0))), (q23, .inl (c0, 39, .inl (fun _ => 0))), (q31, .inl (c0, 39, .inl (fun _ => 0))), (q39, .inl (c0, 120, .inl (fun _ => 0))), (q46, .inl (c0, 4, .inl (fun _ => 0))), (q53, .inl (c0, 4, .inl (fun _ => 0))), (q62, .inl (c1, 160, .inr (.inl (fun _ => 0)))), (q70, .inl (c1, 40, .inr (.inl (fun _ => 0)))), (q78, .inl (c0, 39, .inl (fun _ => 0)))] H := hP
  have hD : va_D A [(h0, .inr (4, [.ref q7, .ref q15, .int 0, .ref q23, .ref q31, .ref q39, .int 0, .int 0, .int 0, .int 0, .long 0, .int 0, .int 0, .ref q46, .ref q53, .ref q62, .ref q70, .null, .null, .int 0])), (q7, .inl (c0, 39, .inl (fun _ => 0))), (q15, .inl (c0, 7, .inl (fun _ => 0))), (q23, .inl (c0, 39, .inl (fun _ => 0))), (q31, .inl (c0, 39, .inl (fun _ => 0))), (q39, .inl (c0, 120, .inl (fun _ => 0))), (q46, .inl (c0, 4, .inl (fun _ => 0))), (q53, .inl (c0, 4, .inl (fun _ => 0))), (q62, .inl (c1, 160, .inr (.inl (fun _ => 0)))), (q70, .inl (c1, 40, .inr (.inl (fun _ => 0)))), (q78, .inl (c0, 39, .inl (fun _ => 0)))] := hD
  refine W.widen (k := 10) (n := 491) (Nat.le_of_ble_eq_true rfl) (Nat.le_of_ble_eq_true rfl) ?_
  refine va_putF (D := D) (ci := 4) (v := .ref q78) (ty := (kq_t4 17)) (C := "KettleInquestModel") (T := kq_F4) (N := 20) hx hb hts kq_i4 kq_t4 kq_to4 kq_n4 hown hK hP hD hS 0 rfl rfl 17 (by decide) (hts _ kv_w661) (fun _ h9 => h9) rfl hin rfl (by decide +kernel) rfl rfl (Nat.le_of_ble_eq_true rfl) kv_dM_80 (fun H locs hP hD hS => ?_)
  have hP : va_P D kq_cls [(h0, .inr (4, [.ref q7, .ref q15, .int 0, .ref q23, .ref q31, .ref q39, .int 0, .int 0, .int 0, .int 0, .long 0, .int 0, .int 0, .ref q46, .ref q53, .ref q62, .ref q70, .ref q78, .null, .int 0])), (q7, .inl (c0, 39, .inl (fun _ => 0))), (q15, .inl (c0, 7, .inl (fun _ => 0))), (q23, .inl (c0, 39, .inl (fun _ => 0))), (q31, .inl (c0, 39, .inl (fun _ => 0))), (q39, .inl (c0, 120, .inl (fun _ => 0))), (q46, .inl (c0, 4, .inl (fun _ => 0))), (q53, .inl (c0, 4, .inl (fun _ => 0))), (q62, .inl (c1, 160, .inr (.inl (fun _ => 0)))), (q70, .inl (c1, 40, .inr (.inl (fun _ => 0)))), (q78, .inl (c0, 39, .inl (fun _ => 0)))] H := hP
  have hD : va_D A [(h0, .inr (4, [.ref q7, .ref q15, .int 0, .ref q23, .ref q31, .ref q39, .int 0, .int 0, .int 0, .int 0, .long 0, .int 0, .int 0, .ref q46, .ref q53, .ref q62, .ref q70, .ref q78, .null, .int 0])), (q7, .inl (c0, 39, .inl (fun _ => 0))), (q15, .inl (c0, 7, .inl (fun _ => 0))), (q23, .inl (c0, 39, .inl (fun _ => 0))), (q31, .inl (c0, 39, .inl (fun _ => 0))), (q39, .inl (c0, 120, .inl (fun _ => 0))), (q46, .inl (c0, 4, .inl (fun _ => 0))), (q53, .inl (c0, 4, .inl (fun _ => 0))), (q62, .inl (c1, 160, .inr (.inl (fun _ => 0)))), (q70, .inl (c1, 40, .inr (.inl (fun _ => 0)))), (q78, .inl (c0, 39, .inl (fun _ => 0)))] := hD
  refine lv_aload_n hx hb kv_dM_83 rfl (lv_at hl 0 rfl) ?_
  refine lv_bipush (v := 39) hx hb kv_dM_84 (by decide) ?_
  refine kv_newa (atype := .int) (ty := .int) hx hb (hts _ kv_w133) rfl hK hP hD hS hA 0 rfl kv_raI (a0 := (39, .inl (fun _ => (0 : Int32)))) (fun _ => rfl) (by decide) (N' := 39) (by decide) (Nat.le_of_ble_eq_true rfl) (Nat.le_of_ble_eq_true rfl) (Nat.le_of_ble_eq_true rfl) kv_dM_86 (fun q86 H hP hD hS => ?_)
  have hP : va_P D kq_cls [(h0, .inr (4, [.ref q7, .ref q15, .int 0, .ref q23, .ref q31, .ref q39, .int 0, .int 0, .int 0, .int 0, .long 0, .int 0, .int 0, .ref q46, .ref q53, .ref q62, .ref q70, .ref q78, .null, .int 0])), (q7, .inl (c0, 39, .inl (fun _ => 0))), (q15, .inl (c0, 7, .inl (fun _ => 0))), (q23, .inl (c0, 39, .inl (fun _ => 0))), (q31, .inl (c0, 39, .inl (fun _ => 0))), (q39, .inl (c0, 120, .inl (fun _ => 0))), (q46, .inl (c0, 4, .inl (fun _ => 0))), (q53, .inl (c0, 4, .inl (fun _ => 0))), (q62, .inl (c1, 160, .inr (.inl (fun _ => 0)))), (q70, .inl (c1, 40, .inr (.inl (fun _ => 0)))), (q78, .inl (c0, 39, .inl (fun _ => 0))), (q86, .inl (c0, 39, .inl (fun _ => 0)))] H := hP
  have hD : va_D A [(h0, .inr (4, [.ref q7, .ref q15, .int 0, .ref q23, .ref q31, .ref q39, .int 0, .int 0, .int 0, .int 0, .long 0, .int 0, .int 0, .ref q46, .ref q53, .ref q62, .ref q70, .ref q78, .null, .int 0])), (q7, .inl (c0, 39, .inl (fun _ => 0))), (q15, .inl (c0, 7, .inl (fun _ => 0))), (q23, .inl (c0, 39, .inl (fun _ => 0))), (q31, .inl (c0, 39, .inl (fun _ => 0))), (q39, .inl (c0, 120, .inl (fun _ => 0))), (q46, .inl (c0, 4, .inl (fun _ => 0))), (q53, .inl (c0, 4, .inl (fun _ => 0))), (q62, .inl (c1, 160, .inr (.inl (fun _ => 0)))), (q70, .inl (c1, 40, .inr (.inl (fun _ => 0)))), (q78, .inl (c0, 39, .inl (fun _ => 0))), (q86, .inl (c0, 39, .inl (fun _ => 0)))] := hD
  refine W.widen (k := 11) (n := 530) (Nat.le_of_ble_eq_true rfl) (Nat.le_of_ble_eq_true rfl) ?_
  refine va_putF (D := D) (ci := 4) (v := .ref q86) (ty := (kq_t4 18)) (C := "KettleInquestModel") (T := kq_F4) (N := 20) hx hb hts kq_i4 kq_t4 kq_to4 kq_n4 hown hK hP hD hS 0 rfl rfl 18 (by decide) (hts _ kv_w662) (fun _ h9 => h9) rfl hin rfl (by decide +kernel) rfl rfl (Nat.le_of_ble_eq_true rfl) kv_dM_88 (fun H locs hP hD hS => ?_)
  have hP : va_P D kq_cls [(h0, .inr (4, [.ref q7, .ref q15, .int 0, .ref q23, .ref q31, .ref q39, .int 0, .int 0, .int 0, .int 0, .long 0, .int 0, .int 0, .ref q46, .ref q53, .ref q62, .ref q70, .ref q78, .ref q86, .int 0])), (q7, .inl (c0, 39, .inl (fun _ => 0))), (q15, .inl (c0, 7, .inl (fun _ => 0))), (q23, .inl (c0, 39, .inl (fun _ => 0))), (q31, .inl (c0, 39, .inl (fun _ => 0))), (q39, .inl (c0, 120, .inl (fun _ => 0))), (q46, .inl (c0, 4, .inl (fun _ => 0))), (q53, .inl (c0, 4, .inl (fun _ => 0))), (q62, .inl (c1, 160, .inr (.inl (fun _ => 0)))), (q70, .inl (c1, 40, .inr (.inl (fun _ => 0)))), (q78, .inl (c0, 39, .inl (fun _ => 0))), (q86, .inl (c0, 39, .inl (fun _ => 0)))] H := hP
  have hD : va_D A [(h0, .inr (4, [.ref q7, .ref q15, .int 0, .ref q23, .ref q31, .ref q39, .int 0, .int 0, .int 0, .int 0, .long 0, .int 0, .int 0, .ref q46, .ref q53, .ref q62, .ref q70, .ref q78, .ref q86, .int 0])), (q7, .inl (c0, 39, .inl (fun _ => 0))), (q15, .inl (c0, 7, .inl (fun _ => 0))), (q23, .inl (c0, 39, .inl (fun _ => 0))), (q31, .inl (c0, 39, .inl (fun _ => 0))), (q39, .inl (c0, 120, .inl (fun _ => 0))), (q46, .inl (c0, 4, .inl (fun _ => 0))), (q53, .inl (c0, 4, .inl (fun _ => 0))), (q62, .inl (c1, 160, .inr (.inl (fun _ => 0)))), (q70, .inl (c1, 40, .inr (.inl (fun _ => 0)))), (q78, .inl (c0, 39, .inl (fun _ => 0))), (q86, .inl (c0, 39, .inl (fun _ => 0)))] := hD
  refine lv_aload_n hx hb kv_dM_91 rfl (lv_at hl 0 rfl) ?_
  refine va_get (D := D) (ci := 4) (v := .ref q7) (C := "KettleInquestModel") (T := kq_F4) (N := 20) hx hb hts kq_i4 hown hK hP 0 rfl rfl 0 (by decide) (hts _ kv_w644) (fun _ h9 => h9) rfl kv_dM_92 ?_
  refine lv_iconst (v := 2) hx hb kv_dM_95 (by decide) ?_
  refine lv_bipush (v := 40) hx hb kv_dM_96 (by decide) ?_
  refine va_iast hx hb hK hP hD hS 1 0 rfl rfl (by unfold vp_in; decide) kv_dM_98 (fun H locs hP hD hS => ?_)
  have hP : va_P D kq_cls [(h0, .inr (4, [.ref q7, .ref q15, .int 0, .ref q23, .ref q31, .ref q39, .int 0, .int 0, .int 0, .int 0, .long 0, .int 0, .int 0, .ref q46, .ref q53, .ref q62, .ref q70, .ref q78, .ref q86, .int 0])), (q7, .inl (c0, 39, .inl (upd (fun _ => 0) (2 : Int32).toNatClampNeg 40))), (q15, .inl (c0, 7, .inl (fun _ => 0))), (q23, .inl (c0, 39, .inl (fun _ => 0))), (q31, .inl (c0, 39, .inl (fun _ => 0))), (q39, .inl (c0, 120, .inl (fun _ => 0))), (q46, .inl (c0, 4, .inl (fun _ => 0))), (q53, .inl (c0, 4, .inl (fun _ => 0))), (q62, .inl (c1, 160, .inr (.inl (fun _ => 0)))), (q70, .inl (c1, 40, .inr (.inl (fun _ => 0)))), (q78, .inl (c0, 39, .inl (fun _ => 0))), (q86, .inl (c0, 39, .inl (fun _ => 0)))] H := hP
  have hD : va_D A [(h0, .inr (4, [.ref q7, .ref q15, .int 0, .ref q23, .ref q31, .ref q39, .int 0, .int 0, .int 0, .int 0, .long 0, .int 0, .int 0, .ref q46, .ref q53, .ref q62, .ref q70, .ref q78, .ref q86, .int 0])), (q7, .inl (c0, 39, .inl (upd (fun _ => 0) (2 : Int32).toNatClampNeg 40))), (q15, .inl (c0, 7, .inl (fun _ => 0))), (q23, .inl (c0, 39, .inl (fun _ => 0))), (q31, .inl (c0, 39, .inl (fun _ => 0))), (q39, .inl (c0, 120, .inl (fun _ => 0))), (q46, .inl (c0, 4, .inl (fun _ => 0))), (q53, .inl (c0, 4, .inl (fun _ => 0))), (q62, .inl (c1, 160, .inr (.inl (fun _ => 0)))), (q70, .inl (c1, 40, .inr (.inl (fun _ => 0)))), (q78, .inl (c0, 39, .inl (fun _ => 0))), (q86, .inl (c0, 39, .inl (fun _ => 0)))] := hD
  refine lv_aload_n hx hb kv_dM_99 rfl (lv_at hl 0 rfl) ?_
  refine va_get (D := D) (ci := 4) (v := .ref q7) (C := "KettleInquestModel") (T := kq_F4) (N := 20) hx hb hts kq_i4 hown hK hP 0 rfl rfl 0 (by decide) (hts _ kv_w644) (fun _ h9 => h9) rfl kv_dM_100 ?_
  refine lv_iconst (v := 4) hx hb kv_dM_103 (by decide) ?_
  refine lv_bipush (v := 20) hx hb kv_dM_104 (by decide) ?_
  refine va_iast hx hb hK hP hD hS 1 0 rfl rfl (by unfold vp_in; decide) kv_dM_106 (fun H locs hP hD hS => ?_)
  have hP : va_P D kq_cls [(h0, .inr (4, [.ref q7, .ref q15, .int 0, .ref q23, .ref q31, .ref q39, .int 0, .int 0, .int 0, .int 0, .long 0, .int 0, .int 0, .ref q46, .ref q53, .ref q62, .ref q70, .ref q78, .ref q86, .int 0])), (q7, .inl (c0, 39, .inl (upd (upd (fun _ => 0) (2 : Int32).toNatClampNeg 40) (4 : Int32).toNatClampNeg 20))), (q15, .inl (c0, 7, .inl (fun _ => 0))), (q23, .inl (c0, 39, .inl (fun _ => 0))), (q31, .inl (c0, 39, .inl (fun _ => 0))), (q39, .inl (c0, 120, .inl (fun _ => 0))), (q46, .inl (c0, 4, .inl (fun _ => 0))), (q53, .inl (c0, 4, .inl (fun _ => 0))), (q62, .inl (c1, 160, .inr (.inl (fun _ => 0)))), (q70, .inl (c1, 40, .inr (.inl (fun _ => 0)))), (q78, .inl (c0, 39, .inl (fun _ => 0))), (q86, .inl (c0, 39, .inl (fun _ => 0)))] H := hP
  have hD : va_D A [(h0, .inr (4, [.ref q7, .ref q15, .int 0, .ref q23, .ref q31, .ref q39, .int 0, .int 0, .int 0, .int 0, .long 0, .int 0, .int 0, .ref q46, .ref q53, .ref q62, .ref q70, .ref q78, .ref q86, .int 0])), (q7, .inl (c0, 39, .inl (upd (upd (fun _ => 0) (2 : Int32).toNatClampNeg 40) (4 : Int32).toNatClampNeg 20))), (q15, .inl (c0, 7, .inl (fun _ => 0))), (q23, .inl (c0, 39, .inl (fun _ => 0))), (q31, .inl (c0, 39, .inl (fun _ => 0))), (q39, .inl (c0, 120, .inl (fun _ => 0))), (q46, .inl (c0, 4, .inl (fun _ => 0))), (q53, .inl (c0, 4, .inl (fun _ => 0))), (q62, .inl (c1, 160, .inr (.inl (fun _ => 0)))), (q70, .inl (c1, 40, .inr (.inl (fun _ => 0)))), (q78, .inl (c0, 39, .inl (fun _ => 0))), (q86, .inl (c0, 39, .inl (fun _ => 0)))] := hD
  exact W.vret hx hb hr (fun t ht hW => ⟨⟨(), rfl, trivial, q7, q15, q23, q31, q39, q46, q53, q62, q70, q78, q86, by rw [ht]; exact hP, va_K.moved hW.alike hK, hD⟩, hS.F ht⟩) hS.2.2 kv_dM_107

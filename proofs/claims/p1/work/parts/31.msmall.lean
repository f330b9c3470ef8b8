theorem wd_1253 : (Jvm.Cond.fieldLink "SilentSaleModel" (77 : Nat) "SilentSaleModel" "taped" "I") ∈ tb_L := tb_in (i := 1253) (by decide +kernel) (by decide +kernel)
theorem wd_1372 : (Jvm.Cond.code ({ cls := "SilentSaleModel", name := "four", desc := "(I)V" } : Jvm.MethodName) prog_14_method_5_code (3 : Nat) (Option.none : Option Jvm.ClassFile.FieldType)) ∈ tb_L := tb_in (i := 1372) (by decide +kernel) (by decide +kernel)
theorem dX12_four_0 : decode cX12_four 0 = .ok (.bipush 24, 2) := by decide +kernel
theorem dX12_four_2 : decode cX12_four 2 = .ok (.istore_n 2, 1) := by decide +kernel
theorem dX12_four_3 : decode cX12_four 3 = .ok (.iload_n 2, 1) := by decide +kernel
theorem dX12_four_4 : decode cX12_four 4 = .ok (.ifCond .lt 32, 3) := by decide +kernel
theorem dX12_four_7 : decode cX12_four 7 = .ok (.aload_n 0, 1) := by decide +kernel
theorem dX12_four_8 : decode cX12_four 8 = .ok (.getfield 7, 3) := by decide +kernel
theorem dX12_four_11 : decode cX12_four 11 = .ok (.aload_n 0, 1) := by decide +kernel
theorem dX12_four_12 : decode cX12_four 12 = .ok (.getfield 77, 3) := by decide +kernel
theorem dX12_four_15 : decode cX12_four 15 = .ok (.iload_n 1, 1) := by decide +kernel
theorem dX12_four_16 : decode cX12_four 16 = .ok (.iload_n 2, 1) := by decide +kernel
theorem dX12_four_17 : decode cX12_four 17 = .ok (.ishr, 1) := by decide +kernel
theorem dX12_four_18 : decode cX12_four 18 = .ok (.i2b, 1) := by decide +kernel
theorem dX12_four_19 : decode cX12_four 19 = .ok (.bastore, 1) := by decide +kernel
theorem dX12_four_20 : decode cX12_four 20 = .ok (.aload_n 0, 1) := by decide +kernel
theorem dX12_four_21 : decode cX12_four 21 = .ok (.dup, 1) := by decide +kernel
theorem dX12_four_22 : decode cX12_four 22 = .ok (.getfield 77, 3) := by decide +kernel
theorem dX12_four_25 : decode cX12_four 25 = .ok (.iconst 1, 1) := by decide +kernel
theorem dX12_four_26 : decode cX12_four 26 = .ok (.iadd, 1) := by decide +kernel
theorem dX12_four_27 : decode cX12_four 27 = .ok (.putfield 77, 3) := by decide +kernel
theorem dX12_four_30 : decode cX12_four 30 = .ok (.iinc 2 (-8), 3) := by decide +kernel
theorem dX12_four_33 : decode cX12_four 33 = .ok (.goto (-30), 3) := by decide +kernel
theorem dX12_four_36 : decode cX12_four 36 = .ok (.return_, 1) := by decide +kernel
theorem wd_1441 : (Jvm.Cond.code ({ cls := "SilentSaleModel", name := "in", desc := "(JJJ)Z" } : Jvm.MethodName) prog_14_method_2_code (6 : Nat) (Option.some Jvm.ClassFile.FieldType.boolean)) ∈ tb_L := tb_in (i := 1441) (by decide +kernel) (by decide +kernel)
theorem dX12_in_0 : decode cX12_in 0 = .ok (.lload_n 0, 1) := by decide +kernel
theorem dX12_in_1 : decode cX12_in 1 = .ok (.lload_n 2, 1) := by decide +kernel
theorem dX12_in_2 : decode cX12_in 2 = .ok (.lcmp, 1) := by decide +kernel
theorem dX12_in_3 : decode cX12_in 3 = .ok (.ifCond .lt 14, 3) := by decide +kernel
theorem dX12_in_6 : decode cX12_in 6 = .ok (.lload_n 0, 1) := by decide +kernel
theorem dX12_in_7 : decode cX12_in 7 = .ok (.lload 4, 2) := by decide +kernel
theorem dX12_in_9 : decode cX12_in 9 = .ok (.lcmp, 1) := by decide +kernel
theorem dX12_in_10 : decode cX12_in 10 = .ok (.ifCond .gt 7, 3) := by decide +kernel
theorem dX12_in_13 : decode cX12_in 13 = .ok (.iconst 1, 1) := by decide +kernel
theorem dX12_in_14 : decode cX12_in 14 = .ok (.goto 4, 3) := by decide +kernel
theorem dX12_in_17 : decode cX12_in 17 = .ok (.iconst 0, 1) := by decide +kernel
theorem dX12_in_18 : decode cX12_in 18 = .ok (.ireturn, 1) := by decide +kernel
theorem wd_1254 : (Jvm.Cond.fieldLink "SilentSaleModel" (251 : Nat) "SilentSaleModel" "rules" "I") ∈ tb_L := tb_in (i := 1254) (by decide +kernel) (by decide +kernel)
theorem wd_1548 : (Jvm.Cond.code ({ cls := "SilentSaleModel", name := "isRule", desc := "(I)Z" } : Jvm.MethodName) prog_14_method_43_code (2 : Nat) (Option.some Jvm.ClassFile.FieldType.boolean)) ∈ tb_L := tb_in (i := 1548) (by decide +kernel) (by decide +kernel)
theorem dX12_isRule_0 : decode cX12_isRule 0 = .ok (.iload_n 1, 1) := by decide +kernel
theorem dX12_isRule_1 : decode cX12_isRule 1 = .ok (.ifCond .lt 15, 3) := by decide +kernel
theorem dX12_isRule_4 : decode cX12_isRule 4 = .ok (.iload_n 1, 1) := by decide +kernel
theorem dX12_isRule_5 : decode cX12_isRule 5 = .ok (.aload_n 0, 1) := by decide +kernel
theorem dX12_isRule_6 : decode cX12_isRule 6 = .ok (.getfield 251, 3) := by decide +kernel
theorem dX12_isRule_9 : decode cX12_isRule 9 = .ok (.if_icmp .ge 7, 3) := by decide +kernel
theorem dX12_isRule_16 : decode cX12_isRule 16 = .ok (.iconst 0, 1) := by decide +kernel
theorem dX12_isRule_17 : decode cX12_isRule 17 = .ok (.ireturn, 1) := by decide +kernel
theorem wd_1723 : (Jvm.Cond.code ({ cls := "SilentSaleModel", name := "isSale", desc := "()Z" } : Jvm.MethodName) prog_14_method_48_code (1 : Nat) (Option.some Jvm.ClassFile.FieldType.boolean)) ∈ tb_L := tb_in (i := 1723) (by decide +kernel) (by decide +kernel)
theorem dX12_isSale_0 : decode cX12_isSale 0 = .ok (.aload_n 0, 1) := by decide +kernel
theorem dX12_isSale_1 : decode cX12_isSale 1 = .ok (.getfield 39, 3) := by decide +kernel
theorem dX12_isSale_4 : decode cX12_isSale 4 = .ok (.iconst 0, 1) := by decide +kernel
theorem dX12_isSale_5 : decode cX12_isSale 5 = .ok (.iaload, 1) := by decide +kernel
theorem dX12_isSale_6 : decode cX12_isSale 6 = .ok (.ifCond .le 7, 3) := by decide +kernel
theorem dX12_isSale_13 : decode cX12_isSale 13 = .ok (.iconst 0, 1) := by decide +kernel
theorem dX12_isSale_14 : decode cX12_isSale 14 = .ok (.ireturn, 1) := by decide +kernel
theorem wd_1556 : (Jvm.Cond.code ({ cls := "SilentSaleModel", name := "isBidder", desc := "(I)Z" } : Jvm.MethodName) prog_14_method_49_code (2 : Nat) (Option.some Jvm.ClassFile.FieldType.boolean)) ∈ tb_L := tb_in (i := 1556) (by decide +kernel) (by decide +kernel)
theorem dX12_isBidder_0 : decode cX12_isBidder 0 = .ok (.iload_n 1, 1) := by decide +kernel
theorem dX12_isBidder_1 : decode cX12_isBidder 1 = .ok (.ifCond .lt 17, 3) := by decide +kernel
theorem dX12_isBidder_4 : decode cX12_isBidder 4 = .ok (.iload_n 1, 1) := by decide +kernel
theorem dX12_isBidder_5 : decode cX12_isBidder 5 = .ok (.aload_n 0, 1) := by decide +kernel
theorem dX12_isBidder_6 : decode cX12_isBidder 6 = .ok (.getfield 39, 3) := by decide +kernel
theorem dX12_isBidder_9 : decode cX12_isBidder 9 = .ok (.iconst 1, 1) := by decide +kernel
theorem dX12_isBidder_10 : decode cX12_isBidder 10 = .ok (.iaload, 1) := by decide +kernel
theorem dX12_isBidder_11 : decode cX12_isBidder 11 = .ok (.if_icmp .ge 7, 3) := by decide +kernel
theorem dX12_isBidder_18 : decode cX12_isBidder 18 = .ok (.iconst 0, 1) := by decide +kernel
theorem dX12_isBidder_19 : decode cX12_isBidder 19 = .ok (.ireturn, 1) := by decide +kernel
theorem wd_1585 : (Jvm.Cond.code ({ cls := "SilentSaleModel", name := "isLot", desc := "(I)Z" } : Jvm.MethodName) prog_14_method_50_code (2 : Nat) (Option.some Jvm.ClassFile.FieldType.boolean)) ∈ tb_L := tb_in (i := 1585) (by decide +kernel) (by decide +kernel)
theorem dX12_isLot_0 : decode cX12_isLot 0 = .ok (.iload_n 1, 1) := by decide +kernel
theorem dX12_isLot_1 : decode cX12_isLot 1 = .ok (.ifCond .lt 17, 3) := by decide +kernel
theorem dX12_isLot_4 : decode cX12_isLot 4 = .ok (.iload_n 1, 1) := by decide +kernel
theorem dX12_isLot_5 : decode cX12_isLot 5 = .ok (.aload_n 0, 1) := by decide +kernel
theorem dX12_isLot_6 : decode cX12_isLot 6 = .ok (.getfield 39, 3) := by decide +kernel
theorem dX12_isLot_9 : decode cX12_isLot 9 = .ok (.iconst 2, 1) := by decide +kernel
theorem dX12_isLot_10 : decode cX12_isLot 10 = .ok (.iaload, 1) := by decide +kernel
theorem dX12_isLot_11 : decode cX12_isLot 11 = .ok (.if_icmp .ge 7, 3) := by decide +kernel
theorem dX12_isLot_18 : decode cX12_isLot 18 = .ok (.iconst 0, 1) := by decide +kernel
theorem dX12_isLot_19 : decode cX12_isLot 19 = .ok (.ireturn, 1) := by decide +kernel
theorem wd_1610 : (Jvm.Cond.code ({ cls := "SilentSaleModel", name := "isTrick", desc := "(I)Z" } : Jvm.MethodName) prog_14_method_51_code (2 : Nat) (Option.some Jvm.ClassFile.FieldType.boolean)) ∈ tb_L := tb_in (i := 1610) (by decide +kernel) (by decide +kernel)
theorem dX12_isTrick_0 : decode cX12_isTrick 0 = .ok (.iload_n 1, 1) := by decide +kernel
theorem dX12_isTrick_1 : decode cX12_isTrick 1 = .ok (.ifCond .lt 17, 3) := by decide +kernel
theorem dX12_isTrick_4 : decode cX12_isTrick 4 = .ok (.iload_n 1, 1) := by decide +kernel
theorem dX12_isTrick_5 : decode cX12_isTrick 5 = .ok (.aload_n 0, 1) := by decide +kernel
theorem dX12_isTrick_6 : decode cX12_isTrick 6 = .ok (.getfield 39, 3) := by decide +kernel
theorem dX12_isTrick_9 : decode cX12_isTrick 9 = .ok (.iconst 3, 1) := by decide +kernel
theorem dX12_isTrick_10 : decode cX12_isTrick 10 = .ok (.iaload, 1) := by decide +kernel
theorem dX12_isTrick_11 : decode cX12_isTrick 11 = .ok (.if_icmp .ge 7, 3) := by decide +kernel
theorem dX12_isTrick_18 : decode cX12_isTrick 18 = .ok (.iconst 0, 1) := by decide +kernel
theorem dX12_isTrick_19 : decode cX12_isTrick 19 = .ok (.ireturn, 1) := by decide +kernel
theorem wd_1622 : (Jvm.Cond.code ({ cls := "SilentSaleModel", name := "lotsIn", desc := "(I)I" } : Jvm.MethodName) prog_14_method_61_code (4 : Nat) (Option.some Jvm.ClassFile.FieldType.int)) ∈ tb_L := tb_in (i := 1622) (by decide +kernel) (by decide +kernel)
theorem dX12_lotsIn_0 : decode cX12_lotsIn 0 = .ok (.iconst 0, 1) := by decide +kernel
theorem dX12_lotsIn_1 : decode cX12_lotsIn 1 = .ok (.istore_n 2, 1) := by decide +kernel
theorem dX12_lotsIn_2 : decode cX12_lotsIn 2 = .ok (.iconst 0, 1) := by decide +kernel
theorem dX12_lotsIn_3 : decode cX12_lotsIn 3 = .ok (.istore_n 3, 1) := by decide +kernel
theorem dX12_lotsIn_4 : decode cX12_lotsIn 4 = .ok (.iload_n 3, 1) := by decide +kernel
theorem dX12_lotsIn_5 : decode cX12_lotsIn 5 = .ok (.aload_n 0, 1) := by decide +kernel
theorem dX12_lotsIn_6 : decode cX12_lotsIn 6 = .ok (.getfield 39, 3) := by decide +kernel
theorem dX12_lotsIn_9 : decode cX12_lotsIn 9 = .ok (.iconst 2, 1) := by decide +kernel
theorem dX12_lotsIn_10 : decode cX12_lotsIn 10 = .ok (.iaload, 1) := by decide +kernel
theorem dX12_lotsIn_11 : decode cX12_lotsIn 11 = .ok (.if_icmp .ge 29, 3) := by decide +kernel
theorem dX12_lotsIn_40 : decode cX12_lotsIn 40 = .ok (.iload_n 2, 1) := by decide +kernel
theorem dX12_lotsIn_41 : decode cX12_lotsIn 41 = .ok (.ireturn, 1) := by decide +kernel
theorem wd_1851 : (Jvm.Cond.code ({ cls := "SilentSaleModel", name := "coinsPaid", desc := "()I" } : Jvm.MethodName) prog_14_method_118_code (3 : Nat) (Option.some Jvm.ClassFile.FieldType.int)) ∈ tb_L := tb_in (i := 1851) (by decide +kernel) (by decide +kernel)
theorem dX12_coinsPaid_0 : decode cX12_coinsPaid 0 = .ok (.iconst 0, 1) := by decide +kernel
theorem dX12_coinsPaid_1 : decode cX12_coinsPaid 1 = .ok (.istore_n 1, 1) := by decide +kernel
theorem dX12_coinsPaid_2 : decode cX12_coinsPaid 2 = .ok (.iconst 0, 1) := by decide +kernel
theorem dX12_coinsPaid_3 : decode cX12_coinsPaid 3 = .ok (.istore_n 2, 1) := by decide +kernel
theorem dX12_coinsPaid_4 : decode cX12_coinsPaid 4 = .ok (.iload_n 2, 1) := by decide +kernel
theorem dX12_coinsPaid_5 : decode cX12_coinsPaid 5 = .ok (.aload_n 0, 1) := by decide +kernel
theorem dX12_coinsPaid_6 : decode cX12_coinsPaid 6 = .ok (.getfield 39, 3) := by decide +kernel
theorem dX12_coinsPaid_9 : decode cX12_coinsPaid 9 = .ok (.iconst 2, 1) := by decide +kernel
theorem dX12_coinsPaid_10 : decode cX12_coinsPaid 10 = .ok (.iaload, 1) := by decide +kernel
theorem dX12_coinsPaid_11 : decode cX12_coinsPaid 11 = .ok (.if_icmp .ge 18, 3) := by decide +kernel
theorem dX12_coinsPaid_29 : decode cX12_coinsPaid 29 = .ok (.iload_n 1, 1) := by decide +kernel
theorem dX12_coinsPaid_30 : decode cX12_coinsPaid 30 = .ok (.ireturn, 1) := by decide +kernel
theorem wd_1260 : (Jvm.Cond.fieldLink "SilentSaleModel" (87 : Nat) "SilentSaleModel" "next" "I") ∈ tb_L := tb_in (i := 1260) (by decide +kernel) (by decide +kernel)
theorem wd_1392 : (Jvm.Cond.code ({ cls := "SilentSaleModel", name := "see", desc := "()I" } : Jvm.MethodName) prog_14_method_9_code (1 : Nat) (Option.some Jvm.ClassFile.FieldType.int)) ∈ tb_L := tb_in (i := 1392) (by decide +kernel) (by decide +kernel)
theorem dX12_see_0 : decode cX12_see 0 = .ok (.aload_n 0, 1) := by decide +kernel
theorem dX12_see_1 : decode cX12_see 1 = .ok (.getfield 87, 3) := by decide +kernel
theorem dX12_see_4 : decode cX12_see 4 = .ok (.aload_n 0, 1) := by decide +kernel
theorem dX12_see_5 : decode cX12_see 5 = .ok (.getfield 77, 3) := by decide +kernel
theorem dX12_see_8 : decode cX12_see 8 = .ok (.if_icmp .ge 30, 3) := by decide +kernel
theorem dX12_see_38 : decode cX12_see 38 = .ok (.aload_n 0, 1) := by decide +kernel
theorem dX12_see_39 : decode cX12_see 39 = .ok (.getfield 87, 3) := by decide +kernel
theorem dX12_see_42 : decode cX12_see 42 = .ok (.aload_n 0, 1) := by decide +kernel
theorem dX12_see_43 : decode cX12_see 43 = .ok (.getfield 77, 3) := by decide +kernel
theorem dX12_see_46 : decode cX12_see 46 = .ok (.if_icmp .ge 19, 3) := by decide +kernel
theorem dX12_see_65 : decode cX12_see 65 = .ok (.iconst (-1), 1) := by decide +kernel
theorem dX12_see_66 : decode cX12_see 66 = .ok (.ireturn, 1) := by decide +kernel
theorem wd_1405 : (Jvm.Cond.code ({ cls := "SilentSaleModel", name := "isLetter", desc := "(I)Z" } : Jvm.MethodName) prog_14_method_11_code (2 : Nat) (Option.some Jvm.ClassFile.FieldType.boolean)) ∈ tb_L := tb_in (i := 1405) (by decide +kernel) (by decide +kernel)
theorem dX12_isLetter_0 : decode cX12_isLetter 0 = .ok (.iload_n 1, 1) := by decide +kernel
theorem dX12_isLetter_1 : decode cX12_isLetter 1 = .ok (.aload_n 0, 1) := by decide +kernel
theorem dX12_isLetter_2 : decode cX12_isLetter 2 = .ok (.getfield 77, 3) := by decide +kernel
theorem dX12_isLetter_5 : decode cX12_isLetter 5 = .ok (.if_icmp .ge 29, 3) := by decide +kernel
theorem dX12_isLetter_34 : decode cX12_isLetter 34 = .ok (.iconst 0, 1) := by decide +kernel
theorem dX12_isLetter_35 : decode cX12_isLetter 35 = .ok (.ireturn, 1) := by decide +kernel
theorem wd_41 : (Jvm.Cond.selects "SilentSaleModel" ({ cls := "SilentSaleModel", name := "see", desc := "()I" } : Jvm.MethodName) ({ cls := "SilentSaleModel", name := "see", desc := "()I" } : Jvm.MethodName)) ∈ tb_L := tb_in (i := 41) (by decide +kernel) (by decide +kernel)
theorem wd_44 : (Jvm.Cond.selects "SilentSaleModel" ({ cls := "SilentSaleModel", name := "isLetter", desc := "(I)Z" } : Jvm.MethodName) ({ cls := "SilentSaleModel", name := "isLetter", desc := "(I)Z" } : Jvm.MethodName)) ∈ tb_L := tb_in (i := 44) (by decide +kernel) (by decide +kernel)
theorem wd_134 : (Jvm.Cond.initialized "SilentSaleModel") ∈ tb_L := tb_in (i := 134) (by decide +kernel) (by decide +kernel)
theorem wd_1389 : (Jvm.Cond.methodLink "SilentSaleModel" (90 : Nat) ({ cls := "SilentSaleModel", name := "see", desc := "()I" } : Jvm.MethodName)) ∈ tb_L := tb_in (i := 1389) (by decide +kernel) (by decide +kernel)
theorem wd_1391 : (Jvm.Cond.instanceMethod ({ cls := "SilentSaleModel", name := "see", desc := "()I" } : Jvm.MethodName)) ∈ tb_L := tb_in (i := 1391) (by decide +kernel) (by decide +kernel)
theorem wd_1401 : (Jvm.Cond.code ({ cls := "SilentSaleModel", name := "isWord", desc := "(J)Z" } : Jvm.MethodName) prog_14_method_12_code (6 : Nat) (Option.some Jvm.ClassFile.FieldType.boolean)) ∈ tb_L := tb_in (i := 1401) (by decide +kernel) (by decide +kernel)
theorem wd_1402 : (Jvm.Cond.methodLink "SilentSaleModel" (94 : Nat) ({ cls := "SilentSaleModel", name := "isLetter", desc := "(I)Z" } : Jvm.MethodName)) ∈ tb_L := tb_in (i := 1402) (by decide +kernel) (by decide +kernel)
theorem wd_1404 : (Jvm.Cond.instanceMethod ({ cls := "SilentSaleModel", name := "isLetter", desc := "(I)Z" } : Jvm.MethodName)) ∈ tb_L := tb_in (i := 1404) (by decide +kernel) (by decide +kernel)
theorem dX12_isWord_0 : decode cX12_isWord 0 = .ok (.aload_n 0, 1) := by decide +kernel
theorem dX12_isWord_1 : decode cX12_isWord 1 = .ok (.invokevirtual 90, 3) := by decide +kernel
theorem dX12_isWord_4 : decode cX12_isWord 4 = .ok (.pop, 1) := by decide +kernel
theorem dX12_isWord_5 : decode cX12_isWord 5 = .ok (.lconst 0, 1) := by decide +kernel
theorem dX12_isWord_6 : decode cX12_isWord 6 = .ok (.lstore_n 3, 1) := by decide +kernel
theorem dX12_isWord_7 : decode cX12_isWord 7 = .ok (.iconst 0, 1) := by decide +kernel
theorem dX12_isWord_8 : decode cX12_isWord 8 = .ok (.istore 5, 2) := by decide +kernel
theorem dX12_isWord_10 : decode cX12_isWord 10 = .ok (.aload_n 0, 1) := by decide +kernel
theorem dX12_isWord_11 : decode cX12_isWord 11 = .ok (.aload_n 0, 1) := by decide +kernel
theorem dX12_isWord_12 : decode cX12_isWord 12 = .ok (.getfield 87, 3) := by decide +kernel
theorem dX12_isWord_15 : decode cX12_isWord 15 = .ok (.iload 5, 2) := by decide +kernel
theorem dX12_isWord_17 : decode cX12_isWord 17 = .ok (.iadd, 1) := by decide +kernel
theorem dX12_isWord_18 : decode cX12_isWord 18 = .ok (.invokevirtual 94, 3) := by decide +kernel
theorem dX12_isWord_21 : decode cX12_isWord 21 = .ok (.ifCond .eq 35, 3) := by decide +kernel
theorem dX12_isWord_56 : decode cX12_isWord 56 = .ok (.iload 5, 2) := by decide +kernel
theorem dX12_isWord_58 : decode cX12_isWord 58 = .ok (.ifCond .le 20, 3) := by decide +kernel
theorem dX12_isWord_78 : decode cX12_isWord 78 = .ok (.iconst 0, 1) := by decide +kernel
theorem dX12_isWord_79 : decode cX12_isWord 79 = .ok (.ireturn, 1) := by decide +kernel
theorem wd_1261 : (Jvm.Cond.fieldLink "SilentSaleModel" (84 : Nat) "SilentSaleModel" "wrong" "I") ∈ tb_L := tb_in (i := 1261) (by decide +kernel) (by decide +kernel)
theorem wd_1414 : (Jvm.Cond.code ({ cls := "SilentSaleModel", name := "fails", desc := "(II)Z" } : Jvm.MethodName) prog_14_method_8_code (3 : Nat) (Option.some Jvm.ClassFile.FieldType.boolean)) ∈ tb_L := tb_in (i := 1414) (by decide +kernel) (by decide +kernel)
theorem dX12_fails_0 : decode cX12_fails 0 = .ok (.aload_n 0, 1) := by decide +kernel
theorem dX12_fails_1 : decode cX12_fails 1 = .ok (.getfield 84, 3) := by decide +kernel
theorem dX12_fails_4 : decode cX12_fails 4 = .ok (.ifCond .ne 15, 3) := by decide +kernel
theorem dX12_fails_7 : decode cX12_fails 7 = .ok (.aload_n 0, 1) := by decide +kernel
theorem dX12_fails_8 : decode cX12_fails 8 = .ok (.iconst 1, 1) := by decide +kernel
theorem dX12_fails_9 : decode cX12_fails 9 = .ok (.bipush 8, 2) := by decide +kernel
theorem dX12_fails_11 : decode cX12_fails 11 = .ok (.iload_n 2, 1) := by decide +kernel
theorem dX12_fails_12 : decode cX12_fails 12 = .ok (.imul, 1) := by decide +kernel
theorem dX12_fails_13 : decode cX12_fails 13 = .ok (.iadd, 1) := by decide +kernel
theorem dX12_fails_14 : decode cX12_fails 14 = .ok (.iload_n 1, 1) := by decide +kernel
theorem dX12_fails_15 : decode cX12_fails 15 = .ok (.iadd, 1) := by decide +kernel
theorem dX12_fails_16 : decode cX12_fails 16 = .ok (.putfield 84, 3) := by decide +kernel
theorem dX12_fails_19 : decode cX12_fails 19 = .ok (.iconst 0, 1) := by decide +kernel
theorem dX12_fails_20 : decode cX12_fails 20 = .ok (.ireturn, 1) := by decide +kernel
theorem wd_43 : (Jvm.Cond.selects "SilentSaleModel" ({ cls := "SilentSaleModel", name := "isWord", desc := "(J)Z" } : Jvm.MethodName) ({ cls := "SilentSaleModel", name := "isWord", desc := "(J)Z" } : Jvm.MethodName)) ∈ tb_L := tb_in (i := 43) (by decide +kernel) (by decide +kernel)
theorem wd_45 : (Jvm.Cond.selects "SilentSaleModel" ({ cls := "SilentSaleModel", name := "fails", desc := "(II)Z" } : Jvm.MethodName) ({ cls := "SilentSaleModel", name := "fails", desc := "(II)Z" } : Jvm.MethodName)) ∈ tb_L := tb_in (i := 45) (by decide +kernel) (by decide +kernel)
theorem wd_1263 : (Jvm.Cond.fieldLink "SilentSaleModel" (139 : Nat) "SilentSaleModel" "text" "I") ∈ tb_L := tb_in (i := 1263) (by decide +kernel) (by decide +kernel)
theorem wd_1388 : (Jvm.Cond.code ({ cls := "SilentSaleModel", name := "clauseHere", desc := "()Z" } : Jvm.MethodName) prog_14_method_39_code (3 : Nat) (Option.some Jvm.ClassFile.FieldType.boolean)) ∈ tb_L := tb_in (i := 1388) (by decide +kernel) (by decide +kernel)
theorem wd_1398 : (Jvm.Cond.methodLink "SilentSaleModel" (98 : Nat) ({ cls := "SilentSaleModel", name := "isWord", desc := "(J)Z" } : Jvm.MethodName)) ∈ tb_L := tb_in (i := 1398) (by decide +kernel) (by decide +kernel)
theorem wd_1400 : (Jvm.Cond.instanceMethod ({ cls := "SilentSaleModel", name := "isWord", desc := "(J)Z" } : Jvm.MethodName)) ∈ tb_L := tb_in (i := 1400) (by decide +kernel) (by decide +kernel)
theorem wd_1410 : (Jvm.Cond.constantLong "SilentSaleModel" (237 : Nat) (495806931307 : Int64)) ∈ tb_L := tb_in (i := 1410) (by decide +kernel) (by decide +kernel)
theorem wd_1411 : (Jvm.Cond.methodLink "SilentSaleModel" (108 : Nat) ({ cls := "SilentSaleModel", name := "fails", desc := "(II)Z" } : Jvm.MethodName)) ∈ tb_L := tb_in (i := 1411) (by decide +kernel) (by decide +kernel)
theorem wd_1413 : (Jvm.Cond.instanceMethod ({ cls := "SilentSaleModel", name := "fails", desc := "(II)Z" } : Jvm.MethodName)) ∈ tb_L := tb_in (i := 1413) (by decide +kernel) (by decide +kernel)
theorem dX12_clauseHere_0 : decode cX12_clauseHere 0 = .ok (.aload_n 0, 1) := by decide +kernel
theorem dX12_clauseHere_1 : decode cX12_clauseHere 1 = .ok (.invokevirtual 90, 3) := by decide +kernel
theorem dX12_clauseHere_4 : decode cX12_clauseHere 4 = .ok (.pop, 1) := by decide +kernel
theorem dX12_clauseHere_5 : decode cX12_clauseHere 5 = .ok (.aload_n 0, 1) := by decide +kernel
theorem dX12_clauseHere_6 : decode cX12_clauseHere 6 = .ok (.getfield 87, 3) := by decide +kernel
theorem dX12_clauseHere_9 : decode cX12_clauseHere 9 = .ok (.istore_n 1, 1) := by decide +kernel
theorem dX12_clauseHere_10 : decode cX12_clauseHere 10 = .ok (.aload_n 0, 1) := by decide +kernel
theorem dX12_clauseHere_11 : decode cX12_clauseHere 11 = .ok (.getfield 139, 3) := by decide +kernel
theorem dX12_clauseHere_14 : decode cX12_clauseHere 14 = .ok (.bipush 6, 2) := by decide +kernel
theorem dX12_clauseHere_16 : decode cX12_clauseHere 16 = .ok (.if_icmp .ne 7, 3) := by decide +kernel
theorem dX12_clauseHere_23 : decode cX12_clauseHere 23 = .ok (.iconst 0, 1) := by decide +kernel
theorem dX12_clauseHere_24 : decode cX12_clauseHere 24 = .ok (.istore_n 2, 1) := by decide +kernel
theorem dX12_clauseHere_25 : decode cX12_clauseHere 25 = .ok (.iload_n 2, 1) := by decide +kernel
theorem dX12_clauseHere_26 : decode cX12_clauseHere 26 = .ok (.ifCond .eq 13, 3) := by decide +kernel
theorem dX12_clauseHere_39 : decode cX12_clauseHere 39 = .ok (.aload_n 0, 1) := by decide +kernel
theorem dX12_clauseHere_40 : decode cX12_clauseHere 40 = .ok (.ldc2_w 237, 3) := by decide +kernel
theorem dX12_clauseHere_43 : decode cX12_clauseHere 43 = .ok (.invokevirtual 98, 3) := by decide +kernel
theorem dX12_clauseHere_46 : decode cX12_clauseHere 46 = .ok (.ifCond .ne 10, 3) := by decide +kernel
theorem dX12_clauseHere_49 : decode cX12_clauseHere 49 = .ok (.aload_n 0, 1) := by decide +kernel
theorem dX12_clauseHere_50 : decode cX12_clauseHere 50 = .ok (.iconst 0, 1) := by decide +kernel
theorem dX12_clauseHere_51 : decode cX12_clauseHere 51 = .ok (.iload_n 1, 1) := by decide +kernel
theorem dX12_clauseHere_52 : decode cX12_clauseHere 52 = .ok (.invokevirtual 108, 3) := by decide +kernel
theorem dX12_clauseHere_55 : decode cX12_clauseHere 55 = .ok (.ireturn, 1) := by decide +kernel
theorem wd_40 : (Jvm.Cond.selects "SilentSaleModel" ({ cls := "SilentSaleModel", name := "clauseHere", desc := "()Z" } : Jvm.MethodName) ({ cls := "SilentSaleModel", name := "clauseHere", desc := "()Z" } : Jvm.MethodName)) ∈ tb_L := tb_in (i := 40) (by decide +kernel) (by decide +kernel)
theorem wd_1264 : (Jvm.Cond.fieldLink "SilentSaleModel" (142 : Nat) "SilentSaleModel" "made" "I") ∈ tb_L := tb_in (i := 1264) (by decide +kernel) (by decide +kernel)
theorem wd_1266 : (Jvm.Cond.fieldLink "SilentSaleModel" (239 : Nat) "SilentSaleModel" "lines" "I") ∈ tb_L := tb_in (i := 1266) (by decide +kernel) (by decide +kernel)
theorem wd_1384 : (Jvm.Cond.code ({ cls := "SilentSaleModel", name := "readsAll", desc := "()Z" } : Jvm.MethodName) prog_14_method_40_code (2 : Nat) (Option.some Jvm.ClassFile.FieldType.boolean)) ∈ tb_L := tb_in (i := 1384) (by decide +kernel) (by decide +kernel)
theorem wd_1385 : (Jvm.Cond.methodLink "SilentSaleModel" (248 : Nat) ({ cls := "SilentSaleModel", name := "clauseHere", desc := "()Z" } : Jvm.MethodName)) ∈ tb_L := tb_in (i := 1385) (by decide +kernel) (by decide +kernel)
theorem wd_1387 : (Jvm.Cond.instanceMethod ({ cls := "SilentSaleModel", name := "clauseHere", desc := "()Z" } : Jvm.MethodName)) ∈ tb_L := tb_in (i := 1387) (by decide +kernel) (by decide +kernel)
theorem dX12_readsAll_0 : decode cX12_readsAll 0 = .ok (.aload_n 0, 1) := by decide +kernel
theorem dX12_readsAll_1 : decode cX12_readsAll 1 = .ok (.getfield 17, 3) := by decide +kernel
theorem dX12_readsAll_4 : decode cX12_readsAll 4 = .ok (.aload_n 0, 1) := by decide +kernel
theorem dX12_readsAll_5 : decode cX12_readsAll 5 = .ok (.getfield 139, 3) := by decide +kernel
theorem dX12_readsAll_8 : decode cX12_readsAll 8 = .ok (.iconst 0, 1) := by decide +kernel
theorem dX12_readsAll_9 : decode cX12_readsAll 9 = .ok (.iastore, 1) := by decide +kernel
theorem dX12_readsAll_10 : decode cX12_readsAll 10 = .ok (.aload_n 0, 1) := by decide +kernel
theorem dX12_readsAll_11 : decode cX12_readsAll 11 = .ok (.iconst 0, 1) := by decide +kernel
theorem dX12_readsAll_12 : decode cX12_readsAll 12 = .ok (.putfield 239, 3) := by decide +kernel
theorem dX12_readsAll_15 : decode cX12_readsAll 15 = .ok (.aload_n 0, 1) := by decide +kernel
theorem dX12_readsAll_16 : decode cX12_readsAll 16 = .ok (.iconst 0, 1) := by decide +kernel
theorem dX12_readsAll_17 : decode cX12_readsAll 17 = .ok (.putfield 87, 3) := by decide +kernel
theorem dX12_readsAll_20 : decode cX12_readsAll 20 = .ok (.aload_n 0, 1) := by decide +kernel
theorem dX12_readsAll_21 : decode cX12_readsAll 21 = .ok (.iconst 0, 1) := by decide +kernel
theorem dX12_readsAll_22 : decode cX12_readsAll 22 = .ok (.putfield 84, 3) := by decide +kernel
theorem dX12_readsAll_25 : decode cX12_readsAll 25 = .ok (.aload_n 0, 1) := by decide +kernel
theorem dX12_readsAll_26 : decode cX12_readsAll 26 = .ok (.iconst 0, 1) := by decide +kernel
theorem dX12_readsAll_27 : decode cX12_readsAll 27 = .ok (.putfield 142, 3) := by decide +kernel
theorem dX12_readsAll_30 : decode cX12_readsAll 30 = .ok (.aload_n 0, 1) := by decide +kernel
theorem dX12_readsAll_31 : decode cX12_readsAll 31 = .ok (.invokevirtual 248, 3) := by decide +kernel
theorem dX12_readsAll_34 : decode cX12_readsAll 34 = .ok (.istore_n 1, 1) := by decide +kernel
theorem dX12_readsAll_35 : decode cX12_readsAll 35 = .ok (.iload_n 1, 1) := by decide +kernel
theorem dX12_readsAll_36 : decode cX12_readsAll 36 = .ok (.ifCond .eq 30, 3) := by decide +kernel
theorem dX12_readsAll_66 : decode cX12_readsAll 66 = .ok (.iload_n 1, 1) := by decide +kernel
theorem dX12_readsAll_67 : decode cX12_readsAll 67 = .ok (.ifCond .eq 21, 3) := by decide +kernel
theorem dX12_readsAll_88 : decode cX12_readsAll 88 = .ok (.aload_n 0, 1) := by decide +kernel
theorem dX12_readsAll_89 : decode cX12_readsAll 89 = .ok (.iconst 0, 1) := by decide +kernel
theorem dX12_readsAll_90 : decode cX12_readsAll 90 = .ok (.putfield 77, 3) := by decide +kernel
theorem dX12_readsAll_93 : decode cX12_readsAll 93 = .ok (.aload_n 0, 1) := by decide +kernel
theorem dX12_readsAll_94 : decode cX12_readsAll 94 = .ok (.getfield 84, 3) := by decide +kernel
theorem dX12_readsAll_97 : decode cX12_readsAll 97 = .ok (.ifCond .ne 7, 3) := by decide +kernel
theorem dX12_readsAll_104 : decode cX12_readsAll 104 = .ok (.iconst 0, 1) := by decide +kernel
theorem dX12_readsAll_105 : decode cX12_readsAll 105 = .ok (.ireturn, 1) := by decide +kernel
theorem wd_1396 : (Jvm.Cond.code ({ cls := "SilentSaleModel", name := "isSaleWord", desc := "()Z" } : Jvm.MethodName) prog_14_method_38_code (1 : Nat) (Option.some Jvm.ClassFile.FieldType.boolean)) ∈ tb_L := tb_in (i := 1396) (by decide +kernel) (by decide +kernel)
theorem wd_1397 : (Jvm.Cond.constantLong "SilentSaleModel" (215 : Nat) (1935764581 : Int64)) ∈ tb_L := tb_in (i := 1397) (by decide +kernel) (by decide +kernel)
theorem wd_1406 : (Jvm.Cond.constantLong "SilentSaleModel" (119 : Nat) (108204795389298 : Int64)) ∈ tb_L := tb_in (i := 1406) (by decide +kernel) (by decide +kernel)
theorem wd_1407 : (Jvm.Cond.constantLong "SilentSaleModel" (121 : Nat) (7106420 : Int64)) ∈ tb_L := tb_in (i := 1407) (by decide +kernel) (by decide +kernel)
theorem wd_1408 : (Jvm.Cond.constantLong "SilentSaleModel" (123 : Nat) (512970880104 : Int64)) ∈ tb_L := tb_in (i := 1408) (by decide +kernel) (by decide +kernel)
theorem wd_1409 : (Jvm.Cond.constantLong "SilentSaleModel" (232 : Nat) (500135715691 : Int64)) ∈ tb_L := tb_in (i := 1409) (by decide +kernel) (by decide +kernel)
theorem dX12_isSaleWord_0 : decode cX12_isSaleWord 0 = .ok (.aload_n 0, 1) := by decide +kernel
theorem dX12_isSaleWord_1 : decode cX12_isSaleWord 1 = .ok (.ldc2_w 215, 3) := by decide +kernel
theorem dX12_isSaleWord_4 : decode cX12_isSaleWord 4 = .ok (.invokevirtual 98, 3) := by decide +kernel
theorem dX12_isSaleWord_7 : decode cX12_isSaleWord 7 = .ok (.ifCond .ne 43, 3) := by decide +kernel
theorem dX12_isSaleWord_10 : decode cX12_isSaleWord 10 = .ok (.aload_n 0, 1) := by decide +kernel
theorem dX12_isSaleWord_11 : decode cX12_isSaleWord 11 = .ok (.ldc2_w 119, 3) := by decide +kernel
theorem dX12_isSaleWord_14 : decode cX12_isSaleWord 14 = .ok (.invokevirtual 98, 3) := by decide +kernel
theorem dX12_isSaleWord_17 : decode cX12_isSaleWord 17 = .ok (.ifCond .ne 33, 3) := by decide +kernel
theorem dX12_isSaleWord_20 : decode cX12_isSaleWord 20 = .ok (.aload_n 0, 1) := by decide +kernel
theorem dX12_isSaleWord_21 : decode cX12_isSaleWord 21 = .ok (.ldc2_w 121, 3) := by decide +kernel
theorem dX12_isSaleWord_24 : decode cX12_isSaleWord 24 = .ok (.invokevirtual 98, 3) := by decide +kernel
theorem dX12_isSaleWord_27 : decode cX12_isSaleWord 27 = .ok (.ifCond .ne 23, 3) := by decide +kernel
theorem dX12_isSaleWord_30 : decode cX12_isSaleWord 30 = .ok (.aload_n 0, 1) := by decide +kernel
theorem dX12_isSaleWord_31 : decode cX12_isSaleWord 31 = .ok (.ldc2_w 123, 3) := by decide +kernel
theorem dX12_isSaleWord_34 : decode cX12_isSaleWord 34 = .ok (.invokevirtual 98, 3) := by decide +kernel
theorem dX12_isSaleWord_37 : decode cX12_isSaleWord 37 = .ok (.ifCond .ne 13, 3) := by decide +kernel
theorem dX12_isSaleWord_40 : decode cX12_isSaleWord 40 = .ok (.aload_n 0, 1) := by decide +kernel
theorem dX12_isSaleWord_41 : decode cX12_isSaleWord 41 = .ok (.ldc2_w 232, 3) := by decide +kernel
theorem dX12_isSaleWord_44 : decode cX12_isSaleWord 44 = .ok (.invokevirtual 98, 3) := by decide +kernel
theorem dX12_isSaleWord_47 : decode cX12_isSaleWord 47 = .ok (.ifCond .eq 7, 3) := by decide +kernel
theorem dX12_isSaleWord_54 : decode cX12_isSaleWord 54 = .ok (.iconst 0, 1) := by decide +kernel
theorem dX12_isSaleWord_55 : decode cX12_isSaleWord 55 = .ok (.ireturn, 1) := by decide +kernel
theorem wd_42 : (Jvm.Cond.selects "SilentSaleModel" ({ cls := "SilentSaleModel", name := "isSaleWord", desc := "()Z" } : Jvm.MethodName) ({ cls := "SilentSaleModel", name := "isSaleWord", desc := "()Z" } : Jvm.MethodName)) ∈ tb_L := tb_in (i := 42) (by decide +kernel) (by decide +kernel)
theorem wd_1393 : (Jvm.Cond.methodLink "SilentSaleModel" (234 : Nat) ({ cls := "SilentSaleModel", name := "isSaleWord", desc := "()Z" } : Jvm.MethodName)) ∈ tb_L := tb_in (i := 1393) (by decide +kernel) (by decide +kernel)
theorem wd_1395 : (Jvm.Cond.instanceMethod ({ cls := "SilentSaleModel", name := "isSaleWord", desc := "()Z" } : Jvm.MethodName)) ∈ tb_L := tb_in (i := 1395) (by decide +kernel) (by decide +kernel)
theorem dX12_clauseHere_19 : decode cX12_clauseHere 19 = .ok (.iconst 1, 1) := by decide +kernel
theorem dX12_clauseHere_20 : decode cX12_clauseHere 20 = .ok (.goto 4, 3) := by decide +kernel
theorem dX12_clauseHere_29 : decode cX12_clauseHere 29 = .ok (.aload_n 0, 1) := by decide +kernel
theorem dX12_clauseHere_30 : decode cX12_clauseHere 30 = .ok (.invokevirtual 234, 3) := by decide +kernel
theorem dX12_clauseHere_33 : decode cX12_clauseHere 33 = .ok (.ifCond .ne 23, 3) := by decide +kernel
theorem dX12_clauseHere_36 : decode cX12_clauseHere 36 = .ok (.goto 13, 3) := by decide +kernel
set_option maxHeartbeats 4000000 in
set_option maxRecDepth 100000 in
theorem c_M_four0 (l : Launch) (G : gg_T) (sz : Nat) (h0 : Nat) (am : Nat → Nat) (x : Int32) (f : Nat → Int32) : Met l yX12_four (ts_L yX12_four cX12_four 3 none) ({ frames := 0, cells := 0, slots := 0, locals := 0 }) (gc_P G [(h0, .inr (12, [.ref (am 0), .int 0, .int 0, .ref (am 1), .ref (am 2), .ref (am 3), .ref (am 4), .ref (am 5), .int 0, .int 0, .int 0, .int 0, .int 0, .int 0, .int 0, .ref (am 6), .int 0, .ref (am 7), .int 0, .ref (am 8), .ref (am 9), .int (-1), .int 0, .int 0, .int (-1), .int 0, .ref (am 10), .int 0, .ref (am 11), .ref (am 12), .ref (am 13), .ref (am 14), .long 0, .ref (am 15), .ref (am 16), .ref (am 17), .ref (am 18)])), ((am 0), .inl (G.2.2 2, 400, .inl f))] sz [.ref h0, .int x]) (gc_V G (va_A [(h0, .inr (12, [.ref (am 0), .int 0, .int 0, .ref (am 1), .ref (am 2), .ref (am 3), .ref (am 4), .ref (am 5), .int 0, .int 0, .int 0, .int 0, .int 0, .int 0, .int 0, .ref (am 6), .int 0, .ref (am 7), .int 0, .ref (am 8), .ref (am 9), .int (-1), .int 0, .int 0, .int (-1), .int 0, .ref (am 10), .int 0, .ref (am 11), .ref (am 12), .ref (am 13), .ref (am 14), .long 0, .ref (am 15), .ref (am 16), .ref (am 17), .ref (am 18)])), ((am 0), .inl (G.2.2 2, 400, .inl f))] sz) (fun (_ : (Nat → Int32)) => True) (fun (u : (Nat → Int32)) => match u with | g => [(h0, .inr (12, [.ref (am 0), .int 4, .int 0, .ref (am 1), .ref (am 2), .ref (am 3), .ref (am 4), .ref (am 5), .int 0, .int 0, .int 0, .int 0, .int 0, .int 0, .int 0, .ref (am 6), .int 0, .ref (am 7), .int 0, .ref (am 8), .ref (am 9), .int (-1), .int 0, .int 0, .int (-1), .int 0, .ref (am 10), .int 0, .ref (am 11), .ref (am 12), .ref (am 13), .ref (am 14), .long 0, .ref (am 15), .ref (am 16), .ref (am 17), .ref (am 18)])), ((am 0), .inl (G.2.2 2, 400, .inl g))])) 0 0 (va_A [(h0, .inr (12, [.ref (am 0), .int 0, .int 0, .ref (am 1), .ref (am 2), .ref (am 3), .ref (am 4), .ref (am 5), .int 0, .int 0, .int 0, .int 0, .int 0, .int 0, .int 0, .ref (am 6), .int 0, .ref (am 7), .int 0, .ref (am 8), .ref (am 9), .int (-1), .int 0, .int 0, .int (-1), .int 0, .ref (am 10), .int 0, .ref (am 11), .ref (am 12), .ref (am 13), .ref (am 14), .long 0, .ref (am 15), .ref (am 16), .ref (am 17), .ref (am 18)])), ((am 0), .inl (G.2.2 2, 400, .inl f))] sz) := by
  refine Met.ofW (cc := cX12_four) (maxL := 3) (ret := none) (by decide) rfl ?_
  intro p e s m args below meth c s₁ B hml hv
  obtain ⟨rfl, hsz, hP, hK, hD0⟩ := hv
  have hx := B.exec
  have hb := B.bytes
  have hr := B.returns
  have ht := ts_ht (atoms_spec (ws := ts_L yX12_four cX12_four 3 none) B.pre)
  have hown : s.vm.findClass RX12 = some m.cls := findClass_of_methodNamed B.named
  have hlocks := B.notSynchronized
  subst hsz
  have hD := hD0.self (sz := s.heap.size)
  generalize hAe : va_A [(h0, .inr (12, [.ref (am 0), .int 0, .int 0, .ref (am 1), .ref (am 2), .ref (am 3), .ref (am 4), .ref (am 5), .int 0, .int 0, .int 0, .int 0, .int 0, .int 0, .int 0, .ref (am 6), .int 0, .ref (am 7), .int 0, .ref (am 8), .ref (am 9), .int (-1), .int 0, .int 0, .int (-1), .int 0, .ref (am 10), .int 0, .ref (am 11), .ref (am 12), .ref (am 13), .ref (am 14), .long 0, .ref (am 15), .ref (am 16), .ref (am 17), .ref (am 18)])), ((am 0), .inl (G.2.2 2, 400, .inl f))] s.heap.size = A at hD ⊢
  have hA : ∀ q : Nat, s.heap.size ≤ q → A q := fun q h => by rw [← hAe]; exact Or.inr h
  have hS : va_S A s.heap s.heap [] := va_S.rf
  have hl := lv_entry ([.ref h0, .int x]) (n := 3) (Nat.le_of_ble_eq_true rfl)
  rw [lg_entry_eq]
  generalize (lg_sl ([.ref h0, .int x]) ++ List.replicate (3 - (lg_sl ([.ref h0, .int x])).length) Slot.unset).toArray = ls at hl ⊢
  have hl : lv_has ls 3 [(0, .ref h0), (1, .int x)] := hl
  refine lv_bipush (v := 24) hx hb dX12_four_0 (by decide +kernel) ?_
  refine lv_istore_n (lv' := [(2, .int 24), (0, .ref h0), (1, .int x)]) hx hb dX12_four_2 rfl hl (by decide) rfl (fun ls hl => ?_)
  refine lv_iload_n hx hb dX12_four_3 rfl (lv_at hl 0 rfl) ?_
  refine lv_if_lt (tgt := 36) hx hb dX12_four_4 (by decide) (fun c0 => absurd c0 (by decide +kernel)) (fun _ => ?_)
  refine lv_aload_n hx hb dX12_four_7 rfl (lv_at hl 1 rfl) ?_
  refine gq_get hx hb ht hown hK hP i_X12 0 rfl rfl 0 (by decide) wd_1252 rfl rfl dX12_four_8 ?_
  refine lv_aload_n hx hb dX12_four_11 rfl (lv_at hl 1 rfl) ?_
  refine gq_get hx hb ht hown hK hP i_X12 0 rfl rfl 1 (by decide) wd_1253 rfl rfl dX12_four_12 ?_
  refine lv_iload_n hx hb dX12_four_15 rfl (lv_at hl 2 rfl) ?_
  refine lv_iload_n hx hb dX12_four_16 rfl (lv_at hl 0 rfl) ?_
  obtain ⟨t_1, et_1⟩ : ∃ z : Int32, (x >>> (24 &&& 31)) = z := ⟨_, rfl⟩
  refine gq_ishr hx hb t_1 et_1 dX12_four_17 ?_
  obtain ⟨t_2, et_2⟩ : ∃ z : Int32, (t_1).toInt8.toInt32 = z := ⟨_, rfl⟩
  refine lv_i2b hx hb dX12_four_18 et_2 ?_
  obtain ⟨f_3, ef_3⟩ : ∃ z : Nat → Int32, upd f (Int32.toNatClampNeg 0) (vp_nar .byte t_2) = z := ⟨_, rfl⟩
  refine gq_bast (ws' := [(h0, .inr (12, [.ref (am 0), .int 0, .int 0, .ref (am 1), .ref (am 2), .ref (am 3), .ref (am 4), .ref (am 5), .int 0, .int 0, .int 0, .int 0, .int 0, .int 0, .int 0, .ref (am 6), .int 0, .ref (am 7), .int 0, .ref (am 8), .ref (am 9), .int (-1), .int 0, .int 0, .int (-1), .int 0, .ref (am 10), .int 0, .ref (am 11), .ref (am 12), .ref (am 13), .ref (am 14), .long 0, .ref (am 15), .ref (am 16), .ref (am 17), .ref (am 18)])), ((am 0), .inl (G.2.2 2, 400, .inl f_3))]) hx hb hK hP hD hS 1 rfl f_3 (by unfold vp_in; decide +kernel) ef_3 rfl dX12_four_19 (fun H locs hP hD hS => ?_)
  refine lv_aload_n hx hb dX12_four_20 rfl (lv_at hl 1 rfl) ?_
  refine lv_dup hx hb dX12_four_21 rfl ?_
  refine gq_get hx hb ht hown hK hP i_X12 0 rfl rfl 1 (by decide) wd_1253 rfl rfl dX12_four_22 ?_
  refine lv_iconst (v := 1) hx hb dX12_four_25 (by decide) ?_
  refine gq_iadd hx hb 1 (by decide +kernel) dX12_four_26 ?_
  refine gq_put (ws' := [(h0, .inr (12, [.ref (am 0), .int 1, .int 0, .ref (am 1), .ref (am 2), .ref (am 3), .ref (am 4), .ref (am 5), .int 0, .int 0, .int 0, .int 0, .int 0, .int 0, .int 0, .ref (am 6), .int 0, .ref (am 7), .int 0, .ref (am 8), .ref (am 9), .int (-1), .int 0, .int 0, .int (-1), .int 0, .ref (am 10), .int 0, .ref (am 11), .ref (am 12), .ref (am 13), .ref (am 14), .long 0, .ref (am 15), .ref (am 16), .ref (am 17), .ref (am 18)])), ((am 0), .inl (G.2.2 2, 400, .inl f_3))]) hx hb ht hown hK hP hD hS i_X12 tyX12 tyX12_ok nmX12 0 rfl rfl 1 (by decide) wd_1253 rfl rfl rfl rfl (Nat.le_of_ble_eq_true rfl) rfl dX12_four_27 (fun H locs hP hD hS => ?_)
  refine lv_iinc (v := 16) (lv' := [(2, .int 16), (0, .ref h0), (1, .int x)]) hx hb dX12_four_30 hl (k := 0) rfl (by decide +kernel) (by decide) rfl (fun ls hl => ?_)
  refine lv_goto (tgt := 3) hx hb dX12_four_33 (by decide) ?_
  refine lv_iload_n hx hb dX12_four_3 rfl (lv_at hl 0 rfl) ?_
  refine lv_if_lt (tgt := 36) hx hb dX12_four_4 (by decide) (fun c0 => absurd c0 (by decide +kernel)) (fun _ => ?_)
  refine lv_aload_n hx hb dX12_four_7 rfl (lv_at hl 1 rfl) ?_
  refine gq_get hx hb ht hown hK hP i_X12 0 rfl rfl 0 (by decide) wd_1252 rfl rfl dX12_four_8 ?_
  refine lv_aload_n hx hb dX12_four_11 rfl (lv_at hl 1 rfl) ?_
  refine gq_get hx hb ht hown hK hP i_X12 0 rfl rfl 1 (by decide) wd_1253 rfl rfl dX12_four_12 ?_
  refine lv_iload_n hx hb dX12_four_15 rfl (lv_at hl 2 rfl) ?_
  refine lv_iload_n hx hb dX12_four_16 rfl (lv_at hl 0 rfl) ?_
  obtain ⟨t_4, et_4⟩ : ∃ z : Int32, (x >>> (16 &&& 31)) = z := ⟨_, rfl⟩
  refine gq_ishr hx hb t_4 et_4 dX12_four_17 ?_
  obtain ⟨t_5, et_5⟩ : ∃ z : Int32, (t_4).toInt8.toInt32 = z := ⟨_, rfl⟩
  refine lv_i2b hx hb dX12_four_18 et_5 ?_
  obtain ⟨f_6, ef_6⟩ : ∃ z : Nat → Int32, upd f_3 (Int32.toNatClampNeg 1) (vp_nar .byte t_5) = z := ⟨_, rfl⟩
  refine gq_bast (ws' := [(h0, .inr (12, [.ref (am 0), .int 1, .int 0, .ref (am 1), .ref (am 2), .ref (am 3), .ref (am 4), .ref (am 5), .int 0, .int 0, .int 0, .int 0, .int 0, .int 0, .int 0, .ref (am 6), .int 0, .ref (am 7), .int 0, .ref (am 8), .ref (am 9), .int (-1), .int 0, .int 0, .int (-1), .int 0, .ref (am 10), .int 0, .ref (am 11), .ref (am 12), .ref (am 13), .ref (am 14), .long 0, .ref (am 15), .ref (am 16), .ref (am 17), .ref (am 18)])), ((am 0), .inl (G.2.2 2, 400, .inl f_6))]) hx hb hK hP hD hS 1 rfl f_6 (by unfold vp_in; decide +kernel) ef_6 rfl dX12_four_19 (fun H locs hP hD hS => ?_)
  refine lv_aload_n hx hb dX12_four_20 rfl (lv_at hl 1 rfl) ?_
  refine lv_dup hx hb dX12_four_21 rfl ?_
  refine gq_get hx hb ht hown hK hP i_X12 0 rfl rfl 1 (by decide) wd_1253 rfl rfl dX12_four_22 ?_
  refine lv_iconst (v := 1) hx hb dX12_four_25 (by decide) ?_
  refine gq_iadd hx hb 2 (by decide +kernel) dX12_four_26 ?_
  refine gq_put (ws' := [(h0, .inr (12, [.ref (am 0), .int 2, .int 0, .ref (am 1), .ref (am 2), .ref (am 3), .ref (am 4), .ref (am 5), .int 0, .int 0, .int 0, .int 0, .int 0, .int 0, .int 0, .ref (am 6), .int 0, .ref (am 7), .int 0, .ref (am 8), .ref (am 9), .int (-1), .int 0, .int 0, .int (-1), .int 0, .ref (am 10), .int 0, .ref (am 11), .ref (am 12), .ref (am 13), .ref (am 14), .long 0, .ref (am 15), .ref (am 16), .ref (am 17), .ref (am 18)])), ((am 0), .inl (G.2.2 2, 400, .inl f_6))]) hx hb ht hown hK hP hD hS i_X12 tyX12 tyX12_ok nmX12 0 rfl rfl 1 (by decide) wd_1253 rfl rfl rfl rfl (Nat.le_of_ble_eq_true rfl) rfl dX12_four_27 (fun H locs hP hD hS => ?_)
  refine lv_iinc (v := 8) (lv' := [(2, .int 8), (0, .ref h0), (1, .int x)]) hx hb dX12_four_30 hl (k := 0) rfl (by decide +kernel) (by decide) rfl (fun ls hl => ?_)
  refine lv_goto (tgt := 3) hx hb dX12_four_33 (by decide) ?_
  refine lv_iload_n hx hb dX12_four_3 rfl (lv_at hl 0 rfl) ?_
  refine lv_if_lt (tgt := 36) hx hb dX12_four_4 (by decide) (fun c0 => absurd c0 (by decide +kernel)) (fun _ => ?_)
  refine lv_aload_n hx hb dX12_four_7 rfl (lv_at hl 1 rfl) ?_
  refine gq_get hx hb ht hown hK hP i_X12 0 rfl rfl 0 (by decide) wd_1252 rfl rfl dX12_four_8 ?_
  refine lv_aload_n hx hb dX12_four_11 rfl (lv_at hl 1 rfl) ?_
  refine gq_get hx hb ht hown hK hP i_X12 0 rfl rfl 1 (by decide) wd_1253 rfl rfl dX12_four_12 ?_
  refine lv_iload_n hx hb dX12_four_15 rfl (lv_at hl 2 rfl) ?_
  refine lv_iload_n hx hb dX12_four_16 rfl (lv_at hl 0 rfl) ?_
  obtain ⟨t_7, et_7⟩ : ∃ z : Int32, (x >>> (8 &&& 31)) = z := ⟨_, rfl⟩
  refine gq_ishr hx hb t_7 et_7 dX12_four_17 ?_
  obtain ⟨t_8, et_8⟩ : ∃ z : Int32, (t_7).toInt8.toInt32 = z := ⟨_, rfl⟩
  refine lv_i2b hx hb dX12_four_18 et_8 ?_
  obtain ⟨f_9, ef_9⟩ : ∃ z : Nat → Int32, upd f_6 (Int32.toNatClampNeg 2) (vp_nar .byte t_8) = z := ⟨_, rfl⟩
  refine gq_bast (ws' := [(h0, .inr (12, [.ref (am 0), .int 2, .int 0, .ref (am 1), .ref (am 2), .ref (am 3), .ref (am 4), .ref (am 5), .int 0, .int 0, .int 0, .int 0, .int 0, .int 0, .int 0, .ref (am 6), .int 0, .ref (am 7), .int 0, .ref (am 8), .ref (am 9), .int (-1), .int 0, .int 0, .int (-1), .int 0, .ref (am 10), .int 0, .ref (am 11), .ref (am 12), .ref (am 13), .ref (am 14), .long 0, .ref (am 15), .ref (am 16), .ref (am 17), .ref (am 18)])), ((am 0), .inl (G.2.2 2, 400, .inl f_9))]) hx hb hK hP hD hS 1 rfl f_9 (by unfold vp_in; decide +kernel) ef_9 rfl dX12_four_19 (fun H locs hP hD hS => ?_)
  refine lv_aload_n hx hb dX12_four_20 rfl (lv_at hl 1 rfl) ?_
  refine lv_dup hx hb dX12_four_21 rfl ?_
  refine gq_get hx hb ht hown hK hP i_X12 0 rfl rfl 1 (by decide) wd_1253 rfl rfl dX12_four_22 ?_
  refine lv_iconst (v := 1) hx hb dX12_four_25 (by decide) ?_
  refine gq_iadd hx hb 3 (by decide +kernel) dX12_four_26 ?_
  refine gq_put (ws' := [(h0, .inr (12, [.ref (am 0), .int 3, .int 0, .ref (am 1), .ref (am 2), .ref (am 3), .ref (am 4), .ref (am 5), .int 0, .int 0, .int 0, .int 0, .int 0, .int 0, .int 0, .ref (am 6), .int 0, .ref (am 7), .int 0, .ref (am 8), .ref (am 9), .int (-1), .int 0, .int 0, .int (-1), .int 0, .ref (am 10), .int 0, .ref (am 11), .ref (am 12), .ref (am 13), .ref (am 14), .long 0, .ref (am 15), .ref (am 16), .ref (am 17), .ref (am 18)])), ((am 0), .inl (G.2.2 2, 400, .inl f_9))]) hx hb ht hown hK hP hD hS i_X12 tyX12 tyX12_ok nmX12 0 rfl rfl 1 (by decide) wd_1253 rfl rfl rfl rfl (Nat.le_of_ble_eq_true rfl) rfl dX12_four_27 (fun H locs hP hD hS => ?_)
  refine lv_iinc (v := 0) (lv' := [(2, .int 0), (0, .ref h0), (1, .int x)]) hx hb dX12_four_30 hl (k := 0) rfl (by decide +kernel) (by decide) rfl (fun ls hl => ?_)
  refine lv_goto (tgt := 3) hx hb dX12_four_33 (by decide) ?_
  refine lv_iload_n hx hb dX12_four_3 rfl (lv_at hl 0 rfl) ?_
  refine lv_if_lt (tgt := 36) hx hb dX12_four_4 (by decide) (fun c0 => absurd c0 (by decide +kernel)) (fun _ => ?_)
  refine lv_aload_n hx hb dX12_four_7 rfl (lv_at hl 1 rfl) ?_
  refine gq_get hx hb ht hown hK hP i_X12 0 rfl rfl 0 (by decide) wd_1252 rfl rfl dX12_four_8 ?_
  refine lv_aload_n hx hb dX12_four_11 rfl (lv_at hl 1 rfl) ?_
  refine gq_get hx hb ht hown hK hP i_X12 0 rfl rfl 1 (by decide) wd_1253 rfl rfl dX12_four_12 ?_
  refine lv_iload_n hx hb dX12_four_15 rfl (lv_at hl 2 rfl) ?_
  refine lv_iload_n hx hb dX12_four_16 rfl (lv_at hl 0 rfl) ?_
  obtain ⟨t_10, et_10⟩ : ∃ z : Int32, (x >>> (0 &&& 31)) = z := ⟨_, rfl⟩
  refine gq_ishr hx hb t_10 et_10 dX12_four_17 ?_
  obtain ⟨t_11, et_11⟩ : ∃ z : Int32, (t_10).toInt8.toInt32 = z := ⟨_, rfl⟩
  refine lv_i2b hx hb dX12_four_18 et_11 ?_
  obtain ⟨f_12, ef_12⟩ : ∃ z : Nat → Int32, upd f_9 (Int32.toNatClampNeg 3) (vp_nar .byte t_11) = z := ⟨_, rfl⟩
  refine gq_bast (ws' := [(h0, .inr (12, [.ref (am 0), .int 3, .int 0, .ref (am 1), .ref (am 2), .ref (am 3), .ref (am 4), .ref (am 5), .int 0, .int 0, .int 0, .int 0, .int 0, .int 0, .int 0, .ref (am 6), .int 0, .ref (am 7), .int 0, .ref (am 8), .ref (am 9), .int (-1), .int 0, .int 0, .int (-1), .int 0, .ref (am 10), .int 0, .ref (am 11), .ref (am 12), .ref (am 13), .ref (am 14), .long 0, .ref (am 15), .ref (am 16), .ref (am 17), .ref (am 18)])), ((am 0), .inl (G.2.2 2, 400, .inl f_12))]) hx hb hK hP hD hS 1 rfl f_12 (by unfold vp_in; decide +kernel) ef_12 rfl dX12_four_19 (fun H locs hP hD hS => ?_)
  refine lv_aload_n hx hb dX12_four_20 rfl (lv_at hl 1 rfl) ?_
  refine lv_dup hx hb dX12_four_21 rfl ?_
  refine gq_get hx hb ht hown hK hP i_X12 0 rfl rfl 1 (by decide) wd_1253 rfl rfl dX12_four_22 ?_
  refine lv_iconst (v := 1) hx hb dX12_four_25 (by decide) ?_
  refine gq_iadd hx hb 4 (by decide +kernel) dX12_four_26 ?_
  refine gq_put (ws' := [(h0, .inr (12, [.ref (am 0), .int 4, .int 0, .ref (am 1), .ref (am 2), .ref (am 3), .ref (am 4), .ref (am 5), .int 0, .int 0, .int 0, .int 0, .int 0, .int 0, .int 0, .ref (am 6), .int 0, .ref (am 7), .int 0, .ref (am 8), .ref (am 9), .int (-1), .int 0, .int 0, .int (-1), .int 0, .ref (am 10), .int 0, .ref (am 11), .ref (am 12), .ref (am 13), .ref (am 14), .long 0, .ref (am 15), .ref (am 16), .ref (am 17), .ref (am 18)])), ((am 0), .inl (G.2.2 2, 400, .inl f_12))]) hx hb ht hown hK hP hD hS i_X12 tyX12 tyX12_ok nmX12 0 rfl rfl 1 (by decide) wd_1253 rfl rfl rfl rfl (Nat.le_of_ble_eq_true rfl) rfl dX12_four_27 (fun H locs hP hD hS => ?_)
  refine lv_iinc (v := (-8)) (lv' := [(2, .int (-8)), (0, .ref h0), (1, .int x)]) hx hb dX12_four_30 hl (k := 0) rfl (by decide +kernel) (by decide) rfl (fun ls hl => ?_)
  refine lv_goto (tgt := 3) hx hb dX12_four_33 (by decide) ?_
  refine lv_iload_n hx hb dX12_four_3 rfl (lv_at hl 0 rfl) ?_
  refine lv_if_lt (tgt := 36) hx hb dX12_four_4 (by decide) (fun _ => ?_) (fun c0 => absurd (by decide +kernel) c0)
  have hP9 := hP.sub (ws' := [(h0, .inr (12, [.ref (am 0), .int 4, .int 0, .ref (am 1), .ref (am 2), .ref (am 3), .ref (am 4), .ref (am 5), .int 0, .int 0, .int 0, .int 0, .int 0, .int 0, .int 0, .ref (am 6), .int 0, .ref (am 7), .int 0, .ref (am 8), .ref (am 9), .int (-1), .int 0, .int 0, .int (-1), .int 0, .ref (am 10), .int 0, .ref (am 11), .ref (am 12), .ref (am 13), .ref (am 14), .long 0, .ref (am 15), .ref (am 16), .ref (am 17), .ref (am 18)])), ((am 0), .inl (G.2.2 2, 400, .inl f_12))]) [0, 1] rfl
  have hD9 := hD.sub (ws' := [(h0, .inr (12, [.ref (am 0), .int 4, .int 0, .ref (am 1), .ref (am 2), .ref (am 3), .ref (am 4), .ref (am 5), .int 0, .int 0, .int 0, .int 0, .int 0, .int 0, .int 0, .ref (am 6), .int 0, .ref (am 7), .int 0, .ref (am 8), .ref (am 9), .int (-1), .int 0, .int 0, .int (-1), .int 0, .ref (am 10), .int 0, .ref (am 11), .ref (am 12), .ref (am 13), .ref (am 14), .long 0, .ref (am 15), .ref (am 16), .ref (am 17), .ref (am 18)])), ((am 0), .inl (G.2.2 2, 400, .inl f_12))]) [0, 1] (by decide) rfl
  exact W.vret hx hb hr (gq_endV (f_12) trivial hP9 hD9 hS) hS.2.2 dX12_four_36
set_option maxHeartbeats 4000000 in
set_option maxRecDepth 100000 in
theorem c_M_four4 (l : Launch) (G : gg_T) (sz : Nat) (h0 : Nat) (am : Nat → Nat) (x : Int32) (f : Nat → Int32) : Met l yX12_four (ts_L yX12_four cX12_four 3 none) ({ frames := 0, cells := 0, slots := 0, locals := 0 }) (gc_P G [(h0, .inr (12, [.ref (am 0), .int 4, .int 0, .ref (am 1), .ref (am 2), .ref (am 3), .ref (am 4), .ref (am 5), .int 0, .int 0, .int 0, .int 0, .int 0, .int 0, .int 0, .ref (am 6), .int 0, .ref (am 7), .int 0, .ref (am 8), .ref (am 9), .int (-1), .int 0, .int 0, .int (-1), .int 0, .ref (am 10), .int 0, .ref (am 11), .ref (am 12), .ref (am 13), .ref (am 14), .long 0, .ref (am 15), .ref (am 16), .ref (am 17), .ref (am 18)])), ((am 0), .inl (G.2.2 2, 400, .inl f))] sz [.ref h0, .int x]) (gc_V G (va_A [(h0, .inr (12, [.ref (am 0), .int 4, .int 0, .ref (am 1), .ref (am 2), .ref (am 3), .ref (am 4), .ref (am 5), .int 0, .int 0, .int 0, .int 0, .int 0, .int 0, .int 0, .ref (am 6), .int 0, .ref (am 7), .int 0, .ref (am 8), .ref (am 9), .int (-1), .int 0, .int 0, .int (-1), .int 0, .ref (am 10), .int 0, .ref (am 11), .ref (am 12), .ref (am 13), .ref (am 14), .long 0, .ref (am 15), .ref (am 16), .ref (am 17), .ref (am 18)])), ((am 0), .inl (G.2.2 2, 400, .inl f))] sz) (fun (_ : (Nat → Int32)) => True) (fun (u : (Nat → Int32)) => match u with | g => [(h0, .inr (12, [.ref (am 0), .int 8, .int 0, .ref (am 1), .ref (am 2), .ref (am 3), .ref (am 4), .ref (am 5), .int 0, .int 0, .int 0, .int 0, .int 0, .int 0, .int 0, .ref (am 6), .int 0, .ref (am 7), .int 0, .ref (am 8), .ref (am 9), .int (-1), .int 0, .int 0, .int (-1), .int 0, .ref (am 10), .int 0, .ref (am 11), .ref (am 12), .ref (am 13), .ref (am 14), .long 0, .ref (am 15), .ref (am 16), .ref (am 17), .ref (am 18)])), ((am 0), .inl (G.2.2 2, 400, .inl g))])) 0 0 (va_A [(h0, .inr (12, [.ref (am 0), .int 4, .int 0, .ref (am 1), .ref (am 2), .ref (am 3), .ref (am 4), .ref (am 5), .int 0, .int 0, .int 0, .int 0, .int 0, .int 0, .int 0, .ref (am 6), .int 0, .ref (am 7), .int 0, .ref (am 8), .ref (am 9), .int (-1), .int 0, .int 0, .int (-1), .int 0, .ref (am 10), .int 0, .ref (am 11), .ref (am 12), .ref (am 13), .ref (am 14), .long 0, .ref (am 15), .ref (am 16), .ref (am 17), .ref (am 18)])), ((am 0), .inl (G.2.2 2, 400, .inl f))] sz) := by
  refine Met.ofW (cc := cX12_four) (maxL := 3) (ret := none) (by decide) rfl ?_
  intro p e s m args below meth c s₁ B hml hv
  obtain ⟨rfl, hsz, hP, hK, hD0⟩ := hv
  have hx := B.exec
  have hb := B.bytes
  have hr := B.returns
  have ht := ts_ht (atoms_spec (ws := ts_L yX12_four cX12_four 3 none) B.pre)
  have hown : s.vm.findClass RX12 = some m.cls := findClass_of_methodNamed B.named
  have hlocks := B.notSynchronized
  subst hsz
  have hD := hD0.self (sz := s.heap.size)
  generalize hAe : va_A [(h0, .inr (12, [.ref (am 0), .int 4, .int 0, .ref (am 1), .ref (am 2), .ref (am 3), .ref (am 4), .ref (am 5), .int 0, .int 0, .int 0, .int 0, .int 0, .int 0, .int 0, .ref (am 6), .int 0, .ref (am 7), .int 0, .ref (am 8), .ref (am 9), .int (-1), .int 0, .int 0, .int (-1), .int 0, .ref (am 10), .int 0, .ref (am 11), .ref (am 12), .ref (am 13), .ref (am 14), .long 0, .ref (am 15), .ref (am 16), .ref (am 17), .ref (am 18)])), ((am 0), .inl (G.2.2 2, 400, .inl f))] s.heap.size = A at hD ⊢
  have hA : ∀ q : Nat, s.heap.size ≤ q → A q := fun q h => by rw [← hAe]; exact Or.inr h
  have hS : va_S A s.heap s.heap [] := va_S.rf
  have hl := lv_entry ([.ref h0, .int x]) (n := 3) (Nat.le_of_ble_eq_true rfl)
  rw [lg_entry_eq]
  generalize (lg_sl ([.ref h0, .int x]) ++ List.replicate (3 - (lg_sl ([.ref h0, .int x])).length) Slot.unset).toArray = ls at hl ⊢
  have hl : lv_has ls 3 [(0, .ref h0), (1, .int x)] := hl
  refine lv_bipush (v := 24) hx hb dX12_four_0 (by decide +kernel) ?_
  refine lv_istore_n (lv' := [(2, .int 24), (0, .ref h0), (1, .int x)]) hx hb dX12_four_2 rfl hl (by decide) rfl (fun ls hl => ?_)
  refine lv_iload_n hx hb dX12_four_3 rfl (lv_at hl 0 rfl) ?_
  refine lv_if_lt (tgt := 36) hx hb dX12_four_4 (by decide) (fun c0 => absurd c0 (by decide +kernel)) (fun _ => ?_)
  refine lv_aload_n hx hb dX12_four_7 rfl (lv_at hl 1 rfl) ?_
  refine gq_get hx hb ht hown hK hP i_X12 0 rfl rfl 0 (by decide) wd_1252 rfl rfl dX12_four_8 ?_
  refine lv_aload_n hx hb dX12_four_11 rfl (lv_at hl 1 rfl) ?_
  refine gq_get hx hb ht hown hK hP i_X12 0 rfl rfl 1 (by decide) wd_1253 rfl rfl dX12_four_12 ?_
  refine lv_iload_n hx hb dX12_four_15 rfl (lv_at hl 2 rfl) ?_
  refine lv_iload_n hx hb dX12_four_16 rfl (lv_at hl 0 rfl) ?_
  obtain ⟨t_1, et_1⟩ : ∃ z : Int32, (x >>> (24 &&& 31)) = z := ⟨_, rfl⟩
  refine gq_ishr hx hb t_1 et_1 dX12_four_17 ?_
  obtain ⟨t_2, et_2⟩ : ∃ z : Int32, (t_1).toInt8.toInt32 = z := ⟨_, rfl⟩
  refine lv_i2b hx hb dX12_four_18 et_2 ?_
  obtain ⟨f_3, ef_3⟩ : ∃ z : Nat → Int32, upd f (Int32.toNatClampNeg 4) (vp_nar .byte t_2) = z := ⟨_, rfl⟩
  refine gq_bast (ws' := [(h0, .inr (12, [.ref (am 0), .int 4, .int 0, .ref (am 1), .ref (am 2), .ref (am 3), .ref (am 4), .ref (am 5), .int 0, .int 0, .int 0, .int 0, .int 0, .int 0, .int 0, .ref (am 6), .int 0, .ref (am 7), .int 0, .ref (am 8), .ref (am 9), .int (-1), .int 0, .int 0, .int (-1), .int 0, .ref (am 10), .int 0, .ref (am 11), .ref (am 12), .ref (am 13), .ref (am 14), .long 0, .ref (am 15), .ref (am 16), .ref (am 17), .ref (am 18)])), ((am 0), .inl (G.2.2 2, 400, .inl f_3))]) hx hb hK hP hD hS 1 rfl f_3 (by unfold vp_in; decide +kernel) ef_3 rfl dX12_four_19 (fun H locs hP hD hS => ?_)
  refine lv_aload_n hx hb dX12_four_20 rfl (lv_at hl 1 rfl) ?_
  refine lv_dup hx hb dX12_four_21 rfl ?_
  refine gq_get hx hb ht hown hK hP i_X12 0 rfl rfl 1 (by decide) wd_1253 rfl rfl dX12_four_22 ?_
  refine lv_iconst (v := 1) hx hb dX12_four_25 (by decide) ?_
  refine gq_iadd hx hb 5 (by decide +kernel) dX12_four_26 ?_
  refine gq_put (ws' := [(h0, .inr (12, [.ref (am 0), .int 5, .int 0, .ref (am 1), .ref (am 2), .ref (am 3), .ref (am 4), .ref (am 5), .int 0, .int 0, .int 0, .int 0, .int 0, .int 0, .int 0, .ref (am 6), .int 0, .ref (am 7), .int 0, .ref (am 8), .ref (am 9), .int (-1), .int 0, .int 0, .int (-1), .int 0, .ref (am 10), .int 0, .ref (am 11), .ref (am 12), .ref (am 13), .ref (am 14), .long 0, .ref (am 15), .ref (am 16), .ref (am 17), .ref (am 18)])), ((am 0), .inl (G.2.2 2, 400, .inl f_3))]) hx hb ht hown hK hP hD hS i_X12 tyX12 tyX12_ok nmX12 0 rfl rfl 1 (by decide) wd_1253 rfl rfl rfl rfl (Nat.le_of_ble_eq_true rfl) rfl dX12_four_27 (fun H locs hP hD hS => ?_)
  refine lv_iinc (v := 16) (lv' := [(2, .int 16), (0, .ref h0), (1, .int x)]) hx hb dX12_four_30 hl (k := 0) rfl (by decide +kernel) (by decide) rfl (fun ls hl => ?_)
  refine lv_goto (tgt := 3) hx hb dX12_four_33 (by decide) ?_
  refine lv_iload_n hx hb dX12_four_3 rfl (lv_at hl 0 rfl) ?_
  refine lv_if_lt (tgt := 36) hx hb dX12_four_4 (by decide) (fun c0 => absurd c0 (by decide +kernel)) (fun _ => ?_)
  refine lv_aload_n hx hb dX12_four_7 rfl (lv_at hl 1 rfl) ?_
  refine gq_get hx hb ht hown hK hP i_X12 0 rfl rfl 0 (by decide) wd_1252 rfl rfl dX12_four_8 ?_
  refine lv_aload_n hx hb dX12_four_11 rfl (lv_at hl 1 rfl) ?_
  refine gq_get hx hb ht hown hK hP i_X12 0 rfl rfl 1 (by decide) wd_1253 rfl rfl dX12_four_12 ?_
  refine lv_iload_n hx hb dX12_four_15 rfl (lv_at hl 2 rfl) ?_
  refine lv_iload_n hx hb dX12_four_16 rfl (lv_at hl 0 rfl) ?_
  obtain ⟨t_4, et_4⟩ : ∃ z : Int32, (x >>> (16 &&& 31)) = z := ⟨_, rfl⟩
  refine gq_ishr hx hb t_4 et_4 dX12_four_17 ?_
  obtain ⟨t_5, et_5⟩ : ∃ z : Int32, (t_4).toInt8.toInt32 = z := ⟨_, rfl⟩
  refine lv_i2b hx hb dX12_four_18 et_5 ?_
  obtain ⟨f_6, ef_6⟩ : ∃ z : Nat → Int32, upd f_3 (Int32.toNatClampNeg 5) (vp_nar .byte t_5) = z := ⟨_, rfl⟩
  refine gq_bast (ws' := [(h0, .inr (12, [.ref (am 0), .int 5, .int 0, .ref (am 1), .ref (am 2), .ref (am 3), .ref (am 4), .ref (am 5), .int 0, .int 0, .int 0, .int 0, .int 0, .int 0, .int 0, .ref (am 6), .int 0, .ref (am 7), .int 0, .ref (am 8), .ref (am 9), .int (-1), .int 0, .int 0, .int (-1), .int 0, .ref (am 10), .int 0, .ref (am 11), .ref (am 12), .ref (am 13), .ref (am 14), .long 0, .ref (am 15), .ref (am 16), .ref (am 17), .ref (am 18)])), ((am 0), .inl (G.2.2 2, 400, .inl f_6))]) hx hb hK hP hD hS 1 rfl f_6 (by unfold vp_in; decide +kernel) ef_6 rfl dX12_four_19 (fun H locs hP hD hS => ?_)
  refine lv_aload_n hx hb dX12_four_20 rfl (lv_at hl 1 rfl) ?_
  refine lv_dup hx hb dX12_four_21 rfl ?_
  refine gq_get hx hb ht hown hK hP i_X12 0 rfl rfl 1 (by decide) wd_1253 rfl rfl dX12_four_22 ?_
  refine lv_iconst (v := 1) hx hb dX12_four_25 (by decide) ?_
  refine gq_iadd hx hb 6 (by decide +kernel) dX12_four_26 ?_
  refine gq_put (ws' := [(h0, .inr (12, [.ref (am 0), .int 6, .int 0, .ref (am 1), .ref (am 2), .ref (am 3), .ref (am 4), .ref (am 5), .int 0, .int 0, .int 0, .int 0, .int 0, .int 0, .int 0, .ref (am 6), .int 0, .ref (am 7), .int 0, .ref (am 8), .ref (am 9), .int (-1), .int 0, .int 0, .int (-1), .int 0, .ref (am 10), .int 0, .ref (am 11), .ref (am 12), .ref (am 13), .ref (am 14), .long 0, .ref (am 15), .ref (am 16), .ref (am 17), .ref (am 18)])), ((am 0), .inl (G.2.2 2, 400, .inl f_6))]) hx hb ht hown hK hP hD hS i_X12 tyX12 tyX12_ok nmX12 0 rfl rfl 1 (by decide) wd_1253 rfl rfl rfl rfl (Nat.le_of_ble_eq_true rfl) rfl dX12_four_27 (fun H locs hP hD hS => ?_)
  refine lv_iinc (v := 8) (lv' := [(2, .int 8), (0, .ref h0), (1, .int x)]) hx hb dX12_four_30 hl (k := 0) rfl (by decide +kernel) (by decide) rfl (fun ls hl => ?_)
  refine lv_goto (tgt := 3) hx hb dX12_four_33 (by decide) ?_
  refine lv_iload_n hx hb dX12_four_3 rfl (lv_at hl 0 rfl) ?_
  refine lv_if_lt (tgt := 36) hx hb dX12_four_4 (by decide) (fun c0 => absurd c0 (by decide +kernel)) (fun _ => ?_)
  refine lv_aload_n hx hb dX12_four_7 rfl (lv_at hl 1 rfl) ?_
  refine gq_get hx hb ht hown hK hP i_X12 0 rfl rfl 0 (by decide) wd_1252 rfl rfl dX12_four_8 ?_
  refine lv_aload_n hx hb dX12_four_11 rfl (lv_at hl 1 rfl) ?_
  refine gq_get hx hb ht hown hK hP i_X12 0 rfl rfl 1 (by decide) wd_1253 rfl rfl dX12_four_12 ?_
  refine lv_iload_n hx hb dX12_four_15 rfl (lv_at hl 2 rfl) ?_
  refine lv_iload_n hx hb dX12_four_16 rfl (lv_at hl 0 rfl) ?_
  obtain ⟨t_7, et_7⟩ : ∃ z : Int32, (x >>> (8 &&& 31)) = z := ⟨_, rfl⟩
  refine gq_ishr hx hb t_7 et_7 dX12_four_17 ?_
  obtain ⟨t_8, et_8⟩ : ∃ z : Int32, (t_7).toInt8.toInt32 = z := ⟨_, rfl⟩
  refine lv_i2b hx hb dX12_four_18 et_8 ?_
  obtain ⟨f_9, ef_9⟩ : ∃ z : Nat → Int32, upd f_6 (Int32.toNatClampNeg 6) (vp_nar .byte t_8) = z := ⟨_, rfl⟩
  refine gq_bast (ws' := [(h0, .inr (12, [.ref (am 0), .int 6, .int 0, .ref (am 1), .ref (am 2), .ref (am 3), .ref (am 4), .ref (am 5), .int 0, .int 0, .int 0, .int 0, .int 0, .int 0, .int 0, .ref (am 6), .int 0, .ref (am 7), .int 0, .ref (am 8), .ref (am 9), .int (-1), .int 0, .int 0, .int (-1), .int 0, .ref (am 10), .int 0, .ref (am 11), .ref (am 12), .ref (am 13), .ref (am 14), .long 0, .ref (am 15), .ref (am 16), .ref (am 17), .ref (am 18)])), ((am 0), .inl (G.2.2 2, 400, .inl f_9))]) hx hb hK hP hD hS 1 rfl f_9 (by unfold vp_in; decide +kernel) ef_9 rfl dX12_four_19 (fun H locs hP hD hS => ?_)
  refine lv_aload_n hx hb dX12_four_20 rfl (lv_at hl 1 rfl) ?_
  refine lv_dup hx hb dX12_four_21 rfl ?_
  refine gq_get hx hb ht hown hK hP i_X12 0 rfl rfl 1 (by decide) wd_1253 rfl rfl dX12_four_22 ?_
  refine lv_iconst (v := 1) hx hb dX12_four_25 (by decide) ?_
  refine gq_iadd hx hb 7 (by decide +kernel) dX12_four_26 ?_
  refine gq_put (ws' := [(h0, .inr (12, [.ref (am 0), .int 7, .int 0, .ref (am 1), .ref (am 2), .ref (am 3), .ref (am 4), .ref (am 5), .int 0, .int 0, .int 0, .int 0, .int 0, .int 0, .int 0, .ref (am 6), .int 0, .ref (am 7), .int 0, .ref (am 8), .ref (am 9), .int (-1), .int 0, .int 0, .int (-1), .int 0, .ref (am 10), .int 0, .ref (am 11), .ref (am 12), .ref (am 13), .ref (am 14), .long 0, .ref (am 15), .ref (am 16), .ref (am 17), .ref (am 18)])), ((am 0), .inl (G.2.2 2, 400, .inl f_9))]) hx hb ht hown hK hP hD hS i_X12 tyX12 tyX12_ok nmX12 0 rfl rfl 1 (by decide) wd_1253 rfl rfl rfl rfl (Nat.le_of_ble_eq_true rfl) rfl dX12_four_27 (fun H locs hP hD hS => ?_)
  refine lv_iinc (v := 0) (lv' := [(2, .int 0), (0, .ref h0), (1, .int x)]) hx hb dX12_four_30 hl (k := 0) rfl (by decide +kernel) (by decide) rfl (fun ls hl => ?_)
  refine lv_goto (tgt := 3) hx hb dX12_four_33 (by decide) ?_
  refine lv_iload_n hx hb dX12_four_3 rfl (lv_at hl 0 rfl) ?_
  refine lv_if_lt (tgt := 36) hx hb dX12_four_4 (by decide) (fun c0 => absurd c0 (by decide +kernel)) (fun _ => ?_)
  refine lv_aload_n hx hb dX12_four_7 rfl (lv_at hl 1 rfl) ?_
  refine gq_get hx hb ht hown hK hP i_X12 0 rfl rfl 0 (by decide) wd_1252 rfl rfl dX12_four_8 ?_
  refine lv_aload_n hx hb dX12_four_11 rfl (lv_at hl 1 rfl) ?_
  refine gq_get hx hb ht hown hK hP i_X12 0 rfl rfl 1 (by decide) wd_1253 rfl rfl dX12_four_12 ?_
  refine lv_iload_n hx hb dX12_four_15 rfl (lv_at hl 2 rfl) ?_
  refine lv_iload_n hx hb dX12_four_16 rfl (lv_at hl 0 rfl) ?_
  obtain ⟨t_10, et_10⟩ : ∃ z : Int32, (x >>> (0 &&& 31)) = z := ⟨_, rfl⟩
  refine gq_ishr hx hb t_10 et_10 dX12_four_17 ?_
  obtain ⟨t_11, et_11⟩ : ∃ z : Int32, (t_10).toInt8.toInt32 = z := ⟨_, rfl⟩
  refine lv_i2b hx hb dX12_four_18 et_11 ?_
  obtain ⟨f_12, ef_12⟩ : ∃ z : Nat → Int32, upd f_9 (Int32.toNatClampNeg 7) (vp_nar .byte t_11) = z := ⟨_, rfl⟩
  refine gq_bast (ws' := [(h0, .inr (12, [.ref (am 0), .int 7, .int 0, .ref (am 1), .ref (am 2), .ref (am 3), .ref (am 4), .ref (am 5), .int 0, .int 0, .int 0, .int 0, .int 0, .int 0, .int 0, .ref (am 6), .int 0, .ref (am 7), .int 0, .ref (am 8), .ref (am 9), .int (-1), .int 0, .int 0, .int (-1), .int 0, .ref (am 10), .int 0, .ref (am 11), .ref (am 12), .ref (am 13), .ref (am 14), .long 0, .ref (am 15), .ref (am 16), .ref (am 17), .ref (am 18)])), ((am 0), .inl (G.2.2 2, 400, .inl f_12))]) hx hb hK hP hD hS 1 rfl f_12 (by unfold vp_in; decide +kernel) ef_12 rfl dX12_four_19 (fun H locs hP hD hS => ?_)
  refine lv_aload_n hx hb dX12_four_20 rfl (lv_at hl 1 rfl) ?_
  refine lv_dup hx hb dX12_four_21 rfl ?_
  refine gq_get hx hb ht hown hK hP i_X12 0 rfl rfl 1 (by decide) wd_1253 rfl rfl dX12_four_22 ?_
  refine lv_iconst (v := 1) hx hb dX12_four_25 (by decide) ?_
  refine gq_iadd hx hb 8 (by decide +kernel) dX12_four_26 ?_
  refine gq_put (ws' := [(h0, .inr (12, [.ref (am 0), .int 8, .int 0, .ref (am 1), .ref (am 2), .ref (am 3), .ref (am 4), .ref (am 5), .int 0, .int 0, .int 0, .int 0, .int 0, .int 0, .int 0, .ref (am 6), .int 0, .ref (am 7), .int 0, .ref (am 8), .ref (am 9), .int (-1), .int 0, .int 0, .int (-1), .int 0, .ref (am 10), .int 0, .ref (am 11), .ref (am 12), .ref (am 13), .ref (am 14), .long 0, .ref (am 15), .ref (am 16), .ref (am 17), .ref (am 18)])), ((am 0), .inl (G.2.2 2, 400, .inl f_12))]) hx hb ht hown hK hP hD hS i_X12 tyX12 tyX12_ok nmX12 0 rfl rfl 1 (by decide) wd_1253 rfl rfl rfl rfl (Nat.le_of_ble_eq_true rfl) rfl dX12_four_27 (fun H locs hP hD hS => ?_)
  refine lv_iinc (v := (-8)) (lv' := [(2, .int (-8)), (0, .ref h0), (1, .int x)]) hx hb dX12_four_30 hl (k := 0) rfl (by decide +kernel) (by decide) rfl (fun ls hl => ?_)
  refine lv_goto (tgt := 3) hx hb dX12_four_33 (by decide) ?_
  refine lv_iload_n hx hb dX12_four_3 rfl (lv_at hl 0 rfl) ?_
  refine lv_if_lt (tgt := 36) hx hb dX12_four_4 (by decide) (fun _ => ?_) (fun c0 => absurd (by decide +kernel) c0)
  have hP9 := hP.sub (ws' := [(h0, .inr (12, [.ref (am 0), .int 8, .int 0, .ref (am 1), .ref (am 2), .ref (am 3), .ref (am 4), .ref (am 5), .int 0, .int 0, .int 0, .int 0, .int 0, .int 0, .int 0, .ref (am 6), .int 0, .ref (am 7), .int 0, .ref (am 8), .ref (am 9), .int (-1), .int 0, .int 0, .int (-1), .int 0, .ref (am 10), .int 0, .ref (am 11), .ref (am 12), .ref (am 13), .ref (am 14), .long 0, .ref (am 15), .ref (am 16), .ref (am 17), .ref (am 18)])), ((am 0), .inl (G.2.2 2, 400, .inl f_12))]) [0, 1] rfl
  have hD9 := hD.sub (ws' := [(h0, .inr (12, [.ref (am 0), .int 8, .int 0, .ref (am 1), .ref (am 2), .ref (am 3), .ref (am 4), .ref (am 5), .int 0, .int 0, .int 0, .int 0, .int 0, .int 0, .int 0, .ref (am 6), .int 0, .ref (am 7), .int 0, .ref (am 8), .ref (am 9), .int (-1), .int 0, .int 0, .int (-1), .int 0, .ref (am 10), .int 0, .ref (am 11), .ref (am 12), .ref (am 13), .ref (am 14), .long 0, .ref (am 15), .ref (am 16), .ref (am 17), .ref (am 18)])), ((am 0), .inl (G.2.2 2, 400, .inl f_12))]) [0, 1] (by decide) rfl
  exact W.vret hx hb hr (gq_endV (f_12) trivial hP9 hD9 hS) hS.2.2 dX12_four_36
set_option maxHeartbeats 4000000 in
set_option maxRecDepth 100000 in
theorem c_M_four8 (l : Launch) (G : gg_T) (sz : Nat) (h0 : Nat) (am : Nat → Nat) (x : Int32) (f : Nat → Int32) : Met l yX12_four (ts_L yX12_four cX12_four 3 none) ({ frames := 0, cells := 0, slots := 0, locals := 0 }) (gc_P G [(h0, .inr (12, [.ref (am 0), .int 8, .int 0, .ref (am 1), .ref (am 2), .ref (am 3), .ref (am 4), .ref (am 5), .int 0, .int 0, .int 0, .int 0, .int 0, .int 0, .int 0, .ref (am 6), .int 0, .ref (am 7), .int 0, .ref (am 8), .ref (am 9), .int (-1), .int 0, .int 0, .int (-1), .int 0, .ref (am 10), .int 0, .ref (am 11), .ref (am 12), .ref (am 13), .ref (am 14), .long 0, .ref (am 15), .ref (am 16), .ref (am 17), .ref (am 18)])), ((am 0), .inl (G.2.2 2, 400, .inl f))] sz [.ref h0, .int x]) (gc_V G (va_A [(h0, .inr (12, [.ref (am 0), .int 8, .int 0, .ref (am 1), .ref (am 2), .ref (am 3), .ref (am 4), .ref (am 5), .int 0, .int 0, .int 0, .int 0, .int 0, .int 0, .int 0, .ref (am 6), .int 0, .ref (am 7), .int 0, .ref (am 8), .ref (am 9), .int (-1), .int 0, .int 0, .int (-1), .int 0, .ref (am 10), .int 0, .ref (am 11), .ref (am 12), .ref (am 13), .ref (am 14), .long 0, .ref (am 15), .ref (am 16), .ref (am 17), .ref (am 18)])), ((am 0), .inl (G.2.2 2, 400, .inl f))] sz) (fun (_ : (Nat → Int32)) => True) (fun (u : (Nat → Int32)) => match u with | g => [(h0, .inr (12, [.ref (am 0), .int 12, .int 0, .ref (am 1), .ref (am 2), .ref (am 3), .ref (am 4), .ref (am 5), .int 0, .int 0, .int 0, .int 0, .int 0, .int 0, .int 0, .ref (am 6), .int 0, .ref (am 7), .int 0, .ref (am 8), .ref (am 9), .int (-1), .int 0, .int 0, .int (-1), .int 0, .ref (am 10), .int 0, .ref (am 11), .ref (am 12), .ref (am 13), .ref (am 14), .long 0, .ref (am 15), .ref (am 16), .ref (am 17), .ref (am 18)])), ((am 0), .inl (G.2.2 2, 400, .inl g))])) 0 0 (va_A [(h0, .inr (12, [.ref (am 0), .int 8, .int 0, .ref (am 1), .ref (am 2), .ref (am 3), .ref (am 4), .ref (am 5), .int 0, .int 0, .int 0, .int 0, .int 0, .int 0, .int 0, .ref (am 6), .int 0, .ref (am 7), .int 0, .ref (am 8), .ref (am 9), .int (-1), .int 0, .int 0, .int (-1), .int 0, .ref (am 10), .int 0, .ref (am 11), .ref (am 12), .ref (am 13), .ref (am 14), .long 0, .ref (am 15), .ref (am 16), .ref (am 17), .ref (am 18)])), ((am 0), .inl (G.2.2 2, 400, .inl f))] sz) := by
  refine Met.ofW (cc := cX12_four) (maxL := 3) (ret := none) (by decide) rfl ?_
  intro p e s m args below meth c s₁ B hml hv
  obtain ⟨rfl, hsz, hP, hK, hD0⟩ := hv
  have hx := B.exec
  have hb := B.bytes
  have hr := B.returns
  have ht := ts_ht (atoms_spec (ws := ts_L yX12_four cX12_four 3 none) B.pre)
  have hown : s.vm.findClass RX12 = some m.cls := findClass_of_methodNamed B.named
  have hlocks := B.notSynchronized
  subst hsz
  have hD := hD0.self (sz := s.heap.size)
  generalize hAe : va_A [(h0, .inr (12, [.ref (am 0), .int 8, .int 0, .ref (am 1), .ref (am 2), .ref (am 3), .ref (am 4), .ref (am 5), .int 0, .int 0, .int 0, .int 0, .int 0, .int 0, .int 0, .ref (am 6), .int 0, .ref (am 7), .int 0, .ref (am 8), .ref (am 9), .int (-1), .int 0, .int 0, .int (-1), .int 0, .ref (am 10), .int 0, .ref (am 11), .ref (am 12), .ref (am 13), .ref (am 14), .long 0, .ref (am 15), .ref (am 16), .ref (am 17), .ref (am 18)])), ((am 0), .inl (G.2.2 2, 400, .inl f))] s.heap.size = A at hD ⊢
  have hA : ∀ q : Nat, s.heap.size ≤ q → A q := fun q h => by rw [← hAe]; exact Or.inr h
  have hS : va_S A s.heap s.heap [] := va_S.rf
  have hl := lv_entry ([.ref h0, .int x]) (n := 3) (Nat.le_of_ble_eq_true rfl)
  rw [lg_entry_eq]
  generalize (lg_sl ([.ref h0, .int x]) ++ List.replicate (3 - (lg_sl ([.ref h0, .int x])).length) Slot.unset).toArray = ls at hl ⊢
  have hl : lv_has ls 3 [(0, .ref h0), (1, .int x)] := hl
  refine lv_bipush (v := 24) hx hb dX12_four_0 (by decide +kernel) ?_
  refine lv_istore_n (lv' := [(2, .int 24), (0, .ref h0), (1, .int x)]) hx hb dX12_four_2 rfl hl (by decide) rfl (fun ls hl => ?_)
  refine lv_iload_n hx hb dX12_four_3 rfl (lv_at hl 0 rfl) ?_
  refine lv_if_lt (tgt := 36) hx hb dX12_four_4 (by decide) (fun c0 => absurd c0 (by decide +kernel)) (fun _ => ?_)
  refine lv_aload_n hx hb dX12_four_7 rfl (lv_at hl 1 rfl) ?_
  refine gq_get hx hb ht hown hK hP i_X12 0 rfl rfl 0 (by decide) wd_1252 rfl rfl dX12_four_8 ?_
  refine lv_aload_n hx hb dX12_four_11 rfl (lv_at hl 1 rfl) ?_
  refine gq_get hx hb ht hown hK hP i_X12 0 rfl rfl 1 (by decide) wd_1253 rfl rfl dX12_four_12 ?_
  refine lv_iload_n hx hb dX12_four_15 rfl (lv_at hl 2 rfl) ?_
  refine lv_iload_n hx hb dX12_four_16 rfl (lv_at hl 0 rfl) ?_
  obtain ⟨t_1, et_1⟩ : ∃ z : Int32, (x >>> (24 &&& 31)) = z := ⟨_, rfl⟩
  refine gq_ishr hx hb t_1 et_1 dX12_four_17 ?_
  obtain ⟨t_2, et_2⟩ : ∃ z : Int32, (t_1).toInt8.toInt32 = z := ⟨_, rfl⟩
  refine lv_i2b hx hb dX12_four_18 et_2 ?_
  obtain ⟨f_3, ef_3⟩ : ∃ z : Nat → Int32, upd f (Int32.toNatClampNeg 8) (vp_nar .byte t_2) = z := ⟨_, rfl⟩
  refine gq_bast (ws' := [(h0, .inr (12, [.ref (am 0), .int 8, .int 0, .ref (am 1), .ref (am 2), .ref (am 3), .ref (am 4), .ref (am 5), .int 0, .int 0, .int 0, .int 0, .int 0, .int 0, .int 0, .ref (am 6), .int 0, .ref (am 7), .int 0, .ref (am 8), .ref (am 9), .int (-1), .int 0, .int 0, .int (-1), .int 0, .ref (am 10), .int 0, .ref (am 11), .ref (am 12), .ref (am 13), .ref (am 14), .long 0, .ref (am 15), .ref (am 16), .ref (am 17), .ref (am 18)])), ((am 0), .inl (G.2.2 2, 400, .inl f_3))]) hx hb hK hP hD hS 1 rfl f_3 (by unfold vp_in; decide +kernel) ef_3 rfl dX12_four_19 (fun H locs hP hD hS => ?_)
  refine lv_aload_n hx hb dX12_four_20 rfl (lv_at hl 1 rfl) ?_
  refine lv_dup hx hb dX12_four_21 rfl ?_
  refine gq_get hx hb ht hown hK hP i_X12 0 rfl rfl 1 (by decide) wd_1253 rfl rfl dX12_four_22 ?_
  refine lv_iconst (v := 1) hx hb dX12_four_25 (by decide) ?_
  refine gq_iadd hx hb 9 (by decide +kernel) dX12_four_26 ?_
  refine gq_put (ws' := [(h0, .inr (12, [.ref (am 0), .int 9, .int 0, .ref (am 1), .ref (am 2), .ref (am 3), .ref (am 4), .ref (am 5), .int 0, .int 0, .int 0, .int 0, .int 0, .int 0, .int 0, .ref (am 6), .int 0, .ref (am 7), .int 0, .ref (am 8), .ref (am 9), .int (-1), .int 0, .int 0, .int (-1), .int 0, .ref (am 10), .int 0, .ref (am 11), .ref (am 12), .ref (am 13), .ref (am 14), .long 0, .ref (am 15), .ref (am 16), .ref (am 17), .ref (am 18)])), ((am 0), .inl (G.2.2 2, 400, .inl f_3))]) hx hb ht hown hK hP hD hS i_X12 tyX12 tyX12_ok nmX12 0 rfl rfl 1 (by decide) wd_1253 rfl rfl rfl rfl (Nat.le_of_ble_eq_true rfl) rfl dX12_four_27 (fun H locs hP hD hS => ?_)
  refine lv_iinc (v := 16) (lv' := [(2, .int 16), (0, .ref h0), (1, .int x)]) hx hb dX12_four_30 hl (k := 0) rfl (by decide +kernel) (by decide) rfl (fun ls hl => ?_)
  refine lv_goto (tgt := 3) hx hb dX12_four_33 (by decide) ?_
  refine lv_iload_n hx hb dX12_four_3 rfl (lv_at hl 0 rfl) ?_
  refine lv_if_lt (tgt := 36) hx hb dX12_four_4 (by decide) (fun c0 => absurd c0 (by decide +kernel)) (fun _ => ?_)
  refine lv_aload_n hx hb dX12_four_7 rfl (lv_at hl 1 rfl) ?_
  refine gq_get hx hb ht hown hK hP i_X12 0 rfl rfl 0 (by decide) wd_1252 rfl rfl dX12_four_8 ?_
  refine lv_aload_n hx hb dX12_four_11 rfl (lv_at hl 1 rfl) ?_
  refine gq_get hx hb ht hown hK hP i_X12 0 rfl rfl 1 (by decide) wd_1253 rfl rfl dX12_four_12 ?_
  refine lv_iload_n hx hb dX12_four_15 rfl (lv_at hl 2 rfl) ?_
  refine lv_iload_n hx hb dX12_four_16 rfl (lv_at hl 0 rfl) ?_
  obtain ⟨t_4, et_4⟩ : ∃ z : Int32, (x >>> (16 &&& 31)) = z := ⟨_, rfl⟩
  refine gq_ishr hx hb t_4 et_4 dX12_four_17 ?_
  obtain ⟨t_5, et_5⟩ : ∃ z : Int32, (t_4).toInt8.toInt32 = z := ⟨_, rfl⟩
  refine lv_i2b hx hb dX12_four_18 et_5 ?_
  obtain ⟨f_6, ef_6⟩ : ∃ z : Nat → Int32, upd f_3 (Int32.toNatClampNeg 9) (vp_nar .byte t_5) = z := ⟨_, rfl⟩
  refine gq_bast (ws' := [(h0, .inr (12, [.ref (am 0), .int 9, .int 0, .ref (am 1), .ref (am 2), .ref (am 3), .ref (am 4), .ref (am 5), .int 0, .int 0, .int 0, .int 0, .int 0, .int 0, .int 0, .ref (am 6), .int 0, .ref (am 7), .int 0, .ref (am 8), .ref (am 9), .int (-1), .int 0, .int 0, .int (-1), .int 0, .ref (am 10), .int 0, .ref (am 11), .ref (am 12), .ref (am 13), .ref (am 14), .long 0, .ref (am 15), .ref (am 16), .ref (am 17), .ref (am 18)])), ((am 0), .inl (G.2.2 2, 400, .inl f_6))]) hx hb hK hP hD hS 1 rfl f_6 (by unfold vp_in; decide +kernel) ef_6 rfl dX12_four_19 (fun H locs hP hD hS => ?_)
  refine lv_aload_n hx hb dX12_four_20 rfl (lv_at hl 1 rfl) ?_
  refine lv_dup hx hb dX12_four_21 rfl ?_
  refine gq_get hx hb ht hown hK hP i_X12 0 rfl rfl 1 (by decide) wd_1253 rfl rfl dX12_four_22 ?_
  refine lv_iconst (v := 1) hx hb dX12_four_25 (by decide) ?_
  refine gq_iadd hx hb 10 (by decide +kernel) dX12_four_26 ?_
  refine gq_put (ws' := [(h0, .inr (12, [.ref (am 0), .int 10, .int 0, .ref (am 1), .ref (am 2), .ref (am 3), .ref (am 4), .ref (am 5), .int 0, .int 0, .int 0, .int 0, .int 0, .int 0, .int 0, .ref (am 6), .int 0, .ref (am 7), .int 0, .ref (am 8), .ref (am 9), .int (-1), .int 0, .int 0, .int (-1), .int 0, .ref (am 10), .int 0, .ref (am 11), .ref (am 12), .ref (am 13), .ref (am 14), .long 0, .ref (am 15), .ref (am 16), .ref (am 17), .ref (am 18)])), ((am 0), .inl (G.2.2 2, 400, .inl f_6))]) hx hb ht hown hK hP hD hS i_X12 tyX12 tyX12_ok nmX12 0 rfl rfl 1 (by decide) wd_1253 rfl rfl rfl rfl (Nat.le_of_ble_eq_true rfl) rfl dX12_four_27 (fun H locs hP hD hS => ?_)
  refine lv_iinc (v := 8) (lv' := [(2, .int 8), (0, .ref h0), (1, .int x)]) hx hb dX12_four_30 hl (k := 0) rfl (by decide +kernel) (by decide) rfl (fun ls hl => ?_)
  refine lv_goto (tgt := 3) hx hb dX12_four_33 (by decide) ?_
  refine lv_iload_n hx hb dX12_four_3 rfl (lv_at hl 0 rfl) ?_
  refine lv_if_lt (tgt := 36) hx hb dX12_four_4 (by decide) (fun c0 => absurd c0 (by decide +kernel)) (fun _ => ?_)
  refine lv_aload_n hx hb dX12_four_7 rfl (lv_at hl 1 rfl) ?_
  refine gq_get hx hb ht hown hK hP i_X12 0 rfl rfl 0 (by decide) wd_1252 rfl rfl dX12_four_8 ?_
  refine lv_aload_n hx hb dX12_four_11 rfl (lv_at hl 1 rfl) ?_
  refine gq_get hx hb ht hown hK hP i_X12 0 rfl rfl 1 (by decide) wd_1253 rfl rfl dX12_four_12 ?_
  refine lv_iload_n hx hb dX12_four_15 rfl (lv_at hl 2 rfl) ?_
  refine lv_iload_n hx hb dX12_four_16 rfl (lv_at hl 0 rfl) ?_
  obtain ⟨t_7, et_7⟩ : ∃ z : Int32, (x >>> (8 &&& 31)) = z := ⟨_, rfl⟩
  refine gq_ishr hx hb t_7 et_7 dX12_four_17 ?_
  obtain ⟨t_8, et_8⟩ : ∃ z : Int32, (t_7).toInt8.toInt32 = z := ⟨_, rfl⟩
  refine lv_i2b hx hb dX12_four_18 et_8 ?_
  obtain ⟨f_9, ef_9⟩ : ∃ z : Nat → Int32, upd f_6 (Int32.toNatClampNeg 10) (vp_nar .byte t_8) = z := ⟨_, rfl⟩
  refine gq_bast (ws' := [(h0, .inr (12, [.ref (am 0), .int 10, .int 0, .ref (am 1), .ref (am 2), .ref (am 3), .ref (am 4), .ref (am 5), .int 0, .int 0, .int 0, .int 0, .int 0, .int 0, .int 0, .ref (am 6), .int 0, .ref (am 7), .int 0, .ref (am 8), .ref (am 9), .int (-1), .int 0, .int 0, .int (-1), .int 0, .ref (am 10), .int 0, .ref (am 11), .ref (am 12), .ref (am 13), .ref (am 14), .long 0, .ref (am 15), .ref (am 16), .ref (am 17), .ref (am 18)])), ((am 0), .inl (G.2.2 2, 400, .inl f_9))]) hx hb hK hP hD hS 1 rfl f_9 (by unfold vp_in; decide +kernel) ef_9 rfl dX12_four_19 (fun H locs hP hD hS => ?_)
  refine lv_aload_n hx hb dX12_four_20 rfl (lv_at hl 1 rfl) ?_
  refine lv_dup hx hb dX12_four_21 rfl ?_
  refine gq_get hx hb ht hown hK hP i_X12 0 rfl rfl 1 (by decide) wd_1253 rfl rfl dX12_four_22 ?_
  refine lv_iconst (v := 1) hx hb dX12_four_25 (by decide) ?_
  refine gq_iadd hx hb 11 (by decide +kernel) dX12_four_26 ?_
  refine gq_put (ws' := [(h0, .inr (12, [.ref (am 0), .int 11, .int 0, .ref (am 1), .ref (am 2), .ref (am 3), .ref (am 4), .ref (am 5), .int 0, .int 0, .int 0, .int 0, .int 0, .int 0, .int 0, .ref (am 6), .int 0, .ref (am 7), .int 0, .ref (am 8), .ref (am 9), .int (-1), .int 0, .int 0, .int (-1), .int 0, .ref (am 10), .int 0, .ref (am 11), .ref (am 12), .ref (am 13), .ref (am 14), .long 0, .ref (am 15), .ref (am 16), .ref (am 17), .ref (am 18)])), ((am 0), .inl (G.2.2 2, 400, .inl f_9))]) hx hb ht hown hK hP hD hS i_X12 tyX12 tyX12_ok nmX12 0 rfl rfl 1 (by decide) wd_1253 rfl rfl rfl rfl (Nat.le_of_ble_eq_true rfl) rfl dX12_four_27 (fun H locs hP hD hS => ?_)
  refine lv_iinc (v := 0) (lv' := [(2, .int 0), (0, .ref h0), (1, .int x)]) hx hb dX12_four_30 hl (k := 0) rfl (by decide +kernel) (by decide) rfl (fun ls hl => ?_)
  refine lv_goto (tgt := 3) hx hb dX12_four_33 (by decide) ?_
  refine lv_iload_n hx hb dX12_four_3 rfl (lv_at hl 0 rfl) ?_
  refine lv_if_lt (tgt := 36) hx hb dX12_four_4 (by decide) (fun c0 => absurd c0 (by decide +kernel)) (fun _ => ?_)
  refine lv_aload_n hx hb dX12_four_7 rfl (lv_at hl 1 rfl) ?_
  refine gq_get hx hb ht hown hK hP i_X12 0 rfl rfl 0 (by decide) wd_1252 rfl rfl dX12_four_8 ?_
  refine lv_aload_n hx hb dX12_four_11 rfl (lv_at hl 1 rfl) ?_
  refine gq_get hx hb ht hown hK hP i_X12 0 rfl rfl 1 (by decide) wd_1253 rfl rfl dX12_four_12 ?_
  refine lv_iload_n hx hb dX12_four_15 rfl (lv_at hl 2 rfl) ?_
  refine lv_iload_n hx hb dX12_four_16 rfl (lv_at hl 0 rfl) ?_
  obtain ⟨t_10, et_10⟩ : ∃ z : Int32, (x >>> (0 &&& 31)) = z := ⟨_, rfl⟩
  refine gq_ishr hx hb t_10 et_10 dX12_four_17 ?_
  obtain ⟨t_11, et_11⟩ : ∃ z : Int32, (t_10).toInt8.toInt32 = z := ⟨_, rfl⟩
  refine lv_i2b hx hb dX12_four_18 et_11 ?_
  obtain ⟨f_12, ef_12⟩ : ∃ z : Nat → Int32, upd f_9 (Int32.toNatClampNeg 11) (vp_nar .byte t_11) = z := ⟨_, rfl⟩
  refine gq_bast (ws' := [(h0, .inr (12, [.ref (am 0), .int 11, .int 0, .ref (am 1), .ref (am 2), .ref (am 3), .ref (am 4), .ref (am 5), .int 0, .int 0, .int 0, .int 0, .int 0, .int 0, .int 0, .ref (am 6), .int 0, .ref (am 7), .int 0, .ref (am 8), .ref (am 9), .int (-1), .int 0, .int 0, .int (-1), .int 0, .ref (am 10), .int 0, .ref (am 11), .ref (am 12), .ref (am 13), .ref (am 14), .long 0, .ref (am 15), .ref (am 16), .ref (am 17), .ref (am 18)])), ((am 0), .inl (G.2.2 2, 400, .inl f_12))]) hx hb hK hP hD hS 1 rfl f_12 (by unfold vp_in; decide +kernel) ef_12 rfl dX12_four_19 (fun H locs hP hD hS => ?_)
  refine lv_aload_n hx hb dX12_four_20 rfl (lv_at hl 1 rfl) ?_
  refine lv_dup hx hb dX12_four_21 rfl ?_
  refine gq_get hx hb ht hown hK hP i_X12 0 rfl rfl 1 (by decide) wd_1253 rfl rfl dX12_four_22 ?_
  refine lv_iconst (v := 1) hx hb dX12_four_25 (by decide) ?_
  refine gq_iadd hx hb 12 (by decide +kernel) dX12_four_26 ?_
  refine gq_put (ws' := [(h0, .inr (12, [.ref (am 0), .int 12, .int 0, .ref (am 1), .ref (am 2), .ref (am 3), .ref (am 4), .ref (am 5), .int 0, .int 0, .int 0, .int 0, .int 0, .int 0, .int 0, .ref (am 6), .int 0, .ref (am 7), .int 0, .ref (am 8), .ref (am 9), .int (-1), .int 0, .int 0, .int (-1), .int 0, .ref (am 10), .int 0, .ref (am 11), .ref (am 12), .ref (am 13), .ref (am 14), .long 0, .ref (am 15), .ref (am 16), .ref (am 17), .ref (am 18)])), ((am 0), .inl (G.2.2 2, 400, .inl f_12))]) hx hb ht hown hK hP hD hS i_X12 tyX12 tyX12_ok nmX12 0 rfl rfl 1 (by decide) wd_1253 rfl rfl rfl rfl (Nat.le_of_ble_eq_true rfl) rfl dX12_four_27 (fun H locs hP hD hS => ?_)
  refine lv_iinc (v := (-8)) (lv' := [(2, .int (-8)), (0, .ref h0), (1, .int x)]) hx hb dX12_four_30 hl (k := 0) rfl (by decide +kernel) (by decide) rfl (fun ls hl => ?_)
  refine lv_goto (tgt := 3) hx hb dX12_four_33 (by decide) ?_
  refine lv_iload_n hx hb dX12_four_3 rfl (lv_at hl 0 rfl) ?_
  refine lv_if_lt (tgt := 36) hx hb dX12_four_4 (by decide) (fun _ => ?_) (fun c0 => absurd (by decide +kernel) c0)
  have hP9 := hP.sub (ws' := [(h0, .inr (12, [.ref (am 0), .int 12, .int 0, .ref (am 1), .ref (am 2), .ref (am 3), .ref (am 4), .ref (am 5), .int 0, .int 0, .int 0, .int 0, .int 0, .int 0, .int 0, .ref (am 6), .int 0, .ref (am 7), .int 0, .ref (am 8), .ref (am 9), .int (-1), .int 0, .int 0, .int (-1), .int 0, .ref (am 10), .int 0, .ref (am 11), .ref (am 12), .ref (am 13), .ref (am 14), .long 0, .ref (am 15), .ref (am 16), .ref (am 17), .ref (am 18)])), ((am 0), .inl (G.2.2 2, 400, .inl f_12))]) [0, 1] rfl
  have hD9 := hD.sub (ws' := [(h0, .inr (12, [.ref (am 0), .int 12, .int 0, .ref (am 1), .ref (am 2), .ref (am 3), .ref (am 4), .ref (am 5), .int 0, .int 0, .int 0, .int 0, .int 0, .int 0, .int 0, .ref (am 6), .int 0, .ref (am 7), .int 0, .ref (am 8), .ref (am 9), .int (-1), .int 0, .int 0, .int (-1), .int 0, .ref (am 10), .int 0, .ref (am 11), .ref (am 12), .ref (am 13), .ref (am 14), .long 0, .ref (am 15), .ref (am 16), .ref (am 17), .ref (am 18)])), ((am 0), .inl (G.2.2 2, 400, .inl f_12))]) [0, 1] (by decide) rfl
  exact W.vret hx hb hr (gq_endV (f_12) trivial hP9 hD9 hS) hS.2.2 dX12_four_36
set_option maxHeartbeats 4000000 in
set_option maxRecDepth 100000 in
theorem c_M_four12 (l : Launch) (G : gg_T) (sz : Nat) (h0 : Nat) (am : Nat → Nat) (x : Int32) (f : Nat → Int32) : Met l yX12_four (ts_L yX12_four cX12_four 3 none) ({ frames := 0, cells := 0, slots := 0, locals := 0 }) (gc_P G [(h0, .inr (12, [.ref (am 0), .int 12, .int 0, .ref (am 1), .ref (am 2), .ref (am 3), .ref (am 4), .ref (am 5), .int 0, .int 0, .int 0, .int 0, .int 0, .int 0, .int 0, .ref (am 6), .int 0, .ref (am 7), .int 0, .ref (am 8), .ref (am 9), .int (-1), .int 0, .int 0, .int (-1), .int 0, .ref (am 10), .int 0, .ref (am 11), .ref (am 12), .ref (am 13), .ref (am 14), .long 0, .ref (am 15), .ref (am 16), .ref (am 17), .ref (am 18)])), ((am 0), .inl (G.2.2 2, 400, .inl f))] sz [.ref h0, .int x]) (gc_V G (va_A [(h0, .inr (12, [.ref (am 0), .int 12, .int 0, .ref (am 1), .ref (am 2), .ref (am 3), .ref (am 4), .ref (am 5), .int 0, .int 0, .int 0, .int 0, .int 0, .int 0, .int 0, .ref (am 6), .int 0, .ref (am 7), .int 0, .ref (am 8), .ref (am 9), .int (-1), .int 0, .int 0, .int (-1), .int 0, .ref (am 10), .int 0, .ref (am 11), .ref (am 12), .ref (am 13), .ref (am 14), .long 0, .ref (am 15), .ref (am 16), .ref (am 17), .ref (am 18)])), ((am 0), .inl (G.2.2 2, 400, .inl f))] sz) (fun (_ : (Nat → Int32)) => True) (fun (u : (Nat → Int32)) => match u with | g => [(h0, .inr (12, [.ref (am 0), .int 16, .int 0, .ref (am 1), .ref (am 2), .ref (am 3), .ref (am 4), .ref (am 5), .int 0, .int 0, .int 0, .int 0, .int 0, .int 0, .int 0, .ref (am 6), .int 0, .ref (am 7), .int 0, .ref (am 8), .ref (am 9), .int (-1), .int 0, .int 0, .int (-1), .int 0, .ref (am 10), .int 0, .ref (am 11), .ref (am 12), .ref (am 13), .ref (am 14), .long 0, .ref (am 15), .ref (am 16), .ref (am 17), .ref (am 18)])), ((am 0), .inl (G.2.2 2, 400, .inl g))])) 0 0 (va_A [(h0, .inr (12, [.ref (am 0), .int 12, .int 0, .ref (am 1), .ref (am 2), .ref (am 3), .ref (am 4), .ref (am 5), .int 0, .int 0, .int 0, .int 0, .int 0, .int 0, .int 0, .ref (am 6), .int 0, .ref (am 7), .int 0, .ref (am 8), .ref (am 9), .int (-1), .int 0, .int 0, .int (-1), .int 0, .ref (am 10), .int 0, .ref (am 11), .ref (am 12), .ref (am 13), .ref (am 14), .long 0, .ref (am 15), .ref (am 16), .ref (am 17), .ref (am 18)])), ((am 0), .inl (G.2.2 2, 400, .inl f))] sz) := by
  refine Met.ofW (cc := cX12_four) (maxL := 3) (ret := none) (by decide) rfl ?_
  intro p e s m args below meth c s₁ B hml hv
  obtain ⟨rfl, hsz, hP, hK, hD0⟩ := hv
  have hx := B.exec
  have hb := B.bytes
  have hr := B.returns
  have ht := ts_ht (atoms_spec (ws := ts_L yX12_four cX12_four 3 none) B.pre)
  have hown : s.vm.findClass RX12 = some m.cls := findClass_of_methodNamed B.named
  have hlocks := B.notSynchronized
  subst hsz
  have hD := hD0.self (sz := s.heap.size)
  generalize hAe : va_A [(h0, .inr (12, [.ref (am 0), .int 12, .int 0, .ref (am 1), .ref (am 2), .ref (am 3), .ref (am 4), .ref (am 5), .int 0, .int 0, .int 0, .int 0, .int 0, .int 0, .int 0, .ref (am 6), .int 0, .ref (am 7), .int 0, .ref (am 8), .ref (am 9), .int (-1), .int 0, .int 0, .int (-1), .int 0, .ref (am 10), .int 0, .ref (am 11), .ref (am 12), .ref (am 13), .ref (am 14), .long 0, .ref (am 15), .ref (am 16), .ref (am 17), .ref (am 18)])), ((am 0), .inl (G.2.2 2, 400, .inl f))] s.heap.size = A at hD ⊢
  have hA : ∀ q : Nat, s.heap.size ≤ q → A q := fun q h => by rw [← hAe]; exact Or.inr h
  have hS : va_S A s.heap s.heap [] := va_S.rf
  have hl := lv_entry ([.ref h0, .int x]) (n := 3) (Nat.le_of_ble_eq_true rfl)
  rw [lg_entry_eq]
  generalize (lg_sl ([.ref h0, .int x]) ++ List.replicate (3 - (lg_sl ([.ref h0, .int x])).length) Slot.unset).toArray = ls at hl ⊢
  have hl : lv_has ls 3 [(0, .ref h0), (1, .int x)] := hl
  refine lv_bipush (v := 24) hx hb dX12_four_0 (by decide +kernel) ?_
  refine lv_istore_n (lv' := [(2, .int 24), (0, .ref h0), (1, .int x)]) hx hb dX12_four_2 rfl hl (by decide) rfl (fun ls hl => ?_)
  refine lv_iload_n hx hb dX12_four_3 rfl (lv_at hl 0 rfl) ?_
  refine lv_if_lt (tgt := 36) hx hb dX12_four_4 (by decide) (fun c0 => absurd c0 (by decide +kernel)) (fun _ => ?_)
  refine lv_aload_n hx hb dX12_four_7 rfl (lv_at hl 1 rfl) ?_
  refine gq_get hx hb ht hown hK hP i_X12 0 rfl rfl 0 (by decide) wd_1252 rfl rfl dX12_four_8 ?_
  refine lv_aload_n hx hb dX12_four_11 rfl (lv_at hl 1 rfl) ?_
  refine gq_get hx hb ht hown hK hP i_X12 0 rfl rfl 1 (by decide) wd_1253 rfl rfl dX12_four_12 ?_
  refine lv_iload_n hx hb dX12_four_15 rfl (lv_at hl 2 rfl) ?_
  refine lv_iload_n hx hb dX12_four_16 rfl (lv_at hl 0 rfl) ?_
  obtain ⟨t_1, et_1⟩ : ∃ z : Int32, (x >>> (24 &&& 31)) = z := ⟨_, rfl⟩
  refine gq_ishr hx hb t_1 et_1 dX12_four_17 ?_
  obtain ⟨t_2, et_2⟩ : ∃ z : Int32, (t_1).toInt8.toInt32 = z := ⟨_, rfl⟩
  refine lv_i2b hx hb dX12_four_18 et_2 ?_
  obtain ⟨f_3, ef_3⟩ : ∃ z : Nat → Int32, upd f (Int32.toNatClampNeg 12) (vp_nar .byte t_2) = z := ⟨_, rfl⟩
  refine gq_bast (ws' := [(h0, .inr (12, [.ref (am 0), .int 12, .int 0, .ref (am 1), .ref (am 2), .ref (am 3), .ref (am 4), .ref (am 5), .int 0, .int 0, .int 0, .int 0, .int 0, .int 0, .int 0, .ref (am 6), .int 0, .ref (am 7), .int 0, .ref (am 8), .ref (am 9), .int (-1), .int 0, .int 0, .int (-1), .int 0, .ref (am 10), .int 0, .ref (am 11), .ref (am 12), .ref (am 13), .ref (am 14), .long 0, .ref (am 15), .ref (am 16), .ref (am 17), .ref (am 18)])), ((am 0), .inl (G.2.2 2, 400, .inl f_3))]) hx hb hK hP hD hS 1 rfl f_3 (by unfold vp_in; decide +kernel) ef_3 rfl dX12_four_19 (fun H locs hP hD hS => ?_)
  refine lv_aload_n hx hb dX12_four_20 rfl (lv_at hl 1 rfl) ?_
  refine lv_dup hx hb dX12_four_21 rfl ?_
  refine gq_get hx hb ht hown hK hP i_X12 0 rfl rfl 1 (by decide) wd_1253 rfl rfl dX12_four_22 ?_
  refine lv_iconst (v := 1) hx hb dX12_four_25 (by decide) ?_
  refine gq_iadd hx hb 13 (by decide +kernel) dX12_four_26 ?_
  refine gq_put (ws' := [(h0, .inr (12, [.ref (am 0), .int 13, .int 0, .ref (am 1), .ref (am 2), .ref (am 3), .ref (am 4), .ref (am 5), .int 0, .int 0, .int 0, .int 0, .int 0, .int 0, .int 0, .ref (am 6), .int 0, .ref (am 7), .int 0, .ref (am 8), .ref (am 9), .int (-1), .int 0, .int 0, .int (-1), .int 0, .ref (am 10), .int 0, .ref (am 11), .ref (am 12), .ref (am 13), .ref (am 14), .long 0, .ref (am 15), .ref (am 16), .ref (am 17), .ref (am 18)])), ((am 0), .inl (G.2.2 2, 400, .inl f_3))]) hx hb ht hown hK hP hD hS i_X12 tyX12 tyX12_ok nmX12 0 rfl rfl 1 (by decide) wd_1253 rfl rfl rfl rfl (Nat.le_of_ble_eq_true rfl) rfl dX12_four_27 (fun H locs hP hD hS => ?_)
  refine lv_iinc (v := 16) (lv' := [(2, .int 16), (0, .ref h0), (1, .int x)]) hx hb dX12_four_30 hl (k := 0) rfl (by decide +kernel) (by decide) rfl (fun ls hl => ?_)
  refine lv_goto (tgt := 3) hx hb dX12_four_33 (by decide) ?_
  refine lv_iload_n hx hb dX12_four_3 rfl (lv_at hl 0 rfl) ?_
  refine lv_if_lt (tgt := 36) hx hb dX12_four_4 (by decide) (fun c0 => absurd c0 (by decide +kernel)) (fun _ => ?_)
  refine lv_aload_n hx hb dX12_four_7 rfl (lv_at hl 1 rfl) ?_
  refine gq_get hx hb ht hown hK hP i_X12 0 rfl rfl 0 (by decide) wd_1252 rfl rfl dX12_four_8 ?_
  refine lv_aload_n hx hb dX12_four_11 rfl (lv_at hl 1 rfl) ?_
  refine gq_get hx hb ht hown hK hP i_X12 0 rfl rfl 1 (by decide) wd_1253 rfl rfl dX12_four_12 ?_
  refine lv_iload_n hx hb dX12_four_15 rfl (lv_at hl 2 rfl) ?_
  refine lv_iload_n hx hb dX12_four_16 rfl (lv_at hl 0 rfl) ?_
  obtain ⟨t_4, et_4⟩ : ∃ z : Int32, (x >>> (16 &&& 31)) = z := ⟨_, rfl⟩
  refine gq_ishr hx hb t_4 et_4 dX12_four_17 ?_
  obtain ⟨t_5, et_5⟩ : ∃ z : Int32, (t_4).toInt8.toInt32 = z := ⟨_, rfl⟩
  refine lv_i2b hx hb dX12_four_18 et_5 ?_
  obtain ⟨f_6, ef_6⟩ : ∃ z : Nat → Int32, upd f_3 (Int32.toNatClampNeg 13) (vp_nar .byte t_5) = z := ⟨_, rfl⟩
  refine gq_bast (ws' := [(h0, .inr (12, [.ref (am 0), .int 13, .int 0, .ref (am 1), .ref (am 2), .ref (am 3), .ref (am 4), .ref (am 5), .int 0, .int 0, .int 0, .int 0, .int 0, .int 0, .int 0, .ref (am 6), .int 0, .ref (am 7), .int 0, .ref (am 8), .ref (am 9), .int (-1), .int 0, .int 0, .int (-1), .int 0, .ref (am 10), .int 0, .ref (am 11), .ref (am 12), .ref (am 13), .ref (am 14), .long 0, .ref (am 15), .ref (am 16), .ref (am 17), .ref (am 18)])), ((am 0), .inl (G.2.2 2, 400, .inl f_6))]) hx hb hK hP hD hS 1 rfl f_6 (by unfold vp_in; decide +kernel) ef_6 rfl dX12_four_19 (fun H locs hP hD hS => ?_)
  refine lv_aload_n hx hb dX12_four_20 rfl (lv_at hl 1 rfl) ?_
  refine lv_dup hx hb dX12_four_21 rfl ?_
  refine gq_get hx hb ht hown hK hP i_X12 0 rfl rfl 1 (by decide) wd_1253 rfl rfl dX12_four_22 ?_
  refine lv_iconst (v := 1) hx hb dX12_four_25 (by decide) ?_
  refine gq_iadd hx hb 14 (by decide +kernel) dX12_four_26 ?_
  refine gq_put (ws' := [(h0, .inr (12, [.ref (am 0), .int 14, .int 0, .ref (am 1), .ref (am 2), .ref (am 3), .ref (am 4), .ref (am 5), .int 0, .int 0, .int 0, .int 0, .int 0, .int 0, .int 0, .ref (am 6), .int 0, .ref (am 7), .int 0, .ref (am 8), .ref (am 9), .int (-1), .int 0, .int 0, .int (-1), .int 0, .ref (am 10), .int 0, .ref (am 11), .ref (am 12), .ref (am 13), .ref (am 14), .long 0, .ref (am 15), .ref (am 16), .ref (am 17), .ref (am 18)])), ((am 0), .inl (G.2.2 2, 400, .inl f_6))]) hx hb ht hown hK hP hD hS i_X12 tyX12 tyX12_ok nmX12 0 rfl rfl 1 (by decide) wd_1253 rfl rfl rfl rfl (Nat.le_of_ble_eq_true rfl) rfl dX12_four_27 (fun H locs hP hD hS => ?_)
  refine lv_iinc (v := 8) (lv' := [(2, .int 8), (0, .ref h0), (1, .int x)]) hx hb dX12_four_30 hl (k := 0) rfl (by decide +kernel) (by decide) rfl (fun ls hl => ?_)
  refine lv_goto (tgt := 3) hx hb dX12_four_33 (by decide) ?_
  refine lv_iload_n hx hb dX12_four_3 rfl (lv_at hl 0 rfl) ?_
  refine lv_if_lt (tgt := 36) hx hb dX12_four_4 (by decide) (fun c0 => absurd c0 (by decide +kernel)) (fun _ => ?_)
  refine lv_aload_n hx hb dX12_four_7 rfl (lv_at hl 1 rfl) ?_
  refine gq_get hx hb ht hown hK hP i_X12 0 rfl rfl 0 (by decide) wd_1252 rfl rfl dX12_four_8 ?_
  refine lv_aload_n hx hb dX12_four_11 rfl (lv_at hl 1 rfl) ?_
  refine gq_get hx hb ht hown hK hP i_X12 0 rfl rfl 1 (by decide) wd_1253 rfl rfl dX12_four_12 ?_
  refine lv_iload_n hx hb dX12_four_15 rfl (lv_at hl 2 rfl) ?_
  refine lv_iload_n hx hb dX12_four_16 rfl (lv_at hl 0 rfl) ?_
  obtain ⟨t_7, et_7⟩ : ∃ z : Int32, (x >>> (8 &&& 31)) = z := ⟨_, rfl⟩
  refine gq_ishr hx hb t_7 et_7 dX12_four_17 ?_
  obtain ⟨t_8, et_8⟩ : ∃ z : Int32, (t_7).toInt8.toInt32 = z := ⟨_, rfl⟩
  refine lv_i2b hx hb dX12_four_18 et_8 ?_
  obtain ⟨f_9, ef_9⟩ : ∃ z : Nat → Int32, upd f_6 (Int32.toNatClampNeg 14) (vp_nar .byte t_8) = z := ⟨_, rfl⟩
  refine gq_bast (ws' := [(h0, .inr (12, [.ref (am 0), .int 14, .int 0, .ref (am 1), .ref (am 2), .ref (am 3), .ref (am 4), .ref (am 5), .int 0, .int 0, .int 0, .int 0, .int 0, .int 0, .int 0, .ref (am 6), .int 0, .ref (am 7), .int 0, .ref (am 8), .ref (am 9), .int (-1), .int 0, .int 0, .int (-1), .int 0, .ref (am 10), .int 0, .ref (am 11), .ref (am 12), .ref (am 13), .ref (am 14), .long 0, .ref (am 15), .ref (am 16), .ref (am 17), .ref (am 18)])), ((am 0), .inl (G.2.2 2, 400, .inl f_9))]) hx hb hK hP hD hS 1 rfl f_9 (by unfold vp_in; decide +kernel) ef_9 rfl dX12_four_19 (fun H locs hP hD hS => ?_)
  refine lv_aload_n hx hb dX12_four_20 rfl (lv_at hl 1 rfl) ?_
  refine lv_dup hx hb dX12_four_21 rfl ?_
  refine gq_get hx hb ht hown hK hP i_X12 0 rfl rfl 1 (by decide) wd_1253 rfl rfl dX12_four_22 ?_
  refine lv_iconst (v := 1) hx hb dX12_four_25 (by decide) ?_
  refine gq_iadd hx hb 15 (by decide +kernel) dX12_four_26 ?_
  refine gq_put (ws' := [(h0, .inr (12, [.ref (am 0), .int 15, .int 0, .ref (am 1), .ref (am 2), .ref (am 3), .ref (am 4), .ref (am 5), .int 0, .int 0, .int 0, .int 0, .int 0, .int 0, .int 0, .ref (am 6), .int 0, .ref (am 7), .int 0, .ref (am 8), .ref (am 9), .int (-1), .int 0, .int 0, .int (-1), .int 0, .ref (am 10), .int 0, .ref (am 11), .ref (am 12), .ref (am 13), .ref (am 14), .long 0, .ref (am 15), .ref (am 16), .ref (am 17), .ref (am 18)])), ((am 0), .inl (G.2.2 2, 400, .inl f_9))]) hx hb ht hown hK hP hD hS i_X12 tyX12 tyX12_ok nmX12 0 rfl rfl 1 (by decide) wd_1253 rfl rfl rfl rfl (Nat.le_of_ble_eq_true rfl) rfl dX12_four_27 (fun H locs hP hD hS => ?_)
  refine lv_iinc (v := 0) (lv' := [(2, .int 0), (0, .ref h0), (1, .int x)]) hx hb dX12_four_30 hl (k := 0) rfl (by decide +kernel) (by decide) rfl (fun ls hl => ?_)
  refine lv_goto (tgt := 3) hx hb dX12_four_33 (by decide) ?_
  refine lv_iload_n hx hb dX12_four_3 rfl (lv_at hl 0 rfl) ?_
  refine lv_if_lt (tgt := 36) hx hb dX12_four_4 (by decide) (fun c0 => absurd c0 (by decide +kernel)) (fun _ => ?_)
  refine lv_aload_n hx hb dX12_four_7 rfl (lv_at hl 1 rfl) ?_
  refine gq_get hx hb ht hown hK hP i_X12 0 rfl rfl 0 (by decide) wd_1252 rfl rfl dX12_four_8 ?_
  refine lv_aload_n hx hb dX12_four_11 rfl (lv_at hl 1 rfl) ?_
  refine gq_get hx hb ht hown hK hP i_X12 0 rfl rfl 1 (by decide) wd_1253 rfl rfl dX12_four_12 ?_
  refine lv_iload_n hx hb dX12_four_15 rfl (lv_at hl 2 rfl) ?_
  refine lv_iload_n hx hb dX12_four_16 rfl (lv_at hl 0 rfl) ?_
  obtain ⟨t_10, et_10⟩ : ∃ z : Int32, (x >>> (0 &&& 31)) = z := ⟨_, rfl⟩
  refine gq_ishr hx hb t_10 et_10 dX12_four_17 ?_
  obtain ⟨t_11, et_11⟩ : ∃ z : Int32, (t_10).toInt8.toInt32 = z := ⟨_, rfl⟩
  refine lv_i2b hx hb dX12_four_18 et_11 ?_
  obtain ⟨f_12, ef_12⟩ : ∃ z : Nat → Int32, upd f_9 (Int32.toNatClampNeg 15) (vp_nar .byte t_11) = z := ⟨_, rfl⟩
  refine gq_bast (ws' := [(h0, .inr (12, [.ref (am 0), .int 15, .int 0, .ref (am 1), .ref (am 2), .ref (am 3), .ref (am 4), .ref (am 5), .int 0, .int 0, .int 0, .int 0, .int 0, .int 0, .int 0, .ref (am 6), .int 0, .ref (am 7), .int 0, .ref (am 8), .ref (am 9), .int (-1), .int 0, .int 0, .int (-1), .int 0, .ref (am 10), .int 0, .ref (am 11), .ref (am 12), .ref (am 13), .ref (am 14), .long 0, .ref (am 15), .ref (am 16), .ref (am 17), .ref (am 18)])), ((am 0), .inl (G.2.2 2, 400, .inl f_12))]) hx hb hK hP hD hS 1 rfl f_12 (by unfold vp_in; decide +kernel) ef_12 rfl dX12_four_19 (fun H locs hP hD hS => ?_)
  refine lv_aload_n hx hb dX12_four_20 rfl (lv_at hl 1 rfl) ?_
  refine lv_dup hx hb dX12_four_21 rfl ?_
  refine gq_get hx hb ht hown hK hP i_X12 0 rfl rfl 1 (by decide) wd_1253 rfl rfl dX12_four_22 ?_
  refine lv_iconst (v := 1) hx hb dX12_four_25 (by decide) ?_
  refine gq_iadd hx hb 16 (by decide +kernel) dX12_four_26 ?_
  refine gq_put (ws' := [(h0, .inr (12, [.ref (am 0), .int 16, .int 0, .ref (am 1), .ref (am 2), .ref (am 3), .ref (am 4), .ref (am 5), .int 0, .int 0, .int 0, .int 0, .int 0, .int 0, .int 0, .ref (am 6), .int 0, .ref (am 7), .int 0, .ref (am 8), .ref (am 9), .int (-1), .int 0, .int 0, .int (-1), .int 0, .ref (am 10), .int 0, .ref (am 11), .ref (am 12), .ref (am 13), .ref (am 14), .long 0, .ref (am 15), .ref (am 16), .ref (am 17), .ref (am 18)])), ((am 0), .inl (G.2.2 2, 400, .inl f_12))]) hx hb ht hown hK hP hD hS i_X12 tyX12 tyX12_ok nmX12 0 rfl rfl 1 (by decide) wd_1253 rfl rfl rfl rfl (Nat.le_of_ble_eq_true rfl) rfl dX12_four_27 (fun H locs hP hD hS => ?_)
  refine lv_iinc (v := (-8)) (lv' := [(2, .int (-8)), (0, .ref h0), (1, .int x)]) hx hb dX12_four_30 hl (k := 0) rfl (by decide +kernel) (by decide) rfl (fun ls hl => ?_)
  refine lv_goto (tgt := 3) hx hb dX12_four_33 (by decide) ?_
  refine lv_iload_n hx hb dX12_four_3 rfl (lv_at hl 0 rfl) ?_
  refine lv_if_lt (tgt := 36) hx hb dX12_four_4 (by decide) (fun _ => ?_) (fun c0 => absurd (by decide +kernel) c0)
  have hP9 := hP.sub (ws' := [(h0, .inr (12, [.ref (am 0), .int 16, .int 0, .ref (am 1), .ref (am 2), .ref (am 3), .ref (am 4), .ref (am 5), .int 0, .int 0, .int 0, .int 0, .int 0, .int 0, .int 0, .ref (am 6), .int 0, .ref (am 7), .int 0, .ref (am 8), .ref (am 9), .int (-1), .int 0, .int 0, .int (-1), .int 0, .ref (am 10), .int 0, .ref (am 11), .ref (am 12), .ref (am 13), .ref (am 14), .long 0, .ref (am 15), .ref (am 16), .ref (am 17), .ref (am 18)])), ((am 0), .inl (G.2.2 2, 400, .inl f_12))]) [0, 1] rfl
  have hD9 := hD.sub (ws' := [(h0, .inr (12, [.ref (am 0), .int 16, .int 0, .ref (am 1), .ref (am 2), .ref (am 3), .ref (am 4), .ref (am 5), .int 0, .int 0, .int 0, .int 0, .int 0, .int 0, .int 0, .ref (am 6), .int 0, .ref (am 7), .int 0, .ref (am 8), .ref (am 9), .int (-1), .int 0, .int 0, .int (-1), .int 0, .ref (am 10), .int 0, .ref (am 11), .ref (am 12), .ref (am 13), .ref (am 14), .long 0, .ref (am 15), .ref (am 16), .ref (am 17), .ref (am 18)])), ((am 0), .inl (G.2.2 2, 400, .inl f_12))]) [0, 1] (by decide) rfl
  exact W.vret hx hb hr (gq_endV (f_12) trivial hP9 hD9 hS) hS.2.2 dX12_four_36
set_option maxHeartbeats 4000000 in
set_option maxRecDepth 100000 in
theorem c_M_four16 (l : Launch) (G : gg_T) (sz : Nat) (h0 : Nat) (am : Nat → Nat) (x : Int32) (f : Nat → Int32) : Met l yX12_four (ts_L yX12_four cX12_four 3 none) ({ frames := 0, cells := 0, slots := 0, locals := 0 }) (gc_P G [(h0, .inr (12, [.ref (am 0), .int 16, .int 0, .ref (am 1), .ref (am 2), .ref (am 3), .ref (am 4), .ref (am 5), .int 0, .int 0, .int 0, .int 0, .int 0, .int 0, .int 0, .ref (am 6), .int 0, .ref (am 7), .int 0, .ref (am 8), .ref (am 9), .int (-1), .int 0, .int 0, .int (-1), .int 0, .ref (am 10), .int 0, .ref (am 11), .ref (am 12), .ref (am 13), .ref (am 14), .long 0, .ref (am 15), .ref (am 16), .ref (am 17), .ref (am 18)])), ((am 0), .inl (G.2.2 2, 400, .inl f))] sz [.ref h0, .int x]) (gc_V G (va_A [(h0, .inr (12, [.ref (am 0), .int 16, .int 0, .ref (am 1), .ref (am 2), .ref (am 3), .ref (am 4), .ref (am 5), .int 0, .int 0, .int 0, .int 0, .int 0, .int 0, .int 0, .ref (am 6), .int 0, .ref (am 7), .int 0, .ref (am 8), .ref (am 9), .int (-1), .int 0, .int 0, .int (-1), .int 0, .ref (am 10), .int 0, .ref (am 11), .ref (am 12), .ref (am 13), .ref (am 14), .long 0, .ref (am 15), .ref (am 16), .ref (am 17), .ref (am 18)])), ((am 0), .inl (G.2.2 2, 400, .inl f))] sz) (fun (_ : (Nat → Int32)) => True) (fun (u : (Nat → Int32)) => match u with | g => [(h0, .inr (12, [.ref (am 0), .int 20, .int 0, .ref (am 1), .ref (am 2), .ref (am 3), .ref (am 4), .ref (am 5), .int 0, .int 0, .int 0, .int 0, .int 0, .int 0, .int 0, .ref (am 6), .int 0, .ref (am 7), .int 0, .ref (am 8), .ref (am 9), .int (-1), .int 0, .int 0, .int (-1), .int 0, .ref (am 10), .int 0, .ref (am 11), .ref (am 12), .ref (am 13), .ref (am 14), .long 0, .ref (am 15), .ref (am 16), .ref (am 17), .ref (am 18)])), ((am 0), .inl (G.2.2 2, 400, .inl g))])) 0 0 (va_A [(h0, .inr (12, [.ref (am 0), .int 16, .int 0, .ref (am 1), .ref (am 2), .ref (am 3), .ref (am 4), .ref (am 5), .int 0, .int 0, .int 0, .int 0, .int 0, .int 0, .int 0, .ref (am 6), .int 0, .ref (am 7), .int 0, .ref (am 8), .ref (am 9), .int (-1), .int 0, .int 0, .int (-1), .int 0, .ref (am 10), .int 0, .ref (am 11), .ref (am 12), .ref (am 13), .ref (am 14), .long 0, .ref (am 15), .ref (am 16), .ref (am 17), .ref (am 18)])), ((am 0), .inl (G.2.2 2, 400, .inl f))] sz) := by
  refine Met.ofW (cc := cX12_four) (maxL := 3) (ret := none) (by decide) rfl ?_
  intro p e s m args below meth c s₁ B hml hv
  obtain ⟨rfl, hsz, hP, hK, hD0⟩ := hv
  have hx := B.exec
  have hb := B.bytes
  have hr := B.returns
  have ht := ts_ht (atoms_spec (ws := ts_L yX12_four cX12_four 3 none) B.pre)
  have hown : s.vm.findClass RX12 = some m.cls := findClass_of_methodNamed B.named
  have hlocks := B.notSynchronized
  subst hsz
  have hD := hD0.self (sz := s.heap.size)
  generalize hAe : va_A [(h0, .inr (12, [.ref (am 0), .int 16, .int 0, .ref (am 1), .ref (am 2), .ref (am 3), .ref (am 4), .ref (am 5), .int 0, .int 0, .int 0, .int 0, .int 0, .int 0, .int 0, .ref (am 6), .int 0, .ref (am 7), .int 0, .ref (am 8), .ref (am 9), .int (-1), .int 0, .int 0, .int (-1), .int 0, .ref (am 10), .int 0, .ref (am 11), .ref (am 12), .ref (am 13), .ref (am 14), .long 0, .ref (am 15), .ref (am 16), .ref (am 17), .ref (am 18)])), ((am 0), .inl (G.2.2 2, 400, .inl f))] s.heap.size = A at hD ⊢
  have hA : ∀ q : Nat, s.heap.size ≤ q → A q := fun q h => by rw [← hAe]; exact Or.inr h
  have hS : va_S A s.heap s.heap [] := va_S.rf
  have hl := lv_entry ([.ref h0, .int x]) (n := 3) (Nat.le_of_ble_eq_true rfl)
  rw [lg_entry_eq]
  generalize (lg_sl ([.ref h0, .int x]) ++ List.replicate (3 - (lg_sl ([.ref h0, .int x])).length) Slot.unset).toArray = ls at hl ⊢
  have hl : lv_has ls 3 [(0, .ref h0), (1, .int x)] := hl
  refine lv_bipush (v := 24) hx hb dX12_four_0 (by decide +kernel) ?_
  refine lv_istore_n (lv' := [(2, .int 24), (0, .ref h0), (1, .int x)]) hx hb dX12_four_2 rfl hl (by decide) rfl (fun ls hl => ?_)
  refine lv_iload_n hx hb dX12_four_3 rfl (lv_at hl 0 rfl) ?_
  refine lv_if_lt (tgt := 36) hx hb dX12_four_4 (by decide) (fun c0 => absurd c0 (by decide +kernel)) (fun _ => ?_)
  refine lv_aload_n hx hb dX12_four_7 rfl (lv_at hl 1 rfl) ?_
  refine gq_get hx hb ht hown hK hP i_X12 0 rfl rfl 0 (by decide) wd_1252 rfl rfl dX12_four_8 ?_
  refine lv_aload_n hx hb dX12_four_11 rfl (lv_at hl 1 rfl) ?_
  refine gq_get hx hb ht hown hK hP i_X12 0 rfl rfl 1 (by decide) wd_1253 rfl rfl dX12_four_12 ?_
  refine lv_iload_n hx hb dX12_four_15 rfl (lv_at hl 2 rfl) ?_
  refine lv_iload_n hx hb dX12_four_16 rfl (lv_at hl 0 rfl) ?_
  obtain ⟨t_1, et_1⟩ : ∃ z : Int32, (x >>> (24 &&& 31)) = z := ⟨_, rfl⟩
  refine gq_ishr hx hb t_1 et_1 dX12_four_17 ?_
  obtain ⟨t_2, et_2⟩ : ∃ z : Int32, (t_1).toInt8.toInt32 = z := ⟨_, rfl⟩
  refine lv_i2b hx hb dX12_four_18 et_2 ?_
  obtain ⟨f_3, ef_3⟩ : ∃ z : Nat → Int32, upd f (Int32.toNatClampNeg 16) (vp_nar .byte t_2) = z := ⟨_, rfl⟩
  refine gq_bast (ws' := [(h0, .inr (12, [.ref (am 0), .int 16, .int 0, .ref (am 1), .ref (am 2), .ref (am 3), .ref (am 4), .ref (am 5), .int 0, .int 0, .int 0, .int 0, .int 0, .int 0, .int 0, .ref (am 6), .int 0, .ref (am 7), .int 0, .ref (am 8), .ref (am 9), .int (-1), .int 0, .int 0, .int (-1), .int 0, .ref (am 10), .int 0, .ref (am 11), .ref (am 12), .ref (am 13), .ref (am 14), .long 0, .ref (am 15), .ref (am 16), .ref (am 17), .ref (am 18)])), ((am 0), .inl (G.2.2 2, 400, .inl f_3))]) hx hb hK hP hD hS 1 rfl f_3 (by unfold vp_in; decide +kernel) ef_3 rfl dX12_four_19 (fun H locs hP hD hS => ?_)
  refine lv_aload_n hx hb dX12_four_20 rfl (lv_at hl 1 rfl) ?_
  refine lv_dup hx hb dX12_four_21 rfl ?_
  refine gq_get hx hb ht hown hK hP i_X12 0 rfl rfl 1 (by decide) wd_1253 rfl rfl dX12_four_22 ?_
  refine lv_iconst (v := 1) hx hb dX12_four_25 (by decide) ?_
  refine gq_iadd hx hb 17 (by decide +kernel) dX12_four_26 ?_
  refine gq_put (ws' := [(h0, .inr (12, [.ref (am 0), .int 17, .int 0, .ref (am 1), .ref (am 2), .ref (am 3), .ref (am 4), .ref (am 5), .int 0, .int 0, .int 0, .int 0, .int 0, .int 0, .int 0, .ref (am 6), .int 0, .ref (am 7), .int 0, .ref (am 8), .ref (am 9), .int (-1), .int 0, .int 0, .int (-1), .int 0, .ref (am 10), .int 0, .ref (am 11), .ref (am 12), .ref (am 13), .ref (am 14), .long 0, .ref (am 15), .ref (am 16), .ref (am 17), .ref (am 18)])), ((am 0), .inl (G.2.2 2, 400, .inl f_3))]) hx hb ht hown hK hP hD hS i_X12 tyX12 tyX12_ok nmX12 0 rfl rfl 1 (by decide) wd_1253 rfl rfl rfl rfl (Nat.le_of_ble_eq_true rfl) rfl dX12_four_27 (fun H locs hP hD hS => ?_)
  refine lv_iinc (v := 16) (lv' := [(2, .int 16), (0, .ref h0), (1, .int x)]) hx hb dX12_four_30 hl (k := 0) rfl (by decide +kernel) (by decide) rfl (fun ls hl => ?_)
  refine lv_goto (tgt := 3) hx hb dX12_four_33 (by decide) ?_
  refine lv_iload_n hx hb dX12_four_3 rfl (lv_at hl 0 rfl) ?_
  refine lv_if_lt (tgt := 36) hx hb dX12_four_4 (by decide) (fun c0 => absurd c0 (by decide +kernel)) (fun _ => ?_)
  refine lv_aload_n hx hb dX12_four_7 rfl (lv_at hl 1 rfl) ?_
  refine gq_get hx hb ht hown hK hP i_X12 0 rfl rfl 0 (by decide) wd_1252 rfl rfl dX12_four_8 ?_
  refine lv_aload_n hx hb dX12_four_11 rfl (lv_at hl 1 rfl) ?_
  refine gq_get hx hb ht hown hK hP i_X12 0 rfl rfl 1 (by decide) wd_1253 rfl rfl dX12_four_12 ?_
  refine lv_iload_n hx hb dX12_four_15 rfl (lv_at hl 2 rfl) ?_
  refine lv_iload_n hx hb dX12_four_16 rfl (lv_at hl 0 rfl) ?_
  obtain ⟨t_4, et_4⟩ : ∃ z : Int32, (x >>> (16 &&& 31)) = z := ⟨_, rfl⟩
  refine gq_ishr hx hb t_4 et_4 dX12_four_17 ?_
  obtain ⟨t_5, et_5⟩ : ∃ z : Int32, (t_4).toInt8.toInt32 = z := ⟨_, rfl⟩
  refine lv_i2b hx hb dX12_four_18 et_5 ?_
  obtain ⟨f_6, ef_6⟩ : ∃ z : Nat → Int32, upd f_3 (Int32.toNatClampNeg 17) (vp_nar .byte t_5) = z := ⟨_, rfl⟩
  refine gq_bast (ws' := [(h0, .inr (12, [.ref (am 0), .int 17, .int 0, .ref (am 1), .ref (am 2), .ref (am 3), .ref (am 4), .ref (am 5), .int 0, .int 0, .int 0, .int 0, .int 0, .int 0, .int 0, .ref (am 6), .int 0, .ref (am 7), .int 0, .ref (am 8), .ref (am 9), .int (-1), .int 0, .int 0, .int (-1), .int 0, .ref (am 10), .int 0, .ref (am 11), .ref (am 12), .ref (am 13), .ref (am 14), .long 0, .ref (am 15), .ref (am 16), .ref (am 17), .ref (am 18)])), ((am 0), .inl (G.2.2 2, 400, .inl f_6))]) hx hb hK hP hD hS 1 rfl f_6 (by unfold vp_in; decide +kernel) ef_6 rfl dX12_four_19 (fun H locs hP hD hS => ?_)
  refine lv_aload_n hx hb dX12_four_20 rfl (lv_at hl 1 rfl) ?_
  refine lv_dup hx hb dX12_four_21 rfl ?_
  refine gq_get hx hb ht hown hK hP i_X12 0 rfl rfl 1 (by decide) wd_1253 rfl rfl dX12_four_22 ?_
  refine lv_iconst (v := 1) hx hb dX12_four_25 (by decide) ?_
  refine gq_iadd hx hb 18 (by decide +kernel) dX12_four_26 ?_
  refine gq_put (ws' := [(h0, .inr (12, [.ref (am 0), .int 18, .int 0, .ref (am 1), .ref (am 2), .ref (am 3), .ref (am 4), .ref (am 5), .int 0, .int 0, .int 0, .int 0, .int 0, .int 0, .int 0, .ref (am 6), .int 0, .ref (am 7), .int 0, .ref (am 8), .ref (am 9), .int (-1), .int 0, .int 0, .int (-1), .int 0, .ref (am 10), .int 0, .ref (am 11), .ref (am 12), .ref (am 13), .ref (am 14), .long 0, .ref (am 15), .ref (am 16), .ref (am 17), .ref (am 18)])), ((am 0), .inl (G.2.2 2, 400, .inl f_6))]) hx hb ht hown hK hP hD hS i_X12 tyX12 tyX12_ok nmX12 0 rfl rfl 1 (by decide) wd_1253 rfl rfl rfl rfl (Nat.le_of_ble_eq_true rfl) rfl dX12_four_27 (fun H locs hP hD hS => ?_)
  refine lv_iinc (v := 8) (lv' := [(2, .int 8), (0, .ref h0), (1, .int x)]) hx hb dX12_four_30 hl (k := 0) rfl (by decide +kernel) (by decide) rfl (fun ls hl => ?_)
  refine lv_goto (tgt := 3) hx hb dX12_four_33 (by decide) ?_
  refine lv_iload_n hx hb dX12_four_3 rfl (lv_at hl 0 rfl) ?_
  refine lv_if_lt (tgt := 36) hx hb dX12_four_4 (by decide) (fun c0 => absurd c0 (by decide +kernel)) (fun _ => ?_)
  refine lv_aload_n hx hb dX12_four_7 rfl (lv_at hl 1 rfl) ?_
  refine gq_get hx hb ht hown hK hP i_X12 0 rfl rfl 0 (by decide) wd_1252 rfl rfl dX12_four_8 ?_
  refine lv_aload_n hx hb dX12_four_11 rfl (lv_at hl 1 rfl) ?_
  refine gq_get hx hb ht hown hK hP i_X12 0 rfl rfl 1 (by decide) wd_1253 rfl rfl dX12_four_12 ?_
  refine lv_iload_n hx hb dX12_four_15 rfl (lv_at hl 2 rfl) ?_
  refine lv_iload_n hx hb dX12_four_16 rfl (lv_at hl 0 rfl) ?_
  obtain ⟨t_7, et_7⟩ : ∃ z : Int32, (x >>> (8 &&& 31)) = z := ⟨_, rfl⟩
  refine gq_ishr hx hb t_7 et_7 dX12_four_17 ?_
  obtain ⟨t_8, et_8⟩ : ∃ z : Int32, (t_7).toInt8.toInt32 = z := ⟨_, rfl⟩
  refine lv_i2b hx hb dX12_four_18 et_8 ?_
  obtain ⟨f_9, ef_9⟩ : ∃ z : Nat → Int32, upd f_6 (Int32.toNatClampNeg 18) (vp_nar .byte t_8) = z := ⟨_, rfl⟩
  refine gq_bast (ws' := [(h0, .inr (12, [.ref (am 0), .int 18, .int 0, .ref (am 1), .ref (am 2), .ref (am 3), .ref (am 4), .ref (am 5), .int 0, .int 0, .int 0, .int 0, .int 0, .int 0, .int 0, .ref (am 6), .int 0, .ref (am 7), .int 0, .ref (am 8), .ref (am 9), .int (-1), .int 0, .int 0, .int (-1), .int 0, .ref (am 10), .int 0, .ref (am 11), .ref (am 12), .ref (am 13), .ref (am 14), .long 0, .ref (am 15), .ref (am 16), .ref (am 17), .ref (am 18)])), ((am 0), .inl (G.2.2 2, 400, .inl f_9))]) hx hb hK hP hD hS 1 rfl f_9 (by unfold vp_in; decide +kernel) ef_9 rfl dX12_four_19 (fun H locs hP hD hS => ?_)
  refine lv_aload_n hx hb dX12_four_20 rfl (lv_at hl 1 rfl) ?_
  refine lv_dup hx hb dX12_four_21 rfl ?_
  refine gq_get hx hb ht hown hK hP i_X12 0 rfl rfl 1 (by decide) wd_1253 rfl rfl dX12_four_22 ?_
  refine lv_iconst (v := 1) hx hb dX12_four_25 (by decide) ?_
  refine gq_iadd hx hb 19 (by decide +kernel) dX12_four_26 ?_
  refine gq_put (ws' := [(h0, .inr (12, [.ref (am 0), .int 19, .int 0, .ref (am 1), .ref (am 2), .ref (am 3), .ref (am 4), .ref (am 5), .int 0, .int 0, .int 0, .int 0, .int 0, .int 0, .int 0, .ref (am 6), .int 0, .ref (am 7), .int 0, .ref (am 8), .ref (am 9), .int (-1), .int 0, .int 0, .int (-1), .int 0, .ref (am 10), .int 0, .ref (am 11), .ref (am 12), .ref (am 13), .ref (am 14), .long 0, .ref (am 15), .ref (am 16), .ref (am 17), .ref (am 18)])), ((am 0), .inl (G.2.2 2, 400, .inl f_9))]) hx hb ht hown hK hP hD hS i_X12 tyX12 tyX12_ok nmX12 0 rfl rfl 1 (by decide) wd_1253 rfl rfl rfl rfl (Nat.le_of_ble_eq_true rfl) rfl dX12_four_27 (fun H locs hP hD hS => ?_)
  refine lv_iinc (v := 0) (lv' := [(2, .int 0), (0, .ref h0), (1, .int x)]) hx hb dX12_four_30 hl (k := 0) rfl (by decide +kernel) (by decide) rfl (fun ls hl => ?_)
  refine lv_goto (tgt := 3) hx hb dX12_four_33 (by decide) ?_
  refine lv_iload_n hx hb dX12_four_3 rfl (lv_at hl 0 rfl) ?_
  refine lv_if_lt (tgt := 36) hx hb dX12_four_4 (by decide) (fun c0 => absurd c0 (by decide +kernel)) (fun _ => ?_)
  refine lv_aload_n hx hb dX12_four_7 rfl (lv_at hl 1 rfl) ?_
  refine gq_get hx hb ht hown hK hP i_X12 0 rfl rfl 0 (by decide) wd_1252 rfl rfl dX12_four_8 ?_
  refine lv_aload_n hx hb dX12_four_11 rfl (lv_at hl 1 rfl) ?_
  refine gq_get hx hb ht hown hK hP i_X12 0 rfl rfl 1 (by decide) wd_1253 rfl rfl dX12_four_12 ?_
  refine lv_iload_n hx hb dX12_four_15 rfl (lv_at hl 2 rfl) ?_
  refine lv_iload_n hx hb dX12_four_16 rfl (lv_at hl 0 rfl) ?_
  obtain ⟨t_10, et_10⟩ : ∃ z : Int32, (x >>> (0 &&& 31)) = z := ⟨_, rfl⟩
  refine gq_ishr hx hb t_10 et_10 dX12_four_17 ?_
  obtain ⟨t_11, et_11⟩ : ∃ z : Int32, (t_10).toInt8.toInt32 = z := ⟨_, rfl⟩
  refine lv_i2b hx hb dX12_four_18 et_11 ?_
  obtain ⟨f_12, ef_12⟩ : ∃ z : Nat → Int32, upd f_9 (Int32.toNatClampNeg 19) (vp_nar .byte t_11) = z := ⟨_, rfl⟩
  refine gq_bast (ws' := [(h0, .inr (12, [.ref (am 0), .int 19, .int 0, .ref (am 1), .ref (am 2), .ref (am 3), .ref (am 4), .ref (am 5), .int 0, .int 0, .int 0, .int 0, .int 0, .int 0, .int 0, .ref (am 6), .int 0, .ref (am 7), .int 0, .ref (am 8), .ref (am 9), .int (-1), .int 0, .int 0, .int (-1), .int 0, .ref (am 10), .int 0, .ref (am 11), .ref (am 12), .ref (am 13), .ref (am 14), .long 0, .ref (am 15), .ref (am 16), .ref (am 17), .ref (am 18)])), ((am 0), .inl (G.2.2 2, 400, .inl f_12))]) hx hb hK hP hD hS 1 rfl f_12 (by unfold vp_in; decide +kernel) ef_12 rfl dX12_four_19 (fun H locs hP hD hS => ?_)
  refine lv_aload_n hx hb dX12_four_20 rfl (lv_at hl 1 rfl) ?_
  refine lv_dup hx hb dX12_four_21 rfl ?_
  refine gq_get hx hb ht hown hK hP i_X12 0 rfl rfl 1 (by decide) wd_1253 rfl rfl dX12_four_22 ?_
  refine lv_iconst (v := 1) hx hb dX12_four_25 (by decide) ?_
  refine gq_iadd hx hb 20 (by decide +kernel) dX12_four_26 ?_
  refine gq_put (ws' := [(h0, .inr (12, [.ref (am 0), .int 20, .int 0, .ref (am 1), .ref (am 2), .ref (am 3), .ref (am 4), .ref (am 5), .int 0, .int 0, .int 0, .int 0, .int 0, .int 0, .int 0, .ref (am 6), .int 0, .ref (am 7), .int 0, .ref (am 8), .ref (am 9), .int (-1), .int 0, .int 0, .int (-1), .int 0, .ref (am 10), .int 0, .ref (am 11), .ref (am 12), .ref (am 13), .ref (am 14), .long 0, .ref (am 15), .ref (am 16), .ref (am 17), .ref (am 18)])), ((am 0), .inl (G.2.2 2, 400, .inl f_12))]) hx hb ht hown hK hP hD hS i_X12 tyX12 tyX12_ok nmX12 0 rfl rfl 1 (by decide) wd_1253 rfl rfl rfl rfl (Nat.le_of_ble_eq_true rfl) rfl dX12_four_27 (fun H locs hP hD hS => ?_)
  refine lv_iinc (v := (-8)) (lv' := [(2, .int (-8)), (0, .ref h0), (1, .int x)]) hx hb dX12_four_30 hl (k := 0) rfl (by decide +kernel) (by decide) rfl (fun ls hl => ?_)
  refine lv_goto (tgt := 3) hx hb dX12_four_33 (by decide) ?_
  refine lv_iload_n hx hb dX12_four_3 rfl (lv_at hl 0 rfl) ?_
  refine lv_if_lt (tgt := 36) hx hb dX12_four_4 (by decide) (fun _ => ?_) (fun c0 => absurd (by decide +kernel) c0)
  have hP9 := hP.sub (ws' := [(h0, .inr (12, [.ref (am 0), .int 20, .int 0, .ref (am 1), .ref (am 2), .ref (am 3), .ref (am 4), .ref (am 5), .int 0, .int 0, .int 0, .int 0, .int 0, .int 0, .int 0, .ref (am 6), .int 0, .ref (am 7), .int 0, .ref (am 8), .ref (am 9), .int (-1), .int 0, .int 0, .int (-1), .int 0, .ref (am 10), .int 0, .ref (am 11), .ref (am 12), .ref (am 13), .ref (am 14), .long 0, .ref (am 15), .ref (am 16), .ref (am 17), .ref (am 18)])), ((am 0), .inl (G.2.2 2, 400, .inl f_12))]) [0, 1] rfl
  have hD9 := hD.sub (ws' := [(h0, .inr (12, [.ref (am 0), .int 20, .int 0, .ref (am 1), .ref (am 2), .ref (am 3), .ref (am 4), .ref (am 5), .int 0, .int 0, .int 0, .int 0, .int 0, .int 0, .int 0, .ref (am 6), .int 0, .ref (am 7), .int 0, .ref (am 8), .ref (am 9), .int (-1), .int 0, .int 0, .int (-1), .int 0, .ref (am 10), .int 0, .ref (am 11), .ref (am 12), .ref (am 13), .ref (am 14), .long 0, .ref (am 15), .ref (am 16), .ref (am 17), .ref (am 18)])), ((am 0), .inl (G.2.2 2, 400, .inl f_12))]) [0, 1] (by decide) rfl
  exact W.vret hx hb hr (gq_endV (f_12) trivial hP9 hD9 hS) hS.2.2 dX12_four_36
set_option maxHeartbeats 4000000 in
set_option maxRecDepth 100000 in
theorem c_M_in (l : Launch) (G : gg_T) (sz : Nat) (v : Int64) (lo : Int64) (hi : Int64) : Met l yX12_in (ts_L yX12_in cX12_in 6 (some .boolean)) ({ frames := 0, cells := 0, slots := 0, locals := 0 }) (gc_P G [] sz [.long v, .long lo, .long hi]) (gc_I G (va_A [] sz) (fun r (_ : Unit) => r = (mi_in v lo hi)) (fun _ => [])) 0 0 (va_A [] sz) := by
  refine Met.ofW (cc := cX12_in) (maxL := 6) (ret := (some .boolean)) (by decide) rfl ?_
  intro p e s m args below meth c s₁ B hml hv
  obtain ⟨rfl, hsz, hP, hK, hD0⟩ := hv
  have hx := B.exec
  have hb := B.bytes
  have hr := B.returns
  have ht := ts_ht (atoms_spec (ws := ts_L yX12_in cX12_in 6 (some .boolean)) B.pre)
  have hown : s.vm.findClass RX12 = some m.cls := findClass_of_methodNamed B.named
  have hlocks := B.notSynchronized
  subst hsz
  have hD := hD0.self (sz := s.heap.size)
  generalize hAe : va_A [] s.heap.size = A at hD ⊢
  have hA : ∀ q : Nat, s.heap.size ≤ q → A q := fun q h => by rw [← hAe]; exact Or.inr h
  have hS : va_S A s.heap s.heap [] := va_S.rf
  have hl := lv_entry ([.long v, .long lo, .long hi]) (n := 6) (Nat.le_of_ble_eq_true rfl)
  rw [lg_entry_eq]
  generalize (lg_sl ([.long v, .long lo, .long hi]) ++ List.replicate (6 - (lg_sl ([.long v, .long lo, .long hi])).length) Slot.unset).toArray = ls at hl ⊢
  have hl : lv_has ls 6 [(0, .long v), (2, .long lo), (4, .long hi)] := hl
  refine lv_lload_n hx hb dX12_in_0 rfl (lv_at hl 0 rfl) ?_
  refine lv_lload_n hx hb dX12_in_1 rfl (lv_at hl 1 rfl) ?_
  obtain ⟨t_1, et_1⟩ : ∃ z : Int32, lg_cmp v lo = z := ⟨_, rfl⟩
  refine gq_lcmp hx hb t_1 et_1 dX12_in_2 ?_
  refine lv_if_lt (tgt := 17) hx hb dX12_in_3 (by decide) (fun c_2 => ?_) (fun c_2 => ?_)
  · refine lv_iconst (v := 0) hx hb dX12_in_17 (by decide) ?_
    have hP9 := hP.sub (ws' := []) [] rfl
    have hD9 := hD.sub (ws' := []) [] (by decide) rfl
    exact W.zret (v := 0) hx hb hr (by decide +kernel) (gq_endI () (mi_2 et_1 c_2).symm hP9 hD9 hS) hS.2.2 dX12_in_18
  · refine lv_lload_n hx hb dX12_in_6 rfl (lv_at hl 0 rfl) ?_
    refine lv_lload hx hb dX12_in_7 (lv_at hl 2 rfl) ?_
    obtain ⟨t_3, et_3⟩ : ∃ z : Int32, lg_cmp v hi = z := ⟨_, rfl⟩
    refine gq_lcmp hx hb t_3 et_3 dX12_in_9 ?_
    refine lv_if_gt (tgt := 17) hx hb dX12_in_10 (by decide) (fun c_4 => ?_) (fun c_4 => ?_)
    · refine lv_iconst (v := 0) hx hb dX12_in_17 (by decide) ?_
      have hP9 := hP.sub (ws' := []) [] rfl
      have hD9 := hD.sub (ws' := []) [] (by decide) rfl
      exact W.zret (v := 0) hx hb hr (by decide +kernel) (gq_endI () (mi_3 et_3 c_4).symm hP9 hD9 hS) hS.2.2 dX12_in_18
    · refine lv_iconst (v := 1) hx hb dX12_in_13 (by decide) ?_
      refine lv_goto (tgt := 18) hx hb dX12_in_14 (by decide) ?_
      have hP9 := hP.sub (ws' := []) [] rfl
      have hD9 := hD.sub (ws' := []) [] (by decide) rfl
      exact W.zret (v := 1) hx hb hr (by decide +kernel) (gq_endI () (mi_1 et_1 c_2 et_3 c_4).symm hP9 hD9 hS) hS.2.2 dX12_in_18
set_option maxHeartbeats 4000000 in
set_option maxRecDepth 100000 in
theorem c_M_isRule (l : Launch) (G : gg_T) (sz : Nat) (h0 : Nat) (am : Nat → Nat) (b : Int32) : Met l yX12_isRule (ts_L yX12_isRule cX12_isRule 2 (some .boolean)) ({ frames := 0, cells := 0, slots := 0, locals := 0 }) (gc_P G [(h0, .inr (12, [.ref (am 0), .int 0, .int 0, .ref (am 1), .ref (am 2), .ref (am 3), .ref (am 4), .ref (am 5), .int 0, .int 0, .int 0, .int 0, .int 0, .int 0, .int 0, .ref (am 6), .int 0, .ref (am 7), .int 0, .ref (am 8), .ref (am 9), .int (-1), .int 0, .int 0, .int (-1), .int 0, .ref (am 10), .int 0, .ref (am 11), .ref (am 12), .ref (am 13), .ref (am 14), .long 0, .ref (am 15), .ref (am 16), .ref (am 17), .ref (am 18)]))] sz [.ref h0, .int b]) (gc_I G (va_A [(h0, .inr (12, [.ref (am 0), .int 0, .int 0, .ref (am 1), .ref (am 2), .ref (am 3), .ref (am 4), .ref (am 5), .int 0, .int 0, .int 0, .int 0, .int 0, .int 0, .int 0, .ref (am 6), .int 0, .ref (am 7), .int 0, .ref (am 8), .ref (am 9), .int (-1), .int 0, .int 0, .int (-1), .int 0, .ref (am 10), .int 0, .ref (am 11), .ref (am 12), .ref (am 13), .ref (am 14), .long 0, .ref (am 15), .ref (am 16), .ref (am 17), .ref (am 18)]))] sz) (fun r (_ : Unit) => r = 0) (fun _ => [(h0, .inr (12, [.ref (am 0), .int 0, .int 0, .ref (am 1), .ref (am 2), .ref (am 3), .ref (am 4), .ref (am 5), .int 0, .int 0, .int 0, .int 0, .int 0, .int 0, .int 0, .ref (am 6), .int 0, .ref (am 7), .int 0, .ref (am 8), .ref (am 9), .int (-1), .int 0, .int 0, .int (-1), .int 0, .ref (am 10), .int 0, .ref (am 11), .ref (am 12), .ref (am 13), .ref (am 14), .long 0, .ref (am 15), .ref (am 16), .ref (am 17), .ref (am 18)]))])) 0 0 (va_A [(h0, .inr (12, [.ref (am 0), .int 0, .int 0, .ref (am 1), .ref (am 2), .ref (am 3), .ref (am 4), .ref (am 5), .int 0, .int 0, .int 0, .int 0, .int 0, .int 0, .int 0, .ref (am 6), .int 0, .ref (am 7), .int 0, .ref (am 8), .ref (am 9), .int (-1), .int 0, .int 0, .int (-1), .int 0, .ref (am 10), .int 0, .ref (am 11), .ref (am 12), .ref (am 13), .ref (am 14), .long 0, .ref (am 15), .ref (am 16), .ref (am 17), .ref (am 18)]))] sz) := by
  refine Met.ofW (cc := cX12_isRule) (maxL := 2) (ret := (some .boolean)) (by decide) rfl ?_
  intro p e s m args below meth c s₁ B hml hv
  obtain ⟨rfl, hsz, hP, hK, hD0⟩ := hv
  have hx := B.exec
  have hb := B.bytes
  have hr := B.returns
  have ht := ts_ht (atoms_spec (ws := ts_L yX12_isRule cX12_isRule 2 (some .boolean)) B.pre)
  have hown : s.vm.findClass RX12 = some m.cls := findClass_of_methodNamed B.named
  have hlocks := B.notSynchronized
  subst hsz
  have hD := hD0.self (sz := s.heap.size)
  generalize hAe : va_A [(h0, .inr (12, [.ref (am 0), .int 0, .int 0, .ref (am 1), .ref (am 2), .ref (am 3), .ref (am 4), .ref (am 5), .int 0, .int 0, .int 0, .int 0, .int 0, .int 0, .int 0, .ref (am 6), .int 0, .ref (am 7), .int 0, .ref (am 8), .ref (am 9), .int (-1), .int 0, .int 0, .int (-1), .int 0, .ref (am 10), .int 0, .ref (am 11), .ref (am 12), .ref (am 13), .ref (am 14), .long 0, .ref (am 15), .ref (am 16), .ref (am 17), .ref (am 18)]))] s.heap.size = A at hD ⊢
  have hA : ∀ q : Nat, s.heap.size ≤ q → A q := fun q h => by rw [← hAe]; exact Or.inr h
  have hS : va_S A s.heap s.heap [] := va_S.rf
  have hl := lv_entry ([.ref h0, .int b]) (n := 2) (Nat.le_of_ble_eq_true rfl)
  rw [lg_entry_eq]
  generalize (lg_sl ([.ref h0, .int b]) ++ List.replicate (2 - (lg_sl ([.ref h0, .int b])).length) Slot.unset).toArray = ls at hl ⊢
  have hl : lv_has ls 2 [(0, .ref h0), (1, .int b)] := hl
  refine lv_iload_n hx hb dX12_isRule_0 rfl (lv_at hl 1 rfl) ?_
  refine lv_if_lt (tgt := 16) hx hb dX12_isRule_1 (by decide) (fun c_1 => ?_) (fun c_1 => ?_)
  · refine lv_iconst (v := 0) hx hb dX12_isRule_16 (by decide) ?_
    have hP9 := hP.sub (ws' := [(h0, .inr (12, [.ref (am 0), .int 0, .int 0, .ref (am 1), .ref (am 2), .ref (am 3), .ref (am 4), .ref (am 5), .int 0, .int 0, .int 0, .int 0, .int 0, .int 0, .int 0, .ref (am 6), .int 0, .ref (am 7), .int 0, .ref (am 8), .ref (am 9), .int (-1), .int 0, .int 0, .int (-1), .int 0, .ref (am 10), .int 0, .ref (am 11), .ref (am 12), .ref (am 13), .ref (am 14), .long 0, .ref (am 15), .ref (am 16), .ref (am 17), .ref (am 18)]))]) [0] rfl
    have hD9 := hD.sub (ws' := [(h0, .inr (12, [.ref (am 0), .int 0, .int 0, .ref (am 1), .ref (am 2), .ref (am 3), .ref (am 4), .ref (am 5), .int 0, .int 0, .int 0, .int 0, .int 0, .int 0, .int 0, .ref (am 6), .int 0, .ref (am 7), .int 0, .ref (am 8), .ref (am 9), .int (-1), .int 0, .int 0, .int (-1), .int 0, .ref (am 10), .int 0, .ref (am 11), .ref (am 12), .ref (am 13), .ref (am 14), .long 0, .ref (am 15), .ref (am 16), .ref (am 17), .ref (am 18)]))]) [0] (by decide) rfl
    exact W.zret (v := 0) hx hb hr (by decide +kernel) (gq_endI () rfl hP9 hD9 hS) hS.2.2 dX12_isRule_17
  · refine lv_iload_n hx hb dX12_isRule_4 rfl (lv_at hl 1 rfl) ?_
    refine lv_aload_n hx hb dX12_isRule_5 rfl (lv_at hl 0 rfl) ?_
    refine gq_get hx hb ht hown hK hP i_X12 0 rfl rfl 2 (by decide) wd_1254 rfl rfl dX12_isRule_6 ?_
    refine lv_icmp_ge (tgt := 16) hx hb dX12_isRule_9 (by decide) (fun _ => ?_) (fun c0 => False.elim (by have k0 : (0 : Int32).toInt = 0 := (by decide +kernel); simp only [Int32.lt_iff_toInt_lt, Int32.le_iff_toInt_le, ← Int32.toInt_inj] at c_1 c0; omega))
    refine lv_iconst (v := 0) hx hb dX12_isRule_16 (by decide) ?_
    have hP9 := hP.sub (ws' := [(h0, .inr (12, [.ref (am 0), .int 0, .int 0, .ref (am 1), .ref (am 2), .ref (am 3), .ref (am 4), .ref (am 5), .int 0, .int 0, .int 0, .int 0, .int 0, .int 0, .int 0, .ref (am 6), .int 0, .ref (am 7), .int 0, .ref (am 8), .ref (am 9), .int (-1), .int 0, .int 0, .int (-1), .int 0, .ref (am 10), .int 0, .ref (am 11), .ref (am 12), .ref (am 13), .ref (am 14), .long 0, .ref (am 15), .ref (am 16), .ref (am 17), .ref (am 18)]))]) [0] rfl
    have hD9 := hD.sub (ws' := [(h0, .inr (12, [.ref (am 0), .int 0, .int 0, .ref (am 1), .ref (am 2), .ref (am 3), .ref (am 4), .ref (am 5), .int 0, .int 0, .int 0, .int 0, .int 0, .int 0, .int 0, .ref (am 6), .int 0, .ref (am 7), .int 0, .ref (am 8), .ref (am 9), .int (-1), .int 0, .int 0, .int (-1), .int 0, .ref (am 10), .int 0, .ref (am 11), .ref (am 12), .ref (am 13), .ref (am 14), .long 0, .ref (am 15), .ref (am 16), .ref (am 17), .ref (am 18)]))]) [0] (by decide) rfl
    exact W.zret (v := 0) hx hb hr (by decide +kernel) (gq_endI () rfl hP9 hD9 hS) hS.2.2 dX12_isRule_17
set_option maxHeartbeats 4000000 in
set_option maxRecDepth 100000 in
theorem c_M_isSale (l : Launch) (G : gg_T) (sz : Nat) (h0 : Nat) (am : Nat → Nat) : Met l yX12_isSale (ts_L yX12_isSale cX12_isSale 1 (some .boolean)) ({ frames := 0, cells := 0, slots := 0, locals := 0 }) (gc_P G [(h0, .inr (12, [.ref (am 0), .int 0, .int 0, .ref (am 1), .ref (am 2), .ref (am 3), .ref (am 4), .ref (am 5), .int 0, .int 0, .int 0, .int 0, .int 0, .int 0, .int 0, .ref (am 6), .int 0, .ref (am 7), .int 0, .ref (am 8), .ref (am 9), .int (-1), .int 0, .int 0, .int (-1), .int 0, .ref (am 10), .int 0, .ref (am 11), .ref (am 12), .ref (am 13), .ref (am 14), .long 0, .ref (am 15), .ref (am 16), .ref (am 17), .ref (am 18)])), ((am 9), .inl (G.2.2 0, 110, .inl (fun _ => 0)))] sz [.ref h0]) (gc_I G (va_A [(h0, .inr (12, [.ref (am 0), .int 0, .int 0, .ref (am 1), .ref (am 2), .ref (am 3), .ref (am 4), .ref (am 5), .int 0, .int 0, .int 0, .int 0, .int 0, .int 0, .int 0, .ref (am 6), .int 0, .ref (am 7), .int 0, .ref (am 8), .ref (am 9), .int (-1), .int 0, .int 0, .int (-1), .int 0, .ref (am 10), .int 0, .ref (am 11), .ref (am 12), .ref (am 13), .ref (am 14), .long 0, .ref (am 15), .ref (am 16), .ref (am 17), .ref (am 18)])), ((am 9), .inl (G.2.2 0, 110, .inl (fun _ => 0)))] sz) (fun r (_ : Unit) => r = 0) (fun _ => [(h0, .inr (12, [.ref (am 0), .int 0, .int 0, .ref (am 1), .ref (am 2), .ref (am 3), .ref (am 4), .ref (am 5), .int 0, .int 0, .int 0, .int 0, .int 0, .int 0, .int 0, .ref (am 6), .int 0, .ref (am 7), .int 0, .ref (am 8), .ref (am 9), .int (-1), .int 0, .int 0, .int (-1), .int 0, .ref (am 10), .int 0, .ref (am 11), .ref (am 12), .ref (am 13), .ref (am 14), .long 0, .ref (am 15), .ref (am 16), .ref (am 17), .ref (am 18)])), ((am 9), .inl (G.2.2 0, 110, .inl (fun _ => 0)))])) 0 0 (va_A [(h0, .inr (12, [.ref (am 0), .int 0, .int 0, .ref (am 1), .ref (am 2), .ref (am 3), .ref (am 4), .ref (am 5), .int 0, .int 0, .int 0, .int 0, .int 0, .int 0, .int 0, .ref (am 6), .int 0, .ref (am 7), .int 0, .ref (am 8), .ref (am 9), .int (-1), .int 0, .int 0, .int (-1), .int 0, .ref (am 10), .int 0, .ref (am 11), .ref (am 12), .ref (am 13), .ref (am 14), .long 0, .ref (am 15), .ref (am 16), .ref (am 17), .ref (am 18)])), ((am 9), .inl (G.2.2 0, 110, .inl (fun _ => 0)))] sz) := by
  refine Met.ofW (cc := cX12_isSale) (maxL := 1) (ret := (some .boolean)) (by decide) rfl ?_
  intro p e s m args below meth c s₁ B hml hv
  obtain ⟨rfl, hsz, hP, hK, hD0⟩ := hv
  have hx := B.exec
  have hb := B.bytes
  have hr := B.returns
  have ht := ts_ht (atoms_spec (ws := ts_L yX12_isSale cX12_isSale 1 (some .boolean)) B.pre)
  have hown : s.vm.findClass RX12 = some m.cls := findClass_of_methodNamed B.named
  have hlocks := B.notSynchronized
  subst hsz
  have hD := hD0.self (sz := s.heap.size)
  generalize hAe : va_A [(h0, .inr (12, [.ref (am 0), .int 0, .int 0, .ref (am 1), .ref (am 2), .ref (am 3), .ref (am 4), .ref (am 5), .int 0, .int 0, .int 0, .int 0, .int 0, .int 0, .int 0, .ref (am 6), .int 0, .ref (am 7), .int 0, .ref (am 8), .ref (am 9), .int (-1), .int 0, .int 0, .int (-1), .int 0, .ref (am 10), .int 0, .ref (am 11), .ref (am 12), .ref (am 13), .ref (am 14), .long 0, .ref (am 15), .ref (am 16), .ref (am 17), .ref (am 18)])), ((am 9), .inl (G.2.2 0, 110, .inl (fun _ => 0)))] s.heap.size = A at hD ⊢
  have hA : ∀ q : Nat, s.heap.size ≤ q → A q := fun q h => by rw [← hAe]; exact Or.inr h
  have hS : va_S A s.heap s.heap [] := va_S.rf
  have hl := lv_entry ([.ref h0]) (n := 1) (Nat.le_of_ble_eq_true rfl)
  rw [lg_entry_eq]
  generalize (lg_sl ([.ref h0]) ++ List.replicate (1 - (lg_sl ([.ref h0])).length) Slot.unset).toArray = ls at hl ⊢
  have hl : lv_has ls 1 [(0, .ref h0)] := hl
  refine lv_aload_n hx hb dX12_isSale_0 rfl (lv_at hl 0 rfl) ?_
  refine gq_get hx hb ht hown hK hP i_X12 0 rfl rfl 20 (by decide) wd_1272 rfl rfl dX12_isSale_1 ?_
  refine lv_iconst (v := 0) hx hb dX12_isSale_4 (by decide) ?_
  refine gq_iald hx hb hK hP 1 rfl 0 (by unfold vp_in; decide +kernel) rfl dX12_isSale_5 ?_
  refine lv_if_le (tgt := 13) hx hb dX12_isSale_6 (by decide) (fun _ => ?_) (fun c0 => absurd (by decide +kernel) c0)
  refine lv_iconst (v := 0) hx hb dX12_isSale_13 (by decide) ?_
  have hP9 := hP.sub (ws' := [(h0, .inr (12, [.ref (am 0), .int 0, .int 0, .ref (am 1), .ref (am 2), .ref (am 3), .ref (am 4), .ref (am 5), .int 0, .int 0, .int 0, .int 0, .int 0, .int 0, .int 0, .ref (am 6), .int 0, .ref (am 7), .int 0, .ref (am 8), .ref (am 9), .int (-1), .int 0, .int 0, .int (-1), .int 0, .ref (am 10), .int 0, .ref (am 11), .ref (am 12), .ref (am 13), .ref (am 14), .long 0, .ref (am 15), .ref (am 16), .ref (am 17), .ref (am 18)])), ((am 9), .inl (G.2.2 0, 110, .inl (fun _ => 0)))]) [0, 1] rfl
  have hD9 := hD.sub (ws' := [(h0, .inr (12, [.ref (am 0), .int 0, .int 0, .ref (am 1), .ref (am 2), .ref (am 3), .ref (am 4), .ref (am 5), .int 0, .int 0, .int 0, .int 0, .int 0, .int 0, .int 0, .ref (am 6), .int 0, .ref (am 7), .int 0, .ref (am 8), .ref (am 9), .int (-1), .int 0, .int 0, .int (-1), .int 0, .ref (am 10), .int 0, .ref (am 11), .ref (am 12), .ref (am 13), .ref (am 14), .long 0, .ref (am 15), .ref (am 16), .ref (am 17), .ref (am 18)])), ((am 9), .inl (G.2.2 0, 110, .inl (fun _ => 0)))]) [0, 1] (by decide) rfl
  exact W.zret (v := 0) hx hb hr (by decide +kernel) (gq_endI () rfl hP9 hD9 hS) hS.2.2 dX12_isSale_14
set_option maxHeartbeats 4000000 in
set_option maxRecDepth 100000 in
theorem c_M_isBidder (l : Launch) (G : gg_T) (sz : Nat) (h0 : Nat) (am : Nat → Nat) (b : Int32) : Met l yX12_isBidder (ts_L yX12_isBidder cX12_isBidder 2 (some .boolean)) ({ frames := 0, cells := 0, slots := 0, locals := 0 }) (gc_P G [(h0, .inr (12, [.ref (am 0), .int 0, .int 0, .ref (am 1), .ref (am 2), .ref (am 3), .ref (am 4), .ref (am 5), .int 0, .int 0, .int 0, .int 0, .int 0, .int 0, .int 0, .ref (am 6), .int 0, .ref (am 7), .int 0, .ref (am 8), .ref (am 9), .int (-1), .int 0, .int 0, .int (-1), .int 0, .ref (am 10), .int 0, .ref (am 11), .ref (am 12), .ref (am 13), .ref (am 14), .long 0, .ref (am 15), .ref (am 16), .ref (am 17), .ref (am 18)])), ((am 9), .inl (G.2.2 0, 110, .inl (fun _ => 0)))] sz [.ref h0, .int b]) (gc_I G (va_A [(h0, .inr (12, [.ref (am 0), .int 0, .int 0, .ref (am 1), .ref (am 2), .ref (am 3), .ref (am 4), .ref (am 5), .int 0, .int 0, .int 0, .int 0, .int 0, .int 0, .int 0, .ref (am 6), .int 0, .ref (am 7), .int 0, .ref (am 8), .ref (am 9), .int (-1), .int 0, .int 0, .int (-1), .int 0, .ref (am 10), .int 0, .ref (am 11), .ref (am 12), .ref (am 13), .ref (am 14), .long 0, .ref (am 15), .ref (am 16), .ref (am 17), .ref (am 18)])), ((am 9), .inl (G.2.2 0, 110, .inl (fun _ => 0)))] sz) (fun r (_ : Unit) => r = 0) (fun _ => [(h0, .inr (12, [.ref (am 0), .int 0, .int 0, .ref (am 1), .ref (am 2), .ref (am 3), .ref (am 4), .ref (am 5), .int 0, .int 0, .int 0, .int 0, .int 0, .int 0, .int 0, .ref (am 6), .int 0, .ref (am 7), .int 0, .ref (am 8), .ref (am 9), .int (-1), .int 0, .int 0, .int (-1), .int 0, .ref (am 10), .int 0, .ref (am 11), .ref (am 12), .ref (am 13), .ref (am 14), .long 0, .ref (am 15), .ref (am 16), .ref (am 17), .ref (am 18)])), ((am 9), .inl (G.2.2 0, 110, .inl (fun _ => 0)))])) 0 0 (va_A [(h0, .inr (12, [.ref (am 0), .int 0, .int 0, .ref (am 1), .ref (am 2), .ref (am 3), .ref (am 4), .ref (am 5), .int 0, .int 0, .int 0, .int 0, .int 0, .int 0, .int 0, .ref (am 6), .int 0, .ref (am 7), .int 0, .ref (am 8), .ref (am 9), .int (-1), .int 0, .int 0, .int (-1), .int 0, .ref (am 10), .int 0, .ref (am 11), .ref (am 12), .ref (am 13), .ref (am 14), .long 0, .ref (am 15), .ref (am 16), .ref (am 17), .ref (am 18)])), ((am 9), .inl (G.2.2 0, 110, .inl (fun _ => 0)))] sz) := by
  refine Met.ofW (cc := cX12_isBidder) (maxL := 2) (ret := (some .boolean)) (by decide) rfl ?_
  intro p e s m args below meth c s₁ B hml hv
  obtain ⟨rfl, hsz, hP, hK, hD0⟩ := hv
  have hx := B.exec
  have hb := B.bytes
  have hr := B.returns
  have ht := ts_ht (atoms_spec (ws := ts_L yX12_isBidder cX12_isBidder 2 (some .boolean)) B.pre)
  have hown : s.vm.findClass RX12 = some m.cls := findClass_of_methodNamed B.named
  have hlocks := B.notSynchronized
  subst hsz
  have hD := hD0.self (sz := s.heap.size)
  generalize hAe : va_A [(h0, .inr (12, [.ref (am 0), .int 0, .int 0, .ref (am 1), .ref (am 2), .ref (am 3), .ref (am 4), .ref (am 5), .int 0, .int 0, .int 0, .int 0, .int 0, .int 0, .int 0, .ref (am 6), .int 0, .ref (am 7), .int 0, .ref (am 8), .ref (am 9), .int (-1), .int 0, .int 0, .int (-1), .int 0, .ref (am 10), .int 0, .ref (am 11), .ref (am 12), .ref (am 13), .ref (am 14), .long 0, .ref (am 15), .ref (am 16), .ref (am 17), .ref (am 18)])), ((am 9), .inl (G.2.2 0, 110, .inl (fun _ => 0)))] s.heap.size = A at hD ⊢
  have hA : ∀ q : Nat, s.heap.size ≤ q → A q := fun q h => by rw [← hAe]; exact Or.inr h
  have hS : va_S A s.heap s.heap [] := va_S.rf
  have hl := lv_entry ([.ref h0, .int b]) (n := 2) (Nat.le_of_ble_eq_true rfl)
  rw [lg_entry_eq]
  generalize (lg_sl ([.ref h0, .int b]) ++ List.replicate (2 - (lg_sl ([.ref h0, .int b])).length) Slot.unset).toArray = ls at hl ⊢
  have hl : lv_has ls 2 [(0, .ref h0), (1, .int b)] := hl
  refine lv_iload_n hx hb dX12_isBidder_0 rfl (lv_at hl 1 rfl) ?_
  refine lv_if_lt (tgt := 18) hx hb dX12_isBidder_1 (by decide) (fun c_1 => ?_) (fun c_1 => ?_)
  · refine lv_iconst (v := 0) hx hb dX12_isBidder_18 (by decide) ?_
    have hP9 := hP.sub (ws' := [(h0, .inr (12, [.ref (am 0), .int 0, .int 0, .ref (am 1), .ref (am 2), .ref (am 3), .ref (am 4), .ref (am 5), .int 0, .int 0, .int 0, .int 0, .int 0, .int 0, .int 0, .ref (am 6), .int 0, .ref (am 7), .int 0, .ref (am 8), .ref (am 9), .int (-1), .int 0, .int 0, .int (-1), .int 0, .ref (am 10), .int 0, .ref (am 11), .ref (am 12), .ref (am 13), .ref (am 14), .long 0, .ref (am 15), .ref (am 16), .ref (am 17), .ref (am 18)])), ((am 9), .inl (G.2.2 0, 110, .inl (fun _ => 0)))]) [0, 1] rfl
    have hD9 := hD.sub (ws' := [(h0, .inr (12, [.ref (am 0), .int 0, .int 0, .ref (am 1), .ref (am 2), .ref (am 3), .ref (am 4), .ref (am 5), .int 0, .int 0, .int 0, .int 0, .int 0, .int 0, .int 0, .ref (am 6), .int 0, .ref (am 7), .int 0, .ref (am 8), .ref (am 9), .int (-1), .int 0, .int 0, .int (-1), .int 0, .ref (am 10), .int 0, .ref (am 11), .ref (am 12), .ref (am 13), .ref (am 14), .long 0, .ref (am 15), .ref (am 16), .ref (am 17), .ref (am 18)])), ((am 9), .inl (G.2.2 0, 110, .inl (fun _ => 0)))]) [0, 1] (by decide) rfl
    exact W.zret (v := 0) hx hb hr (by decide +kernel) (gq_endI () rfl hP9 hD9 hS) hS.2.2 dX12_isBidder_19
  · refine lv_iload_n hx hb dX12_isBidder_4 rfl (lv_at hl 1 rfl) ?_
    refine lv_aload_n hx hb dX12_isBidder_5 rfl (lv_at hl 0 rfl) ?_
    refine gq_get hx hb ht hown hK hP i_X12 0 rfl rfl 20 (by decide) wd_1272 rfl rfl dX12_isBidder_6 ?_
    refine lv_iconst (v := 1) hx hb dX12_isBidder_9 (by decide) ?_
    refine gq_iald hx hb hK hP 1 rfl 0 (by unfold vp_in; decide +kernel) rfl dX12_isBidder_10 ?_
    refine lv_icmp_ge (tgt := 18) hx hb dX12_isBidder_11 (by decide) (fun _ => ?_) (fun c0 => False.elim (by have k0 : (0 : Int32).toInt = 0 := (by decide +kernel); simp only [Int32.lt_iff_toInt_lt, Int32.le_iff_toInt_le, ← Int32.toInt_inj] at c_1 c0; omega))
    refine lv_iconst (v := 0) hx hb dX12_isBidder_18 (by decide) ?_
    have hP9 := hP.sub (ws' := [(h0, .inr (12, [.ref (am 0), .int 0, .int 0, .ref (am 1), .ref (am 2), .ref (am 3), .ref (am 4), .ref (am 5), .int 0, .int 0, .int 0, .int 0, .int 0, .int 0, .int 0, .ref (am 6), .int 0, .ref (am 7), .int 0, .ref (am 8), .ref (am 9), .int (-1), .int 0, .int 0, .int (-1), .int 0, .ref (am 10), .int 0, .ref (am 11), .ref (am 12), .ref (am 13), .ref (am 14), .long 0, .ref (am 15), .ref (am 16), .ref (am 17), .ref (am 18)])), ((am 9), .inl (G.2.2 0, 110, .inl (fun _ => 0)))]) [0, 1] rfl
    have hD9 := hD.sub (ws' := [(h0, .inr (12, [.ref (am 0), .int 0, .int 0, .ref (am 1), .ref (am 2), .ref (am 3), .ref (am 4), .ref (am 5), .int 0, .int 0, .int 0, .int 0, .int 0, .int 0, .int 0, .ref (am 6), .int 0, .ref (am 7), .int 0, .ref (am 8), .ref (am 9), .int (-1), .int 0, .int 0, .int (-1), .int 0, .ref (am 10), .int 0, .ref (am 11), .ref (am 12), .ref (am 13), .ref (am 14), .long 0, .ref (am 15), .ref (am 16), .ref (am 17), .ref (am 18)])), ((am 9), .inl (G.2.2 0, 110, .inl (fun _ => 0)))]) [0, 1] (by decide) rfl
    exact W.zret (v := 0) hx hb hr (by decide +kernel) (gq_endI () rfl hP9 hD9 hS) hS.2.2 dX12_isBidder_19
set_option maxHeartbeats 4000000 in
set_option maxRecDepth 100000 in
theorem c_M_isLot (l : Launch) (G : gg_T) (sz : Nat) (h0 : Nat) (am : Nat → Nat) (b : Int32) : Met l yX12_isLot (ts_L yX12_isLot cX12_isLot 2 (some .boolean)) ({ frames := 0, cells := 0, slots := 0, locals := 0 }) (gc_P G [(h0, .inr (12, [.ref (am 0), .int 0, .int 0, .ref (am 1), .ref (am 2), .ref (am 3), .ref (am 4), .ref (am 5), .int 0, .int 0, .int 0, .int 0, .int 0, .int 0, .int 0, .ref (am 6), .int 0, .ref (am 7), .int 0, .ref (am 8), .ref (am 9), .int (-1), .int 0, .int 0, .int (-1), .int 0, .ref (am 10), .int 0, .ref (am 11), .ref (am 12), .ref (am 13), .ref (am 14), .long 0, .ref (am 15), .ref (am 16), .ref (am 17), .ref (am 18)])), ((am 9), .inl (G.2.2 0, 110, .inl (fun _ => 0)))] sz [.ref h0, .int b]) (gc_I G (va_A [(h0, .inr (12, [.ref (am 0), .int 0, .int 0, .ref (am 1), .ref (am 2), .ref (am 3), .ref (am 4), .ref (am 5), .int 0, .int 0, .int 0, .int 0, .int 0, .int 0, .int 0, .ref (am 6), .int 0, .ref (am 7), .int 0, .ref (am 8), .ref (am 9), .int (-1), .int 0, .int 0, .int (-1), .int 0, .ref (am 10), .int 0, .ref (am 11), .ref (am 12), .ref (am 13), .ref (am 14), .long 0, .ref (am 15), .ref (am 16), .ref (am 17), .ref (am 18)])), ((am 9), .inl (G.2.2 0, 110, .inl (fun _ => 0)))] sz) (fun r (_ : Unit) => r = 0) (fun _ => [(h0, .inr (12, [.ref (am 0), .int 0, .int 0, .ref (am 1), .ref (am 2), .ref (am 3), .ref (am 4), .ref (am 5), .int 0, .int 0, .int 0, .int 0, .int 0, .int 0, .int 0, .ref (am 6), .int 0, .ref (am 7), .int 0, .ref (am 8), .ref (am 9), .int (-1), .int 0, .int 0, .int (-1), .int 0, .ref (am 10), .int 0, .ref (am 11), .ref (am 12), .ref (am 13), .ref (am 14), .long 0, .ref (am 15), .ref (am 16), .ref (am 17), .ref (am 18)])), ((am 9), .inl (G.2.2 0, 110, .inl (fun _ => 0)))])) 0 0 (va_A [(h0, .inr (12, [.ref (am 0), .int 0, .int 0, .ref (am 1), .ref (am 2), .ref (am 3), .ref (am 4), .ref (am 5), .int 0, .int 0, .int 0, .int 0, .int 0, .int 0, .int 0, .ref (am 6), .int 0, .ref (am 7), .int 0, .ref (am 8), .ref (am 9), .int (-1), .int 0, .int 0, .int (-1), .int 0, .ref (am 10), .int 0, .ref (am 11), .ref (am 12), .ref (am 13), .ref (am 14), .long 0, .ref (am 15), .ref (am 16), .ref (am 17), .ref (am 18)])), ((am 9), .inl (G.2.2 0, 110, .inl (fun _ => 0)))] sz) := by
  refine Met.ofW (cc := cX12_isLot) (maxL := 2) (ret := (some .boolean)) (by decide) rfl ?_
  intro p e s m args below meth c s₁ B hml hv
  obtain ⟨rfl, hsz, hP, hK, hD0⟩ := hv
  have hx := B.exec
  have hb := B.bytes
  have hr := B.returns
  have ht := ts_ht (atoms_spec (ws := ts_L yX12_isLot cX12_isLot 2 (some .boolean)) B.pre)
  have hown : s.vm.findClass RX12 = some m.cls := findClass_of_methodNamed B.named
  have hlocks := B.notSynchronized
  subst hsz
  have hD := hD0.self (sz := s.heap.size)
  generalize hAe : va_A [(h0, .inr (12, [.ref (am 0), .int 0, .int 0, .ref (am 1), .ref (am 2), .ref (am 3), .ref (am 4), .ref (am 5), .int 0, .int 0, .int 0, .int 0, .int 0, .int 0, .int 0, .ref (am 6), .int 0, .ref (am 7), .int 0, .ref (am 8), .ref (am 9), .int (-1), .int 0, .int 0, .int (-1), .int 0, .ref (am 10), .int 0, .ref (am 11), .ref (am 12), .ref (am 13), .ref (am 14), .long 0, .ref (am 15), .ref (am 16), .ref (am 17), .ref (am 18)])), ((am 9), .inl (G.2.2 0, 110, .inl (fun _ => 0)))] s.heap.size = A at hD ⊢
  have hA : ∀ q : Nat, s.heap.size ≤ q → A q := fun q h => by rw [← hAe]; exact Or.inr h
  have hS : va_S A s.heap s.heap [] := va_S.rf
  have hl := lv_entry ([.ref h0, .int b]) (n := 2) (Nat.le_of_ble_eq_true rfl)
  rw [lg_entry_eq]
  generalize (lg_sl ([.ref h0, .int b]) ++ List.replicate (2 - (lg_sl ([.ref h0, .int b])).length) Slot.unset).toArray = ls at hl ⊢
  have hl : lv_has ls 2 [(0, .ref h0), (1, .int b)] := hl
  refine lv_iload_n hx hb dX12_isLot_0 rfl (lv_at hl 1 rfl) ?_
  refine lv_if_lt (tgt := 18) hx hb dX12_isLot_1 (by decide) (fun c_1 => ?_) (fun c_1 => ?_)
  · refine lv_iconst (v := 0) hx hb dX12_isLot_18 (by decide) ?_
    have hP9 := hP.sub (ws' := [(h0, .inr (12, [.ref (am 0), .int 0, .int 0, .ref (am 1), .ref (am 2), .ref (am 3), .ref (am 4), .ref (am 5), .int 0, .int 0, .int 0, .int 0, .int 0, .int 0, .int 0, .ref (am 6), .int 0, .ref (am 7), .int 0, .ref (am 8), .ref (am 9), .int (-1), .int 0, .int 0, .int (-1), .int 0, .ref (am 10), .int 0, .ref (am 11), .ref (am 12), .ref (am 13), .ref (am 14), .long 0, .ref (am 15), .ref (am 16), .ref (am 17), .ref (am 18)])), ((am 9), .inl (G.2.2 0, 110, .inl (fun _ => 0)))]) [0, 1] rfl
    have hD9 := hD.sub (ws' := [(h0, .inr (12, [.ref (am 0), .int 0, .int 0, .ref (am 1), .ref (am 2), .ref (am 3), .ref (am 4), .ref (am 5), .int 0, .int 0, .int 0, .int 0, .int 0, .int 0, .int 0, .ref (am 6), .int 0, .ref (am 7), .int 0, .ref (am 8), .ref (am 9), .int (-1), .int 0, .int 0, .int (-1), .int 0, .ref (am 10), .int 0, .ref (am 11), .ref (am 12), .ref (am 13), .ref (am 14), .long 0, .ref (am 15), .ref (am 16), .ref (am 17), .ref (am 18)])), ((am 9), .inl (G.2.2 0, 110, .inl (fun _ => 0)))]) [0, 1] (by decide) rfl
    exact W.zret (v := 0) hx hb hr (by decide +kernel) (gq_endI () rfl hP9 hD9 hS) hS.2.2 dX12_isLot_19
  · refine lv_iload_n hx hb dX12_isLot_4 rfl (lv_at hl 1 rfl) ?_
    refine lv_aload_n hx hb dX12_isLot_5 rfl (lv_at hl 0 rfl) ?_
    refine gq_get hx hb ht hown hK hP i_X12 0 rfl rfl 20 (by decide) wd_1272 rfl rfl dX12_isLot_6 ?_
    refine lv_iconst (v := 2) hx hb dX12_isLot_9 (by decide) ?_
    refine gq_iald hx hb hK hP 1 rfl 0 (by unfold vp_in; decide +kernel) rfl dX12_isLot_10 ?_
    refine lv_icmp_ge (tgt := 18) hx hb dX12_isLot_11 (by decide) (fun _ => ?_) (fun c0 => False.elim (by have k0 : (0 : Int32).toInt = 0 := (by decide +kernel); simp only [Int32.lt_iff_toInt_lt, Int32.le_iff_toInt_le, ← Int32.toInt_inj] at c_1 c0; omega))
    refine lv_iconst (v := 0) hx hb dX12_isLot_18 (by decide) ?_
    have hP9 := hP.sub (ws' := [(h0, .inr (12, [.ref (am 0), .int 0, .int 0, .ref (am 1), .ref (am 2), .ref (am 3), .ref (am 4), .ref (am 5), .int 0, .int 0, .int 0, .int 0, .int 0, .int 0, .int 0, .ref (am 6), .int 0, .ref (am 7), .int 0, .ref (am 8), .ref (am 9), .int (-1), .int 0, .int 0, .int (-1), .int 0, .ref (am 10), .int 0, .ref (am 11), .ref (am 12), .ref (am 13), .ref (am 14), .long 0, .ref (am 15), .ref (am 16), .ref (am 17), .ref (am 18)])), ((am 9), .inl (G.2.2 0, 110, .inl (fun _ => 0)))]) [0, 1] rfl
    have hD9 := hD.sub (ws' := [(h0, .inr (12, [.ref (am 0), .int 0, .int 0, .ref (am 1), .ref (am 2), .ref (am 3), .ref (am 4), .ref (am 5), .int 0, .int 0, .int 0, .int 0, .int 0, .int 0, .int 0, .ref (am 6), .int 0, .ref (am 7), .int 0, .ref (am 8), .ref (am 9), .int (-1), .int 0, .int 0, .int (-1), .int 0, .ref (am 10), .int 0, .ref (am 11), .ref (am 12), .ref (am 13), .ref (am 14), .long 0, .ref (am 15), .ref (am 16), .ref (am 17), .ref (am 18)])), ((am 9), .inl (G.2.2 0, 110, .inl (fun _ => 0)))]) [0, 1] (by decide) rfl
    exact W.zret (v := 0) hx hb hr (by decide +kernel) (gq_endI () rfl hP9 hD9 hS) hS.2.2 dX12_isLot_19
set_option maxHeartbeats 4000000 in
set_option maxRecDepth 100000 in
theorem c_M_isTrick (l : Launch) (G : gg_T) (sz : Nat) (h0 : Nat) (am : Nat → Nat) (b : Int32) : Met l yX12_isTrick (ts_L yX12_isTrick cX12_isTrick 2 (some .boolean)) ({ frames := 0, cells := 0, slots := 0, locals := 0 }) (gc_P G [(h0, .inr (12, [.ref (am 0), .int 0, .int 0, .ref (am 1), .ref (am 2), .ref (am 3), .ref (am 4), .ref (am 5), .int 0, .int 0, .int 0, .int 0, .int 0, .int 0, .int 0, .ref (am 6), .int 0, .ref (am 7), .int 0, .ref (am 8), .ref (am 9), .int (-1), .int 0, .int 0, .int (-1), .int 0, .ref (am 10), .int 0, .ref (am 11), .ref (am 12), .ref (am 13), .ref (am 14), .long 0, .ref (am 15), .ref (am 16), .ref (am 17), .ref (am 18)])), ((am 9), .inl (G.2.2 0, 110, .inl (fun _ => 0)))] sz [.ref h0, .int b]) (gc_I G (va_A [(h0, .inr (12, [.ref (am 0), .int 0, .int 0, .ref (am 1), .ref (am 2), .ref (am 3), .ref (am 4), .ref (am 5), .int 0, .int 0, .int 0, .int 0, .int 0, .int 0, .int 0, .ref (am 6), .int 0, .ref (am 7), .int 0, .ref (am 8), .ref (am 9), .int (-1), .int 0, .int 0, .int (-1), .int 0, .ref (am 10), .int 0, .ref (am 11), .ref (am 12), .ref (am 13), .ref (am 14), .long 0, .ref (am 15), .ref (am 16), .ref (am 17), .ref (am 18)])), ((am 9), .inl (G.2.2 0, 110, .inl (fun _ => 0)))] sz) (fun r (_ : Unit) => r = 0) (fun _ => [(h0, .inr (12, [.ref (am 0), .int 0, .int 0, .ref (am 1), .ref (am 2), .ref (am 3), .ref (am 4), .ref (am 5), .int 0, .int 0, .int 0, .int 0, .int 0, .int 0, .int 0, .ref (am 6), .int 0, .ref (am 7), .int 0, .ref (am 8), .ref (am 9), .int (-1), .int 0, .int 0, .int (-1), .int 0, .ref (am 10), .int 0, .ref (am 11), .ref (am 12), .ref (am 13), .ref (am 14), .long 0, .ref (am 15), .ref (am 16), .ref (am 17), .ref (am 18)])), ((am 9), .inl (G.2.2 0, 110, .inl (fun _ => 0)))])) 0 0 (va_A [(h0, .inr (12, [.ref (am 0), .int 0, .int 0, .ref (am 1), .ref (am 2), .ref (am 3), .ref (am 4), .ref (am 5), .int 0, .int 0, .int 0, .int 0, .int 0, .int 0, .int 0, .ref (am 6), .int 0, .ref (am 7), .int 0, .ref (am 8), .ref (am 9), .int (-1), .int 0, .int 0, .int (-1), .int 0, .ref (am 10), .int 0, .ref (am 11), .ref (am 12), .ref (am 13), .ref (am 14), .long 0, .ref (am 15), .ref (am 16), .ref (am 17), .ref (am 18)])), ((am 9), .inl (G.2.2 0, 110, .inl (fun _ => 0)))] sz) := by
  refine Met.ofW (cc := cX12_isTrick) (maxL := 2) (ret := (some .boolean)) (by decide) rfl ?_
  intro p e s m args below meth c s₁ B hml hv
  obtain ⟨rfl, hsz, hP, hK, hD0⟩ := hv
  have hx := B.exec
  have hb := B.bytes
  have hr := B.returns
  have ht := ts_ht (atoms_spec (ws := ts_L yX12_isTrick cX12_isTrick 2 (some .boolean)) B.pre)
  have hown : s.vm.findClass RX12 = some m.cls := findClass_of_methodNamed B.named
  have hlocks := B.notSynchronized
  subst hsz
  have hD := hD0.self (sz := s.heap.size)
  generalize hAe : va_A [(h0, .inr (12, [.ref (am 0), .int 0, .int 0, .ref (am 1), .ref (am 2), .ref (am 3), .ref (am 4), .ref (am 5), .int 0, .int 0, .int 0, .int 0, .int 0, .int 0, .int 0, .ref (am 6), .int 0, .ref (am 7), .int 0, .ref (am 8), .ref (am 9), .int (-1), .int 0, .int 0, .int (-1), .int 0, .ref (am 10), .int 0, .ref (am 11), .ref (am 12), .ref (am 13), .ref (am 14), .long 0, .ref (am 15), .ref (am 16), .ref (am 17), .ref (am 18)])), ((am 9), .inl (G.2.2 0, 110, .inl (fun _ => 0)))] s.heap.size = A at hD ⊢
  have hA : ∀ q : Nat, s.heap.size ≤ q → A q := fun q h => by rw [← hAe]; exact Or.inr h
  have hS : va_S A s.heap s.heap [] := va_S.rf
  have hl := lv_entry ([.ref h0, .int b]) (n := 2) (Nat.le_of_ble_eq_true rfl)
  rw [lg_entry_eq]
  generalize (lg_sl ([.ref h0, .int b]) ++ List.replicate (2 - (lg_sl ([.ref h0, .int b])).length) Slot.unset).toArray = ls at hl ⊢
  have hl : lv_has ls 2 [(0, .ref h0), (1, .int b)] := hl
  refine lv_iload_n hx hb dX12_isTrick_0 rfl (lv_at hl 1 rfl) ?_
  refine lv_if_lt (tgt := 18) hx hb dX12_isTrick_1 (by decide) (fun c_1 => ?_) (fun c_1 => ?_)
  · refine lv_iconst (v := 0) hx hb dX12_isTrick_18 (by decide) ?_
    have hP9 := hP.sub (ws' := [(h0, .inr (12, [.ref (am 0), .int 0, .int 0, .ref (am 1), .ref (am 2), .ref (am 3), .ref (am 4), .ref (am 5), .int 0, .int 0, .int 0, .int 0, .int 0, .int 0, .int 0, .ref (am 6), .int 0, .ref (am 7), .int 0, .ref (am 8), .ref (am 9), .int (-1), .int 0, .int 0, .int (-1), .int 0, .ref (am 10), .int 0, .ref (am 11), .ref (am 12), .ref (am 13), .ref (am 14), .long 0, .ref (am 15), .ref (am 16), .ref (am 17), .ref (am 18)])), ((am 9), .inl (G.2.2 0, 110, .inl (fun _ => 0)))]) [0, 1] rfl
    have hD9 := hD.sub (ws' := [(h0, .inr (12, [.ref (am 0), .int 0, .int 0, .ref (am 1), .ref (am 2), .ref (am 3), .ref (am 4), .ref (am 5), .int 0, .int 0, .int 0, .int 0, .int 0, .int 0, .int 0, .ref (am 6), .int 0, .ref (am 7), .int 0, .ref (am 8), .ref (am 9), .int (-1), .int 0, .int 0, .int (-1), .int 0, .ref (am 10), .int 0, .ref (am 11), .ref (am 12), .ref (am 13), .ref (am 14), .long 0, .ref (am 15), .ref (am 16), .ref (am 17), .ref (am 18)])), ((am 9), .inl (G.2.2 0, 110, .inl (fun _ => 0)))]) [0, 1] (by decide) rfl
    exact W.zret (v := 0) hx hb hr (by decide +kernel) (gq_endI () rfl hP9 hD9 hS) hS.2.2 dX12_isTrick_19
  · refine lv_iload_n hx hb dX12_isTrick_4 rfl (lv_at hl 1 rfl) ?_
    refine lv_aload_n hx hb dX12_isTrick_5 rfl (lv_at hl 0 rfl) ?_
    refine gq_get hx hb ht hown hK hP i_X12 0 rfl rfl 20 (by decide) wd_1272 rfl rfl dX12_isTrick_6 ?_
    refine lv_iconst (v := 3) hx hb dX12_isTrick_9 (by decide) ?_
    refine gq_iald hx hb hK hP 1 rfl 0 (by unfold vp_in; decide +kernel) rfl dX12_isTrick_10 ?_
    refine lv_icmp_ge (tgt := 18) hx hb dX12_isTrick_11 (by decide) (fun _ => ?_) (fun c0 => False.elim (by have k0 : (0 : Int32).toInt = 0 := (by decide +kernel); simp only [Int32.lt_iff_toInt_lt, Int32.le_iff_toInt_le, ← Int32.toInt_inj] at c_1 c0; omega))
    refine lv_iconst (v := 0) hx hb dX12_isTrick_18 (by decide) ?_
    have hP9 := hP.sub (ws' := [(h0, .inr (12, [.ref (am 0), .int 0, .int 0, .ref (am 1), .ref (am 2), .ref (am 3), .ref (am 4), .ref (am 5), .int 0, .int 0, .int 0, .int 0, .int 0, .int 0, .int 0, .ref (am 6), .int 0, .ref (am 7), .int 0, .ref (am 8), .ref (am 9), .int (-1), .int 0, .int 0, .int (-1), .int 0, .ref (am 10), .int 0, .ref (am 11), .ref (am 12), .ref (am 13), .ref (am 14), .long 0, .ref (am 15), .ref (am 16), .ref (am 17), .ref (am 18)])), ((am 9), .inl (G.2.2 0, 110, .inl (fun _ => 0)))]) [0, 1] rfl
    have hD9 := hD.sub (ws' := [(h0, .inr (12, [.ref (am 0), .int 0, .int 0, .ref (am 1), .ref (am 2), .ref (am 3), .ref (am 4), .ref (am 5), .int 0, .int 0, .int 0, .int 0, .int 0, .int 0, .int 0, .ref (am 6), .int 0, .ref (am 7), .int 0, .ref (am 8), .ref (am 9), .int (-1), .int 0, .int 0, .int (-1), .int 0, .ref (am 10), .int 0, .ref (am 11), .ref (am 12), .ref (am 13), .ref (am 14), .long 0, .ref (am 15), .ref (am 16), .ref (am 17), .ref (am 18)])), ((am 9), .inl (G.2.2 0, 110, .inl (fun _ => 0)))]) [0, 1] (by decide) rfl
    exact W.zret (v := 0) hx hb hr (by decide +kernel) (gq_endI () rfl hP9 hD9 hS) hS.2.2 dX12_isTrick_19
set_option maxHeartbeats 4000000 in
set_option maxRecDepth 100000 in
theorem c_M_lotsIn1 (l : Launch) (G : gg_T) (sz : Nat) (h0 : Nat) (am : Nat → Nat) : Met l yX12_lotsIn (ts_L yX12_lotsIn cX12_lotsIn 4 (some .int)) ({ frames := 0, cells := 0, slots := 0, locals := 0 }) (gc_P G [(h0, .inr (12, [.ref (am 0), .int 0, .int 0, .ref (am 1), .ref (am 2), .ref (am 3), .ref (am 4), .ref (am 5), .int 0, .int 0, .int 0, .int 0, .int 0, .int 0, .int 0, .ref (am 6), .int 0, .ref (am 7), .int 0, .ref (am 8), .ref (am 9), .int (-1), .int 0, .int 0, .int (-1), .int 0, .ref (am 10), .int 0, .ref (am 11), .ref (am 12), .ref (am 13), .ref (am 14), .long 0, .ref (am 15), .ref (am 16), .ref (am 17), .ref (am 18)])), ((am 9), .inl (G.2.2 0, 110, .inl (fun _ => 0)))] sz [.ref h0, .int 1]) (gc_I G (va_A [(h0, .inr (12, [.ref (am 0), .int 0, .int 0, .ref (am 1), .ref (am 2), .ref (am 3), .ref (am 4), .ref (am 5), .int 0, .int 0, .int 0, .int 0, .int 0, .int 0, .int 0, .ref (am 6), .int 0, .ref (am 7), .int 0, .ref (am 8), .ref (am 9), .int (-1), .int 0, .int 0, .int (-1), .int 0, .ref (am 10), .int 0, .ref (am 11), .ref (am 12), .ref (am 13), .ref (am 14), .long 0, .ref (am 15), .ref (am 16), .ref (am 17), .ref (am 18)])), ((am 9), .inl (G.2.2 0, 110, .inl (fun _ => 0)))] sz) (fun r (_ : Unit) => r = 0) (fun _ => [(h0, .inr (12, [.ref (am 0), .int 0, .int 0, .ref (am 1), .ref (am 2), .ref (am 3), .ref (am 4), .ref (am 5), .int 0, .int 0, .int 0, .int 0, .int 0, .int 0, .int 0, .ref (am 6), .int 0, .ref (am 7), .int 0, .ref (am 8), .ref (am 9), .int (-1), .int 0, .int 0, .int (-1), .int 0, .ref (am 10), .int 0, .ref (am 11), .ref (am 12), .ref (am 13), .ref (am 14), .long 0, .ref (am 15), .ref (am 16), .ref (am 17), .ref (am 18)])), ((am 9), .inl (G.2.2 0, 110, .inl (fun _ => 0)))])) 0 0 (va_A [(h0, .inr (12, [.ref (am 0), .int 0, .int 0, .ref (am 1), .ref (am 2), .ref (am 3), .ref (am 4), .ref (am 5), .int 0, .int 0, .int 0, .int 0, .int 0, .int 0, .int 0, .ref (am 6), .int 0, .ref (am 7), .int 0, .ref (am 8), .ref (am 9), .int (-1), .int 0, .int 0, .int (-1), .int 0, .ref (am 10), .int 0, .ref (am 11), .ref (am 12), .ref (am 13), .ref (am 14), .long 0, .ref (am 15), .ref (am 16), .ref (am 17), .ref (am 18)])), ((am 9), .inl (G.2.2 0, 110, .inl (fun _ => 0)))] sz) := by
  refine Met.ofW (cc := cX12_lotsIn) (maxL := 4) (ret := (some .int)) (by decide) rfl ?_
  intro p e s m args below meth c s₁ B hml hv
  obtain ⟨rfl, hsz, hP, hK, hD0⟩ := hv
  have hx := B.exec
  have hb := B.bytes
  have hr := B.returns
  have ht := ts_ht (atoms_spec (ws := ts_L yX12_lotsIn cX12_lotsIn 4 (some .int)) B.pre)
  have hown : s.vm.findClass RX12 = some m.cls := findClass_of_methodNamed B.named
  have hlocks := B.notSynchronized
  subst hsz
  have hD := hD0.self (sz := s.heap.size)
  generalize hAe : va_A [(h0, .inr (12, [.ref (am 0), .int 0, .int 0, .ref (am 1), .ref (am 2), .ref (am 3), .ref (am 4), .ref (am 5), .int 0, .int 0, .int 0, .int 0, .int 0, .int 0, .int 0, .ref (am 6), .int 0, .ref (am 7), .int 0, .ref (am 8), .ref (am 9), .int (-1), .int 0, .int 0, .int (-1), .int 0, .ref (am 10), .int 0, .ref (am 11), .ref (am 12), .ref (am 13), .ref (am 14), .long 0, .ref (am 15), .ref (am 16), .ref (am 17), .ref (am 18)])), ((am 9), .inl (G.2.2 0, 110, .inl (fun _ => 0)))] s.heap.size = A at hD ⊢
  have hA : ∀ q : Nat, s.heap.size ≤ q → A q := fun q h => by rw [← hAe]; exact Or.inr h
  have hS : va_S A s.heap s.heap [] := va_S.rf
  have hl := lv_entry ([.ref h0, .int 1]) (n := 4) (Nat.le_of_ble_eq_true rfl)
  rw [lg_entry_eq]
  generalize (lg_sl ([.ref h0, .int 1]) ++ List.replicate (4 - (lg_sl ([.ref h0, .int 1])).length) Slot.unset).toArray = ls at hl ⊢
  have hl : lv_has ls 4 [(0, .ref h0), (1, .int 1)] := hl
  refine lv_iconst (v := 0) hx hb dX12_lotsIn_0 (by decide) ?_
  refine lv_istore_n (lv' := [(2, .int 0), (0, .ref h0), (1, .int 1)]) hx hb dX12_lotsIn_1 rfl hl (by decide) rfl (fun ls hl => ?_)
  refine lv_iconst (v := 0) hx hb dX12_lotsIn_2 (by decide) ?_
  refine lv_istore_n (lv' := [(3, .int 0), (2, .int 0), (0, .ref h0), (1, .int 1)]) hx hb dX12_lotsIn_3 rfl hl (by decide) rfl (fun ls hl => ?_)
  refine lv_iload_n hx hb dX12_lotsIn_4 rfl (lv_at hl 0 rfl) ?_
  refine lv_aload_n hx hb dX12_lotsIn_5 rfl (lv_at hl 2 rfl) ?_
  refine gq_get hx hb ht hown hK hP i_X12 0 rfl rfl 20 (by decide) wd_1272 rfl rfl dX12_lotsIn_6 ?_
  refine lv_iconst (v := 2) hx hb dX12_lotsIn_9 (by decide) ?_
  refine gq_iald hx hb hK hP 1 rfl 0 (by unfold vp_in; decide +kernel) rfl dX12_lotsIn_10 ?_
  refine lv_icmp_ge (tgt := 40) hx hb dX12_lotsIn_11 (by decide) (fun _ => ?_) (fun c0 => absurd (by decide +kernel) c0)
  refine lv_iload_n hx hb dX12_lotsIn_40 rfl (lv_at hl 1 rfl) ?_
  have hP9 := hP.sub (ws' := [(h0, .inr (12, [.ref (am 0), .int 0, .int 0, .ref (am 1), .ref (am 2), .ref (am 3), .ref (am 4), .ref (am 5), .int 0, .int 0, .int 0, .int 0, .int 0, .int 0, .int 0, .ref (am 6), .int 0, .ref (am 7), .int 0, .ref (am 8), .ref (am 9), .int (-1), .int 0, .int 0, .int (-1), .int 0, .ref (am 10), .int 0, .ref (am 11), .ref (am 12), .ref (am 13), .ref (am 14), .long 0, .ref (am 15), .ref (am 16), .ref (am 17), .ref (am 18)])), ((am 9), .inl (G.2.2 0, 110, .inl (fun _ => 0)))]) [0, 1] rfl
  have hD9 := hD.sub (ws' := [(h0, .inr (12, [.ref (am 0), .int 0, .int 0, .ref (am 1), .ref (am 2), .ref (am 3), .ref (am 4), .ref (am 5), .int 0, .int 0, .int 0, .int 0, .int 0, .int 0, .int 0, .ref (am 6), .int 0, .ref (am 7), .int 0, .ref (am 8), .ref (am 9), .int (-1), .int 0, .int 0, .int (-1), .int 0, .ref (am 10), .int 0, .ref (am 11), .ref (am 12), .ref (am 13), .ref (am 14), .long 0, .ref (am 15), .ref (am 16), .ref (am 17), .ref (am 18)])), ((am 9), .inl (G.2.2 0, 110, .inl (fun _ => 0)))]) [0, 1] (by decide) rfl
  exact W.iret (v := 0) hx hb hr (gq_endI () rfl hP9 hD9 hS) hS.2.2 dX12_lotsIn_41
set_option maxHeartbeats 4000000 in
set_option maxRecDepth 100000 in
theorem c_M_lotsIn2 (l : Launch) (G : gg_T) (sz : Nat) (h0 : Nat) (am : Nat → Nat) : Met l yX12_lotsIn (ts_L yX12_lotsIn cX12_lotsIn 4 (some .int)) ({ frames := 0, cells := 0, slots := 0, locals := 0 }) (gc_P G [(h0, .inr (12, [.ref (am 0), .int 0, .int 0, .ref (am 1), .ref (am 2), .ref (am 3), .ref (am 4), .ref (am 5), .int 0, .int 0, .int 0, .int 0, .int 0, .int 0, .int 0, .ref (am 6), .int 0, .ref (am 7), .int 0, .ref (am 8), .ref (am 9), .int (-1), .int 0, .int 0, .int (-1), .int 0, .ref (am 10), .int 0, .ref (am 11), .ref (am 12), .ref (am 13), .ref (am 14), .long 0, .ref (am 15), .ref (am 16), .ref (am 17), .ref (am 18)])), ((am 9), .inl (G.2.2 0, 110, .inl (fun _ => 0)))] sz [.ref h0, .int 2]) (gc_I G (va_A [(h0, .inr (12, [.ref (am 0), .int 0, .int 0, .ref (am 1), .ref (am 2), .ref (am 3), .ref (am 4), .ref (am 5), .int 0, .int 0, .int 0, .int 0, .int 0, .int 0, .int 0, .ref (am 6), .int 0, .ref (am 7), .int 0, .ref (am 8), .ref (am 9), .int (-1), .int 0, .int 0, .int (-1), .int 0, .ref (am 10), .int 0, .ref (am 11), .ref (am 12), .ref (am 13), .ref (am 14), .long 0, .ref (am 15), .ref (am 16), .ref (am 17), .ref (am 18)])), ((am 9), .inl (G.2.2 0, 110, .inl (fun _ => 0)))] sz) (fun r (_ : Unit) => r = 0) (fun _ => [(h0, .inr (12, [.ref (am 0), .int 0, .int 0, .ref (am 1), .ref (am 2), .ref (am 3), .ref (am 4), .ref (am 5), .int 0, .int 0, .int 0, .int 0, .int 0, .int 0, .int 0, .ref (am 6), .int 0, .ref (am 7), .int 0, .ref (am 8), .ref (am 9), .int (-1), .int 0, .int 0, .int (-1), .int 0, .ref (am 10), .int 0, .ref (am 11), .ref (am 12), .ref (am 13), .ref (am 14), .long 0, .ref (am 15), .ref (am 16), .ref (am 17), .ref (am 18)])), ((am 9), .inl (G.2.2 0, 110, .inl (fun _ => 0)))])) 0 0 (va_A [(h0, .inr (12, [.ref (am 0), .int 0, .int 0, .ref (am 1), .ref (am 2), .ref (am 3), .ref (am 4), .ref (am 5), .int 0, .int 0, .int 0, .int 0, .int 0, .int 0, .int 0, .ref (am 6), .int 0, .ref (am 7), .int 0, .ref (am 8), .ref (am 9), .int (-1), .int 0, .int 0, .int (-1), .int 0, .ref (am 10), .int 0, .ref (am 11), .ref (am 12), .ref (am 13), .ref (am 14), .long 0, .ref (am 15), .ref (am 16), .ref (am 17), .ref (am 18)])), ((am 9), .inl (G.2.2 0, 110, .inl (fun _ => 0)))] sz) := by
  refine Met.ofW (cc := cX12_lotsIn) (maxL := 4) (ret := (some .int)) (by decide) rfl ?_
  intro p e s m args below meth c s₁ B hml hv
  obtain ⟨rfl, hsz, hP, hK, hD0⟩ := hv
  have hx := B.exec
  have hb := B.bytes
  have hr := B.returns
  have ht := ts_ht (atoms_spec (ws := ts_L yX12_lotsIn cX12_lotsIn 4 (some .int)) B.pre)
  have hown : s.vm.findClass RX12 = some m.cls := findClass_of_methodNamed B.named
  have hlocks := B.notSynchronized
  subst hsz
  have hD := hD0.self (sz := s.heap.size)
  generalize hAe : va_A [(h0, .inr (12, [.ref (am 0), .int 0, .int 0, .ref (am 1), .ref (am 2), .ref (am 3), .ref (am 4), .ref (am 5), .int 0, .int 0, .int 0, .int 0, .int 0, .int 0, .int 0, .ref (am 6), .int 0, .ref (am 7), .int 0, .ref (am 8), .ref (am 9), .int (-1), .int 0, .int 0, .int (-1), .int 0, .ref (am 10), .int 0, .ref (am 11), .ref (am 12), .ref (am 13), .ref (am 14), .long 0, .ref (am 15), .ref (am 16), .ref (am 17), .ref (am 18)])), ((am 9), .inl (G.2.2 0, 110, .inl (fun _ => 0)))] s.heap.size = A at hD ⊢
  have hA : ∀ q : Nat, s.heap.size ≤ q → A q := fun q h => by rw [← hAe]; exact Or.inr h
  have hS : va_S A s.heap s.heap [] := va_S.rf
  have hl := lv_entry ([.ref h0, .int 2]) (n := 4) (Nat.le_of_ble_eq_true rfl)
  rw [lg_entry_eq]
  generalize (lg_sl ([.ref h0, .int 2]) ++ List.replicate (4 - (lg_sl ([.ref h0, .int 2])).length) Slot.unset).toArray = ls at hl ⊢
  have hl : lv_has ls 4 [(0, .ref h0), (1, .int 2)] := hl
  refine lv_iconst (v := 0) hx hb dX12_lotsIn_0 (by decide) ?_
  refine lv_istore_n (lv' := [(2, .int 0), (0, .ref h0), (1, .int 2)]) hx hb dX12_lotsIn_1 rfl hl (by decide) rfl (fun ls hl => ?_)
  refine lv_iconst (v := 0) hx hb dX12_lotsIn_2 (by decide) ?_
  refine lv_istore_n (lv' := [(3, .int 0), (2, .int 0), (0, .ref h0), (1, .int 2)]) hx hb dX12_lotsIn_3 rfl hl (by decide) rfl (fun ls hl => ?_)
  refine lv_iload_n hx hb dX12_lotsIn_4 rfl (lv_at hl 0 rfl) ?_
  refine lv_aload_n hx hb dX12_lotsIn_5 rfl (lv_at hl 2 rfl) ?_
  refine gq_get hx hb ht hown hK hP i_X12 0 rfl rfl 20 (by decide) wd_1272 rfl rfl dX12_lotsIn_6 ?_
  refine lv_iconst (v := 2) hx hb dX12_lotsIn_9 (by decide) ?_
  refine gq_iald hx hb hK hP 1 rfl 0 (by unfold vp_in; decide +kernel) rfl dX12_lotsIn_10 ?_
  refine lv_icmp_ge (tgt := 40) hx hb dX12_lotsIn_11 (by decide) (fun _ => ?_) (fun c0 => absurd (by decide +kernel) c0)
  refine lv_iload_n hx hb dX12_lotsIn_40 rfl (lv_at hl 1 rfl) ?_
  have hP9 := hP.sub (ws' := [(h0, .inr (12, [.ref (am 0), .int 0, .int 0, .ref (am 1), .ref (am 2), .ref (am 3), .ref (am 4), .ref (am 5), .int 0, .int 0, .int 0, .int 0, .int 0, .int 0, .int 0, .ref (am 6), .int 0, .ref (am 7), .int 0, .ref (am 8), .ref (am 9), .int (-1), .int 0, .int 0, .int (-1), .int 0, .ref (am 10), .int 0, .ref (am 11), .ref (am 12), .ref (am 13), .ref (am 14), .long 0, .ref (am 15), .ref (am 16), .ref (am 17), .ref (am 18)])), ((am 9), .inl (G.2.2 0, 110, .inl (fun _ => 0)))]) [0, 1] rfl
  have hD9 := hD.sub (ws' := [(h0, .inr (12, [.ref (am 0), .int 0, .int 0, .ref (am 1), .ref (am 2), .ref (am 3), .ref (am 4), .ref (am 5), .int 0, .int 0, .int 0, .int 0, .int 0, .int 0, .int 0, .ref (am 6), .int 0, .ref (am 7), .int 0, .ref (am 8), .ref (am 9), .int (-1), .int 0, .int 0, .int (-1), .int 0, .ref (am 10), .int 0, .ref (am 11), .ref (am 12), .ref (am 13), .ref (am 14), .long 0, .ref (am 15), .ref (am 16), .ref (am 17), .ref (am 18)])), ((am 9), .inl (G.2.2 0, 110, .inl (fun _ => 0)))]) [0, 1] (by decide) rfl
  exact W.iret (v := 0) hx hb hr (gq_endI () rfl hP9 hD9 hS) hS.2.2 dX12_lotsIn_41
set_option maxHeartbeats 4000000 in
set_option maxRecDepth 100000 in
theorem c_M_coinsPaid (l : Launch) (G : gg_T) (sz : Nat) (h0 : Nat) (am : Nat → Nat) : Met l yX12_coinsPaid (ts_L yX12_coinsPaid cX12_coinsPaid 3 (some .int)) ({ frames := 0, cells := 0, slots := 0, locals := 0 }) (gc_P G [(h0, .inr (12, [.ref (am 0), .int 0, .int 0, .ref (am 1), .ref (am 2), .ref (am 3), .ref (am 4), .ref (am 5), .int 0, .int 0, .int 0, .int 0, .int 0, .int 0, .int 0, .ref (am 6), .int 0, .ref (am 7), .int 0, .ref (am 8), .ref (am 9), .int (-1), .int 0, .int 0, .int (-1), .int 0, .ref (am 10), .int 0, .ref (am 11), .ref (am 12), .ref (am 13), .ref (am 14), .long 0, .ref (am 15), .ref (am 16), .ref (am 17), .ref (am 18)])), ((am 9), .inl (G.2.2 0, 110, .inl (fun _ => 0)))] sz [.ref h0]) (gc_I G (va_A [(h0, .inr (12, [.ref (am 0), .int 0, .int 0, .ref (am 1), .ref (am 2), .ref (am 3), .ref (am 4), .ref (am 5), .int 0, .int 0, .int 0, .int 0, .int 0, .int 0, .int 0, .ref (am 6), .int 0, .ref (am 7), .int 0, .ref (am 8), .ref (am 9), .int (-1), .int 0, .int 0, .int (-1), .int 0, .ref (am 10), .int 0, .ref (am 11), .ref (am 12), .ref (am 13), .ref (am 14), .long 0, .ref (am 15), .ref (am 16), .ref (am 17), .ref (am 18)])), ((am 9), .inl (G.2.2 0, 110, .inl (fun _ => 0)))] sz) (fun r (_ : Unit) => r = 0) (fun _ => [(h0, .inr (12, [.ref (am 0), .int 0, .int 0, .ref (am 1), .ref (am 2), .ref (am 3), .ref (am 4), .ref (am 5), .int 0, .int 0, .int 0, .int 0, .int 0, .int 0, .int 0, .ref (am 6), .int 0, .ref (am 7), .int 0, .ref (am 8), .ref (am 9), .int (-1), .int 0, .int 0, .int (-1), .int 0, .ref (am 10), .int 0, .ref (am 11), .ref (am 12), .ref (am 13), .ref (am 14), .long 0, .ref (am 15), .ref (am 16), .ref (am 17), .ref (am 18)])), ((am 9), .inl (G.2.2 0, 110, .inl (fun _ => 0)))])) 0 0 (va_A [(h0, .inr (12, [.ref (am 0), .int 0, .int 0, .ref (am 1), .ref (am 2), .ref (am 3), .ref (am 4), .ref (am 5), .int 0, .int 0, .int 0, .int 0, .int 0, .int 0, .int 0, .ref (am 6), .int 0, .ref (am 7), .int 0, .ref (am 8), .ref (am 9), .int (-1), .int 0, .int 0, .int (-1), .int 0, .ref (am 10), .int 0, .ref (am 11), .ref (am 12), .ref (am 13), .ref (am 14), .long 0, .ref (am 15), .ref (am 16), .ref (am 17), .ref (am 18)])), ((am 9), .inl (G.2.2 0, 110, .inl (fun _ => 0)))] sz) := by
  refine Met.ofW (cc := cX12_coinsPaid) (maxL := 3) (ret := (some .int)) (by decide) rfl ?_
  intro p e s m args below meth c s₁ B hml hv
  obtain ⟨rfl, hsz, hP, hK, hD0⟩ := hv
  have hx := B.exec
  have hb := B.bytes
  have hr := B.returns
  have ht := ts_ht (atoms_spec (ws := ts_L yX12_coinsPaid cX12_coinsPaid 3 (some .int)) B.pre)
  have hown : s.vm.findClass RX12 = some m.cls := findClass_of_methodNamed B.named
  have hlocks := B.notSynchronized
  subst hsz
  have hD := hD0.self (sz := s.heap.size)
  generalize hAe : va_A [(h0, .inr (12, [.ref (am 0), .int 0, .int 0, .ref (am 1), .ref (am 2), .ref (am 3), .ref (am 4), .ref (am 5), .int 0, .int 0, .int 0, .int 0, .int 0, .int 0, .int 0, .ref (am 6), .int 0, .ref (am 7), .int 0, .ref (am 8), .ref (am 9), .int (-1), .int 0, .int 0, .int (-1), .int 0, .ref (am 10), .int 0, .ref (am 11), .ref (am 12), .ref (am 13), .ref (am 14), .long 0, .ref (am 15), .ref (am 16), .ref (am 17), .ref (am 18)])), ((am 9), .inl (G.2.2 0, 110, .inl (fun _ => 0)))] s.heap.size = A at hD ⊢
  have hA : ∀ q : Nat, s.heap.size ≤ q → A q := fun q h => by rw [← hAe]; exact Or.inr h
  have hS : va_S A s.heap s.heap [] := va_S.rf
  have hl := lv_entry ([.ref h0]) (n := 3) (Nat.le_of_ble_eq_true rfl)
  rw [lg_entry_eq]
  generalize (lg_sl ([.ref h0]) ++ List.replicate (3 - (lg_sl ([.ref h0])).length) Slot.unset).toArray = ls at hl ⊢
  have hl : lv_has ls 3 [(0, .ref h0)] := hl
  refine lv_iconst (v := 0) hx hb dX12_coinsPaid_0 (by decide) ?_
  refine lv_istore_n (lv' := [(1, .int 0), (0, .ref h0)]) hx hb dX12_coinsPaid_1 rfl hl (by decide) rfl (fun ls hl => ?_)
  refine lv_iconst (v := 0) hx hb dX12_coinsPaid_2 (by decide) ?_
  refine lv_istore_n (lv' := [(2, .int 0), (1, .int 0), (0, .ref h0)]) hx hb dX12_coinsPaid_3 rfl hl (by decide) rfl (fun ls hl => ?_)
  refine lv_iload_n hx hb dX12_coinsPaid_4 rfl (lv_at hl 0 rfl) ?_
  refine lv_aload_n hx hb dX12_coinsPaid_5 rfl (lv_at hl 2 rfl) ?_
  refine gq_get hx hb ht hown hK hP i_X12 0 rfl rfl 20 (by decide) wd_1272 rfl rfl dX12_coinsPaid_6 ?_
  refine lv_iconst (v := 2) hx hb dX12_coinsPaid_9 (by decide) ?_
  refine gq_iald hx hb hK hP 1 rfl 0 (by unfold vp_in; decide +kernel) rfl dX12_coinsPaid_10 ?_
  refine lv_icmp_ge (tgt := 29) hx hb dX12_coinsPaid_11 (by decide) (fun _ => ?_) (fun c0 => absurd (by decide +kernel) c0)
  refine lv_iload_n hx hb dX12_coinsPaid_29 rfl (lv_at hl 1 rfl) ?_
  have hP9 := hP.sub (ws' := [(h0, .inr (12, [.ref (am 0), .int 0, .int 0, .ref (am 1), .ref (am 2), .ref (am 3), .ref (am 4), .ref (am 5), .int 0, .int 0, .int 0, .int 0, .int 0, .int 0, .int 0, .ref (am 6), .int 0, .ref (am 7), .int 0, .ref (am 8), .ref (am 9), .int (-1), .int 0, .int 0, .int (-1), .int 0, .ref (am 10), .int 0, .ref (am 11), .ref (am 12), .ref (am 13), .ref (am 14), .long 0, .ref (am 15), .ref (am 16), .ref (am 17), .ref (am 18)])), ((am 9), .inl (G.2.2 0, 110, .inl (fun _ => 0)))]) [0, 1] rfl
  have hD9 := hD.sub (ws' := [(h0, .inr (12, [.ref (am 0), .int 0, .int 0, .ref (am 1), .ref (am 2), .ref (am 3), .ref (am 4), .ref (am 5), .int 0, .int 0, .int 0, .int 0, .int 0, .int 0, .int 0, .ref (am 6), .int 0, .ref (am 7), .int 0, .ref (am 8), .ref (am 9), .int (-1), .int 0, .int 0, .int (-1), .int 0, .ref (am 10), .int 0, .ref (am 11), .ref (am 12), .ref (am 13), .ref (am 14), .long 0, .ref (am 15), .ref (am 16), .ref (am 17), .ref (am 18)])), ((am 9), .inl (G.2.2 0, 110, .inl (fun _ => 0)))]) [0, 1] (by decide) rfl
  exact W.iret (v := 0) hx hb hr (gq_endI () rfl hP9 hD9 hS) hS.2.2 dX12_coinsPaid_30
set_option maxHeartbeats 4000000 in
set_option maxRecDepth 100000 in
theorem c_M_see_0 (l : Launch) (G : gg_T) (sz : Nat) (h0 : Nat) (am : Nat → Nat) : Met l yX12_see (ts_L yX12_see cX12_see 1 (some .int)) ({ frames := 0, cells := 0, slots := 0, locals := 0 }) (gc_P G [(h0, .inr (12, [.ref (am 0), .int 0, .int 0, .ref (am 1), .ref (am 2), .ref (am 3), .ref (am 4), .ref (am 5), .int 0, .int 0, .int 0, .int 0, .int 0, .int 0, .int 0, .ref (am 6), .int 0, .ref (am 7), .int 0, .ref (am 8), .ref (am 9), .int (-1), .int 0, .int 0, .int (-1), .int 0, .ref (am 10), .int 0, .ref (am 11), .ref (am 12), .ref (am 13), .ref (am 14), .long 0, .ref (am 15), .ref (am 16), .ref (am 17), .ref (am 18)]))] sz [.ref h0]) (gc_I G (va_A [(h0, .inr (12, [.ref (am 0), .int 0, .int 0, .ref (am 1), .ref (am 2), .ref (am 3), .ref (am 4), .ref (am 5), .int 0, .int 0, .int 0, .int 0, .int 0, .int 0, .int 0, .ref (am 6), .int 0, .ref (am 7), .int 0, .ref (am 8), .ref (am 9), .int (-1), .int 0, .int 0, .int (-1), .int 0, .ref (am 10), .int 0, .ref (am 11), .ref (am 12), .ref (am 13), .ref (am 14), .long 0, .ref (am 15), .ref (am 16), .ref (am 17), .ref (am 18)]))] sz) (fun r (_ : Unit) => r = (-1)) (fun _ => [(h0, .inr (12, [.ref (am 0), .int 0, .int 0, .ref (am 1), .ref (am 2), .ref (am 3), .ref (am 4), .ref (am 5), .int 0, .int 0, .int 0, .int 0, .int 0, .int 0, .int 0, .ref (am 6), .int 0, .ref (am 7), .int 0, .ref (am 8), .ref (am 9), .int (-1), .int 0, .int 0, .int (-1), .int 0, .ref (am 10), .int 0, .ref (am 11), .ref (am 12), .ref (am 13), .ref (am 14), .long 0, .ref (am 15), .ref (am 16), .ref (am 17), .ref (am 18)]))])) 0 0 (va_A [(h0, .inr (12, [.ref (am 0), .int 0, .int 0, .ref (am 1), .ref (am 2), .ref (am 3), .ref (am 4), .ref (am 5), .int 0, .int 0, .int 0, .int 0, .int 0, .int 0, .int 0, .ref (am 6), .int 0, .ref (am 7), .int 0, .ref (am 8), .ref (am 9), .int (-1), .int 0, .int 0, .int (-1), .int 0, .ref (am 10), .int 0, .ref (am 11), .ref (am 12), .ref (am 13), .ref (am 14), .long 0, .ref (am 15), .ref (am 16), .ref (am 17), .ref (am 18)]))] sz) := by
  refine Met.ofW (cc := cX12_see) (maxL := 1) (ret := (some .int)) (by decide) rfl ?_
  intro p e s m args below meth c s₁ B hml hv
  obtain ⟨rfl, hsz, hP, hK, hD0⟩ := hv
  have hx := B.exec
  have hb := B.bytes
  have hr := B.returns
  have ht := ts_ht (atoms_spec (ws := ts_L yX12_see cX12_see 1 (some .int)) B.pre)
  have hown : s.vm.findClass RX12 = some m.cls := findClass_of_methodNamed B.named
  have hlocks := B.notSynchronized
  subst hsz
  have hD := hD0.self (sz := s.heap.size)
  generalize hAe : va_A [(h0, .inr (12, [.ref (am 0), .int 0, .int 0, .ref (am 1), .ref (am 2), .ref (am 3), .ref (am 4), .ref (am 5), .int 0, .int 0, .int 0, .int 0, .int 0, .int 0, .int 0, .ref (am 6), .int 0, .ref (am 7), .int 0, .ref (am 8), .ref (am 9), .int (-1), .int 0, .int 0, .int (-1), .int 0, .ref (am 10), .int 0, .ref (am 11), .ref (am 12), .ref (am 13), .ref (am 14), .long 0, .ref (am 15), .ref (am 16), .ref (am 17), .ref (am 18)]))] s.heap.size = A at hD ⊢
  have hA : ∀ q : Nat, s.heap.size ≤ q → A q := fun q h => by rw [← hAe]; exact Or.inr h
  have hS : va_S A s.heap s.heap [] := va_S.rf
  have hl := lv_entry ([.ref h0]) (n := 1) (Nat.le_of_ble_eq_true rfl)
  rw [lg_entry_eq]
  generalize (lg_sl ([.ref h0]) ++ List.replicate (1 - (lg_sl ([.ref h0])).length) Slot.unset).toArray = ls at hl ⊢
  have hl : lv_has ls 1 [(0, .ref h0)] := hl
  refine lv_aload_n hx hb dX12_see_0 rfl (lv_at hl 0 rfl) ?_
  refine gq_get hx hb ht hown hK hP i_X12 0 rfl rfl 8 (by decide) wd_1260 rfl rfl dX12_see_1 ?_
  refine lv_aload_n hx hb dX12_see_4 rfl (lv_at hl 0 rfl) ?_
  refine gq_get hx hb ht hown hK hP i_X12 0 rfl rfl 1 (by decide) wd_1253 rfl rfl dX12_see_5 ?_
  refine lv_icmp_ge (tgt := 38) hx hb dX12_see_8 (by decide) (fun _ => ?_) (fun c0 => absurd (by decide +kernel) c0)
  refine lv_aload_n hx hb dX12_see_38 rfl (lv_at hl 0 rfl) ?_
  refine gq_get hx hb ht hown hK hP i_X12 0 rfl rfl 8 (by decide) wd_1260 rfl rfl dX12_see_39 ?_
  refine lv_aload_n hx hb dX12_see_42 rfl (lv_at hl 0 rfl) ?_
  refine gq_get hx hb ht hown hK hP i_X12 0 rfl rfl 1 (by decide) wd_1253 rfl rfl dX12_see_43 ?_
  refine lv_icmp_ge (tgt := 65) hx hb dX12_see_46 (by decide) (fun _ => ?_) (fun c0 => absurd (by decide +kernel) c0)
  refine lv_iconst (v := (-1)) hx hb dX12_see_65 (by decide) ?_
  have hP9 := hP.sub (ws' := [(h0, .inr (12, [.ref (am 0), .int 0, .int 0, .ref (am 1), .ref (am 2), .ref (am 3), .ref (am 4), .ref (am 5), .int 0, .int 0, .int 0, .int 0, .int 0, .int 0, .int 0, .ref (am 6), .int 0, .ref (am 7), .int 0, .ref (am 8), .ref (am 9), .int (-1), .int 0, .int 0, .int (-1), .int 0, .ref (am 10), .int 0, .ref (am 11), .ref (am 12), .ref (am 13), .ref (am 14), .long 0, .ref (am 15), .ref (am 16), .ref (am 17), .ref (am 18)]))]) [0] rfl
  have hD9 := hD.sub (ws' := [(h0, .inr (12, [.ref (am 0), .int 0, .int 0, .ref (am 1), .ref (am 2), .ref (am 3), .ref (am 4), .ref (am 5), .int 0, .int 0, .int 0, .int 0, .int 0, .int 0, .int 0, .ref (am 6), .int 0, .ref (am 7), .int 0, .ref (am 8), .ref (am 9), .int (-1), .int 0, .int 0, .int (-1), .int 0, .ref (am 10), .int 0, .ref (am 11), .ref (am 12), .ref (am 13), .ref (am 14), .long 0, .ref (am 15), .ref (am 16), .ref (am 17), .ref (am 18)]))]) [0] (by decide) rfl
  exact W.iret (v := (-1)) hx hb hr (gq_endI () rfl hP9 hD9 hS) hS.2.2 dX12_see_66
set_option maxHeartbeats 4000000 in
set_option maxRecDepth 100000 in
theorem c_M_see1_0 (l : Launch) (G : gg_T) (sz : Nat) (h0 : Nat) (am : Nat → Nat) : Met l yX12_see (ts_L yX12_see cX12_see 1 (some .int)) ({ frames := 0, cells := 0, slots := 0, locals := 0 }) (gc_P G [(h0, .inr (12, [.ref (am 0), .int 0, .int 0, .ref (am 1), .ref (am 2), .ref (am 3), .ref (am 4), .ref (am 5), .int 0, .int 1, .int 0, .int 0, .int 0, .int 0, .int 0, .ref (am 6), .int 0, .ref (am 7), .int 0, .ref (am 8), .ref (am 9), .int (-1), .int 0, .int 0, .int (-1), .int 0, .ref (am 10), .int 0, .ref (am 11), .ref (am 12), .ref (am 13), .ref (am 14), .long 0, .ref (am 15), .ref (am 16), .ref (am 17), .ref (am 18)]))] sz [.ref h0]) (gc_I G (va_A [(h0, .inr (12, [.ref (am 0), .int 0, .int 0, .ref (am 1), .ref (am 2), .ref (am 3), .ref (am 4), .ref (am 5), .int 0, .int 1, .int 0, .int 0, .int 0, .int 0, .int 0, .ref (am 6), .int 0, .ref (am 7), .int 0, .ref (am 8), .ref (am 9), .int (-1), .int 0, .int 0, .int (-1), .int 0, .ref (am 10), .int 0, .ref (am 11), .ref (am 12), .ref (am 13), .ref (am 14), .long 0, .ref (am 15), .ref (am 16), .ref (am 17), .ref (am 18)]))] sz) (fun r (_ : Unit) => r = (-1)) (fun _ => [(h0, .inr (12, [.ref (am 0), .int 0, .int 0, .ref (am 1), .ref (am 2), .ref (am 3), .ref (am 4), .ref (am 5), .int 0, .int 1, .int 0, .int 0, .int 0, .int 0, .int 0, .ref (am 6), .int 0, .ref (am 7), .int 0, .ref (am 8), .ref (am 9), .int (-1), .int 0, .int 0, .int (-1), .int 0, .ref (am 10), .int 0, .ref (am 11), .ref (am 12), .ref (am 13), .ref (am 14), .long 0, .ref (am 15), .ref (am 16), .ref (am 17), .ref (am 18)]))])) 0 0 (va_A [(h0, .inr (12, [.ref (am 0), .int 0, .int 0, .ref (am 1), .ref (am 2), .ref (am 3), .ref (am 4), .ref (am 5), .int 0, .int 1, .int 0, .int 0, .int 0, .int 0, .int 0, .ref (am 6), .int 0, .ref (am 7), .int 0, .ref (am 8), .ref (am 9), .int (-1), .int 0, .int 0, .int (-1), .int 0, .ref (am 10), .int 0, .ref (am 11), .ref (am 12), .ref (am 13), .ref (am 14), .long 0, .ref (am 15), .ref (am 16), .ref (am 17), .ref (am 18)]))] sz) := by
  refine Met.ofW (cc := cX12_see) (maxL := 1) (ret := (some .int)) (by decide) rfl ?_
  intro p e s m args below meth c s₁ B hml hv
  obtain ⟨rfl, hsz, hP, hK, hD0⟩ := hv
  have hx := B.exec
  have hb := B.bytes
  have hr := B.returns
  have ht := ts_ht (atoms_spec (ws := ts_L yX12_see cX12_see 1 (some .int)) B.pre)
  have hown : s.vm.findClass RX12 = some m.cls := findClass_of_methodNamed B.named
  have hlocks := B.notSynchronized
  subst hsz
  have hD := hD0.self (sz := s.heap.size)
  generalize hAe : va_A [(h0, .inr (12, [.ref (am 0), .int 0, .int 0, .ref (am 1), .ref (am 2), .ref (am 3), .ref (am 4), .ref (am 5), .int 0, .int 1, .int 0, .int 0, .int 0, .int 0, .int 0, .ref (am 6), .int 0, .ref (am 7), .int 0, .ref (am 8), .ref (am 9), .int (-1), .int 0, .int 0, .int (-1), .int 0, .ref (am 10), .int 0, .ref (am 11), .ref (am 12), .ref (am 13), .ref (am 14), .long 0, .ref (am 15), .ref (am 16), .ref (am 17), .ref (am 18)]))] s.heap.size = A at hD ⊢
  have hA : ∀ q : Nat, s.heap.size ≤ q → A q := fun q h => by rw [← hAe]; exact Or.inr h
  have hS : va_S A s.heap s.heap [] := va_S.rf
  have hl := lv_entry ([.ref h0]) (n := 1) (Nat.le_of_ble_eq_true rfl)
  rw [lg_entry_eq]
  generalize (lg_sl ([.ref h0]) ++ List.replicate (1 - (lg_sl ([.ref h0])).length) Slot.unset).toArray = ls at hl ⊢
  have hl : lv_has ls 1 [(0, .ref h0)] := hl
  refine lv_aload_n hx hb dX12_see_0 rfl (lv_at hl 0 rfl) ?_
  refine gq_get hx hb ht hown hK hP i_X12 0 rfl rfl 8 (by decide) wd_1260 rfl rfl dX12_see_1 ?_
  refine lv_aload_n hx hb dX12_see_4 rfl (lv_at hl 0 rfl) ?_
  refine gq_get hx hb ht hown hK hP i_X12 0 rfl rfl 1 (by decide) wd_1253 rfl rfl dX12_see_5 ?_
  refine lv_icmp_ge (tgt := 38) hx hb dX12_see_8 (by decide) (fun _ => ?_) (fun c0 => absurd (by decide +kernel) c0)
  refine lv_aload_n hx hb dX12_see_38 rfl (lv_at hl 0 rfl) ?_
  refine gq_get hx hb ht hown hK hP i_X12 0 rfl rfl 8 (by decide) wd_1260 rfl rfl dX12_see_39 ?_
  refine lv_aload_n hx hb dX12_see_42 rfl (lv_at hl 0 rfl) ?_
  refine gq_get hx hb ht hown hK hP i_X12 0 rfl rfl 1 (by decide) wd_1253 rfl rfl dX12_see_43 ?_
  refine lv_icmp_ge (tgt := 65) hx hb dX12_see_46 (by decide) (fun _ => ?_) (fun c0 => absurd (by decide +kernel) c0)
  refine lv_iconst (v := (-1)) hx hb dX12_see_65 (by decide) ?_
  have hP9 := hP.sub (ws' := [(h0, .inr (12, [.ref (am 0), .int 0, .int 0, .ref (am 1), .ref (am 2), .ref (am 3), .ref (am 4), .ref (am 5), .int 0, .int 1, .int 0, .int 0, .int 0, .int 0, .int 0, .ref (am 6), .int 0, .ref (am 7), .int 0, .ref (am 8), .ref (am 9), .int (-1), .int 0, .int 0, .int (-1), .int 0, .ref (am 10), .int 0, .ref (am 11), .ref (am 12), .ref (am 13), .ref (am 14), .long 0, .ref (am 15), .ref (am 16), .ref (am 17), .ref (am 18)]))]) [0] rfl
  have hD9 := hD.sub (ws' := [(h0, .inr (12, [.ref (am 0), .int 0, .int 0, .ref (am 1), .ref (am 2), .ref (am 3), .ref (am 4), .ref (am 5), .int 0, .int 1, .int 0, .int 0, .int 0, .int 0, .int 0, .ref (am 6), .int 0, .ref (am 7), .int 0, .ref (am 8), .ref (am 9), .int (-1), .int 0, .int 0, .int (-1), .int 0, .ref (am 10), .int 0, .ref (am 11), .ref (am 12), .ref (am 13), .ref (am 14), .long 0, .ref (am 15), .ref (am 16), .ref (am 17), .ref (am 18)]))]) [0] (by decide) rfl
  exact W.iret (v := (-1)) hx hb hr (gq_endI () rfl hP9 hD9 hS) hS.2.2 dX12_see_66
set_option maxHeartbeats 4000000 in
set_option maxRecDepth 100000 in
theorem c_M_isLetter_0 (l : Launch) (G : gg_T) (sz : Nat) (h0 : Nat) (am : Nat → Nat) : Met l yX12_isLetter (ts_L yX12_isLetter cX12_isLetter 2 (some .boolean)) ({ frames := 0, cells := 0, slots := 0, locals := 0 }) (gc_P G [(h0, .inr (12, [.ref (am 0), .int 0, .int 0, .ref (am 1), .ref (am 2), .ref (am 3), .ref (am 4), .ref (am 5), .int 0, .int 0, .int 0, .int 0, .int 0, .int 0, .int 0, .ref (am 6), .int 0, .ref (am 7), .int 0, .ref (am 8), .ref (am 9), .int (-1), .int 0, .int 0, .int (-1), .int 0, .ref (am 10), .int 0, .ref (am 11), .ref (am 12), .ref (am 13), .ref (am 14), .long 0, .ref (am 15), .ref (am 16), .ref (am 17), .ref (am 18)]))] sz [.ref h0, .int 0]) (gc_I G (va_A [(h0, .inr (12, [.ref (am 0), .int 0, .int 0, .ref (am 1), .ref (am 2), .ref (am 3), .ref (am 4), .ref (am 5), .int 0, .int 0, .int 0, .int 0, .int 0, .int 0, .int 0, .ref (am 6), .int 0, .ref (am 7), .int 0, .ref (am 8), .ref (am 9), .int (-1), .int 0, .int 0, .int (-1), .int 0, .ref (am 10), .int 0, .ref (am 11), .ref (am 12), .ref (am 13), .ref (am 14), .long 0, .ref (am 15), .ref (am 16), .ref (am 17), .ref (am 18)]))] sz) (fun r (_ : Unit) => r = 0) (fun _ => [(h0, .inr (12, [.ref (am 0), .int 0, .int 0, .ref (am 1), .ref (am 2), .ref (am 3), .ref (am 4), .ref (am 5), .int 0, .int 0, .int 0, .int 0, .int 0, .int 0, .int 0, .ref (am 6), .int 0, .ref (am 7), .int 0, .ref (am 8), .ref (am 9), .int (-1), .int 0, .int 0, .int (-1), .int 0, .ref (am 10), .int 0, .ref (am 11), .ref (am 12), .ref (am 13), .ref (am 14), .long 0, .ref (am 15), .ref (am 16), .ref (am 17), .ref (am 18)]))])) 0 0 (va_A [(h0, .inr (12, [.ref (am 0), .int 0, .int 0, .ref (am 1), .ref (am 2), .ref (am 3), .ref (am 4), .ref (am 5), .int 0, .int 0, .int 0, .int 0, .int 0, .int 0, .int 0, .ref (am 6), .int 0, .ref (am 7), .int 0, .ref (am 8), .ref (am 9), .int (-1), .int 0, .int 0, .int (-1), .int 0, .ref (am 10), .int 0, .ref (am 11), .ref (am 12), .ref (am 13), .ref (am 14), .long 0, .ref (am 15), .ref (am 16), .ref (am 17), .ref (am 18)]))] sz) := by
  refine Met.ofW (cc := cX12_isLetter) (maxL := 2) (ret := (some .boolean)) (by decide) rfl ?_
  intro p e s m args below meth c s₁ B hml hv
  obtain ⟨rfl, hsz, hP, hK, hD0⟩ := hv
  have hx := B.exec
  have hb := B.bytes
  have hr := B.returns
  have ht := ts_ht (atoms_spec (ws := ts_L yX12_isLetter cX12_isLetter 2 (some .boolean)) B.pre)
  have hown : s.vm.findClass RX12 = some m.cls := findClass_of_methodNamed B.named
  have hlocks := B.notSynchronized
  subst hsz
  have hD := hD0.self (sz := s.heap.size)
  generalize hAe : va_A [(h0, .inr (12, [.ref (am 0), .int 0, .int 0, .ref (am 1), .ref (am 2), .ref (am 3), .ref (am 4), .ref (am 5), .int 0, .int 0, .int 0, .int 0, .int 0, .int 0, .int 0, .ref (am 6), .int 0, .ref (am 7), .int 0, .ref (am 8), .ref (am 9), .int (-1), .int 0, .int 0, .int (-1), .int 0, .ref (am 10), .int 0, .ref (am 11), .ref (am 12), .ref (am 13), .ref (am 14), .long 0, .ref (am 15), .ref (am 16), .ref (am 17), .ref (am 18)]))] s.heap.size = A at hD ⊢
  have hA : ∀ q : Nat, s.heap.size ≤ q → A q := fun q h => by rw [← hAe]; exact Or.inr h
  have hS : va_S A s.heap s.heap [] := va_S.rf
  have hl := lv_entry ([.ref h0, .int 0]) (n := 2) (Nat.le_of_ble_eq_true rfl)
  rw [lg_entry_eq]
  generalize (lg_sl ([.ref h0, .int 0]) ++ List.replicate (2 - (lg_sl ([.ref h0, .int 0])).length) Slot.unset).toArray = ls at hl ⊢
  have hl : lv_has ls 2 [(0, .ref h0), (1, .int 0)] := hl
  refine lv_iload_n hx hb dX12_isLetter_0 rfl (lv_at hl 1 rfl) ?_
  refine lv_aload_n hx hb dX12_isLetter_1 rfl (lv_at hl 0 rfl) ?_
  refine gq_get hx hb ht hown hK hP i_X12 0 rfl rfl 1 (by decide) wd_1253 rfl rfl dX12_isLetter_2 ?_
  refine lv_icmp_ge (tgt := 34) hx hb dX12_isLetter_5 (by decide) (fun _ => ?_) (fun c0 => absurd (by decide +kernel) c0)
  refine lv_iconst (v := 0) hx hb dX12_isLetter_34 (by decide) ?_
  have hP9 := hP.sub (ws' := [(h0, .inr (12, [.ref (am 0), .int 0, .int 0, .ref (am 1), .ref (am 2), .ref (am 3), .ref (am 4), .ref (am 5), .int 0, .int 0, .int 0, .int 0, .int 0, .int 0, .int 0, .ref (am 6), .int 0, .ref (am 7), .int 0, .ref (am 8), .ref (am 9), .int (-1), .int 0, .int 0, .int (-1), .int 0, .ref (am 10), .int 0, .ref (am 11), .ref (am 12), .ref (am 13), .ref (am 14), .long 0, .ref (am 15), .ref (am 16), .ref (am 17), .ref (am 18)]))]) [0] rfl
  have hD9 := hD.sub (ws' := [(h0, .inr (12, [.ref (am 0), .int 0, .int 0, .ref (am 1), .ref (am 2), .ref (am 3), .ref (am 4), .ref (am 5), .int 0, .int 0, .int 0, .int 0, .int 0, .int 0, .int 0, .ref (am 6), .int 0, .ref (am 7), .int 0, .ref (am 8), .ref (am 9), .int (-1), .int 0, .int 0, .int (-1), .int 0, .ref (am 10), .int 0, .ref (am 11), .ref (am 12), .ref (am 13), .ref (am 14), .long 0, .ref (am 15), .ref (am 16), .ref (am 17), .ref (am 18)]))]) [0] (by decide) rfl
  exact W.zret (v := 0) hx hb hr (by decide +kernel) (gq_endI () rfl hP9 hD9 hS) hS.2.2 dX12_isLetter_35
set_option maxHeartbeats 4000000 in
set_option maxRecDepth 100000 in
theorem c_M_isWord_0 (l : Launch) (G : gg_T) (sz : Nat) (h0 : Nat) (am : Nat → Nat) (w : Int64) : Met l yX12_isWord (ts_L yX12_isWord cX12_isWord 6 (some .boolean)) ({ frames := 1, cells := 0, slots := 0, locals := 21 }) (gc_P G [(h0, .inr (12, [.ref (am 0), .int 0, .int 0, .ref (am 1), .ref (am 2), .ref (am 3), .ref (am 4), .ref (am 5), .int 0, .int 0, .int 0, .int 0, .int 0, .int 0, .int 0, .ref (am 6), .int 0, .ref (am 7), .int 0, .ref (am 8), .ref (am 9), .int (-1), .int 0, .int 0, .int (-1), .int 0, .ref (am 10), .int 0, .ref (am 11), .ref (am 12), .ref (am 13), .ref (am 14), .long 0, .ref (am 15), .ref (am 16), .ref (am 17), .ref (am 18)]))] sz [.ref h0, .long w]) (gc_I G (va_A [(h0, .inr (12, [.ref (am 0), .int 0, .int 0, .ref (am 1), .ref (am 2), .ref (am 3), .ref (am 4), .ref (am 5), .int 0, .int 0, .int 0, .int 0, .int 0, .int 0, .int 0, .ref (am 6), .int 0, .ref (am 7), .int 0, .ref (am 8), .ref (am 9), .int (-1), .int 0, .int 0, .int (-1), .int 0, .ref (am 10), .int 0, .ref (am 11), .ref (am 12), .ref (am 13), .ref (am 14), .long 0, .ref (am 15), .ref (am 16), .ref (am 17), .ref (am 18)]))] sz) (fun r (_ : Unit) => r = 0) (fun _ => [(h0, .inr (12, [.ref (am 0), .int 0, .int 0, .ref (am 1), .ref (am 2), .ref (am 3), .ref (am 4), .ref (am 5), .int 0, .int 0, .int 0, .int 0, .int 0, .int 0, .int 0, .ref (am 6), .int 0, .ref (am 7), .int 0, .ref (am 8), .ref (am 9), .int (-1), .int 0, .int 0, .int (-1), .int 0, .ref (am 10), .int 0, .ref (am 11), .ref (am 12), .ref (am 13), .ref (am 14), .long 0, .ref (am 15), .ref (am 16), .ref (am 17), .ref (am 18)]))])) 0 0 (va_A [(h0, .inr (12, [.ref (am 0), .int 0, .int 0, .ref (am 1), .ref (am 2), .ref (am 3), .ref (am 4), .ref (am 5), .int 0, .int 0, .int 0, .int 0, .int 0, .int 0, .int 0, .ref (am 6), .int 0, .ref (am 7), .int 0, .ref (am 8), .ref (am 9), .int (-1), .int 0, .int 0, .int (-1), .int 0, .ref (am 10), .int 0, .ref (am 11), .ref (am 12), .ref (am 13), .ref (am 14), .long 0, .ref (am 15), .ref (am 16), .ref (am 17), .ref (am 18)]))] sz) := by
  refine Met.ofW (cc := cX12_isWord) (maxL := 6) (ret := (some .boolean)) (by decide) rfl ?_
  intro p e s m args below meth c s₁ B hml hv
  obtain ⟨rfl, hsz, hP, hK, hD0⟩ := hv
  have hx := B.exec
  have hb := B.bytes
  have hr := B.returns
  have ht := ts_ht (atoms_spec (ws := ts_L yX12_isWord cX12_isWord 6 (some .boolean)) B.pre)
  have hown : s.vm.findClass RX12 = some m.cls := findClass_of_methodNamed B.named
  have hlocks := B.notSynchronized
  subst hsz
  have hD := hD0.self (sz := s.heap.size)
  generalize hAe : va_A [(h0, .inr (12, [.ref (am 0), .int 0, .int 0, .ref (am 1), .ref (am 2), .ref (am 3), .ref (am 4), .ref (am 5), .int 0, .int 0, .int 0, .int 0, .int 0, .int 0, .int 0, .ref (am 6), .int 0, .ref (am 7), .int 0, .ref (am 8), .ref (am 9), .int (-1), .int 0, .int 0, .int (-1), .int 0, .ref (am 10), .int 0, .ref (am 11), .ref (am 12), .ref (am 13), .ref (am 14), .long 0, .ref (am 15), .ref (am 16), .ref (am 17), .ref (am 18)]))] s.heap.size = A at hD ⊢
  have hA : ∀ q : Nat, s.heap.size ≤ q → A q := fun q h => by rw [← hAe]; exact Or.inr h
  have hS : va_S A s.heap s.heap [] := va_S.rf
  have hl := lv_entry ([.ref h0, .long w]) (n := 6) (Nat.le_of_ble_eq_true rfl)
  rw [lg_entry_eq]
  generalize (lg_sl ([.ref h0, .long w]) ++ List.replicate (6 - (lg_sl ([.ref h0, .long w])).length) Slot.unset).toArray = ls at hl ⊢
  have hl : lv_has ls 6 [(0, .ref h0), (1, .long w)] := hl
  refine lv_aload_n hx hb dX12_isWord_0 rfl (lv_at hl 0 rfl) ?_
  have hPc := hP.sub (ws' := [(h0, .inr (12, [.ref (am 0), .int 0, .int 0, .ref (am 1), .ref (am 2), .ref (am 3), .ref (am 4), .ref (am 5), .int 0, .int 0, .int 0, .int 0, .int 0, .int 0, .int 0, .ref (am 6), .int 0, .ref (am 7), .int 0, .ref (am 8), .ref (am 9), .int (-1), .int 0, .int 0, .int (-1), .int 0, .ref (am 10), .int 0, .ref (am 11), .ref (am 12), .ref (am 13), .ref (am 14), .long 0, .ref (am 15), .ref (am 16), .ref (am 17), .ref (am 18)]))]) [0] rfl
  have hDc := hD.sub (ws' := [(h0, .inr (12, [.ref (am 0), .int 0, .int 0, .ref (am 1), .ref (am 2), .ref (am 3), .ref (am 4), .ref (am 5), .int 0, .int 0, .int 0, .int 0, .int 0, .int 0, .int 0, .ref (am 6), .int 0, .ref (am 7), .int 0, .ref (am 8), .ref (am 9), .int (-1), .int 0, .int 0, .int (-1), .int 0, .ref (am 10), .int 0, .ref (am 11), .ref (am 12), .ref (am 13), .ref (am 14), .long 0, .ref (am 15), .ref (am 16), .ref (am 17), .ref (am 18)]))]) [0] (by decide) rfl
  refine gq_callI (wr := []) (va_runV (As := []) (rest := []) ⟨hx, hb, hml, hown, ht⟩ (c_M_see_0 l G s.heap.size h0 am) (cwV 0 ht (ts_gV wd_1389 wd_1391 wd_41 wd_134 wd_1392) rfl rfl rfl (by decide +kernel) ⟨Nat.le_of_ble_eq_true rfl, Nat.le_of_ble_eq_true rfl⟩) (gc_preV (ci := 12) (q0 := 0) hK hPc hDc rfl rfl) rfl rfl hl.1 rfl (lv_room (Nat.le_of_ble_eq_true rfl)) dX12_isWord_1 ⟨Nat.le_of_ble_eq_true rfl, Nat.le_of_ble_eq_true rfl⟩) hP hD hS hA [0] [] rfl rfl (by decide) (by decide) (fun r u H locs hw hP hD hS => ?_)
  have hw : r = (-1) := hw
  subst hw
  have hP : va_P (gg_D G) classes [(h0, .inr (12, [.ref (am 0), .int 0, .int 0, .ref (am 1), .ref (am 2), .ref (am 3), .ref (am 4), .ref (am 5), .int 0, .int 0, .int 0, .int 0, .int 0, .int 0, .int 0, .ref (am 6), .int 0, .ref (am 7), .int 0, .ref (am 8), .ref (am 9), .int (-1), .int 0, .int 0, .int (-1), .int 0, .ref (am 10), .int 0, .ref (am 11), .ref (am 12), .ref (am 13), .ref (am 14), .long 0, .ref (am 15), .ref (am 16), .ref (am 17), .ref (am 18)]))] H := hP
  have hD : va_D A [(h0, .inr (12, [.ref (am 0), .int 0, .int 0, .ref (am 1), .ref (am 2), .ref (am 3), .ref (am 4), .ref (am 5), .int 0, .int 0, .int 0, .int 0, .int 0, .int 0, .int 0, .ref (am 6), .int 0, .ref (am 7), .int 0, .ref (am 8), .ref (am 9), .int (-1), .int 0, .int 0, .int (-1), .int 0, .ref (am 10), .int 0, .ref (am 11), .ref (am 12), .ref (am 13), .ref (am 14), .long 0, .ref (am 15), .ref (am 16), .ref (am 17), .ref (am 18)]))] := hD
  refine lv_pop hx hb dX12_isWord_4 rfl ?_
  refine lv_lconst (v := 0) hx hb dX12_isWord_5 (by decide +kernel) ?_
  refine lv_lstore_n (lv' := [(3, .long 0), (0, .ref h0), (1, .long w)]) hx hb dX12_isWord_6 rfl hl (by decide) rfl (fun ls hl => ?_)
  refine lv_iconst (v := 0) hx hb dX12_isWord_7 (by decide) ?_
  refine lv_istore (lv' := [(5, .int 0), (3, .long 0), (0, .ref h0), (1, .long w)]) hx hb dX12_isWord_8 hl (by decide) rfl (fun ls hl => ?_)
  refine lv_aload_n hx hb dX12_isWord_10 rfl (lv_at hl 2 rfl) ?_
  refine lv_aload_n hx hb dX12_isWord_11 rfl (lv_at hl 2 rfl) ?_
  refine gq_get hx hb ht hown hK hP i_X12 0 rfl rfl 8 (by decide) wd_1260 rfl rfl dX12_isWord_12 ?_
  refine lv_iload hx hb dX12_isWord_15 (lv_at hl 0 rfl) ?_
  refine gq_iadd hx hb 0 (by decide +kernel) dX12_isWord_17 ?_
  have hPc := hP.sub (ws' := [(h0, .inr (12, [.ref (am 0), .int 0, .int 0, .ref (am 1), .ref (am 2), .ref (am 3), .ref (am 4), .ref (am 5), .int 0, .int 0, .int 0, .int 0, .int 0, .int 0, .int 0, .ref (am 6), .int 0, .ref (am 7), .int 0, .ref (am 8), .ref (am 9), .int (-1), .int 0, .int 0, .int (-1), .int 0, .ref (am 10), .int 0, .ref (am 11), .ref (am 12), .ref (am 13), .ref (am 14), .long 0, .ref (am 15), .ref (am 16), .ref (am 17), .ref (am 18)]))]) [0] rfl
  have hDc := hD.sub (ws' := [(h0, .inr (12, [.ref (am 0), .int 0, .int 0, .ref (am 1), .ref (am 2), .ref (am 3), .ref (am 4), .ref (am 5), .int 0, .int 0, .int 0, .int 0, .int 0, .int 0, .int 0, .ref (am 6), .int 0, .ref (am 7), .int 0, .ref (am 8), .ref (am 9), .int (-1), .int 0, .int 0, .int (-1), .int 0, .ref (am 10), .int 0, .ref (am 11), .ref (am 12), .ref (am 13), .ref (am 14), .long 0, .ref (am 15), .ref (am 16), .ref (am 17), .ref (am 18)]))]) [0] (by decide) rfl
  refine gq_callI (wr := []) (va_runV (As := [.int 0]) (rest := []) ⟨hx, hb, hml, hown, ht⟩ (c_M_isLetter_0 l G H.size h0 am) (cwV 1 ht (ts_gV wd_1402 wd_1404 wd_44 wd_134 wd_1405) rfl rfl rfl (by decide +kernel) ⟨Nat.le_of_ble_eq_true rfl, Nat.le_of_ble_eq_true rfl⟩) (gc_preV (ci := 12) (q0 := 0) hK hPc hDc rfl rfl) rfl rfl hl.1 rfl (lv_room (Nat.le_of_ble_eq_true rfl)) dX12_isWord_18 ⟨Nat.le_of_ble_eq_true rfl, Nat.le_of_ble_eq_true rfl⟩) hP hD hS hA [0] [] rfl rfl (by decide) (by decide) (fun r u H locs hw hP hD hS => ?_)
  have hw : r = 0 := hw
  subst hw
  have hP : va_P (gg_D G) classes [(h0, .inr (12, [.ref (am 0), .int 0, .int 0, .ref (am 1), .ref (am 2), .ref (am 3), .ref (am 4), .ref (am 5), .int 0, .int 0, .int 0, .int 0, .int 0, .int 0, .int 0, .ref (am 6), .int 0, .ref (am 7), .int 0, .ref (am 8), .ref (am 9), .int (-1), .int 0, .int 0, .int (-1), .int 0, .ref (am 10), .int 0, .ref (am 11), .ref (am 12), .ref (am 13), .ref (am 14), .long 0, .ref (am 15), .ref (am 16), .ref (am 17), .ref (am 18)]))] H := hP
  have hD : va_D A [(h0, .inr (12, [.ref (am 0), .int 0, .int 0, .ref (am 1), .ref (am 2), .ref (am 3), .ref (am 4), .ref (am 5), .int 0, .int 0, .int 0, .int 0, .int 0, .int 0, .int 0, .ref (am 6), .int 0, .ref (am 7), .int 0, .ref (am 8), .ref (am 9), .int (-1), .int 0, .int 0, .int (-1), .int 0, .ref (am 10), .int 0, .ref (am 11), .ref (am 12), .ref (am 13), .ref (am 14), .long 0, .ref (am 15), .ref (am 16), .ref (am 17), .ref (am 18)]))] := hD
  refine lv_if_eq (tgt := 56) hx hb dX12_isWord_21 (by decide) (fun _ => ?_) (fun c0 => absurd (by decide +kernel) c0)
  refine lv_iload hx hb dX12_isWord_56 (lv_at hl 0 rfl) ?_
  refine lv_if_le (tgt := 78) hx hb dX12_isWord_58 (by decide) (fun _ => ?_) (fun c0 => absurd (by decide +kernel) c0)
  refine lv_iconst (v := 0) hx hb dX12_isWord_78 (by decide) ?_
  have hP9 := hP.sub (ws' := [(h0, .inr (12, [.ref (am 0), .int 0, .int 0, .ref (am 1), .ref (am 2), .ref (am 3), .ref (am 4), .ref (am 5), .int 0, .int 0, .int 0, .int 0, .int 0, .int 0, .int 0, .ref (am 6), .int 0, .ref (am 7), .int 0, .ref (am 8), .ref (am 9), .int (-1), .int 0, .int 0, .int (-1), .int 0, .ref (am 10), .int 0, .ref (am 11), .ref (am 12), .ref (am 13), .ref (am 14), .long 0, .ref (am 15), .ref (am 16), .ref (am 17), .ref (am 18)]))]) [0] rfl
  have hD9 := hD.sub (ws' := [(h0, .inr (12, [.ref (am 0), .int 0, .int 0, .ref (am 1), .ref (am 2), .ref (am 3), .ref (am 4), .ref (am 5), .int 0, .int 0, .int 0, .int 0, .int 0, .int 0, .int 0, .ref (am 6), .int 0, .ref (am 7), .int 0, .ref (am 8), .ref (am 9), .int (-1), .int 0, .int 0, .int (-1), .int 0, .ref (am 10), .int 0, .ref (am 11), .ref (am 12), .ref (am 13), .ref (am 14), .long 0, .ref (am 15), .ref (am 16), .ref (am 17), .ref (am 18)]))]) [0] (by decide) rfl
  exact W.zret (v := 0) hx hb hr (by decide +kernel) (gq_endI () rfl hP9 hD9 hS) hS.2.2 dX12_isWord_79
set_option maxHeartbeats 4000000 in
set_option maxRecDepth 100000 in
theorem c_M_fails_0 (l : Launch) (G : gg_T) (sz : Nat) (h0 : Nat) (am : Nat → Nat) : Met l yX12_fails (ts_L yX12_fails cX12_fails 3 (some .boolean)) ({ frames := 0, cells := 0, slots := 0, locals := 0 }) (gc_P G [(h0, .inr (12, [.ref (am 0), .int 0, .int 0, .ref (am 1), .ref (am 2), .ref (am 3), .ref (am 4), .ref (am 5), .int 0, .int 0, .int 0, .int 0, .int 0, .int 0, .int 0, .ref (am 6), .int 0, .ref (am 7), .int 0, .ref (am 8), .ref (am 9), .int (-1), .int 0, .int 0, .int (-1), .int 0, .ref (am 10), .int 0, .ref (am 11), .ref (am 12), .ref (am 13), .ref (am 14), .long 0, .ref (am 15), .ref (am 16), .ref (am 17), .ref (am 18)]))] sz [.ref h0, .int 0, .int 0]) (gc_I G (va_A [(h0, .inr (12, [.ref (am 0), .int 0, .int 0, .ref (am 1), .ref (am 2), .ref (am 3), .ref (am 4), .ref (am 5), .int 0, .int 0, .int 0, .int 0, .int 0, .int 0, .int 0, .ref (am 6), .int 0, .ref (am 7), .int 0, .ref (am 8), .ref (am 9), .int (-1), .int 0, .int 0, .int (-1), .int 0, .ref (am 10), .int 0, .ref (am 11), .ref (am 12), .ref (am 13), .ref (am 14), .long 0, .ref (am 15), .ref (am 16), .ref (am 17), .ref (am 18)]))] sz) (fun r (_ : Unit) => r = 0) (fun _ => [(h0, .inr (12, [.ref (am 0), .int 0, .int 0, .ref (am 1), .ref (am 2), .ref (am 3), .ref (am 4), .ref (am 5), .int 0, .int 1, .int 0, .int 0, .int 0, .int 0, .int 0, .ref (am 6), .int 0, .ref (am 7), .int 0, .ref (am 8), .ref (am 9), .int (-1), .int 0, .int 0, .int (-1), .int 0, .ref (am 10), .int 0, .ref (am 11), .ref (am 12), .ref (am 13), .ref (am 14), .long 0, .ref (am 15), .ref (am 16), .ref (am 17), .ref (am 18)]))])) 0 0 (va_A [(h0, .inr (12, [.ref (am 0), .int 0, .int 0, .ref (am 1), .ref (am 2), .ref (am 3), .ref (am 4), .ref (am 5), .int 0, .int 0, .int 0, .int 0, .int 0, .int 0, .int 0, .ref (am 6), .int 0, .ref (am 7), .int 0, .ref (am 8), .ref (am 9), .int (-1), .int 0, .int 0, .int (-1), .int 0, .ref (am 10), .int 0, .ref (am 11), .ref (am 12), .ref (am 13), .ref (am 14), .long 0, .ref (am 15), .ref (am 16), .ref (am 17), .ref (am 18)]))] sz) := by
  refine Met.ofW (cc := cX12_fails) (maxL := 3) (ret := (some .boolean)) (by decide) rfl ?_
  intro p e s m args below meth c s₁ B hml hv
  obtain ⟨rfl, hsz, hP, hK, hD0⟩ := hv
  have hx := B.exec
  have hb := B.bytes
  have hr := B.returns
  have ht := ts_ht (atoms_spec (ws := ts_L yX12_fails cX12_fails 3 (some .boolean)) B.pre)
  have hown : s.vm.findClass RX12 = some m.cls := findClass_of_methodNamed B.named
  have hlocks := B.notSynchronized
  subst hsz
  have hD := hD0.self (sz := s.heap.size)
  generalize hAe : va_A [(h0, .inr (12, [.ref (am 0), .int 0, .int 0, .ref (am 1), .ref (am 2), .ref (am 3), .ref (am 4), .ref (am 5), .int 0, .int 0, .int 0, .int 0, .int 0, .int 0, .int 0, .ref (am 6), .int 0, .ref (am 7), .int 0, .ref (am 8), .ref (am 9), .int (-1), .int 0, .int 0, .int (-1), .int 0, .ref (am 10), .int 0, .ref (am 11), .ref (am 12), .ref (am 13), .ref (am 14), .long 0, .ref (am 15), .ref (am 16), .ref (am 17), .ref (am 18)]))] s.heap.size = A at hD ⊢
  have hA : ∀ q : Nat, s.heap.size ≤ q → A q := fun q h => by rw [← hAe]; exact Or.inr h
  have hS : va_S A s.heap s.heap [] := va_S.rf
  have hl := lv_entry ([.ref h0, .int 0, .int 0]) (n := 3) (Nat.le_of_ble_eq_true rfl)
  rw [lg_entry_eq]
  generalize (lg_sl ([.ref h0, .int 0, .int 0]) ++ List.replicate (3 - (lg_sl ([.ref h0, .int 0, .int 0])).length) Slot.unset).toArray = ls at hl ⊢
  have hl : lv_has ls 3 [(0, .ref h0), (1, .int 0), (2, .int 0)] := hl
  refine lv_aload_n hx hb dX12_fails_0 rfl (lv_at hl 0 rfl) ?_
  refine gq_get hx hb ht hown hK hP i_X12 0 rfl rfl 9 (by decide) wd_1261 rfl rfl dX12_fails_1 ?_
  refine lv_if_ne (tgt := 19) hx hb dX12_fails_4 (by decide) (fun c0 => absurd (by decide +kernel) c0) (fun _ => ?_)
  refine lv_aload_n hx hb dX12_fails_7 rfl (lv_at hl 0 rfl) ?_
  refine lv_iconst (v := 1) hx hb dX12_fails_8 (by decide) ?_
  refine lv_bipush (v := 8) hx hb dX12_fails_9 (by decide +kernel) ?_
  refine lv_iload_n hx hb dX12_fails_11 rfl (lv_at hl 2 rfl) ?_
  refine gq_imul hx hb 0 (by decide +kernel) dX12_fails_12 ?_
  refine gq_iadd hx hb 1 (by decide +kernel) dX12_fails_13 ?_
  refine lv_iload_n hx hb dX12_fails_14 rfl (lv_at hl 1 rfl) ?_
  refine gq_iadd hx hb 1 (by decide +kernel) dX12_fails_15 ?_
  refine gq_put (ws' := [(h0, .inr (12, [.ref (am 0), .int 0, .int 0, .ref (am 1), .ref (am 2), .ref (am 3), .ref (am 4), .ref (am 5), .int 0, .int 1, .int 0, .int 0, .int 0, .int 0, .int 0, .ref (am 6), .int 0, .ref (am 7), .int 0, .ref (am 8), .ref (am 9), .int (-1), .int 0, .int 0, .int (-1), .int 0, .ref (am 10), .int 0, .ref (am 11), .ref (am 12), .ref (am 13), .ref (am 14), .long 0, .ref (am 15), .ref (am 16), .ref (am 17), .ref (am 18)]))]) hx hb ht hown hK hP hD hS i_X12 tyX12 tyX12_ok nmX12 0 rfl rfl 9 (by decide) wd_1261 rfl rfl rfl rfl (Nat.le_of_ble_eq_true rfl) rfl dX12_fails_16 (fun H locs hP hD hS => ?_)
  refine lv_iconst (v := 0) hx hb dX12_fails_19 (by decide) ?_
  have hP9 := hP.sub (ws' := [(h0, .inr (12, [.ref (am 0), .int 0, .int 0, .ref (am 1), .ref (am 2), .ref (am 3), .ref (am 4), .ref (am 5), .int 0, .int 1, .int 0, .int 0, .int 0, .int 0, .int 0, .ref (am 6), .int 0, .ref (am 7), .int 0, .ref (am 8), .ref (am 9), .int (-1), .int 0, .int 0, .int (-1), .int 0, .ref (am 10), .int 0, .ref (am 11), .ref (am 12), .ref (am 13), .ref (am 14), .long 0, .ref (am 15), .ref (am 16), .ref (am 17), .ref (am 18)]))]) [0] rfl
  have hD9 := hD.sub (ws' := [(h0, .inr (12, [.ref (am 0), .int 0, .int 0, .ref (am 1), .ref (am 2), .ref (am 3), .ref (am 4), .ref (am 5), .int 0, .int 1, .int 0, .int 0, .int 0, .int 0, .int 0, .ref (am 6), .int 0, .ref (am 7), .int 0, .ref (am 8), .ref (am 9), .int (-1), .int 0, .int 0, .int (-1), .int 0, .ref (am 10), .int 0, .ref (am 11), .ref (am 12), .ref (am 13), .ref (am 14), .long 0, .ref (am 15), .ref (am 16), .ref (am 17), .ref (am 18)]))]) [0] (by decide) rfl
  exact W.zret (v := 0) hx hb hr (by decide +kernel) (gq_endI () rfl hP9 hD9 hS) hS.2.2 dX12_fails_20
set_option maxHeartbeats 4000000 in
set_option maxRecDepth 100000 in
theorem c_M_clauseHere_0 (l : Launch) (G : gg_T) (sz : Nat) (h0 : Nat) (am : Nat → Nat) : Met l yX12_clauseHere (ts_L yX12_clauseHere cX12_clauseHere 3 (some .boolean)) ({ frames := 2, cells := 0, slots := 0, locals := 46 }) (gc_P G [(h0, .inr (12, [.ref (am 0), .int 0, .int 0, .ref (am 1), .ref (am 2), .ref (am 3), .ref (am 4), .ref (am 5), .int 0, .int 0, .int 0, .int 0, .int 0, .int 0, .int 0, .ref (am 6), .int 0, .ref (am 7), .int 0, .ref (am 8), .ref (am 9), .int (-1), .int 0, .int 0, .int (-1), .int 0, .ref (am 10), .int 0, .ref (am 11), .ref (am 12), .ref (am 13), .ref (am 14), .long 0, .ref (am 15), .ref (am 16), .ref (am 17), .ref (am 18)]))] sz [.ref h0]) (gc_I G (va_A [(h0, .inr (12, [.ref (am 0), .int 0, .int 0, .ref (am 1), .ref (am 2), .ref (am 3), .ref (am 4), .ref (am 5), .int 0, .int 0, .int 0, .int 0, .int 0, .int 0, .int 0, .ref (am 6), .int 0, .ref (am 7), .int 0, .ref (am 8), .ref (am 9), .int (-1), .int 0, .int 0, .int (-1), .int 0, .ref (am 10), .int 0, .ref (am 11), .ref (am 12), .ref (am 13), .ref (am 14), .long 0, .ref (am 15), .ref (am 16), .ref (am 17), .ref (am 18)]))] sz) (fun r (_ : Unit) => r = 0) (fun _ => [(h0, .inr (12, [.ref (am 0), .int 0, .int 0, .ref (am 1), .ref (am 2), .ref (am 3), .ref (am 4), .ref (am 5), .int 0, .int 1, .int 0, .int 0, .int 0, .int 0, .int 0, .ref (am 6), .int 0, .ref (am 7), .int 0, .ref (am 8), .ref (am 9), .int (-1), .int 0, .int 0, .int (-1), .int 0, .ref (am 10), .int 0, .ref (am 11), .ref (am 12), .ref (am 13), .ref (am 14), .long 0, .ref (am 15), .ref (am 16), .ref (am 17), .ref (am 18)]))])) 0 0 (va_A [(h0, .inr (12, [.ref (am 0), .int 0, .int 0, .ref (am 1), .ref (am 2), .ref (am 3), .ref (am 4), .ref (am 5), .int 0, .int 0, .int 0, .int 0, .int 0, .int 0, .int 0, .ref (am 6), .int 0, .ref (am 7), .int 0, .ref (am 8), .ref (am 9), .int (-1), .int 0, .int 0, .int (-1), .int 0, .ref (am 10), .int 0, .ref (am 11), .ref (am 12), .ref (am 13), .ref (am 14), .long 0, .ref (am 15), .ref (am 16), .ref (am 17), .ref (am 18)]))] sz) := by
  refine Met.ofW (cc := cX12_clauseHere) (maxL := 3) (ret := (some .boolean)) (by decide) rfl ?_
  intro p e s m args below meth c s₁ B hml hv
  obtain ⟨rfl, hsz, hP, hK, hD0⟩ := hv
  have hx := B.exec
  have hb := B.bytes
  have hr := B.returns
  have ht := ts_ht (atoms_spec (ws := ts_L yX12_clauseHere cX12_clauseHere 3 (some .boolean)) B.pre)
  have hown : s.vm.findClass RX12 = some m.cls := findClass_of_methodNamed B.named
  have hlocks := B.notSynchronized
  subst hsz
  have hD := hD0.self (sz := s.heap.size)
  generalize hAe : va_A [(h0, .inr (12, [.ref (am 0), .int 0, .int 0, .ref (am 1), .ref (am 2), .ref (am 3), .ref (am 4), .ref (am 5), .int 0, .int 0, .int 0, .int 0, .int 0, .int 0, .int 0, .ref (am 6), .int 0, .ref (am 7), .int 0, .ref (am 8), .ref (am 9), .int (-1), .int 0, .int 0, .int (-1), .int 0, .ref (am 10), .int 0, .ref (am 11), .ref (am 12), .ref (am 13), .ref (am 14), .long 0, .ref (am 15), .ref (am 16), .ref (am 17), .ref (am 18)]))] s.heap.size = A at hD ⊢
  have hA : ∀ q : Nat, s.heap.size ≤ q → A q := fun q h => by rw [← hAe]; exact Or.inr h
  have hS : va_S A s.heap s.heap [] := va_S.rf
  have hl := lv_entry ([.ref h0]) (n := 3) (Nat.le_of_ble_eq_true rfl)
  rw [lg_entry_eq]
  generalize (lg_sl ([.ref h0]) ++ List.replicate (3 - (lg_sl ([.ref h0])).length) Slot.unset).toArray = ls at hl ⊢
  have hl : lv_has ls 3 [(0, .ref h0)] := hl
  refine lv_aload_n hx hb dX12_clauseHere_0 rfl (lv_at hl 0 rfl) ?_
  have hPc := hP.sub (ws' := [(h0, .inr (12, [.ref (am 0), .int 0, .int 0, .ref (am 1), .ref (am 2), .ref (am 3), .ref (am 4), .ref (am 5), .int 0, .int 0, .int 0, .int 0, .int 0, .int 0, .int 0, .ref (am 6), .int 0, .ref (am 7), .int 0, .ref (am 8), .ref (am 9), .int (-1), .int 0, .int 0, .int (-1), .int 0, .ref (am 10), .int 0, .ref (am 11), .ref (am 12), .ref (am 13), .ref (am 14), .long 0, .ref (am 15), .ref (am 16), .ref (am 17), .ref (am 18)]))]) [0] rfl
  have hDc := hD.sub (ws' := [(h0, .inr (12, [.ref (am 0), .int 0, .int 0, .ref (am 1), .ref (am 2), .ref (am 3), .ref (am 4), .ref (am 5), .int 0, .int 0, .int 0, .int 0, .int 0, .int 0, .int 0, .ref (am 6), .int 0, .ref (am 7), .int 0, .ref (am 8), .ref (am 9), .int (-1), .int 0, .int 0, .int (-1), .int 0, .ref (am 10), .int 0, .ref (am 11), .ref (am 12), .ref (am 13), .ref (am 14), .long 0, .ref (am 15), .ref (am 16), .ref (am 17), .ref (am 18)]))]) [0] (by decide) rfl
  refine gq_callI (wr := []) (va_runV (As := []) (rest := []) ⟨hx, hb, hml, hown, ht⟩ (c_M_see_0 l G s.heap.size h0 am) (cwV 0 ht (ts_gV wd_1389 wd_1391 wd_41 wd_134 wd_1392) rfl rfl rfl (by decide +kernel) ⟨Nat.le_of_ble_eq_true rfl, Nat.le_of_ble_eq_true rfl⟩) (gc_preV (ci := 12) (q0 := 0) hK hPc hDc rfl rfl) rfl rfl hl.1 rfl (lv_room (Nat.le_of_ble_eq_true rfl)) dX12_clauseHere_1 ⟨Nat.le_of_ble_eq_true rfl, Nat.le_of_ble_eq_true rfl⟩) hP hD hS hA [0] [] rfl rfl (by decide) (by decide) (fun r u H locs hw hP hD hS => ?_)
  have hw : r = (-1) := hw
  subst hw
  have hP : va_P (gg_D G) classes [(h0, .inr (12, [.ref (am 0), .int 0, .int 0, .ref (am 1), .ref (am 2), .ref (am 3), .ref (am 4), .ref (am 5), .int 0, .int 0, .int 0, .int 0, .int 0, .int 0, .int 0, .ref (am 6), .int 0, .ref (am 7), .int 0, .ref (am 8), .ref (am 9), .int (-1), .int 0, .int 0, .int (-1), .int 0, .ref (am 10), .int 0, .ref (am 11), .ref (am 12), .ref (am 13), .ref (am 14), .long 0, .ref (am 15), .ref (am 16), .ref (am 17), .ref (am 18)]))] H := hP
  have hD : va_D A [(h0, .inr (12, [.ref (am 0), .int 0, .int 0, .ref (am 1), .ref (am 2), .ref (am 3), .ref (am 4), .ref (am 5), .int 0, .int 0, .int 0, .int 0, .int 0, .int 0, .int 0, .ref (am 6), .int 0, .ref (am 7), .int 0, .ref (am 8), .ref (am 9), .int (-1), .int 0, .int 0, .int (-1), .int 0, .ref (am 10), .int 0, .ref (am 11), .ref (am 12), .ref (am 13), .ref (am 14), .long 0, .ref (am 15), .ref (am 16), .ref (am 17), .ref (am 18)]))] := hD
  refine lv_pop hx hb dX12_clauseHere_4 rfl ?_
  refine lv_aload_n hx hb dX12_clauseHere_5 rfl (lv_at hl 0 rfl) ?_
  refine gq_get hx hb ht hown hK hP i_X12 0 rfl rfl 8 (by decide) wd_1260 rfl rfl dX12_clauseHere_6 ?_
  refine lv_istore_n (lv' := [(1, .int 0), (0, .ref h0)]) hx hb dX12_clauseHere_9 rfl hl (by decide) rfl (fun ls hl => ?_)
  refine lv_aload_n hx hb dX12_clauseHere_10 rfl (lv_at hl 1 rfl) ?_
  refine gq_get hx hb ht hown hK hP i_X12 0 rfl rfl 11 (by decide) wd_1263 rfl rfl dX12_clauseHere_11 ?_
  refine lv_bipush (v := 6) hx hb dX12_clauseHere_14 (by decide +kernel) ?_
  refine lv_icmp_ne (tgt := 23) hx hb dX12_clauseHere_16 (by decide) (fun _ => ?_) (fun c0 => absurd c0 (by decide +kernel))
  refine lv_iconst (v := 0) hx hb dX12_clauseHere_23 (by decide) ?_
  refine lv_istore_n (lv' := [(2, .int 0), (1, .int 0), (0, .ref h0)]) hx hb dX12_clauseHere_24 rfl hl (by decide) rfl (fun ls hl => ?_)
  refine lv_iload_n hx hb dX12_clauseHere_25 rfl (lv_at hl 0 rfl) ?_
  refine lv_if_eq (tgt := 39) hx hb dX12_clauseHere_26 (by decide) (fun _ => ?_) (fun c0 => absurd (by decide +kernel) c0)
  refine lv_aload_n hx hb dX12_clauseHere_39 rfl (lv_at hl 2 rfl) ?_
  refine lv_ldc2 hx hb hown (ht _ wd_1410) dX12_clauseHere_40 ?_
  have hPc := hP.sub (ws' := [(h0, .inr (12, [.ref (am 0), .int 0, .int 0, .ref (am 1), .ref (am 2), .ref (am 3), .ref (am 4), .ref (am 5), .int 0, .int 0, .int 0, .int 0, .int 0, .int 0, .int 0, .ref (am 6), .int 0, .ref (am 7), .int 0, .ref (am 8), .ref (am 9), .int (-1), .int 0, .int 0, .int (-1), .int 0, .ref (am 10), .int 0, .ref (am 11), .ref (am 12), .ref (am 13), .ref (am 14), .long 0, .ref (am 15), .ref (am 16), .ref (am 17), .ref (am 18)]))]) [0] rfl
  have hDc := hD.sub (ws' := [(h0, .inr (12, [.ref (am 0), .int 0, .int 0, .ref (am 1), .ref (am 2), .ref (am 3), .ref (am 4), .ref (am 5), .int 0, .int 0, .int 0, .int 0, .int 0, .int 0, .int 0, .ref (am 6), .int 0, .ref (am 7), .int 0, .ref (am 8), .ref (am 9), .int (-1), .int 0, .int 0, .int (-1), .int 0, .ref (am 10), .int 0, .ref (am 11), .ref (am 12), .ref (am 13), .ref (am 14), .long 0, .ref (am 15), .ref (am 16), .ref (am 17), .ref (am 18)]))]) [0] (by decide) rfl
  refine gq_callI (wr := []) (va_runV (As := [.long 495806931307]) (rest := []) ⟨hx, hb, hml, hown, ht⟩ (c_M_isWord_0 l G H.size h0 am 495806931307) (cwV 1 ht (ts_gV wd_1398 wd_1400 wd_43 wd_134 wd_1401) rfl rfl rfl (by decide +kernel) ⟨Nat.le_of_ble_eq_true rfl, Nat.le_of_ble_eq_true rfl⟩) (gc_preV (ci := 12) (q0 := 0) hK hPc hDc rfl rfl) rfl rfl hl.1 rfl (lv_room (Nat.le_of_ble_eq_true rfl)) dX12_clauseHere_43 ⟨Nat.le_of_ble_eq_true rfl, Nat.le_of_ble_eq_true rfl⟩) hP hD hS hA [0] [] rfl rfl (by decide) (by decide) (fun r u H locs hw hP hD hS => ?_)
  have hw : r = 0 := hw
  subst hw
  have hP : va_P (gg_D G) classes [(h0, .inr (12, [.ref (am 0), .int 0, .int 0, .ref (am 1), .ref (am 2), .ref (am 3), .ref (am 4), .ref (am 5), .int 0, .int 0, .int 0, .int 0, .int 0, .int 0, .int 0, .ref (am 6), .int 0, .ref (am 7), .int 0, .ref (am 8), .ref (am 9), .int (-1), .int 0, .int 0, .int (-1), .int 0, .ref (am 10), .int 0, .ref (am 11), .ref (am 12), .ref (am 13), .ref (am 14), .long 0, .ref (am 15), .ref (am 16), .ref (am 17), .ref (am 18)]))] H := hP
  have hD : va_D A [(h0, .inr (12, [.ref (am 0), .int 0, .int 0, .ref (am 1), .ref (am 2), .ref (am 3), .ref (am 4), .ref (am 5), .int 0, .int 0, .int 0, .int 0, .int 0, .int 0, .int 0, .ref (am 6), .int 0, .ref (am 7), .int 0, .ref (am 8), .ref (am 9), .int (-1), .int 0, .int 0, .int (-1), .int 0, .ref (am 10), .int 0, .ref (am 11), .ref (am 12), .ref (am 13), .ref (am 14), .long 0, .ref (am 15), .ref (am 16), .ref (am 17), .ref (am 18)]))] := hD
  refine lv_if_ne (tgt := 56) hx hb dX12_clauseHere_46 (by decide) (fun c0 => absurd (by decide +kernel) c0) (fun _ => ?_)
  refine lv_aload_n hx hb dX12_clauseHere_49 rfl (lv_at hl 2 rfl) ?_
  refine lv_iconst (v := 0) hx hb dX12_clauseHere_50 (by decide) ?_
  refine lv_iload_n hx hb dX12_clauseHere_51 rfl (lv_at hl 1 rfl) ?_
  have hPc := hP.sub (ws' := [(h0, .inr (12, [.ref (am 0), .int 0, .int 0, .ref (am 1), .ref (am 2), .ref (am 3), .ref (am 4), .ref (am 5), .int 0, .int 0, .int 0, .int 0, .int 0, .int 0, .int 0, .ref (am 6), .int 0, .ref (am 7), .int 0, .ref (am 8), .ref (am 9), .int (-1), .int 0, .int 0, .int (-1), .int 0, .ref (am 10), .int 0, .ref (am 11), .ref (am 12), .ref (am 13), .ref (am 14), .long 0, .ref (am 15), .ref (am 16), .ref (am 17), .ref (am 18)]))]) [0] rfl
  have hDc := hD.sub (ws' := [(h0, .inr (12, [.ref (am 0), .int 0, .int 0, .ref (am 1), .ref (am 2), .ref (am 3), .ref (am 4), .ref (am 5), .int 0, .int 0, .int 0, .int 0, .int 0, .int 0, .int 0, .ref (am 6), .int 0, .ref (am 7), .int 0, .ref (am 8), .ref (am 9), .int (-1), .int 0, .int 0, .int (-1), .int 0, .ref (am 10), .int 0, .ref (am 11), .ref (am 12), .ref (am 13), .ref (am 14), .long 0, .ref (am 15), .ref (am 16), .ref (am 17), .ref (am 18)]))]) [0] (by decide) rfl
  refine gq_callI (wr := []) (va_runV (As := [.int 0, .int 0]) (rest := []) ⟨hx, hb, hml, hown, ht⟩ (c_M_fails_0 l G H.size h0 am) (cwV 2 ht (ts_gV wd_1411 wd_1413 wd_45 wd_134 wd_1414) rfl rfl rfl (by decide +kernel) ⟨Nat.le_of_ble_eq_true rfl, Nat.le_of_ble_eq_true rfl⟩) (gc_preV (ci := 12) (q0 := 0) hK hPc hDc rfl rfl) rfl rfl hl.1 rfl (lv_room (Nat.le_of_ble_eq_true rfl)) dX12_clauseHere_52 ⟨Nat.le_of_ble_eq_true rfl, Nat.le_of_ble_eq_true rfl⟩) hP hD hS hA [0] [] rfl rfl (by decide) (by decide) (fun r u H locs hw hP hD hS => ?_)
  have hw : r = 0 := hw
  subst hw
  have hP : va_P (gg_D G) classes [(h0, .inr (12, [.ref (am 0), .int 0, .int 0, .ref (am 1), .ref (am 2), .ref (am 3), .ref (am 4), .ref (am 5), .int 0, .int 1, .int 0, .int 0, .int 0, .int 0, .int 0, .ref (am 6), .int 0, .ref (am 7), .int 0, .ref (am 8), .ref (am 9), .int (-1), .int 0, .int 0, .int (-1), .int 0, .ref (am 10), .int 0, .ref (am 11), .ref (am 12), .ref (am 13), .ref (am 14), .long 0, .ref (am 15), .ref (am 16), .ref (am 17), .ref (am 18)]))] H := hP
  have hD : va_D A [(h0, .inr (12, [.ref (am 0), .int 0, .int 0, .ref (am 1), .ref (am 2), .ref (am 3), .ref (am 4), .ref (am 5), .int 0, .int 1, .int 0, .int 0, .int 0, .int 0, .int 0, .ref (am 6), .int 0, .ref (am 7), .int 0, .ref (am 8), .ref (am 9), .int (-1), .int 0, .int 0, .int (-1), .int 0, .ref (am 10), .int 0, .ref (am 11), .ref (am 12), .ref (am 13), .ref (am 14), .long 0, .ref (am 15), .ref (am 16), .ref (am 17), .ref (am 18)]))] := hD
  have hP9 := hP.sub (ws' := [(h0, .inr (12, [.ref (am 0), .int 0, .int 0, .ref (am 1), .ref (am 2), .ref (am 3), .ref (am 4), .ref (am 5), .int 0, .int 1, .int 0, .int 0, .int 0, .int 0, .int 0, .ref (am 6), .int 0, .ref (am 7), .int 0, .ref (am 8), .ref (am 9), .int (-1), .int 0, .int 0, .int (-1), .int 0, .ref (am 10), .int 0, .ref (am 11), .ref (am 12), .ref (am 13), .ref (am 14), .long 0, .ref (am 15), .ref (am 16), .ref (am 17), .ref (am 18)]))]) [0] rfl
  have hD9 := hD.sub (ws' := [(h0, .inr (12, [.ref (am 0), .int 0, .int 0, .ref (am 1), .ref (am 2), .ref (am 3), .ref (am 4), .ref (am 5), .int 0, .int 1, .int 0, .int 0, .int 0, .int 0, .int 0, .ref (am 6), .int 0, .ref (am 7), .int 0, .ref (am 8), .ref (am 9), .int (-1), .int 0, .int 0, .int (-1), .int 0, .ref (am 10), .int 0, .ref (am 11), .ref (am 12), .ref (am 13), .ref (am 14), .long 0, .ref (am 15), .ref (am 16), .ref (am 17), .ref (am 18)]))]) [0] (by decide) rfl
  exact W.zret (v := 0) hx hb hr (by decide +kernel) (gq_endI () rfl hP9 hD9 hS) hS.2.2 dX12_clauseHere_55
set_option maxHeartbeats 4000000 in
set_option maxRecDepth 100000 in
theorem c_M_readsAll_0 (l : Launch) (G : gg_T) (sz : Nat) (h0 : Nat) (am : Nat → Nat) : Met l yX12_readsAll (ts_L yX12_readsAll cX12_readsAll 2 (some .boolean)) ({ frames := 3, cells := 0, slots := 0, locals := 68 }) (gc_P G [(h0, .inr (12, [.ref (am 0), .int 0, .int 0, .ref (am 1), .ref (am 2), .ref (am 3), .ref (am 4), .ref (am 5), .int 0, .int 0, .int 0, .int 0, .int 0, .int 0, .int 0, .ref (am 6), .int 0, .ref (am 7), .int 0, .ref (am 8), .ref (am 9), .int (-1), .int 0, .int 0, .int (-1), .int 0, .ref (am 10), .int 0, .ref (am 11), .ref (am 12), .ref (am 13), .ref (am 14), .long 0, .ref (am 15), .ref (am 16), .ref (am 17), .ref (am 18)])), ((am 2), .inl (G.2.2 0, 7, .inl (fun _ => 0)))] sz [.ref h0]) (gc_I G (va_A [(h0, .inr (12, [.ref (am 0), .int 0, .int 0, .ref (am 1), .ref (am 2), .ref (am 3), .ref (am 4), .ref (am 5), .int 0, .int 0, .int 0, .int 0, .int 0, .int 0, .int 0, .ref (am 6), .int 0, .ref (am 7), .int 0, .ref (am 8), .ref (am 9), .int (-1), .int 0, .int 0, .int (-1), .int 0, .ref (am 10), .int 0, .ref (am 11), .ref (am 12), .ref (am 13), .ref (am 14), .long 0, .ref (am 15), .ref (am 16), .ref (am 17), .ref (am 18)])), ((am 2), .inl (G.2.2 0, 7, .inl (fun _ => 0)))] sz) (fun r (_ : Unit) => r = 0) (fun _ => [(h0, .inr (12, [.ref (am 0), .int 0, .int 0, .ref (am 1), .ref (am 2), .ref (am 3), .ref (am 4), .ref (am 5), .int 0, .int 1, .int 0, .int 0, .int 0, .int 0, .int 0, .ref (am 6), .int 0, .ref (am 7), .int 0, .ref (am 8), .ref (am 9), .int (-1), .int 0, .int 0, .int (-1), .int 0, .ref (am 10), .int 0, .ref (am 11), .ref (am 12), .ref (am 13), .ref (am 14), .long 0, .ref (am 15), .ref (am 16), .ref (am 17), .ref (am 18)])), ((am 2), .inl (G.2.2 0, 7, .inl (fun _ => 0)))])) 0 0 (va_A [(h0, .inr (12, [.ref (am 0), .int 0, .int 0, .ref (am 1), .ref (am 2), .ref (am 3), .ref (am 4), .ref (am 5), .int 0, .int 0, .int 0, .int 0, .int 0, .int 0, .int 0, .ref (am 6), .int 0, .ref (am 7), .int 0, .ref (am 8), .ref (am 9), .int (-1), .int 0, .int 0, .int (-1), .int 0, .ref (am 10), .int 0, .ref (am 11), .ref (am 12), .ref (am 13), .ref (am 14), .long 0, .ref (am 15), .ref (am 16), .ref (am 17), .ref (am 18)])), ((am 2), .inl (G.2.2 0, 7, .inl (fun _ => 0)))] sz) := by
  refine Met.ofW (cc := cX12_readsAll) (maxL := 2) (ret := (some .boolean)) (by decide) rfl ?_
  intro p e s m args below meth c s₁ B hml hv
  obtain ⟨rfl, hsz, hP, hK, hD0⟩ := hv
  have hx := B.exec
  have hb := B.bytes
  have hr := B.returns
  have ht := ts_ht (atoms_spec (ws := ts_L yX12_readsAll cX12_readsAll 2 (some .boolean)) B.pre)
  have hown : s.vm.findClass RX12 = some m.cls := findClass_of_methodNamed B.named
  have hlocks := B.notSynchronized
  subst hsz
  have hD := hD0.self (sz := s.heap.size)
  generalize hAe : va_A [(h0, .inr (12, [.ref (am 0), .int 0, .int 0, .ref (am 1), .ref (am 2), .ref (am 3), .ref (am 4), .ref (am 5), .int 0, .int 0, .int 0, .int 0, .int 0, .int 0, .int 0, .ref (am 6), .int 0, .ref (am 7), .int 0, .ref (am 8), .ref (am 9), .int (-1), .int 0, .int 0, .int (-1), .int 0, .ref (am 10), .int 0, .ref (am 11), .ref (am 12), .ref (am 13), .ref (am 14), .long 0, .ref (am 15), .ref (am 16), .ref (am 17), .ref (am 18)])), ((am 2), .inl (G.2.2 0, 7, .inl (fun _ => 0)))] s.heap.size = A at hD ⊢
  have hA : ∀ q : Nat, s.heap.size ≤ q → A q := fun q h => by rw [← hAe]; exact Or.inr h
  have hS : va_S A s.heap s.heap [] := va_S.rf
  have hl := lv_entry ([.ref h0]) (n := 2) (Nat.le_of_ble_eq_true rfl)
  rw [lg_entry_eq]
  generalize (lg_sl ([.ref h0]) ++ List.replicate (2 - (lg_sl ([.ref h0])).length) Slot.unset).toArray = ls at hl ⊢
  have hl : lv_has ls 2 [(0, .ref h0)] := hl
  refine lv_aload_n hx hb dX12_readsAll_0 rfl (lv_at hl 0 rfl) ?_
  refine gq_get hx hb ht hown hK hP i_X12 0 rfl rfl 4 (by decide) wd_1256 rfl rfl dX12_readsAll_1 ?_
  refine lv_aload_n hx hb dX12_readsAll_4 rfl (lv_at hl 0 rfl) ?_
  refine gq_get hx hb ht hown hK hP i_X12 0 rfl rfl 11 (by decide) wd_1263 rfl rfl dX12_readsAll_5 ?_
  refine lv_iconst (v := 0) hx hb dX12_readsAll_8 (by decide) ?_
  refine gq_iast (ws' := [(h0, .inr (12, [.ref (am 0), .int 0, .int 0, .ref (am 1), .ref (am 2), .ref (am 3), .ref (am 4), .ref (am 5), .int 0, .int 0, .int 0, .int 0, .int 0, .int 0, .int 0, .ref (am 6), .int 0, .ref (am 7), .int 0, .ref (am 8), .ref (am 9), .int (-1), .int 0, .int 0, .int (-1), .int 0, .ref (am 10), .int 0, .ref (am 11), .ref (am 12), .ref (am 13), .ref (am 14), .long 0, .ref (am 15), .ref (am 16), .ref (am 17), .ref (am 18)])), ((am 2), .inl (G.2.2 0, 7, .inl (fun _ => 0)))]) hx hb hK hP hD hS 1 rfl (fun _ => 0) (by unfold vp_in; decide +kernel) (up_z _ _) rfl dX12_readsAll_9 (fun H locs hP hD hS => ?_)
  refine lv_aload_n hx hb dX12_readsAll_10 rfl (lv_at hl 0 rfl) ?_
  refine lv_iconst (v := 0) hx hb dX12_readsAll_11 (by decide) ?_
  refine gq_put (ws' := [(h0, .inr (12, [.ref (am 0), .int 0, .int 0, .ref (am 1), .ref (am 2), .ref (am 3), .ref (am 4), .ref (am 5), .int 0, .int 0, .int 0, .int 0, .int 0, .int 0, .int 0, .ref (am 6), .int 0, .ref (am 7), .int 0, .ref (am 8), .ref (am 9), .int (-1), .int 0, .int 0, .int (-1), .int 0, .ref (am 10), .int 0, .ref (am 11), .ref (am 12), .ref (am 13), .ref (am 14), .long 0, .ref (am 15), .ref (am 16), .ref (am 17), .ref (am 18)])), ((am 2), .inl (G.2.2 0, 7, .inl (fun _ => 0)))]) hx hb ht hown hK hP hD hS i_X12 tyX12 tyX12_ok nmX12 0 rfl rfl 14 (by decide) wd_1266 rfl rfl rfl rfl (Nat.le_of_ble_eq_true rfl) rfl dX12_readsAll_12 (fun H locs hP hD hS => ?_)
  refine lv_aload_n hx hb dX12_readsAll_15 rfl (lv_at hl 0 rfl) ?_
  refine lv_iconst (v := 0) hx hb dX12_readsAll_16 (by decide) ?_
  refine gq_put (ws' := [(h0, .inr (12, [.ref (am 0), .int 0, .int 0, .ref (am 1), .ref (am 2), .ref (am 3), .ref (am 4), .ref (am 5), .int 0, .int 0, .int 0, .int 0, .int 0, .int 0, .int 0, .ref (am 6), .int 0, .ref (am 7), .int 0, .ref (am 8), .ref (am 9), .int (-1), .int 0, .int 0, .int (-1), .int 0, .ref (am 10), .int 0, .ref (am 11), .ref (am 12), .ref (am 13), .ref (am 14), .long 0, .ref (am 15), .ref (am 16), .ref (am 17), .ref (am 18)])), ((am 2), .inl (G.2.2 0, 7, .inl (fun _ => 0)))]) hx hb ht hown hK hP hD hS i_X12 tyX12 tyX12_ok nmX12 0 rfl rfl 8 (by decide) wd_1260 rfl rfl rfl rfl (Nat.le_of_ble_eq_true rfl) rfl dX12_readsAll_17 (fun H locs hP hD hS => ?_)
  refine lv_aload_n hx hb dX12_readsAll_20 rfl (lv_at hl 0 rfl) ?_
  refine lv_iconst (v := 0) hx hb dX12_readsAll_21 (by decide) ?_
  refine gq_put (ws' := [(h0, .inr (12, [.ref (am 0), .int 0, .int 0, .ref (am 1), .ref (am 2), .ref (am 3), .ref (am 4), .ref (am 5), .int 0, .int 0, .int 0, .int 0, .int 0, .int 0, .int 0, .ref (am 6), .int 0, .ref (am 7), .int 0, .ref (am 8), .ref (am 9), .int (-1), .int 0, .int 0, .int (-1), .int 0, .ref (am 10), .int 0, .ref (am 11), .ref (am 12), .ref (am 13), .ref (am 14), .long 0, .ref (am 15), .ref (am 16), .ref (am 17), .ref (am 18)])), ((am 2), .inl (G.2.2 0, 7, .inl (fun _ => 0)))]) hx hb ht hown hK hP hD hS i_X12 tyX12 tyX12_ok nmX12 0 rfl rfl 9 (by decide) wd_1261 rfl rfl rfl rfl (Nat.le_of_ble_eq_true rfl) rfl dX12_readsAll_22 (fun H locs hP hD hS => ?_)
  refine lv_aload_n hx hb dX12_readsAll_25 rfl (lv_at hl 0 rfl) ?_
  refine lv_iconst (v := 0) hx hb dX12_readsAll_26 (by decide) ?_
  refine gq_put (ws' := [(h0, .inr (12, [.ref (am 0), .int 0, .int 0, .ref (am 1), .ref (am 2), .ref (am 3), .ref (am 4), .ref (am 5), .int 0, .int 0, .int 0, .int 0, .int 0, .int 0, .int 0, .ref (am 6), .int 0, .ref (am 7), .int 0, .ref (am 8), .ref (am 9), .int (-1), .int 0, .int 0, .int (-1), .int 0, .ref (am 10), .int 0, .ref (am 11), .ref (am 12), .ref (am 13), .ref (am 14), .long 0, .ref (am 15), .ref (am 16), .ref (am 17), .ref (am 18)])), ((am 2), .inl (G.2.2 0, 7, .inl (fun _ => 0)))]) hx hb ht hown hK hP hD hS i_X12 tyX12 tyX12_ok nmX12 0 rfl rfl 12 (by decide) wd_1264 rfl rfl rfl rfl (Nat.le_of_ble_eq_true rfl) rfl dX12_readsAll_27 (fun H locs hP hD hS => ?_)
  refine lv_aload_n hx hb dX12_readsAll_30 rfl (lv_at hl 0 rfl) ?_
  have hPc := hP.sub (ws' := [(h0, .inr (12, [.ref (am 0), .int 0, .int 0, .ref (am 1), .ref (am 2), .ref (am 3), .ref (am 4), .ref (am 5), .int 0, .int 0, .int 0, .int 0, .int 0, .int 0, .int 0, .ref (am 6), .int 0, .ref (am 7), .int 0, .ref (am 8), .ref (am 9), .int (-1), .int 0, .int 0, .int (-1), .int 0, .ref (am 10), .int 0, .ref (am 11), .ref (am 12), .ref (am 13), .ref (am 14), .long 0, .ref (am 15), .ref (am 16), .ref (am 17), .ref (am 18)]))]) [0] rfl
  have hDc := hD.sub (ws' := [(h0, .inr (12, [.ref (am 0), .int 0, .int 0, .ref (am 1), .ref (am 2), .ref (am 3), .ref (am 4), .ref (am 5), .int 0, .int 0, .int 0, .int 0, .int 0, .int 0, .int 0, .ref (am 6), .int 0, .ref (am 7), .int 0, .ref (am 8), .ref (am 9), .int (-1), .int 0, .int 0, .int (-1), .int 0, .ref (am 10), .int 0, .ref (am 11), .ref (am 12), .ref (am 13), .ref (am 14), .long 0, .ref (am 15), .ref (am 16), .ref (am 17), .ref (am 18)]))]) [0] (by decide) rfl
  refine gq_callI (wr := [((am 2), .inl (G.2.2 0, 7, .inl (fun _ => 0)))]) (va_runV (As := []) (rest := []) ⟨hx, hb, hml, hown, ht⟩ (c_M_clauseHere_0 l G H.size h0 am) (cwV 0 ht (ts_gV wd_1385 wd_1387 wd_40 wd_134 wd_1388) rfl rfl rfl (by decide +kernel) ⟨Nat.le_of_ble_eq_true rfl, Nat.le_of_ble_eq_true rfl⟩) (gc_preV (ci := 12) (q0 := 0) hK hPc hDc rfl rfl) rfl rfl hl.1 rfl (lv_room (Nat.le_of_ble_eq_true rfl)) dX12_readsAll_31 ⟨Nat.le_of_ble_eq_true rfl, Nat.le_of_ble_eq_true rfl⟩) hP hD hS hA [0] [1] rfl rfl (by decide) (by decide) (fun r u H locs hw hP hD hS => ?_)
  have hw : r = 0 := hw
  subst hw
  have hP : va_P (gg_D G) classes [((am 2), .inl (G.2.2 0, 7, .inl (fun _ => 0))), (h0, .inr (12, [.ref (am 0), .int 0, .int 0, .ref (am 1), .ref (am 2), .ref (am 3), .ref (am 4), .ref (am 5), .int 0, .int 1, .int 0, .int 0, .int 0, .int 0, .int 0, .ref (am 6), .int 0, .ref (am 7), .int 0, .ref (am 8), .ref (am 9), .int (-1), .int 0, .int 0, .int (-1), .int 0, .ref (am 10), .int 0, .ref (am 11), .ref (am 12), .ref (am 13), .ref (am 14), .long 0, .ref (am 15), .ref (am 16), .ref (am 17), .ref (am 18)]))] H := hP
  have hD : va_D A [((am 2), .inl (G.2.2 0, 7, .inl (fun _ => 0))), (h0, .inr (12, [.ref (am 0), .int 0, .int 0, .ref (am 1), .ref (am 2), .ref (am 3), .ref (am 4), .ref (am 5), .int 0, .int 1, .int 0, .int 0, .int 0, .int 0, .int 0, .ref (am 6), .int 0, .ref (am 7), .int 0, .ref (am 8), .ref (am 9), .int (-1), .int 0, .int 0, .int (-1), .int 0, .ref (am 10), .int 0, .ref (am 11), .ref (am 12), .ref (am 13), .ref (am 14), .long 0, .ref (am 15), .ref (am 16), .ref (am 17), .ref (am 18)]))] := hD
  refine lv_istore_n (lv' := [(1, .int 0), (0, .ref h0)]) hx hb dX12_readsAll_34 rfl hl (by decide) rfl (fun ls hl => ?_)
  refine lv_iload_n hx hb dX12_readsAll_35 rfl (lv_at hl 0 rfl) ?_
  refine lv_if_eq (tgt := 66) hx hb dX12_readsAll_36 (by decide) (fun _ => ?_) (fun c0 => absurd (by decide +kernel) c0)
  refine lv_iload_n hx hb dX12_readsAll_66 rfl (lv_at hl 0 rfl) ?_
  refine lv_if_eq (tgt := 88) hx hb dX12_readsAll_67 (by decide) (fun _ => ?_) (fun c0 => absurd (by decide +kernel) c0)
  refine lv_aload_n hx hb dX12_readsAll_88 rfl (lv_at hl 1 rfl) ?_
  refine lv_iconst (v := 0) hx hb dX12_readsAll_89 (by decide) ?_
  refine gq_put (ws' := [((am 2), .inl (G.2.2 0, 7, .inl (fun _ => 0))), (h0, .inr (12, [.ref (am 0), .int 0, .int 0, .ref (am 1), .ref (am 2), .ref (am 3), .ref (am 4), .ref (am 5), .int 0, .int 1, .int 0, .int 0, .int 0, .int 0, .int 0, .ref (am 6), .int 0, .ref (am 7), .int 0, .ref (am 8), .ref (am 9), .int (-1), .int 0, .int 0, .int (-1), .int 0, .ref (am 10), .int 0, .ref (am 11), .ref (am 12), .ref (am 13), .ref (am 14), .long 0, .ref (am 15), .ref (am 16), .ref (am 17), .ref (am 18)]))]) hx hb ht hown hK hP hD hS i_X12 tyX12 tyX12_ok nmX12 1 rfl rfl 1 (by decide) wd_1253 rfl rfl rfl rfl (Nat.le_of_ble_eq_true rfl) rfl dX12_readsAll_90 (fun H locs hP hD hS => ?_)
  refine lv_aload_n hx hb dX12_readsAll_93 rfl (lv_at hl 1 rfl) ?_
  refine gq_get hx hb ht hown hK hP i_X12 1 rfl rfl 9 (by decide) wd_1261 rfl rfl dX12_readsAll_94 ?_
  refine lv_if_ne (tgt := 104) hx hb dX12_readsAll_97 (by decide) (fun _ => ?_) (fun c0 => absurd c0 (by decide +kernel))
  refine lv_iconst (v := 0) hx hb dX12_readsAll_104 (by decide) ?_
  have hP9 := hP.sub (ws' := [(h0, .inr (12, [.ref (am 0), .int 0, .int 0, .ref (am 1), .ref (am 2), .ref (am 3), .ref (am 4), .ref (am 5), .int 0, .int 1, .int 0, .int 0, .int 0, .int 0, .int 0, .ref (am 6), .int 0, .ref (am 7), .int 0, .ref (am 8), .ref (am 9), .int (-1), .int 0, .int 0, .int (-1), .int 0, .ref (am 10), .int 0, .ref (am 11), .ref (am 12), .ref (am 13), .ref (am 14), .long 0, .ref (am 15), .ref (am 16), .ref (am 17), .ref (am 18)])), ((am 2), .inl (G.2.2 0, 7, .inl (fun _ => 0)))]) [1, 0] rfl
  have hD9 := hD.sub (ws' := [(h0, .inr (12, [.ref (am 0), .int 0, .int 0, .ref (am 1), .ref (am 2), .ref (am 3), .ref (am 4), .ref (am 5), .int 0, .int 1, .int 0, .int 0, .int 0, .int 0, .int 0, .ref (am 6), .int 0, .ref (am 7), .int 0, .ref (am 8), .ref (am 9), .int (-1), .int 0, .int 0, .int (-1), .int 0, .ref (am 10), .int 0, .ref (am 11), .ref (am 12), .ref (am 13), .ref (am 14), .long 0, .ref (am 15), .ref (am 16), .ref (am 17), .ref (am 18)])), ((am 2), .inl (G.2.2 0, 7, .inl (fun _ => 0)))]) [1, 0] (by decide) rfl
  exact W.zret (v := 0) hx hb hr (by decide +kernel) (gq_endI () rfl hP9 hD9 hS) hS.2.2 dX12_readsAll_105
set_option maxHeartbeats 4000000 in
set_option maxRecDepth 100000 in
theorem c_M_see_6 (l : Launch) (G : gg_T) (sz : Nat) (h0 : Nat) (am : Nat → Nat) : Met l yX12_see (ts_L yX12_see cX12_see 1 (some .int)) ({ frames := 0, cells := 0, slots := 0, locals := 0 }) (gc_P G [(h0, .inr (12, [.ref (am 0), .int 0, .int 0, .ref (am 1), .ref (am 2), .ref (am 3), .ref (am 4), .ref (am 5), .int 0, .int 0, .int 0, .int 6, .int 0, .int 0, .int 0, .ref (am 6), .int 0, .ref (am 7), .int 0, .ref (am 8), .ref (am 9), .int (-1), .int 0, .int 0, .int (-1), .int 0, .ref (am 10), .int 0, .ref (am 11), .ref (am 12), .ref (am 13), .ref (am 14), .long 0, .ref (am 15), .ref (am 16), .ref (am 17), .ref (am 18)]))] sz [.ref h0]) (gc_I G (va_A [(h0, .inr (12, [.ref (am 0), .int 0, .int 0, .ref (am 1), .ref (am 2), .ref (am 3), .ref (am 4), .ref (am 5), .int 0, .int 0, .int 0, .int 6, .int 0, .int 0, .int 0, .ref (am 6), .int 0, .ref (am 7), .int 0, .ref (am 8), .ref (am 9), .int (-1), .int 0, .int 0, .int (-1), .int 0, .ref (am 10), .int 0, .ref (am 11), .ref (am 12), .ref (am 13), .ref (am 14), .long 0, .ref (am 15), .ref (am 16), .ref (am 17), .ref (am 18)]))] sz) (fun r (_ : Unit) => r = (-1)) (fun _ => [(h0, .inr (12, [.ref (am 0), .int 0, .int 0, .ref (am 1), .ref (am 2), .ref (am 3), .ref (am 4), .ref (am 5), .int 0, .int 0, .int 0, .int 6, .int 0, .int 0, .int 0, .ref (am 6), .int 0, .ref (am 7), .int 0, .ref (am 8), .ref (am 9), .int (-1), .int 0, .int 0, .int (-1), .int 0, .ref (am 10), .int 0, .ref (am 11), .ref (am 12), .ref (am 13), .ref (am 14), .long 0, .ref (am 15), .ref (am 16), .ref (am 17), .ref (am 18)]))])) 0 0 (va_A [(h0, .inr (12, [.ref (am 0), .int 0, .int 0, .ref (am 1), .ref (am 2), .ref (am 3), .ref (am 4), .ref (am 5), .int 0, .int 0, .int 0, .int 6, .int 0, .int 0, .int 0, .ref (am 6), .int 0, .ref (am 7), .int 0, .ref (am 8), .ref (am 9), .int (-1), .int 0, .int 0, .int (-1), .int 0, .ref (am 10), .int 0, .ref (am 11), .ref (am 12), .ref (am 13), .ref (am 14), .long 0, .ref (am 15), .ref (am 16), .ref (am 17), .ref (am 18)]))] sz) := by
  refine Met.ofW (cc := cX12_see) (maxL := 1) (ret := (some .int)) (by decide) rfl ?_
  intro p e s m args below meth c s₁ B hml hv
  obtain ⟨rfl, hsz, hP, hK, hD0⟩ := hv
  have hx := B.exec
  have hb := B.bytes
  have hr := B.returns
  have ht := ts_ht (atoms_spec (ws := ts_L yX12_see cX12_see 1 (some .int)) B.pre)
  have hown : s.vm.findClass RX12 = some m.cls := findClass_of_methodNamed B.named
  have hlocks := B.notSynchronized
  subst hsz
  have hD := hD0.self (sz := s.heap.size)
  generalize hAe : va_A [(h0, .inr (12, [.ref (am 0), .int 0, .int 0, .ref (am 1), .ref (am 2), .ref (am 3), .ref (am 4), .ref (am 5), .int 0, .int 0, .int 0, .int 6, .int 0, .int 0, .int 0, .ref (am 6), .int 0, .ref (am 7), .int 0, .ref (am 8), .ref (am 9), .int (-1), .int 0, .int 0, .int (-1), .int 0, .ref (am 10), .int 0, .ref (am 11), .ref (am 12), .ref (am 13), .ref (am 14), .long 0, .ref (am 15), .ref (am 16), .ref (am 17), .ref (am 18)]))] s.heap.size = A at hD ⊢
  have hA : ∀ q : Nat, s.heap.size ≤ q → A q := fun q h => by rw [← hAe]; exact Or.inr h
  have hS : va_S A s.heap s.heap [] := va_S.rf
  have hl := lv_entry ([.ref h0]) (n := 1) (Nat.le_of_ble_eq_true rfl)
  rw [lg_entry_eq]
  generalize (lg_sl ([.ref h0]) ++ List.replicate (1 - (lg_sl ([.ref h0])).length) Slot.unset).toArray = ls at hl ⊢
  have hl : lv_has ls 1 [(0, .ref h0)] := hl
  refine lv_aload_n hx hb dX12_see_0 rfl (lv_at hl 0 rfl) ?_
  refine gq_get hx hb ht hown hK hP i_X12 0 rfl rfl 8 (by decide) wd_1260 rfl rfl dX12_see_1 ?_
  refine lv_aload_n hx hb dX12_see_4 rfl (lv_at hl 0 rfl) ?_
  refine gq_get hx hb ht hown hK hP i_X12 0 rfl rfl 1 (by decide) wd_1253 rfl rfl dX12_see_5 ?_
  refine lv_icmp_ge (tgt := 38) hx hb dX12_see_8 (by decide) (fun _ => ?_) (fun c0 => absurd (by decide +kernel) c0)
  refine lv_aload_n hx hb dX12_see_38 rfl (lv_at hl 0 rfl) ?_
  refine gq_get hx hb ht hown hK hP i_X12 0 rfl rfl 8 (by decide) wd_1260 rfl rfl dX12_see_39 ?_
  refine lv_aload_n hx hb dX12_see_42 rfl (lv_at hl 0 rfl) ?_
  refine gq_get hx hb ht hown hK hP i_X12 0 rfl rfl 1 (by decide) wd_1253 rfl rfl dX12_see_43 ?_
  refine lv_icmp_ge (tgt := 65) hx hb dX12_see_46 (by decide) (fun _ => ?_) (fun c0 => absurd (by decide +kernel) c0)
  refine lv_iconst (v := (-1)) hx hb dX12_see_65 (by decide) ?_
  have hP9 := hP.sub (ws' := [(h0, .inr (12, [.ref (am 0), .int 0, .int 0, .ref (am 1), .ref (am 2), .ref (am 3), .ref (am 4), .ref (am 5), .int 0, .int 0, .int 0, .int 6, .int 0, .int 0, .int 0, .ref (am 6), .int 0, .ref (am 7), .int 0, .ref (am 8), .ref (am 9), .int (-1), .int 0, .int 0, .int (-1), .int 0, .ref (am 10), .int 0, .ref (am 11), .ref (am 12), .ref (am 13), .ref (am 14), .long 0, .ref (am 15), .ref (am 16), .ref (am 17), .ref (am 18)]))]) [0] rfl
  have hD9 := hD.sub (ws' := [(h0, .inr (12, [.ref (am 0), .int 0, .int 0, .ref (am 1), .ref (am 2), .ref (am 3), .ref (am 4), .ref (am 5), .int 0, .int 0, .int 0, .int 6, .int 0, .int 0, .int 0, .ref (am 6), .int 0, .ref (am 7), .int 0, .ref (am 8), .ref (am 9), .int (-1), .int 0, .int 0, .int (-1), .int 0, .ref (am 10), .int 0, .ref (am 11), .ref (am 12), .ref (am 13), .ref (am 14), .long 0, .ref (am 15), .ref (am 16), .ref (am 17), .ref (am 18)]))]) [0] (by decide) rfl
  exact W.iret (v := (-1)) hx hb hr (gq_endI () rfl hP9 hD9 hS) hS.2.2 dX12_see_66
set_option maxHeartbeats 4000000 in
set_option maxRecDepth 100000 in
theorem c_M_see1_6 (l : Launch) (G : gg_T) (sz : Nat) (h0 : Nat) (am : Nat → Nat) : Met l yX12_see (ts_L yX12_see cX12_see 1 (some .int)) ({ frames := 0, cells := 0, slots := 0, locals := 0 }) (gc_P G [(h0, .inr (12, [.ref (am 0), .int 0, .int 0, .ref (am 1), .ref (am 2), .ref (am 3), .ref (am 4), .ref (am 5), .int 0, .int 1, .int 0, .int 6, .int 0, .int 0, .int 0, .ref (am 6), .int 0, .ref (am 7), .int 0, .ref (am 8), .ref (am 9), .int (-1), .int 0, .int 0, .int (-1), .int 0, .ref (am 10), .int 0, .ref (am 11), .ref (am 12), .ref (am 13), .ref (am 14), .long 0, .ref (am 15), .ref (am 16), .ref (am 17), .ref (am 18)]))] sz [.ref h0]) (gc_I G (va_A [(h0, .inr (12, [.ref (am 0), .int 0, .int 0, .ref (am 1), .ref (am 2), .ref (am 3), .ref (am 4), .ref (am 5), .int 0, .int 1, .int 0, .int 6, .int 0, .int 0, .int 0, .ref (am 6), .int 0, .ref (am 7), .int 0, .ref (am 8), .ref (am 9), .int (-1), .int 0, .int 0, .int (-1), .int 0, .ref (am 10), .int 0, .ref (am 11), .ref (am 12), .ref (am 13), .ref (am 14), .long 0, .ref (am 15), .ref (am 16), .ref (am 17), .ref (am 18)]))] sz) (fun r (_ : Unit) => r = (-1)) (fun _ => [(h0, .inr (12, [.ref (am 0), .int 0, .int 0, .ref (am 1), .ref (am 2), .ref (am 3), .ref (am 4), .ref (am 5), .int 0, .int 1, .int 0, .int 6, .int 0, .int 0, .int 0, .ref (am 6), .int 0, .ref (am 7), .int 0, .ref (am 8), .ref (am 9), .int (-1), .int 0, .int 0, .int (-1), .int 0, .ref (am 10), .int 0, .ref (am 11), .ref (am 12), .ref (am 13), .ref (am 14), .long 0, .ref (am 15), .ref (am 16), .ref (am 17), .ref (am 18)]))])) 0 0 (va_A [(h0, .inr (12, [.ref (am 0), .int 0, .int 0, .ref (am 1), .ref (am 2), .ref (am 3), .ref (am 4), .ref (am 5), .int 0, .int 1, .int 0, .int 6, .int 0, .int 0, .int 0, .ref (am 6), .int 0, .ref (am 7), .int 0, .ref (am 8), .ref (am 9), .int (-1), .int 0, .int 0, .int (-1), .int 0, .ref (am 10), .int 0, .ref (am 11), .ref (am 12), .ref (am 13), .ref (am 14), .long 0, .ref (am 15), .ref (am 16), .ref (am 17), .ref (am 18)]))] sz) := by
  refine Met.ofW (cc := cX12_see) (maxL := 1) (ret := (some .int)) (by decide) rfl ?_
  intro p e s m args below meth c s₁ B hml hv
  obtain ⟨rfl, hsz, hP, hK, hD0⟩ := hv
  have hx := B.exec
  have hb := B.bytes
  have hr := B.returns
  have ht := ts_ht (atoms_spec (ws := ts_L yX12_see cX12_see 1 (some .int)) B.pre)
  have hown : s.vm.findClass RX12 = some m.cls := findClass_of_methodNamed B.named
  have hlocks := B.notSynchronized
  subst hsz
  have hD := hD0.self (sz := s.heap.size)
  generalize hAe : va_A [(h0, .inr (12, [.ref (am 0), .int 0, .int 0, .ref (am 1), .ref (am 2), .ref (am 3), .ref (am 4), .ref (am 5), .int 0, .int 1, .int 0, .int 6, .int 0, .int 0, .int 0, .ref (am 6), .int 0, .ref (am 7), .int 0, .ref (am 8), .ref (am 9), .int (-1), .int 0, .int 0, .int (-1), .int 0, .ref (am 10), .int 0, .ref (am 11), .ref (am 12), .ref (am 13), .ref (am 14), .long 0, .ref (am 15), .ref (am 16), .ref (am 17), .ref (am 18)]))] s.heap.size = A at hD ⊢
  have hA : ∀ q : Nat, s.heap.size ≤ q → A q := fun q h => by rw [← hAe]; exact Or.inr h
  have hS : va_S A s.heap s.heap [] := va_S.rf
  have hl := lv_entry ([.ref h0]) (n := 1) (Nat.le_of_ble_eq_true rfl)
  rw [lg_entry_eq]
  generalize (lg_sl ([.ref h0]) ++ List.replicate (1 - (lg_sl ([.ref h0])).length) Slot.unset).toArray = ls at hl ⊢
  have hl : lv_has ls 1 [(0, .ref h0)] := hl
  refine lv_aload_n hx hb dX12_see_0 rfl (lv_at hl 0 rfl) ?_
  refine gq_get hx hb ht hown hK hP i_X12 0 rfl rfl 8 (by decide) wd_1260 rfl rfl dX12_see_1 ?_
  refine lv_aload_n hx hb dX12_see_4 rfl (lv_at hl 0 rfl) ?_
  refine gq_get hx hb ht hown hK hP i_X12 0 rfl rfl 1 (by decide) wd_1253 rfl rfl dX12_see_5 ?_
  refine lv_icmp_ge (tgt := 38) hx hb dX12_see_8 (by decide) (fun _ => ?_) (fun c0 => absurd (by decide +kernel) c0)
  refine lv_aload_n hx hb dX12_see_38 rfl (lv_at hl 0 rfl) ?_
  refine gq_get hx hb ht hown hK hP i_X12 0 rfl rfl 8 (by decide) wd_1260 rfl rfl dX12_see_39 ?_
  refine lv_aload_n hx hb dX12_see_42 rfl (lv_at hl 0 rfl) ?_
  refine gq_get hx hb ht hown hK hP i_X12 0 rfl rfl 1 (by decide) wd_1253 rfl rfl dX12_see_43 ?_
  refine lv_icmp_ge (tgt := 65) hx hb dX12_see_46 (by decide) (fun _ => ?_) (fun c0 => absurd (by decide +kernel) c0)
  refine lv_iconst (v := (-1)) hx hb dX12_see_65 (by decide) ?_
  have hP9 := hP.sub (ws' := [(h0, .inr (12, [.ref (am 0), .int 0, .int 0, .ref (am 1), .ref (am 2), .ref (am 3), .ref (am 4), .ref (am 5), .int 0, .int 1, .int 0, .int 6, .int 0, .int 0, .int 0, .ref (am 6), .int 0, .ref (am 7), .int 0, .ref (am 8), .ref (am 9), .int (-1), .int 0, .int 0, .int (-1), .int 0, .ref (am 10), .int 0, .ref (am 11), .ref (am 12), .ref (am 13), .ref (am 14), .long 0, .ref (am 15), .ref (am 16), .ref (am 17), .ref (am 18)]))]) [0] rfl
  have hD9 := hD.sub (ws' := [(h0, .inr (12, [.ref (am 0), .int 0, .int 0, .ref (am 1), .ref (am 2), .ref (am 3), .ref (am 4), .ref (am 5), .int 0, .int 1, .int 0, .int 6, .int 0, .int 0, .int 0, .ref (am 6), .int 0, .ref (am 7), .int 0, .ref (am 8), .ref (am 9), .int (-1), .int 0, .int 0, .int (-1), .int 0, .ref (am 10), .int 0, .ref (am 11), .ref (am 12), .ref (am 13), .ref (am 14), .long 0, .ref (am 15), .ref (am 16), .ref (am 17), .ref (am 18)]))]) [0] (by decide) rfl
  exact W.iret (v := (-1)) hx hb hr (gq_endI () rfl hP9 hD9 hS) hS.2.2 dX12_see_66
set_option maxHeartbeats 4000000 in
set_option maxRecDepth 100000 in
theorem c_M_isLetter_6 (l : Launch) (G : gg_T) (sz : Nat) (h0 : Nat) (am : Nat → Nat) : Met l yX12_isLetter (ts_L yX12_isLetter cX12_isLetter 2 (some .boolean)) ({ frames := 0, cells := 0, slots := 0, locals := 0 }) (gc_P G [(h0, .inr (12, [.ref (am 0), .int 0, .int 0, .ref (am 1), .ref (am 2), .ref (am 3), .ref (am 4), .ref (am 5), .int 0, .int 0, .int 0, .int 6, .int 0, .int 0, .int 0, .ref (am 6), .int 0, .ref (am 7), .int 0, .ref (am 8), .ref (am 9), .int (-1), .int 0, .int 0, .int (-1), .int 0, .ref (am 10), .int 0, .ref (am 11), .ref (am 12), .ref (am 13), .ref (am 14), .long 0, .ref (am 15), .ref (am 16), .ref (am 17), .ref (am 18)]))] sz [.ref h0, .int 0]) (gc_I G (va_A [(h0, .inr (12, [.ref (am 0), .int 0, .int 0, .ref (am 1), .ref (am 2), .ref (am 3), .ref (am 4), .ref (am 5), .int 0, .int 0, .int 0, .int 6, .int 0, .int 0, .int 0, .ref (am 6), .int 0, .ref (am 7), .int 0, .ref (am 8), .ref (am 9), .int (-1), .int 0, .int 0, .int (-1), .int 0, .ref (am 10), .int 0, .ref (am 11), .ref (am 12), .ref (am 13), .ref (am 14), .long 0, .ref (am 15), .ref (am 16), .ref (am 17), .ref (am 18)]))] sz) (fun r (_ : Unit) => r = 0) (fun _ => [(h0, .inr (12, [.ref (am 0), .int 0, .int 0, .ref (am 1), .ref (am 2), .ref (am 3), .ref (am 4), .ref (am 5), .int 0, .int 0, .int 0, .int 6, .int 0, .int 0, .int 0, .ref (am 6), .int 0, .ref (am 7), .int 0, .ref (am 8), .ref (am 9), .int (-1), .int 0, .int 0, .int (-1), .int 0, .ref (am 10), .int 0, .ref (am 11), .ref (am 12), .ref (am 13), .ref (am 14), .long 0, .ref (am 15), .ref (am 16), .ref (am 17), .ref (am 18)]))])) 0 0 (va_A [(h0, .inr (12, [.ref (am 0), .int 0, .int 0, .ref (am 1), .ref (am 2), .ref (am 3), .ref (am 4), .ref (am 5), .int 0, .int 0, .int 0, .int 6, .int 0, .int 0, .int 0, .ref (am 6), .int 0, .ref (am 7), .int 0, .ref (am 8), .ref (am 9), .int (-1), .int 0, .int 0, .int (-1), .int 0, .ref (am 10), .int 0, .ref (am 11), .ref (am 12), .ref (am 13), .ref (am 14), .long 0, .ref (am 15), .ref (am 16), .ref (am 17), .ref (am 18)]))] sz) := by
  refine Met.ofW (cc := cX12_isLetter) (maxL := 2) (ret := (some .boolean)) (by decide) rfl ?_
  intro p e s m args below meth c s₁ B hml hv
  obtain ⟨rfl, hsz, hP, hK, hD0⟩ := hv
  have hx := B.exec
  have hb := B.bytes
  have hr := B.returns
  have ht := ts_ht (atoms_spec (ws := ts_L yX12_isLetter cX12_isLetter 2 (some .boolean)) B.pre)
  have hown : s.vm.findClass RX12 = some m.cls := findClass_of_methodNamed B.named
  have hlocks := B.notSynchronized
  subst hsz
  have hD := hD0.self (sz := s.heap.size)
  generalize hAe : va_A [(h0, .inr (12, [.ref (am 0), .int 0, .int 0, .ref (am 1), .ref (am 2), .ref (am 3), .ref (am 4), .ref (am 5), .int 0, .int 0, .int 0, .int 6, .int 0, .int 0, .int 0, .ref (am 6), .int 0, .ref (am 7), .int 0, .ref (am 8), .ref (am 9), .int (-1), .int 0, .int 0, .int (-1), .int 0, .ref (am 10), .int 0, .ref (am 11), .ref (am 12), .ref (am 13), .ref (am 14), .long 0, .ref (am 15), .ref (am 16), .ref (am 17), .ref (am 18)]))] s.heap.size = A at hD ⊢
  have hA : ∀ q : Nat, s.heap.size ≤ q → A q := fun q h => by rw [← hAe]; exact Or.inr h
  have hS : va_S A s.heap s.heap [] := va_S.rf
  have hl := lv_entry ([.ref h0, .int 0]) (n := 2) (Nat.le_of_ble_eq_true rfl)
  rw [lg_entry_eq]
  generalize (lg_sl ([.ref h0, .int 0]) ++ List.replicate (2 - (lg_sl ([.ref h0, .int 0])).length) Slot.unset).toArray = ls at hl ⊢
  have hl : lv_has ls 2 [(0, .ref h0), (1, .int 0)] := hl
  refine lv_iload_n hx hb dX12_isLetter_0 rfl (lv_at hl 1 rfl) ?_
  refine lv_aload_n hx hb dX12_isLetter_1 rfl (lv_at hl 0 rfl) ?_
  refine gq_get hx hb ht hown hK hP i_X12 0 rfl rfl 1 (by decide) wd_1253 rfl rfl dX12_isLetter_2 ?_
  refine lv_icmp_ge (tgt := 34) hx hb dX12_isLetter_5 (by decide) (fun _ => ?_) (fun c0 => absurd (by decide +kernel) c0)
  refine lv_iconst (v := 0) hx hb dX12_isLetter_34 (by decide) ?_
  have hP9 := hP.sub (ws' := [(h0, .inr (12, [.ref (am 0), .int 0, .int 0, .ref (am 1), .ref (am 2), .ref (am 3), .ref (am 4), .ref (am 5), .int 0, .int 0, .int 0, .int 6, .int 0, .int 0, .int 0, .ref (am 6), .int 0, .ref (am 7), .int 0, .ref (am 8), .ref (am 9), .int (-1), .int 0, .int 0, .int (-1), .int 0, .ref (am 10), .int 0, .ref (am 11), .ref (am 12), .ref (am 13), .ref (am 14), .long 0, .ref (am 15), .ref (am 16), .ref (am 17), .ref (am 18)]))]) [0] rfl
  have hD9 := hD.sub (ws' := [(h0, .inr (12, [.ref (am 0), .int 0, .int 0, .ref (am 1), .ref (am 2), .ref (am 3), .ref (am 4), .ref (am 5), .int 0, .int 0, .int 0, .int 6, .int 0, .int 0, .int 0, .ref (am 6), .int 0, .ref (am 7), .int 0, .ref (am 8), .ref (am 9), .int (-1), .int 0, .int 0, .int (-1), .int 0, .ref (am 10), .int 0, .ref (am 11), .ref (am 12), .ref (am 13), .ref (am 14), .long 0, .ref (am 15), .ref (am 16), .ref (am 17), .ref (am 18)]))]) [0] (by decide) rfl
  exact W.zret (v := 0) hx hb hr (by decide +kernel) (gq_endI () rfl hP9 hD9 hS) hS.2.2 dX12_isLetter_35
set_option maxHeartbeats 4000000 in
set_option maxRecDepth 100000 in
theorem c_M_isWord_6 (l : Launch) (G : gg_T) (sz : Nat) (h0 : Nat) (am : Nat → Nat) (w : Int64) : Met l yX12_isWord (ts_L yX12_isWord cX12_isWord 6 (some .boolean)) ({ frames := 1, cells := 0, slots := 0, locals := 21 }) (gc_P G [(h0, .inr (12, [.ref (am 0), .int 0, .int 0, .ref (am 1), .ref (am 2), .ref (am 3), .ref (am 4), .ref (am 5), .int 0, .int 0, .int 0, .int 6, .int 0, .int 0, .int 0, .ref (am 6), .int 0, .ref (am 7), .int 0, .ref (am 8), .ref (am 9), .int (-1), .int 0, .int 0, .int (-1), .int 0, .ref (am 10), .int 0, .ref (am 11), .ref (am 12), .ref (am 13), .ref (am 14), .long 0, .ref (am 15), .ref (am 16), .ref (am 17), .ref (am 18)]))] sz [.ref h0, .long w]) (gc_I G (va_A [(h0, .inr (12, [.ref (am 0), .int 0, .int 0, .ref (am 1), .ref (am 2), .ref (am 3), .ref (am 4), .ref (am 5), .int 0, .int 0, .int 0, .int 6, .int 0, .int 0, .int 0, .ref (am 6), .int 0, .ref (am 7), .int 0, .ref (am 8), .ref (am 9), .int (-1), .int 0, .int 0, .int (-1), .int 0, .ref (am 10), .int 0, .ref (am 11), .ref (am 12), .ref (am 13), .ref (am 14), .long 0, .ref (am 15), .ref (am 16), .ref (am 17), .ref (am 18)]))] sz) (fun r (_ : Unit) => r = 0) (fun _ => [(h0, .inr (12, [.ref (am 0), .int 0, .int 0, .ref (am 1), .ref (am 2), .ref (am 3), .ref (am 4), .ref (am 5), .int 0, .int 0, .int 0, .int 6, .int 0, .int 0, .int 0, .ref (am 6), .int 0, .ref (am 7), .int 0, .ref (am 8), .ref (am 9), .int (-1), .int 0, .int 0, .int (-1), .int 0, .ref (am 10), .int 0, .ref (am 11), .ref (am 12), .ref (am 13), .ref (am 14), .long 0, .ref (am 15), .ref (am 16), .ref (am 17), .ref (am 18)]))])) 0 0 (va_A [(h0, .inr (12, [.ref (am 0), .int 0, .int 0, .ref (am 1), .ref (am 2), .ref (am 3), .ref (am 4), .ref (am 5), .int 0, .int 0, .int 0, .int 6, .int 0, .int 0, .int 0, .ref (am 6), .int 0, .ref (am 7), .int 0, .ref (am 8), .ref (am 9), .int (-1), .int 0, .int 0, .int (-1), .int 0, .ref (am 10), .int 0, .ref (am 11), .ref (am 12), .ref (am 13), .ref (am 14), .long 0, .ref (am 15), .ref (am 16), .ref (am 17), .ref (am 18)]))] sz) := by
  refine Met.ofW (cc := cX12_isWord) (maxL := 6) (ret := (some .boolean)) (by decide) rfl ?_
  intro p e s m args below meth c s₁ B hml hv
  obtain ⟨rfl, hsz, hP, hK, hD0⟩ := hv
  have hx := B.exec
  have hb := B.bytes
  have hr := B.returns
  have ht := ts_ht (atoms_spec (ws := ts_L yX12_isWord cX12_isWord 6 (some .boolean)) B.pre)
  have hown : s.vm.findClass RX12 = some m.cls := findClass_of_methodNamed B.named
  have hlocks := B.notSynchronized
  subst hsz
  have hD := hD0.self (sz := s.heap.size)
  generalize hAe : va_A [(h0, .inr (12, [.ref (am 0), .int 0, .int 0, .ref (am 1), .ref (am 2), .ref (am 3), .ref (am 4), .ref (am 5), .int 0, .int 0, .int 0, .int 6, .int 0, .int 0, .int 0, .ref (am 6), .int 0, .ref (am 7), .int 0, .ref (am 8), .ref (am 9), .int (-1), .int 0, .int 0, .int (-1), .int 0, .ref (am 10), .int 0, .ref (am 11), .ref (am 12), .ref (am 13), .ref (am 14), .long 0, .ref (am 15), .ref (am 16), .ref (am 17), .ref (am 18)]))] s.heap.size = A at hD ⊢
  have hA : ∀ q : Nat, s.heap.size ≤ q → A q := fun q h => by rw [← hAe]; exact Or.inr h
  have hS : va_S A s.heap s.heap [] := va_S.rf
  have hl := lv_entry ([.ref h0, .long w]) (n := 6) (Nat.le_of_ble_eq_true rfl)
  rw [lg_entry_eq]
  generalize (lg_sl ([.ref h0, .long w]) ++ List.replicate (6 - (lg_sl ([.ref h0, .long w])).length) Slot.unset).toArray = ls at hl ⊢
  have hl : lv_has ls 6 [(0, .ref h0), (1, .long w)] := hl
  refine lv_aload_n hx hb dX12_isWord_0 rfl (lv_at hl 0 rfl) ?_
  have hPc := hP.sub (ws' := [(h0, .inr (12, [.ref (am 0), .int 0, .int 0, .ref (am 1), .ref (am 2), .ref (am 3), .ref (am 4), .ref (am 5), .int 0, .int 0, .int 0, .int 6, .int 0, .int 0, .int 0, .ref (am 6), .int 0, .ref (am 7), .int 0, .ref (am 8), .ref (am 9), .int (-1), .int 0, .int 0, .int (-1), .int 0, .ref (am 10), .int 0, .ref (am 11), .ref (am 12), .ref (am 13), .ref (am 14), .long 0, .ref (am 15), .ref (am 16), .ref (am 17), .ref (am 18)]))]) [0] rfl
  have hDc := hD.sub (ws' := [(h0, .inr (12, [.ref (am 0), .int 0, .int 0, .ref (am 1), .ref (am 2), .ref (am 3), .ref (am 4), .ref (am 5), .int 0, .int 0, .int 0, .int 6, .int 0, .int 0, .int 0, .ref (am 6), .int 0, .ref (am 7), .int 0, .ref (am 8), .ref (am 9), .int (-1), .int 0, .int 0, .int (-1), .int 0, .ref (am 10), .int 0, .ref (am 11), .ref (am 12), .ref (am 13), .ref (am 14), .long 0, .ref (am 15), .ref (am 16), .ref (am 17), .ref (am 18)]))]) [0] (by decide) rfl
  refine gq_callI (wr := []) (va_runV (As := []) (rest := []) ⟨hx, hb, hml, hown, ht⟩ (c_M_see_6 l G s.heap.size h0 am) (cwV 0 ht (ts_gV wd_1389 wd_1391 wd_41 wd_134 wd_1392) rfl rfl rfl (by decide +kernel) ⟨Nat.le_of_ble_eq_true rfl, Nat.le_of_ble_eq_true rfl⟩) (gc_preV (ci := 12) (q0 := 0) hK hPc hDc rfl rfl) rfl rfl hl.1 rfl (lv_room (Nat.le_of_ble_eq_true rfl)) dX12_isWord_1 ⟨Nat.le_of_ble_eq_true rfl, Nat.le_of_ble_eq_true rfl⟩) hP hD hS hA [0] [] rfl rfl (by decide) (by decide) (fun r u H locs hw hP hD hS => ?_)
  have hw : r = (-1) := hw
  subst hw
  have hP : va_P (gg_D G) classes [(h0, .inr (12, [.ref (am 0), .int 0, .int 0, .ref (am 1), .ref (am 2), .ref (am 3), .ref (am 4), .ref (am 5), .int 0, .int 0, .int 0, .int 6, .int 0, .int 0, .int 0, .ref (am 6), .int 0, .ref (am 7), .int 0, .ref (am 8), .ref (am 9), .int (-1), .int 0, .int 0, .int (-1), .int 0, .ref (am 10), .int 0, .ref (am 11), .ref (am 12), .ref (am 13), .ref (am 14), .long 0, .ref (am 15), .ref (am 16), .ref (am 17), .ref (am 18)]))] H := hP
  have hD : va_D A [(h0, .inr (12, [.ref (am 0), .int 0, .int 0, .ref (am 1), .ref (am 2), .ref (am 3), .ref (am 4), .ref (am 5), .int 0, .int 0, .int 0, .int 6, .int 0, .int 0, .int 0, .ref (am 6), .int 0, .ref (am 7), .int 0, .ref (am 8), .ref (am 9), .int (-1), .int 0, .int 0, .int (-1), .int 0, .ref (am 10), .int 0, .ref (am 11), .ref (am 12), .ref (am 13), .ref (am 14), .long 0, .ref (am 15), .ref (am 16), .ref (am 17), .ref (am 18)]))] := hD
  refine lv_pop hx hb dX12_isWord_4 rfl ?_
  refine lv_lconst (v := 0) hx hb dX12_isWord_5 (by decide +kernel) ?_
  refine lv_lstore_n (lv' := [(3, .long 0), (0, .ref h0), (1, .long w)]) hx hb dX12_isWord_6 rfl hl (by decide) rfl (fun ls hl => ?_)
  refine lv_iconst (v := 0) hx hb dX12_isWord_7 (by decide) ?_
  refine lv_istore (lv' := [(5, .int 0), (3, .long 0), (0, .ref h0), (1, .long w)]) hx hb dX12_isWord_8 hl (by decide) rfl (fun ls hl => ?_)
  refine lv_aload_n hx hb dX12_isWord_10 rfl (lv_at hl 2 rfl) ?_
  refine lv_aload_n hx hb dX12_isWord_11 rfl (lv_at hl 2 rfl) ?_
  refine gq_get hx hb ht hown hK hP i_X12 0 rfl rfl 8 (by decide) wd_1260 rfl rfl dX12_isWord_12 ?_
  refine lv_iload hx hb dX12_isWord_15 (lv_at hl 0 rfl) ?_
  refine gq_iadd hx hb 0 (by decide +kernel) dX12_isWord_17 ?_
  have hPc := hP.sub (ws' := [(h0, .inr (12, [.ref (am 0), .int 0, .int 0, .ref (am 1), .ref (am 2), .ref (am 3), .ref (am 4), .ref (am 5), .int 0, .int 0, .int 0, .int 6, .int 0, .int 0, .int 0, .ref (am 6), .int 0, .ref (am 7), .int 0, .ref (am 8), .ref (am 9), .int (-1), .int 0, .int 0, .int (-1), .int 0, .ref (am 10), .int 0, .ref (am 11), .ref (am 12), .ref (am 13), .ref (am 14), .long 0, .ref (am 15), .ref (am 16), .ref (am 17), .ref (am 18)]))]) [0] rfl
  have hDc := hD.sub (ws' := [(h0, .inr (12, [.ref (am 0), .int 0, .int 0, .ref (am 1), .ref (am 2), .ref (am 3), .ref (am 4), .ref (am 5), .int 0, .int 0, .int 0, .int 6, .int 0, .int 0, .int 0, .ref (am 6), .int 0, .ref (am 7), .int 0, .ref (am 8), .ref (am 9), .int (-1), .int 0, .int 0, .int (-1), .int 0, .ref (am 10), .int 0, .ref (am 11), .ref (am 12), .ref (am 13), .ref (am 14), .long 0, .ref (am 15), .ref (am 16), .ref (am 17), .ref (am 18)]))]) [0] (by decide) rfl
  refine gq_callI (wr := []) (va_runV (As := [.int 0]) (rest := []) ⟨hx, hb, hml, hown, ht⟩ (c_M_isLetter_6 l G H.size h0 am) (cwV 1 ht (ts_gV wd_1402 wd_1404 wd_44 wd_134 wd_1405) rfl rfl rfl (by decide +kernel) ⟨Nat.le_of_ble_eq_true rfl, Nat.le_of_ble_eq_true rfl⟩) (gc_preV (ci := 12) (q0 := 0) hK hPc hDc rfl rfl) rfl rfl hl.1 rfl (lv_room (Nat.le_of_ble_eq_true rfl)) dX12_isWord_18 ⟨Nat.le_of_ble_eq_true rfl, Nat.le_of_ble_eq_true rfl⟩) hP hD hS hA [0] [] rfl rfl (by decide) (by decide) (fun r u H locs hw hP hD hS => ?_)
  have hw : r = 0 := hw
  subst hw
  have hP : va_P (gg_D G) classes [(h0, .inr (12, [.ref (am 0), .int 0, .int 0, .ref (am 1), .ref (am 2), .ref (am 3), .ref (am 4), .ref (am 5), .int 0, .int 0, .int 0, .int 6, .int 0, .int 0, .int 0, .ref (am 6), .int 0, .ref (am 7), .int 0, .ref (am 8), .ref (am 9), .int (-1), .int 0, .int 0, .int (-1), .int 0, .ref (am 10), .int 0, .ref (am 11), .ref (am 12), .ref (am 13), .ref (am 14), .long 0, .ref (am 15), .ref (am 16), .ref (am 17), .ref (am 18)]))] H := hP
  have hD : va_D A [(h0, .inr (12, [.ref (am 0), .int 0, .int 0, .ref (am 1), .ref (am 2), .ref (am 3), .ref (am 4), .ref (am 5), .int 0, .int 0, .int 0, .int 6, .int 0, .int 0, .int 0, .ref (am 6), .int 0, .ref (am 7), .int 0, .ref (am 8), .ref (am 9), .int (-1), .int 0, .int 0, .int (-1), .int 0, .ref (am 10), .int 0, .ref (am 11), .ref (am 12), .ref (am 13), .ref (am 14), .long 0, .ref (am 15), .ref (am 16), .ref (am 17), .ref (am 18)]))] := hD
  refine lv_if_eq (tgt := 56) hx hb dX12_isWord_21 (by decide) (fun _ => ?_) (fun c0 => absurd (by decide +kernel) c0)
  refine lv_iload hx hb dX12_isWord_56 (lv_at hl 0 rfl) ?_
  refine lv_if_le (tgt := 78) hx hb dX12_isWord_58 (by decide) (fun _ => ?_) (fun c0 => absurd (by decide +kernel) c0)
  refine lv_iconst (v := 0) hx hb dX12_isWord_78 (by decide) ?_
  have hP9 := hP.sub (ws' := [(h0, .inr (12, [.ref (am 0), .int 0, .int 0, .ref (am 1), .ref (am 2), .ref (am 3), .ref (am 4), .ref (am 5), .int 0, .int 0, .int 0, .int 6, .int 0, .int 0, .int 0, .ref (am 6), .int 0, .ref (am 7), .int 0, .ref (am 8), .ref (am 9), .int (-1), .int 0, .int 0, .int (-1), .int 0, .ref (am 10), .int 0, .ref (am 11), .ref (am 12), .ref (am 13), .ref (am 14), .long 0, .ref (am 15), .ref (am 16), .ref (am 17), .ref (am 18)]))]) [0] rfl
  have hD9 := hD.sub (ws' := [(h0, .inr (12, [.ref (am 0), .int 0, .int 0, .ref (am 1), .ref (am 2), .ref (am 3), .ref (am 4), .ref (am 5), .int 0, .int 0, .int 0, .int 6, .int 0, .int 0, .int 0, .ref (am 6), .int 0, .ref (am 7), .int 0, .ref (am 8), .ref (am 9), .int (-1), .int 0, .int 0, .int (-1), .int 0, .ref (am 10), .int 0, .ref (am 11), .ref (am 12), .ref (am 13), .ref (am 14), .long 0, .ref (am 15), .ref (am 16), .ref (am 17), .ref (am 18)]))]) [0] (by decide) rfl
  exact W.zret (v := 0) hx hb hr (by decide +kernel) (gq_endI () rfl hP9 hD9 hS) hS.2.2 dX12_isWord_79
set_option maxHeartbeats 4000000 in
set_option maxRecDepth 100000 in
theorem c_M_fails_6 (l : Launch) (G : gg_T) (sz : Nat) (h0 : Nat) (am : Nat → Nat) : Met l yX12_fails (ts_L yX12_fails cX12_fails 3 (some .boolean)) ({ frames := 0, cells := 0, slots := 0, locals := 0 }) (gc_P G [(h0, .inr (12, [.ref (am 0), .int 0, .int 0, .ref (am 1), .ref (am 2), .ref (am 3), .ref (am 4), .ref (am 5), .int 0, .int 0, .int 0, .int 6, .int 0, .int 0, .int 0, .ref (am 6), .int 0, .ref (am 7), .int 0, .ref (am 8), .ref (am 9), .int (-1), .int 0, .int 0, .int (-1), .int 0, .ref (am 10), .int 0, .ref (am 11), .ref (am 12), .ref (am 13), .ref (am 14), .long 0, .ref (am 15), .ref (am 16), .ref (am 17), .ref (am 18)]))] sz [.ref h0, .int 0, .int 0]) (gc_I G (va_A [(h0, .inr (12, [.ref (am 0), .int 0, .int 0, .ref (am 1), .ref (am 2), .ref (am 3), .ref (am 4), .ref (am 5), .int 0, .int 0, .int 0, .int 6, .int 0, .int 0, .int 0, .ref (am 6), .int 0, .ref (am 7), .int 0, .ref (am 8), .ref (am 9), .int (-1), .int 0, .int 0, .int (-1), .int 0, .ref (am 10), .int 0, .ref (am 11), .ref (am 12), .ref (am 13), .ref (am 14), .long 0, .ref (am 15), .ref (am 16), .ref (am 17), .ref (am 18)]))] sz) (fun r (_ : Unit) => r = 0) (fun _ => [(h0, .inr (12, [.ref (am 0), .int 0, .int 0, .ref (am 1), .ref (am 2), .ref (am 3), .ref (am 4), .ref (am 5), .int 0, .int 1, .int 0, .int 6, .int 0, .int 0, .int 0, .ref (am 6), .int 0, .ref (am 7), .int 0, .ref (am 8), .ref (am 9), .int (-1), .int 0, .int 0, .int (-1), .int 0, .ref (am 10), .int 0, .ref (am 11), .ref (am 12), .ref (am 13), .ref (am 14), .long 0, .ref (am 15), .ref (am 16), .ref (am 17), .ref (am 18)]))])) 0 0 (va_A [(h0, .inr (12, [.ref (am 0), .int 0, .int 0, .ref (am 1), .ref (am 2), .ref (am 3), .ref (am 4), .ref (am 5), .int 0, .int 0, .int 0, .int 6, .int 0, .int 0, .int 0, .ref (am 6), .int 0, .ref (am 7), .int 0, .ref (am 8), .ref (am 9), .int (-1), .int 0, .int 0, .int (-1), .int 0, .ref (am 10), .int 0, .ref (am 11), .ref (am 12), .ref (am 13), .ref (am 14), .long 0, .ref (am 15), .ref (am 16), .ref (am 17), .ref (am 18)]))] sz) := by
  refine Met.ofW (cc := cX12_fails) (maxL := 3) (ret := (some .boolean)) (by decide) rfl ?_
  intro p e s m args below meth c s₁ B hml hv
  obtain ⟨rfl, hsz, hP, hK, hD0⟩ := hv
  have hx := B.exec
  have hb := B.bytes
  have hr := B.returns
  have ht := ts_ht (atoms_spec (ws := ts_L yX12_fails cX12_fails 3 (some .boolean)) B.pre)
  have hown : s.vm.findClass RX12 = some m.cls := findClass_of_methodNamed B.named
  have hlocks := B.notSynchronized
  subst hsz
  have hD := hD0.self (sz := s.heap.size)
  generalize hAe : va_A [(h0, .inr (12, [.ref (am 0), .int 0, .int 0, .ref (am 1), .ref (am 2), .ref (am 3), .ref (am 4), .ref (am 5), .int 0, .int 0, .int 0, .int 6, .int 0, .int 0, .int 0, .ref (am 6), .int 0, .ref (am 7), .int 0, .ref (am 8), .ref (am 9), .int (-1), .int 0, .int 0, .int (-1), .int 0, .ref (am 10), .int 0, .ref (am 11), .ref (am 12), .ref (am 13), .ref (am 14), .long 0, .ref (am 15), .ref (am 16), .ref (am 17), .ref (am 18)]))] s.heap.size = A at hD ⊢
  have hA : ∀ q : Nat, s.heap.size ≤ q → A q := fun q h => by rw [← hAe]; exact Or.inr h
  have hS : va_S A s.heap s.heap [] := va_S.rf
  have hl := lv_entry ([.ref h0, .int 0, .int 0]) (n := 3) (Nat.le_of_ble_eq_true rfl)
  rw [lg_entry_eq]
  generalize (lg_sl ([.ref h0, .int 0, .int 0]) ++ List.replicate (3 - (lg_sl ([.ref h0, .int 0, .int 0])).length) Slot.unset).toArray = ls at hl ⊢
  have hl : lv_has ls 3 [(0, .ref h0), (1, .int 0), (2, .int 0)] := hl
  refine lv_aload_n hx hb dX12_fails_0 rfl (lv_at hl 0 rfl) ?_
  refine gq_get hx hb ht hown hK hP i_X12 0 rfl rfl 9 (by decide) wd_1261 rfl rfl dX12_fails_1 ?_
  refine lv_if_ne (tgt := 19) hx hb dX12_fails_4 (by decide) (fun c0 => absurd (by decide +kernel) c0) (fun _ => ?_)
  refine lv_aload_n hx hb dX12_fails_7 rfl (lv_at hl 0 rfl) ?_
  refine lv_iconst (v := 1) hx hb dX12_fails_8 (by decide) ?_
  refine lv_bipush (v := 8) hx hb dX12_fails_9 (by decide +kernel) ?_
  refine lv_iload_n hx hb dX12_fails_11 rfl (lv_at hl 2 rfl) ?_
  refine gq_imul hx hb 0 (by decide +kernel) dX12_fails_12 ?_
  refine gq_iadd hx hb 1 (by decide +kernel) dX12_fails_13 ?_
  refine lv_iload_n hx hb dX12_fails_14 rfl (lv_at hl 1 rfl) ?_
  refine gq_iadd hx hb 1 (by decide +kernel) dX12_fails_15 ?_
  refine gq_put (ws' := [(h0, .inr (12, [.ref (am 0), .int 0, .int 0, .ref (am 1), .ref (am 2), .ref (am 3), .ref (am 4), .ref (am 5), .int 0, .int 1, .int 0, .int 6, .int 0, .int 0, .int 0, .ref (am 6), .int 0, .ref (am 7), .int 0, .ref (am 8), .ref (am 9), .int (-1), .int 0, .int 0, .int (-1), .int 0, .ref (am 10), .int 0, .ref (am 11), .ref (am 12), .ref (am 13), .ref (am 14), .long 0, .ref (am 15), .ref (am 16), .ref (am 17), .ref (am 18)]))]) hx hb ht hown hK hP hD hS i_X12 tyX12 tyX12_ok nmX12 0 rfl rfl 9 (by decide) wd_1261 rfl rfl rfl rfl (Nat.le_of_ble_eq_true rfl) rfl dX12_fails_16 (fun H locs hP hD hS => ?_)
  refine lv_iconst (v := 0) hx hb dX12_fails_19 (by decide) ?_
  have hP9 := hP.sub (ws' := [(h0, .inr (12, [.ref (am 0), .int 0, .int 0, .ref (am 1), .ref (am 2), .ref (am 3), .ref (am 4), .ref (am 5), .int 0, .int 1, .int 0, .int 6, .int 0, .int 0, .int 0, .ref (am 6), .int 0, .ref (am 7), .int 0, .ref (am 8), .ref (am 9), .int (-1), .int 0, .int 0, .int (-1), .int 0, .ref (am 10), .int 0, .ref (am 11), .ref (am 12), .ref (am 13), .ref (am 14), .long 0, .ref (am 15), .ref (am 16), .ref (am 17), .ref (am 18)]))]) [0] rfl
  have hD9 := hD.sub (ws' := [(h0, .inr (12, [.ref (am 0), .int 0, .int 0, .ref (am 1), .ref (am 2), .ref (am 3), .ref (am 4), .ref (am 5), .int 0, .int 1, .int 0, .int 6, .int 0, .int 0, .int 0, .ref (am 6), .int 0, .ref (am 7), .int 0, .ref (am 8), .ref (am 9), .int (-1), .int 0, .int 0, .int (-1), .int 0, .ref (am 10), .int 0, .ref (am 11), .ref (am 12), .ref (am 13), .ref (am 14), .long 0, .ref (am 15), .ref (am 16), .ref (am 17), .ref (am 18)]))]) [0] (by decide) rfl
  exact W.zret (v := 0) hx hb hr (by decide +kernel) (gq_endI () rfl hP9 hD9 hS) hS.2.2 dX12_fails_20
set_option maxHeartbeats 4000000 in
set_option maxRecDepth 100000 in
theorem c_M_isSaleWord (l : Launch) (G : gg_T) (sz : Nat) (h0 : Nat) (am : Nat → Nat) : Met l yX12_isSaleWord (ts_L yX12_isSaleWord cX12_isSaleWord 1 (some .boolean)) ({ frames := 2, cells := 0, slots := 0, locals := 46 }) (gc_P G [(h0, .inr (12, [.ref (am 0), .int 0, .int 0, .ref (am 1), .ref (am 2), .ref (am 3), .ref (am 4), .ref (am 5), .int 0, .int 0, .int 0, .int 6, .int 0, .int 0, .int 0, .ref (am 6), .int 0, .ref (am 7), .int 0, .ref (am 8), .ref (am 9), .int (-1), .int 0, .int 0, .int (-1), .int 0, .ref (am 10), .int 0, .ref (am 11), .ref (am 12), .ref (am 13), .ref (am 14), .long 0, .ref (am 15), .ref (am 16), .ref (am 17), .ref (am 18)]))] sz [.ref h0]) (gc_I G (va_A [(h0, .inr (12, [.ref (am 0), .int 0, .int 0, .ref (am 1), .ref (am 2), .ref (am 3), .ref (am 4), .ref (am 5), .int 0, .int 0, .int 0, .int 6, .int 0, .int 0, .int 0, .ref (am 6), .int 0, .ref (am 7), .int 0, .ref (am 8), .ref (am 9), .int (-1), .int 0, .int 0, .int (-1), .int 0, .ref (am 10), .int 0, .ref (am 11), .ref (am 12), .ref (am 13), .ref (am 14), .long 0, .ref (am 15), .ref (am 16), .ref (am 17), .ref (am 18)]))] sz) (fun r (_ : Unit) => r = 0) (fun _ => [(h0, .inr (12, [.ref (am 0), .int 0, .int 0, .ref (am 1), .ref (am 2), .ref (am 3), .ref (am 4), .ref (am 5), .int 0, .int 0, .int 0, .int 6, .int 0, .int 0, .int 0, .ref (am 6), .int 0, .ref (am 7), .int 0, .ref (am 8), .ref (am 9), .int (-1), .int 0, .int 0, .int (-1), .int 0, .ref (am 10), .int 0, .ref (am 11), .ref (am 12), .ref (am 13), .ref (am 14), .long 0, .ref (am 15), .ref (am 16), .ref (am 17), .ref (am 18)]))])) 0 0 (va_A [(h0, .inr (12, [.ref (am 0), .int 0, .int 0, .ref (am 1), .ref (am 2), .ref (am 3), .ref (am 4), .ref (am 5), .int 0, .int 0, .int 0, .int 6, .int 0, .int 0, .int 0, .ref (am 6), .int 0, .ref (am 7), .int 0, .ref (am 8), .ref (am 9), .int (-1), .int 0, .int 0, .int (-1), .int 0, .ref (am 10), .int 0, .ref (am 11), .ref (am 12), .ref (am 13), .ref (am 14), .long 0, .ref (am 15), .ref (am 16), .ref (am 17), .ref (am 18)]))] sz) := by
  refine Met.ofW (cc := cX12_isSaleWord) (maxL := 1) (ret := (some .boolean)) (by decide) rfl ?_
  intro p e s m args below meth c s₁ B hml hv
  obtain ⟨rfl, hsz, hP, hK, hD0⟩ := hv
  have hx := B.exec
  have hb := B.bytes
  have hr := B.returns
  have ht := ts_ht (atoms_spec (ws := ts_L yX12_isSaleWord cX12_isSaleWord 1 (some .boolean)) B.pre)
  have hown : s.vm.findClass RX12 = some m.cls := findClass_of_methodNamed B.named
  have hlocks := B.notSynchronized
  subst hsz
  have hD := hD0.self (sz := s.heap.size)
  generalize hAe : va_A [(h0, .inr (12, [.ref (am 0), .int 0, .int 0, .ref (am 1), .ref (am 2), .ref (am 3), .ref (am 4), .ref (am 5), .int 0, .int 0, .int 0, .int 6, .int 0, .int 0, .int 0, .ref (am 6), .int 0, .ref (am 7), .int 0, .ref (am 8), .ref (am 9), .int (-1), .int 0, .int 0, .int (-1), .int 0, .ref (am 10), .int 0, .ref (am 11), .ref (am 12), .ref (am 13), .ref (am 14), .long 0, .ref (am 15), .ref (am 16), .ref (am 17), .ref (am 18)]))] s.heap.size = A at hD ⊢
  have hA : ∀ q : Nat, s.heap.size ≤ q → A q := fun q h => by rw [← hAe]; exact Or.inr h
  have hS : va_S A s.heap s.heap [] := va_S.rf
  have hl := lv_entry ([.ref h0]) (n := 1) (Nat.le_of_ble_eq_true rfl)
  rw [lg_entry_eq]
  generalize (lg_sl ([.ref h0]) ++ List.replicate (1 - (lg_sl ([.ref h0])).length) Slot.unset).toArray = ls at hl ⊢
  have hl : lv_has ls 1 [(0, .ref h0)] := hl
  refine lv_aload_n hx hb dX12_isSaleWord_0 rfl (lv_at hl 0 rfl) ?_
  refine lv_ldc2 hx hb hown (ht _ wd_1397) dX12_isSaleWord_1 ?_
  have hPc := hP.sub (ws' := [(h0, .inr (12, [.ref (am 0), .int 0, .int 0, .ref (am 1), .ref (am 2), .ref (am 3), .ref (am 4), .ref (am 5), .int 0, .int 0, .int 0, .int 6, .int 0, .int 0, .int 0, .ref (am 6), .int 0, .ref (am 7), .int 0, .ref (am 8), .ref (am 9), .int (-1), .int 0, .int 0, .int (-1), .int 0, .ref (am 10), .int 0, .ref (am 11), .ref (am 12), .ref (am 13), .ref (am 14), .long 0, .ref (am 15), .ref (am 16), .ref (am 17), .ref (am 18)]))]) [0] rfl
  have hDc := hD.sub (ws' := [(h0, .inr (12, [.ref (am 0), .int 0, .int 0, .ref (am 1), .ref (am 2), .ref (am 3), .ref (am 4), .ref (am 5), .int 0, .int 0, .int 0, .int 6, .int 0, .int 0, .int 0, .ref (am 6), .int 0, .ref (am 7), .int 0, .ref (am 8), .ref (am 9), .int (-1), .int 0, .int 0, .int (-1), .int 0, .ref (am 10), .int 0, .ref (am 11), .ref (am 12), .ref (am 13), .ref (am 14), .long 0, .ref (am 15), .ref (am 16), .ref (am 17), .ref (am 18)]))]) [0] (by decide) rfl
  refine gq_callI (wr := []) (va_runV (As := [.long 1935764581]) (rest := []) ⟨hx, hb, hml, hown, ht⟩ (c_M_isWord_6 l G s.heap.size h0 am 1935764581) (cwV 1 ht (ts_gV wd_1398 wd_1400 wd_43 wd_134 wd_1401) rfl rfl rfl (by decide +kernel) ⟨Nat.le_of_ble_eq_true rfl, Nat.le_of_ble_eq_true rfl⟩) (gc_preV (ci := 12) (q0 := 0) hK hPc hDc rfl rfl) rfl rfl hl.1 rfl (lv_room (Nat.le_of_ble_eq_true rfl)) dX12_isSaleWord_4 ⟨Nat.le_of_ble_eq_true rfl, Nat.le_of_ble_eq_true rfl⟩) hP hD hS hA [0] [] rfl rfl (by decide) (by decide) (fun r u H locs hw hP hD hS => ?_)
  have hw : r = 0 := hw
  subst hw
  have hP : va_P (gg_D G) classes [(h0, .inr (12, [.ref (am 0), .int 0, .int 0, .ref (am 1), .ref (am 2), .ref (am 3), .ref (am 4), .ref (am 5), .int 0, .int 0, .int 0, .int 6, .int 0, .int 0, .int 0, .ref (am 6), .int 0, .ref (am 7), .int 0, .ref (am 8), .ref (am 9), .int (-1), .int 0, .int 0, .int (-1), .int 0, .ref (am 10), .int 0, .ref (am 11), .ref (am 12), .ref (am 13), .ref (am 14), .long 0, .ref (am 15), .ref (am 16), .ref (am 17), .ref (am 18)]))] H := hP
  have hD : va_D A [(h0, .inr (12, [.ref (am 0), .int 0, .int 0, .ref (am 1), .ref (am 2), .ref (am 3), .ref (am 4), .ref (am 5), .int 0, .int 0, .int 0, .int 6, .int 0, .int 0, .int 0, .ref (am 6), .int 0, .ref (am 7), .int 0, .ref (am 8), .ref (am 9), .int (-1), .int 0, .int 0, .int (-1), .int 0, .ref (am 10), .int 0, .ref (am 11), .ref (am 12), .ref (am 13), .ref (am 14), .long 0, .ref (am 15), .ref (am 16), .ref (am 17), .ref (am 18)]))] := hD
  refine lv_if_ne (tgt := 50) hx hb dX12_isSaleWord_7 (by decide) (fun c0 => absurd (by decide +kernel) c0) (fun _ => ?_)
  refine lv_aload_n hx hb dX12_isSaleWord_10 rfl (lv_at hl 0 rfl) ?_
  refine lv_ldc2 hx hb hown (ht _ wd_1406) dX12_isSaleWord_11 ?_
  have hPc := hP.sub (ws' := [(h0, .inr (12, [.ref (am 0), .int 0, .int 0, .ref (am 1), .ref (am 2), .ref (am 3), .ref (am 4), .ref (am 5), .int 0, .int 0, .int 0, .int 6, .int 0, .int 0, .int 0, .ref (am 6), .int 0, .ref (am 7), .int 0, .ref (am 8), .ref (am 9), .int (-1), .int 0, .int 0, .int (-1), .int 0, .ref (am 10), .int 0, .ref (am 11), .ref (am 12), .ref (am 13), .ref (am 14), .long 0, .ref (am 15), .ref (am 16), .ref (am 17), .ref (am 18)]))]) [0] rfl
  have hDc := hD.sub (ws' := [(h0, .inr (12, [.ref (am 0), .int 0, .int 0, .ref (am 1), .ref (am 2), .ref (am 3), .ref (am 4), .ref (am 5), .int 0, .int 0, .int 0, .int 6, .int 0, .int 0, .int 0, .ref (am 6), .int 0, .ref (am 7), .int 0, .ref (am 8), .ref (am 9), .int (-1), .int 0, .int 0, .int (-1), .int 0, .ref (am 10), .int 0, .ref (am 11), .ref (am 12), .ref (am 13), .ref (am 14), .long 0, .ref (am 15), .ref (am 16), .ref (am 17), .ref (am 18)]))]) [0] (by decide) rfl
  refine gq_callI (wr := []) (va_runV (As := [.long 108204795389298]) (rest := []) ⟨hx, hb, hml, hown, ht⟩ (c_M_isWord_6 l G H.size h0 am 108204795389298) (cwV 1 ht (ts_gV wd_1398 wd_1400 wd_43 wd_134 wd_1401) rfl rfl rfl (by decide +kernel) ⟨Nat.le_of_ble_eq_true rfl, Nat.le_of_ble_eq_true rfl⟩) (gc_preV (ci := 12) (q0 := 0) hK hPc hDc rfl rfl) rfl rfl hl.1 rfl (lv_room (Nat.le_of_ble_eq_true rfl)) dX12_isSaleWord_14 ⟨Nat.le_of_ble_eq_true rfl, Nat.le_of_ble_eq_true rfl⟩) hP hD hS hA [0] [] rfl rfl (by decide) (by decide) (fun r u H locs hw hP hD hS => ?_)
  have hw : r = 0 := hw
  subst hw
  have hP : va_P (gg_D G) classes [(h0, .inr (12, [.ref (am 0), .int 0, .int 0, .ref (am 1), .ref (am 2), .ref (am 3), .ref (am 4), .ref (am 5), .int 0, .int 0, .int 0, .int 6, .int 0, .int 0, .int 0, .ref (am 6), .int 0, .ref (am 7), .int 0, .ref (am 8), .ref (am 9), .int (-1), .int 0, .int 0, .int (-1), .int 0, .ref (am 10), .int 0, .ref (am 11), .ref (am 12), .ref (am 13), .ref (am 14), .long 0, .ref (am 15), .ref (am 16), .ref (am 17), .ref (am 18)]))] H := hP
  have hD : va_D A [(h0, .inr (12, [.ref (am 0), .int 0, .int 0, .ref (am 1), .ref (am 2), .ref (am 3), .ref (am 4), .ref (am 5), .int 0, .int 0, .int 0, .int 6, .int 0, .int 0, .int 0, .ref (am 6), .int 0, .ref (am 7), .int 0, .ref (am 8), .ref (am 9), .int (-1), .int 0, .int 0, .int (-1), .int 0, .ref (am 10), .int 0, .ref (am 11), .ref (am 12), .ref (am 13), .ref (am 14), .long 0, .ref (am 15), .ref (am 16), .ref (am 17), .ref (am 18)]))] := hD
  refine lv_if_ne (tgt := 50) hx hb dX12_isSaleWord_17 (by decide) (fun c0 => absurd (by decide +kernel) c0) (fun _ => ?_)
  refine lv_aload_n hx hb dX12_isSaleWord_20 rfl (lv_at hl 0 rfl) ?_
  refine lv_ldc2 hx hb hown (ht _ wd_1407) dX12_isSaleWord_21 ?_
  have hPc := hP.sub (ws' := [(h0, .inr (12, [.ref (am 0), .int 0, .int 0, .ref (am 1), .ref (am 2), .ref (am 3), .ref (am 4), .ref (am 5), .int 0, .int 0, .int 0, .int 6, .int 0, .int 0, .int 0, .ref (am 6), .int 0, .ref (am 7), .int 0, .ref (am 8), .ref (am 9), .int (-1), .int 0, .int 0, .int (-1), .int 0, .ref (am 10), .int 0, .ref (am 11), .ref (am 12), .ref (am 13), .ref (am 14), .long 0, .ref (am 15), .ref (am 16), .ref (am 17), .ref (am 18)]))]) [0] rfl
  have hDc := hD.sub (ws' := [(h0, .inr (12, [.ref (am 0), .int 0, .int 0, .ref (am 1), .ref (am 2), .ref (am 3), .ref (am 4), .ref (am 5), .int 0, .int 0, .int 0, .int 6, .int 0, .int 0, .int 0, .ref (am 6), .int 0, .ref (am 7), .int 0, .ref (am 8), .ref (am 9), .int (-1), .int 0, .int 0, .int (-1), .int 0, .ref (am 10), .int 0, .ref (am 11), .ref (am 12), .ref (am 13), .ref (am 14), .long 0, .ref (am 15), .ref (am 16), .ref (am 17), .ref (am 18)]))]) [0] (by decide) rfl
  refine gq_callI (wr := []) (va_runV (As := [.long 7106420]) (rest := []) ⟨hx, hb, hml, hown, ht⟩ (c_M_isWord_6 l G H.size h0 am 7106420) (cwV 1 ht (ts_gV wd_1398 wd_1400 wd_43 wd_134 wd_1401) rfl rfl rfl (by decide +kernel) ⟨Nat.le_of_ble_eq_true rfl, Nat.le_of_ble_eq_true rfl⟩) (gc_preV (ci := 12) (q0 := 0) hK hPc hDc rfl rfl) rfl rfl hl.1 rfl (lv_room (Nat.le_of_ble_eq_true rfl)) dX12_isSaleWord_24 ⟨Nat.le_of_ble_eq_true rfl, Nat.le_of_ble_eq_true rfl⟩) hP hD hS hA [0] [] rfl rfl (by decide) (by decide) (fun r u H locs hw hP hD hS => ?_)
  have hw : r = 0 := hw
  subst hw
  have hP : va_P (gg_D G) classes [(h0, .inr (12, [.ref (am 0), .int 0, .int 0, .ref (am 1), .ref (am 2), .ref (am 3), .ref (am 4), .ref (am 5), .int 0, .int 0, .int 0, .int 6, .int 0, .int 0, .int 0, .ref (am 6), .int 0, .ref (am 7), .int 0, .ref (am 8), .ref (am 9), .int (-1), .int 0, .int 0, .int (-1), .int 0, .ref (am 10), .int 0, .ref (am 11), .ref (am 12), .ref (am 13), .ref (am 14), .long 0, .ref (am 15), .ref (am 16), .ref (am 17), .ref (am 18)]))] H := hP
  have hD : va_D A [(h0, .inr (12, [.ref (am 0), .int 0, .int 0, .ref (am 1), .ref (am 2), .ref (am 3), .ref (am 4), .ref (am 5), .int 0, .int 0, .int 0, .int 6, .int 0, .int 0, .int 0, .ref (am 6), .int 0, .ref (am 7), .int 0, .ref (am 8), .ref (am 9), .int (-1), .int 0, .int 0, .int (-1), .int 0, .ref (am 10), .int 0, .ref (am 11), .ref (am 12), .ref (am 13), .ref (am 14), .long 0, .ref (am 15), .ref (am 16), .ref (am 17), .ref (am 18)]))] := hD
  refine lv_if_ne (tgt := 50) hx hb dX12_isSaleWord_27 (by decide) (fun c0 => absurd (by decide +kernel) c0) (fun _ => ?_)
  refine lv_aload_n hx hb dX12_isSaleWord_30 rfl (lv_at hl 0 rfl) ?_
  refine lv_ldc2 hx hb hown (ht _ wd_1408) dX12_isSaleWord_31 ?_
  have hPc := hP.sub (ws' := [(h0, .inr (12, [.ref (am 0), .int 0, .int 0, .ref (am 1), .ref (am 2), .ref (am 3), .ref (am 4), .ref (am 5), .int 0, .int 0, .int 0, .int 6, .int 0, .int 0, .int 0, .ref (am 6), .int 0, .ref (am 7), .int 0, .ref (am 8), .ref (am 9), .int (-1), .int 0, .int 0, .int (-1), .int 0, .ref (am 10), .int 0, .ref (am 11), .ref (am 12), .ref (am 13), .ref (am 14), .long 0, .ref (am 15), .ref (am 16), .ref (am 17), .ref (am 18)]))]) [0] rfl
  have hDc := hD.sub (ws' := [(h0, .inr (12, [.ref (am 0), .int 0, .int 0, .ref (am 1), .ref (am 2), .ref (am 3), .ref (am 4), .ref (am 5), .int 0, .int 0, .int 0, .int 6, .int 0, .int 0, .int 0, .ref (am 6), .int 0, .ref (am 7), .int 0, .ref (am 8), .ref (am 9), .int (-1), .int 0, .int 0, .int (-1), .int 0, .ref (am 10), .int 0, .ref (am 11), .ref (am 12), .ref (am 13), .ref (am 14), .long 0, .ref (am 15), .ref (am 16), .ref (am 17), .ref (am 18)]))]) [0] (by decide) rfl
  refine gq_callI (wr := []) (va_runV (As := [.long 512970880104]) (rest := []) ⟨hx, hb, hml, hown, ht⟩ (c_M_isWord_6 l G H.size h0 am 512970880104) (cwV 1 ht (ts_gV wd_1398 wd_1400 wd_43 wd_134 wd_1401) rfl rfl rfl (by decide +kernel) ⟨Nat.le_of_ble_eq_true rfl, Nat.le_of_ble_eq_true rfl⟩) (gc_preV (ci := 12) (q0 := 0) hK hPc hDc rfl rfl) rfl rfl hl.1 rfl (lv_room (Nat.le_of_ble_eq_true rfl)) dX12_isSaleWord_34 ⟨Nat.le_of_ble_eq_true rfl, Nat.le_of_ble_eq_true rfl⟩) hP hD hS hA [0] [] rfl rfl (by decide) (by decide) (fun r u H locs hw hP hD hS => ?_)
  have hw : r = 0 := hw
  subst hw
  have hP : va_P (gg_D G) classes [(h0, .inr (12, [.ref (am 0), .int 0, .int 0, .ref (am 1), .ref (am 2), .ref (am 3), .ref (am 4), .ref (am 5), .int 0, .int 0, .int 0, .int 6, .int 0, .int 0, .int 0, .ref (am 6), .int 0, .ref (am 7), .int 0, .ref (am 8), .ref (am 9), .int (-1), .int 0, .int 0, .int (-1), .int 0, .ref (am 10), .int 0, .ref (am 11), .ref (am 12), .ref (am 13), .ref (am 14), .long 0, .ref (am 15), .ref (am 16), .ref (am 17), .ref (am 18)]))] H := hP
  have hD : va_D A [(h0, .inr (12, [.ref (am 0), .int 0, .int 0, .ref (am 1), .ref (am 2), .ref (am 3), .ref (am 4), .ref (am 5), .int 0, .int 0, .int 0, .int 6, .int 0, .int 0, .int 0, .ref (am 6), .int 0, .ref (am 7), .int 0, .ref (am 8), .ref (am 9), .int (-1), .int 0, .int 0, .int (-1), .int 0, .ref (am 10), .int 0, .ref (am 11), .ref (am 12), .ref (am 13), .ref (am 14), .long 0, .ref (am 15), .ref (am 16), .ref (am 17), .ref (am 18)]))] := hD
  refine lv_if_ne (tgt := 50) hx hb dX12_isSaleWord_37 (by decide) (fun c0 => absurd (by decide +kernel) c0) (fun _ => ?_)
  refine lv_aload_n hx hb dX12_isSaleWord_40 rfl (lv_at hl 0 rfl) ?_
  refine lv_ldc2 hx hb hown (ht _ wd_1409) dX12_isSaleWord_41 ?_
  have hPc := hP.sub (ws' := [(h0, .inr (12, [.ref (am 0), .int 0, .int 0, .ref (am 1), .ref (am 2), .ref (am 3), .ref (am 4), .ref (am 5), .int 0, .int 0, .int 0, .int 6, .int 0, .int 0, .int 0, .ref (am 6), .int 0, .ref (am 7), .int 0, .ref (am 8), .ref (am 9), .int (-1), .int 0, .int 0, .int (-1), .int 0, .ref (am 10), .int 0, .ref (am 11), .ref (am 12), .ref (am 13), .ref (am 14), .long 0, .ref (am 15), .ref (am 16), .ref (am 17), .ref (am 18)]))]) [0] rfl
  have hDc := hD.sub (ws' := [(h0, .inr (12, [.ref (am 0), .int 0, .int 0, .ref (am 1), .ref (am 2), .ref (am 3), .ref (am 4), .ref (am 5), .int 0, .int 0, .int 0, .int 6, .int 0, .int 0, .int 0, .ref (am 6), .int 0, .ref (am 7), .int 0, .ref (am 8), .ref (am 9), .int (-1), .int 0, .int 0, .int (-1), .int 0, .ref (am 10), .int 0, .ref (am 11), .ref (am 12), .ref (am 13), .ref (am 14), .long 0, .ref (am 15), .ref (am 16), .ref (am 17), .ref (am 18)]))]) [0] (by decide) rfl
  refine gq_callI (wr := []) (va_runV (As := [.long 500135715691]) (rest := []) ⟨hx, hb, hml, hown, ht⟩ (c_M_isWord_6 l G H.size h0 am 500135715691) (cwV 1 ht (ts_gV wd_1398 wd_1400 wd_43 wd_134 wd_1401) rfl rfl rfl (by decide +kernel) ⟨Nat.le_of_ble_eq_true rfl, Nat.le_of_ble_eq_true rfl⟩) (gc_preV (ci := 12) (q0 := 0) hK hPc hDc rfl rfl) rfl rfl hl.1 rfl (lv_room (Nat.le_of_ble_eq_true rfl)) dX12_isSaleWord_44 ⟨Nat.le_of_ble_eq_true rfl, Nat.le_of_ble_eq_true rfl⟩) hP hD hS hA [0] [] rfl rfl (by decide) (by decide) (fun r u H locs hw hP hD hS => ?_)
  have hw : r = 0 := hw
  subst hw
  have hP : va_P (gg_D G) classes [(h0, .inr (12, [.ref (am 0), .int 0, .int 0, .ref (am 1), .ref (am 2), .ref (am 3), .ref (am 4), .ref (am 5), .int 0, .int 0, .int 0, .int 6, .int 0, .int 0, .int 0, .ref (am 6), .int 0, .ref (am 7), .int 0, .ref (am 8), .ref (am 9), .int (-1), .int 0, .int 0, .int (-1), .int 0, .ref (am 10), .int 0, .ref (am 11), .ref (am 12), .ref (am 13), .ref (am 14), .long 0, .ref (am 15), .ref (am 16), .ref (am 17), .ref (am 18)]))] H := hP
  have hD : va_D A [(h0, .inr (12, [.ref (am 0), .int 0, .int 0, .ref (am 1), .ref (am 2), .ref (am 3), .ref (am 4), .ref (am 5), .int 0, .int 0, .int 0, .int 6, .int 0, .int 0, .int 0, .ref (am 6), .int 0, .ref (am 7), .int 0, .ref (am 8), .ref (am 9), .int (-1), .int 0, .int 0, .int (-1), .int 0, .ref (am 10), .int 0, .ref (am 11), .ref (am 12), .ref (am 13), .ref (am 14), .long 0, .ref (am 15), .ref (am 16), .ref (am 17), .ref (am 18)]))] := hD
  refine lv_if_eq (tgt := 54) hx hb dX12_isSaleWord_47 (by decide) (fun _ => ?_) (fun c0 => absurd (by decide +kernel) c0)
  refine lv_iconst (v := 0) hx hb dX12_isSaleWord_54 (by decide) ?_
  have hP9 := hP.sub (ws' := [(h0, .inr (12, [.ref (am 0), .int 0, .int 0, .ref (am 1), .ref (am 2), .ref (am 3), .ref (am 4), .ref (am 5), .int 0, .int 0, .int 0, .int 6, .int 0, .int 0, .int 0, .ref (am 6), .int 0, .ref (am 7), .int 0, .ref (am 8), .ref (am 9), .int (-1), .int 0, .int 0, .int (-1), .int 0, .ref (am 10), .int 0, .ref (am 11), .ref (am 12), .ref (am 13), .ref (am 14), .long 0, .ref (am 15), .ref (am 16), .ref (am 17), .ref (am 18)]))]) [0] rfl
  have hD9 := hD.sub (ws' := [(h0, .inr (12, [.ref (am 0), .int 0, .int 0, .ref (am 1), .ref (am 2), .ref (am 3), .ref (am 4), .ref (am 5), .int 0, .int 0, .int 0, .int 6, .int 0, .int 0, .int 0, .ref (am 6), .int 0, .ref (am 7), .int 0, .ref (am 8), .ref (am 9), .int (-1), .int 0, .int 0, .int (-1), .int 0, .ref (am 10), .int 0, .ref (am 11), .ref (am 12), .ref (am 13), .ref (am 14), .long 0, .ref (am 15), .ref (am 16), .ref (am 17), .ref (am 18)]))]) [0] (by decide) rfl
  exact W.zret (v := 0) hx hb hr (by decide +kernel) (gq_endI () rfl hP9 hD9 hS) hS.2.2 dX12_isSaleWord_55
set_option maxHeartbeats 4000000 in
set_option maxRecDepth 100000 in
theorem c_M_clauseHere_6 (l : Launch) (G : gg_T) (sz : Nat) (h0 : Nat) (am : Nat → Nat) : Met l yX12_clauseHere (ts_L yX12_clauseHere cX12_clauseHere 3 (some .boolean)) ({ frames := 3, cells := 0, slots := 0, locals := 66 }) (gc_P G [(h0, .inr (12, [.ref (am 0), .int 0, .int 0, .ref (am 1), .ref (am 2), .ref (am 3), .ref (am 4), .ref (am 5), .int 0, .int 0, .int 0, .int 6, .int 0, .int 0, .int 0, .ref (am 6), .int 0, .ref (am 7), .int 0, .ref (am 8), .ref (am 9), .int (-1), .int 0, .int 0, .int (-1), .int 0, .ref (am 10), .int 0, .ref (am 11), .ref (am 12), .ref (am 13), .ref (am 14), .long 0, .ref (am 15), .ref (am 16), .ref (am 17), .ref (am 18)]))] sz [.ref h0]) (gc_I G (va_A [(h0, .inr (12, [.ref (am 0), .int 0, .int 0, .ref (am 1), .ref (am 2), .ref (am 3), .ref (am 4), .ref (am 5), .int 0, .int 0, .int 0, .int 6, .int 0, .int 0, .int 0, .ref (am 6), .int 0, .ref (am 7), .int 0, .ref (am 8), .ref (am 9), .int (-1), .int 0, .int 0, .int (-1), .int 0, .ref (am 10), .int 0, .ref (am 11), .ref (am 12), .ref (am 13), .ref (am 14), .long 0, .ref (am 15), .ref (am 16), .ref (am 17), .ref (am 18)]))] sz) (fun r (_ : Unit) => r = 0) (fun _ => [(h0, .inr (12, [.ref (am 0), .int 0, .int 0, .ref (am 1), .ref (am 2), .ref (am 3), .ref (am 4), .ref (am 5), .int 0, .int 1, .int 0, .int 6, .int 0, .int 0, .int 0, .ref (am 6), .int 0, .ref (am 7), .int 0, .ref (am 8), .ref (am 9), .int (-1), .int 0, .int 0, .int (-1), .int 0, .ref (am 10), .int 0, .ref (am 11), .ref (am 12), .ref (am 13), .ref (am 14), .long 0, .ref (am 15), .ref (am 16), .ref (am 17), .ref (am 18)]))])) 0 0 (va_A [(h0, .inr (12, [.ref (am 0), .int 0, .int 0, .ref (am 1), .ref (am 2), .ref (am 3), .ref (am 4), .ref (am 5), .int 0, .int 0, .int 0, .int 6, .int 0, .int 0, .int 0, .ref (am 6), .int 0, .ref (am 7), .int 0, .ref (am 8), .ref (am 9), .int (-1), .int 0, .int 0, .int (-1), .int 0, .ref (am 10), .int 0, .ref (am 11), .ref (am 12), .ref (am 13), .ref (am 14), .long 0, .ref (am 15), .ref (am 16), .ref (am 17), .ref (am 18)]))] sz) := by
  refine Met.ofW (cc := cX12_clauseHere) (maxL := 3) (ret := (some .boolean)) (by decide) rfl ?_
  intro p e s m args below meth c s₁ B hml hv
  obtain ⟨rfl, hsz, hP, hK, hD0⟩ := hv
  have hx := B.exec
  have hb := B.bytes
  have hr := B.returns
  have ht := ts_ht (atoms_spec (ws := ts_L yX12_clauseHere cX12_clauseHere 3 (some .boolean)) B.pre)
  have hown : s.vm.findClass RX12 = some m.cls := findClass_of_methodNamed B.named
  have hlocks := B.notSynchronized
  subst hsz
  have hD := hD0.self (sz := s.heap.size)
  generalize hAe : va_A [(h0, .inr (12, [.ref (am 0), .int 0, .int 0, .ref (am 1), .ref (am 2), .ref (am 3), .ref (am 4), .ref (am 5), .int 0, .int 0, .int 0, .int 6, .int 0, .int 0, .int 0, .ref (am 6), .int 0, .ref (am 7), .int 0, .ref (am 8), .ref (am 9), .int (-1), .int 0, .int 0, .int (-1), .int 0, .ref (am 10), .int 0, .ref (am 11), .ref (am 12), .ref (am 13), .ref (am 14), .long 0, .ref (am 15), .ref (am 16), .ref (am 17), .ref (am 18)]))] s.heap.size = A at hD ⊢
  have hA : ∀ q : Nat, s.heap.size ≤ q → A q := fun q h => by rw [← hAe]; exact Or.inr h
  have hS : va_S A s.heap s.heap [] := va_S.rf
  have hl := lv_entry ([.ref h0]) (n := 3) (Nat.le_of_ble_eq_true rfl)
  rw [lg_entry_eq]
  generalize (lg_sl ([.ref h0]) ++ List.replicate (3 - (lg_sl ([.ref h0])).length) Slot.unset).toArray = ls at hl ⊢
  have hl : lv_has ls 3 [(0, .ref h0)] := hl
  refine lv_aload_n hx hb dX12_clauseHere_0 rfl (lv_at hl 0 rfl) ?_
  have hPc := hP.sub (ws' := [(h0, .inr (12, [.ref (am 0), .int 0, .int 0, .ref (am 1), .ref (am 2), .ref (am 3), .ref (am 4), .ref (am 5), .int 0, .int 0, .int 0, .int 6, .int 0, .int 0, .int 0, .ref (am 6), .int 0, .ref (am 7), .int 0, .ref (am 8), .ref (am 9), .int (-1), .int 0, .int 0, .int (-1), .int 0, .ref (am 10), .int 0, .ref (am 11), .ref (am 12), .ref (am 13), .ref (am 14), .long 0, .ref (am 15), .ref (am 16), .ref (am 17), .ref (am 18)]))]) [0] rfl
  have hDc := hD.sub (ws' := [(h0, .inr (12, [.ref (am 0), .int 0, .int 0, .ref (am 1), .ref (am 2), .ref (am 3), .ref (am 4), .ref (am 5), .int 0, .int 0, .int 0, .int 6, .int 0, .int 0, .int 0, .ref (am 6), .int 0, .ref (am 7), .int 0, .ref (am 8), .ref (am 9), .int (-1), .int 0, .int 0, .int (-1), .int 0, .ref (am 10), .int 0, .ref (am 11), .ref (am 12), .ref (am 13), .ref (am 14), .long 0, .ref (am 15), .ref (am 16), .ref (am 17), .ref (am 18)]))]) [0] (by decide) rfl
  refine gq_callI (wr := []) (va_runV (As := []) (rest := []) ⟨hx, hb, hml, hown, ht⟩ (c_M_see_6 l G s.heap.size h0 am) (cwV 0 ht (ts_gV wd_1389 wd_1391 wd_41 wd_134 wd_1392) rfl rfl rfl (by decide +kernel) ⟨Nat.le_of_ble_eq_true rfl, Nat.le_of_ble_eq_true rfl⟩) (gc_preV (ci := 12) (q0 := 0) hK hPc hDc rfl rfl) rfl rfl hl.1 rfl (lv_room (Nat.le_of_ble_eq_true rfl)) dX12_clauseHere_1 ⟨Nat.le_of_ble_eq_true rfl, Nat.le_of_ble_eq_true rfl⟩) hP hD hS hA [0] [] rfl rfl (by decide) (by decide) (fun r u H locs hw hP hD hS => ?_)
  have hw : r = (-1) := hw
  subst hw
  have hP : va_P (gg_D G) classes [(h0, .inr (12, [.ref (am 0), .int 0, .int 0, .ref (am 1), .ref (am 2), .ref (am 3), .ref (am 4), .ref (am 5), .int 0, .int 0, .int 0, .int 6, .int 0, .int 0, .int 0, .ref (am 6), .int 0, .ref (am 7), .int 0, .ref (am 8), .ref (am 9), .int (-1), .int 0, .int 0, .int (-1), .int 0, .ref (am 10), .int 0, .ref (am 11), .ref (am 12), .ref (am 13), .ref (am 14), .long 0, .ref (am 15), .ref (am 16), .ref (am 17), .ref (am 18)]))] H := hP
  have hD : va_D A [(h0, .inr (12, [.ref (am 0), .int 0, .int 0, .ref (am 1), .ref (am 2), .ref (am 3), .ref (am 4), .ref (am 5), .int 0, .int 0, .int 0, .int 6, .int 0, .int 0, .int 0, .ref (am 6), .int 0, .ref (am 7), .int 0, .ref (am 8), .ref (am 9), .int (-1), .int 0, .int 0, .int (-1), .int 0, .ref (am 10), .int 0, .ref (am 11), .ref (am 12), .ref (am 13), .ref (am 14), .long 0, .ref (am 15), .ref (am 16), .ref (am 17), .ref (am 18)]))] := hD
  refine lv_pop hx hb dX12_clauseHere_4 rfl ?_
  refine lv_aload_n hx hb dX12_clauseHere_5 rfl (lv_at hl 0 rfl) ?_
  refine gq_get hx hb ht hown hK hP i_X12 0 rfl rfl 8 (by decide) wd_1260 rfl rfl dX12_clauseHere_6 ?_
  refine lv_istore_n (lv' := [(1, .int 0), (0, .ref h0)]) hx hb dX12_clauseHere_9 rfl hl (by decide) rfl (fun ls hl => ?_)
  refine lv_aload_n hx hb dX12_clauseHere_10 rfl (lv_at hl 1 rfl) ?_
  refine gq_get hx hb ht hown hK hP i_X12 0 rfl rfl 11 (by decide) wd_1263 rfl rfl dX12_clauseHere_11 ?_
  refine lv_bipush (v := 6) hx hb dX12_clauseHere_14 (by decide +kernel) ?_
  refine lv_icmp_ne (tgt := 23) hx hb dX12_clauseHere_16 (by decide) (fun c0 => absurd (by decide +kernel) c0) (fun _ => ?_)
  refine lv_iconst (v := 1) hx hb dX12_clauseHere_19 (by decide) ?_
  refine lv_goto (tgt := 24) hx hb dX12_clauseHere_20 (by decide) ?_
  refine lv_istore_n (lv' := [(2, .int 1), (1, .int 0), (0, .ref h0)]) hx hb dX12_clauseHere_24 rfl hl (by decide) rfl (fun ls hl => ?_)
  refine lv_iload_n hx hb dX12_clauseHere_25 rfl (lv_at hl 0 rfl) ?_
  refine lv_if_eq (tgt := 39) hx hb dX12_clauseHere_26 (by decide) (fun c0 => absurd c0 (by decide +kernel)) (fun _ => ?_)
  refine lv_aload_n hx hb dX12_clauseHere_29 rfl (lv_at hl 2 rfl) ?_
  have hPc := hP.sub (ws' := [(h0, .inr (12, [.ref (am 0), .int 0, .int 0, .ref (am 1), .ref (am 2), .ref (am 3), .ref (am 4), .ref (am 5), .int 0, .int 0, .int 0, .int 6, .int 0, .int 0, .int 0, .ref (am 6), .int 0, .ref (am 7), .int 0, .ref (am 8), .ref (am 9), .int (-1), .int 0, .int 0, .int (-1), .int 0, .ref (am 10), .int 0, .ref (am 11), .ref (am 12), .ref (am 13), .ref (am 14), .long 0, .ref (am 15), .ref (am 16), .ref (am 17), .ref (am 18)]))]) [0] rfl
  have hDc := hD.sub (ws' := [(h0, .inr (12, [.ref (am 0), .int 0, .int 0, .ref (am 1), .ref (am 2), .ref (am 3), .ref (am 4), .ref (am 5), .int 0, .int 0, .int 0, .int 6, .int 0, .int 0, .int 0, .ref (am 6), .int 0, .ref (am 7), .int 0, .ref (am 8), .ref (am 9), .int (-1), .int 0, .int 0, .int (-1), .int 0, .ref (am 10), .int 0, .ref (am 11), .ref (am 12), .ref (am 13), .ref (am 14), .long 0, .ref (am 15), .ref (am 16), .ref (am 17), .ref (am 18)]))]) [0] (by decide) rfl
  refine gq_callI (wr := []) (va_runV (As := []) (rest := []) ⟨hx, hb, hml, hown, ht⟩ (c_M_isSaleWord l G H.size h0 am) (cwV 0 ht (ts_gV wd_1393 wd_1395 wd_42 wd_134 wd_1396) rfl rfl rfl (by decide +kernel) ⟨Nat.le_of_ble_eq_true rfl, Nat.le_of_ble_eq_true rfl⟩) (gc_preV (ci := 12) (q0 := 0) hK hPc hDc rfl rfl) rfl rfl hl.1 rfl (lv_room (Nat.le_of_ble_eq_true rfl)) dX12_clauseHere_30 ⟨Nat.le_of_ble_eq_true rfl, Nat.le_of_ble_eq_true rfl⟩) hP hD hS hA [0] [] rfl rfl (by decide) (by decide) (fun r u H locs hw hP hD hS => ?_)
  have hw : r = 0 := hw
  subst hw
  have hP : va_P (gg_D G) classes [(h0, .inr (12, [.ref (am 0), .int 0, .int 0, .ref (am 1), .ref (am 2), .ref (am 3), .ref (am 4), .ref (am 5), .int 0, .int 0, .int 0, .int 6, .int 0, .int 0, .int 0, .ref (am 6), .int 0, .ref (am 7), .int 0, .ref (am 8), .ref (am 9), .int (-1), .int 0, .int 0, .int (-1), .int 0, .ref (am 10), .int 0, .ref (am 11), .ref (am 12), .ref (am 13), .ref (am 14), .long 0, .ref (am 15), .ref (am 16), .ref (am 17), .ref (am 18)]))] H := hP
  have hD : va_D A [(h0, .inr (12, [.ref (am 0), .int 0, .int 0, .ref (am 1), .ref (am 2), .ref (am 3), .ref (am 4), .ref (am 5), .int 0, .int 0, .int 0, .int 6, .int 0, .int 0, .int 0, .ref (am 6), .int 0, .ref (am 7), .int 0, .ref (am 8), .ref (am 9), .int (-1), .int 0, .int 0, .int (-1), .int 0, .ref (am 10), .int 0, .ref (am 11), .ref (am 12), .ref (am 13), .ref (am 14), .long 0, .ref (am 15), .ref (am 16), .ref (am 17), .ref (am 18)]))] := hD
  refine lv_if_ne (tgt := 56) hx hb dX12_clauseHere_33 (by decide) (fun c0 => absurd (by decide +kernel) c0) (fun _ => ?_)
  refine lv_goto (tgt := 49) hx hb dX12_clauseHere_36 (by decide) ?_
  refine lv_aload_n hx hb dX12_clauseHere_49 rfl (lv_at hl 2 rfl) ?_
  refine lv_iconst (v := 0) hx hb dX12_clauseHere_50 (by decide) ?_
  refine lv_iload_n hx hb dX12_clauseHere_51 rfl (lv_at hl 1 rfl) ?_
  have hPc := hP.sub (ws' := [(h0, .inr (12, [.ref (am 0), .int 0, .int 0, .ref (am 1), .ref (am 2), .ref (am 3), .ref (am 4), .ref (am 5), .int 0, .int 0, .int 0, .int 6, .int 0, .int 0, .int 0, .ref (am 6), .int 0, .ref (am 7), .int 0, .ref (am 8), .ref (am 9), .int (-1), .int 0, .int 0, .int (-1), .int 0, .ref (am 10), .int 0, .ref (am 11), .ref (am 12), .ref (am 13), .ref (am 14), .long 0, .ref (am 15), .ref (am 16), .ref (am 17), .ref (am 18)]))]) [0] rfl
  have hDc := hD.sub (ws' := [(h0, .inr (12, [.ref (am 0), .int 0, .int 0, .ref (am 1), .ref (am 2), .ref (am 3), .ref (am 4), .ref (am 5), .int 0, .int 0, .int 0, .int 6, .int 0, .int 0, .int 0, .ref (am 6), .int 0, .ref (am 7), .int 0, .ref (am 8), .ref (am 9), .int (-1), .int 0, .int 0, .int (-1), .int 0, .ref (am 10), .int 0, .ref (am 11), .ref (am 12), .ref (am 13), .ref (am 14), .long 0, .ref (am 15), .ref (am 16), .ref (am 17), .ref (am 18)]))]) [0] (by decide) rfl
  refine gq_callI (wr := []) (va_runV (As := [.int 0, .int 0]) (rest := []) ⟨hx, hb, hml, hown, ht⟩ (c_M_fails_6 l G H.size h0 am) (cwV 2 ht (ts_gV wd_1411 wd_1413 wd_45 wd_134 wd_1414) rfl rfl rfl (by decide +kernel) ⟨Nat.le_of_ble_eq_true rfl, Nat.le_of_ble_eq_true rfl⟩) (gc_preV (ci := 12) (q0 := 0) hK hPc hDc rfl rfl) rfl rfl hl.1 rfl (lv_room (Nat.le_of_ble_eq_true rfl)) dX12_clauseHere_52 ⟨Nat.le_of_ble_eq_true rfl, Nat.le_of_ble_eq_true rfl⟩) hP hD hS hA [0] [] rfl rfl (by decide) (by decide) (fun r u H locs hw hP hD hS => ?_)
  have hw : r = 0 := hw
  subst hw
  have hP : va_P (gg_D G) classes [(h0, .inr (12, [.ref (am 0), .int 0, .int 0, .ref (am 1), .ref (am 2), .ref (am 3), .ref (am 4), .ref (am 5), .int 0, .int 1, .int 0, .int 6, .int 0, .int 0, .int 0, .ref (am 6), .int 0, .ref (am 7), .int 0, .ref (am 8), .ref (am 9), .int (-1), .int 0, .int 0, .int (-1), .int 0, .ref (am 10), .int 0, .ref (am 11), .ref (am 12), .ref (am 13), .ref (am 14), .long 0, .ref (am 15), .ref (am 16), .ref (am 17), .ref (am 18)]))] H := hP
  have hD : va_D A [(h0, .inr (12, [.ref (am 0), .int 0, .int 0, .ref (am 1), .ref (am 2), .ref (am 3), .ref (am 4), .ref (am 5), .int 0, .int 1, .int 0, .int 6, .int 0, .int 0, .int 0, .ref (am 6), .int 0, .ref (am 7), .int 0, .ref (am 8), .ref (am 9), .int (-1), .int 0, .int 0, .int (-1), .int 0, .ref (am 10), .int 0, .ref (am 11), .ref (am 12), .ref (am 13), .ref (am 14), .long 0, .ref (am 15), .ref (am 16), .ref (am 17), .ref (am 18)]))] := hD
  have hP9 := hP.sub (ws' := [(h0, .inr (12, [.ref (am 0), .int 0, .int 0, .ref (am 1), .ref (am 2), .ref (am 3), .ref (am 4), .ref (am 5), .int 0, .int 1, .int 0, .int 6, .int 0, .int 0, .int 0, .ref (am 6), .int 0, .ref (am 7), .int 0, .ref (am 8), .ref (am 9), .int (-1), .int 0, .int 0, .int (-1), .int 0, .ref (am 10), .int 0, .ref (am 11), .ref (am 12), .ref (am 13), .ref (am 14), .long 0, .ref (am 15), .ref (am 16), .ref (am 17), .ref (am 18)]))]) [0] rfl
  have hD9 := hD.sub (ws' := [(h0, .inr (12, [.ref (am 0), .int 0, .int 0, .ref (am 1), .ref (am 2), .ref (am 3), .ref (am 4), .ref (am 5), .int 0, .int 1, .int 0, .int 6, .int 0, .int 0, .int 0, .ref (am 6), .int 0, .ref (am 7), .int 0, .ref (am 8), .ref (am 9), .int (-1), .int 0, .int 0, .int (-1), .int 0, .ref (am 10), .int 0, .ref (am 11), .ref (am 12), .ref (am 13), .ref (am 14), .long 0, .ref (am 15), .ref (am 16), .ref (am 17), .ref (am 18)]))]) [0] (by decide) rfl
  exact W.zret (v := 0) hx hb hr (by decide +kernel) (gq_endI () rfl hP9 hD9 hS) hS.2.2 dX12_clauseHere_55
set_option maxHeartbeats 4000000 in
set_option maxRecDepth 100000 in
theorem c_M_readsAll_6 (l : Launch) (G : gg_T) (sz : Nat) (h0 : Nat) (am : Nat → Nat) : Met l yX12_readsAll (ts_L yX12_readsAll cX12_readsAll 2 (some .boolean)) ({ frames := 4, cells := 0, slots := 0, locals := 88 }) (gc_P G [(h0, .inr (12, [.ref (am 0), .int 0, .int 0, .ref (am 1), .ref (am 2), .ref (am 3), .ref (am 4), .ref (am 5), .int 0, .int 0, .int 0, .int 6, .int 0, .int 0, .int 0, .ref (am 6), .int 0, .ref (am 7), .int 0, .ref (am 8), .ref (am 9), .int (-1), .int 0, .int 0, .int (-1), .int 0, .ref (am 10), .int 0, .ref (am 11), .ref (am 12), .ref (am 13), .ref (am 14), .long 0, .ref (am 15), .ref (am 16), .ref (am 17), .ref (am 18)])), ((am 2), .inl (G.2.2 0, 7, .inl (fun _ => 0)))] sz [.ref h0]) (gc_I G (va_A [(h0, .inr (12, [.ref (am 0), .int 0, .int 0, .ref (am 1), .ref (am 2), .ref (am 3), .ref (am 4), .ref (am 5), .int 0, .int 0, .int 0, .int 6, .int 0, .int 0, .int 0, .ref (am 6), .int 0, .ref (am 7), .int 0, .ref (am 8), .ref (am 9), .int (-1), .int 0, .int 0, .int (-1), .int 0, .ref (am 10), .int 0, .ref (am 11), .ref (am 12), .ref (am 13), .ref (am 14), .long 0, .ref (am 15), .ref (am 16), .ref (am 17), .ref (am 18)])), ((am 2), .inl (G.2.2 0, 7, .inl (fun _ => 0)))] sz) (fun r (_ : Unit) => r = 0) (fun _ => [(h0, .inr (12, [.ref (am 0), .int 0, .int 0, .ref (am 1), .ref (am 2), .ref (am 3), .ref (am 4), .ref (am 5), .int 0, .int 1, .int 0, .int 6, .int 0, .int 0, .int 0, .ref (am 6), .int 0, .ref (am 7), .int 0, .ref (am 8), .ref (am 9), .int (-1), .int 0, .int 0, .int (-1), .int 0, .ref (am 10), .int 0, .ref (am 11), .ref (am 12), .ref (am 13), .ref (am 14), .long 0, .ref (am 15), .ref (am 16), .ref (am 17), .ref (am 18)])), ((am 2), .inl (G.2.2 0, 7, .inl (fun _ => 0)))])) 0 0 (va_A [(h0, .inr (12, [.ref (am 0), .int 0, .int 0, .ref (am 1), .ref (am 2), .ref (am 3), .ref (am 4), .ref (am 5), .int 0, .int 0, .int 0, .int 6, .int 0, .int 0, .int 0, .ref (am 6), .int 0, .ref (am 7), .int 0, .ref (am 8), .ref (am 9), .int (-1), .int 0, .int 0, .int (-1), .int 0, .ref (am 10), .int 0, .ref (am 11), .ref (am 12), .ref (am 13), .ref (am 14), .long 0, .ref (am 15), .ref (am 16), .ref (am 17), .ref (am 18)])), ((am 2), .inl (G.2.2 0, 7, .inl (fun _ => 0)))] sz) := by
  refine Met.ofW (cc := cX12_readsAll) (maxL := 2) (ret := (some .boolean)) (by decide) rfl ?_
  intro p e s m args below meth c s₁ B hml hv
  obtain ⟨rfl, hsz, hP, hK, hD0⟩ := hv
  have hx := B.exec
  have hb := B.bytes
  have hr := B.returns
  have ht := ts_ht (atoms_spec (ws := ts_L yX12_readsAll cX12_readsAll 2 (some .boolean)) B.pre)
  have hown : s.vm.findClass RX12 = some m.cls := findClass_of_methodNamed B.named
  have hlocks := B.notSynchronized
  subst hsz
  have hD := hD0.self (sz := s.heap.size)
  generalize hAe : va_A [(h0, .inr (12, [.ref (am 0), .int 0, .int 0, .ref (am 1), .ref (am 2), .ref (am 3), .ref (am 4), .ref (am 5), .int 0, .int 0, .int 0, .int 6, .int 0, .int 0, .int 0, .ref (am 6), .int 0, .ref (am 7), .int 0, .ref (am 8), .ref (am 9), .int (-1), .int 0, .int 0, .int (-1), .int 0, .ref (am 10), .int 0, .ref (am 11), .ref (am 12), .ref (am 13), .ref (am 14), .long 0, .ref (am 15), .ref (am 16), .ref (am 17), .ref (am 18)])), ((am 2), .inl (G.2.2 0, 7, .inl (fun _ => 0)))] s.heap.size = A at hD ⊢
  have hA : ∀ q : Nat, s.heap.size ≤ q → A q := fun q h => by rw [← hAe]; exact Or.inr h
  have hS : va_S A s.heap s.heap [] := va_S.rf
  have hl := lv_entry ([.ref h0]) (n := 2) (Nat.le_of_ble_eq_true rfl)
  rw [lg_entry_eq]
  generalize (lg_sl ([.ref h0]) ++ List.replicate (2 - (lg_sl ([.ref h0])).length) Slot.unset).toArray = ls at hl ⊢
  have hl : lv_has ls 2 [(0, .ref h0)] := hl
  refine lv_aload_n hx hb dX12_readsAll_0 rfl (lv_at hl 0 rfl) ?_
  refine gq_get hx hb ht hown hK hP i_X12 0 rfl rfl 4 (by decide) wd_1256 rfl rfl dX12_readsAll_1 ?_
  refine lv_aload_n hx hb dX12_readsAll_4 rfl (lv_at hl 0 rfl) ?_
  refine gq_get hx hb ht hown hK hP i_X12 0 rfl rfl 11 (by decide) wd_1263 rfl rfl dX12_readsAll_5 ?_
  refine lv_iconst (v := 0) hx hb dX12_readsAll_8 (by decide) ?_
  refine gq_iast (ws' := [(h0, .inr (12, [.ref (am 0), .int 0, .int 0, .ref (am 1), .ref (am 2), .ref (am 3), .ref (am 4), .ref (am 5), .int 0, .int 0, .int 0, .int 6, .int 0, .int 0, .int 0, .ref (am 6), .int 0, .ref (am 7), .int 0, .ref (am 8), .ref (am 9), .int (-1), .int 0, .int 0, .int (-1), .int 0, .ref (am 10), .int 0, .ref (am 11), .ref (am 12), .ref (am 13), .ref (am 14), .long 0, .ref (am 15), .ref (am 16), .ref (am 17), .ref (am 18)])), ((am 2), .inl (G.2.2 0, 7, .inl (fun _ => 0)))]) hx hb hK hP hD hS 1 rfl (fun _ => 0) (by unfold vp_in; decide +kernel) (up_z _ _) rfl dX12_readsAll_9 (fun H locs hP hD hS => ?_)
  refine lv_aload_n hx hb dX12_readsAll_10 rfl (lv_at hl 0 rfl) ?_
  refine lv_iconst (v := 0) hx hb dX12_readsAll_11 (by decide) ?_
  refine gq_put (ws' := [(h0, .inr (12, [.ref (am 0), .int 0, .int 0, .ref (am 1), .ref (am 2), .ref (am 3), .ref (am 4), .ref (am 5), .int 0, .int 0, .int 0, .int 6, .int 0, .int 0, .int 0, .ref (am 6), .int 0, .ref (am 7), .int 0, .ref (am 8), .ref (am 9), .int (-1), .int 0, .int 0, .int (-1), .int 0, .ref (am 10), .int 0, .ref (am 11), .ref (am 12), .ref (am 13), .ref (am 14), .long 0, .ref (am 15), .ref (am 16), .ref (am 17), .ref (am 18)])), ((am 2), .inl (G.2.2 0, 7, .inl (fun _ => 0)))]) hx hb ht hown hK hP hD hS i_X12 tyX12 tyX12_ok nmX12 0 rfl rfl 14 (by decide) wd_1266 rfl rfl rfl rfl (Nat.le_of_ble_eq_true rfl) rfl dX12_readsAll_12 (fun H locs hP hD hS => ?_)
  refine lv_aload_n hx hb dX12_readsAll_15 rfl (lv_at hl 0 rfl) ?_
  refine lv_iconst (v := 0) hx hb dX12_readsAll_16 (by decide) ?_
  refine gq_put (ws' := [(h0, .inr (12, [.ref (am 0), .int 0, .int 0, .ref (am 1), .ref (am 2), .ref (am 3), .ref (am 4), .ref (am 5), .int 0, .int 0, .int 0, .int 6, .int 0, .int 0, .int 0, .ref (am 6), .int 0, .ref (am 7), .int 0, .ref (am 8), .ref (am 9), .int (-1), .int 0, .int 0, .int (-1), .int 0, .ref (am 10), .int 0, .ref (am 11), .ref (am 12), .ref (am 13), .ref (am 14), .long 0, .ref (am 15), .ref (am 16), .ref (am 17), .ref (am 18)])), ((am 2), .inl (G.2.2 0, 7, .inl (fun _ => 0)))]) hx hb ht hown hK hP hD hS i_X12 tyX12 tyX12_ok nmX12 0 rfl rfl 8 (by decide) wd_1260 rfl rfl rfl rfl (Nat.le_of_ble_eq_true rfl) rfl dX12_readsAll_17 (fun H locs hP hD hS => ?_)
  refine lv_aload_n hx hb dX12_readsAll_20 rfl (lv_at hl 0 rfl) ?_
  refine lv_iconst (v := 0) hx hb dX12_readsAll_21 (by decide) ?_
  refine gq_put (ws' := [(h0, .inr (12, [.ref (am 0), .int 0, .int 0, .ref (am 1), .ref (am 2), .ref (am 3), .ref (am 4), .ref (am 5), .int 0, .int 0, .int 0, .int 6, .int 0, .int 0, .int 0, .ref (am 6), .int 0, .ref (am 7), .int 0, .ref (am 8), .ref (am 9), .int (-1), .int 0, .int 0, .int (-1), .int 0, .ref (am 10), .int 0, .ref (am 11), .ref (am 12), .ref (am 13), .ref (am 14), .long 0, .ref (am 15), .ref (am 16), .ref (am 17), .ref (am 18)])), ((am 2), .inl (G.2.2 0, 7, .inl (fun _ => 0)))]) hx hb ht hown hK hP hD hS i_X12 tyX12 tyX12_ok nmX12 0 rfl rfl 9 (by decide) wd_1261 rfl rfl rfl rfl (Nat.le_of_ble_eq_true rfl) rfl dX12_readsAll_22 (fun H locs hP hD hS => ?_)
  refine lv_aload_n hx hb dX12_readsAll_25 rfl (lv_at hl 0 rfl) ?_
  refine lv_iconst (v := 0) hx hb dX12_readsAll_26 (by decide) ?_
  refine gq_put (ws' := [(h0, .inr (12, [.ref (am 0), .int 0, .int 0, .ref (am 1), .ref (am 2), .ref (am 3), .ref (am 4), .ref (am 5), .int 0, .int 0, .int 0, .int 6, .int 0, .int 0, .int 0, .ref (am 6), .int 0, .ref (am 7), .int 0, .ref (am 8), .ref (am 9), .int (-1), .int 0, .int 0, .int (-1), .int 0, .ref (am 10), .int 0, .ref (am 11), .ref (am 12), .ref (am 13), .ref (am 14), .long 0, .ref (am 15), .ref (am 16), .ref (am 17), .ref (am 18)])), ((am 2), .inl (G.2.2 0, 7, .inl (fun _ => 0)))]) hx hb ht hown hK hP hD hS i_X12 tyX12 tyX12_ok nmX12 0 rfl rfl 12 (by decide) wd_1264 rfl rfl rfl rfl (Nat.le_of_ble_eq_true rfl) rfl dX12_readsAll_27 (fun H locs hP hD hS => ?_)
  refine lv_aload_n hx hb dX12_readsAll_30 rfl (lv_at hl 0 rfl) ?_
  have hPc := hP.sub (ws' := [(h0, .inr (12, [.ref (am 0), .int 0, .int 0, .ref (am 1), .ref (am 2), .ref (am 3), .ref (am 4), .ref (am 5), .int 0, .int 0, .int 0, .int 6, .int 0, .int 0, .int 0, .ref (am 6), .int 0, .ref (am 7), .int 0, .ref (am 8), .ref (am 9), .int (-1), .int 0, .int 0, .int (-1), .int 0, .ref (am 10), .int 0, .ref (am 11), .ref (am 12), .ref (am 13), .ref (am 14), .long 0, .ref (am 15), .ref (am 16), .ref (am 17), .ref (am 18)]))]) [0] rfl
  have hDc := hD.sub (ws' := [(h0, .inr (12, [.ref (am 0), .int 0, .int 0, .ref (am 1), .ref (am 2), .ref (am 3), .ref (am 4), .ref (am 5), .int 0, .int 0, .int 0, .int 6, .int 0, .int 0, .int 0, .ref (am 6), .int 0, .ref (am 7), .int 0, .ref (am 8), .ref (am 9), .int (-1), .int 0, .int 0, .int (-1), .int 0, .ref (am 10), .int 0, .ref (am 11), .ref (am 12), .ref (am 13), .ref (am 14), .long 0, .ref (am 15), .ref (am 16), .ref (am 17), .ref (am 18)]))]) [0] (by decide) rfl
  refine gq_callI (wr := [((am 2), .inl (G.2.2 0, 7, .inl (fun _ => 0)))]) (va_runV (As := []) (rest := []) ⟨hx, hb, hml, hown, ht⟩ (c_M_clauseHere_6 l G H.size h0 am) (cwV 0 ht (ts_gV wd_1385 wd_1387 wd_40 wd_134 wd_1388) rfl rfl rfl (by decide +kernel) ⟨Nat.le_of_ble_eq_true rfl, Nat.le_of_ble_eq_true rfl⟩) (gc_preV (ci := 12) (q0 := 0) hK hPc hDc rfl rfl) rfl rfl hl.1 rfl (lv_room (Nat.le_of_ble_eq_true rfl)) dX12_readsAll_31 ⟨Nat.le_of_ble_eq_true rfl, Nat.le_of_ble_eq_true rfl⟩) hP hD hS hA [0] [1] rfl rfl (by decide) (by decide) (fun r u H locs hw hP hD hS => ?_)
  have hw : r = 0 := hw
  subst hw
  have hP : va_P (gg_D G) classes [((am 2), .inl (G.2.2 0, 7, .inl (fun _ => 0))), (h0, .inr (12, [.ref (am 0), .int 0, .int 0, .ref (am 1), .ref (am 2), .ref (am 3), .ref (am 4), .ref (am 5), .int 0, .int 1, .int 0, .int 6, .int 0, .int 0, .int 0, .ref (am 6), .int 0, .ref (am 7), .int 0, .ref (am 8), .ref (am 9), .int (-1), .int 0, .int 0, .int (-1), .int 0, .ref (am 10), .int 0, .ref (am 11), .ref (am 12), .ref (am 13), .ref (am 14), .long 0, .ref (am 15), .ref (am 16), .ref (am 17), .ref (am 18)]))] H := hP
  have hD : va_D A [((am 2), .inl (G.2.2 0, 7, .inl (fun _ => 0))), (h0, .inr (12, [.ref (am 0), .int 0, .int 0, .ref (am 1), .ref (am 2), .ref (am 3), .ref (am 4), .ref (am 5), .int 0, .int 1, .int 0, .int 6, .int 0, .int 0, .int 0, .ref (am 6), .int 0, .ref (am 7), .int 0, .ref (am 8), .ref (am 9), .int (-1), .int 0, .int 0, .int (-1), .int 0, .ref (am 10), .int 0, .ref (am 11), .ref (am 12), .ref (am 13), .ref (am 14), .long 0, .ref (am 15), .ref (am 16), .ref (am 17), .ref (am 18)]))] := hD
  refine lv_istore_n (lv' := [(1, .int 0), (0, .ref h0)]) hx hb dX12_readsAll_34 rfl hl (by decide) rfl (fun ls hl => ?_)
  refine lv_iload_n hx hb dX12_readsAll_35 rfl (lv_at hl 0 rfl) ?_
  refine lv_if_eq (tgt := 66) hx hb dX12_readsAll_36 (by decide) (fun _ => ?_) (fun c0 => absurd (by decide +kernel) c0)
  refine lv_iload_n hx hb dX12_readsAll_66 rfl (lv_at hl 0 rfl) ?_
  refine lv_if_eq (tgt := 88) hx hb dX12_readsAll_67 (by decide) (fun _ => ?_) (fun c0 => absurd (by decide +kernel) c0)
  refine lv_aload_n hx hb dX12_readsAll_88 rfl (lv_at hl 1 rfl) ?_
  refine lv_iconst (v := 0) hx hb dX12_readsAll_89 (by decide) ?_
  refine gq_put (ws' := [((am 2), .inl (G.2.2 0, 7, .inl (fun _ => 0))), (h0, .inr (12, [.ref (am 0), .int 0, .int 0, .ref (am 1), .ref (am 2), .ref (am 3), .ref (am 4), .ref (am 5), .int 0, .int 1, .int 0, .int 6, .int 0, .int 0, .int 0, .ref (am 6), .int 0, .ref (am 7), .int 0, .ref (am 8), .ref (am 9), .int (-1), .int 0, .int 0, .int (-1), .int 0, .ref (am 10), .int 0, .ref (am 11), .ref (am 12), .ref (am 13), .ref (am 14), .long 0, .ref (am 15), .ref (am 16), .ref (am 17), .ref (am 18)]))]) hx hb ht hown hK hP hD hS i_X12 tyX12 tyX12_ok nmX12 1 rfl rfl 1 (by decide) wd_1253 rfl rfl rfl rfl (Nat.le_of_ble_eq_true rfl) rfl dX12_readsAll_90 (fun H locs hP hD hS => ?_)
  refine lv_aload_n hx hb dX12_readsAll_93 rfl (lv_at hl 1 rfl) ?_
  refine gq_get hx hb ht hown hK hP i_X12 1 rfl rfl 9 (by decide) wd_1261 rfl rfl dX12_readsAll_94 ?_
  refine lv_if_ne (tgt := 104) hx hb dX12_readsAll_97 (by decide) (fun _ => ?_) (fun c0 => absurd c0 (by decide +kernel))
  refine lv_iconst (v := 0) hx hb dX12_readsAll_104 (by decide) ?_
  have hP9 := hP.sub (ws' := [(h0, .inr (12, [.ref (am 0), .int 0, .int 0, .ref (am 1), .ref (am 2), .ref (am 3), .ref (am 4), .ref (am 5), .int 0, .int 1, .int 0, .int 6, .int 0, .int 0, .int 0, .ref (am 6), .int 0, .ref (am 7), .int 0, .ref (am 8), .ref (am 9), .int (-1), .int 0, .int 0, .int (-1), .int 0, .ref (am 10), .int 0, .ref (am 11), .ref (am 12), .ref (am 13), .ref (am 14), .long 0, .ref (am 15), .ref (am 16), .ref (am 17), .ref (am 18)])), ((am 2), .inl (G.2.2 0, 7, .inl (fun _ => 0)))]) [1, 0] rfl
  have hD9 := hD.sub (ws' := [(h0, .inr (12, [.ref (am 0), .int 0, .int 0, .ref (am 1), .ref (am 2), .ref (am 3), .ref (am 4), .ref (am 5), .int 0, .int 1, .int 0, .int 6, .int 0, .int 0, .int 0, .ref (am 6), .int 0, .ref (am 7), .int 0, .ref (am 8), .ref (am 9), .int (-1), .int 0, .int 0, .int (-1), .int 0, .ref (am 10), .int 0, .ref (am 11), .ref (am 12), .ref (am 13), .ref (am 14), .long 0, .ref (am 15), .ref (am 16), .ref (am 17), .ref (am 18)])), ((am 2), .inl (G.2.2 0, 7, .inl (fun _ => 0)))]) [1, 0] (by decide) rfl
  exact W.zret (v := 0) hx hb hr (by decide +kernel) (gq_endI () rfl hP9 hD9 hS) hS.2.2 dX12_readsAll_105

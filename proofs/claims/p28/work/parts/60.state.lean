theorem wd_803 : (Jvm.Cond.code ({ cls := "SilentSale", name := "isIn", desc := "(II)Z" } : Jvm.MethodName) prog_1_method_46_code (2 : Nat) (Option.some Jvm.ClassFile.FieldType.boolean)) ∈ tb_L := tb_in (i := 803) (by decide +kernel) (by decide +kernel)
theorem dX11_isIn_0 : decode cX11_isIn 0 = .ok (.iload_n 1, 1) := by decide +kernel
theorem dX11_isIn_1 : decode cX11_isIn 1 = .ok (.iload_n 0, 1) := by decide +kernel
theorem dX11_isIn_2 : decode cX11_isIn 2 = .ok (.ishr, 1) := by decide +kernel
theorem dX11_isIn_3 : decode cX11_isIn 3 = .ok (.iconst 1, 1) := by decide +kernel
theorem dX11_isIn_4 : decode cX11_isIn 4 = .ok (.iand, 1) := by decide +kernel
theorem dX11_isIn_5 : decode cX11_isIn 5 = .ok (.ifCond .eq 7, 3) := by decide +kernel
theorem dX11_isIn_8 : decode cX11_isIn 8 = .ok (.iconst 1, 1) := by decide +kernel
theorem dX11_isIn_9 : decode cX11_isIn 9 = .ok (.goto 4, 3) := by decide +kernel
theorem dX11_isIn_12 : decode cX11_isIn 12 = .ok (.iconst 0, 1) := by decide +kernel
theorem dX11_isIn_13 : decode cX11_isIn 13 = .ok (.ireturn, 1) := by decide +kernel
theorem wd_896 : (Jvm.Cond.code ({ cls := "java/lang/Integer", name := "bitCount", desc := "(I)I" } : Jvm.MethodName) prog_15_method_49_code (1 : Nat) (Option.some Jvm.ClassFile.FieldType.int)) ∈ tb_L := tb_in (i := 896) (by decide +kernel) (by decide +kernel)
theorem wd_897 : (Jvm.Cond.constant "java/lang/Integer" (265 : Nat) (1431655765 : Int32)) ∈ tb_L := tb_in (i := 897) (by decide +kernel) (by decide +kernel)
theorem wd_898 : (Jvm.Cond.constant "java/lang/Integer" (266 : Nat) (858993459 : Int32)) ∈ tb_L := tb_in (i := 898) (by decide +kernel) (by decide +kernel)
theorem wd_899 : (Jvm.Cond.constant "java/lang/Integer" (267 : Nat) (252645135 : Int32)) ∈ tb_L := tb_in (i := 899) (by decide +kernel) (by decide +kernel)
theorem dJ6_bitCount_0f7a4_0 : decode cJ6_bitCount_0f7a4 0 = .ok (.iload_n 0, 1) := by decide +kernel
theorem dJ6_bitCount_0f7a4_1 : decode cJ6_bitCount_0f7a4 1 = .ok (.iload_n 0, 1) := by decide +kernel
theorem dJ6_bitCount_0f7a4_2 : decode cJ6_bitCount_0f7a4 2 = .ok (.iconst 1, 1) := by decide +kernel
theorem dJ6_bitCount_0f7a4_3 : decode cJ6_bitCount_0f7a4 3 = .ok (.iushr, 1) := by decide +kernel
theorem dJ6_bitCount_0f7a4_4 : decode cJ6_bitCount_0f7a4 4 = .ok (.ldc_w 265, 3) := by decide +kernel
theorem dJ6_bitCount_0f7a4_7 : decode cJ6_bitCount_0f7a4 7 = .ok (.iand, 1) := by decide +kernel
theorem dJ6_bitCount_0f7a4_8 : decode cJ6_bitCount_0f7a4 8 = .ok (.isub, 1) := by decide +kernel
theorem dJ6_bitCount_0f7a4_9 : decode cJ6_bitCount_0f7a4 9 = .ok (.istore_n 0, 1) := by decide +kernel
theorem dJ6_bitCount_0f7a4_10 : decode cJ6_bitCount_0f7a4 10 = .ok (.iload_n 0, 1) := by decide +kernel
theorem dJ6_bitCount_0f7a4_11 : decode cJ6_bitCount_0f7a4 11 = .ok (.ldc_w 266, 3) := by decide +kernel
theorem dJ6_bitCount_0f7a4_14 : decode cJ6_bitCount_0f7a4 14 = .ok (.iand, 1) := by decide +kernel
theorem dJ6_bitCount_0f7a4_15 : decode cJ6_bitCount_0f7a4 15 = .ok (.iload_n 0, 1) := by decide +kernel
theorem dJ6_bitCount_0f7a4_16 : decode cJ6_bitCount_0f7a4 16 = .ok (.iconst 2, 1) := by decide +kernel
theorem dJ6_bitCount_0f7a4_17 : decode cJ6_bitCount_0f7a4 17 = .ok (.iushr, 1) := by decide +kernel
theorem dJ6_bitCount_0f7a4_18 : decode cJ6_bitCount_0f7a4 18 = .ok (.ldc_w 266, 3) := by decide +kernel
theorem dJ6_bitCount_0f7a4_21 : decode cJ6_bitCount_0f7a4 21 = .ok (.iand, 1) := by decide +kernel
theorem dJ6_bitCount_0f7a4_22 : decode cJ6_bitCount_0f7a4 22 = .ok (.iadd, 1) := by decide +kernel
theorem dJ6_bitCount_0f7a4_23 : decode cJ6_bitCount_0f7a4 23 = .ok (.istore_n 0, 1) := by decide +kernel
theorem dJ6_bitCount_0f7a4_24 : decode cJ6_bitCount_0f7a4 24 = .ok (.iload_n 0, 1) := by decide +kernel
theorem dJ6_bitCount_0f7a4_25 : decode cJ6_bitCount_0f7a4 25 = .ok (.iload_n 0, 1) := by decide +kernel
theorem dJ6_bitCount_0f7a4_26 : decode cJ6_bitCount_0f7a4 26 = .ok (.iconst 4, 1) := by decide +kernel
theorem dJ6_bitCount_0f7a4_27 : decode cJ6_bitCount_0f7a4 27 = .ok (.iushr, 1) := by decide +kernel
theorem dJ6_bitCount_0f7a4_28 : decode cJ6_bitCount_0f7a4 28 = .ok (.iadd, 1) := by decide +kernel
theorem dJ6_bitCount_0f7a4_29 : decode cJ6_bitCount_0f7a4 29 = .ok (.ldc_w 267, 3) := by decide +kernel
theorem dJ6_bitCount_0f7a4_32 : decode cJ6_bitCount_0f7a4 32 = .ok (.iand, 1) := by decide +kernel
theorem dJ6_bitCount_0f7a4_33 : decode cJ6_bitCount_0f7a4 33 = .ok (.istore_n 0, 1) := by decide +kernel
theorem dJ6_bitCount_0f7a4_34 : decode cJ6_bitCount_0f7a4 34 = .ok (.iload_n 0, 1) := by decide +kernel
theorem dJ6_bitCount_0f7a4_35 : decode cJ6_bitCount_0f7a4 35 = .ok (.iload_n 0, 1) := by decide +kernel
theorem dJ6_bitCount_0f7a4_36 : decode cJ6_bitCount_0f7a4 36 = .ok (.bipush 8, 2) := by decide +kernel
theorem dJ6_bitCount_0f7a4_38 : decode cJ6_bitCount_0f7a4 38 = .ok (.iushr, 1) := by decide +kernel
theorem dJ6_bitCount_0f7a4_39 : decode cJ6_bitCount_0f7a4 39 = .ok (.iadd, 1) := by decide +kernel
theorem dJ6_bitCount_0f7a4_40 : decode cJ6_bitCount_0f7a4 40 = .ok (.istore_n 0, 1) := by decide +kernel
theorem dJ6_bitCount_0f7a4_41 : decode cJ6_bitCount_0f7a4 41 = .ok (.iload_n 0, 1) := by decide +kernel
theorem dJ6_bitCount_0f7a4_42 : decode cJ6_bitCount_0f7a4 42 = .ok (.iload_n 0, 1) := by decide +kernel
theorem dJ6_bitCount_0f7a4_43 : decode cJ6_bitCount_0f7a4 43 = .ok (.bipush 16, 2) := by decide +kernel
theorem dJ6_bitCount_0f7a4_45 : decode cJ6_bitCount_0f7a4 45 = .ok (.iushr, 1) := by decide +kernel
theorem dJ6_bitCount_0f7a4_46 : decode cJ6_bitCount_0f7a4 46 = .ok (.iadd, 1) := by decide +kernel
theorem dJ6_bitCount_0f7a4_47 : decode cJ6_bitCount_0f7a4 47 = .ok (.istore_n 0, 1) := by decide +kernel
theorem dJ6_bitCount_0f7a4_48 : decode cJ6_bitCount_0f7a4 48 = .ok (.iload_n 0, 1) := by decide +kernel
theorem dJ6_bitCount_0f7a4_49 : decode cJ6_bitCount_0f7a4 49 = .ok (.bipush 63, 2) := by decide +kernel
theorem dJ6_bitCount_0f7a4_51 : decode cJ6_bitCount_0f7a4 51 = .ok (.iand, 1) := by decide +kernel
theorem dJ6_bitCount_0f7a4_52 : decode cJ6_bitCount_0f7a4 52 = .ok (.ireturn, 1) := by decide +kernel
theorem wd_929 : (Jvm.Cond.code ({ cls := "SilentSale", name := "lowestOf", desc := "(I)I" } : Jvm.MethodName) prog_1_method_47_code (2 : Nat) (Option.some Jvm.ClassFile.FieldType.int)) ∈ tb_L := tb_in (i := 929) (by decide +kernel) (by decide +kernel)
theorem dX11_lowestOf_0 : decode cX11_lowestOf 0 = .ok (.iconst 0, 1) := by decide +kernel
theorem dX11_lowestOf_1 : decode cX11_lowestOf 1 = .ok (.istore_n 1, 1) := by decide +kernel
theorem dX11_lowestOf_2 : decode cX11_lowestOf 2 = .ok (.iload_n 1, 1) := by decide +kernel
theorem dX11_lowestOf_3 : decode cX11_lowestOf 3 = .ok (.bipush 31, 2) := by decide +kernel
theorem dX11_lowestOf_5 : decode cX11_lowestOf 5 = .ok (.if_icmp .ge 19, 3) := by decide +kernel
theorem dX11_lowestOf_8 : decode cX11_lowestOf 8 = .ok (.iload_n 0, 1) := by decide +kernel
theorem dX11_lowestOf_9 : decode cX11_lowestOf 9 = .ok (.iload_n 1, 1) := by decide +kernel
theorem dX11_lowestOf_10 : decode cX11_lowestOf 10 = .ok (.ishr, 1) := by decide +kernel
theorem dX11_lowestOf_11 : decode cX11_lowestOf 11 = .ok (.iconst 1, 1) := by decide +kernel
theorem dX11_lowestOf_12 : decode cX11_lowestOf 12 = .ok (.iand, 1) := by decide +kernel
theorem dX11_lowestOf_13 : decode cX11_lowestOf 13 = .ok (.ifCond .eq 5, 3) := by decide +kernel
theorem dX11_lowestOf_16 : decode cX11_lowestOf 16 = .ok (.iload_n 1, 1) := by decide +kernel
theorem dX11_lowestOf_17 : decode cX11_lowestOf 17 = .ok (.ireturn, 1) := by decide +kernel
theorem dX11_lowestOf_18 : decode cX11_lowestOf 18 = .ok (.iinc 1 1, 3) := by decide +kernel
theorem dX11_lowestOf_21 : decode cX11_lowestOf 21 = .ok (.goto (-19), 3) := by decide +kernel
theorem dX11_lowestOf_24 : decode cX11_lowestOf 24 = .ok (.iconst 0, 1) := by decide +kernel
theorem dX11_lowestOf_25 : decode cX11_lowestOf 25 = .ok (.ireturn, 1) := by decide +kernel
theorem wd_261 : (Jvm.Cond.fieldLink "SilentSale$State" (36 : Nat) "SilentSale$State" "silentAt" "[I") ∈ tb_L := tb_in (i := 261) (by decide +kernel) (by decide +kernel)
theorem wd_800 : (Jvm.Cond.code ({ cls := "SilentSale$State", name := "silentOnes", desc := "()I" } : Jvm.MethodName) prog_9_method_5_code (3 : Nat) (Option.some Jvm.ClassFile.FieldType.int)) ∈ tb_L := tb_in (i := 800) (by decide +kernel) (by decide +kernel)
theorem dX7_silentOnes_0 : decode cX7_silentOnes 0 = .ok (.iconst 0, 1) := by decide +kernel
theorem dX7_silentOnes_1 : decode cX7_silentOnes 1 = .ok (.istore_n 1, 1) := by decide +kernel
theorem dX7_silentOnes_2 : decode cX7_silentOnes 2 = .ok (.iconst 0, 1) := by decide +kernel
theorem dX7_silentOnes_3 : decode cX7_silentOnes 3 = .ok (.istore_n 2, 1) := by decide +kernel
theorem dX7_silentOnes_4 : decode cX7_silentOnes 4 = .ok (.iload_n 2, 1) := by decide +kernel
theorem dX7_silentOnes_5 : decode cX7_silentOnes 5 = .ok (.iconst 3, 1) := by decide +kernel
theorem dX7_silentOnes_6 : decode cX7_silentOnes 6 = .ok (.if_icmp .ge 18, 3) := by decide +kernel
theorem dX7_silentOnes_9 : decode cX7_silentOnes 9 = .ok (.iload_n 1, 1) := by decide +kernel
theorem dX7_silentOnes_10 : decode cX7_silentOnes 10 = .ok (.aload_n 0, 1) := by decide +kernel
theorem dX7_silentOnes_11 : decode cX7_silentOnes 11 = .ok (.getfield 36, 3) := by decide +kernel
theorem dX7_silentOnes_14 : decode cX7_silentOnes 14 = .ok (.iload_n 2, 1) := by decide +kernel
theorem dX7_silentOnes_15 : decode cX7_silentOnes 15 = .ok (.iaload, 1) := by decide +kernel
theorem dX7_silentOnes_16 : decode cX7_silentOnes 16 = .ok (.ior, 1) := by decide +kernel
theorem dX7_silentOnes_17 : decode cX7_silentOnes 17 = .ok (.istore_n 1, 1) := by decide +kernel
theorem dX7_silentOnes_18 : decode cX7_silentOnes 18 = .ok (.iinc 2 1, 3) := by decide +kernel
theorem dX7_silentOnes_21 : decode cX7_silentOnes 21 = .ok (.goto (-17), 3) := by decide +kernel
theorem dX7_silentOnes_24 : decode cX7_silentOnes 24 = .ok (.iload_n 1, 1) := by decide +kernel
theorem dX7_silentOnes_25 : decode cX7_silentOnes 25 = .ok (.ireturn, 1) := by decide +kernel
theorem wd_239 : (Jvm.Cond.fieldLink "SilentSale$State" (18 : Nat) "SilentSale$State" "seat" "[I") ∈ tb_L := tb_in (i := 239) (by decide +kernel) (by decide +kernel)
theorem wd_827 : (Jvm.Cond.code ({ cls := "SilentSale$State", name := "sittersOf", desc := "(I)I" } : Jvm.MethodName) prog_9_method_6_code (4 : Nat) (Option.some Jvm.ClassFile.FieldType.int)) ∈ tb_L := tb_in (i := 827) (by decide +kernel) (by decide +kernel)
theorem dX7_sittersOf_0 : decode cX7_sittersOf 0 = .ok (.iconst 0, 1) := by decide +kernel
theorem dX7_sittersOf_1 : decode cX7_sittersOf 1 = .ok (.istore_n 2, 1) := by decide +kernel
theorem dX7_sittersOf_2 : decode cX7_sittersOf 2 = .ok (.iconst 0, 1) := by decide +kernel
theorem dX7_sittersOf_3 : decode cX7_sittersOf 3 = .ok (.istore_n 3, 1) := by decide +kernel
theorem dX7_sittersOf_4 : decode cX7_sittersOf 4 = .ok (.iload_n 3, 1) := by decide +kernel
theorem dX7_sittersOf_5 : decode cX7_sittersOf 5 = .ok (.iconst 5, 1) := by decide +kernel
theorem dX7_sittersOf_6 : decode cX7_sittersOf 6 = .ok (.if_icmp .ge 29, 3) := by decide +kernel
theorem dX7_sittersOf_9 : decode cX7_sittersOf 9 = .ok (.iload_n 2, 1) := by decide +kernel
theorem dX7_sittersOf_10 : decode cX7_sittersOf 10 = .ok (.aload_n 0, 1) := by decide +kernel
theorem dX7_sittersOf_11 : decode cX7_sittersOf 11 = .ok (.getfield 18, 3) := by decide +kernel
theorem dX7_sittersOf_14 : decode cX7_sittersOf 14 = .ok (.iload_n 3, 1) := by decide +kernel
theorem dX7_sittersOf_15 : decode cX7_sittersOf 15 = .ok (.iaload, 1) := by decide +kernel
theorem dX7_sittersOf_16 : decode cX7_sittersOf 16 = .ok (.iload_n 1, 1) := by decide +kernel
theorem dX7_sittersOf_17 : decode cX7_sittersOf 17 = .ok (.if_icmp .ne 9, 3) := by decide +kernel
theorem dX7_sittersOf_20 : decode cX7_sittersOf 20 = .ok (.iconst 1, 1) := by decide +kernel
theorem dX7_sittersOf_21 : decode cX7_sittersOf 21 = .ok (.iload_n 3, 1) := by decide +kernel
theorem dX7_sittersOf_22 : decode cX7_sittersOf 22 = .ok (.ishl, 1) := by decide +kernel
theorem dX7_sittersOf_23 : decode cX7_sittersOf 23 = .ok (.goto 4, 3) := by decide +kernel
theorem dX7_sittersOf_26 : decode cX7_sittersOf 26 = .ok (.iconst 0, 1) := by decide +kernel
theorem dX7_sittersOf_27 : decode cX7_sittersOf 27 = .ok (.ior, 1) := by decide +kernel
theorem dX7_sittersOf_28 : decode cX7_sittersOf 28 = .ok (.istore_n 2, 1) := by decide +kernel
theorem dX7_sittersOf_29 : decode cX7_sittersOf 29 = .ok (.iinc 3 1, 3) := by decide +kernel
theorem dX7_sittersOf_32 : decode cX7_sittersOf 32 = .ok (.goto (-28), 3) := by decide +kernel
theorem dX7_sittersOf_35 : decode cX7_sittersOf 35 = .ok (.iload_n 2, 1) := by decide +kernel
theorem dX7_sittersOf_36 : decode cX7_sittersOf 36 = .ok (.ireturn, 1) := by decide +kernel
theorem wd_246 : (Jvm.Cond.fieldLink "SilentSale$State" (24 : Nat) "SilentSale$State" "stage" "[I") ∈ tb_L := tb_in (i := 246) (by decide +kernel) (by decide +kernel)
theorem wd_849 : (Jvm.Cond.code ({ cls := "SilentSale$State", name := "lotsAt", desc := "(I)I" } : Jvm.MethodName) prog_9_method_7_code (4 : Nat) (Option.some Jvm.ClassFile.FieldType.int)) ∈ tb_L := tb_in (i := 849) (by decide +kernel) (by decide +kernel)
theorem dX7_lotsAt_0 : decode cX7_lotsAt 0 = .ok (.iconst 0, 1) := by decide +kernel
theorem dX7_lotsAt_1 : decode cX7_lotsAt 1 = .ok (.istore_n 2, 1) := by decide +kernel
theorem dX7_lotsAt_2 : decode cX7_lotsAt 2 = .ok (.iconst 0, 1) := by decide +kernel
theorem dX7_lotsAt_3 : decode cX7_lotsAt 3 = .ok (.istore_n 3, 1) := by decide +kernel
theorem dX7_lotsAt_4 : decode cX7_lotsAt 4 = .ok (.iload_n 3, 1) := by decide +kernel
theorem dX7_lotsAt_5 : decode cX7_lotsAt 5 = .ok (.iconst 3, 1) := by decide +kernel
theorem dX7_lotsAt_6 : decode cX7_lotsAt 6 = .ok (.if_icmp .ge 29, 3) := by decide +kernel
theorem dX7_lotsAt_9 : decode cX7_lotsAt 9 = .ok (.iload_n 2, 1) := by decide +kernel
theorem dX7_lotsAt_10 : decode cX7_lotsAt 10 = .ok (.aload_n 0, 1) := by decide +kernel
theorem dX7_lotsAt_11 : decode cX7_lotsAt 11 = .ok (.getfield 24, 3) := by decide +kernel
theorem dX7_lotsAt_14 : decode cX7_lotsAt 14 = .ok (.iload_n 3, 1) := by decide +kernel
theorem dX7_lotsAt_15 : decode cX7_lotsAt 15 = .ok (.iaload, 1) := by decide +kernel
theorem dX7_lotsAt_16 : decode cX7_lotsAt 16 = .ok (.iload_n 1, 1) := by decide +kernel
theorem dX7_lotsAt_17 : decode cX7_lotsAt 17 = .ok (.if_icmp .ne 9, 3) := by decide +kernel
theorem dX7_lotsAt_20 : decode cX7_lotsAt 20 = .ok (.iconst 1, 1) := by decide +kernel
theorem dX7_lotsAt_21 : decode cX7_lotsAt 21 = .ok (.iload_n 3, 1) := by decide +kernel
theorem dX7_lotsAt_22 : decode cX7_lotsAt 22 = .ok (.ishl, 1) := by decide +kernel
theorem dX7_lotsAt_23 : decode cX7_lotsAt 23 = .ok (.goto 4, 3) := by decide +kernel
theorem dX7_lotsAt_26 : decode cX7_lotsAt 26 = .ok (.iconst 0, 1) := by decide +kernel
theorem dX7_lotsAt_27 : decode cX7_lotsAt 27 = .ok (.ior, 1) := by decide +kernel
theorem dX7_lotsAt_28 : decode cX7_lotsAt 28 = .ok (.istore_n 2, 1) := by decide +kernel
theorem dX7_lotsAt_29 : decode cX7_lotsAt 29 = .ok (.iinc 3 1, 3) := by decide +kernel
theorem dX7_lotsAt_32 : decode cX7_lotsAt 32 = .ok (.goto (-28), 3) := by decide +kernel
theorem dX7_lotsAt_35 : decode cX7_lotsAt 35 = .ok (.iload_n 2, 1) := by decide +kernel
theorem dX7_lotsAt_36 : decode cX7_lotsAt 36 = .ok (.ireturn, 1) := by decide +kernel
theorem wd_254 : (Jvm.Cond.fieldLink "SilentSale$State" (30 : Nat) "SilentSale$State" "owner" "[I") ∈ tb_L := tb_in (i := 254) (by decide +kernel) (by decide +kernel)
theorem wd_807 : (Jvm.Cond.code ({ cls := "SilentSale$State", name := "lotsOf", desc := "(I)I" } : Jvm.MethodName) prog_9_method_8_code (4 : Nat) (Option.some Jvm.ClassFile.FieldType.int)) ∈ tb_L := tb_in (i := 807) (by decide +kernel) (by decide +kernel)
theorem dX7_lotsOf_0 : decode cX7_lotsOf 0 = .ok (.iconst 0, 1) := by decide +kernel
theorem dX7_lotsOf_1 : decode cX7_lotsOf 1 = .ok (.istore_n 2, 1) := by decide +kernel
theorem dX7_lotsOf_2 : decode cX7_lotsOf 2 = .ok (.iconst 0, 1) := by decide +kernel
theorem dX7_lotsOf_3 : decode cX7_lotsOf 3 = .ok (.istore_n 3, 1) := by decide +kernel
theorem dX7_lotsOf_4 : decode cX7_lotsOf 4 = .ok (.iload_n 3, 1) := by decide +kernel
theorem dX7_lotsOf_5 : decode cX7_lotsOf 5 = .ok (.iconst 3, 1) := by decide +kernel
theorem dX7_lotsOf_6 : decode cX7_lotsOf 6 = .ok (.if_icmp .ge 29, 3) := by decide +kernel
theorem dX7_lotsOf_9 : decode cX7_lotsOf 9 = .ok (.iload_n 2, 1) := by decide +kernel
theorem dX7_lotsOf_10 : decode cX7_lotsOf 10 = .ok (.aload_n 0, 1) := by decide +kernel
theorem dX7_lotsOf_11 : decode cX7_lotsOf 11 = .ok (.getfield 30, 3) := by decide +kernel
theorem dX7_lotsOf_14 : decode cX7_lotsOf 14 = .ok (.iload_n 3, 1) := by decide +kernel
theorem dX7_lotsOf_15 : decode cX7_lotsOf 15 = .ok (.iaload, 1) := by decide +kernel
theorem dX7_lotsOf_16 : decode cX7_lotsOf 16 = .ok (.iload_n 1, 1) := by decide +kernel
theorem dX7_lotsOf_17 : decode cX7_lotsOf 17 = .ok (.if_icmp .ne 9, 3) := by decide +kernel
theorem dX7_lotsOf_20 : decode cX7_lotsOf 20 = .ok (.iconst 1, 1) := by decide +kernel
theorem dX7_lotsOf_21 : decode cX7_lotsOf 21 = .ok (.iload_n 3, 1) := by decide +kernel
theorem dX7_lotsOf_22 : decode cX7_lotsOf 22 = .ok (.ishl, 1) := by decide +kernel
theorem dX7_lotsOf_23 : decode cX7_lotsOf 23 = .ok (.goto 4, 3) := by decide +kernel
theorem dX7_lotsOf_26 : decode cX7_lotsOf 26 = .ok (.iconst 0, 1) := by decide +kernel
theorem dX7_lotsOf_27 : decode cX7_lotsOf 27 = .ok (.ior, 1) := by decide +kernel
theorem dX7_lotsOf_28 : decode cX7_lotsOf 28 = .ok (.istore_n 2, 1) := by decide +kernel
theorem dX7_lotsOf_29 : decode cX7_lotsOf 29 = .ok (.iinc 3 1, 3) := by decide +kernel
theorem dX7_lotsOf_32 : decode cX7_lotsOf 32 = .ok (.goto (-28), 3) := by decide +kernel
theorem dX7_lotsOf_35 : decode cX7_lotsOf 35 = .ok (.iload_n 2, 1) := by decide +kernel
theorem dX7_lotsOf_36 : decode cX7_lotsOf 36 = .ok (.ireturn, 1) := by decide +kernel
theorem wd_1222 : (Jvm.Cond.code ({ cls := "SilentSale$State", name := "lotsHad", desc := "()I" } : Jvm.MethodName) prog_9_method_9_code (3 : Nat) (Option.some Jvm.ClassFile.FieldType.int)) ∈ tb_L := tb_in (i := 1222) (by decide +kernel) (by decide +kernel)
theorem dX7_lotsHad_0 : decode cX7_lotsHad 0 = .ok (.iconst 0, 1) := by decide +kernel
theorem dX7_lotsHad_1 : decode cX7_lotsHad 1 = .ok (.istore_n 1, 1) := by decide +kernel
theorem dX7_lotsHad_2 : decode cX7_lotsHad 2 = .ok (.iconst 0, 1) := by decide +kernel
theorem dX7_lotsHad_3 : decode cX7_lotsHad 3 = .ok (.istore_n 2, 1) := by decide +kernel
theorem dX7_lotsHad_4 : decode cX7_lotsHad 4 = .ok (.iload_n 2, 1) := by decide +kernel
theorem dX7_lotsHad_5 : decode cX7_lotsHad 5 = .ok (.iconst 3, 1) := by decide +kernel
theorem dX7_lotsHad_6 : decode cX7_lotsHad 6 = .ok (.if_icmp .ge 27, 3) := by decide +kernel
theorem dX7_lotsHad_9 : decode cX7_lotsHad 9 = .ok (.iload_n 1, 1) := by decide +kernel
theorem dX7_lotsHad_10 : decode cX7_lotsHad 10 = .ok (.aload_n 0, 1) := by decide +kernel
theorem dX7_lotsHad_11 : decode cX7_lotsHad 11 = .ok (.getfield 30, 3) := by decide +kernel
theorem dX7_lotsHad_14 : decode cX7_lotsHad 14 = .ok (.iload_n 2, 1) := by decide +kernel
theorem dX7_lotsHad_15 : decode cX7_lotsHad 15 = .ok (.iaload, 1) := by decide +kernel
theorem dX7_lotsHad_16 : decode cX7_lotsHad 16 = .ok (.iconst (-1), 1) := by decide +kernel
theorem dX7_lotsHad_17 : decode cX7_lotsHad 17 = .ok (.if_icmp .eq 7, 3) := by decide +kernel
theorem dX7_lotsHad_20 : decode cX7_lotsHad 20 = .ok (.iconst 1, 1) := by decide +kernel
theorem dX7_lotsHad_21 : decode cX7_lotsHad 21 = .ok (.goto 4, 3) := by decide +kernel
theorem dX7_lotsHad_24 : decode cX7_lotsHad 24 = .ok (.iconst 0, 1) := by decide +kernel
theorem dX7_lotsHad_25 : decode cX7_lotsHad 25 = .ok (.iadd, 1) := by decide +kernel
theorem dX7_lotsHad_26 : decode cX7_lotsHad 26 = .ok (.istore_n 1, 1) := by decide +kernel
theorem dX7_lotsHad_27 : decode cX7_lotsHad 27 = .ok (.iinc 2 1, 3) := by decide +kernel
theorem dX7_lotsHad_30 : decode cX7_lotsHad 30 = .ok (.goto (-26), 3) := by decide +kernel
theorem dX7_lotsHad_33 : decode cX7_lotsHad 33 = .ok (.iload_n 1, 1) := by decide +kernel
theorem dX7_lotsHad_34 : decode cX7_lotsHad 34 = .ok (.ireturn, 1) := by decide +kernel
theorem wd_258 : (Jvm.Cond.fieldLink "SilentSale$State" (33 : Nat) "SilentSale$State" "paid" "[I") ∈ tb_L := tb_in (i := 258) (by decide +kernel) (by decide +kernel)
theorem wd_853 : (Jvm.Cond.code ({ cls := "SilentSale$State", name := "allPaid", desc := "()I" } : Jvm.MethodName) prog_9_method_10_code (3 : Nat) (Option.some Jvm.ClassFile.FieldType.int)) ∈ tb_L := tb_in (i := 853) (by decide +kernel) (by decide +kernel)
theorem dX7_allPaid_0 : decode cX7_allPaid 0 = .ok (.iconst 0, 1) := by decide +kernel
theorem dX7_allPaid_1 : decode cX7_allPaid 1 = .ok (.istore_n 1, 1) := by decide +kernel
theorem dX7_allPaid_2 : decode cX7_allPaid 2 = .ok (.iconst 0, 1) := by decide +kernel
theorem dX7_allPaid_3 : decode cX7_allPaid 3 = .ok (.istore_n 2, 1) := by decide +kernel
theorem dX7_allPaid_4 : decode cX7_allPaid 4 = .ok (.iload_n 2, 1) := by decide +kernel
theorem dX7_allPaid_5 : decode cX7_allPaid 5 = .ok (.iconst 3, 1) := by decide +kernel
theorem dX7_allPaid_6 : decode cX7_allPaid 6 = .ok (.if_icmp .ge 18, 3) := by decide +kernel
theorem dX7_allPaid_9 : decode cX7_allPaid 9 = .ok (.iload_n 1, 1) := by decide +kernel
theorem dX7_allPaid_10 : decode cX7_allPaid 10 = .ok (.aload_n 0, 1) := by decide +kernel
theorem dX7_allPaid_11 : decode cX7_allPaid 11 = .ok (.getfield 33, 3) := by decide +kernel
theorem dX7_allPaid_14 : decode cX7_allPaid 14 = .ok (.iload_n 2, 1) := by decide +kernel
theorem dX7_allPaid_15 : decode cX7_allPaid 15 = .ok (.iaload, 1) := by decide +kernel
theorem dX7_allPaid_16 : decode cX7_allPaid 16 = .ok (.iadd, 1) := by decide +kernel
theorem dX7_allPaid_17 : decode cX7_allPaid 17 = .ok (.istore_n 1, 1) := by decide +kernel
theorem dX7_allPaid_18 : decode cX7_allPaid 18 = .ok (.iinc 2 1, 3) := by decide +kernel
theorem dX7_allPaid_21 : decode cX7_allPaid 21 = .ok (.goto (-17), 3) := by decide +kernel
theorem dX7_allPaid_24 : decode cX7_allPaid 24 = .ok (.iload_n 1, 1) := by decide +kernel
theorem dX7_allPaid_25 : decode cX7_allPaid 25 = .ok (.ireturn, 1) := by decide +kernel
theorem wd_198 : (Jvm.Cond.fieldLink "SilentSale$Terms" (31 : Nat) "SilentSale$Terms" "worths" "[I") ∈ tb_L := tb_in (i := 198) (by decide +kernel) (by decide +kernel)
theorem wd_815 : (Jvm.Cond.code ({ cls := "SilentSale$Terms", name := "worthTo", desc := "(II)I" } : Jvm.MethodName) prog_11_method_2_code (3 : Nat) (Option.some Jvm.ClassFile.FieldType.int)) ∈ tb_L := tb_in (i := 815) (by decide +kernel) (by decide +kernel)
theorem dX9_worthTo_0 : decode cX9_worthTo 0 = .ok (.aload_n 0, 1) := by decide +kernel
theorem dX9_worthTo_1 : decode cX9_worthTo 1 = .ok (.getfield 31, 3) := by decide +kernel
theorem dX9_worthTo_4 : decode cX9_worthTo 4 = .ok (.iload_n 1, 1) := by decide +kernel
theorem dX9_worthTo_5 : decode cX9_worthTo 5 = .ok (.iconst 3, 1) := by decide +kernel
theorem dX9_worthTo_6 : decode cX9_worthTo 6 = .ok (.imul, 1) := by decide +kernel
theorem dX9_worthTo_7 : decode cX9_worthTo 7 = .ok (.iload_n 2, 1) := by decide +kernel
theorem dX9_worthTo_8 : decode cX9_worthTo 8 = .ok (.iadd, 1) := by decide +kernel
theorem dX9_worthTo_9 : decode cX9_worthTo 9 = .ok (.iaload, 1) := by decide +kernel
theorem dX9_worthTo_10 : decode cX9_worthTo 10 = .ok (.ireturn, 1) := by decide +kernel
theorem wd_124 : (Jvm.Cond.initialized "SilentSale$Terms") ∈ tb_L := tb_in (i := 124) (by decide +kernel) (by decide +kernel)
theorem wd_811 : (Jvm.Cond.code ({ cls := "SilentSale$State", name := "gainOf", desc := "(ILSilentSale$Terms;)I" } : Jvm.MethodName) prog_9_method_11_code (5 : Nat) (Option.some Jvm.ClassFile.FieldType.int)) ∈ tb_L := tb_in (i := 811) (by decide +kernel) (by decide +kernel)
theorem wd_812 : (Jvm.Cond.methodLink "SilentSale$State" (61 : Nat) ({ cls := "SilentSale$Terms", name := "worthTo", desc := "(II)I" } : Jvm.MethodName)) ∈ tb_L := tb_in (i := 812) (by decide +kernel) (by decide +kernel)
theorem wd_813 : (Jvm.Cond.instanceMethod ({ cls := "SilentSale$Terms", name := "worthTo", desc := "(II)I" } : Jvm.MethodName)) ∈ tb_L := tb_in (i := 813) (by decide +kernel) (by decide +kernel)
theorem wd_814 : (Jvm.Cond.selects "SilentSale$Terms" ({ cls := "SilentSale$Terms", name := "worthTo", desc := "(II)I" } : Jvm.MethodName) ({ cls := "SilentSale$Terms", name := "worthTo", desc := "(II)I" } : Jvm.MethodName)) ∈ tb_L := tb_in (i := 814) (by decide +kernel) (by decide +kernel)
theorem dX7_gainOf_0 : decode cX7_gainOf 0 = .ok (.iconst 0, 1) := by decide +kernel
theorem dX7_gainOf_1 : decode cX7_gainOf 1 = .ok (.istore_n 3, 1) := by decide +kernel
theorem dX7_gainOf_2 : decode cX7_gainOf 2 = .ok (.iconst 0, 1) := by decide +kernel
theorem dX7_gainOf_3 : decode cX7_gainOf 3 = .ok (.istore 4, 2) := by decide +kernel
theorem dX7_gainOf_5 : decode cX7_gainOf 5 = .ok (.iload 4, 2) := by decide +kernel
theorem dX7_gainOf_7 : decode cX7_gainOf 7 = .ok (.iconst 3, 1) := by decide +kernel
theorem dX7_gainOf_8 : decode cX7_gainOf 8 = .ok (.if_icmp .ge 42, 3) := by decide +kernel
theorem dX7_gainOf_11 : decode cX7_gainOf 11 = .ok (.iload_n 3, 1) := by decide +kernel
theorem dX7_gainOf_12 : decode cX7_gainOf 12 = .ok (.aload_n 0, 1) := by decide +kernel
theorem dX7_gainOf_13 : decode cX7_gainOf 13 = .ok (.getfield 30, 3) := by decide +kernel
theorem dX7_gainOf_16 : decode cX7_gainOf 16 = .ok (.iload 4, 2) := by decide +kernel
theorem dX7_gainOf_18 : decode cX7_gainOf 18 = .ok (.iaload, 1) := by decide +kernel
theorem dX7_gainOf_19 : decode cX7_gainOf 19 = .ok (.iload_n 1, 1) := by decide +kernel
theorem dX7_gainOf_20 : decode cX7_gainOf 20 = .ok (.if_icmp .ne 21, 3) := by decide +kernel
theorem dX7_gainOf_23 : decode cX7_gainOf 23 = .ok (.aload_n 2, 1) := by decide +kernel
theorem dX7_gainOf_24 : decode cX7_gainOf 24 = .ok (.iload_n 1, 1) := by decide +kernel
theorem dX7_gainOf_25 : decode cX7_gainOf 25 = .ok (.iload 4, 2) := by decide +kernel
theorem dX7_gainOf_27 : decode cX7_gainOf 27 = .ok (.invokevirtual 61, 3) := by decide +kernel
theorem dX7_gainOf_30 : decode cX7_gainOf 30 = .ok (.aload_n 0, 1) := by decide +kernel
theorem dX7_gainOf_31 : decode cX7_gainOf 31 = .ok (.getfield 33, 3) := by decide +kernel
theorem dX7_gainOf_34 : decode cX7_gainOf 34 = .ok (.iload 4, 2) := by decide +kernel
theorem dX7_gainOf_36 : decode cX7_gainOf 36 = .ok (.iaload, 1) := by decide +kernel
theorem dX7_gainOf_37 : decode cX7_gainOf 37 = .ok (.isub, 1) := by decide +kernel
theorem dX7_gainOf_38 : decode cX7_gainOf 38 = .ok (.goto 4, 3) := by decide +kernel
theorem dX7_gainOf_41 : decode cX7_gainOf 41 = .ok (.iconst 0, 1) := by decide +kernel
theorem dX7_gainOf_42 : decode cX7_gainOf 42 = .ok (.iadd, 1) := by decide +kernel
theorem dX7_gainOf_43 : decode cX7_gainOf 43 = .ok (.istore_n 3, 1) := by decide +kernel
theorem dX7_gainOf_44 : decode cX7_gainOf 44 = .ok (.iinc 4 1, 3) := by decide +kernel
theorem dX7_gainOf_47 : decode cX7_gainOf 47 = .ok (.goto (-42), 3) := by decide +kernel
theorem dX7_gainOf_50 : decode cX7_gainOf 50 = .ok (.iload_n 3, 1) := by decide +kernel
theorem dX7_gainOf_51 : decode cX7_gainOf 51 = .ok (.ireturn, 1) := by decide +kernel
theorem wd_122 : (Jvm.Cond.initialized "SilentSale") ∈ tb_L := tb_in (i := 122) (by decide +kernel) (by decide +kernel)
theorem wd_125 : (Jvm.Cond.initialized "SilentSale$State") ∈ tb_L := tb_in (i := 125) (by decide +kernel) (by decide +kernel)
theorem wd_796 : (Jvm.Cond.code ({ cls := "SilentSale$State", name := "isSilent", desc := "(I)Z" } : Jvm.MethodName) prog_9_method_4_code (2 : Nat) (Option.some Jvm.ClassFile.FieldType.boolean)) ∈ tb_L := tb_in (i := 796) (by decide +kernel) (by decide +kernel)
theorem wd_797 : (Jvm.Cond.methodLink "SilentSale$State" (53 : Nat) ({ cls := "SilentSale$State", name := "silentOnes", desc := "()I" } : Jvm.MethodName)) ∈ tb_L := tb_in (i := 797) (by decide +kernel) (by decide +kernel)
theorem wd_798 : (Jvm.Cond.instanceMethod ({ cls := "SilentSale$State", name := "silentOnes", desc := "()I" } : Jvm.MethodName)) ∈ tb_L := tb_in (i := 798) (by decide +kernel) (by decide +kernel)
theorem wd_799 : (Jvm.Cond.selects "SilentSale$State" ({ cls := "SilentSale$State", name := "silentOnes", desc := "()I" } : Jvm.MethodName) ({ cls := "SilentSale$State", name := "silentOnes", desc := "()I" } : Jvm.MethodName)) ∈ tb_L := tb_in (i := 799) (by decide +kernel) (by decide +kernel)
theorem wd_802 : (Jvm.Cond.static ({ cls := "SilentSale", name := "isIn", desc := "(II)Z" } : Jvm.MethodName)) ∈ tb_L := tb_in (i := 802) (by decide +kernel) (by decide +kernel)
theorem dX7_isSilent_0 : decode cX7_isSilent 0 = .ok (.iload_n 1, 1) := by decide +kernel
theorem dX7_isSilent_1 : decode cX7_isSilent 1 = .ok (.aload_n 0, 1) := by decide +kernel
theorem dX7_isSilent_2 : decode cX7_isSilent 2 = .ok (.invokevirtual 53, 3) := by decide +kernel
theorem dX7_isSilent_5 : decode cX7_isSilent 5 = .ok (.invokestatic 57, 3) := by decide +kernel
theorem dX7_isSilent_8 : decode cX7_isSilent 8 = .ok (.ireturn, 1) := by decide +kernel
theorem wd_186 : (Jvm.Cond.fieldLink "SilentSale$State" (65 : Nat) "SilentSale$Terms" "bidders" "I") ∈ tb_L := tb_in (i := 186) (by decide +kernel) (by decide +kernel)
theorem wd_809 : (Jvm.Cond.instanceMethod ({ cls := "SilentSale$State", name := "gainOf", desc := "(ILSilentSale$Terms;)I" } : Jvm.MethodName)) ∈ tb_L := tb_in (i := 809) (by decide +kernel) (by decide +kernel)
theorem wd_810 : (Jvm.Cond.selects "SilentSale$State" ({ cls := "SilentSale$State", name := "gainOf", desc := "(ILSilentSale$Terms;)I" } : Jvm.MethodName) ({ cls := "SilentSale$State", name := "gainOf", desc := "(ILSilentSale$Terms;)I" } : Jvm.MethodName)) ∈ tb_L := tb_in (i := 810) (by decide +kernel) (by decide +kernel)
theorem wd_1062 : (Jvm.Cond.code ({ cls := "SilentSale$State", name := "allGains", desc := "(LSilentSale$Terms;)I" } : Jvm.MethodName) prog_9_method_12_code (4 : Nat) (Option.some Jvm.ClassFile.FieldType.int)) ∈ tb_L := tb_in (i := 1062) (by decide +kernel) (by decide +kernel)
theorem wd_1063 : (Jvm.Cond.methodLink "SilentSale$State" (68 : Nat) ({ cls := "SilentSale$State", name := "gainOf", desc := "(ILSilentSale$Terms;)I" } : Jvm.MethodName)) ∈ tb_L := tb_in (i := 1063) (by decide +kernel) (by decide +kernel)
theorem dX7_allGains_0 : decode cX7_allGains 0 = .ok (.iconst 0, 1) := by decide +kernel
theorem dX7_allGains_1 : decode cX7_allGains 1 = .ok (.istore_n 2, 1) := by decide +kernel
theorem dX7_allGains_2 : decode cX7_allGains 2 = .ok (.iconst 0, 1) := by decide +kernel
theorem dX7_allGains_3 : decode cX7_allGains 3 = .ok (.istore_n 3, 1) := by decide +kernel
theorem dX7_allGains_4 : decode cX7_allGains 4 = .ok (.iload_n 3, 1) := by decide +kernel
theorem dX7_allGains_5 : decode cX7_allGains 5 = .ok (.aload_n 1, 1) := by decide +kernel
theorem dX7_allGains_6 : decode cX7_allGains 6 = .ok (.getfield 65, 3) := by decide +kernel
theorem dX7_allGains_9 : decode cX7_allGains 9 = .ok (.if_icmp .ge 18, 3) := by decide +kernel
theorem dX7_allGains_12 : decode cX7_allGains 12 = .ok (.iload_n 2, 1) := by decide +kernel
theorem dX7_allGains_13 : decode cX7_allGains 13 = .ok (.aload_n 0, 1) := by decide +kernel
theorem dX7_allGains_14 : decode cX7_allGains 14 = .ok (.iload_n 3, 1) := by decide +kernel
theorem dX7_allGains_15 : decode cX7_allGains 15 = .ok (.aload_n 1, 1) := by decide +kernel
theorem dX7_allGains_16 : decode cX7_allGains 16 = .ok (.invokevirtual 68, 3) := by decide +kernel
theorem dX7_allGains_19 : decode cX7_allGains 19 = .ok (.iadd, 1) := by decide +kernel
theorem dX7_allGains_20 : decode cX7_allGains 20 = .ok (.istore_n 2, 1) := by decide +kernel
theorem dX7_allGains_21 : decode cX7_allGains 21 = .ok (.iinc 3 1, 3) := by decide +kernel
theorem dX7_allGains_24 : decode cX7_allGains 24 = .ok (.goto (-20), 3) := by decide +kernel
theorem dX7_allGains_27 : decode cX7_allGains 27 = .ok (.iload_n 2, 1) := by decide +kernel
theorem dX7_allGains_28 : decode cX7_allGains 28 = .ok (.ireturn, 1) := by decide +kernel
theorem wd_250 : (Jvm.Cond.fieldLink "SilentSale$State" (27 : Nat) "SilentSale$State" "gone" "[I") ∈ tb_L := tb_in (i := 250) (by decide +kernel) (by decide +kernel)
theorem wd_971 : (Jvm.Cond.code ({ cls := "SilentSale$State", name := "breakOff", desc := "(I)V" } : Jvm.MethodName) prog_9_method_15_code (2 : Nat) (Option.none : Option Jvm.ClassFile.FieldType)) ∈ tb_L := tb_in (i := 971) (by decide +kernel) (by decide +kernel)
theorem dX7_breakOff_0 : decode cX7_breakOff 0 = .ok (.aload_n 0, 1) := by decide +kernel
theorem dX7_breakOff_1 : decode cX7_breakOff 1 = .ok (.getfield 24, 3) := by decide +kernel
theorem dX7_breakOff_4 : decode cX7_breakOff 4 = .ok (.iload_n 1, 1) := by decide +kernel
theorem dX7_breakOff_5 : decode cX7_breakOff 5 = .ok (.iconst 0, 1) := by decide +kernel
theorem dX7_breakOff_6 : decode cX7_breakOff 6 = .ok (.iastore, 1) := by decide +kernel
theorem dX7_breakOff_7 : decode cX7_breakOff 7 = .ok (.aload_n 0, 1) := by decide +kernel
theorem dX7_breakOff_8 : decode cX7_breakOff 8 = .ok (.getfield 27, 3) := by decide +kernel
theorem dX7_breakOff_11 : decode cX7_breakOff 11 = .ok (.iload_n 1, 1) := by decide +kernel
theorem dX7_breakOff_12 : decode cX7_breakOff 12 = .ok (.iconst 0, 1) := by decide +kernel
theorem dX7_breakOff_13 : decode cX7_breakOff 13 = .ok (.iastore, 1) := by decide +kernel
theorem dX7_breakOff_14 : decode cX7_breakOff 14 = .ok (.aload_n 0, 1) := by decide +kernel
theorem dX7_breakOff_15 : decode cX7_breakOff 15 = .ok (.getfield 36, 3) := by decide +kernel
theorem dX7_breakOff_18 : decode cX7_breakOff 18 = .ok (.iload_n 1, 1) := by decide +kernel
theorem dX7_breakOff_19 : decode cX7_breakOff 19 = .ok (.iconst 0, 1) := by decide +kernel
theorem dX7_breakOff_20 : decode cX7_breakOff 20 = .ok (.iastore, 1) := by decide +kernel
theorem dX7_breakOff_21 : decode cX7_breakOff 21 = .ok (.return_, 1) := by decide +kernel
theorem wd_231 : (Jvm.Cond.fieldLink "SilentSale$State" (9 : Nat) "SilentSale$State" "purse" "[I") ∈ tb_L := tb_in (i := 231) (by decide +kernel) (by decide +kernel)
theorem wd_934 : (Jvm.Cond.code ({ cls := "SilentSale$State", name := "finish", desc := "(III)V" } : Jvm.MethodName) prog_9_method_14_code (5 : Nat) (Option.none : Option Jvm.ClassFile.FieldType)) ∈ tb_L := tb_in (i := 934) (by decide +kernel) (by decide +kernel)
theorem dX7_finish_0 : decode cX7_finish 0 = .ok (.aload_n 0, 1) := by decide +kernel
theorem dX7_finish_1 : decode cX7_finish 1 = .ok (.getfield 24, 3) := by decide +kernel
theorem dX7_finish_4 : decode cX7_finish 4 = .ok (.iload_n 1, 1) := by decide +kernel
theorem dX7_finish_5 : decode cX7_finish 5 = .ok (.iconst 2, 1) := by decide +kernel
theorem dX7_finish_6 : decode cX7_finish 6 = .ok (.iastore, 1) := by decide +kernel
theorem dX7_finish_7 : decode cX7_finish 7 = .ok (.aload_n 0, 1) := by decide +kernel
theorem dX7_finish_8 : decode cX7_finish 8 = .ok (.getfield 36, 3) := by decide +kernel
theorem dX7_finish_11 : decode cX7_finish 11 = .ok (.iload_n 1, 1) := by decide +kernel
theorem dX7_finish_12 : decode cX7_finish 12 = .ok (.iconst 0, 1) := by decide +kernel
theorem dX7_finish_13 : decode cX7_finish 13 = .ok (.iastore, 1) := by decide +kernel
theorem dX7_finish_14 : decode cX7_finish 14 = .ok (.aload_n 0, 1) := by decide +kernel
theorem dX7_finish_15 : decode cX7_finish 15 = .ok (.getfield 30, 3) := by decide +kernel
theorem dX7_finish_18 : decode cX7_finish 18 = .ok (.iload_n 1, 1) := by decide +kernel
theorem dX7_finish_19 : decode cX7_finish 19 = .ok (.iload_n 2, 1) := by decide +kernel
theorem dX7_finish_20 : decode cX7_finish 20 = .ok (.iastore, 1) := by decide +kernel
theorem dX7_finish_21 : decode cX7_finish 21 = .ok (.aload_n 0, 1) := by decide +kernel
theorem dX7_finish_22 : decode cX7_finish 22 = .ok (.getfield 33, 3) := by decide +kernel
theorem dX7_finish_25 : decode cX7_finish 25 = .ok (.iload_n 1, 1) := by decide +kernel
theorem dX7_finish_26 : decode cX7_finish 26 = .ok (.iload_n 3, 1) := by decide +kernel
theorem dX7_finish_27 : decode cX7_finish 27 = .ok (.iastore, 1) := by decide +kernel
theorem dX7_finish_28 : decode cX7_finish 28 = .ok (.iload_n 2, 1) := by decide +kernel
theorem dX7_finish_29 : decode cX7_finish 29 = .ok (.ifCond .lt 18, 3) := by decide +kernel
theorem dX7_finish_32 : decode cX7_finish 32 = .ok (.iload_n 2, 1) := by decide +kernel
theorem dX7_finish_33 : decode cX7_finish 33 = .ok (.iconst 5, 1) := by decide +kernel
theorem dX7_finish_34 : decode cX7_finish 34 = .ok (.if_icmp .ge 13, 3) := by decide +kernel
theorem dX7_finish_37 : decode cX7_finish 37 = .ok (.aload_n 0, 1) := by decide +kernel
theorem dX7_finish_38 : decode cX7_finish 38 = .ok (.getfield 9, 3) := by decide +kernel
theorem dX7_finish_41 : decode cX7_finish 41 = .ok (.iload_n 2, 1) := by decide +kernel
theorem dX7_finish_42 : decode cX7_finish 42 = .ok (.dup2, 1) := by decide +kernel
theorem dX7_finish_43 : decode cX7_finish 43 = .ok (.iaload, 1) := by decide +kernel
theorem dX7_finish_44 : decode cX7_finish 44 = .ok (.iload_n 3, 1) := by decide +kernel
theorem dX7_finish_45 : decode cX7_finish 45 = .ok (.isub, 1) := by decide +kernel
theorem dX7_finish_46 : decode cX7_finish 46 = .ok (.iastore, 1) := by decide +kernel
theorem dX7_finish_47 : decode cX7_finish 47 = .ok (.iconst 0, 1) := by decide +kernel
theorem dX7_finish_48 : decode cX7_finish 48 = .ok (.istore 4, 2) := by decide +kernel
theorem dX7_finish_50 : decode cX7_finish 50 = .ok (.iload 4, 2) := by decide +kernel
theorem dX7_finish_52 : decode cX7_finish 52 = .ok (.iconst 5, 1) := by decide +kernel
theorem dX7_finish_53 : decode cX7_finish 53 = .ok (.if_icmp .ge 38, 3) := by decide +kernel
theorem dX7_finish_56 : decode cX7_finish 56 = .ok (.aload_n 0, 1) := by decide +kernel
theorem dX7_finish_57 : decode cX7_finish 57 = .ok (.getfield 18, 3) := by decide +kernel
theorem dX7_finish_60 : decode cX7_finish 60 = .ok (.iload 4, 2) := by decide +kernel
theorem dX7_finish_62 : decode cX7_finish 62 = .ok (.aload_n 0, 1) := by decide +kernel
theorem dX7_finish_63 : decode cX7_finish 63 = .ok (.getfield 18, 3) := by decide +kernel
theorem dX7_finish_66 : decode cX7_finish 66 = .ok (.iload 4, 2) := by decide +kernel
theorem dX7_finish_68 : decode cX7_finish 68 = .ok (.iaload, 1) := by decide +kernel
theorem dX7_finish_69 : decode cX7_finish 69 = .ok (.iload_n 1, 1) := by decide +kernel
theorem dX7_finish_70 : decode cX7_finish 70 = .ok (.if_icmp .ne 7, 3) := by decide +kernel
theorem dX7_finish_73 : decode cX7_finish 73 = .ok (.iconst (-1), 1) := by decide +kernel
theorem dX7_finish_74 : decode cX7_finish 74 = .ok (.goto 10, 3) := by decide +kernel
theorem dX7_finish_77 : decode cX7_finish 77 = .ok (.aload_n 0, 1) := by decide +kernel
theorem dX7_finish_78 : decode cX7_finish 78 = .ok (.getfield 18, 3) := by decide +kernel
theorem dX7_finish_81 : decode cX7_finish 81 = .ok (.iload 4, 2) := by decide +kernel
theorem dX7_finish_83 : decode cX7_finish 83 = .ok (.iaload, 1) := by decide +kernel
theorem dX7_finish_84 : decode cX7_finish 84 = .ok (.iastore, 1) := by decide +kernel
theorem dX7_finish_85 : decode cX7_finish 85 = .ok (.iinc 4 1, 3) := by decide +kernel
theorem dX7_finish_88 : decode cX7_finish 88 = .ok (.goto (-38), 3) := by decide +kernel
theorem dX7_finish_91 : decode cX7_finish 91 = .ok (.return_, 1) := by decide +kernel
theorem wd_141 : (Jvm.Cond.initialized "java/lang/Integer") ∈ tb_L := tb_in (i := 141) (by decide +kernel) (by decide +kernel)
theorem wd_825 : (Jvm.Cond.instanceMethod ({ cls := "SilentSale$State", name := "sittersOf", desc := "(I)I" } : Jvm.MethodName)) ∈ tb_L := tb_in (i := 825) (by decide +kernel) (by decide +kernel)
theorem wd_826 : (Jvm.Cond.selects "SilentSale$State" ({ cls := "SilentSale$State", name := "sittersOf", desc := "(I)I" } : Jvm.MethodName) ({ cls := "SilentSale$State", name := "sittersOf", desc := "(I)I" } : Jvm.MethodName)) ∈ tb_L := tb_in (i := 826) (by decide +kernel) (by decide +kernel)
theorem wd_895 : (Jvm.Cond.static ({ cls := "java/lang/Integer", name := "bitCount", desc := "(I)I" } : Jvm.MethodName)) ∈ tb_L := tb_in (i := 895) (by decide +kernel) (by decide +kernel)
theorem wd_928 : (Jvm.Cond.static ({ cls := "SilentSale", name := "lowestOf", desc := "(I)I" } : Jvm.MethodName)) ∈ tb_L := tb_in (i := 928) (by decide +kernel) (by decide +kernel)
theorem wd_932 : (Jvm.Cond.instanceMethod ({ cls := "SilentSale$State", name := "finish", desc := "(III)V" } : Jvm.MethodName)) ∈ tb_L := tb_in (i := 932) (by decide +kernel) (by decide +kernel)
theorem wd_933 : (Jvm.Cond.selects "SilentSale$State" ({ cls := "SilentSale$State", name := "finish", desc := "(III)V" } : Jvm.MethodName) ({ cls := "SilentSale$State", name := "finish", desc := "(III)V" } : Jvm.MethodName)) ∈ tb_L := tb_in (i := 933) (by decide +kernel) (by decide +kernel)
theorem wd_946 : (Jvm.Cond.code ({ cls := "SilentSale$State", name := "begin", desc := "(I)I" } : Jvm.MethodName) prog_9_method_13_code (4 : Nat) (Option.some Jvm.ClassFile.FieldType.int)) ∈ tb_L := tb_in (i := 946) (by decide +kernel) (by decide +kernel)
theorem wd_947 : (Jvm.Cond.methodLink "SilentSale$State" (72 : Nat) ({ cls := "SilentSale$State", name := "sittersOf", desc := "(I)I" } : Jvm.MethodName)) ∈ tb_L := tb_in (i := 947) (by decide +kernel) (by decide +kernel)
theorem wd_948 : (Jvm.Cond.methodLink "SilentSale$State" (76 : Nat) ({ cls := "java/lang/Integer", name := "bitCount", desc := "(I)I" } : Jvm.MethodName)) ∈ tb_L := tb_in (i := 948) (by decide +kernel) (by decide +kernel)
theorem wd_950 : (Jvm.Cond.methodLink "SilentSale$State" (84 : Nat) ({ cls := "SilentSale$State", name := "finish", desc := "(III)V" } : Jvm.MethodName)) ∈ tb_L := tb_in (i := 950) (by decide +kernel) (by decide +kernel)
theorem dX7_begin_0 : decode cX7_begin 0 = .ok (.aload_n 0, 1) := by decide +kernel
theorem dX7_begin_1 : decode cX7_begin 1 = .ok (.iload_n 1, 1) := by decide +kernel
theorem dX7_begin_2 : decode cX7_begin 2 = .ok (.invokevirtual 72, 3) := by decide +kernel
theorem dX7_begin_5 : decode cX7_begin 5 = .ok (.istore_n 2, 1) := by decide +kernel
theorem dX7_begin_6 : decode cX7_begin 6 = .ok (.iload_n 2, 1) := by decide +kernel
theorem dX7_begin_7 : decode cX7_begin 7 = .ok (.invokestatic 76, 3) := by decide +kernel
theorem dX7_begin_10 : decode cX7_begin 10 = .ok (.istore_n 3, 1) := by decide +kernel
theorem dX7_begin_11 : decode cX7_begin 11 = .ok (.aload_n 0, 1) := by decide +kernel
theorem dX7_begin_12 : decode cX7_begin 12 = .ok (.getfield 24, 3) := by decide +kernel
theorem dX7_begin_15 : decode cX7_begin 15 = .ok (.iload_n 1, 1) := by decide +kernel
theorem dX7_begin_16 : decode cX7_begin 16 = .ok (.iconst 1, 1) := by decide +kernel
theorem dX7_begin_17 : decode cX7_begin 17 = .ok (.iastore, 1) := by decide +kernel
theorem dX7_begin_18 : decode cX7_begin 18 = .ok (.aload_n 0, 1) := by decide +kernel
theorem dX7_begin_19 : decode cX7_begin 19 = .ok (.getfield 27, 3) := by decide +kernel
theorem dX7_begin_22 : decode cX7_begin 22 = .ok (.iload_n 1, 1) := by decide +kernel
theorem dX7_begin_23 : decode cX7_begin 23 = .ok (.iconst 0, 1) := by decide +kernel
theorem dX7_begin_24 : decode cX7_begin 24 = .ok (.iastore, 1) := by decide +kernel
theorem dX7_begin_25 : decode cX7_begin 25 = .ok (.aload_n 0, 1) := by decide +kernel
theorem dX7_begin_26 : decode cX7_begin 26 = .ok (.getfield 36, 3) := by decide +kernel
theorem dX7_begin_29 : decode cX7_begin 29 = .ok (.iload_n 1, 1) := by decide +kernel
theorem dX7_begin_30 : decode cX7_begin 30 = .ok (.iload_n 2, 1) := by decide +kernel
theorem dX7_begin_31 : decode cX7_begin 31 = .ok (.iastore, 1) := by decide +kernel
theorem dX7_begin_32 : decode cX7_begin 32 = .ok (.iload_n 3, 1) := by decide +kernel
theorem dX7_begin_33 : decode cX7_begin 33 = .ok (.iconst 1, 1) := by decide +kernel
theorem dX7_begin_34 : decode cX7_begin 34 = .ok (.if_icmp .ne 13, 3) := by decide +kernel
theorem dX7_begin_37 : decode cX7_begin 37 = .ok (.aload_n 0, 1) := by decide +kernel
theorem dX7_begin_38 : decode cX7_begin 38 = .ok (.iload_n 1, 1) := by decide +kernel
theorem dX7_begin_39 : decode cX7_begin 39 = .ok (.iload_n 2, 1) := by decide +kernel
theorem dX7_begin_40 : decode cX7_begin 40 = .ok (.invokestatic 81, 3) := by decide +kernel
theorem dX7_begin_43 : decode cX7_begin 43 = .ok (.iconst 0, 1) := by decide +kernel
theorem dX7_begin_44 : decode cX7_begin 44 = .ok (.invokevirtual 84, 3) := by decide +kernel
theorem dX7_begin_47 : decode cX7_begin 47 = .ok (.iload_n 3, 1) := by decide +kernel
theorem dX7_begin_48 : decode cX7_begin 48 = .ok (.ireturn, 1) := by decide +kernel
theorem wd_202 : (Jvm.Cond.fieldLink "SilentSale$State" (92 : Nat) "SilentSale$Terms" "price" "[I") ∈ tb_L := tb_in (i := 202) (by decide +kernel) (by decide +kernel)
theorem wd_205 : (Jvm.Cond.fieldLink "SilentSale$State" (95 : Nat) "SilentSale$Terms" "effect" "[I") ∈ tb_L := tb_in (i := 205) (by decide +kernel) (by decide +kernel)
theorem wd_235 : (Jvm.Cond.fieldLink "SilentSale$State" (15 : Nat) "SilentSale$State" "patience" "[I") ∈ tb_L := tb_in (i := 235) (by decide +kernel) (by decide +kernel)
theorem wd_794 : (Jvm.Cond.instanceMethod ({ cls := "SilentSale$State", name := "isSilent", desc := "(I)Z" } : Jvm.MethodName)) ∈ tb_L := tb_in (i := 794) (by decide +kernel) (by decide +kernel)
theorem wd_795 : (Jvm.Cond.selects "SilentSale$State" ({ cls := "SilentSale$State", name := "isSilent", desc := "(I)Z" } : Jvm.MethodName) ({ cls := "SilentSale$State", name := "isSilent", desc := "(I)Z" } : Jvm.MethodName)) ∈ tb_L := tb_in (i := 795) (by decide +kernel) (by decide +kernel)
theorem wd_958 : (Jvm.Cond.code ({ cls := "SilentSale$State", name := "canTrick", desc := "(IIILSilentSale$Terms;)Z" } : Jvm.MethodName) prog_9_method_16_code (5 : Nat) (Option.some Jvm.ClassFile.FieldType.boolean)) ∈ tb_L := tb_in (i := 958) (by decide +kernel) (by decide +kernel)
theorem wd_959 : (Jvm.Cond.methodLink "SilentSale$State" (88 : Nat) ({ cls := "SilentSale$State", name := "isSilent", desc := "(I)Z" } : Jvm.MethodName)) ∈ tb_L := tb_in (i := 959) (by decide +kernel) (by decide +kernel)
theorem dX7_canTrick_0 : decode cX7_canTrick 0 = .ok (.aload_n 0, 1) := by decide +kernel
theorem dX7_canTrick_1 : decode cX7_canTrick 1 = .ok (.iload_n 2, 1) := by decide +kernel
theorem dX7_canTrick_2 : decode cX7_canTrick 2 = .ok (.invokevirtual 88, 3) := by decide +kernel
theorem dX7_canTrick_5 : decode cX7_canTrick 5 = .ok (.ifCond .eq 39, 3) := by decide +kernel
theorem dX7_canTrick_8 : decode cX7_canTrick 8 = .ok (.aload_n 0, 1) := by decide +kernel
theorem dX7_canTrick_9 : decode cX7_canTrick 9 = .ok (.getfield 9, 3) := by decide +kernel
theorem dX7_canTrick_12 : decode cX7_canTrick 12 = .ok (.iload_n 1, 1) := by decide +kernel
theorem dX7_canTrick_13 : decode cX7_canTrick 13 = .ok (.iaload, 1) := by decide +kernel
theorem dX7_canTrick_14 : decode cX7_canTrick 14 = .ok (.aload 4, 2) := by decide +kernel
theorem dX7_canTrick_16 : decode cX7_canTrick 16 = .ok (.getfield 92, 3) := by decide +kernel
theorem dX7_canTrick_19 : decode cX7_canTrick 19 = .ok (.iload_n 3, 1) := by decide +kernel
theorem dX7_canTrick_20 : decode cX7_canTrick 20 = .ok (.iaload, 1) := by decide +kernel
theorem dX7_canTrick_21 : decode cX7_canTrick 21 = .ok (.if_icmp .lt 23, 3) := by decide +kernel
theorem dX7_canTrick_24 : decode cX7_canTrick 24 = .ok (.aload_n 0, 1) := by decide +kernel
theorem dX7_canTrick_25 : decode cX7_canTrick 25 = .ok (.getfield 15, 3) := by decide +kernel
theorem dX7_canTrick_28 : decode cX7_canTrick 28 = .ok (.iload_n 2, 1) := by decide +kernel
theorem dX7_canTrick_29 : decode cX7_canTrick 29 = .ok (.iaload, 1) := by decide +kernel
theorem dX7_canTrick_30 : decode cX7_canTrick 30 = .ok (.aload 4, 2) := by decide +kernel
theorem dX7_canTrick_32 : decode cX7_canTrick 32 = .ok (.getfield 95, 3) := by decide +kernel
theorem dX7_canTrick_35 : decode cX7_canTrick 35 = .ok (.iload_n 3, 1) := by decide +kernel
theorem dX7_canTrick_36 : decode cX7_canTrick 36 = .ok (.iaload, 1) := by decide +kernel
theorem dX7_canTrick_37 : decode cX7_canTrick 37 = .ok (.if_icmp .le 7, 3) := by decide +kernel
theorem dX7_canTrick_40 : decode cX7_canTrick 40 = .ok (.iconst 1, 1) := by decide +kernel
theorem dX7_canTrick_41 : decode cX7_canTrick 41 = .ok (.goto 4, 3) := by decide +kernel
theorem dX7_canTrick_44 : decode cX7_canTrick 44 = .ok (.iconst 0, 1) := by decide +kernel
theorem dX7_canTrick_45 : decode cX7_canTrick 45 = .ok (.ireturn, 1) := by decide +kernel
theorem wd_243 : (Jvm.Cond.fieldLink "SilentSale$State" (21 : Nat) "SilentSale$State" "tricked" "[I") ∈ tb_L := tb_in (i := 243) (by decide +kernel) (by decide +kernel)
theorem wd_963 : (Jvm.Cond.code ({ cls := "SilentSale$State", name := "trickNow", desc := "(IIILSilentSale$Terms;)V" } : Jvm.MethodName) prog_9_method_17_code (5 : Nat) (Option.none : Option Jvm.ClassFile.FieldType)) ∈ tb_L := tb_in (i := 963) (by decide +kernel) (by decide +kernel)
theorem dX7_trickNow_0 : decode cX7_trickNow 0 = .ok (.aload_n 0, 1) := by decide +kernel
theorem dX7_trickNow_1 : decode cX7_trickNow 1 = .ok (.getfield 9, 3) := by decide +kernel
theorem dX7_trickNow_4 : decode cX7_trickNow 4 = .ok (.iload_n 1, 1) := by decide +kernel
theorem dX7_trickNow_5 : decode cX7_trickNow 5 = .ok (.dup2, 1) := by decide +kernel
theorem dX7_trickNow_6 : decode cX7_trickNow 6 = .ok (.iaload, 1) := by decide +kernel
theorem dX7_trickNow_7 : decode cX7_trickNow 7 = .ok (.aload 4, 2) := by decide +kernel
theorem dX7_trickNow_9 : decode cX7_trickNow 9 = .ok (.getfield 92, 3) := by decide +kernel
theorem dX7_trickNow_12 : decode cX7_trickNow 12 = .ok (.iload_n 3, 1) := by decide +kernel
theorem dX7_trickNow_13 : decode cX7_trickNow 13 = .ok (.iaload, 1) := by decide +kernel
theorem dX7_trickNow_14 : decode cX7_trickNow 14 = .ok (.isub, 1) := by decide +kernel
theorem dX7_trickNow_15 : decode cX7_trickNow 15 = .ok (.iastore, 1) := by decide +kernel
theorem dX7_trickNow_16 : decode cX7_trickNow 16 = .ok (.aload_n 0, 1) := by decide +kernel
theorem dX7_trickNow_17 : decode cX7_trickNow 17 = .ok (.getfield 15, 3) := by decide +kernel
theorem dX7_trickNow_20 : decode cX7_trickNow 20 = .ok (.iload_n 2, 1) := by decide +kernel
theorem dX7_trickNow_21 : decode cX7_trickNow 21 = .ok (.dup2, 1) := by decide +kernel
theorem dX7_trickNow_22 : decode cX7_trickNow 22 = .ok (.iaload, 1) := by decide +kernel
theorem dX7_trickNow_23 : decode cX7_trickNow 23 = .ok (.aload 4, 2) := by decide +kernel
theorem dX7_trickNow_25 : decode cX7_trickNow 25 = .ok (.getfield 95, 3) := by decide +kernel
theorem dX7_trickNow_28 : decode cX7_trickNow 28 = .ok (.iload_n 3, 1) := by decide +kernel
theorem dX7_trickNow_29 : decode cX7_trickNow 29 = .ok (.iaload, 1) := by decide +kernel
theorem dX7_trickNow_30 : decode cX7_trickNow 30 = .ok (.isub, 1) := by decide +kernel
theorem dX7_trickNow_31 : decode cX7_trickNow 31 = .ok (.iastore, 1) := by decide +kernel
theorem dX7_trickNow_32 : decode cX7_trickNow 32 = .ok (.aload_n 0, 1) := by decide +kernel
theorem dX7_trickNow_33 : decode cX7_trickNow 33 = .ok (.getfield 21, 3) := by decide +kernel
theorem dX7_trickNow_36 : decode cX7_trickNow 36 = .ok (.iload_n 2, 1) := by decide +kernel
theorem dX7_trickNow_37 : decode cX7_trickNow 37 = .ok (.dup2, 1) := by decide +kernel
theorem dX7_trickNow_38 : decode cX7_trickNow 38 = .ok (.iaload, 1) := by decide +kernel
theorem dX7_trickNow_39 : decode cX7_trickNow 39 = .ok (.iconst 1, 1) := by decide +kernel
theorem dX7_trickNow_40 : decode cX7_trickNow 40 = .ok (.iadd, 1) := by decide +kernel
theorem dX7_trickNow_41 : decode cX7_trickNow 41 = .ok (.iastore, 1) := by decide +kernel
theorem dX7_trickNow_42 : decode cX7_trickNow 42 = .ok (.return_, 1) := by decide +kernel
set_option maxHeartbeats 4000000 in
set_option maxRecDepth 100000 in
theorem d_isIn (l : Launch) (G : gg_T) (Γ : Nat → Nat) (sz : Nat) (wt : va_W) (hT : tk_ty G Γ wt) (a : Int32) (b : Int32) : Met l yX11_isIn (ts_L yX11_isIn cX11_isIn 2 (some .boolean)) ({ frames := 0, cells := 0, slots := 0, locals := 0 }) (gc_P G wt sz [.int a, .int b]) (gc_I G (va_A wt sz) (fun r (u : va_W) => tk_ty G Γ u ∧ tk_kp [] wt u ∧ 0 ≤ r.toInt ∧ r.toInt ≤ 1) (fun u => u)) 0 0 (va_A wt sz) := by
  refine Met.ofW (cc := cX11_isIn) (maxL := 2) (ret := (some .boolean)) (by decide) rfl ?_
  intro p e s m args below meth c s₁ B hml hv
  obtain ⟨rfl, hsz, hP, hK, hD0⟩ := hv
  have hx := B.exec
  have hb := B.bytes
  have hr := B.returns
  have ht := ts_ht (atoms_spec (ws := ts_L yX11_isIn cX11_isIn 2 (some .boolean)) B.pre)
  have hown : s.vm.findClass RX11 = some m.cls := findClass_of_methodNamed B.named
  have hlocks := B.notSynchronized
  subst hsz
  have hD := hD0.self (sz := s.heap.size)
  generalize hAe : va_A wt s.heap.size = A at hD ⊢
  have hA : ∀ q : Nat, s.heap.size ≤ q → A q := fun q h => by rw [← hAe]; exact Or.inr h
  clear hAe hD0
  have hS : va_S A s.heap s.heap [] := va_S.rf
  obtain ⟨w0, hw0⟩ : ∃ z, z = wt := ⟨_, rfl⟩
  have hW : tk_kp [] w0 wt := by rw [hw0]; exact tk_kp.rf
  rw [← hw0]
  clear hw0
  have hP : va_P (gg_D G) classes ([] ++ wt) s.heap := hP
  have hD : va_D A ([] ++ wt) := hD
  have hl := lv_entry ([.int a, .int b]) (n := 2) (Nat.le_of_ble_eq_true rfl)
  rw [lg_entry_eq]
  generalize (lg_sl ([.int a, .int b]) ++ List.replicate (2 - (lg_sl ([.int a, .int b])).length) Slot.unset).toArray = ls at hl ⊢
  have hl : lv_has ls 2 [(0, .int a), (1, .int b)] := hl
  have l0 : (0 : Int32).toInt = 0 := by decide +kernel
  have l1 : (1 : Int32).toInt = 1 := by decide +kernel
  refine lv_iload_n hx hb dX11_isIn_0 rfl (lv_at hl 1 rfl) ?_
  refine lv_iload_n hx hb dX11_isIn_1 rfl (lv_at hl 0 rfl) ?_
  obtain ⟨t_1, et_1⟩ : ∃ zz_ : Int32, b >>> (a &&& 31) = zz_ := ⟨_, rfl⟩
  refine gq_ishr hx hb t_1 et_1 dX11_isIn_2 ?_
  refine lv_iconst (v := 1) hx hb dX11_isIn_3 (by decide +kernel) ?_
  obtain ⟨t_2, et_2⟩ : ∃ zz_ : Int32, t_1 &&& 1 = zz_ := ⟨_, rfl⟩
  refine gq_iand hx hb t_2 et_2 dX11_isIn_4 ?_
  have ft_2 := ia_and2 et_2 (by omega)
  refine lv_if_eq (tgt := 12) hx hb dX11_isIn_5 (by decide) (fun c_3 => ?_) (fun c_3 => ?_)
  · rw [← Int32.toInt_inj] at c_3
    refine lv_iconst (v := 0) hx hb dX11_isIn_12 (by decide +kernel) ?_
    have hP9 := tw_right hP
    have hD9 := tw_rightD hD
    exact W.zret (v := 0) hx hb hr (by decide +kernel) (gq_endI wt ⟨hT, hW, (by omega), (by omega)⟩ hP9 hD9 hS) hS.2.2 dX11_isIn_13
  · rw [← Int32.toInt_inj] at c_3
    refine lv_iconst (v := 1) hx hb dX11_isIn_8 (by decide +kernel) ?_
    refine lv_goto (tgt := 13) hx hb dX11_isIn_9 (by decide) ?_
    have hP9 := tw_right hP
    have hD9 := tw_rightD hD
    exact W.zret (v := 1) hx hb hr (by decide +kernel) (gq_endI wt ⟨hT, hW, (by omega), (by omega)⟩ hP9 hD9 hS) hS.2.2 dX11_isIn_13
set_option maxHeartbeats 4000000 in
set_option maxRecDepth 100000 in
theorem d_bitCount (l : Launch) (G : gg_T) (Γ : Nat → Nat) (sz : Nat) (wt : va_W) (hT : tk_ty G Γ wt) (x : Int32) : Met l yJ6_bitCount_0f7a4 (ts_L yJ6_bitCount_0f7a4 cJ6_bitCount_0f7a4 1 (some .int)) ({ frames := 0, cells := 0, slots := 0, locals := 0 }) (gc_P G wt sz [.int x]) (gc_I G (va_A wt sz) (fun r (u : va_W) => tk_ty G Γ u ∧ tk_kp [] wt u) (fun u => u)) 0 0 (va_A wt sz) := by
  refine Met.ofW (cc := cJ6_bitCount_0f7a4) (maxL := 1) (ret := (some .int)) (by decide) rfl ?_
  intro p e s m args below meth c s₁ B hml hv
  obtain ⟨rfl, hsz, hP, hK, hD0⟩ := hv
  have hx := B.exec
  have hb := B.bytes
  have hr := B.returns
  have ht := ts_ht (atoms_spec (ws := ts_L yJ6_bitCount_0f7a4 cJ6_bitCount_0f7a4 1 (some .int)) B.pre)
  have hown : s.vm.findClass RJ6 = some m.cls := findClass_of_methodNamed B.named
  have hlocks := B.notSynchronized
  subst hsz
  have hD := hD0.self (sz := s.heap.size)
  generalize hAe : va_A wt s.heap.size = A at hD ⊢
  have hA : ∀ q : Nat, s.heap.size ≤ q → A q := fun q h => by rw [← hAe]; exact Or.inr h
  clear hAe hD0
  have hS : va_S A s.heap s.heap [] := va_S.rf
  obtain ⟨w0, hw0⟩ : ∃ z, z = wt := ⟨_, rfl⟩
  have hW : tk_kp [] w0 wt := by rw [hw0]; exact tk_kp.rf
  rw [← hw0]
  clear hw0
  have hP : va_P (gg_D G) classes ([] ++ wt) s.heap := hP
  have hD : va_D A ([] ++ wt) := hD
  have hl := lv_entry ([.int x]) (n := 1) (Nat.le_of_ble_eq_true rfl)
  rw [lg_entry_eq]
  generalize (lg_sl ([.int x]) ++ List.replicate (1 - (lg_sl ([.int x])).length) Slot.unset).toArray = ls at hl ⊢
  have hl : lv_has ls 1 [(0, .int x)] := hl
  have l63 : (63 : Int32).toInt = 63 := by decide +kernel
  have l252645135 : (252645135 : Int32).toInt = 252645135 := by decide +kernel
  have l858993459 : (858993459 : Int32).toInt = 858993459 := by decide +kernel
  have l1431655765 : (1431655765 : Int32).toInt = 1431655765 := by decide +kernel
  refine lv_iload_n hx hb dJ6_bitCount_0f7a4_0 rfl (lv_at hl 0 rfl) ?_
  refine lv_iload_n hx hb dJ6_bitCount_0f7a4_1 rfl (lv_at hl 0 rfl) ?_
  refine lv_iconst (v := 1) hx hb dJ6_bitCount_0f7a4_2 (by decide +kernel) ?_
  refine lv_iushr hx hb dJ6_bitCount_0f7a4_3 rfl ?_
  refine lv_topi (fun t_1 et_1 => ?_)
  refine lv_ldcw hx hb hown (ht _ wd_897) dJ6_bitCount_0f7a4_4 ?_
  obtain ⟨t_2, et_2⟩ : ∃ zz_ : Int32, t_1 &&& 1431655765 = zz_ := ⟨_, rfl⟩
  refine gq_iand hx hb t_2 et_2 dJ6_bitCount_0f7a4_7 ?_
  have ft_2 := ia_and2 et_2 (by omega)
  obtain ⟨t_3, et_3⟩ : ∃ zz_ : Int32, x - t_2 = zz_ := ⟨_, rfl⟩
  refine gq_isub hx hb t_3 et_3 dJ6_bitCount_0f7a4_8 ?_
  refine lv_istore_n (lv' := [(0, .int t_3)]) hx hb dJ6_bitCount_0f7a4_9 rfl hl (by decide) rfl (fun ls hl => ?_)
  refine lv_iload_n hx hb dJ6_bitCount_0f7a4_10 rfl (lv_at hl 0 rfl) ?_
  refine lv_ldcw hx hb hown (ht _ wd_898) dJ6_bitCount_0f7a4_11 ?_
  obtain ⟨t_4, et_4⟩ : ∃ zz_ : Int32, t_3 &&& 858993459 = zz_ := ⟨_, rfl⟩
  refine gq_iand hx hb t_4 et_4 dJ6_bitCount_0f7a4_14 ?_
  have ft_4 := ia_and2 et_4 (by omega)
  refine lv_iload_n hx hb dJ6_bitCount_0f7a4_15 rfl (lv_at hl 0 rfl) ?_
  refine lv_iconst (v := 2) hx hb dJ6_bitCount_0f7a4_16 (by decide +kernel) ?_
  refine lv_iushr hx hb dJ6_bitCount_0f7a4_17 rfl ?_
  refine lv_topi (fun t_5 et_5 => ?_)
  refine lv_ldcw hx hb hown (ht _ wd_898) dJ6_bitCount_0f7a4_18 ?_
  obtain ⟨t_6, et_6⟩ : ∃ zz_ : Int32, t_5 &&& 858993459 = zz_ := ⟨_, rfl⟩
  refine gq_iand hx hb t_6 et_6 dJ6_bitCount_0f7a4_21 ?_
  have ft_6 := ia_and2 et_6 (by omega)
  obtain ⟨t_7, et_7⟩ : ∃ zz_ : Int32, t_4 + t_6 = zz_ := ⟨_, rfl⟩
  refine gq_iadd hx hb t_7 et_7 dJ6_bitCount_0f7a4_22 ?_
  have ft_7 := ia_add et_7 (by omega) (by omega)
  refine lv_istore_n (lv' := [(0, .int t_7)]) hx hb dJ6_bitCount_0f7a4_23 rfl hl (by decide) rfl (fun ls hl => ?_)
  refine lv_iload_n hx hb dJ6_bitCount_0f7a4_24 rfl (lv_at hl 0 rfl) ?_
  refine lv_iload_n hx hb dJ6_bitCount_0f7a4_25 rfl (lv_at hl 0 rfl) ?_
  refine lv_iconst (v := 4) hx hb dJ6_bitCount_0f7a4_26 (by decide +kernel) ?_
  refine lv_iushr hx hb dJ6_bitCount_0f7a4_27 rfl ?_
  refine lv_topi (fun t_8 et_8 => ?_)
  obtain ⟨t_9, et_9⟩ : ∃ zz_ : Int32, t_7 + t_8 = zz_ := ⟨_, rfl⟩
  refine gq_iadd hx hb t_9 et_9 dJ6_bitCount_0f7a4_28 ?_
  refine lv_ldcw hx hb hown (ht _ wd_899) dJ6_bitCount_0f7a4_29 ?_
  obtain ⟨t_10, et_10⟩ : ∃ zz_ : Int32, t_9 &&& 252645135 = zz_ := ⟨_, rfl⟩
  refine gq_iand hx hb t_10 et_10 dJ6_bitCount_0f7a4_32 ?_
  have ft_10 := ia_and2 et_10 (by omega)
  refine lv_istore_n (lv' := [(0, .int t_10)]) hx hb dJ6_bitCount_0f7a4_33 rfl hl (by decide) rfl (fun ls hl => ?_)
  refine lv_iload_n hx hb dJ6_bitCount_0f7a4_34 rfl (lv_at hl 0 rfl) ?_
  refine lv_iload_n hx hb dJ6_bitCount_0f7a4_35 rfl (lv_at hl 0 rfl) ?_
  refine lv_bipush (v := 8) hx hb dJ6_bitCount_0f7a4_36 (by decide +kernel) ?_
  refine lv_iushr hx hb dJ6_bitCount_0f7a4_38 rfl ?_
  refine lv_topi (fun t_11 et_11 => ?_)
  obtain ⟨t_12, et_12⟩ : ∃ zz_ : Int32, t_10 + t_11 = zz_ := ⟨_, rfl⟩
  refine gq_iadd hx hb t_12 et_12 dJ6_bitCount_0f7a4_39 ?_
  refine lv_istore_n (lv' := [(0, .int t_12)]) hx hb dJ6_bitCount_0f7a4_40 rfl hl (by decide) rfl (fun ls hl => ?_)
  refine lv_iload_n hx hb dJ6_bitCount_0f7a4_41 rfl (lv_at hl 0 rfl) ?_
  refine lv_iload_n hx hb dJ6_bitCount_0f7a4_42 rfl (lv_at hl 0 rfl) ?_
  refine lv_bipush (v := 16) hx hb dJ6_bitCount_0f7a4_43 (by decide +kernel) ?_
  refine lv_iushr hx hb dJ6_bitCount_0f7a4_45 rfl ?_
  refine lv_topi (fun t_13 et_13 => ?_)
  obtain ⟨t_14, et_14⟩ : ∃ zz_ : Int32, t_12 + t_13 = zz_ := ⟨_, rfl⟩
  refine gq_iadd hx hb t_14 et_14 dJ6_bitCount_0f7a4_46 ?_
  refine lv_istore_n (lv' := [(0, .int t_14)]) hx hb dJ6_bitCount_0f7a4_47 rfl hl (by decide) rfl (fun ls hl => ?_)
  refine lv_iload_n hx hb dJ6_bitCount_0f7a4_48 rfl (lv_at hl 0 rfl) ?_
  refine lv_bipush (v := 63) hx hb dJ6_bitCount_0f7a4_49 (by decide +kernel) ?_
  obtain ⟨t_15, et_15⟩ : ∃ zz_ : Int32, t_14 &&& 63 = zz_ := ⟨_, rfl⟩
  refine gq_iand hx hb t_15 et_15 dJ6_bitCount_0f7a4_51 ?_
  have ft_15 := ia_and2 et_15 (by omega)
  have hP9 := tw_right hP
  have hD9 := tw_rightD hD
  exact W.iret (v := t_15) hx hb hr (gq_endI wt ⟨hT, hW⟩ hP9 hD9 hS) hS.2.2 dJ6_bitCount_0f7a4_52
set_option maxHeartbeats 4000000 in
set_option maxRecDepth 100000 in
theorem d_lowest5 (l : Launch) (G : gg_T) (Γ : Nat → Nat) (sz : Nat) (wt : va_W) (hT : tk_ty G Γ wt) (x : Int32) (lo_x : 0 ≤ x.toInt) (hi_x : x.toInt ≤ 31) : Met l yX11_lowestOf (ts_L yX11_lowestOf cX11_lowestOf 2 (some .int)) ({ frames := 0, cells := 0, slots := 0, locals := 0 }) (gc_P G wt sz [.int x]) (gc_I G (va_A wt sz) (fun r (u : va_W) => tk_ty G Γ u ∧ tk_kp [] wt u ∧ 0 ≤ r.toInt ∧ r.toInt ≤ 4) (fun u => u)) 0 0 (va_A wt sz) := by
  refine Met.ofW (cc := cX11_lowestOf) (maxL := 2) (ret := (some .int)) (by decide) rfl ?_
  intro p e s m args below meth c s₁ B hml hv
  obtain ⟨rfl, hsz, hP, hK, hD0⟩ := hv
  have hx := B.exec
  have hb := B.bytes
  have hr := B.returns
  have ht := ts_ht (atoms_spec (ws := ts_L yX11_lowestOf cX11_lowestOf 2 (some .int)) B.pre)
  have hown : s.vm.findClass RX11 = some m.cls := findClass_of_methodNamed B.named
  have hlocks := B.notSynchronized
  subst hsz
  have hD := hD0.self (sz := s.heap.size)
  generalize hAe : va_A wt s.heap.size = A at hD ⊢
  have hA : ∀ q : Nat, s.heap.size ≤ q → A q := fun q h => by rw [← hAe]; exact Or.inr h
  clear hAe hD0
  have hS : va_S A s.heap s.heap [] := va_S.rf
  obtain ⟨w0, hw0⟩ : ∃ z, z = wt := ⟨_, rfl⟩
  have hW : tk_kp [] w0 wt := by rw [hw0]; exact tk_kp.rf
  rw [← hw0]
  clear hw0
  have hP : va_P (gg_D G) classes ([] ++ wt) s.heap := hP
  have hD : va_D A ([] ++ wt) := hD
  have hl := lv_entry ([.int x]) (n := 2) (Nat.le_of_ble_eq_true rfl)
  rw [lg_entry_eq]
  generalize (lg_sl ([.int x]) ++ List.replicate (2 - (lg_sl ([.int x])).length) Slot.unset).toArray = ls at hl ⊢
  have hl : lv_has ls 2 [(0, .int x)] := hl
  have l0 : (0 : Int32).toInt = 0 := by decide +kernel
  have l1 : (1 : Int32).toInt = 1 := by decide +kernel
  have l31 : (31 : Int32).toInt = 31 := by decide +kernel
  refine lv_iconst (v := 0) hx hb dX11_lowestOf_0 (by decide +kernel) ?_
  refine lv_istore_n (lv' := [(1, .int 0), (0, .int x)]) hx hb dX11_lowestOf_1 rfl hl (by decide) rfl (fun ls hl => ?_)
  refine tl_loopE (Γ := Γ) (nL := 2) (fun (zz_ : Int32) => match zz_ with | x2_0 => 0 ≤ x2_0.toInt ∧ x2_0.toInt ≤ 31) (fun (zz_ : Int32) => match zz_ with | x2_0 => (31 - x2_0.toInt).toNat) (fun (zz_ : Int32) => match zz_ with | x2_0 => [(1, .int x2_0), (0, .int x)]) (fun (zz_ : Int32) => match zz_ with | x2_0 => []) (fun (zz_ : Int32) (w : va_W) => match zz_ with | x2_0 => tk_kp [] w0 w) (fun zz_ hI H locs wt ls hT hW hP hD hS hl ih2 => ?_) 0 (show 0 ≤ (0 : Int32).toInt ∧ (0 : Int32).toInt ≤ 31 from ⟨by omega, by omega⟩) _ _ wt ls hT hW hP hD hS hl
  obtain ⟨x2_0, rfl⟩ : ∃ z2, z2 = zz_ := ⟨_, rfl⟩
  have hW : tk_kp [] w0 wt := hW
  have hI : 0 ≤ x2_0.toInt ∧ x2_0.toInt ≤ 31 := hI
  obtain ⟨j2_0, j2_1⟩ := hI
  have hl : lv_has ls 2 [(1, .int x2_0), (0, .int x)] := hl
  have hP : va_P (gg_D G) classes ([] ++ wt) H := hP
  have hD : va_D A ([] ++ wt) := hD
  refine lv_iload_n hx hb dX11_lowestOf_2 rfl (lv_at hl 0 rfl) ?_
  refine lv_bipush (v := 31) hx hb dX11_lowestOf_3 (by decide +kernel) ?_
  refine lv_icmp_ge (tgt := 24) hx hb dX11_lowestOf_5 (by decide) (fun c_1 => ?_) (fun c_1 => ?_)
  · rw [Int32.le_iff_toInt_le] at c_1
    refine lv_iconst (v := 0) hx hb dX11_lowestOf_24 (by decide +kernel) ?_
    have hP9 := tw_right hP
    have hD9 := tw_rightD hD
    exact W.iret (v := 0) hx hb hr (gq_endI wt ⟨hT, hW, (by omega), (by omega)⟩ hP9 hD9 hS) hS.2.2 dX11_lowestOf_25
  · rw [Int32.le_iff_toInt_le] at c_1
    refine lv_iload_n hx hb dX11_lowestOf_8 rfl (lv_at hl 1 rfl) ?_
    refine lv_iload_n hx hb dX11_lowestOf_9 rfl (lv_at hl 0 rfl) ?_
    obtain ⟨t_2, et_2⟩ : ∃ zz_ : Int32, x >>> (x2_0 &&& 31) = zz_ := ⟨_, rfl⟩
    refine gq_ishr hx hb t_2 et_2 dX11_lowestOf_10 ?_
    refine lv_iconst (v := 1) hx hb dX11_lowestOf_11 (by decide +kernel) ?_
    obtain ⟨t_3, et_3⟩ : ∃ zz_ : Int32, t_2 &&& 1 = zz_ := ⟨_, rfl⟩
    refine gq_iand hx hb t_3 et_3 dX11_lowestOf_12 ?_
    have mt_3 := ia_shr et_2 et_3 (by omega) (by omega) (by omega) (by omega)
    have ft_3 := ia_and2 et_3 (by omega)
    refine lv_if_eq (tgt := 18) hx hb dX11_lowestOf_13 (by decide) (fun c_4 => ?_) (fun c_4 => ?_)
    · rw [← Int32.toInt_inj] at c_4
      obtain ⟨t_5, et_5⟩ : ∃ zz_ : Int32, x2_0 + Int32.ofInt (1) = zz_ := ⟨_, rfl⟩
      have ft_5 : t_5.toInt = x2_0.toInt + (1 : Int32).toInt := ia_add (y := 1) et_5 (by omega) (by omega)
      refine lv_iinc (v := t_5) (lv' := [(1, .int t_5), (0, .int x)]) hx hb dX11_lowestOf_18 hl (k := 0) rfl et_5 (by decide) rfl (fun ls hl => ?_)
      refine lv_goto (tgt := 2) hx hb dX11_lowestOf_21 (by decide) ?_
      exact ih2 t_5 (show 0 ≤ t_5.toInt ∧ t_5.toInt ≤ 31 from ⟨by omega, by omega⟩) (show (31 - t_5.toInt).toNat < (31 - x2_0.toInt).toNat by omega) H locs wt ls hT hW hP hD hS (lv_sub hl [0, 1] rfl)
    · have ic_4 := mt_3 c_4
      rw [← Int32.toInt_inj] at c_4
      refine lv_iload_n hx hb dX11_lowestOf_16 rfl (lv_at hl 0 rfl) ?_
      have hP9 := tw_right hP
      have hD9 := tw_rightD hD
      exact W.iret (v := x2_0) hx hb hr (gq_endI wt ⟨hT, hW, (by omega), (by omega)⟩ hP9 hD9 hS) hS.2.2 dX11_lowestOf_17
set_option maxHeartbeats 4000000 in
set_option maxRecDepth 100000 in
theorem d_lowest (l : Launch) (G : gg_T) (Γ : Nat → Nat) (sz : Nat) (wt : va_W) (hT : tk_ty G Γ wt) (x : Int32) : Met l yX11_lowestOf (ts_L yX11_lowestOf cX11_lowestOf 2 (some .int)) ({ frames := 0, cells := 0, slots := 0, locals := 0 }) (gc_P G wt sz [.int x]) (gc_I G (va_A wt sz) (fun r (u : va_W) => tk_ty G Γ u ∧ tk_kp [] wt u ∧ 0 ≤ r.toInt ∧ r.toInt ≤ 30) (fun u => u)) 0 0 (va_A wt sz) := by
  refine Met.ofW (cc := cX11_lowestOf) (maxL := 2) (ret := (some .int)) (by decide) rfl ?_
  intro p e s m args below meth c s₁ B hml hv
  obtain ⟨rfl, hsz, hP, hK, hD0⟩ := hv
  have hx := B.exec
  have hb := B.bytes
  have hr := B.returns
  have ht := ts_ht (atoms_spec (ws := ts_L yX11_lowestOf cX11_lowestOf 2 (some .int)) B.pre)
  have hown : s.vm.findClass RX11 = some m.cls := findClass_of_methodNamed B.named
  have hlocks := B.notSynchronized
  subst hsz
  have hD := hD0.self (sz := s.heap.size)
  generalize hAe : va_A wt s.heap.size = A at hD ⊢
  have hA : ∀ q : Nat, s.heap.size ≤ q → A q := fun q h => by rw [← hAe]; exact Or.inr h
  clear hAe hD0
  have hS : va_S A s.heap s.heap [] := va_S.rf
  obtain ⟨w0, hw0⟩ : ∃ z, z = wt := ⟨_, rfl⟩
  have hW : tk_kp [] w0 wt := by rw [hw0]; exact tk_kp.rf
  rw [← hw0]
  clear hw0
  have hP : va_P (gg_D G) classes ([] ++ wt) s.heap := hP
  have hD : va_D A ([] ++ wt) := hD
  have hl := lv_entry ([.int x]) (n := 2) (Nat.le_of_ble_eq_true rfl)
  rw [lg_entry_eq]
  generalize (lg_sl ([.int x]) ++ List.replicate (2 - (lg_sl ([.int x])).length) Slot.unset).toArray = ls at hl ⊢
  have hl : lv_has ls 2 [(0, .int x)] := hl
  have l0 : (0 : Int32).toInt = 0 := by decide +kernel
  have l1 : (1 : Int32).toInt = 1 := by decide +kernel
  have l31 : (31 : Int32).toInt = 31 := by decide +kernel
  refine lv_iconst (v := 0) hx hb dX11_lowestOf_0 (by decide +kernel) ?_
  refine lv_istore_n (lv' := [(1, .int 0), (0, .int x)]) hx hb dX11_lowestOf_1 rfl hl (by decide) rfl (fun ls hl => ?_)
  refine tl_loopE (Γ := Γ) (nL := 2) (fun (zz_ : Int32) => match zz_ with | x2_0 => 0 ≤ x2_0.toInt ∧ x2_0.toInt ≤ 31) (fun (zz_ : Int32) => match zz_ with | x2_0 => (31 - x2_0.toInt).toNat) (fun (zz_ : Int32) => match zz_ with | x2_0 => [(1, .int x2_0), (0, .int x)]) (fun (zz_ : Int32) => match zz_ with | x2_0 => []) (fun (zz_ : Int32) (w : va_W) => match zz_ with | x2_0 => tk_kp [] w0 w) (fun zz_ hI H locs wt ls hT hW hP hD hS hl ih2 => ?_) 0 (show 0 ≤ (0 : Int32).toInt ∧ (0 : Int32).toInt ≤ 31 from ⟨by omega, by omega⟩) _ _ wt ls hT hW hP hD hS hl
  obtain ⟨x2_0, rfl⟩ : ∃ z2, z2 = zz_ := ⟨_, rfl⟩
  have hW : tk_kp [] w0 wt := hW
  have hI : 0 ≤ x2_0.toInt ∧ x2_0.toInt ≤ 31 := hI
  obtain ⟨j2_0, j2_1⟩ := hI
  have hl : lv_has ls 2 [(1, .int x2_0), (0, .int x)] := hl
  have hP : va_P (gg_D G) classes ([] ++ wt) H := hP
  have hD : va_D A ([] ++ wt) := hD
  refine lv_iload_n hx hb dX11_lowestOf_2 rfl (lv_at hl 0 rfl) ?_
  refine lv_bipush (v := 31) hx hb dX11_lowestOf_3 (by decide +kernel) ?_
  refine lv_icmp_ge (tgt := 24) hx hb dX11_lowestOf_5 (by decide) (fun c_1 => ?_) (fun c_1 => ?_)
  · rw [Int32.le_iff_toInt_le] at c_1
    refine lv_iconst (v := 0) hx hb dX11_lowestOf_24 (by decide +kernel) ?_
    have hP9 := tw_right hP
    have hD9 := tw_rightD hD
    exact W.iret (v := 0) hx hb hr (gq_endI wt ⟨hT, hW, (by omega), (by omega)⟩ hP9 hD9 hS) hS.2.2 dX11_lowestOf_25
  · rw [Int32.le_iff_toInt_le] at c_1
    refine lv_iload_n hx hb dX11_lowestOf_8 rfl (lv_at hl 1 rfl) ?_
    refine lv_iload_n hx hb dX11_lowestOf_9 rfl (lv_at hl 0 rfl) ?_
    obtain ⟨t_2, et_2⟩ : ∃ zz_ : Int32, x >>> (x2_0 &&& 31) = zz_ := ⟨_, rfl⟩
    refine gq_ishr hx hb t_2 et_2 dX11_lowestOf_10 ?_
    refine lv_iconst (v := 1) hx hb dX11_lowestOf_11 (by decide +kernel) ?_
    obtain ⟨t_3, et_3⟩ : ∃ zz_ : Int32, t_2 &&& 1 = zz_ := ⟨_, rfl⟩
    refine gq_iand hx hb t_3 et_3 dX11_lowestOf_12 ?_
    have ft_3 := ia_and2 et_3 (by omega)
    refine lv_if_eq (tgt := 18) hx hb dX11_lowestOf_13 (by decide) (fun c_4 => ?_) (fun c_4 => ?_)
    · rw [← Int32.toInt_inj] at c_4
      obtain ⟨t_5, et_5⟩ : ∃ zz_ : Int32, x2_0 + Int32.ofInt (1) = zz_ := ⟨_, rfl⟩
      have ft_5 : t_5.toInt = x2_0.toInt + (1 : Int32).toInt := ia_add (y := 1) et_5 (by omega) (by omega)
      refine lv_iinc (v := t_5) (lv' := [(1, .int t_5), (0, .int x)]) hx hb dX11_lowestOf_18 hl (k := 0) rfl et_5 (by decide) rfl (fun ls hl => ?_)
      refine lv_goto (tgt := 2) hx hb dX11_lowestOf_21 (by decide) ?_
      exact ih2 t_5 (show 0 ≤ t_5.toInt ∧ t_5.toInt ≤ 31 from ⟨by omega, by omega⟩) (show (31 - t_5.toInt).toNat < (31 - x2_0.toInt).toNat by omega) H locs wt ls hT hW hP hD hS (lv_sub hl [0, 1] rfl)
    · rw [← Int32.toInt_inj] at c_4
      refine lv_iload_n hx hb dX11_lowestOf_16 rfl (lv_at hl 0 rfl) ?_
      have hP9 := tw_right hP
      have hD9 := tw_rightD hD
      exact W.iret (v := x2_0) hx hb hr (gq_endI wt ⟨hT, hW, (by omega), (by omega)⟩ hP9 hD9 hS) hS.2.2 dX11_lowestOf_17
set_option maxHeartbeats 4000000 in
set_option maxRecDepth 100000 in
theorem d_silentOnes (l : Launch) (G : gg_T) (Γ : Nat → Nat) (sz : Nat) (wt : va_W) (hT : tk_ty G Γ wt) (t : Nat) (k_t : Γ t = 8) : Met l yX7_silentOnes (ts_L yX7_silentOnes cX7_silentOnes 3 (some .int)) ({ frames := 0, cells := 0, slots := 0, locals := 0 }) (gc_P G wt sz [.ref t]) (gc_I G (va_A wt sz) (fun r (u : va_W) => tk_ty G Γ u ∧ tk_kp [] wt u ∧ 0 ≤ r.toInt ∧ r.toInt ≤ 31) (fun u => u)) 0 0 (va_A wt sz) := by
  refine Met.ofW (cc := cX7_silentOnes) (maxL := 3) (ret := (some .int)) (by decide) rfl ?_
  intro p e s m args below meth c s₁ B hml hv
  obtain ⟨rfl, hsz, hP, hK, hD0⟩ := hv
  have hx := B.exec
  have hb := B.bytes
  have hr := B.returns
  have ht := ts_ht (atoms_spec (ws := ts_L yX7_silentOnes cX7_silentOnes 3 (some .int)) B.pre)
  have hown : s.vm.findClass RX7 = some m.cls := findClass_of_methodNamed B.named
  have hlocks := B.notSynchronized
  subst hsz
  have hD := hD0.self (sz := s.heap.size)
  generalize hAe : va_A wt s.heap.size = A at hD ⊢
  have hA : ∀ q : Nat, s.heap.size ≤ q → A q := fun q h => by rw [← hAe]; exact Or.inr h
  clear hAe hD0
  have hS : va_S A s.heap s.heap [] := va_S.rf
  obtain ⟨w0, hw0⟩ : ∃ z, z = wt := ⟨_, rfl⟩
  have hW : tk_kp [] w0 wt := by rw [hw0]; exact tk_kp.rf
  rw [← hw0]
  clear hw0
  have hP : va_P (gg_D G) classes ([] ++ wt) s.heap := hP
  have hD : va_D A ([] ++ wt) := hD
  have hl := lv_entry ([.ref t]) (n := 3) (Nat.le_of_ble_eq_true rfl)
  rw [lg_entry_eq]
  generalize (lg_sl ([.ref t]) ++ List.replicate (3 - (lg_sl ([.ref t])).length) Slot.unset).toArray = ls at hl ⊢
  have hl : lv_has ls 3 [(0, .ref t)] := hl
  have l0 : (0 : Int32).toInt = 0 := by decide +kernel
  have l1 : (1 : Int32).toInt = 1 := by decide +kernel
  have l3 : (3 : Int32).toInt = 3 := by decide +kernel
  refine lv_iconst (v := 0) hx hb dX7_silentOnes_0 (by decide +kernel) ?_
  refine lv_istore_n (lv' := [(1, .int 0), (0, .ref t)]) hx hb dX7_silentOnes_1 rfl hl (by decide) rfl (fun ls hl => ?_)
  refine lv_iconst (v := 0) hx hb dX7_silentOnes_2 (by decide +kernel) ?_
  refine lv_istore_n (lv' := [(2, .int 0), (1, .int 0), (0, .ref t)]) hx hb dX7_silentOnes_3 rfl hl (by decide) rfl (fun ls hl => ?_)
  refine tl_loopE (Γ := Γ) (nL := 3) (fun (zz_ : Int32 × Int32) => match zz_ with | (x4_0, x4_1) => 0 ≤ x4_0.toInt ∧ x4_0.toInt ≤ 3 ∧ 0 ≤ x4_1.toInt ∧ x4_1.toInt ≤ 31) (fun (zz_ : Int32 × Int32) => match zz_ with | (x4_0, x4_1) => (3 - x4_0.toInt).toNat) (fun (zz_ : Int32 × Int32) => match zz_ with | (x4_0, x4_1) => [(2, .int x4_0), (1, .int x4_1), (0, .ref t)]) (fun (zz_ : Int32 × Int32) => match zz_ with | (x4_0, x4_1) => []) (fun (zz_ : Int32 × Int32) (w : va_W) => match zz_ with | (x4_0, x4_1) => tk_kp [] w0 w) (fun zz_ hI H locs wt ls hT hW hP hD hS hl ih4 => ?_) (0, 0) (show 0 ≤ (0 : Int32).toInt ∧ (0 : Int32).toInt ≤ 3 ∧ 0 ≤ (0 : Int32).toInt ∧ (0 : Int32).toInt ≤ 31 from ⟨by omega, by omega, by omega, by omega⟩) _ _ wt ls hT hW hP hD hS hl
  obtain ⟨x4_0, x4_1⟩ := zz_
  have hW : tk_kp [] w0 wt := hW
  have hI : 0 ≤ x4_0.toInt ∧ x4_0.toInt ≤ 3 ∧ 0 ≤ x4_1.toInt ∧ x4_1.toInt ≤ 31 := hI
  obtain ⟨j4_0, j4_1, j4_2, j4_3⟩ := hI
  have hl : lv_has ls 3 [(2, .int x4_0), (1, .int x4_1), (0, .ref t)] := hl
  have hP : va_P (gg_D G) classes ([] ++ wt) H := hP
  have hD : va_D A ([] ++ wt) := hD
  refine lv_iload_n hx hb dX7_silentOnes_4 rfl (lv_at hl 0 rfl) ?_
  refine lv_iconst (v := 3) hx hb dX7_silentOnes_5 (by decide +kernel) ?_
  refine lv_icmp_ge (tgt := 24) hx hb dX7_silentOnes_6 (by decide) (fun c_1 => ?_) (fun c_1 => ?_)
  · rw [Int32.le_iff_toInt_le] at c_1
    refine lv_iload_n hx hb dX7_silentOnes_24 rfl (lv_at hl 1 rfl) ?_
    have hP9 := tw_right hP
    have hD9 := tw_rightD hD
    exact W.iret (v := x4_1) hx hb hr (gq_endI wt ⟨hT, hW, (by omega), (by omega)⟩ hP9 hD9 hS) hS.2.2 dX7_silentOnes_25
  · rw [Int32.le_iff_toInt_le] at c_1
    refine lv_iload_n hx hb dX7_silentOnes_9 rfl (lv_at hl 1 rfl) ?_
    refine lv_aload_n hx hb dX7_silentOnes_10 rfl (lv_at hl 2 rfl) ?_
    refine tr_get (ci := 7) hx hb ht hown hK hT hP k_t (by decide) i_X7 rfl 8 (by decide) wd_261 rfl dX7_silentOnes_11 (fun v hv hf_2 => ?_)
    obtain ⟨q_3, rfl, hq_3⟩ := hv
    refine lv_iload_n hx hb dX7_silentOnes_14 rfl (lv_at hl 0 rfl) ?_
    refine tr_iald hx hb hK hT hP 22 hq_3 (by decide) (by decide) (show vp_in _ (tk_len 22) from ia_in (n := 3) (by omega) (by omega)) dX7_silentOnes_15 (fun n_4 hn_4 => ?_)
    have hn_4 : 0 ≤ n_4.toInt ∧ n_4.toInt ≤ 31 := hn_4
    obtain ⟨t_5, et_5⟩ : ∃ zz_ : Int32, x4_1 ||| n_4 = zz_ := ⟨_, rfl⟩
    refine gq_ior hx hb t_5 et_5 dX7_silentOnes_16 ?_
    have ft_5 := ia_or31 et_5 (by omega) (by omega) (by omega) (by omega)
    refine lv_istore_n (lv' := [(1, .int t_5), (2, .int x4_0), (0, .ref t)]) hx hb dX7_silentOnes_17 rfl hl (by decide) rfl (fun ls hl => ?_)
    obtain ⟨t_6, et_6⟩ : ∃ zz_ : Int32, x4_0 + Int32.ofInt (1) = zz_ := ⟨_, rfl⟩
    have ft_6 : t_6.toInt = x4_0.toInt + (1 : Int32).toInt := ia_add (y := 1) et_6 (by omega) (by omega)
    refine lv_iinc (v := t_6) (lv' := [(2, .int t_6), (1, .int t_5), (0, .ref t)]) hx hb dX7_silentOnes_18 hl (k := 1) rfl et_6 (by decide) rfl (fun ls hl => ?_)
    refine lv_goto (tgt := 4) hx hb dX7_silentOnes_21 (by decide) ?_
    exact ih4 (t_6, t_5) (show 0 ≤ t_6.toInt ∧ t_6.toInt ≤ 3 ∧ 0 ≤ t_5.toInt ∧ t_5.toInt ≤ 31 from ⟨by omega, by omega, by omega, by omega⟩) (show (3 - t_6.toInt).toNat < (3 - x4_0.toInt).toNat by omega) H locs wt ls hT hW hP hD hS (lv_sub hl [0, 1, 2] rfl)
set_option maxHeartbeats 4000000 in
set_option maxRecDepth 100000 in
theorem d_sittersOf (l : Launch) (G : gg_T) (Γ : Nat → Nat) (sz : Nat) (wt : va_W) (hT : tk_ty G Γ wt) (t : Nat) (b : Int32) (k_t : Γ t = 8) : Met l yX7_sittersOf (ts_L yX7_sittersOf cX7_sittersOf 4 (some .int)) ({ frames := 0, cells := 0, slots := 0, locals := 0 }) (gc_P G wt sz [.ref t, .int b]) (gc_I G (va_A wt sz) (fun r (u : va_W) => tk_ty G Γ u ∧ tk_kp [] wt u ∧ 0 ≤ r.toInt ∧ r.toInt ≤ 31) (fun u => u)) 0 0 (va_A wt sz) := by
  refine Met.ofW (cc := cX7_sittersOf) (maxL := 4) (ret := (some .int)) (by decide) rfl ?_
  intro p e s m args below meth c s₁ B hml hv
  obtain ⟨rfl, hsz, hP, hK, hD0⟩ := hv
  have hx := B.exec
  have hb := B.bytes
  have hr := B.returns
  have ht := ts_ht (atoms_spec (ws := ts_L yX7_sittersOf cX7_sittersOf 4 (some .int)) B.pre)
  have hown : s.vm.findClass RX7 = some m.cls := findClass_of_methodNamed B.named
  have hlocks := B.notSynchronized
  subst hsz
  have hD := hD0.self (sz := s.heap.size)
  generalize hAe : va_A wt s.heap.size = A at hD ⊢
  have hA : ∀ q : Nat, s.heap.size ≤ q → A q := fun q h => by rw [← hAe]; exact Or.inr h
  clear hAe hD0
  have hS : va_S A s.heap s.heap [] := va_S.rf
  obtain ⟨w0, hw0⟩ : ∃ z, z = wt := ⟨_, rfl⟩
  have hW : tk_kp [] w0 wt := by rw [hw0]; exact tk_kp.rf
  rw [← hw0]
  clear hw0
  have hP : va_P (gg_D G) classes ([] ++ wt) s.heap := hP
  have hD : va_D A ([] ++ wt) := hD
  have hl := lv_entry ([.ref t, .int b]) (n := 4) (Nat.le_of_ble_eq_true rfl)
  rw [lg_entry_eq]
  generalize (lg_sl ([.ref t, .int b]) ++ List.replicate (4 - (lg_sl ([.ref t, .int b])).length) Slot.unset).toArray = ls at hl ⊢
  have hl : lv_has ls 4 [(0, .ref t), (1, .int b)] := hl
  have l0 : (0 : Int32).toInt = 0 := by decide +kernel
  have l1 : (1 : Int32).toInt = 1 := by decide +kernel
  have l5 : (5 : Int32).toInt = 5 := by decide +kernel
  refine lv_iconst (v := 0) hx hb dX7_sittersOf_0 (by decide +kernel) ?_
  refine lv_istore_n (lv' := [(2, .int 0), (0, .ref t), (1, .int b)]) hx hb dX7_sittersOf_1 rfl hl (by decide) rfl (fun ls hl => ?_)
  refine lv_iconst (v := 0) hx hb dX7_sittersOf_2 (by decide +kernel) ?_
  refine lv_istore_n (lv' := [(3, .int 0), (2, .int 0), (0, .ref t), (1, .int b)]) hx hb dX7_sittersOf_3 rfl hl (by decide) rfl (fun ls hl => ?_)
  refine tl_loopE (Γ := Γ) (nL := 4) (fun (zz_ : Int32 × Int32) => match zz_ with | (x4_0, x4_1) => 0 ≤ x4_0.toInt ∧ x4_0.toInt ≤ 5 ∧ 0 ≤ x4_1.toInt ∧ x4_1.toInt ≤ 31) (fun (zz_ : Int32 × Int32) => match zz_ with | (x4_0, x4_1) => (5 - x4_0.toInt).toNat) (fun (zz_ : Int32 × Int32) => match zz_ with | (x4_0, x4_1) => [(3, .int x4_0), (2, .int x4_1), (0, .ref t), (1, .int b)]) (fun (zz_ : Int32 × Int32) => match zz_ with | (x4_0, x4_1) => []) (fun (zz_ : Int32 × Int32) (w : va_W) => match zz_ with | (x4_0, x4_1) => tk_kp [] w0 w) (fun zz_ hI H locs wt ls hT hW hP hD hS hl ih4 => ?_) (0, 0) (show 0 ≤ (0 : Int32).toInt ∧ (0 : Int32).toInt ≤ 5 ∧ 0 ≤ (0 : Int32).toInt ∧ (0 : Int32).toInt ≤ 31 from ⟨by omega, by omega, by omega, by omega⟩) _ _ wt ls hT hW hP hD hS hl
  obtain ⟨x4_0, x4_1⟩ := zz_
  have hW : tk_kp [] w0 wt := hW
  have hI : 0 ≤ x4_0.toInt ∧ x4_0.toInt ≤ 5 ∧ 0 ≤ x4_1.toInt ∧ x4_1.toInt ≤ 31 := hI
  obtain ⟨j4_0, j4_1, j4_2, j4_3⟩ := hI
  have hl : lv_has ls 4 [(3, .int x4_0), (2, .int x4_1), (0, .ref t), (1, .int b)] := hl
  have hP : va_P (gg_D G) classes ([] ++ wt) H := hP
  have hD : va_D A ([] ++ wt) := hD
  refine lv_iload_n hx hb dX7_sittersOf_4 rfl (lv_at hl 0 rfl) ?_
  refine lv_iconst (v := 5) hx hb dX7_sittersOf_5 (by decide +kernel) ?_
  refine lv_icmp_ge (tgt := 35) hx hb dX7_sittersOf_6 (by decide) (fun c_1 => ?_) (fun c_1 => ?_)
  · rw [Int32.le_iff_toInt_le] at c_1
    refine lv_iload_n hx hb dX7_sittersOf_35 rfl (lv_at hl 1 rfl) ?_
    have hP9 := tw_right hP
    have hD9 := tw_rightD hD
    exact W.iret (v := x4_1) hx hb hr (gq_endI wt ⟨hT, hW, (by omega), (by omega)⟩ hP9 hD9 hS) hS.2.2 dX7_sittersOf_36
  · rw [Int32.le_iff_toInt_le] at c_1
    refine lv_iload_n hx hb dX7_sittersOf_9 rfl (lv_at hl 1 rfl) ?_
    refine lv_aload_n hx hb dX7_sittersOf_10 rfl (lv_at hl 2 rfl) ?_
    refine tr_get (ci := 7) hx hb ht hown hK hT hP k_t (by decide) i_X7 rfl 2 (by decide) wd_239 rfl dX7_sittersOf_11 (fun v hv hf_2 => ?_)
    obtain ⟨q_3, rfl, hq_3⟩ := hv
    refine lv_iload_n hx hb dX7_sittersOf_14 rfl (lv_at hl 0 rfl) ?_
    refine tr_iald hx hb hK hT hP 20 hq_3 (by decide) (by decide) (show vp_in _ (tk_len 20) from ia_in (n := 5) (by omega) (by omega)) dX7_sittersOf_15 (fun n_4 hn_4 => ?_)
    clear hn_4
    refine lv_iload_n hx hb dX7_sittersOf_16 rfl (lv_at hl 3 rfl) ?_
    refine lv_icmp_ne (tgt := 26) hx hb dX7_sittersOf_17 (by decide) (fun c_5 => ?_) (fun c_5 => ?_)
    · rw [← Int32.toInt_inj] at c_5
      refine lv_iconst (v := 0) hx hb dX7_sittersOf_26 (by decide +kernel) ?_
      obtain ⟨t_6, et_6⟩ : ∃ zz_ : Int32, x4_1 ||| 0 = zz_ := ⟨_, rfl⟩
      refine gq_ior hx hb t_6 et_6 dX7_sittersOf_27 ?_
      have ft_6 := ia_or31 et_6 (by omega) (by omega) (by omega) (by omega)
      refine lv_istore_n (lv' := [(2, .int t_6), (3, .int x4_0), (0, .ref t), (1, .int b)]) hx hb dX7_sittersOf_28 rfl hl (by decide) rfl (fun ls hl => ?_)
      obtain ⟨t_7, et_7⟩ : ∃ zz_ : Int32, x4_0 + Int32.ofInt (1) = zz_ := ⟨_, rfl⟩
      have ft_7 : t_7.toInt = x4_0.toInt + (1 : Int32).toInt := ia_add (y := 1) et_7 (by omega) (by omega)
      refine lv_iinc (v := t_7) (lv' := [(3, .int t_7), (2, .int t_6), (0, .ref t), (1, .int b)]) hx hb dX7_sittersOf_29 hl (k := 1) rfl et_7 (by decide) rfl (fun ls hl => ?_)
      refine lv_goto (tgt := 4) hx hb dX7_sittersOf_32 (by decide) ?_
      exact ih4 (t_7, t_6) (show 0 ≤ t_7.toInt ∧ t_7.toInt ≤ 5 ∧ 0 ≤ t_6.toInt ∧ t_6.toInt ≤ 31 from ⟨by omega, by omega, by omega, by omega⟩) (show (5 - t_7.toInt).toNat < (5 - x4_0.toInt).toNat by omega) H locs wt ls hT hW hP hD hS (lv_sub hl [0, 1, 2, 3] rfl)
    · rw [← Int32.toInt_inj] at c_5
      refine lv_iconst (v := 1) hx hb dX7_sittersOf_20 (by decide +kernel) ?_
      refine lv_iload_n hx hb dX7_sittersOf_21 rfl (lv_at hl 0 rfl) ?_
      obtain ⟨t_8, et_8⟩ : ∃ zz_ : Int32, 1 <<< (x4_0 &&& 31) = zz_ := ⟨_, rfl⟩
      refine gq_ishl hx hb t_8 et_8 dX7_sittersOf_22 ?_
      have ft_8 := ia_bit et_8 (by omega) (by omega)
      refine lv_goto (tgt := 27) hx hb dX7_sittersOf_23 (by decide) ?_
      obtain ⟨t_9, et_9⟩ : ∃ zz_ : Int32, x4_1 ||| t_8 = zz_ := ⟨_, rfl⟩
      refine gq_ior hx hb t_9 et_9 dX7_sittersOf_27 ?_
      have ft_9 := ia_or31 et_9 (by omega) (by omega) (by omega) (by omega)
      refine lv_istore_n (lv' := [(2, .int t_9), (3, .int x4_0), (0, .ref t), (1, .int b)]) hx hb dX7_sittersOf_28 rfl hl (by decide) rfl (fun ls hl => ?_)
      obtain ⟨t_10, et_10⟩ : ∃ zz_ : Int32, x4_0 + Int32.ofInt (1) = zz_ := ⟨_, rfl⟩
      have ft_10 : t_10.toInt = x4_0.toInt + (1 : Int32).toInt := ia_add (y := 1) et_10 (by omega) (by omega)
      refine lv_iinc (v := t_10) (lv' := [(3, .int t_10), (2, .int t_9), (0, .ref t), (1, .int b)]) hx hb dX7_sittersOf_29 hl (k := 1) rfl et_10 (by decide) rfl (fun ls hl => ?_)
      refine lv_goto (tgt := 4) hx hb dX7_sittersOf_32 (by decide) ?_
      exact ih4 (t_10, t_9) (show 0 ≤ t_10.toInt ∧ t_10.toInt ≤ 5 ∧ 0 ≤ t_9.toInt ∧ t_9.toInt ≤ 31 from ⟨by omega, by omega, by omega, by omega⟩) (show (5 - t_10.toInt).toNat < (5 - x4_0.toInt).toNat by omega) H locs wt ls hT hW hP hD hS (lv_sub hl [0, 1, 2, 3] rfl)
set_option maxHeartbeats 4000000 in
set_option maxRecDepth 100000 in
theorem d_lotsAt (l : Launch) (G : gg_T) (Γ : Nat → Nat) (sz : Nat) (wt : va_W) (hT : tk_ty G Γ wt) (t : Nat) (b : Int32) (k_t : Γ t = 8) : Met l yX7_lotsAt (ts_L yX7_lotsAt cX7_lotsAt 4 (some .int)) ({ frames := 0, cells := 0, slots := 0, locals := 0 }) (gc_P G wt sz [.ref t, .int b]) (gc_I G (va_A wt sz) (fun r (u : va_W) => tk_ty G Γ u ∧ tk_kp [] wt u ∧ 0 ≤ r.toInt ∧ r.toInt ≤ 31) (fun u => u)) 0 0 (va_A wt sz) := by
  refine Met.ofW (cc := cX7_lotsAt) (maxL := 4) (ret := (some .int)) (by decide) rfl ?_
  intro p e s m args below meth c s₁ B hml hv
  obtain ⟨rfl, hsz, hP, hK, hD0⟩ := hv
  have hx := B.exec
  have hb := B.bytes
  have hr := B.returns
  have ht := ts_ht (atoms_spec (ws := ts_L yX7_lotsAt cX7_lotsAt 4 (some .int)) B.pre)
  have hown : s.vm.findClass RX7 = some m.cls := findClass_of_methodNamed B.named
  have hlocks := B.notSynchronized
  subst hsz
  have hD := hD0.self (sz := s.heap.size)
  generalize hAe : va_A wt s.heap.size = A at hD ⊢
  have hA : ∀ q : Nat, s.heap.size ≤ q → A q := fun q h => by rw [← hAe]; exact Or.inr h
  clear hAe hD0
  have hS : va_S A s.heap s.heap [] := va_S.rf
  obtain ⟨w0, hw0⟩ : ∃ z, z = wt := ⟨_, rfl⟩
  have hW : tk_kp [] w0 wt := by rw [hw0]; exact tk_kp.rf
  rw [← hw0]
  clear hw0
  have hP : va_P (gg_D G) classes ([] ++ wt) s.heap := hP
  have hD : va_D A ([] ++ wt) := hD
  have hl := lv_entry ([.ref t, .int b]) (n := 4) (Nat.le_of_ble_eq_true rfl)
  rw [lg_entry_eq]
  generalize (lg_sl ([.ref t, .int b]) ++ List.replicate (4 - (lg_sl ([.ref t, .int b])).length) Slot.unset).toArray = ls at hl ⊢
  have hl : lv_has ls 4 [(0, .ref t), (1, .int b)] := hl
  have l0 : (0 : Int32).toInt = 0 := by decide +kernel
  have l1 : (1 : Int32).toInt = 1 := by decide +kernel
  have l3 : (3 : Int32).toInt = 3 := by decide +kernel
  refine lv_iconst (v := 0) hx hb dX7_lotsAt_0 (by decide +kernel) ?_
  refine lv_istore_n (lv' := [(2, .int 0), (0, .ref t), (1, .int b)]) hx hb dX7_lotsAt_1 rfl hl (by decide) rfl (fun ls hl => ?_)
  refine lv_iconst (v := 0) hx hb dX7_lotsAt_2 (by decide +kernel) ?_
  refine lv_istore_n (lv' := [(3, .int 0), (2, .int 0), (0, .ref t), (1, .int b)]) hx hb dX7_lotsAt_3 rfl hl (by decide) rfl (fun ls hl => ?_)
  refine tl_loopE (Γ := Γ) (nL := 4) (fun (zz_ : Int32 × Int32) => match zz_ with | (x4_0, x4_1) => 0 ≤ x4_0.toInt ∧ x4_0.toInt ≤ 3 ∧ 0 ≤ x4_1.toInt ∧ x4_1.toInt ≤ 31) (fun (zz_ : Int32 × Int32) => match zz_ with | (x4_0, x4_1) => (3 - x4_0.toInt).toNat) (fun (zz_ : Int32 × Int32) => match zz_ with | (x4_0, x4_1) => [(3, .int x4_0), (2, .int x4_1), (0, .ref t), (1, .int b)]) (fun (zz_ : Int32 × Int32) => match zz_ with | (x4_0, x4_1) => []) (fun (zz_ : Int32 × Int32) (w : va_W) => match zz_ with | (x4_0, x4_1) => tk_kp [] w0 w) (fun zz_ hI H locs wt ls hT hW hP hD hS hl ih4 => ?_) (0, 0) (show 0 ≤ (0 : Int32).toInt ∧ (0 : Int32).toInt ≤ 3 ∧ 0 ≤ (0 : Int32).toInt ∧ (0 : Int32).toInt ≤ 31 from ⟨by omega, by omega, by omega, by omega⟩) _ _ wt ls hT hW hP hD hS hl
  obtain ⟨x4_0, x4_1⟩ := zz_
  have hW : tk_kp [] w0 wt := hW
  have hI : 0 ≤ x4_0.toInt ∧ x4_0.toInt ≤ 3 ∧ 0 ≤ x4_1.toInt ∧ x4_1.toInt ≤ 31 := hI
  obtain ⟨j4_0, j4_1, j4_2, j4_3⟩ := hI
  have hl : lv_has ls 4 [(3, .int x4_0), (2, .int x4_1), (0, .ref t), (1, .int b)] := hl
  have hP : va_P (gg_D G) classes ([] ++ wt) H := hP
  have hD : va_D A ([] ++ wt) := hD
  refine lv_iload_n hx hb dX7_lotsAt_4 rfl (lv_at hl 0 rfl) ?_
  refine lv_iconst (v := 3) hx hb dX7_lotsAt_5 (by decide +kernel) ?_
  refine lv_icmp_ge (tgt := 35) hx hb dX7_lotsAt_6 (by decide) (fun c_1 => ?_) (fun c_1 => ?_)
  · rw [Int32.le_iff_toInt_le] at c_1
    refine lv_iload_n hx hb dX7_lotsAt_35 rfl (lv_at hl 1 rfl) ?_
    have hP9 := tw_right hP
    have hD9 := tw_rightD hD
    exact W.iret (v := x4_1) hx hb hr (gq_endI wt ⟨hT, hW, (by omega), (by omega)⟩ hP9 hD9 hS) hS.2.2 dX7_lotsAt_36
  · rw [Int32.le_iff_toInt_le] at c_1
    refine lv_iload_n hx hb dX7_lotsAt_9 rfl (lv_at hl 1 rfl) ?_
    refine lv_aload_n hx hb dX7_lotsAt_10 rfl (lv_at hl 2 rfl) ?_
    refine tr_get (ci := 7) hx hb ht hown hK hT hP k_t (by decide) i_X7 rfl 4 (by decide) wd_246 rfl dX7_lotsAt_11 (fun v hv hf_2 => ?_)
    obtain ⟨q_3, rfl, hq_3⟩ := hv
    refine lv_iload_n hx hb dX7_lotsAt_14 rfl (lv_at hl 0 rfl) ?_
    refine tr_iald hx hb hK hT hP 21 hq_3 (by decide) (by decide) (show vp_in _ (tk_len 21) from ia_in (n := 3) (by omega) (by omega)) dX7_lotsAt_15 (fun n_4 hn_4 => ?_)
    clear hn_4
    refine lv_iload_n hx hb dX7_lotsAt_16 rfl (lv_at hl 3 rfl) ?_
    refine lv_icmp_ne (tgt := 26) hx hb dX7_lotsAt_17 (by decide) (fun c_5 => ?_) (fun c_5 => ?_)
    · rw [← Int32.toInt_inj] at c_5
      refine lv_iconst (v := 0) hx hb dX7_lotsAt_26 (by decide +kernel) ?_
      obtain ⟨t_6, et_6⟩ : ∃ zz_ : Int32, x4_1 ||| 0 = zz_ := ⟨_, rfl⟩
      refine gq_ior hx hb t_6 et_6 dX7_lotsAt_27 ?_
      have ft_6 := ia_or31 et_6 (by omega) (by omega) (by omega) (by omega)
      refine lv_istore_n (lv' := [(2, .int t_6), (3, .int x4_0), (0, .ref t), (1, .int b)]) hx hb dX7_lotsAt_28 rfl hl (by decide) rfl (fun ls hl => ?_)
      obtain ⟨t_7, et_7⟩ : ∃ zz_ : Int32, x4_0 + Int32.ofInt (1) = zz_ := ⟨_, rfl⟩
      have ft_7 : t_7.toInt = x4_0.toInt + (1 : Int32).toInt := ia_add (y := 1) et_7 (by omega) (by omega)
      refine lv_iinc (v := t_7) (lv' := [(3, .int t_7), (2, .int t_6), (0, .ref t), (1, .int b)]) hx hb dX7_lotsAt_29 hl (k := 1) rfl et_7 (by decide) rfl (fun ls hl => ?_)
      refine lv_goto (tgt := 4) hx hb dX7_lotsAt_32 (by decide) ?_
      exact ih4 (t_7, t_6) (show 0 ≤ t_7.toInt ∧ t_7.toInt ≤ 3 ∧ 0 ≤ t_6.toInt ∧ t_6.toInt ≤ 31 from ⟨by omega, by omega, by omega, by omega⟩) (show (3 - t_7.toInt).toNat < (3 - x4_0.toInt).toNat by omega) H locs wt ls hT hW hP hD hS (lv_sub hl [0, 1, 2, 3] rfl)
    · rw [← Int32.toInt_inj] at c_5
      refine lv_iconst (v := 1) hx hb dX7_lotsAt_20 (by decide +kernel) ?_
      refine lv_iload_n hx hb dX7_lotsAt_21 rfl (lv_at hl 0 rfl) ?_
      obtain ⟨t_8, et_8⟩ : ∃ zz_ : Int32, 1 <<< (x4_0 &&& 31) = zz_ := ⟨_, rfl⟩
      refine gq_ishl hx hb t_8 et_8 dX7_lotsAt_22 ?_
      have ft_8 := ia_bit et_8 (by omega) (by omega)
      refine lv_goto (tgt := 27) hx hb dX7_lotsAt_23 (by decide) ?_
      obtain ⟨t_9, et_9⟩ : ∃ zz_ : Int32, x4_1 ||| t_8 = zz_ := ⟨_, rfl⟩
      refine gq_ior hx hb t_9 et_9 dX7_lotsAt_27 ?_
      have ft_9 := ia_or31 et_9 (by omega) (by omega) (by omega) (by omega)
      refine lv_istore_n (lv' := [(2, .int t_9), (3, .int x4_0), (0, .ref t), (1, .int b)]) hx hb dX7_lotsAt_28 rfl hl (by decide) rfl (fun ls hl => ?_)
      obtain ⟨t_10, et_10⟩ : ∃ zz_ : Int32, x4_0 + Int32.ofInt (1) = zz_ := ⟨_, rfl⟩
      have ft_10 : t_10.toInt = x4_0.toInt + (1 : Int32).toInt := ia_add (y := 1) et_10 (by omega) (by omega)
      refine lv_iinc (v := t_10) (lv' := [(3, .int t_10), (2, .int t_9), (0, .ref t), (1, .int b)]) hx hb dX7_lotsAt_29 hl (k := 1) rfl et_10 (by decide) rfl (fun ls hl => ?_)
      refine lv_goto (tgt := 4) hx hb dX7_lotsAt_32 (by decide) ?_
      exact ih4 (t_10, t_9) (show 0 ≤ t_10.toInt ∧ t_10.toInt ≤ 3 ∧ 0 ≤ t_9.toInt ∧ t_9.toInt ≤ 31 from ⟨by omega, by omega, by omega, by omega⟩) (show (3 - t_10.toInt).toNat < (3 - x4_0.toInt).toNat by omega) H locs wt ls hT hW hP hD hS (lv_sub hl [0, 1, 2, 3] rfl)
set_option maxHeartbeats 4000000 in
set_option maxRecDepth 100000 in
theorem d_lotsOf (l : Launch) (G : gg_T) (Γ : Nat → Nat) (sz : Nat) (wt : va_W) (hT : tk_ty G Γ wt) (t : Nat) (b : Int32) (k_t : Γ t = 8) : Met l yX7_lotsOf (ts_L yX7_lotsOf cX7_lotsOf 4 (some .int)) ({ frames := 0, cells := 0, slots := 0, locals := 0 }) (gc_P G wt sz [.ref t, .int b]) (gc_I G (va_A wt sz) (fun r (u : va_W) => tk_ty G Γ u ∧ tk_kp [] wt u ∧ 0 ≤ r.toInt ∧ r.toInt ≤ 31) (fun u => u)) 0 0 (va_A wt sz) := by
  refine Met.ofW (cc := cX7_lotsOf) (maxL := 4) (ret := (some .int)) (by decide) rfl ?_
  intro p e s m args below meth c s₁ B hml hv
  obtain ⟨rfl, hsz, hP, hK, hD0⟩ := hv
  have hx := B.exec
  have hb := B.bytes
  have hr := B.returns
  have ht := ts_ht (atoms_spec (ws := ts_L yX7_lotsOf cX7_lotsOf 4 (some .int)) B.pre)
  have hown : s.vm.findClass RX7 = some m.cls := findClass_of_methodNamed B.named
  have hlocks := B.notSynchronized
  subst hsz
  have hD := hD0.self (sz := s.heap.size)
  generalize hAe : va_A wt s.heap.size = A at hD ⊢
  have hA : ∀ q : Nat, s.heap.size ≤ q → A q := fun q h => by rw [← hAe]; exact Or.inr h
  clear hAe hD0
  have hS : va_S A s.heap s.heap [] := va_S.rf
  obtain ⟨w0, hw0⟩ : ∃ z, z = wt := ⟨_, rfl⟩
  have hW : tk_kp [] w0 wt := by rw [hw0]; exact tk_kp.rf
  rw [← hw0]
  clear hw0
  have hP : va_P (gg_D G) classes ([] ++ wt) s.heap := hP
  have hD : va_D A ([] ++ wt) := hD
  have hl := lv_entry ([.ref t, .int b]) (n := 4) (Nat.le_of_ble_eq_true rfl)
  rw [lg_entry_eq]
  generalize (lg_sl ([.ref t, .int b]) ++ List.replicate (4 - (lg_sl ([.ref t, .int b])).length) Slot.unset).toArray = ls at hl ⊢
  have hl : lv_has ls 4 [(0, .ref t), (1, .int b)] := hl
  have l0 : (0 : Int32).toInt = 0 := by decide +kernel
  have l1 : (1 : Int32).toInt = 1 := by decide +kernel
  have l3 : (3 : Int32).toInt = 3 := by decide +kernel
  refine lv_iconst (v := 0) hx hb dX7_lotsOf_0 (by decide +kernel) ?_
  refine lv_istore_n (lv' := [(2, .int 0), (0, .ref t), (1, .int b)]) hx hb dX7_lotsOf_1 rfl hl (by decide) rfl (fun ls hl => ?_)
  refine lv_iconst (v := 0) hx hb dX7_lotsOf_2 (by decide +kernel) ?_
  refine lv_istore_n (lv' := [(3, .int 0), (2, .int 0), (0, .ref t), (1, .int b)]) hx hb dX7_lotsOf_3 rfl hl (by decide) rfl (fun ls hl => ?_)
  refine tl_loopE (Γ := Γ) (nL := 4) (fun (zz_ : Int32 × Int32) => match zz_ with | (x4_0, x4_1) => 0 ≤ x4_0.toInt ∧ x4_0.toInt ≤ 3 ∧ 0 ≤ x4_1.toInt ∧ x4_1.toInt ≤ 31) (fun (zz_ : Int32 × Int32) => match zz_ with | (x4_0, x4_1) => (3 - x4_0.toInt).toNat) (fun (zz_ : Int32 × Int32) => match zz_ with | (x4_0, x4_1) => [(3, .int x4_0), (2, .int x4_1), (0, .ref t), (1, .int b)]) (fun (zz_ : Int32 × Int32) => match zz_ with | (x4_0, x4_1) => []) (fun (zz_ : Int32 × Int32) (w : va_W) => match zz_ with | (x4_0, x4_1) => tk_kp [] w0 w) (fun zz_ hI H locs wt ls hT hW hP hD hS hl ih4 => ?_) (0, 0) (show 0 ≤ (0 : Int32).toInt ∧ (0 : Int32).toInt ≤ 3 ∧ 0 ≤ (0 : Int32).toInt ∧ (0 : Int32).toInt ≤ 31 from ⟨by omega, by omega, by omega, by omega⟩) _ _ wt ls hT hW hP hD hS hl
  obtain ⟨x4_0, x4_1⟩ := zz_
  have hW : tk_kp [] w0 wt := hW
  have hI : 0 ≤ x4_0.toInt ∧ x4_0.toInt ≤ 3 ∧ 0 ≤ x4_1.toInt ∧ x4_1.toInt ≤ 31 := hI
  obtain ⟨j4_0, j4_1, j4_2, j4_3⟩ := hI
  have hl : lv_has ls 4 [(3, .int x4_0), (2, .int x4_1), (0, .ref t), (1, .int b)] := hl
  have hP : va_P (gg_D G) classes ([] ++ wt) H := hP
  have hD : va_D A ([] ++ wt) := hD
  refine lv_iload_n hx hb dX7_lotsOf_4 rfl (lv_at hl 0 rfl) ?_
  refine lv_iconst (v := 3) hx hb dX7_lotsOf_5 (by decide +kernel) ?_
  refine lv_icmp_ge (tgt := 35) hx hb dX7_lotsOf_6 (by decide) (fun c_1 => ?_) (fun c_1 => ?_)
  · rw [Int32.le_iff_toInt_le] at c_1
    refine lv_iload_n hx hb dX7_lotsOf_35 rfl (lv_at hl 1 rfl) ?_
    have hP9 := tw_right hP
    have hD9 := tw_rightD hD
    exact W.iret (v := x4_1) hx hb hr (gq_endI wt ⟨hT, hW, (by omega), (by omega)⟩ hP9 hD9 hS) hS.2.2 dX7_lotsOf_36
  · rw [Int32.le_iff_toInt_le] at c_1
    refine lv_iload_n hx hb dX7_lotsOf_9 rfl (lv_at hl 1 rfl) ?_
    refine lv_aload_n hx hb dX7_lotsOf_10 rfl (lv_at hl 2 rfl) ?_
    refine tr_get (ci := 7) hx hb ht hown hK hT hP k_t (by decide) i_X7 rfl 6 (by decide) wd_254 rfl dX7_lotsOf_11 (fun v hv hf_2 => ?_)
    obtain ⟨q_3, rfl, hq_3⟩ := hv
    refine lv_iload_n hx hb dX7_lotsOf_14 rfl (lv_at hl 0 rfl) ?_
    refine tr_iald hx hb hK hT hP 21 hq_3 (by decide) (by decide) (show vp_in _ (tk_len 21) from ia_in (n := 3) (by omega) (by omega)) dX7_lotsOf_15 (fun n_4 hn_4 => ?_)
    clear hn_4
    refine lv_iload_n hx hb dX7_lotsOf_16 rfl (lv_at hl 3 rfl) ?_
    refine lv_icmp_ne (tgt := 26) hx hb dX7_lotsOf_17 (by decide) (fun c_5 => ?_) (fun c_5 => ?_)
    · rw [← Int32.toInt_inj] at c_5
      refine lv_iconst (v := 0) hx hb dX7_lotsOf_26 (by decide +kernel) ?_
      obtain ⟨t_6, et_6⟩ : ∃ zz_ : Int32, x4_1 ||| 0 = zz_ := ⟨_, rfl⟩
      refine gq_ior hx hb t_6 et_6 dX7_lotsOf_27 ?_
      have ft_6 := ia_or31 et_6 (by omega) (by omega) (by omega) (by omega)
      refine lv_istore_n (lv' := [(2, .int t_6), (3, .int x4_0), (0, .ref t), (1, .int b)]) hx hb dX7_lotsOf_28 rfl hl (by decide) rfl (fun ls hl => ?_)
      obtain ⟨t_7, et_7⟩ : ∃ zz_ : Int32, x4_0 + Int32.ofInt (1) = zz_ := ⟨_, rfl⟩
      have ft_7 : t_7.toInt = x4_0.toInt + (1 : Int32).toInt := ia_add (y := 1) et_7 (by omega) (by omega)
      refine lv_iinc (v := t_7) (lv' := [(3, .int t_7), (2, .int t_6), (0, .ref t), (1, .int b)]) hx hb dX7_lotsOf_29 hl (k := 1) rfl et_7 (by decide) rfl (fun ls hl => ?_)
      refine lv_goto (tgt := 4) hx hb dX7_lotsOf_32 (by decide) ?_
      exact ih4 (t_7, t_6) (show 0 ≤ t_7.toInt ∧ t_7.toInt ≤ 3 ∧ 0 ≤ t_6.toInt ∧ t_6.toInt ≤ 31 from ⟨by omega, by omega, by omega, by omega⟩) (show (3 - t_7.toInt).toNat < (3 - x4_0.toInt).toNat by omega) H locs wt ls hT hW hP hD hS (lv_sub hl [0, 1, 2, 3] rfl)
    · rw [← Int32.toInt_inj] at c_5
      refine lv_iconst (v := 1) hx hb dX7_lotsOf_20 (by decide +kernel) ?_
      refine lv_iload_n hx hb dX7_lotsOf_21 rfl (lv_at hl 0 rfl) ?_
      obtain ⟨t_8, et_8⟩ : ∃ zz_ : Int32, 1 <<< (x4_0 &&& 31) = zz_ := ⟨_, rfl⟩
      refine gq_ishl hx hb t_8 et_8 dX7_lotsOf_22 ?_
      have ft_8 := ia_bit et_8 (by omega) (by omega)
      refine lv_goto (tgt := 27) hx hb dX7_lotsOf_23 (by decide) ?_
      obtain ⟨t_9, et_9⟩ : ∃ zz_ : Int32, x4_1 ||| t_8 = zz_ := ⟨_, rfl⟩
      refine gq_ior hx hb t_9 et_9 dX7_lotsOf_27 ?_
      have ft_9 := ia_or31 et_9 (by omega) (by omega) (by omega) (by omega)
      refine lv_istore_n (lv' := [(2, .int t_9), (3, .int x4_0), (0, .ref t), (1, .int b)]) hx hb dX7_lotsOf_28 rfl hl (by decide) rfl (fun ls hl => ?_)
      obtain ⟨t_10, et_10⟩ : ∃ zz_ : Int32, x4_0 + Int32.ofInt (1) = zz_ := ⟨_, rfl⟩
      have ft_10 : t_10.toInt = x4_0.toInt + (1 : Int32).toInt := ia_add (y := 1) et_10 (by omega) (by omega)
      refine lv_iinc (v := t_10) (lv' := [(3, .int t_10), (2, .int t_9), (0, .ref t), (1, .int b)]) hx hb dX7_lotsOf_29 hl (k := 1) rfl et_10 (by decide) rfl (fun ls hl => ?_)
      refine lv_goto (tgt := 4) hx hb dX7_lotsOf_32 (by decide) ?_
      exact ih4 (t_10, t_9) (show 0 ≤ t_10.toInt ∧ t_10.toInt ≤ 3 ∧ 0 ≤ t_9.toInt ∧ t_9.toInt ≤ 31 from ⟨by omega, by omega, by omega, by omega⟩) (show (3 - t_10.toInt).toNat < (3 - x4_0.toInt).toNat by omega) H locs wt ls hT hW hP hD hS (lv_sub hl [0, 1, 2, 3] rfl)
set_option maxHeartbeats 4000000 in
set_option maxRecDepth 100000 in
theorem d_lotsHad (l : Launch) (G : gg_T) (Γ : Nat → Nat) (sz : Nat) (wt : va_W) (hT : tk_ty G Γ wt) (t : Nat) (k_t : Γ t = 8) : Met l yX7_lotsHad (ts_L yX7_lotsHad cX7_lotsHad 3 (some .int)) ({ frames := 0, cells := 0, slots := 0, locals := 0 }) (gc_P G wt sz [.ref t]) (gc_I G (va_A wt sz) (fun r (u : va_W) => tk_ty G Γ u ∧ tk_kp [] wt u) (fun u => u)) 0 0 (va_A wt sz) := by
  refine Met.ofW (cc := cX7_lotsHad) (maxL := 3) (ret := (some .int)) (by decide) rfl ?_
  intro p e s m args below meth c s₁ B hml hv
  obtain ⟨rfl, hsz, hP, hK, hD0⟩ := hv
  have hx := B.exec
  have hb := B.bytes
  have hr := B.returns
  have ht := ts_ht (atoms_spec (ws := ts_L yX7_lotsHad cX7_lotsHad 3 (some .int)) B.pre)
  have hown : s.vm.findClass RX7 = some m.cls := findClass_of_methodNamed B.named
  have hlocks := B.notSynchronized
  subst hsz
  have hD := hD0.self (sz := s.heap.size)
  generalize hAe : va_A wt s.heap.size = A at hD ⊢
  have hA : ∀ q : Nat, s.heap.size ≤ q → A q := fun q h => by rw [← hAe]; exact Or.inr h
  clear hAe hD0
  have hS : va_S A s.heap s.heap [] := va_S.rf
  obtain ⟨w0, hw0⟩ : ∃ z, z = wt := ⟨_, rfl⟩
  have hW : tk_kp [] w0 wt := by rw [hw0]; exact tk_kp.rf
  rw [← hw0]
  clear hw0
  have hP : va_P (gg_D G) classes ([] ++ wt) s.heap := hP
  have hD : va_D A ([] ++ wt) := hD
  have hl := lv_entry ([.ref t]) (n := 3) (Nat.le_of_ble_eq_true rfl)
  rw [lg_entry_eq]
  generalize (lg_sl ([.ref t]) ++ List.replicate (3 - (lg_sl ([.ref t])).length) Slot.unset).toArray = ls at hl ⊢
  have hl : lv_has ls 3 [(0, .ref t)] := hl
  have lm1 : ((-1) : Int32).toInt = -1 := by decide +kernel
  have l0 : (0 : Int32).toInt = 0 := by decide +kernel
  have l1 : (1 : Int32).toInt = 1 := by decide +kernel
  have l3 : (3 : Int32).toInt = 3 := by decide +kernel
  refine lv_iconst (v := 0) hx hb dX7_lotsHad_0 (by decide +kernel) ?_
  refine lv_istore_n (lv' := [(1, .int 0), (0, .ref t)]) hx hb dX7_lotsHad_1 rfl hl (by decide) rfl (fun ls hl => ?_)
  refine lv_iconst (v := 0) hx hb dX7_lotsHad_2 (by decide +kernel) ?_
  refine lv_istore_n (lv' := [(2, .int 0), (1, .int 0), (0, .ref t)]) hx hb dX7_lotsHad_3 rfl hl (by decide) rfl (fun ls hl => ?_)
  refine tl_loopE (Γ := Γ) (nL := 3) (fun (zz_ : Int32 × Int32) => match zz_ with | (x4_0, x4_1) => 0 ≤ x4_0.toInt ∧ x4_0.toInt ≤ 3) (fun (zz_ : Int32 × Int32) => match zz_ with | (x4_0, x4_1) => (3 - x4_0.toInt).toNat) (fun (zz_ : Int32 × Int32) => match zz_ with | (x4_0, x4_1) => [(2, .int x4_0), (1, .int x4_1), (0, .ref t)]) (fun (zz_ : Int32 × Int32) => match zz_ with | (x4_0, x4_1) => []) (fun (zz_ : Int32 × Int32) (w : va_W) => match zz_ with | (x4_0, x4_1) => tk_kp [] w0 w) (fun zz_ hI H locs wt ls hT hW hP hD hS hl ih4 => ?_) (0, 0) (show 0 ≤ (0 : Int32).toInt ∧ (0 : Int32).toInt ≤ 3 from ⟨by omega, by omega⟩) _ _ wt ls hT hW hP hD hS hl
  obtain ⟨x4_0, x4_1⟩ := zz_
  have hW : tk_kp [] w0 wt := hW
  have hI : 0 ≤ x4_0.toInt ∧ x4_0.toInt ≤ 3 := hI
  obtain ⟨j4_0, j4_1⟩ := hI
  have hl : lv_has ls 3 [(2, .int x4_0), (1, .int x4_1), (0, .ref t)] := hl
  have hP : va_P (gg_D G) classes ([] ++ wt) H := hP
  have hD : va_D A ([] ++ wt) := hD
  refine lv_iload_n hx hb dX7_lotsHad_4 rfl (lv_at hl 0 rfl) ?_
  refine lv_iconst (v := 3) hx hb dX7_lotsHad_5 (by decide +kernel) ?_
  refine lv_icmp_ge (tgt := 33) hx hb dX7_lotsHad_6 (by decide) (fun c_1 => ?_) (fun c_1 => ?_)
  · rw [Int32.le_iff_toInt_le] at c_1
    refine lv_iload_n hx hb dX7_lotsHad_33 rfl (lv_at hl 1 rfl) ?_
    have hP9 := tw_right hP
    have hD9 := tw_rightD hD
    exact W.iret (v := x4_1) hx hb hr (gq_endI wt ⟨hT, hW⟩ hP9 hD9 hS) hS.2.2 dX7_lotsHad_34
  · rw [Int32.le_iff_toInt_le] at c_1
    refine lv_iload_n hx hb dX7_lotsHad_9 rfl (lv_at hl 1 rfl) ?_
    refine lv_aload_n hx hb dX7_lotsHad_10 rfl (lv_at hl 2 rfl) ?_
    refine tr_get (ci := 7) hx hb ht hown hK hT hP k_t (by decide) i_X7 rfl 6 (by decide) wd_254 rfl dX7_lotsHad_11 (fun v hv hf_2 => ?_)
    obtain ⟨q_3, rfl, hq_3⟩ := hv
    refine lv_iload_n hx hb dX7_lotsHad_14 rfl (lv_at hl 0 rfl) ?_
    refine tr_iald hx hb hK hT hP 21 hq_3 (by decide) (by decide) (show vp_in _ (tk_len 21) from ia_in (n := 3) (by omega) (by omega)) dX7_lotsHad_15 (fun n_4 hn_4 => ?_)
    clear hn_4
    refine lv_iconst (v := (-1)) hx hb dX7_lotsHad_16 (by decide +kernel) ?_
    refine lv_icmp_eq (tgt := 24) hx hb dX7_lotsHad_17 (by decide) (fun c_5 => ?_) (fun c_5 => ?_)
    · rw [← Int32.toInt_inj] at c_5
      refine lv_iconst (v := 0) hx hb dX7_lotsHad_24 (by decide +kernel) ?_
      obtain ⟨t_6, et_6⟩ : ∃ zz_ : Int32, x4_1 + 0 = zz_ := ⟨_, rfl⟩
      refine gq_iadd hx hb t_6 et_6 dX7_lotsHad_25 ?_
      have bd_x4_1 := ia_bd x4_1
      have ft_6 := ia_add et_6 (by omega) (by omega)
      refine lv_istore_n (lv' := [(1, .int t_6), (2, .int x4_0), (0, .ref t)]) hx hb dX7_lotsHad_26 rfl hl (by decide) rfl (fun ls hl => ?_)
      obtain ⟨t_7, et_7⟩ : ∃ zz_ : Int32, x4_0 + Int32.ofInt (1) = zz_ := ⟨_, rfl⟩
      have ft_7 : t_7.toInt = x4_0.toInt + (1 : Int32).toInt := ia_add (y := 1) et_7 (by omega) (by omega)
      refine lv_iinc (v := t_7) (lv' := [(2, .int t_7), (1, .int t_6), (0, .ref t)]) hx hb dX7_lotsHad_27 hl (k := 1) rfl et_7 (by decide) rfl (fun ls hl => ?_)
      refine lv_goto (tgt := 4) hx hb dX7_lotsHad_30 (by decide) ?_
      exact ih4 (t_7, t_6) (show 0 ≤ t_7.toInt ∧ t_7.toInt ≤ 3 from ⟨by omega, by omega⟩) (show (3 - t_7.toInt).toNat < (3 - x4_0.toInt).toNat by omega) H locs wt ls hT hW hP hD hS (lv_sub hl [0, 1, 2] rfl)
    · rw [← Int32.toInt_inj] at c_5
      refine lv_iconst (v := 1) hx hb dX7_lotsHad_20 (by decide +kernel) ?_
      refine lv_goto (tgt := 25) hx hb dX7_lotsHad_21 (by decide) ?_
      obtain ⟨t_8, et_8⟩ : ∃ zz_ : Int32, x4_1 + 1 = zz_ := ⟨_, rfl⟩
      refine gq_iadd hx hb t_8 et_8 dX7_lotsHad_25 ?_
      refine lv_istore_n (lv' := [(1, .int t_8), (2, .int x4_0), (0, .ref t)]) hx hb dX7_lotsHad_26 rfl hl (by decide) rfl (fun ls hl => ?_)
      obtain ⟨t_9, et_9⟩ : ∃ zz_ : Int32, x4_0 + Int32.ofInt (1) = zz_ := ⟨_, rfl⟩
      have ft_9 : t_9.toInt = x4_0.toInt + (1 : Int32).toInt := ia_add (y := 1) et_9 (by omega) (by omega)
      refine lv_iinc (v := t_9) (lv' := [(2, .int t_9), (1, .int t_8), (0, .ref t)]) hx hb dX7_lotsHad_27 hl (k := 1) rfl et_9 (by decide) rfl (fun ls hl => ?_)
      refine lv_goto (tgt := 4) hx hb dX7_lotsHad_30 (by decide) ?_
      exact ih4 (t_9, t_8) (show 0 ≤ t_9.toInt ∧ t_9.toInt ≤ 3 from ⟨by omega, by omega⟩) (show (3 - t_9.toInt).toNat < (3 - x4_0.toInt).toNat by omega) H locs wt ls hT hW hP hD hS (lv_sub hl [0, 1, 2] rfl)
set_option maxHeartbeats 4000000 in
set_option maxRecDepth 100000 in
theorem d_allPaid (l : Launch) (G : gg_T) (Γ : Nat → Nat) (sz : Nat) (wt : va_W) (hT : tk_ty G Γ wt) (t : Nat) (k_t : Γ t = 8) : Met l yX7_allPaid (ts_L yX7_allPaid cX7_allPaid 3 (some .int)) ({ frames := 0, cells := 0, slots := 0, locals := 0 }) (gc_P G wt sz [.ref t]) (gc_I G (va_A wt sz) (fun r (u : va_W) => tk_ty G Γ u ∧ tk_kp [] wt u) (fun u => u)) 0 0 (va_A wt sz) := by
  refine Met.ofW (cc := cX7_allPaid) (maxL := 3) (ret := (some .int)) (by decide) rfl ?_
  intro p e s m args below meth c s₁ B hml hv
  obtain ⟨rfl, hsz, hP, hK, hD0⟩ := hv
  have hx := B.exec
  have hb := B.bytes
  have hr := B.returns
  have ht := ts_ht (atoms_spec (ws := ts_L yX7_allPaid cX7_allPaid 3 (some .int)) B.pre)
  have hown : s.vm.findClass RX7 = some m.cls := findClass_of_methodNamed B.named
  have hlocks := B.notSynchronized
  subst hsz
  have hD := hD0.self (sz := s.heap.size)
  generalize hAe : va_A wt s.heap.size = A at hD ⊢
  have hA : ∀ q : Nat, s.heap.size ≤ q → A q := fun q h => by rw [← hAe]; exact Or.inr h
  clear hAe hD0
  have hS : va_S A s.heap s.heap [] := va_S.rf
  obtain ⟨w0, hw0⟩ : ∃ z, z = wt := ⟨_, rfl⟩
  have hW : tk_kp [] w0 wt := by rw [hw0]; exact tk_kp.rf
  rw [← hw0]
  clear hw0
  have hP : va_P (gg_D G) classes ([] ++ wt) s.heap := hP
  have hD : va_D A ([] ++ wt) := hD
  have hl := lv_entry ([.ref t]) (n := 3) (Nat.le_of_ble_eq_true rfl)
  rw [lg_entry_eq]
  generalize (lg_sl ([.ref t]) ++ List.replicate (3 - (lg_sl ([.ref t])).length) Slot.unset).toArray = ls at hl ⊢
  have hl : lv_has ls 3 [(0, .ref t)] := hl
  have l0 : (0 : Int32).toInt = 0 := by decide +kernel
  have l1 : (1 : Int32).toInt = 1 := by decide +kernel
  have l3 : (3 : Int32).toInt = 3 := by decide +kernel
  refine lv_iconst (v := 0) hx hb dX7_allPaid_0 (by decide +kernel) ?_
  refine lv_istore_n (lv' := [(1, .int 0), (0, .ref t)]) hx hb dX7_allPaid_1 rfl hl (by decide) rfl (fun ls hl => ?_)
  refine lv_iconst (v := 0) hx hb dX7_allPaid_2 (by decide +kernel) ?_
  refine lv_istore_n (lv' := [(2, .int 0), (1, .int 0), (0, .ref t)]) hx hb dX7_allPaid_3 rfl hl (by decide) rfl (fun ls hl => ?_)
  refine tl_loopE (Γ := Γ) (nL := 3) (fun (zz_ : Int32 × Int32) => match zz_ with | (x4_0, x4_1) => 0 ≤ x4_0.toInt ∧ x4_0.toInt ≤ 3) (fun (zz_ : Int32 × Int32) => match zz_ with | (x4_0, x4_1) => (3 - x4_0.toInt).toNat) (fun (zz_ : Int32 × Int32) => match zz_ with | (x4_0, x4_1) => [(2, .int x4_0), (1, .int x4_1), (0, .ref t)]) (fun (zz_ : Int32 × Int32) => match zz_ with | (x4_0, x4_1) => []) (fun (zz_ : Int32 × Int32) (w : va_W) => match zz_ with | (x4_0, x4_1) => tk_kp [] w0 w) (fun zz_ hI H locs wt ls hT hW hP hD hS hl ih4 => ?_) (0, 0) (show 0 ≤ (0 : Int32).toInt ∧ (0 : Int32).toInt ≤ 3 from ⟨by omega, by omega⟩) _ _ wt ls hT hW hP hD hS hl
  obtain ⟨x4_0, x4_1⟩ := zz_
  have hW : tk_kp [] w0 wt := hW
  have hI : 0 ≤ x4_0.toInt ∧ x4_0.toInt ≤ 3 := hI
  obtain ⟨j4_0, j4_1⟩ := hI
  have hl : lv_has ls 3 [(2, .int x4_0), (1, .int x4_1), (0, .ref t)] := hl
  have hP : va_P (gg_D G) classes ([] ++ wt) H := hP
  have hD : va_D A ([] ++ wt) := hD
  refine lv_iload_n hx hb dX7_allPaid_4 rfl (lv_at hl 0 rfl) ?_
  refine lv_iconst (v := 3) hx hb dX7_allPaid_5 (by decide +kernel) ?_
  refine lv_icmp_ge (tgt := 24) hx hb dX7_allPaid_6 (by decide) (fun c_1 => ?_) (fun c_1 => ?_)
  · rw [Int32.le_iff_toInt_le] at c_1
    refine lv_iload_n hx hb dX7_allPaid_24 rfl (lv_at hl 1 rfl) ?_
    have hP9 := tw_right hP
    have hD9 := tw_rightD hD
    exact W.iret (v := x4_1) hx hb hr (gq_endI wt ⟨hT, hW⟩ hP9 hD9 hS) hS.2.2 dX7_allPaid_25
  · rw [Int32.le_iff_toInt_le] at c_1
    refine lv_iload_n hx hb dX7_allPaid_9 rfl (lv_at hl 1 rfl) ?_
    refine lv_aload_n hx hb dX7_allPaid_10 rfl (lv_at hl 2 rfl) ?_
    refine tr_get (ci := 7) hx hb ht hown hK hT hP k_t (by decide) i_X7 rfl 7 (by decide) wd_258 rfl dX7_allPaid_11 (fun v hv hf_2 => ?_)
    obtain ⟨q_3, rfl, hq_3⟩ := hv
    refine lv_iload_n hx hb dX7_allPaid_14 rfl (lv_at hl 0 rfl) ?_
    refine tr_iald hx hb hK hT hP 21 hq_3 (by decide) (by decide) (show vp_in _ (tk_len 21) from ia_in (n := 3) (by omega) (by omega)) dX7_allPaid_15 (fun n_4 hn_4 => ?_)
    clear hn_4
    obtain ⟨t_5, et_5⟩ : ∃ zz_ : Int32, x4_1 + n_4 = zz_ := ⟨_, rfl⟩
    refine gq_iadd hx hb t_5 et_5 dX7_allPaid_16 ?_
    refine lv_istore_n (lv' := [(1, .int t_5), (2, .int x4_0), (0, .ref t)]) hx hb dX7_allPaid_17 rfl hl (by decide) rfl (fun ls hl => ?_)
    obtain ⟨t_6, et_6⟩ : ∃ zz_ : Int32, x4_0 + Int32.ofInt (1) = zz_ := ⟨_, rfl⟩
    have ft_6 : t_6.toInt = x4_0.toInt + (1 : Int32).toInt := ia_add (y := 1) et_6 (by omega) (by omega)
    refine lv_iinc (v := t_6) (lv' := [(2, .int t_6), (1, .int t_5), (0, .ref t)]) hx hb dX7_allPaid_18 hl (k := 1) rfl et_6 (by decide) rfl (fun ls hl => ?_)
    refine lv_goto (tgt := 4) hx hb dX7_allPaid_21 (by decide) ?_
    exact ih4 (t_6, t_5) (show 0 ≤ t_6.toInt ∧ t_6.toInt ≤ 3 from ⟨by omega, by omega⟩) (show (3 - t_6.toInt).toNat < (3 - x4_0.toInt).toNat by omega) H locs wt ls hT hW hP hD hS (lv_sub hl [0, 1, 2] rfl)
set_option maxHeartbeats 4000000 in
set_option maxRecDepth 100000 in
theorem d_worthTo (l : Launch) (G : gg_T) (Γ : Nat → Nat) (sz : Nat) (wt : va_W) (hT : tk_ty G Γ wt) (t : Nat) (b : Int32) (w : Int32) (k_t : Γ t = 10) (lo_b : 0 ≤ b.toInt) (hi_b : b.toInt ≤ 4) (lo_w : 0 ≤ w.toInt) (hi_w : w.toInt ≤ 2) : Met l yX9_worthTo (ts_L yX9_worthTo cX9_worthTo 3 (some .int)) ({ frames := 0, cells := 0, slots := 0, locals := 0 }) (gc_P G wt sz [.ref t, .int b, .int w]) (gc_I G (va_A wt sz) (fun r (u : va_W) => tk_ty G Γ u ∧ tk_kp [] wt u) (fun u => u)) 0 0 (va_A wt sz) := by
  refine Met.ofW (cc := cX9_worthTo) (maxL := 3) (ret := (some .int)) (by decide) rfl ?_
  intro p e s m args below meth c s₁ B hml hv
  obtain ⟨rfl, hsz, hP, hK, hD0⟩ := hv
  have hx := B.exec
  have hb := B.bytes
  have hr := B.returns
  have ht := ts_ht (atoms_spec (ws := ts_L yX9_worthTo cX9_worthTo 3 (some .int)) B.pre)
  have hown : s.vm.findClass RX9 = some m.cls := findClass_of_methodNamed B.named
  have hlocks := B.notSynchronized
  subst hsz
  have hD := hD0.self (sz := s.heap.size)
  generalize hAe : va_A wt s.heap.size = A at hD ⊢
  have hA : ∀ q : Nat, s.heap.size ≤ q → A q := fun q h => by rw [← hAe]; exact Or.inr h
  clear hAe hD0
  have hS : va_S A s.heap s.heap [] := va_S.rf
  obtain ⟨w0, hw0⟩ : ∃ z, z = wt := ⟨_, rfl⟩
  have hW : tk_kp [] w0 wt := by rw [hw0]; exact tk_kp.rf
  rw [← hw0]
  clear hw0
  have hP : va_P (gg_D G) classes ([] ++ wt) s.heap := hP
  have hD : va_D A ([] ++ wt) := hD
  have hl := lv_entry ([.ref t, .int b, .int w]) (n := 3) (Nat.le_of_ble_eq_true rfl)
  rw [lg_entry_eq]
  generalize (lg_sl ([.ref t, .int b, .int w]) ++ List.replicate (3 - (lg_sl ([.ref t, .int b, .int w])).length) Slot.unset).toArray = ls at hl ⊢
  have hl : lv_has ls 3 [(0, .ref t), (1, .int b), (2, .int w)] := hl
  have l3 : (3 : Int32).toInt = 3 := by decide +kernel
  refine lv_aload_n hx hb dX9_worthTo_0 rfl (lv_at hl 0 rfl) ?_
  refine tr_get (ci := 9) hx hb ht hown hK hT hP k_t (by decide) i_X9 rfl 6 (by decide) wd_198 rfl dX9_worthTo_1 (fun v hv hf_1 => ?_)
  obtain ⟨q_2, rfl, hq_2⟩ := hv
  refine lv_iload_n hx hb dX9_worthTo_4 rfl (lv_at hl 1 rfl) ?_
  refine lv_iconst (v := 3) hx hb dX9_worthTo_5 (by decide +kernel) ?_
  obtain ⟨t_3, et_3⟩ : ∃ zz_ : Int32, b * 3 = zz_ := ⟨_, rfl⟩
  refine gq_imul hx hb t_3 et_3 dX9_worthTo_6 ?_
  have ft_3 := ia_mul et_3 (by rw [l3]; omega) (by rw [l3]; omega)
  rw [l3] at ft_3
  refine lv_iload_n hx hb dX9_worthTo_7 rfl (lv_at hl 2 rfl) ?_
  obtain ⟨t_4, et_4⟩ : ∃ zz_ : Int32, t_3 + w = zz_ := ⟨_, rfl⟩
  refine gq_iadd hx hb t_4 et_4 dX9_worthTo_8 ?_
  have ft_4 := ia_add et_4 (by omega) (by omega)
  refine tr_iald hx hb hK hT hP 24 hq_2 (by decide) (by decide) (show vp_in _ (tk_len 24) from ia_in (n := 15) (by omega) (by omega)) dX9_worthTo_9 (fun n_5 hn_5 => ?_)
  clear hn_5
  have hP9 := tw_right hP
  have hD9 := tw_rightD hD
  exact W.iret (v := n_5) hx hb hr (gq_endI wt ⟨hT, hW⟩ hP9 hD9 hS) hS.2.2 dX9_worthTo_10
set_option maxHeartbeats 4000000 in
set_option maxRecDepth 100000 in
theorem d_gainOf (l : Launch) (G : gg_T) (Γ : Nat → Nat) (sz : Nat) (wt : va_W) (hT : tk_ty G Γ wt) (t : Nat) (b : Int32) (tm : Nat) (k_t : Γ t = 8) (lo_b : 0 ≤ b.toInt) (hi_b : b.toInt ≤ 4) (k_tm : Γ tm = 10) : Met l yX7_gainOf (ts_L yX7_gainOf cX7_gainOf 5 (some .int)) ({ frames := 1, cells := 0, slots := 0, locals := 22 }) (gc_P G wt sz [.ref t, .int b, .ref tm]) (gc_I G (va_A wt sz) (fun r (u : va_W) => tk_ty G Γ u ∧ tk_kp [] wt u) (fun u => u)) 0 0 (va_A wt sz) := by
  refine Met.ofW (cc := cX7_gainOf) (maxL := 5) (ret := (some .int)) (by decide) rfl ?_
  intro p e s m args below meth c s₁ B hml hv
  obtain ⟨rfl, hsz, hP, hK, hD0⟩ := hv
  have hx := B.exec
  have hb := B.bytes
  have hr := B.returns
  have ht := ts_ht (atoms_spec (ws := ts_L yX7_gainOf cX7_gainOf 5 (some .int)) B.pre)
  have hown : s.vm.findClass RX7 = some m.cls := findClass_of_methodNamed B.named
  have hlocks := B.notSynchronized
  subst hsz
  have hD := hD0.self (sz := s.heap.size)
  generalize hAe : va_A wt s.heap.size = A at hD ⊢
  have hA : ∀ q : Nat, s.heap.size ≤ q → A q := fun q h => by rw [← hAe]; exact Or.inr h
  clear hAe hD0
  have hS : va_S A s.heap s.heap [] := va_S.rf
  obtain ⟨w0, hw0⟩ : ∃ z, z = wt := ⟨_, rfl⟩
  have hW : tk_kp [] w0 wt := by rw [hw0]; exact tk_kp.rf
  rw [← hw0]
  clear hw0
  have hP : va_P (gg_D G) classes ([] ++ wt) s.heap := hP
  have hD : va_D A ([] ++ wt) := hD
  have hl := lv_entry ([.ref t, .int b, .ref tm]) (n := 5) (Nat.le_of_ble_eq_true rfl)
  rw [lg_entry_eq]
  generalize (lg_sl ([.ref t, .int b, .ref tm]) ++ List.replicate (5 - (lg_sl ([.ref t, .int b, .ref tm])).length) Slot.unset).toArray = ls at hl ⊢
  have hl : lv_has ls 5 [(0, .ref t), (1, .int b), (2, .ref tm)] := hl
  have l0 : (0 : Int32).toInt = 0 := by decide +kernel
  have l1 : (1 : Int32).toInt = 1 := by decide +kernel
  have l3 : (3 : Int32).toInt = 3 := by decide +kernel
  refine lv_iconst (v := 0) hx hb dX7_gainOf_0 (by decide +kernel) ?_
  refine lv_istore_n (lv' := [(3, .int 0), (0, .ref t), (1, .int b), (2, .ref tm)]) hx hb dX7_gainOf_1 rfl hl (by decide) rfl (fun ls hl => ?_)
  refine lv_iconst (v := 0) hx hb dX7_gainOf_2 (by decide +kernel) ?_
  refine lv_istore (lv' := [(4, .int 0), (3, .int 0), (0, .ref t), (1, .int b), (2, .ref tm)]) hx hb dX7_gainOf_3 hl (by decide) rfl (fun ls hl => ?_)
  refine tl_loopE (Γ := Γ) (nL := 5) (fun (zz_ : Int32 × Int32) => match zz_ with | (x5_0, x5_1) => 0 ≤ x5_0.toInt ∧ x5_0.toInt ≤ 3) (fun (zz_ : Int32 × Int32) => match zz_ with | (x5_0, x5_1) => (3 - x5_0.toInt).toNat) (fun (zz_ : Int32 × Int32) => match zz_ with | (x5_0, x5_1) => [(4, .int x5_0), (3, .int x5_1), (0, .ref t), (1, .int b), (2, .ref tm)]) (fun (zz_ : Int32 × Int32) => match zz_ with | (x5_0, x5_1) => []) (fun (zz_ : Int32 × Int32) (w : va_W) => match zz_ with | (x5_0, x5_1) => tk_kp [] w0 w) (fun zz_ hI H locs wt ls hT hW hP hD hS hl ih5 => ?_) (0, 0) (show 0 ≤ (0 : Int32).toInt ∧ (0 : Int32).toInt ≤ 3 from ⟨by omega, by omega⟩) _ _ wt ls hT hW hP hD hS hl
  obtain ⟨x5_0, x5_1⟩ := zz_
  have hW : tk_kp [] w0 wt := hW
  have hI : 0 ≤ x5_0.toInt ∧ x5_0.toInt ≤ 3 := hI
  obtain ⟨j5_0, j5_1⟩ := hI
  have hl : lv_has ls 5 [(4, .int x5_0), (3, .int x5_1), (0, .ref t), (1, .int b), (2, .ref tm)] := hl
  have hP : va_P (gg_D G) classes ([] ++ wt) H := hP
  have hD : va_D A ([] ++ wt) := hD
  refine lv_iload hx hb dX7_gainOf_5 (lv_at hl 0 rfl) ?_
  refine lv_iconst (v := 3) hx hb dX7_gainOf_7 (by decide +kernel) ?_
  refine lv_icmp_ge (tgt := 50) hx hb dX7_gainOf_8 (by decide) (fun c_1 => ?_) (fun c_1 => ?_)
  · rw [Int32.le_iff_toInt_le] at c_1
    refine lv_iload_n hx hb dX7_gainOf_50 rfl (lv_at hl 1 rfl) ?_
    have hP9 := tw_right hP
    have hD9 := tw_rightD hD
    exact W.iret (v := x5_1) hx hb hr (gq_endI wt ⟨hT, hW⟩ hP9 hD9 hS) hS.2.2 dX7_gainOf_51
  · rw [Int32.le_iff_toInt_le] at c_1
    refine lv_iload_n hx hb dX7_gainOf_11 rfl (lv_at hl 1 rfl) ?_
    refine lv_aload_n hx hb dX7_gainOf_12 rfl (lv_at hl 2 rfl) ?_
    refine tr_get (ci := 7) hx hb ht hown hK hT hP k_t (by decide) i_X7 rfl 6 (by decide) wd_254 rfl dX7_gainOf_13 (fun v hv hf_2 => ?_)
    obtain ⟨q_3, rfl, hq_3⟩ := hv
    refine lv_iload hx hb dX7_gainOf_16 (lv_at hl 0 rfl) ?_
    refine tr_iald hx hb hK hT hP 21 hq_3 (by decide) (by decide) (show vp_in _ (tk_len 21) from ia_in (n := 3) (by omega) (by omega)) dX7_gainOf_18 (fun n_4 hn_4 => ?_)
    clear hn_4
    refine lv_iload_n hx hb dX7_gainOf_19 rfl (lv_at hl 3 rfl) ?_
    refine lv_icmp_ne (tgt := 41) hx hb dX7_gainOf_20 (by decide) (fun c_5 => ?_) (fun c_5 => ?_)
    · rw [← Int32.toInt_inj] at c_5
      refine lv_iconst (v := 0) hx hb dX7_gainOf_41 (by decide +kernel) ?_
      obtain ⟨t_6, et_6⟩ : ∃ zz_ : Int32, x5_1 + 0 = zz_ := ⟨_, rfl⟩
      refine gq_iadd hx hb t_6 et_6 dX7_gainOf_42 ?_
      have bd_x5_1 := ia_bd x5_1
      have ft_6 := ia_add et_6 (by omega) (by omega)
      refine lv_istore_n (lv' := [(3, .int t_6), (4, .int x5_0), (0, .ref t), (1, .int b), (2, .ref tm)]) hx hb dX7_gainOf_43 rfl hl (by decide) rfl (fun ls hl => ?_)
      obtain ⟨t_7, et_7⟩ : ∃ zz_ : Int32, x5_0 + Int32.ofInt (1) = zz_ := ⟨_, rfl⟩
      have ft_7 : t_7.toInt = x5_0.toInt + (1 : Int32).toInt := ia_add (y := 1) et_7 (by omega) (by omega)
      refine lv_iinc (v := t_7) (lv' := [(4, .int t_7), (3, .int t_6), (0, .ref t), (1, .int b), (2, .ref tm)]) hx hb dX7_gainOf_44 hl (k := 1) rfl et_7 (by decide) rfl (fun ls hl => ?_)
      refine lv_goto (tgt := 5) hx hb dX7_gainOf_47 (by decide) ?_
      exact ih5 (t_7, t_6) (show 0 ≤ t_7.toInt ∧ t_7.toInt ≤ 3 from ⟨by omega, by omega⟩) (show (3 - t_7.toInt).toNat < (3 - x5_0.toInt).toNat by omega) H locs wt ls hT hW hP hD hS (lv_sub hl [0, 1, 2, 3, 4] rfl)
    · rw [← Int32.toInt_inj] at c_5
      refine lv_aload_n hx hb dX7_gainOf_23 rfl (lv_at hl 4 rfl) ?_
      refine lv_iload_n hx hb dX7_gainOf_24 rfl (lv_at hl 3 rfl) ?_
      refine lv_iload hx hb dX7_gainOf_25 (lv_at hl 0 rfl) ?_
      refine gt_callI (wr := []) (va_runV (As := [.int b, .int x5_0]) (rest := [.int x5_1]) ⟨hx, hb, hml, hown, ht⟩ (d_worthTo l G Γ H.size wt hT tm b x5_0 k_tm (by omega) (by omega) (by omega) (by omega)) (cwV 2 ht (ts_gV wd_812 wd_813 wd_814 wd_124 wd_815) rfl rfl rfl (by decide +kernel) ⟨Nat.le_of_ble_eq_true rfl, Nat.le_of_ble_eq_true rfl⟩) (gt_preW (ci := 9) hK hT (tw_right hP) (tw_rightD hD) k_tm (by decide) rfl) rfl rfl hl.1 rfl (lv_room (Nat.le_of_ble_eq_true rfl)) dX7_gainOf_27 ⟨Nat.le_of_ble_eq_true rfl, Nat.le_of_ble_eq_true rfl⟩) hP hD hS hA (fun r_8 wt H locs hw hP hD hS => ?_)
      obtain ⟨hT, hkp⟩ := hw
      have hW := hW.call (show ∀ x ∈ [], x ∈ [] by decide) hkp
      refine lv_aload_n hx hb dX7_gainOf_30 rfl (lv_at hl 2 rfl) ?_
      refine tr_get (ci := 7) hx hb ht hown hK hT hP k_t (by decide) i_X7 rfl 7 (by decide) wd_258 rfl dX7_gainOf_31 (fun v hv hf_9 => ?_)
      obtain ⟨q_10, rfl, hq_10⟩ := hv
      refine lv_iload hx hb dX7_gainOf_34 (lv_at hl 0 rfl) ?_
      refine tr_iald hx hb hK hT hP 21 hq_10 (by decide) (by decide) (show vp_in _ (tk_len 21) from ia_in (n := 3) (by omega) (by omega)) dX7_gainOf_36 (fun n_11 hn_11 => ?_)
      clear hn_11
      obtain ⟨t_12, et_12⟩ : ∃ zz_ : Int32, r_8 - n_11 = zz_ := ⟨_, rfl⟩
      refine gq_isub hx hb t_12 et_12 dX7_gainOf_37 ?_
      refine lv_goto (tgt := 42) hx hb dX7_gainOf_38 (by decide) ?_
      obtain ⟨t_13, et_13⟩ : ∃ zz_ : Int32, x5_1 + t_12 = zz_ := ⟨_, rfl⟩
      refine gq_iadd hx hb t_13 et_13 dX7_gainOf_42 ?_
      refine lv_istore_n (lv' := [(3, .int t_13), (4, .int x5_0), (0, .ref t), (1, .int b), (2, .ref tm)]) hx hb dX7_gainOf_43 rfl hl (by decide) rfl (fun ls hl => ?_)
      obtain ⟨t_14, et_14⟩ : ∃ zz_ : Int32, x5_0 + Int32.ofInt (1) = zz_ := ⟨_, rfl⟩
      have ft_14 : t_14.toInt = x5_0.toInt + (1 : Int32).toInt := ia_add (y := 1) et_14 (by omega) (by omega)
      refine lv_iinc (v := t_14) (lv' := [(4, .int t_14), (3, .int t_13), (0, .ref t), (1, .int b), (2, .ref tm)]) hx hb dX7_gainOf_44 hl (k := 1) rfl et_14 (by decide) rfl (fun ls hl => ?_)
      refine lv_goto (tgt := 5) hx hb dX7_gainOf_47 (by decide) ?_
      exact ih5 (t_14, t_13) (show 0 ≤ t_14.toInt ∧ t_14.toInt ≤ 3 from ⟨by omega, by omega⟩) (show (3 - t_14.toInt).toNat < (3 - x5_0.toInt).toNat by omega) H locs wt ls hT hW hP hD hS (lv_sub hl [0, 1, 2, 3, 4] rfl)
set_option maxHeartbeats 4000000 in
set_option maxRecDepth 100000 in
theorem d_isSilent (l : Launch) (G : gg_T) (Γ : Nat → Nat) (sz : Nat) (wt : va_W) (hT : tk_ty G Γ wt) (t : Nat) (b : Int32) (k_t : Γ t = 8) : Met l yX7_isSilent (ts_L yX7_isSilent cX7_isSilent 2 (some .boolean)) ({ frames := 1, cells := 0, slots := 0, locals := 22 }) (gc_P G wt sz [.ref t, .int b]) (gc_I G (va_A wt sz) (fun r (u : va_W) => tk_ty G Γ u ∧ tk_kp [] wt u ∧ 0 ≤ r.toInt ∧ r.toInt ≤ 1) (fun u => u)) 0 0 (va_A wt sz) := by
  refine Met.ofW (cc := cX7_isSilent) (maxL := 2) (ret := (some .boolean)) (by decide) rfl ?_
  intro p e s m args below meth c s₁ B hml hv
  obtain ⟨rfl, hsz, hP, hK, hD0⟩ := hv
  have hx := B.exec
  have hb := B.bytes
  have hr := B.returns
  have ht := ts_ht (atoms_spec (ws := ts_L yX7_isSilent cX7_isSilent 2 (some .boolean)) B.pre)
  have hown : s.vm.findClass RX7 = some m.cls := findClass_of_methodNamed B.named
  have hlocks := B.notSynchronized
  subst hsz
  have hD := hD0.self (sz := s.heap.size)
  generalize hAe : va_A wt s.heap.size = A at hD ⊢
  have hA : ∀ q : Nat, s.heap.size ≤ q → A q := fun q h => by rw [← hAe]; exact Or.inr h
  clear hAe hD0
  have hS : va_S A s.heap s.heap [] := va_S.rf
  obtain ⟨w0, hw0⟩ : ∃ z, z = wt := ⟨_, rfl⟩
  have hW : tk_kp [] w0 wt := by rw [hw0]; exact tk_kp.rf
  rw [← hw0]
  clear hw0
  have hP : va_P (gg_D G) classes ([] ++ wt) s.heap := hP
  have hD : va_D A ([] ++ wt) := hD
  have hl := lv_entry ([.ref t, .int b]) (n := 2) (Nat.le_of_ble_eq_true rfl)
  rw [lg_entry_eq]
  generalize (lg_sl ([.ref t, .int b]) ++ List.replicate (2 - (lg_sl ([.ref t, .int b])).length) Slot.unset).toArray = ls at hl ⊢
  have hl : lv_has ls 2 [(0, .ref t), (1, .int b)] := hl
  refine lv_iload_n hx hb dX7_isSilent_0 rfl (lv_at hl 1 rfl) ?_
  refine lv_aload_n hx hb dX7_isSilent_1 rfl (lv_at hl 0 rfl) ?_
  refine gt_callI (wr := []) (va_runV (As := []) (rest := [.int b]) ⟨hx, hb, hml, hown, ht⟩ (d_silentOnes l G Γ s.heap.size wt hT t k_t) (cwV 0 ht (ts_gV wd_797 wd_798 wd_799 wd_125 wd_800) rfl rfl rfl (by decide +kernel) ⟨Nat.le_of_ble_eq_true rfl, Nat.le_of_ble_eq_true rfl⟩) (gt_preW (ci := 7) hK hT (tw_right hP) (tw_rightD hD) k_t (by decide) rfl) rfl rfl hl.1 rfl (lv_room (Nat.le_of_ble_eq_true rfl)) dX7_isSilent_2 ⟨Nat.le_of_ble_eq_true rfl, Nat.le_of_ble_eq_true rfl⟩) hP hD hS hA (fun r_1 wt H locs hw hP hD hS => ?_)
  obtain ⟨hT, hkp, lo_r_1, hi_r_1⟩ := hw
  have hW := hW.call (show ∀ x ∈ [], x ∈ [] by decide) hkp
  refine gt_callI (wr := []) (va_runSN (As := [.int b, .int r_1]) (rest := []) ⟨hx, hb, hml, hown, ht⟩ (d_isIn l G Γ H.size wt hT b r_1) ⟨va_cnB 2 ht (tb_good (ts_good wd_803)) rfl rfl rfl (hK.2.1 _ wn_801 rfl) (ht _ wd_122) (by decide +kernel) ⟨Nat.le_of_ble_eq_true rfl, Nat.le_of_ble_eq_true rfl⟩, ht _ wd_802, trivial⟩ (gc_preS hK (tw_right hP) (tw_rightD hD)) rfl rfl hl.1 rfl (lv_room (Nat.le_of_ble_eq_true rfl)) dX7_isSilent_5 ⟨Nat.le_of_ble_eq_true rfl, Nat.le_of_ble_eq_true rfl⟩) hP hD hS hA (fun r_2 wt H locs hw hP hD hS => ?_)
  obtain ⟨hT, hkp, lo_r_2, hi_r_2⟩ := hw
  have hW := hW.call (show ∀ x ∈ [], x ∈ [] by decide) hkp
  have hP9 := tw_right hP
  have hD9 := tw_rightD hD
  exact W.zret (v := r_2) hx hb hr (ia_bool (by omega) (by omega)) (gq_endI wt ⟨hT, hW, (by omega), (by omega)⟩ hP9 hD9 hS) hS.2.2 dX7_isSilent_8
set_option maxHeartbeats 4000000 in
set_option maxRecDepth 100000 in
theorem d_allGains (l : Launch) (G : gg_T) (Γ : Nat → Nat) (sz : Nat) (wt : va_W) (hT : tk_ty G Γ wt) (t : Nat) (tm : Nat) (k_t : Γ t = 8) (k_tm : Γ tm = 10) : Met l yX7_allGains (ts_L yX7_allGains cX7_allGains 4 (some .int)) ({ frames := 2, cells := 0, slots := 0, locals := 46 }) (gc_P G wt sz [.ref t, .ref tm]) (gc_I G (va_A wt sz) (fun r (u : va_W) => tk_ty G Γ u ∧ tk_kp [] wt u) (fun u => u)) 0 0 (va_A wt sz) := by
  refine Met.ofW (cc := cX7_allGains) (maxL := 4) (ret := (some .int)) (by decide) rfl ?_
  intro p e s m args below meth c s₁ B hml hv
  obtain ⟨rfl, hsz, hP, hK, hD0⟩ := hv
  have hx := B.exec
  have hb := B.bytes
  have hr := B.returns
  have ht := ts_ht (atoms_spec (ws := ts_L yX7_allGains cX7_allGains 4 (some .int)) B.pre)
  have hown : s.vm.findClass RX7 = some m.cls := findClass_of_methodNamed B.named
  have hlocks := B.notSynchronized
  subst hsz
  have hD := hD0.self (sz := s.heap.size)
  generalize hAe : va_A wt s.heap.size = A at hD ⊢
  have hA : ∀ q : Nat, s.heap.size ≤ q → A q := fun q h => by rw [← hAe]; exact Or.inr h
  clear hAe hD0
  have hS : va_S A s.heap s.heap [] := va_S.rf
  obtain ⟨w0, hw0⟩ : ∃ z, z = wt := ⟨_, rfl⟩
  have hW : tk_kp [] w0 wt := by rw [hw0]; exact tk_kp.rf
  rw [← hw0]
  clear hw0
  have hP : va_P (gg_D G) classes ([] ++ wt) s.heap := hP
  have hD : va_D A ([] ++ wt) := hD
  have hl := lv_entry ([.ref t, .ref tm]) (n := 4) (Nat.le_of_ble_eq_true rfl)
  rw [lg_entry_eq]
  generalize (lg_sl ([.ref t, .ref tm]) ++ List.replicate (4 - (lg_sl ([.ref t, .ref tm])).length) Slot.unset).toArray = ls at hl ⊢
  have hl : lv_has ls 4 [(0, .ref t), (1, .ref tm)] := hl
  have l0 : (0 : Int32).toInt = 0 := by decide +kernel
  have l1 : (1 : Int32).toInt = 1 := by decide +kernel
  refine lv_iconst (v := 0) hx hb dX7_allGains_0 (by decide +kernel) ?_
  refine lv_istore_n (lv' := [(2, .int 0), (0, .ref t), (1, .ref tm)]) hx hb dX7_allGains_1 rfl hl (by decide) rfl (fun ls hl => ?_)
  refine lv_iconst (v := 0) hx hb dX7_allGains_2 (by decide +kernel) ?_
  refine lv_istore_n (lv' := [(3, .int 0), (2, .int 0), (0, .ref t), (1, .ref tm)]) hx hb dX7_allGains_3 rfl hl (by decide) rfl (fun ls hl => ?_)
  refine tl_loopE (Γ := Γ) (nL := 4) (fun (zz_ : Int32 × Int32) => match zz_ with | (x4_0, x4_1) => 0 ≤ x4_0.toInt ∧ x4_0.toInt ≤ 5) (fun (zz_ : Int32 × Int32) => match zz_ with | (x4_0, x4_1) => (5 - x4_0.toInt).toNat) (fun (zz_ : Int32 × Int32) => match zz_ with | (x4_0, x4_1) => [(3, .int x4_0), (2, .int x4_1), (0, .ref t), (1, .ref tm)]) (fun (zz_ : Int32 × Int32) => match zz_ with | (x4_0, x4_1) => []) (fun (zz_ : Int32 × Int32) (w : va_W) => match zz_ with | (x4_0, x4_1) => tk_kp [] w0 w) (fun zz_ hI H locs wt ls hT hW hP hD hS hl ih4 => ?_) (0, 0) (show 0 ≤ (0 : Int32).toInt ∧ (0 : Int32).toInt ≤ 5 from ⟨by omega, by omega⟩) _ _ wt ls hT hW hP hD hS hl
  obtain ⟨x4_0, x4_1⟩ := zz_
  have hW : tk_kp [] w0 wt := hW
  have hI : 0 ≤ x4_0.toInt ∧ x4_0.toInt ≤ 5 := hI
  obtain ⟨j4_0, j4_1⟩ := hI
  have hl : lv_has ls 4 [(3, .int x4_0), (2, .int x4_1), (0, .ref t), (1, .ref tm)] := hl
  have hP : va_P (gg_D G) classes ([] ++ wt) H := hP
  have hD : va_D A ([] ++ wt) := hD
  refine lv_iload_n hx hb dX7_allGains_4 rfl (lv_at hl 0 rfl) ?_
  refine lv_aload_n hx hb dX7_allGains_5 rfl (lv_at hl 3 rfl) ?_
  refine tr_get (ci := 9) hx hb ht hown hK hT hP k_tm (by decide) i_X9 rfl 1 (by decide) wd_186 rfl dX7_allGains_6 (fun v hv hf_1 => ?_)
  obtain ⟨n_2, rfl, lo_n_2, hi_n_2⟩ := hv
  refine lv_icmp_ge (tgt := 27) hx hb dX7_allGains_9 (by decide) (fun c_3 => ?_) (fun c_3 => ?_)
  · rw [Int32.le_iff_toInt_le] at c_3
    refine lv_iload_n hx hb dX7_allGains_27 rfl (lv_at hl 1 rfl) ?_
    have hP9 := tw_right hP
    have hD9 := tw_rightD hD
    exact W.iret (v := x4_1) hx hb hr (gq_endI wt ⟨hT, hW⟩ hP9 hD9 hS) hS.2.2 dX7_allGains_28
  · rw [Int32.le_iff_toInt_le] at c_3
    refine lv_iload_n hx hb dX7_allGains_12 rfl (lv_at hl 1 rfl) ?_
    refine lv_aload_n hx hb dX7_allGains_13 rfl (lv_at hl 2 rfl) ?_
    refine lv_iload_n hx hb dX7_allGains_14 rfl (lv_at hl 0 rfl) ?_
    refine lv_aload_n hx hb dX7_allGains_15 rfl (lv_at hl 3 rfl) ?_
    refine gt_callI (wr := []) (va_runV (As := [.int x4_0, .ref tm]) (rest := [.int x4_1]) ⟨hx, hb, hml, hown, ht⟩ (d_gainOf l G Γ H.size wt hT t x4_0 tm k_t (by omega) (by omega) k_tm) (cwV 2 ht (ts_gV wd_1063 wd_809 wd_810 wd_125 wd_811) rfl rfl rfl (by decide +kernel) ⟨Nat.le_of_ble_eq_true rfl, Nat.le_of_ble_eq_true rfl⟩) (gt_preW (ci := 7) hK hT (tw_right hP) (tw_rightD hD) k_t (by decide) rfl) rfl rfl hl.1 rfl (lv_room (Nat.le_of_ble_eq_true rfl)) dX7_allGains_16 ⟨Nat.le_of_ble_eq_true rfl, Nat.le_of_ble_eq_true rfl⟩) hP hD hS hA (fun r_4 wt H locs hw hP hD hS => ?_)
    obtain ⟨hT, hkp⟩ := hw
    have hW := hW.call (show ∀ x ∈ [], x ∈ [] by decide) hkp
    have hf_1 := hkp _ _ _ _ (by decide) (by decide) hf_1
    obtain ⟨t_5, et_5⟩ : ∃ zz_ : Int32, x4_1 + r_4 = zz_ := ⟨_, rfl⟩
    refine gq_iadd hx hb t_5 et_5 dX7_allGains_19 ?_
    refine lv_istore_n (lv' := [(2, .int t_5), (3, .int x4_0), (0, .ref t), (1, .ref tm)]) hx hb dX7_allGains_20 rfl hl (by decide) rfl (fun ls hl => ?_)
    obtain ⟨t_6, et_6⟩ : ∃ zz_ : Int32, x4_0 + Int32.ofInt (1) = zz_ := ⟨_, rfl⟩
    have ft_6 : t_6.toInt = x4_0.toInt + (1 : Int32).toInt := ia_add (y := 1) et_6 (by omega) (by omega)
    refine lv_iinc (v := t_6) (lv' := [(3, .int t_6), (2, .int t_5), (0, .ref t), (1, .ref tm)]) hx hb dX7_allGains_21 hl (k := 1) rfl et_6 (by decide) rfl (fun ls hl => ?_)
    refine lv_goto (tgt := 4) hx hb dX7_allGains_24 (by decide) ?_
    exact ih4 (t_6, t_5) (show 0 ≤ t_6.toInt ∧ t_6.toInt ≤ 5 from ⟨by omega, by omega⟩) (show (5 - t_6.toInt).toNat < (5 - x4_0.toInt).toNat by omega) H locs wt ls hT hW hP hD hS (lv_sub hl [0, 1, 2, 3] rfl)
set_option maxHeartbeats 4000000 in
set_option maxRecDepth 100000 in
theorem d_breakOff (l : Launch) (G : gg_T) (Γ : Nat → Nat) (sz : Nat) (wt : va_W) (hT : tk_ty G Γ wt) (t : Nat) (b : Int32) (k_t : Γ t = 8) (lo_b : 0 ≤ b.toInt) (hi_b : b.toInt ≤ 2) : Met l yX7_breakOff (ts_L yX7_breakOff cX7_breakOff 2 none) ({ frames := 0, cells := 0, slots := 0, locals := 0 }) (gc_P G wt sz [.ref t, .int b]) (gc_V G (va_A wt sz) (fun (u : va_W) => tk_ty G Γ u ∧ tk_kp [] wt u) (fun u => u)) 0 0 (va_A wt sz) := by
  refine Met.ofW (cc := cX7_breakOff) (maxL := 2) (ret := none) (by decide) rfl ?_
  intro p e s m args below meth c s₁ B hml hv
  obtain ⟨rfl, hsz, hP, hK, hD0⟩ := hv
  have hx := B.exec
  have hb := B.bytes
  have hr := B.returns
  have ht := ts_ht (atoms_spec (ws := ts_L yX7_breakOff cX7_breakOff 2 none) B.pre)
  have hown : s.vm.findClass RX7 = some m.cls := findClass_of_methodNamed B.named
  have hlocks := B.notSynchronized
  subst hsz
  have hD := hD0.self (sz := s.heap.size)
  generalize hAe : va_A wt s.heap.size = A at hD ⊢
  have hA : ∀ q : Nat, s.heap.size ≤ q → A q := fun q h => by rw [← hAe]; exact Or.inr h
  clear hAe hD0
  have hS : va_S A s.heap s.heap [] := va_S.rf
  obtain ⟨w0, hw0⟩ : ∃ z, z = wt := ⟨_, rfl⟩
  have hW : tk_kp [] w0 wt := by rw [hw0]; exact tk_kp.rf
  rw [← hw0]
  clear hw0
  have hP : va_P (gg_D G) classes ([] ++ wt) s.heap := hP
  have hD : va_D A ([] ++ wt) := hD
  have hl := lv_entry ([.ref t, .int b]) (n := 2) (Nat.le_of_ble_eq_true rfl)
  rw [lg_entry_eq]
  generalize (lg_sl ([.ref t, .int b]) ++ List.replicate (2 - (lg_sl ([.ref t, .int b])).length) Slot.unset).toArray = ls at hl ⊢
  have hl : lv_has ls 2 [(0, .ref t), (1, .int b)] := hl
  have l0 : (0 : Int32).toInt = 0 := by decide +kernel
  refine lv_aload_n hx hb dX7_breakOff_0 rfl (lv_at hl 0 rfl) ?_
  refine tr_get (ci := 7) hx hb ht hown hK hT hP k_t (by decide) i_X7 rfl 4 (by decide) wd_246 rfl dX7_breakOff_1 (fun v hv hf_1 => ?_)
  obtain ⟨q_2, rfl, hq_2⟩ := hv
  refine lv_iload_n hx hb dX7_breakOff_4 rfl (lv_at hl 1 rfl) ?_
  refine lv_iconst (v := 0) hx hb dX7_breakOff_5 (by decide +kernel) ?_
  refine tr_iast hx hb hK hT hP hD hS 21 hq_2 (by decide) (by decide) (show vp_in _ (tk_len 21) from ia_in (n := 3) (by omega) (by omega)) (show tk_e 21 _ from trivial) dX7_breakOff_6 (fun H locs wt hT hfl hP hD hS => ?_)
  have hW := hW.arr hfl
  refine lv_aload_n hx hb dX7_breakOff_7 rfl (lv_at hl 0 rfl) ?_
  refine tr_get (ci := 7) hx hb ht hown hK hT hP k_t (by decide) i_X7 rfl 5 (by decide) wd_250 rfl dX7_breakOff_8 (fun v hv hf_3 => ?_)
  obtain ⟨q_4, rfl, hq_4⟩ := hv
  refine lv_iload_n hx hb dX7_breakOff_11 rfl (lv_at hl 1 rfl) ?_
  refine lv_iconst (v := 0) hx hb dX7_breakOff_12 (by decide +kernel) ?_
  refine tr_iast hx hb hK hT hP hD hS 21 hq_4 (by decide) (by decide) (show vp_in _ (tk_len 21) from ia_in (n := 3) (by omega) (by omega)) (show tk_e 21 _ from trivial) dX7_breakOff_13 (fun H locs wt hT hfl hP hD hS => ?_)
  have hW := hW.arr hfl
  refine lv_aload_n hx hb dX7_breakOff_14 rfl (lv_at hl 0 rfl) ?_
  refine tr_get (ci := 7) hx hb ht hown hK hT hP k_t (by decide) i_X7 rfl 8 (by decide) wd_261 rfl dX7_breakOff_15 (fun v hv hf_5 => ?_)
  obtain ⟨q_6, rfl, hq_6⟩ := hv
  refine lv_iload_n hx hb dX7_breakOff_18 rfl (lv_at hl 1 rfl) ?_
  refine lv_iconst (v := 0) hx hb dX7_breakOff_19 (by decide +kernel) ?_
  refine tr_iast hx hb hK hT hP hD hS 22 hq_6 (by decide) (by decide) (show vp_in _ (tk_len 22) from ia_in (n := 3) (by omega) (by omega)) (show tk_e 22 _ from ⟨by omega, by omega⟩) dX7_breakOff_20 (fun H locs wt hT hfl hP hD hS => ?_)
  have hW := hW.arr hfl
  have hP9 := tw_right hP
  have hD9 := tw_rightD hD
  exact W.vret hx hb hr (gq_endV wt ⟨hT, hW⟩ hP9 hD9 hS) hS.2.2 dX7_breakOff_21
set_option maxHeartbeats 4000000 in
set_option maxRecDepth 100000 in
theorem d_finish (l : Launch) (G : gg_T) (Γ : Nat → Nat) (sz : Nat) (wt : va_W) (hT : tk_ty G Γ wt) (t : Nat) (b : Int32) (w : Int32) (z : Int32) (k_t : Γ t = 8) (lo_b : 0 ≤ b.toInt) (hi_b : b.toInt ≤ 2) : Met l yX7_finish (ts_L yX7_finish cX7_finish 5 none) ({ frames := 0, cells := 0, slots := 0, locals := 0 }) (gc_P G wt sz [.ref t, .int b, .int w, .int z]) (gc_V G (va_A wt sz) (fun (u : va_W) => tk_ty G Γ u ∧ tk_kp [] wt u) (fun u => u)) 0 0 (va_A wt sz) := by
  refine Met.ofW (cc := cX7_finish) (maxL := 5) (ret := none) (by decide) rfl ?_
  intro p e s m args below meth c s₁ B hml hv
  obtain ⟨rfl, hsz, hP, hK, hD0⟩ := hv
  have hx := B.exec
  have hb := B.bytes
  have hr := B.returns
  have ht := ts_ht (atoms_spec (ws := ts_L yX7_finish cX7_finish 5 none) B.pre)
  have hown : s.vm.findClass RX7 = some m.cls := findClass_of_methodNamed B.named
  have hlocks := B.notSynchronized
  subst hsz
  have hD := hD0.self (sz := s.heap.size)
  generalize hAe : va_A wt s.heap.size = A at hD ⊢
  have hA : ∀ q : Nat, s.heap.size ≤ q → A q := fun q h => by rw [← hAe]; exact Or.inr h
  clear hAe hD0
  have hS : va_S A s.heap s.heap [] := va_S.rf
  obtain ⟨w0, hw0⟩ : ∃ z, z = wt := ⟨_, rfl⟩
  have hW : tk_kp [] w0 wt := by rw [hw0]; exact tk_kp.rf
  rw [← hw0]
  clear hw0
  have hP : va_P (gg_D G) classes ([] ++ wt) s.heap := hP
  have hD : va_D A ([] ++ wt) := hD
  have hl := lv_entry ([.ref t, .int b, .int w, .int z]) (n := 5) (Nat.le_of_ble_eq_true rfl)
  rw [lg_entry_eq]
  generalize (lg_sl ([.ref t, .int b, .int w, .int z]) ++ List.replicate (5 - (lg_sl ([.ref t, .int b, .int w, .int z])).length) Slot.unset).toArray = ls at hl ⊢
  have hl : lv_has ls 5 [(0, .ref t), (1, .int b), (2, .int w), (3, .int z)] := hl
  have lm1 : ((-1) : Int32).toInt = -1 := by decide +kernel
  have l0 : (0 : Int32).toInt = 0 := by decide +kernel
  have l1 : (1 : Int32).toInt = 1 := by decide +kernel
  have l2 : (2 : Int32).toInt = 2 := by decide +kernel
  have l5 : (5 : Int32).toInt = 5 := by decide +kernel
  refine lv_aload_n hx hb dX7_finish_0 rfl (lv_at hl 0 rfl) ?_
  refine tr_get (ci := 7) hx hb ht hown hK hT hP k_t (by decide) i_X7 rfl 4 (by decide) wd_246 rfl dX7_finish_1 (fun v hv hf_1 => ?_)
  obtain ⟨q_2, rfl, hq_2⟩ := hv
  refine lv_iload_n hx hb dX7_finish_4 rfl (lv_at hl 1 rfl) ?_
  refine lv_iconst (v := 2) hx hb dX7_finish_5 (by decide +kernel) ?_
  refine tr_iast hx hb hK hT hP hD hS 21 hq_2 (by decide) (by decide) (show vp_in _ (tk_len 21) from ia_in (n := 3) (by omega) (by omega)) (show tk_e 21 _ from trivial) dX7_finish_6 (fun H locs wt hT hfl hP hD hS => ?_)
  have hW := hW.arr hfl
  refine lv_aload_n hx hb dX7_finish_7 rfl (lv_at hl 0 rfl) ?_
  refine tr_get (ci := 7) hx hb ht hown hK hT hP k_t (by decide) i_X7 rfl 8 (by decide) wd_261 rfl dX7_finish_8 (fun v hv hf_3 => ?_)
  obtain ⟨q_4, rfl, hq_4⟩ := hv
  refine lv_iload_n hx hb dX7_finish_11 rfl (lv_at hl 1 rfl) ?_
  refine lv_iconst (v := 0) hx hb dX7_finish_12 (by decide +kernel) ?_
  refine tr_iast hx hb hK hT hP hD hS 22 hq_4 (by decide) (by decide) (show vp_in _ (tk_len 22) from ia_in (n := 3) (by omega) (by omega)) (show tk_e 22 _ from ⟨by omega, by omega⟩) dX7_finish_13 (fun H locs wt hT hfl hP hD hS => ?_)
  have hW := hW.arr hfl
  refine lv_aload_n hx hb dX7_finish_14 rfl (lv_at hl 0 rfl) ?_
  refine tr_get (ci := 7) hx hb ht hown hK hT hP k_t (by decide) i_X7 rfl 6 (by decide) wd_254 rfl dX7_finish_15 (fun v hv hf_5 => ?_)
  obtain ⟨q_6, rfl, hq_6⟩ := hv
  refine lv_iload_n hx hb dX7_finish_18 rfl (lv_at hl 1 rfl) ?_
  refine lv_iload_n hx hb dX7_finish_19 rfl (lv_at hl 2 rfl) ?_
  refine tr_iast hx hb hK hT hP hD hS 21 hq_6 (by decide) (by decide) (show vp_in _ (tk_len 21) from ia_in (n := 3) (by omega) (by omega)) (show tk_e 21 _ from trivial) dX7_finish_20 (fun H locs wt hT hfl hP hD hS => ?_)
  have hW := hW.arr hfl
  refine lv_aload_n hx hb dX7_finish_21 rfl (lv_at hl 0 rfl) ?_
  refine tr_get (ci := 7) hx hb ht hown hK hT hP k_t (by decide) i_X7 rfl 7 (by decide) wd_258 rfl dX7_finish_22 (fun v hv hf_7 => ?_)
  obtain ⟨q_8, rfl, hq_8⟩ := hv
  refine lv_iload_n hx hb dX7_finish_25 rfl (lv_at hl 1 rfl) ?_
  refine lv_iload_n hx hb dX7_finish_26 rfl (lv_at hl 3 rfl) ?_
  refine tr_iast hx hb hK hT hP hD hS 21 hq_8 (by decide) (by decide) (show vp_in _ (tk_len 21) from ia_in (n := 3) (by omega) (by omega)) (show tk_e 21 _ from trivial) dX7_finish_27 (fun H locs wt hT hfl hP hD hS => ?_)
  have hW := hW.arr hfl
  refine lv_iload_n hx hb dX7_finish_28 rfl (lv_at hl 2 rfl) ?_
  refine lv_if_lt (tgt := 47) hx hb dX7_finish_29 (by decide) (fun c_9 => ?_) (fun c_9 => ?_)
  · rw [Int32.lt_iff_toInt_lt] at c_9
    refine lv_iconst (v := 0) hx hb dX7_finish_47 (by decide +kernel) ?_
    refine lv_istore (lv' := [(4, .int 0), (0, .ref t), (1, .int b), (2, .int w), (3, .int z)]) hx hb dX7_finish_48 hl (by decide) rfl (fun ls hl => ?_)
    refine tl_loopE (Γ := Γ) (nL := 5) (fun (zz_ : Int32) => match zz_ with | x50_0 => 0 ≤ x50_0.toInt ∧ x50_0.toInt ≤ 5) (fun (zz_ : Int32) => match zz_ with | x50_0 => (5 - x50_0.toInt).toNat) (fun (zz_ : Int32) => match zz_ with | x50_0 => [(4, .int x50_0), (0, .ref t), (1, .int b), (2, .int w), (3, .int z)]) (fun (zz_ : Int32) => match zz_ with | x50_0 => []) (fun (zz_ : Int32) (w : va_W) => match zz_ with | x50_0 => tk_kp [] w0 w) (fun zz_ hI H locs wt ls hT hW hP hD hS hl ih50 => ?_) 0 (show 0 ≤ (0 : Int32).toInt ∧ (0 : Int32).toInt ≤ 5 from ⟨by omega, by omega⟩) _ _ wt ls hT hW hP hD hS hl
    obtain ⟨x50_0, rfl⟩ : ∃ z2, z2 = zz_ := ⟨_, rfl⟩
    have hW : tk_kp [] w0 wt := hW
    have hI : 0 ≤ x50_0.toInt ∧ x50_0.toInt ≤ 5 := hI
    obtain ⟨j50_0, j50_1⟩ := hI
    have hl : lv_has ls 5 [(4, .int x50_0), (0, .ref t), (1, .int b), (2, .int w), (3, .int z)] := hl
    have hP : va_P (gg_D G) classes ([] ++ wt) H := hP
    have hD : va_D A ([] ++ wt) := hD
    refine lv_iload hx hb dX7_finish_50 (lv_at hl 0 rfl) ?_
    refine lv_iconst (v := 5) hx hb dX7_finish_52 (by decide +kernel) ?_
    refine lv_icmp_ge (tgt := 91) hx hb dX7_finish_53 (by decide) (fun c_10 => ?_) (fun c_10 => ?_)
    · rw [Int32.le_iff_toInt_le] at c_10
      have hP9 := tw_right hP
      have hD9 := tw_rightD hD
      exact W.vret hx hb hr (gq_endV wt ⟨hT, hW⟩ hP9 hD9 hS) hS.2.2 dX7_finish_91
    · rw [Int32.le_iff_toInt_le] at c_10
      refine lv_aload_n hx hb dX7_finish_56 rfl (lv_at hl 1 rfl) ?_
      refine tr_get (ci := 7) hx hb ht hown hK hT hP k_t (by decide) i_X7 rfl 2 (by decide) wd_239 rfl dX7_finish_57 (fun v hv hf_11 => ?_)
      obtain ⟨q_12, rfl, hq_12⟩ := hv
      refine lv_iload hx hb dX7_finish_60 (lv_at hl 0 rfl) ?_
      refine lv_aload_n hx hb dX7_finish_62 rfl (lv_at hl 1 rfl) ?_
      refine tr_get (ci := 7) hx hb ht hown hK hT hP k_t (by decide) i_X7 rfl 2 (by decide) wd_239 rfl dX7_finish_63 (fun v hv hf_13 => ?_)
      obtain ⟨q_14, rfl, hq_14⟩ := hv
      refine lv_iload hx hb dX7_finish_66 (lv_at hl 0 rfl) ?_
      refine tr_iald hx hb hK hT hP 20 hq_14 (by decide) (by decide) (show vp_in _ (tk_len 20) from ia_in (n := 5) (by omega) (by omega)) dX7_finish_68 (fun n_15 hn_15 => ?_)
      clear hn_15
      refine lv_iload_n hx hb dX7_finish_69 rfl (lv_at hl 2 rfl) ?_
      refine lv_icmp_ne (tgt := 77) hx hb dX7_finish_70 (by decide) (fun c_16 => ?_) (fun c_16 => ?_)
      · rw [← Int32.toInt_inj] at c_16
        refine lv_aload_n hx hb dX7_finish_77 rfl (lv_at hl 1 rfl) ?_
        refine tr_get (ci := 7) hx hb ht hown hK hT hP k_t (by decide) i_X7 rfl 2 (by decide) wd_239 rfl dX7_finish_78 (fun v hv hf_17 => ?_)
        obtain ⟨q_18, rfl, hq_18⟩ := hv
        refine lv_iload hx hb dX7_finish_81 (lv_at hl 0 rfl) ?_
        refine tr_iald hx hb hK hT hP 20 hq_18 (by decide) (by decide) (show vp_in _ (tk_len 20) from ia_in (n := 5) (by omega) (by omega)) dX7_finish_83 (fun n_19 hn_19 => ?_)
        clear hn_19
        refine tr_iast hx hb hK hT hP hD hS 20 hq_12 (by decide) (by decide) (show vp_in _ (tk_len 20) from ia_in (n := 5) (by omega) (by omega)) (show tk_e 20 _ from trivial) dX7_finish_84 (fun H locs wt hT hfl hP hD hS => ?_)
        have hW := hW.arr hfl
        obtain ⟨t_20, et_20⟩ : ∃ zz_ : Int32, x50_0 + Int32.ofInt (1) = zz_ := ⟨_, rfl⟩
        have ft_20 : t_20.toInt = x50_0.toInt + (1 : Int32).toInt := ia_add (y := 1) et_20 (by omega) (by omega)
        refine lv_iinc (v := t_20) (lv' := [(4, .int t_20), (0, .ref t), (1, .int b), (2, .int w), (3, .int z)]) hx hb dX7_finish_85 hl (k := 0) rfl et_20 (by decide) rfl (fun ls hl => ?_)
        refine lv_goto (tgt := 50) hx hb dX7_finish_88 (by decide) ?_
        exact ih50 t_20 (show 0 ≤ t_20.toInt ∧ t_20.toInt ≤ 5 from ⟨by omega, by omega⟩) (show (5 - t_20.toInt).toNat < (5 - x50_0.toInt).toNat by omega) H locs wt ls hT hW hP hD hS (lv_sub hl [0, 1, 2, 3, 4] rfl)
      · rw [← Int32.toInt_inj] at c_16
        refine lv_iconst (v := (-1)) hx hb dX7_finish_73 (by decide +kernel) ?_
        refine lv_goto (tgt := 84) hx hb dX7_finish_74 (by decide) ?_
        refine tr_iast hx hb hK hT hP hD hS 20 hq_12 (by decide) (by decide) (show vp_in _ (tk_len 20) from ia_in (n := 5) (by omega) (by omega)) (show tk_e 20 _ from trivial) dX7_finish_84 (fun H locs wt hT hfl hP hD hS => ?_)
        have hW := hW.arr hfl
        obtain ⟨t_21, et_21⟩ : ∃ zz_ : Int32, x50_0 + Int32.ofInt (1) = zz_ := ⟨_, rfl⟩
        have ft_21 : t_21.toInt = x50_0.toInt + (1 : Int32).toInt := ia_add (y := 1) et_21 (by omega) (by omega)
        refine lv_iinc (v := t_21) (lv' := [(4, .int t_21), (0, .ref t), (1, .int b), (2, .int w), (3, .int z)]) hx hb dX7_finish_85 hl (k := 0) rfl et_21 (by decide) rfl (fun ls hl => ?_)
        refine lv_goto (tgt := 50) hx hb dX7_finish_88 (by decide) ?_
        exact ih50 t_21 (show 0 ≤ t_21.toInt ∧ t_21.toInt ≤ 5 from ⟨by omega, by omega⟩) (show (5 - t_21.toInt).toNat < (5 - x50_0.toInt).toNat by omega) H locs wt ls hT hW hP hD hS (lv_sub hl [0, 1, 2, 3, 4] rfl)
  · rw [Int32.lt_iff_toInt_lt] at c_9
    refine lv_iload_n hx hb dX7_finish_32 rfl (lv_at hl 2 rfl) ?_
    refine lv_iconst (v := 5) hx hb dX7_finish_33 (by decide +kernel) ?_
    refine lv_icmp_ge (tgt := 47) hx hb dX7_finish_34 (by decide) (fun c_22 => ?_) (fun c_22 => ?_)
    · rw [Int32.le_iff_toInt_le] at c_22
      refine lv_iconst (v := 0) hx hb dX7_finish_47 (by decide +kernel) ?_
      refine lv_istore (lv' := [(4, .int 0), (0, .ref t), (1, .int b), (2, .int w), (3, .int z)]) hx hb dX7_finish_48 hl (by decide) rfl (fun ls hl => ?_)
      refine tl_loopE (Γ := Γ) (nL := 5) (fun (zz_ : Int32) => match zz_ with | x50_0 => 0 ≤ x50_0.toInt ∧ x50_0.toInt ≤ 5) (fun (zz_ : Int32) => match zz_ with | x50_0 => (5 - x50_0.toInt).toNat) (fun (zz_ : Int32) => match zz_ with | x50_0 => [(4, .int x50_0), (0, .ref t), (1, .int b), (2, .int w), (3, .int z)]) (fun (zz_ : Int32) => match zz_ with | x50_0 => []) (fun (zz_ : Int32) (w : va_W) => match zz_ with | x50_0 => tk_kp [] w0 w) (fun zz_ hI H locs wt ls hT hW hP hD hS hl ih50 => ?_) 0 (show 0 ≤ (0 : Int32).toInt ∧ (0 : Int32).toInt ≤ 5 from ⟨by omega, by omega⟩) _ _ wt ls hT hW hP hD hS hl
      obtain ⟨x50_0, rfl⟩ : ∃ z2, z2 = zz_ := ⟨_, rfl⟩
      have hW : tk_kp [] w0 wt := hW
      have hI : 0 ≤ x50_0.toInt ∧ x50_0.toInt ≤ 5 := hI
      obtain ⟨j50_0, j50_1⟩ := hI
      have hl : lv_has ls 5 [(4, .int x50_0), (0, .ref t), (1, .int b), (2, .int w), (3, .int z)] := hl
      have hP : va_P (gg_D G) classes ([] ++ wt) H := hP
      have hD : va_D A ([] ++ wt) := hD
      refine lv_iload hx hb dX7_finish_50 (lv_at hl 0 rfl) ?_
      refine lv_iconst (v := 5) hx hb dX7_finish_52 (by decide +kernel) ?_
      refine lv_icmp_ge (tgt := 91) hx hb dX7_finish_53 (by decide) (fun c_23 => ?_) (fun c_23 => ?_)
      · rw [Int32.le_iff_toInt_le] at c_23
        have hP9 := tw_right hP
        have hD9 := tw_rightD hD
        exact W.vret hx hb hr (gq_endV wt ⟨hT, hW⟩ hP9 hD9 hS) hS.2.2 dX7_finish_91
      · rw [Int32.le_iff_toInt_le] at c_23
        refine lv_aload_n hx hb dX7_finish_56 rfl (lv_at hl 1 rfl) ?_
        refine tr_get (ci := 7) hx hb ht hown hK hT hP k_t (by decide) i_X7 rfl 2 (by decide) wd_239 rfl dX7_finish_57 (fun v hv hf_24 => ?_)
        obtain ⟨q_25, rfl, hq_25⟩ := hv
        refine lv_iload hx hb dX7_finish_60 (lv_at hl 0 rfl) ?_
        refine lv_aload_n hx hb dX7_finish_62 rfl (lv_at hl 1 rfl) ?_
        refine tr_get (ci := 7) hx hb ht hown hK hT hP k_t (by decide) i_X7 rfl 2 (by decide) wd_239 rfl dX7_finish_63 (fun v hv hf_26 => ?_)
        obtain ⟨q_27, rfl, hq_27⟩ := hv
        refine lv_iload hx hb dX7_finish_66 (lv_at hl 0 rfl) ?_
        refine tr_iald hx hb hK hT hP 20 hq_27 (by decide) (by decide) (show vp_in _ (tk_len 20) from ia_in (n := 5) (by omega) (by omega)) dX7_finish_68 (fun n_28 hn_28 => ?_)
        clear hn_28
        refine lv_iload_n hx hb dX7_finish_69 rfl (lv_at hl 2 rfl) ?_
        refine lv_icmp_ne (tgt := 77) hx hb dX7_finish_70 (by decide) (fun c_29 => ?_) (fun c_29 => ?_)
        · rw [← Int32.toInt_inj] at c_29
          refine lv_aload_n hx hb dX7_finish_77 rfl (lv_at hl 1 rfl) ?_
          refine tr_get (ci := 7) hx hb ht hown hK hT hP k_t (by decide) i_X7 rfl 2 (by decide) wd_239 rfl dX7_finish_78 (fun v hv hf_30 => ?_)
          obtain ⟨q_31, rfl, hq_31⟩ := hv
          refine lv_iload hx hb dX7_finish_81 (lv_at hl 0 rfl) ?_
          refine tr_iald hx hb hK hT hP 20 hq_31 (by decide) (by decide) (show vp_in _ (tk_len 20) from ia_in (n := 5) (by omega) (by omega)) dX7_finish_83 (fun n_32 hn_32 => ?_)
          clear hn_32
          refine tr_iast hx hb hK hT hP hD hS 20 hq_25 (by decide) (by decide) (show vp_in _ (tk_len 20) from ia_in (n := 5) (by omega) (by omega)) (show tk_e 20 _ from trivial) dX7_finish_84 (fun H locs wt hT hfl hP hD hS => ?_)
          have hW := hW.arr hfl
          obtain ⟨t_33, et_33⟩ : ∃ zz_ : Int32, x50_0 + Int32.ofInt (1) = zz_ := ⟨_, rfl⟩
          have ft_33 : t_33.toInt = x50_0.toInt + (1 : Int32).toInt := ia_add (y := 1) et_33 (by omega) (by omega)
          refine lv_iinc (v := t_33) (lv' := [(4, .int t_33), (0, .ref t), (1, .int b), (2, .int w), (3, .int z)]) hx hb dX7_finish_85 hl (k := 0) rfl et_33 (by decide) rfl (fun ls hl => ?_)
          refine lv_goto (tgt := 50) hx hb dX7_finish_88 (by decide) ?_
          exact ih50 t_33 (show 0 ≤ t_33.toInt ∧ t_33.toInt ≤ 5 from ⟨by omega, by omega⟩) (show (5 - t_33.toInt).toNat < (5 - x50_0.toInt).toNat by omega) H locs wt ls hT hW hP hD hS (lv_sub hl [0, 1, 2, 3, 4] rfl)
        · rw [← Int32.toInt_inj] at c_29
          refine lv_iconst (v := (-1)) hx hb dX7_finish_73 (by decide +kernel) ?_
          refine lv_goto (tgt := 84) hx hb dX7_finish_74 (by decide) ?_
          refine tr_iast hx hb hK hT hP hD hS 20 hq_25 (by decide) (by decide) (show vp_in _ (tk_len 20) from ia_in (n := 5) (by omega) (by omega)) (show tk_e 20 _ from trivial) dX7_finish_84 (fun H locs wt hT hfl hP hD hS => ?_)
          have hW := hW.arr hfl
          obtain ⟨t_34, et_34⟩ : ∃ zz_ : Int32, x50_0 + Int32.ofInt (1) = zz_ := ⟨_, rfl⟩
          have ft_34 : t_34.toInt = x50_0.toInt + (1 : Int32).toInt := ia_add (y := 1) et_34 (by omega) (by omega)
          refine lv_iinc (v := t_34) (lv' := [(4, .int t_34), (0, .ref t), (1, .int b), (2, .int w), (3, .int z)]) hx hb dX7_finish_85 hl (k := 0) rfl et_34 (by decide) rfl (fun ls hl => ?_)
          refine lv_goto (tgt := 50) hx hb dX7_finish_88 (by decide) ?_
          exact ih50 t_34 (show 0 ≤ t_34.toInt ∧ t_34.toInt ≤ 5 from ⟨by omega, by omega⟩) (show (5 - t_34.toInt).toNat < (5 - x50_0.toInt).toNat by omega) H locs wt ls hT hW hP hD hS (lv_sub hl [0, 1, 2, 3, 4] rfl)
    · rw [Int32.le_iff_toInt_le] at c_22
      refine lv_aload_n hx hb dX7_finish_37 rfl (lv_at hl 0 rfl) ?_
      refine tr_get (ci := 7) hx hb ht hown hK hT hP k_t (by decide) i_X7 rfl 0 (by decide) wd_231 rfl dX7_finish_38 (fun v hv hf_35 => ?_)
      obtain ⟨q_36, rfl, hq_36⟩ := hv
      refine lv_iload_n hx hb dX7_finish_41 rfl (lv_at hl 2 rfl) ?_
      refine lv_dup2_11 hx hb dX7_finish_42 rfl rfl ?_
      refine tr_iald hx hb hK hT hP 20 hq_36 (by decide) (by decide) (show vp_in _ (tk_len 20) from ia_in (n := 5) (by omega) (by omega)) dX7_finish_43 (fun n_37 hn_37 => ?_)
      clear hn_37
      refine lv_iload_n hx hb dX7_finish_44 rfl (lv_at hl 3 rfl) ?_
      obtain ⟨t_38, et_38⟩ : ∃ zz_ : Int32, n_37 - z = zz_ := ⟨_, rfl⟩
      refine gq_isub hx hb t_38 et_38 dX7_finish_45 ?_
      refine tr_iast hx hb hK hT hP hD hS 20 hq_36 (by decide) (by decide) (show vp_in _ (tk_len 20) from ia_in (n := 5) (by omega) (by omega)) (show tk_e 20 _ from trivial) dX7_finish_46 (fun H locs wt hT hfl hP hD hS => ?_)
      have hW := hW.arr hfl
      refine lv_iconst (v := 0) hx hb dX7_finish_47 (by decide +kernel) ?_
      refine lv_istore (lv' := [(4, .int 0), (0, .ref t), (1, .int b), (2, .int w), (3, .int z)]) hx hb dX7_finish_48 hl (by decide) rfl (fun ls hl => ?_)
      refine tl_loopE (Γ := Γ) (nL := 5) (fun (zz_ : Int32) => match zz_ with | x50_0 => 0 ≤ x50_0.toInt ∧ x50_0.toInt ≤ 5) (fun (zz_ : Int32) => match zz_ with | x50_0 => (5 - x50_0.toInt).toNat) (fun (zz_ : Int32) => match zz_ with | x50_0 => [(4, .int x50_0), (0, .ref t), (1, .int b), (2, .int w), (3, .int z)]) (fun (zz_ : Int32) => match zz_ with | x50_0 => []) (fun (zz_ : Int32) (w : va_W) => match zz_ with | x50_0 => tk_kp [] w0 w) (fun zz_ hI H locs wt ls hT hW hP hD hS hl ih50 => ?_) 0 (show 0 ≤ (0 : Int32).toInt ∧ (0 : Int32).toInt ≤ 5 from ⟨by omega, by omega⟩) _ _ wt ls hT hW hP hD hS hl
      obtain ⟨x50_0, rfl⟩ : ∃ z2, z2 = zz_ := ⟨_, rfl⟩
      have hW : tk_kp [] w0 wt := hW
      have hI : 0 ≤ x50_0.toInt ∧ x50_0.toInt ≤ 5 := hI
      obtain ⟨j50_0, j50_1⟩ := hI
      have hl : lv_has ls 5 [(4, .int x50_0), (0, .ref t), (1, .int b), (2, .int w), (3, .int z)] := hl
      have hP : va_P (gg_D G) classes ([] ++ wt) H := hP
      have hD : va_D A ([] ++ wt) := hD
      refine lv_iload hx hb dX7_finish_50 (lv_at hl 0 rfl) ?_
      refine lv_iconst (v := 5) hx hb dX7_finish_52 (by decide +kernel) ?_
      refine lv_icmp_ge (tgt := 91) hx hb dX7_finish_53 (by decide) (fun c_39 => ?_) (fun c_39 => ?_)
      · rw [Int32.le_iff_toInt_le] at c_39
        have hP9 := tw_right hP
        have hD9 := tw_rightD hD
        exact W.vret hx hb hr (gq_endV wt ⟨hT, hW⟩ hP9 hD9 hS) hS.2.2 dX7_finish_91
      · rw [Int32.le_iff_toInt_le] at c_39
        refine lv_aload_n hx hb dX7_finish_56 rfl (lv_at hl 1 rfl) ?_
        refine tr_get (ci := 7) hx hb ht hown hK hT hP k_t (by decide) i_X7 rfl 2 (by decide) wd_239 rfl dX7_finish_57 (fun v hv hf_40 => ?_)
        obtain ⟨q_41, rfl, hq_41⟩ := hv
        refine lv_iload hx hb dX7_finish_60 (lv_at hl 0 rfl) ?_
        refine lv_aload_n hx hb dX7_finish_62 rfl (lv_at hl 1 rfl) ?_
        refine tr_get (ci := 7) hx hb ht hown hK hT hP k_t (by decide) i_X7 rfl 2 (by decide) wd_239 rfl dX7_finish_63 (fun v hv hf_42 => ?_)
        obtain ⟨q_43, rfl, hq_43⟩ := hv
        refine lv_iload hx hb dX7_finish_66 (lv_at hl 0 rfl) ?_
        refine tr_iald hx hb hK hT hP 20 hq_43 (by decide) (by decide) (show vp_in _ (tk_len 20) from ia_in (n := 5) (by omega) (by omega)) dX7_finish_68 (fun n_44 hn_44 => ?_)
        clear hn_44
        refine lv_iload_n hx hb dX7_finish_69 rfl (lv_at hl 2 rfl) ?_
        refine lv_icmp_ne (tgt := 77) hx hb dX7_finish_70 (by decide) (fun c_45 => ?_) (fun c_45 => ?_)
        · rw [← Int32.toInt_inj] at c_45
          refine lv_aload_n hx hb dX7_finish_77 rfl (lv_at hl 1 rfl) ?_
          refine tr_get (ci := 7) hx hb ht hown hK hT hP k_t (by decide) i_X7 rfl 2 (by decide) wd_239 rfl dX7_finish_78 (fun v hv hf_46 => ?_)
          obtain ⟨q_47, rfl, hq_47⟩ := hv
          refine lv_iload hx hb dX7_finish_81 (lv_at hl 0 rfl) ?_
          refine tr_iald hx hb hK hT hP 20 hq_47 (by decide) (by decide) (show vp_in _ (tk_len 20) from ia_in (n := 5) (by omega) (by omega)) dX7_finish_83 (fun n_48 hn_48 => ?_)
          clear hn_48
          refine tr_iast hx hb hK hT hP hD hS 20 hq_41 (by decide) (by decide) (show vp_in _ (tk_len 20) from ia_in (n := 5) (by omega) (by omega)) (show tk_e 20 _ from trivial) dX7_finish_84 (fun H locs wt hT hfl hP hD hS => ?_)
          have hW := hW.arr hfl
          obtain ⟨t_49, et_49⟩ : ∃ zz_ : Int32, x50_0 + Int32.ofInt (1) = zz_ := ⟨_, rfl⟩
          have ft_49 : t_49.toInt = x50_0.toInt + (1 : Int32).toInt := ia_add (y := 1) et_49 (by omega) (by omega)
          refine lv_iinc (v := t_49) (lv' := [(4, .int t_49), (0, .ref t), (1, .int b), (2, .int w), (3, .int z)]) hx hb dX7_finish_85 hl (k := 0) rfl et_49 (by decide) rfl (fun ls hl => ?_)
          refine lv_goto (tgt := 50) hx hb dX7_finish_88 (by decide) ?_
          exact ih50 t_49 (show 0 ≤ t_49.toInt ∧ t_49.toInt ≤ 5 from ⟨by omega, by omega⟩) (show (5 - t_49.toInt).toNat < (5 - x50_0.toInt).toNat by omega) H locs wt ls hT hW hP hD hS (lv_sub hl [0, 1, 2, 3, 4] rfl)
        · rw [← Int32.toInt_inj] at c_45
          refine lv_iconst (v := (-1)) hx hb dX7_finish_73 (by decide +kernel) ?_
          refine lv_goto (tgt := 84) hx hb dX7_finish_74 (by decide) ?_
          refine tr_iast hx hb hK hT hP hD hS 20 hq_41 (by decide) (by decide) (show vp_in _ (tk_len 20) from ia_in (n := 5) (by omega) (by omega)) (show tk_e 20 _ from trivial) dX7_finish_84 (fun H locs wt hT hfl hP hD hS => ?_)
          have hW := hW.arr hfl
          obtain ⟨t_50, et_50⟩ : ∃ zz_ : Int32, x50_0 + Int32.ofInt (1) = zz_ := ⟨_, rfl⟩
          have ft_50 : t_50.toInt = x50_0.toInt + (1 : Int32).toInt := ia_add (y := 1) et_50 (by omega) (by omega)
          refine lv_iinc (v := t_50) (lv' := [(4, .int t_50), (0, .ref t), (1, .int b), (2, .int w), (3, .int z)]) hx hb dX7_finish_85 hl (k := 0) rfl et_50 (by decide) rfl (fun ls hl => ?_)
          refine lv_goto (tgt := 50) hx hb dX7_finish_88 (by decide) ?_
          exact ih50 t_50 (show 0 ≤ t_50.toInt ∧ t_50.toInt ≤ 5 from ⟨by omega, by omega⟩) (show (5 - t_50.toInt).toNat < (5 - x50_0.toInt).toNat by omega) H locs wt ls hT hW hP hD hS (lv_sub hl [0, 1, 2, 3, 4] rfl)
set_option maxHeartbeats 4000000 in
set_option maxRecDepth 100000 in
theorem d_begin (l : Launch) (G : gg_T) (Γ : Nat → Nat) (sz : Nat) (wt : va_W) (hT : tk_ty G Γ wt) (t : Nat) (b : Int32) (k_t : Γ t = 8) (lo_b : 0 ≤ b.toInt) (hi_b : b.toInt ≤ 2) : Met l yX7_begin (ts_L yX7_begin cX7_begin 4 (some .int)) ({ frames := 1, cells := 0, slots := 0, locals := 24 }) (gc_P G wt sz [.ref t, .int b]) (gc_I G (va_A wt sz) (fun r (u : va_W) => tk_ty G Γ u ∧ tk_kp [] wt u) (fun u => u)) 0 0 (va_A wt sz) := by
  refine Met.ofW (cc := cX7_begin) (maxL := 4) (ret := (some .int)) (by decide) rfl ?_
  intro p e s m args below meth c s₁ B hml hv
  obtain ⟨rfl, hsz, hP, hK, hD0⟩ := hv
  have hx := B.exec
  have hb := B.bytes
  have hr := B.returns
  have ht := ts_ht (atoms_spec (ws := ts_L yX7_begin cX7_begin 4 (some .int)) B.pre)
  have hown : s.vm.findClass RX7 = some m.cls := findClass_of_methodNamed B.named
  have hlocks := B.notSynchronized
  subst hsz
  have hD := hD0.self (sz := s.heap.size)
  generalize hAe : va_A wt s.heap.size = A at hD ⊢
  have hA : ∀ q : Nat, s.heap.size ≤ q → A q := fun q h => by rw [← hAe]; exact Or.inr h
  clear hAe hD0
  have hS : va_S A s.heap s.heap [] := va_S.rf
  obtain ⟨w0, hw0⟩ : ∃ z, z = wt := ⟨_, rfl⟩
  have hW : tk_kp [] w0 wt := by rw [hw0]; exact tk_kp.rf
  rw [← hw0]
  clear hw0
  have hP : va_P (gg_D G) classes ([] ++ wt) s.heap := hP
  have hD : va_D A ([] ++ wt) := hD
  have hl := lv_entry ([.ref t, .int b]) (n := 4) (Nat.le_of_ble_eq_true rfl)
  rw [lg_entry_eq]
  generalize (lg_sl ([.ref t, .int b]) ++ List.replicate (4 - (lg_sl ([.ref t, .int b])).length) Slot.unset).toArray = ls at hl ⊢
  have hl : lv_has ls 4 [(0, .ref t), (1, .int b)] := hl
  have l0 : (0 : Int32).toInt = 0 := by decide +kernel
  have l1 : (1 : Int32).toInt = 1 := by decide +kernel
  refine lv_aload_n hx hb dX7_begin_0 rfl (lv_at hl 0 rfl) ?_
  refine lv_iload_n hx hb dX7_begin_1 rfl (lv_at hl 1 rfl) ?_
  refine gt_callI (wr := []) (va_runV (As := [.int b]) (rest := []) ⟨hx, hb, hml, hown, ht⟩ (d_sittersOf l G Γ s.heap.size wt hT t b k_t) (cwV 1 ht (ts_gV wd_947 wd_825 wd_826 wd_125 wd_827) rfl rfl rfl (by decide +kernel) ⟨Nat.le_of_ble_eq_true rfl, Nat.le_of_ble_eq_true rfl⟩) (gt_preW (ci := 7) hK hT (tw_right hP) (tw_rightD hD) k_t (by decide) rfl) rfl rfl hl.1 rfl (lv_room (Nat.le_of_ble_eq_true rfl)) dX7_begin_2 ⟨Nat.le_of_ble_eq_true rfl, Nat.le_of_ble_eq_true rfl⟩) hP hD hS hA (fun r_1 wt H locs hw hP hD hS => ?_)
  obtain ⟨hT, hkp, lo_r_1, hi_r_1⟩ := hw
  have hW := hW.call (show ∀ x ∈ [], x ∈ [] by decide) hkp
  refine lv_istore_n (lv' := [(2, .int r_1), (0, .ref t), (1, .int b)]) hx hb dX7_begin_5 rfl hl (by decide) rfl (fun ls hl => ?_)
  refine lv_iload_n hx hb dX7_begin_6 rfl (lv_at hl 0 rfl) ?_
  refine gt_callI (wr := []) (va_runS (As := [.int r_1]) (rest := []) ⟨hx, hb, hml, hown, ht⟩ (d_bitCount l G Γ H.size wt hT r_1) (va_cwS 1 ht (ts_gS wd_948 wd_895 wd_141 wd_896) rfl rfl rfl (by decide +kernel) ⟨Nat.le_of_ble_eq_true rfl, Nat.le_of_ble_eq_true rfl⟩) (gc_preS hK (tw_right hP) (tw_rightD hD)) rfl rfl hl.1 rfl (lv_room (Nat.le_of_ble_eq_true rfl)) dX7_begin_7 ⟨Nat.le_of_ble_eq_true rfl, Nat.le_of_ble_eq_true rfl⟩) hP hD hS hA (fun r_2 wt H locs hw hP hD hS => ?_)
  obtain ⟨hT, hkp⟩ := hw
  have hW := hW.call (show ∀ x ∈ [], x ∈ [] by decide) hkp
  refine lv_istore_n (lv' := [(3, .int r_2), (2, .int r_1), (0, .ref t), (1, .int b)]) hx hb dX7_begin_10 rfl hl (by decide) rfl (fun ls hl => ?_)
  refine lv_aload_n hx hb dX7_begin_11 rfl (lv_at hl 2 rfl) ?_
  refine tr_get (ci := 7) hx hb ht hown hK hT hP k_t (by decide) i_X7 rfl 4 (by decide) wd_246 rfl dX7_begin_12 (fun v hv hf_3 => ?_)
  obtain ⟨q_4, rfl, hq_4⟩ := hv
  refine lv_iload_n hx hb dX7_begin_15 rfl (lv_at hl 3 rfl) ?_
  refine lv_iconst (v := 1) hx hb dX7_begin_16 (by decide +kernel) ?_
  refine tr_iast hx hb hK hT hP hD hS 21 hq_4 (by decide) (by decide) (show vp_in _ (tk_len 21) from ia_in (n := 3) (by omega) (by omega)) (show tk_e 21 _ from trivial) dX7_begin_17 (fun H locs wt hT hfl hP hD hS => ?_)
  have hW := hW.arr hfl
  refine lv_aload_n hx hb dX7_begin_18 rfl (lv_at hl 2 rfl) ?_
  refine tr_get (ci := 7) hx hb ht hown hK hT hP k_t (by decide) i_X7 rfl 5 (by decide) wd_250 rfl dX7_begin_19 (fun v hv hf_5 => ?_)
  obtain ⟨q_6, rfl, hq_6⟩ := hv
  refine lv_iload_n hx hb dX7_begin_22 rfl (lv_at hl 3 rfl) ?_
  refine lv_iconst (v := 0) hx hb dX7_begin_23 (by decide +kernel) ?_
  refine tr_iast hx hb hK hT hP hD hS 21 hq_6 (by decide) (by decide) (show vp_in _ (tk_len 21) from ia_in (n := 3) (by omega) (by omega)) (show tk_e 21 _ from trivial) dX7_begin_24 (fun H locs wt hT hfl hP hD hS => ?_)
  have hW := hW.arr hfl
  refine lv_aload_n hx hb dX7_begin_25 rfl (lv_at hl 2 rfl) ?_
  refine tr_get (ci := 7) hx hb ht hown hK hT hP k_t (by decide) i_X7 rfl 8 (by decide) wd_261 rfl dX7_begin_26 (fun v hv hf_7 => ?_)
  obtain ⟨q_8, rfl, hq_8⟩ := hv
  refine lv_iload_n hx hb dX7_begin_29 rfl (lv_at hl 3 rfl) ?_
  refine lv_iload_n hx hb dX7_begin_30 rfl (lv_at hl 1 rfl) ?_
  refine tr_iast hx hb hK hT hP hD hS 22 hq_8 (by decide) (by decide) (show vp_in _ (tk_len 22) from ia_in (n := 3) (by omega) (by omega)) (show tk_e 22 _ from ⟨by omega, by omega⟩) dX7_begin_31 (fun H locs wt hT hfl hP hD hS => ?_)
  have hW := hW.arr hfl
  refine lv_iload_n hx hb dX7_begin_32 rfl (lv_at hl 0 rfl) ?_
  refine lv_iconst (v := 1) hx hb dX7_begin_33 (by decide +kernel) ?_
  refine lv_icmp_ne (tgt := 47) hx hb dX7_begin_34 (by decide) (fun c_9 => ?_) (fun c_9 => ?_)
  · rw [← Int32.toInt_inj] at c_9
    refine lv_iload_n hx hb dX7_begin_47 rfl (lv_at hl 0 rfl) ?_
    have hP9 := tw_right hP
    have hD9 := tw_rightD hD
    exact W.iret (v := r_2) hx hb hr (gq_endI wt ⟨hT, hW⟩ hP9 hD9 hS) hS.2.2 dX7_begin_48
  · rw [← Int32.toInt_inj] at c_9
    refine lv_aload_n hx hb dX7_begin_37 rfl (lv_at hl 2 rfl) ?_
    refine lv_iload_n hx hb dX7_begin_38 rfl (lv_at hl 3 rfl) ?_
    refine lv_iload_n hx hb dX7_begin_39 rfl (lv_at hl 1 rfl) ?_
    refine gt_callI (wr := []) (va_runSN (As := [.int r_1]) (rest := [.int b, .ref t]) ⟨hx, hb, hml, hown, ht⟩ (d_lowest5 l G Γ H.size wt hT r_1 (by omega) (by omega)) ⟨va_cnB 1 ht (tb_good (ts_good wd_929)) rfl rfl rfl (hK.2.1 _ wn_949 rfl) (ht _ wd_122) (by decide +kernel) ⟨Nat.le_of_ble_eq_true rfl, Nat.le_of_ble_eq_true rfl⟩, ht _ wd_928, trivial⟩ (gc_preS hK (tw_right hP) (tw_rightD hD)) rfl rfl hl.1 rfl (lv_room (Nat.le_of_ble_eq_true rfl)) dX7_begin_40 ⟨Nat.le_of_ble_eq_true rfl, Nat.le_of_ble_eq_true rfl⟩) hP hD hS hA (fun r_10 wt H locs hw hP hD hS => ?_)
    obtain ⟨hT, hkp, lo_r_10, hi_r_10⟩ := hw
    have hW := hW.call (show ∀ x ∈ [], x ∈ [] by decide) hkp
    refine lv_iconst (v := 0) hx hb dX7_begin_43 (by decide +kernel) ?_
    refine gt_callV (wr := []) (va_runV (As := [.int b, .int r_10, .int 0]) (rest := []) ⟨hx, hb, hml, hown, ht⟩ (d_finish l G Γ H.size wt hT t b r_10 0 k_t (by omega) (by omega)) (cwV 3 ht (ts_gV wd_950 wd_932 wd_933 wd_125 wd_934) rfl rfl rfl (by decide +kernel) ⟨Nat.le_of_ble_eq_true rfl, Nat.le_of_ble_eq_true rfl⟩) (gt_preW (ci := 7) hK hT (tw_right hP) (tw_rightD hD) k_t (by decide) rfl) rfl rfl hl.1 rfl (lv_room (Nat.le_of_ble_eq_true rfl)) dX7_begin_44 ⟨Nat.le_of_ble_eq_true rfl, Nat.le_of_ble_eq_true rfl⟩) hP hD hS hA (fun wt H locs hw hP hD hS => ?_)
    obtain ⟨hT, hkp⟩ := hw
    have hW := hW.call (show ∀ x ∈ [], x ∈ [] by decide) hkp
    refine lv_iload_n hx hb dX7_begin_47 rfl (lv_at hl 0 rfl) ?_
    have hP9 := tw_right hP
    have hD9 := tw_rightD hD
    exact W.iret (v := r_2) hx hb hr (gq_endI wt ⟨hT, hW⟩ hP9 hD9 hS) hS.2.2 dX7_begin_48
set_option maxHeartbeats 4000000 in
set_option maxRecDepth 100000 in
theorem d_canTrick (l : Launch) (G : gg_T) (Γ : Nat → Nat) (sz : Nat) (wt : va_W) (hT : tk_ty G Γ wt) (t : Nat) (a : Int32) (b : Int32) (w : Int32) (tm : Nat) (k_t : Γ t = 8) (lo_a : 0 ≤ a.toInt) (hi_a : a.toInt ≤ 4) (lo_b : 0 ≤ b.toInt) (hi_b : b.toInt ≤ 4) (lo_w : 0 ≤ w.toInt) (hi_w : w.toInt ≤ 2) (k_tm : Γ tm = 10) : Met l yX7_canTrick (ts_L yX7_canTrick cX7_canTrick 5 (some .boolean)) ({ frames := 2, cells := 0, slots := 0, locals := 43 }) (gc_P G wt sz [.ref t, .int a, .int b, .int w, .ref tm]) (gc_I G (va_A wt sz) (fun r (u : va_W) => tk_ty G Γ u ∧ tk_kp [] wt u ∧ 0 ≤ r.toInt ∧ r.toInt ≤ 1) (fun u => u)) 0 0 (va_A wt sz) := by
  refine Met.ofW (cc := cX7_canTrick) (maxL := 5) (ret := (some .boolean)) (by decide) rfl ?_
  intro p e s m args below meth c s₁ B hml hv
  obtain ⟨rfl, hsz, hP, hK, hD0⟩ := hv
  have hx := B.exec
  have hb := B.bytes
  have hr := B.returns
  have ht := ts_ht (atoms_spec (ws := ts_L yX7_canTrick cX7_canTrick 5 (some .boolean)) B.pre)
  have hown : s.vm.findClass RX7 = some m.cls := findClass_of_methodNamed B.named
  have hlocks := B.notSynchronized
  subst hsz
  have hD := hD0.self (sz := s.heap.size)
  generalize hAe : va_A wt s.heap.size = A at hD ⊢
  have hA : ∀ q : Nat, s.heap.size ≤ q → A q := fun q h => by rw [← hAe]; exact Or.inr h
  clear hAe hD0
  have hS : va_S A s.heap s.heap [] := va_S.rf
  obtain ⟨w0, hw0⟩ : ∃ z, z = wt := ⟨_, rfl⟩
  have hW : tk_kp [] w0 wt := by rw [hw0]; exact tk_kp.rf
  rw [← hw0]
  clear hw0
  have hP : va_P (gg_D G) classes ([] ++ wt) s.heap := hP
  have hD : va_D A ([] ++ wt) := hD
  have hl := lv_entry ([.ref t, .int a, .int b, .int w, .ref tm]) (n := 5) (Nat.le_of_ble_eq_true rfl)
  rw [lg_entry_eq]
  generalize (lg_sl ([.ref t, .int a, .int b, .int w, .ref tm]) ++ List.replicate (5 - (lg_sl ([.ref t, .int a, .int b, .int w, .ref tm])).length) Slot.unset).toArray = ls at hl ⊢
  have hl : lv_has ls 5 [(0, .ref t), (1, .int a), (2, .int b), (3, .int w), (4, .ref tm)] := hl
  have l0 : (0 : Int32).toInt = 0 := by decide +kernel
  have l1 : (1 : Int32).toInt = 1 := by decide +kernel
  refine lv_aload_n hx hb dX7_canTrick_0 rfl (lv_at hl 0 rfl) ?_
  refine lv_iload_n hx hb dX7_canTrick_1 rfl (lv_at hl 2 rfl) ?_
  refine gt_callI (wr := []) (va_runV (As := [.int b]) (rest := []) ⟨hx, hb, hml, hown, ht⟩ (d_isSilent l G Γ s.heap.size wt hT t b k_t) (cwV 1 ht (ts_gV wd_959 wd_794 wd_795 wd_125 wd_796) rfl rfl rfl (by decide +kernel) ⟨Nat.le_of_ble_eq_true rfl, Nat.le_of_ble_eq_true rfl⟩) (gt_preW (ci := 7) hK hT (tw_right hP) (tw_rightD hD) k_t (by decide) rfl) rfl rfl hl.1 rfl (lv_room (Nat.le_of_ble_eq_true rfl)) dX7_canTrick_2 ⟨Nat.le_of_ble_eq_true rfl, Nat.le_of_ble_eq_true rfl⟩) hP hD hS hA (fun r_1 wt H locs hw hP hD hS => ?_)
  obtain ⟨hT, hkp, lo_r_1, hi_r_1⟩ := hw
  have hW := hW.call (show ∀ x ∈ [], x ∈ [] by decide) hkp
  refine lv_if_eq (tgt := 44) hx hb dX7_canTrick_5 (by decide) (fun c_2 => ?_) (fun c_2 => ?_)
  · rw [← Int32.toInt_inj] at c_2
    refine lv_iconst (v := 0) hx hb dX7_canTrick_44 (by decide +kernel) ?_
    have hP9 := tw_right hP
    have hD9 := tw_rightD hD
    exact W.zret (v := 0) hx hb hr (by decide +kernel) (gq_endI wt ⟨hT, hW, (by omega), (by omega)⟩ hP9 hD9 hS) hS.2.2 dX7_canTrick_45
  · rw [← Int32.toInt_inj] at c_2
    refine lv_aload_n hx hb dX7_canTrick_8 rfl (lv_at hl 0 rfl) ?_
    refine tr_get (ci := 7) hx hb ht hown hK hT hP k_t (by decide) i_X7 rfl 0 (by decide) wd_231 rfl dX7_canTrick_9 (fun v hv hf_3 => ?_)
    obtain ⟨q_4, rfl, hq_4⟩ := hv
    refine lv_iload_n hx hb dX7_canTrick_12 rfl (lv_at hl 1 rfl) ?_
    refine tr_iald hx hb hK hT hP 20 hq_4 (by decide) (by decide) (show vp_in _ (tk_len 20) from ia_in (n := 5) (by omega) (by omega)) dX7_canTrick_13 (fun n_5 hn_5 => ?_)
    clear hn_5
    refine lv_aload hx hb dX7_canTrick_14 (lv_at hl 4 rfl) ?_
    refine tr_get (ci := 9) hx hb ht hown hK hT hP k_tm (by decide) i_X9 rfl 7 (by decide) wd_202 rfl dX7_canTrick_16 (fun v hv hf_6 => ?_)
    obtain ⟨q_7, rfl, hq_7⟩ := hv
    refine lv_iload_n hx hb dX7_canTrick_19 rfl (lv_at hl 3 rfl) ?_
    refine tr_iald hx hb hK hT hP 21 hq_7 (by decide) (by decide) (show vp_in _ (tk_len 21) from ia_in (n := 3) (by omega) (by omega)) dX7_canTrick_20 (fun n_8 hn_8 => ?_)
    clear hn_8
    refine lv_icmp_lt (tgt := 44) hx hb dX7_canTrick_21 (by decide) (fun c_9 => ?_) (fun c_9 => ?_)
    · rw [Int32.lt_iff_toInt_lt] at c_9
      refine lv_iconst (v := 0) hx hb dX7_canTrick_44 (by decide +kernel) ?_
      have hP9 := tw_right hP
      have hD9 := tw_rightD hD
      exact W.zret (v := 0) hx hb hr (by decide +kernel) (gq_endI wt ⟨hT, hW, (by omega), (by omega)⟩ hP9 hD9 hS) hS.2.2 dX7_canTrick_45
    · rw [Int32.lt_iff_toInt_lt] at c_9
      refine lv_aload_n hx hb dX7_canTrick_24 rfl (lv_at hl 0 rfl) ?_
      refine tr_get (ci := 7) hx hb ht hown hK hT hP k_t (by decide) i_X7 rfl 1 (by decide) wd_235 rfl dX7_canTrick_25 (fun v hv hf_10 => ?_)
      obtain ⟨q_11, rfl, hq_11⟩ := hv
      refine lv_iload_n hx hb dX7_canTrick_28 rfl (lv_at hl 2 rfl) ?_
      refine tr_iald hx hb hK hT hP 20 hq_11 (by decide) (by decide) (show vp_in _ (tk_len 20) from ia_in (n := 5) (by omega) (by omega)) dX7_canTrick_29 (fun n_12 hn_12 => ?_)
      clear hn_12
      refine lv_aload hx hb dX7_canTrick_30 (lv_at hl 4 rfl) ?_
      refine tr_get (ci := 9) hx hb ht hown hK hT hP k_tm (by decide) i_X9 rfl 8 (by decide) wd_205 rfl dX7_canTrick_32 (fun v hv hf_13 => ?_)
      obtain ⟨q_14, rfl, hq_14⟩ := hv
      refine lv_iload_n hx hb dX7_canTrick_35 rfl (lv_at hl 3 rfl) ?_
      refine tr_iald hx hb hK hT hP 21 hq_14 (by decide) (by decide) (show vp_in _ (tk_len 21) from ia_in (n := 3) (by omega) (by omega)) dX7_canTrick_36 (fun n_15 hn_15 => ?_)
      clear hn_15
      refine lv_icmp_le (tgt := 44) hx hb dX7_canTrick_37 (by decide) (fun c_16 => ?_) (fun c_16 => ?_)
      · rw [Int32.le_iff_toInt_le] at c_16
        refine lv_iconst (v := 0) hx hb dX7_canTrick_44 (by decide +kernel) ?_
        have hP9 := tw_right hP
        have hD9 := tw_rightD hD
        exact W.zret (v := 0) hx hb hr (by decide +kernel) (gq_endI wt ⟨hT, hW, (by omega), (by omega)⟩ hP9 hD9 hS) hS.2.2 dX7_canTrick_45
      · rw [Int32.le_iff_toInt_le] at c_16
        refine lv_iconst (v := 1) hx hb dX7_canTrick_40 (by decide +kernel) ?_
        refine lv_goto (tgt := 45) hx hb dX7_canTrick_41 (by decide) ?_
        have hP9 := tw_right hP
        have hD9 := tw_rightD hD
        exact W.zret (v := 1) hx hb hr (by decide +kernel) (gq_endI wt ⟨hT, hW, (by omega), (by omega)⟩ hP9 hD9 hS) hS.2.2 dX7_canTrick_45
set_option maxHeartbeats 4000000 in
set_option maxRecDepth 100000 in
theorem d_trickNow (l : Launch) (G : gg_T) (Γ : Nat → Nat) (sz : Nat) (wt : va_W) (hT : tk_ty G Γ wt) (t : Nat) (a : Int32) (b : Int32) (w : Int32) (tm : Nat) (k_t : Γ t = 8) (lo_a : 0 ≤ a.toInt) (hi_a : a.toInt ≤ 4) (lo_b : 0 ≤ b.toInt) (hi_b : b.toInt ≤ 4) (lo_w : 0 ≤ w.toInt) (hi_w : w.toInt ≤ 2) (k_tm : Γ tm = 10) : Met l yX7_trickNow (ts_L yX7_trickNow cX7_trickNow 5 none) ({ frames := 0, cells := 0, slots := 0, locals := 0 }) (gc_P G wt sz [.ref t, .int a, .int b, .int w, .ref tm]) (gc_V G (va_A wt sz) (fun (u : va_W) => tk_ty G Γ u ∧ tk_kp [] wt u) (fun u => u)) 0 0 (va_A wt sz) := by
  refine Met.ofW (cc := cX7_trickNow) (maxL := 5) (ret := none) (by decide) rfl ?_
  intro p e s m args below meth c s₁ B hml hv
  obtain ⟨rfl, hsz, hP, hK, hD0⟩ := hv
  have hx := B.exec
  have hb := B.bytes
  have hr := B.returns
  have ht := ts_ht (atoms_spec (ws := ts_L yX7_trickNow cX7_trickNow 5 none) B.pre)
  have hown : s.vm.findClass RX7 = some m.cls := findClass_of_methodNamed B.named
  have hlocks := B.notSynchronized
  subst hsz
  have hD := hD0.self (sz := s.heap.size)
  generalize hAe : va_A wt s.heap.size = A at hD ⊢
  have hA : ∀ q : Nat, s.heap.size ≤ q → A q := fun q h => by rw [← hAe]; exact Or.inr h
  clear hAe hD0
  have hS : va_S A s.heap s.heap [] := va_S.rf
  obtain ⟨w0, hw0⟩ : ∃ z, z = wt := ⟨_, rfl⟩
  have hW : tk_kp [] w0 wt := by rw [hw0]; exact tk_kp.rf
  rw [← hw0]
  clear hw0
  have hP : va_P (gg_D G) classes ([] ++ wt) s.heap := hP
  have hD : va_D A ([] ++ wt) := hD
  have hl := lv_entry ([.ref t, .int a, .int b, .int w, .ref tm]) (n := 5) (Nat.le_of_ble_eq_true rfl)
  rw [lg_entry_eq]
  generalize (lg_sl ([.ref t, .int a, .int b, .int w, .ref tm]) ++ List.replicate (5 - (lg_sl ([.ref t, .int a, .int b, .int w, .ref tm])).length) Slot.unset).toArray = ls at hl ⊢
  have hl : lv_has ls 5 [(0, .ref t), (1, .int a), (2, .int b), (3, .int w), (4, .ref tm)] := hl
  refine lv_aload_n hx hb dX7_trickNow_0 rfl (lv_at hl 0 rfl) ?_
  refine tr_get (ci := 7) hx hb ht hown hK hT hP k_t (by decide) i_X7 rfl 0 (by decide) wd_231 rfl dX7_trickNow_1 (fun v hv hf_1 => ?_)
  obtain ⟨q_2, rfl, hq_2⟩ := hv
  refine lv_iload_n hx hb dX7_trickNow_4 rfl (lv_at hl 1 rfl) ?_
  refine lv_dup2_11 hx hb dX7_trickNow_5 rfl rfl ?_
  refine tr_iald hx hb hK hT hP 20 hq_2 (by decide) (by decide) (show vp_in _ (tk_len 20) from ia_in (n := 5) (by omega) (by omega)) dX7_trickNow_6 (fun n_3 hn_3 => ?_)
  clear hn_3
  refine lv_aload hx hb dX7_trickNow_7 (lv_at hl 4 rfl) ?_
  refine tr_get (ci := 9) hx hb ht hown hK hT hP k_tm (by decide) i_X9 rfl 7 (by decide) wd_202 rfl dX7_trickNow_9 (fun v hv hf_4 => ?_)
  obtain ⟨q_5, rfl, hq_5⟩ := hv
  refine lv_iload_n hx hb dX7_trickNow_12 rfl (lv_at hl 3 rfl) ?_
  refine tr_iald hx hb hK hT hP 21 hq_5 (by decide) (by decide) (show vp_in _ (tk_len 21) from ia_in (n := 3) (by omega) (by omega)) dX7_trickNow_13 (fun n_6 hn_6 => ?_)
  clear hn_6
  obtain ⟨t_7, et_7⟩ : ∃ zz_ : Int32, n_3 - n_6 = zz_ := ⟨_, rfl⟩
  refine gq_isub hx hb t_7 et_7 dX7_trickNow_14 ?_
  refine tr_iast hx hb hK hT hP hD hS 20 hq_2 (by decide) (by decide) (show vp_in _ (tk_len 20) from ia_in (n := 5) (by omega) (by omega)) (show tk_e 20 _ from trivial) dX7_trickNow_15 (fun H locs wt hT hfl hP hD hS => ?_)
  have hW := hW.arr hfl
  refine lv_aload_n hx hb dX7_trickNow_16 rfl (lv_at hl 0 rfl) ?_
  refine tr_get (ci := 7) hx hb ht hown hK hT hP k_t (by decide) i_X7 rfl 1 (by decide) wd_235 rfl dX7_trickNow_17 (fun v hv hf_8 => ?_)
  obtain ⟨q_9, rfl, hq_9⟩ := hv
  refine lv_iload_n hx hb dX7_trickNow_20 rfl (lv_at hl 2 rfl) ?_
  refine lv_dup2_11 hx hb dX7_trickNow_21 rfl rfl ?_
  refine tr_iald hx hb hK hT hP 20 hq_9 (by decide) (by decide) (show vp_in _ (tk_len 20) from ia_in (n := 5) (by omega) (by omega)) dX7_trickNow_22 (fun n_10 hn_10 => ?_)
  clear hn_10
  refine lv_aload hx hb dX7_trickNow_23 (lv_at hl 4 rfl) ?_
  refine tr_get (ci := 9) hx hb ht hown hK hT hP k_tm (by decide) i_X9 rfl 8 (by decide) wd_205 rfl dX7_trickNow_25 (fun v hv hf_11 => ?_)
  obtain ⟨q_12, rfl, hq_12⟩ := hv
  refine lv_iload_n hx hb dX7_trickNow_28 rfl (lv_at hl 3 rfl) ?_
  refine tr_iald hx hb hK hT hP 21 hq_12 (by decide) (by decide) (show vp_in _ (tk_len 21) from ia_in (n := 3) (by omega) (by omega)) dX7_trickNow_29 (fun n_13 hn_13 => ?_)
  clear hn_13
  obtain ⟨t_14, et_14⟩ : ∃ zz_ : Int32, n_10 - n_13 = zz_ := ⟨_, rfl⟩
  refine gq_isub hx hb t_14 et_14 dX7_trickNow_30 ?_
  refine tr_iast hx hb hK hT hP hD hS 20 hq_9 (by decide) (by decide) (show vp_in _ (tk_len 20) from ia_in (n := 5) (by omega) (by omega)) (show tk_e 20 _ from trivial) dX7_trickNow_31 (fun H locs wt hT hfl hP hD hS => ?_)
  have hW := hW.arr hfl
  refine lv_aload_n hx hb dX7_trickNow_32 rfl (lv_at hl 0 rfl) ?_
  refine tr_get (ci := 7) hx hb ht hown hK hT hP k_t (by decide) i_X7 rfl 3 (by decide) wd_243 rfl dX7_trickNow_33 (fun v hv hf_15 => ?_)
  obtain ⟨q_16, rfl, hq_16⟩ := hv
  refine lv_iload_n hx hb dX7_trickNow_36 rfl (lv_at hl 2 rfl) ?_
  refine lv_dup2_11 hx hb dX7_trickNow_37 rfl rfl ?_
  refine tr_iald hx hb hK hT hP 20 hq_16 (by decide) (by decide) (show vp_in _ (tk_len 20) from ia_in (n := 5) (by omega) (by omega)) dX7_trickNow_38 (fun n_17 hn_17 => ?_)
  clear hn_17
  refine lv_iconst (v := 1) hx hb dX7_trickNow_39 (by decide +kernel) ?_
  obtain ⟨t_18, et_18⟩ : ∃ zz_ : Int32, n_17 + 1 = zz_ := ⟨_, rfl⟩
  refine gq_iadd hx hb t_18 et_18 dX7_trickNow_40 ?_
  refine tr_iast hx hb hK hT hP hD hS 20 hq_16 (by decide) (by decide) (show vp_in _ (tk_len 20) from ia_in (n := 5) (by omega) (by omega)) (show tk_e 20 _ from trivial) dX7_trickNow_41 (fun H locs wt hT hfl hP hD hS => ?_)
  have hW := hW.arr hfl
  have hP9 := tw_right hP
  have hD9 := tw_rightD hD
  exact W.vret hx hb hr (gq_endV wt ⟨hT, hW⟩ hP9 hD9 hS) hS.2.2 dX7_trickNow_42

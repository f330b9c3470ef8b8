theorem wd_1441 : (Jvm.Cond.code ({ cls := "SilentSaleModel", name := "in", desc := "(JJJ)Z" } : Jvm.MethodName) prog_14_method_2_code (6 : Nat) (Option.some Jvm.ClassFile.FieldType.boolean)) ∈ tb_L := tb_in (i := 1441) (by decide +kernel) (by decide +kernel)
theorem dX12_in_0 : decode cX12_in 0 = .ok (.lload_n 0, 1) := by decide +kernel
theorem dX12_in_1 : decode cX12_in 1 = .ok (.lload_n 2, 1) := by decide +kernel
theorem dX12_in_2 : decode cX12_in 2 = .ok (.lcmp, 1) := by decide +kernel
theorem dX12_in_3 : decode cX12_in 3 = .ok (.ifCond .lt 14, 3) := by decide +kernel
theorem dX12_in_6 : decode cX12_in 6 = .ok (.lload_n 0, 1) := by decide +kernel
theorem dX12_in_7 : decode cX12_in 7 = .ok (.lload 4, 2) := by decide +kernel
theorem dX12_in_9 : decode cX12_in 9 = .ok (.lcmp, 1) := by decide +kernel
theorem dX12_in_10 : decode cX12_in 10 = .ok (.ifCond .gt 7, 3) := by decide +kernel
theorem dX12_in_13 : decode cX12_in 13 = .ok (.iconst 1, 1) := by decide +kernel
theorem dX12_in_14 : decode cX12_in 14 = .ok (.goto 4, 3) := by decide +kernel
theorem dX12_in_17 : decode cX12_in 17 = .ok (.iconst 0, 1) := by decide +kernel
theorem dX12_in_18 : decode cX12_in 18 = .ok (.ireturn, 1) := by decide +kernel
theorem wd_1637 : (Jvm.Cond.code ({ cls := "SilentSaleModel", name := "isOf", desc := "(II)Z" } : Jvm.MethodName) prog_14_method_3_code (2 : Nat) (Option.some Jvm.ClassFile.FieldType.boolean)) ∈ tb_L := tb_in (i := 1637) (by decide +kernel) (by decide +kernel)
theorem dX12_isOf_0 : decode cX12_isOf 0 = .ok (.iload_n 0, 1) := by decide +kernel
theorem dX12_isOf_1 : decode cX12_isOf 1 = .ok (.iload_n 1, 1) := by decide +kernel
theorem dX12_isOf_2 : decode cX12_isOf 2 = .ok (.ishr, 1) := by decide +kernel
theorem dX12_isOf_3 : decode cX12_isOf 3 = .ok (.iconst 1, 1) := by decide +kernel
theorem dX12_isOf_4 : decode cX12_isOf 4 = .ok (.iand, 1) := by decide +kernel
theorem dX12_isOf_5 : decode cX12_isOf 5 = .ok (.iconst 1, 1) := by decide +kernel
theorem dX12_isOf_6 : decode cX12_isOf 6 = .ok (.if_icmp .ne 7, 3) := by decide +kernel
theorem dX12_isOf_9 : decode cX12_isOf 9 = .ok (.iconst 1, 1) := by decide +kernel
theorem dX12_isOf_10 : decode cX12_isOf 10 = .ok (.goto 4, 3) := by decide +kernel
theorem dX12_isOf_13 : decode cX12_isOf 13 = .ok (.iconst 0, 1) := by decide +kernel
theorem dX12_isOf_14 : decode cX12_isOf 14 = .ok (.ireturn, 1) := by decide +kernel
theorem wd_1648 : (Jvm.Cond.code ({ cls := "SilentSaleModel", name := "bits", desc := "(I)I" } : Jvm.MethodName) prog_14_method_4_code (3 : Nat) (Option.some Jvm.ClassFile.FieldType.int)) ∈ tb_L := tb_in (i := 1648) (by decide +kernel) (by decide +kernel)
theorem dX12_bits_0 : decode cX12_bits 0 = .ok (.iconst 0, 1) := by decide +kernel
theorem dX12_bits_1 : decode cX12_bits 1 = .ok (.istore_n 1, 1) := by decide +kernel
theorem dX12_bits_2 : decode cX12_bits 2 = .ok (.iload_n 0, 1) := by decide +kernel
theorem dX12_bits_3 : decode cX12_bits 3 = .ok (.istore_n 2, 1) := by decide +kernel
theorem dX12_bits_4 : decode cX12_bits 4 = .ok (.iload_n 2, 1) := by decide +kernel
theorem dX12_bits_5 : decode cX12_bits 5 = .ok (.ifCond .eq 15, 3) := by decide +kernel
theorem dX12_bits_8 : decode cX12_bits 8 = .ok (.iinc 1 1, 3) := by decide +kernel
theorem dX12_bits_11 : decode cX12_bits 11 = .ok (.iload_n 2, 1) := by decide +kernel
theorem dX12_bits_12 : decode cX12_bits 12 = .ok (.iload_n 2, 1) := by decide +kernel
theorem dX12_bits_13 : decode cX12_bits 13 = .ok (.iconst 1, 1) := by decide +kernel
theorem dX12_bits_14 : decode cX12_bits 14 = .ok (.isub, 1) := by decide +kernel
theorem dX12_bits_15 : decode cX12_bits 15 = .ok (.iand, 1) := by decide +kernel
theorem dX12_bits_16 : decode cX12_bits 16 = .ok (.istore_n 2, 1) := by decide +kernel
theorem dX12_bits_17 : decode cX12_bits 17 = .ok (.goto (-13), 3) := by decide +kernel
theorem dX12_bits_20 : decode cX12_bits 20 = .ok (.iload_n 1, 1) := by decide +kernel
theorem dX12_bits_21 : decode cX12_bits 21 = .ok (.ireturn, 1) := by decide +kernel
theorem wd_134 : (Jvm.Cond.initialized "SilentSaleModel") ∈ tb_L := tb_in (i := 134) (by decide +kernel) (by decide +kernel)
theorem wd_1635 : (Jvm.Cond.methodLink "SilentSaleModel" (291 : Nat) ({ cls := "SilentSaleModel", name := "isOf", desc := "(II)Z" } : Jvm.MethodName)) ∈ tb_L := tb_in (i := 1635) (by decide +kernel) (by decide +kernel)
theorem wd_1636 : (Jvm.Cond.static ({ cls := "SilentSaleModel", name := "isOf", desc := "(II)Z" } : Jvm.MethodName)) ∈ tb_L := tb_in (i := 1636) (by decide +kernel) (by decide +kernel)
theorem wd_1671 : (Jvm.Cond.code ({ cls := "SilentSaleModel", name := "firstOf", desc := "(I)I" } : Jvm.MethodName) prog_14_method_72_code (3 : Nat) (Option.some Jvm.ClassFile.FieldType.int)) ∈ tb_L := tb_in (i := 1671) (by decide +kernel) (by decide +kernel)
theorem dX12_firstOf_0 : decode cX12_firstOf 0 = .ok (.iconst 0, 1) := by decide +kernel
theorem dX12_firstOf_1 : decode cX12_firstOf 1 = .ok (.istore_n 2, 1) := by decide +kernel
theorem dX12_firstOf_2 : decode cX12_firstOf 2 = .ok (.iload_n 1, 1) := by decide +kernel
theorem dX12_firstOf_3 : decode cX12_firstOf 3 = .ok (.iload_n 2, 1) := by decide +kernel
theorem dX12_firstOf_4 : decode cX12_firstOf 4 = .ok (.invokestatic 291, 3) := by decide +kernel
theorem dX12_firstOf_7 : decode cX12_firstOf 7 = .ok (.ifCond .ne 9, 3) := by decide +kernel
theorem dX12_firstOf_10 : decode cX12_firstOf 10 = .ok (.iinc 2 1, 3) := by decide +kernel
theorem dX12_firstOf_13 : decode cX12_firstOf 13 = .ok (.goto (-11), 3) := by decide +kernel
theorem dX12_firstOf_16 : decode cX12_firstOf 16 = .ok (.iload_n 2, 1) := by decide +kernel
theorem dX12_firstOf_17 : decode cX12_firstOf 17 = .ok (.ireturn, 1) := by decide +kernel
theorem wd_1272 : (Jvm.Cond.fieldLink "SilentSaleModel" (39 : Nat) "SilentSaleModel" "said" "[I") ∈ tb_L := tb_in (i := 1272) (by decide +kernel) (by decide +kernel)
theorem wd_1561 : (Jvm.Cond.code ({ cls := "SilentSaleModel", name := "bidderOf", desc := "(II)I" } : Jvm.MethodName) prog_14_method_52_code (3 : Nat) (Option.some Jvm.ClassFile.FieldType.int)) ∈ tb_L := tb_in (i := 1561) (by decide +kernel) (by decide +kernel)
theorem dX12_bidderOf_0 : decode cX12_bidderOf 0 = .ok (.aload_n 0, 1) := by decide +kernel
theorem dX12_bidderOf_1 : decode cX12_bidderOf 1 = .ok (.getfield 39, 3) := by decide +kernel
theorem dX12_bidderOf_4 : decode cX12_bidderOf 4 = .ok (.bipush 11, 2) := by decide +kernel
theorem dX12_bidderOf_6 : decode cX12_bidderOf 6 = .ok (.iconst 5, 1) := by decide +kernel
theorem dX12_bidderOf_7 : decode cX12_bidderOf 7 = .ok (.iload_n 1, 1) := by decide +kernel
theorem dX12_bidderOf_8 : decode cX12_bidderOf 8 = .ok (.imul, 1) := by decide +kernel
theorem dX12_bidderOf_9 : decode cX12_bidderOf 9 = .ok (.iadd, 1) := by decide +kernel
theorem dX12_bidderOf_10 : decode cX12_bidderOf 10 = .ok (.iload_n 2, 1) := by decide +kernel
theorem dX12_bidderOf_11 : decode cX12_bidderOf 11 = .ok (.iadd, 1) := by decide +kernel
theorem dX12_bidderOf_12 : decode cX12_bidderOf 12 = .ok (.iaload, 1) := by decide +kernel
theorem dX12_bidderOf_13 : decode cX12_bidderOf 13 = .ok (.ireturn, 1) := by decide +kernel
theorem wd_1569 : (Jvm.Cond.code ({ cls := "SilentSaleModel", name := "lotOf", desc := "(II)I" } : Jvm.MethodName) prog_14_method_53_code (3 : Nat) (Option.some Jvm.ClassFile.FieldType.int)) ∈ tb_L := tb_in (i := 1569) (by decide +kernel) (by decide +kernel)
theorem dX12_lotOf_0 : decode cX12_lotOf 0 = .ok (.aload_n 0, 1) := by decide +kernel
theorem dX12_lotOf_1 : decode cX12_lotOf 1 = .ok (.getfield 39, 3) := by decide +kernel
theorem dX12_lotOf_4 : decode cX12_lotOf 4 = .ok (.bipush 36, 2) := by decide +kernel
theorem dX12_lotOf_6 : decode cX12_lotOf 6 = .ok (.iconst 4, 1) := by decide +kernel
theorem dX12_lotOf_7 : decode cX12_lotOf 7 = .ok (.iload_n 1, 1) := by decide +kernel
theorem dX12_lotOf_8 : decode cX12_lotOf 8 = .ok (.imul, 1) := by decide +kernel
theorem dX12_lotOf_9 : decode cX12_lotOf 9 = .ok (.iadd, 1) := by decide +kernel
theorem dX12_lotOf_10 : decode cX12_lotOf 10 = .ok (.iload_n 2, 1) := by decide +kernel
theorem dX12_lotOf_11 : decode cX12_lotOf 11 = .ok (.iadd, 1) := by decide +kernel
theorem dX12_lotOf_12 : decode cX12_lotOf 12 = .ok (.iaload, 1) := by decide +kernel
theorem dX12_lotOf_13 : decode cX12_lotOf 13 = .ok (.ireturn, 1) := by decide +kernel
theorem wd_1577 : (Jvm.Cond.code ({ cls := "SilentSaleModel", name := "worthTo", desc := "(II)I" } : Jvm.MethodName) prog_14_method_54_code (3 : Nat) (Option.some Jvm.ClassFile.FieldType.int)) ∈ tb_L := tb_in (i := 1577) (by decide +kernel) (by decide +kernel)
theorem dX12_worthTo_0 : decode cX12_worthTo 0 = .ok (.aload_n 0, 1) := by decide +kernel
theorem dX12_worthTo_1 : decode cX12_worthTo 1 = .ok (.getfield 39, 3) := by decide +kernel
theorem dX12_worthTo_4 : decode cX12_worthTo 4 = .ok (.bipush 48, 2) := by decide +kernel
theorem dX12_worthTo_6 : decode cX12_worthTo 6 = .ok (.iconst 3, 1) := by decide +kernel
theorem dX12_worthTo_7 : decode cX12_worthTo 7 = .ok (.iload_n 1, 1) := by decide +kernel
theorem dX12_worthTo_8 : decode cX12_worthTo 8 = .ok (.imul, 1) := by decide +kernel
theorem dX12_worthTo_9 : decode cX12_worthTo 9 = .ok (.iadd, 1) := by decide +kernel
theorem dX12_worthTo_10 : decode cX12_worthTo 10 = .ok (.iload_n 2, 1) := by decide +kernel
theorem dX12_worthTo_11 : decode cX12_worthTo 11 = .ok (.iadd, 1) := by decide +kernel
theorem dX12_worthTo_12 : decode cX12_worthTo 12 = .ok (.iaload, 1) := by decide +kernel
theorem dX12_worthTo_13 : decode cX12_worthTo 13 = .ok (.ireturn, 1) := by decide +kernel
theorem wd_74 : (Jvm.Cond.selects "SilentSaleModel" ({ cls := "SilentSaleModel", name := "bidderOf", desc := "(II)I" } : Jvm.MethodName) ({ cls := "SilentSaleModel", name := "bidderOf", desc := "(II)I" } : Jvm.MethodName)) ∈ tb_L := tb_in (i := 74) (by decide +kernel) (by decide +kernel)
theorem wd_1558 : (Jvm.Cond.methodLink "SilentSaleModel" (278 : Nat) ({ cls := "SilentSaleModel", name := "bidderOf", desc := "(II)I" } : Jvm.MethodName)) ∈ tb_L := tb_in (i := 1558) (by decide +kernel) (by decide +kernel)
theorem wd_1560 : (Jvm.Cond.instanceMethod ({ cls := "SilentSaleModel", name := "bidderOf", desc := "(II)I" } : Jvm.MethodName)) ∈ tb_L := tb_in (i := 1560) (by decide +kernel) (by decide +kernel)
theorem wd_1598 : (Jvm.Cond.code ({ cls := "SilentSaleModel", name := "isSilent", desc := "(I)Z" } : Jvm.MethodName) prog_14_method_55_code (2 : Nat) (Option.some Jvm.ClassFile.FieldType.boolean)) ∈ tb_L := tb_in (i := 1598) (by decide +kernel) (by decide +kernel)
theorem dX12_isSilent_0 : decode cX12_isSilent 0 = .ok (.aload_n 0, 1) := by decide +kernel
theorem dX12_isSilent_1 : decode cX12_isSilent 1 = .ok (.iload_n 1, 1) := by decide +kernel
theorem dX12_isSilent_2 : decode cX12_isSilent 2 = .ok (.iconst 3, 1) := by decide +kernel
theorem dX12_isSilent_3 : decode cX12_isSilent 3 = .ok (.invokevirtual 278, 3) := by decide +kernel
theorem dX12_isSilent_6 : decode cX12_isSilent 6 = .ok (.iconst 1, 1) := by decide +kernel
theorem dX12_isSilent_7 : decode cX12_isSilent 7 = .ok (.if_icmp .ne 7, 3) := by decide +kernel
theorem dX12_isSilent_10 : decode cX12_isSilent 10 = .ok (.iconst 1, 1) := by decide +kernel
theorem dX12_isSilent_11 : decode cX12_isSilent 11 = .ok (.goto 4, 3) := by decide +kernel
theorem dX12_isSilent_14 : decode cX12_isSilent 14 = .ok (.iconst 0, 1) := by decide +kernel
theorem dX12_isSilent_15 : decode cX12_isSilent 15 = .ok (.ireturn, 1) := by decide +kernel
theorem wd_1590 : (Jvm.Cond.code ({ cls := "SilentSaleModel", name := "sitting", desc := "(I)I" } : Jvm.MethodName) prog_14_method_56_code (4 : Nat) (Option.some Jvm.ClassFile.FieldType.int)) ∈ tb_L := tb_in (i := 1590) (by decide +kernel) (by decide +kernel)
theorem dX12_sitting_0 : decode cX12_sitting 0 = .ok (.iconst 0, 1) := by decide +kernel
theorem dX12_sitting_1 : decode cX12_sitting 1 = .ok (.istore_n 2, 1) := by decide +kernel
theorem dX12_sitting_2 : decode cX12_sitting 2 = .ok (.iconst 0, 1) := by decide +kernel
theorem dX12_sitting_3 : decode cX12_sitting 3 = .ok (.istore_n 3, 1) := by decide +kernel
theorem dX12_sitting_4 : decode cX12_sitting 4 = .ok (.iload_n 3, 1) := by decide +kernel
theorem dX12_sitting_5 : decode cX12_sitting 5 = .ok (.aload_n 0, 1) := by decide +kernel
theorem dX12_sitting_6 : decode cX12_sitting 6 = .ok (.getfield 39, 3) := by decide +kernel
theorem dX12_sitting_9 : decode cX12_sitting 9 = .ok (.iconst 1, 1) := by decide +kernel
theorem dX12_sitting_10 : decode cX12_sitting 10 = .ok (.iaload, 1) := by decide +kernel
theorem dX12_sitting_11 : decode cX12_sitting 11 = .ok (.if_icmp .ge 29, 3) := by decide +kernel
theorem dX12_sitting_14 : decode cX12_sitting 14 = .ok (.iload_n 2, 1) := by decide +kernel
theorem dX12_sitting_15 : decode cX12_sitting 15 = .ok (.aload_n 0, 1) := by decide +kernel
theorem dX12_sitting_16 : decode cX12_sitting 16 = .ok (.iload_n 3, 1) := by decide +kernel
theorem dX12_sitting_17 : decode cX12_sitting 17 = .ok (.iconst 2, 1) := by decide +kernel
theorem dX12_sitting_18 : decode cX12_sitting 18 = .ok (.invokevirtual 278, 3) := by decide +kernel
theorem dX12_sitting_21 : decode cX12_sitting 21 = .ok (.iload_n 1, 1) := by decide +kernel
theorem dX12_sitting_22 : decode cX12_sitting 22 = .ok (.if_icmp .ne 9, 3) := by decide +kernel
theorem dX12_sitting_25 : decode cX12_sitting 25 = .ok (.iconst 1, 1) := by decide +kernel
theorem dX12_sitting_26 : decode cX12_sitting 26 = .ok (.iload_n 3, 1) := by decide +kernel
theorem dX12_sitting_27 : decode cX12_sitting 27 = .ok (.ishl, 1) := by decide +kernel
theorem dX12_sitting_28 : decode cX12_sitting 28 = .ok (.goto 4, 3) := by decide +kernel
theorem dX12_sitting_31 : decode cX12_sitting 31 = .ok (.iconst 0, 1) := by decide +kernel
theorem dX12_sitting_32 : decode cX12_sitting 32 = .ok (.ior, 1) := by decide +kernel
theorem dX12_sitting_33 : decode cX12_sitting 33 = .ok (.istore_n 2, 1) := by decide +kernel
theorem dX12_sitting_34 : decode cX12_sitting 34 = .ok (.iinc 3 1, 3) := by decide +kernel
theorem dX12_sitting_37 : decode cX12_sitting 37 = .ok (.goto (-33), 3) := by decide +kernel
theorem dX12_sitting_40 : decode cX12_sitting 40 = .ok (.iload_n 2, 1) := by decide +kernel
theorem dX12_sitting_41 : decode cX12_sitting 41 = .ok (.ireturn, 1) := by decide +kernel
theorem wd_82 : (Jvm.Cond.selects "SilentSaleModel" ({ cls := "SilentSaleModel", name := "isSilent", desc := "(I)Z" } : Jvm.MethodName) ({ cls := "SilentSaleModel", name := "isSilent", desc := "(I)Z" } : Jvm.MethodName)) ∈ tb_L := tb_in (i := 82) (by decide +kernel) (by decide +kernel)
theorem wd_1594 : (Jvm.Cond.code ({ cls := "SilentSaleModel", name := "silentBy", desc := "(I)I" } : Jvm.MethodName) prog_14_method_57_code (4 : Nat) (Option.some Jvm.ClassFile.FieldType.int)) ∈ tb_L := tb_in (i := 1594) (by decide +kernel) (by decide +kernel)
theorem wd_1595 : (Jvm.Cond.methodLink "SilentSaleModel" (282 : Nat) ({ cls := "SilentSaleModel", name := "isSilent", desc := "(I)Z" } : Jvm.MethodName)) ∈ tb_L := tb_in (i := 1595) (by decide +kernel) (by decide +kernel)
theorem wd_1597 : (Jvm.Cond.instanceMethod ({ cls := "SilentSaleModel", name := "isSilent", desc := "(I)Z" } : Jvm.MethodName)) ∈ tb_L := tb_in (i := 1597) (by decide +kernel) (by decide +kernel)
theorem dX12_silentBy_0 : decode cX12_silentBy 0 = .ok (.iconst 0, 1) := by decide +kernel
theorem dX12_silentBy_1 : decode cX12_silentBy 1 = .ok (.istore_n 2, 1) := by decide +kernel
theorem dX12_silentBy_2 : decode cX12_silentBy 2 = .ok (.iconst 0, 1) := by decide +kernel
theorem dX12_silentBy_3 : decode cX12_silentBy 3 = .ok (.istore_n 3, 1) := by decide +kernel
theorem dX12_silentBy_4 : decode cX12_silentBy 4 = .ok (.iload_n 3, 1) := by decide +kernel
theorem dX12_silentBy_5 : decode cX12_silentBy 5 = .ok (.aload_n 0, 1) := by decide +kernel
theorem dX12_silentBy_6 : decode cX12_silentBy 6 = .ok (.getfield 39, 3) := by decide +kernel
theorem dX12_silentBy_9 : decode cX12_silentBy 9 = .ok (.iconst 1, 1) := by decide +kernel
theorem dX12_silentBy_10 : decode cX12_silentBy 10 = .ok (.iaload, 1) := by decide +kernel
theorem dX12_silentBy_11 : decode cX12_silentBy 11 = .ok (.if_icmp .ge 37, 3) := by decide +kernel
theorem dX12_silentBy_14 : decode cX12_silentBy 14 = .ok (.iload_n 2, 1) := by decide +kernel
theorem dX12_silentBy_15 : decode cX12_silentBy 15 = .ok (.aload_n 0, 1) := by decide +kernel
theorem dX12_silentBy_16 : decode cX12_silentBy 16 = .ok (.iload_n 3, 1) := by decide +kernel
theorem dX12_silentBy_17 : decode cX12_silentBy 17 = .ok (.iconst 2, 1) := by decide +kernel
theorem dX12_silentBy_18 : decode cX12_silentBy 18 = .ok (.invokevirtual 278, 3) := by decide +kernel
theorem dX12_silentBy_21 : decode cX12_silentBy 21 = .ok (.iload_n 1, 1) := by decide +kernel
theorem dX12_silentBy_22 : decode cX12_silentBy 22 = .ok (.if_icmp .ne 17, 3) := by decide +kernel
theorem dX12_silentBy_25 : decode cX12_silentBy 25 = .ok (.aload_n 0, 1) := by decide +kernel
theorem dX12_silentBy_26 : decode cX12_silentBy 26 = .ok (.iload_n 3, 1) := by decide +kernel
theorem dX12_silentBy_27 : decode cX12_silentBy 27 = .ok (.invokevirtual 282, 3) := by decide +kernel
theorem dX12_silentBy_30 : decode cX12_silentBy 30 = .ok (.ifCond .eq 9, 3) := by decide +kernel
theorem dX12_silentBy_33 : decode cX12_silentBy 33 = .ok (.iconst 1, 1) := by decide +kernel
theorem dX12_silentBy_34 : decode cX12_silentBy 34 = .ok (.iload_n 3, 1) := by decide +kernel
theorem dX12_silentBy_35 : decode cX12_silentBy 35 = .ok (.ishl, 1) := by decide +kernel
theorem dX12_silentBy_36 : decode cX12_silentBy 36 = .ok (.goto 4, 3) := by decide +kernel
theorem dX12_silentBy_39 : decode cX12_silentBy 39 = .ok (.iconst 0, 1) := by decide +kernel
theorem dX12_silentBy_40 : decode cX12_silentBy 40 = .ok (.ior, 1) := by decide +kernel
theorem dX12_silentBy_41 : decode cX12_silentBy 41 = .ok (.istore_n 2, 1) := by decide +kernel
theorem dX12_silentBy_42 : decode cX12_silentBy 42 = .ok (.iinc 3 1, 3) := by decide +kernel
theorem dX12_silentBy_45 : decode cX12_silentBy 45 = .ok (.goto (-41), 3) := by decide +kernel
theorem dX12_silentBy_48 : decode cX12_silentBy 48 = .ok (.iload_n 2, 1) := by decide +kernel
theorem dX12_silentBy_49 : decode cX12_silentBy 49 = .ok (.ireturn, 1) := by decide +kernel
theorem wd_76 : (Jvm.Cond.selects "SilentSaleModel" ({ cls := "SilentSaleModel", name := "lotOf", desc := "(II)I" } : Jvm.MethodName) ({ cls := "SilentSaleModel", name := "lotOf", desc := "(II)I" } : Jvm.MethodName)) ∈ tb_L := tb_in (i := 76) (by decide +kernel) (by decide +kernel)
theorem wd_1565 : (Jvm.Cond.code ({ cls := "SilentSaleModel", name := "lotsOf", desc := "(I)I" } : Jvm.MethodName) prog_14_method_58_code (4 : Nat) (Option.some Jvm.ClassFile.FieldType.int)) ∈ tb_L := tb_in (i := 1565) (by decide +kernel) (by decide +kernel)
theorem wd_1566 : (Jvm.Cond.methodLink "SilentSaleModel" (285 : Nat) ({ cls := "SilentSaleModel", name := "lotOf", desc := "(II)I" } : Jvm.MethodName)) ∈ tb_L := tb_in (i := 1566) (by decide +kernel) (by decide +kernel)
theorem wd_1568 : (Jvm.Cond.instanceMethod ({ cls := "SilentSaleModel", name := "lotOf", desc := "(II)I" } : Jvm.MethodName)) ∈ tb_L := tb_in (i := 1568) (by decide +kernel) (by decide +kernel)
theorem dX12_lotsOf_0 : decode cX12_lotsOf 0 = .ok (.iconst 0, 1) := by decide +kernel
theorem dX12_lotsOf_1 : decode cX12_lotsOf 1 = .ok (.istore_n 2, 1) := by decide +kernel
theorem dX12_lotsOf_2 : decode cX12_lotsOf 2 = .ok (.iconst 0, 1) := by decide +kernel
theorem dX12_lotsOf_3 : decode cX12_lotsOf 3 = .ok (.istore_n 3, 1) := by decide +kernel
theorem dX12_lotsOf_4 : decode cX12_lotsOf 4 = .ok (.iload_n 3, 1) := by decide +kernel
theorem dX12_lotsOf_5 : decode cX12_lotsOf 5 = .ok (.aload_n 0, 1) := by decide +kernel
theorem dX12_lotsOf_6 : decode cX12_lotsOf 6 = .ok (.getfield 39, 3) := by decide +kernel
theorem dX12_lotsOf_9 : decode cX12_lotsOf 9 = .ok (.iconst 2, 1) := by decide +kernel
theorem dX12_lotsOf_10 : decode cX12_lotsOf 10 = .ok (.iaload, 1) := by decide +kernel
theorem dX12_lotsOf_11 : decode cX12_lotsOf 11 = .ok (.if_icmp .ge 29, 3) := by decide +kernel
theorem dX12_lotsOf_14 : decode cX12_lotsOf 14 = .ok (.iload_n 2, 1) := by decide +kernel
theorem dX12_lotsOf_15 : decode cX12_lotsOf 15 = .ok (.aload_n 0, 1) := by decide +kernel
theorem dX12_lotsOf_16 : decode cX12_lotsOf 16 = .ok (.iload_n 3, 1) := by decide +kernel
theorem dX12_lotsOf_17 : decode cX12_lotsOf 17 = .ok (.iconst 2, 1) := by decide +kernel
theorem dX12_lotsOf_18 : decode cX12_lotsOf 18 = .ok (.invokevirtual 285, 3) := by decide +kernel
theorem dX12_lotsOf_21 : decode cX12_lotsOf 21 = .ok (.iload_n 1, 1) := by decide +kernel
theorem dX12_lotsOf_22 : decode cX12_lotsOf 22 = .ok (.if_icmp .ne 9, 3) := by decide +kernel
theorem dX12_lotsOf_25 : decode cX12_lotsOf 25 = .ok (.iconst 1, 1) := by decide +kernel
theorem dX12_lotsOf_26 : decode cX12_lotsOf 26 = .ok (.iload_n 3, 1) := by decide +kernel
theorem dX12_lotsOf_27 : decode cX12_lotsOf 27 = .ok (.ishl, 1) := by decide +kernel
theorem dX12_lotsOf_28 : decode cX12_lotsOf 28 = .ok (.goto 4, 3) := by decide +kernel
theorem dX12_lotsOf_31 : decode cX12_lotsOf 31 = .ok (.iconst 0, 1) := by decide +kernel
theorem dX12_lotsOf_32 : decode cX12_lotsOf 32 = .ok (.ior, 1) := by decide +kernel
theorem dX12_lotsOf_33 : decode cX12_lotsOf 33 = .ok (.istore_n 2, 1) := by decide +kernel
theorem dX12_lotsOf_34 : decode cX12_lotsOf 34 = .ok (.iinc 3 1, 3) := by decide +kernel
theorem dX12_lotsOf_37 : decode cX12_lotsOf 37 = .ok (.goto (-33), 3) := by decide +kernel
theorem dX12_lotsOf_40 : decode cX12_lotsOf 40 = .ok (.iload_n 2, 1) := by decide +kernel
theorem dX12_lotsOf_41 : decode cX12_lotsOf 41 = .ok (.ireturn, 1) := by decide +kernel
theorem wd_78 : (Jvm.Cond.selects "SilentSaleModel" ({ cls := "SilentSaleModel", name := "worthTo", desc := "(II)I" } : Jvm.MethodName) ({ cls := "SilentSaleModel", name := "worthTo", desc := "(II)I" } : Jvm.MethodName)) ∈ tb_L := tb_in (i := 78) (by decide +kernel) (by decide +kernel)
theorem wd_1573 : (Jvm.Cond.code ({ cls := "SilentSaleModel", name := "gainOf", desc := "(I)I" } : Jvm.MethodName) prog_14_method_59_code (4 : Nat) (Option.some Jvm.ClassFile.FieldType.int)) ∈ tb_L := tb_in (i := 1573) (by decide +kernel) (by decide +kernel)
theorem wd_1574 : (Jvm.Cond.methodLink "SilentSaleModel" (288 : Nat) ({ cls := "SilentSaleModel", name := "worthTo", desc := "(II)I" } : Jvm.MethodName)) ∈ tb_L := tb_in (i := 1574) (by decide +kernel) (by decide +kernel)
theorem wd_1576 : (Jvm.Cond.instanceMethod ({ cls := "SilentSaleModel", name := "worthTo", desc := "(II)I" } : Jvm.MethodName)) ∈ tb_L := tb_in (i := 1576) (by decide +kernel) (by decide +kernel)
theorem dX12_gainOf_0 : decode cX12_gainOf 0 = .ok (.iconst 0, 1) := by decide +kernel
theorem dX12_gainOf_1 : decode cX12_gainOf 1 = .ok (.istore_n 2, 1) := by decide +kernel
theorem dX12_gainOf_2 : decode cX12_gainOf 2 = .ok (.iconst 0, 1) := by decide +kernel
theorem dX12_gainOf_3 : decode cX12_gainOf 3 = .ok (.istore_n 3, 1) := by decide +kernel
theorem dX12_gainOf_4 : decode cX12_gainOf 4 = .ok (.iload_n 3, 1) := by decide +kernel
theorem dX12_gainOf_5 : decode cX12_gainOf 5 = .ok (.aload_n 0, 1) := by decide +kernel
theorem dX12_gainOf_6 : decode cX12_gainOf 6 = .ok (.getfield 39, 3) := by decide +kernel
theorem dX12_gainOf_9 : decode cX12_gainOf 9 = .ok (.iconst 2, 1) := by decide +kernel
theorem dX12_gainOf_10 : decode cX12_gainOf 10 = .ok (.iaload, 1) := by decide +kernel
theorem dX12_gainOf_11 : decode cX12_gainOf 11 = .ok (.if_icmp .ge 39, 3) := by decide +kernel
theorem dX12_gainOf_14 : decode cX12_gainOf 14 = .ok (.iload_n 2, 1) := by decide +kernel
theorem dX12_gainOf_15 : decode cX12_gainOf 15 = .ok (.aload_n 0, 1) := by decide +kernel
theorem dX12_gainOf_16 : decode cX12_gainOf 16 = .ok (.iload_n 3, 1) := by decide +kernel
theorem dX12_gainOf_17 : decode cX12_gainOf 17 = .ok (.iconst 2, 1) := by decide +kernel
theorem dX12_gainOf_18 : decode cX12_gainOf 18 = .ok (.invokevirtual 285, 3) := by decide +kernel
theorem dX12_gainOf_21 : decode cX12_gainOf 21 = .ok (.iload_n 1, 1) := by decide +kernel
theorem dX12_gainOf_22 : decode cX12_gainOf 22 = .ok (.if_icmp .ne 19, 3) := by decide +kernel
theorem dX12_gainOf_25 : decode cX12_gainOf 25 = .ok (.aload_n 0, 1) := by decide +kernel
theorem dX12_gainOf_26 : decode cX12_gainOf 26 = .ok (.iload_n 1, 1) := by decide +kernel
theorem dX12_gainOf_27 : decode cX12_gainOf 27 = .ok (.iload_n 3, 1) := by decide +kernel
theorem dX12_gainOf_28 : decode cX12_gainOf 28 = .ok (.invokevirtual 288, 3) := by decide +kernel
theorem dX12_gainOf_31 : decode cX12_gainOf 31 = .ok (.aload_n 0, 1) := by decide +kernel
theorem dX12_gainOf_32 : decode cX12_gainOf 32 = .ok (.iload_n 3, 1) := by decide +kernel
theorem dX12_gainOf_33 : decode cX12_gainOf 33 = .ok (.iconst 3, 1) := by decide +kernel
theorem dX12_gainOf_34 : decode cX12_gainOf 34 = .ok (.invokevirtual 285, 3) := by decide +kernel
theorem dX12_gainOf_37 : decode cX12_gainOf 37 = .ok (.isub, 1) := by decide +kernel
theorem dX12_gainOf_38 : decode cX12_gainOf 38 = .ok (.goto 4, 3) := by decide +kernel
theorem dX12_gainOf_41 : decode cX12_gainOf 41 = .ok (.iconst 0, 1) := by decide +kernel
theorem dX12_gainOf_42 : decode cX12_gainOf 42 = .ok (.iadd, 1) := by decide +kernel
theorem dX12_gainOf_43 : decode cX12_gainOf 43 = .ok (.istore_n 2, 1) := by decide +kernel
theorem dX12_gainOf_44 : decode cX12_gainOf 44 = .ok (.iinc 3 1, 3) := by decide +kernel
theorem dX12_gainOf_47 : decode cX12_gainOf 47 = .ok (.goto (-43), 3) := by decide +kernel
theorem dX12_gainOf_50 : decode cX12_gainOf 50 = .ok (.iload_n 2, 1) := by decide +kernel
theorem dX12_gainOf_51 : decode cX12_gainOf 51 = .ok (.ireturn, 1) := by decide +kernel
theorem wd_77 : (Jvm.Cond.selects "SilentSaleModel" ({ cls := "SilentSaleModel", name := "gainOf", desc := "(I)I" } : Jvm.MethodName) ({ cls := "SilentSaleModel", name := "gainOf", desc := "(I)I" } : Jvm.MethodName)) ∈ tb_L := tb_in (i := 77) (by decide +kernel) (by decide +kernel)
theorem wd_1570 : (Jvm.Cond.methodLink "SilentSaleModel" (294 : Nat) ({ cls := "SilentSaleModel", name := "gainOf", desc := "(I)I" } : Jvm.MethodName)) ∈ tb_L := tb_in (i := 1570) (by decide +kernel) (by decide +kernel)
theorem wd_1572 : (Jvm.Cond.instanceMethod ({ cls := "SilentSaleModel", name := "gainOf", desc := "(I)I" } : Jvm.MethodName)) ∈ tb_L := tb_in (i := 1572) (by decide +kernel) (by decide +kernel)
theorem wd_1776 : (Jvm.Cond.code ({ cls := "SilentSaleModel", name := "gainsOf", desc := "(I)I" } : Jvm.MethodName) prog_14_method_60_code (4 : Nat) (Option.some Jvm.ClassFile.FieldType.int)) ∈ tb_L := tb_in (i := 1776) (by decide +kernel) (by decide +kernel)
theorem dX12_gainsOf_0 : decode cX12_gainsOf 0 = .ok (.iconst 0, 1) := by decide +kernel
theorem dX12_gainsOf_1 : decode cX12_gainsOf 1 = .ok (.istore_n 2, 1) := by decide +kernel
theorem dX12_gainsOf_2 : decode cX12_gainsOf 2 = .ok (.iconst 0, 1) := by decide +kernel
theorem dX12_gainsOf_3 : decode cX12_gainsOf 3 = .ok (.istore_n 3, 1) := by decide +kernel
theorem dX12_gainsOf_4 : decode cX12_gainsOf 4 = .ok (.iload_n 3, 1) := by decide +kernel
theorem dX12_gainsOf_5 : decode cX12_gainsOf 5 = .ok (.aload_n 0, 1) := by decide +kernel
theorem dX12_gainsOf_6 : decode cX12_gainsOf 6 = .ok (.getfield 39, 3) := by decide +kernel
theorem dX12_gainsOf_9 : decode cX12_gainsOf 9 = .ok (.iconst 1, 1) := by decide +kernel
theorem dX12_gainsOf_10 : decode cX12_gainsOf 10 = .ok (.iaload, 1) := by decide +kernel
theorem dX12_gainsOf_11 : decode cX12_gainsOf 11 = .ok (.if_icmp .ge 29, 3) := by decide +kernel
theorem dX12_gainsOf_14 : decode cX12_gainsOf 14 = .ok (.iload_n 2, 1) := by decide +kernel
theorem dX12_gainsOf_15 : decode cX12_gainsOf 15 = .ok (.iload_n 1, 1) := by decide +kernel
theorem dX12_gainsOf_16 : decode cX12_gainsOf 16 = .ok (.iload_n 3, 1) := by decide +kernel
theorem dX12_gainsOf_17 : decode cX12_gainsOf 17 = .ok (.invokestatic 291, 3) := by decide +kernel
theorem dX12_gainsOf_20 : decode cX12_gainsOf 20 = .ok (.ifCond .eq 11, 3) := by decide +kernel
theorem dX12_gainsOf_23 : decode cX12_gainsOf 23 = .ok (.aload_n 0, 1) := by decide +kernel
theorem dX12_gainsOf_24 : decode cX12_gainsOf 24 = .ok (.iload_n 3, 1) := by decide +kernel
theorem dX12_gainsOf_25 : decode cX12_gainsOf 25 = .ok (.invokevirtual 294, 3) := by decide +kernel
theorem dX12_gainsOf_28 : decode cX12_gainsOf 28 = .ok (.goto 4, 3) := by decide +kernel
theorem dX12_gainsOf_31 : decode cX12_gainsOf 31 = .ok (.iconst 0, 1) := by decide +kernel
theorem dX12_gainsOf_32 : decode cX12_gainsOf 32 = .ok (.iadd, 1) := by decide +kernel
theorem dX12_gainsOf_33 : decode cX12_gainsOf 33 = .ok (.istore_n 2, 1) := by decide +kernel
theorem dX12_gainsOf_34 : decode cX12_gainsOf 34 = .ok (.iinc 3 1, 3) := by decide +kernel
theorem dX12_gainsOf_37 : decode cX12_gainsOf 37 = .ok (.goto (-33), 3) := by decide +kernel
theorem dX12_gainsOf_40 : decode cX12_gainsOf 40 = .ok (.iload_n 2, 1) := by decide +kernel
theorem dX12_gainsOf_41 : decode cX12_gainsOf 41 = .ok (.ireturn, 1) := by decide +kernel
theorem wd_1622 : (Jvm.Cond.code ({ cls := "SilentSaleModel", name := "lotsIn", desc := "(I)I" } : Jvm.MethodName) prog_14_method_61_code (4 : Nat) (Option.some Jvm.ClassFile.FieldType.int)) ∈ tb_L := tb_in (i := 1622) (by decide +kernel) (by decide +kernel)
theorem dX12_lotsIn_0 : decode cX12_lotsIn 0 = .ok (.iconst 0, 1) := by decide +kernel
theorem dX12_lotsIn_1 : decode cX12_lotsIn 1 = .ok (.istore_n 2, 1) := by decide +kernel
theorem dX12_lotsIn_2 : decode cX12_lotsIn 2 = .ok (.iconst 0, 1) := by decide +kernel
theorem dX12_lotsIn_3 : decode cX12_lotsIn 3 = .ok (.istore_n 3, 1) := by decide +kernel
theorem dX12_lotsIn_4 : decode cX12_lotsIn 4 = .ok (.iload_n 3, 1) := by decide +kernel
theorem dX12_lotsIn_5 : decode cX12_lotsIn 5 = .ok (.aload_n 0, 1) := by decide +kernel
theorem dX12_lotsIn_6 : decode cX12_lotsIn 6 = .ok (.getfield 39, 3) := by decide +kernel
theorem dX12_lotsIn_9 : decode cX12_lotsIn 9 = .ok (.iconst 2, 1) := by decide +kernel
theorem dX12_lotsIn_10 : decode cX12_lotsIn 10 = .ok (.iaload, 1) := by decide +kernel
theorem dX12_lotsIn_11 : decode cX12_lotsIn 11 = .ok (.if_icmp .ge 29, 3) := by decide +kernel
theorem dX12_lotsIn_14 : decode cX12_lotsIn 14 = .ok (.iload_n 2, 1) := by decide +kernel
theorem dX12_lotsIn_15 : decode cX12_lotsIn 15 = .ok (.aload_n 0, 1) := by decide +kernel
theorem dX12_lotsIn_16 : decode cX12_lotsIn 16 = .ok (.iload_n 3, 1) := by decide +kernel
theorem dX12_lotsIn_17 : decode cX12_lotsIn 17 = .ok (.iconst 0, 1) := by decide +kernel
theorem dX12_lotsIn_18 : decode cX12_lotsIn 18 = .ok (.invokevirtual 285, 3) := by decide +kernel
theorem dX12_lotsIn_21 : decode cX12_lotsIn 21 = .ok (.iload_n 1, 1) := by decide +kernel
theorem dX12_lotsIn_22 : decode cX12_lotsIn 22 = .ok (.if_icmp .ne 9, 3) := by decide +kernel
theorem dX12_lotsIn_25 : decode cX12_lotsIn 25 = .ok (.iconst 1, 1) := by decide +kernel
theorem dX12_lotsIn_26 : decode cX12_lotsIn 26 = .ok (.iload_n 3, 1) := by decide +kernel
theorem dX12_lotsIn_27 : decode cX12_lotsIn 27 = .ok (.ishl, 1) := by decide +kernel
theorem dX12_lotsIn_28 : decode cX12_lotsIn 28 = .ok (.goto 4, 3) := by decide +kernel
theorem dX12_lotsIn_31 : decode cX12_lotsIn 31 = .ok (.iconst 0, 1) := by decide +kernel
theorem dX12_lotsIn_32 : decode cX12_lotsIn 32 = .ok (.ior, 1) := by decide +kernel
theorem dX12_lotsIn_33 : decode cX12_lotsIn 33 = .ok (.istore_n 2, 1) := by decide +kernel
theorem dX12_lotsIn_34 : decode cX12_lotsIn 34 = .ok (.iinc 3 1, 3) := by decide +kernel
theorem dX12_lotsIn_37 : decode cX12_lotsIn 37 = .ok (.goto (-33), 3) := by decide +kernel
theorem dX12_lotsIn_40 : decode cX12_lotsIn 40 = .ok (.iload_n 2, 1) := by decide +kernel
theorem dX12_lotsIn_41 : decode cX12_lotsIn 41 = .ok (.ireturn, 1) := by decide +kernel
theorem wd_1723 : (Jvm.Cond.code ({ cls := "SilentSaleModel", name := "isSale", desc := "()Z" } : Jvm.MethodName) prog_14_method_48_code (1 : Nat) (Option.some Jvm.ClassFile.FieldType.boolean)) ∈ tb_L := tb_in (i := 1723) (by decide +kernel) (by decide +kernel)
theorem dX12_isSale_0 : decode cX12_isSale 0 = .ok (.aload_n 0, 1) := by decide +kernel
theorem dX12_isSale_1 : decode cX12_isSale 1 = .ok (.getfield 39, 3) := by decide +kernel
theorem dX12_isSale_4 : decode cX12_isSale 4 = .ok (.iconst 0, 1) := by decide +kernel
theorem dX12_isSale_5 : decode cX12_isSale 5 = .ok (.iaload, 1) := by decide +kernel
theorem dX12_isSale_6 : decode cX12_isSale 6 = .ok (.ifCond .le 7, 3) := by decide +kernel
theorem dX12_isSale_9 : decode cX12_isSale 9 = .ok (.iconst 1, 1) := by decide +kernel
theorem dX12_isSale_10 : decode cX12_isSale 10 = .ok (.goto 4, 3) := by decide +kernel
theorem dX12_isSale_13 : decode cX12_isSale 13 = .ok (.iconst 0, 1) := by decide +kernel
theorem dX12_isSale_14 : decode cX12_isSale 14 = .ok (.ireturn, 1) := by decide +kernel
theorem wd_1556 : (Jvm.Cond.code ({ cls := "SilentSaleModel", name := "isBidder", desc := "(I)Z" } : Jvm.MethodName) prog_14_method_49_code (2 : Nat) (Option.some Jvm.ClassFile.FieldType.boolean)) ∈ tb_L := tb_in (i := 1556) (by decide +kernel) (by decide +kernel)
theorem dX12_isBidder_0 : decode cX12_isBidder 0 = .ok (.iload_n 1, 1) := by decide +kernel
theorem dX12_isBidder_1 : decode cX12_isBidder 1 = .ok (.ifCond .lt 17, 3) := by decide +kernel
theorem dX12_isBidder_4 : decode cX12_isBidder 4 = .ok (.iload_n 1, 1) := by decide +kernel
theorem dX12_isBidder_5 : decode cX12_isBidder 5 = .ok (.aload_n 0, 1) := by decide +kernel
theorem dX12_isBidder_6 : decode cX12_isBidder 6 = .ok (.getfield 39, 3) := by decide +kernel
theorem dX12_isBidder_9 : decode cX12_isBidder 9 = .ok (.iconst 1, 1) := by decide +kernel
theorem dX12_isBidder_10 : decode cX12_isBidder 10 = .ok (.iaload, 1) := by decide +kernel
theorem dX12_isBidder_11 : decode cX12_isBidder 11 = .ok (.if_icmp .ge 7, 3) := by decide +kernel
theorem dX12_isBidder_14 : decode cX12_isBidder 14 = .ok (.iconst 1, 1) := by decide +kernel
theorem dX12_isBidder_15 : decode cX12_isBidder 15 = .ok (.goto 4, 3) := by decide +kernel
theorem dX12_isBidder_18 : decode cX12_isBidder 18 = .ok (.iconst 0, 1) := by decide +kernel
theorem dX12_isBidder_19 : decode cX12_isBidder 19 = .ok (.ireturn, 1) := by decide +kernel
theorem wd_1585 : (Jvm.Cond.code ({ cls := "SilentSaleModel", name := "isLot", desc := "(I)Z" } : Jvm.MethodName) prog_14_method_50_code (2 : Nat) (Option.some Jvm.ClassFile.FieldType.boolean)) ∈ tb_L := tb_in (i := 1585) (by decide +kernel) (by decide +kernel)
theorem dX12_isLot_0 : decode cX12_isLot 0 = .ok (.iload_n 1, 1) := by decide +kernel
theorem dX12_isLot_1 : decode cX12_isLot 1 = .ok (.ifCond .lt 17, 3) := by decide +kernel
theorem dX12_isLot_4 : decode cX12_isLot 4 = .ok (.iload_n 1, 1) := by decide +kernel
theorem dX12_isLot_5 : decode cX12_isLot 5 = .ok (.aload_n 0, 1) := by decide +kernel
theorem dX12_isLot_6 : decode cX12_isLot 6 = .ok (.getfield 39, 3) := by decide +kernel
theorem dX12_isLot_9 : decode cX12_isLot 9 = .ok (.iconst 2, 1) := by decide +kernel
theorem dX12_isLot_10 : decode cX12_isLot 10 = .ok (.iaload, 1) := by decide +kernel
theorem dX12_isLot_11 : decode cX12_isLot 11 = .ok (.if_icmp .ge 7, 3) := by decide +kernel
theorem dX12_isLot_14 : decode cX12_isLot 14 = .ok (.iconst 1, 1) := by decide +kernel
theorem dX12_isLot_15 : decode cX12_isLot 15 = .ok (.goto 4, 3) := by decide +kernel
theorem dX12_isLot_18 : decode cX12_isLot 18 = .ok (.iconst 0, 1) := by decide +kernel
theorem dX12_isLot_19 : decode cX12_isLot 19 = .ok (.ireturn, 1) := by decide +kernel
theorem wd_1610 : (Jvm.Cond.code ({ cls := "SilentSaleModel", name := "isTrick", desc := "(I)Z" } : Jvm.MethodName) prog_14_method_51_code (2 : Nat) (Option.some Jvm.ClassFile.FieldType.boolean)) ∈ tb_L := tb_in (i := 1610) (by decide +kernel) (by decide +kernel)
theorem dX12_isTrick_0 : decode cX12_isTrick 0 = .ok (.iload_n 1, 1) := by decide +kernel
theorem dX12_isTrick_1 : decode cX12_isTrick 1 = .ok (.ifCond .lt 17, 3) := by decide +kernel
theorem dX12_isTrick_4 : decode cX12_isTrick 4 = .ok (.iload_n 1, 1) := by decide +kernel
theorem dX12_isTrick_5 : decode cX12_isTrick 5 = .ok (.aload_n 0, 1) := by decide +kernel
theorem dX12_isTrick_6 : decode cX12_isTrick 6 = .ok (.getfield 39, 3) := by decide +kernel
theorem dX12_isTrick_9 : decode cX12_isTrick 9 = .ok (.iconst 3, 1) := by decide +kernel
theorem dX12_isTrick_10 : decode cX12_isTrick 10 = .ok (.iaload, 1) := by decide +kernel
theorem dX12_isTrick_11 : decode cX12_isTrick 11 = .ok (.if_icmp .ge 7, 3) := by decide +kernel
theorem dX12_isTrick_14 : decode cX12_isTrick 14 = .ok (.iconst 1, 1) := by decide +kernel
theorem dX12_isTrick_15 : decode cX12_isTrick 15 = .ok (.goto 4, 3) := by decide +kernel
theorem dX12_isTrick_18 : decode cX12_isTrick 18 = .ok (.iconst 0, 1) := by decide +kernel
theorem dX12_isTrick_19 : decode cX12_isTrick 19 = .ok (.ireturn, 1) := by decide +kernel
set_option maxHeartbeats 4000000 in
set_option maxRecDepth 100000 in
theorem d_m_in (l : Launch) (G : gg_T) (Γ : Nat → Nat) (sz : Nat) (wt : va_W) (hT : tk_ty G Γ wt) (a : Int64) (b : Int64) (w : Int64) : Met l yX12_in (ts_L yX12_in cX12_in 6 (some .boolean)) ({ frames := 0, cells := 0, slots := 0, locals := 0 }) (gc_P G wt sz [.long a, .long b, .long w]) (gc_I G (va_A wt sz) (fun r (u : va_W) => tk_ty G Γ u ∧ tk_kp [] wt u ∧ 0 ≤ r.toInt ∧ r.toInt ≤ 1 ∧ (r ≠ 0 → b.toInt ≤ a.toInt ∧ a.toInt ≤ w.toInt)) (fun u => u)) 0 0 (va_A wt sz) := by
  refine Met.ofW (cc := cX12_in) (maxL := 6) (ret := (some .boolean)) (by decide) rfl ?_
  intro p e s m args below meth c s₁ B hml hv
  obtain ⟨rfl, hsz, hP, hK, hD0⟩ := hv
  have hx := B.exec
  have hb := B.bytes
  have hr := B.returns
  have ht := ts_ht (atoms_spec (ws := ts_L yX12_in cX12_in 6 (some .boolean)) B.pre)
  have hown : s.vm.findClass RX12 = some m.cls := findClass_of_methodNamed B.named
  have hlocks := B.notSynchronized
  subst hsz
  have hD := hD0.self (sz := s.heap.size)
  generalize hAe : va_A wt s.heap.size = A at hD ⊢
  have hA : ∀ q : Nat, s.heap.size ≤ q → A q := fun q h => by rw [← hAe]; exact Or.inr h
  clear hAe hD0
  have hS : va_S A s.heap s.heap [] := va_S.rf
  obtain ⟨w0, hw0⟩ : ∃ z, z = wt := ⟨_, rfl⟩
  have hW : tk_kp [] w0 wt := by rw [hw0]; exact tk_kp.rf
  rw [← hw0]
  clear hw0
  have hP : va_P (gg_D G) classes ([] ++ wt) s.heap := hP
  have hD : va_D A ([] ++ wt) := hD
  have hl := lv_entry ([.long a, .long b, .long w]) (n := 6) (Nat.le_of_ble_eq_true rfl)
  rw [lg_entry_eq]
  generalize (lg_sl ([.long a, .long b, .long w]) ++ List.replicate (6 - (lg_sl ([.long a, .long b, .long w])).length) Slot.unset).toArray = ls at hl ⊢
  have hl : lv_has ls 6 [(0, .long a), (2, .long b), (4, .long w)] := hl
  have l0 : (0 : Int32).toInt = 0 := by decide +kernel
  have l1 : (1 : Int32).toInt = 1 := by decide +kernel
  refine lv_lload_n hx hb dX12_in_0 rfl (lv_at hl 0 rfl) ?_
  refine lv_lload_n hx hb dX12_in_1 rfl (lv_at hl 1 rfl) ?_
  obtain ⟨t_1, et_1⟩ : ∃ zz_ : Int32, lg_cmp a b = zz_ := ⟨_, rfl⟩
  refine gq_lcmp hx hb t_1 et_1 dX12_in_2 ?_
  have ft_1 := il_cmp et_1
  refine lv_if_lt (tgt := 17) hx hb dX12_in_3 (by decide) (fun c_2 => ?_) (fun c_2 => ?_)
  · rw [Int32.lt_iff_toInt_lt] at c_2
    refine lv_iconst (v := 0) hx hb dX12_in_17 (by decide +kernel) ?_
    have hP9 := tw_right hP
    have hD9 := tw_rightD hD
    exact W.zret (v := 0) hx hb hr (by decide +kernel) (gq_endI wt ⟨hT, hW, (by omega), (by omega), (fun h => absurd rfl h)⟩ hP9 hD9 hS) hS.2.2 dX12_in_18
  · rw [Int32.lt_iff_toInt_lt] at c_2
    refine lv_lload_n hx hb dX12_in_6 rfl (lv_at hl 0 rfl) ?_
    refine lv_lload hx hb dX12_in_7 (lv_at hl 2 rfl) ?_
    obtain ⟨t_3, et_3⟩ : ∃ zz_ : Int32, lg_cmp a w = zz_ := ⟨_, rfl⟩
    refine gq_lcmp hx hb t_3 et_3 dX12_in_9 ?_
    have ft_3 := il_cmp et_3
    refine lv_if_gt (tgt := 17) hx hb dX12_in_10 (by decide) (fun c_4 => ?_) (fun c_4 => ?_)
    · rw [Int32.lt_iff_toInt_lt] at c_4
      refine lv_iconst (v := 0) hx hb dX12_in_17 (by decide +kernel) ?_
      have hP9 := tw_right hP
      have hD9 := tw_rightD hD
      exact W.zret (v := 0) hx hb hr (by decide +kernel) (gq_endI wt ⟨hT, hW, (by omega), (by omega), (fun h => absurd rfl h)⟩ hP9 hD9 hS) hS.2.2 dX12_in_18
    · rw [Int32.lt_iff_toInt_lt] at c_4
      refine lv_iconst (v := 1) hx hb dX12_in_13 (by decide +kernel) ?_
      refine lv_goto (tgt := 18) hx hb dX12_in_14 (by decide) ?_
      have hP9 := tw_right hP
      have hD9 := tw_rightD hD
      exact W.zret (v := 1) hx hb hr (by decide +kernel) (gq_endI wt ⟨hT, hW, (by omega), (by omega), (fun _ => ⟨by omega, by omega⟩)⟩ hP9 hD9 hS) hS.2.2 dX12_in_18
set_option maxHeartbeats 4000000 in
set_option maxRecDepth 100000 in
theorem d_m_isOf (l : Launch) (G : gg_T) (Γ : Nat → Nat) (sz : Nat) (wt : va_W) (hT : tk_ty G Γ wt) (a : Int32) (b : Int32) (lo_a : 0 ≤ a.toInt) (hi_a : a.toInt ≤ 31) (lo_b : 0 ≤ b.toInt) (hi_b : b.toInt ≤ 31) : Met l yX12_isOf (ts_L yX12_isOf cX12_isOf 2 (some .boolean)) ({ frames := 0, cells := 0, slots := 0, locals := 0 }) (gc_P G wt sz [.int a, .int b]) (gc_I G (va_A wt sz) (fun r (u : va_W) => tk_ty G Γ u ∧ tk_kp [] wt u ∧ 0 ≤ r.toInt ∧ r.toInt ≤ 1 ∧ (r.toInt = 1 ↔ tb a b.toInt.toNat)) (fun u => u)) 0 0 (va_A wt sz) := by
  refine Met.ofW (cc := cX12_isOf) (maxL := 2) (ret := (some .boolean)) (by decide) rfl ?_
  intro p e s m args below meth c s₁ B hml hv
  obtain ⟨rfl, hsz, hP, hK, hD0⟩ := hv
  have hx := B.exec
  have hb := B.bytes
  have hr := B.returns
  have ht := ts_ht (atoms_spec (ws := ts_L yX12_isOf cX12_isOf 2 (some .boolean)) B.pre)
  have hown : s.vm.findClass RX12 = some m.cls := findClass_of_methodNamed B.named
  have hlocks := B.notSynchronized
  subst hsz
  have hD := hD0.self (sz := s.heap.size)
  generalize hAe : va_A wt s.heap.size = A at hD ⊢
  have hA : ∀ q : Nat, s.heap.size ≤ q → A q := fun q h => by rw [← hAe]; exact Or.inr h
  clear hAe hD0
  have hS : va_S A s.heap s.heap [] := va_S.rf
  obtain ⟨w0, hw0⟩ : ∃ z, z = wt := ⟨_, rfl⟩
  have hW : tk_kp [] w0 wt := by rw [hw0]; exact tk_kp.rf
  rw [← hw0]
  clear hw0
  have hP : va_P (gg_D G) classes ([] ++ wt) s.heap := hP
  have hD : va_D A ([] ++ wt) := hD
  have hl := lv_entry ([.int a, .int b]) (n := 2) (Nat.le_of_ble_eq_true rfl)
  rw [lg_entry_eq]
  generalize (lg_sl ([.int a, .int b]) ++ List.replicate (2 - (lg_sl ([.int a, .int b])).length) Slot.unset).toArray = ls at hl ⊢
  have hl : lv_has ls 2 [(0, .int a), (1, .int b)] := hl
  have l0 : (0 : Int32).toInt = 0 := by decide +kernel
  have l1 : (1 : Int32).toInt = 1 := by decide +kernel
  have l31 : (31 : Int32).toInt = 31 := by decide +kernel
  refine lv_iload_n hx hb dX12_isOf_0 rfl (lv_at hl 0 rfl) ?_
  refine lv_iload_n hx hb dX12_isOf_1 rfl (lv_at hl 1 rfl) ?_
  obtain ⟨t_1, et_1⟩ : ∃ zz_ : Int32, a >>> (b &&& 31) = zz_ := ⟨_, rfl⟩
  refine gq_ishr hx hb t_1 et_1 dX12_isOf_2 ?_
  refine lv_iconst (v := 1) hx hb dX12_isOf_3 (by decide +kernel) ?_
  obtain ⟨t_2, et_2⟩ : ∃ zz_ : Int32, t_1 &&& 1 = zz_ := ⟨_, rfl⟩
  refine gq_iand hx hb t_2 et_2 dX12_isOf_4 ?_
  have ft_2 := tb_shr et_1 et_2 (by omega) (by omega) (by omega) (by omega)
  have fbt_2 := ft_2.2
  refine lv_iconst (v := 1) hx hb dX12_isOf_5 (by decide +kernel) ?_
  refine lv_icmp_ne (tgt := 13) hx hb dX12_isOf_6 (by decide) (fun c_3 => ?_) (fun c_3 => ?_)
  · rw [← Int32.toInt_inj] at c_3
    refine lv_iconst (v := 0) hx hb dX12_isOf_13 (by decide +kernel) ?_
    have hP9 := tw_right hP
    have hD9 := tw_rightD hD
    exact W.zret (v := 0) hx hb hr (by decide +kernel) (gq_endI wt ⟨hT, hW, (by omega), (by omega), (by rw [← ft_2.1]; omega)⟩ hP9 hD9 hS) hS.2.2 dX12_isOf_14
  · rw [← Int32.toInt_inj] at c_3
    refine lv_iconst (v := 1) hx hb dX12_isOf_9 (by decide +kernel) ?_
    refine lv_goto (tgt := 14) hx hb dX12_isOf_10 (by decide) ?_
    have hP9 := tw_right hP
    have hD9 := tw_rightD hD
    exact W.zret (v := 1) hx hb hr (by decide +kernel) (gq_endI wt ⟨hT, hW, (by omega), (by omega), (by rw [← ft_2.1]; omega)⟩ hP9 hD9 hS) hS.2.2 dX12_isOf_14
set_option maxHeartbeats 4000000 in
set_option maxRecDepth 100000 in
theorem d_m_bits (l : Launch) (G : gg_T) (Γ : Nat → Nat) (sz : Nat) (wt : va_W) (hT : tk_ty G Γ wt) (a : Int32) (lo_a : 0 ≤ a.toInt) (hi_a : a.toInt ≤ 31) : Met l yX12_bits (ts_L yX12_bits cX12_bits 3 (some .int)) ({ frames := 0, cells := 0, slots := 0, locals := 0 }) (gc_P G wt sz [.int a]) (gc_I G (va_A wt sz) (fun r (u : va_W) => tk_ty G Γ u ∧ tk_kp [] wt u ∧ 0 ≤ r.toInt ∧ r.toInt ≤ 31 ∧ ((a.toInt = 0 ∧ r.toInt = 0) ∨ (0 < a.toInt ∧ 1 ≤ r.toInt))) (fun u => u)) 0 0 (va_A wt sz) := by
  refine Met.ofW (cc := cX12_bits) (maxL := 3) (ret := (some .int)) (by decide) rfl ?_
  intro p e s m args below meth c s₁ B hml hv
  obtain ⟨rfl, hsz, hP, hK, hD0⟩ := hv
  have hx := B.exec
  have hb := B.bytes
  have hr := B.returns
  have ht := ts_ht (atoms_spec (ws := ts_L yX12_bits cX12_bits 3 (some .int)) B.pre)
  have hown : s.vm.findClass RX12 = some m.cls := findClass_of_methodNamed B.named
  have hlocks := B.notSynchronized
  subst hsz
  have hD := hD0.self (sz := s.heap.size)
  generalize hAe : va_A wt s.heap.size = A at hD ⊢
  have hA : ∀ q : Nat, s.heap.size ≤ q → A q := fun q h => by rw [← hAe]; exact Or.inr h
  clear hAe hD0
  have hS : va_S A s.heap s.heap [] := va_S.rf
  obtain ⟨w0, hw0⟩ : ∃ z, z = wt := ⟨_, rfl⟩
  have hW : tk_kp [] w0 wt := by rw [hw0]; exact tk_kp.rf
  rw [← hw0]
  clear hw0
  have hP : va_P (gg_D G) classes ([] ++ wt) s.heap := hP
  have hD : va_D A ([] ++ wt) := hD
  have hl := lv_entry ([.int a]) (n := 3) (Nat.le_of_ble_eq_true rfl)
  rw [lg_entry_eq]
  generalize (lg_sl ([.int a]) ++ List.replicate (3 - (lg_sl ([.int a])).length) Slot.unset).toArray = ls at hl ⊢
  have hl : lv_has ls 3 [(0, .int a)] := hl
  have l0 : (0 : Int32).toInt = 0 := by decide +kernel
  have l1 : (1 : Int32).toInt = 1 := by decide +kernel
  refine lv_iconst (v := 0) hx hb dX12_bits_0 (by decide +kernel) ?_
  refine lv_istore_n (lv' := [(1, .int 0), (0, .int a)]) hx hb dX12_bits_1 rfl hl (by decide) rfl (fun ls hl => ?_)
  refine lv_iload_n hx hb dX12_bits_2 rfl (lv_at hl 1 rfl) ?_
  refine lv_istore_n (lv' := [(2, .int a), (1, .int 0), (0, .int a)]) hx hb dX12_bits_3 rfl hl (by decide) rfl (fun ls hl => ?_)
  refine tl_loopE (Γ := Γ) (nL := 3) (fun (zz_ : Int32 × Int32) => match zz_ with | (x4_0, x4_1) => (0 ≤ x4_0.toInt) ∧ (x4_0.toInt ≤ 31) ∧ (0 ≤ x4_1.toInt) ∧ (x4_1.toInt ≤ 31) ∧ (x4_1.toInt + x4_0.toInt ≤ a.toInt) ∧ (x4_1.toInt = 0 ∧ x4_0.toInt = a.toInt ∨ 1 ≤ x4_1.toInt ∧ 0 < a.toInt)) (fun (zz_ : Int32 × Int32) => match zz_ with | (x4_0, x4_1) => (x4_0.toInt).toNat) (fun (zz_ : Int32 × Int32) => match zz_ with | (x4_0, x4_1) => [(2, .int x4_0), (1, .int x4_1), (0, .int a)]) (fun (zz_ : Int32 × Int32) => match zz_ with | (x4_0, x4_1) => []) (fun (zz_ : Int32 × Int32) (w : va_W) => match zz_ with | (x4_0, x4_1) => tk_kp [] w0 w) (fun zz_ hI H locs wt ls hT hW hP hD hS hl ih4 => ?_) (a, 0) (show (0 ≤ a.toInt) ∧ (a.toInt ≤ 31) ∧ (0 ≤ (0 : Int32).toInt) ∧ ((0 : Int32).toInt ≤ 31) ∧ ((0 : Int32).toInt + a.toInt ≤ a.toInt) ∧ ((0 : Int32).toInt = 0 ∧ a.toInt = a.toInt ∨ 1 ≤ (0 : Int32).toInt ∧ 0 < a.toInt) from ⟨by omega, by omega, by omega, by omega, by omega, by omega⟩) _ _ wt ls hT hW hP hD hS hl
  obtain ⟨x4_0, x4_1⟩ := zz_
  have hW : tk_kp [] w0 wt := hW
  have hI : (0 ≤ x4_0.toInt) ∧ (x4_0.toInt ≤ 31) ∧ (0 ≤ x4_1.toInt) ∧ (x4_1.toInt ≤ 31) ∧ (x4_1.toInt + x4_0.toInt ≤ a.toInt) ∧ (x4_1.toInt = 0 ∧ x4_0.toInt = a.toInt ∨ 1 ≤ x4_1.toInt ∧ 0 < a.toInt) := hI
  obtain ⟨j4_0, j4_1, j4_2, j4_3, j4_4, j4_5⟩ := hI
  have hl : lv_has ls 3 [(2, .int x4_0), (1, .int x4_1), (0, .int a)] := hl
  have hP : va_P (gg_D G) classes ([] ++ wt) H := hP
  have hD : va_D A ([] ++ wt) := hD
  refine lv_iload_n hx hb dX12_bits_4 rfl (lv_at hl 0 rfl) ?_
  refine lv_if_eq (tgt := 20) hx hb dX12_bits_5 (by decide) (fun c_1 => ?_) (fun c_1 => ?_)
  · rw [← Int32.toInt_inj] at c_1
    refine lv_iload_n hx hb dX12_bits_20 rfl (lv_at hl 1 rfl) ?_
    have hP9 := tw_right hP
    have hD9 := tw_rightD hD
    exact W.iret (v := x4_1) hx hb hr (gq_endI wt ⟨hT, hW, (by omega), (by omega), (by omega)⟩ hP9 hD9 hS) hS.2.2 dX12_bits_21
  · rw [← Int32.toInt_inj] at c_1
    obtain ⟨t_2, et_2⟩ : ∃ zz_ : Int32, x4_1 + Int32.ofInt (1) = zz_ := ⟨_, rfl⟩
    have ft_2 : t_2.toInt = x4_1.toInt + (1 : Int32).toInt := ia_add (y := 1) et_2 (by omega) (by omega)
    refine lv_iinc (v := t_2) (lv' := [(1, .int t_2), (2, .int x4_0), (0, .int a)]) hx hb dX12_bits_8 hl (k := 1) rfl et_2 (by decide) rfl (fun ls hl => ?_)
    refine lv_iload_n hx hb dX12_bits_11 rfl (lv_at hl 1 rfl) ?_
    refine lv_iload_n hx hb dX12_bits_12 rfl (lv_at hl 1 rfl) ?_
    refine lv_iconst (v := 1) hx hb dX12_bits_13 (by decide +kernel) ?_
    obtain ⟨t_3, et_3⟩ : ∃ zz_ : Int32, x4_0 - 1 = zz_ := ⟨_, rfl⟩
    refine gq_isub hx hb t_3 et_3 dX12_bits_14 ?_
    have ft_3 := ia_sub et_3 (by omega) (by omega)
    obtain ⟨t_4, et_4⟩ : ∃ zz_ : Int32, x4_0 &&& t_3 = zz_ := ⟨_, rfl⟩
    refine gq_iand hx hb t_4 et_4 dX12_bits_15 ?_
    have ft_4 := ia_and2 et_4 (by omega)
    have flt_4 := ia_less et_3 et_4 (by omega) (by omega)
    refine lv_istore_n (lv' := [(2, .int t_4), (1, .int t_2), (0, .int a)]) hx hb dX12_bits_16 rfl hl (by decide) rfl (fun ls hl => ?_)
    refine lv_goto (tgt := 4) hx hb dX12_bits_17 (by decide) ?_
    exact ih4 (t_4, t_2) (show (0 ≤ t_4.toInt) ∧ (t_4.toInt ≤ 31) ∧ (0 ≤ t_2.toInt) ∧ (t_2.toInt ≤ 31) ∧ (t_2.toInt + t_4.toInt ≤ a.toInt) ∧ (t_2.toInt = 0 ∧ t_4.toInt = a.toInt ∨ 1 ≤ t_2.toInt ∧ 0 < a.toInt) from ⟨by omega, by omega, by omega, by omega, by omega, by omega⟩) (show (t_4.toInt).toNat < (x4_0.toInt).toNat by omega) H locs wt ls hT hW hP hD hS (lv_sub hl [0, 1, 2] rfl)
set_option maxHeartbeats 4000000 in
set_option maxRecDepth 100000 in
theorem d_m_firstOf (l : Launch) (G : gg_T) (Γ : Nat → Nat) (sz : Nat) (wt : va_W) (hT : tk_ty G Γ wt) (a : Int32) (m0 : Nat) (am : Nat → Nat) (v1 : Int32) (v2 : Int32) (v8 : Int32) (v9 : Int32) (v10 : Int32) (v11 : Int32) (v12 : Int32) (v13 : Int32) (v14 : Int32) (v16 : Int32) (v18 : Int32) (v21 : Int32) (v22 : Int32) (v23 : Int32) (v24 : Int32) (v25 : Int32) (v27 : Int32) (v32 : Int64) (lo_a : 1 ≤ a.toInt) (hi_a : a.toInt ≤ 31) (k17 : Γ (am 17) = 32) (k19 : Γ (am 19) = 30) (k30 : Γ (am 30) = 28) (k31 : Γ (am 31) = 28) (lo_v1 : 0 ≤ v1.toInt) (hi_v1 : v1.toInt ≤ 400) (lo_v2 : 0 ≤ v2.toInt) (hi_v2 : v2.toInt ≤ 6) (lo_v8 : 0 ≤ v8.toInt) (hi_v8 : v8.toInt ≤ 400) (lo_v11 : 0 ≤ v11.toInt) (hi_v11 : v11.toInt ≤ 6) (lo_v12 : 0 ≤ v12.toInt) (hi_v12 : v12.toInt ≤ 60) (lo_v16 : 0 ≤ v16.toInt) (hi_v16 : v16.toInt ≤ 400) (lo_v21 : -1 ≤ v21.toInt) (hi_v21 : v21.toInt ≤ 5) (lo_v23 : 0 ≤ v23.toInt) (hi_v23 : v23.toInt ≤ 31) (lo_v27 : 0 ≤ v27.toInt) (hi_v27 : v27.toInt ≤ 20) (xfr : v21.toInt < v2.toInt) : Met l yX12_firstOf (ts_L yX12_firstOf cX12_firstOf 3 (some .int)) ({ frames := 1, cells := 0, slots := 0, locals := 21 }) (gc_P G ([(m0, .inr (12, [.ref (am 0), .int v1, .int v2, .ref (am 3), .ref (am 4), .ref (am 5), .ref (am 6), .ref (am 7), .int v8, .int v9, .int v10, .int v11, .int v12, .int v13, .int v14, .ref (am 15), .int v16, .ref (am 17), .int v18, .ref (am 19), .ref (am 20), .int v21, .int v22, .int v23, .int v24, .int v25, .ref (am 26), .int v27, .ref (am 28), .ref (am 29), .ref (am 30), .ref (am 31), .long v32, .ref (am 33), .ref (am 34), .ref (am 35), .ref (am 36)]))] ++ wt) sz [.ref m0, .int a]) (gc_I G (va_A ([(m0, .inr (12, [.ref (am 0), .int v1, .int v2, .ref (am 3), .ref (am 4), .ref (am 5), .ref (am 6), .ref (am 7), .int v8, .int v9, .int v10, .int v11, .int v12, .int v13, .int v14, .ref (am 15), .int v16, .ref (am 17), .int v18, .ref (am 19), .ref (am 20), .int v21, .int v22, .int v23, .int v24, .int v25, .ref (am 26), .int v27, .ref (am 28), .ref (am 29), .ref (am 30), .ref (am 31), .long v32, .ref (am 33), .ref (am 34), .ref (am 35), .ref (am 36)]))] ++ wt) sz) (fun r (u : va_W) => match u with | wt1 => tk_ty G Γ wt1 ∧ tk_kp [] wt wt1 ∧ 0 ≤ r.toInt ∧ r.toInt ≤ 4) (fun (u : va_W) => match u with | wt1 => [(m0, .inr (12, [.ref (am 0), .int v1, .int v2, .ref (am 3), .ref (am 4), .ref (am 5), .ref (am 6), .ref (am 7), .int v8, .int v9, .int v10, .int v11, .int v12, .int v13, .int v14, .ref (am 15), .int v16, .ref (am 17), .int v18, .ref (am 19), .ref (am 20), .int v21, .int v22, .int v23, .int v24, .int v25, .ref (am 26), .int v27, .ref (am 28), .ref (am 29), .ref (am 30), .ref (am 31), .long v32, .ref (am 33), .ref (am 34), .ref (am 35), .ref (am 36)]))] ++ wt1)) 0 0 (va_A ([(m0, .inr (12, [.ref (am 0), .int v1, .int v2, .ref (am 3), .ref (am 4), .ref (am 5), .ref (am 6), .ref (am 7), .int v8, .int v9, .int v10, .int v11, .int v12, .int v13, .int v14, .ref (am 15), .int v16, .ref (am 17), .int v18, .ref (am 19), .ref (am 20), .int v21, .int v22, .int v23, .int v24, .int v25, .ref (am 26), .int v27, .ref (am 28), .ref (am 29), .ref (am 30), .ref (am 31), .long v32, .ref (am 33), .ref (am 34), .ref (am 35), .ref (am 36)]))] ++ wt) sz) := by
  refine Met.ofW (cc := cX12_firstOf) (maxL := 3) (ret := (some .int)) (by decide) rfl ?_
  intro p e s m args below meth c s₁ B hml hv
  obtain ⟨rfl, hsz, hP, hK, hD0⟩ := hv
  have hx := B.exec
  have hb := B.bytes
  have hr := B.returns
  have ht := ts_ht (atoms_spec (ws := ts_L yX12_firstOf cX12_firstOf 3 (some .int)) B.pre)
  have hown : s.vm.findClass RX12 = some m.cls := findClass_of_methodNamed B.named
  have hlocks := B.notSynchronized
  subst hsz
  have hD := hD0.self (sz := s.heap.size)
  generalize hAe : va_A ([(m0, .inr (12, [.ref (am 0), .int v1, .int v2, .ref (am 3), .ref (am 4), .ref (am 5), .ref (am 6), .ref (am 7), .int v8, .int v9, .int v10, .int v11, .int v12, .int v13, .int v14, .ref (am 15), .int v16, .ref (am 17), .int v18, .ref (am 19), .ref (am 20), .int v21, .int v22, .int v23, .int v24, .int v25, .ref (am 26), .int v27, .ref (am 28), .ref (am 29), .ref (am 30), .ref (am 31), .long v32, .ref (am 33), .ref (am 34), .ref (am 35), .ref (am 36)]))] ++ wt) s.heap.size = A at hD ⊢
  have hA : ∀ q : Nat, s.heap.size ≤ q → A q := fun q h => by rw [← hAe]; exact Or.inr h
  clear hAe hD0
  have hS : va_S A s.heap s.heap [] := va_S.rf
  obtain ⟨w0, hw0⟩ : ∃ z, z = wt := ⟨_, rfl⟩
  have hW : tk_kp [] w0 wt := by rw [hw0]; exact tk_kp.rf
  rw [← hw0]
  clear hw0
  have hP : va_P (gg_D G) classes ([(m0, .inr (12, [.ref (am 0), .int v1, .int v2, .ref (am 3), .ref (am 4), .ref (am 5), .ref (am 6), .ref (am 7), .int v8, .int v9, .int v10, .int v11, .int v12, .int v13, .int v14, .ref (am 15), .int v16, .ref (am 17), .int v18, .ref (am 19), .ref (am 20), .int v21, .int v22, .int v23, .int v24, .int v25, .ref (am 26), .int v27, .ref (am 28), .ref (am 29), .ref (am 30), .ref (am 31), .long v32, .ref (am 33), .ref (am 34), .ref (am 35), .ref (am 36)]))] ++ wt) s.heap := hP
  have hD : va_D A ([(m0, .inr (12, [.ref (am 0), .int v1, .int v2, .ref (am 3), .ref (am 4), .ref (am 5), .ref (am 6), .ref (am 7), .int v8, .int v9, .int v10, .int v11, .int v12, .int v13, .int v14, .ref (am 15), .int v16, .ref (am 17), .int v18, .ref (am 19), .ref (am 20), .int v21, .int v22, .int v23, .int v24, .int v25, .ref (am 26), .int v27, .ref (am 28), .ref (am 29), .ref (am 30), .ref (am 31), .long v32, .ref (am 33), .ref (am 34), .ref (am 35), .ref (am 36)]))] ++ wt) := hD
  have hl := lv_entry ([.ref m0, .int a]) (n := 3) (Nat.le_of_ble_eq_true rfl)
  rw [lg_entry_eq]
  generalize (lg_sl ([.ref m0, .int a]) ++ List.replicate (3 - (lg_sl ([.ref m0, .int a])).length) Slot.unset).toArray = ls at hl ⊢
  have hl : lv_has ls 3 [(0, .ref m0), (1, .int a)] := hl
  have l0 : (0 : Int32).toInt = 0 := by decide +kernel
  have l1 : (1 : Int32).toInt = 1 := by decide +kernel
  refine lv_iconst (v := 0) hx hb dX12_firstOf_0 (by decide +kernel) ?_
  refine lv_istore_n (lv' := [(2, .int 0), (0, .ref m0), (1, .int a)]) hx hb dX12_firstOf_1 rfl hl (by decide) rfl (fun ls hl => ?_)
  have hnb : ∀ j : Nat, (j : Int) < (0 : Int32).toInt → ¬ tb a j := fun j hj => by omega
  refine tl_loopE (Γ := Γ) (nL := 3) (fun (zz_ : Int32) => match zz_ with | x2_0 => (0 ≤ x2_0.toInt) ∧ (x2_0.toInt ≤ 5) ∧ (∀ j : Nat, (j : Int) < x2_0.toInt → ¬ tb a j)) (fun (zz_ : Int32) => match zz_ with | x2_0 => (5 - x2_0.toInt).toNat) (fun (zz_ : Int32) => match zz_ with | x2_0 => [(2, .int x2_0), (0, .ref m0), (1, .int a)]) (fun (zz_ : Int32) => match zz_ with | x2_0 => [(m0, .inr (12, [.ref (am 0), .int v1, .int v2, .ref (am 3), .ref (am 4), .ref (am 5), .ref (am 6), .ref (am 7), .int v8, .int v9, .int v10, .int v11, .int v12, .int v13, .int v14, .ref (am 15), .int v16, .ref (am 17), .int v18, .ref (am 19), .ref (am 20), .int v21, .int v22, .int v23, .int v24, .int v25, .ref (am 26), .int v27, .ref (am 28), .ref (am 29), .ref (am 30), .ref (am 31), .long v32, .ref (am 33), .ref (am 34), .ref (am 35), .ref (am 36)]))]) (fun (zz_ : Int32) (w : va_W) => match zz_ with | x2_0 => tk_kp [] w0 w) (fun zz_ hI H locs wt ls hT hW hP hD hS hl ih2 => ?_) 0 (show (0 ≤ (0 : Int32).toInt) ∧ ((0 : Int32).toInt ≤ 5) ∧ (∀ j : Nat, (j : Int) < (0 : Int32).toInt → ¬ tb a j) from ⟨by omega, by omega, hnb⟩) _ _ wt ls hT hW hP hD hS hl
  obtain ⟨x2_0, rfl⟩ : ∃ z2, z2 = zz_ := ⟨_, rfl⟩
  have hW : tk_kp [] w0 wt := hW
  have hI : (0 ≤ x2_0.toInt) ∧ (x2_0.toInt ≤ 5) ∧ (∀ j : Nat, (j : Int) < x2_0.toInt → ¬ tb a j) := hI
  obtain ⟨j2_0, j2_1, hnb⟩ := hI
  have hl : lv_has ls 3 [(2, .int x2_0), (0, .ref m0), (1, .int a)] := hl
  have hP : va_P (gg_D G) classes ([(m0, .inr (12, [.ref (am 0), .int v1, .int v2, .ref (am 3), .ref (am 4), .ref (am 5), .ref (am 6), .ref (am 7), .int v8, .int v9, .int v10, .int v11, .int v12, .int v13, .int v14, .ref (am 15), .int v16, .ref (am 17), .int v18, .ref (am 19), .ref (am 20), .int v21, .int v22, .int v23, .int v24, .int v25, .ref (am 26), .int v27, .ref (am 28), .ref (am 29), .ref (am 30), .ref (am 31), .long v32, .ref (am 33), .ref (am 34), .ref (am 35), .ref (am 36)]))] ++ wt) H := hP
  have hD : va_D A ([(m0, .inr (12, [.ref (am 0), .int v1, .int v2, .ref (am 3), .ref (am 4), .ref (am 5), .ref (am 6), .ref (am 7), .int v8, .int v9, .int v10, .int v11, .int v12, .int v13, .int v14, .ref (am 15), .int v16, .ref (am 17), .int v18, .ref (am 19), .ref (am 20), .int v21, .int v22, .int v23, .int v24, .int v25, .ref (am 26), .int v27, .ref (am 28), .ref (am 29), .ref (am 30), .ref (am 31), .long v32, .ref (am 33), .ref (am 34), .ref (am 35), .ref (am 36)]))] ++ wt) := hD
  have hb4 := first_le (by omega) (by omega) (by omega) hnb
  refine lv_iload_n hx hb dX12_firstOf_2 rfl (lv_at hl 2 rfl) ?_
  refine lv_iload_n hx hb dX12_firstOf_3 rfl (lv_at hl 0 rfl) ?_
  refine gt_callI (wr := [(m0, .inr (12, [.ref (am 0), .int v1, .int v2, .ref (am 3), .ref (am 4), .ref (am 5), .ref (am 6), .ref (am 7), .int v8, .int v9, .int v10, .int v11, .int v12, .int v13, .int v14, .ref (am 15), .int v16, .ref (am 17), .int v18, .ref (am 19), .ref (am 20), .int v21, .int v22, .int v23, .int v24, .int v25, .ref (am 26), .int v27, .ref (am 28), .ref (am 29), .ref (am 30), .ref (am 31), .long v32, .ref (am 33), .ref (am 34), .ref (am 35), .ref (am 36)]))]) (va_runS (As := [.int a, .int x2_0]) (rest := []) ⟨hx, hb, hml, hown, ht⟩ (d_m_isOf l G Γ H.size wt hT a x2_0 (by omega) (by omega) (by omega) (by omega)) (va_cwS 2 ht (ts_gS wd_1635 wd_1636 wd_134 wd_1637) rfl rfl rfl (by decide +kernel) ⟨Nat.le_of_ble_eq_true rfl, Nat.le_of_ble_eq_true rfl⟩) (gc_preS hK (tw_right hP) (tw_rightD hD)) rfl rfl hl.1 rfl (lv_room (Nat.le_of_ble_eq_true rfl)) dX12_firstOf_4 ⟨Nat.le_of_ble_eq_true rfl, Nat.le_of_ble_eq_true rfl⟩) hP hD hS hA (fun r_1 wt H locs hw hP hD hS => ?_)
  obtain ⟨hT, hkp, lo_r_1, hi_r_1, rp_r_1⟩ := hw
  have hW := hW.call (show ∀ x ∈ [], x ∈ [] by decide) hkp
  have hP : va_P (gg_D G) classes ([(m0, .inr (12, [.ref (am 0), .int v1, .int v2, .ref (am 3), .ref (am 4), .ref (am 5), .ref (am 6), .ref (am 7), .int v8, .int v9, .int v10, .int v11, .int v12, .int v13, .int v14, .ref (am 15), .int v16, .ref (am 17), .int v18, .ref (am 19), .ref (am 20), .int v21, .int v22, .int v23, .int v24, .int v25, .ref (am 26), .int v27, .ref (am 28), .ref (am 29), .ref (am 30), .ref (am 31), .long v32, .ref (am 33), .ref (am 34), .ref (am 35), .ref (am 36)]))] ++ wt) H := hP
  have hD : va_D A ([(m0, .inr (12, [.ref (am 0), .int v1, .int v2, .ref (am 3), .ref (am 4), .ref (am 5), .ref (am 6), .ref (am 7), .int v8, .int v9, .int v10, .int v11, .int v12, .int v13, .int v14, .ref (am 15), .int v16, .ref (am 17), .int v18, .ref (am 19), .ref (am 20), .int v21, .int v22, .int v23, .int v24, .int v25, .ref (am 26), .int v27, .ref (am 28), .ref (am 29), .ref (am 30), .ref (am 31), .long v32, .ref (am 33), .ref (am 34), .ref (am 35), .ref (am 36)]))] ++ wt) := hD
  refine lv_if_ne (tgt := 16) hx hb dX12_firstOf_7 (by decide) (fun c_2 => ?_) (fun c_2 => ?_)
  · rw [← Int32.toInt_inj] at c_2
    refine lv_iload_n hx hb dX12_firstOf_16 rfl (lv_at hl 0 rfl) ?_
    have hP9 : va_P (gg_D G) classes ([(m0, .inr (12, [.ref (am 0), .int v1, .int v2, .ref (am 3), .ref (am 4), .ref (am 5), .ref (am 6), .ref (am 7), .int v8, .int v9, .int v10, .int v11, .int v12, .int v13, .int v14, .ref (am 15), .int v16, .ref (am 17), .int v18, .ref (am 19), .ref (am 20), .int v21, .int v22, .int v23, .int v24, .int v25, .ref (am 26), .int v27, .ref (am 28), .ref (am 29), .ref (am 30), .ref (am 31), .long v32, .ref (am 33), .ref (am 34), .ref (am 35), .ref (am 36)]))] ++ wt) _ := hP
    have hD9 : va_D A ([(m0, .inr (12, [.ref (am 0), .int v1, .int v2, .ref (am 3), .ref (am 4), .ref (am 5), .ref (am 6), .ref (am 7), .int v8, .int v9, .int v10, .int v11, .int v12, .int v13, .int v14, .ref (am 15), .int v16, .ref (am 17), .int v18, .ref (am 19), .ref (am 20), .int v21, .int v22, .int v23, .int v24, .int v25, .ref (am 26), .int v27, .ref (am 28), .ref (am 29), .ref (am 30), .ref (am 31), .long v32, .ref (am 33), .ref (am 34), .ref (am 35), .ref (am 36)]))] ++ wt) := hD
    exact W.iret (v := x2_0) hx hb hr (gq_endI wt ⟨hT, hW, (by omega), (by omega)⟩ hP9 hD9 hS) hS.2.2 dX12_firstOf_17
  · rw [← Int32.toInt_inj] at c_2
    obtain ⟨t_3, et_3⟩ : ∃ zz_ : Int32, x2_0 + Int32.ofInt (1) = zz_ := ⟨_, rfl⟩
    have ft_3 : t_3.toInt = x2_0.toInt + (1 : Int32).toInt := ia_add (y := 1) et_3 (by omega) (by omega)
    refine lv_iinc (v := t_3) (lv' := [(2, .int t_3), (0, .ref m0), (1, .int a)]) hx hb dX12_firstOf_10 hl (k := 0) rfl et_3 (by decide) rfl (fun ls hl => ?_)
    have ft_3_ : t_3.toInt = x2_0.toInt + 1 := by omega
    have hnt : ¬ tb a x2_0.toInt.toNat := fun h => by have := rp_r_1.mpr h; omega
    have hnb := first_in hnb hnt ft_3_ (by omega)
    refine lv_goto (tgt := 2) hx hb dX12_firstOf_13 (by decide) ?_
    exact ih2 t_3 (show (0 ≤ t_3.toInt) ∧ (t_3.toInt ≤ 5) ∧ (∀ j : Nat, (j : Int) < t_3.toInt → ¬ tb a j) from ⟨by omega, by omega, hnb⟩) (show (5 - t_3.toInt).toNat < (5 - x2_0.toInt).toNat by omega) H locs wt ls hT hW hP hD hS (lv_sub hl [0, 1, 2] rfl)
set_option maxHeartbeats 4000000 in
set_option maxRecDepth 100000 in
theorem d_m_bid0 (l : Launch) (G : gg_T) (Γ : Nat → Nat) (sz : Nat) (wt : va_W) (hT : tk_ty G Γ wt) (b : Int32) (m0 : Nat) (am : Nat → Nat) (v1 : Int32) (v2 : Int32) (v8 : Int32) (v9 : Int32) (v10 : Int32) (v11 : Int32) (v12 : Int32) (v13 : Int32) (v14 : Int32) (v16 : Int32) (v18 : Int32) (v21 : Int32) (v22 : Int32) (v23 : Int32) (v24 : Int32) (v25 : Int32) (v27 : Int32) (v32 : Int64) (sd : Nat → Int32) (lo_b : 0 ≤ b.toInt) (hi_b : b.toInt ≤ 4) (k17 : Γ (am 17) = 32) (k19 : Γ (am 19) = 30) (k30 : Γ (am 30) = 28) (k31 : Γ (am 31) = 28) (lo_v1 : 0 ≤ v1.toInt) (hi_v1 : v1.toInt ≤ 400) (lo_v2 : 0 ≤ v2.toInt) (hi_v2 : v2.toInt ≤ 6) (lo_v8 : 0 ≤ v8.toInt) (hi_v8 : v8.toInt ≤ 400) (lo_v11 : 0 ≤ v11.toInt) (hi_v11 : v11.toInt ≤ 6) (lo_v12 : 0 ≤ v12.toInt) (hi_v12 : v12.toInt ≤ 60) (lo_v16 : 0 ≤ v16.toInt) (hi_v16 : v16.toInt ≤ 400) (lo_v21 : -1 ≤ v21.toInt) (hi_v21 : v21.toInt ≤ 5) (lo_v23 : 0 ≤ v23.toInt) (hi_v23 : v23.toInt ≤ 31) (lo_v27 : 0 ≤ v27.toInt) (hi_v27 : v27.toInt ≤ 20) (xfr : v21.toInt < v2.toInt) : Met l yX12_bidderOf (ts_L yX12_bidderOf cX12_bidderOf 3 (some .int)) ({ frames := 0, cells := 0, slots := 0, locals := 0 }) (gc_P G ([((am 20), .inl (G.2.2 0, 110, .inl sd)), (m0, .inr (12, [.ref (am 0), .int v1, .int v2, .ref (am 3), .ref (am 4), .ref (am 5), .ref (am 6), .ref (am 7), .int v8, .int v9, .int v10, .int v11, .int v12, .int v13, .int v14, .ref (am 15), .int v16, .ref (am 17), .int v18, .ref (am 19), .ref (am 20), .int v21, .int v22, .int v23, .int v24, .int v25, .ref (am 26), .int v27, .ref (am 28), .ref (am 29), .ref (am 30), .ref (am 31), .long v32, .ref (am 33), .ref (am 34), .ref (am 35), .ref (am 36)]))] ++ wt) sz [.ref m0, .int b, .int 0]) (gc_I G (va_A ([((am 20), .inl (G.2.2 0, 110, .inl sd)), (m0, .inr (12, [.ref (am 0), .int v1, .int v2, .ref (am 3), .ref (am 4), .ref (am 5), .ref (am 6), .ref (am 7), .int v8, .int v9, .int v10, .int v11, .int v12, .int v13, .int v14, .ref (am 15), .int v16, .ref (am 17), .int v18, .ref (am 19), .ref (am 20), .int v21, .int v22, .int v23, .int v24, .int v25, .ref (am 26), .int v27, .ref (am 28), .ref (am 29), .ref (am 30), .ref (am 31), .long v32, .ref (am 33), .ref (am 34), .ref (am 35), .ref (am 36)]))] ++ wt) sz) (fun r (u : va_W) => match u with | wt1 => tk_ty G Γ wt1 ∧ tk_kp [] wt wt1 ∧ ((sd (11 + 5 * b.toInt.toNat)).toInt = r.toInt)) (fun (u : va_W) => match u with | wt1 => [((am 20), .inl (G.2.2 0, 110, .inl sd)), (m0, .inr (12, [.ref (am 0), .int v1, .int v2, .ref (am 3), .ref (am 4), .ref (am 5), .ref (am 6), .ref (am 7), .int v8, .int v9, .int v10, .int v11, .int v12, .int v13, .int v14, .ref (am 15), .int v16, .ref (am 17), .int v18, .ref (am 19), .ref (am 20), .int v21, .int v22, .int v23, .int v24, .int v25, .ref (am 26), .int v27, .ref (am 28), .ref (am 29), .ref (am 30), .ref (am 31), .long v32, .ref (am 33), .ref (am 34), .ref (am 35), .ref (am 36)]))] ++ wt1)) 0 0 (va_A ([((am 20), .inl (G.2.2 0, 110, .inl sd)), (m0, .inr (12, [.ref (am 0), .int v1, .int v2, .ref (am 3), .ref (am 4), .ref (am 5), .ref (am 6), .ref (am 7), .int v8, .int v9, .int v10, .int v11, .int v12, .int v13, .int v14, .ref (am 15), .int v16, .ref (am 17), .int v18, .ref (am 19), .ref (am 20), .int v21, .int v22, .int v23, .int v24, .int v25, .ref (am 26), .int v27, .ref (am 28), .ref (am 29), .ref (am 30), .ref (am 31), .long v32, .ref (am 33), .ref (am 34), .ref (am 35), .ref (am 36)]))] ++ wt) sz) := by
  refine Met.ofW (cc := cX12_bidderOf) (maxL := 3) (ret := (some .int)) (by decide) rfl ?_
  intro p e s m args below meth c s₁ B hml hv
  obtain ⟨rfl, hsz, hP, hK, hD0⟩ := hv
  have hx := B.exec
  have hb := B.bytes
  have hr := B.returns
  have ht := ts_ht (atoms_spec (ws := ts_L yX12_bidderOf cX12_bidderOf 3 (some .int)) B.pre)
  have hown : s.vm.findClass RX12 = some m.cls := findClass_of_methodNamed B.named
  have hlocks := B.notSynchronized
  subst hsz
  have hD := hD0.self (sz := s.heap.size)
  generalize hAe : va_A ([((am 20), .inl (G.2.2 0, 110, .inl sd)), (m0, .inr (12, [.ref (am 0), .int v1, .int v2, .ref (am 3), .ref (am 4), .ref (am 5), .ref (am 6), .ref (am 7), .int v8, .int v9, .int v10, .int v11, .int v12, .int v13, .int v14, .ref (am 15), .int v16, .ref (am 17), .int v18, .ref (am 19), .ref (am 20), .int v21, .int v22, .int v23, .int v24, .int v25, .ref (am 26), .int v27, .ref (am 28), .ref (am 29), .ref (am 30), .ref (am 31), .long v32, .ref (am 33), .ref (am 34), .ref (am 35), .ref (am 36)]))] ++ wt) s.heap.size = A at hD ⊢
  have hA : ∀ q : Nat, s.heap.size ≤ q → A q := fun q h => by rw [← hAe]; exact Or.inr h
  clear hAe hD0
  have hS : va_S A s.heap s.heap [] := va_S.rf
  obtain ⟨w0, hw0⟩ : ∃ z, z = wt := ⟨_, rfl⟩
  have hW : tk_kp [] w0 wt := by rw [hw0]; exact tk_kp.rf
  rw [← hw0]
  clear hw0
  have hP : va_P (gg_D G) classes ([((am 20), .inl (G.2.2 0, 110, .inl sd)), (m0, .inr (12, [.ref (am 0), .int v1, .int v2, .ref (am 3), .ref (am 4), .ref (am 5), .ref (am 6), .ref (am 7), .int v8, .int v9, .int v10, .int v11, .int v12, .int v13, .int v14, .ref (am 15), .int v16, .ref (am 17), .int v18, .ref (am 19), .ref (am 20), .int v21, .int v22, .int v23, .int v24, .int v25, .ref (am 26), .int v27, .ref (am 28), .ref (am 29), .ref (am 30), .ref (am 31), .long v32, .ref (am 33), .ref (am 34), .ref (am 35), .ref (am 36)]))] ++ wt) s.heap := hP
  have hD : va_D A ([((am 20), .inl (G.2.2 0, 110, .inl sd)), (m0, .inr (12, [.ref (am 0), .int v1, .int v2, .ref (am 3), .ref (am 4), .ref (am 5), .ref (am 6), .ref (am 7), .int v8, .int v9, .int v10, .int v11, .int v12, .int v13, .int v14, .ref (am 15), .int v16, .ref (am 17), .int v18, .ref (am 19), .ref (am 20), .int v21, .int v22, .int v23, .int v24, .int v25, .ref (am 26), .int v27, .ref (am 28), .ref (am 29), .ref (am 30), .ref (am 31), .long v32, .ref (am 33), .ref (am 34), .ref (am 35), .ref (am 36)]))] ++ wt) := hD
  have hl := lv_entry ([.ref m0, .int b, .int 0]) (n := 3) (Nat.le_of_ble_eq_true rfl)
  rw [lg_entry_eq]
  generalize (lg_sl ([.ref m0, .int b, .int 0]) ++ List.replicate (3 - (lg_sl ([.ref m0, .int b, .int 0])).length) Slot.unset).toArray = ls at hl ⊢
  have hl : lv_has ls 3 [(0, .ref m0), (1, .int b), (2, .int 0)] := hl
  have l0 : (0 : Int32).toInt = 0 := by decide +kernel
  have l5 : (5 : Int32).toInt = 5 := by decide +kernel
  have l11 : (11 : Int32).toInt = 11 := by decide +kernel
  refine lv_aload_n hx hb dX12_bidderOf_0 rfl (lv_at hl 0 rfl) ?_
  refine gq_get hx hb ht hown hK hP i_X12 1 rfl rfl 20 (by decide) wd_1272 rfl rfl dX12_bidderOf_1 ?_
  refine lv_bipush (v := 11) hx hb dX12_bidderOf_4 (by decide +kernel) ?_
  refine lv_iconst (v := 5) hx hb dX12_bidderOf_6 (by decide +kernel) ?_
  refine lv_iload_n hx hb dX12_bidderOf_7 rfl (lv_at hl 1 rfl) ?_
  obtain ⟨t_1, et_1⟩ : ∃ zz_ : Int32, 5 * b = zz_ := ⟨_, rfl⟩
  refine gq_imul hx hb t_1 et_1 dX12_bidderOf_8 ?_
  have ft_1 := ia_mul et_1 (by rw [l5]; omega) (by rw [l5]; omega)
  rw [l5] at ft_1
  obtain ⟨t_2, et_2⟩ : ∃ zz_ : Int32, 11 + t_1 = zz_ := ⟨_, rfl⟩
  refine gq_iadd hx hb t_2 et_2 dX12_bidderOf_9 ?_
  have ft_2 := ia_add et_2 (by omega) (by omega)
  refine lv_iload_n hx hb dX12_bidderOf_10 rfl (lv_at hl 2 rfl) ?_
  obtain ⟨t_3, et_3⟩ : ∃ zz_ : Int32, t_2 + 0 = zz_ := ⟨_, rfl⟩
  refine gq_iadd hx hb t_3 et_3 dX12_bidderOf_11 ?_
  have ft_3 := ia_add et_3 (by omega) (by omega)
  obtain ⟨n_4, en_4⟩ : ∃ zz_ : Int32, sd (Int32.toNatClampNeg t_3) = zz_ := ⟨_, rfl⟩
  refine gq_iald hx hb hK hP 0 rfl n_4 (ia_in (n := 110) (by omega) (by omega)) en_4 dX12_bidderOf_12 ?_
  have En_4 : sd (11 + 5 * b.toInt.toNat) = n_4 := by rw [← show Int32.toNatClampNeg t_3 = 11 + 5 * b.toInt.toNat from ix_n (by omega)]; exact en_4
  have hn_4 : (sd (11 + 5 * b.toInt.toNat)).toInt = n_4.toInt := by rw [En_4]
  have hP9 : va_P (gg_D G) classes ([((am 20), .inl (G.2.2 0, 110, .inl sd)), (m0, .inr (12, [.ref (am 0), .int v1, .int v2, .ref (am 3), .ref (am 4), .ref (am 5), .ref (am 6), .ref (am 7), .int v8, .int v9, .int v10, .int v11, .int v12, .int v13, .int v14, .ref (am 15), .int v16, .ref (am 17), .int v18, .ref (am 19), .ref (am 20), .int v21, .int v22, .int v23, .int v24, .int v25, .ref (am 26), .int v27, .ref (am 28), .ref (am 29), .ref (am 30), .ref (am 31), .long v32, .ref (am 33), .ref (am 34), .ref (am 35), .ref (am 36)]))] ++ wt) _ := hP
  have hD9 : va_D A ([((am 20), .inl (G.2.2 0, 110, .inl sd)), (m0, .inr (12, [.ref (am 0), .int v1, .int v2, .ref (am 3), .ref (am 4), .ref (am 5), .ref (am 6), .ref (am 7), .int v8, .int v9, .int v10, .int v11, .int v12, .int v13, .int v14, .ref (am 15), .int v16, .ref (am 17), .int v18, .ref (am 19), .ref (am 20), .int v21, .int v22, .int v23, .int v24, .int v25, .ref (am 26), .int v27, .ref (am 28), .ref (am 29), .ref (am 30), .ref (am 31), .long v32, .ref (am 33), .ref (am 34), .ref (am 35), .ref (am 36)]))] ++ wt) := hD
  exact W.iret (v := n_4) hx hb hr (gq_endI wt ⟨hT, hW, (by omega)⟩ hP9 hD9 hS) hS.2.2 dX12_bidderOf_13
set_option maxHeartbeats 4000000 in
set_option maxRecDepth 100000 in
theorem d_m_bid1 (l : Launch) (G : gg_T) (Γ : Nat → Nat) (sz : Nat) (wt : va_W) (hT : tk_ty G Γ wt) (b : Int32) (m0 : Nat) (am : Nat → Nat) (v1 : Int32) (v2 : Int32) (v8 : Int32) (v9 : Int32) (v10 : Int32) (v11 : Int32) (v12 : Int32) (v13 : Int32) (v14 : Int32) (v16 : Int32) (v18 : Int32) (v21 : Int32) (v22 : Int32) (v23 : Int32) (v24 : Int32) (v25 : Int32) (v27 : Int32) (v32 : Int64) (sd : Nat → Int32) (lo_b : 0 ≤ b.toInt) (hi_b : b.toInt ≤ 4) (k17 : Γ (am 17) = 32) (k19 : Γ (am 19) = 30) (k30 : Γ (am 30) = 28) (k31 : Γ (am 31) = 28) (lo_v1 : 0 ≤ v1.toInt) (hi_v1 : v1.toInt ≤ 400) (lo_v2 : 0 ≤ v2.toInt) (hi_v2 : v2.toInt ≤ 6) (lo_v8 : 0 ≤ v8.toInt) (hi_v8 : v8.toInt ≤ 400) (lo_v11 : 0 ≤ v11.toInt) (hi_v11 : v11.toInt ≤ 6) (lo_v12 : 0 ≤ v12.toInt) (hi_v12 : v12.toInt ≤ 60) (lo_v16 : 0 ≤ v16.toInt) (hi_v16 : v16.toInt ≤ 400) (lo_v21 : -1 ≤ v21.toInt) (hi_v21 : v21.toInt ≤ 5) (lo_v23 : 0 ≤ v23.toInt) (hi_v23 : v23.toInt ≤ 31) (lo_v27 : 0 ≤ v27.toInt) (hi_v27 : v27.toInt ≤ 20) (xfr : v21.toInt < v2.toInt) : Met l yX12_bidderOf (ts_L yX12_bidderOf cX12_bidderOf 3 (some .int)) ({ frames := 0, cells := 0, slots := 0, locals := 0 }) (gc_P G ([((am 20), .inl (G.2.2 0, 110, .inl sd)), (m0, .inr (12, [.ref (am 0), .int v1, .int v2, .ref (am 3), .ref (am 4), .ref (am 5), .ref (am 6), .ref (am 7), .int v8, .int v9, .int v10, .int v11, .int v12, .int v13, .int v14, .ref (am 15), .int v16, .ref (am 17), .int v18, .ref (am 19), .ref (am 20), .int v21, .int v22, .int v23, .int v24, .int v25, .ref (am 26), .int v27, .ref (am 28), .ref (am 29), .ref (am 30), .ref (am 31), .long v32, .ref (am 33), .ref (am 34), .ref (am 35), .ref (am 36)]))] ++ wt) sz [.ref m0, .int b, .int 1]) (gc_I G (va_A ([((am 20), .inl (G.2.2 0, 110, .inl sd)), (m0, .inr (12, [.ref (am 0), .int v1, .int v2, .ref (am 3), .ref (am 4), .ref (am 5), .ref (am 6), .ref (am 7), .int v8, .int v9, .int v10, .int v11, .int v12, .int v13, .int v14, .ref (am 15), .int v16, .ref (am 17), .int v18, .ref (am 19), .ref (am 20), .int v21, .int v22, .int v23, .int v24, .int v25, .ref (am 26), .int v27, .ref (am 28), .ref (am 29), .ref (am 30), .ref (am 31), .long v32, .ref (am 33), .ref (am 34), .ref (am 35), .ref (am 36)]))] ++ wt) sz) (fun r (u : va_W) => match u with | wt1 => tk_ty G Γ wt1 ∧ tk_kp [] wt wt1 ∧ ((sd (12 + 5 * b.toInt.toNat)).toInt = r.toInt)) (fun (u : va_W) => match u with | wt1 => [((am 20), .inl (G.2.2 0, 110, .inl sd)), (m0, .inr (12, [.ref (am 0), .int v1, .int v2, .ref (am 3), .ref (am 4), .ref (am 5), .ref (am 6), .ref (am 7), .int v8, .int v9, .int v10, .int v11, .int v12, .int v13, .int v14, .ref (am 15), .int v16, .ref (am 17), .int v18, .ref (am 19), .ref (am 20), .int v21, .int v22, .int v23, .int v24, .int v25, .ref (am 26), .int v27, .ref (am 28), .ref (am 29), .ref (am 30), .ref (am 31), .long v32, .ref (am 33), .ref (am 34), .ref (am 35), .ref (am 36)]))] ++ wt1)) 0 0 (va_A ([((am 20), .inl (G.2.2 0, 110, .inl sd)), (m0, .inr (12, [.ref (am 0), .int v1, .int v2, .ref (am 3), .ref (am 4), .ref (am 5), .ref (am 6), .ref (am 7), .int v8, .int v9, .int v10, .int v11, .int v12, .int v13, .int v14, .ref (am 15), .int v16, .ref (am 17), .int v18, .ref (am 19), .ref (am 20), .int v21, .int v22, .int v23, .int v24, .int v25, .ref (am 26), .int v27, .ref (am 28), .ref (am 29), .ref (am 30), .ref (am 31), .long v32, .ref (am 33), .ref (am 34), .ref (am 35), .ref (am 36)]))] ++ wt) sz) := by
  refine Met.ofW (cc := cX12_bidderOf) (maxL := 3) (ret := (some .int)) (by decide) rfl ?_
  intro p e s m args below meth c s₁ B hml hv
  obtain ⟨rfl, hsz, hP, hK, hD0⟩ := hv
  have hx := B.exec
  have hb := B.bytes
  have hr := B.returns
  have ht := ts_ht (atoms_spec (ws := ts_L yX12_bidderOf cX12_bidderOf 3 (some .int)) B.pre)
  have hown : s.vm.findClass RX12 = some m.cls := findClass_of_methodNamed B.named
  have hlocks := B.notSynchronized
  subst hsz
  have hD := hD0.self (sz := s.heap.size)
  generalize hAe : va_A ([((am 20), .inl (G.2.2 0, 110, .inl sd)), (m0, .inr (12, [.ref (am 0), .int v1, .int v2, .ref (am 3), .ref (am 4), .ref (am 5), .ref (am 6), .ref (am 7), .int v8, .int v9, .int v10, .int v11, .int v12, .int v13, .int v14, .ref (am 15), .int v16, .ref (am 17), .int v18, .ref (am 19), .ref (am 20), .int v21, .int v22, .int v23, .int v24, .int v25, .ref (am 26), .int v27, .ref (am 28), .ref (am 29), .ref (am 30), .ref (am 31), .long v32, .ref (am 33), .ref (am 34), .ref (am 35), .ref (am 36)]))] ++ wt) s.heap.size = A at hD ⊢
  have hA : ∀ q : Nat, s.heap.size ≤ q → A q := fun q h => by rw [← hAe]; exact Or.inr h
  clear hAe hD0
  have hS : va_S A s.heap s.heap [] := va_S.rf
  obtain ⟨w0, hw0⟩ : ∃ z, z = wt := ⟨_, rfl⟩
  have hW : tk_kp [] w0 wt := by rw [hw0]; exact tk_kp.rf
  rw [← hw0]
  clear hw0
  have hP : va_P (gg_D G) classes ([((am 20), .inl (G.2.2 0, 110, .inl sd)), (m0, .inr (12, [.ref (am 0), .int v1, .int v2, .ref (am 3), .ref (am 4), .ref (am 5), .ref (am 6), .ref (am 7), .int v8, .int v9, .int v10, .int v11, .int v12, .int v13, .int v14, .ref (am 15), .int v16, .ref (am 17), .int v18, .ref (am 19), .ref (am 20), .int v21, .int v22, .int v23, .int v24, .int v25, .ref (am 26), .int v27, .ref (am 28), .ref (am 29), .ref (am 30), .ref (am 31), .long v32, .ref (am 33), .ref (am 34), .ref (am 35), .ref (am 36)]))] ++ wt) s.heap := hP
  have hD : va_D A ([((am 20), .inl (G.2.2 0, 110, .inl sd)), (m0, .inr (12, [.ref (am 0), .int v1, .int v2, .ref (am 3), .ref (am 4), .ref (am 5), .ref (am 6), .ref (am 7), .int v8, .int v9, .int v10, .int v11, .int v12, .int v13, .int v14, .ref (am 15), .int v16, .ref (am 17), .int v18, .ref (am 19), .ref (am 20), .int v21, .int v22, .int v23, .int v24, .int v25, .ref (am 26), .int v27, .ref (am 28), .ref (am 29), .ref (am 30), .ref (am 31), .long v32, .ref (am 33), .ref (am 34), .ref (am 35), .ref (am 36)]))] ++ wt) := hD
  have hl := lv_entry ([.ref m0, .int b, .int 1]) (n := 3) (Nat.le_of_ble_eq_true rfl)
  rw [lg_entry_eq]
  generalize (lg_sl ([.ref m0, .int b, .int 1]) ++ List.replicate (3 - (lg_sl ([.ref m0, .int b, .int 1])).length) Slot.unset).toArray = ls at hl ⊢
  have hl : lv_has ls 3 [(0, .ref m0), (1, .int b), (2, .int 1)] := hl
  have l1 : (1 : Int32).toInt = 1 := by decide +kernel
  have l5 : (5 : Int32).toInt = 5 := by decide +kernel
  have l11 : (11 : Int32).toInt = 11 := by decide +kernel
  refine lv_aload_n hx hb dX12_bidderOf_0 rfl (lv_at hl 0 rfl) ?_
  refine gq_get hx hb ht hown hK hP i_X12 1 rfl rfl 20 (by decide) wd_1272 rfl rfl dX12_bidderOf_1 ?_
  refine lv_bipush (v := 11) hx hb dX12_bidderOf_4 (by decide +kernel) ?_
  refine lv_iconst (v := 5) hx hb dX12_bidderOf_6 (by decide +kernel) ?_
  refine lv_iload_n hx hb dX12_bidderOf_7 rfl (lv_at hl 1 rfl) ?_
  obtain ⟨t_1, et_1⟩ : ∃ zz_ : Int32, 5 * b = zz_ := ⟨_, rfl⟩
  refine gq_imul hx hb t_1 et_1 dX12_bidderOf_8 ?_
  have ft_1 := ia_mul et_1 (by rw [l5]; omega) (by rw [l5]; omega)
  rw [l5] at ft_1
  obtain ⟨t_2, et_2⟩ : ∃ zz_ : Int32, 11 + t_1 = zz_ := ⟨_, rfl⟩
  refine gq_iadd hx hb t_2 et_2 dX12_bidderOf_9 ?_
  have ft_2 := ia_add et_2 (by omega) (by omega)
  refine lv_iload_n hx hb dX12_bidderOf_10 rfl (lv_at hl 2 rfl) ?_
  obtain ⟨t_3, et_3⟩ : ∃ zz_ : Int32, t_2 + 1 = zz_ := ⟨_, rfl⟩
  refine gq_iadd hx hb t_3 et_3 dX12_bidderOf_11 ?_
  have ft_3 := ia_add et_3 (by omega) (by omega)
  obtain ⟨n_4, en_4⟩ : ∃ zz_ : Int32, sd (Int32.toNatClampNeg t_3) = zz_ := ⟨_, rfl⟩
  refine gq_iald hx hb hK hP 0 rfl n_4 (ia_in (n := 110) (by omega) (by omega)) en_4 dX12_bidderOf_12 ?_
  have En_4 : sd (12 + 5 * b.toInt.toNat) = n_4 := by rw [← show Int32.toNatClampNeg t_3 = 12 + 5 * b.toInt.toNat from ix_n (by omega)]; exact en_4
  have hn_4 : (sd (12 + 5 * b.toInt.toNat)).toInt = n_4.toInt := by rw [En_4]
  have hP9 : va_P (gg_D G) classes ([((am 20), .inl (G.2.2 0, 110, .inl sd)), (m0, .inr (12, [.ref (am 0), .int v1, .int v2, .ref (am 3), .ref (am 4), .ref (am 5), .ref (am 6), .ref (am 7), .int v8, .int v9, .int v10, .int v11, .int v12, .int v13, .int v14, .ref (am 15), .int v16, .ref (am 17), .int v18, .ref (am 19), .ref (am 20), .int v21, .int v22, .int v23, .int v24, .int v25, .ref (am 26), .int v27, .ref (am 28), .ref (am 29), .ref (am 30), .ref (am 31), .long v32, .ref (am 33), .ref (am 34), .ref (am 35), .ref (am 36)]))] ++ wt) _ := hP
  have hD9 : va_D A ([((am 20), .inl (G.2.2 0, 110, .inl sd)), (m0, .inr (12, [.ref (am 0), .int v1, .int v2, .ref (am 3), .ref (am 4), .ref (am 5), .ref (am 6), .ref (am 7), .int v8, .int v9, .int v10, .int v11, .int v12, .int v13, .int v14, .ref (am 15), .int v16, .ref (am 17), .int v18, .ref (am 19), .ref (am 20), .int v21, .int v22, .int v23, .int v24, .int v25, .ref (am 26), .int v27, .ref (am 28), .ref (am 29), .ref (am 30), .ref (am 31), .long v32, .ref (am 33), .ref (am 34), .ref (am 35), .ref (am 36)]))] ++ wt) := hD
  exact W.iret (v := n_4) hx hb hr (gq_endI wt ⟨hT, hW, (by omega)⟩ hP9 hD9 hS) hS.2.2 dX12_bidderOf_13
set_option maxHeartbeats 4000000 in
set_option maxRecDepth 100000 in
theorem d_m_bid2 (l : Launch) (G : gg_T) (Γ : Nat → Nat) (sz : Nat) (wt : va_W) (hT : tk_ty G Γ wt) (b : Int32) (m0 : Nat) (am : Nat → Nat) (v1 : Int32) (v2 : Int32) (v8 : Int32) (v9 : Int32) (v10 : Int32) (v11 : Int32) (v12 : Int32) (v13 : Int32) (v14 : Int32) (v16 : Int32) (v18 : Int32) (v21 : Int32) (v22 : Int32) (v23 : Int32) (v24 : Int32) (v25 : Int32) (v27 : Int32) (v32 : Int64) (sd : Nat → Int32) (lo_b : 0 ≤ b.toInt) (hi_b : b.toInt ≤ 4) (k17 : Γ (am 17) = 32) (k19 : Γ (am 19) = 30) (k30 : Γ (am 30) = 28) (k31 : Γ (am 31) = 28) (lo_v1 : 0 ≤ v1.toInt) (hi_v1 : v1.toInt ≤ 400) (lo_v2 : 0 ≤ v2.toInt) (hi_v2 : v2.toInt ≤ 6) (lo_v8 : 0 ≤ v8.toInt) (hi_v8 : v8.toInt ≤ 400) (lo_v11 : 0 ≤ v11.toInt) (hi_v11 : v11.toInt ≤ 6) (lo_v12 : 0 ≤ v12.toInt) (hi_v12 : v12.toInt ≤ 60) (lo_v16 : 0 ≤ v16.toInt) (hi_v16 : v16.toInt ≤ 400) (lo_v21 : -1 ≤ v21.toInt) (hi_v21 : v21.toInt ≤ 5) (lo_v23 : 0 ≤ v23.toInt) (hi_v23 : v23.toInt ≤ 31) (lo_v27 : 0 ≤ v27.toInt) (hi_v27 : v27.toInt ≤ 20) (xfr : v21.toInt < v2.toInt) (hSD : SD sd) : Met l yX12_bidderOf (ts_L yX12_bidderOf cX12_bidderOf 3 (some .int)) ({ frames := 0, cells := 0, slots := 0, locals := 0 }) (gc_P G ([((am 20), .inl (G.2.2 0, 110, .inl sd)), (m0, .inr (12, [.ref (am 0), .int v1, .int v2, .ref (am 3), .ref (am 4), .ref (am 5), .ref (am 6), .ref (am 7), .int v8, .int v9, .int v10, .int v11, .int v12, .int v13, .int v14, .ref (am 15), .int v16, .ref (am 17), .int v18, .ref (am 19), .ref (am 20), .int v21, .int v22, .int v23, .int v24, .int v25, .ref (am 26), .int v27, .ref (am 28), .ref (am 29), .ref (am 30), .ref (am 31), .long v32, .ref (am 33), .ref (am 34), .ref (am 35), .ref (am 36)]))] ++ wt) sz [.ref m0, .int b, .int 2]) (gc_I G (va_A ([((am 20), .inl (G.2.2 0, 110, .inl sd)), (m0, .inr (12, [.ref (am 0), .int v1, .int v2, .ref (am 3), .ref (am 4), .ref (am 5), .ref (am 6), .ref (am 7), .int v8, .int v9, .int v10, .int v11, .int v12, .int v13, .int v14, .ref (am 15), .int v16, .ref (am 17), .int v18, .ref (am 19), .ref (am 20), .int v21, .int v22, .int v23, .int v24, .int v25, .ref (am 26), .int v27, .ref (am 28), .ref (am 29), .ref (am 30), .ref (am 31), .long v32, .ref (am 33), .ref (am 34), .ref (am 35), .ref (am 36)]))] ++ wt) sz) (fun r (u : va_W) => match u with | wt1 => tk_ty G Γ wt1 ∧ tk_kp [] wt wt1 ∧ -1 ≤ r.toInt ∧ r.toInt ≤ 2 ∧ ((sd (13 + 5 * b.toInt.toNat)).toInt = r.toInt)) (fun (u : va_W) => match u with | wt1 => [((am 20), .inl (G.2.2 0, 110, .inl sd)), (m0, .inr (12, [.ref (am 0), .int v1, .int v2, .ref (am 3), .ref (am 4), .ref (am 5), .ref (am 6), .ref (am 7), .int v8, .int v9, .int v10, .int v11, .int v12, .int v13, .int v14, .ref (am 15), .int v16, .ref (am 17), .int v18, .ref (am 19), .ref (am 20), .int v21, .int v22, .int v23, .int v24, .int v25, .ref (am 26), .int v27, .ref (am 28), .ref (am 29), .ref (am 30), .ref (am 31), .long v32, .ref (am 33), .ref (am 34), .ref (am 35), .ref (am 36)]))] ++ wt1)) 0 0 (va_A ([((am 20), .inl (G.2.2 0, 110, .inl sd)), (m0, .inr (12, [.ref (am 0), .int v1, .int v2, .ref (am 3), .ref (am 4), .ref (am 5), .ref (am 6), .ref (am 7), .int v8, .int v9, .int v10, .int v11, .int v12, .int v13, .int v14, .ref (am 15), .int v16, .ref (am 17), .int v18, .ref (am 19), .ref (am 20), .int v21, .int v22, .int v23, .int v24, .int v25, .ref (am 26), .int v27, .ref (am 28), .ref (am 29), .ref (am 30), .ref (am 31), .long v32, .ref (am 33), .ref (am 34), .ref (am 35), .ref (am 36)]))] ++ wt) sz) := by
  refine Met.ofW (cc := cX12_bidderOf) (maxL := 3) (ret := (some .int)) (by decide) rfl ?_
  intro p e s m args below meth c s₁ B hml hv
  obtain ⟨rfl, hsz, hP, hK, hD0⟩ := hv
  have hx := B.exec
  have hb := B.bytes
  have hr := B.returns
  have ht := ts_ht (atoms_spec (ws := ts_L yX12_bidderOf cX12_bidderOf 3 (some .int)) B.pre)
  have hown : s.vm.findClass RX12 = some m.cls := findClass_of_methodNamed B.named
  have hlocks := B.notSynchronized
  subst hsz
  have hD := hD0.self (sz := s.heap.size)
  generalize hAe : va_A ([((am 20), .inl (G.2.2 0, 110, .inl sd)), (m0, .inr (12, [.ref (am 0), .int v1, .int v2, .ref (am 3), .ref (am 4), .ref (am 5), .ref (am 6), .ref (am 7), .int v8, .int v9, .int v10, .int v11, .int v12, .int v13, .int v14, .ref (am 15), .int v16, .ref (am 17), .int v18, .ref (am 19), .ref (am 20), .int v21, .int v22, .int v23, .int v24, .int v25, .ref (am 26), .int v27, .ref (am 28), .ref (am 29), .ref (am 30), .ref (am 31), .long v32, .ref (am 33), .ref (am 34), .ref (am 35), .ref (am 36)]))] ++ wt) s.heap.size = A at hD ⊢
  have hA : ∀ q : Nat, s.heap.size ≤ q → A q := fun q h => by rw [← hAe]; exact Or.inr h
  clear hAe hD0
  have hS : va_S A s.heap s.heap [] := va_S.rf
  obtain ⟨w0, hw0⟩ : ∃ z, z = wt := ⟨_, rfl⟩
  have hW : tk_kp [] w0 wt := by rw [hw0]; exact tk_kp.rf
  rw [← hw0]
  clear hw0
  have hP : va_P (gg_D G) classes ([((am 20), .inl (G.2.2 0, 110, .inl sd)), (m0, .inr (12, [.ref (am 0), .int v1, .int v2, .ref (am 3), .ref (am 4), .ref (am 5), .ref (am 6), .ref (am 7), .int v8, .int v9, .int v10, .int v11, .int v12, .int v13, .int v14, .ref (am 15), .int v16, .ref (am 17), .int v18, .ref (am 19), .ref (am 20), .int v21, .int v22, .int v23, .int v24, .int v25, .ref (am 26), .int v27, .ref (am 28), .ref (am 29), .ref (am 30), .ref (am 31), .long v32, .ref (am 33), .ref (am 34), .ref (am 35), .ref (am 36)]))] ++ wt) s.heap := hP
  have hD : va_D A ([((am 20), .inl (G.2.2 0, 110, .inl sd)), (m0, .inr (12, [.ref (am 0), .int v1, .int v2, .ref (am 3), .ref (am 4), .ref (am 5), .ref (am 6), .ref (am 7), .int v8, .int v9, .int v10, .int v11, .int v12, .int v13, .int v14, .ref (am 15), .int v16, .ref (am 17), .int v18, .ref (am 19), .ref (am 20), .int v21, .int v22, .int v23, .int v24, .int v25, .ref (am 26), .int v27, .ref (am 28), .ref (am 29), .ref (am 30), .ref (am 31), .long v32, .ref (am 33), .ref (am 34), .ref (am 35), .ref (am 36)]))] ++ wt) := hD
  have hl := lv_entry ([.ref m0, .int b, .int 2]) (n := 3) (Nat.le_of_ble_eq_true rfl)
  rw [lg_entry_eq]
  generalize (lg_sl ([.ref m0, .int b, .int 2]) ++ List.replicate (3 - (lg_sl ([.ref m0, .int b, .int 2])).length) Slot.unset).toArray = ls at hl ⊢
  have hl : lv_has ls 3 [(0, .ref m0), (1, .int b), (2, .int 2)] := hl
  have hKH : KH sd sd := KH.rf
  have l2 : (2 : Int32).toInt = 2 := by decide +kernel
  have l5 : (5 : Int32).toInt = 5 := by decide +kernel
  have l11 : (11 : Int32).toInt = 11 := by decide +kernel
  refine lv_aload_n hx hb dX12_bidderOf_0 rfl (lv_at hl 0 rfl) ?_
  refine gq_get hx hb ht hown hK hP i_X12 1 rfl rfl 20 (by decide) wd_1272 rfl rfl dX12_bidderOf_1 ?_
  refine lv_bipush (v := 11) hx hb dX12_bidderOf_4 (by decide +kernel) ?_
  refine lv_iconst (v := 5) hx hb dX12_bidderOf_6 (by decide +kernel) ?_
  refine lv_iload_n hx hb dX12_bidderOf_7 rfl (lv_at hl 1 rfl) ?_
  obtain ⟨t_1, et_1⟩ : ∃ zz_ : Int32, 5 * b = zz_ := ⟨_, rfl⟩
  refine gq_imul hx hb t_1 et_1 dX12_bidderOf_8 ?_
  have ft_1 := ia_mul et_1 (by rw [l5]; omega) (by rw [l5]; omega)
  rw [l5] at ft_1
  obtain ⟨t_2, et_2⟩ : ∃ zz_ : Int32, 11 + t_1 = zz_ := ⟨_, rfl⟩
  refine gq_iadd hx hb t_2 et_2 dX12_bidderOf_9 ?_
  have ft_2 := ia_add et_2 (by omega) (by omega)
  refine lv_iload_n hx hb dX12_bidderOf_10 rfl (lv_at hl 2 rfl) ?_
  obtain ⟨t_3, et_3⟩ : ∃ zz_ : Int32, t_2 + 2 = zz_ := ⟨_, rfl⟩
  refine gq_iadd hx hb t_3 et_3 dX12_bidderOf_11 ?_
  have ft_3 := ia_add et_3 (by omega) (by omega)
  obtain ⟨n_4, en_4⟩ : ∃ zz_ : Int32, sd (Int32.toNatClampNeg t_3) = zz_ := ⟨_, rfl⟩
  refine gq_iald hx hb hK hP 0 rfl n_4 (ia_in (n := 110) (by omega) (by omega)) en_4 dX12_bidderOf_12 ?_
  have En_4 : sd (13 + 5 * b.toInt.toNat) = n_4 := by rw [← show Int32.toNatClampNeg t_3 = 13 + 5 * b.toInt.toNat from ix_n (by omega)]; exact en_4
  have hn_4 : (sd (13 + 5 * b.toInt.toNat)).toInt = n_4.toInt := by rw [En_4]
  have qn_4 := hSD.q2 (b := b.toInt.toNat) (by omega)
  have hP9 : va_P (gg_D G) classes ([((am 20), .inl (G.2.2 0, 110, .inl sd)), (m0, .inr (12, [.ref (am 0), .int v1, .int v2, .ref (am 3), .ref (am 4), .ref (am 5), .ref (am 6), .ref (am 7), .int v8, .int v9, .int v10, .int v11, .int v12, .int v13, .int v14, .ref (am 15), .int v16, .ref (am 17), .int v18, .ref (am 19), .ref (am 20), .int v21, .int v22, .int v23, .int v24, .int v25, .ref (am 26), .int v27, .ref (am 28), .ref (am 29), .ref (am 30), .ref (am 31), .long v32, .ref (am 33), .ref (am 34), .ref (am 35), .ref (am 36)]))] ++ wt) _ := hP
  have hD9 : va_D A ([((am 20), .inl (G.2.2 0, 110, .inl sd)), (m0, .inr (12, [.ref (am 0), .int v1, .int v2, .ref (am 3), .ref (am 4), .ref (am 5), .ref (am 6), .ref (am 7), .int v8, .int v9, .int v10, .int v11, .int v12, .int v13, .int v14, .ref (am 15), .int v16, .ref (am 17), .int v18, .ref (am 19), .ref (am 20), .int v21, .int v22, .int v23, .int v24, .int v25, .ref (am 26), .int v27, .ref (am 28), .ref (am 29), .ref (am 30), .ref (am 31), .long v32, .ref (am 33), .ref (am 34), .ref (am 35), .ref (am 36)]))] ++ wt) := hD
  exact W.iret (v := n_4) hx hb hr (gq_endI wt ⟨hT, hW, (by omega), (by omega), (by omega)⟩ hP9 hD9 hS) hS.2.2 dX12_bidderOf_13
set_option maxHeartbeats 4000000 in
set_option maxRecDepth 100000 in
theorem d_m_bid3 (l : Launch) (G : gg_T) (Γ : Nat → Nat) (sz : Nat) (wt : va_W) (hT : tk_ty G Γ wt) (b : Int32) (m0 : Nat) (am : Nat → Nat) (v1 : Int32) (v2 : Int32) (v8 : Int32) (v9 : Int32) (v10 : Int32) (v11 : Int32) (v12 : Int32) (v13 : Int32) (v14 : Int32) (v16 : Int32) (v18 : Int32) (v21 : Int32) (v22 : Int32) (v23 : Int32) (v24 : Int32) (v25 : Int32) (v27 : Int32) (v32 : Int64) (sd : Nat → Int32) (lo_b : 0 ≤ b.toInt) (hi_b : b.toInt ≤ 4) (k17 : Γ (am 17) = 32) (k19 : Γ (am 19) = 30) (k30 : Γ (am 30) = 28) (k31 : Γ (am 31) = 28) (lo_v1 : 0 ≤ v1.toInt) (hi_v1 : v1.toInt ≤ 400) (lo_v2 : 0 ≤ v2.toInt) (hi_v2 : v2.toInt ≤ 6) (lo_v8 : 0 ≤ v8.toInt) (hi_v8 : v8.toInt ≤ 400) (lo_v11 : 0 ≤ v11.toInt) (hi_v11 : v11.toInt ≤ 6) (lo_v12 : 0 ≤ v12.toInt) (hi_v12 : v12.toInt ≤ 60) (lo_v16 : 0 ≤ v16.toInt) (hi_v16 : v16.toInt ≤ 400) (lo_v21 : -1 ≤ v21.toInt) (hi_v21 : v21.toInt ≤ 5) (lo_v23 : 0 ≤ v23.toInt) (hi_v23 : v23.toInt ≤ 31) (lo_v27 : 0 ≤ v27.toInt) (hi_v27 : v27.toInt ≤ 20) (xfr : v21.toInt < v2.toInt) : Met l yX12_bidderOf (ts_L yX12_bidderOf cX12_bidderOf 3 (some .int)) ({ frames := 0, cells := 0, slots := 0, locals := 0 }) (gc_P G ([((am 20), .inl (G.2.2 0, 110, .inl sd)), (m0, .inr (12, [.ref (am 0), .int v1, .int v2, .ref (am 3), .ref (am 4), .ref (am 5), .ref (am 6), .ref (am 7), .int v8, .int v9, .int v10, .int v11, .int v12, .int v13, .int v14, .ref (am 15), .int v16, .ref (am 17), .int v18, .ref (am 19), .ref (am 20), .int v21, .int v22, .int v23, .int v24, .int v25, .ref (am 26), .int v27, .ref (am 28), .ref (am 29), .ref (am 30), .ref (am 31), .long v32, .ref (am 33), .ref (am 34), .ref (am 35), .ref (am 36)]))] ++ wt) sz [.ref m0, .int b, .int 3]) (gc_I G (va_A ([((am 20), .inl (G.2.2 0, 110, .inl sd)), (m0, .inr (12, [.ref (am 0), .int v1, .int v2, .ref (am 3), .ref (am 4), .ref (am 5), .ref (am 6), .ref (am 7), .int v8, .int v9, .int v10, .int v11, .int v12, .int v13, .int v14, .ref (am 15), .int v16, .ref (am 17), .int v18, .ref (am 19), .ref (am 20), .int v21, .int v22, .int v23, .int v24, .int v25, .ref (am 26), .int v27, .ref (am 28), .ref (am 29), .ref (am 30), .ref (am 31), .long v32, .ref (am 33), .ref (am 34), .ref (am 35), .ref (am 36)]))] ++ wt) sz) (fun r (u : va_W) => match u with | wt1 => tk_ty G Γ wt1 ∧ tk_kp [] wt wt1 ∧ ((sd (14 + 5 * b.toInt.toNat)).toInt = r.toInt)) (fun (u : va_W) => match u with | wt1 => [((am 20), .inl (G.2.2 0, 110, .inl sd)), (m0, .inr (12, [.ref (am 0), .int v1, .int v2, .ref (am 3), .ref (am 4), .ref (am 5), .ref (am 6), .ref (am 7), .int v8, .int v9, .int v10, .int v11, .int v12, .int v13, .int v14, .ref (am 15), .int v16, .ref (am 17), .int v18, .ref (am 19), .ref (am 20), .int v21, .int v22, .int v23, .int v24, .int v25, .ref (am 26), .int v27, .ref (am 28), .ref (am 29), .ref (am 30), .ref (am 31), .long v32, .ref (am 33), .ref (am 34), .ref (am 35), .ref (am 36)]))] ++ wt1)) 0 0 (va_A ([((am 20), .inl (G.2.2 0, 110, .inl sd)), (m0, .inr (12, [.ref (am 0), .int v1, .int v2, .ref (am 3), .ref (am 4), .ref (am 5), .ref (am 6), .ref (am 7), .int v8, .int v9, .int v10, .int v11, .int v12, .int v13, .int v14, .ref (am 15), .int v16, .ref (am 17), .int v18, .ref (am 19), .ref (am 20), .int v21, .int v22, .int v23, .int v24, .int v25, .ref (am 26), .int v27, .ref (am 28), .ref (am 29), .ref (am 30), .ref (am 31), .long v32, .ref (am 33), .ref (am 34), .ref (am 35), .ref (am 36)]))] ++ wt) sz) := by
  refine Met.ofW (cc := cX12_bidderOf) (maxL := 3) (ret := (some .int)) (by decide) rfl ?_
  intro p e s m args below meth c s₁ B hml hv
  obtain ⟨rfl, hsz, hP, hK, hD0⟩ := hv
  have hx := B.exec
  have hb := B.bytes
  have hr := B.returns
  have ht := ts_ht (atoms_spec (ws := ts_L yX12_bidderOf cX12_bidderOf 3 (some .int)) B.pre)
  have hown : s.vm.findClass RX12 = some m.cls := findClass_of_methodNamed B.named
  have hlocks := B.notSynchronized
  subst hsz
  have hD := hD0.self (sz := s.heap.size)
  generalize hAe : va_A ([((am 20), .inl (G.2.2 0, 110, .inl sd)), (m0, .inr (12, [.ref (am 0), .int v1, .int v2, .ref (am 3), .ref (am 4), .ref (am 5), .ref (am 6), .ref (am 7), .int v8, .int v9, .int v10, .int v11, .int v12, .int v13, .int v14, .ref (am 15), .int v16, .ref (am 17), .int v18, .ref (am 19), .ref (am 20), .int v21, .int v22, .int v23, .int v24, .int v25, .ref (am 26), .int v27, .ref (am 28), .ref (am 29), .ref (am 30), .ref (am 31), .long v32, .ref (am 33), .ref (am 34), .ref (am 35), .ref (am 36)]))] ++ wt) s.heap.size = A at hD ⊢
  have hA : ∀ q : Nat, s.heap.size ≤ q → A q := fun q h => by rw [← hAe]; exact Or.inr h
  clear hAe hD0
  have hS : va_S A s.heap s.heap [] := va_S.rf
  obtain ⟨w0, hw0⟩ : ∃ z, z = wt := ⟨_, rfl⟩
  have hW : tk_kp [] w0 wt := by rw [hw0]; exact tk_kp.rf
  rw [← hw0]
  clear hw0
  have hP : va_P (gg_D G) classes ([((am 20), .inl (G.2.2 0, 110, .inl sd)), (m0, .inr (12, [.ref (am 0), .int v1, .int v2, .ref (am 3), .ref (am 4), .ref (am 5), .ref (am 6), .ref (am 7), .int v8, .int v9, .int v10, .int v11, .int v12, .int v13, .int v14, .ref (am 15), .int v16, .ref (am 17), .int v18, .ref (am 19), .ref (am 20), .int v21, .int v22, .int v23, .int v24, .int v25, .ref (am 26), .int v27, .ref (am 28), .ref (am 29), .ref (am 30), .ref (am 31), .long v32, .ref (am 33), .ref (am 34), .ref (am 35), .ref (am 36)]))] ++ wt) s.heap := hP
  have hD : va_D A ([((am 20), .inl (G.2.2 0, 110, .inl sd)), (m0, .inr (12, [.ref (am 0), .int v1, .int v2, .ref (am 3), .ref (am 4), .ref (am 5), .ref (am 6), .ref (am 7), .int v8, .int v9, .int v10, .int v11, .int v12, .int v13, .int v14, .ref (am 15), .int v16, .ref (am 17), .int v18, .ref (am 19), .ref (am 20), .int v21, .int v22, .int v23, .int v24, .int v25, .ref (am 26), .int v27, .ref (am 28), .ref (am 29), .ref (am 30), .ref (am 31), .long v32, .ref (am 33), .ref (am 34), .ref (am 35), .ref (am 36)]))] ++ wt) := hD
  have hl := lv_entry ([.ref m0, .int b, .int 3]) (n := 3) (Nat.le_of_ble_eq_true rfl)
  rw [lg_entry_eq]
  generalize (lg_sl ([.ref m0, .int b, .int 3]) ++ List.replicate (3 - (lg_sl ([.ref m0, .int b, .int 3])).length) Slot.unset).toArray = ls at hl ⊢
  have hl : lv_has ls 3 [(0, .ref m0), (1, .int b), (2, .int 3)] := hl
  have l3 : (3 : Int32).toInt = 3 := by decide +kernel
  have l5 : (5 : Int32).toInt = 5 := by decide +kernel
  have l11 : (11 : Int32).toInt = 11 := by decide +kernel
  refine lv_aload_n hx hb dX12_bidderOf_0 rfl (lv_at hl 0 rfl) ?_
  refine gq_get hx hb ht hown hK hP i_X12 1 rfl rfl 20 (by decide) wd_1272 rfl rfl dX12_bidderOf_1 ?_
  refine lv_bipush (v := 11) hx hb dX12_bidderOf_4 (by decide +kernel) ?_
  refine lv_iconst (v := 5) hx hb dX12_bidderOf_6 (by decide +kernel) ?_
  refine lv_iload_n hx hb dX12_bidderOf_7 rfl (lv_at hl 1 rfl) ?_
  obtain ⟨t_1, et_1⟩ : ∃ zz_ : Int32, 5 * b = zz_ := ⟨_, rfl⟩
  refine gq_imul hx hb t_1 et_1 dX12_bidderOf_8 ?_
  have ft_1 := ia_mul et_1 (by rw [l5]; omega) (by rw [l5]; omega)
  rw [l5] at ft_1
  obtain ⟨t_2, et_2⟩ : ∃ zz_ : Int32, 11 + t_1 = zz_ := ⟨_, rfl⟩
  refine gq_iadd hx hb t_2 et_2 dX12_bidderOf_9 ?_
  have ft_2 := ia_add et_2 (by omega) (by omega)
  refine lv_iload_n hx hb dX12_bidderOf_10 rfl (lv_at hl 2 rfl) ?_
  obtain ⟨t_3, et_3⟩ : ∃ zz_ : Int32, t_2 + 3 = zz_ := ⟨_, rfl⟩
  refine gq_iadd hx hb t_3 et_3 dX12_bidderOf_11 ?_
  have ft_3 := ia_add et_3 (by omega) (by omega)
  obtain ⟨n_4, en_4⟩ : ∃ zz_ : Int32, sd (Int32.toNatClampNeg t_3) = zz_ := ⟨_, rfl⟩
  refine gq_iald hx hb hK hP 0 rfl n_4 (ia_in (n := 110) (by omega) (by omega)) en_4 dX12_bidderOf_12 ?_
  have En_4 : sd (14 + 5 * b.toInt.toNat) = n_4 := by rw [← show Int32.toNatClampNeg t_3 = 14 + 5 * b.toInt.toNat from ix_n (by omega)]; exact en_4
  have hn_4 : (sd (14 + 5 * b.toInt.toNat)).toInt = n_4.toInt := by rw [En_4]
  have hP9 : va_P (gg_D G) classes ([((am 20), .inl (G.2.2 0, 110, .inl sd)), (m0, .inr (12, [.ref (am 0), .int v1, .int v2, .ref (am 3), .ref (am 4), .ref (am 5), .ref (am 6), .ref (am 7), .int v8, .int v9, .int v10, .int v11, .int v12, .int v13, .int v14, .ref (am 15), .int v16, .ref (am 17), .int v18, .ref (am 19), .ref (am 20), .int v21, .int v22, .int v23, .int v24, .int v25, .ref (am 26), .int v27, .ref (am 28), .ref (am 29), .ref (am 30), .ref (am 31), .long v32, .ref (am 33), .ref (am 34), .ref (am 35), .ref (am 36)]))] ++ wt) _ := hP
  have hD9 : va_D A ([((am 20), .inl (G.2.2 0, 110, .inl sd)), (m0, .inr (12, [.ref (am 0), .int v1, .int v2, .ref (am 3), .ref (am 4), .ref (am 5), .ref (am 6), .ref (am 7), .int v8, .int v9, .int v10, .int v11, .int v12, .int v13, .int v14, .ref (am 15), .int v16, .ref (am 17), .int v18, .ref (am 19), .ref (am 20), .int v21, .int v22, .int v23, .int v24, .int v25, .ref (am 26), .int v27, .ref (am 28), .ref (am 29), .ref (am 30), .ref (am 31), .long v32, .ref (am 33), .ref (am 34), .ref (am 35), .ref (am 36)]))] ++ wt) := hD
  exact W.iret (v := n_4) hx hb hr (gq_endI wt ⟨hT, hW, (by omega)⟩ hP9 hD9 hS) hS.2.2 dX12_bidderOf_13
set_option maxHeartbeats 4000000 in
set_option maxRecDepth 100000 in
theorem d_m_bid4 (l : Launch) (G : gg_T) (Γ : Nat → Nat) (sz : Nat) (wt : va_W) (hT : tk_ty G Γ wt) (b : Int32) (m0 : Nat) (am : Nat → Nat) (v1 : Int32) (v2 : Int32) (v8 : Int32) (v9 : Int32) (v10 : Int32) (v11 : Int32) (v12 : Int32) (v13 : Int32) (v14 : Int32) (v16 : Int32) (v18 : Int32) (v21 : Int32) (v22 : Int32) (v23 : Int32) (v24 : Int32) (v25 : Int32) (v27 : Int32) (v32 : Int64) (sd : Nat → Int32) (lo_b : 0 ≤ b.toInt) (hi_b : b.toInt ≤ 4) (k17 : Γ (am 17) = 32) (k19 : Γ (am 19) = 30) (k30 : Γ (am 30) = 28) (k31 : Γ (am 31) = 28) (lo_v1 : 0 ≤ v1.toInt) (hi_v1 : v1.toInt ≤ 400) (lo_v2 : 0 ≤ v2.toInt) (hi_v2 : v2.toInt ≤ 6) (lo_v8 : 0 ≤ v8.toInt) (hi_v8 : v8.toInt ≤ 400) (lo_v11 : 0 ≤ v11.toInt) (hi_v11 : v11.toInt ≤ 6) (lo_v12 : 0 ≤ v12.toInt) (hi_v12 : v12.toInt ≤ 60) (lo_v16 : 0 ≤ v16.toInt) (hi_v16 : v16.toInt ≤ 400) (lo_v21 : -1 ≤ v21.toInt) (hi_v21 : v21.toInt ≤ 5) (lo_v23 : 0 ≤ v23.toInt) (hi_v23 : v23.toInt ≤ 31) (lo_v27 : 0 ≤ v27.toInt) (hi_v27 : v27.toInt ≤ 20) (xfr : v21.toInt < v2.toInt) : Met l yX12_bidderOf (ts_L yX12_bidderOf cX12_bidderOf 3 (some .int)) ({ frames := 0, cells := 0, slots := 0, locals := 0 }) (gc_P G ([((am 20), .inl (G.2.2 0, 110, .inl sd)), (m0, .inr (12, [.ref (am 0), .int v1, .int v2, .ref (am 3), .ref (am 4), .ref (am 5), .ref (am 6), .ref (am 7), .int v8, .int v9, .int v10, .int v11, .int v12, .int v13, .int v14, .ref (am 15), .int v16, .ref (am 17), .int v18, .ref (am 19), .ref (am 20), .int v21, .int v22, .int v23, .int v24, .int v25, .ref (am 26), .int v27, .ref (am 28), .ref (am 29), .ref (am 30), .ref (am 31), .long v32, .ref (am 33), .ref (am 34), .ref (am 35), .ref (am 36)]))] ++ wt) sz [.ref m0, .int b, .int 4]) (gc_I G (va_A ([((am 20), .inl (G.2.2 0, 110, .inl sd)), (m0, .inr (12, [.ref (am 0), .int v1, .int v2, .ref (am 3), .ref (am 4), .ref (am 5), .ref (am 6), .ref (am 7), .int v8, .int v9, .int v10, .int v11, .int v12, .int v13, .int v14, .ref (am 15), .int v16, .ref (am 17), .int v18, .ref (am 19), .ref (am 20), .int v21, .int v22, .int v23, .int v24, .int v25, .ref (am 26), .int v27, .ref (am 28), .ref (am 29), .ref (am 30), .ref (am 31), .long v32, .ref (am 33), .ref (am 34), .ref (am 35), .ref (am 36)]))] ++ wt) sz) (fun r (u : va_W) => match u with | wt1 => tk_ty G Γ wt1 ∧ tk_kp [] wt wt1 ∧ ((sd (15 + 5 * b.toInt.toNat)).toInt = r.toInt)) (fun (u : va_W) => match u with | wt1 => [((am 20), .inl (G.2.2 0, 110, .inl sd)), (m0, .inr (12, [.ref (am 0), .int v1, .int v2, .ref (am 3), .ref (am 4), .ref (am 5), .ref (am 6), .ref (am 7), .int v8, .int v9, .int v10, .int v11, .int v12, .int v13, .int v14, .ref (am 15), .int v16, .ref (am 17), .int v18, .ref (am 19), .ref (am 20), .int v21, .int v22, .int v23, .int v24, .int v25, .ref (am 26), .int v27, .ref (am 28), .ref (am 29), .ref (am 30), .ref (am 31), .long v32, .ref (am 33), .ref (am 34), .ref (am 35), .ref (am 36)]))] ++ wt1)) 0 0 (va_A ([((am 20), .inl (G.2.2 0, 110, .inl sd)), (m0, .inr (12, [.ref (am 0), .int v1, .int v2, .ref (am 3), .ref (am 4), .ref (am 5), .ref (am 6), .ref (am 7), .int v8, .int v9, .int v10, .int v11, .int v12, .int v13, .int v14, .ref (am 15), .int v16, .ref (am 17), .int v18, .ref (am 19), .ref (am 20), .int v21, .int v22, .int v23, .int v24, .int v25, .ref (am 26), .int v27, .ref (am 28), .ref (am 29), .ref (am 30), .ref (am 31), .long v32, .ref (am 33), .ref (am 34), .ref (am 35), .ref (am 36)]))] ++ wt) sz) := by
  refine Met.ofW (cc := cX12_bidderOf) (maxL := 3) (ret := (some .int)) (by decide) rfl ?_
  intro p e s m args below meth c s₁ B hml hv
  obtain ⟨rfl, hsz, hP, hK, hD0⟩ := hv
  have hx := B.exec
  have hb := B.bytes
  have hr := B.returns
  have ht := ts_ht (atoms_spec (ws := ts_L yX12_bidderOf cX12_bidderOf 3 (some .int)) B.pre)
  have hown : s.vm.findClass RX12 = some m.cls := findClass_of_methodNamed B.named
  have hlocks := B.notSynchronized
  subst hsz
  have hD := hD0.self (sz := s.heap.size)
  generalize hAe : va_A ([((am 20), .inl (G.2.2 0, 110, .inl sd)), (m0, .inr (12, [.ref (am 0), .int v1, .int v2, .ref (am 3), .ref (am 4), .ref (am 5), .ref (am 6), .ref (am 7), .int v8, .int v9, .int v10, .int v11, .int v12, .int v13, .int v14, .ref (am 15), .int v16, .ref (am 17), .int v18, .ref (am 19), .ref (am 20), .int v21, .int v22, .int v23, .int v24, .int v25, .ref (am 26), .int v27, .ref (am 28), .ref (am 29), .ref (am 30), .ref (am 31), .long v32, .ref (am 33), .ref (am 34), .ref (am 35), .ref (am 36)]))] ++ wt) s.heap.size = A at hD ⊢
  have hA : ∀ q : Nat, s.heap.size ≤ q → A q := fun q h => by rw [← hAe]; exact Or.inr h
  clear hAe hD0
  have hS : va_S A s.heap s.heap [] := va_S.rf
  obtain ⟨w0, hw0⟩ : ∃ z, z = wt := ⟨_, rfl⟩
  have hW : tk_kp [] w0 wt := by rw [hw0]; exact tk_kp.rf
  rw [← hw0]
  clear hw0
  have hP : va_P (gg_D G) classes ([((am 20), .inl (G.2.2 0, 110, .inl sd)), (m0, .inr (12, [.ref (am 0), .int v1, .int v2, .ref (am 3), .ref (am 4), .ref (am 5), .ref (am 6), .ref (am 7), .int v8, .int v9, .int v10, .int v11, .int v12, .int v13, .int v14, .ref (am 15), .int v16, .ref (am 17), .int v18, .ref (am 19), .ref (am 20), .int v21, .int v22, .int v23, .int v24, .int v25, .ref (am 26), .int v27, .ref (am 28), .ref (am 29), .ref (am 30), .ref (am 31), .long v32, .ref (am 33), .ref (am 34), .ref (am 35), .ref (am 36)]))] ++ wt) s.heap := hP
  have hD : va_D A ([((am 20), .inl (G.2.2 0, 110, .inl sd)), (m0, .inr (12, [.ref (am 0), .int v1, .int v2, .ref (am 3), .ref (am 4), .ref (am 5), .ref (am 6), .ref (am 7), .int v8, .int v9, .int v10, .int v11, .int v12, .int v13, .int v14, .ref (am 15), .int v16, .ref (am 17), .int v18, .ref (am 19), .ref (am 20), .int v21, .int v22, .int v23, .int v24, .int v25, .ref (am 26), .int v27, .ref (am 28), .ref (am 29), .ref (am 30), .ref (am 31), .long v32, .ref (am 33), .ref (am 34), .ref (am 35), .ref (am 36)]))] ++ wt) := hD
  have hl := lv_entry ([.ref m0, .int b, .int 4]) (n := 3) (Nat.le_of_ble_eq_true rfl)
  rw [lg_entry_eq]
  generalize (lg_sl ([.ref m0, .int b, .int 4]) ++ List.replicate (3 - (lg_sl ([.ref m0, .int b, .int 4])).length) Slot.unset).toArray = ls at hl ⊢
  have hl : lv_has ls 3 [(0, .ref m0), (1, .int b), (2, .int 4)] := hl
  have l4 : (4 : Int32).toInt = 4 := by decide +kernel
  have l5 : (5 : Int32).toInt = 5 := by decide +kernel
  have l11 : (11 : Int32).toInt = 11 := by decide +kernel
  refine lv_aload_n hx hb dX12_bidderOf_0 rfl (lv_at hl 0 rfl) ?_
  refine gq_get hx hb ht hown hK hP i_X12 1 rfl rfl 20 (by decide) wd_1272 rfl rfl dX12_bidderOf_1 ?_
  refine lv_bipush (v := 11) hx hb dX12_bidderOf_4 (by decide +kernel) ?_
  refine lv_iconst (v := 5) hx hb dX12_bidderOf_6 (by decide +kernel) ?_
  refine lv_iload_n hx hb dX12_bidderOf_7 rfl (lv_at hl 1 rfl) ?_
  obtain ⟨t_1, et_1⟩ : ∃ zz_ : Int32, 5 * b = zz_ := ⟨_, rfl⟩
  refine gq_imul hx hb t_1 et_1 dX12_bidderOf_8 ?_
  have ft_1 := ia_mul et_1 (by rw [l5]; omega) (by rw [l5]; omega)
  rw [l5] at ft_1
  obtain ⟨t_2, et_2⟩ : ∃ zz_ : Int32, 11 + t_1 = zz_ := ⟨_, rfl⟩
  refine gq_iadd hx hb t_2 et_2 dX12_bidderOf_9 ?_
  have ft_2 := ia_add et_2 (by omega) (by omega)
  refine lv_iload_n hx hb dX12_bidderOf_10 rfl (lv_at hl 2 rfl) ?_
  obtain ⟨t_3, et_3⟩ : ∃ zz_ : Int32, t_2 + 4 = zz_ := ⟨_, rfl⟩
  refine gq_iadd hx hb t_3 et_3 dX12_bidderOf_11 ?_
  have ft_3 := ia_add et_3 (by omega) (by omega)
  obtain ⟨n_4, en_4⟩ : ∃ zz_ : Int32, sd (Int32.toNatClampNeg t_3) = zz_ := ⟨_, rfl⟩
  refine gq_iald hx hb hK hP 0 rfl n_4 (ia_in (n := 110) (by omega) (by omega)) en_4 dX12_bidderOf_12 ?_
  have En_4 : sd (15 + 5 * b.toInt.toNat) = n_4 := by rw [← show Int32.toNatClampNeg t_3 = 15 + 5 * b.toInt.toNat from ix_n (by omega)]; exact en_4
  have hn_4 : (sd (15 + 5 * b.toInt.toNat)).toInt = n_4.toInt := by rw [En_4]
  have hP9 : va_P (gg_D G) classes ([((am 20), .inl (G.2.2 0, 110, .inl sd)), (m0, .inr (12, [.ref (am 0), .int v1, .int v2, .ref (am 3), .ref (am 4), .ref (am 5), .ref (am 6), .ref (am 7), .int v8, .int v9, .int v10, .int v11, .int v12, .int v13, .int v14, .ref (am 15), .int v16, .ref (am 17), .int v18, .ref (am 19), .ref (am 20), .int v21, .int v22, .int v23, .int v24, .int v25, .ref (am 26), .int v27, .ref (am 28), .ref (am 29), .ref (am 30), .ref (am 31), .long v32, .ref (am 33), .ref (am 34), .ref (am 35), .ref (am 36)]))] ++ wt) _ := hP
  have hD9 : va_D A ([((am 20), .inl (G.2.2 0, 110, .inl sd)), (m0, .inr (12, [.ref (am 0), .int v1, .int v2, .ref (am 3), .ref (am 4), .ref (am 5), .ref (am 6), .ref (am 7), .int v8, .int v9, .int v10, .int v11, .int v12, .int v13, .int v14, .ref (am 15), .int v16, .ref (am 17), .int v18, .ref (am 19), .ref (am 20), .int v21, .int v22, .int v23, .int v24, .int v25, .ref (am 26), .int v27, .ref (am 28), .ref (am 29), .ref (am 30), .ref (am 31), .long v32, .ref (am 33), .ref (am 34), .ref (am 35), .ref (am 36)]))] ++ wt) := hD
  exact W.iret (v := n_4) hx hb hr (gq_endI wt ⟨hT, hW, (by omega)⟩ hP9 hD9 hS) hS.2.2 dX12_bidderOf_13
set_option maxHeartbeats 4000000 in
set_option maxRecDepth 100000 in
theorem d_m_bid (l : Launch) (G : gg_T) (Γ : Nat → Nat) (sz : Nat) (wt : va_W) (hT : tk_ty G Γ wt) (b : Int32) (w : Int32) (m0 : Nat) (am : Nat → Nat) (v1 : Int32) (v2 : Int32) (v8 : Int32) (v9 : Int32) (v10 : Int32) (v11 : Int32) (v12 : Int32) (v13 : Int32) (v14 : Int32) (v16 : Int32) (v18 : Int32) (v21 : Int32) (v22 : Int32) (v23 : Int32) (v24 : Int32) (v25 : Int32) (v27 : Int32) (v32 : Int64) (sd : Nat → Int32) (lo_b : 0 ≤ b.toInt) (hi_b : b.toInt ≤ 4) (lo_w : 0 ≤ w.toInt) (hi_w : w.toInt ≤ 4) (k17 : Γ (am 17) = 32) (k19 : Γ (am 19) = 30) (k30 : Γ (am 30) = 28) (k31 : Γ (am 31) = 28) (lo_v1 : 0 ≤ v1.toInt) (hi_v1 : v1.toInt ≤ 400) (lo_v2 : 0 ≤ v2.toInt) (hi_v2 : v2.toInt ≤ 6) (lo_v8 : 0 ≤ v8.toInt) (hi_v8 : v8.toInt ≤ 400) (lo_v11 : 0 ≤ v11.toInt) (hi_v11 : v11.toInt ≤ 6) (lo_v12 : 0 ≤ v12.toInt) (hi_v12 : v12.toInt ≤ 60) (lo_v16 : 0 ≤ v16.toInt) (hi_v16 : v16.toInt ≤ 400) (lo_v21 : -1 ≤ v21.toInt) (hi_v21 : v21.toInt ≤ 5) (lo_v23 : 0 ≤ v23.toInt) (hi_v23 : v23.toInt ≤ 31) (lo_v27 : 0 ≤ v27.toInt) (hi_v27 : v27.toInt ≤ 20) (xfr : v21.toInt < v2.toInt) : Met l yX12_bidderOf (ts_L yX12_bidderOf cX12_bidderOf 3 (some .int)) ({ frames := 0, cells := 0, slots := 0, locals := 0 }) (gc_P G ([((am 20), .inl (G.2.2 0, 110, .inl sd)), (m0, .inr (12, [.ref (am 0), .int v1, .int v2, .ref (am 3), .ref (am 4), .ref (am 5), .ref (am 6), .ref (am 7), .int v8, .int v9, .int v10, .int v11, .int v12, .int v13, .int v14, .ref (am 15), .int v16, .ref (am 17), .int v18, .ref (am 19), .ref (am 20), .int v21, .int v22, .int v23, .int v24, .int v25, .ref (am 26), .int v27, .ref (am 28), .ref (am 29), .ref (am 30), .ref (am 31), .long v32, .ref (am 33), .ref (am 34), .ref (am 35), .ref (am 36)]))] ++ wt) sz [.ref m0, .int b, .int w]) (gc_I G (va_A ([((am 20), .inl (G.2.2 0, 110, .inl sd)), (m0, .inr (12, [.ref (am 0), .int v1, .int v2, .ref (am 3), .ref (am 4), .ref (am 5), .ref (am 6), .ref (am 7), .int v8, .int v9, .int v10, .int v11, .int v12, .int v13, .int v14, .ref (am 15), .int v16, .ref (am 17), .int v18, .ref (am 19), .ref (am 20), .int v21, .int v22, .int v23, .int v24, .int v25, .ref (am 26), .int v27, .ref (am 28), .ref (am 29), .ref (am 30), .ref (am 31), .long v32, .ref (am 33), .ref (am 34), .ref (am 35), .ref (am 36)]))] ++ wt) sz) (fun r (u : va_W) => match u with | wt1 => tk_ty G Γ wt1 ∧ tk_kp [] wt wt1) (fun (u : va_W) => match u with | wt1 => [((am 20), .inl (G.2.2 0, 110, .inl sd)), (m0, .inr (12, [.ref (am 0), .int v1, .int v2, .ref (am 3), .ref (am 4), .ref (am 5), .ref (am 6), .ref (am 7), .int v8, .int v9, .int v10, .int v11, .int v12, .int v13, .int v14, .ref (am 15), .int v16, .ref (am 17), .int v18, .ref (am 19), .ref (am 20), .int v21, .int v22, .int v23, .int v24, .int v25, .ref (am 26), .int v27, .ref (am 28), .ref (am 29), .ref (am 30), .ref (am 31), .long v32, .ref (am 33), .ref (am 34), .ref (am 35), .ref (am 36)]))] ++ wt1)) 0 0 (va_A ([((am 20), .inl (G.2.2 0, 110, .inl sd)), (m0, .inr (12, [.ref (am 0), .int v1, .int v2, .ref (am 3), .ref (am 4), .ref (am 5), .ref (am 6), .ref (am 7), .int v8, .int v9, .int v10, .int v11, .int v12, .int v13, .int v14, .ref (am 15), .int v16, .ref (am 17), .int v18, .ref (am 19), .ref (am 20), .int v21, .int v22, .int v23, .int v24, .int v25, .ref (am 26), .int v27, .ref (am 28), .ref (am 29), .ref (am 30), .ref (am 31), .long v32, .ref (am 33), .ref (am 34), .ref (am 35), .ref (am 36)]))] ++ wt) sz) := by
  refine Met.ofW (cc := cX12_bidderOf) (maxL := 3) (ret := (some .int)) (by decide) rfl ?_
  intro p e s m args below meth c s₁ B hml hv
  obtain ⟨rfl, hsz, hP, hK, hD0⟩ := hv
  have hx := B.exec
  have hb := B.bytes
  have hr := B.returns
  have ht := ts_ht (atoms_spec (ws := ts_L yX12_bidderOf cX12_bidderOf 3 (some .int)) B.pre)
  have hown : s.vm.findClass RX12 = some m.cls := findClass_of_methodNamed B.named
  have hlocks := B.notSynchronized
  subst hsz
  have hD := hD0.self (sz := s.heap.size)
  generalize hAe : va_A ([((am 20), .inl (G.2.2 0, 110, .inl sd)), (m0, .inr (12, [.ref (am 0), .int v1, .int v2, .ref (am 3), .ref (am 4), .ref (am 5), .ref (am 6), .ref (am 7), .int v8, .int v9, .int v10, .int v11, .int v12, .int v13, .int v14, .ref (am 15), .int v16, .ref (am 17), .int v18, .ref (am 19), .ref (am 20), .int v21, .int v22, .int v23, .int v24, .int v25, .ref (am 26), .int v27, .ref (am 28), .ref (am 29), .ref (am 30), .ref (am 31), .long v32, .ref (am 33), .ref (am 34), .ref (am 35), .ref (am 36)]))] ++ wt) s.heap.size = A at hD ⊢
  have hA : ∀ q : Nat, s.heap.size ≤ q → A q := fun q h => by rw [← hAe]; exact Or.inr h
  clear hAe hD0
  have hS : va_S A s.heap s.heap [] := va_S.rf
  obtain ⟨w0, hw0⟩ : ∃ z, z = wt := ⟨_, rfl⟩
  have hW : tk_kp [] w0 wt := by rw [hw0]; exact tk_kp.rf
  rw [← hw0]
  clear hw0
  have hP : va_P (gg_D G) classes ([((am 20), .inl (G.2.2 0, 110, .inl sd)), (m0, .inr (12, [.ref (am 0), .int v1, .int v2, .ref (am 3), .ref (am 4), .ref (am 5), .ref (am 6), .ref (am 7), .int v8, .int v9, .int v10, .int v11, .int v12, .int v13, .int v14, .ref (am 15), .int v16, .ref (am 17), .int v18, .ref (am 19), .ref (am 20), .int v21, .int v22, .int v23, .int v24, .int v25, .ref (am 26), .int v27, .ref (am 28), .ref (am 29), .ref (am 30), .ref (am 31), .long v32, .ref (am 33), .ref (am 34), .ref (am 35), .ref (am 36)]))] ++ wt) s.heap := hP
  have hD : va_D A ([((am 20), .inl (G.2.2 0, 110, .inl sd)), (m0, .inr (12, [.ref (am 0), .int v1, .int v2, .ref (am 3), .ref (am 4), .ref (am 5), .ref (am 6), .ref (am 7), .int v8, .int v9, .int v10, .int v11, .int v12, .int v13, .int v14, .ref (am 15), .int v16, .ref (am 17), .int v18, .ref (am 19), .ref (am 20), .int v21, .int v22, .int v23, .int v24, .int v25, .ref (am 26), .int v27, .ref (am 28), .ref (am 29), .ref (am 30), .ref (am 31), .long v32, .ref (am 33), .ref (am 34), .ref (am 35), .ref (am 36)]))] ++ wt) := hD
  have hl := lv_entry ([.ref m0, .int b, .int w]) (n := 3) (Nat.le_of_ble_eq_true rfl)
  rw [lg_entry_eq]
  generalize (lg_sl ([.ref m0, .int b, .int w]) ++ List.replicate (3 - (lg_sl ([.ref m0, .int b, .int w])).length) Slot.unset).toArray = ls at hl ⊢
  have hl : lv_has ls 3 [(0, .ref m0), (1, .int b), (2, .int w)] := hl
  have l5 : (5 : Int32).toInt = 5 := by decide +kernel
  have l11 : (11 : Int32).toInt = 11 := by decide +kernel
  refine lv_aload_n hx hb dX12_bidderOf_0 rfl (lv_at hl 0 rfl) ?_
  refine gq_get hx hb ht hown hK hP i_X12 1 rfl rfl 20 (by decide) wd_1272 rfl rfl dX12_bidderOf_1 ?_
  refine lv_bipush (v := 11) hx hb dX12_bidderOf_4 (by decide +kernel) ?_
  refine lv_iconst (v := 5) hx hb dX12_bidderOf_6 (by decide +kernel) ?_
  refine lv_iload_n hx hb dX12_bidderOf_7 rfl (lv_at hl 1 rfl) ?_
  obtain ⟨t_1, et_1⟩ : ∃ zz_ : Int32, 5 * b = zz_ := ⟨_, rfl⟩
  refine gq_imul hx hb t_1 et_1 dX12_bidderOf_8 ?_
  have ft_1 := ia_mul et_1 (by rw [l5]; omega) (by rw [l5]; omega)
  rw [l5] at ft_1
  obtain ⟨t_2, et_2⟩ : ∃ zz_ : Int32, 11 + t_1 = zz_ := ⟨_, rfl⟩
  refine gq_iadd hx hb t_2 et_2 dX12_bidderOf_9 ?_
  have ft_2 := ia_add et_2 (by omega) (by omega)
  refine lv_iload_n hx hb dX12_bidderOf_10 rfl (lv_at hl 2 rfl) ?_
  obtain ⟨t_3, et_3⟩ : ∃ zz_ : Int32, t_2 + w = zz_ := ⟨_, rfl⟩
  refine gq_iadd hx hb t_3 et_3 dX12_bidderOf_11 ?_
  have ft_3 := ia_add et_3 (by omega) (by omega)
  obtain ⟨n_4, en_4⟩ : ∃ zz_ : Int32, sd (Int32.toNatClampNeg t_3) = zz_ := ⟨_, rfl⟩
  refine gq_iald hx hb hK hP 0 rfl n_4 (ia_in (n := 110) (by omega) (by omega)) en_4 dX12_bidderOf_12 ?_
  have hP9 : va_P (gg_D G) classes ([((am 20), .inl (G.2.2 0, 110, .inl sd)), (m0, .inr (12, [.ref (am 0), .int v1, .int v2, .ref (am 3), .ref (am 4), .ref (am 5), .ref (am 6), .ref (am 7), .int v8, .int v9, .int v10, .int v11, .int v12, .int v13, .int v14, .ref (am 15), .int v16, .ref (am 17), .int v18, .ref (am 19), .ref (am 20), .int v21, .int v22, .int v23, .int v24, .int v25, .ref (am 26), .int v27, .ref (am 28), .ref (am 29), .ref (am 30), .ref (am 31), .long v32, .ref (am 33), .ref (am 34), .ref (am 35), .ref (am 36)]))] ++ wt) _ := hP
  have hD9 : va_D A ([((am 20), .inl (G.2.2 0, 110, .inl sd)), (m0, .inr (12, [.ref (am 0), .int v1, .int v2, .ref (am 3), .ref (am 4), .ref (am 5), .ref (am 6), .ref (am 7), .int v8, .int v9, .int v10, .int v11, .int v12, .int v13, .int v14, .ref (am 15), .int v16, .ref (am 17), .int v18, .ref (am 19), .ref (am 20), .int v21, .int v22, .int v23, .int v24, .int v25, .ref (am 26), .int v27, .ref (am 28), .ref (am 29), .ref (am 30), .ref (am 31), .long v32, .ref (am 33), .ref (am 34), .ref (am 35), .ref (am 36)]))] ++ wt) := hD
  exact W.iret (v := n_4) hx hb hr (gq_endI wt ⟨hT, hW⟩ hP9 hD9 hS) hS.2.2 dX12_bidderOf_13
set_option maxHeartbeats 4000000 in
set_option maxRecDepth 100000 in
theorem d_m_lot0 (l : Launch) (G : gg_T) (Γ : Nat → Nat) (sz : Nat) (wt : va_W) (hT : tk_ty G Γ wt) (b : Int32) (m0 : Nat) (am : Nat → Nat) (v1 : Int32) (v2 : Int32) (v8 : Int32) (v9 : Int32) (v10 : Int32) (v11 : Int32) (v12 : Int32) (v13 : Int32) (v14 : Int32) (v16 : Int32) (v18 : Int32) (v21 : Int32) (v22 : Int32) (v23 : Int32) (v24 : Int32) (v25 : Int32) (v27 : Int32) (v32 : Int64) (sd : Nat → Int32) (lo_b : 0 ≤ b.toInt) (hi_b : b.toInt ≤ 2) (k17 : Γ (am 17) = 32) (k19 : Γ (am 19) = 30) (k30 : Γ (am 30) = 28) (k31 : Γ (am 31) = 28) (lo_v1 : 0 ≤ v1.toInt) (hi_v1 : v1.toInt ≤ 400) (lo_v2 : 0 ≤ v2.toInt) (hi_v2 : v2.toInt ≤ 6) (lo_v8 : 0 ≤ v8.toInt) (hi_v8 : v8.toInt ≤ 400) (lo_v11 : 0 ≤ v11.toInt) (hi_v11 : v11.toInt ≤ 6) (lo_v12 : 0 ≤ v12.toInt) (hi_v12 : v12.toInt ≤ 60) (lo_v16 : 0 ≤ v16.toInt) (hi_v16 : v16.toInt ≤ 400) (lo_v21 : -1 ≤ v21.toInt) (hi_v21 : v21.toInt ≤ 5) (lo_v23 : 0 ≤ v23.toInt) (hi_v23 : v23.toInt ≤ 31) (lo_v27 : 0 ≤ v27.toInt) (hi_v27 : v27.toInt ≤ 20) (xfr : v21.toInt < v2.toInt) : Met l yX12_lotOf (ts_L yX12_lotOf cX12_lotOf 3 (some .int)) ({ frames := 0, cells := 0, slots := 0, locals := 0 }) (gc_P G ([((am 20), .inl (G.2.2 0, 110, .inl sd)), (m0, .inr (12, [.ref (am 0), .int v1, .int v2, .ref (am 3), .ref (am 4), .ref (am 5), .ref (am 6), .ref (am 7), .int v8, .int v9, .int v10, .int v11, .int v12, .int v13, .int v14, .ref (am 15), .int v16, .ref (am 17), .int v18, .ref (am 19), .ref (am 20), .int v21, .int v22, .int v23, .int v24, .int v25, .ref (am 26), .int v27, .ref (am 28), .ref (am 29), .ref (am 30), .ref (am 31), .long v32, .ref (am 33), .ref (am 34), .ref (am 35), .ref (am 36)]))] ++ wt) sz [.ref m0, .int b, .int 0]) (gc_I G (va_A ([((am 20), .inl (G.2.2 0, 110, .inl sd)), (m0, .inr (12, [.ref (am 0), .int v1, .int v2, .ref (am 3), .ref (am 4), .ref (am 5), .ref (am 6), .ref (am 7), .int v8, .int v9, .int v10, .int v11, .int v12, .int v13, .int v14, .ref (am 15), .int v16, .ref (am 17), .int v18, .ref (am 19), .ref (am 20), .int v21, .int v22, .int v23, .int v24, .int v25, .ref (am 26), .int v27, .ref (am 28), .ref (am 29), .ref (am 30), .ref (am 31), .long v32, .ref (am 33), .ref (am 34), .ref (am 35), .ref (am 36)]))] ++ wt) sz) (fun r (u : va_W) => match u with | wt1 => tk_ty G Γ wt1 ∧ tk_kp [] wt wt1 ∧ ((sd (36 + 4 * b.toInt.toNat)).toInt = r.toInt)) (fun (u : va_W) => match u with | wt1 => [((am 20), .inl (G.2.2 0, 110, .inl sd)), (m0, .inr (12, [.ref (am 0), .int v1, .int v2, .ref (am 3), .ref (am 4), .ref (am 5), .ref (am 6), .ref (am 7), .int v8, .int v9, .int v10, .int v11, .int v12, .int v13, .int v14, .ref (am 15), .int v16, .ref (am 17), .int v18, .ref (am 19), .ref (am 20), .int v21, .int v22, .int v23, .int v24, .int v25, .ref (am 26), .int v27, .ref (am 28), .ref (am 29), .ref (am 30), .ref (am 31), .long v32, .ref (am 33), .ref (am 34), .ref (am 35), .ref (am 36)]))] ++ wt1)) 0 0 (va_A ([((am 20), .inl (G.2.2 0, 110, .inl sd)), (m0, .inr (12, [.ref (am 0), .int v1, .int v2, .ref (am 3), .ref (am 4), .ref (am 5), .ref (am 6), .ref (am 7), .int v8, .int v9, .int v10, .int v11, .int v12, .int v13, .int v14, .ref (am 15), .int v16, .ref (am 17), .int v18, .ref (am 19), .ref (am 20), .int v21, .int v22, .int v23, .int v24, .int v25, .ref (am 26), .int v27, .ref (am 28), .ref (am 29), .ref (am 30), .ref (am 31), .long v32, .ref (am 33), .ref (am 34), .ref (am 35), .ref (am 36)]))] ++ wt) sz) := by
  refine Met.ofW (cc := cX12_lotOf) (maxL := 3) (ret := (some .int)) (by decide) rfl ?_
  intro p e s m args below meth c s₁ B hml hv
  obtain ⟨rfl, hsz, hP, hK, hD0⟩ := hv
  have hx := B.exec
  have hb := B.bytes
  have hr := B.returns
  have ht := ts_ht (atoms_spec (ws := ts_L yX12_lotOf cX12_lotOf 3 (some .int)) B.pre)
  have hown : s.vm.findClass RX12 = some m.cls := findClass_of_methodNamed B.named
  have hlocks := B.notSynchronized
  subst hsz
  have hD := hD0.self (sz := s.heap.size)
  generalize hAe : va_A ([((am 20), .inl (G.2.2 0, 110, .inl sd)), (m0, .inr (12, [.ref (am 0), .int v1, .int v2, .ref (am 3), .ref (am 4), .ref (am 5), .ref (am 6), .ref (am 7), .int v8, .int v9, .int v10, .int v11, .int v12, .int v13, .int v14, .ref (am 15), .int v16, .ref (am 17), .int v18, .ref (am 19), .ref (am 20), .int v21, .int v22, .int v23, .int v24, .int v25, .ref (am 26), .int v27, .ref (am 28), .ref (am 29), .ref (am 30), .ref (am 31), .long v32, .ref (am 33), .ref (am 34), .ref (am 35), .ref (am 36)]))] ++ wt) s.heap.size = A at hD ⊢
  have hA : ∀ q : Nat, s.heap.size ≤ q → A q := fun q h => by rw [← hAe]; exact Or.inr h
  clear hAe hD0
  have hS : va_S A s.heap s.heap [] := va_S.rf
  obtain ⟨w0, hw0⟩ : ∃ z, z = wt := ⟨_, rfl⟩
  have hW : tk_kp [] w0 wt := by rw [hw0]; exact tk_kp.rf
  rw [← hw0]
  clear hw0
  have hP : va_P (gg_D G) classes ([((am 20), .inl (G.2.2 0, 110, .inl sd)), (m0, .inr (12, [.ref (am 0), .int v1, .int v2, .ref (am 3), .ref (am 4), .ref (am 5), .ref (am 6), .ref (am 7), .int v8, .int v9, .int v10, .int v11, .int v12, .int v13, .int v14, .ref (am 15), .int v16, .ref (am 17), .int v18, .ref (am 19), .ref (am 20), .int v21, .int v22, .int v23, .int v24, .int v25, .ref (am 26), .int v27, .ref (am 28), .ref (am 29), .ref (am 30), .ref (am 31), .long v32, .ref (am 33), .ref (am 34), .ref (am 35), .ref (am 36)]))] ++ wt) s.heap := hP
  have hD : va_D A ([((am 20), .inl (G.2.2 0, 110, .inl sd)), (m0, .inr (12, [.ref (am 0), .int v1, .int v2, .ref (am 3), .ref (am 4), .ref (am 5), .ref (am 6), .ref (am 7), .int v8, .int v9, .int v10, .int v11, .int v12, .int v13, .int v14, .ref (am 15), .int v16, .ref (am 17), .int v18, .ref (am 19), .ref (am 20), .int v21, .int v22, .int v23, .int v24, .int v25, .ref (am 26), .int v27, .ref (am 28), .ref (am 29), .ref (am 30), .ref (am 31), .long v32, .ref (am 33), .ref (am 34), .ref (am 35), .ref (am 36)]))] ++ wt) := hD
  have hl := lv_entry ([.ref m0, .int b, .int 0]) (n := 3) (Nat.le_of_ble_eq_true rfl)
  rw [lg_entry_eq]
  generalize (lg_sl ([.ref m0, .int b, .int 0]) ++ List.replicate (3 - (lg_sl ([.ref m0, .int b, .int 0])).length) Slot.unset).toArray = ls at hl ⊢
  have hl : lv_has ls 3 [(0, .ref m0), (1, .int b), (2, .int 0)] := hl
  have l0 : (0 : Int32).toInt = 0 := by decide +kernel
  have l4 : (4 : Int32).toInt = 4 := by decide +kernel
  have l36 : (36 : Int32).toInt = 36 := by decide +kernel
  refine lv_aload_n hx hb dX12_lotOf_0 rfl (lv_at hl 0 rfl) ?_
  refine gq_get hx hb ht hown hK hP i_X12 1 rfl rfl 20 (by decide) wd_1272 rfl rfl dX12_lotOf_1 ?_
  refine lv_bipush (v := 36) hx hb dX12_lotOf_4 (by decide +kernel) ?_
  refine lv_iconst (v := 4) hx hb dX12_lotOf_6 (by decide +kernel) ?_
  refine lv_iload_n hx hb dX12_lotOf_7 rfl (lv_at hl 1 rfl) ?_
  obtain ⟨t_1, et_1⟩ : ∃ zz_ : Int32, 4 * b = zz_ := ⟨_, rfl⟩
  refine gq_imul hx hb t_1 et_1 dX12_lotOf_8 ?_
  have ft_1 := ia_mul et_1 (by rw [l4]; omega) (by rw [l4]; omega)
  rw [l4] at ft_1
  obtain ⟨t_2, et_2⟩ : ∃ zz_ : Int32, 36 + t_1 = zz_ := ⟨_, rfl⟩
  refine gq_iadd hx hb t_2 et_2 dX12_lotOf_9 ?_
  have ft_2 := ia_add et_2 (by omega) (by omega)
  refine lv_iload_n hx hb dX12_lotOf_10 rfl (lv_at hl 2 rfl) ?_
  obtain ⟨t_3, et_3⟩ : ∃ zz_ : Int32, t_2 + 0 = zz_ := ⟨_, rfl⟩
  refine gq_iadd hx hb t_3 et_3 dX12_lotOf_11 ?_
  have ft_3 := ia_add et_3 (by omega) (by omega)
  obtain ⟨n_4, en_4⟩ : ∃ zz_ : Int32, sd (Int32.toNatClampNeg t_3) = zz_ := ⟨_, rfl⟩
  refine gq_iald hx hb hK hP 0 rfl n_4 (ia_in (n := 110) (by omega) (by omega)) en_4 dX12_lotOf_12 ?_
  have En_4 : sd (36 + 4 * b.toInt.toNat) = n_4 := by rw [← show Int32.toNatClampNeg t_3 = 36 + 4 * b.toInt.toNat from ix_n (by omega)]; exact en_4
  have hn_4 : (sd (36 + 4 * b.toInt.toNat)).toInt = n_4.toInt := by rw [En_4]
  have hP9 : va_P (gg_D G) classes ([((am 20), .inl (G.2.2 0, 110, .inl sd)), (m0, .inr (12, [.ref (am 0), .int v1, .int v2, .ref (am 3), .ref (am 4), .ref (am 5), .ref (am 6), .ref (am 7), .int v8, .int v9, .int v10, .int v11, .int v12, .int v13, .int v14, .ref (am 15), .int v16, .ref (am 17), .int v18, .ref (am 19), .ref (am 20), .int v21, .int v22, .int v23, .int v24, .int v25, .ref (am 26), .int v27, .ref (am 28), .ref (am 29), .ref (am 30), .ref (am 31), .long v32, .ref (am 33), .ref (am 34), .ref (am 35), .ref (am 36)]))] ++ wt) _ := hP
  have hD9 : va_D A ([((am 20), .inl (G.2.2 0, 110, .inl sd)), (m0, .inr (12, [.ref (am 0), .int v1, .int v2, .ref (am 3), .ref (am 4), .ref (am 5), .ref (am 6), .ref (am 7), .int v8, .int v9, .int v10, .int v11, .int v12, .int v13, .int v14, .ref (am 15), .int v16, .ref (am 17), .int v18, .ref (am 19), .ref (am 20), .int v21, .int v22, .int v23, .int v24, .int v25, .ref (am 26), .int v27, .ref (am 28), .ref (am 29), .ref (am 30), .ref (am 31), .long v32, .ref (am 33), .ref (am 34), .ref (am 35), .ref (am 36)]))] ++ wt) := hD
  exact W.iret (v := n_4) hx hb hr (gq_endI wt ⟨hT, hW, (by omega)⟩ hP9 hD9 hS) hS.2.2 dX12_lotOf_13
set_option maxHeartbeats 4000000 in
set_option maxRecDepth 100000 in
theorem d_m_lot1 (l : Launch) (G : gg_T) (Γ : Nat → Nat) (sz : Nat) (wt : va_W) (hT : tk_ty G Γ wt) (b : Int32) (m0 : Nat) (am : Nat → Nat) (v1 : Int32) (v2 : Int32) (v8 : Int32) (v9 : Int32) (v10 : Int32) (v11 : Int32) (v12 : Int32) (v13 : Int32) (v14 : Int32) (v16 : Int32) (v18 : Int32) (v21 : Int32) (v22 : Int32) (v23 : Int32) (v24 : Int32) (v25 : Int32) (v27 : Int32) (v32 : Int64) (sd : Nat → Int32) (lo_b : 0 ≤ b.toInt) (hi_b : b.toInt ≤ 2) (k17 : Γ (am 17) = 32) (k19 : Γ (am 19) = 30) (k30 : Γ (am 30) = 28) (k31 : Γ (am 31) = 28) (lo_v1 : 0 ≤ v1.toInt) (hi_v1 : v1.toInt ≤ 400) (lo_v2 : 0 ≤ v2.toInt) (hi_v2 : v2.toInt ≤ 6) (lo_v8 : 0 ≤ v8.toInt) (hi_v8 : v8.toInt ≤ 400) (lo_v11 : 0 ≤ v11.toInt) (hi_v11 : v11.toInt ≤ 6) (lo_v12 : 0 ≤ v12.toInt) (hi_v12 : v12.toInt ≤ 60) (lo_v16 : 0 ≤ v16.toInt) (hi_v16 : v16.toInt ≤ 400) (lo_v21 : -1 ≤ v21.toInt) (hi_v21 : v21.toInt ≤ 5) (lo_v23 : 0 ≤ v23.toInt) (hi_v23 : v23.toInt ≤ 31) (lo_v27 : 0 ≤ v27.toInt) (hi_v27 : v27.toInt ≤ 20) (xfr : v21.toInt < v2.toInt) : Met l yX12_lotOf (ts_L yX12_lotOf cX12_lotOf 3 (some .int)) ({ frames := 0, cells := 0, slots := 0, locals := 0 }) (gc_P G ([((am 20), .inl (G.2.2 0, 110, .inl sd)), (m0, .inr (12, [.ref (am 0), .int v1, .int v2, .ref (am 3), .ref (am 4), .ref (am 5), .ref (am 6), .ref (am 7), .int v8, .int v9, .int v10, .int v11, .int v12, .int v13, .int v14, .ref (am 15), .int v16, .ref (am 17), .int v18, .ref (am 19), .ref (am 20), .int v21, .int v22, .int v23, .int v24, .int v25, .ref (am 26), .int v27, .ref (am 28), .ref (am 29), .ref (am 30), .ref (am 31), .long v32, .ref (am 33), .ref (am 34), .ref (am 35), .ref (am 36)]))] ++ wt) sz [.ref m0, .int b, .int 1]) (gc_I G (va_A ([((am 20), .inl (G.2.2 0, 110, .inl sd)), (m0, .inr (12, [.ref (am 0), .int v1, .int v2, .ref (am 3), .ref (am 4), .ref (am 5), .ref (am 6), .ref (am 7), .int v8, .int v9, .int v10, .int v11, .int v12, .int v13, .int v14, .ref (am 15), .int v16, .ref (am 17), .int v18, .ref (am 19), .ref (am 20), .int v21, .int v22, .int v23, .int v24, .int v25, .ref (am 26), .int v27, .ref (am 28), .ref (am 29), .ref (am 30), .ref (am 31), .long v32, .ref (am 33), .ref (am 34), .ref (am 35), .ref (am 36)]))] ++ wt) sz) (fun r (u : va_W) => match u with | wt1 => tk_ty G Γ wt1 ∧ tk_kp [] wt wt1 ∧ ((sd (37 + 4 * b.toInt.toNat)).toInt = r.toInt)) (fun (u : va_W) => match u with | wt1 => [((am 20), .inl (G.2.2 0, 110, .inl sd)), (m0, .inr (12, [.ref (am 0), .int v1, .int v2, .ref (am 3), .ref (am 4), .ref (am 5), .ref (am 6), .ref (am 7), .int v8, .int v9, .int v10, .int v11, .int v12, .int v13, .int v14, .ref (am 15), .int v16, .ref (am 17), .int v18, .ref (am 19), .ref (am 20), .int v21, .int v22, .int v23, .int v24, .int v25, .ref (am 26), .int v27, .ref (am 28), .ref (am 29), .ref (am 30), .ref (am 31), .long v32, .ref (am 33), .ref (am 34), .ref (am 35), .ref (am 36)]))] ++ wt1)) 0 0 (va_A ([((am 20), .inl (G.2.2 0, 110, .inl sd)), (m0, .inr (12, [.ref (am 0), .int v1, .int v2, .ref (am 3), .ref (am 4), .ref (am 5), .ref (am 6), .ref (am 7), .int v8, .int v9, .int v10, .int v11, .int v12, .int v13, .int v14, .ref (am 15), .int v16, .ref (am 17), .int v18, .ref (am 19), .ref (am 20), .int v21, .int v22, .int v23, .int v24, .int v25, .ref (am 26), .int v27, .ref (am 28), .ref (am 29), .ref (am 30), .ref (am 31), .long v32, .ref (am 33), .ref (am 34), .ref (am 35), .ref (am 36)]))] ++ wt) sz) := by
  refine Met.ofW (cc := cX12_lotOf) (maxL := 3) (ret := (some .int)) (by decide) rfl ?_
  intro p e s m args below meth c s₁ B hml hv
  obtain ⟨rfl, hsz, hP, hK, hD0⟩ := hv
  have hx := B.exec
  have hb := B.bytes
  have hr := B.returns
  have ht := ts_ht (atoms_spec (ws := ts_L yX12_lotOf cX12_lotOf 3 (some .int)) B.pre)
  have hown : s.vm.findClass RX12 = some m.cls := findClass_of_methodNamed B.named
  have hlocks := B.notSynchronized
  subst hsz
  have hD := hD0.self (sz := s.heap.size)
  generalize hAe : va_A ([((am 20), .inl (G.2.2 0, 110, .inl sd)), (m0, .inr (12, [.ref (am 0), .int v1, .int v2, .ref (am 3), .ref (am 4), .ref (am 5), .ref (am 6), .ref (am 7), .int v8, .int v9, .int v10, .int v11, .int v12, .int v13, .int v14, .ref (am 15), .int v16, .ref (am 17), .int v18, .ref (am 19), .ref (am 20), .int v21, .int v22, .int v23, .int v24, .int v25, .ref (am 26), .int v27, .ref (am 28), .ref (am 29), .ref (am 30), .ref (am 31), .long v32, .ref (am 33), .ref (am 34), .ref (am 35), .ref (am 36)]))] ++ wt) s.heap.size = A at hD ⊢
  have hA : ∀ q : Nat, s.heap.size ≤ q → A q := fun q h => by rw [← hAe]; exact Or.inr h
  clear hAe hD0
  have hS : va_S A s.heap s.heap [] := va_S.rf
  obtain ⟨w0, hw0⟩ : ∃ z, z = wt := ⟨_, rfl⟩
  have hW : tk_kp [] w0 wt := by rw [hw0]; exact tk_kp.rf
  rw [← hw0]
  clear hw0
  have hP : va_P (gg_D G) classes ([((am 20), .inl (G.2.2 0, 110, .inl sd)), (m0, .inr (12, [.ref (am 0), .int v1, .int v2, .ref (am 3), .ref (am 4), .ref (am 5), .ref (am 6), .ref (am 7), .int v8, .int v9, .int v10, .int v11, .int v12, .int v13, .int v14, .ref (am 15), .int v16, .ref (am 17), .int v18, .ref (am 19), .ref (am 20), .int v21, .int v22, .int v23, .int v24, .int v25, .ref (am 26), .int v27, .ref (am 28), .ref (am 29), .ref (am 30), .ref (am 31), .long v32, .ref (am 33), .ref (am 34), .ref (am 35), .ref (am 36)]))] ++ wt) s.heap := hP
  have hD : va_D A ([((am 20), .inl (G.2.2 0, 110, .inl sd)), (m0, .inr (12, [.ref (am 0), .int v1, .int v2, .ref (am 3), .ref (am 4), .ref (am 5), .ref (am 6), .ref (am 7), .int v8, .int v9, .int v10, .int v11, .int v12, .int v13, .int v14, .ref (am 15), .int v16, .ref (am 17), .int v18, .ref (am 19), .ref (am 20), .int v21, .int v22, .int v23, .int v24, .int v25, .ref (am 26), .int v27, .ref (am 28), .ref (am 29), .ref (am 30), .ref (am 31), .long v32, .ref (am 33), .ref (am 34), .ref (am 35), .ref (am 36)]))] ++ wt) := hD
  have hl := lv_entry ([.ref m0, .int b, .int 1]) (n := 3) (Nat.le_of_ble_eq_true rfl)
  rw [lg_entry_eq]
  generalize (lg_sl ([.ref m0, .int b, .int 1]) ++ List.replicate (3 - (lg_sl ([.ref m0, .int b, .int 1])).length) Slot.unset).toArray = ls at hl ⊢
  have hl : lv_has ls 3 [(0, .ref m0), (1, .int b), (2, .int 1)] := hl
  have l1 : (1 : Int32).toInt = 1 := by decide +kernel
  have l4 : (4 : Int32).toInt = 4 := by decide +kernel
  have l36 : (36 : Int32).toInt = 36 := by decide +kernel
  refine lv_aload_n hx hb dX12_lotOf_0 rfl (lv_at hl 0 rfl) ?_
  refine gq_get hx hb ht hown hK hP i_X12 1 rfl rfl 20 (by decide) wd_1272 rfl rfl dX12_lotOf_1 ?_
  refine lv_bipush (v := 36) hx hb dX12_lotOf_4 (by decide +kernel) ?_
  refine lv_iconst (v := 4) hx hb dX12_lotOf_6 (by decide +kernel) ?_
  refine lv_iload_n hx hb dX12_lotOf_7 rfl (lv_at hl 1 rfl) ?_
  obtain ⟨t_1, et_1⟩ : ∃ zz_ : Int32, 4 * b = zz_ := ⟨_, rfl⟩
  refine gq_imul hx hb t_1 et_1 dX12_lotOf_8 ?_
  have ft_1 := ia_mul et_1 (by rw [l4]; omega) (by rw [l4]; omega)
  rw [l4] at ft_1
  obtain ⟨t_2, et_2⟩ : ∃ zz_ : Int32, 36 + t_1 = zz_ := ⟨_, rfl⟩
  refine gq_iadd hx hb t_2 et_2 dX12_lotOf_9 ?_
  have ft_2 := ia_add et_2 (by omega) (by omega)
  refine lv_iload_n hx hb dX12_lotOf_10 rfl (lv_at hl 2 rfl) ?_
  obtain ⟨t_3, et_3⟩ : ∃ zz_ : Int32, t_2 + 1 = zz_ := ⟨_, rfl⟩
  refine gq_iadd hx hb t_3 et_3 dX12_lotOf_11 ?_
  have ft_3 := ia_add et_3 (by omega) (by omega)
  obtain ⟨n_4, en_4⟩ : ∃ zz_ : Int32, sd (Int32.toNatClampNeg t_3) = zz_ := ⟨_, rfl⟩
  refine gq_iald hx hb hK hP 0 rfl n_4 (ia_in (n := 110) (by omega) (by omega)) en_4 dX12_lotOf_12 ?_
  have En_4 : sd (37 + 4 * b.toInt.toNat) = n_4 := by rw [← show Int32.toNatClampNeg t_3 = 37 + 4 * b.toInt.toNat from ix_n (by omega)]; exact en_4
  have hn_4 : (sd (37 + 4 * b.toInt.toNat)).toInt = n_4.toInt := by rw [En_4]
  have hP9 : va_P (gg_D G) classes ([((am 20), .inl (G.2.2 0, 110, .inl sd)), (m0, .inr (12, [.ref (am 0), .int v1, .int v2, .ref (am 3), .ref (am 4), .ref (am 5), .ref (am 6), .ref (am 7), .int v8, .int v9, .int v10, .int v11, .int v12, .int v13, .int v14, .ref (am 15), .int v16, .ref (am 17), .int v18, .ref (am 19), .ref (am 20), .int v21, .int v22, .int v23, .int v24, .int v25, .ref (am 26), .int v27, .ref (am 28), .ref (am 29), .ref (am 30), .ref (am 31), .long v32, .ref (am 33), .ref (am 34), .ref (am 35), .ref (am 36)]))] ++ wt) _ := hP
  have hD9 : va_D A ([((am 20), .inl (G.2.2 0, 110, .inl sd)), (m0, .inr (12, [.ref (am 0), .int v1, .int v2, .ref (am 3), .ref (am 4), .ref (am 5), .ref (am 6), .ref (am 7), .int v8, .int v9, .int v10, .int v11, .int v12, .int v13, .int v14, .ref (am 15), .int v16, .ref (am 17), .int v18, .ref (am 19), .ref (am 20), .int v21, .int v22, .int v23, .int v24, .int v25, .ref (am 26), .int v27, .ref (am 28), .ref (am 29), .ref (am 30), .ref (am 31), .long v32, .ref (am 33), .ref (am 34), .ref (am 35), .ref (am 36)]))] ++ wt) := hD
  exact W.iret (v := n_4) hx hb hr (gq_endI wt ⟨hT, hW, (by omega)⟩ hP9 hD9 hS) hS.2.2 dX12_lotOf_13
set_option maxHeartbeats 4000000 in
set_option maxRecDepth 100000 in
theorem d_m_lot2 (l : Launch) (G : gg_T) (Γ : Nat → Nat) (sz : Nat) (wt : va_W) (hT : tk_ty G Γ wt) (b : Int32) (m0 : Nat) (am : Nat → Nat) (v1 : Int32) (v2 : Int32) (v8 : Int32) (v9 : Int32) (v10 : Int32) (v11 : Int32) (v12 : Int32) (v13 : Int32) (v14 : Int32) (v16 : Int32) (v18 : Int32) (v21 : Int32) (v22 : Int32) (v23 : Int32) (v24 : Int32) (v25 : Int32) (v27 : Int32) (v32 : Int64) (sd : Nat → Int32) (lo_b : 0 ≤ b.toInt) (hi_b : b.toInt ≤ 2) (k17 : Γ (am 17) = 32) (k19 : Γ (am 19) = 30) (k30 : Γ (am 30) = 28) (k31 : Γ (am 31) = 28) (lo_v1 : 0 ≤ v1.toInt) (hi_v1 : v1.toInt ≤ 400) (lo_v2 : 0 ≤ v2.toInt) (hi_v2 : v2.toInt ≤ 6) (lo_v8 : 0 ≤ v8.toInt) (hi_v8 : v8.toInt ≤ 400) (lo_v11 : 0 ≤ v11.toInt) (hi_v11 : v11.toInt ≤ 6) (lo_v12 : 0 ≤ v12.toInt) (hi_v12 : v12.toInt ≤ 60) (lo_v16 : 0 ≤ v16.toInt) (hi_v16 : v16.toInt ≤ 400) (lo_v21 : -1 ≤ v21.toInt) (hi_v21 : v21.toInt ≤ 5) (lo_v23 : 0 ≤ v23.toInt) (hi_v23 : v23.toInt ≤ 31) (lo_v27 : 0 ≤ v27.toInt) (hi_v27 : v27.toInt ≤ 20) (xfr : v21.toInt < v2.toInt) : Met l yX12_lotOf (ts_L yX12_lotOf cX12_lotOf 3 (some .int)) ({ frames := 0, cells := 0, slots := 0, locals := 0 }) (gc_P G ([((am 20), .inl (G.2.2 0, 110, .inl sd)), (m0, .inr (12, [.ref (am 0), .int v1, .int v2, .ref (am 3), .ref (am 4), .ref (am 5), .ref (am 6), .ref (am 7), .int v8, .int v9, .int v10, .int v11, .int v12, .int v13, .int v14, .ref (am 15), .int v16, .ref (am 17), .int v18, .ref (am 19), .ref (am 20), .int v21, .int v22, .int v23, .int v24, .int v25, .ref (am 26), .int v27, .ref (am 28), .ref (am 29), .ref (am 30), .ref (am 31), .long v32, .ref (am 33), .ref (am 34), .ref (am 35), .ref (am 36)]))] ++ wt) sz [.ref m0, .int b, .int 2]) (gc_I G (va_A ([((am 20), .inl (G.2.2 0, 110, .inl sd)), (m0, .inr (12, [.ref (am 0), .int v1, .int v2, .ref (am 3), .ref (am 4), .ref (am 5), .ref (am 6), .ref (am 7), .int v8, .int v9, .int v10, .int v11, .int v12, .int v13, .int v14, .ref (am 15), .int v16, .ref (am 17), .int v18, .ref (am 19), .ref (am 20), .int v21, .int v22, .int v23, .int v24, .int v25, .ref (am 26), .int v27, .ref (am 28), .ref (am 29), .ref (am 30), .ref (am 31), .long v32, .ref (am 33), .ref (am 34), .ref (am 35), .ref (am 36)]))] ++ wt) sz) (fun r (u : va_W) => match u with | wt1 => tk_ty G Γ wt1 ∧ tk_kp [] wt wt1 ∧ ((sd (38 + 4 * b.toInt.toNat)).toInt = r.toInt)) (fun (u : va_W) => match u with | wt1 => [((am 20), .inl (G.2.2 0, 110, .inl sd)), (m0, .inr (12, [.ref (am 0), .int v1, .int v2, .ref (am 3), .ref (am 4), .ref (am 5), .ref (am 6), .ref (am 7), .int v8, .int v9, .int v10, .int v11, .int v12, .int v13, .int v14, .ref (am 15), .int v16, .ref (am 17), .int v18, .ref (am 19), .ref (am 20), .int v21, .int v22, .int v23, .int v24, .int v25, .ref (am 26), .int v27, .ref (am 28), .ref (am 29), .ref (am 30), .ref (am 31), .long v32, .ref (am 33), .ref (am 34), .ref (am 35), .ref (am 36)]))] ++ wt1)) 0 0 (va_A ([((am 20), .inl (G.2.2 0, 110, .inl sd)), (m0, .inr (12, [.ref (am 0), .int v1, .int v2, .ref (am 3), .ref (am 4), .ref (am 5), .ref (am 6), .ref (am 7), .int v8, .int v9, .int v10, .int v11, .int v12, .int v13, .int v14, .ref (am 15), .int v16, .ref (am 17), .int v18, .ref (am 19), .ref (am 20), .int v21, .int v22, .int v23, .int v24, .int v25, .ref (am 26), .int v27, .ref (am 28), .ref (am 29), .ref (am 30), .ref (am 31), .long v32, .ref (am 33), .ref (am 34), .ref (am 35), .ref (am 36)]))] ++ wt) sz) := by
  refine Met.ofW (cc := cX12_lotOf) (maxL := 3) (ret := (some .int)) (by decide) rfl ?_
  intro p e s m args below meth c s₁ B hml hv
  obtain ⟨rfl, hsz, hP, hK, hD0⟩ := hv
  have hx := B.exec
  have hb := B.bytes
  have hr := B.returns
  have ht := ts_ht (atoms_spec (ws := ts_L yX12_lotOf cX12_lotOf 3 (some .int)) B.pre)
  have hown : s.vm.findClass RX12 = some m.cls := findClass_of_methodNamed B.named
  have hlocks := B.notSynchronized
  subst hsz
  have hD := hD0.self (sz := s.heap.size)
  generalize hAe : va_A ([((am 20), .inl (G.2.2 0, 110, .inl sd)), (m0, .inr (12, [.ref (am 0), .int v1, .int v2, .ref (am 3), .ref (am 4), .ref (am 5), .ref (am 6), .ref (am 7), .int v8, .int v9, .int v10, .int v11, .int v12, .int v13, .int v14, .ref (am 15), .int v16, .ref (am 17), .int v18, .ref (am 19), .ref (am 20), .int v21, .int v22, .int v23, .int v24, .int v25, .ref (am 26), .int v27, .ref (am 28), .ref (am 29), .ref (am 30), .ref (am 31), .long v32, .ref (am 33), .ref (am 34), .ref (am 35), .ref (am 36)]))] ++ wt) s.heap.size = A at hD ⊢
  have hA : ∀ q : Nat, s.heap.size ≤ q → A q := fun q h => by rw [← hAe]; exact Or.inr h
  clear hAe hD0
  have hS : va_S A s.heap s.heap [] := va_S.rf
  obtain ⟨w0, hw0⟩ : ∃ z, z = wt := ⟨_, rfl⟩
  have hW : tk_kp [] w0 wt := by rw [hw0]; exact tk_kp.rf
  rw [← hw0]
  clear hw0
  have hP : va_P (gg_D G) classes ([((am 20), .inl (G.2.2 0, 110, .inl sd)), (m0, .inr (12, [.ref (am 0), .int v1, .int v2, .ref (am 3), .ref (am 4), .ref (am 5), .ref (am 6), .ref (am 7), .int v8, .int v9, .int v10, .int v11, .int v12, .int v13, .int v14, .ref (am 15), .int v16, .ref (am 17), .int v18, .ref (am 19), .ref (am 20), .int v21, .int v22, .int v23, .int v24, .int v25, .ref (am 26), .int v27, .ref (am 28), .ref (am 29), .ref (am 30), .ref (am 31), .long v32, .ref (am 33), .ref (am 34), .ref (am 35), .ref (am 36)]))] ++ wt) s.heap := hP
  have hD : va_D A ([((am 20), .inl (G.2.2 0, 110, .inl sd)), (m0, .inr (12, [.ref (am 0), .int v1, .int v2, .ref (am 3), .ref (am 4), .ref (am 5), .ref (am 6), .ref (am 7), .int v8, .int v9, .int v10, .int v11, .int v12, .int v13, .int v14, .ref (am 15), .int v16, .ref (am 17), .int v18, .ref (am 19), .ref (am 20), .int v21, .int v22, .int v23, .int v24, .int v25, .ref (am 26), .int v27, .ref (am 28), .ref (am 29), .ref (am 30), .ref (am 31), .long v32, .ref (am 33), .ref (am 34), .ref (am 35), .ref (am 36)]))] ++ wt) := hD
  have hl := lv_entry ([.ref m0, .int b, .int 2]) (n := 3) (Nat.le_of_ble_eq_true rfl)
  rw [lg_entry_eq]
  generalize (lg_sl ([.ref m0, .int b, .int 2]) ++ List.replicate (3 - (lg_sl ([.ref m0, .int b, .int 2])).length) Slot.unset).toArray = ls at hl ⊢
  have hl : lv_has ls 3 [(0, .ref m0), (1, .int b), (2, .int 2)] := hl
  have l2 : (2 : Int32).toInt = 2 := by decide +kernel
  have l4 : (4 : Int32).toInt = 4 := by decide +kernel
  have l36 : (36 : Int32).toInt = 36 := by decide +kernel
  refine lv_aload_n hx hb dX12_lotOf_0 rfl (lv_at hl 0 rfl) ?_
  refine gq_get hx hb ht hown hK hP i_X12 1 rfl rfl 20 (by decide) wd_1272 rfl rfl dX12_lotOf_1 ?_
  refine lv_bipush (v := 36) hx hb dX12_lotOf_4 (by decide +kernel) ?_
  refine lv_iconst (v := 4) hx hb dX12_lotOf_6 (by decide +kernel) ?_
  refine lv_iload_n hx hb dX12_lotOf_7 rfl (lv_at hl 1 rfl) ?_
  obtain ⟨t_1, et_1⟩ : ∃ zz_ : Int32, 4 * b = zz_ := ⟨_, rfl⟩
  refine gq_imul hx hb t_1 et_1 dX12_lotOf_8 ?_
  have ft_1 := ia_mul et_1 (by rw [l4]; omega) (by rw [l4]; omega)
  rw [l4] at ft_1
  obtain ⟨t_2, et_2⟩ : ∃ zz_ : Int32, 36 + t_1 = zz_ := ⟨_, rfl⟩
  refine gq_iadd hx hb t_2 et_2 dX12_lotOf_9 ?_
  have ft_2 := ia_add et_2 (by omega) (by omega)
  refine lv_iload_n hx hb dX12_lotOf_10 rfl (lv_at hl 2 rfl) ?_
  obtain ⟨t_3, et_3⟩ : ∃ zz_ : Int32, t_2 + 2 = zz_ := ⟨_, rfl⟩
  refine gq_iadd hx hb t_3 et_3 dX12_lotOf_11 ?_
  have ft_3 := ia_add et_3 (by omega) (by omega)
  obtain ⟨n_4, en_4⟩ : ∃ zz_ : Int32, sd (Int32.toNatClampNeg t_3) = zz_ := ⟨_, rfl⟩
  refine gq_iald hx hb hK hP 0 rfl n_4 (ia_in (n := 110) (by omega) (by omega)) en_4 dX12_lotOf_12 ?_
  have En_4 : sd (38 + 4 * b.toInt.toNat) = n_4 := by rw [← show Int32.toNatClampNeg t_3 = 38 + 4 * b.toInt.toNat from ix_n (by omega)]; exact en_4
  have hn_4 : (sd (38 + 4 * b.toInt.toNat)).toInt = n_4.toInt := by rw [En_4]
  have hP9 : va_P (gg_D G) classes ([((am 20), .inl (G.2.2 0, 110, .inl sd)), (m0, .inr (12, [.ref (am 0), .int v1, .int v2, .ref (am 3), .ref (am 4), .ref (am 5), .ref (am 6), .ref (am 7), .int v8, .int v9, .int v10, .int v11, .int v12, .int v13, .int v14, .ref (am 15), .int v16, .ref (am 17), .int v18, .ref (am 19), .ref (am 20), .int v21, .int v22, .int v23, .int v24, .int v25, .ref (am 26), .int v27, .ref (am 28), .ref (am 29), .ref (am 30), .ref (am 31), .long v32, .ref (am 33), .ref (am 34), .ref (am 35), .ref (am 36)]))] ++ wt) _ := hP
  have hD9 : va_D A ([((am 20), .inl (G.2.2 0, 110, .inl sd)), (m0, .inr (12, [.ref (am 0), .int v1, .int v2, .ref (am 3), .ref (am 4), .ref (am 5), .ref (am 6), .ref (am 7), .int v8, .int v9, .int v10, .int v11, .int v12, .int v13, .int v14, .ref (am 15), .int v16, .ref (am 17), .int v18, .ref (am 19), .ref (am 20), .int v21, .int v22, .int v23, .int v24, .int v25, .ref (am 26), .int v27, .ref (am 28), .ref (am 29), .ref (am 30), .ref (am 31), .long v32, .ref (am 33), .ref (am 34), .ref (am 35), .ref (am 36)]))] ++ wt) := hD
  exact W.iret (v := n_4) hx hb hr (gq_endI wt ⟨hT, hW, (by omega)⟩ hP9 hD9 hS) hS.2.2 dX12_lotOf_13
set_option maxHeartbeats 4000000 in
set_option maxRecDepth 100000 in
theorem d_m_lot3 (l : Launch) (G : gg_T) (Γ : Nat → Nat) (sz : Nat) (wt : va_W) (hT : tk_ty G Γ wt) (b : Int32) (m0 : Nat) (am : Nat → Nat) (v1 : Int32) (v2 : Int32) (v8 : Int32) (v9 : Int32) (v10 : Int32) (v11 : Int32) (v12 : Int32) (v13 : Int32) (v14 : Int32) (v16 : Int32) (v18 : Int32) (v21 : Int32) (v22 : Int32) (v23 : Int32) (v24 : Int32) (v25 : Int32) (v27 : Int32) (v32 : Int64) (sd : Nat → Int32) (lo_b : 0 ≤ b.toInt) (hi_b : b.toInt ≤ 2) (k17 : Γ (am 17) = 32) (k19 : Γ (am 19) = 30) (k30 : Γ (am 30) = 28) (k31 : Γ (am 31) = 28) (lo_v1 : 0 ≤ v1.toInt) (hi_v1 : v1.toInt ≤ 400) (lo_v2 : 0 ≤ v2.toInt) (hi_v2 : v2.toInt ≤ 6) (lo_v8 : 0 ≤ v8.toInt) (hi_v8 : v8.toInt ≤ 400) (lo_v11 : 0 ≤ v11.toInt) (hi_v11 : v11.toInt ≤ 6) (lo_v12 : 0 ≤ v12.toInt) (hi_v12 : v12.toInt ≤ 60) (lo_v16 : 0 ≤ v16.toInt) (hi_v16 : v16.toInt ≤ 400) (lo_v21 : -1 ≤ v21.toInt) (hi_v21 : v21.toInt ≤ 5) (lo_v23 : 0 ≤ v23.toInt) (hi_v23 : v23.toInt ≤ 31) (lo_v27 : 0 ≤ v27.toInt) (hi_v27 : v27.toInt ≤ 20) (xfr : v21.toInt < v2.toInt) : Met l yX12_lotOf (ts_L yX12_lotOf cX12_lotOf 3 (some .int)) ({ frames := 0, cells := 0, slots := 0, locals := 0 }) (gc_P G ([((am 20), .inl (G.2.2 0, 110, .inl sd)), (m0, .inr (12, [.ref (am 0), .int v1, .int v2, .ref (am 3), .ref (am 4), .ref (am 5), .ref (am 6), .ref (am 7), .int v8, .int v9, .int v10, .int v11, .int v12, .int v13, .int v14, .ref (am 15), .int v16, .ref (am 17), .int v18, .ref (am 19), .ref (am 20), .int v21, .int v22, .int v23, .int v24, .int v25, .ref (am 26), .int v27, .ref (am 28), .ref (am 29), .ref (am 30), .ref (am 31), .long v32, .ref (am 33), .ref (am 34), .ref (am 35), .ref (am 36)]))] ++ wt) sz [.ref m0, .int b, .int 3]) (gc_I G (va_A ([((am 20), .inl (G.2.2 0, 110, .inl sd)), (m0, .inr (12, [.ref (am 0), .int v1, .int v2, .ref (am 3), .ref (am 4), .ref (am 5), .ref (am 6), .ref (am 7), .int v8, .int v9, .int v10, .int v11, .int v12, .int v13, .int v14, .ref (am 15), .int v16, .ref (am 17), .int v18, .ref (am 19), .ref (am 20), .int v21, .int v22, .int v23, .int v24, .int v25, .ref (am 26), .int v27, .ref (am 28), .ref (am 29), .ref (am 30), .ref (am 31), .long v32, .ref (am 33), .ref (am 34), .ref (am 35), .ref (am 36)]))] ++ wt) sz) (fun r (u : va_W) => match u with | wt1 => tk_ty G Γ wt1 ∧ tk_kp [] wt wt1 ∧ ((sd (39 + 4 * b.toInt.toNat)).toInt = r.toInt)) (fun (u : va_W) => match u with | wt1 => [((am 20), .inl (G.2.2 0, 110, .inl sd)), (m0, .inr (12, [.ref (am 0), .int v1, .int v2, .ref (am 3), .ref (am 4), .ref (am 5), .ref (am 6), .ref (am 7), .int v8, .int v9, .int v10, .int v11, .int v12, .int v13, .int v14, .ref (am 15), .int v16, .ref (am 17), .int v18, .ref (am 19), .ref (am 20), .int v21, .int v22, .int v23, .int v24, .int v25, .ref (am 26), .int v27, .ref (am 28), .ref (am 29), .ref (am 30), .ref (am 31), .long v32, .ref (am 33), .ref (am 34), .ref (am 35), .ref (am 36)]))] ++ wt1)) 0 0 (va_A ([((am 20), .inl (G.2.2 0, 110, .inl sd)), (m0, .inr (12, [.ref (am 0), .int v1, .int v2, .ref (am 3), .ref (am 4), .ref (am 5), .ref (am 6), .ref (am 7), .int v8, .int v9, .int v10, .int v11, .int v12, .int v13, .int v14, .ref (am 15), .int v16, .ref (am 17), .int v18, .ref (am 19), .ref (am 20), .int v21, .int v22, .int v23, .int v24, .int v25, .ref (am 26), .int v27, .ref (am 28), .ref (am 29), .ref (am 30), .ref (am 31), .long v32, .ref (am 33), .ref (am 34), .ref (am 35), .ref (am 36)]))] ++ wt) sz) := by
  refine Met.ofW (cc := cX12_lotOf) (maxL := 3) (ret := (some .int)) (by decide) rfl ?_
  intro p e s m args below meth c s₁ B hml hv
  obtain ⟨rfl, hsz, hP, hK, hD0⟩ := hv
  have hx := B.exec
  have hb := B.bytes
  have hr := B.returns
  have ht := ts_ht (atoms_spec (ws := ts_L yX12_lotOf cX12_lotOf 3 (some .int)) B.pre)
  have hown : s.vm.findClass RX12 = some m.cls := findClass_of_methodNamed B.named
  have hlocks := B.notSynchronized
  subst hsz
  have hD := hD0.self (sz := s.heap.size)
  generalize hAe : va_A ([((am 20), .inl (G.2.2 0, 110, .inl sd)), (m0, .inr (12, [.ref (am 0), .int v1, .int v2, .ref (am 3), .ref (am 4), .ref (am 5), .ref (am 6), .ref (am 7), .int v8, .int v9, .int v10, .int v11, .int v12, .int v13, .int v14, .ref (am 15), .int v16, .ref (am 17), .int v18, .ref (am 19), .ref (am 20), .int v21, .int v22, .int v23, .int v24, .int v25, .ref (am 26), .int v27, .ref (am 28), .ref (am 29), .ref (am 30), .ref (am 31), .long v32, .ref (am 33), .ref (am 34), .ref (am 35), .ref (am 36)]))] ++ wt) s.heap.size = A at hD ⊢
  have hA : ∀ q : Nat, s.heap.size ≤ q → A q := fun q h => by rw [← hAe]; exact Or.inr h
  clear hAe hD0
  have hS : va_S A s.heap s.heap [] := va_S.rf
  obtain ⟨w0, hw0⟩ : ∃ z, z = wt := ⟨_, rfl⟩
  have hW : tk_kp [] w0 wt := by rw [hw0]; exact tk_kp.rf
  rw [← hw0]
  clear hw0
  have hP : va_P (gg_D G) classes ([((am 20), .inl (G.2.2 0, 110, .inl sd)), (m0, .inr (12, [.ref (am 0), .int v1, .int v2, .ref (am 3), .ref (am 4), .ref (am 5), .ref (am 6), .ref (am 7), .int v8, .int v9, .int v10, .int v11, .int v12, .int v13, .int v14, .ref (am 15), .int v16, .ref (am 17), .int v18, .ref (am 19), .ref (am 20), .int v21, .int v22, .int v23, .int v24, .int v25, .ref (am 26), .int v27, .ref (am 28), .ref (am 29), .ref (am 30), .ref (am 31), .long v32, .ref (am 33), .ref (am 34), .ref (am 35), .ref (am 36)]))] ++ wt) s.heap := hP
  have hD : va_D A ([((am 20), .inl (G.2.2 0, 110, .inl sd)), (m0, .inr (12, [.ref (am 0), .int v1, .int v2, .ref (am 3), .ref (am 4), .ref (am 5), .ref (am 6), .ref (am 7), .int v8, .int v9, .int v10, .int v11, .int v12, .int v13, .int v14, .ref (am 15), .int v16, .ref (am 17), .int v18, .ref (am 19), .ref (am 20), .int v21, .int v22, .int v23, .int v24, .int v25, .ref (am 26), .int v27, .ref (am 28), .ref (am 29), .ref (am 30), .ref (am 31), .long v32, .ref (am 33), .ref (am 34), .ref (am 35), .ref (am 36)]))] ++ wt) := hD
  have hl := lv_entry ([.ref m0, .int b, .int 3]) (n := 3) (Nat.le_of_ble_eq_true rfl)
  rw [lg_entry_eq]
  generalize (lg_sl ([.ref m0, .int b, .int 3]) ++ List.replicate (3 - (lg_sl ([.ref m0, .int b, .int 3])).length) Slot.unset).toArray = ls at hl ⊢
  have hl : lv_has ls 3 [(0, .ref m0), (1, .int b), (2, .int 3)] := hl
  have l3 : (3 : Int32).toInt = 3 := by decide +kernel
  have l4 : (4 : Int32).toInt = 4 := by decide +kernel
  have l36 : (36 : Int32).toInt = 36 := by decide +kernel
  refine lv_aload_n hx hb dX12_lotOf_0 rfl (lv_at hl 0 rfl) ?_
  refine gq_get hx hb ht hown hK hP i_X12 1 rfl rfl 20 (by decide) wd_1272 rfl rfl dX12_lotOf_1 ?_
  refine lv_bipush (v := 36) hx hb dX12_lotOf_4 (by decide +kernel) ?_
  refine lv_iconst (v := 4) hx hb dX12_lotOf_6 (by decide +kernel) ?_
  refine lv_iload_n hx hb dX12_lotOf_7 rfl (lv_at hl 1 rfl) ?_
  obtain ⟨t_1, et_1⟩ : ∃ zz_ : Int32, 4 * b = zz_ := ⟨_, rfl⟩
  refine gq_imul hx hb t_1 et_1 dX12_lotOf_8 ?_
  have ft_1 := ia_mul et_1 (by rw [l4]; omega) (by rw [l4]; omega)
  rw [l4] at ft_1
  obtain ⟨t_2, et_2⟩ : ∃ zz_ : Int32, 36 + t_1 = zz_ := ⟨_, rfl⟩
  refine gq_iadd hx hb t_2 et_2 dX12_lotOf_9 ?_
  have ft_2 := ia_add et_2 (by omega) (by omega)
  refine lv_iload_n hx hb dX12_lotOf_10 rfl (lv_at hl 2 rfl) ?_
  obtain ⟨t_3, et_3⟩ : ∃ zz_ : Int32, t_2 + 3 = zz_ := ⟨_, rfl⟩
  refine gq_iadd hx hb t_3 et_3 dX12_lotOf_11 ?_
  have ft_3 := ia_add et_3 (by omega) (by omega)
  obtain ⟨n_4, en_4⟩ : ∃ zz_ : Int32, sd (Int32.toNatClampNeg t_3) = zz_ := ⟨_, rfl⟩
  refine gq_iald hx hb hK hP 0 rfl n_4 (ia_in (n := 110) (by omega) (by omega)) en_4 dX12_lotOf_12 ?_
  have En_4 : sd (39 + 4 * b.toInt.toNat) = n_4 := by rw [← show Int32.toNatClampNeg t_3 = 39 + 4 * b.toInt.toNat from ix_n (by omega)]; exact en_4
  have hn_4 : (sd (39 + 4 * b.toInt.toNat)).toInt = n_4.toInt := by rw [En_4]
  have hP9 : va_P (gg_D G) classes ([((am 20), .inl (G.2.2 0, 110, .inl sd)), (m0, .inr (12, [.ref (am 0), .int v1, .int v2, .ref (am 3), .ref (am 4), .ref (am 5), .ref (am 6), .ref (am 7), .int v8, .int v9, .int v10, .int v11, .int v12, .int v13, .int v14, .ref (am 15), .int v16, .ref (am 17), .int v18, .ref (am 19), .ref (am 20), .int v21, .int v22, .int v23, .int v24, .int v25, .ref (am 26), .int v27, .ref (am 28), .ref (am 29), .ref (am 30), .ref (am 31), .long v32, .ref (am 33), .ref (am 34), .ref (am 35), .ref (am 36)]))] ++ wt) _ := hP
  have hD9 : va_D A ([((am 20), .inl (G.2.2 0, 110, .inl sd)), (m0, .inr (12, [.ref (am 0), .int v1, .int v2, .ref (am 3), .ref (am 4), .ref (am 5), .ref (am 6), .ref (am 7), .int v8, .int v9, .int v10, .int v11, .int v12, .int v13, .int v14, .ref (am 15), .int v16, .ref (am 17), .int v18, .ref (am 19), .ref (am 20), .int v21, .int v22, .int v23, .int v24, .int v25, .ref (am 26), .int v27, .ref (am 28), .ref (am 29), .ref (am 30), .ref (am 31), .long v32, .ref (am 33), .ref (am 34), .ref (am 35), .ref (am 36)]))] ++ wt) := hD
  exact W.iret (v := n_4) hx hb hr (gq_endI wt ⟨hT, hW, (by omega)⟩ hP9 hD9 hS) hS.2.2 dX12_lotOf_13
set_option maxHeartbeats 4000000 in
set_option maxRecDepth 100000 in
theorem d_m_lot (l : Launch) (G : gg_T) (Γ : Nat → Nat) (sz : Nat) (wt : va_W) (hT : tk_ty G Γ wt) (b : Int32) (w : Int32) (m0 : Nat) (am : Nat → Nat) (v1 : Int32) (v2 : Int32) (v8 : Int32) (v9 : Int32) (v10 : Int32) (v11 : Int32) (v12 : Int32) (v13 : Int32) (v14 : Int32) (v16 : Int32) (v18 : Int32) (v21 : Int32) (v22 : Int32) (v23 : Int32) (v24 : Int32) (v25 : Int32) (v27 : Int32) (v32 : Int64) (sd : Nat → Int32) (lo_b : 0 ≤ b.toInt) (hi_b : b.toInt ≤ 2) (lo_w : 0 ≤ w.toInt) (hi_w : w.toInt ≤ 3) (k17 : Γ (am 17) = 32) (k19 : Γ (am 19) = 30) (k30 : Γ (am 30) = 28) (k31 : Γ (am 31) = 28) (lo_v1 : 0 ≤ v1.toInt) (hi_v1 : v1.toInt ≤ 400) (lo_v2 : 0 ≤ v2.toInt) (hi_v2 : v2.toInt ≤ 6) (lo_v8 : 0 ≤ v8.toInt) (hi_v8 : v8.toInt ≤ 400) (lo_v11 : 0 ≤ v11.toInt) (hi_v11 : v11.toInt ≤ 6) (lo_v12 : 0 ≤ v12.toInt) (hi_v12 : v12.toInt ≤ 60) (lo_v16 : 0 ≤ v16.toInt) (hi_v16 : v16.toInt ≤ 400) (lo_v21 : -1 ≤ v21.toInt) (hi_v21 : v21.toInt ≤ 5) (lo_v23 : 0 ≤ v23.toInt) (hi_v23 : v23.toInt ≤ 31) (lo_v27 : 0 ≤ v27.toInt) (hi_v27 : v27.toInt ≤ 20) (xfr : v21.toInt < v2.toInt) : Met l yX12_lotOf (ts_L yX12_lotOf cX12_lotOf 3 (some .int)) ({ frames := 0, cells := 0, slots := 0, locals := 0 }) (gc_P G ([((am 20), .inl (G.2.2 0, 110, .inl sd)), (m0, .inr (12, [.ref (am 0), .int v1, .int v2, .ref (am 3), .ref (am 4), .ref (am 5), .ref (am 6), .ref (am 7), .int v8, .int v9, .int v10, .int v11, .int v12, .int v13, .int v14, .ref (am 15), .int v16, .ref (am 17), .int v18, .ref (am 19), .ref (am 20), .int v21, .int v22, .int v23, .int v24, .int v25, .ref (am 26), .int v27, .ref (am 28), .ref (am 29), .ref (am 30), .ref (am 31), .long v32, .ref (am 33), .ref (am 34), .ref (am 35), .ref (am 36)]))] ++ wt) sz [.ref m0, .int b, .int w]) (gc_I G (va_A ([((am 20), .inl (G.2.2 0, 110, .inl sd)), (m0, .inr (12, [.ref (am 0), .int v1, .int v2, .ref (am 3), .ref (am 4), .ref (am 5), .ref (am 6), .ref (am 7), .int v8, .int v9, .int v10, .int v11, .int v12, .int v13, .int v14, .ref (am 15), .int v16, .ref (am 17), .int v18, .ref (am 19), .ref (am 20), .int v21, .int v22, .int v23, .int v24, .int v25, .ref (am 26), .int v27, .ref (am 28), .ref (am 29), .ref (am 30), .ref (am 31), .long v32, .ref (am 33), .ref (am 34), .ref (am 35), .ref (am 36)]))] ++ wt) sz) (fun r (u : va_W) => match u with | wt1 => tk_ty G Γ wt1 ∧ tk_kp [] wt wt1) (fun (u : va_W) => match u with | wt1 => [((am 20), .inl (G.2.2 0, 110, .inl sd)), (m0, .inr (12, [.ref (am 0), .int v1, .int v2, .ref (am 3), .ref (am 4), .ref (am 5), .ref (am 6), .ref (am 7), .int v8, .int v9, .int v10, .int v11, .int v12, .int v13, .int v14, .ref (am 15), .int v16, .ref (am 17), .int v18, .ref (am 19), .ref (am 20), .int v21, .int v22, .int v23, .int v24, .int v25, .ref (am 26), .int v27, .ref (am 28), .ref (am 29), .ref (am 30), .ref (am 31), .long v32, .ref (am 33), .ref (am 34), .ref (am 35), .ref (am 36)]))] ++ wt1)) 0 0 (va_A ([((am 20), .inl (G.2.2 0, 110, .inl sd)), (m0, .inr (12, [.ref (am 0), .int v1, .int v2, .ref (am 3), .ref (am 4), .ref (am 5), .ref (am 6), .ref (am 7), .int v8, .int v9, .int v10, .int v11, .int v12, .int v13, .int v14, .ref (am 15), .int v16, .ref (am 17), .int v18, .ref (am 19), .ref (am 20), .int v21, .int v22, .int v23, .int v24, .int v25, .ref (am 26), .int v27, .ref (am 28), .ref (am 29), .ref (am 30), .ref (am 31), .long v32, .ref (am 33), .ref (am 34), .ref (am 35), .ref (am 36)]))] ++ wt) sz) := by
  refine Met.ofW (cc := cX12_lotOf) (maxL := 3) (ret := (some .int)) (by decide) rfl ?_
  intro p e s m args below meth c s₁ B hml hv
  obtain ⟨rfl, hsz, hP, hK, hD0⟩ := hv
  have hx := B.exec
  have hb := B.bytes
  have hr := B.returns
  have ht := ts_ht (atoms_spec (ws := ts_L yX12_lotOf cX12_lotOf 3 (some .int)) B.pre)
  have hown : s.vm.findClass RX12 = some m.cls := findClass_of_methodNamed B.named
  have hlocks := B.notSynchronized
  subst hsz
  have hD := hD0.self (sz := s.heap.size)
  generalize hAe : va_A ([((am 20), .inl (G.2.2 0, 110, .inl sd)), (m0, .inr (12, [.ref (am 0), .int v1, .int v2, .ref (am 3), .ref (am 4), .ref (am 5), .ref (am 6), .ref (am 7), .int v8, .int v9, .int v10, .int v11, .int v12, .int v13, .int v14, .ref (am 15), .int v16, .ref (am 17), .int v18, .ref (am 19), .ref (am 20), .int v21, .int v22, .int v23, .int v24, .int v25, .ref (am 26), .int v27, .ref (am 28), .ref (am 29), .ref (am 30), .ref (am 31), .long v32, .ref (am 33), .ref (am 34), .ref (am 35), .ref (am 36)]))] ++ wt) s.heap.size = A at hD ⊢
  have hA : ∀ q : Nat, s.heap.size ≤ q → A q := fun q h => by rw [← hAe]; exact Or.inr h
  clear hAe hD0
  have hS : va_S A s.heap s.heap [] := va_S.rf
  obtain ⟨w0, hw0⟩ : ∃ z, z = wt := ⟨_, rfl⟩
  have hW : tk_kp [] w0 wt := by rw [hw0]; exact tk_kp.rf
  rw [← hw0]
  clear hw0
  have hP : va_P (gg_D G) classes ([((am 20), .inl (G.2.2 0, 110, .inl sd)), (m0, .inr (12, [.ref (am 0), .int v1, .int v2, .ref (am 3), .ref (am 4), .ref (am 5), .ref (am 6), .ref (am 7), .int v8, .int v9, .int v10, .int v11, .int v12, .int v13, .int v14, .ref (am 15), .int v16, .ref (am 17), .int v18, .ref (am 19), .ref (am 20), .int v21, .int v22, .int v23, .int v24, .int v25, .ref (am 26), .int v27, .ref (am 28), .ref (am 29), .ref (am 30), .ref (am 31), .long v32, .ref (am 33), .ref (am 34), .ref (am 35), .ref (am 36)]))] ++ wt) s.heap := hP
  have hD : va_D A ([((am 20), .inl (G.2.2 0, 110, .inl sd)), (m0, .inr (12, [.ref (am 0), .int v1, .int v2, .ref (am 3), .ref (am 4), .ref (am 5), .ref (am 6), .ref (am 7), .int v8, .int v9, .int v10, .int v11, .int v12, .int v13, .int v14, .ref (am 15), .int v16, .ref (am 17), .int v18, .ref (am 19), .ref (am 20), .int v21, .int v22, .int v23, .int v24, .int v25, .ref (am 26), .int v27, .ref (am 28), .ref (am 29), .ref (am 30), .ref (am 31), .long v32, .ref (am 33), .ref (am 34), .ref (am 35), .ref (am 36)]))] ++ wt) := hD
  have hl := lv_entry ([.ref m0, .int b, .int w]) (n := 3) (Nat.le_of_ble_eq_true rfl)
  rw [lg_entry_eq]
  generalize (lg_sl ([.ref m0, .int b, .int w]) ++ List.replicate (3 - (lg_sl ([.ref m0, .int b, .int w])).length) Slot.unset).toArray = ls at hl ⊢
  have hl : lv_has ls 3 [(0, .ref m0), (1, .int b), (2, .int w)] := hl
  have l4 : (4 : Int32).toInt = 4 := by decide +kernel
  have l36 : (36 : Int32).toInt = 36 := by decide +kernel
  refine lv_aload_n hx hb dX12_lotOf_0 rfl (lv_at hl 0 rfl) ?_
  refine gq_get hx hb ht hown hK hP i_X12 1 rfl rfl 20 (by decide) wd_1272 rfl rfl dX12_lotOf_1 ?_
  refine lv_bipush (v := 36) hx hb dX12_lotOf_4 (by decide +kernel) ?_
  refine lv_iconst (v := 4) hx hb dX12_lotOf_6 (by decide +kernel) ?_
  refine lv_iload_n hx hb dX12_lotOf_7 rfl (lv_at hl 1 rfl) ?_
  obtain ⟨t_1, et_1⟩ : ∃ zz_ : Int32, 4 * b = zz_ := ⟨_, rfl⟩
  refine gq_imul hx hb t_1 et_1 dX12_lotOf_8 ?_
  have ft_1 := ia_mul et_1 (by rw [l4]; omega) (by rw [l4]; omega)
  rw [l4] at ft_1
  obtain ⟨t_2, et_2⟩ : ∃ zz_ : Int32, 36 + t_1 = zz_ := ⟨_, rfl⟩
  refine gq_iadd hx hb t_2 et_2 dX12_lotOf_9 ?_
  have ft_2 := ia_add et_2 (by omega) (by omega)
  refine lv_iload_n hx hb dX12_lotOf_10 rfl (lv_at hl 2 rfl) ?_
  obtain ⟨t_3, et_3⟩ : ∃ zz_ : Int32, t_2 + w = zz_ := ⟨_, rfl⟩
  refine gq_iadd hx hb t_3 et_3 dX12_lotOf_11 ?_
  have ft_3 := ia_add et_3 (by omega) (by omega)
  obtain ⟨n_4, en_4⟩ : ∃ zz_ : Int32, sd (Int32.toNatClampNeg t_3) = zz_ := ⟨_, rfl⟩
  refine gq_iald hx hb hK hP 0 rfl n_4 (ia_in (n := 110) (by omega) (by omega)) en_4 dX12_lotOf_12 ?_
  have hP9 : va_P (gg_D G) classes ([((am 20), .inl (G.2.2 0, 110, .inl sd)), (m0, .inr (12, [.ref (am 0), .int v1, .int v2, .ref (am 3), .ref (am 4), .ref (am 5), .ref (am 6), .ref (am 7), .int v8, .int v9, .int v10, .int v11, .int v12, .int v13, .int v14, .ref (am 15), .int v16, .ref (am 17), .int v18, .ref (am 19), .ref (am 20), .int v21, .int v22, .int v23, .int v24, .int v25, .ref (am 26), .int v27, .ref (am 28), .ref (am 29), .ref (am 30), .ref (am 31), .long v32, .ref (am 33), .ref (am 34), .ref (am 35), .ref (am 36)]))] ++ wt) _ := hP
  have hD9 : va_D A ([((am 20), .inl (G.2.2 0, 110, .inl sd)), (m0, .inr (12, [.ref (am 0), .int v1, .int v2, .ref (am 3), .ref (am 4), .ref (am 5), .ref (am 6), .ref (am 7), .int v8, .int v9, .int v10, .int v11, .int v12, .int v13, .int v14, .ref (am 15), .int v16, .ref (am 17), .int v18, .ref (am 19), .ref (am 20), .int v21, .int v22, .int v23, .int v24, .int v25, .ref (am 26), .int v27, .ref (am 28), .ref (am 29), .ref (am 30), .ref (am 31), .long v32, .ref (am 33), .ref (am 34), .ref (am 35), .ref (am 36)]))] ++ wt) := hD
  exact W.iret (v := n_4) hx hb hr (gq_endI wt ⟨hT, hW⟩ hP9 hD9 hS) hS.2.2 dX12_lotOf_13
set_option maxHeartbeats 4000000 in
set_option maxRecDepth 100000 in
theorem d_m_worthTo (l : Launch) (G : gg_T) (Γ : Nat → Nat) (sz : Nat) (wt : va_W) (hT : tk_ty G Γ wt) (b : Int32) (w : Int32) (m0 : Nat) (am : Nat → Nat) (v1 : Int32) (v2 : Int32) (v8 : Int32) (v9 : Int32) (v10 : Int32) (v11 : Int32) (v12 : Int32) (v13 : Int32) (v14 : Int32) (v16 : Int32) (v18 : Int32) (v21 : Int32) (v22 : Int32) (v23 : Int32) (v24 : Int32) (v25 : Int32) (v27 : Int32) (v32 : Int64) (sd : Nat → Int32) (lo_b : 0 ≤ b.toInt) (hi_b : b.toInt ≤ 4) (lo_w : 0 ≤ w.toInt) (hi_w : w.toInt ≤ 2) (k17 : Γ (am 17) = 32) (k19 : Γ (am 19) = 30) (k30 : Γ (am 30) = 28) (k31 : Γ (am 31) = 28) (lo_v1 : 0 ≤ v1.toInt) (hi_v1 : v1.toInt ≤ 400) (lo_v2 : 0 ≤ v2.toInt) (hi_v2 : v2.toInt ≤ 6) (lo_v8 : 0 ≤ v8.toInt) (hi_v8 : v8.toInt ≤ 400) (lo_v11 : 0 ≤ v11.toInt) (hi_v11 : v11.toInt ≤ 6) (lo_v12 : 0 ≤ v12.toInt) (hi_v12 : v12.toInt ≤ 60) (lo_v16 : 0 ≤ v16.toInt) (hi_v16 : v16.toInt ≤ 400) (lo_v21 : -1 ≤ v21.toInt) (hi_v21 : v21.toInt ≤ 5) (lo_v23 : 0 ≤ v23.toInt) (hi_v23 : v23.toInt ≤ 31) (lo_v27 : 0 ≤ v27.toInt) (hi_v27 : v27.toInt ≤ 20) (xfr : v21.toInt < v2.toInt) : Met l yX12_worthTo (ts_L yX12_worthTo cX12_worthTo 3 (some .int)) ({ frames := 0, cells := 0, slots := 0, locals := 0 }) (gc_P G ([((am 20), .inl (G.2.2 0, 110, .inl sd)), (m0, .inr (12, [.ref (am 0), .int v1, .int v2, .ref (am 3), .ref (am 4), .ref (am 5), .ref (am 6), .ref (am 7), .int v8, .int v9, .int v10, .int v11, .int v12, .int v13, .int v14, .ref (am 15), .int v16, .ref (am 17), .int v18, .ref (am 19), .ref (am 20), .int v21, .int v22, .int v23, .int v24, .int v25, .ref (am 26), .int v27, .ref (am 28), .ref (am 29), .ref (am 30), .ref (am 31), .long v32, .ref (am 33), .ref (am 34), .ref (am 35), .ref (am 36)]))] ++ wt) sz [.ref m0, .int b, .int w]) (gc_I G (va_A ([((am 20), .inl (G.2.2 0, 110, .inl sd)), (m0, .inr (12, [.ref (am 0), .int v1, .int v2, .ref (am 3), .ref (am 4), .ref (am 5), .ref (am 6), .ref (am 7), .int v8, .int v9, .int v10, .int v11, .int v12, .int v13, .int v14, .ref (am 15), .int v16, .ref (am 17), .int v18, .ref (am 19), .ref (am 20), .int v21, .int v22, .int v23, .int v24, .int v25, .ref (am 26), .int v27, .ref (am 28), .ref (am 29), .ref (am 30), .ref (am 31), .long v32, .ref (am 33), .ref (am 34), .ref (am 35), .ref (am 36)]))] ++ wt) sz) (fun r (u : va_W) => match u with | wt1 => tk_ty G Γ wt1 ∧ tk_kp [] wt wt1) (fun (u : va_W) => match u with | wt1 => [((am 20), .inl (G.2.2 0, 110, .inl sd)), (m0, .inr (12, [.ref (am 0), .int v1, .int v2, .ref (am 3), .ref (am 4), .ref (am 5), .ref (am 6), .ref (am 7), .int v8, .int v9, .int v10, .int v11, .int v12, .int v13, .int v14, .ref (am 15), .int v16, .ref (am 17), .int v18, .ref (am 19), .ref (am 20), .int v21, .int v22, .int v23, .int v24, .int v25, .ref (am 26), .int v27, .ref (am 28), .ref (am 29), .ref (am 30), .ref (am 31), .long v32, .ref (am 33), .ref (am 34), .ref (am 35), .ref (am 36)]))] ++ wt1)) 0 0 (va_A ([((am 20), .inl (G.2.2 0, 110, .inl sd)), (m0, .inr (12, [.ref (am 0), .int v1, .int v2, .ref (am 3), .ref (am 4), .ref (am 5), .ref (am 6), .ref (am 7), .int v8, .int v9, .int v10, .int v11, .int v12, .int v13, .int v14, .ref (am 15), .int v16, .ref (am 17), .int v18, .ref (am 19), .ref (am 20), .int v21, .int v22, .int v23, .int v24, .int v25, .ref (am 26), .int v27, .ref (am 28), .ref (am 29), .ref (am 30), .ref (am 31), .long v32, .ref (am 33), .ref (am 34), .ref (am 35), .ref (am 36)]))] ++ wt) sz) := by
  refine Met.ofW (cc := cX12_worthTo) (maxL := 3) (ret := (some .int)) (by decide) rfl ?_
  intro p e s m args below meth c s₁ B hml hv
  obtain ⟨rfl, hsz, hP, hK, hD0⟩ := hv
  have hx := B.exec
  have hb := B.bytes
  have hr := B.returns
  have ht := ts_ht (atoms_spec (ws := ts_L yX12_worthTo cX12_worthTo 3 (some .int)) B.pre)
  have hown : s.vm.findClass RX12 = some m.cls := findClass_of_methodNamed B.named
  have hlocks := B.notSynchronized
  subst hsz
  have hD := hD0.self (sz := s.heap.size)
  generalize hAe : va_A ([((am 20), .inl (G.2.2 0, 110, .inl sd)), (m0, .inr (12, [.ref (am 0), .int v1, .int v2, .ref (am 3), .ref (am 4), .ref (am 5), .ref (am 6), .ref (am 7), .int v8, .int v9, .int v10, .int v11, .int v12, .int v13, .int v14, .ref (am 15), .int v16, .ref (am 17), .int v18, .ref (am 19), .ref (am 20), .int v21, .int v22, .int v23, .int v24, .int v25, .ref (am 26), .int v27, .ref (am 28), .ref (am 29), .ref (am 30), .ref (am 31), .long v32, .ref (am 33), .ref (am 34), .ref (am 35), .ref (am 36)]))] ++ wt) s.heap.size = A at hD ⊢
  have hA : ∀ q : Nat, s.heap.size ≤ q → A q := fun q h => by rw [← hAe]; exact Or.inr h
  clear hAe hD0
  have hS : va_S A s.heap s.heap [] := va_S.rf
  obtain ⟨w0, hw0⟩ : ∃ z, z = wt := ⟨_, rfl⟩
  have hW : tk_kp [] w0 wt := by rw [hw0]; exact tk_kp.rf
  rw [← hw0]
  clear hw0
  have hP : va_P (gg_D G) classes ([((am 20), .inl (G.2.2 0, 110, .inl sd)), (m0, .inr (12, [.ref (am 0), .int v1, .int v2, .ref (am 3), .ref (am 4), .ref (am 5), .ref (am 6), .ref (am 7), .int v8, .int v9, .int v10, .int v11, .int v12, .int v13, .int v14, .ref (am 15), .int v16, .ref (am 17), .int v18, .ref (am 19), .ref (am 20), .int v21, .int v22, .int v23, .int v24, .int v25, .ref (am 26), .int v27, .ref (am 28), .ref (am 29), .ref (am 30), .ref (am 31), .long v32, .ref (am 33), .ref (am 34), .ref (am 35), .ref (am 36)]))] ++ wt) s.heap := hP
  have hD : va_D A ([((am 20), .inl (G.2.2 0, 110, .inl sd)), (m0, .inr (12, [.ref (am 0), .int v1, .int v2, .ref (am 3), .ref (am 4), .ref (am 5), .ref (am 6), .ref (am 7), .int v8, .int v9, .int v10, .int v11, .int v12, .int v13, .int v14, .ref (am 15), .int v16, .ref (am 17), .int v18, .ref (am 19), .ref (am 20), .int v21, .int v22, .int v23, .int v24, .int v25, .ref (am 26), .int v27, .ref (am 28), .ref (am 29), .ref (am 30), .ref (am 31), .long v32, .ref (am 33), .ref (am 34), .ref (am 35), .ref (am 36)]))] ++ wt) := hD
  have hl := lv_entry ([.ref m0, .int b, .int w]) (n := 3) (Nat.le_of_ble_eq_true rfl)
  rw [lg_entry_eq]
  generalize (lg_sl ([.ref m0, .int b, .int w]) ++ List.replicate (3 - (lg_sl ([.ref m0, .int b, .int w])).length) Slot.unset).toArray = ls at hl ⊢
  have hl : lv_has ls 3 [(0, .ref m0), (1, .int b), (2, .int w)] := hl
  have l3 : (3 : Int32).toInt = 3 := by decide +kernel
  have l48 : (48 : Int32).toInt = 48 := by decide +kernel
  refine lv_aload_n hx hb dX12_worthTo_0 rfl (lv_at hl 0 rfl) ?_
  refine gq_get hx hb ht hown hK hP i_X12 1 rfl rfl 20 (by decide) wd_1272 rfl rfl dX12_worthTo_1 ?_
  refine lv_bipush (v := 48) hx hb dX12_worthTo_4 (by decide +kernel) ?_
  refine lv_iconst (v := 3) hx hb dX12_worthTo_6 (by decide +kernel) ?_
  refine lv_iload_n hx hb dX12_worthTo_7 rfl (lv_at hl 1 rfl) ?_
  obtain ⟨t_1, et_1⟩ : ∃ zz_ : Int32, 3 * b = zz_ := ⟨_, rfl⟩
  refine gq_imul hx hb t_1 et_1 dX12_worthTo_8 ?_
  have ft_1 := ia_mul et_1 (by rw [l3]; omega) (by rw [l3]; omega)
  rw [l3] at ft_1
  obtain ⟨t_2, et_2⟩ : ∃ zz_ : Int32, 48 + t_1 = zz_ := ⟨_, rfl⟩
  refine gq_iadd hx hb t_2 et_2 dX12_worthTo_9 ?_
  have ft_2 := ia_add et_2 (by omega) (by omega)
  refine lv_iload_n hx hb dX12_worthTo_10 rfl (lv_at hl 2 rfl) ?_
  obtain ⟨t_3, et_3⟩ : ∃ zz_ : Int32, t_2 + w = zz_ := ⟨_, rfl⟩
  refine gq_iadd hx hb t_3 et_3 dX12_worthTo_11 ?_
  have ft_3 := ia_add et_3 (by omega) (by omega)
  obtain ⟨n_4, en_4⟩ : ∃ zz_ : Int32, sd (Int32.toNatClampNeg t_3) = zz_ := ⟨_, rfl⟩
  refine gq_iald hx hb hK hP 0 rfl n_4 (ia_in (n := 110) (by omega) (by omega)) en_4 dX12_worthTo_12 ?_
  have hP9 : va_P (gg_D G) classes ([((am 20), .inl (G.2.2 0, 110, .inl sd)), (m0, .inr (12, [.ref (am 0), .int v1, .int v2, .ref (am 3), .ref (am 4), .ref (am 5), .ref (am 6), .ref (am 7), .int v8, .int v9, .int v10, .int v11, .int v12, .int v13, .int v14, .ref (am 15), .int v16, .ref (am 17), .int v18, .ref (am 19), .ref (am 20), .int v21, .int v22, .int v23, .int v24, .int v25, .ref (am 26), .int v27, .ref (am 28), .ref (am 29), .ref (am 30), .ref (am 31), .long v32, .ref (am 33), .ref (am 34), .ref (am 35), .ref (am 36)]))] ++ wt) _ := hP
  have hD9 : va_D A ([((am 20), .inl (G.2.2 0, 110, .inl sd)), (m0, .inr (12, [.ref (am 0), .int v1, .int v2, .ref (am 3), .ref (am 4), .ref (am 5), .ref (am 6), .ref (am 7), .int v8, .int v9, .int v10, .int v11, .int v12, .int v13, .int v14, .ref (am 15), .int v16, .ref (am 17), .int v18, .ref (am 19), .ref (am 20), .int v21, .int v22, .int v23, .int v24, .int v25, .ref (am 26), .int v27, .ref (am 28), .ref (am 29), .ref (am 30), .ref (am 31), .long v32, .ref (am 33), .ref (am 34), .ref (am 35), .ref (am 36)]))] ++ wt) := hD
  exact W.iret (v := n_4) hx hb hr (gq_endI wt ⟨hT, hW⟩ hP9 hD9 hS) hS.2.2 dX12_worthTo_13
set_option maxHeartbeats 4000000 in
set_option maxRecDepth 100000 in
theorem d_m_isSilent (l : Launch) (G : gg_T) (Γ : Nat → Nat) (sz : Nat) (wt : va_W) (hT : tk_ty G Γ wt) (b : Int32) (m0 : Nat) (am : Nat → Nat) (v1 : Int32) (v2 : Int32) (v8 : Int32) (v9 : Int32) (v10 : Int32) (v11 : Int32) (v12 : Int32) (v13 : Int32) (v14 : Int32) (v16 : Int32) (v18 : Int32) (v21 : Int32) (v22 : Int32) (v23 : Int32) (v24 : Int32) (v25 : Int32) (v27 : Int32) (v32 : Int64) (sd : Nat → Int32) (lo_b : 0 ≤ b.toInt) (hi_b : b.toInt ≤ 4) (k17 : Γ (am 17) = 32) (k19 : Γ (am 19) = 30) (k30 : Γ (am 30) = 28) (k31 : Γ (am 31) = 28) (lo_v1 : 0 ≤ v1.toInt) (hi_v1 : v1.toInt ≤ 400) (lo_v2 : 0 ≤ v2.toInt) (hi_v2 : v2.toInt ≤ 6) (lo_v8 : 0 ≤ v8.toInt) (hi_v8 : v8.toInt ≤ 400) (lo_v11 : 0 ≤ v11.toInt) (hi_v11 : v11.toInt ≤ 6) (lo_v12 : 0 ≤ v12.toInt) (hi_v12 : v12.toInt ≤ 60) (lo_v16 : 0 ≤ v16.toInt) (hi_v16 : v16.toInt ≤ 400) (lo_v21 : -1 ≤ v21.toInt) (hi_v21 : v21.toInt ≤ 5) (lo_v23 : 0 ≤ v23.toInt) (hi_v23 : v23.toInt ≤ 31) (lo_v27 : 0 ≤ v27.toInt) (hi_v27 : v27.toInt ≤ 20) (xfr : v21.toInt < v2.toInt) (hSD : SD sd) : Met l yX12_isSilent (ts_L yX12_isSilent cX12_isSilent 2 (some .boolean)) ({ frames := 1, cells := 0, slots := 0, locals := 22 }) (gc_P G ([((am 20), .inl (G.2.2 0, 110, .inl sd)), (m0, .inr (12, [.ref (am 0), .int v1, .int v2, .ref (am 3), .ref (am 4), .ref (am 5), .ref (am 6), .ref (am 7), .int v8, .int v9, .int v10, .int v11, .int v12, .int v13, .int v14, .ref (am 15), .int v16, .ref (am 17), .int v18, .ref (am 19), .ref (am 20), .int v21, .int v22, .int v23, .int v24, .int v25, .ref (am 26), .int v27, .ref (am 28), .ref (am 29), .ref (am 30), .ref (am 31), .long v32, .ref (am 33), .ref (am 34), .ref (am 35), .ref (am 36)]))] ++ wt) sz [.ref m0, .int b]) (gc_I G (va_A ([((am 20), .inl (G.2.2 0, 110, .inl sd)), (m0, .inr (12, [.ref (am 0), .int v1, .int v2, .ref (am 3), .ref (am 4), .ref (am 5), .ref (am 6), .ref (am 7), .int v8, .int v9, .int v10, .int v11, .int v12, .int v13, .int v14, .ref (am 15), .int v16, .ref (am 17), .int v18, .ref (am 19), .ref (am 20), .int v21, .int v22, .int v23, .int v24, .int v25, .ref (am 26), .int v27, .ref (am 28), .ref (am 29), .ref (am 30), .ref (am 31), .long v32, .ref (am 33), .ref (am 34), .ref (am 35), .ref (am 36)]))] ++ wt) sz) (fun r (u : va_W) => match u with | wt1 => tk_ty G Γ wt1 ∧ tk_kp [] wt wt1 ∧ 0 ≤ r.toInt ∧ r.toInt ≤ 1 ∧ ((r.toInt = 1 ∧ (sd (14 + 5 * b.toInt.toNat)).toInt = 1) ∨ (r.toInt = 0 ∧ (sd (14 + 5 * b.toInt.toNat)).toInt ≠ 1))) (fun (u : va_W) => match u with | wt1 => [((am 20), .inl (G.2.2 0, 110, .inl sd)), (m0, .inr (12, [.ref (am 0), .int v1, .int v2, .ref (am 3), .ref (am 4), .ref (am 5), .ref (am 6), .ref (am 7), .int v8, .int v9, .int v10, .int v11, .int v12, .int v13, .int v14, .ref (am 15), .int v16, .ref (am 17), .int v18, .ref (am 19), .ref (am 20), .int v21, .int v22, .int v23, .int v24, .int v25, .ref (am 26), .int v27, .ref (am 28), .ref (am 29), .ref (am 30), .ref (am 31), .long v32, .ref (am 33), .ref (am 34), .ref (am 35), .ref (am 36)]))] ++ wt1)) 0 0 (va_A ([((am 20), .inl (G.2.2 0, 110, .inl sd)), (m0, .inr (12, [.ref (am 0), .int v1, .int v2, .ref (am 3), .ref (am 4), .ref (am 5), .ref (am 6), .ref (am 7), .int v8, .int v9, .int v10, .int v11, .int v12, .int v13, .int v14, .ref (am 15), .int v16, .ref (am 17), .int v18, .ref (am 19), .ref (am 20), .int v21, .int v22, .int v23, .int v24, .int v25, .ref (am 26), .int v27, .ref (am 28), .ref (am 29), .ref (am 30), .ref (am 31), .long v32, .ref (am 33), .ref (am 34), .ref (am 35), .ref (am 36)]))] ++ wt) sz) := by
  refine Met.ofW (cc := cX12_isSilent) (maxL := 2) (ret := (some .boolean)) (by decide) rfl ?_
  intro p e s m args below meth c s₁ B hml hv
  obtain ⟨rfl, hsz, hP, hK, hD0⟩ := hv
  have hx := B.exec
  have hb := B.bytes
  have hr := B.returns
  have ht := ts_ht (atoms_spec (ws := ts_L yX12_isSilent cX12_isSilent 2 (some .boolean)) B.pre)
  have hown : s.vm.findClass RX12 = some m.cls := findClass_of_methodNamed B.named
  have hlocks := B.notSynchronized
  subst hsz
  have hD := hD0.self (sz := s.heap.size)
  generalize hAe : va_A ([((am 20), .inl (G.2.2 0, 110, .inl sd)), (m0, .inr (12, [.ref (am 0), .int v1, .int v2, .ref (am 3), .ref (am 4), .ref (am 5), .ref (am 6), .ref (am 7), .int v8, .int v9, .int v10, .int v11, .int v12, .int v13, .int v14, .ref (am 15), .int v16, .ref (am 17), .int v18, .ref (am 19), .ref (am 20), .int v21, .int v22, .int v23, .int v24, .int v25, .ref (am 26), .int v27, .ref (am 28), .ref (am 29), .ref (am 30), .ref (am 31), .long v32, .ref (am 33), .ref (am 34), .ref (am 35), .ref (am 36)]))] ++ wt) s.heap.size = A at hD ⊢
  have hA : ∀ q : Nat, s.heap.size ≤ q → A q := fun q h => by rw [← hAe]; exact Or.inr h
  clear hAe hD0
  have hS : va_S A s.heap s.heap [] := va_S.rf
  obtain ⟨w0, hw0⟩ : ∃ z, z = wt := ⟨_, rfl⟩
  have hW : tk_kp [] w0 wt := by rw [hw0]; exact tk_kp.rf
  rw [← hw0]
  clear hw0
  have hP : va_P (gg_D G) classes ([((am 20), .inl (G.2.2 0, 110, .inl sd)), (m0, .inr (12, [.ref (am 0), .int v1, .int v2, .ref (am 3), .ref (am 4), .ref (am 5), .ref (am 6), .ref (am 7), .int v8, .int v9, .int v10, .int v11, .int v12, .int v13, .int v14, .ref (am 15), .int v16, .ref (am 17), .int v18, .ref (am 19), .ref (am 20), .int v21, .int v22, .int v23, .int v24, .int v25, .ref (am 26), .int v27, .ref (am 28), .ref (am 29), .ref (am 30), .ref (am 31), .long v32, .ref (am 33), .ref (am 34), .ref (am 35), .ref (am 36)]))] ++ wt) s.heap := hP
  have hD : va_D A ([((am 20), .inl (G.2.2 0, 110, .inl sd)), (m0, .inr (12, [.ref (am 0), .int v1, .int v2, .ref (am 3), .ref (am 4), .ref (am 5), .ref (am 6), .ref (am 7), .int v8, .int v9, .int v10, .int v11, .int v12, .int v13, .int v14, .ref (am 15), .int v16, .ref (am 17), .int v18, .ref (am 19), .ref (am 20), .int v21, .int v22, .int v23, .int v24, .int v25, .ref (am 26), .int v27, .ref (am 28), .ref (am 29), .ref (am 30), .ref (am 31), .long v32, .ref (am 33), .ref (am 34), .ref (am 35), .ref (am 36)]))] ++ wt) := hD
  have hl := lv_entry ([.ref m0, .int b]) (n := 2) (Nat.le_of_ble_eq_true rfl)
  rw [lg_entry_eq]
  generalize (lg_sl ([.ref m0, .int b]) ++ List.replicate (2 - (lg_sl ([.ref m0, .int b])).length) Slot.unset).toArray = ls at hl ⊢
  have hl : lv_has ls 2 [(0, .ref m0), (1, .int b)] := hl
  have hKH : KH sd sd := KH.rf
  have l0 : (0 : Int32).toInt = 0 := by decide +kernel
  have l1 : (1 : Int32).toInt = 1 := by decide +kernel
  have l3 : (3 : Int32).toInt = 3 := by decide +kernel
  refine lv_aload_n hx hb dX12_isSilent_0 rfl (lv_at hl 0 rfl) ?_
  refine lv_iload_n hx hb dX12_isSilent_1 rfl (lv_at hl 1 rfl) ?_
  refine lv_iconst (v := 3) hx hb dX12_isSilent_2 (by decide +kernel) ?_
  have hP : va_P (gg_D G) classes ([] ++ ([((am 20), .inl (G.2.2 0, 110, .inl sd)), (m0, .inr (12, [.ref (am 0), .int v1, .int v2, .ref (am 3), .ref (am 4), .ref (am 5), .ref (am 6), .ref (am 7), .int v8, .int v9, .int v10, .int v11, .int v12, .int v13, .int v14, .ref (am 15), .int v16, .ref (am 17), .int v18, .ref (am 19), .ref (am 20), .int v21, .int v22, .int v23, .int v24, .int v25, .ref (am 26), .int v27, .ref (am 28), .ref (am 29), .ref (am 30), .ref (am 31), .long v32, .ref (am 33), .ref (am 34), .ref (am 35), .ref (am 36)]))] ++ wt)) s.heap := hP
  have hD : va_D A ([] ++ ([((am 20), .inl (G.2.2 0, 110, .inl sd)), (m0, .inr (12, [.ref (am 0), .int v1, .int v2, .ref (am 3), .ref (am 4), .ref (am 5), .ref (am 6), .ref (am 7), .int v8, .int v9, .int v10, .int v11, .int v12, .int v13, .int v14, .ref (am 15), .int v16, .ref (am 17), .int v18, .ref (am 19), .ref (am 20), .int v21, .int v22, .int v23, .int v24, .int v25, .ref (am 26), .int v27, .ref (am 28), .ref (am 29), .ref (am 30), .ref (am 31), .long v32, .ref (am 33), .ref (am 34), .ref (am 35), .ref (am 36)]))] ++ wt)) := hD
  refine gt_callI (wr := []) (va_runV (As := [.int b, .int 3]) (rest := []) ⟨hx, hb, hml, hown, ht⟩ (d_m_bid3 l G Γ s.heap.size wt hT b m0 am v1 v2 v8 v9 v10 v11 v12 v13 v14 v16 v18 v21 v22 v23 v24 v25 v27 v32 sd (by omega) (by omega) (by first | assumption | exact hSD.1 | exact hSD.w _ | (rw [hKH 2 (by omega)]; exact hKP) | omega) (by first | assumption | exact hSD.1 | exact hSD.w _ | (rw [hKH 2 (by omega)]; exact hKP) | omega) (by first | assumption | exact hSD.1 | exact hSD.w _ | (rw [hKH 2 (by omega)]; exact hKP) | omega) (by first | assumption | exact hSD.1 | exact hSD.w _ | (rw [hKH 2 (by omega)]; exact hKP) | omega) (by first | assumption | exact hSD.1 | exact hSD.w _ | (rw [hKH 2 (by omega)]; exact hKP) | omega) (by first | assumption | exact hSD.1 | exact hSD.w _ | (rw [hKH 2 (by omega)]; exact hKP) | omega) (by first | assumption | exact hSD.1 | exact hSD.w _ | (rw [hKH 2 (by omega)]; exact hKP) | omega) (by first | assumption | exact hSD.1 | exact hSD.w _ | (rw [hKH 2 (by omega)]; exact hKP) | omega) (by first | assumption | exact hSD.1 | exact hSD.w _ | (rw [hKH 2 (by omega)]; exact hKP) | omega) (by first | assumption | exact hSD.1 | exact hSD.w _ | (rw [hKH 2 (by omega)]; exact hKP) | omega) (by first | assumption | exact hSD.1 | exact hSD.w _ | (rw [hKH 2 (by omega)]; exact hKP) | omega) (by first | assumption | exact hSD.1 | exact hSD.w _ | (rw [hKH 2 (by omega)]; exact hKP) | omega) (by first | assumption | exact hSD.1 | exact hSD.w _ | (rw [hKH 2 (by omega)]; exact hKP) | omega) (by first | assumption | exact hSD.1 | exact hSD.w _ | (rw [hKH 2 (by omega)]; exact hKP) | omega) (by first | assumption | exact hSD.1 | exact hSD.w _ | (rw [hKH 2 (by omega)]; exact hKP) | omega) (by first | assumption | exact hSD.1 | exact hSD.w _ | (rw [hKH 2 (by omega)]; exact hKP) | omega) (by first | assumption | exact hSD.1 | exact hSD.w _ | (rw [hKH 2 (by omega)]; exact hKP) | omega) (by first | assumption | exact hSD.1 | exact hSD.w _ | (rw [hKH 2 (by omega)]; exact hKP) | omega) (by first | assumption | exact hSD.1 | exact hSD.w _ | (rw [hKH 2 (by omega)]; exact hKP) | omega) (by first | assumption | exact hSD.1 | exact hSD.w _ | (rw [hKH 2 (by omega)]; exact hKP) | omega) (by first | assumption | exact hSD.1 | exact hSD.w _ | (rw [hKH 2 (by omega)]; exact hKP) | omega) (by first | assumption | exact hSD.1 | exact hSD.w _ | (rw [hKH 2 (by omega)]; exact hKP) | omega) (by first | assumption | exact hSD.1 | exact hSD.w _ | (rw [hKH 2 (by omega)]; exact hKP) | omega)) (cwV 2 ht (ts_gV wd_1558 wd_1560 wd_74 wd_134 wd_1561) rfl rfl rfl (by decide +kernel) ⟨Nat.le_of_ble_eq_true rfl, Nat.le_of_ble_eq_true rfl⟩) (gc_preV (ci := 12) (q0 := 1) hK (tw_right hP) (tw_rightD hD) rfl rfl) rfl rfl hl.1 rfl (lv_room (Nat.le_of_ble_eq_true rfl)) dX12_isSilent_3 ⟨Nat.le_of_ble_eq_true rfl, Nat.le_of_ble_eq_true rfl⟩) hP hD hS hA (fun r_1 wt H locs hw hP hD hS => ?_)
  obtain ⟨hT, hkp, rp_r_1⟩ := hw
  have hW := hW.call (show ∀ x ∈ [], x ∈ [] by decide) hkp
  have hP : va_P (gg_D G) classes ([((am 20), .inl (G.2.2 0, 110, .inl sd)), (m0, .inr (12, [.ref (am 0), .int v1, .int v2, .ref (am 3), .ref (am 4), .ref (am 5), .ref (am 6), .ref (am 7), .int v8, .int v9, .int v10, .int v11, .int v12, .int v13, .int v14, .ref (am 15), .int v16, .ref (am 17), .int v18, .ref (am 19), .ref (am 20), .int v21, .int v22, .int v23, .int v24, .int v25, .ref (am 26), .int v27, .ref (am 28), .ref (am 29), .ref (am 30), .ref (am 31), .long v32, .ref (am 33), .ref (am 34), .ref (am 35), .ref (am 36)]))] ++ wt) H := hP
  have hD : va_D A ([((am 20), .inl (G.2.2 0, 110, .inl sd)), (m0, .inr (12, [.ref (am 0), .int v1, .int v2, .ref (am 3), .ref (am 4), .ref (am 5), .ref (am 6), .ref (am 7), .int v8, .int v9, .int v10, .int v11, .int v12, .int v13, .int v14, .ref (am 15), .int v16, .ref (am 17), .int v18, .ref (am 19), .ref (am 20), .int v21, .int v22, .int v23, .int v24, .int v25, .ref (am 26), .int v27, .ref (am 28), .ref (am 29), .ref (am 30), .ref (am 31), .long v32, .ref (am 33), .ref (am 34), .ref (am 35), .ref (am 36)]))] ++ wt) := hD
  refine lv_iconst (v := 1) hx hb dX12_isSilent_6 (by decide +kernel) ?_
  refine lv_icmp_ne (tgt := 14) hx hb dX12_isSilent_7 (by decide) (fun c_2 => ?_) (fun c_2 => ?_)
  · rw [← Int32.toInt_inj] at c_2
    refine lv_iconst (v := 0) hx hb dX12_isSilent_14 (by decide +kernel) ?_
    have hP9 : va_P (gg_D G) classes ([((am 20), .inl (G.2.2 0, 110, .inl sd)), (m0, .inr (12, [.ref (am 0), .int v1, .int v2, .ref (am 3), .ref (am 4), .ref (am 5), .ref (am 6), .ref (am 7), .int v8, .int v9, .int v10, .int v11, .int v12, .int v13, .int v14, .ref (am 15), .int v16, .ref (am 17), .int v18, .ref (am 19), .ref (am 20), .int v21, .int v22, .int v23, .int v24, .int v25, .ref (am 26), .int v27, .ref (am 28), .ref (am 29), .ref (am 30), .ref (am 31), .long v32, .ref (am 33), .ref (am 34), .ref (am 35), .ref (am 36)]))] ++ wt) _ := hP
    have hD9 : va_D A ([((am 20), .inl (G.2.2 0, 110, .inl sd)), (m0, .inr (12, [.ref (am 0), .int v1, .int v2, .ref (am 3), .ref (am 4), .ref (am 5), .ref (am 6), .ref (am 7), .int v8, .int v9, .int v10, .int v11, .int v12, .int v13, .int v14, .ref (am 15), .int v16, .ref (am 17), .int v18, .ref (am 19), .ref (am 20), .int v21, .int v22, .int v23, .int v24, .int v25, .ref (am 26), .int v27, .ref (am 28), .ref (am 29), .ref (am 30), .ref (am 31), .long v32, .ref (am 33), .ref (am 34), .ref (am 35), .ref (am 36)]))] ++ wt) := hD
    exact W.zret (v := 0) hx hb hr (by decide +kernel) (gq_endI wt ⟨hT, hW, (by omega), (by omega), (by omega)⟩ hP9 hD9 hS) hS.2.2 dX12_isSilent_15
  · rw [← Int32.toInt_inj] at c_2
    refine lv_iconst (v := 1) hx hb dX12_isSilent_10 (by decide +kernel) ?_
    refine lv_goto (tgt := 15) hx hb dX12_isSilent_11 (by decide) ?_
    have hP9 : va_P (gg_D G) classes ([((am 20), .inl (G.2.2 0, 110, .inl sd)), (m0, .inr (12, [.ref (am 0), .int v1, .int v2, .ref (am 3), .ref (am 4), .ref (am 5), .ref (am 6), .ref (am 7), .int v8, .int v9, .int v10, .int v11, .int v12, .int v13, .int v14, .ref (am 15), .int v16, .ref (am 17), .int v18, .ref (am 19), .ref (am 20), .int v21, .int v22, .int v23, .int v24, .int v25, .ref (am 26), .int v27, .ref (am 28), .ref (am 29), .ref (am 30), .ref (am 31), .long v32, .ref (am 33), .ref (am 34), .ref (am 35), .ref (am 36)]))] ++ wt) _ := hP
    have hD9 : va_D A ([((am 20), .inl (G.2.2 0, 110, .inl sd)), (m0, .inr (12, [.ref (am 0), .int v1, .int v2, .ref (am 3), .ref (am 4), .ref (am 5), .ref (am 6), .ref (am 7), .int v8, .int v9, .int v10, .int v11, .int v12, .int v13, .int v14, .ref (am 15), .int v16, .ref (am 17), .int v18, .ref (am 19), .ref (am 20), .int v21, .int v22, .int v23, .int v24, .int v25, .ref (am 26), .int v27, .ref (am 28), .ref (am 29), .ref (am 30), .ref (am 31), .long v32, .ref (am 33), .ref (am 34), .ref (am 35), .ref (am 36)]))] ++ wt) := hD
    exact W.zret (v := 1) hx hb hr (by decide +kernel) (gq_endI wt ⟨hT, hW, (by omega), (by omega), (by omega)⟩ hP9 hD9 hS) hS.2.2 dX12_isSilent_15
set_option maxHeartbeats 4000000 in
set_option maxRecDepth 100000 in
theorem d_m_sitting (l : Launch) (G : gg_T) (Γ : Nat → Nat) (sz : Nat) (wt : va_W) (hT : tk_ty G Γ wt) (b : Int32) (m0 : Nat) (am : Nat → Nat) (v1 : Int32) (v2 : Int32) (v8 : Int32) (v9 : Int32) (v10 : Int32) (v11 : Int32) (v12 : Int32) (v13 : Int32) (v14 : Int32) (v16 : Int32) (v18 : Int32) (v21 : Int32) (v22 : Int32) (v23 : Int32) (v24 : Int32) (v25 : Int32) (v27 : Int32) (v32 : Int64) (sd : Nat → Int32) (k17 : Γ (am 17) = 32) (k19 : Γ (am 19) = 30) (k30 : Γ (am 30) = 28) (k31 : Γ (am 31) = 28) (lo_v1 : 0 ≤ v1.toInt) (hi_v1 : v1.toInt ≤ 400) (lo_v2 : 0 ≤ v2.toInt) (hi_v2 : v2.toInt ≤ 6) (lo_v8 : 0 ≤ v8.toInt) (hi_v8 : v8.toInt ≤ 400) (lo_v11 : 0 ≤ v11.toInt) (hi_v11 : v11.toInt ≤ 6) (lo_v12 : 0 ≤ v12.toInt) (hi_v12 : v12.toInt ≤ 60) (lo_v16 : 0 ≤ v16.toInt) (hi_v16 : v16.toInt ≤ 400) (lo_v21 : -1 ≤ v21.toInt) (hi_v21 : v21.toInt ≤ 5) (lo_v23 : 0 ≤ v23.toInt) (hi_v23 : v23.toInt ≤ 31) (lo_v27 : 0 ≤ v27.toInt) (hi_v27 : v27.toInt ≤ 20) (xfr : v21.toInt < v2.toInt) (hSD : SD sd) : Met l yX12_sitting (ts_L yX12_sitting cX12_sitting 4 (some .int)) ({ frames := 1, cells := 0, slots := 0, locals := 22 }) (gc_P G ([((am 20), .inl (G.2.2 0, 110, .inl sd)), (m0, .inr (12, [.ref (am 0), .int v1, .int v2, .ref (am 3), .ref (am 4), .ref (am 5), .ref (am 6), .ref (am 7), .int v8, .int v9, .int v10, .int v11, .int v12, .int v13, .int v14, .ref (am 15), .int v16, .ref (am 17), .int v18, .ref (am 19), .ref (am 20), .int v21, .int v22, .int v23, .int v24, .int v25, .ref (am 26), .int v27, .ref (am 28), .ref (am 29), .ref (am 30), .ref (am 31), .long v32, .ref (am 33), .ref (am 34), .ref (am 35), .ref (am 36)]))] ++ wt) sz [.ref m0, .int b]) (gc_I G (va_A ([((am 20), .inl (G.2.2 0, 110, .inl sd)), (m0, .inr (12, [.ref (am 0), .int v1, .int v2, .ref (am 3), .ref (am 4), .ref (am 5), .ref (am 6), .ref (am 7), .int v8, .int v9, .int v10, .int v11, .int v12, .int v13, .int v14, .ref (am 15), .int v16, .ref (am 17), .int v18, .ref (am 19), .ref (am 20), .int v21, .int v22, .int v23, .int v24, .int v25, .ref (am 26), .int v27, .ref (am 28), .ref (am 29), .ref (am 30), .ref (am 31), .long v32, .ref (am 33), .ref (am 34), .ref (am 35), .ref (am 36)]))] ++ wt) sz) (fun r (u : va_W) => match u with | wt1 => tk_ty G Γ wt1 ∧ tk_kp [] wt wt1 ∧ 0 ≤ r.toInt ∧ r.toInt ≤ 31 ∧ (SB sd r b.toInt)) (fun (u : va_W) => match u with | wt1 => [((am 20), .inl (G.2.2 0, 110, .inl sd)), (m0, .inr (12, [.ref (am 0), .int v1, .int v2, .ref (am 3), .ref (am 4), .ref (am 5), .ref (am 6), .ref (am 7), .int v8, .int v9, .int v10, .int v11, .int v12, .int v13, .int v14, .ref (am 15), .int v16, .ref (am 17), .int v18, .ref (am 19), .ref (am 20), .int v21, .int v22, .int v23, .int v24, .int v25, .ref (am 26), .int v27, .ref (am 28), .ref (am 29), .ref (am 30), .ref (am 31), .long v32, .ref (am 33), .ref (am 34), .ref (am 35), .ref (am 36)]))] ++ wt1)) 0 0 (va_A ([((am 20), .inl (G.2.2 0, 110, .inl sd)), (m0, .inr (12, [.ref (am 0), .int v1, .int v2, .ref (am 3), .ref (am 4), .ref (am 5), .ref (am 6), .ref (am 7), .int v8, .int v9, .int v10, .int v11, .int v12, .int v13, .int v14, .ref (am 15), .int v16, .ref (am 17), .int v18, .ref (am 19), .ref (am 20), .int v21, .int v22, .int v23, .int v24, .int v25, .ref (am 26), .int v27, .ref (am 28), .ref (am 29), .ref (am 30), .ref (am 31), .long v32, .ref (am 33), .ref (am 34), .ref (am 35), .ref (am 36)]))] ++ wt) sz) := by
  refine Met.ofW (cc := cX12_sitting) (maxL := 4) (ret := (some .int)) (by decide) rfl ?_
  intro p e s m args below meth c s₁ B hml hv
  obtain ⟨rfl, hsz, hP, hK, hD0⟩ := hv
  have hx := B.exec
  have hb := B.bytes
  have hr := B.returns
  have ht := ts_ht (atoms_spec (ws := ts_L yX12_sitting cX12_sitting 4 (some .int)) B.pre)
  have hown : s.vm.findClass RX12 = some m.cls := findClass_of_methodNamed B.named
  have hlocks := B.notSynchronized
  subst hsz
  have hD := hD0.self (sz := s.heap.size)
  generalize hAe : va_A ([((am 20), .inl (G.2.2 0, 110, .inl sd)), (m0, .inr (12, [.ref (am 0), .int v1, .int v2, .ref (am 3), .ref (am 4), .ref (am 5), .ref (am 6), .ref (am 7), .int v8, .int v9, .int v10, .int v11, .int v12, .int v13, .int v14, .ref (am 15), .int v16, .ref (am 17), .int v18, .ref (am 19), .ref (am 20), .int v21, .int v22, .int v23, .int v24, .int v25, .ref (am 26), .int v27, .ref (am 28), .ref (am 29), .ref (am 30), .ref (am 31), .long v32, .ref (am 33), .ref (am 34), .ref (am 35), .ref (am 36)]))] ++ wt) s.heap.size = A at hD ⊢
  have hA : ∀ q : Nat, s.heap.size ≤ q → A q := fun q h => by rw [← hAe]; exact Or.inr h
  clear hAe hD0
  have hS : va_S A s.heap s.heap [] := va_S.rf
  obtain ⟨w0, hw0⟩ : ∃ z, z = wt := ⟨_, rfl⟩
  have hW : tk_kp [] w0 wt := by rw [hw0]; exact tk_kp.rf
  rw [← hw0]
  clear hw0
  have hP : va_P (gg_D G) classes ([((am 20), .inl (G.2.2 0, 110, .inl sd)), (m0, .inr (12, [.ref (am 0), .int v1, .int v2, .ref (am 3), .ref (am 4), .ref (am 5), .ref (am 6), .ref (am 7), .int v8, .int v9, .int v10, .int v11, .int v12, .int v13, .int v14, .ref (am 15), .int v16, .ref (am 17), .int v18, .ref (am 19), .ref (am 20), .int v21, .int v22, .int v23, .int v24, .int v25, .ref (am 26), .int v27, .ref (am 28), .ref (am 29), .ref (am 30), .ref (am 31), .long v32, .ref (am 33), .ref (am 34), .ref (am 35), .ref (am 36)]))] ++ wt) s.heap := hP
  have hD : va_D A ([((am 20), .inl (G.2.2 0, 110, .inl sd)), (m0, .inr (12, [.ref (am 0), .int v1, .int v2, .ref (am 3), .ref (am 4), .ref (am 5), .ref (am 6), .ref (am 7), .int v8, .int v9, .int v10, .int v11, .int v12, .int v13, .int v14, .ref (am 15), .int v16, .ref (am 17), .int v18, .ref (am 19), .ref (am 20), .int v21, .int v22, .int v23, .int v24, .int v25, .ref (am 26), .int v27, .ref (am 28), .ref (am 29), .ref (am 30), .ref (am 31), .long v32, .ref (am 33), .ref (am 34), .ref (am 35), .ref (am 36)]))] ++ wt) := hD
  have hl := lv_entry ([.ref m0, .int b]) (n := 4) (Nat.le_of_ble_eq_true rfl)
  rw [lg_entry_eq]
  generalize (lg_sl ([.ref m0, .int b]) ++ List.replicate (4 - (lg_sl ([.ref m0, .int b])).length) Slot.unset).toArray = ls at hl ⊢
  have hl : lv_has ls 4 [(0, .ref m0), (1, .int b)] := hl
  have hKH : KH sd sd := KH.rf
  have l0 : (0 : Int32).toInt = 0 := by decide +kernel
  have l1 : (1 : Int32).toInt = 1 := by decide +kernel
  have l2 : (2 : Int32).toInt = 2 := by decide +kernel
  refine lv_iconst (v := 0) hx hb dX12_sitting_0 (by decide +kernel) ?_
  refine lv_istore_n (lv' := [(2, .int 0), (0, .ref m0), (1, .int b)]) hx hb dX12_sitting_1 rfl hl (by decide) rfl (fun ls hl => ?_)
  refine lv_iconst (v := 0) hx hb dX12_sitting_2 (by decide +kernel) ?_
  refine lv_istore_n (lv' := [(3, .int 0), (2, .int 0), (0, .ref m0), (1, .int b)]) hx hb dX12_sitting_3 rfl hl (by decide) rfl (fun ls hl => ?_)
  have hSB : SB sd 0 b.toInt := SB.z
  refine tl_loopE (Γ := Γ) (nL := 4) (fun (zz_ : Int32 × Int32) => match zz_ with | (x4_0, x4_1) => (0 ≤ x4_0.toInt) ∧ (x4_0.toInt ≤ 5) ∧ (0 ≤ x4_1.toInt) ∧ (x4_1.toInt ≤ 31) ∧ (SB sd x4_1 b.toInt)) (fun (zz_ : Int32 × Int32) => match zz_ with | (x4_0, x4_1) => (5 - x4_0.toInt).toNat) (fun (zz_ : Int32 × Int32) => match zz_ with | (x4_0, x4_1) => [(3, .int x4_0), (2, .int x4_1), (0, .ref m0), (1, .int b)]) (fun (zz_ : Int32 × Int32) => match zz_ with | (x4_0, x4_1) => [((am 20), .inl (G.2.2 0, 110, .inl sd)), (m0, .inr (12, [.ref (am 0), .int v1, .int v2, .ref (am 3), .ref (am 4), .ref (am 5), .ref (am 6), .ref (am 7), .int v8, .int v9, .int v10, .int v11, .int v12, .int v13, .int v14, .ref (am 15), .int v16, .ref (am 17), .int v18, .ref (am 19), .ref (am 20), .int v21, .int v22, .int v23, .int v24, .int v25, .ref (am 26), .int v27, .ref (am 28), .ref (am 29), .ref (am 30), .ref (am 31), .long v32, .ref (am 33), .ref (am 34), .ref (am 35), .ref (am 36)]))]) (fun (zz_ : Int32 × Int32) (w : va_W) => match zz_ with | (x4_0, x4_1) => tk_kp [] w0 w) (fun zz_ hI H locs wt ls hT hW hP hD hS hl ih4 => ?_) (0, 0) (show (0 ≤ (0 : Int32).toInt) ∧ ((0 : Int32).toInt ≤ 5) ∧ (0 ≤ (0 : Int32).toInt) ∧ ((0 : Int32).toInt ≤ 31) ∧ (SB sd (0 : Int32) b.toInt) from ⟨by omega, by omega, by omega, by omega, hSB⟩) _ _ wt ls hT hW hP hD hS hl
  obtain ⟨x4_0, x4_1⟩ := zz_
  have hW : tk_kp [] w0 wt := hW
  have hI : (0 ≤ x4_0.toInt) ∧ (x4_0.toInt ≤ 5) ∧ (0 ≤ x4_1.toInt) ∧ (x4_1.toInt ≤ 31) ∧ (SB sd x4_1 b.toInt) := hI
  obtain ⟨j4_0, j4_1, j4_2, j4_3, hSB⟩ := hI
  have hl : lv_has ls 4 [(3, .int x4_0), (2, .int x4_1), (0, .ref m0), (1, .int b)] := hl
  have hP : va_P (gg_D G) classes ([((am 20), .inl (G.2.2 0, 110, .inl sd)), (m0, .inr (12, [.ref (am 0), .int v1, .int v2, .ref (am 3), .ref (am 4), .ref (am 5), .ref (am 6), .ref (am 7), .int v8, .int v9, .int v10, .int v11, .int v12, .int v13, .int v14, .ref (am 15), .int v16, .ref (am 17), .int v18, .ref (am 19), .ref (am 20), .int v21, .int v22, .int v23, .int v24, .int v25, .ref (am 26), .int v27, .ref (am 28), .ref (am 29), .ref (am 30), .ref (am 31), .long v32, .ref (am 33), .ref (am 34), .ref (am 35), .ref (am 36)]))] ++ wt) H := hP
  have hD : va_D A ([((am 20), .inl (G.2.2 0, 110, .inl sd)), (m0, .inr (12, [.ref (am 0), .int v1, .int v2, .ref (am 3), .ref (am 4), .ref (am 5), .ref (am 6), .ref (am 7), .int v8, .int v9, .int v10, .int v11, .int v12, .int v13, .int v14, .ref (am 15), .int v16, .ref (am 17), .int v18, .ref (am 19), .ref (am 20), .int v21, .int v22, .int v23, .int v24, .int v25, .ref (am 26), .int v27, .ref (am 28), .ref (am 29), .ref (am 30), .ref (am 31), .long v32, .ref (am 33), .ref (am 34), .ref (am 35), .ref (am 36)]))] ++ wt) := hD
  refine lv_iload_n hx hb dX12_sitting_4 rfl (lv_at hl 0 rfl) ?_
  refine lv_aload_n hx hb dX12_sitting_5 rfl (lv_at hl 2 rfl) ?_
  refine gq_get hx hb ht hown hK hP i_X12 1 rfl rfl 20 (by decide) wd_1272 rfl rfl dX12_sitting_6 ?_
  refine lv_iconst (v := 1) hx hb dX12_sitting_9 (by decide +kernel) ?_
  obtain ⟨n_1, en_1⟩ : ∃ zz_ : Int32, sd (Int32.toNatClampNeg 1) = zz_ := ⟨_, rfl⟩
  refine gq_iald hx hb hK hP 0 rfl n_1 (ia_in (n := 110) (by omega) (by omega)) en_1 dX12_sitting_10 ?_
  have En_1 : sd (1) = n_1 := by rw [← show Int32.toNatClampNeg 1 = 1 from ix_n (by omega)]; exact en_1
  have hn_1 : (sd (1)).toInt = n_1.toInt := by rw [En_1]
  have gn_1 := hSD.r1
  refine lv_icmp_ge (tgt := 40) hx hb dX12_sitting_11 (by decide) (fun c_2 => ?_) (fun c_2 => ?_)
  · rw [Int32.le_iff_toInt_le] at c_2
    refine lv_iload_n hx hb dX12_sitting_40 rfl (lv_at hl 1 rfl) ?_
    have hP9 : va_P (gg_D G) classes ([((am 20), .inl (G.2.2 0, 110, .inl sd)), (m0, .inr (12, [.ref (am 0), .int v1, .int v2, .ref (am 3), .ref (am 4), .ref (am 5), .ref (am 6), .ref (am 7), .int v8, .int v9, .int v10, .int v11, .int v12, .int v13, .int v14, .ref (am 15), .int v16, .ref (am 17), .int v18, .ref (am 19), .ref (am 20), .int v21, .int v22, .int v23, .int v24, .int v25, .ref (am 26), .int v27, .ref (am 28), .ref (am 29), .ref (am 30), .ref (am 31), .long v32, .ref (am 33), .ref (am 34), .ref (am 35), .ref (am 36)]))] ++ wt) _ := hP
    have hD9 : va_D A ([((am 20), .inl (G.2.2 0, 110, .inl sd)), (m0, .inr (12, [.ref (am 0), .int v1, .int v2, .ref (am 3), .ref (am 4), .ref (am 5), .ref (am 6), .ref (am 7), .int v8, .int v9, .int v10, .int v11, .int v12, .int v13, .int v14, .ref (am 15), .int v16, .ref (am 17), .int v18, .ref (am 19), .ref (am 20), .int v21, .int v22, .int v23, .int v24, .int v25, .ref (am 26), .int v27, .ref (am 28), .ref (am 29), .ref (am 30), .ref (am 31), .long v32, .ref (am 33), .ref (am 34), .ref (am 35), .ref (am 36)]))] ++ wt) := hD
    exact W.iret (v := x4_1) hx hb hr (gq_endI wt ⟨hT, hW, (by omega), (by omega), hSB⟩ hP9 hD9 hS) hS.2.2 dX12_sitting_41
  · rw [Int32.le_iff_toInt_le] at c_2
    refine lv_iload_n hx hb dX12_sitting_14 rfl (lv_at hl 1 rfl) ?_
    refine lv_aload_n hx hb dX12_sitting_15 rfl (lv_at hl 2 rfl) ?_
    refine lv_iload_n hx hb dX12_sitting_16 rfl (lv_at hl 0 rfl) ?_
    refine lv_iconst (v := 2) hx hb dX12_sitting_17 (by decide +kernel) ?_
    have hP : va_P (gg_D G) classes ([] ++ ([((am 20), .inl (G.2.2 0, 110, .inl sd)), (m0, .inr (12, [.ref (am 0), .int v1, .int v2, .ref (am 3), .ref (am 4), .ref (am 5), .ref (am 6), .ref (am 7), .int v8, .int v9, .int v10, .int v11, .int v12, .int v13, .int v14, .ref (am 15), .int v16, .ref (am 17), .int v18, .ref (am 19), .ref (am 20), .int v21, .int v22, .int v23, .int v24, .int v25, .ref (am 26), .int v27, .ref (am 28), .ref (am 29), .ref (am 30), .ref (am 31), .long v32, .ref (am 33), .ref (am 34), .ref (am 35), .ref (am 36)]))] ++ wt)) H := hP
    have hD : va_D A ([] ++ ([((am 20), .inl (G.2.2 0, 110, .inl sd)), (m0, .inr (12, [.ref (am 0), .int v1, .int v2, .ref (am 3), .ref (am 4), .ref (am 5), .ref (am 6), .ref (am 7), .int v8, .int v9, .int v10, .int v11, .int v12, .int v13, .int v14, .ref (am 15), .int v16, .ref (am 17), .int v18, .ref (am 19), .ref (am 20), .int v21, .int v22, .int v23, .int v24, .int v25, .ref (am 26), .int v27, .ref (am 28), .ref (am 29), .ref (am 30), .ref (am 31), .long v32, .ref (am 33), .ref (am 34), .ref (am 35), .ref (am 36)]))] ++ wt)) := hD
    refine gt_callI (wr := []) (va_runV (As := [.int x4_0, .int 2]) (rest := [.int x4_1]) ⟨hx, hb, hml, hown, ht⟩ (d_m_bid2 l G Γ H.size wt hT x4_0 m0 am v1 v2 v8 v9 v10 v11 v12 v13 v14 v16 v18 v21 v22 v23 v24 v25 v27 v32 sd (by omega) (by omega) (by first | assumption | exact hSD.1 | exact hSD.w _ | (rw [hKH 2 (by omega)]; exact hKP) | omega) (by first | assumption | exact hSD.1 | exact hSD.w _ | (rw [hKH 2 (by omega)]; exact hKP) | omega) (by first | assumption | exact hSD.1 | exact hSD.w _ | (rw [hKH 2 (by omega)]; exact hKP) | omega) (by first | assumption | exact hSD.1 | exact hSD.w _ | (rw [hKH 2 (by omega)]; exact hKP) | omega) (by first | assumption | exact hSD.1 | exact hSD.w _ | (rw [hKH 2 (by omega)]; exact hKP) | omega) (by first | assumption | exact hSD.1 | exact hSD.w _ | (rw [hKH 2 (by omega)]; exact hKP) | omega) (by first | assumption | exact hSD.1 | exact hSD.w _ | (rw [hKH 2 (by omega)]; exact hKP) | omega) (by first | assumption | exact hSD.1 | exact hSD.w _ | (rw [hKH 2 (by omega)]; exact hKP) | omega) (by first | assumption | exact hSD.1 | exact hSD.w _ | (rw [hKH 2 (by omega)]; exact hKP) | omega) (by first | assumption | exact hSD.1 | exact hSD.w _ | (rw [hKH 2 (by omega)]; exact hKP) | omega) (by first | assumption | exact hSD.1 | exact hSD.w _ | (rw [hKH 2 (by omega)]; exact hKP) | omega) (by first | assumption | exact hSD.1 | exact hSD.w _ | (rw [hKH 2 (by omega)]; exact hKP) | omega) (by first | assumption | exact hSD.1 | exact hSD.w _ | (rw [hKH 2 (by omega)]; exact hKP) | omega) (by first | assumption | exact hSD.1 | exact hSD.w _ | (rw [hKH 2 (by omega)]; exact hKP) | omega) (by first | assumption | exact hSD.1 | exact hSD.w _ | (rw [hKH 2 (by omega)]; exact hKP) | omega) (by first | assumption | exact hSD.1 | exact hSD.w _ | (rw [hKH 2 (by omega)]; exact hKP) | omega) (by first | assumption | exact hSD.1 | exact hSD.w _ | (rw [hKH 2 (by omega)]; exact hKP) | omega) (by first | assumption | exact hSD.1 | exact hSD.w _ | (rw [hKH 2 (by omega)]; exact hKP) | omega) (by first | assumption | exact hSD.1 | exact hSD.w _ | (rw [hKH 2 (by omega)]; exact hKP) | omega) (by first | assumption | exact hSD.1 | exact hSD.w _ | (rw [hKH 2 (by omega)]; exact hKP) | omega) (by first | assumption | exact hSD.1 | exact hSD.w _ | (rw [hKH 2 (by omega)]; exact hKP) | omega) (by first | assumption | exact hSD.1 | exact hSD.w _ | (rw [hKH 2 (by omega)]; exact hKP) | omega) (by first | assumption | exact hSD.1 | exact hSD.w _ | (rw [hKH 2 (by omega)]; exact hKP) | omega) (by first | assumption | exact hSD.1 | exact hSD.w _ | (rw [hKH 2 (by omega)]; exact hKP) | omega)) (cwV 2 ht (ts_gV wd_1558 wd_1560 wd_74 wd_134 wd_1561) rfl rfl rfl (by decide +kernel) ⟨Nat.le_of_ble_eq_true rfl, Nat.le_of_ble_eq_true rfl⟩) (gc_preV (ci := 12) (q0 := 1) hK (tw_right hP) (tw_rightD hD) rfl rfl) rfl rfl hl.1 rfl (lv_room (Nat.le_of_ble_eq_true rfl)) dX12_sitting_18 ⟨Nat.le_of_ble_eq_true rfl, Nat.le_of_ble_eq_true rfl⟩) hP hD hS hA (fun r_3 wt H locs hw hP hD hS => ?_)
    obtain ⟨hT, hkp, lo_r_3, hi_r_3, rp_r_3⟩ := hw
    have hW := hW.call (show ∀ x ∈ [], x ∈ [] by decide) hkp
    have hP : va_P (gg_D G) classes ([((am 20), .inl (G.2.2 0, 110, .inl sd)), (m0, .inr (12, [.ref (am 0), .int v1, .int v2, .ref (am 3), .ref (am 4), .ref (am 5), .ref (am 6), .ref (am 7), .int v8, .int v9, .int v10, .int v11, .int v12, .int v13, .int v14, .ref (am 15), .int v16, .ref (am 17), .int v18, .ref (am 19), .ref (am 20), .int v21, .int v22, .int v23, .int v24, .int v25, .ref (am 26), .int v27, .ref (am 28), .ref (am 29), .ref (am 30), .ref (am 31), .long v32, .ref (am 33), .ref (am 34), .ref (am 35), .ref (am 36)]))] ++ wt) H := hP
    have hD : va_D A ([((am 20), .inl (G.2.2 0, 110, .inl sd)), (m0, .inr (12, [.ref (am 0), .int v1, .int v2, .ref (am 3), .ref (am 4), .ref (am 5), .ref (am 6), .ref (am 7), .int v8, .int v9, .int v10, .int v11, .int v12, .int v13, .int v14, .ref (am 15), .int v16, .ref (am 17), .int v18, .ref (am 19), .ref (am 20), .int v21, .int v22, .int v23, .int v24, .int v25, .ref (am 26), .int v27, .ref (am 28), .ref (am 29), .ref (am 30), .ref (am 31), .long v32, .ref (am 33), .ref (am 34), .ref (am 35), .ref (am 36)]))] ++ wt) := hD
    refine lv_iload_n hx hb dX12_sitting_21 rfl (lv_at hl 3 rfl) ?_
    refine lv_icmp_ne (tgt := 31) hx hb dX12_sitting_22 (by decide) (fun c_4 => ?_) (fun c_4 => ?_)
    · rw [← Int32.toInt_inj] at c_4
      refine lv_iconst (v := 0) hx hb dX12_sitting_31 (by decide +kernel) ?_
      obtain ⟨t_5, et_5⟩ : ∃ zz_ : Int32, x4_1 ||| 0 = zz_ := ⟨_, rfl⟩
      refine gq_ior hx hb t_5 et_5 dX12_sitting_32 ?_
      have ft_5 := ia_or31 et_5 (by omega) (by omega) (by omega) (by omega)
      have hSB := hSB.or0 et_5 (by omega) (by omega)
      refine lv_istore_n (lv' := [(2, .int t_5), (3, .int x4_0), (0, .ref m0), (1, .int b)]) hx hb dX12_sitting_33 rfl hl (by decide) rfl (fun ls hl => ?_)
      obtain ⟨t_6, et_6⟩ : ∃ zz_ : Int32, x4_0 + Int32.ofInt (1) = zz_ := ⟨_, rfl⟩
      have ft_6 : t_6.toInt = x4_0.toInt + (1 : Int32).toInt := ia_add (y := 1) et_6 (by omega) (by omega)
      refine lv_iinc (v := t_6) (lv' := [(3, .int t_6), (2, .int t_5), (0, .ref m0), (1, .int b)]) hx hb dX12_sitting_34 hl (k := 1) rfl et_6 (by decide) rfl (fun ls hl => ?_)
      refine lv_goto (tgt := 4) hx hb dX12_sitting_37 (by decide) ?_
      exact ih4 (t_6, t_5) (show (0 ≤ t_6.toInt) ∧ (t_6.toInt ≤ 5) ∧ (0 ≤ t_5.toInt) ∧ (t_5.toInt ≤ 31) ∧ (SB sd t_5 b.toInt) from ⟨by omega, by omega, by omega, by omega, hSB⟩) (show (5 - t_6.toInt).toNat < (5 - x4_0.toInt).toNat by omega) H locs wt ls hT hW hP hD hS (lv_sub hl [0, 1, 2, 3] rfl)
    · rw [← Int32.toInt_inj] at c_4
      refine lv_iconst (v := 1) hx hb dX12_sitting_25 (by decide +kernel) ?_
      refine lv_iload_n hx hb dX12_sitting_26 rfl (lv_at hl 0 rfl) ?_
      obtain ⟨t_7, et_7⟩ : ∃ zz_ : Int32, 1 <<< (x4_0 &&& 31) = zz_ := ⟨_, rfl⟩
      refine gq_ishl hx hb t_7 et_7 dX12_sitting_27 ?_
      have ft_7 := ia_bit et_7 (by omega) (by omega)
      refine lv_goto (tgt := 32) hx hb dX12_sitting_28 (by decide) ?_
      obtain ⟨t_8, et_8⟩ : ∃ zz_ : Int32, x4_1 ||| t_7 = zz_ := ⟨_, rfl⟩
      refine gq_ior hx hb t_8 et_8 dX12_sitting_32 ?_
      have ft_8 := ia_or31 et_8 (by omega) (by omega) (by omega) (by omega)
      have hSB := hSB.or et_7 et_8 (by omega) (by omega) (by omega) (by omega) (by omega)
      refine lv_istore_n (lv' := [(2, .int t_8), (3, .int x4_0), (0, .ref m0), (1, .int b)]) hx hb dX12_sitting_33 rfl hl (by decide) rfl (fun ls hl => ?_)
      obtain ⟨t_9, et_9⟩ : ∃ zz_ : Int32, x4_0 + Int32.ofInt (1) = zz_ := ⟨_, rfl⟩
      have ft_9 : t_9.toInt = x4_0.toInt + (1 : Int32).toInt := ia_add (y := 1) et_9 (by omega) (by omega)
      refine lv_iinc (v := t_9) (lv' := [(3, .int t_9), (2, .int t_8), (0, .ref m0), (1, .int b)]) hx hb dX12_sitting_34 hl (k := 1) rfl et_9 (by decide) rfl (fun ls hl => ?_)
      refine lv_goto (tgt := 4) hx hb dX12_sitting_37 (by decide) ?_
      exact ih4 (t_9, t_8) (show (0 ≤ t_9.toInt) ∧ (t_9.toInt ≤ 5) ∧ (0 ≤ t_8.toInt) ∧ (t_8.toInt ≤ 31) ∧ (SB sd t_8 b.toInt) from ⟨by omega, by omega, by omega, by omega, hSB⟩) (show (5 - t_9.toInt).toNat < (5 - x4_0.toInt).toNat by omega) H locs wt ls hT hW hP hD hS (lv_sub hl [0, 1, 2, 3] rfl)
set_option maxHeartbeats 4000000 in
set_option maxRecDepth 100000 in
theorem d_m_silentBy (l : Launch) (G : gg_T) (Γ : Nat → Nat) (sz : Nat) (wt : va_W) (hT : tk_ty G Γ wt) (b : Int32) (m0 : Nat) (am : Nat → Nat) (v1 : Int32) (v2 : Int32) (v8 : Int32) (v9 : Int32) (v10 : Int32) (v11 : Int32) (v12 : Int32) (v13 : Int32) (v14 : Int32) (v16 : Int32) (v18 : Int32) (v21 : Int32) (v22 : Int32) (v23 : Int32) (v24 : Int32) (v25 : Int32) (v27 : Int32) (v32 : Int64) (sd : Nat → Int32) (k17 : Γ (am 17) = 32) (k19 : Γ (am 19) = 30) (k30 : Γ (am 30) = 28) (k31 : Γ (am 31) = 28) (lo_v1 : 0 ≤ v1.toInt) (hi_v1 : v1.toInt ≤ 400) (lo_v2 : 0 ≤ v2.toInt) (hi_v2 : v2.toInt ≤ 6) (lo_v8 : 0 ≤ v8.toInt) (hi_v8 : v8.toInt ≤ 400) (lo_v11 : 0 ≤ v11.toInt) (hi_v11 : v11.toInt ≤ 6) (lo_v12 : 0 ≤ v12.toInt) (hi_v12 : v12.toInt ≤ 60) (lo_v16 : 0 ≤ v16.toInt) (hi_v16 : v16.toInt ≤ 400) (lo_v21 : -1 ≤ v21.toInt) (hi_v21 : v21.toInt ≤ 5) (lo_v23 : 0 ≤ v23.toInt) (hi_v23 : v23.toInt ≤ 31) (lo_v27 : 0 ≤ v27.toInt) (hi_v27 : v27.toInt ≤ 20) (xfr : v21.toInt < v2.toInt) (hSD : SD sd) : Met l yX12_silentBy (ts_L yX12_silentBy cX12_silentBy 4 (some .int)) ({ frames := 2, cells := 0, slots := 0, locals := 43 }) (gc_P G ([((am 20), .inl (G.2.2 0, 110, .inl sd)), (m0, .inr (12, [.ref (am 0), .int v1, .int v2, .ref (am 3), .ref (am 4), .ref (am 5), .ref (am 6), .ref (am 7), .int v8, .int v9, .int v10, .int v11, .int v12, .int v13, .int v14, .ref (am 15), .int v16, .ref (am 17), .int v18, .ref (am 19), .ref (am 20), .int v21, .int v22, .int v23, .int v24, .int v25, .ref (am 26), .int v27, .ref (am 28), .ref (am 29), .ref (am 30), .ref (am 31), .long v32, .ref (am 33), .ref (am 34), .ref (am 35), .ref (am 36)]))] ++ wt) sz [.ref m0, .int b]) (gc_I G (va_A ([((am 20), .inl (G.2.2 0, 110, .inl sd)), (m0, .inr (12, [.ref (am 0), .int v1, .int v2, .ref (am 3), .ref (am 4), .ref (am 5), .ref (am 6), .ref (am 7), .int v8, .int v9, .int v10, .int v11, .int v12, .int v13, .int v14, .ref (am 15), .int v16, .ref (am 17), .int v18, .ref (am 19), .ref (am 20), .int v21, .int v22, .int v23, .int v24, .int v25, .ref (am 26), .int v27, .ref (am 28), .ref (am 29), .ref (am 30), .ref (am 31), .long v32, .ref (am 33), .ref (am 34), .ref (am 35), .ref (am 36)]))] ++ wt) sz) (fun r (u : va_W) => match u with | wt1 => tk_ty G Γ wt1 ∧ tk_kp [] wt wt1 ∧ 0 ≤ r.toInt ∧ r.toInt ≤ 31) (fun (u : va_W) => match u with | wt1 => [((am 20), .inl (G.2.2 0, 110, .inl sd)), (m0, .inr (12, [.ref (am 0), .int v1, .int v2, .ref (am 3), .ref (am 4), .ref (am 5), .ref (am 6), .ref (am 7), .int v8, .int v9, .int v10, .int v11, .int v12, .int v13, .int v14, .ref (am 15), .int v16, .ref (am 17), .int v18, .ref (am 19), .ref (am 20), .int v21, .int v22, .int v23, .int v24, .int v25, .ref (am 26), .int v27, .ref (am 28), .ref (am 29), .ref (am 30), .ref (am 31), .long v32, .ref (am 33), .ref (am 34), .ref (am 35), .ref (am 36)]))] ++ wt1)) 0 0 (va_A ([((am 20), .inl (G.2.2 0, 110, .inl sd)), (m0, .inr (12, [.ref (am 0), .int v1, .int v2, .ref (am 3), .ref (am 4), .ref (am 5), .ref (am 6), .ref (am 7), .int v8, .int v9, .int v10, .int v11, .int v12, .int v13, .int v14, .ref (am 15), .int v16, .ref (am 17), .int v18, .ref (am 19), .ref (am 20), .int v21, .int v22, .int v23, .int v24, .int v25, .ref (am 26), .int v27, .ref (am 28), .ref (am 29), .ref (am 30), .ref (am 31), .long v32, .ref (am 33), .ref (am 34), .ref (am 35), .ref (am 36)]))] ++ wt) sz) := by
  refine Met.ofW (cc := cX12_silentBy) (maxL := 4) (ret := (some .int)) (by decide) rfl ?_
  intro p e s m args below meth c s₁ B hml hv
  obtain ⟨rfl, hsz, hP, hK, hD0⟩ := hv
  have hx := B.exec
  have hb := B.bytes
  have hr := B.returns
  have ht := ts_ht (atoms_spec (ws := ts_L yX12_silentBy cX12_silentBy 4 (some .int)) B.pre)
  have hown : s.vm.findClass RX12 = some m.cls := findClass_of_methodNamed B.named
  have hlocks := B.notSynchronized
  subst hsz
  have hD := hD0.self (sz := s.heap.size)
  generalize hAe : va_A ([((am 20), .inl (G.2.2 0, 110, .inl sd)), (m0, .inr (12, [.ref (am 0), .int v1, .int v2, .ref (am 3), .ref (am 4), .ref (am 5), .ref (am 6), .ref (am 7), .int v8, .int v9, .int v10, .int v11, .int v12, .int v13, .int v14, .ref (am 15), .int v16, .ref (am 17), .int v18, .ref (am 19), .ref (am 20), .int v21, .int v22, .int v23, .int v24, .int v25, .ref (am 26), .int v27, .ref (am 28), .ref (am 29), .ref (am 30), .ref (am 31), .long v32, .ref (am 33), .ref (am 34), .ref (am 35), .ref (am 36)]))] ++ wt) s.heap.size = A at hD ⊢
  have hA : ∀ q : Nat, s.heap.size ≤ q → A q := fun q h => by rw [← hAe]; exact Or.inr h
  clear hAe hD0
  have hS : va_S A s.heap s.heap [] := va_S.rf
  obtain ⟨w0, hw0⟩ : ∃ z, z = wt := ⟨_, rfl⟩
  have hW : tk_kp [] w0 wt := by rw [hw0]; exact tk_kp.rf
  rw [← hw0]
  clear hw0
  have hP : va_P (gg_D G) classes ([((am 20), .inl (G.2.2 0, 110, .inl sd)), (m0, .inr (12, [.ref (am 0), .int v1, .int v2, .ref (am 3), .ref (am 4), .ref (am 5), .ref (am 6), .ref (am 7), .int v8, .int v9, .int v10, .int v11, .int v12, .int v13, .int v14, .ref (am 15), .int v16, .ref (am 17), .int v18, .ref (am 19), .ref (am 20), .int v21, .int v22, .int v23, .int v24, .int v25, .ref (am 26), .int v27, .ref (am 28), .ref (am 29), .ref (am 30), .ref (am 31), .long v32, .ref (am 33), .ref (am 34), .ref (am 35), .ref (am 36)]))] ++ wt) s.heap := hP
  have hD : va_D A ([((am 20), .inl (G.2.2 0, 110, .inl sd)), (m0, .inr (12, [.ref (am 0), .int v1, .int v2, .ref (am 3), .ref (am 4), .ref (am 5), .ref (am 6), .ref (am 7), .int v8, .int v9, .int v10, .int v11, .int v12, .int v13, .int v14, .ref (am 15), .int v16, .ref (am 17), .int v18, .ref (am 19), .ref (am 20), .int v21, .int v22, .int v23, .int v24, .int v25, .ref (am 26), .int v27, .ref (am 28), .ref (am 29), .ref (am 30), .ref (am 31), .long v32, .ref (am 33), .ref (am 34), .ref (am 35), .ref (am 36)]))] ++ wt) := hD
  have hl := lv_entry ([.ref m0, .int b]) (n := 4) (Nat.le_of_ble_eq_true rfl)
  rw [lg_entry_eq]
  generalize (lg_sl ([.ref m0, .int b]) ++ List.replicate (4 - (lg_sl ([.ref m0, .int b])).length) Slot.unset).toArray = ls at hl ⊢
  have hl : lv_has ls 4 [(0, .ref m0), (1, .int b)] := hl
  have hKH : KH sd sd := KH.rf
  have l0 : (0 : Int32).toInt = 0 := by decide +kernel
  have l1 : (1 : Int32).toInt = 1 := by decide +kernel
  have l2 : (2 : Int32).toInt = 2 := by decide +kernel
  refine lv_iconst (v := 0) hx hb dX12_silentBy_0 (by decide +kernel) ?_
  refine lv_istore_n (lv' := [(2, .int 0), (0, .ref m0), (1, .int b)]) hx hb dX12_silentBy_1 rfl hl (by decide) rfl (fun ls hl => ?_)
  refine lv_iconst (v := 0) hx hb dX12_silentBy_2 (by decide +kernel) ?_
  refine lv_istore_n (lv' := [(3, .int 0), (2, .int 0), (0, .ref m0), (1, .int b)]) hx hb dX12_silentBy_3 rfl hl (by decide) rfl (fun ls hl => ?_)
  refine tl_loopE (Γ := Γ) (nL := 4) (fun (zz_ : Int32 × Int32) => match zz_ with | (x4_0, x4_1) => 0 ≤ x4_0.toInt ∧ x4_0.toInt ≤ 5 ∧ 0 ≤ x4_1.toInt ∧ x4_1.toInt ≤ 31) (fun (zz_ : Int32 × Int32) => match zz_ with | (x4_0, x4_1) => (5 - x4_0.toInt).toNat) (fun (zz_ : Int32 × Int32) => match zz_ with | (x4_0, x4_1) => [(3, .int x4_0), (2, .int x4_1), (0, .ref m0), (1, .int b)]) (fun (zz_ : Int32 × Int32) => match zz_ with | (x4_0, x4_1) => [((am 20), .inl (G.2.2 0, 110, .inl sd)), (m0, .inr (12, [.ref (am 0), .int v1, .int v2, .ref (am 3), .ref (am 4), .ref (am 5), .ref (am 6), .ref (am 7), .int v8, .int v9, .int v10, .int v11, .int v12, .int v13, .int v14, .ref (am 15), .int v16, .ref (am 17), .int v18, .ref (am 19), .ref (am 20), .int v21, .int v22, .int v23, .int v24, .int v25, .ref (am 26), .int v27, .ref (am 28), .ref (am 29), .ref (am 30), .ref (am 31), .long v32, .ref (am 33), .ref (am 34), .ref (am 35), .ref (am 36)]))]) (fun (zz_ : Int32 × Int32) (w : va_W) => match zz_ with | (x4_0, x4_1) => tk_kp [] w0 w) (fun zz_ hI H locs wt ls hT hW hP hD hS hl ih4 => ?_) (0, 0) (show 0 ≤ (0 : Int32).toInt ∧ (0 : Int32).toInt ≤ 5 ∧ 0 ≤ (0 : Int32).toInt ∧ (0 : Int32).toInt ≤ 31 from ⟨by omega, by omega, by omega, by omega⟩) _ _ wt ls hT hW hP hD hS hl
  obtain ⟨x4_0, x4_1⟩ := zz_
  have hW : tk_kp [] w0 wt := hW
  have hI : 0 ≤ x4_0.toInt ∧ x4_0.toInt ≤ 5 ∧ 0 ≤ x4_1.toInt ∧ x4_1.toInt ≤ 31 := hI
  obtain ⟨j4_0, j4_1, j4_2, j4_3⟩ := hI
  have hl : lv_has ls 4 [(3, .int x4_0), (2, .int x4_1), (0, .ref m0), (1, .int b)] := hl
  have hP : va_P (gg_D G) classes ([((am 20), .inl (G.2.2 0, 110, .inl sd)), (m0, .inr (12, [.ref (am 0), .int v1, .int v2, .ref (am 3), .ref (am 4), .ref (am 5), .ref (am 6), .ref (am 7), .int v8, .int v9, .int v10, .int v11, .int v12, .int v13, .int v14, .ref (am 15), .int v16, .ref (am 17), .int v18, .ref (am 19), .ref (am 20), .int v21, .int v22, .int v23, .int v24, .int v25, .ref (am 26), .int v27, .ref (am 28), .ref (am 29), .ref (am 30), .ref (am 31), .long v32, .ref (am 33), .ref (am 34), .ref (am 35), .ref (am 36)]))] ++ wt) H := hP
  have hD : va_D A ([((am 20), .inl (G.2.2 0, 110, .inl sd)), (m0, .inr (12, [.ref (am 0), .int v1, .int v2, .ref (am 3), .ref (am 4), .ref (am 5), .ref (am 6), .ref (am 7), .int v8, .int v9, .int v10, .int v11, .int v12, .int v13, .int v14, .ref (am 15), .int v16, .ref (am 17), .int v18, .ref (am 19), .ref (am 20), .int v21, .int v22, .int v23, .int v24, .int v25, .ref (am 26), .int v27, .ref (am 28), .ref (am 29), .ref (am 30), .ref (am 31), .long v32, .ref (am 33), .ref (am 34), .ref (am 35), .ref (am 36)]))] ++ wt) := hD
  refine lv_iload_n hx hb dX12_silentBy_4 rfl (lv_at hl 0 rfl) ?_
  refine lv_aload_n hx hb dX12_silentBy_5 rfl (lv_at hl 2 rfl) ?_
  refine gq_get hx hb ht hown hK hP i_X12 1 rfl rfl 20 (by decide) wd_1272 rfl rfl dX12_silentBy_6 ?_
  refine lv_iconst (v := 1) hx hb dX12_silentBy_9 (by decide +kernel) ?_
  obtain ⟨n_1, en_1⟩ : ∃ zz_ : Int32, sd (Int32.toNatClampNeg 1) = zz_ := ⟨_, rfl⟩
  refine gq_iald hx hb hK hP 0 rfl n_1 (ia_in (n := 110) (by omega) (by omega)) en_1 dX12_silentBy_10 ?_
  have En_1 : sd (1) = n_1 := by rw [← show Int32.toNatClampNeg 1 = 1 from ix_n (by omega)]; exact en_1
  have hn_1 : (sd (1)).toInt = n_1.toInt := by rw [En_1]
  have gn_1 := hSD.r1
  refine lv_icmp_ge (tgt := 48) hx hb dX12_silentBy_11 (by decide) (fun c_2 => ?_) (fun c_2 => ?_)
  · rw [Int32.le_iff_toInt_le] at c_2
    refine lv_iload_n hx hb dX12_silentBy_48 rfl (lv_at hl 1 rfl) ?_
    have hP9 : va_P (gg_D G) classes ([((am 20), .inl (G.2.2 0, 110, .inl sd)), (m0, .inr (12, [.ref (am 0), .int v1, .int v2, .ref (am 3), .ref (am 4), .ref (am 5), .ref (am 6), .ref (am 7), .int v8, .int v9, .int v10, .int v11, .int v12, .int v13, .int v14, .ref (am 15), .int v16, .ref (am 17), .int v18, .ref (am 19), .ref (am 20), .int v21, .int v22, .int v23, .int v24, .int v25, .ref (am 26), .int v27, .ref (am 28), .ref (am 29), .ref (am 30), .ref (am 31), .long v32, .ref (am 33), .ref (am 34), .ref (am 35), .ref (am 36)]))] ++ wt) _ := hP
    have hD9 : va_D A ([((am 20), .inl (G.2.2 0, 110, .inl sd)), (m0, .inr (12, [.ref (am 0), .int v1, .int v2, .ref (am 3), .ref (am 4), .ref (am 5), .ref (am 6), .ref (am 7), .int v8, .int v9, .int v10, .int v11, .int v12, .int v13, .int v14, .ref (am 15), .int v16, .ref (am 17), .int v18, .ref (am 19), .ref (am 20), .int v21, .int v22, .int v23, .int v24, .int v25, .ref (am 26), .int v27, .ref (am 28), .ref (am 29), .ref (am 30), .ref (am 31), .long v32, .ref (am 33), .ref (am 34), .ref (am 35), .ref (am 36)]))] ++ wt) := hD
    exact W.iret (v := x4_1) hx hb hr (gq_endI wt ⟨hT, hW, (by omega), (by omega)⟩ hP9 hD9 hS) hS.2.2 dX12_silentBy_49
  · rw [Int32.le_iff_toInt_le] at c_2
    refine lv_iload_n hx hb dX12_silentBy_14 rfl (lv_at hl 1 rfl) ?_
    refine lv_aload_n hx hb dX12_silentBy_15 rfl (lv_at hl 2 rfl) ?_
    refine lv_iload_n hx hb dX12_silentBy_16 rfl (lv_at hl 0 rfl) ?_
    refine lv_iconst (v := 2) hx hb dX12_silentBy_17 (by decide +kernel) ?_
    have hP : va_P (gg_D G) classes ([] ++ ([((am 20), .inl (G.2.2 0, 110, .inl sd)), (m0, .inr (12, [.ref (am 0), .int v1, .int v2, .ref (am 3), .ref (am 4), .ref (am 5), .ref (am 6), .ref (am 7), .int v8, .int v9, .int v10, .int v11, .int v12, .int v13, .int v14, .ref (am 15), .int v16, .ref (am 17), .int v18, .ref (am 19), .ref (am 20), .int v21, .int v22, .int v23, .int v24, .int v25, .ref (am 26), .int v27, .ref (am 28), .ref (am 29), .ref (am 30), .ref (am 31), .long v32, .ref (am 33), .ref (am 34), .ref (am 35), .ref (am 36)]))] ++ wt)) H := hP
    have hD : va_D A ([] ++ ([((am 20), .inl (G.2.2 0, 110, .inl sd)), (m0, .inr (12, [.ref (am 0), .int v1, .int v2, .ref (am 3), .ref (am 4), .ref (am 5), .ref (am 6), .ref (am 7), .int v8, .int v9, .int v10, .int v11, .int v12, .int v13, .int v14, .ref (am 15), .int v16, .ref (am 17), .int v18, .ref (am 19), .ref (am 20), .int v21, .int v22, .int v23, .int v24, .int v25, .ref (am 26), .int v27, .ref (am 28), .ref (am 29), .ref (am 30), .ref (am 31), .long v32, .ref (am 33), .ref (am 34), .ref (am 35), .ref (am 36)]))] ++ wt)) := hD
    refine gt_callI (wr := []) (va_runV (As := [.int x4_0, .int 2]) (rest := [.int x4_1]) ⟨hx, hb, hml, hown, ht⟩ (d_m_bid2 l G Γ H.size wt hT x4_0 m0 am v1 v2 v8 v9 v10 v11 v12 v13 v14 v16 v18 v21 v22 v23 v24 v25 v27 v32 sd (by omega) (by omega) (by first | assumption | exact hSD.1 | exact hSD.w _ | (rw [hKH 2 (by omega)]; exact hKP) | omega) (by first | assumption | exact hSD.1 | exact hSD.w _ | (rw [hKH 2 (by omega)]; exact hKP) | omega) (by first | assumption | exact hSD.1 | exact hSD.w _ | (rw [hKH 2 (by omega)]; exact hKP) | omega) (by first | assumption | exact hSD.1 | exact hSD.w _ | (rw [hKH 2 (by omega)]; exact hKP) | omega) (by first | assumption | exact hSD.1 | exact hSD.w _ | (rw [hKH 2 (by omega)]; exact hKP) | omega) (by first | assumption | exact hSD.1 | exact hSD.w _ | (rw [hKH 2 (by omega)]; exact hKP) | omega) (by first | assumption | exact hSD.1 | exact hSD.w _ | (rw [hKH 2 (by omega)]; exact hKP) | omega) (by first | assumption | exact hSD.1 | exact hSD.w _ | (rw [hKH 2 (by omega)]; exact hKP) | omega) (by first | assumption | exact hSD.1 | exact hSD.w _ | (rw [hKH 2 (by omega)]; exact hKP) | omega) (by first | assumption | exact hSD.1 | exact hSD.w _ | (rw [hKH 2 (by omega)]; exact hKP) | omega) (by first | assumption | exact hSD.1 | exact hSD.w _ | (rw [hKH 2 (by omega)]; exact hKP) | omega) (by first | assumption | exact hSD.1 | exact hSD.w _ | (rw [hKH 2 (by omega)]; exact hKP) | omega) (by first | assumption | exact hSD.1 | exact hSD.w _ | (rw [hKH 2 (by omega)]; exact hKP) | omega) (by first | assumption | exact hSD.1 | exact hSD.w _ | (rw [hKH 2 (by omega)]; exact hKP) | omega) (by first | assumption | exact hSD.1 | exact hSD.w _ | (rw [hKH 2 (by omega)]; exact hKP) | omega) (by first | assumption | exact hSD.1 | exact hSD.w _ | (rw [hKH 2 (by omega)]; exact hKP) | omega) (by first | assumption | exact hSD.1 | exact hSD.w _ | (rw [hKH 2 (by omega)]; exact hKP) | omega) (by first | assumption | exact hSD.1 | exact hSD.w _ | (rw [hKH 2 (by omega)]; exact hKP) | omega) (by first | assumption | exact hSD.1 | exact hSD.w _ | (rw [hKH 2 (by omega)]; exact hKP) | omega) (by first | assumption | exact hSD.1 | exact hSD.w _ | (rw [hKH 2 (by omega)]; exact hKP) | omega) (by first | assumption | exact hSD.1 | exact hSD.w _ | (rw [hKH 2 (by omega)]; exact hKP) | omega) (by first | assumption | exact hSD.1 | exact hSD.w _ | (rw [hKH 2 (by omega)]; exact hKP) | omega) (by first | assumption | exact hSD.1 | exact hSD.w _ | (rw [hKH 2 (by omega)]; exact hKP) | omega) (by first | assumption | exact hSD.1 | exact hSD.w _ | (rw [hKH 2 (by omega)]; exact hKP) | omega)) (cwV 2 ht (ts_gV wd_1558 wd_1560 wd_74 wd_134 wd_1561) rfl rfl rfl (by decide +kernel) ⟨Nat.le_of_ble_eq_true rfl, Nat.le_of_ble_eq_true rfl⟩) (gc_preV (ci := 12) (q0 := 1) hK (tw_right hP) (tw_rightD hD) rfl rfl) rfl rfl hl.1 rfl (lv_room (Nat.le_of_ble_eq_true rfl)) dX12_silentBy_18 ⟨Nat.le_of_ble_eq_true rfl, Nat.le_of_ble_eq_true rfl⟩) hP hD hS hA (fun r_3 wt H locs hw hP hD hS => ?_)
    obtain ⟨hT, hkp, lo_r_3, hi_r_3, rp_r_3⟩ := hw
    have hW := hW.call (show ∀ x ∈ [], x ∈ [] by decide) hkp
    have hP : va_P (gg_D G) classes ([((am 20), .inl (G.2.2 0, 110, .inl sd)), (m0, .inr (12, [.ref (am 0), .int v1, .int v2, .ref (am 3), .ref (am 4), .ref (am 5), .ref (am 6), .ref (am 7), .int v8, .int v9, .int v10, .int v11, .int v12, .int v13, .int v14, .ref (am 15), .int v16, .ref (am 17), .int v18, .ref (am 19), .ref (am 20), .int v21, .int v22, .int v23, .int v24, .int v25, .ref (am 26), .int v27, .ref (am 28), .ref (am 29), .ref (am 30), .ref (am 31), .long v32, .ref (am 33), .ref (am 34), .ref (am 35), .ref (am 36)]))] ++ wt) H := hP
    have hD : va_D A ([((am 20), .inl (G.2.2 0, 110, .inl sd)), (m0, .inr (12, [.ref (am 0), .int v1, .int v2, .ref (am 3), .ref (am 4), .ref (am 5), .ref (am 6), .ref (am 7), .int v8, .int v9, .int v10, .int v11, .int v12, .int v13, .int v14, .ref (am 15), .int v16, .ref (am 17), .int v18, .ref (am 19), .ref (am 20), .int v21, .int v22, .int v23, .int v24, .int v25, .ref (am 26), .int v27, .ref (am 28), .ref (am 29), .ref (am 30), .ref (am 31), .long v32, .ref (am 33), .ref (am 34), .ref (am 35), .ref (am 36)]))] ++ wt) := hD
    refine lv_iload_n hx hb dX12_silentBy_21 rfl (lv_at hl 3 rfl) ?_
    refine lv_icmp_ne (tgt := 39) hx hb dX12_silentBy_22 (by decide) (fun c_4 => ?_) (fun c_4 => ?_)
    · rw [← Int32.toInt_inj] at c_4
      refine lv_iconst (v := 0) hx hb dX12_silentBy_39 (by decide +kernel) ?_
      obtain ⟨t_5, et_5⟩ : ∃ zz_ : Int32, x4_1 ||| 0 = zz_ := ⟨_, rfl⟩
      refine gq_ior hx hb t_5 et_5 dX12_silentBy_40 ?_
      have ft_5 := ia_or31 et_5 (by omega) (by omega) (by omega) (by omega)
      refine lv_istore_n (lv' := [(2, .int t_5), (3, .int x4_0), (0, .ref m0), (1, .int b)]) hx hb dX12_silentBy_41 rfl hl (by decide) rfl (fun ls hl => ?_)
      obtain ⟨t_6, et_6⟩ : ∃ zz_ : Int32, x4_0 + Int32.ofInt (1) = zz_ := ⟨_, rfl⟩
      have ft_6 : t_6.toInt = x4_0.toInt + (1 : Int32).toInt := ia_add (y := 1) et_6 (by omega) (by omega)
      refine lv_iinc (v := t_6) (lv' := [(3, .int t_6), (2, .int t_5), (0, .ref m0), (1, .int b)]) hx hb dX12_silentBy_42 hl (k := 1) rfl et_6 (by decide) rfl (fun ls hl => ?_)
      refine lv_goto (tgt := 4) hx hb dX12_silentBy_45 (by decide) ?_
      exact ih4 (t_6, t_5) (show 0 ≤ t_6.toInt ∧ t_6.toInt ≤ 5 ∧ 0 ≤ t_5.toInt ∧ t_5.toInt ≤ 31 from ⟨by omega, by omega, by omega, by omega⟩) (show (5 - t_6.toInt).toNat < (5 - x4_0.toInt).toNat by omega) H locs wt ls hT hW hP hD hS (lv_sub hl [0, 1, 2, 3] rfl)
    · rw [← Int32.toInt_inj] at c_4
      refine lv_aload_n hx hb dX12_silentBy_25 rfl (lv_at hl 2 rfl) ?_
      refine lv_iload_n hx hb dX12_silentBy_26 rfl (lv_at hl 0 rfl) ?_
      have hP : va_P (gg_D G) classes ([] ++ ([((am 20), .inl (G.2.2 0, 110, .inl sd)), (m0, .inr (12, [.ref (am 0), .int v1, .int v2, .ref (am 3), .ref (am 4), .ref (am 5), .ref (am 6), .ref (am 7), .int v8, .int v9, .int v10, .int v11, .int v12, .int v13, .int v14, .ref (am 15), .int v16, .ref (am 17), .int v18, .ref (am 19), .ref (am 20), .int v21, .int v22, .int v23, .int v24, .int v25, .ref (am 26), .int v27, .ref (am 28), .ref (am 29), .ref (am 30), .ref (am 31), .long v32, .ref (am 33), .ref (am 34), .ref (am 35), .ref (am 36)]))] ++ wt)) H := hP
      have hD : va_D A ([] ++ ([((am 20), .inl (G.2.2 0, 110, .inl sd)), (m0, .inr (12, [.ref (am 0), .int v1, .int v2, .ref (am 3), .ref (am 4), .ref (am 5), .ref (am 6), .ref (am 7), .int v8, .int v9, .int v10, .int v11, .int v12, .int v13, .int v14, .ref (am 15), .int v16, .ref (am 17), .int v18, .ref (am 19), .ref (am 20), .int v21, .int v22, .int v23, .int v24, .int v25, .ref (am 26), .int v27, .ref (am 28), .ref (am 29), .ref (am 30), .ref (am 31), .long v32, .ref (am 33), .ref (am 34), .ref (am 35), .ref (am 36)]))] ++ wt)) := hD
      refine gt_callI (wr := []) (va_runV (As := [.int x4_0]) (rest := [.int x4_1]) ⟨hx, hb, hml, hown, ht⟩ (d_m_isSilent l G Γ H.size wt hT x4_0 m0 am v1 v2 v8 v9 v10 v11 v12 v13 v14 v16 v18 v21 v22 v23 v24 v25 v27 v32 sd (by omega) (by omega) (by first | assumption | exact hSD.1 | exact hSD.w _ | (rw [hKH 2 (by omega)]; exact hKP) | omega) (by first | assumption | exact hSD.1 | exact hSD.w _ | (rw [hKH 2 (by omega)]; exact hKP) | omega) (by first | assumption | exact hSD.1 | exact hSD.w _ | (rw [hKH 2 (by omega)]; exact hKP) | omega) (by first | assumption | exact hSD.1 | exact hSD.w _ | (rw [hKH 2 (by omega)]; exact hKP) | omega) (by first | assumption | exact hSD.1 | exact hSD.w _ | (rw [hKH 2 (by omega)]; exact hKP) | omega) (by first | assumption | exact hSD.1 | exact hSD.w _ | (rw [hKH 2 (by omega)]; exact hKP) | omega) (by first | assumption | exact hSD.1 | exact hSD.w _ | (rw [hKH 2 (by omega)]; exact hKP) | omega) (by first | assumption | exact hSD.1 | exact hSD.w _ | (rw [hKH 2 (by omega)]; exact hKP) | omega) (by first | assumption | exact hSD.1 | exact hSD.w _ | (rw [hKH 2 (by omega)]; exact hKP) | omega) (by first | assumption | exact hSD.1 | exact hSD.w _ | (rw [hKH 2 (by omega)]; exact hKP) | omega) (by first | assumption | exact hSD.1 | exact hSD.w _ | (rw [hKH 2 (by omega)]; exact hKP) | omega) (by first | assumption | exact hSD.1 | exact hSD.w _ | (rw [hKH 2 (by omega)]; exact hKP) | omega) (by first | assumption | exact hSD.1 | exact hSD.w _ | (rw [hKH 2 (by omega)]; exact hKP) | omega) (by first | assumption | exact hSD.1 | exact hSD.w _ | (rw [hKH 2 (by omega)]; exact hKP) | omega) (by first | assumption | exact hSD.1 | exact hSD.w _ | (rw [hKH 2 (by omega)]; exact hKP) | omega) (by first | assumption | exact hSD.1 | exact hSD.w _ | (rw [hKH 2 (by omega)]; exact hKP) | omega) (by first | assumption | exact hSD.1 | exact hSD.w _ | (rw [hKH 2 (by omega)]; exact hKP) | omega) (by first | assumption | exact hSD.1 | exact hSD.w _ | (rw [hKH 2 (by omega)]; exact hKP) | omega) (by first | assumption | exact hSD.1 | exact hSD.w _ | (rw [hKH 2 (by omega)]; exact hKP) | omega) (by first | assumption | exact hSD.1 | exact hSD.w _ | (rw [hKH 2 (by omega)]; exact hKP) | omega) (by first | assumption | exact hSD.1 | exact hSD.w _ | (rw [hKH 2 (by omega)]; exact hKP) | omega) (by first | assumption | exact hSD.1 | exact hSD.w _ | (rw [hKH 2 (by omega)]; exact hKP) | omega) (by first | assumption | exact hSD.1 | exact hSD.w _ | (rw [hKH 2 (by omega)]; exact hKP) | omega) (by first | assumption | exact hSD.1 | exact hSD.w _ | (rw [hKH 2 (by omega)]; exact hKP) | omega)) (cwV 1 ht (ts_gV wd_1595 wd_1597 wd_82 wd_134 wd_1598) rfl rfl rfl (by decide +kernel) ⟨Nat.le_of_ble_eq_true rfl, Nat.le_of_ble_eq_true rfl⟩) (gc_preV (ci := 12) (q0 := 1) hK (tw_right hP) (tw_rightD hD) rfl rfl) rfl rfl hl.1 rfl (lv_room (Nat.le_of_ble_eq_true rfl)) dX12_silentBy_27 ⟨Nat.le_of_ble_eq_true rfl, Nat.le_of_ble_eq_true rfl⟩) hP hD hS hA (fun r_7 wt H locs hw hP hD hS => ?_)
      obtain ⟨hT, hkp, lo_r_7, hi_r_7, rp_r_7⟩ := hw
      have hW := hW.call (show ∀ x ∈ [], x ∈ [] by decide) hkp
      have hP : va_P (gg_D G) classes ([((am 20), .inl (G.2.2 0, 110, .inl sd)), (m0, .inr (12, [.ref (am 0), .int v1, .int v2, .ref (am 3), .ref (am 4), .ref (am 5), .ref (am 6), .ref (am 7), .int v8, .int v9, .int v10, .int v11, .int v12, .int v13, .int v14, .ref (am 15), .int v16, .ref (am 17), .int v18, .ref (am 19), .ref (am 20), .int v21, .int v22, .int v23, .int v24, .int v25, .ref (am 26), .int v27, .ref (am 28), .ref (am 29), .ref (am 30), .ref (am 31), .long v32, .ref (am 33), .ref (am 34), .ref (am 35), .ref (am 36)]))] ++ wt) H := hP
      have hD : va_D A ([((am 20), .inl (G.2.2 0, 110, .inl sd)), (m0, .inr (12, [.ref (am 0), .int v1, .int v2, .ref (am 3), .ref (am 4), .ref (am 5), .ref (am 6), .ref (am 7), .int v8, .int v9, .int v10, .int v11, .int v12, .int v13, .int v14, .ref (am 15), .int v16, .ref (am 17), .int v18, .ref (am 19), .ref (am 20), .int v21, .int v22, .int v23, .int v24, .int v25, .ref (am 26), .int v27, .ref (am 28), .ref (am 29), .ref (am 30), .ref (am 31), .long v32, .ref (am 33), .ref (am 34), .ref (am 35), .ref (am 36)]))] ++ wt) := hD
      refine lv_if_eq (tgt := 39) hx hb dX12_silentBy_30 (by decide) (fun c_8 => ?_) (fun c_8 => ?_)
      · rw [← Int32.toInt_inj] at c_8
        refine lv_iconst (v := 0) hx hb dX12_silentBy_39 (by decide +kernel) ?_
        obtain ⟨t_9, et_9⟩ : ∃ zz_ : Int32, x4_1 ||| 0 = zz_ := ⟨_, rfl⟩
        refine gq_ior hx hb t_9 et_9 dX12_silentBy_40 ?_
        have ft_9 := ia_or31 et_9 (by omega) (by omega) (by omega) (by omega)
        refine lv_istore_n (lv' := [(2, .int t_9), (3, .int x4_0), (0, .ref m0), (1, .int b)]) hx hb dX12_silentBy_41 rfl hl (by decide) rfl (fun ls hl => ?_)
        obtain ⟨t_10, et_10⟩ : ∃ zz_ : Int32, x4_0 + Int32.ofInt (1) = zz_ := ⟨_, rfl⟩
        have ft_10 : t_10.toInt = x4_0.toInt + (1 : Int32).toInt := ia_add (y := 1) et_10 (by omega) (by omega)
        refine lv_iinc (v := t_10) (lv' := [(3, .int t_10), (2, .int t_9), (0, .ref m0), (1, .int b)]) hx hb dX12_silentBy_42 hl (k := 1) rfl et_10 (by decide) rfl (fun ls hl => ?_)
        refine lv_goto (tgt := 4) hx hb dX12_silentBy_45 (by decide) ?_
        exact ih4 (t_10, t_9) (show 0 ≤ t_10.toInt ∧ t_10.toInt ≤ 5 ∧ 0 ≤ t_9.toInt ∧ t_9.toInt ≤ 31 from ⟨by omega, by omega, by omega, by omega⟩) (show (5 - t_10.toInt).toNat < (5 - x4_0.toInt).toNat by omega) H locs wt ls hT hW hP hD hS (lv_sub hl [0, 1, 2, 3] rfl)
      · rw [← Int32.toInt_inj] at c_8
        refine lv_iconst (v := 1) hx hb dX12_silentBy_33 (by decide +kernel) ?_
        refine lv_iload_n hx hb dX12_silentBy_34 rfl (lv_at hl 0 rfl) ?_
        obtain ⟨t_11, et_11⟩ : ∃ zz_ : Int32, 1 <<< (x4_0 &&& 31) = zz_ := ⟨_, rfl⟩
        refine gq_ishl hx hb t_11 et_11 dX12_silentBy_35 ?_
        have ft_11 := ia_bit et_11 (by omega) (by omega)
        refine lv_goto (tgt := 40) hx hb dX12_silentBy_36 (by decide) ?_
        obtain ⟨t_12, et_12⟩ : ∃ zz_ : Int32, x4_1 ||| t_11 = zz_ := ⟨_, rfl⟩
        refine gq_ior hx hb t_12 et_12 dX12_silentBy_40 ?_
        have ft_12 := ia_or31 et_12 (by omega) (by omega) (by omega) (by omega)
        refine lv_istore_n (lv' := [(2, .int t_12), (3, .int x4_0), (0, .ref m0), (1, .int b)]) hx hb dX12_silentBy_41 rfl hl (by decide) rfl (fun ls hl => ?_)
        obtain ⟨t_13, et_13⟩ : ∃ zz_ : Int32, x4_0 + Int32.ofInt (1) = zz_ := ⟨_, rfl⟩
        have ft_13 : t_13.toInt = x4_0.toInt + (1 : Int32).toInt := ia_add (y := 1) et_13 (by omega) (by omega)
        refine lv_iinc (v := t_13) (lv' := [(3, .int t_13), (2, .int t_12), (0, .ref m0), (1, .int b)]) hx hb dX12_silentBy_42 hl (k := 1) rfl et_13 (by decide) rfl (fun ls hl => ?_)
        refine lv_goto (tgt := 4) hx hb dX12_silentBy_45 (by decide) ?_
        exact ih4 (t_13, t_12) (show 0 ≤ t_13.toInt ∧ t_13.toInt ≤ 5 ∧ 0 ≤ t_12.toInt ∧ t_12.toInt ≤ 31 from ⟨by omega, by omega, by omega, by omega⟩) (show (5 - t_13.toInt).toNat < (5 - x4_0.toInt).toNat by omega) H locs wt ls hT hW hP hD hS (lv_sub hl [0, 1, 2, 3] rfl)
set_option maxHeartbeats 4000000 in
set_option maxRecDepth 100000 in
theorem d_m_lotsOf (l : Launch) (G : gg_T) (Γ : Nat → Nat) (sz : Nat) (wt : va_W) (hT : tk_ty G Γ wt) (b : Int32) (m0 : Nat) (am : Nat → Nat) (v1 : Int32) (v2 : Int32) (v8 : Int32) (v9 : Int32) (v10 : Int32) (v11 : Int32) (v12 : Int32) (v13 : Int32) (v14 : Int32) (v16 : Int32) (v18 : Int32) (v21 : Int32) (v22 : Int32) (v23 : Int32) (v24 : Int32) (v25 : Int32) (v27 : Int32) (v32 : Int64) (sd : Nat → Int32) (k17 : Γ (am 17) = 32) (k19 : Γ (am 19) = 30) (k30 : Γ (am 30) = 28) (k31 : Γ (am 31) = 28) (lo_v1 : 0 ≤ v1.toInt) (hi_v1 : v1.toInt ≤ 400) (lo_v2 : 0 ≤ v2.toInt) (hi_v2 : v2.toInt ≤ 6) (lo_v8 : 0 ≤ v8.toInt) (hi_v8 : v8.toInt ≤ 400) (lo_v11 : 0 ≤ v11.toInt) (hi_v11 : v11.toInt ≤ 6) (lo_v12 : 0 ≤ v12.toInt) (hi_v12 : v12.toInt ≤ 60) (lo_v16 : 0 ≤ v16.toInt) (hi_v16 : v16.toInt ≤ 400) (lo_v21 : -1 ≤ v21.toInt) (hi_v21 : v21.toInt ≤ 5) (lo_v23 : 0 ≤ v23.toInt) (hi_v23 : v23.toInt ≤ 31) (lo_v27 : 0 ≤ v27.toInt) (hi_v27 : v27.toInt ≤ 20) (xfr : v21.toInt < v2.toInt) (hSD : SD sd) : Met l yX12_lotsOf (ts_L yX12_lotsOf cX12_lotsOf 4 (some .int)) ({ frames := 1, cells := 0, slots := 0, locals := 22 }) (gc_P G ([((am 20), .inl (G.2.2 0, 110, .inl sd)), (m0, .inr (12, [.ref (am 0), .int v1, .int v2, .ref (am 3), .ref (am 4), .ref (am 5), .ref (am 6), .ref (am 7), .int v8, .int v9, .int v10, .int v11, .int v12, .int v13, .int v14, .ref (am 15), .int v16, .ref (am 17), .int v18, .ref (am 19), .ref (am 20), .int v21, .int v22, .int v23, .int v24, .int v25, .ref (am 26), .int v27, .ref (am 28), .ref (am 29), .ref (am 30), .ref (am 31), .long v32, .ref (am 33), .ref (am 34), .ref (am 35), .ref (am 36)]))] ++ wt) sz [.ref m0, .int b]) (gc_I G (va_A ([((am 20), .inl (G.2.2 0, 110, .inl sd)), (m0, .inr (12, [.ref (am 0), .int v1, .int v2, .ref (am 3), .ref (am 4), .ref (am 5), .ref (am 6), .ref (am 7), .int v8, .int v9, .int v10, .int v11, .int v12, .int v13, .int v14, .ref (am 15), .int v16, .ref (am 17), .int v18, .ref (am 19), .ref (am 20), .int v21, .int v22, .int v23, .int v24, .int v25, .ref (am 26), .int v27, .ref (am 28), .ref (am 29), .ref (am 30), .ref (am 31), .long v32, .ref (am 33), .ref (am 34), .ref (am 35), .ref (am 36)]))] ++ wt) sz) (fun r (u : va_W) => match u with | wt1 => tk_ty G Γ wt1 ∧ tk_kp [] wt wt1) (fun (u : va_W) => match u with | wt1 => [((am 20), .inl (G.2.2 0, 110, .inl sd)), (m0, .inr (12, [.ref (am 0), .int v1, .int v2, .ref (am 3), .ref (am 4), .ref (am 5), .ref (am 6), .ref (am 7), .int v8, .int v9, .int v10, .int v11, .int v12, .int v13, .int v14, .ref (am 15), .int v16, .ref (am 17), .int v18, .ref (am 19), .ref (am 20), .int v21, .int v22, .int v23, .int v24, .int v25, .ref (am 26), .int v27, .ref (am 28), .ref (am 29), .ref (am 30), .ref (am 31), .long v32, .ref (am 33), .ref (am 34), .ref (am 35), .ref (am 36)]))] ++ wt1)) 0 0 (va_A ([((am 20), .inl (G.2.2 0, 110, .inl sd)), (m0, .inr (12, [.ref (am 0), .int v1, .int v2, .ref (am 3), .ref (am 4), .ref (am 5), .ref (am 6), .ref (am 7), .int v8, .int v9, .int v10, .int v11, .int v12, .int v13, .int v14, .ref (am 15), .int v16, .ref (am 17), .int v18, .ref (am 19), .ref (am 20), .int v21, .int v22, .int v23, .int v24, .int v25, .ref (am 26), .int v27, .ref (am 28), .ref (am 29), .ref (am 30), .ref (am 31), .long v32, .ref (am 33), .ref (am 34), .ref (am 35), .ref (am 36)]))] ++ wt) sz) := by
  refine Met.ofW (cc := cX12_lotsOf) (maxL := 4) (ret := (some .int)) (by decide) rfl ?_
  intro p e s m args below meth c s₁ B hml hv
  obtain ⟨rfl, hsz, hP, hK, hD0⟩ := hv
  have hx := B.exec
  have hb := B.bytes
  have hr := B.returns
  have ht := ts_ht (atoms_spec (ws := ts_L yX12_lotsOf cX12_lotsOf 4 (some .int)) B.pre)
  have hown : s.vm.findClass RX12 = some m.cls := findClass_of_methodNamed B.named
  have hlocks := B.notSynchronized
  subst hsz
  have hD := hD0.self (sz := s.heap.size)
  generalize hAe : va_A ([((am 20), .inl (G.2.2 0, 110, .inl sd)), (m0, .inr (12, [.ref (am 0), .int v1, .int v2, .ref (am 3), .ref (am 4), .ref (am 5), .ref (am 6), .ref (am 7), .int v8, .int v9, .int v10, .int v11, .int v12, .int v13, .int v14, .ref (am 15), .int v16, .ref (am 17), .int v18, .ref (am 19), .ref (am 20), .int v21, .int v22, .int v23, .int v24, .int v25, .ref (am 26), .int v27, .ref (am 28), .ref (am 29), .ref (am 30), .ref (am 31), .long v32, .ref (am 33), .ref (am 34), .ref (am 35), .ref (am 36)]))] ++ wt) s.heap.size = A at hD ⊢
  have hA : ∀ q : Nat, s.heap.size ≤ q → A q := fun q h => by rw [← hAe]; exact Or.inr h
  clear hAe hD0
  have hS : va_S A s.heap s.heap [] := va_S.rf
  obtain ⟨w0, hw0⟩ : ∃ z, z = wt := ⟨_, rfl⟩
  have hW : tk_kp [] w0 wt := by rw [hw0]; exact tk_kp.rf
  rw [← hw0]
  clear hw0
  have hP : va_P (gg_D G) classes ([((am 20), .inl (G.2.2 0, 110, .inl sd)), (m0, .inr (12, [.ref (am 0), .int v1, .int v2, .ref (am 3), .ref (am 4), .ref (am 5), .ref (am 6), .ref (am 7), .int v8, .int v9, .int v10, .int v11, .int v12, .int v13, .int v14, .ref (am 15), .int v16, .ref (am 17), .int v18, .ref (am 19), .ref (am 20), .int v21, .int v22, .int v23, .int v24, .int v25, .ref (am 26), .int v27, .ref (am 28), .ref (am 29), .ref (am 30), .ref (am 31), .long v32, .ref (am 33), .ref (am 34), .ref (am 35), .ref (am 36)]))] ++ wt) s.heap := hP
  have hD : va_D A ([((am 20), .inl (G.2.2 0, 110, .inl sd)), (m0, .inr (12, [.ref (am 0), .int v1, .int v2, .ref (am 3), .ref (am 4), .ref (am 5), .ref (am 6), .ref (am 7), .int v8, .int v9, .int v10, .int v11, .int v12, .int v13, .int v14, .ref (am 15), .int v16, .ref (am 17), .int v18, .ref (am 19), .ref (am 20), .int v21, .int v22, .int v23, .int v24, .int v25, .ref (am 26), .int v27, .ref (am 28), .ref (am 29), .ref (am 30), .ref (am 31), .long v32, .ref (am 33), .ref (am 34), .ref (am 35), .ref (am 36)]))] ++ wt) := hD
  have hl := lv_entry ([.ref m0, .int b]) (n := 4) (Nat.le_of_ble_eq_true rfl)
  rw [lg_entry_eq]
  generalize (lg_sl ([.ref m0, .int b]) ++ List.replicate (4 - (lg_sl ([.ref m0, .int b])).length) Slot.unset).toArray = ls at hl ⊢
  have hl : lv_has ls 4 [(0, .ref m0), (1, .int b)] := hl
  have hKH : KH sd sd := KH.rf
  have l0 : (0 : Int32).toInt = 0 := by decide +kernel
  have l1 : (1 : Int32).toInt = 1 := by decide +kernel
  have l2 : (2 : Int32).toInt = 2 := by decide +kernel
  refine lv_iconst (v := 0) hx hb dX12_lotsOf_0 (by decide +kernel) ?_
  refine lv_istore_n (lv' := [(2, .int 0), (0, .ref m0), (1, .int b)]) hx hb dX12_lotsOf_1 rfl hl (by decide) rfl (fun ls hl => ?_)
  refine lv_iconst (v := 0) hx hb dX12_lotsOf_2 (by decide +kernel) ?_
  refine lv_istore_n (lv' := [(3, .int 0), (2, .int 0), (0, .ref m0), (1, .int b)]) hx hb dX12_lotsOf_3 rfl hl (by decide) rfl (fun ls hl => ?_)
  refine tl_loopE (Γ := Γ) (nL := 4) (fun (zz_ : Int32 × Int32) => match zz_ with | (x4_0, x4_1) => 0 ≤ x4_0.toInt ∧ x4_0.toInt ≤ 3) (fun (zz_ : Int32 × Int32) => match zz_ with | (x4_0, x4_1) => (3 - x4_0.toInt).toNat) (fun (zz_ : Int32 × Int32) => match zz_ with | (x4_0, x4_1) => [(3, .int x4_0), (2, .int x4_1), (0, .ref m0), (1, .int b)]) (fun (zz_ : Int32 × Int32) => match zz_ with | (x4_0, x4_1) => [((am 20), .inl (G.2.2 0, 110, .inl sd)), (m0, .inr (12, [.ref (am 0), .int v1, .int v2, .ref (am 3), .ref (am 4), .ref (am 5), .ref (am 6), .ref (am 7), .int v8, .int v9, .int v10, .int v11, .int v12, .int v13, .int v14, .ref (am 15), .int v16, .ref (am 17), .int v18, .ref (am 19), .ref (am 20), .int v21, .int v22, .int v23, .int v24, .int v25, .ref (am 26), .int v27, .ref (am 28), .ref (am 29), .ref (am 30), .ref (am 31), .long v32, .ref (am 33), .ref (am 34), .ref (am 35), .ref (am 36)]))]) (fun (zz_ : Int32 × Int32) (w : va_W) => match zz_ with | (x4_0, x4_1) => tk_kp [] w0 w) (fun zz_ hI H locs wt ls hT hW hP hD hS hl ih4 => ?_) (0, 0) (show 0 ≤ (0 : Int32).toInt ∧ (0 : Int32).toInt ≤ 3 from ⟨by omega, by omega⟩) _ _ wt ls hT hW hP hD hS hl
  obtain ⟨x4_0, x4_1⟩ := zz_
  have hW : tk_kp [] w0 wt := hW
  have hI : 0 ≤ x4_0.toInt ∧ x4_0.toInt ≤ 3 := hI
  obtain ⟨j4_0, j4_1⟩ := hI
  have hl : lv_has ls 4 [(3, .int x4_0), (2, .int x4_1), (0, .ref m0), (1, .int b)] := hl
  have hP : va_P (gg_D G) classes ([((am 20), .inl (G.2.2 0, 110, .inl sd)), (m0, .inr (12, [.ref (am 0), .int v1, .int v2, .ref (am 3), .ref (am 4), .ref (am 5), .ref (am 6), .ref (am 7), .int v8, .int v9, .int v10, .int v11, .int v12, .int v13, .int v14, .ref (am 15), .int v16, .ref (am 17), .int v18, .ref (am 19), .ref (am 20), .int v21, .int v22, .int v23, .int v24, .int v25, .ref (am 26), .int v27, .ref (am 28), .ref (am 29), .ref (am 30), .ref (am 31), .long v32, .ref (am 33), .ref (am 34), .ref (am 35), .ref (am 36)]))] ++ wt) H := hP
  have hD : va_D A ([((am 20), .inl (G.2.2 0, 110, .inl sd)), (m0, .inr (12, [.ref (am 0), .int v1, .int v2, .ref (am 3), .ref (am 4), .ref (am 5), .ref (am 6), .ref (am 7), .int v8, .int v9, .int v10, .int v11, .int v12, .int v13, .int v14, .ref (am 15), .int v16, .ref (am 17), .int v18, .ref (am 19), .ref (am 20), .int v21, .int v22, .int v23, .int v24, .int v25, .ref (am 26), .int v27, .ref (am 28), .ref (am 29), .ref (am 30), .ref (am 31), .long v32, .ref (am 33), .ref (am 34), .ref (am 35), .ref (am 36)]))] ++ wt) := hD
  refine lv_iload_n hx hb dX12_lotsOf_4 rfl (lv_at hl 0 rfl) ?_
  refine lv_aload_n hx hb dX12_lotsOf_5 rfl (lv_at hl 2 rfl) ?_
  refine gq_get hx hb ht hown hK hP i_X12 1 rfl rfl 20 (by decide) wd_1272 rfl rfl dX12_lotsOf_6 ?_
  refine lv_iconst (v := 2) hx hb dX12_lotsOf_9 (by decide +kernel) ?_
  obtain ⟨n_1, en_1⟩ : ∃ zz_ : Int32, sd (Int32.toNatClampNeg 2) = zz_ := ⟨_, rfl⟩
  refine gq_iald hx hb hK hP 0 rfl n_1 (ia_in (n := 110) (by omega) (by omega)) en_1 dX12_lotsOf_10 ?_
  have En_1 : sd (2) = n_1 := by rw [← show Int32.toNatClampNeg 2 = 2 from ix_n (by omega)]; exact en_1
  have hn_1 : (sd (2)).toInt = n_1.toInt := by rw [En_1]
  have gn_1 := hSD.r2
  refine lv_icmp_ge (tgt := 40) hx hb dX12_lotsOf_11 (by decide) (fun c_2 => ?_) (fun c_2 => ?_)
  · rw [Int32.le_iff_toInt_le] at c_2
    refine lv_iload_n hx hb dX12_lotsOf_40 rfl (lv_at hl 1 rfl) ?_
    have hP9 : va_P (gg_D G) classes ([((am 20), .inl (G.2.2 0, 110, .inl sd)), (m0, .inr (12, [.ref (am 0), .int v1, .int v2, .ref (am 3), .ref (am 4), .ref (am 5), .ref (am 6), .ref (am 7), .int v8, .int v9, .int v10, .int v11, .int v12, .int v13, .int v14, .ref (am 15), .int v16, .ref (am 17), .int v18, .ref (am 19), .ref (am 20), .int v21, .int v22, .int v23, .int v24, .int v25, .ref (am 26), .int v27, .ref (am 28), .ref (am 29), .ref (am 30), .ref (am 31), .long v32, .ref (am 33), .ref (am 34), .ref (am 35), .ref (am 36)]))] ++ wt) _ := hP
    have hD9 : va_D A ([((am 20), .inl (G.2.2 0, 110, .inl sd)), (m0, .inr (12, [.ref (am 0), .int v1, .int v2, .ref (am 3), .ref (am 4), .ref (am 5), .ref (am 6), .ref (am 7), .int v8, .int v9, .int v10, .int v11, .int v12, .int v13, .int v14, .ref (am 15), .int v16, .ref (am 17), .int v18, .ref (am 19), .ref (am 20), .int v21, .int v22, .int v23, .int v24, .int v25, .ref (am 26), .int v27, .ref (am 28), .ref (am 29), .ref (am 30), .ref (am 31), .long v32, .ref (am 33), .ref (am 34), .ref (am 35), .ref (am 36)]))] ++ wt) := hD
    exact W.iret (v := x4_1) hx hb hr (gq_endI wt ⟨hT, hW⟩ hP9 hD9 hS) hS.2.2 dX12_lotsOf_41
  · rw [Int32.le_iff_toInt_le] at c_2
    refine lv_iload_n hx hb dX12_lotsOf_14 rfl (lv_at hl 1 rfl) ?_
    refine lv_aload_n hx hb dX12_lotsOf_15 rfl (lv_at hl 2 rfl) ?_
    refine lv_iload_n hx hb dX12_lotsOf_16 rfl (lv_at hl 0 rfl) ?_
    refine lv_iconst (v := 2) hx hb dX12_lotsOf_17 (by decide +kernel) ?_
    have hP : va_P (gg_D G) classes ([] ++ ([((am 20), .inl (G.2.2 0, 110, .inl sd)), (m0, .inr (12, [.ref (am 0), .int v1, .int v2, .ref (am 3), .ref (am 4), .ref (am 5), .ref (am 6), .ref (am 7), .int v8, .int v9, .int v10, .int v11, .int v12, .int v13, .int v14, .ref (am 15), .int v16, .ref (am 17), .int v18, .ref (am 19), .ref (am 20), .int v21, .int v22, .int v23, .int v24, .int v25, .ref (am 26), .int v27, .ref (am 28), .ref (am 29), .ref (am 30), .ref (am 31), .long v32, .ref (am 33), .ref (am 34), .ref (am 35), .ref (am 36)]))] ++ wt)) H := hP
    have hD : va_D A ([] ++ ([((am 20), .inl (G.2.2 0, 110, .inl sd)), (m0, .inr (12, [.ref (am 0), .int v1, .int v2, .ref (am 3), .ref (am 4), .ref (am 5), .ref (am 6), .ref (am 7), .int v8, .int v9, .int v10, .int v11, .int v12, .int v13, .int v14, .ref (am 15), .int v16, .ref (am 17), .int v18, .ref (am 19), .ref (am 20), .int v21, .int v22, .int v23, .int v24, .int v25, .ref (am 26), .int v27, .ref (am 28), .ref (am 29), .ref (am 30), .ref (am 31), .long v32, .ref (am 33), .ref (am 34), .ref (am 35), .ref (am 36)]))] ++ wt)) := hD
    refine gt_callI (wr := []) (va_runV (As := [.int x4_0, .int 2]) (rest := [.int x4_1]) ⟨hx, hb, hml, hown, ht⟩ (d_m_lot2 l G Γ H.size wt hT x4_0 m0 am v1 v2 v8 v9 v10 v11 v12 v13 v14 v16 v18 v21 v22 v23 v24 v25 v27 v32 sd (by omega) (by omega) (by first | assumption | exact hSD.1 | exact hSD.w _ | (rw [hKH 2 (by omega)]; exact hKP) | omega) (by first | assumption | exact hSD.1 | exact hSD.w _ | (rw [hKH 2 (by omega)]; exact hKP) | omega) (by first | assumption | exact hSD.1 | exact hSD.w _ | (rw [hKH 2 (by omega)]; exact hKP) | omega) (by first | assumption | exact hSD.1 | exact hSD.w _ | (rw [hKH 2 (by omega)]; exact hKP) | omega) (by first | assumption | exact hSD.1 | exact hSD.w _ | (rw [hKH 2 (by omega)]; exact hKP) | omega) (by first | assumption | exact hSD.1 | exact hSD.w _ | (rw [hKH 2 (by omega)]; exact hKP) | omega) (by first | assumption | exact hSD.1 | exact hSD.w _ | (rw [hKH 2 (by omega)]; exact hKP) | omega) (by first | assumption | exact hSD.1 | exact hSD.w _ | (rw [hKH 2 (by omega)]; exact hKP) | omega) (by first | assumption | exact hSD.1 | exact hSD.w _ | (rw [hKH 2 (by omega)]; exact hKP) | omega) (by first | assumption | exact hSD.1 | exact hSD.w _ | (rw [hKH 2 (by omega)]; exact hKP) | omega) (by first | assumption | exact hSD.1 | exact hSD.w _ | (rw [hKH 2 (by omega)]; exact hKP) | omega) (by first | assumption | exact hSD.1 | exact hSD.w _ | (rw [hKH 2 (by omega)]; exact hKP) | omega) (by first | assumption | exact hSD.1 | exact hSD.w _ | (rw [hKH 2 (by omega)]; exact hKP) | omega) (by first | assumption | exact hSD.1 | exact hSD.w _ | (rw [hKH 2 (by omega)]; exact hKP) | omega) (by first | assumption | exact hSD.1 | exact hSD.w _ | (rw [hKH 2 (by omega)]; exact hKP) | omega) (by first | assumption | exact hSD.1 | exact hSD.w _ | (rw [hKH 2 (by omega)]; exact hKP) | omega) (by first | assumption | exact hSD.1 | exact hSD.w _ | (rw [hKH 2 (by omega)]; exact hKP) | omega) (by first | assumption | exact hSD.1 | exact hSD.w _ | (rw [hKH 2 (by omega)]; exact hKP) | omega) (by first | assumption | exact hSD.1 | exact hSD.w _ | (rw [hKH 2 (by omega)]; exact hKP) | omega) (by first | assumption | exact hSD.1 | exact hSD.w _ | (rw [hKH 2 (by omega)]; exact hKP) | omega) (by first | assumption | exact hSD.1 | exact hSD.w _ | (rw [hKH 2 (by omega)]; exact hKP) | omega) (by first | assumption | exact hSD.1 | exact hSD.w _ | (rw [hKH 2 (by omega)]; exact hKP) | omega) (by first | assumption | exact hSD.1 | exact hSD.w _ | (rw [hKH 2 (by omega)]; exact hKP) | omega)) (cwV 2 ht (ts_gV wd_1566 wd_1568 wd_76 wd_134 wd_1569) rfl rfl rfl (by decide +kernel) ⟨Nat.le_of_ble_eq_true rfl, Nat.le_of_ble_eq_true rfl⟩) (gc_preV (ci := 12) (q0 := 1) hK (tw_right hP) (tw_rightD hD) rfl rfl) rfl rfl hl.1 rfl (lv_room (Nat.le_of_ble_eq_true rfl)) dX12_lotsOf_18 ⟨Nat.le_of_ble_eq_true rfl, Nat.le_of_ble_eq_true rfl⟩) hP hD hS hA (fun r_3 wt H locs hw hP hD hS => ?_)
    obtain ⟨hT, hkp, rp_r_3⟩ := hw
    have hW := hW.call (show ∀ x ∈ [], x ∈ [] by decide) hkp
    have hP : va_P (gg_D G) classes ([((am 20), .inl (G.2.2 0, 110, .inl sd)), (m0, .inr (12, [.ref (am 0), .int v1, .int v2, .ref (am 3), .ref (am 4), .ref (am 5), .ref (am 6), .ref (am 7), .int v8, .int v9, .int v10, .int v11, .int v12, .int v13, .int v14, .ref (am 15), .int v16, .ref (am 17), .int v18, .ref (am 19), .ref (am 20), .int v21, .int v22, .int v23, .int v24, .int v25, .ref (am 26), .int v27, .ref (am 28), .ref (am 29), .ref (am 30), .ref (am 31), .long v32, .ref (am 33), .ref (am 34), .ref (am 35), .ref (am 36)]))] ++ wt) H := hP
    have hD : va_D A ([((am 20), .inl (G.2.2 0, 110, .inl sd)), (m0, .inr (12, [.ref (am 0), .int v1, .int v2, .ref (am 3), .ref (am 4), .ref (am 5), .ref (am 6), .ref (am 7), .int v8, .int v9, .int v10, .int v11, .int v12, .int v13, .int v14, .ref (am 15), .int v16, .ref (am 17), .int v18, .ref (am 19), .ref (am 20), .int v21, .int v22, .int v23, .int v24, .int v25, .ref (am 26), .int v27, .ref (am 28), .ref (am 29), .ref (am 30), .ref (am 31), .long v32, .ref (am 33), .ref (am 34), .ref (am 35), .ref (am 36)]))] ++ wt) := hD
    refine lv_iload_n hx hb dX12_lotsOf_21 rfl (lv_at hl 3 rfl) ?_
    refine lv_icmp_ne (tgt := 31) hx hb dX12_lotsOf_22 (by decide) (fun c_4 => ?_) (fun c_4 => ?_)
    · rw [← Int32.toInt_inj] at c_4
      refine lv_iconst (v := 0) hx hb dX12_lotsOf_31 (by decide +kernel) ?_
      obtain ⟨t_5, et_5⟩ : ∃ zz_ : Int32, x4_1 ||| 0 = zz_ := ⟨_, rfl⟩
      refine gq_ior hx hb t_5 et_5 dX12_lotsOf_32 ?_
      refine lv_istore_n (lv' := [(2, .int t_5), (3, .int x4_0), (0, .ref m0), (1, .int b)]) hx hb dX12_lotsOf_33 rfl hl (by decide) rfl (fun ls hl => ?_)
      obtain ⟨t_6, et_6⟩ : ∃ zz_ : Int32, x4_0 + Int32.ofInt (1) = zz_ := ⟨_, rfl⟩
      have ft_6 : t_6.toInt = x4_0.toInt + (1 : Int32).toInt := ia_add (y := 1) et_6 (by omega) (by omega)
      refine lv_iinc (v := t_6) (lv' := [(3, .int t_6), (2, .int t_5), (0, .ref m0), (1, .int b)]) hx hb dX12_lotsOf_34 hl (k := 1) rfl et_6 (by decide) rfl (fun ls hl => ?_)
      refine lv_goto (tgt := 4) hx hb dX12_lotsOf_37 (by decide) ?_
      exact ih4 (t_6, t_5) (show 0 ≤ t_6.toInt ∧ t_6.toInt ≤ 3 from ⟨by omega, by omega⟩) (show (3 - t_6.toInt).toNat < (3 - x4_0.toInt).toNat by omega) H locs wt ls hT hW hP hD hS (lv_sub hl [0, 1, 2, 3] rfl)
    · rw [← Int32.toInt_inj] at c_4
      refine lv_iconst (v := 1) hx hb dX12_lotsOf_25 (by decide +kernel) ?_
      refine lv_iload_n hx hb dX12_lotsOf_26 rfl (lv_at hl 0 rfl) ?_
      obtain ⟨t_7, et_7⟩ : ∃ zz_ : Int32, 1 <<< (x4_0 &&& 31) = zz_ := ⟨_, rfl⟩
      refine gq_ishl hx hb t_7 et_7 dX12_lotsOf_27 ?_
      have ft_7 := ia_bit et_7 (by omega) (by omega)
      refine lv_goto (tgt := 32) hx hb dX12_lotsOf_28 (by decide) ?_
      obtain ⟨t_8, et_8⟩ : ∃ zz_ : Int32, x4_1 ||| t_7 = zz_ := ⟨_, rfl⟩
      refine gq_ior hx hb t_8 et_8 dX12_lotsOf_32 ?_
      refine lv_istore_n (lv' := [(2, .int t_8), (3, .int x4_0), (0, .ref m0), (1, .int b)]) hx hb dX12_lotsOf_33 rfl hl (by decide) rfl (fun ls hl => ?_)
      obtain ⟨t_9, et_9⟩ : ∃ zz_ : Int32, x4_0 + Int32.ofInt (1) = zz_ := ⟨_, rfl⟩
      have ft_9 : t_9.toInt = x4_0.toInt + (1 : Int32).toInt := ia_add (y := 1) et_9 (by omega) (by omega)
      refine lv_iinc (v := t_9) (lv' := [(3, .int t_9), (2, .int t_8), (0, .ref m0), (1, .int b)]) hx hb dX12_lotsOf_34 hl (k := 1) rfl et_9 (by decide) rfl (fun ls hl => ?_)
      refine lv_goto (tgt := 4) hx hb dX12_lotsOf_37 (by decide) ?_
      exact ih4 (t_9, t_8) (show 0 ≤ t_9.toInt ∧ t_9.toInt ≤ 3 from ⟨by omega, by omega⟩) (show (3 - t_9.toInt).toNat < (3 - x4_0.toInt).toNat by omega) H locs wt ls hT hW hP hD hS (lv_sub hl [0, 1, 2, 3] rfl)
set_option maxHeartbeats 4000000 in
set_option maxRecDepth 100000 in
theorem d_m_gainOf (l : Launch) (G : gg_T) (Γ : Nat → Nat) (sz : Nat) (wt : va_W) (hT : tk_ty G Γ wt) (b : Int32) (m0 : Nat) (am : Nat → Nat) (v1 : Int32) (v2 : Int32) (v8 : Int32) (v9 : Int32) (v10 : Int32) (v11 : Int32) (v12 : Int32) (v13 : Int32) (v14 : Int32) (v16 : Int32) (v18 : Int32) (v21 : Int32) (v22 : Int32) (v23 : Int32) (v24 : Int32) (v25 : Int32) (v27 : Int32) (v32 : Int64) (sd : Nat → Int32) (lo_b : 0 ≤ b.toInt) (hi_b : b.toInt ≤ 4) (k17 : Γ (am 17) = 32) (k19 : Γ (am 19) = 30) (k30 : Γ (am 30) = 28) (k31 : Γ (am 31) = 28) (lo_v1 : 0 ≤ v1.toInt) (hi_v1 : v1.toInt ≤ 400) (lo_v2 : 0 ≤ v2.toInt) (hi_v2 : v2.toInt ≤ 6) (lo_v8 : 0 ≤ v8.toInt) (hi_v8 : v8.toInt ≤ 400) (lo_v11 : 0 ≤ v11.toInt) (hi_v11 : v11.toInt ≤ 6) (lo_v12 : 0 ≤ v12.toInt) (hi_v12 : v12.toInt ≤ 60) (lo_v16 : 0 ≤ v16.toInt) (hi_v16 : v16.toInt ≤ 400) (lo_v21 : -1 ≤ v21.toInt) (hi_v21 : v21.toInt ≤ 5) (lo_v23 : 0 ≤ v23.toInt) (hi_v23 : v23.toInt ≤ 31) (lo_v27 : 0 ≤ v27.toInt) (hi_v27 : v27.toInt ≤ 20) (xfr : v21.toInt < v2.toInt) (hSD : SD sd) : Met l yX12_gainOf (ts_L yX12_gainOf cX12_gainOf 4 (some .int)) ({ frames := 1, cells := 0, slots := 0, locals := 22 }) (gc_P G ([((am 20), .inl (G.2.2 0, 110, .inl sd)), (m0, .inr (12, [.ref (am 0), .int v1, .int v2, .ref (am 3), .ref (am 4), .ref (am 5), .ref (am 6), .ref (am 7), .int v8, .int v9, .int v10, .int v11, .int v12, .int v13, .int v14, .ref (am 15), .int v16, .ref (am 17), .int v18, .ref (am 19), .ref (am 20), .int v21, .int v22, .int v23, .int v24, .int v25, .ref (am 26), .int v27, .ref (am 28), .ref (am 29), .ref (am 30), .ref (am 31), .long v32, .ref (am 33), .ref (am 34), .ref (am 35), .ref (am 36)]))] ++ wt) sz [.ref m0, .int b]) (gc_I G (va_A ([((am 20), .inl (G.2.2 0, 110, .inl sd)), (m0, .inr (12, [.ref (am 0), .int v1, .int v2, .ref (am 3), .ref (am 4), .ref (am 5), .ref (am 6), .ref (am 7), .int v8, .int v9, .int v10, .int v11, .int v12, .int v13, .int v14, .ref (am 15), .int v16, .ref (am 17), .int v18, .ref (am 19), .ref (am 20), .int v21, .int v22, .int v23, .int v24, .int v25, .ref (am 26), .int v27, .ref (am 28), .ref (am 29), .ref (am 30), .ref (am 31), .long v32, .ref (am 33), .ref (am 34), .ref (am 35), .ref (am 36)]))] ++ wt) sz) (fun r (u : va_W) => match u with | wt1 => tk_ty G Γ wt1 ∧ tk_kp [] wt wt1) (fun (u : va_W) => match u with | wt1 => [((am 20), .inl (G.2.2 0, 110, .inl sd)), (m0, .inr (12, [.ref (am 0), .int v1, .int v2, .ref (am 3), .ref (am 4), .ref (am 5), .ref (am 6), .ref (am 7), .int v8, .int v9, .int v10, .int v11, .int v12, .int v13, .int v14, .ref (am 15), .int v16, .ref (am 17), .int v18, .ref (am 19), .ref (am 20), .int v21, .int v22, .int v23, .int v24, .int v25, .ref (am 26), .int v27, .ref (am 28), .ref (am 29), .ref (am 30), .ref (am 31), .long v32, .ref (am 33), .ref (am 34), .ref (am 35), .ref (am 36)]))] ++ wt1)) 0 0 (va_A ([((am 20), .inl (G.2.2 0, 110, .inl sd)), (m0, .inr (12, [.ref (am 0), .int v1, .int v2, .ref (am 3), .ref (am 4), .ref (am 5), .ref (am 6), .ref (am 7), .int v8, .int v9, .int v10, .int v11, .int v12, .int v13, .int v14, .ref (am 15), .int v16, .ref (am 17), .int v18, .ref (am 19), .ref (am 20), .int v21, .int v22, .int v23, .int v24, .int v25, .ref (am 26), .int v27, .ref (am 28), .ref (am 29), .ref (am 30), .ref (am 31), .long v32, .ref (am 33), .ref (am 34), .ref (am 35), .ref (am 36)]))] ++ wt) sz) := by
  refine Met.ofW (cc := cX12_gainOf) (maxL := 4) (ret := (some .int)) (by decide) rfl ?_
  intro p e s m args below meth c s₁ B hml hv
  obtain ⟨rfl, hsz, hP, hK, hD0⟩ := hv
  have hx := B.exec
  have hb := B.bytes
  have hr := B.returns
  have ht := ts_ht (atoms_spec (ws := ts_L yX12_gainOf cX12_gainOf 4 (some .int)) B.pre)
  have hown : s.vm.findClass RX12 = some m.cls := findClass_of_methodNamed B.named
  have hlocks := B.notSynchronized
  subst hsz
  have hD := hD0.self (sz := s.heap.size)
  generalize hAe : va_A ([((am 20), .inl (G.2.2 0, 110, .inl sd)), (m0, .inr (12, [.ref (am 0), .int v1, .int v2, .ref (am 3), .ref (am 4), .ref (am 5), .ref (am 6), .ref (am 7), .int v8, .int v9, .int v10, .int v11, .int v12, .int v13, .int v14, .ref (am 15), .int v16, .ref (am 17), .int v18, .ref (am 19), .ref (am 20), .int v21, .int v22, .int v23, .int v24, .int v25, .ref (am 26), .int v27, .ref (am 28), .ref (am 29), .ref (am 30), .ref (am 31), .long v32, .ref (am 33), .ref (am 34), .ref (am 35), .ref (am 36)]))] ++ wt) s.heap.size = A at hD ⊢
  have hA : ∀ q : Nat, s.heap.size ≤ q → A q := fun q h => by rw [← hAe]; exact Or.inr h
  clear hAe hD0
  have hS : va_S A s.heap s.heap [] := va_S.rf
  obtain ⟨w0, hw0⟩ : ∃ z, z = wt := ⟨_, rfl⟩
  have hW : tk_kp [] w0 wt := by rw [hw0]; exact tk_kp.rf
  rw [← hw0]
  clear hw0
  have hP : va_P (gg_D G) classes ([((am 20), .inl (G.2.2 0, 110, .inl sd)), (m0, .inr (12, [.ref (am 0), .int v1, .int v2, .ref (am 3), .ref (am 4), .ref (am 5), .ref (am 6), .ref (am 7), .int v8, .int v9, .int v10, .int v11, .int v12, .int v13, .int v14, .ref (am 15), .int v16, .ref (am 17), .int v18, .ref (am 19), .ref (am 20), .int v21, .int v22, .int v23, .int v24, .int v25, .ref (am 26), .int v27, .ref (am 28), .ref (am 29), .ref (am 30), .ref (am 31), .long v32, .ref (am 33), .ref (am 34), .ref (am 35), .ref (am 36)]))] ++ wt) s.heap := hP
  have hD : va_D A ([((am 20), .inl (G.2.2 0, 110, .inl sd)), (m0, .inr (12, [.ref (am 0), .int v1, .int v2, .ref (am 3), .ref (am 4), .ref (am 5), .ref (am 6), .ref (am 7), .int v8, .int v9, .int v10, .int v11, .int v12, .int v13, .int v14, .ref (am 15), .int v16, .ref (am 17), .int v18, .ref (am 19), .ref (am 20), .int v21, .int v22, .int v23, .int v24, .int v25, .ref (am 26), .int v27, .ref (am 28), .ref (am 29), .ref (am 30), .ref (am 31), .long v32, .ref (am 33), .ref (am 34), .ref (am 35), .ref (am 36)]))] ++ wt) := hD
  have hl := lv_entry ([.ref m0, .int b]) (n := 4) (Nat.le_of_ble_eq_true rfl)
  rw [lg_entry_eq]
  generalize (lg_sl ([.ref m0, .int b]) ++ List.replicate (4 - (lg_sl ([.ref m0, .int b])).length) Slot.unset).toArray = ls at hl ⊢
  have hl : lv_has ls 4 [(0, .ref m0), (1, .int b)] := hl
  have hKH : KH sd sd := KH.rf
  have l0 : (0 : Int32).toInt = 0 := by decide +kernel
  have l1 : (1 : Int32).toInt = 1 := by decide +kernel
  have l2 : (2 : Int32).toInt = 2 := by decide +kernel
  have l3 : (3 : Int32).toInt = 3 := by decide +kernel
  refine lv_iconst (v := 0) hx hb dX12_gainOf_0 (by decide +kernel) ?_
  refine lv_istore_n (lv' := [(2, .int 0), (0, .ref m0), (1, .int b)]) hx hb dX12_gainOf_1 rfl hl (by decide) rfl (fun ls hl => ?_)
  refine lv_iconst (v := 0) hx hb dX12_gainOf_2 (by decide +kernel) ?_
  refine lv_istore_n (lv' := [(3, .int 0), (2, .int 0), (0, .ref m0), (1, .int b)]) hx hb dX12_gainOf_3 rfl hl (by decide) rfl (fun ls hl => ?_)
  refine tl_loopE (Γ := Γ) (nL := 4) (fun (zz_ : Int32 × Int32) => match zz_ with | (x4_0, x4_1) => 0 ≤ x4_0.toInt ∧ x4_0.toInt ≤ 3) (fun (zz_ : Int32 × Int32) => match zz_ with | (x4_0, x4_1) => (3 - x4_0.toInt).toNat) (fun (zz_ : Int32 × Int32) => match zz_ with | (x4_0, x4_1) => [(3, .int x4_0), (2, .int x4_1), (0, .ref m0), (1, .int b)]) (fun (zz_ : Int32 × Int32) => match zz_ with | (x4_0, x4_1) => [((am 20), .inl (G.2.2 0, 110, .inl sd)), (m0, .inr (12, [.ref (am 0), .int v1, .int v2, .ref (am 3), .ref (am 4), .ref (am 5), .ref (am 6), .ref (am 7), .int v8, .int v9, .int v10, .int v11, .int v12, .int v13, .int v14, .ref (am 15), .int v16, .ref (am 17), .int v18, .ref (am 19), .ref (am 20), .int v21, .int v22, .int v23, .int v24, .int v25, .ref (am 26), .int v27, .ref (am 28), .ref (am 29), .ref (am 30), .ref (am 31), .long v32, .ref (am 33), .ref (am 34), .ref (am 35), .ref (am 36)]))]) (fun (zz_ : Int32 × Int32) (w : va_W) => match zz_ with | (x4_0, x4_1) => tk_kp [] w0 w) (fun zz_ hI H locs wt ls hT hW hP hD hS hl ih4 => ?_) (0, 0) (show 0 ≤ (0 : Int32).toInt ∧ (0 : Int32).toInt ≤ 3 from ⟨by omega, by omega⟩) _ _ wt ls hT hW hP hD hS hl
  obtain ⟨x4_0, x4_1⟩ := zz_
  have hW : tk_kp [] w0 wt := hW
  have hI : 0 ≤ x4_0.toInt ∧ x4_0.toInt ≤ 3 := hI
  obtain ⟨j4_0, j4_1⟩ := hI
  have hl : lv_has ls 4 [(3, .int x4_0), (2, .int x4_1), (0, .ref m0), (1, .int b)] := hl
  have hP : va_P (gg_D G) classes ([((am 20), .inl (G.2.2 0, 110, .inl sd)), (m0, .inr (12, [.ref (am 0), .int v1, .int v2, .ref (am 3), .ref (am 4), .ref (am 5), .ref (am 6), .ref (am 7), .int v8, .int v9, .int v10, .int v11, .int v12, .int v13, .int v14, .ref (am 15), .int v16, .ref (am 17), .int v18, .ref (am 19), .ref (am 20), .int v21, .int v22, .int v23, .int v24, .int v25, .ref (am 26), .int v27, .ref (am 28), .ref (am 29), .ref (am 30), .ref (am 31), .long v32, .ref (am 33), .ref (am 34), .ref (am 35), .ref (am 36)]))] ++ wt) H := hP
  have hD : va_D A ([((am 20), .inl (G.2.2 0, 110, .inl sd)), (m0, .inr (12, [.ref (am 0), .int v1, .int v2, .ref (am 3), .ref (am 4), .ref (am 5), .ref (am 6), .ref (am 7), .int v8, .int v9, .int v10, .int v11, .int v12, .int v13, .int v14, .ref (am 15), .int v16, .ref (am 17), .int v18, .ref (am 19), .ref (am 20), .int v21, .int v22, .int v23, .int v24, .int v25, .ref (am 26), .int v27, .ref (am 28), .ref (am 29), .ref (am 30), .ref (am 31), .long v32, .ref (am 33), .ref (am 34), .ref (am 35), .ref (am 36)]))] ++ wt) := hD
  refine lv_iload_n hx hb dX12_gainOf_4 rfl (lv_at hl 0 rfl) ?_
  refine lv_aload_n hx hb dX12_gainOf_5 rfl (lv_at hl 2 rfl) ?_
  refine gq_get hx hb ht hown hK hP i_X12 1 rfl rfl 20 (by decide) wd_1272 rfl rfl dX12_gainOf_6 ?_
  refine lv_iconst (v := 2) hx hb dX12_gainOf_9 (by decide +kernel) ?_
  obtain ⟨n_1, en_1⟩ : ∃ zz_ : Int32, sd (Int32.toNatClampNeg 2) = zz_ := ⟨_, rfl⟩
  refine gq_iald hx hb hK hP 0 rfl n_1 (ia_in (n := 110) (by omega) (by omega)) en_1 dX12_gainOf_10 ?_
  have En_1 : sd (2) = n_1 := by rw [← show Int32.toNatClampNeg 2 = 2 from ix_n (by omega)]; exact en_1
  have hn_1 : (sd (2)).toInt = n_1.toInt := by rw [En_1]
  have gn_1 := hSD.r2
  refine lv_icmp_ge (tgt := 50) hx hb dX12_gainOf_11 (by decide) (fun c_2 => ?_) (fun c_2 => ?_)
  · rw [Int32.le_iff_toInt_le] at c_2
    refine lv_iload_n hx hb dX12_gainOf_50 rfl (lv_at hl 1 rfl) ?_
    have hP9 : va_P (gg_D G) classes ([((am 20), .inl (G.2.2 0, 110, .inl sd)), (m0, .inr (12, [.ref (am 0), .int v1, .int v2, .ref (am 3), .ref (am 4), .ref (am 5), .ref (am 6), .ref (am 7), .int v8, .int v9, .int v10, .int v11, .int v12, .int v13, .int v14, .ref (am 15), .int v16, .ref (am 17), .int v18, .ref (am 19), .ref (am 20), .int v21, .int v22, .int v23, .int v24, .int v25, .ref (am 26), .int v27, .ref (am 28), .ref (am 29), .ref (am 30), .ref (am 31), .long v32, .ref (am 33), .ref (am 34), .ref (am 35), .ref (am 36)]))] ++ wt) _ := hP
    have hD9 : va_D A ([((am 20), .inl (G.2.2 0, 110, .inl sd)), (m0, .inr (12, [.ref (am 0), .int v1, .int v2, .ref (am 3), .ref (am 4), .ref (am 5), .ref (am 6), .ref (am 7), .int v8, .int v9, .int v10, .int v11, .int v12, .int v13, .int v14, .ref (am 15), .int v16, .ref (am 17), .int v18, .ref (am 19), .ref (am 20), .int v21, .int v22, .int v23, .int v24, .int v25, .ref (am 26), .int v27, .ref (am 28), .ref (am 29), .ref (am 30), .ref (am 31), .long v32, .ref (am 33), .ref (am 34), .ref (am 35), .ref (am 36)]))] ++ wt) := hD
    exact W.iret (v := x4_1) hx hb hr (gq_endI wt ⟨hT, hW⟩ hP9 hD9 hS) hS.2.2 dX12_gainOf_51
  · rw [Int32.le_iff_toInt_le] at c_2
    refine lv_iload_n hx hb dX12_gainOf_14 rfl (lv_at hl 1 rfl) ?_
    refine lv_aload_n hx hb dX12_gainOf_15 rfl (lv_at hl 2 rfl) ?_
    refine lv_iload_n hx hb dX12_gainOf_16 rfl (lv_at hl 0 rfl) ?_
    refine lv_iconst (v := 2) hx hb dX12_gainOf_17 (by decide +kernel) ?_
    have hP : va_P (gg_D G) classes ([] ++ ([((am 20), .inl (G.2.2 0, 110, .inl sd)), (m0, .inr (12, [.ref (am 0), .int v1, .int v2, .ref (am 3), .ref (am 4), .ref (am 5), .ref (am 6), .ref (am 7), .int v8, .int v9, .int v10, .int v11, .int v12, .int v13, .int v14, .ref (am 15), .int v16, .ref (am 17), .int v18, .ref (am 19), .ref (am 20), .int v21, .int v22, .int v23, .int v24, .int v25, .ref (am 26), .int v27, .ref (am 28), .ref (am 29), .ref (am 30), .ref (am 31), .long v32, .ref (am 33), .ref (am 34), .ref (am 35), .ref (am 36)]))] ++ wt)) H := hP
    have hD : va_D A ([] ++ ([((am 20), .inl (G.2.2 0, 110, .inl sd)), (m0, .inr (12, [.ref (am 0), .int v1, .int v2, .ref (am 3), .ref (am 4), .ref (am 5), .ref (am 6), .ref (am 7), .int v8, .int v9, .int v10, .int v11, .int v12, .int v13, .int v14, .ref (am 15), .int v16, .ref (am 17), .int v18, .ref (am 19), .ref (am 20), .int v21, .int v22, .int v23, .int v24, .int v25, .ref (am 26), .int v27, .ref (am 28), .ref (am 29), .ref (am 30), .ref (am 31), .long v32, .ref (am 33), .ref (am 34), .ref (am 35), .ref (am 36)]))] ++ wt)) := hD
    refine gt_callI (wr := []) (va_runV (As := [.int x4_0, .int 2]) (rest := [.int x4_1]) ⟨hx, hb, hml, hown, ht⟩ (d_m_lot2 l G Γ H.size wt hT x4_0 m0 am v1 v2 v8 v9 v10 v11 v12 v13 v14 v16 v18 v21 v22 v23 v24 v25 v27 v32 sd (by omega) (by omega) (by first | assumption | exact hSD.1 | exact hSD.w _ | (rw [hKH 2 (by omega)]; exact hKP) | omega) (by first | assumption | exact hSD.1 | exact hSD.w _ | (rw [hKH 2 (by omega)]; exact hKP) | omega) (by first | assumption | exact hSD.1 | exact hSD.w _ | (rw [hKH 2 (by omega)]; exact hKP) | omega) (by first | assumption | exact hSD.1 | exact hSD.w _ | (rw [hKH 2 (by omega)]; exact hKP) | omega) (by first | assumption | exact hSD.1 | exact hSD.w _ | (rw [hKH 2 (by omega)]; exact hKP) | omega) (by first | assumption | exact hSD.1 | exact hSD.w _ | (rw [hKH 2 (by omega)]; exact hKP) | omega) (by first | assumption | exact hSD.1 | exact hSD.w _ | (rw [hKH 2 (by omega)]; exact hKP) | omega) (by first | assumption | exact hSD.1 | exact hSD.w _ | (rw [hKH 2 (by omega)]; exact hKP) | omega) (by first | assumption | exact hSD.1 | exact hSD.w _ | (rw [hKH 2 (by omega)]; exact hKP) | omega) (by first | assumption | exact hSD.1 | exact hSD.w _ | (rw [hKH 2 (by omega)]; exact hKP) | omega) (by first | assumption | exact hSD.1 | exact hSD.w _ | (rw [hKH 2 (by omega)]; exact hKP) | omega) (by first | assumption | exact hSD.1 | exact hSD.w _ | (rw [hKH 2 (by omega)]; exact hKP) | omega) (by first | assumption | exact hSD.1 | exact hSD.w _ | (rw [hKH 2 (by omega)]; exact hKP) | omega) (by first | assumption | exact hSD.1 | exact hSD.w _ | (rw [hKH 2 (by omega)]; exact hKP) | omega) (by first | assumption | exact hSD.1 | exact hSD.w _ | (rw [hKH 2 (by omega)]; exact hKP) | omega) (by first | assumption | exact hSD.1 | exact hSD.w _ | (rw [hKH 2 (by omega)]; exact hKP) | omega) (by first | assumption | exact hSD.1 | exact hSD.w _ | (rw [hKH 2 (by omega)]; exact hKP) | omega) (by first | assumption | exact hSD.1 | exact hSD.w _ | (rw [hKH 2 (by omega)]; exact hKP) | omega) (by first | assumption | exact hSD.1 | exact hSD.w _ | (rw [hKH 2 (by omega)]; exact hKP) | omega) (by first | assumption | exact hSD.1 | exact hSD.w _ | (rw [hKH 2 (by omega)]; exact hKP) | omega) (by first | assumption | exact hSD.1 | exact hSD.w _ | (rw [hKH 2 (by omega)]; exact hKP) | omega) (by first | assumption | exact hSD.1 | exact hSD.w _ | (rw [hKH 2 (by omega)]; exact hKP) | omega) (by first | assumption | exact hSD.1 | exact hSD.w _ | (rw [hKH 2 (by omega)]; exact hKP) | omega)) (cwV 2 ht (ts_gV wd_1566 wd_1568 wd_76 wd_134 wd_1569) rfl rfl rfl (by decide +kernel) ⟨Nat.le_of_ble_eq_true rfl, Nat.le_of_ble_eq_true rfl⟩) (gc_preV (ci := 12) (q0 := 1) hK (tw_right hP) (tw_rightD hD) rfl rfl) rfl rfl hl.1 rfl (lv_room (Nat.le_of_ble_eq_true rfl)) dX12_gainOf_18 ⟨Nat.le_of_ble_eq_true rfl, Nat.le_of_ble_eq_true rfl⟩) hP hD hS hA (fun r_3 wt H locs hw hP hD hS => ?_)
    obtain ⟨hT, hkp, rp_r_3⟩ := hw
    have hW := hW.call (show ∀ x ∈ [], x ∈ [] by decide) hkp
    have hP : va_P (gg_D G) classes ([((am 20), .inl (G.2.2 0, 110, .inl sd)), (m0, .inr (12, [.ref (am 0), .int v1, .int v2, .ref (am 3), .ref (am 4), .ref (am 5), .ref (am 6), .ref (am 7), .int v8, .int v9, .int v10, .int v11, .int v12, .int v13, .int v14, .ref (am 15), .int v16, .ref (am 17), .int v18, .ref (am 19), .ref (am 20), .int v21, .int v22, .int v23, .int v24, .int v25, .ref (am 26), .int v27, .ref (am 28), .ref (am 29), .ref (am 30), .ref (am 31), .long v32, .ref (am 33), .ref (am 34), .ref (am 35), .ref (am 36)]))] ++ wt) H := hP
    have hD : va_D A ([((am 20), .inl (G.2.2 0, 110, .inl sd)), (m0, .inr (12, [.ref (am 0), .int v1, .int v2, .ref (am 3), .ref (am 4), .ref (am 5), .ref (am 6), .ref (am 7), .int v8, .int v9, .int v10, .int v11, .int v12, .int v13, .int v14, .ref (am 15), .int v16, .ref (am 17), .int v18, .ref (am 19), .ref (am 20), .int v21, .int v22, .int v23, .int v24, .int v25, .ref (am 26), .int v27, .ref (am 28), .ref (am 29), .ref (am 30), .ref (am 31), .long v32, .ref (am 33), .ref (am 34), .ref (am 35), .ref (am 36)]))] ++ wt) := hD
    refine lv_iload_n hx hb dX12_gainOf_21 rfl (lv_at hl 3 rfl) ?_
    refine lv_icmp_ne (tgt := 41) hx hb dX12_gainOf_22 (by decide) (fun c_4 => ?_) (fun c_4 => ?_)
    · rw [← Int32.toInt_inj] at c_4
      refine lv_iconst (v := 0) hx hb dX12_gainOf_41 (by decide +kernel) ?_
      obtain ⟨t_5, et_5⟩ : ∃ zz_ : Int32, x4_1 + 0 = zz_ := ⟨_, rfl⟩
      refine gq_iadd hx hb t_5 et_5 dX12_gainOf_42 ?_
      have bd_x4_1 := ia_bd x4_1
      have ft_5 := ia_add et_5 (by omega) (by omega)
      refine lv_istore_n (lv' := [(2, .int t_5), (3, .int x4_0), (0, .ref m0), (1, .int b)]) hx hb dX12_gainOf_43 rfl hl (by decide) rfl (fun ls hl => ?_)
      obtain ⟨t_6, et_6⟩ : ∃ zz_ : Int32, x4_0 + Int32.ofInt (1) = zz_ := ⟨_, rfl⟩
      have ft_6 : t_6.toInt = x4_0.toInt + (1 : Int32).toInt := ia_add (y := 1) et_6 (by omega) (by omega)
      refine lv_iinc (v := t_6) (lv' := [(3, .int t_6), (2, .int t_5), (0, .ref m0), (1, .int b)]) hx hb dX12_gainOf_44 hl (k := 1) rfl et_6 (by decide) rfl (fun ls hl => ?_)
      refine lv_goto (tgt := 4) hx hb dX12_gainOf_47 (by decide) ?_
      exact ih4 (t_6, t_5) (show 0 ≤ t_6.toInt ∧ t_6.toInt ≤ 3 from ⟨by omega, by omega⟩) (show (3 - t_6.toInt).toNat < (3 - x4_0.toInt).toNat by omega) H locs wt ls hT hW hP hD hS (lv_sub hl [0, 1, 2, 3] rfl)
    · rw [← Int32.toInt_inj] at c_4
      refine lv_aload_n hx hb dX12_gainOf_25 rfl (lv_at hl 2 rfl) ?_
      refine lv_iload_n hx hb dX12_gainOf_26 rfl (lv_at hl 3 rfl) ?_
      refine lv_iload_n hx hb dX12_gainOf_27 rfl (lv_at hl 0 rfl) ?_
      have hP : va_P (gg_D G) classes ([] ++ ([((am 20), .inl (G.2.2 0, 110, .inl sd)), (m0, .inr (12, [.ref (am 0), .int v1, .int v2, .ref (am 3), .ref (am 4), .ref (am 5), .ref (am 6), .ref (am 7), .int v8, .int v9, .int v10, .int v11, .int v12, .int v13, .int v14, .ref (am 15), .int v16, .ref (am 17), .int v18, .ref (am 19), .ref (am 20), .int v21, .int v22, .int v23, .int v24, .int v25, .ref (am 26), .int v27, .ref (am 28), .ref (am 29), .ref (am 30), .ref (am 31), .long v32, .ref (am 33), .ref (am 34), .ref (am 35), .ref (am 36)]))] ++ wt)) H := hP
      have hD : va_D A ([] ++ ([((am 20), .inl (G.2.2 0, 110, .inl sd)), (m0, .inr (12, [.ref (am 0), .int v1, .int v2, .ref (am 3), .ref (am 4), .ref (am 5), .ref (am 6), .ref (am 7), .int v8, .int v9, .int v10, .int v11, .int v12, .int v13, .int v14, .ref (am 15), .int v16, .ref (am 17), .int v18, .ref (am 19), .ref (am 20), .int v21, .int v22, .int v23, .int v24, .int v25, .ref (am 26), .int v27, .ref (am 28), .ref (am 29), .ref (am 30), .ref (am 31), .long v32, .ref (am 33), .ref (am 34), .ref (am 35), .ref (am 36)]))] ++ wt)) := hD
      refine gt_callI (wr := []) (va_runV (As := [.int b, .int x4_0]) (rest := [.int x4_1]) ⟨hx, hb, hml, hown, ht⟩ (d_m_worthTo l G Γ H.size wt hT b x4_0 m0 am v1 v2 v8 v9 v10 v11 v12 v13 v14 v16 v18 v21 v22 v23 v24 v25 v27 v32 sd (by omega) (by omega) (by omega) (by omega) (by first | assumption | exact hSD.1 | exact hSD.w _ | (rw [hKH 2 (by omega)]; exact hKP) | omega) (by first | assumption | exact hSD.1 | exact hSD.w _ | (rw [hKH 2 (by omega)]; exact hKP) | omega) (by first | assumption | exact hSD.1 | exact hSD.w _ | (rw [hKH 2 (by omega)]; exact hKP) | omega) (by first | assumption | exact hSD.1 | exact hSD.w _ | (rw [hKH 2 (by omega)]; exact hKP) | omega) (by first | assumption | exact hSD.1 | exact hSD.w _ | (rw [hKH 2 (by omega)]; exact hKP) | omega) (by first | assumption | exact hSD.1 | exact hSD.w _ | (rw [hKH 2 (by omega)]; exact hKP) | omega) (by first | assumption | exact hSD.1 | exact hSD.w _ | (rw [hKH 2 (by omega)]; exact hKP) | omega) (by first | assumption | exact hSD.1 | exact hSD.w _ | (rw [hKH 2 (by omega)]; exact hKP) | omega) (by first | assumption | exact hSD.1 | exact hSD.w _ | (rw [hKH 2 (by omega)]; exact hKP) | omega) (by first | assumption | exact hSD.1 | exact hSD.w _ | (rw [hKH 2 (by omega)]; exact hKP) | omega) (by first | assumption | exact hSD.1 | exact hSD.w _ | (rw [hKH 2 (by omega)]; exact hKP) | omega) (by first | assumption | exact hSD.1 | exact hSD.w _ | (rw [hKH 2 (by omega)]; exact hKP) | omega) (by first | assumption | exact hSD.1 | exact hSD.w _ | (rw [hKH 2 (by omega)]; exact hKP) | omega) (by first | assumption | exact hSD.1 | exact hSD.w _ | (rw [hKH 2 (by omega)]; exact hKP) | omega) (by first | assumption | exact hSD.1 | exact hSD.w _ | (rw [hKH 2 (by omega)]; exact hKP) | omega) (by first | assumption | exact hSD.1 | exact hSD.w _ | (rw [hKH 2 (by omega)]; exact hKP) | omega) (by first | assumption | exact hSD.1 | exact hSD.w _ | (rw [hKH 2 (by omega)]; exact hKP) | omega) (by first | assumption | exact hSD.1 | exact hSD.w _ | (rw [hKH 2 (by omega)]; exact hKP) | omega) (by first | assumption | exact hSD.1 | exact hSD.w _ | (rw [hKH 2 (by omega)]; exact hKP) | omega) (by first | assumption | exact hSD.1 | exact hSD.w _ | (rw [hKH 2 (by omega)]; exact hKP) | omega) (by first | assumption | exact hSD.1 | exact hSD.w _ | (rw [hKH 2 (by omega)]; exact hKP) | omega) (by first | assumption | exact hSD.1 | exact hSD.w _ | (rw [hKH 2 (by omega)]; exact hKP) | omega) (by first | assumption | exact hSD.1 | exact hSD.w _ | (rw [hKH 2 (by omega)]; exact hKP) | omega)) (cwV 2 ht (ts_gV wd_1574 wd_1576 wd_78 wd_134 wd_1577) rfl rfl rfl (by decide +kernel) ⟨Nat.le_of_ble_eq_true rfl, Nat.le_of_ble_eq_true rfl⟩) (gc_preV (ci := 12) (q0 := 1) hK (tw_right hP) (tw_rightD hD) rfl rfl) rfl rfl hl.1 rfl (lv_room (Nat.le_of_ble_eq_true rfl)) dX12_gainOf_28 ⟨Nat.le_of_ble_eq_true rfl, Nat.le_of_ble_eq_true rfl⟩) hP hD hS hA (fun r_7 wt H locs hw hP hD hS => ?_)
      obtain ⟨hT, hkp⟩ := hw
      have hW := hW.call (show ∀ x ∈ [], x ∈ [] by decide) hkp
      have hP : va_P (gg_D G) classes ([((am 20), .inl (G.2.2 0, 110, .inl sd)), (m0, .inr (12, [.ref (am 0), .int v1, .int v2, .ref (am 3), .ref (am 4), .ref (am 5), .ref (am 6), .ref (am 7), .int v8, .int v9, .int v10, .int v11, .int v12, .int v13, .int v14, .ref (am 15), .int v16, .ref (am 17), .int v18, .ref (am 19), .ref (am 20), .int v21, .int v22, .int v23, .int v24, .int v25, .ref (am 26), .int v27, .ref (am 28), .ref (am 29), .ref (am 30), .ref (am 31), .long v32, .ref (am 33), .ref (am 34), .ref (am 35), .ref (am 36)]))] ++ wt) H := hP
      have hD : va_D A ([((am 20), .inl (G.2.2 0, 110, .inl sd)), (m0, .inr (12, [.ref (am 0), .int v1, .int v2, .ref (am 3), .ref (am 4), .ref (am 5), .ref (am 6), .ref (am 7), .int v8, .int v9, .int v10, .int v11, .int v12, .int v13, .int v14, .ref (am 15), .int v16, .ref (am 17), .int v18, .ref (am 19), .ref (am 20), .int v21, .int v22, .int v23, .int v24, .int v25, .ref (am 26), .int v27, .ref (am 28), .ref (am 29), .ref (am 30), .ref (am 31), .long v32, .ref (am 33), .ref (am 34), .ref (am 35), .ref (am 36)]))] ++ wt) := hD
      refine lv_aload_n hx hb dX12_gainOf_31 rfl (lv_at hl 2 rfl) ?_
      refine lv_iload_n hx hb dX12_gainOf_32 rfl (lv_at hl 0 rfl) ?_
      refine lv_iconst (v := 3) hx hb dX12_gainOf_33 (by decide +kernel) ?_
      have hP : va_P (gg_D G) classes ([] ++ ([((am 20), .inl (G.2.2 0, 110, .inl sd)), (m0, .inr (12, [.ref (am 0), .int v1, .int v2, .ref (am 3), .ref (am 4), .ref (am 5), .ref (am 6), .ref (am 7), .int v8, .int v9, .int v10, .int v11, .int v12, .int v13, .int v14, .ref (am 15), .int v16, .ref (am 17), .int v18, .ref (am 19), .ref (am 20), .int v21, .int v22, .int v23, .int v24, .int v25, .ref (am 26), .int v27, .ref (am 28), .ref (am 29), .ref (am 30), .ref (am 31), .long v32, .ref (am 33), .ref (am 34), .ref (am 35), .ref (am 36)]))] ++ wt)) H := hP
      have hD : va_D A ([] ++ ([((am 20), .inl (G.2.2 0, 110, .inl sd)), (m0, .inr (12, [.ref (am 0), .int v1, .int v2, .ref (am 3), .ref (am 4), .ref (am 5), .ref (am 6), .ref (am 7), .int v8, .int v9, .int v10, .int v11, .int v12, .int v13, .int v14, .ref (am 15), .int v16, .ref (am 17), .int v18, .ref (am 19), .ref (am 20), .int v21, .int v22, .int v23, .int v24, .int v25, .ref (am 26), .int v27, .ref (am 28), .ref (am 29), .ref (am 30), .ref (am 31), .long v32, .ref (am 33), .ref (am 34), .ref (am 35), .ref (am 36)]))] ++ wt)) := hD
      refine gt_callI (wr := []) (va_runV (As := [.int x4_0, .int 3]) (rest := [.int r_7, .int x4_1]) ⟨hx, hb, hml, hown, ht⟩ (d_m_lot3 l G Γ H.size wt hT x4_0 m0 am v1 v2 v8 v9 v10 v11 v12 v13 v14 v16 v18 v21 v22 v23 v24 v25 v27 v32 sd (by omega) (by omega) (by first | assumption | exact hSD.1 | exact hSD.w _ | (rw [hKH 2 (by omega)]; exact hKP) | omega) (by first | assumption | exact hSD.1 | exact hSD.w _ | (rw [hKH 2 (by omega)]; exact hKP) | omega) (by first | assumption | exact hSD.1 | exact hSD.w _ | (rw [hKH 2 (by omega)]; exact hKP) | omega) (by first | assumption | exact hSD.1 | exact hSD.w _ | (rw [hKH 2 (by omega)]; exact hKP) | omega) (by first | assumption | exact hSD.1 | exact hSD.w _ | (rw [hKH 2 (by omega)]; exact hKP) | omega) (by first | assumption | exact hSD.1 | exact hSD.w _ | (rw [hKH 2 (by omega)]; exact hKP) | omega) (by first | assumption | exact hSD.1 | exact hSD.w _ | (rw [hKH 2 (by omega)]; exact hKP) | omega) (by first | assumption | exact hSD.1 | exact hSD.w _ | (rw [hKH 2 (by omega)]; exact hKP) | omega) (by first | assumption | exact hSD.1 | exact hSD.w _ | (rw [hKH 2 (by omega)]; exact hKP) | omega) (by first | assumption | exact hSD.1 | exact hSD.w _ | (rw [hKH 2 (by omega)]; exact hKP) | omega) (by first | assumption | exact hSD.1 | exact hSD.w _ | (rw [hKH 2 (by omega)]; exact hKP) | omega) (by first | assumption | exact hSD.1 | exact hSD.w _ | (rw [hKH 2 (by omega)]; exact hKP) | omega) (by first | assumption | exact hSD.1 | exact hSD.w _ | (rw [hKH 2 (by omega)]; exact hKP) | omega) (by first | assumption | exact hSD.1 | exact hSD.w _ | (rw [hKH 2 (by omega)]; exact hKP) | omega) (by first | assumption | exact hSD.1 | exact hSD.w _ | (rw [hKH 2 (by omega)]; exact hKP) | omega) (by first | assumption | exact hSD.1 | exact hSD.w _ | (rw [hKH 2 (by omega)]; exact hKP) | omega) (by first | assumption | exact hSD.1 | exact hSD.w _ | (rw [hKH 2 (by omega)]; exact hKP) | omega) (by first | assumption | exact hSD.1 | exact hSD.w _ | (rw [hKH 2 (by omega)]; exact hKP) | omega) (by first | assumption | exact hSD.1 | exact hSD.w _ | (rw [hKH 2 (by omega)]; exact hKP) | omega) (by first | assumption | exact hSD.1 | exact hSD.w _ | (rw [hKH 2 (by omega)]; exact hKP) | omega) (by first | assumption | exact hSD.1 | exact hSD.w _ | (rw [hKH 2 (by omega)]; exact hKP) | omega) (by first | assumption | exact hSD.1 | exact hSD.w _ | (rw [hKH 2 (by omega)]; exact hKP) | omega) (by first | assumption | exact hSD.1 | exact hSD.w _ | (rw [hKH 2 (by omega)]; exact hKP) | omega)) (cwV 2 ht (ts_gV wd_1566 wd_1568 wd_76 wd_134 wd_1569) rfl rfl rfl (by decide +kernel) ⟨Nat.le_of_ble_eq_true rfl, Nat.le_of_ble_eq_true rfl⟩) (gc_preV (ci := 12) (q0 := 1) hK (tw_right hP) (tw_rightD hD) rfl rfl) rfl rfl hl.1 rfl (lv_room (Nat.le_of_ble_eq_true rfl)) dX12_gainOf_34 ⟨Nat.le_of_ble_eq_true rfl, Nat.le_of_ble_eq_true rfl⟩) hP hD hS hA (fun r_8 wt H locs hw hP hD hS => ?_)
      obtain ⟨hT, hkp, rp_r_8⟩ := hw
      have hW := hW.call (show ∀ x ∈ [], x ∈ [] by decide) hkp
      have hP : va_P (gg_D G) classes ([((am 20), .inl (G.2.2 0, 110, .inl sd)), (m0, .inr (12, [.ref (am 0), .int v1, .int v2, .ref (am 3), .ref (am 4), .ref (am 5), .ref (am 6), .ref (am 7), .int v8, .int v9, .int v10, .int v11, .int v12, .int v13, .int v14, .ref (am 15), .int v16, .ref (am 17), .int v18, .ref (am 19), .ref (am 20), .int v21, .int v22, .int v23, .int v24, .int v25, .ref (am 26), .int v27, .ref (am 28), .ref (am 29), .ref (am 30), .ref (am 31), .long v32, .ref (am 33), .ref (am 34), .ref (am 35), .ref (am 36)]))] ++ wt) H := hP
      have hD : va_D A ([((am 20), .inl (G.2.2 0, 110, .inl sd)), (m0, .inr (12, [.ref (am 0), .int v1, .int v2, .ref (am 3), .ref (am 4), .ref (am 5), .ref (am 6), .ref (am 7), .int v8, .int v9, .int v10, .int v11, .int v12, .int v13, .int v14, .ref (am 15), .int v16, .ref (am 17), .int v18, .ref (am 19), .ref (am 20), .int v21, .int v22, .int v23, .int v24, .int v25, .ref (am 26), .int v27, .ref (am 28), .ref (am 29), .ref (am 30), .ref (am 31), .long v32, .ref (am 33), .ref (am 34), .ref (am 35), .ref (am 36)]))] ++ wt) := hD
      obtain ⟨t_9, et_9⟩ : ∃ zz_ : Int32, r_7 - r_8 = zz_ := ⟨_, rfl⟩
      refine gq_isub hx hb t_9 et_9 dX12_gainOf_37 ?_
      refine lv_goto (tgt := 42) hx hb dX12_gainOf_38 (by decide) ?_
      obtain ⟨t_10, et_10⟩ : ∃ zz_ : Int32, x4_1 + t_9 = zz_ := ⟨_, rfl⟩
      refine gq_iadd hx hb t_10 et_10 dX12_gainOf_42 ?_
      refine lv_istore_n (lv' := [(2, .int t_10), (3, .int x4_0), (0, .ref m0), (1, .int b)]) hx hb dX12_gainOf_43 rfl hl (by decide) rfl (fun ls hl => ?_)
      obtain ⟨t_11, et_11⟩ : ∃ zz_ : Int32, x4_0 + Int32.ofInt (1) = zz_ := ⟨_, rfl⟩
      have ft_11 : t_11.toInt = x4_0.toInt + (1 : Int32).toInt := ia_add (y := 1) et_11 (by omega) (by omega)
      refine lv_iinc (v := t_11) (lv' := [(3, .int t_11), (2, .int t_10), (0, .ref m0), (1, .int b)]) hx hb dX12_gainOf_44 hl (k := 1) rfl et_11 (by decide) rfl (fun ls hl => ?_)
      refine lv_goto (tgt := 4) hx hb dX12_gainOf_47 (by decide) ?_
      exact ih4 (t_11, t_10) (show 0 ≤ t_11.toInt ∧ t_11.toInt ≤ 3 from ⟨by omega, by omega⟩) (show (3 - t_11.toInt).toNat < (3 - x4_0.toInt).toNat by omega) H locs wt ls hT hW hP hD hS (lv_sub hl [0, 1, 2, 3] rfl)
set_option maxHeartbeats 4000000 in
set_option maxRecDepth 100000 in
theorem d_m_gainsOf (l : Launch) (G : gg_T) (Γ : Nat → Nat) (sz : Nat) (wt : va_W) (hT : tk_ty G Γ wt) (b : Int32) (m0 : Nat) (am : Nat → Nat) (v1 : Int32) (v2 : Int32) (v8 : Int32) (v9 : Int32) (v10 : Int32) (v11 : Int32) (v12 : Int32) (v13 : Int32) (v14 : Int32) (v16 : Int32) (v18 : Int32) (v21 : Int32) (v22 : Int32) (v23 : Int32) (v24 : Int32) (v25 : Int32) (v27 : Int32) (v32 : Int64) (sd : Nat → Int32) (lo_b : 0 ≤ b.toInt) (hi_b : b.toInt ≤ 31) (k17 : Γ (am 17) = 32) (k19 : Γ (am 19) = 30) (k30 : Γ (am 30) = 28) (k31 : Γ (am 31) = 28) (lo_v1 : 0 ≤ v1.toInt) (hi_v1 : v1.toInt ≤ 400) (lo_v2 : 0 ≤ v2.toInt) (hi_v2 : v2.toInt ≤ 6) (lo_v8 : 0 ≤ v8.toInt) (hi_v8 : v8.toInt ≤ 400) (lo_v11 : 0 ≤ v11.toInt) (hi_v11 : v11.toInt ≤ 6) (lo_v12 : 0 ≤ v12.toInt) (hi_v12 : v12.toInt ≤ 60) (lo_v16 : 0 ≤ v16.toInt) (hi_v16 : v16.toInt ≤ 400) (lo_v21 : -1 ≤ v21.toInt) (hi_v21 : v21.toInt ≤ 5) (lo_v23 : 0 ≤ v23.toInt) (hi_v23 : v23.toInt ≤ 31) (lo_v27 : 0 ≤ v27.toInt) (hi_v27 : v27.toInt ≤ 20) (xfr : v21.toInt < v2.toInt) (hSD : SD sd) : Met l yX12_gainsOf (ts_L yX12_gainsOf cX12_gainsOf 4 (some .int)) ({ frames := 2, cells := 0, slots := 0, locals := 45 }) (gc_P G ([((am 20), .inl (G.2.2 0, 110, .inl sd)), (m0, .inr (12, [.ref (am 0), .int v1, .int v2, .ref (am 3), .ref (am 4), .ref (am 5), .ref (am 6), .ref (am 7), .int v8, .int v9, .int v10, .int v11, .int v12, .int v13, .int v14, .ref (am 15), .int v16, .ref (am 17), .int v18, .ref (am 19), .ref (am 20), .int v21, .int v22, .int v23, .int v24, .int v25, .ref (am 26), .int v27, .ref (am 28), .ref (am 29), .ref (am 30), .ref (am 31), .long v32, .ref (am 33), .ref (am 34), .ref (am 35), .ref (am 36)]))] ++ wt) sz [.ref m0, .int b]) (gc_I G (va_A ([((am 20), .inl (G.2.2 0, 110, .inl sd)), (m0, .inr (12, [.ref (am 0), .int v1, .int v2, .ref (am 3), .ref (am 4), .ref (am 5), .ref (am 6), .ref (am 7), .int v8, .int v9, .int v10, .int v11, .int v12, .int v13, .int v14, .ref (am 15), .int v16, .ref (am 17), .int v18, .ref (am 19), .ref (am 20), .int v21, .int v22, .int v23, .int v24, .int v25, .ref (am 26), .int v27, .ref (am 28), .ref (am 29), .ref (am 30), .ref (am 31), .long v32, .ref (am 33), .ref (am 34), .ref (am 35), .ref (am 36)]))] ++ wt) sz) (fun r (u : va_W) => match u with | wt1 => tk_ty G Γ wt1 ∧ tk_kp [] wt wt1) (fun (u : va_W) => match u with | wt1 => [((am 20), .inl (G.2.2 0, 110, .inl sd)), (m0, .inr (12, [.ref (am 0), .int v1, .int v2, .ref (am 3), .ref (am 4), .ref (am 5), .ref (am 6), .ref (am 7), .int v8, .int v9, .int v10, .int v11, .int v12, .int v13, .int v14, .ref (am 15), .int v16, .ref (am 17), .int v18, .ref (am 19), .ref (am 20), .int v21, .int v22, .int v23, .int v24, .int v25, .ref (am 26), .int v27, .ref (am 28), .ref (am 29), .ref (am 30), .ref (am 31), .long v32, .ref (am 33), .ref (am 34), .ref (am 35), .ref (am 36)]))] ++ wt1)) 0 0 (va_A ([((am 20), .inl (G.2.2 0, 110, .inl sd)), (m0, .inr (12, [.ref (am 0), .int v1, .int v2, .ref (am 3), .ref (am 4), .ref (am 5), .ref (am 6), .ref (am 7), .int v8, .int v9, .int v10, .int v11, .int v12, .int v13, .int v14, .ref (am 15), .int v16, .ref (am 17), .int v18, .ref (am 19), .ref (am 20), .int v21, .int v22, .int v23, .int v24, .int v25, .ref (am 26), .int v27, .ref (am 28), .ref (am 29), .ref (am 30), .ref (am 31), .long v32, .ref (am 33), .ref (am 34), .ref (am 35), .ref (am 36)]))] ++ wt) sz) := by
  refine Met.ofW (cc := cX12_gainsOf) (maxL := 4) (ret := (some .int)) (by decide) rfl ?_
  intro p e s m args below meth c s₁ B hml hv
  obtain ⟨rfl, hsz, hP, hK, hD0⟩ := hv
  have hx := B.exec
  have hb := B.bytes
  have hr := B.returns
  have ht := ts_ht (atoms_spec (ws := ts_L yX12_gainsOf cX12_gainsOf 4 (some .int)) B.pre)
  have hown : s.vm.findClass RX12 = some m.cls := findClass_of_methodNamed B.named
  have hlocks := B.notSynchronized
  subst hsz
  have hD := hD0.self (sz := s.heap.size)
  generalize hAe : va_A ([((am 20), .inl (G.2.2 0, 110, .inl sd)), (m0, .inr (12, [.ref (am 0), .int v1, .int v2, .ref (am 3), .ref (am 4), .ref (am 5), .ref (am 6), .ref (am 7), .int v8, .int v9, .int v10, .int v11, .int v12, .int v13, .int v14, .ref (am 15), .int v16, .ref (am 17), .int v18, .ref (am 19), .ref (am 20), .int v21, .int v22, .int v23, .int v24, .int v25, .ref (am 26), .int v27, .ref (am 28), .ref (am 29), .ref (am 30), .ref (am 31), .long v32, .ref (am 33), .ref (am 34), .ref (am 35), .ref (am 36)]))] ++ wt) s.heap.size = A at hD ⊢
  have hA : ∀ q : Nat, s.heap.size ≤ q → A q := fun q h => by rw [← hAe]; exact Or.inr h
  clear hAe hD0
  have hS : va_S A s.heap s.heap [] := va_S.rf
  obtain ⟨w0, hw0⟩ : ∃ z, z = wt := ⟨_, rfl⟩
  have hW : tk_kp [] w0 wt := by rw [hw0]; exact tk_kp.rf
  rw [← hw0]
  clear hw0
  have hP : va_P (gg_D G) classes ([((am 20), .inl (G.2.2 0, 110, .inl sd)), (m0, .inr (12, [.ref (am 0), .int v1, .int v2, .ref (am 3), .ref (am 4), .ref (am 5), .ref (am 6), .ref (am 7), .int v8, .int v9, .int v10, .int v11, .int v12, .int v13, .int v14, .ref (am 15), .int v16, .ref (am 17), .int v18, .ref (am 19), .ref (am 20), .int v21, .int v22, .int v23, .int v24, .int v25, .ref (am 26), .int v27, .ref (am 28), .ref (am 29), .ref (am 30), .ref (am 31), .long v32, .ref (am 33), .ref (am 34), .ref (am 35), .ref (am 36)]))] ++ wt) s.heap := hP
  have hD : va_D A ([((am 20), .inl (G.2.2 0, 110, .inl sd)), (m0, .inr (12, [.ref (am 0), .int v1, .int v2, .ref (am 3), .ref (am 4), .ref (am 5), .ref (am 6), .ref (am 7), .int v8, .int v9, .int v10, .int v11, .int v12, .int v13, .int v14, .ref (am 15), .int v16, .ref (am 17), .int v18, .ref (am 19), .ref (am 20), .int v21, .int v22, .int v23, .int v24, .int v25, .ref (am 26), .int v27, .ref (am 28), .ref (am 29), .ref (am 30), .ref (am 31), .long v32, .ref (am 33), .ref (am 34), .ref (am 35), .ref (am 36)]))] ++ wt) := hD
  have hl := lv_entry ([.ref m0, .int b]) (n := 4) (Nat.le_of_ble_eq_true rfl)
  rw [lg_entry_eq]
  generalize (lg_sl ([.ref m0, .int b]) ++ List.replicate (4 - (lg_sl ([.ref m0, .int b])).length) Slot.unset).toArray = ls at hl ⊢
  have hl : lv_has ls 4 [(0, .ref m0), (1, .int b)] := hl
  have hKH : KH sd sd := KH.rf
  have l0 : (0 : Int32).toInt = 0 := by decide +kernel
  have l1 : (1 : Int32).toInt = 1 := by decide +kernel
  refine lv_iconst (v := 0) hx hb dX12_gainsOf_0 (by decide +kernel) ?_
  refine lv_istore_n (lv' := [(2, .int 0), (0, .ref m0), (1, .int b)]) hx hb dX12_gainsOf_1 rfl hl (by decide) rfl (fun ls hl => ?_)
  refine lv_iconst (v := 0) hx hb dX12_gainsOf_2 (by decide +kernel) ?_
  refine lv_istore_n (lv' := [(3, .int 0), (2, .int 0), (0, .ref m0), (1, .int b)]) hx hb dX12_gainsOf_3 rfl hl (by decide) rfl (fun ls hl => ?_)
  refine tl_loopE (Γ := Γ) (nL := 4) (fun (zz_ : Int32 × Int32) => match zz_ with | (x4_0, x4_1) => 0 ≤ x4_0.toInt ∧ x4_0.toInt ≤ 5) (fun (zz_ : Int32 × Int32) => match zz_ with | (x4_0, x4_1) => (5 - x4_0.toInt).toNat) (fun (zz_ : Int32 × Int32) => match zz_ with | (x4_0, x4_1) => [(3, .int x4_0), (2, .int x4_1), (0, .ref m0), (1, .int b)]) (fun (zz_ : Int32 × Int32) => match zz_ with | (x4_0, x4_1) => [((am 20), .inl (G.2.2 0, 110, .inl sd)), (m0, .inr (12, [.ref (am 0), .int v1, .int v2, .ref (am 3), .ref (am 4), .ref (am 5), .ref (am 6), .ref (am 7), .int v8, .int v9, .int v10, .int v11, .int v12, .int v13, .int v14, .ref (am 15), .int v16, .ref (am 17), .int v18, .ref (am 19), .ref (am 20), .int v21, .int v22, .int v23, .int v24, .int v25, .ref (am 26), .int v27, .ref (am 28), .ref (am 29), .ref (am 30), .ref (am 31), .long v32, .ref (am 33), .ref (am 34), .ref (am 35), .ref (am 36)]))]) (fun (zz_ : Int32 × Int32) (w : va_W) => match zz_ with | (x4_0, x4_1) => tk_kp [] w0 w) (fun zz_ hI H locs wt ls hT hW hP hD hS hl ih4 => ?_) (0, 0) (show 0 ≤ (0 : Int32).toInt ∧ (0 : Int32).toInt ≤ 5 from ⟨by omega, by omega⟩) _ _ wt ls hT hW hP hD hS hl
  obtain ⟨x4_0, x4_1⟩ := zz_
  have hW : tk_kp [] w0 wt := hW
  have hI : 0 ≤ x4_0.toInt ∧ x4_0.toInt ≤ 5 := hI
  obtain ⟨j4_0, j4_1⟩ := hI
  have hl : lv_has ls 4 [(3, .int x4_0), (2, .int x4_1), (0, .ref m0), (1, .int b)] := hl
  have hP : va_P (gg_D G) classes ([((am 20), .inl (G.2.2 0, 110, .inl sd)), (m0, .inr (12, [.ref (am 0), .int v1, .int v2, .ref (am 3), .ref (am 4), .ref (am 5), .ref (am 6), .ref (am 7), .int v8, .int v9, .int v10, .int v11, .int v12, .int v13, .int v14, .ref (am 15), .int v16, .ref (am 17), .int v18, .ref (am 19), .ref (am 20), .int v21, .int v22, .int v23, .int v24, .int v25, .ref (am 26), .int v27, .ref (am 28), .ref (am 29), .ref (am 30), .ref (am 31), .long v32, .ref (am 33), .ref (am 34), .ref (am 35), .ref (am 36)]))] ++ wt) H := hP
  have hD : va_D A ([((am 20), .inl (G.2.2 0, 110, .inl sd)), (m0, .inr (12, [.ref (am 0), .int v1, .int v2, .ref (am 3), .ref (am 4), .ref (am 5), .ref (am 6), .ref (am 7), .int v8, .int v9, .int v10, .int v11, .int v12, .int v13, .int v14, .ref (am 15), .int v16, .ref (am 17), .int v18, .ref (am 19), .ref (am 20), .int v21, .int v22, .int v23, .int v24, .int v25, .ref (am 26), .int v27, .ref (am 28), .ref (am 29), .ref (am 30), .ref (am 31), .long v32, .ref (am 33), .ref (am 34), .ref (am 35), .ref (am 36)]))] ++ wt) := hD
  refine lv_iload_n hx hb dX12_gainsOf_4 rfl (lv_at hl 0 rfl) ?_
  refine lv_aload_n hx hb dX12_gainsOf_5 rfl (lv_at hl 2 rfl) ?_
  refine gq_get hx hb ht hown hK hP i_X12 1 rfl rfl 20 (by decide) wd_1272 rfl rfl dX12_gainsOf_6 ?_
  refine lv_iconst (v := 1) hx hb dX12_gainsOf_9 (by decide +kernel) ?_
  obtain ⟨n_1, en_1⟩ : ∃ zz_ : Int32, sd (Int32.toNatClampNeg 1) = zz_ := ⟨_, rfl⟩
  refine gq_iald hx hb hK hP 0 rfl n_1 (ia_in (n := 110) (by omega) (by omega)) en_1 dX12_gainsOf_10 ?_
  have En_1 : sd (1) = n_1 := by rw [← show Int32.toNatClampNeg 1 = 1 from ix_n (by omega)]; exact en_1
  have hn_1 : (sd (1)).toInt = n_1.toInt := by rw [En_1]
  have gn_1 := hSD.r1
  refine lv_icmp_ge (tgt := 40) hx hb dX12_gainsOf_11 (by decide) (fun c_2 => ?_) (fun c_2 => ?_)
  · rw [Int32.le_iff_toInt_le] at c_2
    refine lv_iload_n hx hb dX12_gainsOf_40 rfl (lv_at hl 1 rfl) ?_
    have hP9 : va_P (gg_D G) classes ([((am 20), .inl (G.2.2 0, 110, .inl sd)), (m0, .inr (12, [.ref (am 0), .int v1, .int v2, .ref (am 3), .ref (am 4), .ref (am 5), .ref (am 6), .ref (am 7), .int v8, .int v9, .int v10, .int v11, .int v12, .int v13, .int v14, .ref (am 15), .int v16, .ref (am 17), .int v18, .ref (am 19), .ref (am 20), .int v21, .int v22, .int v23, .int v24, .int v25, .ref (am 26), .int v27, .ref (am 28), .ref (am 29), .ref (am 30), .ref (am 31), .long v32, .ref (am 33), .ref (am 34), .ref (am 35), .ref (am 36)]))] ++ wt) _ := hP
    have hD9 : va_D A ([((am 20), .inl (G.2.2 0, 110, .inl sd)), (m0, .inr (12, [.ref (am 0), .int v1, .int v2, .ref (am 3), .ref (am 4), .ref (am 5), .ref (am 6), .ref (am 7), .int v8, .int v9, .int v10, .int v11, .int v12, .int v13, .int v14, .ref (am 15), .int v16, .ref (am 17), .int v18, .ref (am 19), .ref (am 20), .int v21, .int v22, .int v23, .int v24, .int v25, .ref (am 26), .int v27, .ref (am 28), .ref (am 29), .ref (am 30), .ref (am 31), .long v32, .ref (am 33), .ref (am 34), .ref (am 35), .ref (am 36)]))] ++ wt) := hD
    exact W.iret (v := x4_1) hx hb hr (gq_endI wt ⟨hT, hW⟩ hP9 hD9 hS) hS.2.2 dX12_gainsOf_41
  · rw [Int32.le_iff_toInt_le] at c_2
    refine lv_iload_n hx hb dX12_gainsOf_14 rfl (lv_at hl 1 rfl) ?_
    refine lv_iload_n hx hb dX12_gainsOf_15 rfl (lv_at hl 3 rfl) ?_
    refine lv_iload_n hx hb dX12_gainsOf_16 rfl (lv_at hl 0 rfl) ?_
    refine gt_callI (wr := [((am 20), .inl (G.2.2 0, 110, .inl sd)), (m0, .inr (12, [.ref (am 0), .int v1, .int v2, .ref (am 3), .ref (am 4), .ref (am 5), .ref (am 6), .ref (am 7), .int v8, .int v9, .int v10, .int v11, .int v12, .int v13, .int v14, .ref (am 15), .int v16, .ref (am 17), .int v18, .ref (am 19), .ref (am 20), .int v21, .int v22, .int v23, .int v24, .int v25, .ref (am 26), .int v27, .ref (am 28), .ref (am 29), .ref (am 30), .ref (am 31), .long v32, .ref (am 33), .ref (am 34), .ref (am 35), .ref (am 36)]))]) (va_runS (As := [.int b, .int x4_0]) (rest := [.int x4_1]) ⟨hx, hb, hml, hown, ht⟩ (d_m_isOf l G Γ H.size wt hT b x4_0 (by omega) (by omega) (by omega) (by omega)) (va_cwS 2 ht (ts_gS wd_1635 wd_1636 wd_134 wd_1637) rfl rfl rfl (by decide +kernel) ⟨Nat.le_of_ble_eq_true rfl, Nat.le_of_ble_eq_true rfl⟩) (gc_preS hK (tw_right hP) (tw_rightD hD)) rfl rfl hl.1 rfl (lv_room (Nat.le_of_ble_eq_true rfl)) dX12_gainsOf_17 ⟨Nat.le_of_ble_eq_true rfl, Nat.le_of_ble_eq_true rfl⟩) hP hD hS hA (fun r_3 wt H locs hw hP hD hS => ?_)
    obtain ⟨hT, hkp, lo_r_3, hi_r_3, rp_r_3⟩ := hw
    have hW := hW.call (show ∀ x ∈ [], x ∈ [] by decide) hkp
    have hP : va_P (gg_D G) classes ([((am 20), .inl (G.2.2 0, 110, .inl sd)), (m0, .inr (12, [.ref (am 0), .int v1, .int v2, .ref (am 3), .ref (am 4), .ref (am 5), .ref (am 6), .ref (am 7), .int v8, .int v9, .int v10, .int v11, .int v12, .int v13, .int v14, .ref (am 15), .int v16, .ref (am 17), .int v18, .ref (am 19), .ref (am 20), .int v21, .int v22, .int v23, .int v24, .int v25, .ref (am 26), .int v27, .ref (am 28), .ref (am 29), .ref (am 30), .ref (am 31), .long v32, .ref (am 33), .ref (am 34), .ref (am 35), .ref (am 36)]))] ++ wt) H := hP
    have hD : va_D A ([((am 20), .inl (G.2.2 0, 110, .inl sd)), (m0, .inr (12, [.ref (am 0), .int v1, .int v2, .ref (am 3), .ref (am 4), .ref (am 5), .ref (am 6), .ref (am 7), .int v8, .int v9, .int v10, .int v11, .int v12, .int v13, .int v14, .ref (am 15), .int v16, .ref (am 17), .int v18, .ref (am 19), .ref (am 20), .int v21, .int v22, .int v23, .int v24, .int v25, .ref (am 26), .int v27, .ref (am 28), .ref (am 29), .ref (am 30), .ref (am 31), .long v32, .ref (am 33), .ref (am 34), .ref (am 35), .ref (am 36)]))] ++ wt) := hD
    refine lv_if_eq (tgt := 31) hx hb dX12_gainsOf_20 (by decide) (fun c_4 => ?_) (fun c_4 => ?_)
    · rw [← Int32.toInt_inj] at c_4
      refine lv_iconst (v := 0) hx hb dX12_gainsOf_31 (by decide +kernel) ?_
      obtain ⟨t_5, et_5⟩ : ∃ zz_ : Int32, x4_1 + 0 = zz_ := ⟨_, rfl⟩
      refine gq_iadd hx hb t_5 et_5 dX12_gainsOf_32 ?_
      have bd_x4_1 := ia_bd x4_1
      have ft_5 := ia_add et_5 (by omega) (by omega)
      refine lv_istore_n (lv' := [(2, .int t_5), (3, .int x4_0), (0, .ref m0), (1, .int b)]) hx hb dX12_gainsOf_33 rfl hl (by decide) rfl (fun ls hl => ?_)
      obtain ⟨t_6, et_6⟩ : ∃ zz_ : Int32, x4_0 + Int32.ofInt (1) = zz_ := ⟨_, rfl⟩
      have ft_6 : t_6.toInt = x4_0.toInt + (1 : Int32).toInt := ia_add (y := 1) et_6 (by omega) (by omega)
      refine lv_iinc (v := t_6) (lv' := [(3, .int t_6), (2, .int t_5), (0, .ref m0), (1, .int b)]) hx hb dX12_gainsOf_34 hl (k := 1) rfl et_6 (by decide) rfl (fun ls hl => ?_)
      refine lv_goto (tgt := 4) hx hb dX12_gainsOf_37 (by decide) ?_
      exact ih4 (t_6, t_5) (show 0 ≤ t_6.toInt ∧ t_6.toInt ≤ 5 from ⟨by omega, by omega⟩) (show (5 - t_6.toInt).toNat < (5 - x4_0.toInt).toNat by omega) H locs wt ls hT hW hP hD hS (lv_sub hl [0, 1, 2, 3] rfl)
    · rw [← Int32.toInt_inj] at c_4
      refine lv_aload_n hx hb dX12_gainsOf_23 rfl (lv_at hl 2 rfl) ?_
      refine lv_iload_n hx hb dX12_gainsOf_24 rfl (lv_at hl 0 rfl) ?_
      have hP : va_P (gg_D G) classes ([] ++ ([((am 20), .inl (G.2.2 0, 110, .inl sd)), (m0, .inr (12, [.ref (am 0), .int v1, .int v2, .ref (am 3), .ref (am 4), .ref (am 5), .ref (am 6), .ref (am 7), .int v8, .int v9, .int v10, .int v11, .int v12, .int v13, .int v14, .ref (am 15), .int v16, .ref (am 17), .int v18, .ref (am 19), .ref (am 20), .int v21, .int v22, .int v23, .int v24, .int v25, .ref (am 26), .int v27, .ref (am 28), .ref (am 29), .ref (am 30), .ref (am 31), .long v32, .ref (am 33), .ref (am 34), .ref (am 35), .ref (am 36)]))] ++ wt)) H := hP
      have hD : va_D A ([] ++ ([((am 20), .inl (G.2.2 0, 110, .inl sd)), (m0, .inr (12, [.ref (am 0), .int v1, .int v2, .ref (am 3), .ref (am 4), .ref (am 5), .ref (am 6), .ref (am 7), .int v8, .int v9, .int v10, .int v11, .int v12, .int v13, .int v14, .ref (am 15), .int v16, .ref (am 17), .int v18, .ref (am 19), .ref (am 20), .int v21, .int v22, .int v23, .int v24, .int v25, .ref (am 26), .int v27, .ref (am 28), .ref (am 29), .ref (am 30), .ref (am 31), .long v32, .ref (am 33), .ref (am 34), .ref (am 35), .ref (am 36)]))] ++ wt)) := hD
      refine gt_callI (wr := []) (va_runV (As := [.int x4_0]) (rest := [.int x4_1]) ⟨hx, hb, hml, hown, ht⟩ (d_m_gainOf l G Γ H.size wt hT x4_0 m0 am v1 v2 v8 v9 v10 v11 v12 v13 v14 v16 v18 v21 v22 v23 v24 v25 v27 v32 sd (by omega) (by omega) (by first | assumption | exact hSD.1 | exact hSD.w _ | (rw [hKH 2 (by omega)]; exact hKP) | omega) (by first | assumption | exact hSD.1 | exact hSD.w _ | (rw [hKH 2 (by omega)]; exact hKP) | omega) (by first | assumption | exact hSD.1 | exact hSD.w _ | (rw [hKH 2 (by omega)]; exact hKP) | omega) (by first | assumption | exact hSD.1 | exact hSD.w _ | (rw [hKH 2 (by omega)]; exact hKP) | omega) (by first | assumption | exact hSD.1 | exact hSD.w _ | (rw [hKH 2 (by omega)]; exact hKP) | omega) (by first | assumption | exact hSD.1 | exact hSD.w _ | (rw [hKH 2 (by omega)]; exact hKP) | omega) (by first | assumption | exact hSD.1 | exact hSD.w _ | (rw [hKH 2 (by omega)]; exact hKP) | omega) (by first | assumption | exact hSD.1 | exact hSD.w _ | (rw [hKH 2 (by omega)]; exact hKP) | omega) (by first | assumption | exact hSD.1 | exact hSD.w _ | (rw [hKH 2 (by omega)]; exact hKP) | omega) (by first | assumption | exact hSD.1 | exact hSD.w _ | (rw [hKH 2 (by omega)]; exact hKP) | omega) (by first | assumption | exact hSD.1 | exact hSD.w _ | (rw [hKH 2 (by omega)]; exact hKP) | omega) (by first | assumption | exact hSD.1 | exact hSD.w _ | (rw [hKH 2 (by omega)]; exact hKP) | omega) (by first | assumption | exact hSD.1 | exact hSD.w _ | (rw [hKH 2 (by omega)]; exact hKP) | omega) (by first | assumption | exact hSD.1 | exact hSD.w _ | (rw [hKH 2 (by omega)]; exact hKP) | omega) (by first | assumption | exact hSD.1 | exact hSD.w _ | (rw [hKH 2 (by omega)]; exact hKP) | omega) (by first | assumption | exact hSD.1 | exact hSD.w _ | (rw [hKH 2 (by omega)]; exact hKP) | omega) (by first | assumption | exact hSD.1 | exact hSD.w _ | (rw [hKH 2 (by omega)]; exact hKP) | omega) (by first | assumption | exact hSD.1 | exact hSD.w _ | (rw [hKH 2 (by omega)]; exact hKP) | omega) (by first | assumption | exact hSD.1 | exact hSD.w _ | (rw [hKH 2 (by omega)]; exact hKP) | omega) (by first | assumption | exact hSD.1 | exact hSD.w _ | (rw [hKH 2 (by omega)]; exact hKP) | omega) (by first | assumption | exact hSD.1 | exact hSD.w _ | (rw [hKH 2 (by omega)]; exact hKP) | omega) (by first | assumption | exact hSD.1 | exact hSD.w _ | (rw [hKH 2 (by omega)]; exact hKP) | omega) (by first | assumption | exact hSD.1 | exact hSD.w _ | (rw [hKH 2 (by omega)]; exact hKP) | omega) (by first | assumption | exact hSD.1 | exact hSD.w _ | (rw [hKH 2 (by omega)]; exact hKP) | omega)) (cwV 1 ht (ts_gV wd_1570 wd_1572 wd_77 wd_134 wd_1573) rfl rfl rfl (by decide +kernel) ⟨Nat.le_of_ble_eq_true rfl, Nat.le_of_ble_eq_true rfl⟩) (gc_preV (ci := 12) (q0 := 1) hK (tw_right hP) (tw_rightD hD) rfl rfl) rfl rfl hl.1 rfl (lv_room (Nat.le_of_ble_eq_true rfl)) dX12_gainsOf_25 ⟨Nat.le_of_ble_eq_true rfl, Nat.le_of_ble_eq_true rfl⟩) hP hD hS hA (fun r_7 wt H locs hw hP hD hS => ?_)
      obtain ⟨hT, hkp⟩ := hw
      have hW := hW.call (show ∀ x ∈ [], x ∈ [] by decide) hkp
      have hP : va_P (gg_D G) classes ([((am 20), .inl (G.2.2 0, 110, .inl sd)), (m0, .inr (12, [.ref (am 0), .int v1, .int v2, .ref (am 3), .ref (am 4), .ref (am 5), .ref (am 6), .ref (am 7), .int v8, .int v9, .int v10, .int v11, .int v12, .int v13, .int v14, .ref (am 15), .int v16, .ref (am 17), .int v18, .ref (am 19), .ref (am 20), .int v21, .int v22, .int v23, .int v24, .int v25, .ref (am 26), .int v27, .ref (am 28), .ref (am 29), .ref (am 30), .ref (am 31), .long v32, .ref (am 33), .ref (am 34), .ref (am 35), .ref (am 36)]))] ++ wt) H := hP
      have hD : va_D A ([((am 20), .inl (G.2.2 0, 110, .inl sd)), (m0, .inr (12, [.ref (am 0), .int v1, .int v2, .ref (am 3), .ref (am 4), .ref (am 5), .ref (am 6), .ref (am 7), .int v8, .int v9, .int v10, .int v11, .int v12, .int v13, .int v14, .ref (am 15), .int v16, .ref (am 17), .int v18, .ref (am 19), .ref (am 20), .int v21, .int v22, .int v23, .int v24, .int v25, .ref (am 26), .int v27, .ref (am 28), .ref (am 29), .ref (am 30), .ref (am 31), .long v32, .ref (am 33), .ref (am 34), .ref (am 35), .ref (am 36)]))] ++ wt) := hD
      refine lv_goto (tgt := 32) hx hb dX12_gainsOf_28 (by decide) ?_
      obtain ⟨t_8, et_8⟩ : ∃ zz_ : Int32, x4_1 + r_7 = zz_ := ⟨_, rfl⟩
      refine gq_iadd hx hb t_8 et_8 dX12_gainsOf_32 ?_
      refine lv_istore_n (lv' := [(2, .int t_8), (3, .int x4_0), (0, .ref m0), (1, .int b)]) hx hb dX12_gainsOf_33 rfl hl (by decide) rfl (fun ls hl => ?_)
      obtain ⟨t_9, et_9⟩ : ∃ zz_ : Int32, x4_0 + Int32.ofInt (1) = zz_ := ⟨_, rfl⟩
      have ft_9 : t_9.toInt = x4_0.toInt + (1 : Int32).toInt := ia_add (y := 1) et_9 (by omega) (by omega)
      refine lv_iinc (v := t_9) (lv' := [(3, .int t_9), (2, .int t_8), (0, .ref m0), (1, .int b)]) hx hb dX12_gainsOf_34 hl (k := 1) rfl et_9 (by decide) rfl (fun ls hl => ?_)
      refine lv_goto (tgt := 4) hx hb dX12_gainsOf_37 (by decide) ?_
      exact ih4 (t_9, t_8) (show 0 ≤ t_9.toInt ∧ t_9.toInt ≤ 5 from ⟨by omega, by omega⟩) (show (5 - t_9.toInt).toNat < (5 - x4_0.toInt).toNat by omega) H locs wt ls hT hW hP hD hS (lv_sub hl [0, 1, 2, 3] rfl)
set_option maxHeartbeats 4000000 in
set_option maxRecDepth 100000 in
theorem d_m_lotsIn (l : Launch) (G : gg_T) (Γ : Nat → Nat) (sz : Nat) (wt : va_W) (hT : tk_ty G Γ wt) (b : Int32) (m0 : Nat) (am : Nat → Nat) (v1 : Int32) (v2 : Int32) (v8 : Int32) (v9 : Int32) (v10 : Int32) (v11 : Int32) (v12 : Int32) (v13 : Int32) (v14 : Int32) (v16 : Int32) (v18 : Int32) (v21 : Int32) (v22 : Int32) (v23 : Int32) (v24 : Int32) (v25 : Int32) (v27 : Int32) (v32 : Int64) (sd : Nat → Int32) (k17 : Γ (am 17) = 32) (k19 : Γ (am 19) = 30) (k30 : Γ (am 30) = 28) (k31 : Γ (am 31) = 28) (lo_v1 : 0 ≤ v1.toInt) (hi_v1 : v1.toInt ≤ 400) (lo_v2 : 0 ≤ v2.toInt) (hi_v2 : v2.toInt ≤ 6) (lo_v8 : 0 ≤ v8.toInt) (hi_v8 : v8.toInt ≤ 400) (lo_v11 : 0 ≤ v11.toInt) (hi_v11 : v11.toInt ≤ 6) (lo_v12 : 0 ≤ v12.toInt) (hi_v12 : v12.toInt ≤ 60) (lo_v16 : 0 ≤ v16.toInt) (hi_v16 : v16.toInt ≤ 400) (lo_v21 : -1 ≤ v21.toInt) (hi_v21 : v21.toInt ≤ 5) (lo_v23 : 0 ≤ v23.toInt) (hi_v23 : v23.toInt ≤ 31) (lo_v27 : 0 ≤ v27.toInt) (hi_v27 : v27.toInt ≤ 20) (xfr : v21.toInt < v2.toInt) (hSD : SD sd) : Met l yX12_lotsIn (ts_L yX12_lotsIn cX12_lotsIn 4 (some .int)) ({ frames := 1, cells := 0, slots := 0, locals := 22 }) (gc_P G ([((am 20), .inl (G.2.2 0, 110, .inl sd)), (m0, .inr (12, [.ref (am 0), .int v1, .int v2, .ref (am 3), .ref (am 4), .ref (am 5), .ref (am 6), .ref (am 7), .int v8, .int v9, .int v10, .int v11, .int v12, .int v13, .int v14, .ref (am 15), .int v16, .ref (am 17), .int v18, .ref (am 19), .ref (am 20), .int v21, .int v22, .int v23, .int v24, .int v25, .ref (am 26), .int v27, .ref (am 28), .ref (am 29), .ref (am 30), .ref (am 31), .long v32, .ref (am 33), .ref (am 34), .ref (am 35), .ref (am 36)]))] ++ wt) sz [.ref m0, .int b]) (gc_I G (va_A ([((am 20), .inl (G.2.2 0, 110, .inl sd)), (m0, .inr (12, [.ref (am 0), .int v1, .int v2, .ref (am 3), .ref (am 4), .ref (am 5), .ref (am 6), .ref (am 7), .int v8, .int v9, .int v10, .int v11, .int v12, .int v13, .int v14, .ref (am 15), .int v16, .ref (am 17), .int v18, .ref (am 19), .ref (am 20), .int v21, .int v22, .int v23, .int v24, .int v25, .ref (am 26), .int v27, .ref (am 28), .ref (am 29), .ref (am 30), .ref (am 31), .long v32, .ref (am 33), .ref (am 34), .ref (am 35), .ref (am 36)]))] ++ wt) sz) (fun r (u : va_W) => match u with | wt1 => tk_ty G Γ wt1 ∧ tk_kp [] wt wt1 ∧ 0 ≤ r.toInt ∧ r.toInt ≤ 31) (fun (u : va_W) => match u with | wt1 => [((am 20), .inl (G.2.2 0, 110, .inl sd)), (m0, .inr (12, [.ref (am 0), .int v1, .int v2, .ref (am 3), .ref (am 4), .ref (am 5), .ref (am 6), .ref (am 7), .int v8, .int v9, .int v10, .int v11, .int v12, .int v13, .int v14, .ref (am 15), .int v16, .ref (am 17), .int v18, .ref (am 19), .ref (am 20), .int v21, .int v22, .int v23, .int v24, .int v25, .ref (am 26), .int v27, .ref (am 28), .ref (am 29), .ref (am 30), .ref (am 31), .long v32, .ref (am 33), .ref (am 34), .ref (am 35), .ref (am 36)]))] ++ wt1)) 0 0 (va_A ([((am 20), .inl (G.2.2 0, 110, .inl sd)), (m0, .inr (12, [.ref (am 0), .int v1, .int v2, .ref (am 3), .ref (am 4), .ref (am 5), .ref (am 6), .ref (am 7), .int v8, .int v9, .int v10, .int v11, .int v12, .int v13, .int v14, .ref (am 15), .int v16, .ref (am 17), .int v18, .ref (am 19), .ref (am 20), .int v21, .int v22, .int v23, .int v24, .int v25, .ref (am 26), .int v27, .ref (am 28), .ref (am 29), .ref (am 30), .ref (am 31), .long v32, .ref (am 33), .ref (am 34), .ref (am 35), .ref (am 36)]))] ++ wt) sz) := by
  refine Met.ofW (cc := cX12_lotsIn) (maxL := 4) (ret := (some .int)) (by decide) rfl ?_
  intro p e s m args below meth c s₁ B hml hv
  obtain ⟨rfl, hsz, hP, hK, hD0⟩ := hv
  have hx := B.exec
  have hb := B.bytes
  have hr := B.returns
  have ht := ts_ht (atoms_spec (ws := ts_L yX12_lotsIn cX12_lotsIn 4 (some .int)) B.pre)
  have hown : s.vm.findClass RX12 = some m.cls := findClass_of_methodNamed B.named
  have hlocks := B.notSynchronized
  subst hsz
  have hD := hD0.self (sz := s.heap.size)
  generalize hAe : va_A ([((am 20), .inl (G.2.2 0, 110, .inl sd)), (m0, .inr (12, [.ref (am 0), .int v1, .int v2, .ref (am 3), .ref (am 4), .ref (am 5), .ref (am 6), .ref (am 7), .int v8, .int v9, .int v10, .int v11, .int v12, .int v13, .int v14, .ref (am 15), .int v16, .ref (am 17), .int v18, .ref (am 19), .ref (am 20), .int v21, .int v22, .int v23, .int v24, .int v25, .ref (am 26), .int v27, .ref (am 28), .ref (am 29), .ref (am 30), .ref (am 31), .long v32, .ref (am 33), .ref (am 34), .ref (am 35), .ref (am 36)]))] ++ wt) s.heap.size = A at hD ⊢
  have hA : ∀ q : Nat, s.heap.size ≤ q → A q := fun q h => by rw [← hAe]; exact Or.inr h
  clear hAe hD0
  have hS : va_S A s.heap s.heap [] := va_S.rf
  obtain ⟨w0, hw0⟩ : ∃ z, z = wt := ⟨_, rfl⟩
  have hW : tk_kp [] w0 wt := by rw [hw0]; exact tk_kp.rf
  rw [← hw0]
  clear hw0
  have hP : va_P (gg_D G) classes ([((am 20), .inl (G.2.2 0, 110, .inl sd)), (m0, .inr (12, [.ref (am 0), .int v1, .int v2, .ref (am 3), .ref (am 4), .ref (am 5), .ref (am 6), .ref (am 7), .int v8, .int v9, .int v10, .int v11, .int v12, .int v13, .int v14, .ref (am 15), .int v16, .ref (am 17), .int v18, .ref (am 19), .ref (am 20), .int v21, .int v22, .int v23, .int v24, .int v25, .ref (am 26), .int v27, .ref (am 28), .ref (am 29), .ref (am 30), .ref (am 31), .long v32, .ref (am 33), .ref (am 34), .ref (am 35), .ref (am 36)]))] ++ wt) s.heap := hP
  have hD : va_D A ([((am 20), .inl (G.2.2 0, 110, .inl sd)), (m0, .inr (12, [.ref (am 0), .int v1, .int v2, .ref (am 3), .ref (am 4), .ref (am 5), .ref (am 6), .ref (am 7), .int v8, .int v9, .int v10, .int v11, .int v12, .int v13, .int v14, .ref (am 15), .int v16, .ref (am 17), .int v18, .ref (am 19), .ref (am 20), .int v21, .int v22, .int v23, .int v24, .int v25, .ref (am 26), .int v27, .ref (am 28), .ref (am 29), .ref (am 30), .ref (am 31), .long v32, .ref (am 33), .ref (am 34), .ref (am 35), .ref (am 36)]))] ++ wt) := hD
  have hl := lv_entry ([.ref m0, .int b]) (n := 4) (Nat.le_of_ble_eq_true rfl)
  rw [lg_entry_eq]
  generalize (lg_sl ([.ref m0, .int b]) ++ List.replicate (4 - (lg_sl ([.ref m0, .int b])).length) Slot.unset).toArray = ls at hl ⊢
  have hl : lv_has ls 4 [(0, .ref m0), (1, .int b)] := hl
  have hKH : KH sd sd := KH.rf
  have l0 : (0 : Int32).toInt = 0 := by decide +kernel
  have l1 : (1 : Int32).toInt = 1 := by decide +kernel
  have l2 : (2 : Int32).toInt = 2 := by decide +kernel
  refine lv_iconst (v := 0) hx hb dX12_lotsIn_0 (by decide +kernel) ?_
  refine lv_istore_n (lv' := [(2, .int 0), (0, .ref m0), (1, .int b)]) hx hb dX12_lotsIn_1 rfl hl (by decide) rfl (fun ls hl => ?_)
  refine lv_iconst (v := 0) hx hb dX12_lotsIn_2 (by decide +kernel) ?_
  refine lv_istore_n (lv' := [(3, .int 0), (2, .int 0), (0, .ref m0), (1, .int b)]) hx hb dX12_lotsIn_3 rfl hl (by decide) rfl (fun ls hl => ?_)
  refine tl_loopE (Γ := Γ) (nL := 4) (fun (zz_ : Int32 × Int32) => match zz_ with | (x4_0, x4_1) => 0 ≤ x4_0.toInt ∧ x4_0.toInt ≤ 3 ∧ 0 ≤ x4_1.toInt ∧ x4_1.toInt ≤ 31) (fun (zz_ : Int32 × Int32) => match zz_ with | (x4_0, x4_1) => (3 - x4_0.toInt).toNat) (fun (zz_ : Int32 × Int32) => match zz_ with | (x4_0, x4_1) => [(3, .int x4_0), (2, .int x4_1), (0, .ref m0), (1, .int b)]) (fun (zz_ : Int32 × Int32) => match zz_ with | (x4_0, x4_1) => [((am 20), .inl (G.2.2 0, 110, .inl sd)), (m0, .inr (12, [.ref (am 0), .int v1, .int v2, .ref (am 3), .ref (am 4), .ref (am 5), .ref (am 6), .ref (am 7), .int v8, .int v9, .int v10, .int v11, .int v12, .int v13, .int v14, .ref (am 15), .int v16, .ref (am 17), .int v18, .ref (am 19), .ref (am 20), .int v21, .int v22, .int v23, .int v24, .int v25, .ref (am 26), .int v27, .ref (am 28), .ref (am 29), .ref (am 30), .ref (am 31), .long v32, .ref (am 33), .ref (am 34), .ref (am 35), .ref (am 36)]))]) (fun (zz_ : Int32 × Int32) (w : va_W) => match zz_ with | (x4_0, x4_1) => tk_kp [] w0 w) (fun zz_ hI H locs wt ls hT hW hP hD hS hl ih4 => ?_) (0, 0) (show 0 ≤ (0 : Int32).toInt ∧ (0 : Int32).toInt ≤ 3 ∧ 0 ≤ (0 : Int32).toInt ∧ (0 : Int32).toInt ≤ 31 from ⟨by omega, by omega, by omega, by omega⟩) _ _ wt ls hT hW hP hD hS hl
  obtain ⟨x4_0, x4_1⟩ := zz_
  have hW : tk_kp [] w0 wt := hW
  have hI : 0 ≤ x4_0.toInt ∧ x4_0.toInt ≤ 3 ∧ 0 ≤ x4_1.toInt ∧ x4_1.toInt ≤ 31 := hI
  obtain ⟨j4_0, j4_1, j4_2, j4_3⟩ := hI
  have hl : lv_has ls 4 [(3, .int x4_0), (2, .int x4_1), (0, .ref m0), (1, .int b)] := hl
  have hP : va_P (gg_D G) classes ([((am 20), .inl (G.2.2 0, 110, .inl sd)), (m0, .inr (12, [.ref (am 0), .int v1, .int v2, .ref (am 3), .ref (am 4), .ref (am 5), .ref (am 6), .ref (am 7), .int v8, .int v9, .int v10, .int v11, .int v12, .int v13, .int v14, .ref (am 15), .int v16, .ref (am 17), .int v18, .ref (am 19), .ref (am 20), .int v21, .int v22, .int v23, .int v24, .int v25, .ref (am 26), .int v27, .ref (am 28), .ref (am 29), .ref (am 30), .ref (am 31), .long v32, .ref (am 33), .ref (am 34), .ref (am 35), .ref (am 36)]))] ++ wt) H := hP
  have hD : va_D A ([((am 20), .inl (G.2.2 0, 110, .inl sd)), (m0, .inr (12, [.ref (am 0), .int v1, .int v2, .ref (am 3), .ref (am 4), .ref (am 5), .ref (am 6), .ref (am 7), .int v8, .int v9, .int v10, .int v11, .int v12, .int v13, .int v14, .ref (am 15), .int v16, .ref (am 17), .int v18, .ref (am 19), .ref (am 20), .int v21, .int v22, .int v23, .int v24, .int v25, .ref (am 26), .int v27, .ref (am 28), .ref (am 29), .ref (am 30), .ref (am 31), .long v32, .ref (am 33), .ref (am 34), .ref (am 35), .ref (am 36)]))] ++ wt) := hD
  refine lv_iload_n hx hb dX12_lotsIn_4 rfl (lv_at hl 0 rfl) ?_
  refine lv_aload_n hx hb dX12_lotsIn_5 rfl (lv_at hl 2 rfl) ?_
  refine gq_get hx hb ht hown hK hP i_X12 1 rfl rfl 20 (by decide) wd_1272 rfl rfl dX12_lotsIn_6 ?_
  refine lv_iconst (v := 2) hx hb dX12_lotsIn_9 (by decide +kernel) ?_
  obtain ⟨n_1, en_1⟩ : ∃ zz_ : Int32, sd (Int32.toNatClampNeg 2) = zz_ := ⟨_, rfl⟩
  refine gq_iald hx hb hK hP 0 rfl n_1 (ia_in (n := 110) (by omega) (by omega)) en_1 dX12_lotsIn_10 ?_
  have En_1 : sd (2) = n_1 := by rw [← show Int32.toNatClampNeg 2 = 2 from ix_n (by omega)]; exact en_1
  have hn_1 : (sd (2)).toInt = n_1.toInt := by rw [En_1]
  have gn_1 := hSD.r2
  refine lv_icmp_ge (tgt := 40) hx hb dX12_lotsIn_11 (by decide) (fun c_2 => ?_) (fun c_2 => ?_)
  · rw [Int32.le_iff_toInt_le] at c_2
    refine lv_iload_n hx hb dX12_lotsIn_40 rfl (lv_at hl 1 rfl) ?_
    have hP9 : va_P (gg_D G) classes ([((am 20), .inl (G.2.2 0, 110, .inl sd)), (m0, .inr (12, [.ref (am 0), .int v1, .int v2, .ref (am 3), .ref (am 4), .ref (am 5), .ref (am 6), .ref (am 7), .int v8, .int v9, .int v10, .int v11, .int v12, .int v13, .int v14, .ref (am 15), .int v16, .ref (am 17), .int v18, .ref (am 19), .ref (am 20), .int v21, .int v22, .int v23, .int v24, .int v25, .ref (am 26), .int v27, .ref (am 28), .ref (am 29), .ref (am 30), .ref (am 31), .long v32, .ref (am 33), .ref (am 34), .ref (am 35), .ref (am 36)]))] ++ wt) _ := hP
    have hD9 : va_D A ([((am 20), .inl (G.2.2 0, 110, .inl sd)), (m0, .inr (12, [.ref (am 0), .int v1, .int v2, .ref (am 3), .ref (am 4), .ref (am 5), .ref (am 6), .ref (am 7), .int v8, .int v9, .int v10, .int v11, .int v12, .int v13, .int v14, .ref (am 15), .int v16, .ref (am 17), .int v18, .ref (am 19), .ref (am 20), .int v21, .int v22, .int v23, .int v24, .int v25, .ref (am 26), .int v27, .ref (am 28), .ref (am 29), .ref (am 30), .ref (am 31), .long v32, .ref (am 33), .ref (am 34), .ref (am 35), .ref (am 36)]))] ++ wt) := hD
    exact W.iret (v := x4_1) hx hb hr (gq_endI wt ⟨hT, hW, (by omega), (by omega)⟩ hP9 hD9 hS) hS.2.2 dX12_lotsIn_41
  · rw [Int32.le_iff_toInt_le] at c_2
    refine lv_iload_n hx hb dX12_lotsIn_14 rfl (lv_at hl 1 rfl) ?_
    refine lv_aload_n hx hb dX12_lotsIn_15 rfl (lv_at hl 2 rfl) ?_
    refine lv_iload_n hx hb dX12_lotsIn_16 rfl (lv_at hl 0 rfl) ?_
    refine lv_iconst (v := 0) hx hb dX12_lotsIn_17 (by decide +kernel) ?_
    have hP : va_P (gg_D G) classes ([] ++ ([((am 20), .inl (G.2.2 0, 110, .inl sd)), (m0, .inr (12, [.ref (am 0), .int v1, .int v2, .ref (am 3), .ref (am 4), .ref (am 5), .ref (am 6), .ref (am 7), .int v8, .int v9, .int v10, .int v11, .int v12, .int v13, .int v14, .ref (am 15), .int v16, .ref (am 17), .int v18, .ref (am 19), .ref (am 20), .int v21, .int v22, .int v23, .int v24, .int v25, .ref (am 26), .int v27, .ref (am 28), .ref (am 29), .ref (am 30), .ref (am 31), .long v32, .ref (am 33), .ref (am 34), .ref (am 35), .ref (am 36)]))] ++ wt)) H := hP
    have hD : va_D A ([] ++ ([((am 20), .inl (G.2.2 0, 110, .inl sd)), (m0, .inr (12, [.ref (am 0), .int v1, .int v2, .ref (am 3), .ref (am 4), .ref (am 5), .ref (am 6), .ref (am 7), .int v8, .int v9, .int v10, .int v11, .int v12, .int v13, .int v14, .ref (am 15), .int v16, .ref (am 17), .int v18, .ref (am 19), .ref (am 20), .int v21, .int v22, .int v23, .int v24, .int v25, .ref (am 26), .int v27, .ref (am 28), .ref (am 29), .ref (am 30), .ref (am 31), .long v32, .ref (am 33), .ref (am 34), .ref (am 35), .ref (am 36)]))] ++ wt)) := hD
    refine gt_callI (wr := []) (va_runV (As := [.int x4_0, .int 0]) (rest := [.int x4_1]) ⟨hx, hb, hml, hown, ht⟩ (d_m_lot0 l G Γ H.size wt hT x4_0 m0 am v1 v2 v8 v9 v10 v11 v12 v13 v14 v16 v18 v21 v22 v23 v24 v25 v27 v32 sd (by omega) (by omega) (by first | assumption | exact hSD.1 | exact hSD.w _ | (rw [hKH 2 (by omega)]; exact hKP) | omega) (by first | assumption | exact hSD.1 | exact hSD.w _ | (rw [hKH 2 (by omega)]; exact hKP) | omega) (by first | assumption | exact hSD.1 | exact hSD.w _ | (rw [hKH 2 (by omega)]; exact hKP) | omega) (by first | assumption | exact hSD.1 | exact hSD.w _ | (rw [hKH 2 (by omega)]; exact hKP) | omega) (by first | assumption | exact hSD.1 | exact hSD.w _ | (rw [hKH 2 (by omega)]; exact hKP) | omega) (by first | assumption | exact hSD.1 | exact hSD.w _ | (rw [hKH 2 (by omega)]; exact hKP) | omega) (by first | assumption | exact hSD.1 | exact hSD.w _ | (rw [hKH 2 (by omega)]; exact hKP) | omega) (by first | assumption | exact hSD.1 | exact hSD.w _ | (rw [hKH 2 (by omega)]; exact hKP) | omega) (by first | assumption | exact hSD.1 | exact hSD.w _ | (rw [hKH 2 (by omega)]; exact hKP) | omega) (by first | assumption | exact hSD.1 | exact hSD.w _ | (rw [hKH 2 (by omega)]; exact hKP) | omega) (by first | assumption | exact hSD.1 | exact hSD.w _ | (rw [hKH 2 (by omega)]; exact hKP) | omega) (by first | assumption | exact hSD.1 | exact hSD.w _ | (rw [hKH 2 (by omega)]; exact hKP) | omega) (by first | assumption | exact hSD.1 | exact hSD.w _ | (rw [hKH 2 (by omega)]; exact hKP) | omega) (by first | assumption | exact hSD.1 | exact hSD.w _ | (rw [hKH 2 (by omega)]; exact hKP) | omega) (by first | assumption | exact hSD.1 | exact hSD.w _ | (rw [hKH 2 (by omega)]; exact hKP) | omega) (by first | assumption | exact hSD.1 | exact hSD.w _ | (rw [hKH 2 (by omega)]; exact hKP) | omega) (by first | assumption | exact hSD.1 | exact hSD.w _ | (rw [hKH 2 (by omega)]; exact hKP) | omega) (by first | assumption | exact hSD.1 | exact hSD.w _ | (rw [hKH 2 (by omega)]; exact hKP) | omega) (by first | assumption | exact hSD.1 | exact hSD.w _ | (rw [hKH 2 (by omega)]; exact hKP) | omega) (by first | assumption | exact hSD.1 | exact hSD.w _ | (rw [hKH 2 (by omega)]; exact hKP) | omega) (by first | assumption | exact hSD.1 | exact hSD.w _ | (rw [hKH 2 (by omega)]; exact hKP) | omega) (by first | assumption | exact hSD.1 | exact hSD.w _ | (rw [hKH 2 (by omega)]; exact hKP) | omega) (by first | assumption | exact hSD.1 | exact hSD.w _ | (rw [hKH 2 (by omega)]; exact hKP) | omega)) (cwV 2 ht (ts_gV wd_1566 wd_1568 wd_76 wd_134 wd_1569) rfl rfl rfl (by decide +kernel) ⟨Nat.le_of_ble_eq_true rfl, Nat.le_of_ble_eq_true rfl⟩) (gc_preV (ci := 12) (q0 := 1) hK (tw_right hP) (tw_rightD hD) rfl rfl) rfl rfl hl.1 rfl (lv_room (Nat.le_of_ble_eq_true rfl)) dX12_lotsIn_18 ⟨Nat.le_of_ble_eq_true rfl, Nat.le_of_ble_eq_true rfl⟩) hP hD hS hA (fun r_3 wt H locs hw hP hD hS => ?_)
    obtain ⟨hT, hkp, rp_r_3⟩ := hw
    have hW := hW.call (show ∀ x ∈ [], x ∈ [] by decide) hkp
    have hP : va_P (gg_D G) classes ([((am 20), .inl (G.2.2 0, 110, .inl sd)), (m0, .inr (12, [.ref (am 0), .int v1, .int v2, .ref (am 3), .ref (am 4), .ref (am 5), .ref (am 6), .ref (am 7), .int v8, .int v9, .int v10, .int v11, .int v12, .int v13, .int v14, .ref (am 15), .int v16, .ref (am 17), .int v18, .ref (am 19), .ref (am 20), .int v21, .int v22, .int v23, .int v24, .int v25, .ref (am 26), .int v27, .ref (am 28), .ref (am 29), .ref (am 30), .ref (am 31), .long v32, .ref (am 33), .ref (am 34), .ref (am 35), .ref (am 36)]))] ++ wt) H := hP
    have hD : va_D A ([((am 20), .inl (G.2.2 0, 110, .inl sd)), (m0, .inr (12, [.ref (am 0), .int v1, .int v2, .ref (am 3), .ref (am 4), .ref (am 5), .ref (am 6), .ref (am 7), .int v8, .int v9, .int v10, .int v11, .int v12, .int v13, .int v14, .ref (am 15), .int v16, .ref (am 17), .int v18, .ref (am 19), .ref (am 20), .int v21, .int v22, .int v23, .int v24, .int v25, .ref (am 26), .int v27, .ref (am 28), .ref (am 29), .ref (am 30), .ref (am 31), .long v32, .ref (am 33), .ref (am 34), .ref (am 35), .ref (am 36)]))] ++ wt) := hD
    refine lv_iload_n hx hb dX12_lotsIn_21 rfl (lv_at hl 3 rfl) ?_
    refine lv_icmp_ne (tgt := 31) hx hb dX12_lotsIn_22 (by decide) (fun c_4 => ?_) (fun c_4 => ?_)
    · rw [← Int32.toInt_inj] at c_4
      refine lv_iconst (v := 0) hx hb dX12_lotsIn_31 (by decide +kernel) ?_
      obtain ⟨t_5, et_5⟩ : ∃ zz_ : Int32, x4_1 ||| 0 = zz_ := ⟨_, rfl⟩
      refine gq_ior hx hb t_5 et_5 dX12_lotsIn_32 ?_
      have ft_5 := ia_or31 et_5 (by omega) (by omega) (by omega) (by omega)
      refine lv_istore_n (lv' := [(2, .int t_5), (3, .int x4_0), (0, .ref m0), (1, .int b)]) hx hb dX12_lotsIn_33 rfl hl (by decide) rfl (fun ls hl => ?_)
      obtain ⟨t_6, et_6⟩ : ∃ zz_ : Int32, x4_0 + Int32.ofInt (1) = zz_ := ⟨_, rfl⟩
      have ft_6 : t_6.toInt = x4_0.toInt + (1 : Int32).toInt := ia_add (y := 1) et_6 (by omega) (by omega)
      refine lv_iinc (v := t_6) (lv' := [(3, .int t_6), (2, .int t_5), (0, .ref m0), (1, .int b)]) hx hb dX12_lotsIn_34 hl (k := 1) rfl et_6 (by decide) rfl (fun ls hl => ?_)
      refine lv_goto (tgt := 4) hx hb dX12_lotsIn_37 (by decide) ?_
      exact ih4 (t_6, t_5) (show 0 ≤ t_6.toInt ∧ t_6.toInt ≤ 3 ∧ 0 ≤ t_5.toInt ∧ t_5.toInt ≤ 31 from ⟨by omega, by omega, by omega, by omega⟩) (show (3 - t_6.toInt).toNat < (3 - x4_0.toInt).toNat by omega) H locs wt ls hT hW hP hD hS (lv_sub hl [0, 1, 2, 3] rfl)
    · rw [← Int32.toInt_inj] at c_4
      refine lv_iconst (v := 1) hx hb dX12_lotsIn_25 (by decide +kernel) ?_
      refine lv_iload_n hx hb dX12_lotsIn_26 rfl (lv_at hl 0 rfl) ?_
      obtain ⟨t_7, et_7⟩ : ∃ zz_ : Int32, 1 <<< (x4_0 &&& 31) = zz_ := ⟨_, rfl⟩
      refine gq_ishl hx hb t_7 et_7 dX12_lotsIn_27 ?_
      have ft_7 := ia_bit et_7 (by omega) (by omega)
      refine lv_goto (tgt := 32) hx hb dX12_lotsIn_28 (by decide) ?_
      obtain ⟨t_8, et_8⟩ : ∃ zz_ : Int32, x4_1 ||| t_7 = zz_ := ⟨_, rfl⟩
      refine gq_ior hx hb t_8 et_8 dX12_lotsIn_32 ?_
      have ft_8 := ia_or31 et_8 (by omega) (by omega) (by omega) (by omega)
      refine lv_istore_n (lv' := [(2, .int t_8), (3, .int x4_0), (0, .ref m0), (1, .int b)]) hx hb dX12_lotsIn_33 rfl hl (by decide) rfl (fun ls hl => ?_)
      obtain ⟨t_9, et_9⟩ : ∃ zz_ : Int32, x4_0 + Int32.ofInt (1) = zz_ := ⟨_, rfl⟩
      have ft_9 : t_9.toInt = x4_0.toInt + (1 : Int32).toInt := ia_add (y := 1) et_9 (by omega) (by omega)
      refine lv_iinc (v := t_9) (lv' := [(3, .int t_9), (2, .int t_8), (0, .ref m0), (1, .int b)]) hx hb dX12_lotsIn_34 hl (k := 1) rfl et_9 (by decide) rfl (fun ls hl => ?_)
      refine lv_goto (tgt := 4) hx hb dX12_lotsIn_37 (by decide) ?_
      exact ih4 (t_9, t_8) (show 0 ≤ t_9.toInt ∧ t_9.toInt ≤ 3 ∧ 0 ≤ t_8.toInt ∧ t_8.toInt ≤ 31 from ⟨by omega, by omega, by omega, by omega⟩) (show (3 - t_9.toInt).toNat < (3 - x4_0.toInt).toNat by omega) H locs wt ls hT hW hP hD hS (lv_sub hl [0, 1, 2, 3] rfl)
set_option maxHeartbeats 4000000 in
set_option maxRecDepth 100000 in
theorem d_m_isSale (l : Launch) (G : gg_T) (Γ : Nat → Nat) (sz : Nat) (wt : va_W) (hT : tk_ty G Γ wt) (m0 : Nat) (am : Nat → Nat) (v1 : Int32) (v2 : Int32) (v8 : Int32) (v9 : Int32) (v10 : Int32) (v11 : Int32) (v12 : Int32) (v13 : Int32) (v14 : Int32) (v16 : Int32) (v18 : Int32) (v21 : Int32) (v22 : Int32) (v23 : Int32) (v24 : Int32) (v25 : Int32) (v27 : Int32) (v32 : Int64) (sd : Nat → Int32) (k17 : Γ (am 17) = 32) (k19 : Γ (am 19) = 30) (k30 : Γ (am 30) = 28) (k31 : Γ (am 31) = 28) (lo_v1 : 0 ≤ v1.toInt) (hi_v1 : v1.toInt ≤ 400) (lo_v2 : 0 ≤ v2.toInt) (hi_v2 : v2.toInt ≤ 6) (lo_v8 : 0 ≤ v8.toInt) (hi_v8 : v8.toInt ≤ 400) (lo_v11 : 0 ≤ v11.toInt) (hi_v11 : v11.toInt ≤ 6) (lo_v12 : 0 ≤ v12.toInt) (hi_v12 : v12.toInt ≤ 60) (lo_v16 : 0 ≤ v16.toInt) (hi_v16 : v16.toInt ≤ 400) (lo_v21 : -1 ≤ v21.toInt) (hi_v21 : v21.toInt ≤ 5) (lo_v23 : 0 ≤ v23.toInt) (hi_v23 : v23.toInt ≤ 31) (lo_v27 : 0 ≤ v27.toInt) (hi_v27 : v27.toInt ≤ 20) (xfr : v21.toInt < v2.toInt) (hSD : SD sd) : Met l yX12_isSale (ts_L yX12_isSale cX12_isSale 1 (some .boolean)) ({ frames := 0, cells := 0, slots := 0, locals := 0 }) (gc_P G ([((am 20), .inl (G.2.2 0, 110, .inl sd)), (m0, .inr (12, [.ref (am 0), .int v1, .int v2, .ref (am 3), .ref (am 4), .ref (am 5), .ref (am 6), .ref (am 7), .int v8, .int v9, .int v10, .int v11, .int v12, .int v13, .int v14, .ref (am 15), .int v16, .ref (am 17), .int v18, .ref (am 19), .ref (am 20), .int v21, .int v22, .int v23, .int v24, .int v25, .ref (am 26), .int v27, .ref (am 28), .ref (am 29), .ref (am 30), .ref (am 31), .long v32, .ref (am 33), .ref (am 34), .ref (am 35), .ref (am 36)]))] ++ wt) sz [.ref m0]) (gc_I G (va_A ([((am 20), .inl (G.2.2 0, 110, .inl sd)), (m0, .inr (12, [.ref (am 0), .int v1, .int v2, .ref (am 3), .ref (am 4), .ref (am 5), .ref (am 6), .ref (am 7), .int v8, .int v9, .int v10, .int v11, .int v12, .int v13, .int v14, .ref (am 15), .int v16, .ref (am 17), .int v18, .ref (am 19), .ref (am 20), .int v21, .int v22, .int v23, .int v24, .int v25, .ref (am 26), .int v27, .ref (am 28), .ref (am 29), .ref (am 30), .ref (am 31), .long v32, .ref (am 33), .ref (am 34), .ref (am 35), .ref (am 36)]))] ++ wt) sz) (fun r (u : va_W) => match u with | wt1 => tk_ty G Γ wt1 ∧ tk_kp [] wt wt1 ∧ 0 ≤ r.toInt ∧ r.toInt ≤ 1) (fun (u : va_W) => match u with | wt1 => [((am 20), .inl (G.2.2 0, 110, .inl sd)), (m0, .inr (12, [.ref (am 0), .int v1, .int v2, .ref (am 3), .ref (am 4), .ref (am 5), .ref (am 6), .ref (am 7), .int v8, .int v9, .int v10, .int v11, .int v12, .int v13, .int v14, .ref (am 15), .int v16, .ref (am 17), .int v18, .ref (am 19), .ref (am 20), .int v21, .int v22, .int v23, .int v24, .int v25, .ref (am 26), .int v27, .ref (am 28), .ref (am 29), .ref (am 30), .ref (am 31), .long v32, .ref (am 33), .ref (am 34), .ref (am 35), .ref (am 36)]))] ++ wt1)) 0 0 (va_A ([((am 20), .inl (G.2.2 0, 110, .inl sd)), (m0, .inr (12, [.ref (am 0), .int v1, .int v2, .ref (am 3), .ref (am 4), .ref (am 5), .ref (am 6), .ref (am 7), .int v8, .int v9, .int v10, .int v11, .int v12, .int v13, .int v14, .ref (am 15), .int v16, .ref (am 17), .int v18, .ref (am 19), .ref (am 20), .int v21, .int v22, .int v23, .int v24, .int v25, .ref (am 26), .int v27, .ref (am 28), .ref (am 29), .ref (am 30), .ref (am 31), .long v32, .ref (am 33), .ref (am 34), .ref (am 35), .ref (am 36)]))] ++ wt) sz) := by
  refine Met.ofW (cc := cX12_isSale) (maxL := 1) (ret := (some .boolean)) (by decide) rfl ?_
  intro p e s m args below meth c s₁ B hml hv
  obtain ⟨rfl, hsz, hP, hK, hD0⟩ := hv
  have hx := B.exec
  have hb := B.bytes
  have hr := B.returns
  have ht := ts_ht (atoms_spec (ws := ts_L yX12_isSale cX12_isSale 1 (some .boolean)) B.pre)
  have hown : s.vm.findClass RX12 = some m.cls := findClass_of_methodNamed B.named
  have hlocks := B.notSynchronized
  subst hsz
  have hD := hD0.self (sz := s.heap.size)
  generalize hAe : va_A ([((am 20), .inl (G.2.2 0, 110, .inl sd)), (m0, .inr (12, [.ref (am 0), .int v1, .int v2, .ref (am 3), .ref (am 4), .ref (am 5), .ref (am 6), .ref (am 7), .int v8, .int v9, .int v10, .int v11, .int v12, .int v13, .int v14, .ref (am 15), .int v16, .ref (am 17), .int v18, .ref (am 19), .ref (am 20), .int v21, .int v22, .int v23, .int v24, .int v25, .ref (am 26), .int v27, .ref (am 28), .ref (am 29), .ref (am 30), .ref (am 31), .long v32, .ref (am 33), .ref (am 34), .ref (am 35), .ref (am 36)]))] ++ wt) s.heap.size = A at hD ⊢
  have hA : ∀ q : Nat, s.heap.size ≤ q → A q := fun q h => by rw [← hAe]; exact Or.inr h
  clear hAe hD0
  have hS : va_S A s.heap s.heap [] := va_S.rf
  obtain ⟨w0, hw0⟩ : ∃ z, z = wt := ⟨_, rfl⟩
  have hW : tk_kp [] w0 wt := by rw [hw0]; exact tk_kp.rf
  rw [← hw0]
  clear hw0
  have hP : va_P (gg_D G) classes ([((am 20), .inl (G.2.2 0, 110, .inl sd)), (m0, .inr (12, [.ref (am 0), .int v1, .int v2, .ref (am 3), .ref (am 4), .ref (am 5), .ref (am 6), .ref (am 7), .int v8, .int v9, .int v10, .int v11, .int v12, .int v13, .int v14, .ref (am 15), .int v16, .ref (am 17), .int v18, .ref (am 19), .ref (am 20), .int v21, .int v22, .int v23, .int v24, .int v25, .ref (am 26), .int v27, .ref (am 28), .ref (am 29), .ref (am 30), .ref (am 31), .long v32, .ref (am 33), .ref (am 34), .ref (am 35), .ref (am 36)]))] ++ wt) s.heap := hP
  have hD : va_D A ([((am 20), .inl (G.2.2 0, 110, .inl sd)), (m0, .inr (12, [.ref (am 0), .int v1, .int v2, .ref (am 3), .ref (am 4), .ref (am 5), .ref (am 6), .ref (am 7), .int v8, .int v9, .int v10, .int v11, .int v12, .int v13, .int v14, .ref (am 15), .int v16, .ref (am 17), .int v18, .ref (am 19), .ref (am 20), .int v21, .int v22, .int v23, .int v24, .int v25, .ref (am 26), .int v27, .ref (am 28), .ref (am 29), .ref (am 30), .ref (am 31), .long v32, .ref (am 33), .ref (am 34), .ref (am 35), .ref (am 36)]))] ++ wt) := hD
  have hl := lv_entry ([.ref m0]) (n := 1) (Nat.le_of_ble_eq_true rfl)
  rw [lg_entry_eq]
  generalize (lg_sl ([.ref m0]) ++ List.replicate (1 - (lg_sl ([.ref m0])).length) Slot.unset).toArray = ls at hl ⊢
  have hl : lv_has ls 1 [(0, .ref m0)] := hl
  have hKH : KH sd sd := KH.rf
  have l0 : (0 : Int32).toInt = 0 := by decide +kernel
  have l1 : (1 : Int32).toInt = 1 := by decide +kernel
  refine lv_aload_n hx hb dX12_isSale_0 rfl (lv_at hl 0 rfl) ?_
  refine gq_get hx hb ht hown hK hP i_X12 1 rfl rfl 20 (by decide) wd_1272 rfl rfl dX12_isSale_1 ?_
  refine lv_iconst (v := 0) hx hb dX12_isSale_4 (by decide +kernel) ?_
  obtain ⟨n_1, en_1⟩ : ∃ zz_ : Int32, sd (Int32.toNatClampNeg 0) = zz_ := ⟨_, rfl⟩
  refine gq_iald hx hb hK hP 0 rfl n_1 (ia_in (n := 110) (by omega) (by omega)) en_1 dX12_isSale_5 ?_
  have En_1 : sd (0) = n_1 := by rw [← show Int32.toNatClampNeg 0 = 0 from ix_n (by omega)]; exact en_1
  have hn_1 : (sd (0)).toInt = n_1.toInt := by rw [En_1]
  have gn_1 := hSD.r0
  refine lv_if_le (tgt := 13) hx hb dX12_isSale_6 (by decide) (fun c_2 => ?_) (fun c_2 => ?_)
  · rw [Int32.le_iff_toInt_le] at c_2
    refine lv_iconst (v := 0) hx hb dX12_isSale_13 (by decide +kernel) ?_
    have hP9 : va_P (gg_D G) classes ([((am 20), .inl (G.2.2 0, 110, .inl sd)), (m0, .inr (12, [.ref (am 0), .int v1, .int v2, .ref (am 3), .ref (am 4), .ref (am 5), .ref (am 6), .ref (am 7), .int v8, .int v9, .int v10, .int v11, .int v12, .int v13, .int v14, .ref (am 15), .int v16, .ref (am 17), .int v18, .ref (am 19), .ref (am 20), .int v21, .int v22, .int v23, .int v24, .int v25, .ref (am 26), .int v27, .ref (am 28), .ref (am 29), .ref (am 30), .ref (am 31), .long v32, .ref (am 33), .ref (am 34), .ref (am 35), .ref (am 36)]))] ++ wt) _ := hP
    have hD9 : va_D A ([((am 20), .inl (G.2.2 0, 110, .inl sd)), (m0, .inr (12, [.ref (am 0), .int v1, .int v2, .ref (am 3), .ref (am 4), .ref (am 5), .ref (am 6), .ref (am 7), .int v8, .int v9, .int v10, .int v11, .int v12, .int v13, .int v14, .ref (am 15), .int v16, .ref (am 17), .int v18, .ref (am 19), .ref (am 20), .int v21, .int v22, .int v23, .int v24, .int v25, .ref (am 26), .int v27, .ref (am 28), .ref (am 29), .ref (am 30), .ref (am 31), .long v32, .ref (am 33), .ref (am 34), .ref (am 35), .ref (am 36)]))] ++ wt) := hD
    exact W.zret (v := 0) hx hb hr (by decide +kernel) (gq_endI wt ⟨hT, hW, (by omega), (by omega)⟩ hP9 hD9 hS) hS.2.2 dX12_isSale_14
  · rw [Int32.le_iff_toInt_le] at c_2
    refine lv_iconst (v := 1) hx hb dX12_isSale_9 (by decide +kernel) ?_
    refine lv_goto (tgt := 14) hx hb dX12_isSale_10 (by decide) ?_
    have hP9 : va_P (gg_D G) classes ([((am 20), .inl (G.2.2 0, 110, .inl sd)), (m0, .inr (12, [.ref (am 0), .int v1, .int v2, .ref (am 3), .ref (am 4), .ref (am 5), .ref (am 6), .ref (am 7), .int v8, .int v9, .int v10, .int v11, .int v12, .int v13, .int v14, .ref (am 15), .int v16, .ref (am 17), .int v18, .ref (am 19), .ref (am 20), .int v21, .int v22, .int v23, .int v24, .int v25, .ref (am 26), .int v27, .ref (am 28), .ref (am 29), .ref (am 30), .ref (am 31), .long v32, .ref (am 33), .ref (am 34), .ref (am 35), .ref (am 36)]))] ++ wt) _ := hP
    have hD9 : va_D A ([((am 20), .inl (G.2.2 0, 110, .inl sd)), (m0, .inr (12, [.ref (am 0), .int v1, .int v2, .ref (am 3), .ref (am 4), .ref (am 5), .ref (am 6), .ref (am 7), .int v8, .int v9, .int v10, .int v11, .int v12, .int v13, .int v14, .ref (am 15), .int v16, .ref (am 17), .int v18, .ref (am 19), .ref (am 20), .int v21, .int v22, .int v23, .int v24, .int v25, .ref (am 26), .int v27, .ref (am 28), .ref (am 29), .ref (am 30), .ref (am 31), .long v32, .ref (am 33), .ref (am 34), .ref (am 35), .ref (am 36)]))] ++ wt) := hD
    exact W.zret (v := 1) hx hb hr (by decide +kernel) (gq_endI wt ⟨hT, hW, (by omega), (by omega)⟩ hP9 hD9 hS) hS.2.2 dX12_isSale_14
set_option maxHeartbeats 4000000 in
set_option maxRecDepth 100000 in
theorem d_m_isBidder (l : Launch) (G : gg_T) (Γ : Nat → Nat) (sz : Nat) (wt : va_W) (hT : tk_ty G Γ wt) (b : Int32) (m0 : Nat) (am : Nat → Nat) (v1 : Int32) (v2 : Int32) (v8 : Int32) (v9 : Int32) (v10 : Int32) (v11 : Int32) (v12 : Int32) (v13 : Int32) (v14 : Int32) (v16 : Int32) (v18 : Int32) (v21 : Int32) (v22 : Int32) (v23 : Int32) (v24 : Int32) (v25 : Int32) (v27 : Int32) (v32 : Int64) (sd : Nat → Int32) (k17 : Γ (am 17) = 32) (k19 : Γ (am 19) = 30) (k30 : Γ (am 30) = 28) (k31 : Γ (am 31) = 28) (lo_v1 : 0 ≤ v1.toInt) (hi_v1 : v1.toInt ≤ 400) (lo_v2 : 0 ≤ v2.toInt) (hi_v2 : v2.toInt ≤ 6) (lo_v8 : 0 ≤ v8.toInt) (hi_v8 : v8.toInt ≤ 400) (lo_v11 : 0 ≤ v11.toInt) (hi_v11 : v11.toInt ≤ 6) (lo_v12 : 0 ≤ v12.toInt) (hi_v12 : v12.toInt ≤ 60) (lo_v16 : 0 ≤ v16.toInt) (hi_v16 : v16.toInt ≤ 400) (lo_v21 : -1 ≤ v21.toInt) (hi_v21 : v21.toInt ≤ 5) (lo_v23 : 0 ≤ v23.toInt) (hi_v23 : v23.toInt ≤ 31) (lo_v27 : 0 ≤ v27.toInt) (hi_v27 : v27.toInt ≤ 20) (xfr : v21.toInt < v2.toInt) (hSD : SD sd) : Met l yX12_isBidder (ts_L yX12_isBidder cX12_isBidder 2 (some .boolean)) ({ frames := 0, cells := 0, slots := 0, locals := 0 }) (gc_P G ([((am 20), .inl (G.2.2 0, 110, .inl sd)), (m0, .inr (12, [.ref (am 0), .int v1, .int v2, .ref (am 3), .ref (am 4), .ref (am 5), .ref (am 6), .ref (am 7), .int v8, .int v9, .int v10, .int v11, .int v12, .int v13, .int v14, .ref (am 15), .int v16, .ref (am 17), .int v18, .ref (am 19), .ref (am 20), .int v21, .int v22, .int v23, .int v24, .int v25, .ref (am 26), .int v27, .ref (am 28), .ref (am 29), .ref (am 30), .ref (am 31), .long v32, .ref (am 33), .ref (am 34), .ref (am 35), .ref (am 36)]))] ++ wt) sz [.ref m0, .int b]) (gc_I G (va_A ([((am 20), .inl (G.2.2 0, 110, .inl sd)), (m0, .inr (12, [.ref (am 0), .int v1, .int v2, .ref (am 3), .ref (am 4), .ref (am 5), .ref (am 6), .ref (am 7), .int v8, .int v9, .int v10, .int v11, .int v12, .int v13, .int v14, .ref (am 15), .int v16, .ref (am 17), .int v18, .ref (am 19), .ref (am 20), .int v21, .int v22, .int v23, .int v24, .int v25, .ref (am 26), .int v27, .ref (am 28), .ref (am 29), .ref (am 30), .ref (am 31), .long v32, .ref (am 33), .ref (am 34), .ref (am 35), .ref (am 36)]))] ++ wt) sz) (fun r (u : va_W) => match u with | wt1 => tk_ty G Γ wt1 ∧ tk_kp [] wt wt1 ∧ 0 ≤ r.toInt ∧ r.toInt ≤ 1 ∧ (r ≠ 0 → 0 ≤ b.toInt ∧ b.toInt ≤ 4 ∧ b.toInt < (sd 1).toInt)) (fun (u : va_W) => match u with | wt1 => [((am 20), .inl (G.2.2 0, 110, .inl sd)), (m0, .inr (12, [.ref (am 0), .int v1, .int v2, .ref (am 3), .ref (am 4), .ref (am 5), .ref (am 6), .ref (am 7), .int v8, .int v9, .int v10, .int v11, .int v12, .int v13, .int v14, .ref (am 15), .int v16, .ref (am 17), .int v18, .ref (am 19), .ref (am 20), .int v21, .int v22, .int v23, .int v24, .int v25, .ref (am 26), .int v27, .ref (am 28), .ref (am 29), .ref (am 30), .ref (am 31), .long v32, .ref (am 33), .ref (am 34), .ref (am 35), .ref (am 36)]))] ++ wt1)) 0 0 (va_A ([((am 20), .inl (G.2.2 0, 110, .inl sd)), (m0, .inr (12, [.ref (am 0), .int v1, .int v2, .ref (am 3), .ref (am 4), .ref (am 5), .ref (am 6), .ref (am 7), .int v8, .int v9, .int v10, .int v11, .int v12, .int v13, .int v14, .ref (am 15), .int v16, .ref (am 17), .int v18, .ref (am 19), .ref (am 20), .int v21, .int v22, .int v23, .int v24, .int v25, .ref (am 26), .int v27, .ref (am 28), .ref (am 29), .ref (am 30), .ref (am 31), .long v32, .ref (am 33), .ref (am 34), .ref (am 35), .ref (am 36)]))] ++ wt) sz) := by
  refine Met.ofW (cc := cX12_isBidder) (maxL := 2) (ret := (some .boolean)) (by decide) rfl ?_
  intro p e s m args below meth c s₁ B hml hv
  obtain ⟨rfl, hsz, hP, hK, hD0⟩ := hv
  have hx := B.exec
  have hb := B.bytes
  have hr := B.returns
  have ht := ts_ht (atoms_spec (ws := ts_L yX12_isBidder cX12_isBidder 2 (some .boolean)) B.pre)
  have hown : s.vm.findClass RX12 = some m.cls := findClass_of_methodNamed B.named
  have hlocks := B.notSynchronized
  subst hsz
  have hD := hD0.self (sz := s.heap.size)
  generalize hAe : va_A ([((am 20), .inl (G.2.2 0, 110, .inl sd)), (m0, .inr (12, [.ref (am 0), .int v1, .int v2, .ref (am 3), .ref (am 4), .ref (am 5), .ref (am 6), .ref (am 7), .int v8, .int v9, .int v10, .int v11, .int v12, .int v13, .int v14, .ref (am 15), .int v16, .ref (am 17), .int v18, .ref (am 19), .ref (am 20), .int v21, .int v22, .int v23, .int v24, .int v25, .ref (am 26), .int v27, .ref (am 28), .ref (am 29), .ref (am 30), .ref (am 31), .long v32, .ref (am 33), .ref (am 34), .ref (am 35), .ref (am 36)]))] ++ wt) s.heap.size = A at hD ⊢
  have hA : ∀ q : Nat, s.heap.size ≤ q → A q := fun q h => by rw [← hAe]; exact Or.inr h
  clear hAe hD0
  have hS : va_S A s.heap s.heap [] := va_S.rf
  obtain ⟨w0, hw0⟩ : ∃ z, z = wt := ⟨_, rfl⟩
  have hW : tk_kp [] w0 wt := by rw [hw0]; exact tk_kp.rf
  rw [← hw0]
  clear hw0
  have hP : va_P (gg_D G) classes ([((am 20), .inl (G.2.2 0, 110, .inl sd)), (m0, .inr (12, [.ref (am 0), .int v1, .int v2, .ref (am 3), .ref (am 4), .ref (am 5), .ref (am 6), .ref (am 7), .int v8, .int v9, .int v10, .int v11, .int v12, .int v13, .int v14, .ref (am 15), .int v16, .ref (am 17), .int v18, .ref (am 19), .ref (am 20), .int v21, .int v22, .int v23, .int v24, .int v25, .ref (am 26), .int v27, .ref (am 28), .ref (am 29), .ref (am 30), .ref (am 31), .long v32, .ref (am 33), .ref (am 34), .ref (am 35), .ref (am 36)]))] ++ wt) s.heap := hP
  have hD : va_D A ([((am 20), .inl (G.2.2 0, 110, .inl sd)), (m0, .inr (12, [.ref (am 0), .int v1, .int v2, .ref (am 3), .ref (am 4), .ref (am 5), .ref (am 6), .ref (am 7), .int v8, .int v9, .int v10, .int v11, .int v12, .int v13, .int v14, .ref (am 15), .int v16, .ref (am 17), .int v18, .ref (am 19), .ref (am 20), .int v21, .int v22, .int v23, .int v24, .int v25, .ref (am 26), .int v27, .ref (am 28), .ref (am 29), .ref (am 30), .ref (am 31), .long v32, .ref (am 33), .ref (am 34), .ref (am 35), .ref (am 36)]))] ++ wt) := hD
  have hl := lv_entry ([.ref m0, .int b]) (n := 2) (Nat.le_of_ble_eq_true rfl)
  rw [lg_entry_eq]
  generalize (lg_sl ([.ref m0, .int b]) ++ List.replicate (2 - (lg_sl ([.ref m0, .int b])).length) Slot.unset).toArray = ls at hl ⊢
  have hl : lv_has ls 2 [(0, .ref m0), (1, .int b)] := hl
  have hKH : KH sd sd := KH.rf
  have l0 : (0 : Int32).toInt = 0 := by decide +kernel
  have l1 : (1 : Int32).toInt = 1 := by decide +kernel
  refine lv_iload_n hx hb dX12_isBidder_0 rfl (lv_at hl 1 rfl) ?_
  refine lv_if_lt (tgt := 18) hx hb dX12_isBidder_1 (by decide) (fun c_1 => ?_) (fun c_1 => ?_)
  · rw [Int32.lt_iff_toInt_lt] at c_1
    refine lv_iconst (v := 0) hx hb dX12_isBidder_18 (by decide +kernel) ?_
    have hP9 : va_P (gg_D G) classes ([((am 20), .inl (G.2.2 0, 110, .inl sd)), (m0, .inr (12, [.ref (am 0), .int v1, .int v2, .ref (am 3), .ref (am 4), .ref (am 5), .ref (am 6), .ref (am 7), .int v8, .int v9, .int v10, .int v11, .int v12, .int v13, .int v14, .ref (am 15), .int v16, .ref (am 17), .int v18, .ref (am 19), .ref (am 20), .int v21, .int v22, .int v23, .int v24, .int v25, .ref (am 26), .int v27, .ref (am 28), .ref (am 29), .ref (am 30), .ref (am 31), .long v32, .ref (am 33), .ref (am 34), .ref (am 35), .ref (am 36)]))] ++ wt) _ := hP
    have hD9 : va_D A ([((am 20), .inl (G.2.2 0, 110, .inl sd)), (m0, .inr (12, [.ref (am 0), .int v1, .int v2, .ref (am 3), .ref (am 4), .ref (am 5), .ref (am 6), .ref (am 7), .int v8, .int v9, .int v10, .int v11, .int v12, .int v13, .int v14, .ref (am 15), .int v16, .ref (am 17), .int v18, .ref (am 19), .ref (am 20), .int v21, .int v22, .int v23, .int v24, .int v25, .ref (am 26), .int v27, .ref (am 28), .ref (am 29), .ref (am 30), .ref (am 31), .long v32, .ref (am 33), .ref (am 34), .ref (am 35), .ref (am 36)]))] ++ wt) := hD
    exact W.zret (v := 0) hx hb hr (by decide +kernel) (gq_endI wt ⟨hT, hW, (by omega), (by omega), (fun h => absurd rfl h)⟩ hP9 hD9 hS) hS.2.2 dX12_isBidder_19
  · rw [Int32.lt_iff_toInt_lt] at c_1
    refine lv_iload_n hx hb dX12_isBidder_4 rfl (lv_at hl 1 rfl) ?_
    refine lv_aload_n hx hb dX12_isBidder_5 rfl (lv_at hl 0 rfl) ?_
    refine gq_get hx hb ht hown hK hP i_X12 1 rfl rfl 20 (by decide) wd_1272 rfl rfl dX12_isBidder_6 ?_
    refine lv_iconst (v := 1) hx hb dX12_isBidder_9 (by decide +kernel) ?_
    obtain ⟨n_2, en_2⟩ : ∃ zz_ : Int32, sd (Int32.toNatClampNeg 1) = zz_ := ⟨_, rfl⟩
    refine gq_iald hx hb hK hP 0 rfl n_2 (ia_in (n := 110) (by omega) (by omega)) en_2 dX12_isBidder_10 ?_
    have En_2 : sd (1) = n_2 := by rw [← show Int32.toNatClampNeg 1 = 1 from ix_n (by omega)]; exact en_2
    have hn_2 : (sd (1)).toInt = n_2.toInt := by rw [En_2]
    have gn_2 := hSD.r1
    refine lv_icmp_ge (tgt := 18) hx hb dX12_isBidder_11 (by decide) (fun c_3 => ?_) (fun c_3 => ?_)
    · rw [Int32.le_iff_toInt_le] at c_3
      refine lv_iconst (v := 0) hx hb dX12_isBidder_18 (by decide +kernel) ?_
      have hP9 : va_P (gg_D G) classes ([((am 20), .inl (G.2.2 0, 110, .inl sd)), (m0, .inr (12, [.ref (am 0), .int v1, .int v2, .ref (am 3), .ref (am 4), .ref (am 5), .ref (am 6), .ref (am 7), .int v8, .int v9, .int v10, .int v11, .int v12, .int v13, .int v14, .ref (am 15), .int v16, .ref (am 17), .int v18, .ref (am 19), .ref (am 20), .int v21, .int v22, .int v23, .int v24, .int v25, .ref (am 26), .int v27, .ref (am 28), .ref (am 29), .ref (am 30), .ref (am 31), .long v32, .ref (am 33), .ref (am 34), .ref (am 35), .ref (am 36)]))] ++ wt) _ := hP
      have hD9 : va_D A ([((am 20), .inl (G.2.2 0, 110, .inl sd)), (m0, .inr (12, [.ref (am 0), .int v1, .int v2, .ref (am 3), .ref (am 4), .ref (am 5), .ref (am 6), .ref (am 7), .int v8, .int v9, .int v10, .int v11, .int v12, .int v13, .int v14, .ref (am 15), .int v16, .ref (am 17), .int v18, .ref (am 19), .ref (am 20), .int v21, .int v22, .int v23, .int v24, .int v25, .ref (am 26), .int v27, .ref (am 28), .ref (am 29), .ref (am 30), .ref (am 31), .long v32, .ref (am 33), .ref (am 34), .ref (am 35), .ref (am 36)]))] ++ wt) := hD
      exact W.zret (v := 0) hx hb hr (by decide +kernel) (gq_endI wt ⟨hT, hW, (by omega), (by omega), (fun h => absurd rfl h)⟩ hP9 hD9 hS) hS.2.2 dX12_isBidder_19
    · rw [Int32.le_iff_toInt_le] at c_3
      refine lv_iconst (v := 1) hx hb dX12_isBidder_14 (by decide +kernel) ?_
      refine lv_goto (tgt := 19) hx hb dX12_isBidder_15 (by decide) ?_
      have hP9 : va_P (gg_D G) classes ([((am 20), .inl (G.2.2 0, 110, .inl sd)), (m0, .inr (12, [.ref (am 0), .int v1, .int v2, .ref (am 3), .ref (am 4), .ref (am 5), .ref (am 6), .ref (am 7), .int v8, .int v9, .int v10, .int v11, .int v12, .int v13, .int v14, .ref (am 15), .int v16, .ref (am 17), .int v18, .ref (am 19), .ref (am 20), .int v21, .int v22, .int v23, .int v24, .int v25, .ref (am 26), .int v27, .ref (am 28), .ref (am 29), .ref (am 30), .ref (am 31), .long v32, .ref (am 33), .ref (am 34), .ref (am 35), .ref (am 36)]))] ++ wt) _ := hP
      have hD9 : va_D A ([((am 20), .inl (G.2.2 0, 110, .inl sd)), (m0, .inr (12, [.ref (am 0), .int v1, .int v2, .ref (am 3), .ref (am 4), .ref (am 5), .ref (am 6), .ref (am 7), .int v8, .int v9, .int v10, .int v11, .int v12, .int v13, .int v14, .ref (am 15), .int v16, .ref (am 17), .int v18, .ref (am 19), .ref (am 20), .int v21, .int v22, .int v23, .int v24, .int v25, .ref (am 26), .int v27, .ref (am 28), .ref (am 29), .ref (am 30), .ref (am 31), .long v32, .ref (am 33), .ref (am 34), .ref (am 35), .ref (am 36)]))] ++ wt) := hD
      exact W.zret (v := 1) hx hb hr (by decide +kernel) (gq_endI wt ⟨hT, hW, (by omega), (by omega), (fun _ => ⟨by omega, by omega, by omega⟩)⟩ hP9 hD9 hS) hS.2.2 dX12_isBidder_19
set_option maxHeartbeats 4000000 in
set_option maxRecDepth 100000 in
theorem d_m_isLot (l : Launch) (G : gg_T) (Γ : Nat → Nat) (sz : Nat) (wt : va_W) (hT : tk_ty G Γ wt) (b : Int32) (m0 : Nat) (am : Nat → Nat) (v1 : Int32) (v2 : Int32) (v8 : Int32) (v9 : Int32) (v10 : Int32) (v11 : Int32) (v12 : Int32) (v13 : Int32) (v14 : Int32) (v16 : Int32) (v18 : Int32) (v21 : Int32) (v22 : Int32) (v23 : Int32) (v24 : Int32) (v25 : Int32) (v27 : Int32) (v32 : Int64) (sd : Nat → Int32) (k17 : Γ (am 17) = 32) (k19 : Γ (am 19) = 30) (k30 : Γ (am 30) = 28) (k31 : Γ (am 31) = 28) (lo_v1 : 0 ≤ v1.toInt) (hi_v1 : v1.toInt ≤ 400) (lo_v2 : 0 ≤ v2.toInt) (hi_v2 : v2.toInt ≤ 6) (lo_v8 : 0 ≤ v8.toInt) (hi_v8 : v8.toInt ≤ 400) (lo_v11 : 0 ≤ v11.toInt) (hi_v11 : v11.toInt ≤ 6) (lo_v12 : 0 ≤ v12.toInt) (hi_v12 : v12.toInt ≤ 60) (lo_v16 : 0 ≤ v16.toInt) (hi_v16 : v16.toInt ≤ 400) (lo_v21 : -1 ≤ v21.toInt) (hi_v21 : v21.toInt ≤ 5) (lo_v23 : 0 ≤ v23.toInt) (hi_v23 : v23.toInt ≤ 31) (lo_v27 : 0 ≤ v27.toInt) (hi_v27 : v27.toInt ≤ 20) (xfr : v21.toInt < v2.toInt) (hSD : SD sd) : Met l yX12_isLot (ts_L yX12_isLot cX12_isLot 2 (some .boolean)) ({ frames := 0, cells := 0, slots := 0, locals := 0 }) (gc_P G ([((am 20), .inl (G.2.2 0, 110, .inl sd)), (m0, .inr (12, [.ref (am 0), .int v1, .int v2, .ref (am 3), .ref (am 4), .ref (am 5), .ref (am 6), .ref (am 7), .int v8, .int v9, .int v10, .int v11, .int v12, .int v13, .int v14, .ref (am 15), .int v16, .ref (am 17), .int v18, .ref (am 19), .ref (am 20), .int v21, .int v22, .int v23, .int v24, .int v25, .ref (am 26), .int v27, .ref (am 28), .ref (am 29), .ref (am 30), .ref (am 31), .long v32, .ref (am 33), .ref (am 34), .ref (am 35), .ref (am 36)]))] ++ wt) sz [.ref m0, .int b]) (gc_I G (va_A ([((am 20), .inl (G.2.2 0, 110, .inl sd)), (m0, .inr (12, [.ref (am 0), .int v1, .int v2, .ref (am 3), .ref (am 4), .ref (am 5), .ref (am 6), .ref (am 7), .int v8, .int v9, .int v10, .int v11, .int v12, .int v13, .int v14, .ref (am 15), .int v16, .ref (am 17), .int v18, .ref (am 19), .ref (am 20), .int v21, .int v22, .int v23, .int v24, .int v25, .ref (am 26), .int v27, .ref (am 28), .ref (am 29), .ref (am 30), .ref (am 31), .long v32, .ref (am 33), .ref (am 34), .ref (am 35), .ref (am 36)]))] ++ wt) sz) (fun r (u : va_W) => match u with | wt1 => tk_ty G Γ wt1 ∧ tk_kp [] wt wt1 ∧ 0 ≤ r.toInt ∧ r.toInt ≤ 1 ∧ (r ≠ 0 → 0 ≤ b.toInt ∧ b.toInt ≤ 2 ∧ b.toInt < (sd 2).toInt)) (fun (u : va_W) => match u with | wt1 => [((am 20), .inl (G.2.2 0, 110, .inl sd)), (m0, .inr (12, [.ref (am 0), .int v1, .int v2, .ref (am 3), .ref (am 4), .ref (am 5), .ref (am 6), .ref (am 7), .int v8, .int v9, .int v10, .int v11, .int v12, .int v13, .int v14, .ref (am 15), .int v16, .ref (am 17), .int v18, .ref (am 19), .ref (am 20), .int v21, .int v22, .int v23, .int v24, .int v25, .ref (am 26), .int v27, .ref (am 28), .ref (am 29), .ref (am 30), .ref (am 31), .long v32, .ref (am 33), .ref (am 34), .ref (am 35), .ref (am 36)]))] ++ wt1)) 0 0 (va_A ([((am 20), .inl (G.2.2 0, 110, .inl sd)), (m0, .inr (12, [.ref (am 0), .int v1, .int v2, .ref (am 3), .ref (am 4), .ref (am 5), .ref (am 6), .ref (am 7), .int v8, .int v9, .int v10, .int v11, .int v12, .int v13, .int v14, .ref (am 15), .int v16, .ref (am 17), .int v18, .ref (am 19), .ref (am 20), .int v21, .int v22, .int v23, .int v24, .int v25, .ref (am 26), .int v27, .ref (am 28), .ref (am 29), .ref (am 30), .ref (am 31), .long v32, .ref (am 33), .ref (am 34), .ref (am 35), .ref (am 36)]))] ++ wt) sz) := by
  refine Met.ofW (cc := cX12_isLot) (maxL := 2) (ret := (some .boolean)) (by decide) rfl ?_
  intro p e s m args below meth c s₁ B hml hv
  obtain ⟨rfl, hsz, hP, hK, hD0⟩ := hv
  have hx := B.exec
  have hb := B.bytes
  have hr := B.returns
  have ht := ts_ht (atoms_spec (ws := ts_L yX12_isLot cX12_isLot 2 (some .boolean)) B.pre)
  have hown : s.vm.findClass RX12 = some m.cls := findClass_of_methodNamed B.named
  have hlocks := B.notSynchronized
  subst hsz
  have hD := hD0.self (sz := s.heap.size)
  generalize hAe : va_A ([((am 20), .inl (G.2.2 0, 110, .inl sd)), (m0, .inr (12, [.ref (am 0), .int v1, .int v2, .ref (am 3), .ref (am 4), .ref (am 5), .ref (am 6), .ref (am 7), .int v8, .int v9, .int v10, .int v11, .int v12, .int v13, .int v14, .ref (am 15), .int v16, .ref (am 17), .int v18, .ref (am 19), .ref (am 20), .int v21, .int v22, .int v23, .int v24, .int v25, .ref (am 26), .int v27, .ref (am 28), .ref (am 29), .ref (am 30), .ref (am 31), .long v32, .ref (am 33), .ref (am 34), .ref (am 35), .ref (am 36)]))] ++ wt) s.heap.size = A at hD ⊢
  have hA : ∀ q : Nat, s.heap.size ≤ q → A q := fun q h => by rw [← hAe]; exact Or.inr h
  clear hAe hD0
  have hS : va_S A s.heap s.heap [] := va_S.rf
  obtain ⟨w0, hw0⟩ : ∃ z, z = wt := ⟨_, rfl⟩
  have hW : tk_kp [] w0 wt := by rw [hw0]; exact tk_kp.rf
  rw [← hw0]
  clear hw0
  have hP : va_P (gg_D G) classes ([((am 20), .inl (G.2.2 0, 110, .inl sd)), (m0, .inr (12, [.ref (am 0), .int v1, .int v2, .ref (am 3), .ref (am 4), .ref (am 5), .ref (am 6), .ref (am 7), .int v8, .int v9, .int v10, .int v11, .int v12, .int v13, .int v14, .ref (am 15), .int v16, .ref (am 17), .int v18, .ref (am 19), .ref (am 20), .int v21, .int v22, .int v23, .int v24, .int v25, .ref (am 26), .int v27, .ref (am 28), .ref (am 29), .ref (am 30), .ref (am 31), .long v32, .ref (am 33), .ref (am 34), .ref (am 35), .ref (am 36)]))] ++ wt) s.heap := hP
  have hD : va_D A ([((am 20), .inl (G.2.2 0, 110, .inl sd)), (m0, .inr (12, [.ref (am 0), .int v1, .int v2, .ref (am 3), .ref (am 4), .ref (am 5), .ref (am 6), .ref (am 7), .int v8, .int v9, .int v10, .int v11, .int v12, .int v13, .int v14, .ref (am 15), .int v16, .ref (am 17), .int v18, .ref (am 19), .ref (am 20), .int v21, .int v22, .int v23, .int v24, .int v25, .ref (am 26), .int v27, .ref (am 28), .ref (am 29), .ref (am 30), .ref (am 31), .long v32, .ref (am 33), .ref (am 34), .ref (am 35), .ref (am 36)]))] ++ wt) := hD
  have hl := lv_entry ([.ref m0, .int b]) (n := 2) (Nat.le_of_ble_eq_true rfl)
  rw [lg_entry_eq]
  generalize (lg_sl ([.ref m0, .int b]) ++ List.replicate (2 - (lg_sl ([.ref m0, .int b])).length) Slot.unset).toArray = ls at hl ⊢
  have hl : lv_has ls 2 [(0, .ref m0), (1, .int b)] := hl
  have hKH : KH sd sd := KH.rf
  have l0 : (0 : Int32).toInt = 0 := by decide +kernel
  have l1 : (1 : Int32).toInt = 1 := by decide +kernel
  have l2 : (2 : Int32).toInt = 2 := by decide +kernel
  refine lv_iload_n hx hb dX12_isLot_0 rfl (lv_at hl 1 rfl) ?_
  refine lv_if_lt (tgt := 18) hx hb dX12_isLot_1 (by decide) (fun c_1 => ?_) (fun c_1 => ?_)
  · rw [Int32.lt_iff_toInt_lt] at c_1
    refine lv_iconst (v := 0) hx hb dX12_isLot_18 (by decide +kernel) ?_
    have hP9 : va_P (gg_D G) classes ([((am 20), .inl (G.2.2 0, 110, .inl sd)), (m0, .inr (12, [.ref (am 0), .int v1, .int v2, .ref (am 3), .ref (am 4), .ref (am 5), .ref (am 6), .ref (am 7), .int v8, .int v9, .int v10, .int v11, .int v12, .int v13, .int v14, .ref (am 15), .int v16, .ref (am 17), .int v18, .ref (am 19), .ref (am 20), .int v21, .int v22, .int v23, .int v24, .int v25, .ref (am 26), .int v27, .ref (am 28), .ref (am 29), .ref (am 30), .ref (am 31), .long v32, .ref (am 33), .ref (am 34), .ref (am 35), .ref (am 36)]))] ++ wt) _ := hP
    have hD9 : va_D A ([((am 20), .inl (G.2.2 0, 110, .inl sd)), (m0, .inr (12, [.ref (am 0), .int v1, .int v2, .ref (am 3), .ref (am 4), .ref (am 5), .ref (am 6), .ref (am 7), .int v8, .int v9, .int v10, .int v11, .int v12, .int v13, .int v14, .ref (am 15), .int v16, .ref (am 17), .int v18, .ref (am 19), .ref (am 20), .int v21, .int v22, .int v23, .int v24, .int v25, .ref (am 26), .int v27, .ref (am 28), .ref (am 29), .ref (am 30), .ref (am 31), .long v32, .ref (am 33), .ref (am 34), .ref (am 35), .ref (am 36)]))] ++ wt) := hD
    exact W.zret (v := 0) hx hb hr (by decide +kernel) (gq_endI wt ⟨hT, hW, (by omega), (by omega), (fun h => absurd rfl h)⟩ hP9 hD9 hS) hS.2.2 dX12_isLot_19
  · rw [Int32.lt_iff_toInt_lt] at c_1
    refine lv_iload_n hx hb dX12_isLot_4 rfl (lv_at hl 1 rfl) ?_
    refine lv_aload_n hx hb dX12_isLot_5 rfl (lv_at hl 0 rfl) ?_
    refine gq_get hx hb ht hown hK hP i_X12 1 rfl rfl 20 (by decide) wd_1272 rfl rfl dX12_isLot_6 ?_
    refine lv_iconst (v := 2) hx hb dX12_isLot_9 (by decide +kernel) ?_
    obtain ⟨n_2, en_2⟩ : ∃ zz_ : Int32, sd (Int32.toNatClampNeg 2) = zz_ := ⟨_, rfl⟩
    refine gq_iald hx hb hK hP 0 rfl n_2 (ia_in (n := 110) (by omega) (by omega)) en_2 dX12_isLot_10 ?_
    have En_2 : sd (2) = n_2 := by rw [← show Int32.toNatClampNeg 2 = 2 from ix_n (by omega)]; exact en_2
    have hn_2 : (sd (2)).toInt = n_2.toInt := by rw [En_2]
    have gn_2 := hSD.r2
    refine lv_icmp_ge (tgt := 18) hx hb dX12_isLot_11 (by decide) (fun c_3 => ?_) (fun c_3 => ?_)
    · rw [Int32.le_iff_toInt_le] at c_3
      refine lv_iconst (v := 0) hx hb dX12_isLot_18 (by decide +kernel) ?_
      have hP9 : va_P (gg_D G) classes ([((am 20), .inl (G.2.2 0, 110, .inl sd)), (m0, .inr (12, [.ref (am 0), .int v1, .int v2, .ref (am 3), .ref (am 4), .ref (am 5), .ref (am 6), .ref (am 7), .int v8, .int v9, .int v10, .int v11, .int v12, .int v13, .int v14, .ref (am 15), .int v16, .ref (am 17), .int v18, .ref (am 19), .ref (am 20), .int v21, .int v22, .int v23, .int v24, .int v25, .ref (am 26), .int v27, .ref (am 28), .ref (am 29), .ref (am 30), .ref (am 31), .long v32, .ref (am 33), .ref (am 34), .ref (am 35), .ref (am 36)]))] ++ wt) _ := hP
      have hD9 : va_D A ([((am 20), .inl (G.2.2 0, 110, .inl sd)), (m0, .inr (12, [.ref (am 0), .int v1, .int v2, .ref (am 3), .ref (am 4), .ref (am 5), .ref (am 6), .ref (am 7), .int v8, .int v9, .int v10, .int v11, .int v12, .int v13, .int v14, .ref (am 15), .int v16, .ref (am 17), .int v18, .ref (am 19), .ref (am 20), .int v21, .int v22, .int v23, .int v24, .int v25, .ref (am 26), .int v27, .ref (am 28), .ref (am 29), .ref (am 30), .ref (am 31), .long v32, .ref (am 33), .ref (am 34), .ref (am 35), .ref (am 36)]))] ++ wt) := hD
      exact W.zret (v := 0) hx hb hr (by decide +kernel) (gq_endI wt ⟨hT, hW, (by omega), (by omega), (fun h => absurd rfl h)⟩ hP9 hD9 hS) hS.2.2 dX12_isLot_19
    · rw [Int32.le_iff_toInt_le] at c_3
      refine lv_iconst (v := 1) hx hb dX12_isLot_14 (by decide +kernel) ?_
      refine lv_goto (tgt := 19) hx hb dX12_isLot_15 (by decide) ?_
      have hP9 : va_P (gg_D G) classes ([((am 20), .inl (G.2.2 0, 110, .inl sd)), (m0, .inr (12, [.ref (am 0), .int v1, .int v2, .ref (am 3), .ref (am 4), .ref (am 5), .ref (am 6), .ref (am 7), .int v8, .int v9, .int v10, .int v11, .int v12, .int v13, .int v14, .ref (am 15), .int v16, .ref (am 17), .int v18, .ref (am 19), .ref (am 20), .int v21, .int v22, .int v23, .int v24, .int v25, .ref (am 26), .int v27, .ref (am 28), .ref (am 29), .ref (am 30), .ref (am 31), .long v32, .ref (am 33), .ref (am 34), .ref (am 35), .ref (am 36)]))] ++ wt) _ := hP
      have hD9 : va_D A ([((am 20), .inl (G.2.2 0, 110, .inl sd)), (m0, .inr (12, [.ref (am 0), .int v1, .int v2, .ref (am 3), .ref (am 4), .ref (am 5), .ref (am 6), .ref (am 7), .int v8, .int v9, .int v10, .int v11, .int v12, .int v13, .int v14, .ref (am 15), .int v16, .ref (am 17), .int v18, .ref (am 19), .ref (am 20), .int v21, .int v22, .int v23, .int v24, .int v25, .ref (am 26), .int v27, .ref (am 28), .ref (am 29), .ref (am 30), .ref (am 31), .long v32, .ref (am 33), .ref (am 34), .ref (am 35), .ref (am 36)]))] ++ wt) := hD
      exact W.zret (v := 1) hx hb hr (by decide +kernel) (gq_endI wt ⟨hT, hW, (by omega), (by omega), (fun _ => ⟨by omega, by omega, by omega⟩)⟩ hP9 hD9 hS) hS.2.2 dX12_isLot_19
set_option maxHeartbeats 4000000 in
set_option maxRecDepth 100000 in
theorem d_m_isTrick (l : Launch) (G : gg_T) (Γ : Nat → Nat) (sz : Nat) (wt : va_W) (hT : tk_ty G Γ wt) (b : Int32) (m0 : Nat) (am : Nat → Nat) (v1 : Int32) (v2 : Int32) (v8 : Int32) (v9 : Int32) (v10 : Int32) (v11 : Int32) (v12 : Int32) (v13 : Int32) (v14 : Int32) (v16 : Int32) (v18 : Int32) (v21 : Int32) (v22 : Int32) (v23 : Int32) (v24 : Int32) (v25 : Int32) (v27 : Int32) (v32 : Int64) (sd : Nat → Int32) (k17 : Γ (am 17) = 32) (k19 : Γ (am 19) = 30) (k30 : Γ (am 30) = 28) (k31 : Γ (am 31) = 28) (lo_v1 : 0 ≤ v1.toInt) (hi_v1 : v1.toInt ≤ 400) (lo_v2 : 0 ≤ v2.toInt) (hi_v2 : v2.toInt ≤ 6) (lo_v8 : 0 ≤ v8.toInt) (hi_v8 : v8.toInt ≤ 400) (lo_v11 : 0 ≤ v11.toInt) (hi_v11 : v11.toInt ≤ 6) (lo_v12 : 0 ≤ v12.toInt) (hi_v12 : v12.toInt ≤ 60) (lo_v16 : 0 ≤ v16.toInt) (hi_v16 : v16.toInt ≤ 400) (lo_v21 : -1 ≤ v21.toInt) (hi_v21 : v21.toInt ≤ 5) (lo_v23 : 0 ≤ v23.toInt) (hi_v23 : v23.toInt ≤ 31) (lo_v27 : 0 ≤ v27.toInt) (hi_v27 : v27.toInt ≤ 20) (xfr : v21.toInt < v2.toInt) (hSD : SD sd) : Met l yX12_isTrick (ts_L yX12_isTrick cX12_isTrick 2 (some .boolean)) ({ frames := 0, cells := 0, slots := 0, locals := 0 }) (gc_P G ([((am 20), .inl (G.2.2 0, 110, .inl sd)), (m0, .inr (12, [.ref (am 0), .int v1, .int v2, .ref (am 3), .ref (am 4), .ref (am 5), .ref (am 6), .ref (am 7), .int v8, .int v9, .int v10, .int v11, .int v12, .int v13, .int v14, .ref (am 15), .int v16, .ref (am 17), .int v18, .ref (am 19), .ref (am 20), .int v21, .int v22, .int v23, .int v24, .int v25, .ref (am 26), .int v27, .ref (am 28), .ref (am 29), .ref (am 30), .ref (am 31), .long v32, .ref (am 33), .ref (am 34), .ref (am 35), .ref (am 36)]))] ++ wt) sz [.ref m0, .int b]) (gc_I G (va_A ([((am 20), .inl (G.2.2 0, 110, .inl sd)), (m0, .inr (12, [.ref (am 0), .int v1, .int v2, .ref (am 3), .ref (am 4), .ref (am 5), .ref (am 6), .ref (am 7), .int v8, .int v9, .int v10, .int v11, .int v12, .int v13, .int v14, .ref (am 15), .int v16, .ref (am 17), .int v18, .ref (am 19), .ref (am 20), .int v21, .int v22, .int v23, .int v24, .int v25, .ref (am 26), .int v27, .ref (am 28), .ref (am 29), .ref (am 30), .ref (am 31), .long v32, .ref (am 33), .ref (am 34), .ref (am 35), .ref (am 36)]))] ++ wt) sz) (fun r (u : va_W) => match u with | wt1 => tk_ty G Γ wt1 ∧ tk_kp [] wt wt1 ∧ 0 ≤ r.toInt ∧ r.toInt ≤ 1 ∧ (r ≠ 0 → 0 ≤ b.toInt ∧ b.toInt ≤ 2)) (fun (u : va_W) => match u with | wt1 => [((am 20), .inl (G.2.2 0, 110, .inl sd)), (m0, .inr (12, [.ref (am 0), .int v1, .int v2, .ref (am 3), .ref (am 4), .ref (am 5), .ref (am 6), .ref (am 7), .int v8, .int v9, .int v10, .int v11, .int v12, .int v13, .int v14, .ref (am 15), .int v16, .ref (am 17), .int v18, .ref (am 19), .ref (am 20), .int v21, .int v22, .int v23, .int v24, .int v25, .ref (am 26), .int v27, .ref (am 28), .ref (am 29), .ref (am 30), .ref (am 31), .long v32, .ref (am 33), .ref (am 34), .ref (am 35), .ref (am 36)]))] ++ wt1)) 0 0 (va_A ([((am 20), .inl (G.2.2 0, 110, .inl sd)), (m0, .inr (12, [.ref (am 0), .int v1, .int v2, .ref (am 3), .ref (am 4), .ref (am 5), .ref (am 6), .ref (am 7), .int v8, .int v9, .int v10, .int v11, .int v12, .int v13, .int v14, .ref (am 15), .int v16, .ref (am 17), .int v18, .ref (am 19), .ref (am 20), .int v21, .int v22, .int v23, .int v24, .int v25, .ref (am 26), .int v27, .ref (am 28), .ref (am 29), .ref (am 30), .ref (am 31), .long v32, .ref (am 33), .ref (am 34), .ref (am 35), .ref (am 36)]))] ++ wt) sz) := by
  refine Met.ofW (cc := cX12_isTrick) (maxL := 2) (ret := (some .boolean)) (by decide) rfl ?_
  intro p e s m args below meth c s₁ B hml hv
  obtain ⟨rfl, hsz, hP, hK, hD0⟩ := hv
  have hx := B.exec
  have hb := B.bytes
  have hr := B.returns
  have ht := ts_ht (atoms_spec (ws := ts_L yX12_isTrick cX12_isTrick 2 (some .boolean)) B.pre)
  have hown : s.vm.findClass RX12 = some m.cls := findClass_of_methodNamed B.named
  have hlocks := B.notSynchronized
  subst hsz
  have hD := hD0.self (sz := s.heap.size)
  generalize hAe : va_A ([((am 20), .inl (G.2.2 0, 110, .inl sd)), (m0, .inr (12, [.ref (am 0), .int v1, .int v2, .ref (am 3), .ref (am 4), .ref (am 5), .ref (am 6), .ref (am 7), .int v8, .int v9, .int v10, .int v11, .int v12, .int v13, .int v14, .ref (am 15), .int v16, .ref (am 17), .int v18, .ref (am 19), .ref (am 20), .int v21, .int v22, .int v23, .int v24, .int v25, .ref (am 26), .int v27, .ref (am 28), .ref (am 29), .ref (am 30), .ref (am 31), .long v32, .ref (am 33), .ref (am 34), .ref (am 35), .ref (am 36)]))] ++ wt) s.heap.size = A at hD ⊢
  have hA : ∀ q : Nat, s.heap.size ≤ q → A q := fun q h => by rw [← hAe]; exact Or.inr h
  clear hAe hD0
  have hS : va_S A s.heap s.heap [] := va_S.rf
  obtain ⟨w0, hw0⟩ : ∃ z, z = wt := ⟨_, rfl⟩
  have hW : tk_kp [] w0 wt := by rw [hw0]; exact tk_kp.rf
  rw [← hw0]
  clear hw0
  have hP : va_P (gg_D G) classes ([((am 20), .inl (G.2.2 0, 110, .inl sd)), (m0, .inr (12, [.ref (am 0), .int v1, .int v2, .ref (am 3), .ref (am 4), .ref (am 5), .ref (am 6), .ref (am 7), .int v8, .int v9, .int v10, .int v11, .int v12, .int v13, .int v14, .ref (am 15), .int v16, .ref (am 17), .int v18, .ref (am 19), .ref (am 20), .int v21, .int v22, .int v23, .int v24, .int v25, .ref (am 26), .int v27, .ref (am 28), .ref (am 29), .ref (am 30), .ref (am 31), .long v32, .ref (am 33), .ref (am 34), .ref (am 35), .ref (am 36)]))] ++ wt) s.heap := hP
  have hD : va_D A ([((am 20), .inl (G.2.2 0, 110, .inl sd)), (m0, .inr (12, [.ref (am 0), .int v1, .int v2, .ref (am 3), .ref (am 4), .ref (am 5), .ref (am 6), .ref (am 7), .int v8, .int v9, .int v10, .int v11, .int v12, .int v13, .int v14, .ref (am 15), .int v16, .ref (am 17), .int v18, .ref (am 19), .ref (am 20), .int v21, .int v22, .int v23, .int v24, .int v25, .ref (am 26), .int v27, .ref (am 28), .ref (am 29), .ref (am 30), .ref (am 31), .long v32, .ref (am 33), .ref (am 34), .ref (am 35), .ref (am 36)]))] ++ wt) := hD
  have hl := lv_entry ([.ref m0, .int b]) (n := 2) (Nat.le_of_ble_eq_true rfl)
  rw [lg_entry_eq]
  generalize (lg_sl ([.ref m0, .int b]) ++ List.replicate (2 - (lg_sl ([.ref m0, .int b])).length) Slot.unset).toArray = ls at hl ⊢
  have hl : lv_has ls 2 [(0, .ref m0), (1, .int b)] := hl
  have hKH : KH sd sd := KH.rf
  have l0 : (0 : Int32).toInt = 0 := by decide +kernel
  have l1 : (1 : Int32).toInt = 1 := by decide +kernel
  have l3 : (3 : Int32).toInt = 3 := by decide +kernel
  refine lv_iload_n hx hb dX12_isTrick_0 rfl (lv_at hl 1 rfl) ?_
  refine lv_if_lt (tgt := 18) hx hb dX12_isTrick_1 (by decide) (fun c_1 => ?_) (fun c_1 => ?_)
  · rw [Int32.lt_iff_toInt_lt] at c_1
    refine lv_iconst (v := 0) hx hb dX12_isTrick_18 (by decide +kernel) ?_
    have hP9 : va_P (gg_D G) classes ([((am 20), .inl (G.2.2 0, 110, .inl sd)), (m0, .inr (12, [.ref (am 0), .int v1, .int v2, .ref (am 3), .ref (am 4), .ref (am 5), .ref (am 6), .ref (am 7), .int v8, .int v9, .int v10, .int v11, .int v12, .int v13, .int v14, .ref (am 15), .int v16, .ref (am 17), .int v18, .ref (am 19), .ref (am 20), .int v21, .int v22, .int v23, .int v24, .int v25, .ref (am 26), .int v27, .ref (am 28), .ref (am 29), .ref (am 30), .ref (am 31), .long v32, .ref (am 33), .ref (am 34), .ref (am 35), .ref (am 36)]))] ++ wt) _ := hP
    have hD9 : va_D A ([((am 20), .inl (G.2.2 0, 110, .inl sd)), (m0, .inr (12, [.ref (am 0), .int v1, .int v2, .ref (am 3), .ref (am 4), .ref (am 5), .ref (am 6), .ref (am 7), .int v8, .int v9, .int v10, .int v11, .int v12, .int v13, .int v14, .ref (am 15), .int v16, .ref (am 17), .int v18, .ref (am 19), .ref (am 20), .int v21, .int v22, .int v23, .int v24, .int v25, .ref (am 26), .int v27, .ref (am 28), .ref (am 29), .ref (am 30), .ref (am 31), .long v32, .ref (am 33), .ref (am 34), .ref (am 35), .ref (am 36)]))] ++ wt) := hD
    exact W.zret (v := 0) hx hb hr (by decide +kernel) (gq_endI wt ⟨hT, hW, (by omega), (by omega), (fun h => absurd rfl h)⟩ hP9 hD9 hS) hS.2.2 dX12_isTrick_19
  · rw [Int32.lt_iff_toInt_lt] at c_1
    refine lv_iload_n hx hb dX12_isTrick_4 rfl (lv_at hl 1 rfl) ?_
    refine lv_aload_n hx hb dX12_isTrick_5 rfl (lv_at hl 0 rfl) ?_
    refine gq_get hx hb ht hown hK hP i_X12 1 rfl rfl 20 (by decide) wd_1272 rfl rfl dX12_isTrick_6 ?_
    refine lv_iconst (v := 3) hx hb dX12_isTrick_9 (by decide +kernel) ?_
    obtain ⟨n_2, en_2⟩ : ∃ zz_ : Int32, sd (Int32.toNatClampNeg 3) = zz_ := ⟨_, rfl⟩
    refine gq_iald hx hb hK hP 0 rfl n_2 (ia_in (n := 110) (by omega) (by omega)) en_2 dX12_isTrick_10 ?_
    have En_2 : sd (3) = n_2 := by rw [← show Int32.toNatClampNeg 3 = 3 from ix_n (by omega)]; exact en_2
    have hn_2 : (sd (3)).toInt = n_2.toInt := by rw [En_2]
    have gn_2 := hSD.r3
    refine lv_icmp_ge (tgt := 18) hx hb dX12_isTrick_11 (by decide) (fun c_3 => ?_) (fun c_3 => ?_)
    · rw [Int32.le_iff_toInt_le] at c_3
      refine lv_iconst (v := 0) hx hb dX12_isTrick_18 (by decide +kernel) ?_
      have hP9 : va_P (gg_D G) classes ([((am 20), .inl (G.2.2 0, 110, .inl sd)), (m0, .inr (12, [.ref (am 0), .int v1, .int v2, .ref (am 3), .ref (am 4), .ref (am 5), .ref (am 6), .ref (am 7), .int v8, .int v9, .int v10, .int v11, .int v12, .int v13, .int v14, .ref (am 15), .int v16, .ref (am 17), .int v18, .ref (am 19), .ref (am 20), .int v21, .int v22, .int v23, .int v24, .int v25, .ref (am 26), .int v27, .ref (am 28), .ref (am 29), .ref (am 30), .ref (am 31), .long v32, .ref (am 33), .ref (am 34), .ref (am 35), .ref (am 36)]))] ++ wt) _ := hP
      have hD9 : va_D A ([((am 20), .inl (G.2.2 0, 110, .inl sd)), (m0, .inr (12, [.ref (am 0), .int v1, .int v2, .ref (am 3), .ref (am 4), .ref (am 5), .ref (am 6), .ref (am 7), .int v8, .int v9, .int v10, .int v11, .int v12, .int v13, .int v14, .ref (am 15), .int v16, .ref (am 17), .int v18, .ref (am 19), .ref (am 20), .int v21, .int v22, .int v23, .int v24, .int v25, .ref (am 26), .int v27, .ref (am 28), .ref (am 29), .ref (am 30), .ref (am 31), .long v32, .ref (am 33), .ref (am 34), .ref (am 35), .ref (am 36)]))] ++ wt) := hD
      exact W.zret (v := 0) hx hb hr (by decide +kernel) (gq_endI wt ⟨hT, hW, (by omega), (by omega), (fun h => absurd rfl h)⟩ hP9 hD9 hS) hS.2.2 dX12_isTrick_19
    · rw [Int32.le_iff_toInt_le] at c_3
      refine lv_iconst (v := 1) hx hb dX12_isTrick_14 (by decide +kernel) ?_
      refine lv_goto (tgt := 19) hx hb dX12_isTrick_15 (by decide) ?_
      have hP9 : va_P (gg_D G) classes ([((am 20), .inl (G.2.2 0, 110, .inl sd)), (m0, .inr (12, [.ref (am 0), .int v1, .int v2, .ref (am 3), .ref (am 4), .ref (am 5), .ref (am 6), .ref (am 7), .int v8, .int v9, .int v10, .int v11, .int v12, .int v13, .int v14, .ref (am 15), .int v16, .ref (am 17), .int v18, .ref (am 19), .ref (am 20), .int v21, .int v22, .int v23, .int v24, .int v25, .ref (am 26), .int v27, .ref (am 28), .ref (am 29), .ref (am 30), .ref (am 31), .long v32, .ref (am 33), .ref (am 34), .ref (am 35), .ref (am 36)]))] ++ wt) _ := hP
      have hD9 : va_D A ([((am 20), .inl (G.2.2 0, 110, .inl sd)), (m0, .inr (12, [.ref (am 0), .int v1, .int v2, .ref (am 3), .ref (am 4), .ref (am 5), .ref (am 6), .ref (am 7), .int v8, .int v9, .int v10, .int v11, .int v12, .int v13, .int v14, .ref (am 15), .int v16, .ref (am 17), .int v18, .ref (am 19), .ref (am 20), .int v21, .int v22, .int v23, .int v24, .int v25, .ref (am 26), .int v27, .ref (am 28), .ref (am 29), .ref (am 30), .ref (am 31), .long v32, .ref (am 33), .ref (am 34), .ref (am 35), .ref (am 36)]))] ++ wt) := hD
      exact W.zret (v := 1) hx hb hr (by decide +kernel) (gq_endI wt ⟨hT, hW, (by omega), (by omega), (fun _ => ⟨by omega, by omega⟩)⟩ hP9 hD9 hS) hS.2.2 dX12_isTrick_19

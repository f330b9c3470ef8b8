theorem wd_1811 : (Jvm.Cond.code ({ cls := "SilentSaleModel", name := "log", desc := "(III)I" } : Jvm.MethodName) prog_14_method_109_code (5 : Nat) (Option.some Jvm.ClassFile.FieldType.int)) ∈ tb_L := tb_in (i := 1811) (by decide +kernel) (by decide +kernel)
theorem wd_1812 : (Jvm.Cond.constantLong "SilentSaleModel" (433 : Nat) (999 : Int64)) ∈ tb_L := tb_in (i := 1812) (by decide +kernel) (by decide +kernel)
theorem dX12_log_0 : decode cX12_log 0 = .ok (.iload_n 1, 1) := by decide +kernel
theorem dX12_log_1 : decode cX12_log 1 = .ok (.iconst (-1), 1) := by decide +kernel
theorem dX12_log_2 : decode cX12_log 2 = .ok (.if_icmp .ne 13, 3) := by decide +kernel
theorem dX12_log_5 : decode cX12_log 5 = .ok (.aload_n 0, 1) := by decide +kernel
theorem dX12_log_6 : decode cX12_log 6 = .ok (.getfield 39, 3) := by decide +kernel
theorem dX12_log_9 : decode cX12_log 9 = .ok (.bipush 109, 2) := by decide +kernel
theorem dX12_log_11 : decode cX12_log 11 = .ok (.iconst 0, 1) := by decide +kernel
theorem dX12_log_12 : decode cX12_log 12 = .ok (.iastore, 1) := by decide +kernel
theorem dX12_log_13 : decode cX12_log 13 = .ok (.iconst 0, 1) := by decide +kernel
theorem dX12_log_14 : decode cX12_log 14 = .ok (.ireturn, 1) := by decide +kernel
theorem dX12_log_15 : decode cX12_log 15 = .ok (.aload_n 0, 1) := by decide +kernel
theorem dX12_log_16 : decode cX12_log 16 = .ok (.iload_n 1, 1) := by decide +kernel
theorem dX12_log_17 : decode cX12_log 17 = .ok (.invokevirtual 308, 3) := by decide +kernel
theorem dX12_log_20 : decode cX12_log 20 = .ok (.ifCond .eq 40, 3) := by decide +kernel
theorem dX12_log_23 : decode cX12_log 23 = .ok (.iload_n 2, 1) := by decide +kernel
theorem dX12_log_24 : decode cX12_log 24 = .ok (.iconst (-1), 1) := by decide +kernel
theorem dX12_log_25 : decode cX12_log 25 = .ok (.if_icmp .eq 11, 3) := by decide +kernel
theorem dX12_log_28 : decode cX12_log 28 = .ok (.aload_n 0, 1) := by decide +kernel
theorem dX12_log_29 : decode cX12_log 29 = .ok (.iload_n 2, 1) := by decide +kernel
theorem dX12_log_30 : decode cX12_log 30 = .ok (.invokevirtual 300, 3) := by decide +kernel
theorem dX12_log_33 : decode cX12_log 33 = .ok (.ifCond .eq 27, 3) := by decide +kernel
theorem dX12_log_36 : decode cX12_log 36 = .ok (.iload_n 3, 1) := by decide +kernel
theorem dX12_log_37 : decode cX12_log 37 = .ok (.i2l, 1) := by decide +kernel
theorem dX12_log_38 : decode cX12_log 38 = .ok (.lconst 0, 1) := by decide +kernel
theorem dX12_log_39 : decode cX12_log 39 = .ok (.ldc2_w 433, 3) := by decide +kernel
theorem dX12_log_42 : decode cX12_log 42 = .ok (.invokestatic 115, 3) := by decide +kernel
theorem dX12_log_45 : decode cX12_log 45 = .ok (.ifCond .eq 15, 3) := by decide +kernel
theorem dX12_log_48 : decode cX12_log 48 = .ok (.aload_n 0, 1) := by decide +kernel
theorem dX12_log_49 : decode cX12_log 49 = .ok (.getfield 39, 3) := by decide +kernel
theorem dX12_log_52 : decode cX12_log 52 = .ok (.bipush 109, 2) := by decide +kernel
theorem dX12_log_54 : decode cX12_log 54 = .ok (.iaload, 1) := by decide +kernel
theorem dX12_log_55 : decode cX12_log 55 = .ok (.bipush 10, 2) := by decide +kernel
theorem dX12_log_57 : decode cX12_log 57 = .ok (.if_icmp .ne 6, 3) := by decide +kernel
theorem dX12_log_60 : decode cX12_log 60 = .ok (.bipush (-2), 2) := by decide +kernel
theorem dX12_log_62 : decode cX12_log 62 = .ok (.ireturn, 1) := by decide +kernel
theorem dX12_log_63 : decode cX12_log 63 = .ok (.bipush 79, 2) := by decide +kernel
theorem dX12_log_65 : decode cX12_log 65 = .ok (.iconst 3, 1) := by decide +kernel
theorem dX12_log_66 : decode cX12_log 66 = .ok (.aload_n 0, 1) := by decide +kernel
theorem dX12_log_67 : decode cX12_log 67 = .ok (.getfield 39, 3) := by decide +kernel
theorem dX12_log_70 : decode cX12_log 70 = .ok (.bipush 109, 2) := by decide +kernel
theorem dX12_log_72 : decode cX12_log 72 = .ok (.iaload, 1) := by decide +kernel
theorem dX12_log_73 : decode cX12_log 73 = .ok (.imul, 1) := by decide +kernel
theorem dX12_log_74 : decode cX12_log 74 = .ok (.iadd, 1) := by decide +kernel
theorem dX12_log_75 : decode cX12_log 75 = .ok (.istore 4, 2) := by decide +kernel
theorem dX12_log_77 : decode cX12_log 77 = .ok (.aload_n 0, 1) := by decide +kernel
theorem dX12_log_78 : decode cX12_log 78 = .ok (.getfield 39, 3) := by decide +kernel
theorem dX12_log_81 : decode cX12_log 81 = .ok (.iload 4, 2) := by decide +kernel
theorem dX12_log_83 : decode cX12_log 83 = .ok (.iload_n 1, 1) := by decide +kernel
theorem dX12_log_84 : decode cX12_log 84 = .ok (.iastore, 1) := by decide +kernel
theorem dX12_log_85 : decode cX12_log 85 = .ok (.aload_n 0, 1) := by decide +kernel
theorem dX12_log_86 : decode cX12_log 86 = .ok (.getfield 39, 3) := by decide +kernel
theorem dX12_log_89 : decode cX12_log 89 = .ok (.iload 4, 2) := by decide +kernel
theorem dX12_log_91 : decode cX12_log 91 = .ok (.iconst 1, 1) := by decide +kernel
theorem dX12_log_92 : decode cX12_log 92 = .ok (.iadd, 1) := by decide +kernel
theorem dX12_log_93 : decode cX12_log 93 = .ok (.iload_n 2, 1) := by decide +kernel
theorem dX12_log_94 : decode cX12_log 94 = .ok (.iastore, 1) := by decide +kernel
theorem dX12_log_95 : decode cX12_log 95 = .ok (.aload_n 0, 1) := by decide +kernel
theorem dX12_log_96 : decode cX12_log 96 = .ok (.getfield 39, 3) := by decide +kernel
theorem dX12_log_99 : decode cX12_log 99 = .ok (.iload 4, 2) := by decide +kernel
theorem dX12_log_101 : decode cX12_log 101 = .ok (.iconst 2, 1) := by decide +kernel
theorem dX12_log_102 : decode cX12_log 102 = .ok (.iadd, 1) := by decide +kernel
theorem dX12_log_103 : decode cX12_log 103 = .ok (.iload_n 3, 1) := by decide +kernel
theorem dX12_log_104 : decode cX12_log 104 = .ok (.iastore, 1) := by decide +kernel
theorem dX12_log_105 : decode cX12_log 105 = .ok (.aload_n 0, 1) := by decide +kernel
theorem dX12_log_106 : decode cX12_log 106 = .ok (.getfield 39, 3) := by decide +kernel
theorem dX12_log_109 : decode cX12_log 109 = .ok (.bipush 109, 2) := by decide +kernel
theorem dX12_log_111 : decode cX12_log 111 = .ok (.dup2, 1) := by decide +kernel
theorem dX12_log_112 : decode cX12_log 112 = .ok (.iaload, 1) := by decide +kernel
theorem dX12_log_113 : decode cX12_log 113 = .ok (.iconst 1, 1) := by decide +kernel
theorem dX12_log_114 : decode cX12_log 114 = .ok (.iadd, 1) := by decide +kernel
theorem dX12_log_115 : decode cX12_log 115 = .ok (.iastore, 1) := by decide +kernel
theorem dX12_log_116 : decode cX12_log 116 = .ok (.aload_n 0, 1) := by decide +kernel
theorem dX12_log_117 : decode cX12_log 117 = .ok (.getfield 39, 3) := by decide +kernel
theorem dX12_log_120 : decode cX12_log 120 = .ok (.bipush 109, 2) := by decide +kernel
theorem dX12_log_122 : decode cX12_log 122 = .ok (.iaload, 1) := by decide +kernel
theorem dX12_log_123 : decode cX12_log 123 = .ok (.ireturn, 1) := by decide +kernel
theorem wd_71 : (Jvm.Cond.selects "SilentSaleModel" ({ cls := "SilentSaleModel", name := "startsAnew", desc := "()V" } : Jvm.MethodName) ({ cls := "SilentSaleModel", name := "startsAnew", desc := "()V" } : Jvm.MethodName)) ∈ tb_L := tb_in (i := 71) (by decide +kernel) (by decide +kernel)
theorem wd_1282 : (Jvm.Cond.fieldLink "SilentSaleModel" (59 : Nat) "SilentSaleModel" "whoThen" "[I") ∈ tb_L := tb_in (i := 1282) (by decide +kernel) (by decide +kernel)
theorem wd_1283 : (Jvm.Cond.fieldLink "SilentSaleModel" (62 : Nat) "SilentSaleModel" "coinsThen" "[I") ∈ tb_L := tb_in (i := 1283) (by decide +kernel) (by decide +kernel)
theorem wd_1537 : (Jvm.Cond.methodLink "SilentSaleModel" (257 : Nat) ({ cls := "SilentSaleModel", name := "startsAnew", desc := "()V" } : Jvm.MethodName)) ∈ tb_L := tb_in (i := 1537) (by decide +kernel) (by decide +kernel)
theorem wd_1539 : (Jvm.Cond.instanceMethod ({ cls := "SilentSaleModel", name := "startsAnew", desc := "()V" } : Jvm.MethodName)) ∈ tb_L := tb_in (i := 1539) (by decide +kernel) (by decide +kernel)
theorem wd_1824 : (Jvm.Cond.code ({ cls := "SilentSaleModel", name := "fillsLot", desc := "(II)V" } : Jvm.MethodName) prog_14_method_110_code (4 : Nat) (Option.none : Option Jvm.ClassFile.FieldType)) ∈ tb_L := tb_in (i := 1824) (by decide +kernel) (by decide +kernel)
theorem dX12_fillsLot_0 : decode cX12_fillsLot 0 = .ok (.aload_n 0, 1) := by decide +kernel
theorem dX12_fillsLot_1 : decode cX12_fillsLot 1 = .ok (.invokevirtual 257, 3) := by decide +kernel
theorem dX12_fillsLot_4 : decode cX12_fillsLot 4 = .ok (.iconst 0, 1) := by decide +kernel
theorem dX12_fillsLot_5 : decode cX12_fillsLot 5 = .ok (.istore_n 3, 1) := by decide +kernel
theorem dX12_fillsLot_6 : decode cX12_fillsLot 6 = .ok (.iload_n 3, 1) := by decide +kernel
theorem dX12_fillsLot_7 : decode cX12_fillsLot 7 = .ok (.aload_n 0, 1) := by decide +kernel
theorem dX12_fillsLot_8 : decode cX12_fillsLot 8 = .ok (.getfield 39, 3) := by decide +kernel
theorem dX12_fillsLot_11 : decode cX12_fillsLot 11 = .ok (.iconst 1, 1) := by decide +kernel
theorem dX12_fillsLot_12 : decode cX12_fillsLot 12 = .ok (.iaload, 1) := by decide +kernel
theorem dX12_fillsLot_13 : decode cX12_fillsLot 13 = .ok (.if_icmp .ge 23, 3) := by decide +kernel
theorem dX12_fillsLot_16 : decode cX12_fillsLot 16 = .ok (.aload_n 0, 1) := by decide +kernel
theorem dX12_fillsLot_17 : decode cX12_fillsLot 17 = .ok (.getfield 39, 3) := by decide +kernel
theorem dX12_fillsLot_20 : decode cX12_fillsLot 20 = .ok (.bipush 11, 2) := by decide +kernel
theorem dX12_fillsLot_22 : decode cX12_fillsLot 22 = .ok (.iconst 5, 1) := by decide +kernel
theorem dX12_fillsLot_23 : decode cX12_fillsLot 23 = .ok (.iload_n 3, 1) := by decide +kernel
theorem dX12_fillsLot_24 : decode cX12_fillsLot 24 = .ok (.imul, 1) := by decide +kernel
theorem dX12_fillsLot_25 : decode cX12_fillsLot 25 = .ok (.iadd, 1) := by decide +kernel
theorem dX12_fillsLot_26 : decode cX12_fillsLot 26 = .ok (.iconst 2, 1) := by decide +kernel
theorem dX12_fillsLot_27 : decode cX12_fillsLot 27 = .ok (.iadd, 1) := by decide +kernel
theorem dX12_fillsLot_28 : decode cX12_fillsLot 28 = .ok (.iload_n 2, 1) := by decide +kernel
theorem dX12_fillsLot_29 : decode cX12_fillsLot 29 = .ok (.iastore, 1) := by decide +kernel
theorem dX12_fillsLot_30 : decode cX12_fillsLot 30 = .ok (.iinc 3 1, 3) := by decide +kernel
theorem dX12_fillsLot_33 : decode cX12_fillsLot 33 = .ok (.goto (-27), 3) := by decide +kernel
theorem dX12_fillsLot_36 : decode cX12_fillsLot 36 = .ok (.aload_n 0, 1) := by decide +kernel
theorem dX12_fillsLot_37 : decode cX12_fillsLot 37 = .ok (.getfield 39, 3) := by decide +kernel
theorem dX12_fillsLot_40 : decode cX12_fillsLot 40 = .ok (.iconst 1, 1) := by decide +kernel
theorem dX12_fillsLot_41 : decode cX12_fillsLot 41 = .ok (.iaload, 1) := by decide +kernel
theorem dX12_fillsLot_42 : decode cX12_fillsLot 42 = .ok (.ifCond .le 8, 3) := by decide +kernel
theorem dX12_fillsLot_45 : decode cX12_fillsLot 45 = .ok (.aload_n 0, 1) := by decide +kernel
theorem dX12_fillsLot_46 : decode cX12_fillsLot 46 = .ok (.iload_n 2, 1) := by decide +kernel
theorem dX12_fillsLot_47 : decode cX12_fillsLot 47 = .ok (.invokevirtual 366, 3) := by decide +kernel
theorem dX12_fillsLot_50 : decode cX12_fillsLot 50 = .ok (.aload_n 0, 1) := by decide +kernel
theorem dX12_fillsLot_51 : decode cX12_fillsLot 51 = .ok (.iload_n 2, 1) := by decide +kernel
theorem dX12_fillsLot_52 : decode cX12_fillsLot 52 = .ok (.invokevirtual 394, 3) := by decide +kernel
theorem dX12_fillsLot_55 : decode cX12_fillsLot 55 = .ok (.pop, 1) := by decide +kernel
theorem dX12_fillsLot_56 : decode cX12_fillsLot 56 = .ok (.aload_n 0, 1) := by decide +kernel
theorem dX12_fillsLot_57 : decode cX12_fillsLot 57 = .ok (.getfield 59, 3) := by decide +kernel
theorem dX12_fillsLot_60 : decode cX12_fillsLot 60 = .ok (.iconst 3, 1) := by decide +kernel
theorem dX12_fillsLot_61 : decode cX12_fillsLot 61 = .ok (.iload_n 1, 1) := by decide +kernel
theorem dX12_fillsLot_62 : decode cX12_fillsLot 62 = .ok (.imul, 1) := by decide +kernel
theorem dX12_fillsLot_63 : decode cX12_fillsLot 63 = .ok (.iload_n 2, 1) := by decide +kernel
theorem dX12_fillsLot_64 : decode cX12_fillsLot 64 = .ok (.iadd, 1) := by decide +kernel
theorem dX12_fillsLot_65 : decode cX12_fillsLot 65 = .ok (.aload_n 0, 1) := by decide +kernel
theorem dX12_fillsLot_66 : decode cX12_fillsLot 66 = .ok (.iload_n 2, 1) := by decide +kernel
theorem dX12_fillsLot_67 : decode cX12_fillsLot 67 = .ok (.iconst 2, 1) := by decide +kernel
theorem dX12_fillsLot_68 : decode cX12_fillsLot 68 = .ok (.invokevirtual 285, 3) := by decide +kernel
theorem dX12_fillsLot_71 : decode cX12_fillsLot 71 = .ok (.iastore, 1) := by decide +kernel
theorem dX12_fillsLot_72 : decode cX12_fillsLot 72 = .ok (.aload_n 0, 1) := by decide +kernel
theorem dX12_fillsLot_73 : decode cX12_fillsLot 73 = .ok (.getfield 62, 3) := by decide +kernel
theorem dX12_fillsLot_76 : decode cX12_fillsLot 76 = .ok (.iconst 3, 1) := by decide +kernel
theorem dX12_fillsLot_77 : decode cX12_fillsLot 77 = .ok (.iload_n 1, 1) := by decide +kernel
theorem dX12_fillsLot_78 : decode cX12_fillsLot 78 = .ok (.imul, 1) := by decide +kernel
theorem dX12_fillsLot_79 : decode cX12_fillsLot 79 = .ok (.iload_n 2, 1) := by decide +kernel
theorem dX12_fillsLot_80 : decode cX12_fillsLot 80 = .ok (.iadd, 1) := by decide +kernel
theorem dX12_fillsLot_81 : decode cX12_fillsLot 81 = .ok (.aload_n 0, 1) := by decide +kernel
theorem dX12_fillsLot_82 : decode cX12_fillsLot 82 = .ok (.iload_n 2, 1) := by decide +kernel
theorem dX12_fillsLot_83 : decode cX12_fillsLot 83 = .ok (.iconst 3, 1) := by decide +kernel
theorem dX12_fillsLot_84 : decode cX12_fillsLot 84 = .ok (.invokevirtual 285, 3) := by decide +kernel
theorem dX12_fillsLot_87 : decode cX12_fillsLot 87 = .ok (.iastore, 1) := by decide +kernel
theorem dX12_fillsLot_88 : decode cX12_fillsLot 88 = .ok (.return_, 1) := by decide +kernel
theorem wd_116 : (Jvm.Cond.selects "SilentSaleModel" ({ cls := "SilentSaleModel", name := "fillsLot", desc := "(II)V" } : Jvm.MethodName) ({ cls := "SilentSaleModel", name := "fillsLot", desc := "(II)V" } : Jvm.MethodName)) ∈ tb_L := tb_in (i := 116) (by decide +kernel) (by decide +kernel)
theorem wd_1254 : (Jvm.Cond.fieldLink "SilentSaleModel" (251 : Nat) "SilentSaleModel" "rules" "I") ∈ tb_L := tb_in (i := 1254) (by decide +kernel) (by decide +kernel)
theorem wd_1281 : (Jvm.Cond.fieldLink "SilentSaleModel" (55 : Nat) "SilentSaleModel" "isFit" "[Z") ∈ tb_L := tb_in (i := 1281) (by decide +kernel) (by decide +kernel)
theorem wd_1820 : (Jvm.Cond.code ({ cls := "SilentSaleModel", name := "fillsFits", desc := "()V" } : Jvm.MethodName) prog_14_method_111_code (7 : Nat) (Option.none : Option Jvm.ClassFile.FieldType)) ∈ tb_L := tb_in (i := 1820) (by decide +kernel) (by decide +kernel)
theorem wd_1821 : (Jvm.Cond.methodLink "SilentSaleModel" (435 : Nat) ({ cls := "SilentSaleModel", name := "fillsLot", desc := "(II)V" } : Jvm.MethodName)) ∈ tb_L := tb_in (i := 1821) (by decide +kernel) (by decide +kernel)
theorem wd_1823 : (Jvm.Cond.instanceMethod ({ cls := "SilentSaleModel", name := "fillsLot", desc := "(II)V" } : Jvm.MethodName)) ∈ tb_L := tb_in (i := 1823) (by decide +kernel) (by decide +kernel)
theorem dX12_fillsFits_0 : decode cX12_fillsFits 0 = .ok (.aload_n 0, 1) := by decide +kernel
theorem dX12_fillsFits_1 : decode cX12_fillsFits 1 = .ok (.getfield 42, 3) := by decide +kernel
theorem dX12_fillsFits_4 : decode cX12_fillsFits 4 = .ok (.istore_n 1, 1) := by decide +kernel
theorem dX12_fillsFits_5 : decode cX12_fillsFits 5 = .ok (.aload_n 0, 1) := by decide +kernel
theorem dX12_fillsFits_6 : decode cX12_fillsFits 6 = .ok (.invokevirtual 388, 3) := by decide +kernel
theorem dX12_fillsFits_9 : decode cX12_fillsFits 9 = .ok (.iconst 0, 1) := by decide +kernel
theorem dX12_fillsFits_10 : decode cX12_fillsFits 10 = .ok (.istore_n 2, 1) := by decide +kernel
theorem dX12_fillsFits_11 : decode cX12_fillsFits 11 = .ok (.iload_n 2, 1) := by decide +kernel
theorem dX12_fillsFits_12 : decode cX12_fillsFits 12 = .ok (.aload_n 0, 1) := by decide +kernel
theorem dX12_fillsFits_13 : decode cX12_fillsFits 13 = .ok (.getfield 251, 3) := by decide +kernel
theorem dX12_fillsFits_16 : decode cX12_fillsFits 16 = .ok (.if_icmp .gt 151, 3) := by decide +kernel
theorem dX12_fillsFits_19 : decode cX12_fillsFits 19 = .ok (.aload_n 0, 1) := by decide +kernel
theorem dX12_fillsFits_20 : decode cX12_fillsFits 20 = .ok (.iload_n 2, 1) := by decide +kernel
theorem dX12_fillsFits_21 : decode cX12_fillsFits 21 = .ok (.iconst 1, 1) := by decide +kernel
theorem dX12_fillsFits_22 : decode cX12_fillsFits 22 = .ok (.isub, 1) := by decide +kernel
theorem dX12_fillsFits_23 : decode cX12_fillsFits 23 = .ok (.putfield 42, 3) := by decide +kernel
theorem dX12_fillsFits_26 : decode cX12_fillsFits 26 = .ok (.iconst 0, 1) := by decide +kernel
theorem dX12_fillsFits_27 : decode cX12_fillsFits 27 = .ok (.istore_n 3, 1) := by decide +kernel
theorem dX12_fillsFits_28 : decode cX12_fillsFits 28 = .ok (.iload_n 3, 1) := by decide +kernel
theorem dX12_fillsFits_29 : decode cX12_fillsFits 29 = .ok (.aload_n 0, 1) := by decide +kernel
theorem dX12_fillsFits_30 : decode cX12_fillsFits 30 = .ok (.getfield 39, 3) := by decide +kernel
theorem dX12_fillsFits_33 : decode cX12_fillsFits 33 = .ok (.iconst 2, 1) := by decide +kernel
theorem dX12_fillsFits_34 : decode cX12_fillsFits 34 = .ok (.iaload, 1) := by decide +kernel
theorem dX12_fillsFits_35 : decode cX12_fillsFits 35 = .ok (.if_icmp .ge 15, 3) := by decide +kernel
theorem dX12_fillsFits_38 : decode cX12_fillsFits 38 = .ok (.aload_n 0, 1) := by decide +kernel
theorem dX12_fillsFits_39 : decode cX12_fillsFits 39 = .ok (.iload_n 2, 1) := by decide +kernel
theorem dX12_fillsFits_40 : decode cX12_fillsFits 40 = .ok (.iload_n 3, 1) := by decide +kernel
theorem dX12_fillsFits_41 : decode cX12_fillsFits 41 = .ok (.invokevirtual 435, 3) := by decide +kernel
theorem dX12_fillsFits_44 : decode cX12_fillsFits 44 = .ok (.iinc 3 1, 3) := by decide +kernel
theorem dX12_fillsFits_47 : decode cX12_fillsFits 47 = .ok (.goto (-19), 3) := by decide +kernel
theorem dX12_fillsFits_50 : decode cX12_fillsFits 50 = .ok (.iconst 1, 1) := by decide +kernel
theorem dX12_fillsFits_51 : decode cX12_fillsFits 51 = .ok (.istore_n 3, 1) := by decide +kernel
theorem dX12_fillsFits_52 : decode cX12_fillsFits 52 = .ok (.iconst 0, 1) := by decide +kernel
theorem dX12_fillsFits_53 : decode cX12_fillsFits 53 = .ok (.istore 4, 2) := by decide +kernel
theorem dX12_fillsFits_55 : decode cX12_fillsFits 55 = .ok (.iload 4, 2) := by decide +kernel
theorem dX12_fillsFits_57 : decode cX12_fillsFits 57 = .ok (.iconst 3, 1) := by decide +kernel
theorem dX12_fillsFits_58 : decode cX12_fillsFits 58 = .ok (.aload_n 0, 1) := by decide +kernel
theorem dX12_fillsFits_59 : decode cX12_fillsFits 59 = .ok (.getfield 39, 3) := by decide +kernel
theorem dX12_fillsFits_62 : decode cX12_fillsFits 62 = .ok (.bipush 109, 2) := by decide +kernel
theorem dX12_fillsFits_64 : decode cX12_fillsFits 64 = .ok (.iaload, 1) := by decide +kernel
theorem dX12_fillsFits_65 : decode cX12_fillsFits 65 = .ok (.imul, 1) := by decide +kernel
theorem dX12_fillsFits_66 : decode cX12_fillsFits 66 = .ok (.if_icmp .ge 88, 3) := by decide +kernel
theorem dX12_fillsFits_69 : decode cX12_fillsFits 69 = .ok (.iconst 3, 1) := by decide +kernel
theorem dX12_fillsFits_70 : decode cX12_fillsFits 70 = .ok (.iload_n 2, 1) := by decide +kernel
theorem dX12_fillsFits_71 : decode cX12_fillsFits 71 = .ok (.imul, 1) := by decide +kernel
theorem dX12_fillsFits_72 : decode cX12_fillsFits 72 = .ok (.aload_n 0, 1) := by decide +kernel
theorem dX12_fillsFits_73 : decode cX12_fillsFits 73 = .ok (.getfield 39, 3) := by decide +kernel
theorem dX12_fillsFits_76 : decode cX12_fillsFits 76 = .ok (.bipush 79, 2) := by decide +kernel
theorem dX12_fillsFits_78 : decode cX12_fillsFits 78 = .ok (.iload 4, 2) := by decide +kernel
theorem dX12_fillsFits_80 : decode cX12_fillsFits 80 = .ok (.iadd, 1) := by decide +kernel
theorem dX12_fillsFits_81 : decode cX12_fillsFits 81 = .ok (.iaload, 1) := by decide +kernel
theorem dX12_fillsFits_82 : decode cX12_fillsFits 82 = .ok (.iadd, 1) := by decide +kernel
theorem dX12_fillsFits_83 : decode cX12_fillsFits 83 = .ok (.istore 5, 2) := by decide +kernel
theorem dX12_fillsFits_85 : decode cX12_fillsFits 85 = .ok (.aload_n 0, 1) := by decide +kernel
theorem dX12_fillsFits_86 : decode cX12_fillsFits 86 = .ok (.getfield 39, 3) := by decide +kernel
theorem dX12_fillsFits_89 : decode cX12_fillsFits 89 = .ok (.bipush 79, 2) := by decide +kernel
theorem dX12_fillsFits_91 : decode cX12_fillsFits 91 = .ok (.iload 4, 2) := by decide +kernel
theorem dX12_fillsFits_93 : decode cX12_fillsFits 93 = .ok (.iadd, 1) := by decide +kernel
theorem dX12_fillsFits_94 : decode cX12_fillsFits 94 = .ok (.iconst 1, 1) := by decide +kernel
theorem dX12_fillsFits_95 : decode cX12_fillsFits 95 = .ok (.iadd, 1) := by decide +kernel
theorem dX12_fillsFits_96 : decode cX12_fillsFits 96 = .ok (.iaload, 1) := by decide +kernel
theorem dX12_fillsFits_97 : decode cX12_fillsFits 97 = .ok (.istore 6, 2) := by decide +kernel
theorem dX12_fillsFits_99 : decode cX12_fillsFits 99 = .ok (.iload_n 3, 1) := by decide +kernel
theorem dX12_fillsFits_100 : decode cX12_fillsFits 100 = .ok (.ifCond .eq 46, 3) := by decide +kernel
theorem dX12_fillsFits_103 : decode cX12_fillsFits 103 = .ok (.aload_n 0, 1) := by decide +kernel
theorem dX12_fillsFits_104 : decode cX12_fillsFits 104 = .ok (.getfield 59, 3) := by decide +kernel
theorem dX12_fillsFits_107 : decode cX12_fillsFits 107 = .ok (.iload 5, 2) := by decide +kernel
theorem dX12_fillsFits_109 : decode cX12_fillsFits 109 = .ok (.iaload, 1) := by decide +kernel
theorem dX12_fillsFits_110 : decode cX12_fillsFits 110 = .ok (.iload 6, 2) := by decide +kernel
theorem dX12_fillsFits_112 : decode cX12_fillsFits 112 = .ok (.if_icmp .ne 34, 3) := by decide +kernel
theorem dX12_fillsFits_115 : decode cX12_fillsFits 115 = .ok (.iload 6, 2) := by decide +kernel
theorem dX12_fillsFits_117 : decode cX12_fillsFits 117 = .ok (.ifCond .lt 25, 3) := by decide +kernel
theorem dX12_fillsFits_120 : decode cX12_fillsFits 120 = .ok (.aload_n 0, 1) := by decide +kernel
theorem dX12_fillsFits_121 : decode cX12_fillsFits 121 = .ok (.getfield 62, 3) := by decide +kernel
theorem dX12_fillsFits_124 : decode cX12_fillsFits 124 = .ok (.iload 5, 2) := by decide +kernel
theorem dX12_fillsFits_126 : decode cX12_fillsFits 126 = .ok (.iaload, 1) := by decide +kernel
theorem dX12_fillsFits_127 : decode cX12_fillsFits 127 = .ok (.aload_n 0, 1) := by decide +kernel
theorem dX12_fillsFits_128 : decode cX12_fillsFits 128 = .ok (.getfield 39, 3) := by decide +kernel
theorem dX12_fillsFits_131 : decode cX12_fillsFits 131 = .ok (.bipush 79, 2) := by decide +kernel
theorem dX12_fillsFits_133 : decode cX12_fillsFits 133 = .ok (.iload 4, 2) := by decide +kernel
theorem dX12_fillsFits_135 : decode cX12_fillsFits 135 = .ok (.iadd, 1) := by decide +kernel
theorem dX12_fillsFits_136 : decode cX12_fillsFits 136 = .ok (.iconst 2, 1) := by decide +kernel
theorem dX12_fillsFits_137 : decode cX12_fillsFits 137 = .ok (.iadd, 1) := by decide +kernel
theorem dX12_fillsFits_138 : decode cX12_fillsFits 138 = .ok (.iaload, 1) := by decide +kernel
theorem dX12_fillsFits_139 : decode cX12_fillsFits 139 = .ok (.if_icmp .ne 7, 3) := by decide +kernel
theorem dX12_fillsFits_142 : decode cX12_fillsFits 142 = .ok (.iconst 1, 1) := by decide +kernel
theorem dX12_fillsFits_143 : decode cX12_fillsFits 143 = .ok (.goto 4, 3) := by decide +kernel
theorem dX12_fillsFits_146 : decode cX12_fillsFits 146 = .ok (.iconst 0, 1) := by decide +kernel
theorem dX12_fillsFits_147 : decode cX12_fillsFits 147 = .ok (.istore_n 3, 1) := by decide +kernel
theorem dX12_fillsFits_148 : decode cX12_fillsFits 148 = .ok (.iinc 4 3, 3) := by decide +kernel
theorem dX12_fillsFits_151 : decode cX12_fillsFits 151 = .ok (.goto (-96), 3) := by decide +kernel
theorem dX12_fillsFits_154 : decode cX12_fillsFits 154 = .ok (.aload_n 0, 1) := by decide +kernel
theorem dX12_fillsFits_155 : decode cX12_fillsFits 155 = .ok (.getfield 55, 3) := by decide +kernel
theorem dX12_fillsFits_158 : decode cX12_fillsFits 158 = .ok (.iload_n 2, 1) := by decide +kernel
theorem dX12_fillsFits_159 : decode cX12_fillsFits 159 = .ok (.iload_n 3, 1) := by decide +kernel
theorem dX12_fillsFits_160 : decode cX12_fillsFits 160 = .ok (.bastore, 1) := by decide +kernel
theorem dX12_fillsFits_161 : decode cX12_fillsFits 161 = .ok (.iinc 2 1, 3) := by decide +kernel
theorem dX12_fillsFits_164 : decode cX12_fillsFits 164 = .ok (.goto (-153), 3) := by decide +kernel
theorem dX12_fillsFits_167 : decode cX12_fillsFits 167 = .ok (.aload_n 0, 1) := by decide +kernel
theorem dX12_fillsFits_168 : decode cX12_fillsFits 168 = .ok (.iload_n 1, 1) := by decide +kernel
theorem dX12_fillsFits_169 : decode cX12_fillsFits 169 = .ok (.putfield 42, 3) := by decide +kernel
theorem dX12_fillsFits_172 : decode cX12_fillsFits 172 = .ok (.aload_n 0, 1) := by decide +kernel
theorem dX12_fillsFits_173 : decode cX12_fillsFits 173 = .ok (.invokevirtual 391, 3) := by decide +kernel
theorem dX12_fillsFits_176 : decode cX12_fillsFits 176 = .ok (.return_, 1) := by decide +kernel
set_option maxHeartbeats 4000000 in
set_option maxRecDepth 100000 in
theorem d_m_log (l : Launch) (G : gg_T) (Γ : Nat → Nat) (sz : Nat) (wt : va_W) (hT : tk_ty G Γ wt) (b : Int32) (w : Int32) (z : Int32) (m0 : Nat) (am : Nat → Nat) (v1 : Int32) (v2 : Int32) (v8 : Int32) (v9 : Int32) (v10 : Int32) (v11 : Int32) (v12 : Int32) (v13 : Int32) (v14 : Int32) (v16 : Int32) (v18 : Int32) (v21 : Int32) (v22 : Int32) (v23 : Int32) (v24 : Int32) (v25 : Int32) (v27 : Int32) (v32 : Int64) (sd : Nat → Int32) (k17 : Γ (am 17) = 32) (k19 : Γ (am 19) = 30) (k30 : Γ (am 30) = 28) (k31 : Γ (am 31) = 28) (lo_v1 : 0 ≤ v1.toInt) (hi_v1 : v1.toInt ≤ 400) (lo_v2 : 0 ≤ v2.toInt) (hi_v2 : v2.toInt ≤ 6) (lo_v8 : 0 ≤ v8.toInt) (hi_v8 : v8.toInt ≤ 400) (lo_v11 : 0 ≤ v11.toInt) (hi_v11 : v11.toInt ≤ 6) (lo_v12 : 0 ≤ v12.toInt) (hi_v12 : v12.toInt ≤ 60) (lo_v16 : 0 ≤ v16.toInt) (hi_v16 : v16.toInt ≤ 400) (lo_v21 : -1 ≤ v21.toInt) (hi_v21 : v21.toInt ≤ 5) (lo_v23 : 0 ≤ v23.toInt) (hi_v23 : v23.toInt ≤ 31) (lo_v27 : 0 ≤ v27.toInt) (hi_v27 : v27.toInt ≤ 20) (xfr : v21.toInt < v2.toInt) (hSD : SD sd) : Met l yX12_log (ts_L yX12_log cX12_log 5 (some .int)) ({ frames := 1, cells := 0, slots := 0, locals := 25 }) (gc_P G ([((am 20), .inl (G.2.2 0, 110, .inl sd)), (m0, .inr (12, [.ref (am 0), .int v1, .int v2, .ref (am 3), .ref (am 4), .ref (am 5), .ref (am 6), .ref (am 7), .int v8, .int v9, .int v10, .int v11, .int v12, .int v13, .int v14, .ref (am 15), .int v16, .ref (am 17), .int v18, .ref (am 19), .ref (am 20), .int v21, .int v22, .int v23, .int v24, .int v25, .ref (am 26), .int v27, .ref (am 28), .ref (am 29), .ref (am 30), .ref (am 31), .long v32, .ref (am 33), .ref (am 34), .ref (am 35), .ref (am 36)]))] ++ wt) sz [.ref m0, .int b, .int w, .int z]) (gc_I G (va_A ([((am 20), .inl (G.2.2 0, 110, .inl sd)), (m0, .inr (12, [.ref (am 0), .int v1, .int v2, .ref (am 3), .ref (am 4), .ref (am 5), .ref (am 6), .ref (am 7), .int v8, .int v9, .int v10, .int v11, .int v12, .int v13, .int v14, .ref (am 15), .int v16, .ref (am 17), .int v18, .ref (am 19), .ref (am 20), .int v21, .int v22, .int v23, .int v24, .int v25, .ref (am 26), .int v27, .ref (am 28), .ref (am 29), .ref (am 30), .ref (am 31), .long v32, .ref (am 33), .ref (am 34), .ref (am 35), .ref (am 36)]))] ++ wt) sz) (fun r (u : (Nat → Int32) × va_W) => match u with | (sd1, wt1) => tk_ty G Γ wt1 ∧ tk_kp [] wt wt1 ∧ (SD sd1) ∧ (KL sd sd1)) (fun (u : (Nat → Int32) × va_W) => match u with | (sd1, wt1) => [((am 20), .inl (G.2.2 0, 110, .inl sd1)), (m0, .inr (12, [.ref (am 0), .int v1, .int v2, .ref (am 3), .ref (am 4), .ref (am 5), .ref (am 6), .ref (am 7), .int v8, .int v9, .int v10, .int v11, .int v12, .int v13, .int v14, .ref (am 15), .int v16, .ref (am 17), .int v18, .ref (am 19), .ref (am 20), .int v21, .int v22, .int v23, .int v24, .int v25, .ref (am 26), .int v27, .ref (am 28), .ref (am 29), .ref (am 30), .ref (am 31), .long v32, .ref (am 33), .ref (am 34), .ref (am 35), .ref (am 36)]))] ++ wt1)) 0 0 (va_A ([((am 20), .inl (G.2.2 0, 110, .inl sd)), (m0, .inr (12, [.ref (am 0), .int v1, .int v2, .ref (am 3), .ref (am 4), .ref (am 5), .ref (am 6), .ref (am 7), .int v8, .int v9, .int v10, .int v11, .int v12, .int v13, .int v14, .ref (am 15), .int v16, .ref (am 17), .int v18, .ref (am 19), .ref (am 20), .int v21, .int v22, .int v23, .int v24, .int v25, .ref (am 26), .int v27, .ref (am 28), .ref (am 29), .ref (am 30), .ref (am 31), .long v32, .ref (am 33), .ref (am 34), .ref (am 35), .ref (am 36)]))] ++ wt) sz) := by
  refine Met.ofW (cc := cX12_log) (maxL := 5) (ret := (some .int)) (by decide) rfl ?_
  intro p e s m args below meth c s₁ B hml hv
  obtain ⟨rfl, hsz, hP, hK, hD0⟩ := hv
  have hx := B.exec
  have hb := B.bytes
  have hr := B.returns
  have ht := ts_ht (atoms_spec (ws := ts_L yX12_log cX12_log 5 (some .int)) B.pre)
  have hown : s.vm.findClass RX12 = some m.cls := findClass_of_methodNamed B.named
  have hlocks := B.notSynchronized
  subst hsz
  have hD := hD0.self (sz := s.heap.size)
  generalize hAe : va_A ([((am 20), .inl (G.2.2 0, 110, .inl sd)), (m0, .inr (12, [.ref (am 0), .int v1, .int v2, .ref (am 3), .ref (am 4), .ref (am 5), .ref (am 6), .ref (am 7), .int v8, .int v9, .int v10, .int v11, .int v12, .int v13, .int v14, .ref (am 15), .int v16, .ref (am 17), .int v18, .ref (am 19), .ref (am 20), .int v21, .int v22, .int v23, .int v24, .int v25, .ref (am 26), .int v27, .ref (am 28), .ref (am 29), .ref (am 30), .ref (am 31), .long v32, .ref (am 33), .ref (am 34), .ref (am 35), .ref (am 36)]))] ++ wt) s.heap.size = A at hD ⊢
  have hA : ∀ q : Nat, s.heap.size ≤ q → A q := fun q h => by rw [← hAe]; exact Or.inr h
  clear hAe hD0
  have hS : va_S A s.heap s.heap [] := va_S.rf
  obtain ⟨w0, hw0⟩ : ∃ z, z = wt := ⟨_, rfl⟩
  have hW : tk_kp [] w0 wt := by rw [hw0]; exact tk_kp.rf
  rw [← hw0]
  clear hw0
  have hP : va_P (gg_D G) classes ([((am 20), .inl (G.2.2 0, 110, .inl sd)), (m0, .inr (12, [.ref (am 0), .int v1, .int v2, .ref (am 3), .ref (am 4), .ref (am 5), .ref (am 6), .ref (am 7), .int v8, .int v9, .int v10, .int v11, .int v12, .int v13, .int v14, .ref (am 15), .int v16, .ref (am 17), .int v18, .ref (am 19), .ref (am 20), .int v21, .int v22, .int v23, .int v24, .int v25, .ref (am 26), .int v27, .ref (am 28), .ref (am 29), .ref (am 30), .ref (am 31), .long v32, .ref (am 33), .ref (am 34), .ref (am 35), .ref (am 36)]))] ++ wt) s.heap := hP
  have hD : va_D A ([((am 20), .inl (G.2.2 0, 110, .inl sd)), (m0, .inr (12, [.ref (am 0), .int v1, .int v2, .ref (am 3), .ref (am 4), .ref (am 5), .ref (am 6), .ref (am 7), .int v8, .int v9, .int v10, .int v11, .int v12, .int v13, .int v14, .ref (am 15), .int v16, .ref (am 17), .int v18, .ref (am 19), .ref (am 20), .int v21, .int v22, .int v23, .int v24, .int v25, .ref (am 26), .int v27, .ref (am 28), .ref (am 29), .ref (am 30), .ref (am 31), .long v32, .ref (am 33), .ref (am 34), .ref (am 35), .ref (am 36)]))] ++ wt) := hD
  have hl := lv_entry ([.ref m0, .int b, .int w, .int z]) (n := 5) (Nat.le_of_ble_eq_true rfl)
  rw [lg_entry_eq]
  generalize (lg_sl ([.ref m0, .int b, .int w, .int z]) ++ List.replicate (5 - (lg_sl ([.ref m0, .int b, .int w, .int z])).length) Slot.unset).toArray = ls at hl ⊢
  have hl : lv_has ls 5 [(0, .ref m0), (1, .int b), (2, .int w), (3, .int z)] := hl
  have hKH : KH sd sd := KH.rf
  have hKL : KL sd sd := KL.rf
  have h109 : (sd 109).toInt = (sd 109).toInt := rfl
  have L0 : (0 : Int64).toInt = 0 := by decide +kernel
  have L999 : (999 : Int64).toInt = 999 := by decide +kernel
  have lm2 : ((-2) : Int32).toInt = -2 := by decide +kernel
  have lm1 : ((-1) : Int32).toInt = -1 := by decide +kernel
  have l0 : (0 : Int32).toInt = 0 := by decide +kernel
  have l1 : (1 : Int32).toInt = 1 := by decide +kernel
  have l2 : (2 : Int32).toInt = 2 := by decide +kernel
  have l3 : (3 : Int32).toInt = 3 := by decide +kernel
  have l10 : (10 : Int32).toInt = 10 := by decide +kernel
  have l79 : (79 : Int32).toInt = 79 := by decide +kernel
  have l109 : (109 : Int32).toInt = 109 := by decide +kernel
  refine lv_iload_n hx hb dX12_log_0 rfl (lv_at hl 1 rfl) ?_
  refine lv_iconst (v := (-1)) hx hb dX12_log_1 (by decide +kernel) ?_
  refine lv_icmp_ne (tgt := 15) hx hb dX12_log_2 (by decide) (fun c_1 => ?_) (fun c_1 => ?_)
  · rw [← Int32.toInt_inj] at c_1
    refine lv_aload_n hx hb dX12_log_15 rfl (lv_at hl 0 rfl) ?_
    refine lv_iload_n hx hb dX12_log_16 rfl (lv_at hl 1 rfl) ?_
    have hP : va_P (gg_D G) classes ([] ++ ([((am 20), .inl (G.2.2 0, 110, .inl sd)), (m0, .inr (12, [.ref (am 0), .int v1, .int v2, .ref (am 3), .ref (am 4), .ref (am 5), .ref (am 6), .ref (am 7), .int v8, .int v9, .int v10, .int v11, .int v12, .int v13, .int v14, .ref (am 15), .int v16, .ref (am 17), .int v18, .ref (am 19), .ref (am 20), .int v21, .int v22, .int v23, .int v24, .int v25, .ref (am 26), .int v27, .ref (am 28), .ref (am 29), .ref (am 30), .ref (am 31), .long v32, .ref (am 33), .ref (am 34), .ref (am 35), .ref (am 36)]))] ++ wt)) s.heap := hP
    have hD : va_D A ([] ++ ([((am 20), .inl (G.2.2 0, 110, .inl sd)), (m0, .inr (12, [.ref (am 0), .int v1, .int v2, .ref (am 3), .ref (am 4), .ref (am 5), .ref (am 6), .ref (am 7), .int v8, .int v9, .int v10, .int v11, .int v12, .int v13, .int v14, .ref (am 15), .int v16, .ref (am 17), .int v18, .ref (am 19), .ref (am 20), .int v21, .int v22, .int v23, .int v24, .int v25, .ref (am 26), .int v27, .ref (am 28), .ref (am 29), .ref (am 30), .ref (am 31), .long v32, .ref (am 33), .ref (am 34), .ref (am 35), .ref (am 36)]))] ++ wt)) := hD
    refine gt_callI (wr := []) (va_runV (As := [.int b]) (rest := []) ⟨hx, hb, hml, hown, ht⟩ (d_m_isLot l G Γ s.heap.size wt hT b m0 am v1 v2 v8 v9 v10 v11 v12 v13 v14 v16 v18 v21 v22 v23 v24 v25 v27 v32 sd (by first | assumption | exact hSD.1 | exact hSD.w _ | (rw [hKH 2 (by omega)]; exact hKP) | omega) (by first | assumption | exact hSD.1 | exact hSD.w _ | (rw [hKH 2 (by omega)]; exact hKP) | omega) (by first | assumption | exact hSD.1 | exact hSD.w _ | (rw [hKH 2 (by omega)]; exact hKP) | omega) (by first | assumption | exact hSD.1 | exact hSD.w _ | (rw [hKH 2 (by omega)]; exact hKP) | omega) (by first | assumption | exact hSD.1 | exact hSD.w _ | (rw [hKH 2 (by omega)]; exact hKP) | omega) (by first | assumption | exact hSD.1 | exact hSD.w _ | (rw [hKH 2 (by omega)]; exact hKP) | omega) (by first | assumption | exact hSD.1 | exact hSD.w _ | (rw [hKH 2 (by omega)]; exact hKP) | omega) (by first | assumption | exact hSD.1 | exact hSD.w _ | (rw [hKH 2 (by omega)]; exact hKP) | omega) (by first | assumption | exact hSD.1 | exact hSD.w _ | (rw [hKH 2 (by omega)]; exact hKP) | omega) (by first | assumption | exact hSD.1 | exact hSD.w _ | (rw [hKH 2 (by omega)]; exact hKP) | omega) (by first | assumption | exact hSD.1 | exact hSD.w _ | (rw [hKH 2 (by omega)]; exact hKP) | omega) (by first | assumption | exact hSD.1 | exact hSD.w _ | (rw [hKH 2 (by omega)]; exact hKP) | omega) (by first | assumption | exact hSD.1 | exact hSD.w _ | (rw [hKH 2 (by omega)]; exact hKP) | omega) (by first | assumption | exact hSD.1 | exact hSD.w _ | (rw [hKH 2 (by omega)]; exact hKP) | omega) (by first | assumption | exact hSD.1 | exact hSD.w _ | (rw [hKH 2 (by omega)]; exact hKP) | omega) (by first | assumption | exact hSD.1 | exact hSD.w _ | (rw [hKH 2 (by omega)]; exact hKP) | omega) (by first | assumption | exact hSD.1 | exact hSD.w _ | (rw [hKH 2 (by omega)]; exact hKP) | omega) (by first | assumption | exact hSD.1 | exact hSD.w _ | (rw [hKH 2 (by omega)]; exact hKP) | omega) (by first | assumption | exact hSD.1 | exact hSD.w _ | (rw [hKH 2 (by omega)]; exact hKP) | omega) (by first | assumption | exact hSD.1 | exact hSD.w _ | (rw [hKH 2 (by omega)]; exact hKP) | omega) (by first | assumption | exact hSD.1 | exact hSD.w _ | (rw [hKH 2 (by omega)]; exact hKP) | omega) (by first | assumption | exact hSD.1 | exact hSD.w _ | (rw [hKH 2 (by omega)]; exact hKP) | omega) (by first | assumption | exact hSD.1 | exact hSD.w _ | (rw [hKH 2 (by omega)]; exact hKP) | omega) (by first | assumption | exact hSD.1 | exact hSD.w _ | (rw [hKH 2 (by omega)]; exact hKP) | omega)) (cwV 1 ht (ts_gV wd_1582 wd_1584 wd_79 wd_134 wd_1585) rfl rfl rfl (by decide +kernel) ⟨Nat.le_of_ble_eq_true rfl, Nat.le_of_ble_eq_true rfl⟩) (gc_preV (ci := 12) (q0 := 1) hK (tw_right hP) (tw_rightD hD) rfl rfl) rfl rfl hl.1 rfl (lv_room (Nat.le_of_ble_eq_true rfl)) dX12_log_17 ⟨Nat.le_of_ble_eq_true rfl, Nat.le_of_ble_eq_true rfl⟩) hP hD hS hA (fun r_2 wt H locs hw hP hD hS => ?_)
    obtain ⟨hT, hkp, lo_r_2, hi_r_2, im_r_2⟩ := hw
    have hW := hW.call (show ∀ x ∈ [], x ∈ [] by decide) hkp
    have hP : va_P (gg_D G) classes ([((am 20), .inl (G.2.2 0, 110, .inl sd)), (m0, .inr (12, [.ref (am 0), .int v1, .int v2, .ref (am 3), .ref (am 4), .ref (am 5), .ref (am 6), .ref (am 7), .int v8, .int v9, .int v10, .int v11, .int v12, .int v13, .int v14, .ref (am 15), .int v16, .ref (am 17), .int v18, .ref (am 19), .ref (am 20), .int v21, .int v22, .int v23, .int v24, .int v25, .ref (am 26), .int v27, .ref (am 28), .ref (am 29), .ref (am 30), .ref (am 31), .long v32, .ref (am 33), .ref (am 34), .ref (am 35), .ref (am 36)]))] ++ wt) H := hP
    have hD : va_D A ([((am 20), .inl (G.2.2 0, 110, .inl sd)), (m0, .inr (12, [.ref (am 0), .int v1, .int v2, .ref (am 3), .ref (am 4), .ref (am 5), .ref (am 6), .ref (am 7), .int v8, .int v9, .int v10, .int v11, .int v12, .int v13, .int v14, .ref (am 15), .int v16, .ref (am 17), .int v18, .ref (am 19), .ref (am 20), .int v21, .int v22, .int v23, .int v24, .int v25, .ref (am 26), .int v27, .ref (am 28), .ref (am 29), .ref (am 30), .ref (am 31), .long v32, .ref (am 33), .ref (am 34), .ref (am 35), .ref (am 36)]))] ++ wt) := hD
    refine lv_if_eq (tgt := 60) hx hb dX12_log_20 (by decide) (fun c_3 => ?_) (fun c_3 => ?_)
    · rw [← Int32.toInt_inj] at c_3
      refine lv_bipush (v := (-2)) hx hb dX12_log_60 (by decide +kernel) ?_
      have hP9 : va_P (gg_D G) classes ([((am 20), .inl (G.2.2 0, 110, .inl sd)), (m0, .inr (12, [.ref (am 0), .int v1, .int v2, .ref (am 3), .ref (am 4), .ref (am 5), .ref (am 6), .ref (am 7), .int v8, .int v9, .int v10, .int v11, .int v12, .int v13, .int v14, .ref (am 15), .int v16, .ref (am 17), .int v18, .ref (am 19), .ref (am 20), .int v21, .int v22, .int v23, .int v24, .int v25, .ref (am 26), .int v27, .ref (am 28), .ref (am 29), .ref (am 30), .ref (am 31), .long v32, .ref (am 33), .ref (am 34), .ref (am 35), .ref (am 36)]))] ++ wt) _ := hP
      have hD9 : va_D A ([((am 20), .inl (G.2.2 0, 110, .inl sd)), (m0, .inr (12, [.ref (am 0), .int v1, .int v2, .ref (am 3), .ref (am 4), .ref (am 5), .ref (am 6), .ref (am 7), .int v8, .int v9, .int v10, .int v11, .int v12, .int v13, .int v14, .ref (am 15), .int v16, .ref (am 17), .int v18, .ref (am 19), .ref (am 20), .int v21, .int v22, .int v23, .int v24, .int v25, .ref (am 26), .int v27, .ref (am 28), .ref (am 29), .ref (am 30), .ref (am 31), .long v32, .ref (am 33), .ref (am 34), .ref (am 35), .ref (am 36)]))] ++ wt) := hD
      exact W.iret (v := (-2)) hx hb hr (gq_endI (sd, wt) ⟨hT, hW, hSD, hKL⟩ hP9 hD9 hS) hS.2.2 dX12_log_62
    · have ic_3 := im_r_2 c_3
      rw [← Int32.toInt_inj] at c_3
      refine lv_iload_n hx hb dX12_log_23 rfl (lv_at hl 2 rfl) ?_
      refine lv_iconst (v := (-1)) hx hb dX12_log_24 (by decide +kernel) ?_
      refine lv_icmp_eq (tgt := 36) hx hb dX12_log_25 (by decide) (fun c_4 => ?_) (fun c_4 => ?_)
      · rw [← Int32.toInt_inj] at c_4
        refine lv_iload_n hx hb dX12_log_36 rfl (lv_at hl 3 rfl) ?_
        refine lv_i2l hx hb dX12_log_37 rfl ?_
        refine lv_topl (fun m_5 em_5 => ?_)
        have fm_5 := il_i2l em_5
        refine lv_lconst (v := 0) hx hb dX12_log_38 (by decide +kernel) ?_
        refine lv_ldc2 hx hb hown (ht _ wd_1812) dX12_log_39 ?_
        refine gt_callI (wr := [((am 20), .inl (G.2.2 0, 110, .inl sd)), (m0, .inr (12, [.ref (am 0), .int v1, .int v2, .ref (am 3), .ref (am 4), .ref (am 5), .ref (am 6), .ref (am 7), .int v8, .int v9, .int v10, .int v11, .int v12, .int v13, .int v14, .ref (am 15), .int v16, .ref (am 17), .int v18, .ref (am 19), .ref (am 20), .int v21, .int v22, .int v23, .int v24, .int v25, .ref (am 26), .int v27, .ref (am 28), .ref (am 29), .ref (am 30), .ref (am 31), .long v32, .ref (am 33), .ref (am 34), .ref (am 35), .ref (am 36)]))]) (va_runS (As := [.long m_5, .long 0, .long 999]) (rest := []) ⟨hx, hb, hml, hown, ht⟩ (d_m_in l G Γ H.size wt hT m_5 0 999) (va_cwS 3 ht (ts_gS wd_1439 wd_1440 wd_134 wd_1441) rfl rfl rfl (by decide +kernel) ⟨Nat.le_of_ble_eq_true rfl, Nat.le_of_ble_eq_true rfl⟩) (gc_preS hK (tw_right hP) (tw_rightD hD)) rfl rfl hl.1 rfl (lv_room (Nat.le_of_ble_eq_true rfl)) dX12_log_42 ⟨Nat.le_of_ble_eq_true rfl, Nat.le_of_ble_eq_true rfl⟩) hP hD hS hA (fun r_6 wt H locs hw hP hD hS => ?_)
        obtain ⟨hT, hkp, lo_r_6, hi_r_6, im_r_6⟩ := hw
        have hW := hW.call (show ∀ x ∈ [], x ∈ [] by decide) hkp
        have hP : va_P (gg_D G) classes ([((am 20), .inl (G.2.2 0, 110, .inl sd)), (m0, .inr (12, [.ref (am 0), .int v1, .int v2, .ref (am 3), .ref (am 4), .ref (am 5), .ref (am 6), .ref (am 7), .int v8, .int v9, .int v10, .int v11, .int v12, .int v13, .int v14, .ref (am 15), .int v16, .ref (am 17), .int v18, .ref (am 19), .ref (am 20), .int v21, .int v22, .int v23, .int v24, .int v25, .ref (am 26), .int v27, .ref (am 28), .ref (am 29), .ref (am 30), .ref (am 31), .long v32, .ref (am 33), .ref (am 34), .ref (am 35), .ref (am 36)]))] ++ wt) H := hP
        have hD : va_D A ([((am 20), .inl (G.2.2 0, 110, .inl sd)), (m0, .inr (12, [.ref (am 0), .int v1, .int v2, .ref (am 3), .ref (am 4), .ref (am 5), .ref (am 6), .ref (am 7), .int v8, .int v9, .int v10, .int v11, .int v12, .int v13, .int v14, .ref (am 15), .int v16, .ref (am 17), .int v18, .ref (am 19), .ref (am 20), .int v21, .int v22, .int v23, .int v24, .int v25, .ref (am 26), .int v27, .ref (am 28), .ref (am 29), .ref (am 30), .ref (am 31), .long v32, .ref (am 33), .ref (am 34), .ref (am 35), .ref (am 36)]))] ++ wt) := hD
        refine lv_if_eq (tgt := 60) hx hb dX12_log_45 (by decide) (fun c_7 => ?_) (fun c_7 => ?_)
        · rw [← Int32.toInt_inj] at c_7
          refine lv_bipush (v := (-2)) hx hb dX12_log_60 (by decide +kernel) ?_
          have hP9 : va_P (gg_D G) classes ([((am 20), .inl (G.2.2 0, 110, .inl sd)), (m0, .inr (12, [.ref (am 0), .int v1, .int v2, .ref (am 3), .ref (am 4), .ref (am 5), .ref (am 6), .ref (am 7), .int v8, .int v9, .int v10, .int v11, .int v12, .int v13, .int v14, .ref (am 15), .int v16, .ref (am 17), .int v18, .ref (am 19), .ref (am 20), .int v21, .int v22, .int v23, .int v24, .int v25, .ref (am 26), .int v27, .ref (am 28), .ref (am 29), .ref (am 30), .ref (am 31), .long v32, .ref (am 33), .ref (am 34), .ref (am 35), .ref (am 36)]))] ++ wt) _ := hP
          have hD9 : va_D A ([((am 20), .inl (G.2.2 0, 110, .inl sd)), (m0, .inr (12, [.ref (am 0), .int v1, .int v2, .ref (am 3), .ref (am 4), .ref (am 5), .ref (am 6), .ref (am 7), .int v8, .int v9, .int v10, .int v11, .int v12, .int v13, .int v14, .ref (am 15), .int v16, .ref (am 17), .int v18, .ref (am 19), .ref (am 20), .int v21, .int v22, .int v23, .int v24, .int v25, .ref (am 26), .int v27, .ref (am 28), .ref (am 29), .ref (am 30), .ref (am 31), .long v32, .ref (am 33), .ref (am 34), .ref (am 35), .ref (am 36)]))] ++ wt) := hD
          exact W.iret (v := (-2)) hx hb hr (gq_endI (sd, wt) ⟨hT, hW, hSD, hKL⟩ hP9 hD9 hS) hS.2.2 dX12_log_62
        · have ic_7 := im_r_6 c_7
          rw [← Int32.toInt_inj] at c_7
          refine lv_aload_n hx hb dX12_log_48 rfl (lv_at hl 0 rfl) ?_
          refine gq_get hx hb ht hown hK hP i_X12 1 rfl rfl 20 (by decide) wd_1272 rfl rfl dX12_log_49 ?_
          refine lv_bipush (v := 109) hx hb dX12_log_52 (by decide +kernel) ?_
          obtain ⟨n_8, en_8⟩ : ∃ zz_ : Int32, sd (Int32.toNatClampNeg 109) = zz_ := ⟨_, rfl⟩
          refine gq_iald hx hb hK hP 0 rfl n_8 (ia_in (n := 110) (by omega) (by omega)) en_8 dX12_log_54 ?_
          have En_8 : sd (109) = n_8 := by rw [← show Int32.toNatClampNeg 109 = 109 from ix_n (by omega)]; exact en_8
          have hn_8 : (sd (109)).toInt = n_8.toInt := by rw [En_8]
          have gn_8 := hSD.r109
          refine lv_bipush (v := 10) hx hb dX12_log_55 (by decide +kernel) ?_
          refine lv_icmp_ne (tgt := 63) hx hb dX12_log_57 (by decide) (fun c_9 => ?_) (fun c_9 => ?_)
          · rw [← Int32.toInt_inj] at c_9
            refine lv_bipush (v := 79) hx hb dX12_log_63 (by decide +kernel) ?_
            refine lv_iconst (v := 3) hx hb dX12_log_65 (by decide +kernel) ?_
            refine lv_aload_n hx hb dX12_log_66 rfl (lv_at hl 0 rfl) ?_
            refine gq_get hx hb ht hown hK hP i_X12 1 rfl rfl 20 (by decide) wd_1272 rfl rfl dX12_log_67 ?_
            refine lv_bipush (v := 109) hx hb dX12_log_70 (by decide +kernel) ?_
            refine gq_iald hx hb hK hP 0 rfl n_8 (ia_in (n := 110) (by omega) (by omega)) en_8 dX12_log_72 ?_
            have En_8 : sd (109) = n_8 := by rw [← show Int32.toNatClampNeg 109 = 109 from ix_n (by omega)]; exact en_8
            have hn_8 : (sd (109)).toInt = n_8.toInt := by rw [En_8]
            have gn_8 := hSD.r109
            obtain ⟨t_10, et_10⟩ : ∃ zz_ : Int32, 3 * n_8 = zz_ := ⟨_, rfl⟩
            refine gq_imul hx hb t_10 et_10 dX12_log_73 ?_
            have ft_10 := ia_mul et_10 (by rw [l3]; omega) (by rw [l3]; omega)
            rw [l3] at ft_10
            obtain ⟨t_11, et_11⟩ : ∃ zz_ : Int32, 79 + t_10 = zz_ := ⟨_, rfl⟩
            refine gq_iadd hx hb t_11 et_11 dX12_log_74 ?_
            have ft_11 := ia_add et_11 (by omega) (by omega)
            refine lv_istore (lv' := [(4, .int t_11), (0, .ref m0), (1, .int b), (2, .int w), (3, .int z)]) hx hb dX12_log_75 hl (by decide) rfl (fun ls hl => ?_)
            refine lv_aload_n hx hb dX12_log_77 rfl (lv_at hl 1 rfl) ?_
            refine gq_get hx hb ht hown hK hP i_X12 1 rfl rfl 20 (by decide) wd_1272 rfl rfl dX12_log_78 ?_
            refine lv_iload hx hb dX12_log_81 (lv_at hl 0 rfl) ?_
            refine lv_iload_n hx hb dX12_log_83 rfl (lv_at hl 2 rfl) ?_
            obtain ⟨f_12, ef_12⟩ : ∃ zz_ : Nat → Int32, upd sd (Int32.toNatClampNeg t_11) b = zz_ := ⟨_, rfl⟩
            refine gq_iast (ws' := [((am 20), .inl (G.2.2 0, 110, .inl f_12)), (m0, .inr (12, [.ref (am 0), .int v1, .int v2, .ref (am 3), .ref (am 4), .ref (am 5), .ref (am 6), .ref (am 7), .int v8, .int v9, .int v10, .int v11, .int v12, .int v13, .int v14, .ref (am 15), .int v16, .ref (am 17), .int v18, .ref (am 19), .ref (am 20), .int v21, .int v22, .int v23, .int v24, .int v25, .ref (am 26), .int v27, .ref (am 28), .ref (am 29), .ref (am 30), .ref (am 31), .long v32, .ref (am 33), .ref (am 34), .ref (am 35), .ref (am 36)]))] ++ wt) hx hb hK hP hD hS 0 rfl f_12 (ia_in (n := 110) (by omega) (by omega)) ef_12 rfl dX12_log_84 (fun H locs hP hD hS => ?_)
            rw [show Int32.toNatClampNeg t_11 = t_11.toInt.toNat from ix_n (by omega)] at ef_12
            have hSD := hSD.log ef_12 (by omega) (by omega) (fun j hj q => by omega)
            have hKL := hKL.st ef_12 (by omega)
            have h109 : (f_12 109).toInt = (sd 109).toInt := (congrArg Int32.toInt (upd_ne ef_12 (by omega))).trans h109
            refine lv_aload_n hx hb dX12_log_85 rfl (lv_at hl 1 rfl) ?_
            refine gq_get hx hb ht hown hK hP i_X12 1 rfl rfl 20 (by decide) wd_1272 rfl rfl dX12_log_86 ?_
            refine lv_iload hx hb dX12_log_89 (lv_at hl 0 rfl) ?_
            refine lv_iconst (v := 1) hx hb dX12_log_91 (by decide +kernel) ?_
            obtain ⟨t_13, et_13⟩ : ∃ zz_ : Int32, t_11 + 1 = zz_ := ⟨_, rfl⟩
            refine gq_iadd hx hb t_13 et_13 dX12_log_92 ?_
            have ft_13 := ia_add et_13 (by omega) (by omega)
            refine lv_iload_n hx hb dX12_log_93 rfl (lv_at hl 3 rfl) ?_
            obtain ⟨f_14, ef_14⟩ : ∃ zz_ : Nat → Int32, upd f_12 (Int32.toNatClampNeg t_13) w = zz_ := ⟨_, rfl⟩
            refine gq_iast (ws' := [((am 20), .inl (G.2.2 0, 110, .inl f_14)), (m0, .inr (12, [.ref (am 0), .int v1, .int v2, .ref (am 3), .ref (am 4), .ref (am 5), .ref (am 6), .ref (am 7), .int v8, .int v9, .int v10, .int v11, .int v12, .int v13, .int v14, .ref (am 15), .int v16, .ref (am 17), .int v18, .ref (am 19), .ref (am 20), .int v21, .int v22, .int v23, .int v24, .int v25, .ref (am 26), .int v27, .ref (am 28), .ref (am 29), .ref (am 30), .ref (am 31), .long v32, .ref (am 33), .ref (am 34), .ref (am 35), .ref (am 36)]))] ++ wt) hx hb hK hP hD hS 0 rfl f_14 (ia_in (n := 110) (by omega) (by omega)) ef_14 rfl dX12_log_94 (fun H locs hP hD hS => ?_)
            rw [show Int32.toNatClampNeg t_13 = t_11.toInt.toNat + 1 from ix_n (by omega)] at ef_14
            have hSD := hSD.log ef_14 (by omega) (by omega) (fun j hj q => by omega)
            have hKL := hKL.st ef_14 (by omega)
            have h109 : (f_14 109).toInt = (sd 109).toInt := (congrArg Int32.toInt (upd_ne ef_14 (by omega))).trans h109
            refine lv_aload_n hx hb dX12_log_95 rfl (lv_at hl 1 rfl) ?_
            refine gq_get hx hb ht hown hK hP i_X12 1 rfl rfl 20 (by decide) wd_1272 rfl rfl dX12_log_96 ?_
            refine lv_iload hx hb dX12_log_99 (lv_at hl 0 rfl) ?_
            refine lv_iconst (v := 2) hx hb dX12_log_101 (by decide +kernel) ?_
            obtain ⟨t_15, et_15⟩ : ∃ zz_ : Int32, t_11 + 2 = zz_ := ⟨_, rfl⟩
            refine gq_iadd hx hb t_15 et_15 dX12_log_102 ?_
            have ft_15 := ia_add et_15 (by omega) (by omega)
            refine lv_iload_n hx hb dX12_log_103 rfl (lv_at hl 4 rfl) ?_
            obtain ⟨f_16, ef_16⟩ : ∃ zz_ : Nat → Int32, upd f_14 (Int32.toNatClampNeg t_15) z = zz_ := ⟨_, rfl⟩
            refine gq_iast (ws' := [((am 20), .inl (G.2.2 0, 110, .inl f_16)), (m0, .inr (12, [.ref (am 0), .int v1, .int v2, .ref (am 3), .ref (am 4), .ref (am 5), .ref (am 6), .ref (am 7), .int v8, .int v9, .int v10, .int v11, .int v12, .int v13, .int v14, .ref (am 15), .int v16, .ref (am 17), .int v18, .ref (am 19), .ref (am 20), .int v21, .int v22, .int v23, .int v24, .int v25, .ref (am 26), .int v27, .ref (am 28), .ref (am 29), .ref (am 30), .ref (am 31), .long v32, .ref (am 33), .ref (am 34), .ref (am 35), .ref (am 36)]))] ++ wt) hx hb hK hP hD hS 0 rfl f_16 (ia_in (n := 110) (by omega) (by omega)) ef_16 rfl dX12_log_104 (fun H locs hP hD hS => ?_)
            rw [show Int32.toNatClampNeg t_15 = t_11.toInt.toNat + 2 from ix_n (by omega)] at ef_16
            have hSD := hSD.log ef_16 (by omega) (by omega) (fun j hj q => by omega)
            have hKL := hKL.st ef_16 (by omega)
            have h109 : (f_16 109).toInt = (sd 109).toInt := (congrArg Int32.toInt (upd_ne ef_16 (by omega))).trans h109
            refine lv_aload_n hx hb dX12_log_105 rfl (lv_at hl 1 rfl) ?_
            refine gq_get hx hb ht hown hK hP i_X12 1 rfl rfl 20 (by decide) wd_1272 rfl rfl dX12_log_106 ?_
            refine lv_bipush (v := 109) hx hb dX12_log_109 (by decide +kernel) ?_
            refine lv_dup2_11 hx hb dX12_log_111 rfl rfl ?_
            obtain ⟨n_17, en_17⟩ : ∃ zz_ : Int32, f_16 (Int32.toNatClampNeg 109) = zz_ := ⟨_, rfl⟩
            refine gq_iald hx hb hK hP 0 rfl n_17 (ia_in (n := 110) (by omega) (by omega)) en_17 dX12_log_112 ?_
            have En_17 : f_16 (109) = n_17 := by rw [← show Int32.toNatClampNeg 109 = 109 from ix_n (by omega)]; exact en_17
            have hn_17 : (f_16 (109)).toInt = n_17.toInt := by rw [En_17]
            have gn_17 := hSD.r109
            refine lv_iconst (v := 1) hx hb dX12_log_113 (by decide +kernel) ?_
            obtain ⟨t_18, et_18⟩ : ∃ zz_ : Int32, n_17 + 1 = zz_ := ⟨_, rfl⟩
            refine gq_iadd hx hb t_18 et_18 dX12_log_114 ?_
            have ft_18 := ia_add et_18 (by omega) (by omega)
            obtain ⟨f_19, ef_19⟩ : ∃ zz_ : Nat → Int32, upd f_16 (Int32.toNatClampNeg 109) t_18 = zz_ := ⟨_, rfl⟩
            refine gq_iast (ws' := [((am 20), .inl (G.2.2 0, 110, .inl f_19)), (m0, .inr (12, [.ref (am 0), .int v1, .int v2, .ref (am 3), .ref (am 4), .ref (am 5), .ref (am 6), .ref (am 7), .int v8, .int v9, .int v10, .int v11, .int v12, .int v13, .int v14, .ref (am 15), .int v16, .ref (am 17), .int v18, .ref (am 19), .ref (am 20), .int v21, .int v22, .int v23, .int v24, .int v25, .ref (am 26), .int v27, .ref (am 28), .ref (am 29), .ref (am 30), .ref (am 31), .long v32, .ref (am 33), .ref (am 34), .ref (am 35), .ref (am 36)]))] ++ wt) hx hb hK hP hD hS 0 rfl f_19 (ia_in (n := 110) (by omega) (by omega)) ef_19 rfl dX12_log_115 (fun H locs hP hD hS => ?_)
            rw [show Int32.toNatClampNeg 109 = 109 from ix_n (by omega)] at ef_19
            have hSD := hSD.log ef_19 (by omega) (by omega) (fun j hj q => by omega)
            have hKL := hKL.st ef_19 (by omega)
            refine lv_aload_n hx hb dX12_log_116 rfl (lv_at hl 1 rfl) ?_
            refine gq_get hx hb ht hown hK hP i_X12 1 rfl rfl 20 (by decide) wd_1272 rfl rfl dX12_log_117 ?_
            refine lv_bipush (v := 109) hx hb dX12_log_120 (by decide +kernel) ?_
            obtain ⟨n_20, en_20⟩ : ∃ zz_ : Int32, f_19 (Int32.toNatClampNeg 109) = zz_ := ⟨_, rfl⟩
            refine gq_iald hx hb hK hP 0 rfl n_20 (ia_in (n := 110) (by omega) (by omega)) en_20 dX12_log_122 ?_
            have En_20 : f_19 (109) = n_20 := by rw [← show Int32.toNatClampNeg 109 = 109 from ix_n (by omega)]; exact en_20
            have hn_20 : (f_19 (109)).toInt = n_20.toInt := by rw [En_20]
            have gn_20 := hSD.r109
            have hP9 : va_P (gg_D G) classes ([((am 20), .inl (G.2.2 0, 110, .inl f_19)), (m0, .inr (12, [.ref (am 0), .int v1, .int v2, .ref (am 3), .ref (am 4), .ref (am 5), .ref (am 6), .ref (am 7), .int v8, .int v9, .int v10, .int v11, .int v12, .int v13, .int v14, .ref (am 15), .int v16, .ref (am 17), .int v18, .ref (am 19), .ref (am 20), .int v21, .int v22, .int v23, .int v24, .int v25, .ref (am 26), .int v27, .ref (am 28), .ref (am 29), .ref (am 30), .ref (am 31), .long v32, .ref (am 33), .ref (am 34), .ref (am 35), .ref (am 36)]))] ++ wt) _ := hP
            have hD9 : va_D A ([((am 20), .inl (G.2.2 0, 110, .inl f_19)), (m0, .inr (12, [.ref (am 0), .int v1, .int v2, .ref (am 3), .ref (am 4), .ref (am 5), .ref (am 6), .ref (am 7), .int v8, .int v9, .int v10, .int v11, .int v12, .int v13, .int v14, .ref (am 15), .int v16, .ref (am 17), .int v18, .ref (am 19), .ref (am 20), .int v21, .int v22, .int v23, .int v24, .int v25, .ref (am 26), .int v27, .ref (am 28), .ref (am 29), .ref (am 30), .ref (am 31), .long v32, .ref (am 33), .ref (am 34), .ref (am 35), .ref (am 36)]))] ++ wt) := hD
            exact W.iret (v := n_20) hx hb hr (gq_endI (f_19, wt) ⟨hT, hW, hSD, hKL⟩ hP9 hD9 hS) hS.2.2 dX12_log_123
          · rw [← Int32.toInt_inj] at c_9
            refine lv_bipush (v := (-2)) hx hb dX12_log_60 (by decide +kernel) ?_
            have hP9 : va_P (gg_D G) classes ([((am 20), .inl (G.2.2 0, 110, .inl sd)), (m0, .inr (12, [.ref (am 0), .int v1, .int v2, .ref (am 3), .ref (am 4), .ref (am 5), .ref (am 6), .ref (am 7), .int v8, .int v9, .int v10, .int v11, .int v12, .int v13, .int v14, .ref (am 15), .int v16, .ref (am 17), .int v18, .ref (am 19), .ref (am 20), .int v21, .int v22, .int v23, .int v24, .int v25, .ref (am 26), .int v27, .ref (am 28), .ref (am 29), .ref (am 30), .ref (am 31), .long v32, .ref (am 33), .ref (am 34), .ref (am 35), .ref (am 36)]))] ++ wt) _ := hP
            have hD9 : va_D A ([((am 20), .inl (G.2.2 0, 110, .inl sd)), (m0, .inr (12, [.ref (am 0), .int v1, .int v2, .ref (am 3), .ref (am 4), .ref (am 5), .ref (am 6), .ref (am 7), .int v8, .int v9, .int v10, .int v11, .int v12, .int v13, .int v14, .ref (am 15), .int v16, .ref (am 17), .int v18, .ref (am 19), .ref (am 20), .int v21, .int v22, .int v23, .int v24, .int v25, .ref (am 26), .int v27, .ref (am 28), .ref (am 29), .ref (am 30), .ref (am 31), .long v32, .ref (am 33), .ref (am 34), .ref (am 35), .ref (am 36)]))] ++ wt) := hD
            exact W.iret (v := (-2)) hx hb hr (gq_endI (sd, wt) ⟨hT, hW, hSD, hKL⟩ hP9 hD9 hS) hS.2.2 dX12_log_62
      · rw [← Int32.toInt_inj] at c_4
        refine lv_aload_n hx hb dX12_log_28 rfl (lv_at hl 0 rfl) ?_
        refine lv_iload_n hx hb dX12_log_29 rfl (lv_at hl 2 rfl) ?_
        have hP : va_P (gg_D G) classes ([] ++ ([((am 20), .inl (G.2.2 0, 110, .inl sd)), (m0, .inr (12, [.ref (am 0), .int v1, .int v2, .ref (am 3), .ref (am 4), .ref (am 5), .ref (am 6), .ref (am 7), .int v8, .int v9, .int v10, .int v11, .int v12, .int v13, .int v14, .ref (am 15), .int v16, .ref (am 17), .int v18, .ref (am 19), .ref (am 20), .int v21, .int v22, .int v23, .int v24, .int v25, .ref (am 26), .int v27, .ref (am 28), .ref (am 29), .ref (am 30), .ref (am 31), .long v32, .ref (am 33), .ref (am 34), .ref (am 35), .ref (am 36)]))] ++ wt)) H := hP
        have hD : va_D A ([] ++ ([((am 20), .inl (G.2.2 0, 110, .inl sd)), (m0, .inr (12, [.ref (am 0), .int v1, .int v2, .ref (am 3), .ref (am 4), .ref (am 5), .ref (am 6), .ref (am 7), .int v8, .int v9, .int v10, .int v11, .int v12, .int v13, .int v14, .ref (am 15), .int v16, .ref (am 17), .int v18, .ref (am 19), .ref (am 20), .int v21, .int v22, .int v23, .int v24, .int v25, .ref (am 26), .int v27, .ref (am 28), .ref (am 29), .ref (am 30), .ref (am 31), .long v32, .ref (am 33), .ref (am 34), .ref (am 35), .ref (am 36)]))] ++ wt)) := hD
        refine gt_callI (wr := []) (va_runV (As := [.int w]) (rest := []) ⟨hx, hb, hml, hown, ht⟩ (d_m_isBidder l G Γ H.size wt hT w m0 am v1 v2 v8 v9 v10 v11 v12 v13 v14 v16 v18 v21 v22 v23 v24 v25 v27 v32 sd (by first | assumption | exact hSD.1 | exact hSD.w _ | (rw [hKH 2 (by omega)]; exact hKP) | omega) (by first | assumption | exact hSD.1 | exact hSD.w _ | (rw [hKH 2 (by omega)]; exact hKP) | omega) (by first | assumption | exact hSD.1 | exact hSD.w _ | (rw [hKH 2 (by omega)]; exact hKP) | omega) (by first | assumption | exact hSD.1 | exact hSD.w _ | (rw [hKH 2 (by omega)]; exact hKP) | omega) (by first | assumption | exact hSD.1 | exact hSD.w _ | (rw [hKH 2 (by omega)]; exact hKP) | omega) (by first | assumption | exact hSD.1 | exact hSD.w _ | (rw [hKH 2 (by omega)]; exact hKP) | omega) (by first | assumption | exact hSD.1 | exact hSD.w _ | (rw [hKH 2 (by omega)]; exact hKP) | omega) (by first | assumption | exact hSD.1 | exact hSD.w _ | (rw [hKH 2 (by omega)]; exact hKP) | omega) (by first | assumption | exact hSD.1 | exact hSD.w _ | (rw [hKH 2 (by omega)]; exact hKP) | omega) (by first | assumption | exact hSD.1 | exact hSD.w _ | (rw [hKH 2 (by omega)]; exact hKP) | omega) (by first | assumption | exact hSD.1 | exact hSD.w _ | (rw [hKH 2 (by omega)]; exact hKP) | omega) (by first | assumption | exact hSD.1 | exact hSD.w _ | (rw [hKH 2 (by omega)]; exact hKP) | omega) (by first | assumption | exact hSD.1 | exact hSD.w _ | (rw [hKH 2 (by omega)]; exact hKP) | omega) (by first | assumption | exact hSD.1 | exact hSD.w _ | (rw [hKH 2 (by omega)]; exact hKP) | omega) (by first | assumption | exact hSD.1 | exact hSD.w _ | (rw [hKH 2 (by omega)]; exact hKP) | omega) (by first | assumption | exact hSD.1 | exact hSD.w _ | (rw [hKH 2 (by omega)]; exact hKP) | omega) (by first | assumption | exact hSD.1 | exact hSD.w _ | (rw [hKH 2 (by omega)]; exact hKP) | omega) (by first | assumption | exact hSD.1 | exact hSD.w _ | (rw [hKH 2 (by omega)]; exact hKP) | omega) (by first | assumption | exact hSD.1 | exact hSD.w _ | (rw [hKH 2 (by omega)]; exact hKP) | omega) (by first | assumption | exact hSD.1 | exact hSD.w _ | (rw [hKH 2 (by omega)]; exact hKP) | omega) (by first | assumption | exact hSD.1 | exact hSD.w _ | (rw [hKH 2 (by omega)]; exact hKP) | omega) (by first | assumption | exact hSD.1 | exact hSD.w _ | (rw [hKH 2 (by omega)]; exact hKP) | omega) (by first | assumption | exact hSD.1 | exact hSD.w _ | (rw [hKH 2 (by omega)]; exact hKP) | omega) (by first | assumption | exact hSD.1 | exact hSD.w _ | (rw [hKH 2 (by omega)]; exact hKP) | omega)) (cwV 1 ht (ts_gV wd_1553 wd_1555 wd_73 wd_134 wd_1556) rfl rfl rfl (by decide +kernel) ⟨Nat.le_of_ble_eq_true rfl, Nat.le_of_ble_eq_true rfl⟩) (gc_preV (ci := 12) (q0 := 1) hK (tw_right hP) (tw_rightD hD) rfl rfl) rfl rfl hl.1 rfl (lv_room (Nat.le_of_ble_eq_true rfl)) dX12_log_30 ⟨Nat.le_of_ble_eq_true rfl, Nat.le_of_ble_eq_true rfl⟩) hP hD hS hA (fun r_21 wt H locs hw hP hD hS => ?_)
        obtain ⟨hT, hkp, lo_r_21, hi_r_21, im_r_21⟩ := hw
        have hW := hW.call (show ∀ x ∈ [], x ∈ [] by decide) hkp
        have hP : va_P (gg_D G) classes ([((am 20), .inl (G.2.2 0, 110, .inl sd)), (m0, .inr (12, [.ref (am 0), .int v1, .int v2, .ref (am 3), .ref (am 4), .ref (am 5), .ref (am 6), .ref (am 7), .int v8, .int v9, .int v10, .int v11, .int v12, .int v13, .int v14, .ref (am 15), .int v16, .ref (am 17), .int v18, .ref (am 19), .ref (am 20), .int v21, .int v22, .int v23, .int v24, .int v25, .ref (am 26), .int v27, .ref (am 28), .ref (am 29), .ref (am 30), .ref (am 31), .long v32, .ref (am 33), .ref (am 34), .ref (am 35), .ref (am 36)]))] ++ wt) H := hP
        have hD : va_D A ([((am 20), .inl (G.2.2 0, 110, .inl sd)), (m0, .inr (12, [.ref (am 0), .int v1, .int v2, .ref (am 3), .ref (am 4), .ref (am 5), .ref (am 6), .ref (am 7), .int v8, .int v9, .int v10, .int v11, .int v12, .int v13, .int v14, .ref (am 15), .int v16, .ref (am 17), .int v18, .ref (am 19), .ref (am 20), .int v21, .int v22, .int v23, .int v24, .int v25, .ref (am 26), .int v27, .ref (am 28), .ref (am 29), .ref (am 30), .ref (am 31), .long v32, .ref (am 33), .ref (am 34), .ref (am 35), .ref (am 36)]))] ++ wt) := hD
        refine lv_if_eq (tgt := 60) hx hb dX12_log_33 (by decide) (fun c_22 => ?_) (fun c_22 => ?_)
        · rw [← Int32.toInt_inj] at c_22
          refine lv_bipush (v := (-2)) hx hb dX12_log_60 (by decide +kernel) ?_
          have hP9 : va_P (gg_D G) classes ([((am 20), .inl (G.2.2 0, 110, .inl sd)), (m0, .inr (12, [.ref (am 0), .int v1, .int v2, .ref (am 3), .ref (am 4), .ref (am 5), .ref (am 6), .ref (am 7), .int v8, .int v9, .int v10, .int v11, .int v12, .int v13, .int v14, .ref (am 15), .int v16, .ref (am 17), .int v18, .ref (am 19), .ref (am 20), .int v21, .int v22, .int v23, .int v24, .int v25, .ref (am 26), .int v27, .ref (am 28), .ref (am 29), .ref (am 30), .ref (am 31), .long v32, .ref (am 33), .ref (am 34), .ref (am 35), .ref (am 36)]))] ++ wt) _ := hP
          have hD9 : va_D A ([((am 20), .inl (G.2.2 0, 110, .inl sd)), (m0, .inr (12, [.ref (am 0), .int v1, .int v2, .ref (am 3), .ref (am 4), .ref (am 5), .ref (am 6), .ref (am 7), .int v8, .int v9, .int v10, .int v11, .int v12, .int v13, .int v14, .ref (am 15), .int v16, .ref (am 17), .int v18, .ref (am 19), .ref (am 20), .int v21, .int v22, .int v23, .int v24, .int v25, .ref (am 26), .int v27, .ref (am 28), .ref (am 29), .ref (am 30), .ref (am 31), .long v32, .ref (am 33), .ref (am 34), .ref (am 35), .ref (am 36)]))] ++ wt) := hD
          exact W.iret (v := (-2)) hx hb hr (gq_endI (sd, wt) ⟨hT, hW, hSD, hKL⟩ hP9 hD9 hS) hS.2.2 dX12_log_62
        · have ic_22 := im_r_21 c_22
          rw [← Int32.toInt_inj] at c_22
          refine lv_iload_n hx hb dX12_log_36 rfl (lv_at hl 3 rfl) ?_
          refine lv_i2l hx hb dX12_log_37 rfl ?_
          refine lv_topl (fun m_23 em_23 => ?_)
          have fm_23 := il_i2l em_23
          refine lv_lconst (v := 0) hx hb dX12_log_38 (by decide +kernel) ?_
          refine lv_ldc2 hx hb hown (ht _ wd_1812) dX12_log_39 ?_
          refine gt_callI (wr := [((am 20), .inl (G.2.2 0, 110, .inl sd)), (m0, .inr (12, [.ref (am 0), .int v1, .int v2, .ref (am 3), .ref (am 4), .ref (am 5), .ref (am 6), .ref (am 7), .int v8, .int v9, .int v10, .int v11, .int v12, .int v13, .int v14, .ref (am 15), .int v16, .ref (am 17), .int v18, .ref (am 19), .ref (am 20), .int v21, .int v22, .int v23, .int v24, .int v25, .ref (am 26), .int v27, .ref (am 28), .ref (am 29), .ref (am 30), .ref (am 31), .long v32, .ref (am 33), .ref (am 34), .ref (am 35), .ref (am 36)]))]) (va_runS (As := [.long m_23, .long 0, .long 999]) (rest := []) ⟨hx, hb, hml, hown, ht⟩ (d_m_in l G Γ H.size wt hT m_23 0 999) (va_cwS 3 ht (ts_gS wd_1439 wd_1440 wd_134 wd_1441) rfl rfl rfl (by decide +kernel) ⟨Nat.le_of_ble_eq_true rfl, Nat.le_of_ble_eq_true rfl⟩) (gc_preS hK (tw_right hP) (tw_rightD hD)) rfl rfl hl.1 rfl (lv_room (Nat.le_of_ble_eq_true rfl)) dX12_log_42 ⟨Nat.le_of_ble_eq_true rfl, Nat.le_of_ble_eq_true rfl⟩) hP hD hS hA (fun r_24 wt H locs hw hP hD hS => ?_)
          obtain ⟨hT, hkp, lo_r_24, hi_r_24, im_r_24⟩ := hw
          have hW := hW.call (show ∀ x ∈ [], x ∈ [] by decide) hkp
          have hP : va_P (gg_D G) classes ([((am 20), .inl (G.2.2 0, 110, .inl sd)), (m0, .inr (12, [.ref (am 0), .int v1, .int v2, .ref (am 3), .ref (am 4), .ref (am 5), .ref (am 6), .ref (am 7), .int v8, .int v9, .int v10, .int v11, .int v12, .int v13, .int v14, .ref (am 15), .int v16, .ref (am 17), .int v18, .ref (am 19), .ref (am 20), .int v21, .int v22, .int v23, .int v24, .int v25, .ref (am 26), .int v27, .ref (am 28), .ref (am 29), .ref (am 30), .ref (am 31), .long v32, .ref (am 33), .ref (am 34), .ref (am 35), .ref (am 36)]))] ++ wt) H := hP
          have hD : va_D A ([((am 20), .inl (G.2.2 0, 110, .inl sd)), (m0, .inr (12, [.ref (am 0), .int v1, .int v2, .ref (am 3), .ref (am 4), .ref (am 5), .ref (am 6), .ref (am 7), .int v8, .int v9, .int v10, .int v11, .int v12, .int v13, .int v14, .ref (am 15), .int v16, .ref (am 17), .int v18, .ref (am 19), .ref (am 20), .int v21, .int v22, .int v23, .int v24, .int v25, .ref (am 26), .int v27, .ref (am 28), .ref (am 29), .ref (am 30), .ref (am 31), .long v32, .ref (am 33), .ref (am 34), .ref (am 35), .ref (am 36)]))] ++ wt) := hD
          refine lv_if_eq (tgt := 60) hx hb dX12_log_45 (by decide) (fun c_25 => ?_) (fun c_25 => ?_)
          · rw [← Int32.toInt_inj] at c_25
            refine lv_bipush (v := (-2)) hx hb dX12_log_60 (by decide +kernel) ?_
            have hP9 : va_P (gg_D G) classes ([((am 20), .inl (G.2.2 0, 110, .inl sd)), (m0, .inr (12, [.ref (am 0), .int v1, .int v2, .ref (am 3), .ref (am 4), .ref (am 5), .ref (am 6), .ref (am 7), .int v8, .int v9, .int v10, .int v11, .int v12, .int v13, .int v14, .ref (am 15), .int v16, .ref (am 17), .int v18, .ref (am 19), .ref (am 20), .int v21, .int v22, .int v23, .int v24, .int v25, .ref (am 26), .int v27, .ref (am 28), .ref (am 29), .ref (am 30), .ref (am 31), .long v32, .ref (am 33), .ref (am 34), .ref (am 35), .ref (am 36)]))] ++ wt) _ := hP
            have hD9 : va_D A ([((am 20), .inl (G.2.2 0, 110, .inl sd)), (m0, .inr (12, [.ref (am 0), .int v1, .int v2, .ref (am 3), .ref (am 4), .ref (am 5), .ref (am 6), .ref (am 7), .int v8, .int v9, .int v10, .int v11, .int v12, .int v13, .int v14, .ref (am 15), .int v16, .ref (am 17), .int v18, .ref (am 19), .ref (am 20), .int v21, .int v22, .int v23, .int v24, .int v25, .ref (am 26), .int v27, .ref (am 28), .ref (am 29), .ref (am 30), .ref (am 31), .long v32, .ref (am 33), .ref (am 34), .ref (am 35), .ref (am 36)]))] ++ wt) := hD
            exact W.iret (v := (-2)) hx hb hr (gq_endI (sd, wt) ⟨hT, hW, hSD, hKL⟩ hP9 hD9 hS) hS.2.2 dX12_log_62
          · have ic_25 := im_r_24 c_25
            rw [← Int32.toInt_inj] at c_25
            refine lv_aload_n hx hb dX12_log_48 rfl (lv_at hl 0 rfl) ?_
            refine gq_get hx hb ht hown hK hP i_X12 1 rfl rfl 20 (by decide) wd_1272 rfl rfl dX12_log_49 ?_
            refine lv_bipush (v := 109) hx hb dX12_log_52 (by decide +kernel) ?_
            obtain ⟨n_26, en_26⟩ : ∃ zz_ : Int32, sd (Int32.toNatClampNeg 109) = zz_ := ⟨_, rfl⟩
            refine gq_iald hx hb hK hP 0 rfl n_26 (ia_in (n := 110) (by omega) (by omega)) en_26 dX12_log_54 ?_
            have En_26 : sd (109) = n_26 := by rw [← show Int32.toNatClampNeg 109 = 109 from ix_n (by omega)]; exact en_26
            have hn_26 : (sd (109)).toInt = n_26.toInt := by rw [En_26]
            have gn_26 := hSD.r109
            refine lv_bipush (v := 10) hx hb dX12_log_55 (by decide +kernel) ?_
            refine lv_icmp_ne (tgt := 63) hx hb dX12_log_57 (by decide) (fun c_27 => ?_) (fun c_27 => ?_)
            · rw [← Int32.toInt_inj] at c_27
              refine lv_bipush (v := 79) hx hb dX12_log_63 (by decide +kernel) ?_
              refine lv_iconst (v := 3) hx hb dX12_log_65 (by decide +kernel) ?_
              refine lv_aload_n hx hb dX12_log_66 rfl (lv_at hl 0 rfl) ?_
              refine gq_get hx hb ht hown hK hP i_X12 1 rfl rfl 20 (by decide) wd_1272 rfl rfl dX12_log_67 ?_
              refine lv_bipush (v := 109) hx hb dX12_log_70 (by decide +kernel) ?_
              refine gq_iald hx hb hK hP 0 rfl n_26 (ia_in (n := 110) (by omega) (by omega)) en_26 dX12_log_72 ?_
              have En_26 : sd (109) = n_26 := by rw [← show Int32.toNatClampNeg 109 = 109 from ix_n (by omega)]; exact en_26
              have hn_26 : (sd (109)).toInt = n_26.toInt := by rw [En_26]
              have gn_26 := hSD.r109
              obtain ⟨t_28, et_28⟩ : ∃ zz_ : Int32, 3 * n_26 = zz_ := ⟨_, rfl⟩
              refine gq_imul hx hb t_28 et_28 dX12_log_73 ?_
              have ft_28 := ia_mul et_28 (by rw [l3]; omega) (by rw [l3]; omega)
              rw [l3] at ft_28
              obtain ⟨t_29, et_29⟩ : ∃ zz_ : Int32, 79 + t_28 = zz_ := ⟨_, rfl⟩
              refine gq_iadd hx hb t_29 et_29 dX12_log_74 ?_
              have ft_29 := ia_add et_29 (by omega) (by omega)
              refine lv_istore (lv' := [(4, .int t_29), (0, .ref m0), (1, .int b), (2, .int w), (3, .int z)]) hx hb dX12_log_75 hl (by decide) rfl (fun ls hl => ?_)
              refine lv_aload_n hx hb dX12_log_77 rfl (lv_at hl 1 rfl) ?_
              refine gq_get hx hb ht hown hK hP i_X12 1 rfl rfl 20 (by decide) wd_1272 rfl rfl dX12_log_78 ?_
              refine lv_iload hx hb dX12_log_81 (lv_at hl 0 rfl) ?_
              refine lv_iload_n hx hb dX12_log_83 rfl (lv_at hl 2 rfl) ?_
              obtain ⟨f_30, ef_30⟩ : ∃ zz_ : Nat → Int32, upd sd (Int32.toNatClampNeg t_29) b = zz_ := ⟨_, rfl⟩
              refine gq_iast (ws' := [((am 20), .inl (G.2.2 0, 110, .inl f_30)), (m0, .inr (12, [.ref (am 0), .int v1, .int v2, .ref (am 3), .ref (am 4), .ref (am 5), .ref (am 6), .ref (am 7), .int v8, .int v9, .int v10, .int v11, .int v12, .int v13, .int v14, .ref (am 15), .int v16, .ref (am 17), .int v18, .ref (am 19), .ref (am 20), .int v21, .int v22, .int v23, .int v24, .int v25, .ref (am 26), .int v27, .ref (am 28), .ref (am 29), .ref (am 30), .ref (am 31), .long v32, .ref (am 33), .ref (am 34), .ref (am 35), .ref (am 36)]))] ++ wt) hx hb hK hP hD hS 0 rfl f_30 (ia_in (n := 110) (by omega) (by omega)) ef_30 rfl dX12_log_84 (fun H locs hP hD hS => ?_)
              rw [show Int32.toNatClampNeg t_29 = t_29.toInt.toNat from ix_n (by omega)] at ef_30
              have hSD := hSD.log ef_30 (by omega) (by omega) (fun j hj q => by omega)
              have hKL := hKL.st ef_30 (by omega)
              have h109 : (f_30 109).toInt = (sd 109).toInt := (congrArg Int32.toInt (upd_ne ef_30 (by omega))).trans h109
              refine lv_aload_n hx hb dX12_log_85 rfl (lv_at hl 1 rfl) ?_
              refine gq_get hx hb ht hown hK hP i_X12 1 rfl rfl 20 (by decide) wd_1272 rfl rfl dX12_log_86 ?_
              refine lv_iload hx hb dX12_log_89 (lv_at hl 0 rfl) ?_
              refine lv_iconst (v := 1) hx hb dX12_log_91 (by decide +kernel) ?_
              obtain ⟨t_31, et_31⟩ : ∃ zz_ : Int32, t_29 + 1 = zz_ := ⟨_, rfl⟩
              refine gq_iadd hx hb t_31 et_31 dX12_log_92 ?_
              have ft_31 := ia_add et_31 (by omega) (by omega)
              refine lv_iload_n hx hb dX12_log_93 rfl (lv_at hl 3 rfl) ?_
              obtain ⟨f_32, ef_32⟩ : ∃ zz_ : Nat → Int32, upd f_30 (Int32.toNatClampNeg t_31) w = zz_ := ⟨_, rfl⟩
              refine gq_iast (ws' := [((am 20), .inl (G.2.2 0, 110, .inl f_32)), (m0, .inr (12, [.ref (am 0), .int v1, .int v2, .ref (am 3), .ref (am 4), .ref (am 5), .ref (am 6), .ref (am 7), .int v8, .int v9, .int v10, .int v11, .int v12, .int v13, .int v14, .ref (am 15), .int v16, .ref (am 17), .int v18, .ref (am 19), .ref (am 20), .int v21, .int v22, .int v23, .int v24, .int v25, .ref (am 26), .int v27, .ref (am 28), .ref (am 29), .ref (am 30), .ref (am 31), .long v32, .ref (am 33), .ref (am 34), .ref (am 35), .ref (am 36)]))] ++ wt) hx hb hK hP hD hS 0 rfl f_32 (ia_in (n := 110) (by omega) (by omega)) ef_32 rfl dX12_log_94 (fun H locs hP hD hS => ?_)
              rw [show Int32.toNatClampNeg t_31 = t_29.toInt.toNat + 1 from ix_n (by omega)] at ef_32
              have hSD := hSD.log ef_32 (by omega) (by omega) (fun j hj q => by omega)
              have hKL := hKL.st ef_32 (by omega)
              have h109 : (f_32 109).toInt = (sd 109).toInt := (congrArg Int32.toInt (upd_ne ef_32 (by omega))).trans h109
              refine lv_aload_n hx hb dX12_log_95 rfl (lv_at hl 1 rfl) ?_
              refine gq_get hx hb ht hown hK hP i_X12 1 rfl rfl 20 (by decide) wd_1272 rfl rfl dX12_log_96 ?_
              refine lv_iload hx hb dX12_log_99 (lv_at hl 0 rfl) ?_
              refine lv_iconst (v := 2) hx hb dX12_log_101 (by decide +kernel) ?_
              obtain ⟨t_33, et_33⟩ : ∃ zz_ : Int32, t_29 + 2 = zz_ := ⟨_, rfl⟩
              refine gq_iadd hx hb t_33 et_33 dX12_log_102 ?_
              have ft_33 := ia_add et_33 (by omega) (by omega)
              refine lv_iload_n hx hb dX12_log_103 rfl (lv_at hl 4 rfl) ?_
              obtain ⟨f_34, ef_34⟩ : ∃ zz_ : Nat → Int32, upd f_32 (Int32.toNatClampNeg t_33) z = zz_ := ⟨_, rfl⟩
              refine gq_iast (ws' := [((am 20), .inl (G.2.2 0, 110, .inl f_34)), (m0, .inr (12, [.ref (am 0), .int v1, .int v2, .ref (am 3), .ref (am 4), .ref (am 5), .ref (am 6), .ref (am 7), .int v8, .int v9, .int v10, .int v11, .int v12, .int v13, .int v14, .ref (am 15), .int v16, .ref (am 17), .int v18, .ref (am 19), .ref (am 20), .int v21, .int v22, .int v23, .int v24, .int v25, .ref (am 26), .int v27, .ref (am 28), .ref (am 29), .ref (am 30), .ref (am 31), .long v32, .ref (am 33), .ref (am 34), .ref (am 35), .ref (am 36)]))] ++ wt) hx hb hK hP hD hS 0 rfl f_34 (ia_in (n := 110) (by omega) (by omega)) ef_34 rfl dX12_log_104 (fun H locs hP hD hS => ?_)
              rw [show Int32.toNatClampNeg t_33 = t_29.toInt.toNat + 2 from ix_n (by omega)] at ef_34
              have hSD := hSD.log ef_34 (by omega) (by omega) (fun j hj q => by omega)
              have hKL := hKL.st ef_34 (by omega)
              have h109 : (f_34 109).toInt = (sd 109).toInt := (congrArg Int32.toInt (upd_ne ef_34 (by omega))).trans h109
              refine lv_aload_n hx hb dX12_log_105 rfl (lv_at hl 1 rfl) ?_
              refine gq_get hx hb ht hown hK hP i_X12 1 rfl rfl 20 (by decide) wd_1272 rfl rfl dX12_log_106 ?_
              refine lv_bipush (v := 109) hx hb dX12_log_109 (by decide +kernel) ?_
              refine lv_dup2_11 hx hb dX12_log_111 rfl rfl ?_
              obtain ⟨n_35, en_35⟩ : ∃ zz_ : Int32, f_34 (Int32.toNatClampNeg 109) = zz_ := ⟨_, rfl⟩
              refine gq_iald hx hb hK hP 0 rfl n_35 (ia_in (n := 110) (by omega) (by omega)) en_35 dX12_log_112 ?_
              have En_35 : f_34 (109) = n_35 := by rw [← show Int32.toNatClampNeg 109 = 109 from ix_n (by omega)]; exact en_35
              have hn_35 : (f_34 (109)).toInt = n_35.toInt := by rw [En_35]
              have gn_35 := hSD.r109
              refine lv_iconst (v := 1) hx hb dX12_log_113 (by decide +kernel) ?_
              obtain ⟨t_36, et_36⟩ : ∃ zz_ : Int32, n_35 + 1 = zz_ := ⟨_, rfl⟩
              refine gq_iadd hx hb t_36 et_36 dX12_log_114 ?_
              have ft_36 := ia_add et_36 (by omega) (by omega)
              obtain ⟨f_37, ef_37⟩ : ∃ zz_ : Nat → Int32, upd f_34 (Int32.toNatClampNeg 109) t_36 = zz_ := ⟨_, rfl⟩
              refine gq_iast (ws' := [((am 20), .inl (G.2.2 0, 110, .inl f_37)), (m0, .inr (12, [.ref (am 0), .int v1, .int v2, .ref (am 3), .ref (am 4), .ref (am 5), .ref (am 6), .ref (am 7), .int v8, .int v9, .int v10, .int v11, .int v12, .int v13, .int v14, .ref (am 15), .int v16, .ref (am 17), .int v18, .ref (am 19), .ref (am 20), .int v21, .int v22, .int v23, .int v24, .int v25, .ref (am 26), .int v27, .ref (am 28), .ref (am 29), .ref (am 30), .ref (am 31), .long v32, .ref (am 33), .ref (am 34), .ref (am 35), .ref (am 36)]))] ++ wt) hx hb hK hP hD hS 0 rfl f_37 (ia_in (n := 110) (by omega) (by omega)) ef_37 rfl dX12_log_115 (fun H locs hP hD hS => ?_)
              rw [show Int32.toNatClampNeg 109 = 109 from ix_n (by omega)] at ef_37
              have hSD := hSD.log ef_37 (by omega) (by omega) (fun j hj q => by omega)
              have hKL := hKL.st ef_37 (by omega)
              refine lv_aload_n hx hb dX12_log_116 rfl (lv_at hl 1 rfl) ?_
              refine gq_get hx hb ht hown hK hP i_X12 1 rfl rfl 20 (by decide) wd_1272 rfl rfl dX12_log_117 ?_
              refine lv_bipush (v := 109) hx hb dX12_log_120 (by decide +kernel) ?_
              obtain ⟨n_38, en_38⟩ : ∃ zz_ : Int32, f_37 (Int32.toNatClampNeg 109) = zz_ := ⟨_, rfl⟩
              refine gq_iald hx hb hK hP 0 rfl n_38 (ia_in (n := 110) (by omega) (by omega)) en_38 dX12_log_122 ?_
              have En_38 : f_37 (109) = n_38 := by rw [← show Int32.toNatClampNeg 109 = 109 from ix_n (by omega)]; exact en_38
              have hn_38 : (f_37 (109)).toInt = n_38.toInt := by rw [En_38]
              have gn_38 := hSD.r109
              have hP9 : va_P (gg_D G) classes ([((am 20), .inl (G.2.2 0, 110, .inl f_37)), (m0, .inr (12, [.ref (am 0), .int v1, .int v2, .ref (am 3), .ref (am 4), .ref (am 5), .ref (am 6), .ref (am 7), .int v8, .int v9, .int v10, .int v11, .int v12, .int v13, .int v14, .ref (am 15), .int v16, .ref (am 17), .int v18, .ref (am 19), .ref (am 20), .int v21, .int v22, .int v23, .int v24, .int v25, .ref (am 26), .int v27, .ref (am 28), .ref (am 29), .ref (am 30), .ref (am 31), .long v32, .ref (am 33), .ref (am 34), .ref (am 35), .ref (am 36)]))] ++ wt) _ := hP
              have hD9 : va_D A ([((am 20), .inl (G.2.2 0, 110, .inl f_37)), (m0, .inr (12, [.ref (am 0), .int v1, .int v2, .ref (am 3), .ref (am 4), .ref (am 5), .ref (am 6), .ref (am 7), .int v8, .int v9, .int v10, .int v11, .int v12, .int v13, .int v14, .ref (am 15), .int v16, .ref (am 17), .int v18, .ref (am 19), .ref (am 20), .int v21, .int v22, .int v23, .int v24, .int v25, .ref (am 26), .int v27, .ref (am 28), .ref (am 29), .ref (am 30), .ref (am 31), .long v32, .ref (am 33), .ref (am 34), .ref (am 35), .ref (am 36)]))] ++ wt) := hD
              exact W.iret (v := n_38) hx hb hr (gq_endI (f_37, wt) ⟨hT, hW, hSD, hKL⟩ hP9 hD9 hS) hS.2.2 dX12_log_123
            · rw [← Int32.toInt_inj] at c_27
              refine lv_bipush (v := (-2)) hx hb dX12_log_60 (by decide +kernel) ?_
              have hP9 : va_P (gg_D G) classes ([((am 20), .inl (G.2.2 0, 110, .inl sd)), (m0, .inr (12, [.ref (am 0), .int v1, .int v2, .ref (am 3), .ref (am 4), .ref (am 5), .ref (am 6), .ref (am 7), .int v8, .int v9, .int v10, .int v11, .int v12, .int v13, .int v14, .ref (am 15), .int v16, .ref (am 17), .int v18, .ref (am 19), .ref (am 20), .int v21, .int v22, .int v23, .int v24, .int v25, .ref (am 26), .int v27, .ref (am 28), .ref (am 29), .ref (am 30), .ref (am 31), .long v32, .ref (am 33), .ref (am 34), .ref (am 35), .ref (am 36)]))] ++ wt) _ := hP
              have hD9 : va_D A ([((am 20), .inl (G.2.2 0, 110, .inl sd)), (m0, .inr (12, [.ref (am 0), .int v1, .int v2, .ref (am 3), .ref (am 4), .ref (am 5), .ref (am 6), .ref (am 7), .int v8, .int v9, .int v10, .int v11, .int v12, .int v13, .int v14, .ref (am 15), .int v16, .ref (am 17), .int v18, .ref (am 19), .ref (am 20), .int v21, .int v22, .int v23, .int v24, .int v25, .ref (am 26), .int v27, .ref (am 28), .ref (am 29), .ref (am 30), .ref (am 31), .long v32, .ref (am 33), .ref (am 34), .ref (am 35), .ref (am 36)]))] ++ wt) := hD
              exact W.iret (v := (-2)) hx hb hr (gq_endI (sd, wt) ⟨hT, hW, hSD, hKL⟩ hP9 hD9 hS) hS.2.2 dX12_log_62
  · rw [← Int32.toInt_inj] at c_1
    refine lv_aload_n hx hb dX12_log_5 rfl (lv_at hl 0 rfl) ?_
    refine gq_get hx hb ht hown hK hP i_X12 1 rfl rfl 20 (by decide) wd_1272 rfl rfl dX12_log_6 ?_
    refine lv_bipush (v := 109) hx hb dX12_log_9 (by decide +kernel) ?_
    refine lv_iconst (v := 0) hx hb dX12_log_11 (by decide +kernel) ?_
    obtain ⟨f_39, ef_39⟩ : ∃ zz_ : Nat → Int32, upd sd (Int32.toNatClampNeg 109) 0 = zz_ := ⟨_, rfl⟩
    refine gq_iast (ws' := [((am 20), .inl (G.2.2 0, 110, .inl f_39)), (m0, .inr (12, [.ref (am 0), .int v1, .int v2, .ref (am 3), .ref (am 4), .ref (am 5), .ref (am 6), .ref (am 7), .int v8, .int v9, .int v10, .int v11, .int v12, .int v13, .int v14, .ref (am 15), .int v16, .ref (am 17), .int v18, .ref (am 19), .ref (am 20), .int v21, .int v22, .int v23, .int v24, .int v25, .ref (am 26), .int v27, .ref (am 28), .ref (am 29), .ref (am 30), .ref (am 31), .long v32, .ref (am 33), .ref (am 34), .ref (am 35), .ref (am 36)]))] ++ wt) hx hb hK hP hD hS 0 rfl f_39 (ia_in (n := 110) (by omega) (by omega)) ef_39 rfl dX12_log_12 (fun H locs hP hD hS => ?_)
    rw [show Int32.toNatClampNeg 109 = 109 from ix_n (by omega)] at ef_39
    have hSD := hSD.log ef_39 (by omega) (by omega) (fun j hj q => by omega)
    have hKL := hKL.st ef_39 (by omega)
    refine lv_iconst (v := 0) hx hb dX12_log_13 (by decide +kernel) ?_
    have hP9 : va_P (gg_D G) classes ([((am 20), .inl (G.2.2 0, 110, .inl f_39)), (m0, .inr (12, [.ref (am 0), .int v1, .int v2, .ref (am 3), .ref (am 4), .ref (am 5), .ref (am 6), .ref (am 7), .int v8, .int v9, .int v10, .int v11, .int v12, .int v13, .int v14, .ref (am 15), .int v16, .ref (am 17), .int v18, .ref (am 19), .ref (am 20), .int v21, .int v22, .int v23, .int v24, .int v25, .ref (am 26), .int v27, .ref (am 28), .ref (am 29), .ref (am 30), .ref (am 31), .long v32, .ref (am 33), .ref (am 34), .ref (am 35), .ref (am 36)]))] ++ wt) _ := hP
    have hD9 : va_D A ([((am 20), .inl (G.2.2 0, 110, .inl f_39)), (m0, .inr (12, [.ref (am 0), .int v1, .int v2, .ref (am 3), .ref (am 4), .ref (am 5), .ref (am 6), .ref (am 7), .int v8, .int v9, .int v10, .int v11, .int v12, .int v13, .int v14, .ref (am 15), .int v16, .ref (am 17), .int v18, .ref (am 19), .ref (am 20), .int v21, .int v22, .int v23, .int v24, .int v25, .ref (am 26), .int v27, .ref (am 28), .ref (am 29), .ref (am 30), .ref (am 31), .long v32, .ref (am 33), .ref (am 34), .ref (am 35), .ref (am 36)]))] ++ wt) := hD
    exact W.iret (v := 0) hx hb hr (gq_endI (f_39, wt) ⟨hT, hW, hSD, hKL⟩ hP9 hD9 hS) hS.2.2 dX12_log_14
set_option maxHeartbeats 4000000 in
set_option maxRecDepth 100000 in
theorem d_m_fillsLot (l : Launch) (G : gg_T) (Γ : Nat → Nat) (sz : Nat) (wt : va_W) (hT : tk_ty G Γ wt) (b : Int32) (w : Int32) (m0 : Nat) (am : Nat → Nat) (v1 : Int32) (v2 : Int32) (v8 : Int32) (v9 : Int32) (v10 : Int32) (v11 : Int32) (v12 : Int32) (v13 : Int32) (v14 : Int32) (v16 : Int32) (v18 : Int32) (v21 : Int32) (v22 : Int32) (v23 : Int32) (v24 : Int32) (v25 : Int32) (v27 : Int32) (v32 : Int64) (cs : Nat → Int32) (cl : Nat → Int32) (sg : Nat → Int32) (sd : Nat → Int32) (lo_b : 0 ≤ b.toInt) (hi_b : b.toInt ≤ 6) (lo_w : 0 ≤ w.toInt) (hi_w : w.toInt ≤ 2) (k17 : Γ (am 17) = 32) (k19 : Γ (am 19) = 30) (k30 : Γ (am 30) = 28) (k31 : Γ (am 31) = 28) (lo_v1 : 0 ≤ v1.toInt) (hi_v1 : v1.toInt ≤ 400) (lo_v2 : 0 ≤ v2.toInt) (hi_v2 : v2.toInt ≤ 6) (lo_v8 : 0 ≤ v8.toInt) (hi_v8 : v8.toInt ≤ 400) (lo_v11 : 0 ≤ v11.toInt) (hi_v11 : v11.toInt ≤ 6) (lo_v12 : 0 ≤ v12.toInt) (hi_v12 : v12.toInt ≤ 60) (lo_v16 : 0 ≤ v16.toInt) (hi_v16 : v16.toInt ≤ 400) (lo_v21 : -1 ≤ v21.toInt) (hi_v21 : v21.toInt ≤ 5) (lo_v23 : 0 ≤ v23.toInt) (hi_v23 : v23.toInt ≤ 31) (lo_v27 : 0 ≤ v27.toInt) (hi_v27 : v27.toInt ≤ 20) (xfr : v21.toInt < v2.toInt) (hRU : rRU cs cl sg v2.toInt) (hSD : SD sd) (hl2 : w.toInt < (sd 2).toInt) : Met l yX12_fillsLot (ts_L yX12_fillsLot cX12_fillsLot 4 none) ({ frames := 8, cells := 0, slots := 0, locals := 184 }) (gc_P G ([((am 6), .inl (G.2.2 0, 6, .inl cs)), ((am 5), .inl (G.2.2 0, 288, .inl cl)), ((am 3), .inl (G.2.2 0, 2400, .inl sg)), ((am 20), .inl (G.2.2 0, 110, .inl sd)), (m0, .inr (12, [.ref (am 0), .int v1, .int v2, .ref (am 3), .ref (am 4), .ref (am 5), .ref (am 6), .ref (am 7), .int v8, .int v9, .int v10, .int v11, .int v12, .int v13, .int v14, .ref (am 15), .int v16, .ref (am 17), .int v18, .ref (am 19), .ref (am 20), .int v21, .int v22, .int v23, .int v24, .int v25, .ref (am 26), .int v27, .ref (am 28), .ref (am 29), .ref (am 30), .ref (am 31), .long v32, .ref (am 33), .ref (am 34), .ref (am 35), .ref (am 36)]))] ++ wt) sz [.ref m0, .int b, .int w]) (gc_V G (va_A ([((am 6), .inl (G.2.2 0, 6, .inl cs)), ((am 5), .inl (G.2.2 0, 288, .inl cl)), ((am 3), .inl (G.2.2 0, 2400, .inl sg)), ((am 20), .inl (G.2.2 0, 110, .inl sd)), (m0, .inr (12, [.ref (am 0), .int v1, .int v2, .ref (am 3), .ref (am 4), .ref (am 5), .ref (am 6), .ref (am 7), .int v8, .int v9, .int v10, .int v11, .int v12, .int v13, .int v14, .ref (am 15), .int v16, .ref (am 17), .int v18, .ref (am 19), .ref (am 20), .int v21, .int v22, .int v23, .int v24, .int v25, .ref (am 26), .int v27, .ref (am 28), .ref (am 29), .ref (am 30), .ref (am 31), .long v32, .ref (am 33), .ref (am 34), .ref (am 35), .ref (am 36)]))] ++ wt) sz) (fun (u : (Int32) × (Int32) × (Nat → Int32) × va_W) => match u with | (w18, w23, sd1, wt1) => tk_ty G Γ wt1 ∧ tk_kp [] wt wt1 ∧ (0 ≤ w23.toInt) ∧ (w23.toInt ≤ 31) ∧ (SD sd1) ∧ (KH sd sd1)) (fun (u : (Int32) × (Int32) × (Nat → Int32) × va_W) => match u with | (w18, w23, sd1, wt1) => [((am 6), .inl (G.2.2 0, 6, .inl cs)), ((am 5), .inl (G.2.2 0, 288, .inl cl)), ((am 3), .inl (G.2.2 0, 2400, .inl sg)), ((am 20), .inl (G.2.2 0, 110, .inl sd1)), (m0, .inr (12, [.ref (am 0), .int v1, .int v2, .ref (am 3), .ref (am 4), .ref (am 5), .ref (am 6), .ref (am 7), .int v8, .int v9, .int v10, .int v11, .int v12, .int v13, .int v14, .ref (am 15), .int v16, .ref (am 17), .int w18, .ref (am 19), .ref (am 20), .int v21, .int v22, .int w23, .int v24, .int v25, .ref (am 26), .int v27, .ref (am 28), .ref (am 29), .ref (am 30), .ref (am 31), .long v32, .ref (am 33), .ref (am 34), .ref (am 35), .ref (am 36)]))] ++ wt1)) 0 0 (va_A ([((am 6), .inl (G.2.2 0, 6, .inl cs)), ((am 5), .inl (G.2.2 0, 288, .inl cl)), ((am 3), .inl (G.2.2 0, 2400, .inl sg)), ((am 20), .inl (G.2.2 0, 110, .inl sd)), (m0, .inr (12, [.ref (am 0), .int v1, .int v2, .ref (am 3), .ref (am 4), .ref (am 5), .ref (am 6), .ref (am 7), .int v8, .int v9, .int v10, .int v11, .int v12, .int v13, .int v14, .ref (am 15), .int v16, .ref (am 17), .int v18, .ref (am 19), .ref (am 20), .int v21, .int v22, .int v23, .int v24, .int v25, .ref (am 26), .int v27, .ref (am 28), .ref (am 29), .ref (am 30), .ref (am 31), .long v32, .ref (am 33), .ref (am 34), .ref (am 35), .ref (am 36)]))] ++ wt) sz) := by
  refine Met.ofW (cc := cX12_fillsLot) (maxL := 4) (ret := none) (by decide) rfl ?_
  intro p e s m args below meth c s₁ B hml hv
  obtain ⟨rfl, hsz, hP, hK, hD0⟩ := hv
  have hx := B.exec
  have hb := B.bytes
  have hr := B.returns
  have ht := ts_ht (atoms_spec (ws := ts_L yX12_fillsLot cX12_fillsLot 4 none) B.pre)
  have hown : s.vm.findClass RX12 = some m.cls := findClass_of_methodNamed B.named
  have hlocks := B.notSynchronized
  subst hsz
  have hD := hD0.self (sz := s.heap.size)
  generalize hAe : va_A ([((am 6), .inl (G.2.2 0, 6, .inl cs)), ((am 5), .inl (G.2.2 0, 288, .inl cl)), ((am 3), .inl (G.2.2 0, 2400, .inl sg)), ((am 20), .inl (G.2.2 0, 110, .inl sd)), (m0, .inr (12, [.ref (am 0), .int v1, .int v2, .ref (am 3), .ref (am 4), .ref (am 5), .ref (am 6), .ref (am 7), .int v8, .int v9, .int v10, .int v11, .int v12, .int v13, .int v14, .ref (am 15), .int v16, .ref (am 17), .int v18, .ref (am 19), .ref (am 20), .int v21, .int v22, .int v23, .int v24, .int v25, .ref (am 26), .int v27, .ref (am 28), .ref (am 29), .ref (am 30), .ref (am 31), .long v32, .ref (am 33), .ref (am 34), .ref (am 35), .ref (am 36)]))] ++ wt) s.heap.size = A at hD ⊢
  have hA : ∀ q : Nat, s.heap.size ≤ q → A q := fun q h => by rw [← hAe]; exact Or.inr h
  clear hAe hD0
  have hS : va_S A s.heap s.heap [] := va_S.rf
  obtain ⟨w0, hw0⟩ : ∃ z, z = wt := ⟨_, rfl⟩
  have hW : tk_kp [] w0 wt := by rw [hw0]; exact tk_kp.rf
  rw [← hw0]
  clear hw0
  have hP : va_P (gg_D G) classes ([((am 6), .inl (G.2.2 0, 6, .inl cs)), ((am 5), .inl (G.2.2 0, 288, .inl cl)), ((am 3), .inl (G.2.2 0, 2400, .inl sg)), ((am 20), .inl (G.2.2 0, 110, .inl sd)), (m0, .inr (12, [.ref (am 0), .int v1, .int v2, .ref (am 3), .ref (am 4), .ref (am 5), .ref (am 6), .ref (am 7), .int v8, .int v9, .int v10, .int v11, .int v12, .int v13, .int v14, .ref (am 15), .int v16, .ref (am 17), .int v18, .ref (am 19), .ref (am 20), .int v21, .int v22, .int v23, .int v24, .int v25, .ref (am 26), .int v27, .ref (am 28), .ref (am 29), .ref (am 30), .ref (am 31), .long v32, .ref (am 33), .ref (am 34), .ref (am 35), .ref (am 36)]))] ++ wt) s.heap := hP
  have hD : va_D A ([((am 6), .inl (G.2.2 0, 6, .inl cs)), ((am 5), .inl (G.2.2 0, 288, .inl cl)), ((am 3), .inl (G.2.2 0, 2400, .inl sg)), ((am 20), .inl (G.2.2 0, 110, .inl sd)), (m0, .inr (12, [.ref (am 0), .int v1, .int v2, .ref (am 3), .ref (am 4), .ref (am 5), .ref (am 6), .ref (am 7), .int v8, .int v9, .int v10, .int v11, .int v12, .int v13, .int v14, .ref (am 15), .int v16, .ref (am 17), .int v18, .ref (am 19), .ref (am 20), .int v21, .int v22, .int v23, .int v24, .int v25, .ref (am 26), .int v27, .ref (am 28), .ref (am 29), .ref (am 30), .ref (am 31), .long v32, .ref (am 33), .ref (am 34), .ref (am 35), .ref (am 36)]))] ++ wt) := hD
  have hl := lv_entry ([.ref m0, .int b, .int w]) (n := 4) (Nat.le_of_ble_eq_true rfl)
  rw [lg_entry_eq]
  generalize (lg_sl ([.ref m0, .int b, .int w]) ++ List.replicate (4 - (lg_sl ([.ref m0, .int b, .int w])).length) Slot.unset).toArray = ls at hl ⊢
  have hl : lv_has ls 4 [(0, .ref m0), (1, .int b), (2, .int w)] := hl
  have hKH : KH sd sd := KH.rf
  have l0 : (0 : Int32).toInt = 0 := by decide +kernel
  have l1 : (1 : Int32).toInt = 1 := by decide +kernel
  have l2 : (2 : Int32).toInt = 2 := by decide +kernel
  have l3 : (3 : Int32).toInt = 3 := by decide +kernel
  have l5 : (5 : Int32).toInt = 5 := by decide +kernel
  have l11 : (11 : Int32).toInt = 11 := by decide +kernel
  refine lv_aload_n hx hb dX12_fillsLot_0 rfl (lv_at hl 0 rfl) ?_
  have hP : va_P (gg_D G) classes ([((am 6), .inl (G.2.2 0, 6, .inl cs)), ((am 5), .inl (G.2.2 0, 288, .inl cl)), ((am 3), .inl (G.2.2 0, 2400, .inl sg))] ++ ([((am 20), .inl (G.2.2 0, 110, .inl sd)), (m0, .inr (12, [.ref (am 0), .int v1, .int v2, .ref (am 3), .ref (am 4), .ref (am 5), .ref (am 6), .ref (am 7), .int v8, .int v9, .int v10, .int v11, .int v12, .int v13, .int v14, .ref (am 15), .int v16, .ref (am 17), .int v18, .ref (am 19), .ref (am 20), .int v21, .int v22, .int v23, .int v24, .int v25, .ref (am 26), .int v27, .ref (am 28), .ref (am 29), .ref (am 30), .ref (am 31), .long v32, .ref (am 33), .ref (am 34), .ref (am 35), .ref (am 36)]))] ++ wt)) s.heap := hP
  have hD : va_D A ([((am 6), .inl (G.2.2 0, 6, .inl cs)), ((am 5), .inl (G.2.2 0, 288, .inl cl)), ((am 3), .inl (G.2.2 0, 2400, .inl sg))] ++ ([((am 20), .inl (G.2.2 0, 110, .inl sd)), (m0, .inr (12, [.ref (am 0), .int v1, .int v2, .ref (am 3), .ref (am 4), .ref (am 5), .ref (am 6), .ref (am 7), .int v8, .int v9, .int v10, .int v11, .int v12, .int v13, .int v14, .ref (am 15), .int v16, .ref (am 17), .int v18, .ref (am 19), .ref (am 20), .int v21, .int v22, .int v23, .int v24, .int v25, .ref (am 26), .int v27, .ref (am 28), .ref (am 29), .ref (am 30), .ref (am 31), .long v32, .ref (am 33), .ref (am 34), .ref (am 35), .ref (am 36)]))] ++ wt)) := hD
  refine gt_callV (wr := [((am 6), .inl (G.2.2 0, 6, .inl cs)), ((am 5), .inl (G.2.2 0, 288, .inl cl)), ((am 3), .inl (G.2.2 0, 2400, .inl sg))]) (va_runV (As := []) (rest := []) ⟨hx, hb, hml, hown, ht⟩ (d_m_startsAnew l G Γ s.heap.size wt hT m0 am v1 v2 v8 v9 v10 v11 v12 v13 v14 v16 v18 v21 v22 v23 v24 v25 v27 v32 sd (by first | assumption | exact hSD.1 | exact hSD.w _ | (rw [hKH 2 (by omega)]; exact hKP) | omega) (by first | assumption | exact hSD.1 | exact hSD.w _ | (rw [hKH 2 (by omega)]; exact hKP) | omega) (by first | assumption | exact hSD.1 | exact hSD.w _ | (rw [hKH 2 (by omega)]; exact hKP) | omega) (by first | assumption | exact hSD.1 | exact hSD.w _ | (rw [hKH 2 (by omega)]; exact hKP) | omega) (by first | assumption | exact hSD.1 | exact hSD.w _ | (rw [hKH 2 (by omega)]; exact hKP) | omega) (by first | assumption | exact hSD.1 | exact hSD.w _ | (rw [hKH 2 (by omega)]; exact hKP) | omega) (by first | assumption | exact hSD.1 | exact hSD.w _ | (rw [hKH 2 (by omega)]; exact hKP) | omega) (by first | assumption | exact hSD.1 | exact hSD.w _ | (rw [hKH 2 (by omega)]; exact hKP) | omega) (by first | assumption | exact hSD.1 | exact hSD.w _ | (rw [hKH 2 (by omega)]; exact hKP) | omega) (by first | assumption | exact hSD.1 | exact hSD.w _ | (rw [hKH 2 (by omega)]; exact hKP) | omega) (by first | assumption | exact hSD.1 | exact hSD.w _ | (rw [hKH 2 (by omega)]; exact hKP) | omega) (by first | assumption | exact hSD.1 | exact hSD.w _ | (rw [hKH 2 (by omega)]; exact hKP) | omega) (by first | assumption | exact hSD.1 | exact hSD.w _ | (rw [hKH 2 (by omega)]; exact hKP) | omega) (by first | assumption | exact hSD.1 | exact hSD.w _ | (rw [hKH 2 (by omega)]; exact hKP) | omega) (by first | assumption | exact hSD.1 | exact hSD.w _ | (rw [hKH 2 (by omega)]; exact hKP) | omega) (by first | assumption | exact hSD.1 | exact hSD.w _ | (rw [hKH 2 (by omega)]; exact hKP) | omega) (by first | assumption | exact hSD.1 | exact hSD.w _ | (rw [hKH 2 (by omega)]; exact hKP) | omega) (by first | assumption | exact hSD.1 | exact hSD.w _ | (rw [hKH 2 (by omega)]; exact hKP) | omega) (by first | assumption | exact hSD.1 | exact hSD.w _ | (rw [hKH 2 (by omega)]; exact hKP) | omega) (by first | assumption | exact hSD.1 | exact hSD.w _ | (rw [hKH 2 (by omega)]; exact hKP) | omega) (by first | assumption | exact hSD.1 | exact hSD.w _ | (rw [hKH 2 (by omega)]; exact hKP) | omega) (by first | assumption | exact hSD.1 | exact hSD.w _ | (rw [hKH 2 (by omega)]; exact hKP) | omega) (by first | assumption | exact hSD.1 | exact hSD.w _ | (rw [hKH 2 (by omega)]; exact hKP) | omega) (by first | assumption | exact hSD.1 | exact hSD.w _ | (rw [hKH 2 (by omega)]; exact hKP) | omega)) (cwV 0 ht (ts_gV wd_1537 wd_1539 wd_71 wd_134 wd_1540) rfl rfl rfl (by decide +kernel) ⟨Nat.le_of_ble_eq_true rfl, Nat.le_of_ble_eq_true rfl⟩) (gc_preV (ci := 12) (q0 := 1) hK (tw_right hP) (tw_rightD hD) rfl rfl) rfl rfl hl.1 rfl (lv_room (Nat.le_of_ble_eq_true rfl)) dX12_fillsLot_1 ⟨Nat.le_of_ble_eq_true rfl, Nat.le_of_ble_eq_true rfl⟩) hP hD hS hA (fun u H locs hw hP hD hS => ?_)
  obtain ⟨y_1, wt⟩ := u
  obtain ⟨hT, hkp, w_2, w_3, w_4⟩ := hw
  have hW := hW.call (show ∀ x ∈ [], x ∈ [] by decide) hkp
  have hP : va_P (gg_D G) classes ([((am 6), .inl (G.2.2 0, 6, .inl cs)), ((am 5), .inl (G.2.2 0, 288, .inl cl)), ((am 3), .inl (G.2.2 0, 2400, .inl sg)), ((am 20), .inl (G.2.2 0, 110, .inl y_1)), (m0, .inr (12, [.ref (am 0), .int v1, .int v2, .ref (am 3), .ref (am 4), .ref (am 5), .ref (am 6), .ref (am 7), .int v8, .int v9, .int v10, .int v11, .int v12, .int v13, .int v14, .ref (am 15), .int v16, .ref (am 17), .int v18, .ref (am 19), .ref (am 20), .int v21, .int v22, .int v23, .int v24, .int v25, .ref (am 26), .int v27, .ref (am 28), .ref (am 29), .ref (am 30), .ref (am 31), .long v32, .ref (am 33), .ref (am 34), .ref (am 35), .ref (am 36)]))] ++ wt) H := hP
  have hD : va_D A ([((am 6), .inl (G.2.2 0, 6, .inl cs)), ((am 5), .inl (G.2.2 0, 288, .inl cl)), ((am 3), .inl (G.2.2 0, 2400, .inl sg)), ((am 20), .inl (G.2.2 0, 110, .inl y_1)), (m0, .inr (12, [.ref (am 0), .int v1, .int v2, .ref (am 3), .ref (am 4), .ref (am 5), .ref (am 6), .ref (am 7), .int v8, .int v9, .int v10, .int v11, .int v12, .int v13, .int v14, .ref (am 15), .int v16, .ref (am 17), .int v18, .ref (am 19), .ref (am 20), .int v21, .int v22, .int v23, .int v24, .int v25, .ref (am 26), .int v27, .ref (am 28), .ref (am 29), .ref (am 30), .ref (am 31), .long v32, .ref (am 33), .ref (am 34), .ref (am 35), .ref (am 36)]))] ++ wt) := hD
  have c_SD := w_2
  have hSD := w_2
  have c_KH := w_3
  have hKH := hKH.tr w_3
  have c_SZ := w_4
  have hSZ := c_SZ
  refine lv_iconst (v := 0) hx hb dX12_fillsLot_4 (by decide +kernel) ?_
  refine lv_istore_n (lv' := [(3, .int 0), (0, .ref m0), (1, .int b), (2, .int w)]) hx hb dX12_fillsLot_5 rfl hl (by decide) rfl (fun ls hl => ?_)
  refine tl_loopE (Γ := Γ) (nL := 4) (fun (zz_ : Int32 × (Nat → Int32)) => match zz_ with | (x6_0, g6_0) => (0 ≤ x6_0.toInt) ∧ (x6_0.toInt ≤ 5) ∧ (SD g6_0) ∧ (KH sd g6_0) ∧ (∀ l : Nat, l < 3 → (g6_0 (36 + 4 * l)).toInt = 0)) (fun (zz_ : Int32 × (Nat → Int32)) => match zz_ with | (x6_0, g6_0) => (5 - x6_0.toInt).toNat) (fun (zz_ : Int32 × (Nat → Int32)) => match zz_ with | (x6_0, g6_0) => [(3, .int x6_0), (0, .ref m0), (1, .int b), (2, .int w)]) (fun (zz_ : Int32 × (Nat → Int32)) => match zz_ with | (x6_0, g6_0) => [((am 6), .inl (G.2.2 0, 6, .inl cs)), ((am 5), .inl (G.2.2 0, 288, .inl cl)), ((am 3), .inl (G.2.2 0, 2400, .inl sg)), ((am 20), .inl (G.2.2 0, 110, .inl g6_0)), (m0, .inr (12, [.ref (am 0), .int v1, .int v2, .ref (am 3), .ref (am 4), .ref (am 5), .ref (am 6), .ref (am 7), .int v8, .int v9, .int v10, .int v11, .int v12, .int v13, .int v14, .ref (am 15), .int v16, .ref (am 17), .int v18, .ref (am 19), .ref (am 20), .int v21, .int v22, .int v23, .int v24, .int v25, .ref (am 26), .int v27, .ref (am 28), .ref (am 29), .ref (am 30), .ref (am 31), .long v32, .ref (am 33), .ref (am 34), .ref (am 35), .ref (am 36)]))]) (fun (zz_ : Int32 × (Nat → Int32)) (w : va_W) => match zz_ with | (x6_0, g6_0) => tk_kp [] w0 w) (fun zz_ hI H locs wt ls hT hW hP hD hS hl ih6 => ?_) (0, y_1) (show (0 ≤ (0 : Int32).toInt) ∧ ((0 : Int32).toInt ≤ 5) ∧ (SD y_1) ∧ (KH sd y_1) ∧ (∀ l : Nat, l < 3 → (y_1 (36 + 4 * l)).toInt = 0) from ⟨by omega, by omega, hSD, hKH, hSZ⟩) _ _ wt ls hT hW hP hD hS hl
  obtain ⟨x6_0, g6_0⟩ := zz_
  have hW : tk_kp [] w0 wt := hW
  have hI : (0 ≤ x6_0.toInt) ∧ (x6_0.toInt ≤ 5) ∧ (SD g6_0) ∧ (KH sd g6_0) ∧ (∀ l : Nat, l < 3 → (g6_0 (36 + 4 * l)).toInt = 0) := hI
  obtain ⟨j6_0, j6_1, hSD, hKH, hSZ⟩ := hI
  have hl : lv_has ls 4 [(3, .int x6_0), (0, .ref m0), (1, .int b), (2, .int w)] := hl
  have hP : va_P (gg_D G) classes ([((am 6), .inl (G.2.2 0, 6, .inl cs)), ((am 5), .inl (G.2.2 0, 288, .inl cl)), ((am 3), .inl (G.2.2 0, 2400, .inl sg)), ((am 20), .inl (G.2.2 0, 110, .inl g6_0)), (m0, .inr (12, [.ref (am 0), .int v1, .int v2, .ref (am 3), .ref (am 4), .ref (am 5), .ref (am 6), .ref (am 7), .int v8, .int v9, .int v10, .int v11, .int v12, .int v13, .int v14, .ref (am 15), .int v16, .ref (am 17), .int v18, .ref (am 19), .ref (am 20), .int v21, .int v22, .int v23, .int v24, .int v25, .ref (am 26), .int v27, .ref (am 28), .ref (am 29), .ref (am 30), .ref (am 31), .long v32, .ref (am 33), .ref (am 34), .ref (am 35), .ref (am 36)]))] ++ wt) H := hP
  have hD : va_D A ([((am 6), .inl (G.2.2 0, 6, .inl cs)), ((am 5), .inl (G.2.2 0, 288, .inl cl)), ((am 3), .inl (G.2.2 0, 2400, .inl sg)), ((am 20), .inl (G.2.2 0, 110, .inl g6_0)), (m0, .inr (12, [.ref (am 0), .int v1, .int v2, .ref (am 3), .ref (am 4), .ref (am 5), .ref (am 6), .ref (am 7), .int v8, .int v9, .int v10, .int v11, .int v12, .int v13, .int v14, .ref (am 15), .int v16, .ref (am 17), .int v18, .ref (am 19), .ref (am 20), .int v21, .int v22, .int v23, .int v24, .int v25, .ref (am 26), .int v27, .ref (am 28), .ref (am 29), .ref (am 30), .ref (am 31), .long v32, .ref (am 33), .ref (am 34), .ref (am 35), .ref (am 36)]))] ++ wt) := hD
  refine lv_iload_n hx hb dX12_fillsLot_6 rfl (lv_at hl 0 rfl) ?_
  refine lv_aload_n hx hb dX12_fillsLot_7 rfl (lv_at hl 1 rfl) ?_
  refine gq_get hx hb ht hown hK hP i_X12 4 rfl rfl 20 (by decide) wd_1272 rfl rfl dX12_fillsLot_8 ?_
  refine lv_iconst (v := 1) hx hb dX12_fillsLot_11 (by decide +kernel) ?_
  obtain ⟨n_5, en_5⟩ : ∃ zz_ : Int32, g6_0 (Int32.toNatClampNeg 1) = zz_ := ⟨_, rfl⟩
  refine gq_iald hx hb hK hP 3 rfl n_5 (ia_in (n := 110) (by omega) (by omega)) en_5 dX12_fillsLot_12 ?_
  have En_5 : g6_0 (1) = n_5 := by rw [← show Int32.toNatClampNeg 1 = 1 from ix_n (by omega)]; exact en_5
  have hn_5 : (g6_0 (1)).toInt = n_5.toInt := by rw [En_5]
  have gn_5 := hSD.r1
  refine lv_icmp_ge (tgt := 36) hx hb dX12_fillsLot_13 (by decide) (fun c_6 => ?_) (fun c_6 => ?_)
  · rw [Int32.le_iff_toInt_le] at c_6
    refine lv_aload_n hx hb dX12_fillsLot_36 rfl (lv_at hl 1 rfl) ?_
    refine gq_get hx hb ht hown hK hP i_X12 4 rfl rfl 20 (by decide) wd_1272 rfl rfl dX12_fillsLot_37 ?_
    refine lv_iconst (v := 1) hx hb dX12_fillsLot_40 (by decide +kernel) ?_
    refine gq_iald hx hb hK hP 3 rfl n_5 (ia_in (n := 110) (by omega) (by omega)) en_5 dX12_fillsLot_41 ?_
    have En_5 : g6_0 (1) = n_5 := by rw [← show Int32.toNatClampNeg 1 = 1 from ix_n (by omega)]; exact en_5
    have hn_5 : (g6_0 (1)).toInt = n_5.toInt := by rw [En_5]
    have gn_5 := hSD.r1
    refine lv_if_le (tgt := 50) hx hb dX12_fillsLot_42 (by decide) (fun c_7 => ?_) (fun c_7 => ?_)
    · rw [Int32.le_iff_toInt_le] at c_7
      refine lv_aload_n hx hb dX12_fillsLot_50 rfl (lv_at hl 1 rfl) ?_
      refine lv_iload_n hx hb dX12_fillsLot_51 rfl (lv_at hl 3 rfl) ?_
      have hP : va_P (gg_D G) classes ([] ++ ([((am 6), .inl (G.2.2 0, 6, .inl cs)), ((am 5), .inl (G.2.2 0, 288, .inl cl)), ((am 3), .inl (G.2.2 0, 2400, .inl sg)), ((am 20), .inl (G.2.2 0, 110, .inl g6_0)), (m0, .inr (12, [.ref (am 0), .int v1, .int v2, .ref (am 3), .ref (am 4), .ref (am 5), .ref (am 6), .ref (am 7), .int v8, .int v9, .int v10, .int v11, .int v12, .int v13, .int v14, .ref (am 15), .int v16, .ref (am 17), .int v18, .ref (am 19), .ref (am 20), .int v21, .int v22, .int v23, .int v24, .int v25, .ref (am 26), .int v27, .ref (am 28), .ref (am 29), .ref (am 30), .ref (am 31), .long v32, .ref (am 33), .ref (am 34), .ref (am 35), .ref (am 36)]))] ++ wt)) H := hP
      have hD : va_D A ([] ++ ([((am 6), .inl (G.2.2 0, 6, .inl cs)), ((am 5), .inl (G.2.2 0, 288, .inl cl)), ((am 3), .inl (G.2.2 0, 2400, .inl sg)), ((am 20), .inl (G.2.2 0, 110, .inl g6_0)), (m0, .inr (12, [.ref (am 0), .int v1, .int v2, .ref (am 3), .ref (am 4), .ref (am 5), .ref (am 6), .ref (am 7), .int v8, .int v9, .int v10, .int v11, .int v12, .int v13, .int v14, .ref (am 15), .int v16, .ref (am 17), .int v18, .ref (am 19), .ref (am 20), .int v21, .int v22, .int v23, .int v24, .int v25, .ref (am 26), .int v27, .ref (am 28), .ref (am 29), .ref (am 30), .ref (am 31), .long v32, .ref (am 33), .ref (am 34), .ref (am 35), .ref (am 36)]))] ++ wt)) := hD
      refine gt_callI (wr := []) (va_runV (As := [.int w]) (rest := []) ⟨hx, hb, hml, hown, ht⟩ (d_m_tillOver l G Γ H.size wt hT w m0 am v1 v2 v8 v9 v10 v11 v12 v13 v14 v16 v18 v21 v22 v23 v24 v25 v27 v32 cs cl sg g6_0 (by omega) (by omega) (by first | assumption | exact hSD.1 | exact hSD.w _ | (rw [hKH 2 (by omega)]; exact hKP) | omega) (by first | assumption | exact hSD.1 | exact hSD.w _ | (rw [hKH 2 (by omega)]; exact hKP) | omega) (by first | assumption | exact hSD.1 | exact hSD.w _ | (rw [hKH 2 (by omega)]; exact hKP) | omega) (by first | assumption | exact hSD.1 | exact hSD.w _ | (rw [hKH 2 (by omega)]; exact hKP) | omega) (by first | assumption | exact hSD.1 | exact hSD.w _ | (rw [hKH 2 (by omega)]; exact hKP) | omega) (by first | assumption | exact hSD.1 | exact hSD.w _ | (rw [hKH 2 (by omega)]; exact hKP) | omega) (by first | assumption | exact hSD.1 | exact hSD.w _ | (rw [hKH 2 (by omega)]; exact hKP) | omega) (by first | assumption | exact hSD.1 | exact hSD.w _ | (rw [hKH 2 (by omega)]; exact hKP) | omega) (by first | assumption | exact hSD.1 | exact hSD.w _ | (rw [hKH 2 (by omega)]; exact hKP) | omega) (by first | assumption | exact hSD.1 | exact hSD.w _ | (rw [hKH 2 (by omega)]; exact hKP) | omega) (by first | assumption | exact hSD.1 | exact hSD.w _ | (rw [hKH 2 (by omega)]; exact hKP) | omega) (by first | assumption | exact hSD.1 | exact hSD.w _ | (rw [hKH 2 (by omega)]; exact hKP) | omega) (by first | assumption | exact hSD.1 | exact hSD.w _ | (rw [hKH 2 (by omega)]; exact hKP) | omega) (by first | assumption | exact hSD.1 | exact hSD.w _ | (rw [hKH 2 (by omega)]; exact hKP) | omega) (by first | assumption | exact hSD.1 | exact hSD.w _ | (rw [hKH 2 (by omega)]; exact hKP) | omega) (by first | assumption | exact hSD.1 | exact hSD.w _ | (rw [hKH 2 (by omega)]; exact hKP) | omega) (by first | assumption | exact hSD.1 | exact hSD.w _ | (rw [hKH 2 (by omega)]; exact hKP) | omega) (by first | assumption | exact hSD.1 | exact hSD.w _ | (rw [hKH 2 (by omega)]; exact hKP) | omega) (by first | assumption | exact hSD.1 | exact hSD.w _ | (rw [hKH 2 (by omega)]; exact hKP) | omega) (by first | assumption | exact hSD.1 | exact hSD.w _ | (rw [hKH 2 (by omega)]; exact hKP) | omega) (by first | assumption | exact hSD.1 | exact hSD.w _ | (rw [hKH 2 (by omega)]; exact hKP) | omega) (by first | assumption | exact hSD.1 | exact hSD.w _ | (rw [hKH 2 (by omega)]; exact hKP) | omega) (by first | assumption | exact hSD.1 | exact hSD.w _ | (rw [hKH 2 (by omega)]; exact hKP) | omega) (by first | assumption | exact hSD.1 | exact hSD.w _ | (rw [hKH 2 (by omega)]; exact hKP) | omega) (by first | assumption | exact hSD.1 | exact hSD.w _ | (rw [hKH 2 (by omega)]; exact hKP) | omega)) (cwV 1 ht (ts_gV wd_1738 wd_1740 wd_105 wd_134 wd_1741) rfl rfl rfl (by decide +kernel) ⟨Nat.le_of_ble_eq_true rfl, Nat.le_of_ble_eq_true rfl⟩) (gc_preV (ci := 12) (q0 := 4) hK (tw_right hP) (tw_rightD hD) rfl rfl) rfl rfl hl.1 rfl (lv_room (Nat.le_of_ble_eq_true rfl)) dX12_fillsLot_52 ⟨Nat.le_of_ble_eq_true rfl, Nat.le_of_ble_eq_true rfl⟩) hP hD hS hA (fun r_8 u H locs hw hP hD hS => ?_)
      obtain ⟨y_9, y_10, y_11, wt⟩ := u
      obtain ⟨hT, hkp, w_12, w_13, w_14, w_15⟩ := hw
      have hW := hW.call (show ∀ x ∈ [], x ∈ [] by decide) hkp
      have hP : va_P (gg_D G) classes ([((am 6), .inl (G.2.2 0, 6, .inl cs)), ((am 5), .inl (G.2.2 0, 288, .inl cl)), ((am 3), .inl (G.2.2 0, 2400, .inl sg)), ((am 20), .inl (G.2.2 0, 110, .inl y_11)), (m0, .inr (12, [.ref (am 0), .int v1, .int v2, .ref (am 3), .ref (am 4), .ref (am 5), .ref (am 6), .ref (am 7), .int v8, .int v9, .int v10, .int v11, .int v12, .int v13, .int v14, .ref (am 15), .int v16, .ref (am 17), .int y_9, .ref (am 19), .ref (am 20), .int v21, .int v22, .int y_10, .int v24, .int v25, .ref (am 26), .int v27, .ref (am 28), .ref (am 29), .ref (am 30), .ref (am 31), .long v32, .ref (am 33), .ref (am 34), .ref (am 35), .ref (am 36)]))] ++ wt) H := hP
      have hD : va_D A ([((am 6), .inl (G.2.2 0, 6, .inl cs)), ((am 5), .inl (G.2.2 0, 288, .inl cl)), ((am 3), .inl (G.2.2 0, 2400, .inl sg)), ((am 20), .inl (G.2.2 0, 110, .inl y_11)), (m0, .inr (12, [.ref (am 0), .int v1, .int v2, .ref (am 3), .ref (am 4), .ref (am 5), .ref (am 6), .ref (am 7), .int v8, .int v9, .int v10, .int v11, .int v12, .int v13, .int v14, .ref (am 15), .int v16, .ref (am 17), .int y_9, .ref (am 19), .ref (am 20), .int v21, .int v22, .int y_10, .int v24, .int v25, .ref (am 26), .int v27, .ref (am 28), .ref (am 29), .ref (am 30), .ref (am 31), .long v32, .ref (am 33), .ref (am 34), .ref (am 35), .ref (am 36)]))] ++ wt) := hD
      have c_SD := w_14
      have hSD := w_14
      have c_KH := w_15
      have hKH := hKH.tr w_15
      refine lv_pop hx hb dX12_fillsLot_55 rfl ?_
      refine lv_aload_n hx hb dX12_fillsLot_56 rfl (lv_at hl 1 rfl) ?_
      refine gq_get hx hb ht hown hK hP i_X12 4 rfl rfl 30 (by decide) wd_1282 rfl rfl dX12_fillsLot_57 ?_
      refine lv_iconst (v := 3) hx hb dX12_fillsLot_60 (by decide +kernel) ?_
      refine lv_iload_n hx hb dX12_fillsLot_61 rfl (lv_at hl 2 rfl) ?_
      obtain ⟨t_16, et_16⟩ : ∃ zz_ : Int32, 3 * b = zz_ := ⟨_, rfl⟩
      refine gq_imul hx hb t_16 et_16 dX12_fillsLot_62 ?_
      have ft_16 := ia_mul et_16 (by rw [l3]; omega) (by rw [l3]; omega)
      rw [l3] at ft_16
      refine lv_iload_n hx hb dX12_fillsLot_63 rfl (lv_at hl 3 rfl) ?_
      obtain ⟨t_17, et_17⟩ : ∃ zz_ : Int32, t_16 + w = zz_ := ⟨_, rfl⟩
      refine gq_iadd hx hb t_17 et_17 dX12_fillsLot_64 ?_
      have ft_17 := ia_add et_17 (by omega) (by omega)
      refine lv_aload_n hx hb dX12_fillsLot_65 rfl (lv_at hl 1 rfl) ?_
      refine lv_iload_n hx hb dX12_fillsLot_66 rfl (lv_at hl 3 rfl) ?_
      refine lv_iconst (v := 2) hx hb dX12_fillsLot_67 (by decide +kernel) ?_
      have hP : va_P (gg_D G) classes ([((am 6), .inl (G.2.2 0, 6, .inl cs)), ((am 5), .inl (G.2.2 0, 288, .inl cl)), ((am 3), .inl (G.2.2 0, 2400, .inl sg))] ++ ([((am 20), .inl (G.2.2 0, 110, .inl y_11)), (m0, .inr (12, [.ref (am 0), .int v1, .int v2, .ref (am 3), .ref (am 4), .ref (am 5), .ref (am 6), .ref (am 7), .int v8, .int v9, .int v10, .int v11, .int v12, .int v13, .int v14, .ref (am 15), .int v16, .ref (am 17), .int y_9, .ref (am 19), .ref (am 20), .int v21, .int v22, .int y_10, .int v24, .int v25, .ref (am 26), .int v27, .ref (am 28), .ref (am 29), .ref (am 30), .ref (am 31), .long v32, .ref (am 33), .ref (am 34), .ref (am 35), .ref (am 36)]))] ++ wt)) H := hP
      have hD : va_D A ([((am 6), .inl (G.2.2 0, 6, .inl cs)), ((am 5), .inl (G.2.2 0, 288, .inl cl)), ((am 3), .inl (G.2.2 0, 2400, .inl sg))] ++ ([((am 20), .inl (G.2.2 0, 110, .inl y_11)), (m0, .inr (12, [.ref (am 0), .int v1, .int v2, .ref (am 3), .ref (am 4), .ref (am 5), .ref (am 6), .ref (am 7), .int v8, .int v9, .int v10, .int v11, .int v12, .int v13, .int v14, .ref (am 15), .int v16, .ref (am 17), .int y_9, .ref (am 19), .ref (am 20), .int v21, .int v22, .int y_10, .int v24, .int v25, .ref (am 26), .int v27, .ref (am 28), .ref (am 29), .ref (am 30), .ref (am 31), .long v32, .ref (am 33), .ref (am 34), .ref (am 35), .ref (am 36)]))] ++ wt)) := hD
      refine gt_callI (wr := [((am 6), .inl (G.2.2 0, 6, .inl cs)), ((am 5), .inl (G.2.2 0, 288, .inl cl)), ((am 3), .inl (G.2.2 0, 2400, .inl sg))]) (va_runV (As := [.int w, .int 2]) (rest := [.int t_17, .ref (am 30)]) ⟨hx, hb, hml, hown, ht⟩ (d_m_lot2 l G Γ H.size wt hT w m0 am v1 v2 v8 v9 v10 v11 v12 v13 v14 v16 y_9 v21 v22 y_10 v24 v25 v27 v32 y_11 (by omega) (by omega) (by first | assumption | exact hSD.1 | exact hSD.w _ | (rw [hKH 2 (by omega)]; exact hKP) | omega) (by first | assumption | exact hSD.1 | exact hSD.w _ | (rw [hKH 2 (by omega)]; exact hKP) | omega) (by first | assumption | exact hSD.1 | exact hSD.w _ | (rw [hKH 2 (by omega)]; exact hKP) | omega) (by first | assumption | exact hSD.1 | exact hSD.w _ | (rw [hKH 2 (by omega)]; exact hKP) | omega) (by first | assumption | exact hSD.1 | exact hSD.w _ | (rw [hKH 2 (by omega)]; exact hKP) | omega) (by first | assumption | exact hSD.1 | exact hSD.w _ | (rw [hKH 2 (by omega)]; exact hKP) | omega) (by first | assumption | exact hSD.1 | exact hSD.w _ | (rw [hKH 2 (by omega)]; exact hKP) | omega) (by first | assumption | exact hSD.1 | exact hSD.w _ | (rw [hKH 2 (by omega)]; exact hKP) | omega) (by first | assumption | exact hSD.1 | exact hSD.w _ | (rw [hKH 2 (by omega)]; exact hKP) | omega) (by first | assumption | exact hSD.1 | exact hSD.w _ | (rw [hKH 2 (by omega)]; exact hKP) | omega) (by first | assumption | exact hSD.1 | exact hSD.w _ | (rw [hKH 2 (by omega)]; exact hKP) | omega) (by first | assumption | exact hSD.1 | exact hSD.w _ | (rw [hKH 2 (by omega)]; exact hKP) | omega) (by first | assumption | exact hSD.1 | exact hSD.w _ | (rw [hKH 2 (by omega)]; exact hKP) | omega) (by first | assumption | exact hSD.1 | exact hSD.w _ | (rw [hKH 2 (by omega)]; exact hKP) | omega) (by first | assumption | exact hSD.1 | exact hSD.w _ | (rw [hKH 2 (by omega)]; exact hKP) | omega) (by first | assumption | exact hSD.1 | exact hSD.w _ | (rw [hKH 2 (by omega)]; exact hKP) | omega) (by first | assumption | exact hSD.1 | exact hSD.w _ | (rw [hKH 2 (by omega)]; exact hKP) | omega) (by first | assumption | exact hSD.1 | exact hSD.w _ | (rw [hKH 2 (by omega)]; exact hKP) | omega) (by first | assumption | exact hSD.1 | exact hSD.w _ | (rw [hKH 2 (by omega)]; exact hKP) | omega) (by first | assumption | exact hSD.1 | exact hSD.w _ | (rw [hKH 2 (by omega)]; exact hKP) | omega) (by first | assumption | exact hSD.1 | exact hSD.w _ | (rw [hKH 2 (by omega)]; exact hKP) | omega) (by first | assumption | exact hSD.1 | exact hSD.w _ | (rw [hKH 2 (by omega)]; exact hKP) | omega) (by first | assumption | exact hSD.1 | exact hSD.w _ | (rw [hKH 2 (by omega)]; exact hKP) | omega)) (cwV 2 ht (ts_gV wd_1566 wd_1568 wd_76 wd_134 wd_1569) rfl rfl rfl (by decide +kernel) ⟨Nat.le_of_ble_eq_true rfl, Nat.le_of_ble_eq_true rfl⟩) (gc_preV (ci := 12) (q0 := 1) hK (tw_right hP) (tw_rightD hD) rfl rfl) rfl rfl hl.1 rfl (lv_room (Nat.le_of_ble_eq_true rfl)) dX12_fillsLot_68 ⟨Nat.le_of_ble_eq_true rfl, Nat.le_of_ble_eq_true rfl⟩) hP hD hS hA (fun r_18 wt H locs hw hP hD hS => ?_)
      obtain ⟨hT, hkp, rp_r_18⟩ := hw
      have hW := hW.call (show ∀ x ∈ [], x ∈ [] by decide) hkp
      have hP : va_P (gg_D G) classes ([((am 6), .inl (G.2.2 0, 6, .inl cs)), ((am 5), .inl (G.2.2 0, 288, .inl cl)), ((am 3), .inl (G.2.2 0, 2400, .inl sg)), ((am 20), .inl (G.2.2 0, 110, .inl y_11)), (m0, .inr (12, [.ref (am 0), .int v1, .int v2, .ref (am 3), .ref (am 4), .ref (am 5), .ref (am 6), .ref (am 7), .int v8, .int v9, .int v10, .int v11, .int v12, .int v13, .int v14, .ref (am 15), .int v16, .ref (am 17), .int y_9, .ref (am 19), .ref (am 20), .int v21, .int v22, .int y_10, .int v24, .int v25, .ref (am 26), .int v27, .ref (am 28), .ref (am 29), .ref (am 30), .ref (am 31), .long v32, .ref (am 33), .ref (am 34), .ref (am 35), .ref (am 36)]))] ++ wt) H := hP
      have hD : va_D A ([((am 6), .inl (G.2.2 0, 6, .inl cs)), ((am 5), .inl (G.2.2 0, 288, .inl cl)), ((am 3), .inl (G.2.2 0, 2400, .inl sg)), ((am 20), .inl (G.2.2 0, 110, .inl y_11)), (m0, .inr (12, [.ref (am 0), .int v1, .int v2, .ref (am 3), .ref (am 4), .ref (am 5), .ref (am 6), .ref (am 7), .int v8, .int v9, .int v10, .int v11, .int v12, .int v13, .int v14, .ref (am 15), .int v16, .ref (am 17), .int y_9, .ref (am 19), .ref (am 20), .int v21, .int v22, .int y_10, .int v24, .int v25, .ref (am 26), .int v27, .ref (am 28), .ref (am 29), .ref (am 30), .ref (am 31), .long v32, .ref (am 33), .ref (am 34), .ref (am 35), .ref (am 36)]))] ++ wt) := hD
      refine tr_iast hx hb hK hT hP hD hS 28 k30 (by decide) (by decide) (show vp_in _ (tk_len 28) from ia_in (n := 21) (by omega) (by omega)) (show tk_e 28 _ from trivial) dX12_fillsLot_71 (fun H locs wt hT hfl hP hD hS => ?_)
      have hW := hW.arr hfl
      refine lv_aload_n hx hb dX12_fillsLot_72 rfl (lv_at hl 1 rfl) ?_
      refine gq_get hx hb ht hown hK hP i_X12 4 rfl rfl 31 (by decide) wd_1283 rfl rfl dX12_fillsLot_73 ?_
      refine lv_iconst (v := 3) hx hb dX12_fillsLot_76 (by decide +kernel) ?_
      refine lv_iload_n hx hb dX12_fillsLot_77 rfl (lv_at hl 2 rfl) ?_
      refine gq_imul hx hb t_16 et_16 dX12_fillsLot_78 ?_
      refine lv_iload_n hx hb dX12_fillsLot_79 rfl (lv_at hl 3 rfl) ?_
      refine gq_iadd hx hb t_17 et_17 dX12_fillsLot_80 ?_
      refine lv_aload_n hx hb dX12_fillsLot_81 rfl (lv_at hl 1 rfl) ?_
      refine lv_iload_n hx hb dX12_fillsLot_82 rfl (lv_at hl 3 rfl) ?_
      refine lv_iconst (v := 3) hx hb dX12_fillsLot_83 (by decide +kernel) ?_
      have hP : va_P (gg_D G) classes ([((am 6), .inl (G.2.2 0, 6, .inl cs)), ((am 5), .inl (G.2.2 0, 288, .inl cl)), ((am 3), .inl (G.2.2 0, 2400, .inl sg))] ++ ([((am 20), .inl (G.2.2 0, 110, .inl y_11)), (m0, .inr (12, [.ref (am 0), .int v1, .int v2, .ref (am 3), .ref (am 4), .ref (am 5), .ref (am 6), .ref (am 7), .int v8, .int v9, .int v10, .int v11, .int v12, .int v13, .int v14, .ref (am 15), .int v16, .ref (am 17), .int y_9, .ref (am 19), .ref (am 20), .int v21, .int v22, .int y_10, .int v24, .int v25, .ref (am 26), .int v27, .ref (am 28), .ref (am 29), .ref (am 30), .ref (am 31), .long v32, .ref (am 33), .ref (am 34), .ref (am 35), .ref (am 36)]))] ++ wt)) H := hP
      have hD : va_D A ([((am 6), .inl (G.2.2 0, 6, .inl cs)), ((am 5), .inl (G.2.2 0, 288, .inl cl)), ((am 3), .inl (G.2.2 0, 2400, .inl sg))] ++ ([((am 20), .inl (G.2.2 0, 110, .inl y_11)), (m0, .inr (12, [.ref (am 0), .int v1, .int v2, .ref (am 3), .ref (am 4), .ref (am 5), .ref (am 6), .ref (am 7), .int v8, .int v9, .int v10, .int v11, .int v12, .int v13, .int v14, .ref (am 15), .int v16, .ref (am 17), .int y_9, .ref (am 19), .ref (am 20), .int v21, .int v22, .int y_10, .int v24, .int v25, .ref (am 26), .int v27, .ref (am 28), .ref (am 29), .ref (am 30), .ref (am 31), .long v32, .ref (am 33), .ref (am 34), .ref (am 35), .ref (am 36)]))] ++ wt)) := hD
      refine gt_callI (wr := [((am 6), .inl (G.2.2 0, 6, .inl cs)), ((am 5), .inl (G.2.2 0, 288, .inl cl)), ((am 3), .inl (G.2.2 0, 2400, .inl sg))]) (va_runV (As := [.int w, .int 3]) (rest := [.int t_17, .ref (am 31)]) ⟨hx, hb, hml, hown, ht⟩ (d_m_lot3 l G Γ H.size wt hT w m0 am v1 v2 v8 v9 v10 v11 v12 v13 v14 v16 y_9 v21 v22 y_10 v24 v25 v27 v32 y_11 (by omega) (by omega) (by first | assumption | exact hSD.1 | exact hSD.w _ | (rw [hKH 2 (by omega)]; exact hKP) | omega) (by first | assumption | exact hSD.1 | exact hSD.w _ | (rw [hKH 2 (by omega)]; exact hKP) | omega) (by first | assumption | exact hSD.1 | exact hSD.w _ | (rw [hKH 2 (by omega)]; exact hKP) | omega) (by first | assumption | exact hSD.1 | exact hSD.w _ | (rw [hKH 2 (by omega)]; exact hKP) | omega) (by first | assumption | exact hSD.1 | exact hSD.w _ | (rw [hKH 2 (by omega)]; exact hKP) | omega) (by first | assumption | exact hSD.1 | exact hSD.w _ | (rw [hKH 2 (by omega)]; exact hKP) | omega) (by first | assumption | exact hSD.1 | exact hSD.w _ | (rw [hKH 2 (by omega)]; exact hKP) | omega) (by first | assumption | exact hSD.1 | exact hSD.w _ | (rw [hKH 2 (by omega)]; exact hKP) | omega) (by first | assumption | exact hSD.1 | exact hSD.w _ | (rw [hKH 2 (by omega)]; exact hKP) | omega) (by first | assumption | exact hSD.1 | exact hSD.w _ | (rw [hKH 2 (by omega)]; exact hKP) | omega) (by first | assumption | exact hSD.1 | exact hSD.w _ | (rw [hKH 2 (by omega)]; exact hKP) | omega) (by first | assumption | exact hSD.1 | exact hSD.w _ | (rw [hKH 2 (by omega)]; exact hKP) | omega) (by first | assumption | exact hSD.1 | exact hSD.w _ | (rw [hKH 2 (by omega)]; exact hKP) | omega) (by first | assumption | exact hSD.1 | exact hSD.w _ | (rw [hKH 2 (by omega)]; exact hKP) | omega) (by first | assumption | exact hSD.1 | exact hSD.w _ | (rw [hKH 2 (by omega)]; exact hKP) | omega) (by first | assumption | exact hSD.1 | exact hSD.w _ | (rw [hKH 2 (by omega)]; exact hKP) | omega) (by first | assumption | exact hSD.1 | exact hSD.w _ | (rw [hKH 2 (by omega)]; exact hKP) | omega) (by first | assumption | exact hSD.1 | exact hSD.w _ | (rw [hKH 2 (by omega)]; exact hKP) | omega) (by first | assumption | exact hSD.1 | exact hSD.w _ | (rw [hKH 2 (by omega)]; exact hKP) | omega) (by first | assumption | exact hSD.1 | exact hSD.w _ | (rw [hKH 2 (by omega)]; exact hKP) | omega) (by first | assumption | exact hSD.1 | exact hSD.w _ | (rw [hKH 2 (by omega)]; exact hKP) | omega) (by first | assumption | exact hSD.1 | exact hSD.w _ | (rw [hKH 2 (by omega)]; exact hKP) | omega) (by first | assumption | exact hSD.1 | exact hSD.w _ | (rw [hKH 2 (by omega)]; exact hKP) | omega)) (cwV 2 ht (ts_gV wd_1566 wd_1568 wd_76 wd_134 wd_1569) rfl rfl rfl (by decide +kernel) ⟨Nat.le_of_ble_eq_true rfl, Nat.le_of_ble_eq_true rfl⟩) (gc_preV (ci := 12) (q0 := 1) hK (tw_right hP) (tw_rightD hD) rfl rfl) rfl rfl hl.1 rfl (lv_room (Nat.le_of_ble_eq_true rfl)) dX12_fillsLot_84 ⟨Nat.le_of_ble_eq_true rfl, Nat.le_of_ble_eq_true rfl⟩) hP hD hS hA (fun r_19 wt H locs hw hP hD hS => ?_)
      obtain ⟨hT, hkp, rp_r_19⟩ := hw
      have hW := hW.call (show ∀ x ∈ [], x ∈ [] by decide) hkp
      have hP : va_P (gg_D G) classes ([((am 6), .inl (G.2.2 0, 6, .inl cs)), ((am 5), .inl (G.2.2 0, 288, .inl cl)), ((am 3), .inl (G.2.2 0, 2400, .inl sg)), ((am 20), .inl (G.2.2 0, 110, .inl y_11)), (m0, .inr (12, [.ref (am 0), .int v1, .int v2, .ref (am 3), .ref (am 4), .ref (am 5), .ref (am 6), .ref (am 7), .int v8, .int v9, .int v10, .int v11, .int v12, .int v13, .int v14, .ref (am 15), .int v16, .ref (am 17), .int y_9, .ref (am 19), .ref (am 20), .int v21, .int v22, .int y_10, .int v24, .int v25, .ref (am 26), .int v27, .ref (am 28), .ref (am 29), .ref (am 30), .ref (am 31), .long v32, .ref (am 33), .ref (am 34), .ref (am 35), .ref (am 36)]))] ++ wt) H := hP
      have hD : va_D A ([((am 6), .inl (G.2.2 0, 6, .inl cs)), ((am 5), .inl (G.2.2 0, 288, .inl cl)), ((am 3), .inl (G.2.2 0, 2400, .inl sg)), ((am 20), .inl (G.2.2 0, 110, .inl y_11)), (m0, .inr (12, [.ref (am 0), .int v1, .int v2, .ref (am 3), .ref (am 4), .ref (am 5), .ref (am 6), .ref (am 7), .int v8, .int v9, .int v10, .int v11, .int v12, .int v13, .int v14, .ref (am 15), .int v16, .ref (am 17), .int y_9, .ref (am 19), .ref (am 20), .int v21, .int v22, .int y_10, .int v24, .int v25, .ref (am 26), .int v27, .ref (am 28), .ref (am 29), .ref (am 30), .ref (am 31), .long v32, .ref (am 33), .ref (am 34), .ref (am 35), .ref (am 36)]))] ++ wt) := hD
      refine tr_iast hx hb hK hT hP hD hS 28 k31 (by decide) (by decide) (show vp_in _ (tk_len 28) from ia_in (n := 21) (by omega) (by omega)) (show tk_e 28 _ from trivial) dX12_fillsLot_87 (fun H locs wt hT hfl hP hD hS => ?_)
      have hW := hW.arr hfl
      have hP9 : va_P (gg_D G) classes ([((am 6), .inl (G.2.2 0, 6, .inl cs)), ((am 5), .inl (G.2.2 0, 288, .inl cl)), ((am 3), .inl (G.2.2 0, 2400, .inl sg)), ((am 20), .inl (G.2.2 0, 110, .inl y_11)), (m0, .inr (12, [.ref (am 0), .int v1, .int v2, .ref (am 3), .ref (am 4), .ref (am 5), .ref (am 6), .ref (am 7), .int v8, .int v9, .int v10, .int v11, .int v12, .int v13, .int v14, .ref (am 15), .int v16, .ref (am 17), .int y_9, .ref (am 19), .ref (am 20), .int v21, .int v22, .int y_10, .int v24, .int v25, .ref (am 26), .int v27, .ref (am 28), .ref (am 29), .ref (am 30), .ref (am 31), .long v32, .ref (am 33), .ref (am 34), .ref (am 35), .ref (am 36)]))] ++ wt) _ := hP
      have hD9 : va_D A ([((am 6), .inl (G.2.2 0, 6, .inl cs)), ((am 5), .inl (G.2.2 0, 288, .inl cl)), ((am 3), .inl (G.2.2 0, 2400, .inl sg)), ((am 20), .inl (G.2.2 0, 110, .inl y_11)), (m0, .inr (12, [.ref (am 0), .int v1, .int v2, .ref (am 3), .ref (am 4), .ref (am 5), .ref (am 6), .ref (am 7), .int v8, .int v9, .int v10, .int v11, .int v12, .int v13, .int v14, .ref (am 15), .int v16, .ref (am 17), .int y_9, .ref (am 19), .ref (am 20), .int v21, .int v22, .int y_10, .int v24, .int v25, .ref (am 26), .int v27, .ref (am 28), .ref (am 29), .ref (am 30), .ref (am 31), .long v32, .ref (am 33), .ref (am 34), .ref (am 35), .ref (am 36)]))] ++ wt) := hD
      exact W.vret hx hb hr (gq_endV (y_9, y_10, y_11, wt) ⟨hT, hW, (by omega), (by omega), hSD, hKH⟩ hP9 hD9 hS) hS.2.2 dX12_fillsLot_88
    · rw [Int32.le_iff_toInt_le] at c_7
      refine lv_aload_n hx hb dX12_fillsLot_45 rfl (lv_at hl 1 rfl) ?_
      refine lv_iload_n hx hb dX12_fillsLot_46 rfl (lv_at hl 3 rfl) ?_
      have hn2 : (g6_0 (36 + 4 * w.toInt.toNat)).toInt ≠ 2 := by have := hSZ w.toInt.toNat (by omega); omega
      have hl2 : w.toInt < (g6_0 2).toInt := by rw [hKH 2 (by omega)]; exact hl2
      have hP : va_P (gg_D G) classes ([((am 6), .inl (G.2.2 0, 6, .inl cs)), ((am 5), .inl (G.2.2 0, 288, .inl cl)), ((am 3), .inl (G.2.2 0, 2400, .inl sg))] ++ ([((am 20), .inl (G.2.2 0, 110, .inl g6_0)), (m0, .inr (12, [.ref (am 0), .int v1, .int v2, .ref (am 3), .ref (am 4), .ref (am 5), .ref (am 6), .ref (am 7), .int v8, .int v9, .int v10, .int v11, .int v12, .int v13, .int v14, .ref (am 15), .int v16, .ref (am 17), .int v18, .ref (am 19), .ref (am 20), .int v21, .int v22, .int v23, .int v24, .int v25, .ref (am 26), .int v27, .ref (am 28), .ref (am 29), .ref (am 30), .ref (am 31), .long v32, .ref (am 33), .ref (am 34), .ref (am 35), .ref (am 36)]))] ++ wt)) H := hP
      have hD : va_D A ([((am 6), .inl (G.2.2 0, 6, .inl cs)), ((am 5), .inl (G.2.2 0, 288, .inl cl)), ((am 3), .inl (G.2.2 0, 2400, .inl sg))] ++ ([((am 20), .inl (G.2.2 0, 110, .inl g6_0)), (m0, .inr (12, [.ref (am 0), .int v1, .int v2, .ref (am 3), .ref (am 4), .ref (am 5), .ref (am 6), .ref (am 7), .int v8, .int v9, .int v10, .int v11, .int v12, .int v13, .int v14, .ref (am 15), .int v16, .ref (am 17), .int v18, .ref (am 19), .ref (am 20), .int v21, .int v22, .int v23, .int v24, .int v25, .ref (am 26), .int v27, .ref (am 28), .ref (am 29), .ref (am 30), .ref (am 31), .long v32, .ref (am 33), .ref (am 34), .ref (am 35), .ref (am 36)]))] ++ wt)) := hD
      refine gt_callV (wr := [((am 6), .inl (G.2.2 0, 6, .inl cs)), ((am 5), .inl (G.2.2 0, 288, .inl cl)), ((am 3), .inl (G.2.2 0, 2400, .inl sg))]) (va_runV (As := [.int w]) (rest := []) ⟨hx, hb, hml, hown, ht⟩ (d_m_rings l G Γ H.size wt hT w m0 am v1 v2 v8 v9 v10 v11 v12 v13 v14 v16 v18 v21 v22 v23 v24 v25 v27 v32 g6_0 (by omega) (by omega) (by first | assumption | exact hSD.1 | exact hSD.w _ | (rw [hKH 2 (by omega)]; exact hKP) | omega) (by first | assumption | exact hSD.1 | exact hSD.w _ | (rw [hKH 2 (by omega)]; exact hKP) | omega) (by first | assumption | exact hSD.1 | exact hSD.w _ | (rw [hKH 2 (by omega)]; exact hKP) | omega) (by first | assumption | exact hSD.1 | exact hSD.w _ | (rw [hKH 2 (by omega)]; exact hKP) | omega) (by first | assumption | exact hSD.1 | exact hSD.w _ | (rw [hKH 2 (by omega)]; exact hKP) | omega) (by first | assumption | exact hSD.1 | exact hSD.w _ | (rw [hKH 2 (by omega)]; exact hKP) | omega) (by first | assumption | exact hSD.1 | exact hSD.w _ | (rw [hKH 2 (by omega)]; exact hKP) | omega) (by first | assumption | exact hSD.1 | exact hSD.w _ | (rw [hKH 2 (by omega)]; exact hKP) | omega) (by first | assumption | exact hSD.1 | exact hSD.w _ | (rw [hKH 2 (by omega)]; exact hKP) | omega) (by first | assumption | exact hSD.1 | exact hSD.w _ | (rw [hKH 2 (by omega)]; exact hKP) | omega) (by first | assumption | exact hSD.1 | exact hSD.w _ | (rw [hKH 2 (by omega)]; exact hKP) | omega) (by first | assumption | exact hSD.1 | exact hSD.w _ | (rw [hKH 2 (by omega)]; exact hKP) | omega) (by first | assumption | exact hSD.1 | exact hSD.w _ | (rw [hKH 2 (by omega)]; exact hKP) | omega) (by first | assumption | exact hSD.1 | exact hSD.w _ | (rw [hKH 2 (by omega)]; exact hKP) | omega) (by first | assumption | exact hSD.1 | exact hSD.w _ | (rw [hKH 2 (by omega)]; exact hKP) | omega) (by first | assumption | exact hSD.1 | exact hSD.w _ | (rw [hKH 2 (by omega)]; exact hKP) | omega) (by first | assumption | exact hSD.1 | exact hSD.w _ | (rw [hKH 2 (by omega)]; exact hKP) | omega) (by first | assumption | exact hSD.1 | exact hSD.w _ | (rw [hKH 2 (by omega)]; exact hKP) | omega) (by first | assumption | exact hSD.1 | exact hSD.w _ | (rw [hKH 2 (by omega)]; exact hKP) | omega) (by first | assumption | exact hSD.1 | exact hSD.w _ | (rw [hKH 2 (by omega)]; exact hKP) | omega) (by first | assumption | exact hSD.1 | exact hSD.w _ | (rw [hKH 2 (by omega)]; exact hKP) | omega) (by first | assumption | exact hSD.1 | exact hSD.w _ | (rw [hKH 2 (by omega)]; exact hKP) | omega) (by first | assumption | exact hSD.1 | exact hSD.w _ | (rw [hKH 2 (by omega)]; exact hKP) | omega) (by first | assumption | exact hSD.1 | exact hSD.w _ | (rw [hKH 2 (by omega)]; exact hKP) | omega) (by first | assumption | exact hSD.1 | exact hSD.w _ | (rw [hKH 2 (by omega)]; exact hKP) | omega) (by first | assumption | exact hSD.1 | exact hSD.w _ | (rw [hKH 2 (by omega)]; exact hKP) | omega)) (cwV 1 ht (ts_gV wd_1688 wd_1690 wd_97 wd_134 wd_1691) rfl rfl rfl (by decide +kernel) ⟨Nat.le_of_ble_eq_true rfl, Nat.le_of_ble_eq_true rfl⟩) (gc_preV (ci := 12) (q0 := 1) hK (tw_right hP) (tw_rightD hD) rfl rfl) rfl rfl hl.1 rfl (lv_room (Nat.le_of_ble_eq_true rfl)) dX12_fillsLot_47 ⟨Nat.le_of_ble_eq_true rfl, Nat.le_of_ble_eq_true rfl⟩) hP hD hS hA (fun u H locs hw hP hD hS => ?_)
      obtain ⟨y_20, wt⟩ := u
      obtain ⟨hT, hkp, w_21, w_22⟩ := hw
      have hW := hW.call (show ∀ x ∈ [], x ∈ [] by decide) hkp
      have hP : va_P (gg_D G) classes ([((am 6), .inl (G.2.2 0, 6, .inl cs)), ((am 5), .inl (G.2.2 0, 288, .inl cl)), ((am 3), .inl (G.2.2 0, 2400, .inl sg)), ((am 20), .inl (G.2.2 0, 110, .inl y_20)), (m0, .inr (12, [.ref (am 0), .int v1, .int v2, .ref (am 3), .ref (am 4), .ref (am 5), .ref (am 6), .ref (am 7), .int v8, .int v9, .int v10, .int v11, .int v12, .int v13, .int v14, .ref (am 15), .int v16, .ref (am 17), .int v18, .ref (am 19), .ref (am 20), .int v21, .int v22, .int v23, .int v24, .int v25, .ref (am 26), .int v27, .ref (am 28), .ref (am 29), .ref (am 30), .ref (am 31), .long v32, .ref (am 33), .ref (am 34), .ref (am 35), .ref (am 36)]))] ++ wt) H := hP
      have hD : va_D A ([((am 6), .inl (G.2.2 0, 6, .inl cs)), ((am 5), .inl (G.2.2 0, 288, .inl cl)), ((am 3), .inl (G.2.2 0, 2400, .inl sg)), ((am 20), .inl (G.2.2 0, 110, .inl y_20)), (m0, .inr (12, [.ref (am 0), .int v1, .int v2, .ref (am 3), .ref (am 4), .ref (am 5), .ref (am 6), .ref (am 7), .int v8, .int v9, .int v10, .int v11, .int v12, .int v13, .int v14, .ref (am 15), .int v16, .ref (am 17), .int v18, .ref (am 19), .ref (am 20), .int v21, .int v22, .int v23, .int v24, .int v25, .ref (am 26), .int v27, .ref (am 28), .ref (am 29), .ref (am 30), .ref (am 31), .long v32, .ref (am 33), .ref (am 34), .ref (am 35), .ref (am 36)]))] ++ wt) := hD
      have c_SD := w_21
      have hSD := w_21
      have c_KH := w_22
      have hKH := hKH.tr w_22
      refine lv_aload_n hx hb dX12_fillsLot_50 rfl (lv_at hl 1 rfl) ?_
      refine lv_iload_n hx hb dX12_fillsLot_51 rfl (lv_at hl 3 rfl) ?_
      have hP : va_P (gg_D G) classes ([] ++ ([((am 6), .inl (G.2.2 0, 6, .inl cs)), ((am 5), .inl (G.2.2 0, 288, .inl cl)), ((am 3), .inl (G.2.2 0, 2400, .inl sg)), ((am 20), .inl (G.2.2 0, 110, .inl y_20)), (m0, .inr (12, [.ref (am 0), .int v1, .int v2, .ref (am 3), .ref (am 4), .ref (am 5), .ref (am 6), .ref (am 7), .int v8, .int v9, .int v10, .int v11, .int v12, .int v13, .int v14, .ref (am 15), .int v16, .ref (am 17), .int v18, .ref (am 19), .ref (am 20), .int v21, .int v22, .int v23, .int v24, .int v25, .ref (am 26), .int v27, .ref (am 28), .ref (am 29), .ref (am 30), .ref (am 31), .long v32, .ref (am 33), .ref (am 34), .ref (am 35), .ref (am 36)]))] ++ wt)) H := hP
      have hD : va_D A ([] ++ ([((am 6), .inl (G.2.2 0, 6, .inl cs)), ((am 5), .inl (G.2.2 0, 288, .inl cl)), ((am 3), .inl (G.2.2 0, 2400, .inl sg)), ((am 20), .inl (G.2.2 0, 110, .inl y_20)), (m0, .inr (12, [.ref (am 0), .int v1, .int v2, .ref (am 3), .ref (am 4), .ref (am 5), .ref (am 6), .ref (am 7), .int v8, .int v9, .int v10, .int v11, .int v12, .int v13, .int v14, .ref (am 15), .int v16, .ref (am 17), .int v18, .ref (am 19), .ref (am 20), .int v21, .int v22, .int v23, .int v24, .int v25, .ref (am 26), .int v27, .ref (am 28), .ref (am 29), .ref (am 30), .ref (am 31), .long v32, .ref (am 33), .ref (am 34), .ref (am 35), .ref (am 36)]))] ++ wt)) := hD
      refine gt_callI (wr := []) (va_runV (As := [.int w]) (rest := []) ⟨hx, hb, hml, hown, ht⟩ (d_m_tillOver l G Γ H.size wt hT w m0 am v1 v2 v8 v9 v10 v11 v12 v13 v14 v16 v18 v21 v22 v23 v24 v25 v27 v32 cs cl sg y_20 (by omega) (by omega) (by first | assumption | exact hSD.1 | exact hSD.w _ | (rw [hKH 2 (by omega)]; exact hKP) | omega) (by first | assumption | exact hSD.1 | exact hSD.w _ | (rw [hKH 2 (by omega)]; exact hKP) | omega) (by first | assumption | exact hSD.1 | exact hSD.w _ | (rw [hKH 2 (by omega)]; exact hKP) | omega) (by first | assumption | exact hSD.1 | exact hSD.w _ | (rw [hKH 2 (by omega)]; exact hKP) | omega) (by first | assumption | exact hSD.1 | exact hSD.w _ | (rw [hKH 2 (by omega)]; exact hKP) | omega) (by first | assumption | exact hSD.1 | exact hSD.w _ | (rw [hKH 2 (by omega)]; exact hKP) | omega) (by first | assumption | exact hSD.1 | exact hSD.w _ | (rw [hKH 2 (by omega)]; exact hKP) | omega) (by first | assumption | exact hSD.1 | exact hSD.w _ | (rw [hKH 2 (by omega)]; exact hKP) | omega) (by first | assumption | exact hSD.1 | exact hSD.w _ | (rw [hKH 2 (by omega)]; exact hKP) | omega) (by first | assumption | exact hSD.1 | exact hSD.w _ | (rw [hKH 2 (by omega)]; exact hKP) | omega) (by first | assumption | exact hSD.1 | exact hSD.w _ | (rw [hKH 2 (by omega)]; exact hKP) | omega) (by first | assumption | exact hSD.1 | exact hSD.w _ | (rw [hKH 2 (by omega)]; exact hKP) | omega) (by first | assumption | exact hSD.1 | exact hSD.w _ | (rw [hKH 2 (by omega)]; exact hKP) | omega) (by first | assumption | exact hSD.1 | exact hSD.w _ | (rw [hKH 2 (by omega)]; exact hKP) | omega) (by first | assumption | exact hSD.1 | exact hSD.w _ | (rw [hKH 2 (by omega)]; exact hKP) | omega) (by first | assumption | exact hSD.1 | exact hSD.w _ | (rw [hKH 2 (by omega)]; exact hKP) | omega) (by first | assumption | exact hSD.1 | exact hSD.w _ | (rw [hKH 2 (by omega)]; exact hKP) | omega) (by first | assumption | exact hSD.1 | exact hSD.w _ | (rw [hKH 2 (by omega)]; exact hKP) | omega) (by first | assumption | exact hSD.1 | exact hSD.w _ | (rw [hKH 2 (by omega)]; exact hKP) | omega) (by first | assumption | exact hSD.1 | exact hSD.w _ | (rw [hKH 2 (by omega)]; exact hKP) | omega) (by first | assumption | exact hSD.1 | exact hSD.w _ | (rw [hKH 2 (by omega)]; exact hKP) | omega) (by first | assumption | exact hSD.1 | exact hSD.w _ | (rw [hKH 2 (by omega)]; exact hKP) | omega) (by first | assumption | exact hSD.1 | exact hSD.w _ | (rw [hKH 2 (by omega)]; exact hKP) | omega) (by first | assumption | exact hSD.1 | exact hSD.w _ | (rw [hKH 2 (by omega)]; exact hKP) | omega) (by first | assumption | exact hSD.1 | exact hSD.w _ | (rw [hKH 2 (by omega)]; exact hKP) | omega)) (cwV 1 ht (ts_gV wd_1738 wd_1740 wd_105 wd_134 wd_1741) rfl rfl rfl (by decide +kernel) ⟨Nat.le_of_ble_eq_true rfl, Nat.le_of_ble_eq_true rfl⟩) (gc_preV (ci := 12) (q0 := 4) hK (tw_right hP) (tw_rightD hD) rfl rfl) rfl rfl hl.1 rfl (lv_room (Nat.le_of_ble_eq_true rfl)) dX12_fillsLot_52 ⟨Nat.le_of_ble_eq_true rfl, Nat.le_of_ble_eq_true rfl⟩) hP hD hS hA (fun r_23 u H locs hw hP hD hS => ?_)
      obtain ⟨y_24, y_25, y_26, wt⟩ := u
      obtain ⟨hT, hkp, w_27, w_28, w_29, w_30⟩ := hw
      have hW := hW.call (show ∀ x ∈ [], x ∈ [] by decide) hkp
      have hP : va_P (gg_D G) classes ([((am 6), .inl (G.2.2 0, 6, .inl cs)), ((am 5), .inl (G.2.2 0, 288, .inl cl)), ((am 3), .inl (G.2.2 0, 2400, .inl sg)), ((am 20), .inl (G.2.2 0, 110, .inl y_26)), (m0, .inr (12, [.ref (am 0), .int v1, .int v2, .ref (am 3), .ref (am 4), .ref (am 5), .ref (am 6), .ref (am 7), .int v8, .int v9, .int v10, .int v11, .int v12, .int v13, .int v14, .ref (am 15), .int v16, .ref (am 17), .int y_24, .ref (am 19), .ref (am 20), .int v21, .int v22, .int y_25, .int v24, .int v25, .ref (am 26), .int v27, .ref (am 28), .ref (am 29), .ref (am 30), .ref (am 31), .long v32, .ref (am 33), .ref (am 34), .ref (am 35), .ref (am 36)]))] ++ wt) H := hP
      have hD : va_D A ([((am 6), .inl (G.2.2 0, 6, .inl cs)), ((am 5), .inl (G.2.2 0, 288, .inl cl)), ((am 3), .inl (G.2.2 0, 2400, .inl sg)), ((am 20), .inl (G.2.2 0, 110, .inl y_26)), (m0, .inr (12, [.ref (am 0), .int v1, .int v2, .ref (am 3), .ref (am 4), .ref (am 5), .ref (am 6), .ref (am 7), .int v8, .int v9, .int v10, .int v11, .int v12, .int v13, .int v14, .ref (am 15), .int v16, .ref (am 17), .int y_24, .ref (am 19), .ref (am 20), .int v21, .int v22, .int y_25, .int v24, .int v25, .ref (am 26), .int v27, .ref (am 28), .ref (am 29), .ref (am 30), .ref (am 31), .long v32, .ref (am 33), .ref (am 34), .ref (am 35), .ref (am 36)]))] ++ wt) := hD
      have c_SD := w_29
      have hSD := w_29
      have c_KH := w_30
      have hKH := hKH.tr w_30
      refine lv_pop hx hb dX12_fillsLot_55 rfl ?_
      refine lv_aload_n hx hb dX12_fillsLot_56 rfl (lv_at hl 1 rfl) ?_
      refine gq_get hx hb ht hown hK hP i_X12 4 rfl rfl 30 (by decide) wd_1282 rfl rfl dX12_fillsLot_57 ?_
      refine lv_iconst (v := 3) hx hb dX12_fillsLot_60 (by decide +kernel) ?_
      refine lv_iload_n hx hb dX12_fillsLot_61 rfl (lv_at hl 2 rfl) ?_
      obtain ⟨t_31, et_31⟩ : ∃ zz_ : Int32, 3 * b = zz_ := ⟨_, rfl⟩
      refine gq_imul hx hb t_31 et_31 dX12_fillsLot_62 ?_
      have ft_31 := ia_mul et_31 (by rw [l3]; omega) (by rw [l3]; omega)
      rw [l3] at ft_31
      refine lv_iload_n hx hb dX12_fillsLot_63 rfl (lv_at hl 3 rfl) ?_
      obtain ⟨t_32, et_32⟩ : ∃ zz_ : Int32, t_31 + w = zz_ := ⟨_, rfl⟩
      refine gq_iadd hx hb t_32 et_32 dX12_fillsLot_64 ?_
      have ft_32 := ia_add et_32 (by omega) (by omega)
      refine lv_aload_n hx hb dX12_fillsLot_65 rfl (lv_at hl 1 rfl) ?_
      refine lv_iload_n hx hb dX12_fillsLot_66 rfl (lv_at hl 3 rfl) ?_
      refine lv_iconst (v := 2) hx hb dX12_fillsLot_67 (by decide +kernel) ?_
      have hP : va_P (gg_D G) classes ([((am 6), .inl (G.2.2 0, 6, .inl cs)), ((am 5), .inl (G.2.2 0, 288, .inl cl)), ((am 3), .inl (G.2.2 0, 2400, .inl sg))] ++ ([((am 20), .inl (G.2.2 0, 110, .inl y_26)), (m0, .inr (12, [.ref (am 0), .int v1, .int v2, .ref (am 3), .ref (am 4), .ref (am 5), .ref (am 6), .ref (am 7), .int v8, .int v9, .int v10, .int v11, .int v12, .int v13, .int v14, .ref (am 15), .int v16, .ref (am 17), .int y_24, .ref (am 19), .ref (am 20), .int v21, .int v22, .int y_25, .int v24, .int v25, .ref (am 26), .int v27, .ref (am 28), .ref (am 29), .ref (am 30), .ref (am 31), .long v32, .ref (am 33), .ref (am 34), .ref (am 35), .ref (am 36)]))] ++ wt)) H := hP
      have hD : va_D A ([((am 6), .inl (G.2.2 0, 6, .inl cs)), ((am 5), .inl (G.2.2 0, 288, .inl cl)), ((am 3), .inl (G.2.2 0, 2400, .inl sg))] ++ ([((am 20), .inl (G.2.2 0, 110, .inl y_26)), (m0, .inr (12, [.ref (am 0), .int v1, .int v2, .ref (am 3), .ref (am 4), .ref (am 5), .ref (am 6), .ref (am 7), .int v8, .int v9, .int v10, .int v11, .int v12, .int v13, .int v14, .ref (am 15), .int v16, .ref (am 17), .int y_24, .ref (am 19), .ref (am 20), .int v21, .int v22, .int y_25, .int v24, .int v25, .ref (am 26), .int v27, .ref (am 28), .ref (am 29), .ref (am 30), .ref (am 31), .long v32, .ref (am 33), .ref (am 34), .ref (am 35), .ref (am 36)]))] ++ wt)) := hD
      refine gt_callI (wr := [((am 6), .inl (G.2.2 0, 6, .inl cs)), ((am 5), .inl (G.2.2 0, 288, .inl cl)), ((am 3), .inl (G.2.2 0, 2400, .inl sg))]) (va_runV (As := [.int w, .int 2]) (rest := [.int t_32, .ref (am 30)]) ⟨hx, hb, hml, hown, ht⟩ (d_m_lot2 l G Γ H.size wt hT w m0 am v1 v2 v8 v9 v10 v11 v12 v13 v14 v16 y_24 v21 v22 y_25 v24 v25 v27 v32 y_26 (by omega) (by omega) (by first | assumption | exact hSD.1 | exact hSD.w _ | (rw [hKH 2 (by omega)]; exact hKP) | omega) (by first | assumption | exact hSD.1 | exact hSD.w _ | (rw [hKH 2 (by omega)]; exact hKP) | omega) (by first | assumption | exact hSD.1 | exact hSD.w _ | (rw [hKH 2 (by omega)]; exact hKP) | omega) (by first | assumption | exact hSD.1 | exact hSD.w _ | (rw [hKH 2 (by omega)]; exact hKP) | omega) (by first | assumption | exact hSD.1 | exact hSD.w _ | (rw [hKH 2 (by omega)]; exact hKP) | omega) (by first | assumption | exact hSD.1 | exact hSD.w _ | (rw [hKH 2 (by omega)]; exact hKP) | omega) (by first | assumption | exact hSD.1 | exact hSD.w _ | (rw [hKH 2 (by omega)]; exact hKP) | omega) (by first | assumption | exact hSD.1 | exact hSD.w _ | (rw [hKH 2 (by omega)]; exact hKP) | omega) (by first | assumption | exact hSD.1 | exact hSD.w _ | (rw [hKH 2 (by omega)]; exact hKP) | omega) (by first | assumption | exact hSD.1 | exact hSD.w _ | (rw [hKH 2 (by omega)]; exact hKP) | omega) (by first | assumption | exact hSD.1 | exact hSD.w _ | (rw [hKH 2 (by omega)]; exact hKP) | omega) (by first | assumption | exact hSD.1 | exact hSD.w _ | (rw [hKH 2 (by omega)]; exact hKP) | omega) (by first | assumption | exact hSD.1 | exact hSD.w _ | (rw [hKH 2 (by omega)]; exact hKP) | omega) (by first | assumption | exact hSD.1 | exact hSD.w _ | (rw [hKH 2 (by omega)]; exact hKP) | omega) (by first | assumption | exact hSD.1 | exact hSD.w _ | (rw [hKH 2 (by omega)]; exact hKP) | omega) (by first | assumption | exact hSD.1 | exact hSD.w _ | (rw [hKH 2 (by omega)]; exact hKP) | omega) (by first | assumption | exact hSD.1 | exact hSD.w _ | (rw [hKH 2 (by omega)]; exact hKP) | omega) (by first | assumption | exact hSD.1 | exact hSD.w _ | (rw [hKH 2 (by omega)]; exact hKP) | omega) (by first | assumption | exact hSD.1 | exact hSD.w _ | (rw [hKH 2 (by omega)]; exact hKP) | omega) (by first | assumption | exact hSD.1 | exact hSD.w _ | (rw [hKH 2 (by omega)]; exact hKP) | omega) (by first | assumption | exact hSD.1 | exact hSD.w _ | (rw [hKH 2 (by omega)]; exact hKP) | omega) (by first | assumption | exact hSD.1 | exact hSD.w _ | (rw [hKH 2 (by omega)]; exact hKP) | omega) (by first | assumption | exact hSD.1 | exact hSD.w _ | (rw [hKH 2 (by omega)]; exact hKP) | omega)) (cwV 2 ht (ts_gV wd_1566 wd_1568 wd_76 wd_134 wd_1569) rfl rfl rfl (by decide +kernel) ⟨Nat.le_of_ble_eq_true rfl, Nat.le_of_ble_eq_true rfl⟩) (gc_preV (ci := 12) (q0 := 1) hK (tw_right hP) (tw_rightD hD) rfl rfl) rfl rfl hl.1 rfl (lv_room (Nat.le_of_ble_eq_true rfl)) dX12_fillsLot_68 ⟨Nat.le_of_ble_eq_true rfl, Nat.le_of_ble_eq_true rfl⟩) hP hD hS hA (fun r_33 wt H locs hw hP hD hS => ?_)
      obtain ⟨hT, hkp, rp_r_33⟩ := hw
      have hW := hW.call (show ∀ x ∈ [], x ∈ [] by decide) hkp
      have hP : va_P (gg_D G) classes ([((am 6), .inl (G.2.2 0, 6, .inl cs)), ((am 5), .inl (G.2.2 0, 288, .inl cl)), ((am 3), .inl (G.2.2 0, 2400, .inl sg)), ((am 20), .inl (G.2.2 0, 110, .inl y_26)), (m0, .inr (12, [.ref (am 0), .int v1, .int v2, .ref (am 3), .ref (am 4), .ref (am 5), .ref (am 6), .ref (am 7), .int v8, .int v9, .int v10, .int v11, .int v12, .int v13, .int v14, .ref (am 15), .int v16, .ref (am 17), .int y_24, .ref (am 19), .ref (am 20), .int v21, .int v22, .int y_25, .int v24, .int v25, .ref (am 26), .int v27, .ref (am 28), .ref (am 29), .ref (am 30), .ref (am 31), .long v32, .ref (am 33), .ref (am 34), .ref (am 35), .ref (am 36)]))] ++ wt) H := hP
      have hD : va_D A ([((am 6), .inl (G.2.2 0, 6, .inl cs)), ((am 5), .inl (G.2.2 0, 288, .inl cl)), ((am 3), .inl (G.2.2 0, 2400, .inl sg)), ((am 20), .inl (G.2.2 0, 110, .inl y_26)), (m0, .inr (12, [.ref (am 0), .int v1, .int v2, .ref (am 3), .ref (am 4), .ref (am 5), .ref (am 6), .ref (am 7), .int v8, .int v9, .int v10, .int v11, .int v12, .int v13, .int v14, .ref (am 15), .int v16, .ref (am 17), .int y_24, .ref (am 19), .ref (am 20), .int v21, .int v22, .int y_25, .int v24, .int v25, .ref (am 26), .int v27, .ref (am 28), .ref (am 29), .ref (am 30), .ref (am 31), .long v32, .ref (am 33), .ref (am 34), .ref (am 35), .ref (am 36)]))] ++ wt) := hD
      refine tr_iast hx hb hK hT hP hD hS 28 k30 (by decide) (by decide) (show vp_in _ (tk_len 28) from ia_in (n := 21) (by omega) (by omega)) (show tk_e 28 _ from trivial) dX12_fillsLot_71 (fun H locs wt hT hfl hP hD hS => ?_)
      have hW := hW.arr hfl
      refine lv_aload_n hx hb dX12_fillsLot_72 rfl (lv_at hl 1 rfl) ?_
      refine gq_get hx hb ht hown hK hP i_X12 4 rfl rfl 31 (by decide) wd_1283 rfl rfl dX12_fillsLot_73 ?_
      refine lv_iconst (v := 3) hx hb dX12_fillsLot_76 (by decide +kernel) ?_
      refine lv_iload_n hx hb dX12_fillsLot_77 rfl (lv_at hl 2 rfl) ?_
      refine gq_imul hx hb t_31 et_31 dX12_fillsLot_78 ?_
      refine lv_iload_n hx hb dX12_fillsLot_79 rfl (lv_at hl 3 rfl) ?_
      refine gq_iadd hx hb t_32 et_32 dX12_fillsLot_80 ?_
      refine lv_aload_n hx hb dX12_fillsLot_81 rfl (lv_at hl 1 rfl) ?_
      refine lv_iload_n hx hb dX12_fillsLot_82 rfl (lv_at hl 3 rfl) ?_
      refine lv_iconst (v := 3) hx hb dX12_fillsLot_83 (by decide +kernel) ?_
      have hP : va_P (gg_D G) classes ([((am 6), .inl (G.2.2 0, 6, .inl cs)), ((am 5), .inl (G.2.2 0, 288, .inl cl)), ((am 3), .inl (G.2.2 0, 2400, .inl sg))] ++ ([((am 20), .inl (G.2.2 0, 110, .inl y_26)), (m0, .inr (12, [.ref (am 0), .int v1, .int v2, .ref (am 3), .ref (am 4), .ref (am 5), .ref (am 6), .ref (am 7), .int v8, .int v9, .int v10, .int v11, .int v12, .int v13, .int v14, .ref (am 15), .int v16, .ref (am 17), .int y_24, .ref (am 19), .ref (am 20), .int v21, .int v22, .int y_25, .int v24, .int v25, .ref (am 26), .int v27, .ref (am 28), .ref (am 29), .ref (am 30), .ref (am 31), .long v32, .ref (am 33), .ref (am 34), .ref (am 35), .ref (am 36)]))] ++ wt)) H := hP
      have hD : va_D A ([((am 6), .inl (G.2.2 0, 6, .inl cs)), ((am 5), .inl (G.2.2 0, 288, .inl cl)), ((am 3), .inl (G.2.2 0, 2400, .inl sg))] ++ ([((am 20), .inl (G.2.2 0, 110, .inl y_26)), (m0, .inr (12, [.ref (am 0), .int v1, .int v2, .ref (am 3), .ref (am 4), .ref (am 5), .ref (am 6), .ref (am 7), .int v8, .int v9, .int v10, .int v11, .int v12, .int v13, .int v14, .ref (am 15), .int v16, .ref (am 17), .int y_24, .ref (am 19), .ref (am 20), .int v21, .int v22, .int y_25, .int v24, .int v25, .ref (am 26), .int v27, .ref (am 28), .ref (am 29), .ref (am 30), .ref (am 31), .long v32, .ref (am 33), .ref (am 34), .ref (am 35), .ref (am 36)]))] ++ wt)) := hD
      refine gt_callI (wr := [((am 6), .inl (G.2.2 0, 6, .inl cs)), ((am 5), .inl (G.2.2 0, 288, .inl cl)), ((am 3), .inl (G.2.2 0, 2400, .inl sg))]) (va_runV (As := [.int w, .int 3]) (rest := [.int t_32, .ref (am 31)]) ⟨hx, hb, hml, hown, ht⟩ (d_m_lot3 l G Γ H.size wt hT w m0 am v1 v2 v8 v9 v10 v11 v12 v13 v14 v16 y_24 v21 v22 y_25 v24 v25 v27 v32 y_26 (by omega) (by omega) (by first | assumption | exact hSD.1 | exact hSD.w _ | (rw [hKH 2 (by omega)]; exact hKP) | omega) (by first | assumption | exact hSD.1 | exact hSD.w _ | (rw [hKH 2 (by omega)]; exact hKP) | omega) (by first | assumption | exact hSD.1 | exact hSD.w _ | (rw [hKH 2 (by omega)]; exact hKP) | omega) (by first | assumption | exact hSD.1 | exact hSD.w _ | (rw [hKH 2 (by omega)]; exact hKP) | omega) (by first | assumption | exact hSD.1 | exact hSD.w _ | (rw [hKH 2 (by omega)]; exact hKP) | omega) (by first | assumption | exact hSD.1 | exact hSD.w _ | (rw [hKH 2 (by omega)]; exact hKP) | omega) (by first | assumption | exact hSD.1 | exact hSD.w _ | (rw [hKH 2 (by omega)]; exact hKP) | omega) (by first | assumption | exact hSD.1 | exact hSD.w _ | (rw [hKH 2 (by omega)]; exact hKP) | omega) (by first | assumption | exact hSD.1 | exact hSD.w _ | (rw [hKH 2 (by omega)]; exact hKP) | omega) (by first | assumption | exact hSD.1 | exact hSD.w _ | (rw [hKH 2 (by omega)]; exact hKP) | omega) (by first | assumption | exact hSD.1 | exact hSD.w _ | (rw [hKH 2 (by omega)]; exact hKP) | omega) (by first | assumption | exact hSD.1 | exact hSD.w _ | (rw [hKH 2 (by omega)]; exact hKP) | omega) (by first | assumption | exact hSD.1 | exact hSD.w _ | (rw [hKH 2 (by omega)]; exact hKP) | omega) (by first | assumption | exact hSD.1 | exact hSD.w _ | (rw [hKH 2 (by omega)]; exact hKP) | omega) (by first | assumption | exact hSD.1 | exact hSD.w _ | (rw [hKH 2 (by omega)]; exact hKP) | omega) (by first | assumption | exact hSD.1 | exact hSD.w _ | (rw [hKH 2 (by omega)]; exact hKP) | omega) (by first | assumption | exact hSD.1 | exact hSD.w _ | (rw [hKH 2 (by omega)]; exact hKP) | omega) (by first | assumption | exact hSD.1 | exact hSD.w _ | (rw [hKH 2 (by omega)]; exact hKP) | omega) (by first | assumption | exact hSD.1 | exact hSD.w _ | (rw [hKH 2 (by omega)]; exact hKP) | omega) (by first | assumption | exact hSD.1 | exact hSD.w _ | (rw [hKH 2 (by omega)]; exact hKP) | omega) (by first | assumption | exact hSD.1 | exact hSD.w _ | (rw [hKH 2 (by omega)]; exact hKP) | omega) (by first | assumption | exact hSD.1 | exact hSD.w _ | (rw [hKH 2 (by omega)]; exact hKP) | omega) (by first | assumption | exact hSD.1 | exact hSD.w _ | (rw [hKH 2 (by omega)]; exact hKP) | omega)) (cwV 2 ht (ts_gV wd_1566 wd_1568 wd_76 wd_134 wd_1569) rfl rfl rfl (by decide +kernel) ⟨Nat.le_of_ble_eq_true rfl, Nat.le_of_ble_eq_true rfl⟩) (gc_preV (ci := 12) (q0 := 1) hK (tw_right hP) (tw_rightD hD) rfl rfl) rfl rfl hl.1 rfl (lv_room (Nat.le_of_ble_eq_true rfl)) dX12_fillsLot_84 ⟨Nat.le_of_ble_eq_true rfl, Nat.le_of_ble_eq_true rfl⟩) hP hD hS hA (fun r_34 wt H locs hw hP hD hS => ?_)
      obtain ⟨hT, hkp, rp_r_34⟩ := hw
      have hW := hW.call (show ∀ x ∈ [], x ∈ [] by decide) hkp
      have hP : va_P (gg_D G) classes ([((am 6), .inl (G.2.2 0, 6, .inl cs)), ((am 5), .inl (G.2.2 0, 288, .inl cl)), ((am 3), .inl (G.2.2 0, 2400, .inl sg)), ((am 20), .inl (G.2.2 0, 110, .inl y_26)), (m0, .inr (12, [.ref (am 0), .int v1, .int v2, .ref (am 3), .ref (am 4), .ref (am 5), .ref (am 6), .ref (am 7), .int v8, .int v9, .int v10, .int v11, .int v12, .int v13, .int v14, .ref (am 15), .int v16, .ref (am 17), .int y_24, .ref (am 19), .ref (am 20), .int v21, .int v22, .int y_25, .int v24, .int v25, .ref (am 26), .int v27, .ref (am 28), .ref (am 29), .ref (am 30), .ref (am 31), .long v32, .ref (am 33), .ref (am 34), .ref (am 35), .ref (am 36)]))] ++ wt) H := hP
      have hD : va_D A ([((am 6), .inl (G.2.2 0, 6, .inl cs)), ((am 5), .inl (G.2.2 0, 288, .inl cl)), ((am 3), .inl (G.2.2 0, 2400, .inl sg)), ((am 20), .inl (G.2.2 0, 110, .inl y_26)), (m0, .inr (12, [.ref (am 0), .int v1, .int v2, .ref (am 3), .ref (am 4), .ref (am 5), .ref (am 6), .ref (am 7), .int v8, .int v9, .int v10, .int v11, .int v12, .int v13, .int v14, .ref (am 15), .int v16, .ref (am 17), .int y_24, .ref (am 19), .ref (am 20), .int v21, .int v22, .int y_25, .int v24, .int v25, .ref (am 26), .int v27, .ref (am 28), .ref (am 29), .ref (am 30), .ref (am 31), .long v32, .ref (am 33), .ref (am 34), .ref (am 35), .ref (am 36)]))] ++ wt) := hD
      refine tr_iast hx hb hK hT hP hD hS 28 k31 (by decide) (by decide) (show vp_in _ (tk_len 28) from ia_in (n := 21) (by omega) (by omega)) (show tk_e 28 _ from trivial) dX12_fillsLot_87 (fun H locs wt hT hfl hP hD hS => ?_)
      have hW := hW.arr hfl
      have hP9 : va_P (gg_D G) classes ([((am 6), .inl (G.2.2 0, 6, .inl cs)), ((am 5), .inl (G.2.2 0, 288, .inl cl)), ((am 3), .inl (G.2.2 0, 2400, .inl sg)), ((am 20), .inl (G.2.2 0, 110, .inl y_26)), (m0, .inr (12, [.ref (am 0), .int v1, .int v2, .ref (am 3), .ref (am 4), .ref (am 5), .ref (am 6), .ref (am 7), .int v8, .int v9, .int v10, .int v11, .int v12, .int v13, .int v14, .ref (am 15), .int v16, .ref (am 17), .int y_24, .ref (am 19), .ref (am 20), .int v21, .int v22, .int y_25, .int v24, .int v25, .ref (am 26), .int v27, .ref (am 28), .ref (am 29), .ref (am 30), .ref (am 31), .long v32, .ref (am 33), .ref (am 34), .ref (am 35), .ref (am 36)]))] ++ wt) _ := hP
      have hD9 : va_D A ([((am 6), .inl (G.2.2 0, 6, .inl cs)), ((am 5), .inl (G.2.2 0, 288, .inl cl)), ((am 3), .inl (G.2.2 0, 2400, .inl sg)), ((am 20), .inl (G.2.2 0, 110, .inl y_26)), (m0, .inr (12, [.ref (am 0), .int v1, .int v2, .ref (am 3), .ref (am 4), .ref (am 5), .ref (am 6), .ref (am 7), .int v8, .int v9, .int v10, .int v11, .int v12, .int v13, .int v14, .ref (am 15), .int v16, .ref (am 17), .int y_24, .ref (am 19), .ref (am 20), .int v21, .int v22, .int y_25, .int v24, .int v25, .ref (am 26), .int v27, .ref (am 28), .ref (am 29), .ref (am 30), .ref (am 31), .long v32, .ref (am 33), .ref (am 34), .ref (am 35), .ref (am 36)]))] ++ wt) := hD
      exact W.vret hx hb hr (gq_endV (y_24, y_25, y_26, wt) ⟨hT, hW, (by omega), (by omega), hSD, hKH⟩ hP9 hD9 hS) hS.2.2 dX12_fillsLot_88
  · rw [Int32.le_iff_toInt_le] at c_6
    refine lv_aload_n hx hb dX12_fillsLot_16 rfl (lv_at hl 1 rfl) ?_
    refine gq_get hx hb ht hown hK hP i_X12 4 rfl rfl 20 (by decide) wd_1272 rfl rfl dX12_fillsLot_17 ?_
    refine lv_bipush (v := 11) hx hb dX12_fillsLot_20 (by decide +kernel) ?_
    refine lv_iconst (v := 5) hx hb dX12_fillsLot_22 (by decide +kernel) ?_
    refine lv_iload_n hx hb dX12_fillsLot_23 rfl (lv_at hl 0 rfl) ?_
    obtain ⟨t_35, et_35⟩ : ∃ zz_ : Int32, 5 * x6_0 = zz_ := ⟨_, rfl⟩
    refine gq_imul hx hb t_35 et_35 dX12_fillsLot_24 ?_
    have ft_35 := ia_mul et_35 (by rw [l5]; omega) (by rw [l5]; omega)
    rw [l5] at ft_35
    obtain ⟨t_36, et_36⟩ : ∃ zz_ : Int32, 11 + t_35 = zz_ := ⟨_, rfl⟩
    refine gq_iadd hx hb t_36 et_36 dX12_fillsLot_25 ?_
    have ft_36 := ia_add et_36 (by omega) (by omega)
    refine lv_iconst (v := 2) hx hb dX12_fillsLot_26 (by decide +kernel) ?_
    obtain ⟨t_37, et_37⟩ : ∃ zz_ : Int32, t_36 + 2 = zz_ := ⟨_, rfl⟩
    refine gq_iadd hx hb t_37 et_37 dX12_fillsLot_27 ?_
    have ft_37 := ia_add et_37 (by omega) (by omega)
    refine lv_iload_n hx hb dX12_fillsLot_28 rfl (lv_at hl 3 rfl) ?_
    obtain ⟨f_38, ef_38⟩ : ∃ zz_ : Nat → Int32, upd g6_0 (Int32.toNatClampNeg t_37) w = zz_ := ⟨_, rfl⟩
    refine gq_iast (ws' := [((am 6), .inl (G.2.2 0, 6, .inl cs)), ((am 5), .inl (G.2.2 0, 288, .inl cl)), ((am 3), .inl (G.2.2 0, 2400, .inl sg)), ((am 20), .inl (G.2.2 0, 110, .inl f_38)), (m0, .inr (12, [.ref (am 0), .int v1, .int v2, .ref (am 3), .ref (am 4), .ref (am 5), .ref (am 6), .ref (am 7), .int v8, .int v9, .int v10, .int v11, .int v12, .int v13, .int v14, .ref (am 15), .int v16, .ref (am 17), .int v18, .ref (am 19), .ref (am 20), .int v21, .int v22, .int v23, .int v24, .int v25, .ref (am 26), .int v27, .ref (am 28), .ref (am 29), .ref (am 30), .ref (am 31), .long v32, .ref (am 33), .ref (am 34), .ref (am 35), .ref (am 36)]))] ++ wt) hx hb hK hP hD hS 3 rfl f_38 (ia_in (n := 110) (by omega) (by omega)) ef_38 rfl dX12_fillsLot_29 (fun H locs hP hD hS => ?_)
    rw [show Int32.toNatClampNeg t_37 = 13 + 5 * x6_0.toInt.toNat from ix_n (by omega)] at ef_38
    have hSD := hSD.seat ef_38 (b := x6_0.toInt.toNat) rfl (by omega) (by omega) (by omega) (fun _ => by omega)
    have hKH := hKH.st ef_38 (by omega) (by omega)
    have hSZ : ∀ l : Nat, l < 3 → (f_38 (36 + 4 * l)).toInt = 0 := fun l hl => by rw [upd_ne ef_38 (by omega)]; exact hSZ l hl
    obtain ⟨t_39, et_39⟩ : ∃ zz_ : Int32, x6_0 + Int32.ofInt (1) = zz_ := ⟨_, rfl⟩
    have ft_39 : t_39.toInt = x6_0.toInt + (1 : Int32).toInt := ia_add (y := 1) et_39 (by omega) (by omega)
    refine lv_iinc (v := t_39) (lv' := [(3, .int t_39), (0, .ref m0), (1, .int b), (2, .int w)]) hx hb dX12_fillsLot_30 hl (k := 0) rfl et_39 (by decide) rfl (fun ls hl => ?_)
    refine lv_goto (tgt := 6) hx hb dX12_fillsLot_33 (by decide) ?_
    exact ih6 (t_39, f_38) (show (0 ≤ t_39.toInt) ∧ (t_39.toInt ≤ 5) ∧ (SD f_38) ∧ (KH sd f_38) ∧ (∀ l : Nat, l < 3 → (f_38 (36 + 4 * l)).toInt = 0) from ⟨by omega, by omega, hSD, hKH, hSZ⟩) (show (5 - t_39.toInt).toNat < (5 - x6_0.toInt).toNat by omega) H locs wt ls hT hW hP hD hS (lv_sub hl [0, 1, 2, 3] rfl)
set_option maxHeartbeats 4000000 in
set_option maxRecDepth 100000 in
theorem d_m_fillsFits (l : Launch) (G : gg_T) (Γ : Nat → Nat) (sz : Nat) (wt : va_W) (hT : tk_ty G Γ wt) (m0 : Nat) (am : Nat → Nat) (v1 : Int32) (v2 : Int32) (v8 : Int32) (v9 : Int32) (v10 : Int32) (v11 : Int32) (v12 : Int32) (v13 : Int32) (v14 : Int32) (v16 : Int32) (v18 : Int32) (v21 : Int32) (v22 : Int32) (v23 : Int32) (v24 : Int32) (v25 : Int32) (v27 : Int32) (v32 : Int64) (kp : Nat → Int32) (ft : Nat → Int32) (cs : Nat → Int32) (cl : Nat → Int32) (sg : Nat → Int32) (sd : Nat → Int32) (k17 : Γ (am 17) = 32) (k19 : Γ (am 19) = 30) (k30 : Γ (am 30) = 28) (k31 : Γ (am 31) = 28) (lo_v1 : 0 ≤ v1.toInt) (hi_v1 : v1.toInt ≤ 400) (lo_v2 : 0 ≤ v2.toInt) (hi_v2 : v2.toInt ≤ 6) (lo_v8 : 0 ≤ v8.toInt) (hi_v8 : v8.toInt ≤ 400) (lo_v11 : 0 ≤ v11.toInt) (hi_v11 : v11.toInt ≤ 6) (lo_v12 : 0 ≤ v12.toInt) (hi_v12 : v12.toInt ≤ 60) (lo_v16 : 0 ≤ v16.toInt) (hi_v16 : v16.toInt ≤ 400) (lo_v21 : -1 ≤ v21.toInt) (hi_v21 : v21.toInt ≤ 5) (lo_v23 : 0 ≤ v23.toInt) (hi_v23 : v23.toInt ≤ 31) (lo_v27 : 0 ≤ v27.toInt) (hi_v27 : v27.toInt ≤ 20) (xfr : v21.toInt < v2.toInt) (hRU : rRU cs cl sg v2.toInt) (hSD : SD sd) : Met l yX12_fillsFits (ts_L yX12_fillsFits cX12_fillsFits 7 none) ({ frames := 9, cells := 0, slots := 0, locals := 207 }) (gc_P G ([((am 28), .inl (G.2.2 0, 38, .inl kp)), ((am 29), .inl (G.2.2 3, 7, .inl ft)), ((am 6), .inl (G.2.2 0, 6, .inl cs)), ((am 5), .inl (G.2.2 0, 288, .inl cl)), ((am 3), .inl (G.2.2 0, 2400, .inl sg)), ((am 20), .inl (G.2.2 0, 110, .inl sd)), (m0, .inr (12, [.ref (am 0), .int v1, .int v2, .ref (am 3), .ref (am 4), .ref (am 5), .ref (am 6), .ref (am 7), .int v8, .int v9, .int v10, .int v11, .int v12, .int v13, .int v14, .ref (am 15), .int v16, .ref (am 17), .int v18, .ref (am 19), .ref (am 20), .int v21, .int v22, .int v23, .int v24, .int v25, .ref (am 26), .int v27, .ref (am 28), .ref (am 29), .ref (am 30), .ref (am 31), .long v32, .ref (am 33), .ref (am 34), .ref (am 35), .ref (am 36)]))] ++ wt) sz [.ref m0]) (gc_V G (va_A ([((am 28), .inl (G.2.2 0, 38, .inl kp)), ((am 29), .inl (G.2.2 3, 7, .inl ft)), ((am 6), .inl (G.2.2 0, 6, .inl cs)), ((am 5), .inl (G.2.2 0, 288, .inl cl)), ((am 3), .inl (G.2.2 0, 2400, .inl sg)), ((am 20), .inl (G.2.2 0, 110, .inl sd)), (m0, .inr (12, [.ref (am 0), .int v1, .int v2, .ref (am 3), .ref (am 4), .ref (am 5), .ref (am 6), .ref (am 7), .int v8, .int v9, .int v10, .int v11, .int v12, .int v13, .int v14, .ref (am 15), .int v16, .ref (am 17), .int v18, .ref (am 19), .ref (am 20), .int v21, .int v22, .int v23, .int v24, .int v25, .ref (am 26), .int v27, .ref (am 28), .ref (am 29), .ref (am 30), .ref (am 31), .long v32, .ref (am 33), .ref (am 34), .ref (am 35), .ref (am 36)]))] ++ wt) sz) (fun (u : (Int32) × (Int32) × (Int32) × (Nat → Int32) × (Nat → Int32) × (Nat → Int32) × va_W) => match u with | (w18, w21, w23, kp1, ft1, sd1, wt1) => tk_ty G Γ wt1 ∧ tk_kp [] wt wt1 ∧ (-1 ≤ w21.toInt) ∧ (w21.toInt ≤ 5) ∧ (0 ≤ w23.toInt) ∧ (w23.toInt ≤ 31) ∧ (w21.toInt < v2.toInt) ∧ (w21.toInt = v21.toInt) ∧ (SD sd1) ∧ (KH sd sd1)) (fun (u : (Int32) × (Int32) × (Int32) × (Nat → Int32) × (Nat → Int32) × (Nat → Int32) × va_W) => match u with | (w18, w21, w23, kp1, ft1, sd1, wt1) => [((am 28), .inl (G.2.2 0, 38, .inl kp1)), ((am 29), .inl (G.2.2 3, 7, .inl ft1)), ((am 6), .inl (G.2.2 0, 6, .inl cs)), ((am 5), .inl (G.2.2 0, 288, .inl cl)), ((am 3), .inl (G.2.2 0, 2400, .inl sg)), ((am 20), .inl (G.2.2 0, 110, .inl sd1)), (m0, .inr (12, [.ref (am 0), .int v1, .int v2, .ref (am 3), .ref (am 4), .ref (am 5), .ref (am 6), .ref (am 7), .int v8, .int v9, .int v10, .int v11, .int v12, .int v13, .int v14, .ref (am 15), .int v16, .ref (am 17), .int w18, .ref (am 19), .ref (am 20), .int w21, .int v22, .int w23, .int v24, .int v25, .ref (am 26), .int v27, .ref (am 28), .ref (am 29), .ref (am 30), .ref (am 31), .long v32, .ref (am 33), .ref (am 34), .ref (am 35), .ref (am 36)]))] ++ wt1)) 0 0 (va_A ([((am 28), .inl (G.2.2 0, 38, .inl kp)), ((am 29), .inl (G.2.2 3, 7, .inl ft)), ((am 6), .inl (G.2.2 0, 6, .inl cs)), ((am 5), .inl (G.2.2 0, 288, .inl cl)), ((am 3), .inl (G.2.2 0, 2400, .inl sg)), ((am 20), .inl (G.2.2 0, 110, .inl sd)), (m0, .inr (12, [.ref (am 0), .int v1, .int v2, .ref (am 3), .ref (am 4), .ref (am 5), .ref (am 6), .ref (am 7), .int v8, .int v9, .int v10, .int v11, .int v12, .int v13, .int v14, .ref (am 15), .int v16, .ref (am 17), .int v18, .ref (am 19), .ref (am 20), .int v21, .int v22, .int v23, .int v24, .int v25, .ref (am 26), .int v27, .ref (am 28), .ref (am 29), .ref (am 30), .ref (am 31), .long v32, .ref (am 33), .ref (am 34), .ref (am 35), .ref (am 36)]))] ++ wt) sz) := by
  refine Met.ofW (cc := cX12_fillsFits) (maxL := 7) (ret := none) (by decide) rfl ?_
  intro p e s m args below meth c s₁ B hml hv
  obtain ⟨rfl, hsz, hP, hK, hD0⟩ := hv
  have hx := B.exec
  have hb := B.bytes
  have hr := B.returns
  have ht := ts_ht (atoms_spec (ws := ts_L yX12_fillsFits cX12_fillsFits 7 none) B.pre)
  have hown : s.vm.findClass RX12 = some m.cls := findClass_of_methodNamed B.named
  have hlocks := B.notSynchronized
  subst hsz
  have hD := hD0.self (sz := s.heap.size)
  generalize hAe : va_A ([((am 28), .inl (G.2.2 0, 38, .inl kp)), ((am 29), .inl (G.2.2 3, 7, .inl ft)), ((am 6), .inl (G.2.2 0, 6, .inl cs)), ((am 5), .inl (G.2.2 0, 288, .inl cl)), ((am 3), .inl (G.2.2 0, 2400, .inl sg)), ((am 20), .inl (G.2.2 0, 110, .inl sd)), (m0, .inr (12, [.ref (am 0), .int v1, .int v2, .ref (am 3), .ref (am 4), .ref (am 5), .ref (am 6), .ref (am 7), .int v8, .int v9, .int v10, .int v11, .int v12, .int v13, .int v14, .ref (am 15), .int v16, .ref (am 17), .int v18, .ref (am 19), .ref (am 20), .int v21, .int v22, .int v23, .int v24, .int v25, .ref (am 26), .int v27, .ref (am 28), .ref (am 29), .ref (am 30), .ref (am 31), .long v32, .ref (am 33), .ref (am 34), .ref (am 35), .ref (am 36)]))] ++ wt) s.heap.size = A at hD ⊢
  have hA : ∀ q : Nat, s.heap.size ≤ q → A q := fun q h => by rw [← hAe]; exact Or.inr h
  clear hAe hD0
  have hS : va_S A s.heap s.heap [] := va_S.rf
  obtain ⟨w0, hw0⟩ : ∃ z, z = wt := ⟨_, rfl⟩
  have hW : tk_kp [] w0 wt := by rw [hw0]; exact tk_kp.rf
  rw [← hw0]
  clear hw0
  have hP : va_P (gg_D G) classes ([((am 28), .inl (G.2.2 0, 38, .inl kp)), ((am 29), .inl (G.2.2 3, 7, .inl ft)), ((am 6), .inl (G.2.2 0, 6, .inl cs)), ((am 5), .inl (G.2.2 0, 288, .inl cl)), ((am 3), .inl (G.2.2 0, 2400, .inl sg)), ((am 20), .inl (G.2.2 0, 110, .inl sd)), (m0, .inr (12, [.ref (am 0), .int v1, .int v2, .ref (am 3), .ref (am 4), .ref (am 5), .ref (am 6), .ref (am 7), .int v8, .int v9, .int v10, .int v11, .int v12, .int v13, .int v14, .ref (am 15), .int v16, .ref (am 17), .int v18, .ref (am 19), .ref (am 20), .int v21, .int v22, .int v23, .int v24, .int v25, .ref (am 26), .int v27, .ref (am 28), .ref (am 29), .ref (am 30), .ref (am 31), .long v32, .ref (am 33), .ref (am 34), .ref (am 35), .ref (am 36)]))] ++ wt) s.heap := hP
  have hD : va_D A ([((am 28), .inl (G.2.2 0, 38, .inl kp)), ((am 29), .inl (G.2.2 3, 7, .inl ft)), ((am 6), .inl (G.2.2 0, 6, .inl cs)), ((am 5), .inl (G.2.2 0, 288, .inl cl)), ((am 3), .inl (G.2.2 0, 2400, .inl sg)), ((am 20), .inl (G.2.2 0, 110, .inl sd)), (m0, .inr (12, [.ref (am 0), .int v1, .int v2, .ref (am 3), .ref (am 4), .ref (am 5), .ref (am 6), .ref (am 7), .int v8, .int v9, .int v10, .int v11, .int v12, .int v13, .int v14, .ref (am 15), .int v16, .ref (am 17), .int v18, .ref (am 19), .ref (am 20), .int v21, .int v22, .int v23, .int v24, .int v25, .ref (am 26), .int v27, .ref (am 28), .ref (am 29), .ref (am 30), .ref (am 31), .long v32, .ref (am 33), .ref (am 34), .ref (am 35), .ref (am 36)]))] ++ wt) := hD
  have hl := lv_entry ([.ref m0]) (n := 7) (Nat.le_of_ble_eq_true rfl)
  rw [lg_entry_eq]
  generalize (lg_sl ([.ref m0]) ++ List.replicate (7 - (lg_sl ([.ref m0])).length) Slot.unset).toArray = ls at hl ⊢
  have hl : lv_has ls 7 [(0, .ref m0)] := hl
  have hKH : KH sd sd := KH.rf
  have l0 : (0 : Int32).toInt = 0 := by decide +kernel
  have l1 : (1 : Int32).toInt = 1 := by decide +kernel
  have l2 : (2 : Int32).toInt = 2 := by decide +kernel
  have l3 : (3 : Int32).toInt = 3 := by decide +kernel
  have l79 : (79 : Int32).toInt = 79 := by decide +kernel
  have l109 : (109 : Int32).toInt = 109 := by decide +kernel
  refine lv_aload_n hx hb dX12_fillsFits_0 rfl (lv_at hl 0 rfl) ?_
  refine gq_get hx hb ht hown hK hP i_X12 6 rfl rfl 21 (by decide) wd_1273 rfl rfl dX12_fillsFits_1 ?_
  refine lv_istore_n (lv' := [(1, .int v21), (0, .ref m0)]) hx hb dX12_fillsFits_4 rfl hl (by decide) rfl (fun ls hl => ?_)
  refine lv_aload_n hx hb dX12_fillsFits_5 rfl (lv_at hl 1 rfl) ?_
  have hP := tw_permP (we' := [((am 29), .inl (G.2.2 3, 7, .inl ft)), ((am 6), .inl (G.2.2 0, 6, .inl cs)), ((am 5), .inl (G.2.2 0, 288, .inl cl)), ((am 3), .inl (G.2.2 0, 2400, .inl sg)), ((am 28), .inl (G.2.2 0, 38, .inl kp)), ((am 20), .inl (G.2.2 0, 110, .inl sd)), (m0, .inr (12, [.ref (am 0), .int v1, .int v2, .ref (am 3), .ref (am 4), .ref (am 5), .ref (am 6), .ref (am 7), .int v8, .int v9, .int v10, .int v11, .int v12, .int v13, .int v14, .ref (am 15), .int v16, .ref (am 17), .int v18, .ref (am 19), .ref (am 20), .int v21, .int v22, .int v23, .int v24, .int v25, .ref (am 26), .int v27, .ref (am 28), .ref (am 29), .ref (am 30), .ref (am 31), .long v32, .ref (am 33), .ref (am 34), .ref (am 35), .ref (am 36)]))]) [1, 2, 3, 4, 0, 5, 6] rfl hP
  have hD := tw_permD (we' := [((am 29), .inl (G.2.2 3, 7, .inl ft)), ((am 6), .inl (G.2.2 0, 6, .inl cs)), ((am 5), .inl (G.2.2 0, 288, .inl cl)), ((am 3), .inl (G.2.2 0, 2400, .inl sg)), ((am 28), .inl (G.2.2 0, 38, .inl kp)), ((am 20), .inl (G.2.2 0, 110, .inl sd)), (m0, .inr (12, [.ref (am 0), .int v1, .int v2, .ref (am 3), .ref (am 4), .ref (am 5), .ref (am 6), .ref (am 7), .int v8, .int v9, .int v10, .int v11, .int v12, .int v13, .int v14, .ref (am 15), .int v16, .ref (am 17), .int v18, .ref (am 19), .ref (am 20), .int v21, .int v22, .int v23, .int v24, .int v25, .ref (am 26), .int v27, .ref (am 28), .ref (am 29), .ref (am 30), .ref (am 31), .long v32, .ref (am 33), .ref (am 34), .ref (am 35), .ref (am 36)]))]) [1, 2, 3, 4, 0, 5, 6] (by decide) rfl hD
  have hP : va_P (gg_D G) classes ([((am 29), .inl (G.2.2 3, 7, .inl ft)), ((am 6), .inl (G.2.2 0, 6, .inl cs)), ((am 5), .inl (G.2.2 0, 288, .inl cl)), ((am 3), .inl (G.2.2 0, 2400, .inl sg))] ++ ([((am 28), .inl (G.2.2 0, 38, .inl kp)), ((am 20), .inl (G.2.2 0, 110, .inl sd)), (m0, .inr (12, [.ref (am 0), .int v1, .int v2, .ref (am 3), .ref (am 4), .ref (am 5), .ref (am 6), .ref (am 7), .int v8, .int v9, .int v10, .int v11, .int v12, .int v13, .int v14, .ref (am 15), .int v16, .ref (am 17), .int v18, .ref (am 19), .ref (am 20), .int v21, .int v22, .int v23, .int v24, .int v25, .ref (am 26), .int v27, .ref (am 28), .ref (am 29), .ref (am 30), .ref (am 31), .long v32, .ref (am 33), .ref (am 34), .ref (am 35), .ref (am 36)]))] ++ wt)) s.heap := hP
  have hD : va_D A ([((am 29), .inl (G.2.2 3, 7, .inl ft)), ((am 6), .inl (G.2.2 0, 6, .inl cs)), ((am 5), .inl (G.2.2 0, 288, .inl cl)), ((am 3), .inl (G.2.2 0, 2400, .inl sg))] ++ ([((am 28), .inl (G.2.2 0, 38, .inl kp)), ((am 20), .inl (G.2.2 0, 110, .inl sd)), (m0, .inr (12, [.ref (am 0), .int v1, .int v2, .ref (am 3), .ref (am 4), .ref (am 5), .ref (am 6), .ref (am 7), .int v8, .int v9, .int v10, .int v11, .int v12, .int v13, .int v14, .ref (am 15), .int v16, .ref (am 17), .int v18, .ref (am 19), .ref (am 20), .int v21, .int v22, .int v23, .int v24, .int v25, .ref (am 26), .int v27, .ref (am 28), .ref (am 29), .ref (am 30), .ref (am 31), .long v32, .ref (am 33), .ref (am 34), .ref (am 35), .ref (am 36)]))] ++ wt)) := hD
  refine gt_callV (wr := [((am 29), .inl (G.2.2 3, 7, .inl ft)), ((am 6), .inl (G.2.2 0, 6, .inl cs)), ((am 5), .inl (G.2.2 0, 288, .inl cl)), ((am 3), .inl (G.2.2 0, 2400, .inl sg))]) (va_runV (As := []) (rest := []) ⟨hx, hb, hml, hown, ht⟩ (d_m_keeps l G Γ s.heap.size wt hT m0 am v1 v2 v8 v9 v10 v11 v12 v13 v14 v16 v18 v21 v22 v23 v24 v25 v27 v32 kp sd (by first | assumption | exact hSD.1 | exact hSD.w _ | (rw [hKH 2 (by omega)]; exact hKP) | omega) (by first | assumption | exact hSD.1 | exact hSD.w _ | (rw [hKH 2 (by omega)]; exact hKP) | omega) (by first | assumption | exact hSD.1 | exact hSD.w _ | (rw [hKH 2 (by omega)]; exact hKP) | omega) (by first | assumption | exact hSD.1 | exact hSD.w _ | (rw [hKH 2 (by omega)]; exact hKP) | omega) (by first | assumption | exact hSD.1 | exact hSD.w _ | (rw [hKH 2 (by omega)]; exact hKP) | omega) (by first | assumption | exact hSD.1 | exact hSD.w _ | (rw [hKH 2 (by omega)]; exact hKP) | omega) (by first | assumption | exact hSD.1 | exact hSD.w _ | (rw [hKH 2 (by omega)]; exact hKP) | omega) (by first | assumption | exact hSD.1 | exact hSD.w _ | (rw [hKH 2 (by omega)]; exact hKP) | omega) (by first | assumption | exact hSD.1 | exact hSD.w _ | (rw [hKH 2 (by omega)]; exact hKP) | omega) (by first | assumption | exact hSD.1 | exact hSD.w _ | (rw [hKH 2 (by omega)]; exact hKP) | omega) (by first | assumption | exact hSD.1 | exact hSD.w _ | (rw [hKH 2 (by omega)]; exact hKP) | omega) (by first | assumption | exact hSD.1 | exact hSD.w _ | (rw [hKH 2 (by omega)]; exact hKP) | omega) (by first | assumption | exact hSD.1 | exact hSD.w _ | (rw [hKH 2 (by omega)]; exact hKP) | omega) (by first | assumption | exact hSD.1 | exact hSD.w _ | (rw [hKH 2 (by omega)]; exact hKP) | omega) (by first | assumption | exact hSD.1 | exact hSD.w _ | (rw [hKH 2 (by omega)]; exact hKP) | omega) (by first | assumption | exact hSD.1 | exact hSD.w _ | (rw [hKH 2 (by omega)]; exact hKP) | omega) (by first | assumption | exact hSD.1 | exact hSD.w _ | (rw [hKH 2 (by omega)]; exact hKP) | omega) (by first | assumption | exact hSD.1 | exact hSD.w _ | (rw [hKH 2 (by omega)]; exact hKP) | omega) (by first | assumption | exact hSD.1 | exact hSD.w _ | (rw [hKH 2 (by omega)]; exact hKP) | omega) (by first | assumption | exact hSD.1 | exact hSD.w _ | (rw [hKH 2 (by omega)]; exact hKP) | omega) (by first | assumption | exact hSD.1 | exact hSD.w _ | (rw [hKH 2 (by omega)]; exact hKP) | omega) (by first | assumption | exact hSD.1 | exact hSD.w _ | (rw [hKH 2 (by omega)]; exact hKP) | omega) (by first | assumption | exact hSD.1 | exact hSD.w _ | (rw [hKH 2 (by omega)]; exact hKP) | omega) (by first | assumption | exact hSD.1 | exact hSD.w _ | (rw [hKH 2 (by omega)]; exact hKP) | omega)) (cwV 0 ht (ts_gV wd_1726 wd_1728 wd_103 wd_134 wd_1729) rfl rfl rfl (by decide +kernel) ⟨Nat.le_of_ble_eq_true rfl, Nat.le_of_ble_eq_true rfl⟩) (gc_preV (ci := 12) (q0 := 2) hK (tw_right hP) (tw_rightD hD) rfl rfl) rfl rfl hl.1 rfl (lv_room (Nat.le_of_ble_eq_true rfl)) dX12_fillsFits_6 ⟨Nat.le_of_ble_eq_true rfl, Nat.le_of_ble_eq_true rfl⟩) hP hD hS hA (fun u H locs hw hP hD hS => ?_)
  obtain ⟨y_1, wt⟩ := u
  obtain ⟨hT, hkp, w_2⟩ := hw
  have hW := hW.call (show ∀ x ∈ [], x ∈ [] by decide) hkp
  have hP : va_P (gg_D G) classes ([((am 29), .inl (G.2.2 3, 7, .inl ft)), ((am 6), .inl (G.2.2 0, 6, .inl cs)), ((am 5), .inl (G.2.2 0, 288, .inl cl)), ((am 3), .inl (G.2.2 0, 2400, .inl sg)), ((am 28), .inl (G.2.2 0, 38, .inl y_1)), ((am 20), .inl (G.2.2 0, 110, .inl sd)), (m0, .inr (12, [.ref (am 0), .int v1, .int v2, .ref (am 3), .ref (am 4), .ref (am 5), .ref (am 6), .ref (am 7), .int v8, .int v9, .int v10, .int v11, .int v12, .int v13, .int v14, .ref (am 15), .int v16, .ref (am 17), .int v18, .ref (am 19), .ref (am 20), .int v21, .int v22, .int v23, .int v24, .int v25, .ref (am 26), .int v27, .ref (am 28), .ref (am 29), .ref (am 30), .ref (am 31), .long v32, .ref (am 33), .ref (am 34), .ref (am 35), .ref (am 36)]))] ++ wt) H := hP
  have hD : va_D A ([((am 29), .inl (G.2.2 3, 7, .inl ft)), ((am 6), .inl (G.2.2 0, 6, .inl cs)), ((am 5), .inl (G.2.2 0, 288, .inl cl)), ((am 3), .inl (G.2.2 0, 2400, .inl sg)), ((am 28), .inl (G.2.2 0, 38, .inl y_1)), ((am 20), .inl (G.2.2 0, 110, .inl sd)), (m0, .inr (12, [.ref (am 0), .int v1, .int v2, .ref (am 3), .ref (am 4), .ref (am 5), .ref (am 6), .ref (am 7), .int v8, .int v9, .int v10, .int v11, .int v12, .int v13, .int v14, .ref (am 15), .int v16, .ref (am 17), .int v18, .ref (am 19), .ref (am 20), .int v21, .int v22, .int v23, .int v24, .int v25, .ref (am 26), .int v27, .ref (am 28), .ref (am 29), .ref (am 30), .ref (am 31), .long v32, .ref (am 33), .ref (am 34), .ref (am 35), .ref (am 36)]))] ++ wt) := hD
  have c_KP := w_2
  have hKP := w_2
  refine lv_iconst (v := 0) hx hb dX12_fillsFits_9 (by decide +kernel) ?_
  refine lv_istore_n (lv' := [(2, .int 0), (1, .int v21), (0, .ref m0)]) hx hb dX12_fillsFits_10 rfl hl (by decide) rfl (fun ls hl => ?_)
  have hP := tw_permP (we' := [((am 28), .inl (G.2.2 0, 38, .inl y_1)), ((am 29), .inl (G.2.2 3, 7, .inl ft)), ((am 6), .inl (G.2.2 0, 6, .inl cs)), ((am 5), .inl (G.2.2 0, 288, .inl cl)), ((am 3), .inl (G.2.2 0, 2400, .inl sg)), ((am 20), .inl (G.2.2 0, 110, .inl sd)), (m0, .inr (12, [.ref (am 0), .int v1, .int v2, .ref (am 3), .ref (am 4), .ref (am 5), .ref (am 6), .ref (am 7), .int v8, .int v9, .int v10, .int v11, .int v12, .int v13, .int v14, .ref (am 15), .int v16, .ref (am 17), .int v18, .ref (am 19), .ref (am 20), .int v21, .int v22, .int v23, .int v24, .int v25, .ref (am 26), .int v27, .ref (am 28), .ref (am 29), .ref (am 30), .ref (am 31), .long v32, .ref (am 33), .ref (am 34), .ref (am 35), .ref (am 36)]))]) [4, 0, 1, 2, 3, 5, 6] rfl hP
  have hD := tw_permD (we' := [((am 28), .inl (G.2.2 0, 38, .inl y_1)), ((am 29), .inl (G.2.2 3, 7, .inl ft)), ((am 6), .inl (G.2.2 0, 6, .inl cs)), ((am 5), .inl (G.2.2 0, 288, .inl cl)), ((am 3), .inl (G.2.2 0, 2400, .inl sg)), ((am 20), .inl (G.2.2 0, 110, .inl sd)), (m0, .inr (12, [.ref (am 0), .int v1, .int v2, .ref (am 3), .ref (am 4), .ref (am 5), .ref (am 6), .ref (am 7), .int v8, .int v9, .int v10, .int v11, .int v12, .int v13, .int v14, .ref (am 15), .int v16, .ref (am 17), .int v18, .ref (am 19), .ref (am 20), .int v21, .int v22, .int v23, .int v24, .int v25, .ref (am 26), .int v27, .ref (am 28), .ref (am 29), .ref (am 30), .ref (am 31), .long v32, .ref (am 33), .ref (am 34), .ref (am 35), .ref (am 36)]))]) [4, 0, 1, 2, 3, 5, 6] (by decide) rfl hD
  refine tl_loopE (Γ := Γ) (nL := 7) (fun (zz_ : Int32 × Int32 × Int32 × Int32 × (Nat → Int32) × (Nat → Int32)) => match zz_ with | (x11_0, x11_1, x11_2, x11_3, g11_0, g11_1) => (0 ≤ x11_0.toInt) ∧ (x11_0.toInt ≤ 7) ∧ (-1 ≤ x11_2.toInt) ∧ (x11_2.toInt ≤ 5) ∧ (0 ≤ x11_3.toInt) ∧ (x11_3.toInt ≤ 31) ∧ (x11_2.toInt < v2.toInt) ∧ (SD g11_1) ∧ (KH sd g11_1)) (fun (zz_ : Int32 × Int32 × Int32 × Int32 × (Nat → Int32) × (Nat → Int32)) => match zz_ with | (x11_0, x11_1, x11_2, x11_3, g11_0, g11_1) => (7 - x11_0.toInt).toNat) (fun (zz_ : Int32 × Int32 × Int32 × Int32 × (Nat → Int32) × (Nat → Int32)) => match zz_ with | (x11_0, x11_1, x11_2, x11_3, g11_0, g11_1) => [(2, .int x11_0), (1, .int v21), (0, .ref m0)]) (fun (zz_ : Int32 × Int32 × Int32 × Int32 × (Nat → Int32) × (Nat → Int32)) => match zz_ with | (x11_0, x11_1, x11_2, x11_3, g11_0, g11_1) => [((am 28), .inl (G.2.2 0, 38, .inl y_1)), ((am 29), .inl (G.2.2 3, 7, .inl g11_0)), ((am 6), .inl (G.2.2 0, 6, .inl cs)), ((am 5), .inl (G.2.2 0, 288, .inl cl)), ((am 3), .inl (G.2.2 0, 2400, .inl sg)), ((am 20), .inl (G.2.2 0, 110, .inl g11_1)), (m0, .inr (12, [.ref (am 0), .int v1, .int v2, .ref (am 3), .ref (am 4), .ref (am 5), .ref (am 6), .ref (am 7), .int v8, .int v9, .int v10, .int v11, .int v12, .int v13, .int v14, .ref (am 15), .int v16, .ref (am 17), .int x11_1, .ref (am 19), .ref (am 20), .int x11_2, .int v22, .int x11_3, .int v24, .int v25, .ref (am 26), .int v27, .ref (am 28), .ref (am 29), .ref (am 30), .ref (am 31), .long v32, .ref (am 33), .ref (am 34), .ref (am 35), .ref (am 36)]))]) (fun (zz_ : Int32 × Int32 × Int32 × Int32 × (Nat → Int32) × (Nat → Int32)) (w : va_W) => match zz_ with | (x11_0, x11_1, x11_2, x11_3, g11_0, g11_1) => tk_kp [] w0 w) (fun zz_ hI H locs wt ls hT hW hP hD hS hl ih11 => ?_) (0, v18, v21, v23, ft, sd) (show (0 ≤ (0 : Int32).toInt) ∧ ((0 : Int32).toInt ≤ 7) ∧ (-1 ≤ v21.toInt) ∧ (v21.toInt ≤ 5) ∧ (0 ≤ v23.toInt) ∧ (v23.toInt ≤ 31) ∧ (v21.toInt < v2.toInt) ∧ (SD sd) ∧ (KH sd sd) from ⟨by omega, by omega, by omega, by omega, by omega, by omega, by omega, hSD, hKH⟩) _ _ wt ls hT hW hP hD hS hl
  obtain ⟨x11_0, x11_1, x11_2, x11_3, g11_0, g11_1⟩ := zz_
  have hW : tk_kp [] w0 wt := hW
  have hI : (0 ≤ x11_0.toInt) ∧ (x11_0.toInt ≤ 7) ∧ (-1 ≤ x11_2.toInt) ∧ (x11_2.toInt ≤ 5) ∧ (0 ≤ x11_3.toInt) ∧ (x11_3.toInt ≤ 31) ∧ (x11_2.toInt < v2.toInt) ∧ (SD g11_1) ∧ (KH sd g11_1) := hI
  obtain ⟨j11_0, j11_1, j11_2, j11_3, j11_4, j11_5, j11_6, hSD, hKH⟩ := hI
  have hl : lv_has ls 7 [(2, .int x11_0), (1, .int v21), (0, .ref m0)] := hl
  have hP : va_P (gg_D G) classes ([((am 28), .inl (G.2.2 0, 38, .inl y_1)), ((am 29), .inl (G.2.2 3, 7, .inl g11_0)), ((am 6), .inl (G.2.2 0, 6, .inl cs)), ((am 5), .inl (G.2.2 0, 288, .inl cl)), ((am 3), .inl (G.2.2 0, 2400, .inl sg)), ((am 20), .inl (G.2.2 0, 110, .inl g11_1)), (m0, .inr (12, [.ref (am 0), .int v1, .int v2, .ref (am 3), .ref (am 4), .ref (am 5), .ref (am 6), .ref (am 7), .int v8, .int v9, .int v10, .int v11, .int v12, .int v13, .int v14, .ref (am 15), .int v16, .ref (am 17), .int x11_1, .ref (am 19), .ref (am 20), .int x11_2, .int v22, .int x11_3, .int v24, .int v25, .ref (am 26), .int v27, .ref (am 28), .ref (am 29), .ref (am 30), .ref (am 31), .long v32, .ref (am 33), .ref (am 34), .ref (am 35), .ref (am 36)]))] ++ wt) H := hP
  have hD : va_D A ([((am 28), .inl (G.2.2 0, 38, .inl y_1)), ((am 29), .inl (G.2.2 3, 7, .inl g11_0)), ((am 6), .inl (G.2.2 0, 6, .inl cs)), ((am 5), .inl (G.2.2 0, 288, .inl cl)), ((am 3), .inl (G.2.2 0, 2400, .inl sg)), ((am 20), .inl (G.2.2 0, 110, .inl g11_1)), (m0, .inr (12, [.ref (am 0), .int v1, .int v2, .ref (am 3), .ref (am 4), .ref (am 5), .ref (am 6), .ref (am 7), .int v8, .int v9, .int v10, .int v11, .int v12, .int v13, .int v14, .ref (am 15), .int v16, .ref (am 17), .int x11_1, .ref (am 19), .ref (am 20), .int x11_2, .int v22, .int x11_3, .int v24, .int v25, .ref (am 26), .int v27, .ref (am 28), .ref (am 29), .ref (am 30), .ref (am 31), .long v32, .ref (am 33), .ref (am 34), .ref (am 35), .ref (am 36)]))] ++ wt) := hD
  refine lv_iload_n hx hb dX12_fillsFits_11 rfl (lv_at hl 0 rfl) ?_
  refine lv_aload_n hx hb dX12_fillsFits_12 rfl (lv_at hl 2 rfl) ?_
  refine gq_get hx hb ht hown hK hP i_X12 6 rfl rfl 2 (by decide) wd_1254 rfl rfl dX12_fillsFits_13 ?_
  refine lv_icmp_gt (tgt := 167) hx hb dX12_fillsFits_16 (by decide) (fun c_3 => ?_) (fun c_3 => ?_)
  · rw [Int32.lt_iff_toInt_lt] at c_3
    refine lv_aload_n hx hb dX12_fillsFits_167 rfl (lv_at hl 2 rfl) ?_
    refine lv_iload_n hx hb dX12_fillsFits_168 rfl (lv_at hl 1 rfl) ?_
    refine gq_put (ws' := [((am 28), .inl (G.2.2 0, 38, .inl y_1)), ((am 29), .inl (G.2.2 3, 7, .inl g11_0)), ((am 6), .inl (G.2.2 0, 6, .inl cs)), ((am 5), .inl (G.2.2 0, 288, .inl cl)), ((am 3), .inl (G.2.2 0, 2400, .inl sg)), ((am 20), .inl (G.2.2 0, 110, .inl g11_1)), (m0, .inr (12, [.ref (am 0), .int v1, .int v2, .ref (am 3), .ref (am 4), .ref (am 5), .ref (am 6), .ref (am 7), .int v8, .int v9, .int v10, .int v11, .int v12, .int v13, .int v14, .ref (am 15), .int v16, .ref (am 17), .int x11_1, .ref (am 19), .ref (am 20), .int v21, .int v22, .int x11_3, .int v24, .int v25, .ref (am 26), .int v27, .ref (am 28), .ref (am 29), .ref (am 30), .ref (am 31), .long v32, .ref (am 33), .ref (am 34), .ref (am 35), .ref (am 36)]))] ++ wt) hx hb ht hown hK hP hD hS i_X12 tyX12 tyX12_ok nmX12 6 rfl rfl 21 (by decide) wd_1273 rfl rfl rfl rfl (Nat.le_of_ble_eq_true rfl) rfl dX12_fillsFits_169 (fun H locs hP hD hS => ?_)
    refine lv_aload_n hx hb dX12_fillsFits_172 rfl (lv_at hl 2 rfl) ?_
    have hP := tw_permP (we' := [((am 29), .inl (G.2.2 3, 7, .inl g11_0)), ((am 6), .inl (G.2.2 0, 6, .inl cs)), ((am 5), .inl (G.2.2 0, 288, .inl cl)), ((am 3), .inl (G.2.2 0, 2400, .inl sg)), ((am 28), .inl (G.2.2 0, 38, .inl y_1)), ((am 20), .inl (G.2.2 0, 110, .inl g11_1)), (m0, .inr (12, [.ref (am 0), .int v1, .int v2, .ref (am 3), .ref (am 4), .ref (am 5), .ref (am 6), .ref (am 7), .int v8, .int v9, .int v10, .int v11, .int v12, .int v13, .int v14, .ref (am 15), .int v16, .ref (am 17), .int x11_1, .ref (am 19), .ref (am 20), .int v21, .int v22, .int x11_3, .int v24, .int v25, .ref (am 26), .int v27, .ref (am 28), .ref (am 29), .ref (am 30), .ref (am 31), .long v32, .ref (am 33), .ref (am 34), .ref (am 35), .ref (am 36)]))]) [1, 2, 3, 4, 0, 5, 6] rfl hP
    have hD := tw_permD (we' := [((am 29), .inl (G.2.2 3, 7, .inl g11_0)), ((am 6), .inl (G.2.2 0, 6, .inl cs)), ((am 5), .inl (G.2.2 0, 288, .inl cl)), ((am 3), .inl (G.2.2 0, 2400, .inl sg)), ((am 28), .inl (G.2.2 0, 38, .inl y_1)), ((am 20), .inl (G.2.2 0, 110, .inl g11_1)), (m0, .inr (12, [.ref (am 0), .int v1, .int v2, .ref (am 3), .ref (am 4), .ref (am 5), .ref (am 6), .ref (am 7), .int v8, .int v9, .int v10, .int v11, .int v12, .int v13, .int v14, .ref (am 15), .int v16, .ref (am 17), .int x11_1, .ref (am 19), .ref (am 20), .int v21, .int v22, .int x11_3, .int v24, .int v25, .ref (am 26), .int v27, .ref (am 28), .ref (am 29), .ref (am 30), .ref (am 31), .long v32, .ref (am 33), .ref (am 34), .ref (am 35), .ref (am 36)]))]) [1, 2, 3, 4, 0, 5, 6] (by decide) rfl hD
    have hP : va_P (gg_D G) classes ([((am 29), .inl (G.2.2 3, 7, .inl g11_0)), ((am 6), .inl (G.2.2 0, 6, .inl cs)), ((am 5), .inl (G.2.2 0, 288, .inl cl)), ((am 3), .inl (G.2.2 0, 2400, .inl sg))] ++ ([((am 28), .inl (G.2.2 0, 38, .inl y_1)), ((am 20), .inl (G.2.2 0, 110, .inl g11_1)), (m0, .inr (12, [.ref (am 0), .int v1, .int v2, .ref (am 3), .ref (am 4), .ref (am 5), .ref (am 6), .ref (am 7), .int v8, .int v9, .int v10, .int v11, .int v12, .int v13, .int v14, .ref (am 15), .int v16, .ref (am 17), .int x11_1, .ref (am 19), .ref (am 20), .int v21, .int v22, .int x11_3, .int v24, .int v25, .ref (am 26), .int v27, .ref (am 28), .ref (am 29), .ref (am 30), .ref (am 31), .long v32, .ref (am 33), .ref (am 34), .ref (am 35), .ref (am 36)]))] ++ wt)) H := hP
    have hD : va_D A ([((am 29), .inl (G.2.2 3, 7, .inl g11_0)), ((am 6), .inl (G.2.2 0, 6, .inl cs)), ((am 5), .inl (G.2.2 0, 288, .inl cl)), ((am 3), .inl (G.2.2 0, 2400, .inl sg))] ++ ([((am 28), .inl (G.2.2 0, 38, .inl y_1)), ((am 20), .inl (G.2.2 0, 110, .inl g11_1)), (m0, .inr (12, [.ref (am 0), .int v1, .int v2, .ref (am 3), .ref (am 4), .ref (am 5), .ref (am 6), .ref (am 7), .int v8, .int v9, .int v10, .int v11, .int v12, .int v13, .int v14, .ref (am 15), .int v16, .ref (am 17), .int x11_1, .ref (am 19), .ref (am 20), .int v21, .int v22, .int x11_3, .int v24, .int v25, .ref (am 26), .int v27, .ref (am 28), .ref (am 29), .ref (am 30), .ref (am 31), .long v32, .ref (am 33), .ref (am 34), .ref (am 35), .ref (am 36)]))] ++ wt)) := hD
    refine gt_callV (wr := [((am 29), .inl (G.2.2 3, 7, .inl g11_0)), ((am 6), .inl (G.2.2 0, 6, .inl cs)), ((am 5), .inl (G.2.2 0, 288, .inl cl)), ((am 3), .inl (G.2.2 0, 2400, .inl sg))]) (va_runV (As := []) (rest := []) ⟨hx, hb, hml, hown, ht⟩ (d_m_laysBack l G Γ H.size wt hT m0 am v1 v2 v8 v9 v10 v11 v12 v13 v14 v16 x11_1 v21 v22 x11_3 v24 v25 v27 v32 y_1 g11_1 (by first | assumption | exact hSD.1 | exact hSD.w _ | (rw [hKH 2 (by omega)]; exact hKP) | omega) (by first | assumption | exact hSD.1 | exact hSD.w _ | (rw [hKH 2 (by omega)]; exact hKP) | omega) (by first | assumption | exact hSD.1 | exact hSD.w _ | (rw [hKH 2 (by omega)]; exact hKP) | omega) (by first | assumption | exact hSD.1 | exact hSD.w _ | (rw [hKH 2 (by omega)]; exact hKP) | omega) (by first | assumption | exact hSD.1 | exact hSD.w _ | (rw [hKH 2 (by omega)]; exact hKP) | omega) (by first | assumption | exact hSD.1 | exact hSD.w _ | (rw [hKH 2 (by omega)]; exact hKP) | omega) (by first | assumption | exact hSD.1 | exact hSD.w _ | (rw [hKH 2 (by omega)]; exact hKP) | omega) (by first | assumption | exact hSD.1 | exact hSD.w _ | (rw [hKH 2 (by omega)]; exact hKP) | omega) (by first | assumption | exact hSD.1 | exact hSD.w _ | (rw [hKH 2 (by omega)]; exact hKP) | omega) (by first | assumption | exact hSD.1 | exact hSD.w _ | (rw [hKH 2 (by omega)]; exact hKP) | omega) (by first | assumption | exact hSD.1 | exact hSD.w _ | (rw [hKH 2 (by omega)]; exact hKP) | omega) (by first | assumption | exact hSD.1 | exact hSD.w _ | (rw [hKH 2 (by omega)]; exact hKP) | omega) (by first | assumption | exact hSD.1 | exact hSD.w _ | (rw [hKH 2 (by omega)]; exact hKP) | omega) (by first | assumption | exact hSD.1 | exact hSD.w _ | (rw [hKH 2 (by omega)]; exact hKP) | omega) (by first | assumption | exact hSD.1 | exact hSD.w _ | (rw [hKH 2 (by omega)]; exact hKP) | omega) (by first | assumption | exact hSD.1 | exact hSD.w _ | (rw [hKH 2 (by omega)]; exact hKP) | omega) (by first | assumption | exact hSD.1 | exact hSD.w _ | (rw [hKH 2 (by omega)]; exact hKP) | omega) (by first | assumption | exact hSD.1 | exact hSD.w _ | (rw [hKH 2 (by omega)]; exact hKP) | omega) (by first | assumption | exact hSD.1 | exact hSD.w _ | (rw [hKH 2 (by omega)]; exact hKP) | omega) (by first | assumption | exact hSD.1 | exact hSD.w _ | (rw [hKH 2 (by omega)]; exact hKP) | omega) (by first | assumption | exact hSD.1 | exact hSD.w _ | (rw [hKH 2 (by omega)]; exact hKP) | omega) (by first | assumption | exact hSD.1 | exact hSD.w _ | (rw [hKH 2 (by omega)]; exact hKP) | omega) (by first | assumption | exact hSD.1 | exact hSD.w _ | (rw [hKH 2 (by omega)]; exact hKP) | omega) (by first | assumption | exact hSD.1 | exact hSD.w _ | (rw [hKH 2 (by omega)]; exact hKP) | omega) (by first | assumption | exact hSD.1 | exact hSD.w _ | (rw [hKH 2 (by omega)]; exact hKP) | omega)) (cwV 0 ht (ts_gV wd_1730 wd_1732 wd_104 wd_134 wd_1733) rfl rfl rfl (by decide +kernel) ⟨Nat.le_of_ble_eq_true rfl, Nat.le_of_ble_eq_true rfl⟩) (gc_preV (ci := 12) (q0 := 2) hK (tw_right hP) (tw_rightD hD) rfl rfl) rfl rfl hl.1 rfl (lv_room (Nat.le_of_ble_eq_true rfl)) dX12_fillsFits_173 ⟨Nat.le_of_ble_eq_true rfl, Nat.le_of_ble_eq_true rfl⟩) hP hD hS hA (fun u H locs hw hP hD hS => ?_)
    obtain ⟨y_4, wt⟩ := u
    obtain ⟨hT, hkp, w_5, w_6⟩ := hw
    have hW := hW.call (show ∀ x ∈ [], x ∈ [] by decide) hkp
    have hP : va_P (gg_D G) classes ([((am 29), .inl (G.2.2 3, 7, .inl g11_0)), ((am 6), .inl (G.2.2 0, 6, .inl cs)), ((am 5), .inl (G.2.2 0, 288, .inl cl)), ((am 3), .inl (G.2.2 0, 2400, .inl sg)), ((am 28), .inl (G.2.2 0, 38, .inl y_1)), ((am 20), .inl (G.2.2 0, 110, .inl y_4)), (m0, .inr (12, [.ref (am 0), .int v1, .int v2, .ref (am 3), .ref (am 4), .ref (am 5), .ref (am 6), .ref (am 7), .int v8, .int v9, .int v10, .int v11, .int v12, .int v13, .int v14, .ref (am 15), .int v16, .ref (am 17), .int x11_1, .ref (am 19), .ref (am 20), .int v21, .int v22, .int x11_3, .int v24, .int v25, .ref (am 26), .int v27, .ref (am 28), .ref (am 29), .ref (am 30), .ref (am 31), .long v32, .ref (am 33), .ref (am 34), .ref (am 35), .ref (am 36)]))] ++ wt) H := hP
    have hD : va_D A ([((am 29), .inl (G.2.2 3, 7, .inl g11_0)), ((am 6), .inl (G.2.2 0, 6, .inl cs)), ((am 5), .inl (G.2.2 0, 288, .inl cl)), ((am 3), .inl (G.2.2 0, 2400, .inl sg)), ((am 28), .inl (G.2.2 0, 38, .inl y_1)), ((am 20), .inl (G.2.2 0, 110, .inl y_4)), (m0, .inr (12, [.ref (am 0), .int v1, .int v2, .ref (am 3), .ref (am 4), .ref (am 5), .ref (am 6), .ref (am 7), .int v8, .int v9, .int v10, .int v11, .int v12, .int v13, .int v14, .ref (am 15), .int v16, .ref (am 17), .int x11_1, .ref (am 19), .ref (am 20), .int v21, .int v22, .int x11_3, .int v24, .int v25, .ref (am 26), .int v27, .ref (am 28), .ref (am 29), .ref (am 30), .ref (am 31), .long v32, .ref (am 33), .ref (am 34), .ref (am 35), .ref (am 36)]))] ++ wt) := hD
    have c_SD := w_5
    have hSD := w_5
    have c_KH := w_6
    have hKH := hKH.tr w_6
    have hP := tw_permP (we' := [((am 28), .inl (G.2.2 0, 38, .inl y_1)), ((am 29), .inl (G.2.2 3, 7, .inl g11_0)), ((am 6), .inl (G.2.2 0, 6, .inl cs)), ((am 5), .inl (G.2.2 0, 288, .inl cl)), ((am 3), .inl (G.2.2 0, 2400, .inl sg)), ((am 20), .inl (G.2.2 0, 110, .inl y_4)), (m0, .inr (12, [.ref (am 0), .int v1, .int v2, .ref (am 3), .ref (am 4), .ref (am 5), .ref (am 6), .ref (am 7), .int v8, .int v9, .int v10, .int v11, .int v12, .int v13, .int v14, .ref (am 15), .int v16, .ref (am 17), .int x11_1, .ref (am 19), .ref (am 20), .int v21, .int v22, .int x11_3, .int v24, .int v25, .ref (am 26), .int v27, .ref (am 28), .ref (am 29), .ref (am 30), .ref (am 31), .long v32, .ref (am 33), .ref (am 34), .ref (am 35), .ref (am 36)]))]) [4, 0, 1, 2, 3, 5, 6] rfl hP
    have hD := tw_permD (we' := [((am 28), .inl (G.2.2 0, 38, .inl y_1)), ((am 29), .inl (G.2.2 3, 7, .inl g11_0)), ((am 6), .inl (G.2.2 0, 6, .inl cs)), ((am 5), .inl (G.2.2 0, 288, .inl cl)), ((am 3), .inl (G.2.2 0, 2400, .inl sg)), ((am 20), .inl (G.2.2 0, 110, .inl y_4)), (m0, .inr (12, [.ref (am 0), .int v1, .int v2, .ref (am 3), .ref (am 4), .ref (am 5), .ref (am 6), .ref (am 7), .int v8, .int v9, .int v10, .int v11, .int v12, .int v13, .int v14, .ref (am 15), .int v16, .ref (am 17), .int x11_1, .ref (am 19), .ref (am 20), .int v21, .int v22, .int x11_3, .int v24, .int v25, .ref (am 26), .int v27, .ref (am 28), .ref (am 29), .ref (am 30), .ref (am 31), .long v32, .ref (am 33), .ref (am 34), .ref (am 35), .ref (am 36)]))]) [4, 0, 1, 2, 3, 5, 6] (by decide) rfl hD
    have hP9 : va_P (gg_D G) classes ([((am 28), .inl (G.2.2 0, 38, .inl y_1)), ((am 29), .inl (G.2.2 3, 7, .inl g11_0)), ((am 6), .inl (G.2.2 0, 6, .inl cs)), ((am 5), .inl (G.2.2 0, 288, .inl cl)), ((am 3), .inl (G.2.2 0, 2400, .inl sg)), ((am 20), .inl (G.2.2 0, 110, .inl y_4)), (m0, .inr (12, [.ref (am 0), .int v1, .int v2, .ref (am 3), .ref (am 4), .ref (am 5), .ref (am 6), .ref (am 7), .int v8, .int v9, .int v10, .int v11, .int v12, .int v13, .int v14, .ref (am 15), .int v16, .ref (am 17), .int x11_1, .ref (am 19), .ref (am 20), .int v21, .int v22, .int x11_3, .int v24, .int v25, .ref (am 26), .int v27, .ref (am 28), .ref (am 29), .ref (am 30), .ref (am 31), .long v32, .ref (am 33), .ref (am 34), .ref (am 35), .ref (am 36)]))] ++ wt) _ := hP
    have hD9 : va_D A ([((am 28), .inl (G.2.2 0, 38, .inl y_1)), ((am 29), .inl (G.2.2 3, 7, .inl g11_0)), ((am 6), .inl (G.2.2 0, 6, .inl cs)), ((am 5), .inl (G.2.2 0, 288, .inl cl)), ((am 3), .inl (G.2.2 0, 2400, .inl sg)), ((am 20), .inl (G.2.2 0, 110, .inl y_4)), (m0, .inr (12, [.ref (am 0), .int v1, .int v2, .ref (am 3), .ref (am 4), .ref (am 5), .ref (am 6), .ref (am 7), .int v8, .int v9, .int v10, .int v11, .int v12, .int v13, .int v14, .ref (am 15), .int v16, .ref (am 17), .int x11_1, .ref (am 19), .ref (am 20), .int v21, .int v22, .int x11_3, .int v24, .int v25, .ref (am 26), .int v27, .ref (am 28), .ref (am 29), .ref (am 30), .ref (am 31), .long v32, .ref (am 33), .ref (am 34), .ref (am 35), .ref (am 36)]))] ++ wt) := hD
    exact W.vret hx hb hr (gq_endV (x11_1, v21, x11_3, y_1, g11_0, y_4, wt) ⟨hT, hW, (by omega), (by omega), (by omega), (by omega), (by omega), (by omega), hSD, hKH⟩ hP9 hD9 hS) hS.2.2 dX12_fillsFits_176
  · rw [Int32.lt_iff_toInt_lt] at c_3
    refine lv_aload_n hx hb dX12_fillsFits_19 rfl (lv_at hl 2 rfl) ?_
    refine lv_iload_n hx hb dX12_fillsFits_20 rfl (lv_at hl 0 rfl) ?_
    refine lv_iconst (v := 1) hx hb dX12_fillsFits_21 (by decide +kernel) ?_
    obtain ⟨t_7, et_7⟩ : ∃ zz_ : Int32, x11_0 - 1 = zz_ := ⟨_, rfl⟩
    refine gq_isub hx hb t_7 et_7 dX12_fillsFits_22 ?_
    have ft_7 := ia_sub et_7 (by omega) (by omega)
    refine gq_put (ws' := [((am 28), .inl (G.2.2 0, 38, .inl y_1)), ((am 29), .inl (G.2.2 3, 7, .inl g11_0)), ((am 6), .inl (G.2.2 0, 6, .inl cs)), ((am 5), .inl (G.2.2 0, 288, .inl cl)), ((am 3), .inl (G.2.2 0, 2400, .inl sg)), ((am 20), .inl (G.2.2 0, 110, .inl g11_1)), (m0, .inr (12, [.ref (am 0), .int v1, .int v2, .ref (am 3), .ref (am 4), .ref (am 5), .ref (am 6), .ref (am 7), .int v8, .int v9, .int v10, .int v11, .int v12, .int v13, .int v14, .ref (am 15), .int v16, .ref (am 17), .int x11_1, .ref (am 19), .ref (am 20), .int t_7, .int v22, .int x11_3, .int v24, .int v25, .ref (am 26), .int v27, .ref (am 28), .ref (am 29), .ref (am 30), .ref (am 31), .long v32, .ref (am 33), .ref (am 34), .ref (am 35), .ref (am 36)]))] ++ wt) hx hb ht hown hK hP hD hS i_X12 tyX12 tyX12_ok nmX12 6 rfl rfl 21 (by decide) wd_1273 rfl rfl rfl rfl (Nat.le_of_ble_eq_true rfl) rfl dX12_fillsFits_23 (fun H locs hP hD hS => ?_)
    refine lv_iconst (v := 0) hx hb dX12_fillsFits_26 (by decide +kernel) ?_
    refine lv_istore_n (lv' := [(3, .int 0), (2, .int x11_0), (1, .int v21), (0, .ref m0)]) hx hb dX12_fillsFits_27 rfl hl (by decide) rfl (fun ls hl => ?_)
    refine tl_loopE (Γ := Γ) (nL := 7) (fun (zz_ : Int32 × Int32 × Int32 × (Nat → Int32)) => match zz_ with | (x28_0, x28_1, x28_2, g28_0) => (0 ≤ x28_0.toInt) ∧ (x28_0.toInt ≤ 3) ∧ (0 ≤ x28_2.toInt) ∧ (x28_2.toInt ≤ 31) ∧ (SD g28_0) ∧ (KH sd g28_0)) (fun (zz_ : Int32 × Int32 × Int32 × (Nat → Int32)) => match zz_ with | (x28_0, x28_1, x28_2, g28_0) => (3 - x28_0.toInt).toNat) (fun (zz_ : Int32 × Int32 × Int32 × (Nat → Int32)) => match zz_ with | (x28_0, x28_1, x28_2, g28_0) => [(3, .int x28_0), (2, .int x11_0), (1, .int v21), (0, .ref m0)]) (fun (zz_ : Int32 × Int32 × Int32 × (Nat → Int32)) => match zz_ with | (x28_0, x28_1, x28_2, g28_0) => [((am 28), .inl (G.2.2 0, 38, .inl y_1)), ((am 29), .inl (G.2.2 3, 7, .inl g11_0)), ((am 6), .inl (G.2.2 0, 6, .inl cs)), ((am 5), .inl (G.2.2 0, 288, .inl cl)), ((am 3), .inl (G.2.2 0, 2400, .inl sg)), ((am 20), .inl (G.2.2 0, 110, .inl g28_0)), (m0, .inr (12, [.ref (am 0), .int v1, .int v2, .ref (am 3), .ref (am 4), .ref (am 5), .ref (am 6), .ref (am 7), .int v8, .int v9, .int v10, .int v11, .int v12, .int v13, .int v14, .ref (am 15), .int v16, .ref (am 17), .int x28_1, .ref (am 19), .ref (am 20), .int t_7, .int v22, .int x28_2, .int v24, .int v25, .ref (am 26), .int v27, .ref (am 28), .ref (am 29), .ref (am 30), .ref (am 31), .long v32, .ref (am 33), .ref (am 34), .ref (am 35), .ref (am 36)]))]) (fun (zz_ : Int32 × Int32 × Int32 × (Nat → Int32)) (w : va_W) => match zz_ with | (x28_0, x28_1, x28_2, g28_0) => tk_kp [] w0 w) (fun zz_ hI H locs wt ls hT hW hP hD hS hl ih28 => ?_) (0, x11_1, x11_3, g11_1) (show (0 ≤ (0 : Int32).toInt) ∧ ((0 : Int32).toInt ≤ 3) ∧ (0 ≤ x11_3.toInt) ∧ (x11_3.toInt ≤ 31) ∧ (SD g11_1) ∧ (KH sd g11_1) from ⟨by omega, by omega, by omega, by omega, hSD, hKH⟩) _ _ wt ls hT hW hP hD hS hl
    obtain ⟨x28_0, x28_1, x28_2, g28_0⟩ := zz_
    have hW : tk_kp [] w0 wt := hW
    have hI : (0 ≤ x28_0.toInt) ∧ (x28_0.toInt ≤ 3) ∧ (0 ≤ x28_2.toInt) ∧ (x28_2.toInt ≤ 31) ∧ (SD g28_0) ∧ (KH sd g28_0) := hI
    obtain ⟨j28_0, j28_1, j28_2, j28_3, hSD, hKH⟩ := hI
    have hl : lv_has ls 7 [(3, .int x28_0), (2, .int x11_0), (1, .int v21), (0, .ref m0)] := hl
    have hP : va_P (gg_D G) classes ([((am 28), .inl (G.2.2 0, 38, .inl y_1)), ((am 29), .inl (G.2.2 3, 7, .inl g11_0)), ((am 6), .inl (G.2.2 0, 6, .inl cs)), ((am 5), .inl (G.2.2 0, 288, .inl cl)), ((am 3), .inl (G.2.2 0, 2400, .inl sg)), ((am 20), .inl (G.2.2 0, 110, .inl g28_0)), (m0, .inr (12, [.ref (am 0), .int v1, .int v2, .ref (am 3), .ref (am 4), .ref (am 5), .ref (am 6), .ref (am 7), .int v8, .int v9, .int v10, .int v11, .int v12, .int v13, .int v14, .ref (am 15), .int v16, .ref (am 17), .int x28_1, .ref (am 19), .ref (am 20), .int t_7, .int v22, .int x28_2, .int v24, .int v25, .ref (am 26), .int v27, .ref (am 28), .ref (am 29), .ref (am 30), .ref (am 31), .long v32, .ref (am 33), .ref (am 34), .ref (am 35), .ref (am 36)]))] ++ wt) H := hP
    have hD : va_D A ([((am 28), .inl (G.2.2 0, 38, .inl y_1)), ((am 29), .inl (G.2.2 3, 7, .inl g11_0)), ((am 6), .inl (G.2.2 0, 6, .inl cs)), ((am 5), .inl (G.2.2 0, 288, .inl cl)), ((am 3), .inl (G.2.2 0, 2400, .inl sg)), ((am 20), .inl (G.2.2 0, 110, .inl g28_0)), (m0, .inr (12, [.ref (am 0), .int v1, .int v2, .ref (am 3), .ref (am 4), .ref (am 5), .ref (am 6), .ref (am 7), .int v8, .int v9, .int v10, .int v11, .int v12, .int v13, .int v14, .ref (am 15), .int v16, .ref (am 17), .int x28_1, .ref (am 19), .ref (am 20), .int t_7, .int v22, .int x28_2, .int v24, .int v25, .ref (am 26), .int v27, .ref (am 28), .ref (am 29), .ref (am 30), .ref (am 31), .long v32, .ref (am 33), .ref (am 34), .ref (am 35), .ref (am 36)]))] ++ wt) := hD
    refine lv_iload_n hx hb dX12_fillsFits_28 rfl (lv_at hl 0 rfl) ?_
    refine lv_aload_n hx hb dX12_fillsFits_29 rfl (lv_at hl 3 rfl) ?_
    refine gq_get hx hb ht hown hK hP i_X12 6 rfl rfl 20 (by decide) wd_1272 rfl rfl dX12_fillsFits_30 ?_
    refine lv_iconst (v := 2) hx hb dX12_fillsFits_33 (by decide +kernel) ?_
    obtain ⟨n_8, en_8⟩ : ∃ zz_ : Int32, g28_0 (Int32.toNatClampNeg 2) = zz_ := ⟨_, rfl⟩
    refine gq_iald hx hb hK hP 5 rfl n_8 (ia_in (n := 110) (by omega) (by omega)) en_8 dX12_fillsFits_34 ?_
    have En_8 : g28_0 (2) = n_8 := by rw [← show Int32.toNatClampNeg 2 = 2 from ix_n (by omega)]; exact en_8
    have hn_8 : (g28_0 (2)).toInt = n_8.toInt := by rw [En_8]
    have gn_8 := hSD.r2
    refine lv_icmp_ge (tgt := 50) hx hb dX12_fillsFits_35 (by decide) (fun c_9 => ?_) (fun c_9 => ?_)
    · rw [Int32.le_iff_toInt_le] at c_9
      refine lv_iconst (v := 1) hx hb dX12_fillsFits_50 (by decide +kernel) ?_
      refine lv_istore_n (lv' := [(3, .int 1), (2, .int x11_0), (1, .int v21), (0, .ref m0)]) hx hb dX12_fillsFits_51 rfl hl (by decide) rfl (fun ls hl => ?_)
      refine lv_iconst (v := 0) hx hb dX12_fillsFits_52 (by decide +kernel) ?_
      refine lv_istore (lv' := [(4, .int 0), (3, .int 1), (2, .int x11_0), (1, .int v21), (0, .ref m0)]) hx hb dX12_fillsFits_53 hl (by decide) rfl (fun ls hl => ?_)
      refine tl_loopE (Γ := Γ) (nL := 7) (fun (zz_ : Int32 × Int32) => match zz_ with | (x55_0, x55_1) => (0 ≤ x55_0.toInt) ∧ (x55_0.toInt ≤ 30) ∧ (0 ≤ x55_1.toInt) ∧ (x55_1.toInt ≤ 1) ∧ (x55_0.toInt % 3 = 0)) (fun (zz_ : Int32 × Int32) => match zz_ with | (x55_0, x55_1) => (30 - x55_0.toInt).toNat) (fun (zz_ : Int32 × Int32) => match zz_ with | (x55_0, x55_1) => [(4, .int x55_0), (3, .int x55_1), (2, .int x11_0), (1, .int v21), (0, .ref m0)]) (fun (zz_ : Int32 × Int32) => match zz_ with | (x55_0, x55_1) => [((am 28), .inl (G.2.2 0, 38, .inl y_1)), ((am 29), .inl (G.2.2 3, 7, .inl g11_0)), ((am 6), .inl (G.2.2 0, 6, .inl cs)), ((am 5), .inl (G.2.2 0, 288, .inl cl)), ((am 3), .inl (G.2.2 0, 2400, .inl sg)), ((am 20), .inl (G.2.2 0, 110, .inl g28_0)), (m0, .inr (12, [.ref (am 0), .int v1, .int v2, .ref (am 3), .ref (am 4), .ref (am 5), .ref (am 6), .ref (am 7), .int v8, .int v9, .int v10, .int v11, .int v12, .int v13, .int v14, .ref (am 15), .int v16, .ref (am 17), .int x28_1, .ref (am 19), .ref (am 20), .int t_7, .int v22, .int x28_2, .int v24, .int v25, .ref (am 26), .int v27, .ref (am 28), .ref (am 29), .ref (am 30), .ref (am 31), .long v32, .ref (am 33), .ref (am 34), .ref (am 35), .ref (am 36)]))]) (fun (zz_ : Int32 × Int32) (w : va_W) => match zz_ with | (x55_0, x55_1) => tk_kp [] w0 w) (fun zz_ hI H locs wt ls hT hW hP hD hS hl ih55 => ?_) (0, 1) (show (0 ≤ (0 : Int32).toInt) ∧ ((0 : Int32).toInt ≤ 30) ∧ (0 ≤ (1 : Int32).toInt) ∧ ((1 : Int32).toInt ≤ 1) ∧ ((0 : Int32).toInt % 3 = 0) from ⟨by omega, by omega, by omega, by omega, by omega⟩) _ _ wt ls hT hW hP hD hS hl
      obtain ⟨x55_0, x55_1⟩ := zz_
      have hW : tk_kp [] w0 wt := hW
      have hI : (0 ≤ x55_0.toInt) ∧ (x55_0.toInt ≤ 30) ∧ (0 ≤ x55_1.toInt) ∧ (x55_1.toInt ≤ 1) ∧ (x55_0.toInt % 3 = 0) := hI
      obtain ⟨j55_0, j55_1, j55_2, j55_3, j55_4⟩ := hI
      have hl : lv_has ls 7 [(4, .int x55_0), (3, .int x55_1), (2, .int x11_0), (1, .int v21), (0, .ref m0)] := hl
      have hP : va_P (gg_D G) classes ([((am 28), .inl (G.2.2 0, 38, .inl y_1)), ((am 29), .inl (G.2.2 3, 7, .inl g11_0)), ((am 6), .inl (G.2.2 0, 6, .inl cs)), ((am 5), .inl (G.2.2 0, 288, .inl cl)), ((am 3), .inl (G.2.2 0, 2400, .inl sg)), ((am 20), .inl (G.2.2 0, 110, .inl g28_0)), (m0, .inr (12, [.ref (am 0), .int v1, .int v2, .ref (am 3), .ref (am 4), .ref (am 5), .ref (am 6), .ref (am 7), .int v8, .int v9, .int v10, .int v11, .int v12, .int v13, .int v14, .ref (am 15), .int v16, .ref (am 17), .int x28_1, .ref (am 19), .ref (am 20), .int t_7, .int v22, .int x28_2, .int v24, .int v25, .ref (am 26), .int v27, .ref (am 28), .ref (am 29), .ref (am 30), .ref (am 31), .long v32, .ref (am 33), .ref (am 34), .ref (am 35), .ref (am 36)]))] ++ wt) H := hP
      have hD : va_D A ([((am 28), .inl (G.2.2 0, 38, .inl y_1)), ((am 29), .inl (G.2.2 3, 7, .inl g11_0)), ((am 6), .inl (G.2.2 0, 6, .inl cs)), ((am 5), .inl (G.2.2 0, 288, .inl cl)), ((am 3), .inl (G.2.2 0, 2400, .inl sg)), ((am 20), .inl (G.2.2 0, 110, .inl g28_0)), (m0, .inr (12, [.ref (am 0), .int v1, .int v2, .ref (am 3), .ref (am 4), .ref (am 5), .ref (am 6), .ref (am 7), .int v8, .int v9, .int v10, .int v11, .int v12, .int v13, .int v14, .ref (am 15), .int v16, .ref (am 17), .int x28_1, .ref (am 19), .ref (am 20), .int t_7, .int v22, .int x28_2, .int v24, .int v25, .ref (am 26), .int v27, .ref (am 28), .ref (am 29), .ref (am 30), .ref (am 31), .long v32, .ref (am 33), .ref (am 34), .ref (am 35), .ref (am 36)]))] ++ wt) := hD
      refine lv_iload hx hb dX12_fillsFits_55 (lv_at hl 0 rfl) ?_
      refine lv_iconst (v := 3) hx hb dX12_fillsFits_57 (by decide +kernel) ?_
      refine lv_aload_n hx hb dX12_fillsFits_58 rfl (lv_at hl 4 rfl) ?_
      refine gq_get hx hb ht hown hK hP i_X12 6 rfl rfl 20 (by decide) wd_1272 rfl rfl dX12_fillsFits_59 ?_
      refine lv_bipush (v := 109) hx hb dX12_fillsFits_62 (by decide +kernel) ?_
      obtain ⟨n_10, en_10⟩ : ∃ zz_ : Int32, g28_0 (Int32.toNatClampNeg 109) = zz_ := ⟨_, rfl⟩
      refine gq_iald hx hb hK hP 5 rfl n_10 (ia_in (n := 110) (by omega) (by omega)) en_10 dX12_fillsFits_64 ?_
      have En_10 : g28_0 (109) = n_10 := by rw [← show Int32.toNatClampNeg 109 = 109 from ix_n (by omega)]; exact en_10
      have hn_10 : (g28_0 (109)).toInt = n_10.toInt := by rw [En_10]
      have gn_10 := hSD.r109
      obtain ⟨t_11, et_11⟩ : ∃ zz_ : Int32, 3 * n_10 = zz_ := ⟨_, rfl⟩
      refine gq_imul hx hb t_11 et_11 dX12_fillsFits_65 ?_
      have ft_11 := ia_mul et_11 (by rw [l3]; omega) (by rw [l3]; omega)
      rw [l3] at ft_11
      refine lv_icmp_ge (tgt := 154) hx hb dX12_fillsFits_66 (by decide) (fun c_12 => ?_) (fun c_12 => ?_)
      · rw [Int32.le_iff_toInt_le] at c_12
        refine lv_aload_n hx hb dX12_fillsFits_154 rfl (lv_at hl 4 rfl) ?_
        refine gq_get hx hb ht hown hK hP i_X12 6 rfl rfl 29 (by decide) wd_1281 rfl rfl dX12_fillsFits_155 ?_
        refine lv_iload_n hx hb dX12_fillsFits_158 rfl (lv_at hl 2 rfl) ?_
        refine lv_iload_n hx hb dX12_fillsFits_159 rfl (lv_at hl 1 rfl) ?_
        obtain ⟨f_13, ef_13⟩ : ∃ zz_ : Nat → Int32, upd g11_0 (Int32.toNatClampNeg x11_0) (vp_nar .boolean x55_1) = zz_ := ⟨_, rfl⟩
        refine gq_zast (ws' := [((am 28), .inl (G.2.2 0, 38, .inl y_1)), ((am 29), .inl (G.2.2 3, 7, .inl f_13)), ((am 6), .inl (G.2.2 0, 6, .inl cs)), ((am 5), .inl (G.2.2 0, 288, .inl cl)), ((am 3), .inl (G.2.2 0, 2400, .inl sg)), ((am 20), .inl (G.2.2 0, 110, .inl g28_0)), (m0, .inr (12, [.ref (am 0), .int v1, .int v2, .ref (am 3), .ref (am 4), .ref (am 5), .ref (am 6), .ref (am 7), .int v8, .int v9, .int v10, .int v11, .int v12, .int v13, .int v14, .ref (am 15), .int v16, .ref (am 17), .int x28_1, .ref (am 19), .ref (am 20), .int t_7, .int v22, .int x28_2, .int v24, .int v25, .ref (am 26), .int v27, .ref (am 28), .ref (am 29), .ref (am 30), .ref (am 31), .long v32, .ref (am 33), .ref (am 34), .ref (am 35), .ref (am 36)]))] ++ wt) hx hb hK hP hD hS 1 rfl f_13 (ia_in (n := 7) (by omega) (by omega)) ef_13 rfl dX12_fillsFits_160 (fun H locs hP hD hS => ?_)
        obtain ⟨t_14, et_14⟩ : ∃ zz_ : Int32, x11_0 + Int32.ofInt (1) = zz_ := ⟨_, rfl⟩
        have ft_14 : t_14.toInt = x11_0.toInt + (1 : Int32).toInt := ia_add (y := 1) et_14 (by omega) (by omega)
        refine lv_iinc (v := t_14) (lv' := [(2, .int t_14), (4, .int x55_0), (3, .int x55_1), (1, .int v21), (0, .ref m0)]) hx hb dX12_fillsFits_161 hl (k := 2) rfl et_14 (by decide) rfl (fun ls hl => ?_)
        refine lv_goto (tgt := 11) hx hb dX12_fillsFits_164 (by decide) ?_
        exact ih11 (t_14, x28_1, t_7, x28_2, f_13, g28_0) (show (0 ≤ t_14.toInt) ∧ (t_14.toInt ≤ 7) ∧ (-1 ≤ t_7.toInt) ∧ (t_7.toInt ≤ 5) ∧ (0 ≤ x28_2.toInt) ∧ (x28_2.toInt ≤ 31) ∧ (t_7.toInt < v2.toInt) ∧ (SD g28_0) ∧ (KH sd g28_0) from ⟨by omega, by omega, by omega, by omega, by omega, by omega, by omega, hSD, hKH⟩) (show (7 - t_14.toInt).toNat < (7 - x11_0.toInt).toNat by omega) H locs wt ls hT hW hP hD hS (lv_sub hl [0, 3, 4] rfl)
      · rw [Int32.le_iff_toInt_le] at c_12
        refine lv_iconst (v := 3) hx hb dX12_fillsFits_69 (by decide +kernel) ?_
        refine lv_iload_n hx hb dX12_fillsFits_70 rfl (lv_at hl 2 rfl) ?_
        obtain ⟨t_15, et_15⟩ : ∃ zz_ : Int32, 3 * x11_0 = zz_ := ⟨_, rfl⟩
        refine gq_imul hx hb t_15 et_15 dX12_fillsFits_71 ?_
        have ft_15 := ia_mul et_15 (by rw [l3]; omega) (by rw [l3]; omega)
        rw [l3] at ft_15
        refine lv_aload_n hx hb dX12_fillsFits_72 rfl (lv_at hl 4 rfl) ?_
        refine gq_get hx hb ht hown hK hP i_X12 6 rfl rfl 20 (by decide) wd_1272 rfl rfl dX12_fillsFits_73 ?_
        refine lv_bipush (v := 79) hx hb dX12_fillsFits_76 (by decide +kernel) ?_
        refine lv_iload hx hb dX12_fillsFits_78 (lv_at hl 0 rfl) ?_
        obtain ⟨t_16, et_16⟩ : ∃ zz_ : Int32, 79 + x55_0 = zz_ := ⟨_, rfl⟩
        refine gq_iadd hx hb t_16 et_16 dX12_fillsFits_80 ?_
        have ft_16 := ia_add et_16 (by omega) (by omega)
        obtain ⟨n_17, en_17⟩ : ∃ zz_ : Int32, g28_0 (Int32.toNatClampNeg t_16) = zz_ := ⟨_, rfl⟩
        refine gq_iald hx hb hK hP 5 rfl n_17 (ia_in (n := 110) (by omega) (by omega)) en_17 dX12_fillsFits_81 ?_
        have En_17 : g28_0 (79 + x55_0.toInt.toNat) = n_17 := by rw [← show Int32.toNatClampNeg t_16 = 79 + x55_0.toInt.toNat from ix_n (by omega)]; exact en_17
        have hn_17 : (g28_0 (79 + x55_0.toInt.toNat)).toInt = n_17.toInt := by rw [En_17]
        have hlg : 0 ≤ (g28_0 (79 + x55_0.toInt.toNat)).toInt ∧ (g28_0 (79 + x55_0.toInt.toNat)).toInt ≤ 2 := by have := hSD.1.2.2.2.2.2 (x55_0.toInt.toNat / 3) (by omega); rw [show 0 + 79 + 3 * (x55_0.toInt.toNat / 3) = 79 + x55_0.toInt.toNat by omega] at this; exact this
        obtain ⟨t_18, et_18⟩ : ∃ zz_ : Int32, t_15 + n_17 = zz_ := ⟨_, rfl⟩
        refine gq_iadd hx hb t_18 et_18 dX12_fillsFits_82 ?_
        have ft_18 := ia_add et_18 (by omega) (by omega)
        refine lv_istore (lv' := [(5, .int t_18), (4, .int x55_0), (3, .int x55_1), (2, .int x11_0), (1, .int v21), (0, .ref m0)]) hx hb dX12_fillsFits_83 hl (by decide) rfl (fun ls hl => ?_)
        refine lv_aload_n hx hb dX12_fillsFits_85 rfl (lv_at hl 5 rfl) ?_
        refine gq_get hx hb ht hown hK hP i_X12 6 rfl rfl 20 (by decide) wd_1272 rfl rfl dX12_fillsFits_86 ?_
        refine lv_bipush (v := 79) hx hb dX12_fillsFits_89 (by decide +kernel) ?_
        refine lv_iload hx hb dX12_fillsFits_91 (lv_at hl 1 rfl) ?_
        refine gq_iadd hx hb t_16 et_16 dX12_fillsFits_93 ?_
        refine lv_iconst (v := 1) hx hb dX12_fillsFits_94 (by decide +kernel) ?_
        obtain ⟨t_19, et_19⟩ : ∃ zz_ : Int32, t_16 + 1 = zz_ := ⟨_, rfl⟩
        refine gq_iadd hx hb t_19 et_19 dX12_fillsFits_95 ?_
        have ft_19 := ia_add et_19 (by omega) (by omega)
        obtain ⟨n_20, en_20⟩ : ∃ zz_ : Int32, g28_0 (Int32.toNatClampNeg t_19) = zz_ := ⟨_, rfl⟩
        refine gq_iald hx hb hK hP 5 rfl n_20 (ia_in (n := 110) (by omega) (by omega)) en_20 dX12_fillsFits_96 ?_
        refine lv_istore (lv' := [(6, .int n_20), (5, .int t_18), (4, .int x55_0), (3, .int x55_1), (2, .int x11_0), (1, .int v21), (0, .ref m0)]) hx hb dX12_fillsFits_97 hl (by decide) rfl (fun ls hl => ?_)
        refine lv_iload_n hx hb dX12_fillsFits_99 rfl (lv_at hl 3 rfl) ?_
        refine lv_if_eq (tgt := 146) hx hb dX12_fillsFits_100 (by decide) (fun c_21 => ?_) (fun c_21 => ?_)
        · rw [← Int32.toInt_inj] at c_21
          refine lv_iconst (v := 0) hx hb dX12_fillsFits_146 (by decide +kernel) ?_
          refine lv_istore_n (lv' := [(3, .int 0), (6, .int n_20), (5, .int t_18), (4, .int x55_0), (2, .int x11_0), (1, .int v21), (0, .ref m0)]) hx hb dX12_fillsFits_147 rfl hl (by decide) rfl (fun ls hl => ?_)
          obtain ⟨t_22, et_22⟩ : ∃ zz_ : Int32, x55_0 + Int32.ofInt (3) = zz_ := ⟨_, rfl⟩
          have ft_22 : t_22.toInt = x55_0.toInt + (3 : Int32).toInt := ia_add (y := 3) et_22 (by omega) (by omega)
          refine lv_iinc (v := t_22) (lv' := [(4, .int t_22), (3, .int 0), (6, .int n_20), (5, .int t_18), (2, .int x11_0), (1, .int v21), (0, .ref m0)]) hx hb dX12_fillsFits_148 hl (k := 3) rfl et_22 (by decide) rfl (fun ls hl => ?_)
          refine lv_goto (tgt := 55) hx hb dX12_fillsFits_151 (by decide) ?_
          exact ih55 (t_22, 0) (show (0 ≤ t_22.toInt) ∧ (t_22.toInt ≤ 30) ∧ (0 ≤ (0 : Int32).toInt) ∧ ((0 : Int32).toInt ≤ 1) ∧ (t_22.toInt % 3 = 0) from ⟨by omega, by omega, by omega, by omega, by omega⟩) (show (30 - t_22.toInt).toNat < (30 - x55_0.toInt).toNat by omega) H locs wt ls hT hW hP hD hS (lv_sub hl [0, 1, 4, 5, 6] rfl)
        · rw [← Int32.toInt_inj] at c_21
          refine lv_aload_n hx hb dX12_fillsFits_103 rfl (lv_at hl 6 rfl) ?_
          refine gq_get hx hb ht hown hK hP i_X12 6 rfl rfl 30 (by decide) wd_1282 rfl rfl dX12_fillsFits_104 ?_
          refine lv_iload hx hb dX12_fillsFits_107 (lv_at hl 1 rfl) ?_
          refine tr_iald hx hb hK hT hP 28 k30 (by decide) (by decide) (show vp_in _ (tk_len 28) from ia_in (n := 21) (by omega) (by omega)) dX12_fillsFits_109 (fun n_23 hn_23 => ?_)
          clear hn_23
          refine lv_iload hx hb dX12_fillsFits_110 (lv_at hl 0 rfl) ?_
          refine lv_icmp_ne (tgt := 146) hx hb dX12_fillsFits_112 (by decide) (fun c_24 => ?_) (fun c_24 => ?_)
          · rw [← Int32.toInt_inj] at c_24
            refine lv_iconst (v := 0) hx hb dX12_fillsFits_146 (by decide +kernel) ?_
            refine lv_istore_n (lv' := [(3, .int 0), (6, .int n_20), (5, .int t_18), (4, .int x55_0), (2, .int x11_0), (1, .int v21), (0, .ref m0)]) hx hb dX12_fillsFits_147 rfl hl (by decide) rfl (fun ls hl => ?_)
            obtain ⟨t_25, et_25⟩ : ∃ zz_ : Int32, x55_0 + Int32.ofInt (3) = zz_ := ⟨_, rfl⟩
            have ft_25 : t_25.toInt = x55_0.toInt + (3 : Int32).toInt := ia_add (y := 3) et_25 (by omega) (by omega)
            refine lv_iinc (v := t_25) (lv' := [(4, .int t_25), (3, .int 0), (6, .int n_20), (5, .int t_18), (2, .int x11_0), (1, .int v21), (0, .ref m0)]) hx hb dX12_fillsFits_148 hl (k := 3) rfl et_25 (by decide) rfl (fun ls hl => ?_)
            refine lv_goto (tgt := 55) hx hb dX12_fillsFits_151 (by decide) ?_
            exact ih55 (t_25, 0) (show (0 ≤ t_25.toInt) ∧ (t_25.toInt ≤ 30) ∧ (0 ≤ (0 : Int32).toInt) ∧ ((0 : Int32).toInt ≤ 1) ∧ (t_25.toInt % 3 = 0) from ⟨by omega, by omega, by omega, by omega, by omega⟩) (show (30 - t_25.toInt).toNat < (30 - x55_0.toInt).toNat by omega) H locs wt ls hT hW hP hD hS (lv_sub hl [0, 1, 4, 5, 6] rfl)
          · rw [← Int32.toInt_inj] at c_24
            refine lv_iload hx hb dX12_fillsFits_115 (lv_at hl 0 rfl) ?_
            refine lv_if_lt (tgt := 142) hx hb dX12_fillsFits_117 (by decide) (fun c_26 => ?_) (fun c_26 => ?_)
            · rw [Int32.lt_iff_toInt_lt] at c_26
              refine lv_iconst (v := 1) hx hb dX12_fillsFits_142 (by decide +kernel) ?_
              refine lv_goto (tgt := 147) hx hb dX12_fillsFits_143 (by decide) ?_
              refine lv_istore_n (lv' := [(3, .int 1), (6, .int n_20), (5, .int t_18), (4, .int x55_0), (2, .int x11_0), (1, .int v21), (0, .ref m0)]) hx hb dX12_fillsFits_147 rfl hl (by decide) rfl (fun ls hl => ?_)
              obtain ⟨t_27, et_27⟩ : ∃ zz_ : Int32, x55_0 + Int32.ofInt (3) = zz_ := ⟨_, rfl⟩
              have ft_27 : t_27.toInt = x55_0.toInt + (3 : Int32).toInt := ia_add (y := 3) et_27 (by omega) (by omega)
              refine lv_iinc (v := t_27) (lv' := [(4, .int t_27), (3, .int 1), (6, .int n_20), (5, .int t_18), (2, .int x11_0), (1, .int v21), (0, .ref m0)]) hx hb dX12_fillsFits_148 hl (k := 3) rfl et_27 (by decide) rfl (fun ls hl => ?_)
              refine lv_goto (tgt := 55) hx hb dX12_fillsFits_151 (by decide) ?_
              exact ih55 (t_27, 1) (show (0 ≤ t_27.toInt) ∧ (t_27.toInt ≤ 30) ∧ (0 ≤ (1 : Int32).toInt) ∧ ((1 : Int32).toInt ≤ 1) ∧ (t_27.toInt % 3 = 0) from ⟨by omega, by omega, by omega, by omega, by omega⟩) (show (30 - t_27.toInt).toNat < (30 - x55_0.toInt).toNat by omega) H locs wt ls hT hW hP hD hS (lv_sub hl [0, 1, 4, 5, 6] rfl)
            · rw [Int32.lt_iff_toInt_lt] at c_26
              refine lv_aload_n hx hb dX12_fillsFits_120 rfl (lv_at hl 6 rfl) ?_
              refine gq_get hx hb ht hown hK hP i_X12 6 rfl rfl 31 (by decide) wd_1283 rfl rfl dX12_fillsFits_121 ?_
              refine lv_iload hx hb dX12_fillsFits_124 (lv_at hl 1 rfl) ?_
              refine tr_iald hx hb hK hT hP 28 k31 (by decide) (by decide) (show vp_in _ (tk_len 28) from ia_in (n := 21) (by omega) (by omega)) dX12_fillsFits_126 (fun n_28 hn_28 => ?_)
              clear hn_28
              refine lv_aload_n hx hb dX12_fillsFits_127 rfl (lv_at hl 6 rfl) ?_
              refine gq_get hx hb ht hown hK hP i_X12 6 rfl rfl 20 (by decide) wd_1272 rfl rfl dX12_fillsFits_128 ?_
              refine lv_bipush (v := 79) hx hb dX12_fillsFits_131 (by decide +kernel) ?_
              refine lv_iload hx hb dX12_fillsFits_133 (lv_at hl 2 rfl) ?_
              refine gq_iadd hx hb t_16 et_16 dX12_fillsFits_135 ?_
              refine lv_iconst (v := 2) hx hb dX12_fillsFits_136 (by decide +kernel) ?_
              obtain ⟨t_29, et_29⟩ : ∃ zz_ : Int32, t_16 + 2 = zz_ := ⟨_, rfl⟩
              refine gq_iadd hx hb t_29 et_29 dX12_fillsFits_137 ?_
              have ft_29 := ia_add et_29 (by omega) (by omega)
              obtain ⟨n_30, en_30⟩ : ∃ zz_ : Int32, g28_0 (Int32.toNatClampNeg t_29) = zz_ := ⟨_, rfl⟩
              refine gq_iald hx hb hK hP 5 rfl n_30 (ia_in (n := 110) (by omega) (by omega)) en_30 dX12_fillsFits_138 ?_
              refine lv_icmp_ne (tgt := 146) hx hb dX12_fillsFits_139 (by decide) (fun c_31 => ?_) (fun c_31 => ?_)
              · rw [← Int32.toInt_inj] at c_31
                refine lv_iconst (v := 0) hx hb dX12_fillsFits_146 (by decide +kernel) ?_
                refine lv_istore_n (lv' := [(3, .int 0), (6, .int n_20), (5, .int t_18), (4, .int x55_0), (2, .int x11_0), (1, .int v21), (0, .ref m0)]) hx hb dX12_fillsFits_147 rfl hl (by decide) rfl (fun ls hl => ?_)
                obtain ⟨t_32, et_32⟩ : ∃ zz_ : Int32, x55_0 + Int32.ofInt (3) = zz_ := ⟨_, rfl⟩
                have ft_32 : t_32.toInt = x55_0.toInt + (3 : Int32).toInt := ia_add (y := 3) et_32 (by omega) (by omega)
                refine lv_iinc (v := t_32) (lv' := [(4, .int t_32), (3, .int 0), (6, .int n_20), (5, .int t_18), (2, .int x11_0), (1, .int v21), (0, .ref m0)]) hx hb dX12_fillsFits_148 hl (k := 3) rfl et_32 (by decide) rfl (fun ls hl => ?_)
                refine lv_goto (tgt := 55) hx hb dX12_fillsFits_151 (by decide) ?_
                exact ih55 (t_32, 0) (show (0 ≤ t_32.toInt) ∧ (t_32.toInt ≤ 30) ∧ (0 ≤ (0 : Int32).toInt) ∧ ((0 : Int32).toInt ≤ 1) ∧ (t_32.toInt % 3 = 0) from ⟨by omega, by omega, by omega, by omega, by omega⟩) (show (30 - t_32.toInt).toNat < (30 - x55_0.toInt).toNat by omega) H locs wt ls hT hW hP hD hS (lv_sub hl [0, 1, 4, 5, 6] rfl)
              · rw [← Int32.toInt_inj] at c_31
                refine lv_iconst (v := 1) hx hb dX12_fillsFits_142 (by decide +kernel) ?_
                refine lv_goto (tgt := 147) hx hb dX12_fillsFits_143 (by decide) ?_
                refine lv_istore_n (lv' := [(3, .int 1), (6, .int n_20), (5, .int t_18), (4, .int x55_0), (2, .int x11_0), (1, .int v21), (0, .ref m0)]) hx hb dX12_fillsFits_147 rfl hl (by decide) rfl (fun ls hl => ?_)
                obtain ⟨t_33, et_33⟩ : ∃ zz_ : Int32, x55_0 + Int32.ofInt (3) = zz_ := ⟨_, rfl⟩
                have ft_33 : t_33.toInt = x55_0.toInt + (3 : Int32).toInt := ia_add (y := 3) et_33 (by omega) (by omega)
                refine lv_iinc (v := t_33) (lv' := [(4, .int t_33), (3, .int 1), (6, .int n_20), (5, .int t_18), (2, .int x11_0), (1, .int v21), (0, .ref m0)]) hx hb dX12_fillsFits_148 hl (k := 3) rfl et_33 (by decide) rfl (fun ls hl => ?_)
                refine lv_goto (tgt := 55) hx hb dX12_fillsFits_151 (by decide) ?_
                exact ih55 (t_33, 1) (show (0 ≤ t_33.toInt) ∧ (t_33.toInt ≤ 30) ∧ (0 ≤ (1 : Int32).toInt) ∧ ((1 : Int32).toInt ≤ 1) ∧ (t_33.toInt % 3 = 0) from ⟨by omega, by omega, by omega, by omega, by omega⟩) (show (30 - t_33.toInt).toNat < (30 - x55_0.toInt).toNat by omega) H locs wt ls hT hW hP hD hS (lv_sub hl [0, 1, 4, 5, 6] rfl)
    · rw [Int32.le_iff_toInt_le] at c_9
      refine lv_aload_n hx hb dX12_fillsFits_38 rfl (lv_at hl 3 rfl) ?_
      refine lv_iload_n hx hb dX12_fillsFits_39 rfl (lv_at hl 1 rfl) ?_
      refine lv_iload_n hx hb dX12_fillsFits_40 rfl (lv_at hl 0 rfl) ?_
      have hl2c : x28_0.toInt < (g28_0 2).toInt := by omega
      have hP : va_P (gg_D G) classes ([((am 28), .inl (G.2.2 0, 38, .inl y_1)), ((am 29), .inl (G.2.2 3, 7, .inl g11_0))] ++ ([((am 6), .inl (G.2.2 0, 6, .inl cs)), ((am 5), .inl (G.2.2 0, 288, .inl cl)), ((am 3), .inl (G.2.2 0, 2400, .inl sg)), ((am 20), .inl (G.2.2 0, 110, .inl g28_0)), (m0, .inr (12, [.ref (am 0), .int v1, .int v2, .ref (am 3), .ref (am 4), .ref (am 5), .ref (am 6), .ref (am 7), .int v8, .int v9, .int v10, .int v11, .int v12, .int v13, .int v14, .ref (am 15), .int v16, .ref (am 17), .int x28_1, .ref (am 19), .ref (am 20), .int t_7, .int v22, .int x28_2, .int v24, .int v25, .ref (am 26), .int v27, .ref (am 28), .ref (am 29), .ref (am 30), .ref (am 31), .long v32, .ref (am 33), .ref (am 34), .ref (am 35), .ref (am 36)]))] ++ wt)) H := hP
      have hD : va_D A ([((am 28), .inl (G.2.2 0, 38, .inl y_1)), ((am 29), .inl (G.2.2 3, 7, .inl g11_0))] ++ ([((am 6), .inl (G.2.2 0, 6, .inl cs)), ((am 5), .inl (G.2.2 0, 288, .inl cl)), ((am 3), .inl (G.2.2 0, 2400, .inl sg)), ((am 20), .inl (G.2.2 0, 110, .inl g28_0)), (m0, .inr (12, [.ref (am 0), .int v1, .int v2, .ref (am 3), .ref (am 4), .ref (am 5), .ref (am 6), .ref (am 7), .int v8, .int v9, .int v10, .int v11, .int v12, .int v13, .int v14, .ref (am 15), .int v16, .ref (am 17), .int x28_1, .ref (am 19), .ref (am 20), .int t_7, .int v22, .int x28_2, .int v24, .int v25, .ref (am 26), .int v27, .ref (am 28), .ref (am 29), .ref (am 30), .ref (am 31), .long v32, .ref (am 33), .ref (am 34), .ref (am 35), .ref (am 36)]))] ++ wt)) := hD
      refine gt_callV (wr := [((am 28), .inl (G.2.2 0, 38, .inl y_1)), ((am 29), .inl (G.2.2 3, 7, .inl g11_0))]) (va_runV (As := [.int x11_0, .int x28_0]) (rest := []) ⟨hx, hb, hml, hown, ht⟩ (d_m_fillsLot l G Γ H.size wt hT x11_0 x28_0 m0 am v1 v2 v8 v9 v10 v11 v12 v13 v14 v16 x28_1 t_7 v22 x28_2 v24 v25 v27 v32 cs cl sg g28_0 (by omega) (by omega) (by omega) (by omega) (by first | assumption | exact hSD.1 | exact hSD.w _ | (rw [hKH 2 (by omega)]; exact hKP) | omega) (by first | assumption | exact hSD.1 | exact hSD.w _ | (rw [hKH 2 (by omega)]; exact hKP) | omega) (by first | assumption | exact hSD.1 | exact hSD.w _ | (rw [hKH 2 (by omega)]; exact hKP) | omega) (by first | assumption | exact hSD.1 | exact hSD.w _ | (rw [hKH 2 (by omega)]; exact hKP) | omega) (by first | assumption | exact hSD.1 | exact hSD.w _ | (rw [hKH 2 (by omega)]; exact hKP) | omega) (by first | assumption | exact hSD.1 | exact hSD.w _ | (rw [hKH 2 (by omega)]; exact hKP) | omega) (by first | assumption | exact hSD.1 | exact hSD.w _ | (rw [hKH 2 (by omega)]; exact hKP) | omega) (by first | assumption | exact hSD.1 | exact hSD.w _ | (rw [hKH 2 (by omega)]; exact hKP) | omega) (by first | assumption | exact hSD.1 | exact hSD.w _ | (rw [hKH 2 (by omega)]; exact hKP) | omega) (by first | assumption | exact hSD.1 | exact hSD.w _ | (rw [hKH 2 (by omega)]; exact hKP) | omega) (by first | assumption | exact hSD.1 | exact hSD.w _ | (rw [hKH 2 (by omega)]; exact hKP) | omega) (by first | assumption | exact hSD.1 | exact hSD.w _ | (rw [hKH 2 (by omega)]; exact hKP) | omega) (by first | assumption | exact hSD.1 | exact hSD.w _ | (rw [hKH 2 (by omega)]; exact hKP) | omega) (by first | assumption | exact hSD.1 | exact hSD.w _ | (rw [hKH 2 (by omega)]; exact hKP) | omega) (by first | assumption | exact hSD.1 | exact hSD.w _ | (rw [hKH 2 (by omega)]; exact hKP) | omega) (by first | assumption | exact hSD.1 | exact hSD.w _ | (rw [hKH 2 (by omega)]; exact hKP) | omega) (by first | assumption | exact hSD.1 | exact hSD.w _ | (rw [hKH 2 (by omega)]; exact hKP) | omega) (by first | assumption | exact hSD.1 | exact hSD.w _ | (rw [hKH 2 (by omega)]; exact hKP) | omega) (by first | assumption | exact hSD.1 | exact hSD.w _ | (rw [hKH 2 (by omega)]; exact hKP) | omega) (by first | assumption | exact hSD.1 | exact hSD.w _ | (rw [hKH 2 (by omega)]; exact hKP) | omega) (by first | assumption | exact hSD.1 | exact hSD.w _ | (rw [hKH 2 (by omega)]; exact hKP) | omega) (by first | assumption | exact hSD.1 | exact hSD.w _ | (rw [hKH 2 (by omega)]; exact hKP) | omega) (by first | assumption | exact hSD.1 | exact hSD.w _ | (rw [hKH 2 (by omega)]; exact hKP) | omega) (by first | assumption | exact hSD.1 | exact hSD.w _ | (rw [hKH 2 (by omega)]; exact hKP) | omega) (by first | assumption | exact hSD.1 | exact hSD.w _ | (rw [hKH 2 (by omega)]; exact hKP) | omega) (by first | assumption | exact hSD.1 | exact hSD.w _ | (rw [hKH 2 (by omega)]; exact hKP) | omega)) (cwV 2 ht (ts_gV wd_1821 wd_1823 wd_116 wd_134 wd_1824) rfl rfl rfl (by decide +kernel) ⟨Nat.le_of_ble_eq_true rfl, Nat.le_of_ble_eq_true rfl⟩) (gc_preV (ci := 12) (q0 := 4) hK (tw_right hP) (tw_rightD hD) rfl rfl) rfl rfl hl.1 rfl (lv_room (Nat.le_of_ble_eq_true rfl)) dX12_fillsFits_41 ⟨Nat.le_of_ble_eq_true rfl, Nat.le_of_ble_eq_true rfl⟩) hP hD hS hA (fun u H locs hw hP hD hS => ?_)
      obtain ⟨y_34, y_35, y_36, wt⟩ := u
      obtain ⟨hT, hkp, w_37, w_38, w_39, w_40⟩ := hw
      have hW := hW.call (show ∀ x ∈ [], x ∈ [] by decide) hkp
      have hP : va_P (gg_D G) classes ([((am 28), .inl (G.2.2 0, 38, .inl y_1)), ((am 29), .inl (G.2.2 3, 7, .inl g11_0)), ((am 6), .inl (G.2.2 0, 6, .inl cs)), ((am 5), .inl (G.2.2 0, 288, .inl cl)), ((am 3), .inl (G.2.2 0, 2400, .inl sg)), ((am 20), .inl (G.2.2 0, 110, .inl y_36)), (m0, .inr (12, [.ref (am 0), .int v1, .int v2, .ref (am 3), .ref (am 4), .ref (am 5), .ref (am 6), .ref (am 7), .int v8, .int v9, .int v10, .int v11, .int v12, .int v13, .int v14, .ref (am 15), .int v16, .ref (am 17), .int y_34, .ref (am 19), .ref (am 20), .int t_7, .int v22, .int y_35, .int v24, .int v25, .ref (am 26), .int v27, .ref (am 28), .ref (am 29), .ref (am 30), .ref (am 31), .long v32, .ref (am 33), .ref (am 34), .ref (am 35), .ref (am 36)]))] ++ wt) H := hP
      have hD : va_D A ([((am 28), .inl (G.2.2 0, 38, .inl y_1)), ((am 29), .inl (G.2.2 3, 7, .inl g11_0)), ((am 6), .inl (G.2.2 0, 6, .inl cs)), ((am 5), .inl (G.2.2 0, 288, .inl cl)), ((am 3), .inl (G.2.2 0, 2400, .inl sg)), ((am 20), .inl (G.2.2 0, 110, .inl y_36)), (m0, .inr (12, [.ref (am 0), .int v1, .int v2, .ref (am 3), .ref (am 4), .ref (am 5), .ref (am 6), .ref (am 7), .int v8, .int v9, .int v10, .int v11, .int v12, .int v13, .int v14, .ref (am 15), .int v16, .ref (am 17), .int y_34, .ref (am 19), .ref (am 20), .int t_7, .int v22, .int y_35, .int v24, .int v25, .ref (am 26), .int v27, .ref (am 28), .ref (am 29), .ref (am 30), .ref (am 31), .long v32, .ref (am 33), .ref (am 34), .ref (am 35), .ref (am 36)]))] ++ wt) := hD
      have c_SD := w_39
      have hSD := w_39
      have c_KH := w_40
      have hKH := hKH.tr w_40
      obtain ⟨t_41, et_41⟩ : ∃ zz_ : Int32, x28_0 + Int32.ofInt (1) = zz_ := ⟨_, rfl⟩
      have ft_41 : t_41.toInt = x28_0.toInt + (1 : Int32).toInt := ia_add (y := 1) et_41 (by omega) (by omega)
      refine lv_iinc (v := t_41) (lv' := [(3, .int t_41), (2, .int x11_0), (1, .int v21), (0, .ref m0)]) hx hb dX12_fillsFits_44 hl (k := 0) rfl et_41 (by decide) rfl (fun ls hl => ?_)
      refine lv_goto (tgt := 28) hx hb dX12_fillsFits_47 (by decide) ?_
      exact ih28 (t_41, y_34, y_35, y_36) (show (0 ≤ t_41.toInt) ∧ (t_41.toInt ≤ 3) ∧ (0 ≤ y_35.toInt) ∧ (y_35.toInt ≤ 31) ∧ (SD y_36) ∧ (KH sd y_36) from ⟨by omega, by omega, by omega, by omega, hSD, hKH⟩) (show (3 - t_41.toInt).toNat < (3 - x28_0.toInt).toNat by omega) H locs wt ls hT hW hP hD hS (lv_sub hl [0, 1, 2, 3] rfl)

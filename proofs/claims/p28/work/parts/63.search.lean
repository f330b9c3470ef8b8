theorem wd_1046 : (Jvm.Cond.code ({ cls := "SilentSale", name := "power", desc := "(II)I" } : Jvm.MethodName) prog_1_method_48_code (4 : Nat) (Option.some Jvm.ClassFile.FieldType.int)) ∈ tb_L := tb_in (i := 1046) (by decide +kernel) (by decide +kernel)
theorem dX11_power_0 : decode cX11_power 0 = .ok (.iconst 1, 1) := by decide +kernel
theorem dX11_power_1 : decode cX11_power 1 = .ok (.istore_n 2, 1) := by decide +kernel
theorem dX11_power_2 : decode cX11_power 2 = .ok (.iconst 0, 1) := by decide +kernel
theorem dX11_power_3 : decode cX11_power 3 = .ok (.istore_n 3, 1) := by decide +kernel
theorem dX11_power_4 : decode cX11_power 4 = .ok (.iload_n 3, 1) := by decide +kernel
theorem dX11_power_5 : decode cX11_power 5 = .ok (.iload_n 1, 1) := by decide +kernel
theorem dX11_power_6 : decode cX11_power 6 = .ok (.if_icmp .ge 13, 3) := by decide +kernel
theorem dX11_power_9 : decode cX11_power 9 = .ok (.iload_n 2, 1) := by decide +kernel
theorem dX11_power_10 : decode cX11_power 10 = .ok (.iload_n 0, 1) := by decide +kernel
theorem dX11_power_11 : decode cX11_power 11 = .ok (.imul, 1) := by decide +kernel
theorem dX11_power_12 : decode cX11_power 12 = .ok (.istore_n 2, 1) := by decide +kernel
theorem dX11_power_13 : decode cX11_power 13 = .ok (.iinc 3 1, 3) := by decide +kernel
theorem dX11_power_16 : decode cX11_power 16 = .ok (.goto (-12), 3) := by decide +kernel
theorem dX11_power_19 : decode cX11_power 19 = .ok (.iload_n 2, 1) := by decide +kernel
theorem dX11_power_20 : decode cX11_power 20 = .ok (.ireturn, 1) := by decide +kernel
theorem wd_1080 : (Jvm.Cond.code ({ cls := "SilentSale", name := "spread", desc := "(III[I)V" } : Jvm.MethodName) prog_1_method_49_code (6 : Nat) (Option.none : Option Jvm.ClassFile.FieldType)) ∈ tb_L := tb_in (i := 1080) (by decide +kernel) (by decide +kernel)
theorem wd_1081 : (Jvm.Cond.methodLink "SilentSale" (370 : Nat) ({ cls := "SilentSale", name := "isIn", desc := "(II)Z" } : Jvm.MethodName)) ∈ tb_L := tb_in (i := 1081) (by decide +kernel) (by decide +kernel)
theorem dX11_spread_0 : decode cX11_spread 0 = .ok (.iload_n 0, 1) := by decide +kernel
theorem dX11_spread_1 : decode cX11_spread 1 = .ok (.istore 4, 2) := by decide +kernel
theorem dX11_spread_3 : decode cX11_spread 3 = .ok (.aload_n 3, 1) := by decide +kernel
theorem dX11_spread_4 : decode cX11_spread 4 = .ok (.arraylength, 1) := by decide +kernel
theorem dX11_spread_5 : decode cX11_spread 5 = .ok (.iconst 1, 1) := by decide +kernel
theorem dX11_spread_6 : decode cX11_spread 6 = .ok (.isub, 1) := by decide +kernel
theorem dX11_spread_7 : decode cX11_spread 7 = .ok (.istore 5, 2) := by decide +kernel
theorem dX11_spread_9 : decode cX11_spread 9 = .ok (.iload 5, 2) := by decide +kernel
theorem dX11_spread_11 : decode cX11_spread 11 = .ok (.ifCond .lt 44, 3) := by decide +kernel
theorem dX11_spread_14 : decode cX11_spread 14 = .ok (.aload_n 3, 1) := by decide +kernel
theorem dX11_spread_15 : decode cX11_spread 15 = .ok (.iload 5, 2) := by decide +kernel
theorem dX11_spread_17 : decode cX11_spread 17 = .ok (.bipush (-2), 2) := by decide +kernel
theorem dX11_spread_19 : decode cX11_spread 19 = .ok (.iastore, 1) := by decide +kernel
theorem dX11_spread_20 : decode cX11_spread 20 = .ok (.iload 5, 2) := by decide +kernel
theorem dX11_spread_22 : decode cX11_spread 22 = .ok (.iload_n 2, 1) := by decide +kernel
theorem dX11_spread_23 : decode cX11_spread 23 = .ok (.invokestatic 370, 3) := by decide +kernel
theorem dX11_spread_26 : decode cX11_spread 26 = .ok (.ifCond .eq 23, 3) := by decide +kernel
theorem dX11_spread_29 : decode cX11_spread 29 = .ok (.iload_n 1, 1) := by decide +kernel
theorem dX11_spread_30 : decode cX11_spread 30 = .ok (.ifCond .le 19, 3) := by decide +kernel
theorem dX11_spread_33 : decode cX11_spread 33 = .ok (.aload_n 3, 1) := by decide +kernel
theorem dX11_spread_34 : decode cX11_spread 34 = .ok (.iload 5, 2) := by decide +kernel
theorem dX11_spread_36 : decode cX11_spread 36 = .ok (.iload 4, 2) := by decide +kernel
theorem dX11_spread_38 : decode cX11_spread 38 = .ok (.iload_n 1, 1) := by decide +kernel
theorem dX11_spread_39 : decode cX11_spread 39 = .ok (.irem, 1) := by decide +kernel
theorem dX11_spread_40 : decode cX11_spread 40 = .ok (.iconst 1, 1) := by decide +kernel
theorem dX11_spread_41 : decode cX11_spread 41 = .ok (.isub, 1) := by decide +kernel
theorem dX11_spread_42 : decode cX11_spread 42 = .ok (.iastore, 1) := by decide +kernel
theorem dX11_spread_43 : decode cX11_spread 43 = .ok (.iload 4, 2) := by decide +kernel
theorem dX11_spread_45 : decode cX11_spread 45 = .ok (.iload_n 1, 1) := by decide +kernel
theorem dX11_spread_46 : decode cX11_spread 46 = .ok (.idiv, 1) := by decide +kernel
theorem dX11_spread_47 : decode cX11_spread 47 = .ok (.istore 4, 2) := by decide +kernel
theorem dX11_spread_49 : decode cX11_spread 49 = .ok (.iinc 5 (-1), 3) := by decide +kernel
theorem dX11_spread_52 : decode cX11_spread 52 = .ok (.goto (-43), 3) := by decide +kernel
theorem dX11_spread_55 : decode cX11_spread 55 = .ok (.return_, 1) := by decide +kernel
theorem wd_247 : (Jvm.Cond.fieldLink "SilentSale$Seating" (87 : Nat) "SilentSale$State" "stage" "[I") ∈ tb_L := tb_in (i := 247) (by decide +kernel) (by decide +kernel)
theorem wd_431 : (Jvm.Cond.fieldLink "SilentSale$Seating" (18 : Nat) "SilentSale$Seating" "row" "[I") ∈ tb_L := tb_in (i := 431) (by decide +kernel) (by decide +kernel)
theorem wd_1085 : (Jvm.Cond.code ({ cls := "SilentSale$Seating", name := "canSit", desc := "(LSilentSale$State;)Z" } : Jvm.MethodName) prog_7_method_3_code (4 : Nat) (Option.some Jvm.ClassFile.FieldType.boolean)) ∈ tb_L := tb_in (i := 1085) (by decide +kernel) (by decide +kernel)
theorem dX5_canSit_0 : decode cX5_canSit 0 = .ok (.iconst 0, 1) := by decide +kernel
theorem dX5_canSit_1 : decode cX5_canSit 1 = .ok (.istore_n 2, 1) := by decide +kernel
theorem dX5_canSit_2 : decode cX5_canSit 2 = .ok (.iload_n 2, 1) := by decide +kernel
theorem dX5_canSit_3 : decode cX5_canSit 3 = .ok (.iconst 5, 1) := by decide +kernel
theorem dX5_canSit_4 : decode cX5_canSit 4 = .ok (.if_icmp .ge 36, 3) := by decide +kernel
theorem dX5_canSit_7 : decode cX5_canSit 7 = .ok (.aload_n 0, 1) := by decide +kernel
theorem dX5_canSit_8 : decode cX5_canSit 8 = .ok (.getfield 18, 3) := by decide +kernel
theorem dX5_canSit_11 : decode cX5_canSit 11 = .ok (.iload_n 2, 1) := by decide +kernel
theorem dX5_canSit_12 : decode cX5_canSit 12 = .ok (.iaload, 1) := by decide +kernel
theorem dX5_canSit_13 : decode cX5_canSit 13 = .ok (.istore_n 3, 1) := by decide +kernel
theorem dX5_canSit_14 : decode cX5_canSit 14 = .ok (.iload_n 3, 1) := by decide +kernel
theorem dX5_canSit_15 : decode cX5_canSit 15 = .ok (.ifCond .lt 19, 3) := by decide +kernel
theorem dX5_canSit_18 : decode cX5_canSit 18 = .ok (.iload_n 3, 1) := by decide +kernel
theorem dX5_canSit_19 : decode cX5_canSit 19 = .ok (.iconst 3, 1) := by decide +kernel
theorem dX5_canSit_20 : decode cX5_canSit 20 = .ok (.if_icmp .ge 14, 3) := by decide +kernel
theorem dX5_canSit_23 : decode cX5_canSit 23 = .ok (.aload_n 1, 1) := by decide +kernel
theorem dX5_canSit_24 : decode cX5_canSit 24 = .ok (.getfield 87, 3) := by decide +kernel
theorem dX5_canSit_27 : decode cX5_canSit 27 = .ok (.iload_n 3, 1) := by decide +kernel
theorem dX5_canSit_28 : decode cX5_canSit 28 = .ok (.iaload, 1) := by decide +kernel
theorem dX5_canSit_29 : decode cX5_canSit 29 = .ok (.ifCond .eq 5, 3) := by decide +kernel
theorem dX5_canSit_32 : decode cX5_canSit 32 = .ok (.iconst 0, 1) := by decide +kernel
theorem dX5_canSit_33 : decode cX5_canSit 33 = .ok (.ireturn, 1) := by decide +kernel
theorem dX5_canSit_34 : decode cX5_canSit 34 = .ok (.iinc 2 1, 3) := by decide +kernel
theorem dX5_canSit_37 : decode cX5_canSit 37 = .ok (.goto (-35), 3) := by decide +kernel
theorem dX5_canSit_40 : decode cX5_canSit 40 = .ok (.iconst 1, 1) := by decide +kernel
theorem dX5_canSit_41 : decode cX5_canSit 41 = .ok (.ireturn, 1) := by decide +kernel
theorem wd_430 : (Jvm.Cond.fieldLink "SilentSale$Seating" (12 : Nat) "SilentSale$Seating" "trial" "LSilentSale$State;") ∈ tb_L := tb_in (i := 430) (by decide +kernel) (by decide +kernel)
theorem wd_944 : (Jvm.Cond.instanceMethod ({ cls := "SilentSale$State", name := "begin", desc := "(I)I" } : Jvm.MethodName)) ∈ tb_L := tb_in (i := 944) (by decide +kernel) (by decide +kernel)
theorem wd_945 : (Jvm.Cond.selects "SilentSale$State" ({ cls := "SilentSale$State", name := "begin", desc := "(I)I" } : Jvm.MethodName) ({ cls := "SilentSale$State", name := "begin", desc := "(I)I" } : Jvm.MethodName)) ∈ tb_L := tb_in (i := 945) (by decide +kernel) (by decide +kernel)
theorem wd_1073 : (Jvm.Cond.code ({ cls := "SilentSale$Seating", name := "ringIfSat", desc := "(I)V" } : Jvm.MethodName) prog_7_method_8_code (2 : Nat) (Option.none : Option Jvm.ClassFile.FieldType)) ∈ tb_L := tb_in (i := 1073) (by decide +kernel) (by decide +kernel)
theorem wd_1074 : (Jvm.Cond.methodLink "SilentSale$Seating" (124 : Nat) ({ cls := "SilentSale$State", name := "sittersOf", desc := "(I)I" } : Jvm.MethodName)) ∈ tb_L := tb_in (i := 1074) (by decide +kernel) (by decide +kernel)
theorem wd_1075 : (Jvm.Cond.methodLink "SilentSale$Seating" (127 : Nat) ({ cls := "SilentSale$State", name := "begin", desc := "(I)I" } : Jvm.MethodName)) ∈ tb_L := tb_in (i := 1075) (by decide +kernel) (by decide +kernel)
theorem dX5_ringIfSat_0 : decode cX5_ringIfSat 0 = .ok (.aload_n 0, 1) := by decide +kernel
theorem dX5_ringIfSat_1 : decode cX5_ringIfSat 1 = .ok (.getfield 12, 3) := by decide +kernel
theorem dX5_ringIfSat_4 : decode cX5_ringIfSat 4 = .ok (.getfield 87, 3) := by decide +kernel
theorem dX5_ringIfSat_7 : decode cX5_ringIfSat 7 = .ok (.iload_n 1, 1) := by decide +kernel
theorem dX5_ringIfSat_8 : decode cX5_ringIfSat 8 = .ok (.iaload, 1) := by decide +kernel
theorem dX5_ringIfSat_9 : decode cX5_ringIfSat 9 = .ok (.ifCond .ne 23, 3) := by decide +kernel
theorem dX5_ringIfSat_12 : decode cX5_ringIfSat 12 = .ok (.aload_n 0, 1) := by decide +kernel
theorem dX5_ringIfSat_13 : decode cX5_ringIfSat 13 = .ok (.getfield 12, 3) := by decide +kernel
theorem dX5_ringIfSat_16 : decode cX5_ringIfSat 16 = .ok (.iload_n 1, 1) := by decide +kernel
theorem dX5_ringIfSat_17 : decode cX5_ringIfSat 17 = .ok (.invokevirtual 124, 3) := by decide +kernel
theorem dX5_ringIfSat_20 : decode cX5_ringIfSat 20 = .ok (.ifCond .eq 12, 3) := by decide +kernel
theorem dX5_ringIfSat_23 : decode cX5_ringIfSat 23 = .ok (.aload_n 0, 1) := by decide +kernel
theorem dX5_ringIfSat_24 : decode cX5_ringIfSat 24 = .ok (.getfield 12, 3) := by decide +kernel
theorem dX5_ringIfSat_27 : decode cX5_ringIfSat 27 = .ok (.iload_n 1, 1) := by decide +kernel
theorem dX5_ringIfSat_28 : decode cX5_ringIfSat 28 = .ok (.invokevirtual 127, 3) := by decide +kernel
theorem dX5_ringIfSat_31 : decode cX5_ringIfSat 31 = .ok (.pop, 1) := by decide +kernel
theorem dX5_ringIfSat_32 : decode cX5_ringIfSat 32 = .ok (.return_, 1) := by decide +kernel
theorem wd_27 : (Jvm.Cond.selects "SilentSale$Seating" ({ cls := "SilentSale$Seating", name := "ringIfSat", desc := "(I)V" } : Jvm.MethodName) ({ cls := "SilentSale$Seating", name := "ringIfSat", desc := "(I)V" } : Jvm.MethodName)) ∈ tb_L := tb_in (i := 27) (by decide +kernel) (by decide +kernel)
theorem wd_131 : (Jvm.Cond.initialized "SilentSale$Seating") ∈ tb_L := tb_in (i := 131) (by decide +kernel) (by decide +kernel)
theorem wd_188 : (Jvm.Cond.fieldLink "SilentSale$Seating" (41 : Nat) "SilentSale$Terms" "lots" "I") ∈ tb_L := tb_in (i := 188) (by decide +kernel) (by decide +kernel)
theorem wd_241 : (Jvm.Cond.fieldLink "SilentSale$Seating" (94 : Nat) "SilentSale$State" "seat" "[I") ∈ tb_L := tb_in (i := 241) (by decide +kernel) (by decide +kernel)
theorem wd_1059 : (Jvm.Cond.methodLink "SilentSale$Seating" (108 : Nat) ({ cls := "SilentSale$State", name := "allGains", desc := "(LSilentSale$Terms;)I" } : Jvm.MethodName)) ∈ tb_L := tb_in (i := 1059) (by decide +kernel) (by decide +kernel)
theorem wd_1060 : (Jvm.Cond.instanceMethod ({ cls := "SilentSale$State", name := "allGains", desc := "(LSilentSale$Terms;)I" } : Jvm.MethodName)) ∈ tb_L := tb_in (i := 1060) (by decide +kernel) (by decide +kernel)
theorem wd_1061 : (Jvm.Cond.selects "SilentSale$State" ({ cls := "SilentSale$State", name := "allGains", desc := "(LSilentSale$Terms;)I" } : Jvm.MethodName) ({ cls := "SilentSale$State", name := "allGains", desc := "(LSilentSale$Terms;)I" } : Jvm.MethodName)) ∈ tb_L := tb_in (i := 1061) (by decide +kernel) (by decide +kernel)
theorem wd_1068 : (Jvm.Cond.methodLink "SilentSale$Seating" (90 : Nat) ({ cls := "SilentSale$State", name := "copyFrom", desc := "(LSilentSale$State;)V" } : Jvm.MethodName)) ∈ tb_L := tb_in (i := 1068) (by decide +kernel) (by decide +kernel)
theorem wd_1070 : (Jvm.Cond.methodLink "SilentSale$Seating" (97 : Nat) ({ cls := "SilentSale$Seating", name := "ringIfSat", desc := "(I)V" } : Jvm.MethodName)) ∈ tb_L := tb_in (i := 1070) (by decide +kernel) (by decide +kernel)
theorem wd_1072 : (Jvm.Cond.instanceMethod ({ cls := "SilentSale$Seating", name := "ringIfSat", desc := "(I)V" } : Jvm.MethodName)) ∈ tb_L := tb_in (i := 1072) (by decide +kernel) (by decide +kernel)
theorem wd_1093 : (Jvm.Cond.code ({ cls := "SilentSale$Seating", name := "courseGains", desc := "(LSilentSale$Clerk;LSilentSale$Terms;LSilentSale$State;)I" } : Jvm.MethodName) prog_7_method_4_code (5 : Nat) (Option.some Jvm.ClassFile.FieldType.int)) ∈ tb_L := tb_in (i := 1093) (by decide +kernel) (by decide +kernel)
theorem wd_1094 : (Jvm.Cond.methodLink "SilentSale$Seating" (101 : Nat) ({ cls := "SilentSale$State", name := "lotsAt", desc := "(I)I" } : Jvm.MethodName)) ∈ tb_L := tb_in (i := 1094) (by decide +kernel) (by decide +kernel)
theorem wd_1095 : (Jvm.Cond.methodLink "SilentSale$Seating" (104 : Nat) ({ cls := "SilentSale$Clerk", name := "pass", desc := "(LSilentSale$State;I)I" } : Jvm.MethodName)) ∈ tb_L := tb_in (i := 1095) (by decide +kernel) (by decide +kernel)
theorem dX5_courseGains_0 : decode cX5_courseGains 0 = .ok (.aload_n 0, 1) := by decide +kernel
theorem dX5_courseGains_1 : decode cX5_courseGains 1 = .ok (.getfield 12, 3) := by decide +kernel
theorem dX5_courseGains_4 : decode cX5_courseGains 4 = .ok (.aload_n 3, 1) := by decide +kernel
theorem dX5_courseGains_5 : decode cX5_courseGains 5 = .ok (.invokevirtual 90, 3) := by decide +kernel
theorem dX5_courseGains_8 : decode cX5_courseGains 8 = .ok (.iconst 0, 1) := by decide +kernel
theorem dX5_courseGains_9 : decode cX5_courseGains 9 = .ok (.istore 4, 2) := by decide +kernel
theorem dX5_courseGains_11 : decode cX5_courseGains 11 = .ok (.iload 4, 2) := by decide +kernel
theorem dX5_courseGains_13 : decode cX5_courseGains 13 = .ok (.iconst 5, 1) := by decide +kernel
theorem dX5_courseGains_14 : decode cX5_courseGains 14 = .ok (.if_icmp .ge 51, 3) := by decide +kernel
theorem dX5_courseGains_17 : decode cX5_courseGains 17 = .ok (.aload_n 0, 1) := by decide +kernel
theorem dX5_courseGains_18 : decode cX5_courseGains 18 = .ok (.getfield 12, 3) := by decide +kernel
theorem dX5_courseGains_21 : decode cX5_courseGains 21 = .ok (.getfield 94, 3) := by decide +kernel
theorem dX5_courseGains_24 : decode cX5_courseGains 24 = .ok (.iload 4, 2) := by decide +kernel
theorem dX5_courseGains_26 : decode cX5_courseGains 26 = .ok (.aload_n 0, 1) := by decide +kernel
theorem dX5_courseGains_27 : decode cX5_courseGains 27 = .ok (.getfield 18, 3) := by decide +kernel
theorem dX5_courseGains_30 : decode cX5_courseGains 30 = .ok (.iload 4, 2) := by decide +kernel
theorem dX5_courseGains_32 : decode cX5_courseGains 32 = .ok (.iaload, 1) := by decide +kernel
theorem dX5_courseGains_33 : decode cX5_courseGains 33 = .ok (.bipush (-2), 2) := by decide +kernel
theorem dX5_courseGains_35 : decode cX5_courseGains 35 = .ok (.if_icmp .ne 16, 3) := by decide +kernel
theorem dX5_courseGains_38 : decode cX5_courseGains 38 = .ok (.aload_n 0, 1) := by decide +kernel
theorem dX5_courseGains_39 : decode cX5_courseGains 39 = .ok (.getfield 12, 3) := by decide +kernel
theorem dX5_courseGains_42 : decode cX5_courseGains 42 = .ok (.getfield 94, 3) := by decide +kernel
theorem dX5_courseGains_45 : decode cX5_courseGains 45 = .ok (.iload 4, 2) := by decide +kernel
theorem dX5_courseGains_47 : decode cX5_courseGains 47 = .ok (.iaload, 1) := by decide +kernel
theorem dX5_courseGains_48 : decode cX5_courseGains 48 = .ok (.goto 10, 3) := by decide +kernel
theorem dX5_courseGains_51 : decode cX5_courseGains 51 = .ok (.aload_n 0, 1) := by decide +kernel
theorem dX5_courseGains_52 : decode cX5_courseGains 52 = .ok (.getfield 18, 3) := by decide +kernel
theorem dX5_courseGains_55 : decode cX5_courseGains 55 = .ok (.iload 4, 2) := by decide +kernel
theorem dX5_courseGains_57 : decode cX5_courseGains 57 = .ok (.iaload, 1) := by decide +kernel
theorem dX5_courseGains_58 : decode cX5_courseGains 58 = .ok (.iastore, 1) := by decide +kernel
theorem dX5_courseGains_59 : decode cX5_courseGains 59 = .ok (.iinc 4 1, 3) := by decide +kernel
theorem dX5_courseGains_62 : decode cX5_courseGains 62 = .ok (.goto (-51), 3) := by decide +kernel
theorem dX5_courseGains_65 : decode cX5_courseGains 65 = .ok (.iconst 0, 1) := by decide +kernel
theorem dX5_courseGains_66 : decode cX5_courseGains 66 = .ok (.istore 4, 2) := by decide +kernel
theorem dX5_courseGains_68 : decode cX5_courseGains 68 = .ok (.iload 4, 2) := by decide +kernel
theorem dX5_courseGains_70 : decode cX5_courseGains 70 = .ok (.aload_n 2, 1) := by decide +kernel
theorem dX5_courseGains_71 : decode cX5_courseGains 71 = .ok (.getfield 41, 3) := by decide +kernel
theorem dX5_courseGains_74 : decode cX5_courseGains 74 = .ok (.if_icmp .ge 15, 3) := by decide +kernel
theorem dX5_courseGains_77 : decode cX5_courseGains 77 = .ok (.aload_n 0, 1) := by decide +kernel
theorem dX5_courseGains_78 : decode cX5_courseGains 78 = .ok (.iload 4, 2) := by decide +kernel
theorem dX5_courseGains_80 : decode cX5_courseGains 80 = .ok (.invokevirtual 97, 3) := by decide +kernel
theorem dX5_courseGains_83 : decode cX5_courseGains 83 = .ok (.iinc 4 1, 3) := by decide +kernel
theorem dX5_courseGains_86 : decode cX5_courseGains 86 = .ok (.goto (-18), 3) := by decide +kernel
theorem dX5_courseGains_89 : decode cX5_courseGains 89 = .ok (.iconst 0, 1) := by decide +kernel
theorem dX5_courseGains_90 : decode cX5_courseGains 90 = .ok (.istore 4, 2) := by decide +kernel
theorem dX5_courseGains_92 : decode cX5_courseGains 92 = .ok (.iload 4, 2) := by decide +kernel
theorem dX5_courseGains_94 : decode cX5_courseGains 94 = .ok (.sipush 300, 3) := by decide +kernel
theorem dX5_courseGains_97 : decode cX5_courseGains 97 = .ok (.if_icmp .ge 30, 3) := by decide +kernel
theorem dX5_courseGains_100 : decode cX5_courseGains 100 = .ok (.aload_n 0, 1) := by decide +kernel
theorem dX5_courseGains_101 : decode cX5_courseGains 101 = .ok (.getfield 12, 3) := by decide +kernel
theorem dX5_courseGains_104 : decode cX5_courseGains 104 = .ok (.iconst 1, 1) := by decide +kernel
theorem dX5_courseGains_105 : decode cX5_courseGains 105 = .ok (.invokevirtual 101, 3) := by decide +kernel
theorem dX5_courseGains_108 : decode cX5_courseGains 108 = .ok (.ifCond .eq 19, 3) := by decide +kernel
theorem dX5_courseGains_111 : decode cX5_courseGains 111 = .ok (.aload_n 1, 1) := by decide +kernel
theorem dX5_courseGains_112 : decode cX5_courseGains 112 = .ok (.aload_n 0, 1) := by decide +kernel
theorem dX5_courseGains_113 : decode cX5_courseGains 113 = .ok (.getfield 12, 3) := by decide +kernel
theorem dX5_courseGains_116 : decode cX5_courseGains 116 = .ok (.iconst 0, 1) := by decide +kernel
theorem dX5_courseGains_117 : decode cX5_courseGains 117 = .ok (.invokevirtual 104, 3) := by decide +kernel
theorem dX5_courseGains_120 : decode cX5_courseGains 120 = .ok (.pop, 1) := by decide +kernel
theorem dX5_courseGains_121 : decode cX5_courseGains 121 = .ok (.iinc 4 1, 3) := by decide +kernel
theorem dX5_courseGains_124 : decode cX5_courseGains 124 = .ok (.goto (-32), 3) := by decide +kernel
theorem dX5_courseGains_127 : decode cX5_courseGains 127 = .ok (.aload_n 0, 1) := by decide +kernel
theorem dX5_courseGains_128 : decode cX5_courseGains 128 = .ok (.getfield 12, 3) := by decide +kernel
theorem dX5_courseGains_131 : decode cX5_courseGains 131 = .ok (.aload_n 2, 1) := by decide +kernel
theorem dX5_courseGains_132 : decode cX5_courseGains 132 = .ok (.invokevirtual 108, 3) := by decide +kernel
theorem dX5_courseGains_135 : decode cX5_courseGains 135 = .ok (.ireturn, 1) := by decide +kernel
theorem wd_1067 : (Jvm.Cond.code ({ cls := "SilentSale$Seating", name := "setGains", desc := "(LSilentSale$Clerk;LSilentSale$Terms;LSilentSale$State;II)I" } : Jvm.MethodName) prog_7_method_6_code (7 : Nat) (Option.some Jvm.ClassFile.FieldType.int)) ∈ tb_L := tb_in (i := 1067) (by decide +kernel) (by decide +kernel)
theorem wd_1076 : (Jvm.Cond.methodLink "SilentSale$Seating" (120 : Nat) ({ cls := "SilentSale$Clerk", name := "passLot", desc := "(LSilentSale$State;II)I" } : Jvm.MethodName)) ∈ tb_L := tb_in (i := 1076) (by decide +kernel) (by decide +kernel)
theorem dX5_setGains_0 : decode cX5_setGains 0 = .ok (.aload_n 0, 1) := by decide +kernel
theorem dX5_setGains_1 : decode cX5_setGains 1 = .ok (.getfield 12, 3) := by decide +kernel
theorem dX5_setGains_4 : decode cX5_setGains 4 = .ok (.aload_n 3, 1) := by decide +kernel
theorem dX5_setGains_5 : decode cX5_setGains 5 = .ok (.invokevirtual 90, 3) := by decide +kernel
theorem dX5_setGains_8 : decode cX5_setGains 8 = .ok (.aload_n 3, 1) := by decide +kernel
theorem dX5_setGains_9 : decode cX5_setGains 9 = .ok (.getfield 87, 3) := by decide +kernel
theorem dX5_setGains_12 : decode cX5_setGains 12 = .ok (.iload 4, 2) := by decide +kernel
theorem dX5_setGains_14 : decode cX5_setGains 14 = .ok (.iaload, 1) := by decide +kernel
theorem dX5_setGains_15 : decode cX5_setGains 15 = .ok (.ifCond .ne 44, 3) := by decide +kernel
theorem dX5_setGains_18 : decode cX5_setGains 18 = .ok (.iconst 0, 1) := by decide +kernel
theorem dX5_setGains_19 : decode cX5_setGains 19 = .ok (.istore 6, 2) := by decide +kernel
theorem dX5_setGains_21 : decode cX5_setGains 21 = .ok (.iload 6, 2) := by decide +kernel
theorem dX5_setGains_23 : decode cX5_setGains 23 = .ok (.iconst 5, 1) := by decide +kernel
theorem dX5_setGains_24 : decode cX5_setGains 24 = .ok (.if_icmp .ge 35, 3) := by decide +kernel
theorem dX5_setGains_27 : decode cX5_setGains 27 = .ok (.aload_n 0, 1) := by decide +kernel
theorem dX5_setGains_28 : decode cX5_setGains 28 = .ok (.getfield 12, 3) := by decide +kernel
theorem dX5_setGains_31 : decode cX5_setGains 31 = .ok (.getfield 94, 3) := by decide +kernel
theorem dX5_setGains_34 : decode cX5_setGains 34 = .ok (.iload 6, 2) := by decide +kernel
theorem dX5_setGains_36 : decode cX5_setGains 36 = .ok (.iload 6, 2) := by decide +kernel
theorem dX5_setGains_38 : decode cX5_setGains 38 = .ok (.iload 5, 2) := by decide +kernel
theorem dX5_setGains_40 : decode cX5_setGains 40 = .ok (.invokestatic 116, 3) := by decide +kernel
theorem dX5_setGains_43 : decode cX5_setGains 43 = .ok (.ifCond .eq 8, 3) := by decide +kernel
theorem dX5_setGains_46 : decode cX5_setGains 46 = .ok (.iload 4, 2) := by decide +kernel
theorem dX5_setGains_48 : decode cX5_setGains 48 = .ok (.goto 4, 3) := by decide +kernel
theorem dX5_setGains_51 : decode cX5_setGains 51 = .ok (.iconst (-1), 1) := by decide +kernel
theorem dX5_setGains_52 : decode cX5_setGains 52 = .ok (.iastore, 1) := by decide +kernel
theorem dX5_setGains_53 : decode cX5_setGains 53 = .ok (.iinc 6 1, 3) := by decide +kernel
theorem dX5_setGains_56 : decode cX5_setGains 56 = .ok (.goto (-35), 3) := by decide +kernel
theorem dX5_setGains_59 : decode cX5_setGains 59 = .ok (.aload_n 0, 1) := by decide +kernel
theorem dX5_setGains_60 : decode cX5_setGains 60 = .ok (.iload 4, 2) := by decide +kernel
theorem dX5_setGains_62 : decode cX5_setGains 62 = .ok (.invokevirtual 97, 3) := by decide +kernel
theorem dX5_setGains_65 : decode cX5_setGains 65 = .ok (.iconst 0, 1) := by decide +kernel
theorem dX5_setGains_66 : decode cX5_setGains 66 = .ok (.istore 6, 2) := by decide +kernel
theorem dX5_setGains_68 : decode cX5_setGains 68 = .ok (.iload 6, 2) := by decide +kernel
theorem dX5_setGains_70 : decode cX5_setGains 70 = .ok (.sipush 300, 3) := by decide +kernel
theorem dX5_setGains_73 : decode cX5_setGains 73 = .ok (.if_icmp .ge 35, 3) := by decide +kernel
theorem dX5_setGains_76 : decode cX5_setGains 76 = .ok (.aload_n 0, 1) := by decide +kernel
theorem dX5_setGains_77 : decode cX5_setGains 77 = .ok (.getfield 12, 3) := by decide +kernel
theorem dX5_setGains_80 : decode cX5_setGains 80 = .ok (.getfield 87, 3) := by decide +kernel
theorem dX5_setGains_83 : decode cX5_setGains 83 = .ok (.iload 4, 2) := by decide +kernel
theorem dX5_setGains_85 : decode cX5_setGains 85 = .ok (.iaload, 1) := by decide +kernel
theorem dX5_setGains_86 : decode cX5_setGains 86 = .ok (.iconst 1, 1) := by decide +kernel
theorem dX5_setGains_87 : decode cX5_setGains 87 = .ok (.if_icmp .ne 21, 3) := by decide +kernel
theorem dX5_setGains_90 : decode cX5_setGains 90 = .ok (.aload_n 1, 1) := by decide +kernel
theorem dX5_setGains_91 : decode cX5_setGains 91 = .ok (.aload_n 0, 1) := by decide +kernel
theorem dX5_setGains_92 : decode cX5_setGains 92 = .ok (.getfield 12, 3) := by decide +kernel
theorem dX5_setGains_95 : decode cX5_setGains 95 = .ok (.iload 4, 2) := by decide +kernel
theorem dX5_setGains_97 : decode cX5_setGains 97 = .ok (.iconst 0, 1) := by decide +kernel
theorem dX5_setGains_98 : decode cX5_setGains 98 = .ok (.invokevirtual 120, 3) := by decide +kernel
theorem dX5_setGains_101 : decode cX5_setGains 101 = .ok (.pop, 1) := by decide +kernel
theorem dX5_setGains_102 : decode cX5_setGains 102 = .ok (.iinc 6 1, 3) := by decide +kernel
theorem dX5_setGains_105 : decode cX5_setGains 105 = .ok (.goto (-37), 3) := by decide +kernel
theorem dX5_setGains_108 : decode cX5_setGains 108 = .ok (.aload_n 0, 1) := by decide +kernel
theorem dX5_setGains_109 : decode cX5_setGains 109 = .ok (.getfield 12, 3) := by decide +kernel
theorem dX5_setGains_112 : decode cX5_setGains 112 = .ok (.aload_n 2, 1) := by decide +kernel
theorem dX5_setGains_113 : decode cX5_setGains 113 = .ok (.invokevirtual 108, 3) := by decide +kernel
theorem dX5_setGains_116 : decode cX5_setGains 116 = .ok (.ireturn, 1) := by decide +kernel
theorem wd_26 : (Jvm.Cond.selects "SilentSale$Seating" ({ cls := "SilentSale$Seating", name := "setGains", desc := "(LSilentSale$Clerk;LSilentSale$Terms;LSilentSale$State;II)I" } : Jvm.MethodName) ({ cls := "SilentSale$Seating", name := "setGains", desc := "(LSilentSale$Clerk;LSilentSale$Terms;LSilentSale$State;II)I" } : Jvm.MethodName)) ∈ tb_L := tb_in (i := 26) (by decide +kernel) (by decide +kernel)
theorem wd_432 : (Jvm.Cond.fieldLink "SilentSale$Seating" (22 : Nat) "SilentSale$Seating" "gainsBySet" "[I") ∈ tb_L := tb_in (i := 432) (by decide +kernel) (by decide +kernel)
theorem wd_1058 : (Jvm.Cond.code ({ cls := "SilentSale$Seating", name := "workOutSets", desc := "(LSilentSale$Clerk;LSilentSale$Terms;LSilentSale$State;I)V" } : Jvm.MethodName) prog_7_method_5_code (9 : Nat) (Option.none : Option Jvm.ClassFile.FieldType)) ∈ tb_L := tb_in (i := 1058) (by decide +kernel) (by decide +kernel)
theorem wd_1064 : (Jvm.Cond.methodLink "SilentSale$Seating" (112 : Nat) ({ cls := "SilentSale$Seating", name := "setGains", desc := "(LSilentSale$Clerk;LSilentSale$Terms;LSilentSale$State;II)I" } : Jvm.MethodName)) ∈ tb_L := tb_in (i := 1064) (by decide +kernel) (by decide +kernel)
theorem wd_1066 : (Jvm.Cond.instanceMethod ({ cls := "SilentSale$Seating", name := "setGains", desc := "(LSilentSale$Clerk;LSilentSale$Terms;LSilentSale$State;II)I" } : Jvm.MethodName)) ∈ tb_L := tb_in (i := 1066) (by decide +kernel) (by decide +kernel)
theorem dX5_workOutSets_0 : decode cX5_workOutSets 0 = .ok (.aload_n 3, 1) := by decide +kernel
theorem dX5_workOutSets_1 : decode cX5_workOutSets 1 = .ok (.aload_n 2, 1) := by decide +kernel
theorem dX5_workOutSets_2 : decode cX5_workOutSets 2 = .ok (.invokevirtual 108, 3) := by decide +kernel
theorem dX5_workOutSets_5 : decode cX5_workOutSets 5 = .ok (.istore 5, 2) := by decide +kernel
theorem dX5_workOutSets_7 : decode cX5_workOutSets 7 = .ok (.iconst 0, 1) := by decide +kernel
theorem dX5_workOutSets_8 : decode cX5_workOutSets 8 = .ok (.istore 6, 2) := by decide +kernel
theorem dX5_workOutSets_10 : decode cX5_workOutSets 10 = .ok (.iload 6, 2) := by decide +kernel
theorem dX5_workOutSets_12 : decode cX5_workOutSets 12 = .ok (.aload_n 2, 1) := by decide +kernel
theorem dX5_workOutSets_13 : decode cX5_workOutSets 13 = .ok (.getfield 41, 3) := by decide +kernel
theorem dX5_workOutSets_16 : decode cX5_workOutSets 16 = .ok (.if_icmp .ge 89, 3) := by decide +kernel
theorem dX5_workOutSets_19 : decode cX5_workOutSets 19 = .ok (.iconst 0, 1) := by decide +kernel
theorem dX5_workOutSets_20 : decode cX5_workOutSets 20 = .ok (.istore 7, 2) := by decide +kernel
theorem dX5_workOutSets_22 : decode cX5_workOutSets 22 = .ok (.iload 7, 2) := by decide +kernel
theorem dX5_workOutSets_24 : decode cX5_workOutSets 24 = .ok (.bipush 32, 2) := by decide +kernel
theorem dX5_workOutSets_26 : decode cX5_workOutSets 26 = .ok (.if_icmp .ge 73, 3) := by decide +kernel
theorem dX5_workOutSets_29 : decode cX5_workOutSets 29 = .ok (.iload 7, 2) := by decide +kernel
theorem dX5_workOutSets_31 : decode cX5_workOutSets 31 = .ok (.ifCond .eq 23, 3) := by decide +kernel
theorem dX5_workOutSets_34 : decode cX5_workOutSets 34 = .ok (.aload_n 3, 1) := by decide +kernel
theorem dX5_workOutSets_35 : decode cX5_workOutSets 35 = .ok (.getfield 87, 3) := by decide +kernel
theorem dX5_workOutSets_38 : decode cX5_workOutSets 38 = .ok (.iload 6, 2) := by decide +kernel
theorem dX5_workOutSets_40 : decode cX5_workOutSets 40 = .ok (.iaload, 1) := by decide +kernel
theorem dX5_workOutSets_41 : decode cX5_workOutSets 41 = .ok (.ifCond .ne 17, 3) := by decide +kernel
theorem dX5_workOutSets_44 : decode cX5_workOutSets 44 = .ok (.iload 7, 2) := by decide +kernel
theorem dX5_workOutSets_46 : decode cX5_workOutSets 46 = .ok (.iload 4, 2) := by decide +kernel
theorem dX5_workOutSets_48 : decode cX5_workOutSets 48 = .ok (.iconst (-1), 1) := by decide +kernel
theorem dX5_workOutSets_49 : decode cX5_workOutSets 49 = .ok (.ixor, 1) := by decide +kernel
theorem dX5_workOutSets_50 : decode cX5_workOutSets 50 = .ok (.iand, 1) := by decide +kernel
theorem dX5_workOutSets_51 : decode cX5_workOutSets 51 = .ok (.ifCond .ne 7, 3) := by decide +kernel
theorem dX5_workOutSets_54 : decode cX5_workOutSets 54 = .ok (.iconst 1, 1) := by decide +kernel
theorem dX5_workOutSets_55 : decode cX5_workOutSets 55 = .ok (.goto 4, 3) := by decide +kernel
theorem dX5_workOutSets_58 : decode cX5_workOutSets 58 = .ok (.iconst 0, 1) := by decide +kernel
theorem dX5_workOutSets_59 : decode cX5_workOutSets 59 = .ok (.istore 8, 2) := by decide +kernel
theorem dX5_workOutSets_61 : decode cX5_workOutSets 61 = .ok (.iload 8, 2) := by decide +kernel
theorem dX5_workOutSets_63 : decode cX5_workOutSets 63 = .ok (.ifCond .eq 30, 3) := by decide +kernel
theorem dX5_workOutSets_66 : decode cX5_workOutSets 66 = .ok (.aload_n 0, 1) := by decide +kernel
theorem dX5_workOutSets_67 : decode cX5_workOutSets 67 = .ok (.getfield 22, 3) := by decide +kernel
theorem dX5_workOutSets_70 : decode cX5_workOutSets 70 = .ok (.iload 6, 2) := by decide +kernel
theorem dX5_workOutSets_72 : decode cX5_workOutSets 72 = .ok (.bipush 32, 2) := by decide +kernel
theorem dX5_workOutSets_74 : decode cX5_workOutSets 74 = .ok (.imul, 1) := by decide +kernel
theorem dX5_workOutSets_75 : decode cX5_workOutSets 75 = .ok (.iload 7, 2) := by decide +kernel
theorem dX5_workOutSets_77 : decode cX5_workOutSets 77 = .ok (.iadd, 1) := by decide +kernel
theorem dX5_workOutSets_78 : decode cX5_workOutSets 78 = .ok (.aload_n 0, 1) := by decide +kernel
theorem dX5_workOutSets_79 : decode cX5_workOutSets 79 = .ok (.aload_n 1, 1) := by decide +kernel
theorem dX5_workOutSets_80 : decode cX5_workOutSets 80 = .ok (.aload_n 2, 1) := by decide +kernel
theorem dX5_workOutSets_81 : decode cX5_workOutSets 81 = .ok (.aload_n 3, 1) := by decide +kernel
theorem dX5_workOutSets_82 : decode cX5_workOutSets 82 = .ok (.iload 6, 2) := by decide +kernel
theorem dX5_workOutSets_84 : decode cX5_workOutSets 84 = .ok (.iload 7, 2) := by decide +kernel
theorem dX5_workOutSets_86 : decode cX5_workOutSets 86 = .ok (.invokevirtual 112, 3) := by decide +kernel
theorem dX5_workOutSets_89 : decode cX5_workOutSets 89 = .ok (.iload 5, 2) := by decide +kernel
theorem dX5_workOutSets_91 : decode cX5_workOutSets 91 = .ok (.isub, 1) := by decide +kernel
theorem dX5_workOutSets_92 : decode cX5_workOutSets 92 = .ok (.iastore, 1) := by decide +kernel
theorem dX5_workOutSets_93 : decode cX5_workOutSets 93 = .ok (.iinc 7 1, 3) := by decide +kernel
theorem dX5_workOutSets_96 : decode cX5_workOutSets 96 = .ok (.goto (-74), 3) := by decide +kernel
theorem dX5_workOutSets_99 : decode cX5_workOutSets 99 = .ok (.iinc 6 1, 3) := by decide +kernel
theorem dX5_workOutSets_102 : decode cX5_workOutSets 102 = .ok (.goto (-92), 3) := by decide +kernel
theorem dX5_workOutSets_105 : decode cX5_workOutSets 105 = .ok (.return_, 1) := by decide +kernel
theorem wd_1089 : (Jvm.Cond.code ({ cls := "SilentSale$Seating", name := "sumOfSets", desc := "(LSilentSale$Terms;LSilentSale$State;)I" } : Jvm.MethodName) prog_7_method_7_code (7 : Nat) (Option.some Jvm.ClassFile.FieldType.int)) ∈ tb_L := tb_in (i := 1089) (by decide +kernel) (by decide +kernel)
theorem dX5_sumOfSets_0 : decode cX5_sumOfSets 0 = .ok (.aload_n 2, 1) := by decide +kernel
theorem dX5_sumOfSets_1 : decode cX5_sumOfSets 1 = .ok (.aload_n 1, 1) := by decide +kernel
theorem dX5_sumOfSets_2 : decode cX5_sumOfSets 2 = .ok (.invokevirtual 108, 3) := by decide +kernel
theorem dX5_sumOfSets_5 : decode cX5_sumOfSets 5 = .ok (.istore_n 3, 1) := by decide +kernel
theorem dX5_sumOfSets_6 : decode cX5_sumOfSets 6 = .ok (.iconst 0, 1) := by decide +kernel
theorem dX5_sumOfSets_7 : decode cX5_sumOfSets 7 = .ok (.istore 4, 2) := by decide +kernel
theorem dX5_sumOfSets_9 : decode cX5_sumOfSets 9 = .ok (.iload 4, 2) := by decide +kernel
theorem dX5_sumOfSets_11 : decode cX5_sumOfSets 11 = .ok (.aload_n 1, 1) := by decide +kernel
theorem dX5_sumOfSets_12 : decode cX5_sumOfSets 12 = .ok (.getfield 41, 3) := by decide +kernel
theorem dX5_sumOfSets_15 : decode cX5_sumOfSets 15 = .ok (.if_icmp .ge 68, 3) := by decide +kernel
theorem dX5_sumOfSets_18 : decode cX5_sumOfSets 18 = .ok (.iconst 0, 1) := by decide +kernel
theorem dX5_sumOfSets_19 : decode cX5_sumOfSets 19 = .ok (.istore 5, 2) := by decide +kernel
theorem dX5_sumOfSets_21 : decode cX5_sumOfSets 21 = .ok (.iconst 0, 1) := by decide +kernel
theorem dX5_sumOfSets_22 : decode cX5_sumOfSets 22 = .ok (.istore 6, 2) := by decide +kernel
theorem dX5_sumOfSets_24 : decode cX5_sumOfSets 24 = .ok (.iload 6, 2) := by decide +kernel
theorem dX5_sumOfSets_26 : decode cX5_sumOfSets 26 = .ok (.iconst 5, 1) := by decide +kernel
theorem dX5_sumOfSets_27 : decode cX5_sumOfSets 27 = .ok (.if_icmp .ge 34, 3) := by decide +kernel
theorem dX5_sumOfSets_30 : decode cX5_sumOfSets 30 = .ok (.iload 5, 2) := by decide +kernel
theorem dX5_sumOfSets_32 : decode cX5_sumOfSets 32 = .ok (.aload_n 0, 1) := by decide +kernel
theorem dX5_sumOfSets_33 : decode cX5_sumOfSets 33 = .ok (.getfield 18, 3) := by decide +kernel
theorem dX5_sumOfSets_36 : decode cX5_sumOfSets 36 = .ok (.iload 6, 2) := by decide +kernel
theorem dX5_sumOfSets_38 : decode cX5_sumOfSets 38 = .ok (.iaload, 1) := by decide +kernel
theorem dX5_sumOfSets_39 : decode cX5_sumOfSets 39 = .ok (.iload 4, 2) := by decide +kernel
theorem dX5_sumOfSets_41 : decode cX5_sumOfSets 41 = .ok (.if_icmp .ne 10, 3) := by decide +kernel
theorem dX5_sumOfSets_44 : decode cX5_sumOfSets 44 = .ok (.iconst 1, 1) := by decide +kernel
theorem dX5_sumOfSets_45 : decode cX5_sumOfSets 45 = .ok (.iload 6, 2) := by decide +kernel
theorem dX5_sumOfSets_47 : decode cX5_sumOfSets 47 = .ok (.ishl, 1) := by decide +kernel
theorem dX5_sumOfSets_48 : decode cX5_sumOfSets 48 = .ok (.goto 4, 3) := by decide +kernel
theorem dX5_sumOfSets_51 : decode cX5_sumOfSets 51 = .ok (.iconst 0, 1) := by decide +kernel
theorem dX5_sumOfSets_52 : decode cX5_sumOfSets 52 = .ok (.ior, 1) := by decide +kernel
theorem dX5_sumOfSets_53 : decode cX5_sumOfSets 53 = .ok (.istore 5, 2) := by decide +kernel
theorem dX5_sumOfSets_55 : decode cX5_sumOfSets 55 = .ok (.iinc 6 1, 3) := by decide +kernel
theorem dX5_sumOfSets_58 : decode cX5_sumOfSets 58 = .ok (.goto (-34), 3) := by decide +kernel
theorem dX5_sumOfSets_61 : decode cX5_sumOfSets 61 = .ok (.iload_n 3, 1) := by decide +kernel
theorem dX5_sumOfSets_62 : decode cX5_sumOfSets 62 = .ok (.aload_n 0, 1) := by decide +kernel
theorem dX5_sumOfSets_63 : decode cX5_sumOfSets 63 = .ok (.getfield 22, 3) := by decide +kernel
theorem dX5_sumOfSets_66 : decode cX5_sumOfSets 66 = .ok (.iload 4, 2) := by decide +kernel
theorem dX5_sumOfSets_68 : decode cX5_sumOfSets 68 = .ok (.bipush 32, 2) := by decide +kernel
theorem dX5_sumOfSets_70 : decode cX5_sumOfSets 70 = .ok (.imul, 1) := by decide +kernel
theorem dX5_sumOfSets_71 : decode cX5_sumOfSets 71 = .ok (.iload 5, 2) := by decide +kernel
theorem dX5_sumOfSets_73 : decode cX5_sumOfSets 73 = .ok (.iadd, 1) := by decide +kernel
theorem dX5_sumOfSets_74 : decode cX5_sumOfSets 74 = .ok (.iaload, 1) := by decide +kernel
theorem dX5_sumOfSets_75 : decode cX5_sumOfSets 75 = .ok (.iadd, 1) := by decide +kernel
theorem dX5_sumOfSets_76 : decode cX5_sumOfSets 76 = .ok (.istore_n 3, 1) := by decide +kernel
theorem dX5_sumOfSets_77 : decode cX5_sumOfSets 77 = .ok (.iinc 4 1, 3) := by decide +kernel
theorem dX5_sumOfSets_80 : decode cX5_sumOfSets 80 = .ok (.goto (-71), 3) := by decide +kernel
theorem dX5_sumOfSets_83 : decode cX5_sumOfSets 83 = .ok (.iload_n 3, 1) := by decide +kernel
theorem dX5_sumOfSets_84 : decode cX5_sumOfSets 84 = .ok (.ireturn, 1) := by decide +kernel
theorem wd_25 : (Jvm.Cond.selects "SilentSale$Seating" ({ cls := "SilentSale$Seating", name := "workOutSets", desc := "(LSilentSale$Clerk;LSilentSale$Terms;LSilentSale$State;I)V" } : Jvm.MethodName) ({ cls := "SilentSale$Seating", name := "workOutSets", desc := "(LSilentSale$Clerk;LSilentSale$Terms;LSilentSale$State;I)V" } : Jvm.MethodName)) ∈ tb_L := tb_in (i := 25) (by decide +kernel) (by decide +kernel)
theorem wd_28 : (Jvm.Cond.selects "SilentSale$Seating" ({ cls := "SilentSale$Seating", name := "canSit", desc := "(LSilentSale$State;)Z" } : Jvm.MethodName) ({ cls := "SilentSale$Seating", name := "canSit", desc := "(LSilentSale$State;)Z" } : Jvm.MethodName)) ∈ tb_L := tb_in (i := 28) (by decide +kernel) (by decide +kernel)
theorem wd_29 : (Jvm.Cond.selects "SilentSale$Seating" ({ cls := "SilentSale$Seating", name := "sumOfSets", desc := "(LSilentSale$Terms;LSilentSale$State;)I" } : Jvm.MethodName) ({ cls := "SilentSale$Seating", name := "sumOfSets", desc := "(LSilentSale$Terms;LSilentSale$State;)I" } : Jvm.MethodName)) ∈ tb_L := tb_in (i := 29) (by decide +kernel) (by decide +kernel)
theorem wd_30 : (Jvm.Cond.selects "SilentSale$Seating" ({ cls := "SilentSale$Seating", name := "courseGains", desc := "(LSilentSale$Clerk;LSilentSale$Terms;LSilentSale$State;)I" } : Jvm.MethodName) ({ cls := "SilentSale$Seating", name := "courseGains", desc := "(LSilentSale$Clerk;LSilentSale$Terms;LSilentSale$State;)I" } : Jvm.MethodName)) ∈ tb_L := tb_in (i := 30) (by decide +kernel) (by decide +kernel)
theorem wd_183 : (Jvm.Cond.fieldLink "SilentSale$Seating" (32 : Nat) "SilentSale$Terms" "bidders" "I") ∈ tb_L := tb_in (i := 183) (by decide +kernel) (by decide +kernel)
theorem wd_433 : (Jvm.Cond.fieldLink "SilentSale$Seating" (25 : Nat) "SilentSale$Seating" "best" "[I") ∈ tb_L := tb_in (i := 433) (by decide +kernel) (by decide +kernel)
theorem wd_435 : (Jvm.Cond.fieldLink "SilentSale$Seating" (28 : Nat) "SilentSale$Seating" "gains" "I") ∈ tb_L := tb_in (i := 435) (by decide +kernel) (by decide +kernel)
theorem wd_1041 : (Jvm.Cond.code ({ cls := "SilentSale$Seating", name := "findSeats", desc := "(LSilentSale$Clerk;LSilentSale$Terms;LSilentSale$State;)V" } : Jvm.MethodName) prog_7_method_2_code (10 : Nat) (Option.none : Option Jvm.ClassFile.FieldType)) ∈ tb_L := tb_in (i := 1041) (by decide +kernel) (by decide +kernel)
theorem wd_1042 : (Jvm.Cond.methodLink "SilentSale$Seating" (37 : Nat) ({ cls := "SilentSale$State", name := "silentOnes", desc := "()I" } : Jvm.MethodName)) ∈ tb_L := tb_in (i := 1042) (by decide +kernel) (by decide +kernel)
theorem wd_1043 : (Jvm.Cond.methodLink "SilentSale$Seating" (44 : Nat) ({ cls := "java/lang/Integer", name := "bitCount", desc := "(I)I" } : Jvm.MethodName)) ∈ tb_L := tb_in (i := 1043) (by decide +kernel) (by decide +kernel)
theorem wd_1045 : (Jvm.Cond.static ({ cls := "SilentSale", name := "power", desc := "(II)I" } : Jvm.MethodName)) ∈ tb_L := tb_in (i := 1045) (by decide +kernel) (by decide +kernel)
theorem wd_1047 : (Jvm.Cond.methodLink "SilentSale$Seating" (54 : Nat) ({ cls := "SilentSale$Clerk", name := "mindsRooms", desc := "()Z" } : Jvm.MethodName)) ∈ tb_L := tb_in (i := 1047) (by decide +kernel) (by decide +kernel)
theorem wd_1048 : (Jvm.Cond.instanceMethod ({ cls := "SilentSale$Clerk", name := "mindsRooms", desc := "()Z" } : Jvm.MethodName)) ∈ tb_L := tb_in (i := 1048) (by decide +kernel) (by decide +kernel)
theorem wd_1049 : (Jvm.Cond.selects "SilentSale$Clerk" ({ cls := "SilentSale$Clerk", name := "mindsRooms", desc := "()Z" } : Jvm.MethodName) ({ cls := "SilentSale$Clerk", name := "mindsRooms", desc := "()Z" } : Jvm.MethodName)) ∈ tb_L := tb_in (i := 1049) (by decide +kernel) (by decide +kernel)
theorem wd_1055 : (Jvm.Cond.methodLink "SilentSale$Seating" (60 : Nat) ({ cls := "SilentSale$Seating", name := "workOutSets", desc := "(LSilentSale$Clerk;LSilentSale$Terms;LSilentSale$State;I)V" } : Jvm.MethodName)) ∈ tb_L := tb_in (i := 1055) (by decide +kernel) (by decide +kernel)
theorem wd_1057 : (Jvm.Cond.instanceMethod ({ cls := "SilentSale$Seating", name := "workOutSets", desc := "(LSilentSale$Clerk;LSilentSale$Terms;LSilentSale$State;I)V" } : Jvm.MethodName)) ∈ tb_L := tb_in (i := 1057) (by decide +kernel) (by decide +kernel)
theorem wd_1077 : (Jvm.Cond.constant "SilentSale$Seating" (64 : Nat) (-1000000 : Int32)) ∈ tb_L := tb_in (i := 1077) (by decide +kernel) (by decide +kernel)
theorem wd_1079 : (Jvm.Cond.static ({ cls := "SilentSale", name := "spread", desc := "(III[I)V" } : Jvm.MethodName)) ∈ tb_L := tb_in (i := 1079) (by decide +kernel) (by decide +kernel)
theorem wd_1082 : (Jvm.Cond.methodLink "SilentSale$Seating" (69 : Nat) ({ cls := "SilentSale$Seating", name := "canSit", desc := "(LSilentSale$State;)Z" } : Jvm.MethodName)) ∈ tb_L := tb_in (i := 1082) (by decide +kernel) (by decide +kernel)
theorem wd_1084 : (Jvm.Cond.instanceMethod ({ cls := "SilentSale$Seating", name := "canSit", desc := "(LSilentSale$State;)Z" } : Jvm.MethodName)) ∈ tb_L := tb_in (i := 1084) (by decide +kernel) (by decide +kernel)
theorem wd_1086 : (Jvm.Cond.methodLink "SilentSale$Seating" (73 : Nat) ({ cls := "SilentSale$Seating", name := "sumOfSets", desc := "(LSilentSale$Terms;LSilentSale$State;)I" } : Jvm.MethodName)) ∈ tb_L := tb_in (i := 1086) (by decide +kernel) (by decide +kernel)
theorem wd_1088 : (Jvm.Cond.instanceMethod ({ cls := "SilentSale$Seating", name := "sumOfSets", desc := "(LSilentSale$Terms;LSilentSale$State;)I" } : Jvm.MethodName)) ∈ tb_L := tb_in (i := 1088) (by decide +kernel) (by decide +kernel)
theorem wd_1090 : (Jvm.Cond.methodLink "SilentSale$Seating" (77 : Nat) ({ cls := "SilentSale$Seating", name := "courseGains", desc := "(LSilentSale$Clerk;LSilentSale$Terms;LSilentSale$State;)I" } : Jvm.MethodName)) ∈ tb_L := tb_in (i := 1090) (by decide +kernel) (by decide +kernel)
theorem wd_1092 : (Jvm.Cond.instanceMethod ({ cls := "SilentSale$Seating", name := "courseGains", desc := "(LSilentSale$Clerk;LSilentSale$Terms;LSilentSale$State;)I" } : Jvm.MethodName)) ∈ tb_L := tb_in (i := 1092) (by decide +kernel) (by decide +kernel)
theorem wd_1096 : (Jvm.Cond.methodLink "SilentSale$Seating" (81 : Nat) ({ cls := "java/lang/System", name := "arraycopy", desc := "(Ljava/lang/Object;ILjava/lang/Object;II)V" } : Jvm.MethodName)) ∈ tb_L := tb_in (i := 1096) (by decide +kernel) (by decide +kernel)
theorem dX5_findSeats_0 : decode cX5_findSeats 0 = .ok (.iconst 1, 1) := by decide +kernel
theorem dX5_findSeats_1 : decode cX5_findSeats 1 = .ok (.aload_n 2, 1) := by decide +kernel
theorem dX5_findSeats_2 : decode cX5_findSeats 2 = .ok (.getfield 32, 3) := by decide +kernel
theorem dX5_findSeats_5 : decode cX5_findSeats 5 = .ok (.ishl, 1) := by decide +kernel
theorem dX5_findSeats_6 : decode cX5_findSeats 6 = .ok (.iconst 1, 1) := by decide +kernel
theorem dX5_findSeats_7 : decode cX5_findSeats 7 = .ok (.isub, 1) := by decide +kernel
theorem dX5_findSeats_8 : decode cX5_findSeats 8 = .ok (.aload_n 3, 1) := by decide +kernel
theorem dX5_findSeats_9 : decode cX5_findSeats 9 = .ok (.invokevirtual 37, 3) := by decide +kernel
theorem dX5_findSeats_12 : decode cX5_findSeats 12 = .ok (.iconst (-1), 1) := by decide +kernel
theorem dX5_findSeats_13 : decode cX5_findSeats 13 = .ok (.ixor, 1) := by decide +kernel
theorem dX5_findSeats_14 : decode cX5_findSeats 14 = .ok (.iand, 1) := by decide +kernel
theorem dX5_findSeats_15 : decode cX5_findSeats 15 = .ok (.istore 4, 2) := by decide +kernel
theorem dX5_findSeats_17 : decode cX5_findSeats 17 = .ok (.aload_n 2, 1) := by decide +kernel
theorem dX5_findSeats_18 : decode cX5_findSeats 18 = .ok (.getfield 41, 3) := by decide +kernel
theorem dX5_findSeats_21 : decode cX5_findSeats 21 = .ok (.iconst 1, 1) := by decide +kernel
theorem dX5_findSeats_22 : decode cX5_findSeats 22 = .ok (.iadd, 1) := by decide +kernel
theorem dX5_findSeats_23 : decode cX5_findSeats 23 = .ok (.istore 5, 2) := by decide +kernel
theorem dX5_findSeats_25 : decode cX5_findSeats 25 = .ok (.iload 5, 2) := by decide +kernel
theorem dX5_findSeats_27 : decode cX5_findSeats 27 = .ok (.iload 4, 2) := by decide +kernel
theorem dX5_findSeats_29 : decode cX5_findSeats 29 = .ok (.invokestatic 44, 3) := by decide +kernel
theorem dX5_findSeats_32 : decode cX5_findSeats 32 = .ok (.invokestatic 50, 3) := by decide +kernel
theorem dX5_findSeats_35 : decode cX5_findSeats 35 = .ok (.istore 6, 2) := by decide +kernel
theorem dX5_findSeats_37 : decode cX5_findSeats 37 = .ok (.aload_n 1, 1) := by decide +kernel
theorem dX5_findSeats_38 : decode cX5_findSeats 38 = .ok (.invokevirtual 54, 3) := by decide +kernel
theorem dX5_findSeats_41 : decode cX5_findSeats 41 = .ok (.ifCond .ne 7, 3) := by decide +kernel
theorem dX5_findSeats_44 : decode cX5_findSeats 44 = .ok (.iconst 1, 1) := by decide +kernel
theorem dX5_findSeats_45 : decode cX5_findSeats 45 = .ok (.goto 4, 3) := by decide +kernel
theorem dX5_findSeats_48 : decode cX5_findSeats 48 = .ok (.iconst 0, 1) := by decide +kernel
theorem dX5_findSeats_49 : decode cX5_findSeats 49 = .ok (.istore 7, 2) := by decide +kernel
theorem dX5_findSeats_51 : decode cX5_findSeats 51 = .ok (.iload 7, 2) := by decide +kernel
theorem dX5_findSeats_53 : decode cX5_findSeats 53 = .ok (.ifCond .eq 12, 3) := by decide +kernel
theorem dX5_findSeats_56 : decode cX5_findSeats 56 = .ok (.aload_n 0, 1) := by decide +kernel
theorem dX5_findSeats_57 : decode cX5_findSeats 57 = .ok (.aload_n 1, 1) := by decide +kernel
theorem dX5_findSeats_58 : decode cX5_findSeats 58 = .ok (.aload_n 2, 1) := by decide +kernel
theorem dX5_findSeats_59 : decode cX5_findSeats 59 = .ok (.aload_n 3, 1) := by decide +kernel
theorem dX5_findSeats_60 : decode cX5_findSeats 60 = .ok (.iload 4, 2) := by decide +kernel
theorem dX5_findSeats_62 : decode cX5_findSeats 62 = .ok (.invokevirtual 60, 3) := by decide +kernel
theorem dX5_findSeats_65 : decode cX5_findSeats 65 = .ok (.aload_n 0, 1) := by decide +kernel
theorem dX5_findSeats_66 : decode cX5_findSeats 66 = .ok (.ldc 64, 2) := by decide +kernel
theorem dX5_findSeats_68 : decode cX5_findSeats 68 = .ok (.putfield 28, 3) := by decide +kernel
theorem dX5_findSeats_71 : decode cX5_findSeats 71 = .ok (.iconst 0, 1) := by decide +kernel
theorem dX5_findSeats_72 : decode cX5_findSeats 72 = .ok (.istore 8, 2) := by decide +kernel
theorem dX5_findSeats_74 : decode cX5_findSeats 74 = .ok (.iload 8, 2) := by decide +kernel
theorem dX5_findSeats_76 : decode cX5_findSeats 76 = .ok (.iload 6, 2) := by decide +kernel
theorem dX5_findSeats_78 : decode cX5_findSeats 78 = .ok (.if_icmp .ge 82, 3) := by decide +kernel
theorem dX5_findSeats_81 : decode cX5_findSeats 81 = .ok (.iload 8, 2) := by decide +kernel
theorem dX5_findSeats_83 : decode cX5_findSeats 83 = .ok (.iload 5, 2) := by decide +kernel
theorem dX5_findSeats_85 : decode cX5_findSeats 85 = .ok (.iload 4, 2) := by decide +kernel
theorem dX5_findSeats_87 : decode cX5_findSeats 87 = .ok (.aload_n 0, 1) := by decide +kernel
theorem dX5_findSeats_88 : decode cX5_findSeats 88 = .ok (.getfield 18, 3) := by decide +kernel
theorem dX5_findSeats_91 : decode cX5_findSeats 91 = .ok (.invokestatic 65, 3) := by decide +kernel
theorem dX5_findSeats_94 : decode cX5_findSeats 94 = .ok (.aload_n 0, 1) := by decide +kernel
theorem dX5_findSeats_95 : decode cX5_findSeats 95 = .ok (.aload_n 3, 1) := by decide +kernel
theorem dX5_findSeats_96 : decode cX5_findSeats 96 = .ok (.invokevirtual 69, 3) := by decide +kernel
theorem dX5_findSeats_99 : decode cX5_findSeats 99 = .ok (.ifCond .eq 55, 3) := by decide +kernel
theorem dX5_findSeats_102 : decode cX5_findSeats 102 = .ok (.iload 7, 2) := by decide +kernel
theorem dX5_findSeats_104 : decode cX5_findSeats 104 = .ok (.ifCond .eq 12, 3) := by decide +kernel
theorem dX5_findSeats_107 : decode cX5_findSeats 107 = .ok (.aload_n 0, 1) := by decide +kernel
theorem dX5_findSeats_108 : decode cX5_findSeats 108 = .ok (.aload_n 2, 1) := by decide +kernel
theorem dX5_findSeats_109 : decode cX5_findSeats 109 = .ok (.aload_n 3, 1) := by decide +kernel
theorem dX5_findSeats_110 : decode cX5_findSeats 110 = .ok (.invokevirtual 73, 3) := by decide +kernel
theorem dX5_findSeats_113 : decode cX5_findSeats 113 = .ok (.goto 10, 3) := by decide +kernel
theorem dX5_findSeats_116 : decode cX5_findSeats 116 = .ok (.aload_n 0, 1) := by decide +kernel
theorem dX5_findSeats_117 : decode cX5_findSeats 117 = .ok (.aload_n 1, 1) := by decide +kernel
theorem dX5_findSeats_118 : decode cX5_findSeats 118 = .ok (.aload_n 2, 1) := by decide +kernel
theorem dX5_findSeats_119 : decode cX5_findSeats 119 = .ok (.aload_n 3, 1) := by decide +kernel
theorem dX5_findSeats_120 : decode cX5_findSeats 120 = .ok (.invokevirtual 77, 3) := by decide +kernel
theorem dX5_findSeats_123 : decode cX5_findSeats 123 = .ok (.istore 9, 2) := by decide +kernel
theorem dX5_findSeats_125 : decode cX5_findSeats 125 = .ok (.iload 9, 2) := by decide +kernel
theorem dX5_findSeats_127 : decode cX5_findSeats 127 = .ok (.aload_n 0, 1) := by decide +kernel
theorem dX5_findSeats_128 : decode cX5_findSeats 128 = .ok (.getfield 28, 3) := by decide +kernel
theorem dX5_findSeats_131 : decode cX5_findSeats 131 = .ok (.if_icmp .le 23, 3) := by decide +kernel
theorem dX5_findSeats_134 : decode cX5_findSeats 134 = .ok (.aload_n 0, 1) := by decide +kernel
theorem dX5_findSeats_135 : decode cX5_findSeats 135 = .ok (.iload 9, 2) := by decide +kernel
theorem dX5_findSeats_137 : decode cX5_findSeats 137 = .ok (.putfield 28, 3) := by decide +kernel
theorem dX5_findSeats_140 : decode cX5_findSeats 140 = .ok (.aload_n 0, 1) := by decide +kernel
theorem dX5_findSeats_141 : decode cX5_findSeats 141 = .ok (.getfield 18, 3) := by decide +kernel
theorem dX5_findSeats_144 : decode cX5_findSeats 144 = .ok (.iconst 0, 1) := by decide +kernel
theorem dX5_findSeats_145 : decode cX5_findSeats 145 = .ok (.aload_n 0, 1) := by decide +kernel
theorem dX5_findSeats_146 : decode cX5_findSeats 146 = .ok (.getfield 25, 3) := by decide +kernel
theorem dX5_findSeats_149 : decode cX5_findSeats 149 = .ok (.iconst 0, 1) := by decide +kernel
theorem dX5_findSeats_150 : decode cX5_findSeats 150 = .ok (.iconst 5, 1) := by decide +kernel
theorem dX5_findSeats_151 : decode cX5_findSeats 151 = .ok (.invokestatic 81, 3) := by decide +kernel
theorem dX5_findSeats_154 : decode cX5_findSeats 154 = .ok (.iinc 8 1, 3) := by decide +kernel
theorem dX5_findSeats_157 : decode cX5_findSeats 157 = .ok (.goto (-83), 3) := by decide +kernel
theorem dX5_findSeats_160 : decode cX5_findSeats 160 = .ok (.return_, 1) := by decide +kernel
theorem wd_200 : (Jvm.Cond.fieldLink "SilentSale$Trickery" (71 : Nat) "SilentSale$Terms" "price" "[I") ∈ tb_L := tb_in (i := 200) (by decide +kernel) (by decide +kernel)
theorem wd_457 : (Jvm.Cond.fieldLink "SilentSale$Trickery" (18 : Nat) "SilentSale$Trickery" "row" "[I") ∈ tb_L := tb_in (i := 457) (by decide +kernel) (by decide +kernel)
theorem wd_1111 : (Jvm.Cond.code ({ cls := "SilentSale$Trickery", name := "rowCost", desc := "(LSilentSale$Terms;)I" } : Jvm.MethodName) prog_12_method_3_code (5 : Nat) (Option.some Jvm.ClassFile.FieldType.int)) ∈ tb_L := tb_in (i := 1111) (by decide +kernel) (by decide +kernel)
theorem dX10_rowCost_0 : decode cX10_rowCost 0 = .ok (.iconst 0, 1) := by decide +kernel
theorem dX10_rowCost_1 : decode cX10_rowCost 1 = .ok (.istore_n 2, 1) := by decide +kernel
theorem dX10_rowCost_2 : decode cX10_rowCost 2 = .ok (.iconst 0, 1) := by decide +kernel
theorem dX10_rowCost_3 : decode cX10_rowCost 3 = .ok (.istore_n 3, 1) := by decide +kernel
theorem dX10_rowCost_4 : decode cX10_rowCost 4 = .ok (.iload_n 3, 1) := by decide +kernel
theorem dX10_rowCost_5 : decode cX10_rowCost 5 = .ok (.iconst 5, 1) := by decide +kernel
theorem dX10_rowCost_6 : decode cX10_rowCost 6 = .ok (.if_icmp .ge 42, 3) := by decide +kernel
theorem dX10_rowCost_9 : decode cX10_rowCost 9 = .ok (.aload_n 0, 1) := by decide +kernel
theorem dX10_rowCost_10 : decode cX10_rowCost 10 = .ok (.getfield 18, 3) := by decide +kernel
theorem dX10_rowCost_13 : decode cX10_rowCost 13 = .ok (.iload_n 3, 1) := by decide +kernel
theorem dX10_rowCost_14 : decode cX10_rowCost 14 = .ok (.iaload, 1) := by decide +kernel
theorem dX10_rowCost_15 : decode cX10_rowCost 15 = .ok (.istore 4, 2) := by decide +kernel
theorem dX10_rowCost_17 : decode cX10_rowCost 17 = .ok (.iload_n 2, 1) := by decide +kernel
theorem dX10_rowCost_18 : decode cX10_rowCost 18 = .ok (.iload 4, 2) := by decide +kernel
theorem dX10_rowCost_20 : decode cX10_rowCost 20 = .ok (.ifCond .lt 19, 3) := by decide +kernel
theorem dX10_rowCost_23 : decode cX10_rowCost 23 = .ok (.iload 4, 2) := by decide +kernel
theorem dX10_rowCost_25 : decode cX10_rowCost 25 = .ok (.iconst 3, 1) := by decide +kernel
theorem dX10_rowCost_26 : decode cX10_rowCost 26 = .ok (.if_icmp .ge 13, 3) := by decide +kernel
theorem dX10_rowCost_29 : decode cX10_rowCost 29 = .ok (.aload_n 1, 1) := by decide +kernel
theorem dX10_rowCost_30 : decode cX10_rowCost 30 = .ok (.getfield 71, 3) := by decide +kernel
theorem dX10_rowCost_33 : decode cX10_rowCost 33 = .ok (.iload 4, 2) := by decide +kernel
theorem dX10_rowCost_35 : decode cX10_rowCost 35 = .ok (.iaload, 1) := by decide +kernel
theorem dX10_rowCost_36 : decode cX10_rowCost 36 = .ok (.goto 4, 3) := by decide +kernel
theorem dX10_rowCost_39 : decode cX10_rowCost 39 = .ok (.iconst 0, 1) := by decide +kernel
theorem dX10_rowCost_40 : decode cX10_rowCost 40 = .ok (.iadd, 1) := by decide +kernel
theorem dX10_rowCost_41 : decode cX10_rowCost 41 = .ok (.istore_n 2, 1) := by decide +kernel
theorem dX10_rowCost_42 : decode cX10_rowCost 42 = .ok (.iinc 3 1, 3) := by decide +kernel
theorem dX10_rowCost_45 : decode cX10_rowCost 45 = .ok (.goto (-41), 3) := by decide +kernel
theorem dX10_rowCost_48 : decode cX10_rowCost 48 = .ok (.iload_n 2, 1) := by decide +kernel
theorem dX10_rowCost_49 : decode cX10_rowCost 49 = .ok (.ireturn, 1) := by decide +kernel
theorem wd_456 : (Jvm.Cond.fieldLink "SilentSale$Trickery" (12 : Nat) "SilentSale$Trickery" "trial" "LSilentSale$State;") ∈ tb_L := tb_in (i := 456) (by decide +kernel) (by decide +kernel)
theorem wd_956 : (Jvm.Cond.instanceMethod ({ cls := "SilentSale$State", name := "canTrick", desc := "(IIILSilentSale$Terms;)Z" } : Jvm.MethodName)) ∈ tb_L := tb_in (i := 956) (by decide +kernel) (by decide +kernel)
theorem wd_957 : (Jvm.Cond.selects "SilentSale$State" ({ cls := "SilentSale$State", name := "canTrick", desc := "(IIILSilentSale$Terms;)Z" } : Jvm.MethodName) ({ cls := "SilentSale$State", name := "canTrick", desc := "(IIILSilentSale$Terms;)Z" } : Jvm.MethodName)) ∈ tb_L := tb_in (i := 957) (by decide +kernel) (by decide +kernel)
theorem wd_961 : (Jvm.Cond.instanceMethod ({ cls := "SilentSale$State", name := "trickNow", desc := "(IIILSilentSale$Terms;)V" } : Jvm.MethodName)) ∈ tb_L := tb_in (i := 961) (by decide +kernel) (by decide +kernel)
theorem wd_962 : (Jvm.Cond.selects "SilentSale$State" ({ cls := "SilentSale$State", name := "trickNow", desc := "(IIILSilentSale$Terms;)V" } : Jvm.MethodName) ({ cls := "SilentSale$State", name := "trickNow", desc := "(IIILSilentSale$Terms;)V" } : Jvm.MethodName)) ∈ tb_L := tb_in (i := 962) (by decide +kernel) (by decide +kernel)
theorem wd_1115 : (Jvm.Cond.code ({ cls := "SilentSale$Trickery", name := "playRow", desc := "(LSilentSale$Terms;LSilentSale$State;I)Z" } : Jvm.MethodName) prog_12_method_4_code (6 : Nat) (Option.some Jvm.ClassFile.FieldType.boolean)) ∈ tb_L := tb_in (i := 1115) (by decide +kernel) (by decide +kernel)
theorem wd_1116 : (Jvm.Cond.methodLink "SilentSale$Trickery" (74 : Nat) ({ cls := "SilentSale$State", name := "copyFrom", desc := "(LSilentSale$State;)V" } : Jvm.MethodName)) ∈ tb_L := tb_in (i := 1116) (by decide +kernel) (by decide +kernel)
theorem wd_1117 : (Jvm.Cond.methodLink "SilentSale$Trickery" (78 : Nat) ({ cls := "SilentSale$State", name := "canTrick", desc := "(IIILSilentSale$Terms;)Z" } : Jvm.MethodName)) ∈ tb_L := tb_in (i := 1117) (by decide +kernel) (by decide +kernel)
theorem wd_1118 : (Jvm.Cond.methodLink "SilentSale$Trickery" (82 : Nat) ({ cls := "SilentSale$State", name := "trickNow", desc := "(IIILSilentSale$Terms;)V" } : Jvm.MethodName)) ∈ tb_L := tb_in (i := 1118) (by decide +kernel) (by decide +kernel)
theorem dX10_playRow_0 : decode cX10_playRow 0 = .ok (.aload_n 0, 1) := by decide +kernel
theorem dX10_playRow_1 : decode cX10_playRow 1 = .ok (.getfield 12, 3) := by decide +kernel
theorem dX10_playRow_4 : decode cX10_playRow 4 = .ok (.aload_n 2, 1) := by decide +kernel
theorem dX10_playRow_5 : decode cX10_playRow 5 = .ok (.invokevirtual 74, 3) := by decide +kernel
theorem dX10_playRow_8 : decode cX10_playRow 8 = .ok (.iconst 0, 1) := by decide +kernel
theorem dX10_playRow_9 : decode cX10_playRow 9 = .ok (.istore 4, 2) := by decide +kernel
theorem dX10_playRow_11 : decode cX10_playRow 11 = .ok (.iload 4, 2) := by decide +kernel
theorem dX10_playRow_13 : decode cX10_playRow 13 = .ok (.iconst 5, 1) := by decide +kernel
theorem dX10_playRow_14 : decode cX10_playRow 14 = .ok (.if_icmp .ge 60, 3) := by decide +kernel
theorem dX10_playRow_17 : decode cX10_playRow 17 = .ok (.aload_n 0, 1) := by decide +kernel
theorem dX10_playRow_18 : decode cX10_playRow 18 = .ok (.getfield 18, 3) := by decide +kernel
theorem dX10_playRow_21 : decode cX10_playRow 21 = .ok (.iload 4, 2) := by decide +kernel
theorem dX10_playRow_23 : decode cX10_playRow 23 = .ok (.iaload, 1) := by decide +kernel
theorem dX10_playRow_24 : decode cX10_playRow 24 = .ok (.istore 5, 2) := by decide +kernel
theorem dX10_playRow_26 : decode cX10_playRow 26 = .ok (.iload 5, 2) := by decide +kernel
theorem dX10_playRow_28 : decode cX10_playRow 28 = .ok (.ifCond .lt 40, 3) := by decide +kernel
theorem dX10_playRow_31 : decode cX10_playRow 31 = .ok (.iload 5, 2) := by decide +kernel
theorem dX10_playRow_33 : decode cX10_playRow 33 = .ok (.iconst 3, 1) := by decide +kernel
theorem dX10_playRow_34 : decode cX10_playRow 34 = .ok (.if_icmp .ge 34, 3) := by decide +kernel
theorem dX10_playRow_37 : decode cX10_playRow 37 = .ok (.aload_n 0, 1) := by decide +kernel
theorem dX10_playRow_38 : decode cX10_playRow 38 = .ok (.getfield 12, 3) := by decide +kernel
theorem dX10_playRow_41 : decode cX10_playRow 41 = .ok (.iload_n 3, 1) := by decide +kernel
theorem dX10_playRow_42 : decode cX10_playRow 42 = .ok (.iload 4, 2) := by decide +kernel
theorem dX10_playRow_44 : decode cX10_playRow 44 = .ok (.iload 5, 2) := by decide +kernel
theorem dX10_playRow_46 : decode cX10_playRow 46 = .ok (.aload_n 1, 1) := by decide +kernel
theorem dX10_playRow_47 : decode cX10_playRow 47 = .ok (.invokevirtual 78, 3) := by decide +kernel
theorem dX10_playRow_50 : decode cX10_playRow 50 = .ok (.ifCond .ne 5, 3) := by decide +kernel
theorem dX10_playRow_53 : decode cX10_playRow 53 = .ok (.iconst 0, 1) := by decide +kernel
theorem dX10_playRow_54 : decode cX10_playRow 54 = .ok (.ireturn, 1) := by decide +kernel
theorem dX10_playRow_55 : decode cX10_playRow 55 = .ok (.aload_n 0, 1) := by decide +kernel
theorem dX10_playRow_56 : decode cX10_playRow 56 = .ok (.getfield 12, 3) := by decide +kernel
theorem dX10_playRow_59 : decode cX10_playRow 59 = .ok (.iload_n 3, 1) := by decide +kernel
theorem dX10_playRow_60 : decode cX10_playRow 60 = .ok (.iload 4, 2) := by decide +kernel
theorem dX10_playRow_62 : decode cX10_playRow 62 = .ok (.iload 5, 2) := by decide +kernel
theorem dX10_playRow_64 : decode cX10_playRow 64 = .ok (.aload_n 1, 1) := by decide +kernel
theorem dX10_playRow_65 : decode cX10_playRow 65 = .ok (.invokevirtual 82, 3) := by decide +kernel
theorem dX10_playRow_68 : decode cX10_playRow 68 = .ok (.iinc 4 1, 3) := by decide +kernel
theorem dX10_playRow_71 : decode cX10_playRow 71 = .ok (.goto (-60), 3) := by decide +kernel
theorem dX10_playRow_74 : decode cX10_playRow 74 = .ok (.iconst 1, 1) := by decide +kernel
theorem dX10_playRow_75 : decode cX10_playRow 75 = .ok (.ireturn, 1) := by decide +kernel
theorem wd_31 : (Jvm.Cond.selects "SilentSale$Trickery" ({ cls := "SilentSale$Trickery", name := "rowCost", desc := "(LSilentSale$Terms;)I" } : Jvm.MethodName) ({ cls := "SilentSale$Trickery", name := "rowCost", desc := "(LSilentSale$Terms;)I" } : Jvm.MethodName)) ∈ tb_L := tb_in (i := 31) (by decide +kernel) (by decide +kernel)
theorem wd_32 : (Jvm.Cond.selects "SilentSale$Trickery" ({ cls := "SilentSale$Trickery", name := "playRow", desc := "(LSilentSale$Terms;LSilentSale$State;I)Z" } : Jvm.MethodName) ({ cls := "SilentSale$Trickery", name := "playRow", desc := "(LSilentSale$Terms;LSilentSale$State;I)Z" } : Jvm.MethodName)) ∈ tb_L := tb_in (i := 32) (by decide +kernel) (by decide +kernel)
theorem wd_132 : (Jvm.Cond.initialized "SilentSale$Trickery") ∈ tb_L := tb_in (i := 132) (by decide +kernel) (by decide +kernel)
theorem wd_192 : (Jvm.Cond.fieldLink "SilentSale$Trickery" (32 : Nat) "SilentSale$Terms" "tricks" "I") ∈ tb_L := tb_in (i := 192) (by decide +kernel) (by decide +kernel)
theorem wd_262 : (Jvm.Cond.fieldLink "SilentSale$Trickery" (29 : Nat) "SilentSale$State" "silentAt" "[I") ∈ tb_L := tb_in (i := 262) (by decide +kernel) (by decide +kernel)
theorem wd_458 : (Jvm.Cond.fieldLink "SilentSale$Trickery" (22 : Nat) "SilentSale$Trickery" "best" "[I") ∈ tb_L := tb_in (i := 458) (by decide +kernel) (by decide +kernel)
theorem wd_460 : (Jvm.Cond.fieldLink "SilentSale$Trickery" (25 : Nat) "SilentSale$Trickery" "coins" "I") ∈ tb_L := tb_in (i := 460) (by decide +kernel) (by decide +kernel)
theorem wd_1104 : (Jvm.Cond.code ({ cls := "SilentSale$Trickery", name := "findTricks", desc := "(LSilentSale$Clerk;LSilentSale$Terms;LSilentSale$State;II)V" } : Jvm.MethodName) prog_12_method_2_code (11 : Nat) (Option.none : Option Jvm.ClassFile.FieldType)) ∈ tb_L := tb_in (i := 1104) (by decide +kernel) (by decide +kernel)
theorem wd_1105 : (Jvm.Cond.methodLink "SilentSale$Trickery" (37 : Nat) ({ cls := "java/lang/Integer", name := "bitCount", desc := "(I)I" } : Jvm.MethodName)) ∈ tb_L := tb_in (i := 1105) (by decide +kernel) (by decide +kernel)
theorem wd_1108 : (Jvm.Cond.methodLink "SilentSale$Trickery" (51 : Nat) ({ cls := "SilentSale$Trickery", name := "rowCost", desc := "(LSilentSale$Terms;)I" } : Jvm.MethodName)) ∈ tb_L := tb_in (i := 1108) (by decide +kernel) (by decide +kernel)
theorem wd_1110 : (Jvm.Cond.instanceMethod ({ cls := "SilentSale$Trickery", name := "rowCost", desc := "(LSilentSale$Terms;)I" } : Jvm.MethodName)) ∈ tb_L := tb_in (i := 1110) (by decide +kernel) (by decide +kernel)
theorem wd_1112 : (Jvm.Cond.methodLink "SilentSale$Trickery" (55 : Nat) ({ cls := "SilentSale$Trickery", name := "playRow", desc := "(LSilentSale$Terms;LSilentSale$State;I)Z" } : Jvm.MethodName)) ∈ tb_L := tb_in (i := 1112) (by decide +kernel) (by decide +kernel)
theorem wd_1114 : (Jvm.Cond.instanceMethod ({ cls := "SilentSale$Trickery", name := "playRow", desc := "(LSilentSale$Terms;LSilentSale$State;I)Z" } : Jvm.MethodName)) ∈ tb_L := tb_in (i := 1114) (by decide +kernel) (by decide +kernel)
theorem wd_1119 : (Jvm.Cond.methodLink "SilentSale$Trickery" (59 : Nat) ({ cls := "SilentSale$Clerk", name := "passTillDecided", desc := "(LSilentSale$State;II)Z" } : Jvm.MethodName)) ∈ tb_L := tb_in (i := 1119) (by decide +kernel) (by decide +kernel)
theorem wd_1120 : (Jvm.Cond.instanceMethod ({ cls := "SilentSale$Clerk", name := "passTillDecided", desc := "(LSilentSale$State;II)Z" } : Jvm.MethodName)) ∈ tb_L := tb_in (i := 1120) (by decide +kernel) (by decide +kernel)
theorem wd_1121 : (Jvm.Cond.selects "SilentSale$Clerk" ({ cls := "SilentSale$Clerk", name := "passTillDecided", desc := "(LSilentSale$State;II)Z" } : Jvm.MethodName) ({ cls := "SilentSale$Clerk", name := "passTillDecided", desc := "(LSilentSale$State;II)Z" } : Jvm.MethodName)) ∈ tb_L := tb_in (i := 1121) (by decide +kernel) (by decide +kernel)
theorem wd_1123 : (Jvm.Cond.methodLink "SilentSale$Trickery" (65 : Nat) ({ cls := "java/lang/System", name := "arraycopy", desc := "(Ljava/lang/Object;ILjava/lang/Object;II)V" } : Jvm.MethodName)) ∈ tb_L := tb_in (i := 1123) (by decide +kernel) (by decide +kernel)
theorem dX10_findTricks_0 : decode cX10_findTricks 0 = .ok (.aload_n 0, 1) := by decide +kernel
theorem dX10_findTricks_1 : decode cX10_findTricks 1 = .ok (.iconst (-1), 1) := by decide +kernel
theorem dX10_findTricks_2 : decode cX10_findTricks 2 = .ok (.putfield 25, 3) := by decide +kernel
theorem dX10_findTricks_5 : decode cX10_findTricks 5 = .ok (.aload_n 3, 1) := by decide +kernel
theorem dX10_findTricks_6 : decode cX10_findTricks 6 = .ok (.getfield 29, 3) := by decide +kernel
theorem dX10_findTricks_9 : decode cX10_findTricks 9 = .ok (.iload 5, 2) := by decide +kernel
theorem dX10_findTricks_11 : decode cX10_findTricks 11 = .ok (.iaload, 1) := by decide +kernel
theorem dX10_findTricks_12 : decode cX10_findTricks 12 = .ok (.iconst 1, 1) := by decide +kernel
theorem dX10_findTricks_13 : decode cX10_findTricks 13 = .ok (.iload 4, 2) := by decide +kernel
theorem dX10_findTricks_15 : decode cX10_findTricks 15 = .ok (.ishl, 1) := by decide +kernel
theorem dX10_findTricks_16 : decode cX10_findTricks 16 = .ok (.iconst (-1), 1) := by decide +kernel
theorem dX10_findTricks_17 : decode cX10_findTricks 17 = .ok (.ixor, 1) := by decide +kernel
theorem dX10_findTricks_18 : decode cX10_findTricks 18 = .ok (.iand, 1) := by decide +kernel
theorem dX10_findTricks_19 : decode cX10_findTricks 19 = .ok (.istore 6, 2) := by decide +kernel
theorem dX10_findTricks_21 : decode cX10_findTricks 21 = .ok (.aload_n 2, 1) := by decide +kernel
theorem dX10_findTricks_22 : decode cX10_findTricks 22 = .ok (.getfield 32, 3) := by decide +kernel
theorem dX10_findTricks_25 : decode cX10_findTricks 25 = .ok (.iconst 1, 1) := by decide +kernel
theorem dX10_findTricks_26 : decode cX10_findTricks 26 = .ok (.iadd, 1) := by decide +kernel
theorem dX10_findTricks_27 : decode cX10_findTricks 27 = .ok (.istore 7, 2) := by decide +kernel
theorem dX10_findTricks_29 : decode cX10_findTricks 29 = .ok (.iload 7, 2) := by decide +kernel
theorem dX10_findTricks_31 : decode cX10_findTricks 31 = .ok (.iload 6, 2) := by decide +kernel
theorem dX10_findTricks_33 : decode cX10_findTricks 33 = .ok (.invokestatic 37, 3) := by decide +kernel
theorem dX10_findTricks_36 : decode cX10_findTricks 36 = .ok (.invokestatic 43, 3) := by decide +kernel
theorem dX10_findTricks_39 : decode cX10_findTricks 39 = .ok (.istore 8, 2) := by decide +kernel
theorem dX10_findTricks_41 : decode cX10_findTricks 41 = .ok (.iconst 0, 1) := by decide +kernel
theorem dX10_findTricks_42 : decode cX10_findTricks 42 = .ok (.istore 9, 2) := by decide +kernel
theorem dX10_findTricks_44 : decode cX10_findTricks 44 = .ok (.iload 9, 2) := by decide +kernel
theorem dX10_findTricks_46 : decode cX10_findTricks 46 = .ok (.iload 8, 2) := by decide +kernel
theorem dX10_findTricks_48 : decode cX10_findTricks 48 = .ok (.if_icmp .ge 92, 3) := by decide +kernel
theorem dX10_findTricks_51 : decode cX10_findTricks 51 = .ok (.iload 9, 2) := by decide +kernel
theorem dX10_findTricks_53 : decode cX10_findTricks 53 = .ok (.iload 7, 2) := by decide +kernel
theorem dX10_findTricks_55 : decode cX10_findTricks 55 = .ok (.iload 6, 2) := by decide +kernel
theorem dX10_findTricks_57 : decode cX10_findTricks 57 = .ok (.aload_n 0, 1) := by decide +kernel
theorem dX10_findTricks_58 : decode cX10_findTricks 58 = .ok (.getfield 18, 3) := by decide +kernel
theorem dX10_findTricks_61 : decode cX10_findTricks 61 = .ok (.invokestatic 47, 3) := by decide +kernel
theorem dX10_findTricks_64 : decode cX10_findTricks 64 = .ok (.aload_n 0, 1) := by decide +kernel
theorem dX10_findTricks_65 : decode cX10_findTricks 65 = .ok (.aload_n 2, 1) := by decide +kernel
theorem dX10_findTricks_66 : decode cX10_findTricks 66 = .ok (.invokevirtual 51, 3) := by decide +kernel
theorem dX10_findTricks_69 : decode cX10_findTricks 69 = .ok (.istore 10, 2) := by decide +kernel
theorem dX10_findTricks_71 : decode cX10_findTricks 71 = .ok (.aload_n 0, 1) := by decide +kernel
theorem dX10_findTricks_72 : decode cX10_findTricks 72 = .ok (.getfield 25, 3) := by decide +kernel
theorem dX10_findTricks_75 : decode cX10_findTricks 75 = .ok (.iconst (-1), 1) := by decide +kernel
theorem dX10_findTricks_76 : decode cX10_findTricks 76 = .ok (.if_icmp .eq 12, 3) := by decide +kernel
theorem dX10_findTricks_79 : decode cX10_findTricks 79 = .ok (.iload 10, 2) := by decide +kernel
theorem dX10_findTricks_81 : decode cX10_findTricks 81 = .ok (.aload_n 0, 1) := by decide +kernel
theorem dX10_findTricks_82 : decode cX10_findTricks 82 = .ok (.getfield 25, 3) := by decide +kernel
theorem dX10_findTricks_85 : decode cX10_findTricks 85 = .ok (.if_icmp .ge 49, 3) := by decide +kernel
theorem dX10_findTricks_88 : decode cX10_findTricks 88 = .ok (.aload_n 0, 1) := by decide +kernel
theorem dX10_findTricks_89 : decode cX10_findTricks 89 = .ok (.aload_n 2, 1) := by decide +kernel
theorem dX10_findTricks_90 : decode cX10_findTricks 90 = .ok (.aload_n 3, 1) := by decide +kernel
theorem dX10_findTricks_91 : decode cX10_findTricks 91 = .ok (.iload 4, 2) := by decide +kernel
theorem dX10_findTricks_93 : decode cX10_findTricks 93 = .ok (.invokevirtual 55, 3) := by decide +kernel
theorem dX10_findTricks_96 : decode cX10_findTricks 96 = .ok (.ifCond .eq 38, 3) := by decide +kernel
theorem dX10_findTricks_99 : decode cX10_findTricks 99 = .ok (.aload_n 1, 1) := by decide +kernel
theorem dX10_findTricks_100 : decode cX10_findTricks 100 = .ok (.aload_n 0, 1) := by decide +kernel
theorem dX10_findTricks_101 : decode cX10_findTricks 101 = .ok (.getfield 12, 3) := by decide +kernel
theorem dX10_findTricks_104 : decode cX10_findTricks 104 = .ok (.iload 5, 2) := by decide +kernel
theorem dX10_findTricks_106 : decode cX10_findTricks 106 = .ok (.iload 4, 2) := by decide +kernel
theorem dX10_findTricks_108 : decode cX10_findTricks 108 = .ok (.invokevirtual 59, 3) := by decide +kernel
theorem dX10_findTricks_111 : decode cX10_findTricks 111 = .ok (.ifCond .eq 23, 3) := by decide +kernel
theorem dX10_findTricks_114 : decode cX10_findTricks 114 = .ok (.aload_n 0, 1) := by decide +kernel
theorem dX10_findTricks_115 : decode cX10_findTricks 115 = .ok (.iload 10, 2) := by decide +kernel
theorem dX10_findTricks_117 : decode cX10_findTricks 117 = .ok (.putfield 25, 3) := by decide +kernel
theorem dX10_findTricks_120 : decode cX10_findTricks 120 = .ok (.aload_n 0, 1) := by decide +kernel
theorem dX10_findTricks_121 : decode cX10_findTricks 121 = .ok (.getfield 18, 3) := by decide +kernel
theorem dX10_findTricks_124 : decode cX10_findTricks 124 = .ok (.iconst 0, 1) := by decide +kernel
theorem dX10_findTricks_125 : decode cX10_findTricks 125 = .ok (.aload_n 0, 1) := by decide +kernel
theorem dX10_findTricks_126 : decode cX10_findTricks 126 = .ok (.getfield 22, 3) := by decide +kernel
theorem dX10_findTricks_129 : decode cX10_findTricks 129 = .ok (.iconst 0, 1) := by decide +kernel
theorem dX10_findTricks_130 : decode cX10_findTricks 130 = .ok (.iconst 5, 1) := by decide +kernel
theorem dX10_findTricks_131 : decode cX10_findTricks 131 = .ok (.invokestatic 65, 3) := by decide +kernel
theorem dX10_findTricks_134 : decode cX10_findTricks 134 = .ok (.iinc 9 1, 3) := by decide +kernel
theorem dX10_findTricks_137 : decode cX10_findTricks 137 = .ok (.goto (-93), 3) := by decide +kernel
theorem dX10_findTricks_140 : decode cX10_findTricks 140 = .ok (.return_, 1) := by decide +kernel
theorem wd_184 : (Jvm.Cond.fieldLink "SilentSale$Sleuth" (64 : Nat) "SilentSale$Terms" "bidders" "I") ∈ tb_L := tb_in (i := 184) (by decide +kernel) (by decide +kernel)
theorem wd_240 : (Jvm.Cond.fieldLink "SilentSale$Sleuth" (67 : Nat) "SilentSale$State" "seat" "[I") ∈ tb_L := tb_in (i := 240) (by decide +kernel) (by decide +kernel)
theorem wd_479 : (Jvm.Cond.fieldLink "SilentSale$Sleuth" (12 : Nat) "SilentSale$Sleuth" "trial" "LSilentSale$State;") ∈ tb_L := tb_in (i := 479) (by decide +kernel) (by decide +kernel)
theorem wd_494 : (Jvm.Cond.instanceMethod ({ cls := "SilentSale$State", name := "open", desc := "(LSilentSale$Terms;)V" } : Jvm.MethodName)) ∈ tb_L := tb_in (i := 494) (by decide +kernel) (by decide +kernel)
theorem wd_495 : (Jvm.Cond.selects "SilentSale$State" ({ cls := "SilentSale$State", name := "open", desc := "(LSilentSale$Terms;)V" } : Jvm.MethodName) ({ cls := "SilentSale$State", name := "open", desc := "(LSilentSale$Terms;)V" } : Jvm.MethodName)) ∈ tb_L := tb_in (i := 495) (by decide +kernel) (by decide +kernel)
theorem wd_1170 : (Jvm.Cond.code ({ cls := "SilentSale$Sleuth", name := "seatAllBy", desc := "(ILSilentSale$Terms;)V" } : Jvm.MethodName) prog_8_method_3_code (4 : Nat) (Option.none : Option Jvm.ClassFile.FieldType)) ∈ tb_L := tb_in (i := 1170) (by decide +kernel) (by decide +kernel)
theorem wd_1171 : (Jvm.Cond.methodLink "SilentSale$Sleuth" (60 : Nat) ({ cls := "SilentSale$State", name := "open", desc := "(LSilentSale$Terms;)V" } : Jvm.MethodName)) ∈ tb_L := tb_in (i := 1171) (by decide +kernel) (by decide +kernel)
theorem wd_1172 : (Jvm.Cond.methodLink "SilentSale$Sleuth" (70 : Nat) ({ cls := "SilentSale$State", name := "begin", desc := "(I)I" } : Jvm.MethodName)) ∈ tb_L := tb_in (i := 1172) (by decide +kernel) (by decide +kernel)
theorem dX6_seatAllBy_0 : decode cX6_seatAllBy 0 = .ok (.aload_n 0, 1) := by decide +kernel
theorem dX6_seatAllBy_1 : decode cX6_seatAllBy 1 = .ok (.getfield 12, 3) := by decide +kernel
theorem dX6_seatAllBy_4 : decode cX6_seatAllBy 4 = .ok (.aload_n 2, 1) := by decide +kernel
theorem dX6_seatAllBy_5 : decode cX6_seatAllBy 5 = .ok (.invokevirtual 60, 3) := by decide +kernel
theorem dX6_seatAllBy_8 : decode cX6_seatAllBy 8 = .ok (.iconst 0, 1) := by decide +kernel
theorem dX6_seatAllBy_9 : decode cX6_seatAllBy 9 = .ok (.istore_n 3, 1) := by decide +kernel
theorem dX6_seatAllBy_10 : decode cX6_seatAllBy 10 = .ok (.iload_n 3, 1) := by decide +kernel
theorem dX6_seatAllBy_11 : decode cX6_seatAllBy 11 = .ok (.aload_n 2, 1) := by decide +kernel
theorem dX6_seatAllBy_12 : decode cX6_seatAllBy 12 = .ok (.getfield 64, 3) := by decide +kernel
theorem dX6_seatAllBy_15 : decode cX6_seatAllBy 15 = .ok (.if_icmp .ge 19, 3) := by decide +kernel
theorem dX6_seatAllBy_18 : decode cX6_seatAllBy 18 = .ok (.aload_n 0, 1) := by decide +kernel
theorem dX6_seatAllBy_19 : decode cX6_seatAllBy 19 = .ok (.getfield 12, 3) := by decide +kernel
theorem dX6_seatAllBy_22 : decode cX6_seatAllBy 22 = .ok (.getfield 67, 3) := by decide +kernel
theorem dX6_seatAllBy_25 : decode cX6_seatAllBy 25 = .ok (.iload_n 3, 1) := by decide +kernel
theorem dX6_seatAllBy_26 : decode cX6_seatAllBy 26 = .ok (.iload_n 1, 1) := by decide +kernel
theorem dX6_seatAllBy_27 : decode cX6_seatAllBy 27 = .ok (.iastore, 1) := by decide +kernel
theorem dX6_seatAllBy_28 : decode cX6_seatAllBy 28 = .ok (.iinc 3 1, 3) := by decide +kernel
theorem dX6_seatAllBy_31 : decode cX6_seatAllBy 31 = .ok (.goto (-21), 3) := by decide +kernel
theorem dX6_seatAllBy_34 : decode cX6_seatAllBy 34 = .ok (.aload_n 2, 1) := by decide +kernel
theorem dX6_seatAllBy_35 : decode cX6_seatAllBy 35 = .ok (.getfield 64, 3) := by decide +kernel
theorem dX6_seatAllBy_38 : decode cX6_seatAllBy 38 = .ok (.ifCond .le 12, 3) := by decide +kernel
theorem dX6_seatAllBy_41 : decode cX6_seatAllBy 41 = .ok (.aload_n 0, 1) := by decide +kernel
theorem dX6_seatAllBy_42 : decode cX6_seatAllBy 42 = .ok (.getfield 12, 3) := by decide +kernel
theorem dX6_seatAllBy_45 : decode cX6_seatAllBy 45 = .ok (.iload_n 1, 1) := by decide +kernel
theorem dX6_seatAllBy_46 : decode cX6_seatAllBy 46 = .ok (.invokevirtual 70, 3) := by decide +kernel
theorem dX6_seatAllBy_49 : decode cX6_seatAllBy 49 = .ok (.pop, 1) := by decide +kernel
theorem dX6_seatAllBy_50 : decode cX6_seatAllBy 50 = .ok (.return_, 1) := by decide +kernel
theorem wd_36 : (Jvm.Cond.selects "SilentSale$Sleuth" ({ cls := "SilentSale$Sleuth", name := "seatAllBy", desc := "(ILSilentSale$Terms;)V" } : Jvm.MethodName) ({ cls := "SilentSale$Sleuth", name := "seatAllBy", desc := "(ILSilentSale$Terms;)V" } : Jvm.MethodName)) ∈ tb_L := tb_in (i := 36) (by decide +kernel) (by decide +kernel)
theorem wd_127 : (Jvm.Cond.initialized "SilentSale$Logs") ∈ tb_L := tb_in (i := 127) (by decide +kernel) (by decide +kernel)
theorem wd_133 : (Jvm.Cond.initialized "SilentSale$Sleuth") ∈ tb_L := tb_in (i := 133) (by decide +kernel) (by decide +kernel)
theorem wd_189 : (Jvm.Cond.fieldLink "SilentSale$Sleuth" (35 : Nat) "SilentSale$Terms" "lots" "I") ∈ tb_L := tb_in (i := 189) (by decide +kernel) (by decide +kernel)
theorem wd_255 : (Jvm.Cond.fieldLink "SilentSale$Sleuth" (48 : Nat) "SilentSale$State" "owner" "[I") ∈ tb_L := tb_in (i := 255) (by decide +kernel) (by decide +kernel)
theorem wd_259 : (Jvm.Cond.fieldLink "SilentSale$Sleuth" (51 : Nat) "SilentSale$State" "paid" "[I") ∈ tb_L := tb_in (i := 259) (by decide +kernel) (by decide +kernel)
theorem wd_480 : (Jvm.Cond.fieldLink "SilentSale$Sleuth" (18 : Nat) "SilentSale$Sleuth" "who" "[I") ∈ tb_L := tb_in (i := 480) (by decide +kernel) (by decide +kernel)
theorem wd_481 : (Jvm.Cond.fieldLink "SilentSale$Sleuth" (22 : Nat) "SilentSale$Sleuth" "coins" "[I") ∈ tb_L := tb_in (i := 481) (by decide +kernel) (by decide +kernel)
theorem wd_482 : (Jvm.Cond.fieldLink "SilentSale$Sleuth" (25 : Nat) "SilentSale$Sleuth" "fitting" "I") ∈ tb_L := tb_in (i := 482) (by decide +kernel) (by decide +kernel)
theorem wd_873 : (Jvm.Cond.instanceMethod ({ cls := "SilentSale$Clerk", name := "serve", desc := "(LSilentSale$Terms;LSilentSale$Rule;)V" } : Jvm.MethodName)) ∈ tb_L := tb_in (i := 873) (by decide +kernel) (by decide +kernel)
theorem wd_874 : (Jvm.Cond.selects "SilentSale$Clerk" ({ cls := "SilentSale$Clerk", name := "serve", desc := "(LSilentSale$Terms;LSilentSale$Rule;)V" } : Jvm.MethodName) ({ cls := "SilentSale$Clerk", name := "serve", desc := "(LSilentSale$Terms;LSilentSale$Rule;)V" } : Jvm.MethodName)) ∈ tb_L := tb_in (i := 874) (by decide +kernel) (by decide +kernel)
theorem wd_1004 : (Jvm.Cond.instanceMethod ({ cls := "SilentSale$Clerk", name := "passTillOver", desc := "(LSilentSale$State;I)V" } : Jvm.MethodName)) ∈ tb_L := tb_in (i := 1004) (by decide +kernel) (by decide +kernel)
theorem wd_1005 : (Jvm.Cond.selects "SilentSale$Clerk" ({ cls := "SilentSale$Clerk", name := "passTillOver", desc := "(LSilentSale$State;I)V" } : Jvm.MethodName) ({ cls := "SilentSale$Clerk", name := "passTillOver", desc := "(LSilentSale$State;I)V" } : Jvm.MethodName)) ∈ tb_L := tb_in (i := 1005) (by decide +kernel) (by decide +kernel)
theorem wd_1165 : (Jvm.Cond.code ({ cls := "SilentSale$Sleuth", name := "findRules", desc := "(LSilentSale$Clerk;LSilentSale$Terms;[LSilentSale$Rule;ILSilentSale$Logs;)V" } : Jvm.MethodName) prog_8_method_2_code (10 : Nat) (Option.none : Option Jvm.ClassFile.FieldType)) ∈ tb_L := tb_in (i := 1165) (by decide +kernel) (by decide +kernel)
theorem wd_1166 : (Jvm.Cond.methodLink "SilentSale$Sleuth" (29 : Nat) ({ cls := "SilentSale$Clerk", name := "serve", desc := "(LSilentSale$Terms;LSilentSale$Rule;)V" } : Jvm.MethodName)) ∈ tb_L := tb_in (i := 1166) (by decide +kernel) (by decide +kernel)
theorem wd_1167 : (Jvm.Cond.methodLink "SilentSale$Sleuth" (40 : Nat) ({ cls := "SilentSale$Sleuth", name := "seatAllBy", desc := "(ILSilentSale$Terms;)V" } : Jvm.MethodName)) ∈ tb_L := tb_in (i := 1167) (by decide +kernel) (by decide +kernel)
theorem wd_1169 : (Jvm.Cond.instanceMethod ({ cls := "SilentSale$Sleuth", name := "seatAllBy", desc := "(ILSilentSale$Terms;)V" } : Jvm.MethodName)) ∈ tb_L := tb_in (i := 1169) (by decide +kernel) (by decide +kernel)
theorem wd_1173 : (Jvm.Cond.methodLink "SilentSale$Sleuth" (44 : Nat) ({ cls := "SilentSale$Clerk", name := "passTillOver", desc := "(LSilentSale$State;I)V" } : Jvm.MethodName)) ∈ tb_L := tb_in (i := 1173) (by decide +kernel) (by decide +kernel)
theorem wd_1174 : (Jvm.Cond.methodLink "SilentSale$Sleuth" (54 : Nat) ({ cls := "SilentSale$Logs", name := "agree", desc := "(III)Z" } : Jvm.MethodName)) ∈ tb_L := tb_in (i := 1174) (by decide +kernel) (by decide +kernel)
theorem wd_1175 : (Jvm.Cond.instanceMethod ({ cls := "SilentSale$Logs", name := "agree", desc := "(III)Z" } : Jvm.MethodName)) ∈ tb_L := tb_in (i := 1175) (by decide +kernel) (by decide +kernel)
theorem wd_1176 : (Jvm.Cond.selects "SilentSale$Logs" ({ cls := "SilentSale$Logs", name := "agree", desc := "(III)Z" } : Jvm.MethodName) ({ cls := "SilentSale$Logs", name := "agree", desc := "(III)Z" } : Jvm.MethodName)) ∈ tb_L := tb_in (i := 1176) (by decide +kernel) (by decide +kernel)
theorem dX6_findRules_0 : decode cX6_findRules 0 = .ok (.aload_n 0, 1) := by decide +kernel
theorem dX6_findRules_1 : decode cX6_findRules 1 = .ok (.iconst 0, 1) := by decide +kernel
theorem dX6_findRules_2 : decode cX6_findRules 2 = .ok (.putfield 25, 3) := by decide +kernel
theorem dX6_findRules_5 : decode cX6_findRules 5 = .ok (.iconst 0, 1) := by decide +kernel
theorem dX6_findRules_6 : decode cX6_findRules 6 = .ok (.istore 6, 2) := by decide +kernel
theorem dX6_findRules_8 : decode cX6_findRules 8 = .ok (.iload 6, 2) := by decide +kernel
theorem dX6_findRules_10 : decode cX6_findRules 10 = .ok (.iload 4, 2) := by decide +kernel
theorem dX6_findRules_12 : decode cX6_findRules 12 = .ok (.if_icmp .gt 175, 3) := by decide +kernel
theorem dX6_findRules_15 : decode cX6_findRules 15 = .ok (.iload 6, 2) := by decide +kernel
theorem dX6_findRules_17 : decode cX6_findRules 17 = .ok (.bipush 7, 2) := by decide +kernel
theorem dX6_findRules_19 : decode cX6_findRules 19 = .ok (.if_icmp .ge 168, 3) := by decide +kernel
theorem dX6_findRules_22 : decode cX6_findRules 22 = .ok (.aload_n 1, 1) := by decide +kernel
theorem dX6_findRules_23 : decode cX6_findRules 23 = .ok (.aload_n 2, 1) := by decide +kernel
theorem dX6_findRules_24 : decode cX6_findRules 24 = .ok (.iload 6, 2) := by decide +kernel
theorem dX6_findRules_26 : decode cX6_findRules 26 = .ok (.ifCond .ne 7, 3) := by decide +kernel
theorem dX6_findRules_29 : decode cX6_findRules 29 = .ok (.aconst_null, 1) := by decide +kernel
theorem dX6_findRules_30 : decode cX6_findRules 30 = .ok (.goto 9, 3) := by decide +kernel
theorem dX6_findRules_33 : decode cX6_findRules 33 = .ok (.aload_n 3, 1) := by decide +kernel
theorem dX6_findRules_34 : decode cX6_findRules 34 = .ok (.iload 6, 2) := by decide +kernel
theorem dX6_findRules_36 : decode cX6_findRules 36 = .ok (.iconst 1, 1) := by decide +kernel
theorem dX6_findRules_37 : decode cX6_findRules 37 = .ok (.isub, 1) := by decide +kernel
theorem dX6_findRules_38 : decode cX6_findRules 38 = .ok (.aaload, 1) := by decide +kernel
theorem dX6_findRules_39 : decode cX6_findRules 39 = .ok (.invokevirtual 29, 3) := by decide +kernel
theorem dX6_findRules_42 : decode cX6_findRules 42 = .ok (.iconst 1, 1) := by decide +kernel
theorem dX6_findRules_43 : decode cX6_findRules 43 = .ok (.istore 7, 2) := by decide +kernel
theorem dX6_findRules_45 : decode cX6_findRules 45 = .ok (.iconst 0, 1) := by decide +kernel
theorem dX6_findRules_46 : decode cX6_findRules 46 = .ok (.istore 8, 2) := by decide +kernel
theorem dX6_findRules_48 : decode cX6_findRules 48 = .ok (.iload 8, 2) := by decide +kernel
theorem dX6_findRules_50 : decode cX6_findRules 50 = .ok (.aload_n 2, 1) := by decide +kernel
theorem dX6_findRules_51 : decode cX6_findRules 51 = .ok (.getfield 35, 3) := by decide +kernel
theorem dX6_findRules_54 : decode cX6_findRules 54 = .ok (.if_icmp .ge 105, 3) := by decide +kernel
theorem dX6_findRules_57 : decode cX6_findRules 57 = .ok (.iload 6, 2) := by decide +kernel
theorem dX6_findRules_59 : decode cX6_findRules 59 = .ok (.iconst 3, 1) := by decide +kernel
theorem dX6_findRules_60 : decode cX6_findRules 60 = .ok (.imul, 1) := by decide +kernel
theorem dX6_findRules_61 : decode cX6_findRules 61 = .ok (.iload 8, 2) := by decide +kernel
theorem dX6_findRules_63 : decode cX6_findRules 63 = .ok (.iadd, 1) := by decide +kernel
theorem dX6_findRules_64 : decode cX6_findRules 64 = .ok (.istore 9, 2) := by decide +kernel
theorem dX6_findRules_66 : decode cX6_findRules 66 = .ok (.aload_n 0, 1) := by decide +kernel
theorem dX6_findRules_67 : decode cX6_findRules 67 = .ok (.iload 8, 2) := by decide +kernel
theorem dX6_findRules_69 : decode cX6_findRules 69 = .ok (.aload_n 2, 1) := by decide +kernel
theorem dX6_findRules_70 : decode cX6_findRules 70 = .ok (.invokevirtual 40, 3) := by decide +kernel
theorem dX6_findRules_73 : decode cX6_findRules 73 = .ok (.aload_n 1, 1) := by decide +kernel
theorem dX6_findRules_74 : decode cX6_findRules 74 = .ok (.aload_n 0, 1) := by decide +kernel
theorem dX6_findRules_75 : decode cX6_findRules 75 = .ok (.getfield 12, 3) := by decide +kernel
theorem dX6_findRules_78 : decode cX6_findRules 78 = .ok (.iload 8, 2) := by decide +kernel
theorem dX6_findRules_80 : decode cX6_findRules 80 = .ok (.invokevirtual 44, 3) := by decide +kernel
theorem dX6_findRules_83 : decode cX6_findRules 83 = .ok (.aload_n 0, 1) := by decide +kernel
theorem dX6_findRules_84 : decode cX6_findRules 84 = .ok (.getfield 18, 3) := by decide +kernel
theorem dX6_findRules_87 : decode cX6_findRules 87 = .ok (.iload 9, 2) := by decide +kernel
theorem dX6_findRules_89 : decode cX6_findRules 89 = .ok (.aload_n 0, 1) := by decide +kernel
theorem dX6_findRules_90 : decode cX6_findRules 90 = .ok (.getfield 12, 3) := by decide +kernel
theorem dX6_findRules_93 : decode cX6_findRules 93 = .ok (.getfield 48, 3) := by decide +kernel
theorem dX6_findRules_96 : decode cX6_findRules 96 = .ok (.iload 8, 2) := by decide +kernel
theorem dX6_findRules_98 : decode cX6_findRules 98 = .ok (.iaload, 1) := by decide +kernel
theorem dX6_findRules_99 : decode cX6_findRules 99 = .ok (.iastore, 1) := by decide +kernel
theorem dX6_findRules_100 : decode cX6_findRules 100 = .ok (.aload_n 0, 1) := by decide +kernel
theorem dX6_findRules_101 : decode cX6_findRules 101 = .ok (.getfield 22, 3) := by decide +kernel
theorem dX6_findRules_104 : decode cX6_findRules 104 = .ok (.iload 9, 2) := by decide +kernel
theorem dX6_findRules_106 : decode cX6_findRules 106 = .ok (.aload_n 0, 1) := by decide +kernel
theorem dX6_findRules_107 : decode cX6_findRules 107 = .ok (.getfield 12, 3) := by decide +kernel
theorem dX6_findRules_110 : decode cX6_findRules 110 = .ok (.getfield 51, 3) := by decide +kernel
theorem dX6_findRules_113 : decode cX6_findRules 113 = .ok (.iload 8, 2) := by decide +kernel
theorem dX6_findRules_115 : decode cX6_findRules 115 = .ok (.iaload, 1) := by decide +kernel
theorem dX6_findRules_116 : decode cX6_findRules 116 = .ok (.iastore, 1) := by decide +kernel
theorem dX6_findRules_117 : decode cX6_findRules 117 = .ok (.iload 7, 2) := by decide +kernel
theorem dX6_findRules_119 : decode cX6_findRules 119 = .ok (.ifCond .eq 31, 3) := by decide +kernel
theorem dX6_findRules_122 : decode cX6_findRules 122 = .ok (.aload 5, 2) := by decide +kernel
theorem dX6_findRules_124 : decode cX6_findRules 124 = .ok (.iload 8, 2) := by decide +kernel
theorem dX6_findRules_126 : decode cX6_findRules 126 = .ok (.aload_n 0, 1) := by decide +kernel
theorem dX6_findRules_127 : decode cX6_findRules 127 = .ok (.getfield 18, 3) := by decide +kernel
theorem dX6_findRules_130 : decode cX6_findRules 130 = .ok (.iload 9, 2) := by decide +kernel
theorem dX6_findRules_132 : decode cX6_findRules 132 = .ok (.iaload, 1) := by decide +kernel
theorem dX6_findRules_133 : decode cX6_findRules 133 = .ok (.aload_n 0, 1) := by decide +kernel
theorem dX6_findRules_134 : decode cX6_findRules 134 = .ok (.getfield 22, 3) := by decide +kernel
theorem dX6_findRules_137 : decode cX6_findRules 137 = .ok (.iload 9, 2) := by decide +kernel
theorem dX6_findRules_139 : decode cX6_findRules 139 = .ok (.iaload, 1) := by decide +kernel
theorem dX6_findRules_140 : decode cX6_findRules 140 = .ok (.invokevirtual 54, 3) := by decide +kernel
theorem dX6_findRules_143 : decode cX6_findRules 143 = .ok (.ifCond .eq 7, 3) := by decide +kernel
theorem dX6_findRules_146 : decode cX6_findRules 146 = .ok (.iconst 1, 1) := by decide +kernel
theorem dX6_findRules_147 : decode cX6_findRules 147 = .ok (.goto 4, 3) := by decide +kernel
theorem dX6_findRules_150 : decode cX6_findRules 150 = .ok (.iconst 0, 1) := by decide +kernel
theorem dX6_findRules_151 : decode cX6_findRules 151 = .ok (.istore 7, 2) := by decide +kernel
theorem dX6_findRules_153 : decode cX6_findRules 153 = .ok (.iinc 8 1, 3) := by decide +kernel
theorem dX6_findRules_156 : decode cX6_findRules 156 = .ok (.goto (-108), 3) := by decide +kernel
theorem dX6_findRules_159 : decode cX6_findRules 159 = .ok (.aload_n 0, 1) := by decide +kernel
theorem dX6_findRules_160 : decode cX6_findRules 160 = .ok (.dup, 1) := by decide +kernel
theorem dX6_findRules_161 : decode cX6_findRules 161 = .ok (.getfield 25, 3) := by decide +kernel
theorem dX6_findRules_164 : decode cX6_findRules 164 = .ok (.iload 7, 2) := by decide +kernel
theorem dX6_findRules_166 : decode cX6_findRules 166 = .ok (.ifCond .eq 10, 3) := by decide +kernel
theorem dX6_findRules_169 : decode cX6_findRules 169 = .ok (.iconst 1, 1) := by decide +kernel
theorem dX6_findRules_170 : decode cX6_findRules 170 = .ok (.iload 6, 2) := by decide +kernel
theorem dX6_findRules_172 : decode cX6_findRules 172 = .ok (.ishl, 1) := by decide +kernel
theorem dX6_findRules_173 : decode cX6_findRules 173 = .ok (.goto 4, 3) := by decide +kernel
theorem dX6_findRules_176 : decode cX6_findRules 176 = .ok (.iconst 0, 1) := by decide +kernel
theorem dX6_findRules_177 : decode cX6_findRules 177 = .ok (.ior, 1) := by decide +kernel
theorem dX6_findRules_178 : decode cX6_findRules 178 = .ok (.putfield 25, 3) := by decide +kernel
theorem dX6_findRules_181 : decode cX6_findRules 181 = .ok (.iinc 6 1, 3) := by decide +kernel
theorem dX6_findRules_184 : decode cX6_findRules 184 = .ok (.goto (-176), 3) := by decide +kernel
theorem dX6_findRules_187 : decode cX6_findRules 187 = .ok (.return_, 1) := by decide +kernel
theorem wd_1181 : (Jvm.Cond.code ({ cls := "SilentSale$Sleuth", name := "howMany", desc := "()I" } : Jvm.MethodName) prog_8_method_4_code (1 : Nat) (Option.some Jvm.ClassFile.FieldType.int)) ∈ tb_L := tb_in (i := 1181) (by decide +kernel) (by decide +kernel)
theorem wd_1182 : (Jvm.Cond.methodLink "SilentSale$Sleuth" (74 : Nat) ({ cls := "java/lang/Integer", name := "bitCount", desc := "(I)I" } : Jvm.MethodName)) ∈ tb_L := tb_in (i := 1182) (by decide +kernel) (by decide +kernel)
theorem dX6_howMany_0 : decode cX6_howMany 0 = .ok (.aload_n 0, 1) := by decide +kernel
theorem dX6_howMany_1 : decode cX6_howMany 1 = .ok (.getfield 25, 3) := by decide +kernel
theorem dX6_howMany_4 : decode cX6_howMany 4 = .ok (.invokestatic 74, 3) := by decide +kernel
theorem dX6_howMany_7 : decode cX6_howMany 7 = .ok (.ireturn, 1) := by decide +kernel
theorem wd_1195 : (Jvm.Cond.code ({ cls := "SilentSale$Sleuth", name := "alike", desc := "(II)I" } : Jvm.MethodName) prog_8_method_6_code (7 : Nat) (Option.some Jvm.ClassFile.FieldType.int)) ∈ tb_L := tb_in (i := 1195) (by decide +kernel) (by decide +kernel)
theorem dX6_alike_0 : decode cX6_alike 0 = .ok (.iconst 0, 1) := by decide +kernel
theorem dX6_alike_1 : decode cX6_alike 1 = .ok (.istore_n 3, 1) := by decide +kernel
theorem dX6_alike_2 : decode cX6_alike 2 = .ok (.iconst 0, 1) := by decide +kernel
theorem dX6_alike_3 : decode cX6_alike 3 = .ok (.istore 4, 2) := by decide +kernel
theorem dX6_alike_5 : decode cX6_alike 5 = .ok (.iload 4, 2) := by decide +kernel
theorem dX6_alike_7 : decode cX6_alike 7 = .ok (.bipush 7, 2) := by decide +kernel
theorem dX6_alike_9 : decode cX6_alike 9 = .ok (.if_icmp .ge 89, 3) := by decide +kernel
theorem dX6_alike_12 : decode cX6_alike 12 = .ok (.iload 4, 2) := by decide +kernel
theorem dX6_alike_14 : decode cX6_alike 14 = .ok (.iconst 3, 1) := by decide +kernel
theorem dX6_alike_15 : decode cX6_alike 15 = .ok (.imul, 1) := by decide +kernel
theorem dX6_alike_16 : decode cX6_alike 16 = .ok (.iload_n 2, 1) := by decide +kernel
theorem dX6_alike_17 : decode cX6_alike 17 = .ok (.iadd, 1) := by decide +kernel
theorem dX6_alike_18 : decode cX6_alike 18 = .ok (.istore 5, 2) := by decide +kernel
theorem dX6_alike_20 : decode cX6_alike 20 = .ok (.aload_n 0, 1) := by decide +kernel
theorem dX6_alike_21 : decode cX6_alike 21 = .ok (.getfield 18, 3) := by decide +kernel
theorem dX6_alike_24 : decode cX6_alike 24 = .ok (.iload 5, 2) := by decide +kernel
theorem dX6_alike_26 : decode cX6_alike 26 = .ok (.iaload, 1) := by decide +kernel
theorem dX6_alike_27 : decode cX6_alike 27 = .ok (.aload_n 0, 1) := by decide +kernel
theorem dX6_alike_28 : decode cX6_alike 28 = .ok (.getfield 18, 3) := by decide +kernel
theorem dX6_alike_31 : decode cX6_alike 31 = .ok (.iload_n 1, 1) := by decide +kernel
theorem dX6_alike_32 : decode cX6_alike 32 = .ok (.iconst 3, 1) := by decide +kernel
theorem dX6_alike_33 : decode cX6_alike 33 = .ok (.imul, 1) := by decide +kernel
theorem dX6_alike_34 : decode cX6_alike 34 = .ok (.iload_n 2, 1) := by decide +kernel
theorem dX6_alike_35 : decode cX6_alike 35 = .ok (.iadd, 1) := by decide +kernel
theorem dX6_alike_36 : decode cX6_alike 36 = .ok (.iaload, 1) := by decide +kernel
theorem dX6_alike_37 : decode cX6_alike 37 = .ok (.if_icmp .ne 27, 3) := by decide +kernel
theorem dX6_alike_40 : decode cX6_alike 40 = .ok (.aload_n 0, 1) := by decide +kernel
theorem dX6_alike_41 : decode cX6_alike 41 = .ok (.getfield 22, 3) := by decide +kernel
theorem dX6_alike_44 : decode cX6_alike 44 = .ok (.iload 5, 2) := by decide +kernel
theorem dX6_alike_46 : decode cX6_alike 46 = .ok (.iaload, 1) := by decide +kernel
theorem dX6_alike_47 : decode cX6_alike 47 = .ok (.aload_n 0, 1) := by decide +kernel
theorem dX6_alike_48 : decode cX6_alike 48 = .ok (.getfield 22, 3) := by decide +kernel
theorem dX6_alike_51 : decode cX6_alike 51 = .ok (.iload_n 1, 1) := by decide +kernel
theorem dX6_alike_52 : decode cX6_alike 52 = .ok (.iconst 3, 1) := by decide +kernel
theorem dX6_alike_53 : decode cX6_alike 53 = .ok (.imul, 1) := by decide +kernel
theorem dX6_alike_54 : decode cX6_alike 54 = .ok (.iload_n 2, 1) := by decide +kernel
theorem dX6_alike_55 : decode cX6_alike 55 = .ok (.iadd, 1) := by decide +kernel
theorem dX6_alike_56 : decode cX6_alike 56 = .ok (.iaload, 1) := by decide +kernel
theorem dX6_alike_57 : decode cX6_alike 57 = .ok (.if_icmp .ne 7, 3) := by decide +kernel
theorem dX6_alike_60 : decode cX6_alike 60 = .ok (.iconst 1, 1) := by decide +kernel
theorem dX6_alike_61 : decode cX6_alike 61 = .ok (.goto 4, 3) := by decide +kernel
theorem dX6_alike_64 : decode cX6_alike 64 = .ok (.iconst 0, 1) := by decide +kernel
theorem dX6_alike_65 : decode cX6_alike 65 = .ok (.istore 6, 2) := by decide +kernel
theorem dX6_alike_67 : decode cX6_alike 67 = .ok (.iload_n 3, 1) := by decide +kernel
theorem dX6_alike_68 : decode cX6_alike 68 = .ok (.iload 4, 2) := by decide +kernel
theorem dX6_alike_70 : decode cX6_alike 70 = .ok (.aload_n 0, 1) := by decide +kernel
theorem dX6_alike_71 : decode cX6_alike 71 = .ok (.getfield 25, 3) := by decide +kernel
theorem dX6_alike_74 : decode cX6_alike 74 = .ok (.invokestatic 79, 3) := by decide +kernel
theorem dX6_alike_77 : decode cX6_alike 77 = .ok (.ifCond .eq 12, 3) := by decide +kernel
theorem dX6_alike_80 : decode cX6_alike 80 = .ok (.iload 6, 2) := by decide +kernel
theorem dX6_alike_82 : decode cX6_alike 82 = .ok (.ifCond .eq 7, 3) := by decide +kernel
theorem dX6_alike_85 : decode cX6_alike 85 = .ok (.iconst 1, 1) := by decide +kernel
theorem dX6_alike_86 : decode cX6_alike 86 = .ok (.goto 4, 3) := by decide +kernel
theorem dX6_alike_89 : decode cX6_alike 89 = .ok (.iconst 0, 1) := by decide +kernel
theorem dX6_alike_90 : decode cX6_alike 90 = .ok (.iadd, 1) := by decide +kernel
theorem dX6_alike_91 : decode cX6_alike 91 = .ok (.istore_n 3, 1) := by decide +kernel
theorem dX6_alike_92 : decode cX6_alike 92 = .ok (.iinc 4 1, 3) := by decide +kernel
theorem dX6_alike_95 : decode cX6_alike 95 = .ok (.goto (-90), 3) := by decide +kernel
theorem dX6_alike_98 : decode cX6_alike 98 = .ok (.iload_n 3, 1) := by decide +kernel
theorem dX6_alike_99 : decode cX6_alike 99 = .ok (.ireturn, 1) := by decide +kernel
theorem wd_37 : (Jvm.Cond.selects "SilentSale$Sleuth" ({ cls := "SilentSale$Sleuth", name := "alike", desc := "(II)I" } : Jvm.MethodName) ({ cls := "SilentSale$Sleuth", name := "alike", desc := "(II)I" } : Jvm.MethodName)) ∈ tb_L := tb_in (i := 37) (by decide +kernel) (by decide +kernel)
theorem wd_1190 : (Jvm.Cond.code ({ cls := "SilentSale$Sleuth", name := "mostAlike", desc := "(I)I" } : Jvm.MethodName) prog_8_method_5_code (4 : Nat) (Option.some Jvm.ClassFile.FieldType.int)) ∈ tb_L := tb_in (i := 1190) (by decide +kernel) (by decide +kernel)
theorem wd_1192 : (Jvm.Cond.methodLink "SilentSale$Sleuth" (83 : Nat) ({ cls := "SilentSale$Sleuth", name := "alike", desc := "(II)I" } : Jvm.MethodName)) ∈ tb_L := tb_in (i := 1192) (by decide +kernel) (by decide +kernel)
theorem wd_1194 : (Jvm.Cond.instanceMethod ({ cls := "SilentSale$Sleuth", name := "alike", desc := "(II)I" } : Jvm.MethodName)) ∈ tb_L := tb_in (i := 1194) (by decide +kernel) (by decide +kernel)
theorem wd_1196 : (Jvm.Cond.methodLink "SilentSale$Sleuth" (87 : Nat) ({ cls := "java/lang/Math", name := "max", desc := "(II)I" } : Jvm.MethodName)) ∈ tb_L := tb_in (i := 1196) (by decide +kernel) (by decide +kernel)
theorem dX6_mostAlike_0 : decode cX6_mostAlike 0 = .ok (.iconst 0, 1) := by decide +kernel
theorem dX6_mostAlike_1 : decode cX6_mostAlike 1 = .ok (.istore_n 2, 1) := by decide +kernel
theorem dX6_mostAlike_2 : decode cX6_mostAlike 2 = .ok (.iconst 0, 1) := by decide +kernel
theorem dX6_mostAlike_3 : decode cX6_mostAlike 3 = .ok (.istore_n 3, 1) := by decide +kernel
theorem dX6_mostAlike_4 : decode cX6_mostAlike 4 = .ok (.iload_n 3, 1) := by decide +kernel
theorem dX6_mostAlike_5 : decode cX6_mostAlike 5 = .ok (.bipush 7, 2) := by decide +kernel
theorem dX6_mostAlike_7 : decode cX6_mostAlike 7 = .ok (.if_icmp .ge 35, 3) := by decide +kernel
theorem dX6_mostAlike_10 : decode cX6_mostAlike 10 = .ok (.iload_n 3, 1) := by decide +kernel
theorem dX6_mostAlike_11 : decode cX6_mostAlike 11 = .ok (.aload_n 0, 1) := by decide +kernel
theorem dX6_mostAlike_12 : decode cX6_mostAlike 12 = .ok (.getfield 25, 3) := by decide +kernel
theorem dX6_mostAlike_15 : decode cX6_mostAlike 15 = .ok (.invokestatic 79, 3) := by decide +kernel
theorem dX6_mostAlike_18 : decode cX6_mostAlike 18 = .ok (.ifCond .eq 16, 3) := by decide +kernel
theorem dX6_mostAlike_21 : decode cX6_mostAlike 21 = .ok (.iload_n 2, 1) := by decide +kernel
theorem dX6_mostAlike_22 : decode cX6_mostAlike 22 = .ok (.aload_n 0, 1) := by decide +kernel
theorem dX6_mostAlike_23 : decode cX6_mostAlike 23 = .ok (.iload_n 3, 1) := by decide +kernel
theorem dX6_mostAlike_24 : decode cX6_mostAlike 24 = .ok (.iload_n 1, 1) := by decide +kernel
theorem dX6_mostAlike_25 : decode cX6_mostAlike 25 = .ok (.invokevirtual 83, 3) := by decide +kernel
theorem dX6_mostAlike_28 : decode cX6_mostAlike 28 = .ok (.invokestatic 87, 3) := by decide +kernel
theorem dX6_mostAlike_31 : decode cX6_mostAlike 31 = .ok (.goto 4, 3) := by decide +kernel
theorem dX6_mostAlike_34 : decode cX6_mostAlike 34 = .ok (.iload_n 2, 1) := by decide +kernel
theorem dX6_mostAlike_35 : decode cX6_mostAlike 35 = .ok (.istore_n 2, 1) := by decide +kernel
theorem dX6_mostAlike_36 : decode cX6_mostAlike 36 = .ok (.iinc 3 1, 3) := by decide +kernel
theorem dX6_mostAlike_39 : decode cX6_mostAlike 39 = .ok (.goto (-35), 3) := by decide +kernel
theorem dX6_mostAlike_42 : decode cX6_mostAlike 42 = .ok (.iload_n 2, 1) := by decide +kernel
theorem dX6_mostAlike_43 : decode cX6_mostAlike 43 = .ok (.ireturn, 1) := by decide +kernel
set_option maxHeartbeats 4000000 in
set_option maxRecDepth 100000 in
theorem d_power (l : Launch) (G : gg_T) (Γ : Nat → Nat) (sz : Nat) (wt : va_W) (hT : tk_ty G Γ wt) (a : Int32) (b : Int32) : Met l yX11_power (ts_L yX11_power cX11_power 4 (some .int)) ({ frames := 0, cells := 0, slots := 0, locals := 0 }) (gc_P G wt sz [.int a, .int b]) (gc_I G (va_A wt sz) (fun r (u : va_W) => tk_ty G Γ u ∧ tk_kp [] wt u) (fun u => u)) 0 0 (va_A wt sz) := by
  refine Met.ofW (cc := cX11_power) (maxL := 4) (ret := (some .int)) (by decide) rfl ?_
  intro p e s m args below meth c s₁ B hml hv
  obtain ⟨rfl, hsz, hP, hK, hD0⟩ := hv
  have hx := B.exec
  have hb := B.bytes
  have hr := B.returns
  have ht := ts_ht (atoms_spec (ws := ts_L yX11_power cX11_power 4 (some .int)) B.pre)
  have hown : s.vm.findClass RX11 = some m.cls := findClass_of_methodNamed B.named
  have hlocks := B.notSynchronized
  subst hsz
  have hD := hD0.self (sz := s.heap.size)
  generalize hAe : va_A wt s.heap.size = A at hD ⊢
  have hA : ∀ q : Nat, s.heap.size ≤ q → A q := fun q h => by rw [← hAe]; exact Or.inr h
  clear hAe hD0
  have hS : va_S A s.heap s.heap [] := va_S.rf
  obtain ⟨w0, hw0⟩ : ∃ z, z = wt := ⟨_, rfl⟩
  have hW : tk_kp [] w0 wt := by rw [hw0]; exact tk_kp.rf
  rw [← hw0]
  clear hw0
  have hP : va_P (gg_D G) classes ([] ++ wt) s.heap := hP
  have hD : va_D A ([] ++ wt) := hD
  have hl := lv_entry ([.int a, .int b]) (n := 4) (Nat.le_of_ble_eq_true rfl)
  rw [lg_entry_eq]
  generalize (lg_sl ([.int a, .int b]) ++ List.replicate (4 - (lg_sl ([.int a, .int b])).length) Slot.unset).toArray = ls at hl ⊢
  have hl : lv_has ls 4 [(0, .int a), (1, .int b)] := hl
  have l0 : (0 : Int32).toInt = 0 := by decide +kernel
  have l1 : (1 : Int32).toInt = 1 := by decide +kernel
  refine lv_iconst (v := 1) hx hb dX11_power_0 (by decide +kernel) ?_
  refine lv_istore_n (lv' := [(2, .int 1), (0, .int a), (1, .int b)]) hx hb dX11_power_1 rfl hl (by decide) rfl (fun ls hl => ?_)
  refine lv_iconst (v := 0) hx hb dX11_power_2 (by decide +kernel) ?_
  refine lv_istore_n (lv' := [(3, .int 0), (2, .int 1), (0, .int a), (1, .int b)]) hx hb dX11_power_3 rfl hl (by decide) rfl (fun ls hl => ?_)
  refine tl_loopE (Γ := Γ) (nL := 4) (fun (zz_ : Int32 × Int32) => match zz_ with | (x4_0, x4_1) => 0 ≤ x4_0.toInt ∧ x4_0.toInt ≤ 2147483647) (fun (zz_ : Int32 × Int32) => match zz_ with | (x4_0, x4_1) => (b.toInt - x4_0.toInt).toNat) (fun (zz_ : Int32 × Int32) => match zz_ with | (x4_0, x4_1) => [(3, .int x4_0), (2, .int x4_1), (0, .int a), (1, .int b)]) (fun (zz_ : Int32 × Int32) => match zz_ with | (x4_0, x4_1) => []) (fun (zz_ : Int32 × Int32) (w : va_W) => match zz_ with | (x4_0, x4_1) => tk_kp [] w0 w) (fun zz_ hI H locs wt ls hT hW hP hD hS hl ih4 => ?_) (0, 1) (show 0 ≤ (0 : Int32).toInt ∧ (0 : Int32).toInt ≤ 2147483647 from ⟨by omega, by omega⟩) _ _ wt ls hT hW hP hD hS hl
  obtain ⟨x4_0, x4_1⟩ := zz_
  have hW : tk_kp [] w0 wt := hW
  have hI : 0 ≤ x4_0.toInt ∧ x4_0.toInt ≤ 2147483647 := hI
  obtain ⟨j4_0, j4_1⟩ := hI
  have hl : lv_has ls 4 [(3, .int x4_0), (2, .int x4_1), (0, .int a), (1, .int b)] := hl
  have hP : va_P (gg_D G) classes ([] ++ wt) H := hP
  have hD : va_D A ([] ++ wt) := hD
  refine lv_iload_n hx hb dX11_power_4 rfl (lv_at hl 0 rfl) ?_
  refine lv_iload_n hx hb dX11_power_5 rfl (lv_at hl 3 rfl) ?_
  refine lv_icmp_ge (tgt := 19) hx hb dX11_power_6 (by decide) (fun c_1 => ?_) (fun c_1 => ?_)
  · rw [Int32.le_iff_toInt_le] at c_1
    refine lv_iload_n hx hb dX11_power_19 rfl (lv_at hl 1 rfl) ?_
    have hP9 := tw_right hP
    have hD9 := tw_rightD hD
    exact W.iret (v := x4_1) hx hb hr (gq_endI wt ⟨hT, hW⟩ hP9 hD9 hS) hS.2.2 dX11_power_20
  · rw [Int32.le_iff_toInt_le] at c_1
    refine lv_iload_n hx hb dX11_power_9 rfl (lv_at hl 1 rfl) ?_
    refine lv_iload_n hx hb dX11_power_10 rfl (lv_at hl 2 rfl) ?_
    obtain ⟨t_2, et_2⟩ : ∃ zz_ : Int32, x4_1 * a = zz_ := ⟨_, rfl⟩
    refine gq_imul hx hb t_2 et_2 dX11_power_11 ?_
    refine lv_istore_n (lv' := [(2, .int t_2), (3, .int x4_0), (0, .int a), (1, .int b)]) hx hb dX11_power_12 rfl hl (by decide) rfl (fun ls hl => ?_)
    obtain ⟨t_3, et_3⟩ : ∃ zz_ : Int32, x4_0 + Int32.ofInt (1) = zz_ := ⟨_, rfl⟩
    have bd_b := ia_bd b
    have ft_3 : t_3.toInt = x4_0.toInt + (1 : Int32).toInt := ia_add (y := 1) et_3 (by omega) (by omega)
    refine lv_iinc (v := t_3) (lv' := [(3, .int t_3), (2, .int t_2), (0, .int a), (1, .int b)]) hx hb dX11_power_13 hl (k := 1) rfl et_3 (by decide) rfl (fun ls hl => ?_)
    refine lv_goto (tgt := 4) hx hb dX11_power_16 (by decide) ?_
    exact ih4 (t_3, t_2) (show 0 ≤ t_3.toInt ∧ t_3.toInt ≤ 2147483647 from ⟨by omega, by omega⟩) (show (b.toInt - t_3.toInt).toNat < (b.toInt - x4_0.toInt).toNat by omega) H locs wt ls hT hW hP hD hS (lv_sub hl [0, 1, 2, 3] rfl)
set_option maxHeartbeats 4000000 in
set_option maxRecDepth 100000 in
theorem d_spread (l : Launch) (G : gg_T) (Γ : Nat → Nat) (sz : Nat) (wt : va_W) (hT : tk_ty G Γ wt) (a : Int32) (b : Int32) (w : Int32) (rw : Nat) (k_rw : Γ rw = 20) : Met l yX11_spread (ts_L yX11_spread cX11_spread 6 none) ({ frames := 1, cells := 0, slots := 0, locals := 21 }) (gc_P G wt sz [.int a, .int b, .int w, .ref rw]) (gc_V G (va_A wt sz) (fun (u : va_W) => tk_ty G Γ u ∧ tk_kp [] wt u) (fun u => u)) 0 0 (va_A wt sz) := by
  refine Met.ofW (cc := cX11_spread) (maxL := 6) (ret := none) (by decide) rfl ?_
  intro p e s m args below meth c s₁ B hml hv
  obtain ⟨rfl, hsz, hP, hK, hD0⟩ := hv
  have hx := B.exec
  have hb := B.bytes
  have hr := B.returns
  have ht := ts_ht (atoms_spec (ws := ts_L yX11_spread cX11_spread 6 none) B.pre)
  have hown : s.vm.findClass RX11 = some m.cls := findClass_of_methodNamed B.named
  have hlocks := B.notSynchronized
  subst hsz
  have hD := hD0.self (sz := s.heap.size)
  generalize hAe : va_A wt s.heap.size = A at hD ⊢
  have hA : ∀ q : Nat, s.heap.size ≤ q → A q := fun q h => by rw [← hAe]; exact Or.inr h
  clear hAe hD0
  have hS : va_S A s.heap s.heap [] := va_S.rf
  obtain ⟨w0, hw0⟩ : ∃ z, z = wt := ⟨_, rfl⟩
  have hW : tk_kp [] w0 wt := by rw [hw0]; exact tk_kp.rf
  rw [← hw0]
  clear hw0
  have hP : va_P (gg_D G) classes ([] ++ wt) s.heap := hP
  have hD : va_D A ([] ++ wt) := hD
  have hl := lv_entry ([.int a, .int b, .int w, .ref rw]) (n := 6) (Nat.le_of_ble_eq_true rfl)
  rw [lg_entry_eq]
  generalize (lg_sl ([.int a, .int b, .int w, .ref rw]) ++ List.replicate (6 - (lg_sl ([.int a, .int b, .int w, .ref rw])).length) Slot.unset).toArray = ls at hl ⊢
  have hl : lv_has ls 6 [(0, .int a), (1, .int b), (2, .int w), (3, .ref rw)] := hl
  have lm2 : ((-2) : Int32).toInt = -2 := by decide +kernel
  have lm1 : ((-1) : Int32).toInt = -1 := by decide +kernel
  have l0 : (0 : Int32).toInt = 0 := by decide +kernel
  have l4 : (4 : Int32).toInt = 4 := by decide +kernel
  refine lv_iload_n hx hb dX11_spread_0 rfl (lv_at hl 0 rfl) ?_
  refine lv_istore (lv' := [(4, .int a), (0, .int a), (1, .int b), (2, .int w), (3, .ref rw)]) hx hb dX11_spread_1 hl (by decide) rfl (fun ls hl => ?_)
  refine lv_aload_n hx hb dX11_spread_3 rfl (lv_at hl 4 rfl) ?_
  refine tr_alen hx hb hK hT hP 20 k_rw (by decide) (by decide) 5 (by decide +kernel) dX11_spread_4 ?_
  refine lv_iconst (v := 1) hx hb dX11_spread_5 (by decide +kernel) ?_
  refine gq_isub hx hb 4 (by decide +kernel) dX11_spread_6 ?_
  refine lv_istore (lv' := [(5, .int 4), (4, .int a), (0, .int a), (1, .int b), (2, .int w), (3, .ref rw)]) hx hb dX11_spread_7 hl (by decide) rfl (fun ls hl => ?_)
  refine tl_loopE (Γ := Γ) (nL := 6) (fun (zz_ : Int32 × Int32) => match zz_ with | (x9_0, x9_1) => -1 ≤ x9_0.toInt ∧ x9_0.toInt ≤ 4) (fun (zz_ : Int32 × Int32) => match zz_ with | (x9_0, x9_1) => (x9_0.toInt + 1).toNat) (fun (zz_ : Int32 × Int32) => match zz_ with | (x9_0, x9_1) => [(5, .int x9_0), (4, .int x9_1), (0, .int a), (1, .int b), (2, .int w), (3, .ref rw)]) (fun (zz_ : Int32 × Int32) => match zz_ with | (x9_0, x9_1) => []) (fun (zz_ : Int32 × Int32) (w : va_W) => match zz_ with | (x9_0, x9_1) => tk_kp [] w0 w) (fun zz_ hI H locs wt ls hT hW hP hD hS hl ih9 => ?_) (4, a) (show -1 ≤ (4 : Int32).toInt ∧ (4 : Int32).toInt ≤ 4 from ⟨by omega, by omega⟩) _ _ wt ls hT hW hP hD hS hl
  obtain ⟨x9_0, x9_1⟩ := zz_
  have hW : tk_kp [] w0 wt := hW
  have hI : -1 ≤ x9_0.toInt ∧ x9_0.toInt ≤ 4 := hI
  obtain ⟨j9_0, j9_1⟩ := hI
  have hl : lv_has ls 6 [(5, .int x9_0), (4, .int x9_1), (0, .int a), (1, .int b), (2, .int w), (3, .ref rw)] := hl
  have hP : va_P (gg_D G) classes ([] ++ wt) H := hP
  have hD : va_D A ([] ++ wt) := hD
  refine lv_iload hx hb dX11_spread_9 (lv_at hl 0 rfl) ?_
  refine lv_if_lt (tgt := 55) hx hb dX11_spread_11 (by decide) (fun c_1 => ?_) (fun c_1 => ?_)
  · rw [Int32.lt_iff_toInt_lt] at c_1
    have hP9 := tw_right hP
    have hD9 := tw_rightD hD
    exact W.vret hx hb hr (gq_endV wt ⟨hT, hW⟩ hP9 hD9 hS) hS.2.2 dX11_spread_55
  · rw [Int32.lt_iff_toInt_lt] at c_1
    refine lv_aload_n hx hb dX11_spread_14 rfl (lv_at hl 5 rfl) ?_
    refine lv_iload hx hb dX11_spread_15 (lv_at hl 0 rfl) ?_
    refine lv_bipush (v := (-2)) hx hb dX11_spread_17 (by decide +kernel) ?_
    refine tr_iast hx hb hK hT hP hD hS 20 k_rw (by decide) (by decide) (show vp_in _ (tk_len 20) from ia_in (n := 5) (by omega) (by omega)) (show tk_e 20 _ from trivial) dX11_spread_19 (fun H locs wt hT hfl hP hD hS => ?_)
    have hW := hW.arr hfl
    refine lv_iload hx hb dX11_spread_20 (lv_at hl 0 rfl) ?_
    refine lv_iload_n hx hb dX11_spread_22 rfl (lv_at hl 4 rfl) ?_
    refine gt_callI (wr := []) (va_runS (As := [.int x9_0, .int w]) (rest := []) ⟨hx, hb, hml, hown, ht⟩ (d_isIn l G Γ H.size wt hT x9_0 w) (va_cwS 2 ht (ts_gS wd_1081 wd_802 wd_122 wd_803) rfl rfl rfl (by decide +kernel) ⟨Nat.le_of_ble_eq_true rfl, Nat.le_of_ble_eq_true rfl⟩) (gc_preS hK (tw_right hP) (tw_rightD hD)) rfl rfl hl.1 rfl (lv_room (Nat.le_of_ble_eq_true rfl)) dX11_spread_23 ⟨Nat.le_of_ble_eq_true rfl, Nat.le_of_ble_eq_true rfl⟩) hP hD hS hA (fun r_2 wt H locs hw hP hD hS => ?_)
    obtain ⟨hT, hkp, lo_r_2, hi_r_2⟩ := hw
    have hW := hW.call (show ∀ x ∈ [], x ∈ [] by decide) hkp
    refine lv_if_eq (tgt := 49) hx hb dX11_spread_26 (by decide) (fun c_3 => ?_) (fun c_3 => ?_)
    · rw [← Int32.toInt_inj] at c_3
      obtain ⟨t_4, et_4⟩ : ∃ zz_ : Int32, x9_0 + Int32.ofInt (-1) = zz_ := ⟨_, rfl⟩
      have ft_4 : t_4.toInt = x9_0.toInt + ((-1) : Int32).toInt := ia_add (y := (-1)) et_4 (by omega) (by omega)
      refine lv_iinc (v := t_4) (lv' := [(5, .int t_4), (4, .int x9_1), (0, .int a), (1, .int b), (2, .int w), (3, .ref rw)]) hx hb dX11_spread_49 hl (k := 0) rfl et_4 (by decide) rfl (fun ls hl => ?_)
      refine lv_goto (tgt := 9) hx hb dX11_spread_52 (by decide) ?_
      exact ih9 (t_4, x9_1) (show -1 ≤ t_4.toInt ∧ t_4.toInt ≤ 4 from ⟨by omega, by omega⟩) (show (t_4.toInt + 1).toNat < (x9_0.toInt + 1).toNat by omega) H locs wt ls hT hW hP hD hS (lv_sub hl [0, 1, 2, 3, 4, 5] rfl)
    · rw [← Int32.toInt_inj] at c_3
      refine lv_iload_n hx hb dX11_spread_29 rfl (lv_at hl 3 rfl) ?_
      refine lv_if_le (tgt := 49) hx hb dX11_spread_30 (by decide) (fun c_5 => ?_) (fun c_5 => ?_)
      · rw [Int32.le_iff_toInt_le] at c_5
        obtain ⟨t_6, et_6⟩ : ∃ zz_ : Int32, x9_0 + Int32.ofInt (-1) = zz_ := ⟨_, rfl⟩
        have ft_6 : t_6.toInt = x9_0.toInt + ((-1) : Int32).toInt := ia_add (y := (-1)) et_6 (by omega) (by omega)
        refine lv_iinc (v := t_6) (lv' := [(5, .int t_6), (4, .int x9_1), (0, .int a), (1, .int b), (2, .int w), (3, .ref rw)]) hx hb dX11_spread_49 hl (k := 0) rfl et_6 (by decide) rfl (fun ls hl => ?_)
        refine lv_goto (tgt := 9) hx hb dX11_spread_52 (by decide) ?_
        exact ih9 (t_6, x9_1) (show -1 ≤ t_6.toInt ∧ t_6.toInt ≤ 4 from ⟨by omega, by omega⟩) (show (t_6.toInt + 1).toNat < (x9_0.toInt + 1).toNat by omega) H locs wt ls hT hW hP hD hS (lv_sub hl [0, 1, 2, 3, 4, 5] rfl)
      · rw [Int32.le_iff_toInt_le] at c_5
        refine lv_aload_n hx hb dX11_spread_33 rfl (lv_at hl 5 rfl) ?_
        refine lv_iload hx hb dX11_spread_34 (lv_at hl 0 rfl) ?_
        refine lv_iload hx hb dX11_spread_36 (lv_at hl 1 rfl) ?_
        refine lv_iload_n hx hb dX11_spread_38 rfl (lv_at hl 3 rfl) ?_
        refine lv_irem hx hb dX11_spread_39 (fun h0 => absurd h0 (by rw [← Int32.toInt_inj]; omega)) ?_
        refine lv_topi (fun t_7 et_7 => ?_)
        refine lv_iconst (v := 1) hx hb dX11_spread_40 (by decide +kernel) ?_
        obtain ⟨t_8, et_8⟩ : ∃ zz_ : Int32, t_7 - 1 = zz_ := ⟨_, rfl⟩
        refine gq_isub hx hb t_8 et_8 dX11_spread_41 ?_
        refine tr_iast hx hb hK hT hP hD hS 20 k_rw (by decide) (by decide) (show vp_in _ (tk_len 20) from ia_in (n := 5) (by omega) (by omega)) (show tk_e 20 _ from trivial) dX11_spread_42 (fun H locs wt hT hfl hP hD hS => ?_)
        have hW := hW.arr hfl
        refine lv_iload hx hb dX11_spread_43 (lv_at hl 1 rfl) ?_
        refine lv_iload_n hx hb dX11_spread_45 rfl (lv_at hl 3 rfl) ?_
        refine lv_idiv hx hb dX11_spread_46 (fun h0 => absurd h0 (by rw [← Int32.toInt_inj]; omega)) ?_
        refine lv_topi (fun t_9 et_9 => ?_)
        refine lv_istore (lv' := [(4, .int t_9), (5, .int x9_0), (0, .int a), (1, .int b), (2, .int w), (3, .ref rw)]) hx hb dX11_spread_47 hl (by decide) rfl (fun ls hl => ?_)
        obtain ⟨t_10, et_10⟩ : ∃ zz_ : Int32, x9_0 + Int32.ofInt (-1) = zz_ := ⟨_, rfl⟩
        have ft_10 : t_10.toInt = x9_0.toInt + ((-1) : Int32).toInt := ia_add (y := (-1)) et_10 (by omega) (by omega)
        refine lv_iinc (v := t_10) (lv' := [(5, .int t_10), (4, .int t_9), (0, .int a), (1, .int b), (2, .int w), (3, .ref rw)]) hx hb dX11_spread_49 hl (k := 1) rfl et_10 (by decide) rfl (fun ls hl => ?_)
        refine lv_goto (tgt := 9) hx hb dX11_spread_52 (by decide) ?_
        exact ih9 (t_10, t_9) (show -1 ≤ t_10.toInt ∧ t_10.toInt ≤ 4 from ⟨by omega, by omega⟩) (show (t_10.toInt + 1).toNat < (x9_0.toInt + 1).toNat by omega) H locs wt ls hT hW hP hD hS (lv_sub hl [0, 1, 2, 3, 4, 5] rfl)
set_option maxHeartbeats 4000000 in
set_option maxRecDepth 100000 in
theorem d_canSit (l : Launch) (G : gg_T) (Γ : Nat → Nat) (sz : Nat) (wt : va_W) (hT : tk_ty G Γ wt) (t : Nat) (v : Nat) (k_t : Γ t = 6) (k_v : Γ v = 8) : Met l yX5_canSit (ts_L yX5_canSit cX5_canSit 4 (some .boolean)) ({ frames := 0, cells := 0, slots := 0, locals := 0 }) (gc_P G wt sz [.ref t, .ref v]) (gc_I G (va_A wt sz) (fun r (u : va_W) => tk_ty G Γ u ∧ tk_kp [] wt u ∧ 0 ≤ r.toInt ∧ r.toInt ≤ 1) (fun u => u)) 0 0 (va_A wt sz) := by
  refine Met.ofW (cc := cX5_canSit) (maxL := 4) (ret := (some .boolean)) (by decide) rfl ?_
  intro p e s m args below meth c s₁ B hml hv
  obtain ⟨rfl, hsz, hP, hK, hD0⟩ := hv
  have hx := B.exec
  have hb := B.bytes
  have hr := B.returns
  have ht := ts_ht (atoms_spec (ws := ts_L yX5_canSit cX5_canSit 4 (some .boolean)) B.pre)
  have hown : s.vm.findClass RX5 = some m.cls := findClass_of_methodNamed B.named
  have hlocks := B.notSynchronized
  subst hsz
  have hD := hD0.self (sz := s.heap.size)
  generalize hAe : va_A wt s.heap.size = A at hD ⊢
  have hA : ∀ q : Nat, s.heap.size ≤ q → A q := fun q h => by rw [← hAe]; exact Or.inr h
  clear hAe hD0
  have hS : va_S A s.heap s.heap [] := va_S.rf
  obtain ⟨w0, hw0⟩ : ∃ z, z = wt := ⟨_, rfl⟩
  have hW : tk_kp [] w0 wt := by rw [hw0]; exact tk_kp.rf
  rw [← hw0]
  clear hw0
  have hP : va_P (gg_D G) classes ([] ++ wt) s.heap := hP
  have hD : va_D A ([] ++ wt) := hD
  have hl := lv_entry ([.ref t, .ref v]) (n := 4) (Nat.le_of_ble_eq_true rfl)
  rw [lg_entry_eq]
  generalize (lg_sl ([.ref t, .ref v]) ++ List.replicate (4 - (lg_sl ([.ref t, .ref v])).length) Slot.unset).toArray = ls at hl ⊢
  have hl : lv_has ls 4 [(0, .ref t), (1, .ref v)] := hl
  have l0 : (0 : Int32).toInt = 0 := by decide +kernel
  have l1 : (1 : Int32).toInt = 1 := by decide +kernel
  have l3 : (3 : Int32).toInt = 3 := by decide +kernel
  have l5 : (5 : Int32).toInt = 5 := by decide +kernel
  refine lv_iconst (v := 0) hx hb dX5_canSit_0 (by decide +kernel) ?_
  refine lv_istore_n (lv' := [(2, .int 0), (0, .ref t), (1, .ref v)]) hx hb dX5_canSit_1 rfl hl (by decide) rfl (fun ls hl => ?_)
  refine tl_loopE (Γ := Γ) (nL := 4) (fun (zz_ : Int32) => match zz_ with | x2_0 => 0 ≤ x2_0.toInt ∧ x2_0.toInt ≤ 5) (fun (zz_ : Int32) => match zz_ with | x2_0 => (5 - x2_0.toInt).toNat) (fun (zz_ : Int32) => match zz_ with | x2_0 => [(2, .int x2_0), (0, .ref t), (1, .ref v)]) (fun (zz_ : Int32) => match zz_ with | x2_0 => []) (fun (zz_ : Int32) (w : va_W) => match zz_ with | x2_0 => tk_kp [] w0 w) (fun zz_ hI H locs wt ls hT hW hP hD hS hl ih2 => ?_) 0 (show 0 ≤ (0 : Int32).toInt ∧ (0 : Int32).toInt ≤ 5 from ⟨by omega, by omega⟩) _ _ wt ls hT hW hP hD hS hl
  obtain ⟨x2_0, rfl⟩ : ∃ z2, z2 = zz_ := ⟨_, rfl⟩
  have hW : tk_kp [] w0 wt := hW
  have hI : 0 ≤ x2_0.toInt ∧ x2_0.toInt ≤ 5 := hI
  obtain ⟨j2_0, j2_1⟩ := hI
  have hl : lv_has ls 4 [(2, .int x2_0), (0, .ref t), (1, .ref v)] := hl
  have hP : va_P (gg_D G) classes ([] ++ wt) H := hP
  have hD : va_D A ([] ++ wt) := hD
  refine lv_iload_n hx hb dX5_canSit_2 rfl (lv_at hl 0 rfl) ?_
  refine lv_iconst (v := 5) hx hb dX5_canSit_3 (by decide +kernel) ?_
  refine lv_icmp_ge (tgt := 40) hx hb dX5_canSit_4 (by decide) (fun c_1 => ?_) (fun c_1 => ?_)
  · rw [Int32.le_iff_toInt_le] at c_1
    refine lv_iconst (v := 1) hx hb dX5_canSit_40 (by decide +kernel) ?_
    have hP9 := tw_right hP
    have hD9 := tw_rightD hD
    exact W.zret (v := 1) hx hb hr (by decide +kernel) (gq_endI wt ⟨hT, hW, (by omega), (by omega)⟩ hP9 hD9 hS) hS.2.2 dX5_canSit_41
  · rw [Int32.le_iff_toInt_le] at c_1
    refine lv_aload_n hx hb dX5_canSit_7 rfl (lv_at hl 1 rfl) ?_
    refine tr_get (ci := 5) hx hb ht hown hK hT hP k_t (by decide) i_X5 rfl 1 (by decide) wd_431 rfl dX5_canSit_8 (fun v hv hf_2 => ?_)
    obtain ⟨q_3, rfl, hq_3⟩ := hv
    refine lv_iload_n hx hb dX5_canSit_11 rfl (lv_at hl 0 rfl) ?_
    refine tr_iald hx hb hK hT hP 20 hq_3 (by decide) (by decide) (show vp_in _ (tk_len 20) from ia_in (n := 5) (by omega) (by omega)) dX5_canSit_12 (fun n_4 hn_4 => ?_)
    clear hn_4
    refine lv_istore_n (lv' := [(3, .int n_4), (2, .int x2_0), (0, .ref t), (1, .ref v)]) hx hb dX5_canSit_13 rfl hl (by decide) rfl (fun ls hl => ?_)
    refine lv_iload_n hx hb dX5_canSit_14 rfl (lv_at hl 0 rfl) ?_
    refine lv_if_lt (tgt := 34) hx hb dX5_canSit_15 (by decide) (fun c_5 => ?_) (fun c_5 => ?_)
    · rw [Int32.lt_iff_toInt_lt] at c_5
      obtain ⟨t_6, et_6⟩ : ∃ zz_ : Int32, x2_0 + Int32.ofInt (1) = zz_ := ⟨_, rfl⟩
      have ft_6 : t_6.toInt = x2_0.toInt + (1 : Int32).toInt := ia_add (y := 1) et_6 (by omega) (by omega)
      refine lv_iinc (v := t_6) (lv' := [(2, .int t_6), (3, .int n_4), (0, .ref t), (1, .ref v)]) hx hb dX5_canSit_34 hl (k := 1) rfl et_6 (by decide) rfl (fun ls hl => ?_)
      refine lv_goto (tgt := 2) hx hb dX5_canSit_37 (by decide) ?_
      exact ih2 t_6 (show 0 ≤ t_6.toInt ∧ t_6.toInt ≤ 5 from ⟨by omega, by omega⟩) (show (5 - t_6.toInt).toNat < (5 - x2_0.toInt).toNat by omega) H locs wt ls hT hW hP hD hS (lv_sub hl [0, 2, 3] rfl)
    · rw [Int32.lt_iff_toInt_lt] at c_5
      refine lv_iload_n hx hb dX5_canSit_18 rfl (lv_at hl 0 rfl) ?_
      refine lv_iconst (v := 3) hx hb dX5_canSit_19 (by decide +kernel) ?_
      refine lv_icmp_ge (tgt := 34) hx hb dX5_canSit_20 (by decide) (fun c_7 => ?_) (fun c_7 => ?_)
      · rw [Int32.le_iff_toInt_le] at c_7
        obtain ⟨t_8, et_8⟩ : ∃ zz_ : Int32, x2_0 + Int32.ofInt (1) = zz_ := ⟨_, rfl⟩
        have ft_8 : t_8.toInt = x2_0.toInt + (1 : Int32).toInt := ia_add (y := 1) et_8 (by omega) (by omega)
        refine lv_iinc (v := t_8) (lv' := [(2, .int t_8), (3, .int n_4), (0, .ref t), (1, .ref v)]) hx hb dX5_canSit_34 hl (k := 1) rfl et_8 (by decide) rfl (fun ls hl => ?_)
        refine lv_goto (tgt := 2) hx hb dX5_canSit_37 (by decide) ?_
        exact ih2 t_8 (show 0 ≤ t_8.toInt ∧ t_8.toInt ≤ 5 from ⟨by omega, by omega⟩) (show (5 - t_8.toInt).toNat < (5 - x2_0.toInt).toNat by omega) H locs wt ls hT hW hP hD hS (lv_sub hl [0, 2, 3] rfl)
      · rw [Int32.le_iff_toInt_le] at c_7
        refine lv_aload_n hx hb dX5_canSit_23 rfl (lv_at hl 3 rfl) ?_
        refine tr_get (ci := 7) hx hb ht hown hK hT hP k_v (by decide) i_X7 rfl 4 (by decide) wd_247 rfl dX5_canSit_24 (fun v hv hf_9 => ?_)
        obtain ⟨q_10, rfl, hq_10⟩ := hv
        refine lv_iload_n hx hb dX5_canSit_27 rfl (lv_at hl 0 rfl) ?_
        refine tr_iald hx hb hK hT hP 21 hq_10 (by decide) (by decide) (show vp_in _ (tk_len 21) from ia_in (n := 3) (by omega) (by omega)) dX5_canSit_28 (fun n_11 hn_11 => ?_)
        clear hn_11
        refine lv_if_eq (tgt := 34) hx hb dX5_canSit_29 (by decide) (fun c_12 => ?_) (fun c_12 => ?_)
        · rw [← Int32.toInt_inj] at c_12
          obtain ⟨t_13, et_13⟩ : ∃ zz_ : Int32, x2_0 + Int32.ofInt (1) = zz_ := ⟨_, rfl⟩
          have ft_13 : t_13.toInt = x2_0.toInt + (1 : Int32).toInt := ia_add (y := 1) et_13 (by omega) (by omega)
          refine lv_iinc (v := t_13) (lv' := [(2, .int t_13), (3, .int n_4), (0, .ref t), (1, .ref v)]) hx hb dX5_canSit_34 hl (k := 1) rfl et_13 (by decide) rfl (fun ls hl => ?_)
          refine lv_goto (tgt := 2) hx hb dX5_canSit_37 (by decide) ?_
          exact ih2 t_13 (show 0 ≤ t_13.toInt ∧ t_13.toInt ≤ 5 from ⟨by omega, by omega⟩) (show (5 - t_13.toInt).toNat < (5 - x2_0.toInt).toNat by omega) H locs wt ls hT hW hP hD hS (lv_sub hl [0, 2, 3] rfl)
        · rw [← Int32.toInt_inj] at c_12
          refine lv_iconst (v := 0) hx hb dX5_canSit_32 (by decide +kernel) ?_
          have hP9 := tw_right hP
          have hD9 := tw_rightD hD
          exact W.zret (v := 0) hx hb hr (by decide +kernel) (gq_endI wt ⟨hT, hW, (by omega), (by omega)⟩ hP9 hD9 hS) hS.2.2 dX5_canSit_33
set_option maxHeartbeats 4000000 in
set_option maxRecDepth 100000 in
theorem d_ringIfSat (l : Launch) (G : gg_T) (Γ : Nat → Nat) (sz : Nat) (wt : va_W) (hT : tk_ty G Γ wt) (t : Nat) (w : Int32) (k_t : Γ t = 6) (lo_w : 0 ≤ w.toInt) (hi_w : w.toInt ≤ 2) : Met l yX5_ringIfSat (ts_L yX5_ringIfSat cX5_ringIfSat 2 none) ({ frames := 2, cells := 0, slots := 0, locals := 47 }) (gc_P G wt sz [.ref t, .int w]) (gc_V G (va_A wt sz) (fun (u : va_W) => tk_ty G Γ u ∧ tk_kp [] wt u) (fun u => u)) 0 0 (va_A wt sz) := by
  refine Met.ofW (cc := cX5_ringIfSat) (maxL := 2) (ret := none) (by decide) rfl ?_
  intro p e s m args below meth c s₁ B hml hv
  obtain ⟨rfl, hsz, hP, hK, hD0⟩ := hv
  have hx := B.exec
  have hb := B.bytes
  have hr := B.returns
  have ht := ts_ht (atoms_spec (ws := ts_L yX5_ringIfSat cX5_ringIfSat 2 none) B.pre)
  have hown : s.vm.findClass RX5 = some m.cls := findClass_of_methodNamed B.named
  have hlocks := B.notSynchronized
  subst hsz
  have hD := hD0.self (sz := s.heap.size)
  generalize hAe : va_A wt s.heap.size = A at hD ⊢
  have hA : ∀ q : Nat, s.heap.size ≤ q → A q := fun q h => by rw [← hAe]; exact Or.inr h
  clear hAe hD0
  have hS : va_S A s.heap s.heap [] := va_S.rf
  obtain ⟨w0, hw0⟩ : ∃ z, z = wt := ⟨_, rfl⟩
  have hW : tk_kp [] w0 wt := by rw [hw0]; exact tk_kp.rf
  rw [← hw0]
  clear hw0
  have hP : va_P (gg_D G) classes ([] ++ wt) s.heap := hP
  have hD : va_D A ([] ++ wt) := hD
  have hl := lv_entry ([.ref t, .int w]) (n := 2) (Nat.le_of_ble_eq_true rfl)
  rw [lg_entry_eq]
  generalize (lg_sl ([.ref t, .int w]) ++ List.replicate (2 - (lg_sl ([.ref t, .int w])).length) Slot.unset).toArray = ls at hl ⊢
  have hl : lv_has ls 2 [(0, .ref t), (1, .int w)] := hl
  have l0 : (0 : Int32).toInt = 0 := by decide +kernel
  refine lv_aload_n hx hb dX5_ringIfSat_0 rfl (lv_at hl 0 rfl) ?_
  refine tr_get (ci := 5) hx hb ht hown hK hT hP k_t (by decide) i_X5 rfl 0 (by decide) wd_430 rfl dX5_ringIfSat_1 (fun v hv hf_1 => ?_)
  obtain ⟨q_2, rfl, hq_2⟩ := hv
  refine tr_get (ci := 7) hx hb ht hown hK hT hP hq_2 (by decide) i_X7 rfl 4 (by decide) wd_247 rfl dX5_ringIfSat_4 (fun v hv hf_3 => ?_)
  obtain ⟨q_4, rfl, hq_4⟩ := hv
  refine lv_iload_n hx hb dX5_ringIfSat_7 rfl (lv_at hl 1 rfl) ?_
  refine tr_iald hx hb hK hT hP 21 hq_4 (by decide) (by decide) (show vp_in _ (tk_len 21) from ia_in (n := 3) (by omega) (by omega)) dX5_ringIfSat_8 (fun n_5 hn_5 => ?_)
  clear hn_5
  refine lv_if_ne (tgt := 32) hx hb dX5_ringIfSat_9 (by decide) (fun c_6 => ?_) (fun c_6 => ?_)
  · rw [← Int32.toInt_inj] at c_6
    have hP9 := tw_right hP
    have hD9 := tw_rightD hD
    exact W.vret hx hb hr (gq_endV wt ⟨hT, hW⟩ hP9 hD9 hS) hS.2.2 dX5_ringIfSat_32
  · rw [← Int32.toInt_inj] at c_6
    refine lv_aload_n hx hb dX5_ringIfSat_12 rfl (lv_at hl 0 rfl) ?_
    refine tr_get (ci := 5) hx hb ht hown hK hT hP k_t (by decide) i_X5 rfl 0 (by decide) wd_430 rfl dX5_ringIfSat_13 (fun v hv hf_7 => ?_)
    obtain ⟨q_8, rfl, hq_8⟩ := hv
    refine lv_iload_n hx hb dX5_ringIfSat_16 rfl (lv_at hl 1 rfl) ?_
    refine gt_callI (wr := []) (va_runV (As := [.int w]) (rest := []) ⟨hx, hb, hml, hown, ht⟩ (d_sittersOf l G Γ s.heap.size wt hT q_8 w hq_8) (cwV 1 ht (ts_gV wd_1074 wd_825 wd_826 wd_125 wd_827) rfl rfl rfl (by decide +kernel) ⟨Nat.le_of_ble_eq_true rfl, Nat.le_of_ble_eq_true rfl⟩) (gt_preW (ci := 7) hK hT (tw_right hP) (tw_rightD hD) hq_8 (by decide) rfl) rfl rfl hl.1 rfl (lv_room (Nat.le_of_ble_eq_true rfl)) dX5_ringIfSat_17 ⟨Nat.le_of_ble_eq_true rfl, Nat.le_of_ble_eq_true rfl⟩) hP hD hS hA (fun r_9 wt H locs hw hP hD hS => ?_)
    obtain ⟨hT, hkp, lo_r_9, hi_r_9⟩ := hw
    have hW := hW.call (show ∀ x ∈ [], x ∈ [] by decide) hkp
    refine lv_if_eq (tgt := 32) hx hb dX5_ringIfSat_20 (by decide) (fun c_10 => ?_) (fun c_10 => ?_)
    · rw [← Int32.toInt_inj] at c_10
      have hP9 := tw_right hP
      have hD9 := tw_rightD hD
      exact W.vret hx hb hr (gq_endV wt ⟨hT, hW⟩ hP9 hD9 hS) hS.2.2 dX5_ringIfSat_32
    · rw [← Int32.toInt_inj] at c_10
      refine lv_aload_n hx hb dX5_ringIfSat_23 rfl (lv_at hl 0 rfl) ?_
      refine tr_get (ci := 5) hx hb ht hown hK hT hP k_t (by decide) i_X5 rfl 0 (by decide) wd_430 rfl dX5_ringIfSat_24 (fun v hv hf_11 => ?_)
      obtain ⟨q_12, rfl, hq_12⟩ := hv
      refine lv_iload_n hx hb dX5_ringIfSat_27 rfl (lv_at hl 1 rfl) ?_
      refine gt_callI (wr := []) (va_runV (As := [.int w]) (rest := []) ⟨hx, hb, hml, hown, ht⟩ (d_begin l G Γ H.size wt hT q_12 w hq_12 (by omega) (by omega)) (cwV 1 ht (ts_gV wd_1075 wd_944 wd_945 wd_125 wd_946) rfl rfl rfl (by decide +kernel) ⟨Nat.le_of_ble_eq_true rfl, Nat.le_of_ble_eq_true rfl⟩) (gt_preW (ci := 7) hK hT (tw_right hP) (tw_rightD hD) hq_12 (by decide) rfl) rfl rfl hl.1 rfl (lv_room (Nat.le_of_ble_eq_true rfl)) dX5_ringIfSat_28 ⟨Nat.le_of_ble_eq_true rfl, Nat.le_of_ble_eq_true rfl⟩) hP hD hS hA (fun r_13 wt H locs hw hP hD hS => ?_)
      obtain ⟨hT, hkp⟩ := hw
      have hW := hW.call (show ∀ x ∈ [], x ∈ [] by decide) hkp
      refine lv_pop hx hb dX5_ringIfSat_31 rfl ?_
      have hP9 := tw_right hP
      have hD9 := tw_rightD hD
      exact W.vret hx hb hr (gq_endV wt ⟨hT, hW⟩ hP9 hD9 hS) hS.2.2 dX5_ringIfSat_32
set_option maxHeartbeats 4000000 in
set_option maxRecDepth 100000 in
theorem d_courseGains (l : Launch) (G : gg_T) (Γ : Nat → Nat) (sz : Nat) (wt : va_W) (hT : tk_ty G Γ wt) (t : Nat) (ck : Nat) (tm : Nat) (v : Nat) (k_t : Γ t = 6) (k_ck : Γ ck = 1) (k_tm : Γ tm = 10) (k_v : Γ v = 8) : Met l yX5_courseGains (ts_L yX5_courseGains cX5_courseGains 5 (some .int)) ({ frames := 5, cells := 0, slots := 0, locals := 123 }) (gc_P G wt sz [.ref t, .ref ck, .ref tm, .ref v]) (gc_I G (va_A wt sz) (fun r (u : va_W) => tk_ty G Γ u ∧ tk_kp [709] wt u) (fun u => u)) 0 0 (va_A wt sz) := by
  refine Met.ofW (cc := cX5_courseGains) (maxL := 5) (ret := (some .int)) (by decide) rfl ?_
  intro p e s m args below meth c s₁ B hml hv
  obtain ⟨rfl, hsz, hP, hK, hD0⟩ := hv
  have hx := B.exec
  have hb := B.bytes
  have hr := B.returns
  have ht := ts_ht (atoms_spec (ws := ts_L yX5_courseGains cX5_courseGains 5 (some .int)) B.pre)
  have hown : s.vm.findClass RX5 = some m.cls := findClass_of_methodNamed B.named
  have hlocks := B.notSynchronized
  subst hsz
  have hD := hD0.self (sz := s.heap.size)
  generalize hAe : va_A wt s.heap.size = A at hD ⊢
  have hA : ∀ q : Nat, s.heap.size ≤ q → A q := fun q h => by rw [← hAe]; exact Or.inr h
  clear hAe hD0
  have hS : va_S A s.heap s.heap [] := va_S.rf
  obtain ⟨w0, hw0⟩ : ∃ z, z = wt := ⟨_, rfl⟩
  have hW : tk_kp [709] w0 wt := by rw [hw0]; exact tk_kp.rf
  rw [← hw0]
  clear hw0
  have hP : va_P (gg_D G) classes ([] ++ wt) s.heap := hP
  have hD : va_D A ([] ++ wt) := hD
  have hl := lv_entry ([.ref t, .ref ck, .ref tm, .ref v]) (n := 5) (Nat.le_of_ble_eq_true rfl)
  rw [lg_entry_eq]
  generalize (lg_sl ([.ref t, .ref ck, .ref tm, .ref v]) ++ List.replicate (5 - (lg_sl ([.ref t, .ref ck, .ref tm, .ref v])).length) Slot.unset).toArray = ls at hl ⊢
  have hl : lv_has ls 5 [(0, .ref t), (1, .ref ck), (2, .ref tm), (3, .ref v)] := hl
  have lm2 : ((-2) : Int32).toInt = -2 := by decide +kernel
  have l0 : (0 : Int32).toInt = 0 := by decide +kernel
  have l1 : (1 : Int32).toInt = 1 := by decide +kernel
  have l5 : (5 : Int32).toInt = 5 := by decide +kernel
  have l300 : (300 : Int32).toInt = 300 := by decide +kernel
  refine lv_aload_n hx hb dX5_courseGains_0 rfl (lv_at hl 0 rfl) ?_
  refine tr_get (ci := 5) hx hb ht hown hK hT hP k_t (by decide) i_X5 rfl 0 (by decide) wd_430 rfl dX5_courseGains_1 (fun v hv hf_1 => ?_)
  obtain ⟨q_2, rfl, hq_2⟩ := hv
  refine lv_aload_n hx hb dX5_courseGains_4 rfl (lv_at hl 3 rfl) ?_
  refine gt_callV (wr := []) (va_runV (As := [.ref v]) (rest := []) ⟨hx, hb, hml, hown, ht⟩ (d_S_copyFrom l G Γ s.heap.size wt hT q_2 v hq_2 k_v) (cwV 1 ht (ts_gV wd_1068 wd_863 wd_864 wd_125 wd_865) rfl rfl rfl (by decide +kernel) ⟨Nat.le_of_ble_eq_true rfl, Nat.le_of_ble_eq_true rfl⟩) (gt_preW (ci := 7) hK hT (tw_right hP) (tw_rightD hD) hq_2 (by decide) rfl) rfl rfl hl.1 rfl (lv_room (Nat.le_of_ble_eq_true rfl)) dX5_courseGains_5 ⟨Nat.le_of_ble_eq_true rfl, Nat.le_of_ble_eq_true rfl⟩) hP hD hS hA (fun wt H locs hw hP hD hS => ?_)
  obtain ⟨hT, hkp⟩ := hw
  have hW := hW.call (show ∀ x ∈ [709], x ∈ [709] by decide) hkp
  refine lv_iconst (v := 0) hx hb dX5_courseGains_8 (by decide +kernel) ?_
  refine lv_istore (lv' := [(4, .int 0), (0, .ref t), (1, .ref ck), (2, .ref tm), (3, .ref v)]) hx hb dX5_courseGains_9 hl (by decide) rfl (fun ls hl => ?_)
  refine tl_loopE (Γ := Γ) (nL := 5) (fun (zz_ : Int32) => match zz_ with | x11_0 => 0 ≤ x11_0.toInt ∧ x11_0.toInt ≤ 5) (fun (zz_ : Int32) => match zz_ with | x11_0 => (5 - x11_0.toInt).toNat) (fun (zz_ : Int32) => match zz_ with | x11_0 => [(4, .int x11_0), (0, .ref t), (1, .ref ck), (2, .ref tm), (3, .ref v)]) (fun (zz_ : Int32) => match zz_ with | x11_0 => []) (fun (zz_ : Int32) (w : va_W) => match zz_ with | x11_0 => tk_kp [709] w0 w) (fun zz_ hI H locs wt ls hT hW hP hD hS hl ih11 => ?_) 0 (show 0 ≤ (0 : Int32).toInt ∧ (0 : Int32).toInt ≤ 5 from ⟨by omega, by omega⟩) _ _ wt ls hT hW hP hD hS hl
  obtain ⟨x11_0, rfl⟩ : ∃ z2, z2 = zz_ := ⟨_, rfl⟩
  have hW : tk_kp [709] w0 wt := hW
  have hI : 0 ≤ x11_0.toInt ∧ x11_0.toInt ≤ 5 := hI
  obtain ⟨j11_0, j11_1⟩ := hI
  have hl : lv_has ls 5 [(4, .int x11_0), (0, .ref t), (1, .ref ck), (2, .ref tm), (3, .ref v)] := hl
  have hP : va_P (gg_D G) classes ([] ++ wt) H := hP
  have hD : va_D A ([] ++ wt) := hD
  refine lv_iload hx hb dX5_courseGains_11 (lv_at hl 0 rfl) ?_
  refine lv_iconst (v := 5) hx hb dX5_courseGains_13 (by decide +kernel) ?_
  refine lv_icmp_ge (tgt := 65) hx hb dX5_courseGains_14 (by decide) (fun c_3 => ?_) (fun c_3 => ?_)
  · rw [Int32.le_iff_toInt_le] at c_3
    refine lv_iconst (v := 0) hx hb dX5_courseGains_65 (by decide +kernel) ?_
    refine lv_istore (lv' := [(4, .int 0), (0, .ref t), (1, .ref ck), (2, .ref tm), (3, .ref v)]) hx hb dX5_courseGains_66 hl (by decide) rfl (fun ls hl => ?_)
    refine tl_loopE (Γ := Γ) (nL := 5) (fun (zz_ : Int32) => match zz_ with | x68_0 => 0 ≤ x68_0.toInt ∧ x68_0.toInt ≤ 3) (fun (zz_ : Int32) => match zz_ with | x68_0 => (3 - x68_0.toInt).toNat) (fun (zz_ : Int32) => match zz_ with | x68_0 => [(4, .int x68_0), (0, .ref t), (1, .ref ck), (2, .ref tm), (3, .ref v)]) (fun (zz_ : Int32) => match zz_ with | x68_0 => []) (fun (zz_ : Int32) (w : va_W) => match zz_ with | x68_0 => tk_kp [709] w0 w) (fun zz_ hI H locs wt ls hT hW hP hD hS hl ih68 => ?_) 0 (show 0 ≤ (0 : Int32).toInt ∧ (0 : Int32).toInt ≤ 3 from ⟨by omega, by omega⟩) _ _ wt ls hT hW hP hD hS hl
    obtain ⟨x68_0, rfl⟩ : ∃ z2, z2 = zz_ := ⟨_, rfl⟩
    have hW : tk_kp [709] w0 wt := hW
    have hI : 0 ≤ x68_0.toInt ∧ x68_0.toInt ≤ 3 := hI
    obtain ⟨j68_0, j68_1⟩ := hI
    have hl : lv_has ls 5 [(4, .int x68_0), (0, .ref t), (1, .ref ck), (2, .ref tm), (3, .ref v)] := hl
    have hP : va_P (gg_D G) classes ([] ++ wt) H := hP
    have hD : va_D A ([] ++ wt) := hD
    refine lv_iload hx hb dX5_courseGains_68 (lv_at hl 0 rfl) ?_
    refine lv_aload_n hx hb dX5_courseGains_70 rfl (lv_at hl 3 rfl) ?_
    refine tr_get (ci := 9) hx hb ht hown hK hT hP k_tm (by decide) i_X9 rfl 2 (by decide) wd_188 rfl dX5_courseGains_71 (fun v hv hf_4 => ?_)
    obtain ⟨n_5, rfl, lo_n_5, hi_n_5⟩ := hv
    refine lv_icmp_ge (tgt := 89) hx hb dX5_courseGains_74 (by decide) (fun c_6 => ?_) (fun c_6 => ?_)
    · rw [Int32.le_iff_toInt_le] at c_6
      refine lv_iconst (v := 0) hx hb dX5_courseGains_89 (by decide +kernel) ?_
      refine lv_istore (lv' := [(4, .int 0), (0, .ref t), (1, .ref ck), (2, .ref tm), (3, .ref v)]) hx hb dX5_courseGains_90 hl (by decide) rfl (fun ls hl => ?_)
      refine tl_loopE (Γ := Γ) (nL := 5) (fun (zz_ : Int32) => match zz_ with | x92_0 => 0 ≤ x92_0.toInt ∧ x92_0.toInt ≤ 300) (fun (zz_ : Int32) => match zz_ with | x92_0 => (300 - x92_0.toInt).toNat) (fun (zz_ : Int32) => match zz_ with | x92_0 => [(4, .int x92_0), (0, .ref t), (1, .ref ck), (2, .ref tm), (3, .ref v)]) (fun (zz_ : Int32) => match zz_ with | x92_0 => []) (fun (zz_ : Int32) (w : va_W) => match zz_ with | x92_0 => tk_kp [709] w0 w) (fun zz_ hI H locs wt ls hT hW hP hD hS hl ih92 => ?_) 0 (show 0 ≤ (0 : Int32).toInt ∧ (0 : Int32).toInt ≤ 300 from ⟨by omega, by omega⟩) _ _ wt ls hT hW hP hD hS hl
      obtain ⟨x92_0, rfl⟩ : ∃ z2, z2 = zz_ := ⟨_, rfl⟩
      have hW : tk_kp [709] w0 wt := hW
      have hI : 0 ≤ x92_0.toInt ∧ x92_0.toInt ≤ 300 := hI
      obtain ⟨j92_0, j92_1⟩ := hI
      have hl : lv_has ls 5 [(4, .int x92_0), (0, .ref t), (1, .ref ck), (2, .ref tm), (3, .ref v)] := hl
      have hP : va_P (gg_D G) classes ([] ++ wt) H := hP
      have hD : va_D A ([] ++ wt) := hD
      refine lv_iload hx hb dX5_courseGains_92 (lv_at hl 0 rfl) ?_
      refine lv_sipush (v := 300) hx hb dX5_courseGains_94 (by decide +kernel) ?_
      refine lv_icmp_ge (tgt := 127) hx hb dX5_courseGains_97 (by decide) (fun c_7 => ?_) (fun c_7 => ?_)
      · rw [Int32.le_iff_toInt_le] at c_7
        refine lv_aload_n hx hb dX5_courseGains_127 rfl (lv_at hl 1 rfl) ?_
        refine tr_get (ci := 5) hx hb ht hown hK hT hP k_t (by decide) i_X5 rfl 0 (by decide) wd_430 rfl dX5_courseGains_128 (fun v hv hf_8 => ?_)
        obtain ⟨q_9, rfl, hq_9⟩ := hv
        refine lv_aload_n hx hb dX5_courseGains_131 rfl (lv_at hl 3 rfl) ?_
        refine gt_callI (wr := []) (va_runV (As := [.ref tm]) (rest := []) ⟨hx, hb, hml, hown, ht⟩ (d_allGains l G Γ H.size wt hT q_9 tm hq_9 k_tm) (cwV 1 ht (ts_gV wd_1059 wd_1060 wd_1061 wd_125 wd_1062) rfl rfl rfl (by decide +kernel) ⟨Nat.le_of_ble_eq_true rfl, Nat.le_of_ble_eq_true rfl⟩) (gt_preW (ci := 7) hK hT (tw_right hP) (tw_rightD hD) hq_9 (by decide) rfl) rfl rfl hl.1 rfl (lv_room (Nat.le_of_ble_eq_true rfl)) dX5_courseGains_132 ⟨Nat.le_of_ble_eq_true rfl, Nat.le_of_ble_eq_true rfl⟩) hP hD hS hA (fun r_10 wt H locs hw hP hD hS => ?_)
        obtain ⟨hT, hkp⟩ := hw
        have hW := hW.call (show ∀ x ∈ [], x ∈ [709] by decide) hkp
        have hP9 := tw_right hP
        have hD9 := tw_rightD hD
        exact W.iret (v := r_10) hx hb hr (gq_endI wt ⟨hT, hW⟩ hP9 hD9 hS) hS.2.2 dX5_courseGains_135
      · rw [Int32.le_iff_toInt_le] at c_7
        refine lv_aload_n hx hb dX5_courseGains_100 rfl (lv_at hl 1 rfl) ?_
        refine tr_get (ci := 5) hx hb ht hown hK hT hP k_t (by decide) i_X5 rfl 0 (by decide) wd_430 rfl dX5_courseGains_101 (fun v hv hf_11 => ?_)
        obtain ⟨q_12, rfl, hq_12⟩ := hv
        refine lv_iconst (v := 1) hx hb dX5_courseGains_104 (by decide +kernel) ?_
        refine gt_callI (wr := []) (va_runV (As := [.int 1]) (rest := []) ⟨hx, hb, hml, hown, ht⟩ (d_lotsAt l G Γ H.size wt hT q_12 1 hq_12) (cwV 1 ht (ts_gV wd_1094 wd_847 wd_848 wd_125 wd_849) rfl rfl rfl (by decide +kernel) ⟨Nat.le_of_ble_eq_true rfl, Nat.le_of_ble_eq_true rfl⟩) (gt_preW (ci := 7) hK hT (tw_right hP) (tw_rightD hD) hq_12 (by decide) rfl) rfl rfl hl.1 rfl (lv_room (Nat.le_of_ble_eq_true rfl)) dX5_courseGains_105 ⟨Nat.le_of_ble_eq_true rfl, Nat.le_of_ble_eq_true rfl⟩) hP hD hS hA (fun r_13 wt H locs hw hP hD hS => ?_)
        obtain ⟨hT, hkp, lo_r_13, hi_r_13⟩ := hw
        have hW := hW.call (show ∀ x ∈ [], x ∈ [709] by decide) hkp
        refine lv_if_eq (tgt := 127) hx hb dX5_courseGains_108 (by decide) (fun c_14 => ?_) (fun c_14 => ?_)
        · rw [← Int32.toInt_inj] at c_14
          refine lv_aload_n hx hb dX5_courseGains_127 rfl (lv_at hl 1 rfl) ?_
          refine tr_get (ci := 5) hx hb ht hown hK hT hP k_t (by decide) i_X5 rfl 0 (by decide) wd_430 rfl dX5_courseGains_128 (fun v hv hf_15 => ?_)
          obtain ⟨q_16, rfl, hq_16⟩ := hv
          refine lv_aload_n hx hb dX5_courseGains_131 rfl (lv_at hl 3 rfl) ?_
          refine gt_callI (wr := []) (va_runV (As := [.ref tm]) (rest := []) ⟨hx, hb, hml, hown, ht⟩ (d_allGains l G Γ H.size wt hT q_16 tm hq_16 k_tm) (cwV 1 ht (ts_gV wd_1059 wd_1060 wd_1061 wd_125 wd_1062) rfl rfl rfl (by decide +kernel) ⟨Nat.le_of_ble_eq_true rfl, Nat.le_of_ble_eq_true rfl⟩) (gt_preW (ci := 7) hK hT (tw_right hP) (tw_rightD hD) hq_16 (by decide) rfl) rfl rfl hl.1 rfl (lv_room (Nat.le_of_ble_eq_true rfl)) dX5_courseGains_132 ⟨Nat.le_of_ble_eq_true rfl, Nat.le_of_ble_eq_true rfl⟩) hP hD hS hA (fun r_17 wt H locs hw hP hD hS => ?_)
          obtain ⟨hT, hkp⟩ := hw
          have hW := hW.call (show ∀ x ∈ [], x ∈ [709] by decide) hkp
          have hP9 := tw_right hP
          have hD9 := tw_rightD hD
          exact W.iret (v := r_17) hx hb hr (gq_endI wt ⟨hT, hW⟩ hP9 hD9 hS) hS.2.2 dX5_courseGains_135
        · rw [← Int32.toInt_inj] at c_14
          refine lv_aload_n hx hb dX5_courseGains_111 rfl (lv_at hl 2 rfl) ?_
          refine lv_aload_n hx hb dX5_courseGains_112 rfl (lv_at hl 1 rfl) ?_
          refine tr_get (ci := 5) hx hb ht hown hK hT hP k_t (by decide) i_X5 rfl 0 (by decide) wd_430 rfl dX5_courseGains_113 (fun v hv hf_18 => ?_)
          obtain ⟨q_19, rfl, hq_19⟩ := hv
          refine lv_iconst (v := 0) hx hb dX5_courseGains_116 (by decide +kernel) ?_
          refine gt_callI (wr := []) (va_runV (As := [.ref q_19, .int 0]) (rest := []) ⟨hx, hb, hml, hown, ht⟩ (d_pass l G Γ H.size wt hT ck q_19 0 k_ck hq_19) (cwV 2 ht (ts_gV wd_1095 wd_877 wd_878 wd_130 wd_879) rfl rfl rfl (by decide +kernel) ⟨Nat.le_of_ble_eq_true rfl, Nat.le_of_ble_eq_true rfl⟩) (gt_preW (ci := 0) hK hT (tw_right hP) (tw_rightD hD) k_ck (by decide) rfl) rfl rfl hl.1 rfl (lv_room (Nat.le_of_ble_eq_true rfl)) dX5_courseGains_117 ⟨Nat.le_of_ble_eq_true rfl, Nat.le_of_ble_eq_true rfl⟩) hP hD hS hA (fun r_20 wt H locs hw hP hD hS => ?_)
          obtain ⟨hT, hkp⟩ := hw
          have hW := hW.call (show ∀ x ∈ [709], x ∈ [709] by decide) hkp
          refine lv_pop hx hb dX5_courseGains_120 rfl ?_
          obtain ⟨t_21, et_21⟩ : ∃ zz_ : Int32, x92_0 + Int32.ofInt (1) = zz_ := ⟨_, rfl⟩
          have ft_21 : t_21.toInt = x92_0.toInt + (1 : Int32).toInt := ia_add (y := 1) et_21 (by omega) (by omega)
          refine lv_iinc (v := t_21) (lv' := [(4, .int t_21), (0, .ref t), (1, .ref ck), (2, .ref tm), (3, .ref v)]) hx hb dX5_courseGains_121 hl (k := 0) rfl et_21 (by decide) rfl (fun ls hl => ?_)
          refine lv_goto (tgt := 92) hx hb dX5_courseGains_124 (by decide) ?_
          exact ih92 t_21 (show 0 ≤ t_21.toInt ∧ t_21.toInt ≤ 300 from ⟨by omega, by omega⟩) (show (300 - t_21.toInt).toNat < (300 - x92_0.toInt).toNat by omega) H locs wt ls hT hW hP hD hS (lv_sub hl [0, 1, 2, 3, 4] rfl)
    · rw [Int32.le_iff_toInt_le] at c_6
      refine lv_aload_n hx hb dX5_courseGains_77 rfl (lv_at hl 1 rfl) ?_
      refine lv_iload hx hb dX5_courseGains_78 (lv_at hl 0 rfl) ?_
      refine gt_callV (wr := []) (va_runV (As := [.int x68_0]) (rest := []) ⟨hx, hb, hml, hown, ht⟩ (d_ringIfSat l G Γ H.size wt hT t x68_0 k_t (by omega) (by omega)) (cwV 1 ht (ts_gV wd_1070 wd_1072 wd_27 wd_131 wd_1073) rfl rfl rfl (by decide +kernel) ⟨Nat.le_of_ble_eq_true rfl, Nat.le_of_ble_eq_true rfl⟩) (gt_preW (ci := 5) hK hT (tw_right hP) (tw_rightD hD) k_t (by decide) rfl) rfl rfl hl.1 rfl (lv_room (Nat.le_of_ble_eq_true rfl)) dX5_courseGains_80 ⟨Nat.le_of_ble_eq_true rfl, Nat.le_of_ble_eq_true rfl⟩) hP hD hS hA (fun wt H locs hw hP hD hS => ?_)
      obtain ⟨hT, hkp⟩ := hw
      have hW := hW.call (show ∀ x ∈ [], x ∈ [709] by decide) hkp
      have hf_4 := hkp _ _ _ _ (by decide) (by decide) hf_4
      obtain ⟨t_22, et_22⟩ : ∃ zz_ : Int32, x68_0 + Int32.ofInt (1) = zz_ := ⟨_, rfl⟩
      have ft_22 : t_22.toInt = x68_0.toInt + (1 : Int32).toInt := ia_add (y := 1) et_22 (by omega) (by omega)
      refine lv_iinc (v := t_22) (lv' := [(4, .int t_22), (0, .ref t), (1, .ref ck), (2, .ref tm), (3, .ref v)]) hx hb dX5_courseGains_83 hl (k := 0) rfl et_22 (by decide) rfl (fun ls hl => ?_)
      refine lv_goto (tgt := 68) hx hb dX5_courseGains_86 (by decide) ?_
      exact ih68 t_22 (show 0 ≤ t_22.toInt ∧ t_22.toInt ≤ 3 from ⟨by omega, by omega⟩) (show (3 - t_22.toInt).toNat < (3 - x68_0.toInt).toNat by omega) H locs wt ls hT hW hP hD hS (lv_sub hl [0, 1, 2, 3, 4] rfl)
  · rw [Int32.le_iff_toInt_le] at c_3
    refine lv_aload_n hx hb dX5_courseGains_17 rfl (lv_at hl 1 rfl) ?_
    refine tr_get (ci := 5) hx hb ht hown hK hT hP k_t (by decide) i_X5 rfl 0 (by decide) wd_430 rfl dX5_courseGains_18 (fun v hv hf_23 => ?_)
    obtain ⟨q_24, rfl, hq_24⟩ := hv
    refine tr_get (ci := 7) hx hb ht hown hK hT hP hq_24 (by decide) i_X7 rfl 2 (by decide) wd_241 rfl dX5_courseGains_21 (fun v hv hf_25 => ?_)
    obtain ⟨q_26, rfl, hq_26⟩ := hv
    refine lv_iload hx hb dX5_courseGains_24 (lv_at hl 0 rfl) ?_
    refine lv_aload_n hx hb dX5_courseGains_26 rfl (lv_at hl 1 rfl) ?_
    refine tr_get (ci := 5) hx hb ht hown hK hT hP k_t (by decide) i_X5 rfl 1 (by decide) wd_431 rfl dX5_courseGains_27 (fun v hv hf_27 => ?_)
    obtain ⟨q_28, rfl, hq_28⟩ := hv
    refine lv_iload hx hb dX5_courseGains_30 (lv_at hl 0 rfl) ?_
    refine tr_iald hx hb hK hT hP 20 hq_28 (by decide) (by decide) (show vp_in _ (tk_len 20) from ia_in (n := 5) (by omega) (by omega)) dX5_courseGains_32 (fun n_29 hn_29 => ?_)
    clear hn_29
    refine lv_bipush (v := (-2)) hx hb dX5_courseGains_33 (by decide +kernel) ?_
    refine lv_icmp_ne (tgt := 51) hx hb dX5_courseGains_35 (by decide) (fun c_30 => ?_) (fun c_30 => ?_)
    · rw [← Int32.toInt_inj] at c_30
      refine lv_aload_n hx hb dX5_courseGains_51 rfl (lv_at hl 1 rfl) ?_
      refine tr_get (ci := 5) hx hb ht hown hK hT hP k_t (by decide) i_X5 rfl 1 (by decide) wd_431 rfl dX5_courseGains_52 (fun v hv hf_31 => ?_)
      obtain ⟨q_32, rfl, hq_32⟩ := hv
      refine lv_iload hx hb dX5_courseGains_55 (lv_at hl 0 rfl) ?_
      refine tr_iald hx hb hK hT hP 20 hq_32 (by decide) (by decide) (show vp_in _ (tk_len 20) from ia_in (n := 5) (by omega) (by omega)) dX5_courseGains_57 (fun n_33 hn_33 => ?_)
      clear hn_33
      refine tr_iast hx hb hK hT hP hD hS 20 hq_26 (by decide) (by decide) (show vp_in _ (tk_len 20) from ia_in (n := 5) (by omega) (by omega)) (show tk_e 20 _ from trivial) dX5_courseGains_58 (fun H locs wt hT hfl hP hD hS => ?_)
      have hW := hW.arr hfl
      obtain ⟨t_34, et_34⟩ : ∃ zz_ : Int32, x11_0 + Int32.ofInt (1) = zz_ := ⟨_, rfl⟩
      have ft_34 : t_34.toInt = x11_0.toInt + (1 : Int32).toInt := ia_add (y := 1) et_34 (by omega) (by omega)
      refine lv_iinc (v := t_34) (lv' := [(4, .int t_34), (0, .ref t), (1, .ref ck), (2, .ref tm), (3, .ref v)]) hx hb dX5_courseGains_59 hl (k := 0) rfl et_34 (by decide) rfl (fun ls hl => ?_)
      refine lv_goto (tgt := 11) hx hb dX5_courseGains_62 (by decide) ?_
      exact ih11 t_34 (show 0 ≤ t_34.toInt ∧ t_34.toInt ≤ 5 from ⟨by omega, by omega⟩) (show (5 - t_34.toInt).toNat < (5 - x11_0.toInt).toNat by omega) H locs wt ls hT hW hP hD hS (lv_sub hl [0, 1, 2, 3, 4] rfl)
    · rw [← Int32.toInt_inj] at c_30
      refine lv_aload_n hx hb dX5_courseGains_38 rfl (lv_at hl 1 rfl) ?_
      refine tr_get (ci := 5) hx hb ht hown hK hT hP k_t (by decide) i_X5 rfl 0 (by decide) wd_430 rfl dX5_courseGains_39 (fun v hv hf_35 => ?_)
      obtain ⟨q_36, rfl, hq_36⟩ := hv
      refine tr_get (ci := 7) hx hb ht hown hK hT hP hq_36 (by decide) i_X7 rfl 2 (by decide) wd_241 rfl dX5_courseGains_42 (fun v hv hf_37 => ?_)
      obtain ⟨q_38, rfl, hq_38⟩ := hv
      refine lv_iload hx hb dX5_courseGains_45 (lv_at hl 0 rfl) ?_
      refine tr_iald hx hb hK hT hP 20 hq_38 (by decide) (by decide) (show vp_in _ (tk_len 20) from ia_in (n := 5) (by omega) (by omega)) dX5_courseGains_47 (fun n_39 hn_39 => ?_)
      clear hn_39
      refine lv_goto (tgt := 58) hx hb dX5_courseGains_48 (by decide) ?_
      refine tr_iast hx hb hK hT hP hD hS 20 hq_26 (by decide) (by decide) (show vp_in _ (tk_len 20) from ia_in (n := 5) (by omega) (by omega)) (show tk_e 20 _ from trivial) dX5_courseGains_58 (fun H locs wt hT hfl hP hD hS => ?_)
      have hW := hW.arr hfl
      obtain ⟨t_40, et_40⟩ : ∃ zz_ : Int32, x11_0 + Int32.ofInt (1) = zz_ := ⟨_, rfl⟩
      have ft_40 : t_40.toInt = x11_0.toInt + (1 : Int32).toInt := ia_add (y := 1) et_40 (by omega) (by omega)
      refine lv_iinc (v := t_40) (lv' := [(4, .int t_40), (0, .ref t), (1, .ref ck), (2, .ref tm), (3, .ref v)]) hx hb dX5_courseGains_59 hl (k := 0) rfl et_40 (by decide) rfl (fun ls hl => ?_)
      refine lv_goto (tgt := 11) hx hb dX5_courseGains_62 (by decide) ?_
      exact ih11 t_40 (show 0 ≤ t_40.toInt ∧ t_40.toInt ≤ 5 from ⟨by omega, by omega⟩) (show (5 - t_40.toInt).toNat < (5 - x11_0.toInt).toNat by omega) H locs wt ls hT hW hP hD hS (lv_sub hl [0, 1, 2, 3, 4] rfl)
set_option maxHeartbeats 4000000 in
set_option maxRecDepth 100000 in
theorem d_setGains (l : Launch) (G : gg_T) (Γ : Nat → Nat) (sz : Nat) (wt : va_W) (hT : tk_ty G Γ wt) (t : Nat) (ck : Nat) (tm : Nat) (v : Nat) (w : Int32) (z : Int32) (k_t : Γ t = 6) (k_ck : Γ ck = 1) (k_tm : Γ tm = 10) (k_v : Γ v = 8) (lo_w : 0 ≤ w.toInt) (hi_w : w.toInt ≤ 2) : Met l yX5_setGains (ts_L yX5_setGains cX5_setGains 7 (some .int)) ({ frames := 4, cells := 0, slots := 0, locals := 99 }) (gc_P G wt sz [.ref t, .ref ck, .ref tm, .ref v, .int w, .int z]) (gc_I G (va_A wt sz) (fun r (u : va_W) => tk_ty G Γ u ∧ tk_kp [709] wt u) (fun u => u)) 0 0 (va_A wt sz) := by
  refine Met.ofW (cc := cX5_setGains) (maxL := 7) (ret := (some .int)) (by decide) rfl ?_
  intro p e s m args below meth c s₁ B hml hv
  obtain ⟨rfl, hsz, hP, hK, hD0⟩ := hv
  have hx := B.exec
  have hb := B.bytes
  have hr := B.returns
  have ht := ts_ht (atoms_spec (ws := ts_L yX5_setGains cX5_setGains 7 (some .int)) B.pre)
  have hown : s.vm.findClass RX5 = some m.cls := findClass_of_methodNamed B.named
  have hlocks := B.notSynchronized
  subst hsz
  have hD := hD0.self (sz := s.heap.size)
  generalize hAe : va_A wt s.heap.size = A at hD ⊢
  have hA : ∀ q : Nat, s.heap.size ≤ q → A q := fun q h => by rw [← hAe]; exact Or.inr h
  clear hAe hD0
  have hS : va_S A s.heap s.heap [] := va_S.rf
  obtain ⟨w0, hw0⟩ : ∃ z, z = wt := ⟨_, rfl⟩
  have hW : tk_kp [709] w0 wt := by rw [hw0]; exact tk_kp.rf
  rw [← hw0]
  clear hw0
  have hP : va_P (gg_D G) classes ([] ++ wt) s.heap := hP
  have hD : va_D A ([] ++ wt) := hD
  have hl := lv_entry ([.ref t, .ref ck, .ref tm, .ref v, .int w, .int z]) (n := 7) (Nat.le_of_ble_eq_true rfl)
  rw [lg_entry_eq]
  generalize (lg_sl ([.ref t, .ref ck, .ref tm, .ref v, .int w, .int z]) ++ List.replicate (7 - (lg_sl ([.ref t, .ref ck, .ref tm, .ref v, .int w, .int z])).length) Slot.unset).toArray = ls at hl ⊢
  have hl : lv_has ls 7 [(0, .ref t), (1, .ref ck), (2, .ref tm), (3, .ref v), (4, .int w), (5, .int z)] := hl
  have lm1 : ((-1) : Int32).toInt = -1 := by decide +kernel
  have l0 : (0 : Int32).toInt = 0 := by decide +kernel
  have l1 : (1 : Int32).toInt = 1 := by decide +kernel
  have l5 : (5 : Int32).toInt = 5 := by decide +kernel
  have l300 : (300 : Int32).toInt = 300 := by decide +kernel
  refine lv_aload_n hx hb dX5_setGains_0 rfl (lv_at hl 0 rfl) ?_
  refine tr_get (ci := 5) hx hb ht hown hK hT hP k_t (by decide) i_X5 rfl 0 (by decide) wd_430 rfl dX5_setGains_1 (fun v hv hf_1 => ?_)
  obtain ⟨q_2, rfl, hq_2⟩ := hv
  refine lv_aload_n hx hb dX5_setGains_4 rfl (lv_at hl 3 rfl) ?_
  refine gt_callV (wr := []) (va_runV (As := [.ref v]) (rest := []) ⟨hx, hb, hml, hown, ht⟩ (d_S_copyFrom l G Γ s.heap.size wt hT q_2 v hq_2 k_v) (cwV 1 ht (ts_gV wd_1068 wd_863 wd_864 wd_125 wd_865) rfl rfl rfl (by decide +kernel) ⟨Nat.le_of_ble_eq_true rfl, Nat.le_of_ble_eq_true rfl⟩) (gt_preW (ci := 7) hK hT (tw_right hP) (tw_rightD hD) hq_2 (by decide) rfl) rfl rfl hl.1 rfl (lv_room (Nat.le_of_ble_eq_true rfl)) dX5_setGains_5 ⟨Nat.le_of_ble_eq_true rfl, Nat.le_of_ble_eq_true rfl⟩) hP hD hS hA (fun wt H locs hw hP hD hS => ?_)
  obtain ⟨hT, hkp⟩ := hw
  have hW := hW.call (show ∀ x ∈ [709], x ∈ [709] by decide) hkp
  refine lv_aload_n hx hb dX5_setGains_8 rfl (lv_at hl 3 rfl) ?_
  refine tr_get (ci := 7) hx hb ht hown hK hT hP k_v (by decide) i_X7 rfl 4 (by decide) wd_247 rfl dX5_setGains_9 (fun v hv hf_3 => ?_)
  obtain ⟨q_4, rfl, hq_4⟩ := hv
  refine lv_iload hx hb dX5_setGains_12 (lv_at hl 4 rfl) ?_
  refine tr_iald hx hb hK hT hP 21 hq_4 (by decide) (by decide) (show vp_in _ (tk_len 21) from ia_in (n := 3) (by omega) (by omega)) dX5_setGains_14 (fun n_5 hn_5 => ?_)
  clear hn_5
  refine lv_if_ne (tgt := 59) hx hb dX5_setGains_15 (by decide) (fun c_6 => ?_) (fun c_6 => ?_)
  · rw [← Int32.toInt_inj] at c_6
    refine lv_aload_n hx hb dX5_setGains_59 rfl (lv_at hl 0 rfl) ?_
    refine lv_iload hx hb dX5_setGains_60 (lv_at hl 4 rfl) ?_
    refine gt_callV (wr := []) (va_runV (As := [.int w]) (rest := []) ⟨hx, hb, hml, hown, ht⟩ (d_ringIfSat l G Γ H.size wt hT t w k_t (by omega) (by omega)) (cwV 1 ht (ts_gV wd_1070 wd_1072 wd_27 wd_131 wd_1073) rfl rfl rfl (by decide +kernel) ⟨Nat.le_of_ble_eq_true rfl, Nat.le_of_ble_eq_true rfl⟩) (gt_preW (ci := 5) hK hT (tw_right hP) (tw_rightD hD) k_t (by decide) rfl) rfl rfl hl.1 rfl (lv_room (Nat.le_of_ble_eq_true rfl)) dX5_setGains_62 ⟨Nat.le_of_ble_eq_true rfl, Nat.le_of_ble_eq_true rfl⟩) hP hD hS hA (fun wt H locs hw hP hD hS => ?_)
    obtain ⟨hT, hkp⟩ := hw
    have hW := hW.call (show ∀ x ∈ [], x ∈ [709] by decide) hkp
    refine lv_iconst (v := 0) hx hb dX5_setGains_65 (by decide +kernel) ?_
    refine lv_istore (lv' := [(6, .int 0), (0, .ref t), (1, .ref ck), (2, .ref tm), (3, .ref v), (4, .int w), (5, .int z)]) hx hb dX5_setGains_66 hl (by decide) rfl (fun ls hl => ?_)
    refine tl_loopE (Γ := Γ) (nL := 7) (fun (zz_ : Int32) => match zz_ with | x68_0 => 0 ≤ x68_0.toInt ∧ x68_0.toInt ≤ 300) (fun (zz_ : Int32) => match zz_ with | x68_0 => (300 - x68_0.toInt).toNat) (fun (zz_ : Int32) => match zz_ with | x68_0 => [(6, .int x68_0), (0, .ref t), (1, .ref ck), (2, .ref tm), (3, .ref v), (4, .int w), (5, .int z)]) (fun (zz_ : Int32) => match zz_ with | x68_0 => []) (fun (zz_ : Int32) (w : va_W) => match zz_ with | x68_0 => tk_kp [709] w0 w) (fun zz_ hI H locs wt ls hT hW hP hD hS hl ih68 => ?_) 0 (show 0 ≤ (0 : Int32).toInt ∧ (0 : Int32).toInt ≤ 300 from ⟨by omega, by omega⟩) _ _ wt ls hT hW hP hD hS hl
    obtain ⟨x68_0, rfl⟩ : ∃ z2, z2 = zz_ := ⟨_, rfl⟩
    have hW : tk_kp [709] w0 wt := hW
    have hI : 0 ≤ x68_0.toInt ∧ x68_0.toInt ≤ 300 := hI
    obtain ⟨j68_0, j68_1⟩ := hI
    have hl : lv_has ls 7 [(6, .int x68_0), (0, .ref t), (1, .ref ck), (2, .ref tm), (3, .ref v), (4, .int w), (5, .int z)] := hl
    have hP : va_P (gg_D G) classes ([] ++ wt) H := hP
    have hD : va_D A ([] ++ wt) := hD
    refine lv_iload hx hb dX5_setGains_68 (lv_at hl 0 rfl) ?_
    refine lv_sipush (v := 300) hx hb dX5_setGains_70 (by decide +kernel) ?_
    refine lv_icmp_ge (tgt := 108) hx hb dX5_setGains_73 (by decide) (fun c_7 => ?_) (fun c_7 => ?_)
    · rw [Int32.le_iff_toInt_le] at c_7
      refine lv_aload_n hx hb dX5_setGains_108 rfl (lv_at hl 1 rfl) ?_
      refine tr_get (ci := 5) hx hb ht hown hK hT hP k_t (by decide) i_X5 rfl 0 (by decide) wd_430 rfl dX5_setGains_109 (fun v hv hf_8 => ?_)
      obtain ⟨q_9, rfl, hq_9⟩ := hv
      refine lv_aload_n hx hb dX5_setGains_112 rfl (lv_at hl 3 rfl) ?_
      refine gt_callI (wr := []) (va_runV (As := [.ref tm]) (rest := []) ⟨hx, hb, hml, hown, ht⟩ (d_allGains l G Γ H.size wt hT q_9 tm hq_9 k_tm) (cwV 1 ht (ts_gV wd_1059 wd_1060 wd_1061 wd_125 wd_1062) rfl rfl rfl (by decide +kernel) ⟨Nat.le_of_ble_eq_true rfl, Nat.le_of_ble_eq_true rfl⟩) (gt_preW (ci := 7) hK hT (tw_right hP) (tw_rightD hD) hq_9 (by decide) rfl) rfl rfl hl.1 rfl (lv_room (Nat.le_of_ble_eq_true rfl)) dX5_setGains_113 ⟨Nat.le_of_ble_eq_true rfl, Nat.le_of_ble_eq_true rfl⟩) hP hD hS hA (fun r_10 wt H locs hw hP hD hS => ?_)
      obtain ⟨hT, hkp⟩ := hw
      have hW := hW.call (show ∀ x ∈ [], x ∈ [709] by decide) hkp
      have hP9 := tw_right hP
      have hD9 := tw_rightD hD
      exact W.iret (v := r_10) hx hb hr (gq_endI wt ⟨hT, hW⟩ hP9 hD9 hS) hS.2.2 dX5_setGains_116
    · rw [Int32.le_iff_toInt_le] at c_7
      refine lv_aload_n hx hb dX5_setGains_76 rfl (lv_at hl 1 rfl) ?_
      refine tr_get (ci := 5) hx hb ht hown hK hT hP k_t (by decide) i_X5 rfl 0 (by decide) wd_430 rfl dX5_setGains_77 (fun v hv hf_11 => ?_)
      obtain ⟨q_12, rfl, hq_12⟩ := hv
      refine tr_get (ci := 7) hx hb ht hown hK hT hP hq_12 (by decide) i_X7 rfl 4 (by decide) wd_247 rfl dX5_setGains_80 (fun v hv hf_13 => ?_)
      obtain ⟨q_14, rfl, hq_14⟩ := hv
      refine lv_iload hx hb dX5_setGains_83 (lv_at hl 5 rfl) ?_
      refine tr_iald hx hb hK hT hP 21 hq_14 (by decide) (by decide) (show vp_in _ (tk_len 21) from ia_in (n := 3) (by omega) (by omega)) dX5_setGains_85 (fun n_15 hn_15 => ?_)
      clear hn_15
      refine lv_iconst (v := 1) hx hb dX5_setGains_86 (by decide +kernel) ?_
      refine lv_icmp_ne (tgt := 108) hx hb dX5_setGains_87 (by decide) (fun c_16 => ?_) (fun c_16 => ?_)
      · rw [← Int32.toInt_inj] at c_16
        refine lv_aload_n hx hb dX5_setGains_108 rfl (lv_at hl 1 rfl) ?_
        refine tr_get (ci := 5) hx hb ht hown hK hT hP k_t (by decide) i_X5 rfl 0 (by decide) wd_430 rfl dX5_setGains_109 (fun v hv hf_17 => ?_)
        obtain ⟨q_18, rfl, hq_18⟩ := hv
        refine lv_aload_n hx hb dX5_setGains_112 rfl (lv_at hl 3 rfl) ?_
        refine gt_callI (wr := []) (va_runV (As := [.ref tm]) (rest := []) ⟨hx, hb, hml, hown, ht⟩ (d_allGains l G Γ H.size wt hT q_18 tm hq_18 k_tm) (cwV 1 ht (ts_gV wd_1059 wd_1060 wd_1061 wd_125 wd_1062) rfl rfl rfl (by decide +kernel) ⟨Nat.le_of_ble_eq_true rfl, Nat.le_of_ble_eq_true rfl⟩) (gt_preW (ci := 7) hK hT (tw_right hP) (tw_rightD hD) hq_18 (by decide) rfl) rfl rfl hl.1 rfl (lv_room (Nat.le_of_ble_eq_true rfl)) dX5_setGains_113 ⟨Nat.le_of_ble_eq_true rfl, Nat.le_of_ble_eq_true rfl⟩) hP hD hS hA (fun r_19 wt H locs hw hP hD hS => ?_)
        obtain ⟨hT, hkp⟩ := hw
        have hW := hW.call (show ∀ x ∈ [], x ∈ [709] by decide) hkp
        have hP9 := tw_right hP
        have hD9 := tw_rightD hD
        exact W.iret (v := r_19) hx hb hr (gq_endI wt ⟨hT, hW⟩ hP9 hD9 hS) hS.2.2 dX5_setGains_116
      · rw [← Int32.toInt_inj] at c_16
        refine lv_aload_n hx hb dX5_setGains_90 rfl (lv_at hl 2 rfl) ?_
        refine lv_aload_n hx hb dX5_setGains_91 rfl (lv_at hl 1 rfl) ?_
        refine tr_get (ci := 5) hx hb ht hown hK hT hP k_t (by decide) i_X5 rfl 0 (by decide) wd_430 rfl dX5_setGains_92 (fun v hv hf_20 => ?_)
        obtain ⟨q_21, rfl, hq_21⟩ := hv
        refine lv_iload hx hb dX5_setGains_95 (lv_at hl 5 rfl) ?_
        refine lv_iconst (v := 0) hx hb dX5_setGains_97 (by decide +kernel) ?_
        refine gt_callI (wr := []) (va_runV (As := [.ref q_21, .int w, .int 0]) (rest := []) ⟨hx, hb, hml, hown, ht⟩ (d_passLot l G Γ H.size wt hT ck q_21 w 0 k_ck hq_21 (by omega) (by omega)) (cwV 3 ht (ts_gV wd_1076 wd_881 wd_882 wd_130 wd_883) rfl rfl rfl (by decide +kernel) ⟨Nat.le_of_ble_eq_true rfl, Nat.le_of_ble_eq_true rfl⟩) (gt_preW (ci := 0) hK hT (tw_right hP) (tw_rightD hD) k_ck (by decide) rfl) rfl rfl hl.1 rfl (lv_room (Nat.le_of_ble_eq_true rfl)) dX5_setGains_98 ⟨Nat.le_of_ble_eq_true rfl, Nat.le_of_ble_eq_true rfl⟩) hP hD hS hA (fun r_22 wt H locs hw hP hD hS => ?_)
        obtain ⟨hT, hkp⟩ := hw
        have hW := hW.call (show ∀ x ∈ [], x ∈ [709] by decide) hkp
        refine lv_pop hx hb dX5_setGains_101 rfl ?_
        obtain ⟨t_23, et_23⟩ : ∃ zz_ : Int32, x68_0 + Int32.ofInt (1) = zz_ := ⟨_, rfl⟩
        have ft_23 : t_23.toInt = x68_0.toInt + (1 : Int32).toInt := ia_add (y := 1) et_23 (by omega) (by omega)
        refine lv_iinc (v := t_23) (lv' := [(6, .int t_23), (0, .ref t), (1, .ref ck), (2, .ref tm), (3, .ref v), (4, .int w), (5, .int z)]) hx hb dX5_setGains_102 hl (k := 0) rfl et_23 (by decide) rfl (fun ls hl => ?_)
        refine lv_goto (tgt := 68) hx hb dX5_setGains_105 (by decide) ?_
        exact ih68 t_23 (show 0 ≤ t_23.toInt ∧ t_23.toInt ≤ 300 from ⟨by omega, by omega⟩) (show (300 - t_23.toInt).toNat < (300 - x68_0.toInt).toNat by omega) H locs wt ls hT hW hP hD hS (lv_sub hl [0, 1, 2, 3, 4, 5, 6] rfl)
  · rw [← Int32.toInt_inj] at c_6
    refine lv_iconst (v := 0) hx hb dX5_setGains_18 (by decide +kernel) ?_
    refine lv_istore (lv' := [(6, .int 0), (0, .ref t), (1, .ref ck), (2, .ref tm), (3, .ref v), (4, .int w), (5, .int z)]) hx hb dX5_setGains_19 hl (by decide) rfl (fun ls hl => ?_)
    refine tl_loopE (Γ := Γ) (nL := 7) (fun (zz_ : Int32) => match zz_ with | x21_0 => 0 ≤ x21_0.toInt ∧ x21_0.toInt ≤ 5) (fun (zz_ : Int32) => match zz_ with | x21_0 => (5 - x21_0.toInt).toNat) (fun (zz_ : Int32) => match zz_ with | x21_0 => [(6, .int x21_0), (0, .ref t), (1, .ref ck), (2, .ref tm), (3, .ref v), (4, .int w), (5, .int z)]) (fun (zz_ : Int32) => match zz_ with | x21_0 => []) (fun (zz_ : Int32) (w : va_W) => match zz_ with | x21_0 => tk_kp [709] w0 w) (fun zz_ hI H locs wt ls hT hW hP hD hS hl ih21 => ?_) 0 (show 0 ≤ (0 : Int32).toInt ∧ (0 : Int32).toInt ≤ 5 from ⟨by omega, by omega⟩) _ _ wt ls hT hW hP hD hS hl
    obtain ⟨x21_0, rfl⟩ : ∃ z2, z2 = zz_ := ⟨_, rfl⟩
    have hW : tk_kp [709] w0 wt := hW
    have hI : 0 ≤ x21_0.toInt ∧ x21_0.toInt ≤ 5 := hI
    obtain ⟨j21_0, j21_1⟩ := hI
    have hl : lv_has ls 7 [(6, .int x21_0), (0, .ref t), (1, .ref ck), (2, .ref tm), (3, .ref v), (4, .int w), (5, .int z)] := hl
    have hP : va_P (gg_D G) classes ([] ++ wt) H := hP
    have hD : va_D A ([] ++ wt) := hD
    refine lv_iload hx hb dX5_setGains_21 (lv_at hl 0 rfl) ?_
    refine lv_iconst (v := 5) hx hb dX5_setGains_23 (by decide +kernel) ?_
    refine lv_icmp_ge (tgt := 59) hx hb dX5_setGains_24 (by decide) (fun c_24 => ?_) (fun c_24 => ?_)
    · rw [Int32.le_iff_toInt_le] at c_24
      refine lv_aload_n hx hb dX5_setGains_59 rfl (lv_at hl 1 rfl) ?_
      refine lv_iload hx hb dX5_setGains_60 (lv_at hl 5 rfl) ?_
      refine gt_callV (wr := []) (va_runV (As := [.int w]) (rest := []) ⟨hx, hb, hml, hown, ht⟩ (d_ringIfSat l G Γ H.size wt hT t w k_t (by omega) (by omega)) (cwV 1 ht (ts_gV wd_1070 wd_1072 wd_27 wd_131 wd_1073) rfl rfl rfl (by decide +kernel) ⟨Nat.le_of_ble_eq_true rfl, Nat.le_of_ble_eq_true rfl⟩) (gt_preW (ci := 5) hK hT (tw_right hP) (tw_rightD hD) k_t (by decide) rfl) rfl rfl hl.1 rfl (lv_room (Nat.le_of_ble_eq_true rfl)) dX5_setGains_62 ⟨Nat.le_of_ble_eq_true rfl, Nat.le_of_ble_eq_true rfl⟩) hP hD hS hA (fun wt H locs hw hP hD hS => ?_)
      obtain ⟨hT, hkp⟩ := hw
      have hW := hW.call (show ∀ x ∈ [], x ∈ [709] by decide) hkp
      refine lv_iconst (v := 0) hx hb dX5_setGains_65 (by decide +kernel) ?_
      refine lv_istore (lv' := [(6, .int 0), (0, .ref t), (1, .ref ck), (2, .ref tm), (3, .ref v), (4, .int w), (5, .int z)]) hx hb dX5_setGains_66 hl (by decide) rfl (fun ls hl => ?_)
      refine tl_loopE (Γ := Γ) (nL := 7) (fun (zz_ : Int32) => match zz_ with | x68_0 => 0 ≤ x68_0.toInt ∧ x68_0.toInt ≤ 300) (fun (zz_ : Int32) => match zz_ with | x68_0 => (300 - x68_0.toInt).toNat) (fun (zz_ : Int32) => match zz_ with | x68_0 => [(6, .int x68_0), (0, .ref t), (1, .ref ck), (2, .ref tm), (3, .ref v), (4, .int w), (5, .int z)]) (fun (zz_ : Int32) => match zz_ with | x68_0 => []) (fun (zz_ : Int32) (w : va_W) => match zz_ with | x68_0 => tk_kp [709] w0 w) (fun zz_ hI H locs wt ls hT hW hP hD hS hl ih68 => ?_) 0 (show 0 ≤ (0 : Int32).toInt ∧ (0 : Int32).toInt ≤ 300 from ⟨by omega, by omega⟩) _ _ wt ls hT hW hP hD hS hl
      obtain ⟨x68_0, rfl⟩ : ∃ z2, z2 = zz_ := ⟨_, rfl⟩
      have hW : tk_kp [709] w0 wt := hW
      have hI : 0 ≤ x68_0.toInt ∧ x68_0.toInt ≤ 300 := hI
      obtain ⟨j68_0, j68_1⟩ := hI
      have hl : lv_has ls 7 [(6, .int x68_0), (0, .ref t), (1, .ref ck), (2, .ref tm), (3, .ref v), (4, .int w), (5, .int z)] := hl
      have hP : va_P (gg_D G) classes ([] ++ wt) H := hP
      have hD : va_D A ([] ++ wt) := hD
      refine lv_iload hx hb dX5_setGains_68 (lv_at hl 0 rfl) ?_
      refine lv_sipush (v := 300) hx hb dX5_setGains_70 (by decide +kernel) ?_
      refine lv_icmp_ge (tgt := 108) hx hb dX5_setGains_73 (by decide) (fun c_25 => ?_) (fun c_25 => ?_)
      · rw [Int32.le_iff_toInt_le] at c_25
        refine lv_aload_n hx hb dX5_setGains_108 rfl (lv_at hl 1 rfl) ?_
        refine tr_get (ci := 5) hx hb ht hown hK hT hP k_t (by decide) i_X5 rfl 0 (by decide) wd_430 rfl dX5_setGains_109 (fun v hv hf_26 => ?_)
        obtain ⟨q_27, rfl, hq_27⟩ := hv
        refine lv_aload_n hx hb dX5_setGains_112 rfl (lv_at hl 3 rfl) ?_
        refine gt_callI (wr := []) (va_runV (As := [.ref tm]) (rest := []) ⟨hx, hb, hml, hown, ht⟩ (d_allGains l G Γ H.size wt hT q_27 tm hq_27 k_tm) (cwV 1 ht (ts_gV wd_1059 wd_1060 wd_1061 wd_125 wd_1062) rfl rfl rfl (by decide +kernel) ⟨Nat.le_of_ble_eq_true rfl, Nat.le_of_ble_eq_true rfl⟩) (gt_preW (ci := 7) hK hT (tw_right hP) (tw_rightD hD) hq_27 (by decide) rfl) rfl rfl hl.1 rfl (lv_room (Nat.le_of_ble_eq_true rfl)) dX5_setGains_113 ⟨Nat.le_of_ble_eq_true rfl, Nat.le_of_ble_eq_true rfl⟩) hP hD hS hA (fun r_28 wt H locs hw hP hD hS => ?_)
        obtain ⟨hT, hkp⟩ := hw
        have hW := hW.call (show ∀ x ∈ [], x ∈ [709] by decide) hkp
        have hP9 := tw_right hP
        have hD9 := tw_rightD hD
        exact W.iret (v := r_28) hx hb hr (gq_endI wt ⟨hT, hW⟩ hP9 hD9 hS) hS.2.2 dX5_setGains_116
      · rw [Int32.le_iff_toInt_le] at c_25
        refine lv_aload_n hx hb dX5_setGains_76 rfl (lv_at hl 1 rfl) ?_
        refine tr_get (ci := 5) hx hb ht hown hK hT hP k_t (by decide) i_X5 rfl 0 (by decide) wd_430 rfl dX5_setGains_77 (fun v hv hf_29 => ?_)
        obtain ⟨q_30, rfl, hq_30⟩ := hv
        refine tr_get (ci := 7) hx hb ht hown hK hT hP hq_30 (by decide) i_X7 rfl 4 (by decide) wd_247 rfl dX5_setGains_80 (fun v hv hf_31 => ?_)
        obtain ⟨q_32, rfl, hq_32⟩ := hv
        refine lv_iload hx hb dX5_setGains_83 (lv_at hl 5 rfl) ?_
        refine tr_iald hx hb hK hT hP 21 hq_32 (by decide) (by decide) (show vp_in _ (tk_len 21) from ia_in (n := 3) (by omega) (by omega)) dX5_setGains_85 (fun n_33 hn_33 => ?_)
        clear hn_33
        refine lv_iconst (v := 1) hx hb dX5_setGains_86 (by decide +kernel) ?_
        refine lv_icmp_ne (tgt := 108) hx hb dX5_setGains_87 (by decide) (fun c_34 => ?_) (fun c_34 => ?_)
        · rw [← Int32.toInt_inj] at c_34
          refine lv_aload_n hx hb dX5_setGains_108 rfl (lv_at hl 1 rfl) ?_
          refine tr_get (ci := 5) hx hb ht hown hK hT hP k_t (by decide) i_X5 rfl 0 (by decide) wd_430 rfl dX5_setGains_109 (fun v hv hf_35 => ?_)
          obtain ⟨q_36, rfl, hq_36⟩ := hv
          refine lv_aload_n hx hb dX5_setGains_112 rfl (lv_at hl 3 rfl) ?_
          refine gt_callI (wr := []) (va_runV (As := [.ref tm]) (rest := []) ⟨hx, hb, hml, hown, ht⟩ (d_allGains l G Γ H.size wt hT q_36 tm hq_36 k_tm) (cwV 1 ht (ts_gV wd_1059 wd_1060 wd_1061 wd_125 wd_1062) rfl rfl rfl (by decide +kernel) ⟨Nat.le_of_ble_eq_true rfl, Nat.le_of_ble_eq_true rfl⟩) (gt_preW (ci := 7) hK hT (tw_right hP) (tw_rightD hD) hq_36 (by decide) rfl) rfl rfl hl.1 rfl (lv_room (Nat.le_of_ble_eq_true rfl)) dX5_setGains_113 ⟨Nat.le_of_ble_eq_true rfl, Nat.le_of_ble_eq_true rfl⟩) hP hD hS hA (fun r_37 wt H locs hw hP hD hS => ?_)
          obtain ⟨hT, hkp⟩ := hw
          have hW := hW.call (show ∀ x ∈ [], x ∈ [709] by decide) hkp
          have hP9 := tw_right hP
          have hD9 := tw_rightD hD
          exact W.iret (v := r_37) hx hb hr (gq_endI wt ⟨hT, hW⟩ hP9 hD9 hS) hS.2.2 dX5_setGains_116
        · rw [← Int32.toInt_inj] at c_34
          refine lv_aload_n hx hb dX5_setGains_90 rfl (lv_at hl 2 rfl) ?_
          refine lv_aload_n hx hb dX5_setGains_91 rfl (lv_at hl 1 rfl) ?_
          refine tr_get (ci := 5) hx hb ht hown hK hT hP k_t (by decide) i_X5 rfl 0 (by decide) wd_430 rfl dX5_setGains_92 (fun v hv hf_38 => ?_)
          obtain ⟨q_39, rfl, hq_39⟩ := hv
          refine lv_iload hx hb dX5_setGains_95 (lv_at hl 5 rfl) ?_
          refine lv_iconst (v := 0) hx hb dX5_setGains_97 (by decide +kernel) ?_
          refine gt_callI (wr := []) (va_runV (As := [.ref q_39, .int w, .int 0]) (rest := []) ⟨hx, hb, hml, hown, ht⟩ (d_passLot l G Γ H.size wt hT ck q_39 w 0 k_ck hq_39 (by omega) (by omega)) (cwV 3 ht (ts_gV wd_1076 wd_881 wd_882 wd_130 wd_883) rfl rfl rfl (by decide +kernel) ⟨Nat.le_of_ble_eq_true rfl, Nat.le_of_ble_eq_true rfl⟩) (gt_preW (ci := 0) hK hT (tw_right hP) (tw_rightD hD) k_ck (by decide) rfl) rfl rfl hl.1 rfl (lv_room (Nat.le_of_ble_eq_true rfl)) dX5_setGains_98 ⟨Nat.le_of_ble_eq_true rfl, Nat.le_of_ble_eq_true rfl⟩) hP hD hS hA (fun r_40 wt H locs hw hP hD hS => ?_)
          obtain ⟨hT, hkp⟩ := hw
          have hW := hW.call (show ∀ x ∈ [], x ∈ [709] by decide) hkp
          refine lv_pop hx hb dX5_setGains_101 rfl ?_
          obtain ⟨t_41, et_41⟩ : ∃ zz_ : Int32, x68_0 + Int32.ofInt (1) = zz_ := ⟨_, rfl⟩
          have ft_41 : t_41.toInt = x68_0.toInt + (1 : Int32).toInt := ia_add (y := 1) et_41 (by omega) (by omega)
          refine lv_iinc (v := t_41) (lv' := [(6, .int t_41), (0, .ref t), (1, .ref ck), (2, .ref tm), (3, .ref v), (4, .int w), (5, .int z)]) hx hb dX5_setGains_102 hl (k := 0) rfl et_41 (by decide) rfl (fun ls hl => ?_)
          refine lv_goto (tgt := 68) hx hb dX5_setGains_105 (by decide) ?_
          exact ih68 t_41 (show 0 ≤ t_41.toInt ∧ t_41.toInt ≤ 300 from ⟨by omega, by omega⟩) (show (300 - t_41.toInt).toNat < (300 - x68_0.toInt).toNat by omega) H locs wt ls hT hW hP hD hS (lv_sub hl [0, 1, 2, 3, 4, 5, 6] rfl)
    · rw [Int32.le_iff_toInt_le] at c_24
      refine lv_aload_n hx hb dX5_setGains_27 rfl (lv_at hl 1 rfl) ?_
      refine tr_get (ci := 5) hx hb ht hown hK hT hP k_t (by decide) i_X5 rfl 0 (by decide) wd_430 rfl dX5_setGains_28 (fun v hv hf_42 => ?_)
      obtain ⟨q_43, rfl, hq_43⟩ := hv
      refine tr_get (ci := 7) hx hb ht hown hK hT hP hq_43 (by decide) i_X7 rfl 2 (by decide) wd_241 rfl dX5_setGains_31 (fun v hv hf_44 => ?_)
      obtain ⟨q_45, rfl, hq_45⟩ := hv
      refine lv_iload hx hb dX5_setGains_34 (lv_at hl 0 rfl) ?_
      refine lv_iload hx hb dX5_setGains_36 (lv_at hl 0 rfl) ?_
      refine lv_iload hx hb dX5_setGains_38 (lv_at hl 6 rfl) ?_
      refine gt_callI (wr := []) (va_runSN (As := [.int x21_0, .int z]) (rest := [.int x21_0, .ref q_45]) ⟨hx, hb, hml, hown, ht⟩ (d_isIn l G Γ H.size wt hT x21_0 z) ⟨va_cnB 2 ht (tb_good (ts_good wd_803)) rfl rfl rfl (hK.2.1 _ wn_1069 rfl) (ht _ wd_122) (by decide +kernel) ⟨Nat.le_of_ble_eq_true rfl, Nat.le_of_ble_eq_true rfl⟩, ht _ wd_802, trivial⟩ (gc_preS hK (tw_right hP) (tw_rightD hD)) rfl rfl hl.1 rfl (lv_room (Nat.le_of_ble_eq_true rfl)) dX5_setGains_40 ⟨Nat.le_of_ble_eq_true rfl, Nat.le_of_ble_eq_true rfl⟩) hP hD hS hA (fun r_46 wt H locs hw hP hD hS => ?_)
      obtain ⟨hT, hkp, lo_r_46, hi_r_46⟩ := hw
      have hW := hW.call (show ∀ x ∈ [], x ∈ [709] by decide) hkp
      refine lv_if_eq (tgt := 51) hx hb dX5_setGains_43 (by decide) (fun c_47 => ?_) (fun c_47 => ?_)
      · rw [← Int32.toInt_inj] at c_47
        refine lv_iconst (v := (-1)) hx hb dX5_setGains_51 (by decide +kernel) ?_
        refine tr_iast hx hb hK hT hP hD hS 20 hq_45 (by decide) (by decide) (show vp_in _ (tk_len 20) from ia_in (n := 5) (by omega) (by omega)) (show tk_e 20 _ from trivial) dX5_setGains_52 (fun H locs wt hT hfl hP hD hS => ?_)
        have hW := hW.arr hfl
        obtain ⟨t_48, et_48⟩ : ∃ zz_ : Int32, x21_0 + Int32.ofInt (1) = zz_ := ⟨_, rfl⟩
        have ft_48 : t_48.toInt = x21_0.toInt + (1 : Int32).toInt := ia_add (y := 1) et_48 (by omega) (by omega)
        refine lv_iinc (v := t_48) (lv' := [(6, .int t_48), (0, .ref t), (1, .ref ck), (2, .ref tm), (3, .ref v), (4, .int w), (5, .int z)]) hx hb dX5_setGains_53 hl (k := 0) rfl et_48 (by decide) rfl (fun ls hl => ?_)
        refine lv_goto (tgt := 21) hx hb dX5_setGains_56 (by decide) ?_
        exact ih21 t_48 (show 0 ≤ t_48.toInt ∧ t_48.toInt ≤ 5 from ⟨by omega, by omega⟩) (show (5 - t_48.toInt).toNat < (5 - x21_0.toInt).toNat by omega) H locs wt ls hT hW hP hD hS (lv_sub hl [0, 1, 2, 3, 4, 5, 6] rfl)
      · rw [← Int32.toInt_inj] at c_47
        refine lv_iload hx hb dX5_setGains_46 (lv_at hl 5 rfl) ?_
        refine lv_goto (tgt := 52) hx hb dX5_setGains_48 (by decide) ?_
        refine tr_iast hx hb hK hT hP hD hS 20 hq_45 (by decide) (by decide) (show vp_in _ (tk_len 20) from ia_in (n := 5) (by omega) (by omega)) (show tk_e 20 _ from trivial) dX5_setGains_52 (fun H locs wt hT hfl hP hD hS => ?_)
        have hW := hW.arr hfl
        obtain ⟨t_49, et_49⟩ : ∃ zz_ : Int32, x21_0 + Int32.ofInt (1) = zz_ := ⟨_, rfl⟩
        have ft_49 : t_49.toInt = x21_0.toInt + (1 : Int32).toInt := ia_add (y := 1) et_49 (by omega) (by omega)
        refine lv_iinc (v := t_49) (lv' := [(6, .int t_49), (0, .ref t), (1, .ref ck), (2, .ref tm), (3, .ref v), (4, .int w), (5, .int z)]) hx hb dX5_setGains_53 hl (k := 0) rfl et_49 (by decide) rfl (fun ls hl => ?_)
        refine lv_goto (tgt := 21) hx hb dX5_setGains_56 (by decide) ?_
        exact ih21 t_49 (show 0 ≤ t_49.toInt ∧ t_49.toInt ≤ 5 from ⟨by omega, by omega⟩) (show (5 - t_49.toInt).toNat < (5 - x21_0.toInt).toNat by omega) H locs wt ls hT hW hP hD hS (lv_sub hl [0, 1, 2, 3, 4, 5, 6] rfl)
set_option maxHeartbeats 4000000 in
set_option maxRecDepth 100000 in
theorem d_workOutSets (l : Launch) (G : gg_T) (Γ : Nat → Nat) (sz : Nat) (wt : va_W) (hT : tk_ty G Γ wt) (t : Nat) (ck : Nat) (tm : Nat) (v : Nat) (z : Int32) (k_t : Γ t = 6) (k_ck : Γ ck = 1) (k_tm : Γ tm = 10) (k_v : Γ v = 8) : Met l yX5_workOutSets (ts_L yX5_workOutSets cX5_workOutSets 9 none) ({ frames := 5, cells := 0, slots := 0, locals := 125 }) (gc_P G wt sz [.ref t, .ref ck, .ref tm, .ref v, .int z]) (gc_V G (va_A wt sz) (fun (u : va_W) => tk_ty G Γ u ∧ tk_kp [709] wt u) (fun u => u)) 0 0 (va_A wt sz) := by
  refine Met.ofW (cc := cX5_workOutSets) (maxL := 9) (ret := none) (by decide) rfl ?_
  intro p e s m args below meth c s₁ B hml hv
  obtain ⟨rfl, hsz, hP, hK, hD0⟩ := hv
  have hx := B.exec
  have hb := B.bytes
  have hr := B.returns
  have ht := ts_ht (atoms_spec (ws := ts_L yX5_workOutSets cX5_workOutSets 9 none) B.pre)
  have hown : s.vm.findClass RX5 = some m.cls := findClass_of_methodNamed B.named
  have hlocks := B.notSynchronized
  subst hsz
  have hD := hD0.self (sz := s.heap.size)
  generalize hAe : va_A wt s.heap.size = A at hD ⊢
  have hA : ∀ q : Nat, s.heap.size ≤ q → A q := fun q h => by rw [← hAe]; exact Or.inr h
  clear hAe hD0
  have hS : va_S A s.heap s.heap [] := va_S.rf
  obtain ⟨w0, hw0⟩ : ∃ z, z = wt := ⟨_, rfl⟩
  have hW : tk_kp [709] w0 wt := by rw [hw0]; exact tk_kp.rf
  rw [← hw0]
  clear hw0
  have hP : va_P (gg_D G) classes ([] ++ wt) s.heap := hP
  have hD : va_D A ([] ++ wt) := hD
  have hl := lv_entry ([.ref t, .ref ck, .ref tm, .ref v, .int z]) (n := 9) (Nat.le_of_ble_eq_true rfl)
  rw [lg_entry_eq]
  generalize (lg_sl ([.ref t, .ref ck, .ref tm, .ref v, .int z]) ++ List.replicate (9 - (lg_sl ([.ref t, .ref ck, .ref tm, .ref v, .int z])).length) Slot.unset).toArray = ls at hl ⊢
  have hl : lv_has ls 9 [(0, .ref t), (1, .ref ck), (2, .ref tm), (3, .ref v), (4, .int z)] := hl
  have l0 : (0 : Int32).toInt = 0 := by decide +kernel
  have l1 : (1 : Int32).toInt = 1 := by decide +kernel
  have l32 : (32 : Int32).toInt = 32 := by decide +kernel
  refine lv_aload_n hx hb dX5_workOutSets_0 rfl (lv_at hl 3 rfl) ?_
  refine lv_aload_n hx hb dX5_workOutSets_1 rfl (lv_at hl 2 rfl) ?_
  refine gt_callI (wr := []) (va_runV (As := [.ref tm]) (rest := []) ⟨hx, hb, hml, hown, ht⟩ (d_allGains l G Γ s.heap.size wt hT v tm k_v k_tm) (cwV 1 ht (ts_gV wd_1059 wd_1060 wd_1061 wd_125 wd_1062) rfl rfl rfl (by decide +kernel) ⟨Nat.le_of_ble_eq_true rfl, Nat.le_of_ble_eq_true rfl⟩) (gt_preW (ci := 7) hK hT (tw_right hP) (tw_rightD hD) k_v (by decide) rfl) rfl rfl hl.1 rfl (lv_room (Nat.le_of_ble_eq_true rfl)) dX5_workOutSets_2 ⟨Nat.le_of_ble_eq_true rfl, Nat.le_of_ble_eq_true rfl⟩) hP hD hS hA (fun r_1 wt H locs hw hP hD hS => ?_)
  obtain ⟨hT, hkp⟩ := hw
  have hW := hW.call (show ∀ x ∈ [], x ∈ [709] by decide) hkp
  refine lv_istore (lv' := [(5, .int r_1), (0, .ref t), (1, .ref ck), (2, .ref tm), (3, .ref v), (4, .int z)]) hx hb dX5_workOutSets_5 hl (by decide) rfl (fun ls hl => ?_)
  refine lv_iconst (v := 0) hx hb dX5_workOutSets_7 (by decide +kernel) ?_
  refine lv_istore (lv' := [(6, .int 0), (5, .int r_1), (0, .ref t), (1, .ref ck), (2, .ref tm), (3, .ref v), (4, .int z)]) hx hb dX5_workOutSets_8 hl (by decide) rfl (fun ls hl => ?_)
  refine tl_loopE (Γ := Γ) (nL := 9) (fun (zz_ : Int32) => match zz_ with | x10_0 => 0 ≤ x10_0.toInt ∧ x10_0.toInt ≤ 3) (fun (zz_ : Int32) => match zz_ with | x10_0 => (3 - x10_0.toInt).toNat) (fun (zz_ : Int32) => match zz_ with | x10_0 => [(6, .int x10_0), (5, .int r_1), (0, .ref t), (1, .ref ck), (2, .ref tm), (3, .ref v), (4, .int z)]) (fun (zz_ : Int32) => match zz_ with | x10_0 => []) (fun (zz_ : Int32) (w : va_W) => match zz_ with | x10_0 => tk_kp [709] w0 w) (fun zz_ hI H locs wt ls hT hW hP hD hS hl ih10 => ?_) 0 (show 0 ≤ (0 : Int32).toInt ∧ (0 : Int32).toInt ≤ 3 from ⟨by omega, by omega⟩) _ _ wt ls hT hW hP hD hS hl
  obtain ⟨x10_0, rfl⟩ : ∃ z2, z2 = zz_ := ⟨_, rfl⟩
  have hW : tk_kp [709] w0 wt := hW
  have hI : 0 ≤ x10_0.toInt ∧ x10_0.toInt ≤ 3 := hI
  obtain ⟨j10_0, j10_1⟩ := hI
  have hl : lv_has ls 9 [(6, .int x10_0), (5, .int r_1), (0, .ref t), (1, .ref ck), (2, .ref tm), (3, .ref v), (4, .int z)] := hl
  have hP : va_P (gg_D G) classes ([] ++ wt) H := hP
  have hD : va_D A ([] ++ wt) := hD
  refine lv_iload hx hb dX5_workOutSets_10 (lv_at hl 0 rfl) ?_
  refine lv_aload_n hx hb dX5_workOutSets_12 rfl (lv_at hl 4 rfl) ?_
  refine tr_get (ci := 9) hx hb ht hown hK hT hP k_tm (by decide) i_X9 rfl 2 (by decide) wd_188 rfl dX5_workOutSets_13 (fun v hv hf_2 => ?_)
  obtain ⟨n_3, rfl, lo_n_3, hi_n_3⟩ := hv
  refine lv_icmp_ge (tgt := 105) hx hb dX5_workOutSets_16 (by decide) (fun c_4 => ?_) (fun c_4 => ?_)
  · rw [Int32.le_iff_toInt_le] at c_4
    have hP9 := tw_right hP
    have hD9 := tw_rightD hD
    exact W.vret hx hb hr (gq_endV wt ⟨hT, hW⟩ hP9 hD9 hS) hS.2.2 dX5_workOutSets_105
  · rw [Int32.le_iff_toInt_le] at c_4
    refine lv_iconst (v := 0) hx hb dX5_workOutSets_19 (by decide +kernel) ?_
    refine lv_istore (lv' := [(7, .int 0), (6, .int x10_0), (5, .int r_1), (0, .ref t), (1, .ref ck), (2, .ref tm), (3, .ref v), (4, .int z)]) hx hb dX5_workOutSets_20 hl (by decide) rfl (fun ls hl => ?_)
    refine tl_loopE (Γ := Γ) (nL := 9) (fun (zz_ : Int32) => match zz_ with | x22_0 => 0 ≤ x22_0.toInt ∧ x22_0.toInt ≤ 32) (fun (zz_ : Int32) => match zz_ with | x22_0 => (32 - x22_0.toInt).toNat) (fun (zz_ : Int32) => match zz_ with | x22_0 => [(7, .int x22_0), (6, .int x10_0), (5, .int r_1), (0, .ref t), (1, .ref ck), (2, .ref tm), (3, .ref v), (4, .int z)]) (fun (zz_ : Int32) => match zz_ with | x22_0 => []) (fun (zz_ : Int32) (w : va_W) => match zz_ with | x22_0 => tk_kp [709] w0 w) (fun zz_ hI H locs wt ls hT hW hP hD hS hl ih22 => ?_) 0 (show 0 ≤ (0 : Int32).toInt ∧ (0 : Int32).toInt ≤ 32 from ⟨by omega, by omega⟩) _ _ wt ls hT hW hP hD hS hl
    obtain ⟨x22_0, rfl⟩ : ∃ z2, z2 = zz_ := ⟨_, rfl⟩
    have hW : tk_kp [709] w0 wt := hW
    have hI : 0 ≤ x22_0.toInt ∧ x22_0.toInt ≤ 32 := hI
    obtain ⟨j22_0, j22_1⟩ := hI
    have hl : lv_has ls 9 [(7, .int x22_0), (6, .int x10_0), (5, .int r_1), (0, .ref t), (1, .ref ck), (2, .ref tm), (3, .ref v), (4, .int z)] := hl
    have hP : va_P (gg_D G) classes ([] ++ wt) H := hP
    have hD : va_D A ([] ++ wt) := hD
    refine lv_iload hx hb dX5_workOutSets_22 (lv_at hl 0 rfl) ?_
    refine lv_bipush (v := 32) hx hb dX5_workOutSets_24 (by decide +kernel) ?_
    refine lv_icmp_ge (tgt := 99) hx hb dX5_workOutSets_26 (by decide) (fun c_5 => ?_) (fun c_5 => ?_)
    · rw [Int32.le_iff_toInt_le] at c_5
      obtain ⟨t_6, et_6⟩ : ∃ zz_ : Int32, x10_0 + Int32.ofInt (1) = zz_ := ⟨_, rfl⟩
      have ft_6 : t_6.toInt = x10_0.toInt + (1 : Int32).toInt := ia_add (y := 1) et_6 (by omega) (by omega)
      refine lv_iinc (v := t_6) (lv' := [(6, .int t_6), (7, .int x22_0), (5, .int r_1), (0, .ref t), (1, .ref ck), (2, .ref tm), (3, .ref v), (4, .int z)]) hx hb dX5_workOutSets_99 hl (k := 1) rfl et_6 (by decide) rfl (fun ls hl => ?_)
      refine lv_goto (tgt := 10) hx hb dX5_workOutSets_102 (by decide) ?_
      exact ih10 t_6 (show 0 ≤ t_6.toInt ∧ t_6.toInt ≤ 3 from ⟨by omega, by omega⟩) (show (3 - t_6.toInt).toNat < (3 - x10_0.toInt).toNat by omega) H locs wt ls hT hW hP hD hS (lv_sub hl [0, 2, 3, 4, 5, 6, 7] rfl)
    · rw [Int32.le_iff_toInt_le] at c_5
      refine lv_iload hx hb dX5_workOutSets_29 (lv_at hl 0 rfl) ?_
      refine lv_if_eq (tgt := 54) hx hb dX5_workOutSets_31 (by decide) (fun c_7 => ?_) (fun c_7 => ?_)
      · rw [← Int32.toInt_inj] at c_7
        refine lv_iconst (v := 1) hx hb dX5_workOutSets_54 (by decide +kernel) ?_
        refine lv_goto (tgt := 59) hx hb dX5_workOutSets_55 (by decide) ?_
        refine lv_istore (lv' := [(8, .int 1), (7, .int x22_0), (6, .int x10_0), (5, .int r_1), (0, .ref t), (1, .ref ck), (2, .ref tm), (3, .ref v), (4, .int z)]) hx hb dX5_workOutSets_59 hl (by decide) rfl (fun ls hl => ?_)
        refine lv_iload hx hb dX5_workOutSets_61 (lv_at hl 0 rfl) ?_
        refine lv_if_eq (tgt := 93) hx hb dX5_workOutSets_63 (by decide) (fun c0 => False.elim (by rw [← Int32.toInt_inj] at c0; omega)) (fun _ => ?_)
        refine lv_aload_n hx hb dX5_workOutSets_66 rfl (lv_at hl 4 rfl) ?_
        refine tr_get (ci := 5) hx hb ht hown hK hT hP k_t (by decide) i_X5 rfl 2 (by decide) wd_432 rfl dX5_workOutSets_67 (fun v hv hf_8 => ?_)
        obtain ⟨q_9, rfl, hq_9⟩ := hv
        refine lv_iload hx hb dX5_workOutSets_70 (lv_at hl 2 rfl) ?_
        refine lv_bipush (v := 32) hx hb dX5_workOutSets_72 (by decide +kernel) ?_
        obtain ⟨t_10, et_10⟩ : ∃ zz_ : Int32, x10_0 * 32 = zz_ := ⟨_, rfl⟩
        refine gq_imul hx hb t_10 et_10 dX5_workOutSets_74 ?_
        have ft_10 := ia_mul et_10 (by rw [l32]; omega) (by rw [l32]; omega)
        rw [l32] at ft_10
        refine lv_iload hx hb dX5_workOutSets_75 (lv_at hl 1 rfl) ?_
        obtain ⟨t_11, et_11⟩ : ∃ zz_ : Int32, t_10 + x22_0 = zz_ := ⟨_, rfl⟩
        refine gq_iadd hx hb t_11 et_11 dX5_workOutSets_77 ?_
        have ft_11 := ia_add et_11 (by omega) (by omega)
        refine lv_aload_n hx hb dX5_workOutSets_78 rfl (lv_at hl 4 rfl) ?_
        refine lv_aload_n hx hb dX5_workOutSets_79 rfl (lv_at hl 5 rfl) ?_
        refine lv_aload_n hx hb dX5_workOutSets_80 rfl (lv_at hl 6 rfl) ?_
        refine lv_aload_n hx hb dX5_workOutSets_81 rfl (lv_at hl 7 rfl) ?_
        refine lv_iload hx hb dX5_workOutSets_82 (lv_at hl 2 rfl) ?_
        refine lv_iload hx hb dX5_workOutSets_84 (lv_at hl 1 rfl) ?_
        refine gt_callI (wr := []) (va_runV (As := [.ref ck, .ref tm, .ref v, .int x10_0, .int x22_0]) (rest := [.int t_11, .ref q_9]) ⟨hx, hb, hml, hown, ht⟩ (d_setGains l G Γ H.size wt hT t ck tm v x10_0 x22_0 k_t k_ck k_tm k_v (by omega) (by omega)) (cwV 5 ht (ts_gV wd_1064 wd_1066 wd_26 wd_131 wd_1067) rfl rfl rfl (by decide +kernel) ⟨Nat.le_of_ble_eq_true rfl, Nat.le_of_ble_eq_true rfl⟩) (gt_preW (ci := 5) hK hT (tw_right hP) (tw_rightD hD) k_t (by decide) rfl) rfl rfl hl.1 rfl (lv_room (Nat.le_of_ble_eq_true rfl)) dX5_workOutSets_86 ⟨Nat.le_of_ble_eq_true rfl, Nat.le_of_ble_eq_true rfl⟩) hP hD hS hA (fun r_12 wt H locs hw hP hD hS => ?_)
        obtain ⟨hT, hkp⟩ := hw
        have hW := hW.call (show ∀ x ∈ [709], x ∈ [709] by decide) hkp
        refine lv_iload hx hb dX5_workOutSets_89 (lv_at hl 3 rfl) ?_
        obtain ⟨t_13, et_13⟩ : ∃ zz_ : Int32, r_12 - r_1 = zz_ := ⟨_, rfl⟩
        refine gq_isub hx hb t_13 et_13 dX5_workOutSets_91 ?_
        refine tr_iast hx hb hK hT hP hD hS 27 hq_9 (by decide) (by decide) (show vp_in _ (tk_len 27) from ia_in (n := 96) (by omega) (by omega)) (show tk_e 27 _ from trivial) dX5_workOutSets_92 (fun H locs wt hT hfl hP hD hS => ?_)
        have hW := hW.arr hfl
        obtain ⟨t_14, et_14⟩ : ∃ zz_ : Int32, x22_0 + Int32.ofInt (1) = zz_ := ⟨_, rfl⟩
        have ft_14 : t_14.toInt = x22_0.toInt + (1 : Int32).toInt := ia_add (y := 1) et_14 (by omega) (by omega)
        refine lv_iinc (v := t_14) (lv' := [(7, .int t_14), (8, .int 1), (6, .int x10_0), (5, .int r_1), (0, .ref t), (1, .ref ck), (2, .ref tm), (3, .ref v), (4, .int z)]) hx hb dX5_workOutSets_93 hl (k := 1) rfl et_14 (by decide) rfl (fun ls hl => ?_)
        refine lv_goto (tgt := 22) hx hb dX5_workOutSets_96 (by decide) ?_
        exact ih22 t_14 (show 0 ≤ t_14.toInt ∧ t_14.toInt ≤ 32 from ⟨by omega, by omega⟩) (show (32 - t_14.toInt).toNat < (32 - x22_0.toInt).toNat by omega) H locs wt ls hT hW hP hD hS (lv_sub hl [0, 2, 3, 4, 5, 6, 7, 8] rfl)
      · rw [← Int32.toInt_inj] at c_7
        refine lv_aload_n hx hb dX5_workOutSets_34 rfl (lv_at hl 6 rfl) ?_
        refine tr_get (ci := 7) hx hb ht hown hK hT hP k_v (by decide) i_X7 rfl 4 (by decide) wd_247 rfl dX5_workOutSets_35 (fun v hv hf_15 => ?_)
        obtain ⟨q_16, rfl, hq_16⟩ := hv
        refine lv_iload hx hb dX5_workOutSets_38 (lv_at hl 1 rfl) ?_
        refine tr_iald hx hb hK hT hP 21 hq_16 (by decide) (by decide) (show vp_in _ (tk_len 21) from ia_in (n := 3) (by omega) (by omega)) dX5_workOutSets_40 (fun n_17 hn_17 => ?_)
        clear hn_17
        refine lv_if_ne (tgt := 58) hx hb dX5_workOutSets_41 (by decide) (fun c_18 => ?_) (fun c_18 => ?_)
        · rw [← Int32.toInt_inj] at c_18
          refine lv_iconst (v := 0) hx hb dX5_workOutSets_58 (by decide +kernel) ?_
          refine lv_istore (lv' := [(8, .int 0), (7, .int x22_0), (6, .int x10_0), (5, .int r_1), (0, .ref t), (1, .ref ck), (2, .ref tm), (3, .ref v), (4, .int z)]) hx hb dX5_workOutSets_59 hl (by decide) rfl (fun ls hl => ?_)
          refine lv_iload hx hb dX5_workOutSets_61 (lv_at hl 0 rfl) ?_
          refine lv_if_eq (tgt := 93) hx hb dX5_workOutSets_63 (by decide) (fun _ => ?_) (fun c0 => False.elim (by rw [← Int32.toInt_inj] at c0; omega))
          obtain ⟨t_19, et_19⟩ : ∃ zz_ : Int32, x22_0 + Int32.ofInt (1) = zz_ := ⟨_, rfl⟩
          have ft_19 : t_19.toInt = x22_0.toInt + (1 : Int32).toInt := ia_add (y := 1) et_19 (by omega) (by omega)
          refine lv_iinc (v := t_19) (lv' := [(7, .int t_19), (8, .int 0), (6, .int x10_0), (5, .int r_1), (0, .ref t), (1, .ref ck), (2, .ref tm), (3, .ref v), (4, .int z)]) hx hb dX5_workOutSets_93 hl (k := 1) rfl et_19 (by decide) rfl (fun ls hl => ?_)
          refine lv_goto (tgt := 22) hx hb dX5_workOutSets_96 (by decide) ?_
          exact ih22 t_19 (show 0 ≤ t_19.toInt ∧ t_19.toInt ≤ 32 from ⟨by omega, by omega⟩) (show (32 - t_19.toInt).toNat < (32 - x22_0.toInt).toNat by omega) H locs wt ls hT hW hP hD hS (lv_sub hl [0, 2, 3, 4, 5, 6, 7, 8] rfl)
        · rw [← Int32.toInt_inj] at c_18
          refine lv_iload hx hb dX5_workOutSets_44 (lv_at hl 0 rfl) ?_
          refine lv_iload hx hb dX5_workOutSets_46 (lv_at hl 7 rfl) ?_
          refine lv_iconst (v := (-1)) hx hb dX5_workOutSets_48 (by decide +kernel) ?_
          refine lv_ixor hx hb dX5_workOutSets_49 ?_
          refine lv_topi (fun t_20 et_20 => ?_)
          obtain ⟨t_21, et_21⟩ : ∃ zz_ : Int32, x22_0 &&& t_20 = zz_ := ⟨_, rfl⟩
          refine gq_iand hx hb t_21 et_21 dX5_workOutSets_50 ?_
          have ft_21 := ia_and1 et_21 (by omega)
          refine lv_if_ne (tgt := 58) hx hb dX5_workOutSets_51 (by decide) (fun c_22 => ?_) (fun c_22 => ?_)
          · rw [← Int32.toInt_inj] at c_22
            refine lv_iconst (v := 0) hx hb dX5_workOutSets_58 (by decide +kernel) ?_
            refine lv_istore (lv' := [(8, .int 0), (7, .int x22_0), (6, .int x10_0), (5, .int r_1), (0, .ref t), (1, .ref ck), (2, .ref tm), (3, .ref v), (4, .int z)]) hx hb dX5_workOutSets_59 hl (by decide) rfl (fun ls hl => ?_)
            refine lv_iload hx hb dX5_workOutSets_61 (lv_at hl 0 rfl) ?_
            refine lv_if_eq (tgt := 93) hx hb dX5_workOutSets_63 (by decide) (fun _ => ?_) (fun c0 => False.elim (by rw [← Int32.toInt_inj] at c0; omega))
            obtain ⟨t_23, et_23⟩ : ∃ zz_ : Int32, x22_0 + Int32.ofInt (1) = zz_ := ⟨_, rfl⟩
            have ft_23 : t_23.toInt = x22_0.toInt + (1 : Int32).toInt := ia_add (y := 1) et_23 (by omega) (by omega)
            refine lv_iinc (v := t_23) (lv' := [(7, .int t_23), (8, .int 0), (6, .int x10_0), (5, .int r_1), (0, .ref t), (1, .ref ck), (2, .ref tm), (3, .ref v), (4, .int z)]) hx hb dX5_workOutSets_93 hl (k := 1) rfl et_23 (by decide) rfl (fun ls hl => ?_)
            refine lv_goto (tgt := 22) hx hb dX5_workOutSets_96 (by decide) ?_
            exact ih22 t_23 (show 0 ≤ t_23.toInt ∧ t_23.toInt ≤ 32 from ⟨by omega, by omega⟩) (show (32 - t_23.toInt).toNat < (32 - x22_0.toInt).toNat by omega) H locs wt ls hT hW hP hD hS (lv_sub hl [0, 2, 3, 4, 5, 6, 7, 8] rfl)
          · rw [← Int32.toInt_inj] at c_22
            refine lv_iconst (v := 1) hx hb dX5_workOutSets_54 (by decide +kernel) ?_
            refine lv_goto (tgt := 59) hx hb dX5_workOutSets_55 (by decide) ?_
            refine lv_istore (lv' := [(8, .int 1), (7, .int x22_0), (6, .int x10_0), (5, .int r_1), (0, .ref t), (1, .ref ck), (2, .ref tm), (3, .ref v), (4, .int z)]) hx hb dX5_workOutSets_59 hl (by decide) rfl (fun ls hl => ?_)
            refine lv_iload hx hb dX5_workOutSets_61 (lv_at hl 0 rfl) ?_
            refine lv_if_eq (tgt := 93) hx hb dX5_workOutSets_63 (by decide) (fun c0 => False.elim (by rw [← Int32.toInt_inj] at c0; omega)) (fun _ => ?_)
            refine lv_aload_n hx hb dX5_workOutSets_66 rfl (lv_at hl 4 rfl) ?_
            refine tr_get (ci := 5) hx hb ht hown hK hT hP k_t (by decide) i_X5 rfl 2 (by decide) wd_432 rfl dX5_workOutSets_67 (fun v hv hf_24 => ?_)
            obtain ⟨q_25, rfl, hq_25⟩ := hv
            refine lv_iload hx hb dX5_workOutSets_70 (lv_at hl 2 rfl) ?_
            refine lv_bipush (v := 32) hx hb dX5_workOutSets_72 (by decide +kernel) ?_
            obtain ⟨t_26, et_26⟩ : ∃ zz_ : Int32, x10_0 * 32 = zz_ := ⟨_, rfl⟩
            refine gq_imul hx hb t_26 et_26 dX5_workOutSets_74 ?_
            have ft_26 := ia_mul et_26 (by rw [l32]; omega) (by rw [l32]; omega)
            rw [l32] at ft_26
            refine lv_iload hx hb dX5_workOutSets_75 (lv_at hl 1 rfl) ?_
            obtain ⟨t_27, et_27⟩ : ∃ zz_ : Int32, t_26 + x22_0 = zz_ := ⟨_, rfl⟩
            refine gq_iadd hx hb t_27 et_27 dX5_workOutSets_77 ?_
            have ft_27 := ia_add et_27 (by omega) (by omega)
            refine lv_aload_n hx hb dX5_workOutSets_78 rfl (lv_at hl 4 rfl) ?_
            refine lv_aload_n hx hb dX5_workOutSets_79 rfl (lv_at hl 5 rfl) ?_
            refine lv_aload_n hx hb dX5_workOutSets_80 rfl (lv_at hl 6 rfl) ?_
            refine lv_aload_n hx hb dX5_workOutSets_81 rfl (lv_at hl 7 rfl) ?_
            refine lv_iload hx hb dX5_workOutSets_82 (lv_at hl 2 rfl) ?_
            refine lv_iload hx hb dX5_workOutSets_84 (lv_at hl 1 rfl) ?_
            refine gt_callI (wr := []) (va_runV (As := [.ref ck, .ref tm, .ref v, .int x10_0, .int x22_0]) (rest := [.int t_27, .ref q_25]) ⟨hx, hb, hml, hown, ht⟩ (d_setGains l G Γ H.size wt hT t ck tm v x10_0 x22_0 k_t k_ck k_tm k_v (by omega) (by omega)) (cwV 5 ht (ts_gV wd_1064 wd_1066 wd_26 wd_131 wd_1067) rfl rfl rfl (by decide +kernel) ⟨Nat.le_of_ble_eq_true rfl, Nat.le_of_ble_eq_true rfl⟩) (gt_preW (ci := 5) hK hT (tw_right hP) (tw_rightD hD) k_t (by decide) rfl) rfl rfl hl.1 rfl (lv_room (Nat.le_of_ble_eq_true rfl)) dX5_workOutSets_86 ⟨Nat.le_of_ble_eq_true rfl, Nat.le_of_ble_eq_true rfl⟩) hP hD hS hA (fun r_28 wt H locs hw hP hD hS => ?_)
            obtain ⟨hT, hkp⟩ := hw
            have hW := hW.call (show ∀ x ∈ [709], x ∈ [709] by decide) hkp
            refine lv_iload hx hb dX5_workOutSets_89 (lv_at hl 3 rfl) ?_
            obtain ⟨t_29, et_29⟩ : ∃ zz_ : Int32, r_28 - r_1 = zz_ := ⟨_, rfl⟩
            refine gq_isub hx hb t_29 et_29 dX5_workOutSets_91 ?_
            refine tr_iast hx hb hK hT hP hD hS 27 hq_25 (by decide) (by decide) (show vp_in _ (tk_len 27) from ia_in (n := 96) (by omega) (by omega)) (show tk_e 27 _ from trivial) dX5_workOutSets_92 (fun H locs wt hT hfl hP hD hS => ?_)
            have hW := hW.arr hfl
            obtain ⟨t_30, et_30⟩ : ∃ zz_ : Int32, x22_0 + Int32.ofInt (1) = zz_ := ⟨_, rfl⟩
            have ft_30 : t_30.toInt = x22_0.toInt + (1 : Int32).toInt := ia_add (y := 1) et_30 (by omega) (by omega)
            refine lv_iinc (v := t_30) (lv' := [(7, .int t_30), (8, .int 1), (6, .int x10_0), (5, .int r_1), (0, .ref t), (1, .ref ck), (2, .ref tm), (3, .ref v), (4, .int z)]) hx hb dX5_workOutSets_93 hl (k := 1) rfl et_30 (by decide) rfl (fun ls hl => ?_)
            refine lv_goto (tgt := 22) hx hb dX5_workOutSets_96 (by decide) ?_
            exact ih22 t_30 (show 0 ≤ t_30.toInt ∧ t_30.toInt ≤ 32 from ⟨by omega, by omega⟩) (show (32 - t_30.toInt).toNat < (32 - x22_0.toInt).toNat by omega) H locs wt ls hT hW hP hD hS (lv_sub hl [0, 2, 3, 4, 5, 6, 7, 8] rfl)
set_option maxHeartbeats 4000000 in
set_option maxRecDepth 100000 in
theorem d_sumOfSets (l : Launch) (G : gg_T) (Γ : Nat → Nat) (sz : Nat) (wt : va_W) (hT : tk_ty G Γ wt) (t : Nat) (tm : Nat) (v : Nat) (k_t : Γ t = 6) (k_tm : Γ tm = 10) (k_v : Γ v = 8) : Met l yX5_sumOfSets (ts_L yX5_sumOfSets cX5_sumOfSets 7 (some .int)) ({ frames := 3, cells := 0, slots := 0, locals := 69 }) (gc_P G wt sz [.ref t, .ref tm, .ref v]) (gc_I G (va_A wt sz) (fun r (u : va_W) => tk_ty G Γ u ∧ tk_kp [] wt u) (fun u => u)) 0 0 (va_A wt sz) := by
  refine Met.ofW (cc := cX5_sumOfSets) (maxL := 7) (ret := (some .int)) (by decide) rfl ?_
  intro p e s m args below meth c s₁ B hml hv
  obtain ⟨rfl, hsz, hP, hK, hD0⟩ := hv
  have hx := B.exec
  have hb := B.bytes
  have hr := B.returns
  have ht := ts_ht (atoms_spec (ws := ts_L yX5_sumOfSets cX5_sumOfSets 7 (some .int)) B.pre)
  have hown : s.vm.findClass RX5 = some m.cls := findClass_of_methodNamed B.named
  have hlocks := B.notSynchronized
  subst hsz
  have hD := hD0.self (sz := s.heap.size)
  generalize hAe : va_A wt s.heap.size = A at hD ⊢
  have hA : ∀ q : Nat, s.heap.size ≤ q → A q := fun q h => by rw [← hAe]; exact Or.inr h
  clear hAe hD0
  have hS : va_S A s.heap s.heap [] := va_S.rf
  obtain ⟨w0, hw0⟩ : ∃ z, z = wt := ⟨_, rfl⟩
  have hW : tk_kp [] w0 wt := by rw [hw0]; exact tk_kp.rf
  rw [← hw0]
  clear hw0
  have hP : va_P (gg_D G) classes ([] ++ wt) s.heap := hP
  have hD : va_D A ([] ++ wt) := hD
  have hl := lv_entry ([.ref t, .ref tm, .ref v]) (n := 7) (Nat.le_of_ble_eq_true rfl)
  rw [lg_entry_eq]
  generalize (lg_sl ([.ref t, .ref tm, .ref v]) ++ List.replicate (7 - (lg_sl ([.ref t, .ref tm, .ref v])).length) Slot.unset).toArray = ls at hl ⊢
  have hl : lv_has ls 7 [(0, .ref t), (1, .ref tm), (2, .ref v)] := hl
  have l0 : (0 : Int32).toInt = 0 := by decide +kernel
  have l1 : (1 : Int32).toInt = 1 := by decide +kernel
  have l5 : (5 : Int32).toInt = 5 := by decide +kernel
  have l32 : (32 : Int32).toInt = 32 := by decide +kernel
  refine lv_aload_n hx hb dX5_sumOfSets_0 rfl (lv_at hl 2 rfl) ?_
  refine lv_aload_n hx hb dX5_sumOfSets_1 rfl (lv_at hl 1 rfl) ?_
  refine gt_callI (wr := []) (va_runV (As := [.ref tm]) (rest := []) ⟨hx, hb, hml, hown, ht⟩ (d_allGains l G Γ s.heap.size wt hT v tm k_v k_tm) (cwV 1 ht (ts_gV wd_1059 wd_1060 wd_1061 wd_125 wd_1062) rfl rfl rfl (by decide +kernel) ⟨Nat.le_of_ble_eq_true rfl, Nat.le_of_ble_eq_true rfl⟩) (gt_preW (ci := 7) hK hT (tw_right hP) (tw_rightD hD) k_v (by decide) rfl) rfl rfl hl.1 rfl (lv_room (Nat.le_of_ble_eq_true rfl)) dX5_sumOfSets_2 ⟨Nat.le_of_ble_eq_true rfl, Nat.le_of_ble_eq_true rfl⟩) hP hD hS hA (fun r_1 wt H locs hw hP hD hS => ?_)
  obtain ⟨hT, hkp⟩ := hw
  have hW := hW.call (show ∀ x ∈ [], x ∈ [] by decide) hkp
  refine lv_istore_n (lv' := [(3, .int r_1), (0, .ref t), (1, .ref tm), (2, .ref v)]) hx hb dX5_sumOfSets_5 rfl hl (by decide) rfl (fun ls hl => ?_)
  refine lv_iconst (v := 0) hx hb dX5_sumOfSets_6 (by decide +kernel) ?_
  refine lv_istore (lv' := [(4, .int 0), (3, .int r_1), (0, .ref t), (1, .ref tm), (2, .ref v)]) hx hb dX5_sumOfSets_7 hl (by decide) rfl (fun ls hl => ?_)
  refine tl_loopE (Γ := Γ) (nL := 7) (fun (zz_ : Int32 × Int32) => match zz_ with | (x9_0, x9_1) => 0 ≤ x9_0.toInt ∧ x9_0.toInt ≤ 3) (fun (zz_ : Int32 × Int32) => match zz_ with | (x9_0, x9_1) => (3 - x9_0.toInt).toNat) (fun (zz_ : Int32 × Int32) => match zz_ with | (x9_0, x9_1) => [(4, .int x9_0), (3, .int x9_1), (0, .ref t), (1, .ref tm), (2, .ref v)]) (fun (zz_ : Int32 × Int32) => match zz_ with | (x9_0, x9_1) => []) (fun (zz_ : Int32 × Int32) (w : va_W) => match zz_ with | (x9_0, x9_1) => tk_kp [] w0 w) (fun zz_ hI H locs wt ls hT hW hP hD hS hl ih9 => ?_) (0, r_1) (show 0 ≤ (0 : Int32).toInt ∧ (0 : Int32).toInt ≤ 3 from ⟨by omega, by omega⟩) _ _ wt ls hT hW hP hD hS hl
  obtain ⟨x9_0, x9_1⟩ := zz_
  have hW : tk_kp [] w0 wt := hW
  have hI : 0 ≤ x9_0.toInt ∧ x9_0.toInt ≤ 3 := hI
  obtain ⟨j9_0, j9_1⟩ := hI
  have hl : lv_has ls 7 [(4, .int x9_0), (3, .int x9_1), (0, .ref t), (1, .ref tm), (2, .ref v)] := hl
  have hP : va_P (gg_D G) classes ([] ++ wt) H := hP
  have hD : va_D A ([] ++ wt) := hD
  refine lv_iload hx hb dX5_sumOfSets_9 (lv_at hl 0 rfl) ?_
  refine lv_aload_n hx hb dX5_sumOfSets_11 rfl (lv_at hl 3 rfl) ?_
  refine tr_get (ci := 9) hx hb ht hown hK hT hP k_tm (by decide) i_X9 rfl 2 (by decide) wd_188 rfl dX5_sumOfSets_12 (fun v hv hf_2 => ?_)
  obtain ⟨n_3, rfl, lo_n_3, hi_n_3⟩ := hv
  refine lv_icmp_ge (tgt := 83) hx hb dX5_sumOfSets_15 (by decide) (fun c_4 => ?_) (fun c_4 => ?_)
  · rw [Int32.le_iff_toInt_le] at c_4
    refine lv_iload_n hx hb dX5_sumOfSets_83 rfl (lv_at hl 1 rfl) ?_
    have hP9 := tw_right hP
    have hD9 := tw_rightD hD
    exact W.iret (v := x9_1) hx hb hr (gq_endI wt ⟨hT, hW⟩ hP9 hD9 hS) hS.2.2 dX5_sumOfSets_84
  · rw [Int32.le_iff_toInt_le] at c_4
    refine lv_iconst (v := 0) hx hb dX5_sumOfSets_18 (by decide +kernel) ?_
    refine lv_istore (lv' := [(5, .int 0), (4, .int x9_0), (3, .int x9_1), (0, .ref t), (1, .ref tm), (2, .ref v)]) hx hb dX5_sumOfSets_19 hl (by decide) rfl (fun ls hl => ?_)
    refine lv_iconst (v := 0) hx hb dX5_sumOfSets_21 (by decide +kernel) ?_
    refine lv_istore (lv' := [(6, .int 0), (5, .int 0), (4, .int x9_0), (3, .int x9_1), (0, .ref t), (1, .ref tm), (2, .ref v)]) hx hb dX5_sumOfSets_22 hl (by decide) rfl (fun ls hl => ?_)
    refine tl_loopE (Γ := Γ) (nL := 7) (fun (zz_ : Int32 × Int32) => match zz_ with | (x24_0, x24_1) => 0 ≤ x24_0.toInt ∧ x24_0.toInt ≤ 5 ∧ 0 ≤ x24_1.toInt ∧ x24_1.toInt ≤ 31) (fun (zz_ : Int32 × Int32) => match zz_ with | (x24_0, x24_1) => (5 - x24_0.toInt).toNat) (fun (zz_ : Int32 × Int32) => match zz_ with | (x24_0, x24_1) => [(6, .int x24_0), (5, .int x24_1), (4, .int x9_0), (3, .int x9_1), (0, .ref t), (1, .ref tm), (2, .ref v)]) (fun (zz_ : Int32 × Int32) => match zz_ with | (x24_0, x24_1) => []) (fun (zz_ : Int32 × Int32) (w : va_W) => match zz_ with | (x24_0, x24_1) => tk_kp [] w0 w) (fun zz_ hI H locs wt ls hT hW hP hD hS hl ih24 => ?_) (0, 0) (show 0 ≤ (0 : Int32).toInt ∧ (0 : Int32).toInt ≤ 5 ∧ 0 ≤ (0 : Int32).toInt ∧ (0 : Int32).toInt ≤ 31 from ⟨by omega, by omega, by omega, by omega⟩) _ _ wt ls hT hW hP hD hS hl
    obtain ⟨x24_0, x24_1⟩ := zz_
    have hW : tk_kp [] w0 wt := hW
    have hI : 0 ≤ x24_0.toInt ∧ x24_0.toInt ≤ 5 ∧ 0 ≤ x24_1.toInt ∧ x24_1.toInt ≤ 31 := hI
    obtain ⟨j24_0, j24_1, j24_2, j24_3⟩ := hI
    have hl : lv_has ls 7 [(6, .int x24_0), (5, .int x24_1), (4, .int x9_0), (3, .int x9_1), (0, .ref t), (1, .ref tm), (2, .ref v)] := hl
    have hP : va_P (gg_D G) classes ([] ++ wt) H := hP
    have hD : va_D A ([] ++ wt) := hD
    refine lv_iload hx hb dX5_sumOfSets_24 (lv_at hl 0 rfl) ?_
    refine lv_iconst (v := 5) hx hb dX5_sumOfSets_26 (by decide +kernel) ?_
    refine lv_icmp_ge (tgt := 61) hx hb dX5_sumOfSets_27 (by decide) (fun c_5 => ?_) (fun c_5 => ?_)
    · rw [Int32.le_iff_toInt_le] at c_5
      refine lv_iload_n hx hb dX5_sumOfSets_61 rfl (lv_at hl 3 rfl) ?_
      refine lv_aload_n hx hb dX5_sumOfSets_62 rfl (lv_at hl 4 rfl) ?_
      refine tr_get (ci := 5) hx hb ht hown hK hT hP k_t (by decide) i_X5 rfl 2 (by decide) wd_432 rfl dX5_sumOfSets_63 (fun v hv hf_6 => ?_)
      obtain ⟨q_7, rfl, hq_7⟩ := hv
      refine lv_iload hx hb dX5_sumOfSets_66 (lv_at hl 2 rfl) ?_
      refine lv_bipush (v := 32) hx hb dX5_sumOfSets_68 (by decide +kernel) ?_
      obtain ⟨t_8, et_8⟩ : ∃ zz_ : Int32, x9_0 * 32 = zz_ := ⟨_, rfl⟩
      refine gq_imul hx hb t_8 et_8 dX5_sumOfSets_70 ?_
      have ft_8 := ia_mul et_8 (by rw [l32]; omega) (by rw [l32]; omega)
      rw [l32] at ft_8
      refine lv_iload hx hb dX5_sumOfSets_71 (lv_at hl 1 rfl) ?_
      obtain ⟨t_9, et_9⟩ : ∃ zz_ : Int32, t_8 + x24_1 = zz_ := ⟨_, rfl⟩
      refine gq_iadd hx hb t_9 et_9 dX5_sumOfSets_73 ?_
      have ft_9 := ia_add et_9 (by omega) (by omega)
      refine tr_iald hx hb hK hT hP 27 hq_7 (by decide) (by decide) (show vp_in _ (tk_len 27) from ia_in (n := 96) (by omega) (by omega)) dX5_sumOfSets_74 (fun n_10 hn_10 => ?_)
      clear hn_10
      obtain ⟨t_11, et_11⟩ : ∃ zz_ : Int32, x9_1 + n_10 = zz_ := ⟨_, rfl⟩
      refine gq_iadd hx hb t_11 et_11 dX5_sumOfSets_75 ?_
      refine lv_istore_n (lv' := [(3, .int t_11), (6, .int x24_0), (5, .int x24_1), (4, .int x9_0), (0, .ref t), (1, .ref tm), (2, .ref v)]) hx hb dX5_sumOfSets_76 rfl hl (by decide) rfl (fun ls hl => ?_)
      obtain ⟨t_12, et_12⟩ : ∃ zz_ : Int32, x9_0 + Int32.ofInt (1) = zz_ := ⟨_, rfl⟩
      have ft_12 : t_12.toInt = x9_0.toInt + (1 : Int32).toInt := ia_add (y := 1) et_12 (by omega) (by omega)
      refine lv_iinc (v := t_12) (lv' := [(4, .int t_12), (3, .int t_11), (6, .int x24_0), (5, .int x24_1), (0, .ref t), (1, .ref tm), (2, .ref v)]) hx hb dX5_sumOfSets_77 hl (k := 3) rfl et_12 (by decide) rfl (fun ls hl => ?_)
      refine lv_goto (tgt := 9) hx hb dX5_sumOfSets_80 (by decide) ?_
      exact ih9 (t_12, t_11) (show 0 ≤ t_12.toInt ∧ t_12.toInt ≤ 3 from ⟨by omega, by omega⟩) (show (3 - t_12.toInt).toNat < (3 - x9_0.toInt).toNat by omega) H locs wt ls hT hW hP hD hS (lv_sub hl [0, 1, 4, 5, 6] rfl)
    · rw [Int32.le_iff_toInt_le] at c_5
      refine lv_iload hx hb dX5_sumOfSets_30 (lv_at hl 1 rfl) ?_
      refine lv_aload_n hx hb dX5_sumOfSets_32 rfl (lv_at hl 4 rfl) ?_
      refine tr_get (ci := 5) hx hb ht hown hK hT hP k_t (by decide) i_X5 rfl 1 (by decide) wd_431 rfl dX5_sumOfSets_33 (fun v hv hf_13 => ?_)
      obtain ⟨q_14, rfl, hq_14⟩ := hv
      refine lv_iload hx hb dX5_sumOfSets_36 (lv_at hl 0 rfl) ?_
      refine tr_iald hx hb hK hT hP 20 hq_14 (by decide) (by decide) (show vp_in _ (tk_len 20) from ia_in (n := 5) (by omega) (by omega)) dX5_sumOfSets_38 (fun n_15 hn_15 => ?_)
      clear hn_15
      refine lv_iload hx hb dX5_sumOfSets_39 (lv_at hl 2 rfl) ?_
      refine lv_icmp_ne (tgt := 51) hx hb dX5_sumOfSets_41 (by decide) (fun c_16 => ?_) (fun c_16 => ?_)
      · rw [← Int32.toInt_inj] at c_16
        refine lv_iconst (v := 0) hx hb dX5_sumOfSets_51 (by decide +kernel) ?_
        obtain ⟨t_17, et_17⟩ : ∃ zz_ : Int32, x24_1 ||| 0 = zz_ := ⟨_, rfl⟩
        refine gq_ior hx hb t_17 et_17 dX5_sumOfSets_52 ?_
        have ft_17 := ia_or31 et_17 (by omega) (by omega) (by omega) (by omega)
        refine lv_istore (lv' := [(5, .int t_17), (6, .int x24_0), (4, .int x9_0), (3, .int x9_1), (0, .ref t), (1, .ref tm), (2, .ref v)]) hx hb dX5_sumOfSets_53 hl (by decide) rfl (fun ls hl => ?_)
        obtain ⟨t_18, et_18⟩ : ∃ zz_ : Int32, x24_0 + Int32.ofInt (1) = zz_ := ⟨_, rfl⟩
        have ft_18 : t_18.toInt = x24_0.toInt + (1 : Int32).toInt := ia_add (y := 1) et_18 (by omega) (by omega)
        refine lv_iinc (v := t_18) (lv' := [(6, .int t_18), (5, .int t_17), (4, .int x9_0), (3, .int x9_1), (0, .ref t), (1, .ref tm), (2, .ref v)]) hx hb dX5_sumOfSets_55 hl (k := 1) rfl et_18 (by decide) rfl (fun ls hl => ?_)
        refine lv_goto (tgt := 24) hx hb dX5_sumOfSets_58 (by decide) ?_
        exact ih24 (t_18, t_17) (show 0 ≤ t_18.toInt ∧ t_18.toInt ≤ 5 ∧ 0 ≤ t_17.toInt ∧ t_17.toInt ≤ 31 from ⟨by omega, by omega, by omega, by omega⟩) (show (5 - t_18.toInt).toNat < (5 - x24_0.toInt).toNat by omega) H locs wt ls hT hW hP hD hS (lv_sub hl [0, 1, 2, 3, 4, 5, 6] rfl)
      · rw [← Int32.toInt_inj] at c_16
        refine lv_iconst (v := 1) hx hb dX5_sumOfSets_44 (by decide +kernel) ?_
        refine lv_iload hx hb dX5_sumOfSets_45 (lv_at hl 0 rfl) ?_
        obtain ⟨t_19, et_19⟩ : ∃ zz_ : Int32, 1 <<< (x24_0 &&& 31) = zz_ := ⟨_, rfl⟩
        refine gq_ishl hx hb t_19 et_19 dX5_sumOfSets_47 ?_
        have ft_19 := ia_bit et_19 (by omega) (by omega)
        refine lv_goto (tgt := 52) hx hb dX5_sumOfSets_48 (by decide) ?_
        obtain ⟨t_20, et_20⟩ : ∃ zz_ : Int32, x24_1 ||| t_19 = zz_ := ⟨_, rfl⟩
        refine gq_ior hx hb t_20 et_20 dX5_sumOfSets_52 ?_
        have ft_20 := ia_or31 et_20 (by omega) (by omega) (by omega) (by omega)
        refine lv_istore (lv' := [(5, .int t_20), (6, .int x24_0), (4, .int x9_0), (3, .int x9_1), (0, .ref t), (1, .ref tm), (2, .ref v)]) hx hb dX5_sumOfSets_53 hl (by decide) rfl (fun ls hl => ?_)
        obtain ⟨t_21, et_21⟩ : ∃ zz_ : Int32, x24_0 + Int32.ofInt (1) = zz_ := ⟨_, rfl⟩
        have ft_21 : t_21.toInt = x24_0.toInt + (1 : Int32).toInt := ia_add (y := 1) et_21 (by omega) (by omega)
        refine lv_iinc (v := t_21) (lv' := [(6, .int t_21), (5, .int t_20), (4, .int x9_0), (3, .int x9_1), (0, .ref t), (1, .ref tm), (2, .ref v)]) hx hb dX5_sumOfSets_55 hl (k := 1) rfl et_21 (by decide) rfl (fun ls hl => ?_)
        refine lv_goto (tgt := 24) hx hb dX5_sumOfSets_58 (by decide) ?_
        exact ih24 (t_21, t_20) (show 0 ≤ t_21.toInt ∧ t_21.toInt ≤ 5 ∧ 0 ≤ t_20.toInt ∧ t_20.toInt ≤ 31 from ⟨by omega, by omega, by omega, by omega⟩) (show (5 - t_21.toInt).toNat < (5 - x24_0.toInt).toNat by omega) H locs wt ls hT hW hP hD hS (lv_sub hl [0, 1, 2, 3, 4, 5, 6] rfl)
set_option maxHeartbeats 4000000 in
set_option maxRecDepth 100000 in
theorem d_findSeats (l : Launch) (G : gg_T) (Γ : Nat → Nat) (sz : Nat) (wt : va_W) (hT : tk_ty G Γ wt) (t : Nat) (ck : Nat) (tm : Nat) (v : Nat) (k_t : Γ t = 6) (k_ck : Γ ck = 1) (k_tm : Γ tm = 10) (k_v : Γ v = 8) : Met l yX5_findSeats (ts_L yX5_findSeats cX5_findSeats 10 none) ({ frames := 6, cells := 0, slots := 0, locals := 153 }) (gc_P G wt sz [.ref t, .ref ck, .ref tm, .ref v]) (gc_V G (va_A wt sz) (fun (u : va_W) => tk_ty G Γ u ∧ tk_kp [504, 709] wt u) (fun u => u)) 0 0 (va_A wt sz) := by
  refine Met.ofW (cc := cX5_findSeats) (maxL := 10) (ret := none) (by decide) rfl ?_
  intro p e s m args below meth c s₁ B hml hv
  obtain ⟨rfl, hsz, hP, hK, hD0⟩ := hv
  have hx := B.exec
  have hb := B.bytes
  have hr := B.returns
  have ht := ts_ht (atoms_spec (ws := ts_L yX5_findSeats cX5_findSeats 10 none) B.pre)
  have hown : s.vm.findClass RX5 = some m.cls := findClass_of_methodNamed B.named
  have hlocks := B.notSynchronized
  subst hsz
  have hD := hD0.self (sz := s.heap.size)
  generalize hAe : va_A wt s.heap.size = A at hD ⊢
  have hA : ∀ q : Nat, s.heap.size ≤ q → A q := fun q h => by rw [← hAe]; exact Or.inr h
  clear hAe hD0
  have hS : va_S A s.heap s.heap [] := va_S.rf
  obtain ⟨w0, hw0⟩ : ∃ z, z = wt := ⟨_, rfl⟩
  have hW : tk_kp [504, 709] w0 wt := by rw [hw0]; exact tk_kp.rf
  rw [← hw0]
  clear hw0
  have hP : va_P (gg_D G) classes ([] ++ wt) s.heap := hP
  have hD : va_D A ([] ++ wt) := hD
  have hl := lv_entry ([.ref t, .ref ck, .ref tm, .ref v]) (n := 10) (Nat.le_of_ble_eq_true rfl)
  rw [lg_entry_eq]
  generalize (lg_sl ([.ref t, .ref ck, .ref tm, .ref v]) ++ List.replicate (10 - (lg_sl ([.ref t, .ref ck, .ref tm, .ref v])).length) Slot.unset).toArray = ls at hl ⊢
  have hl : lv_has ls 10 [(0, .ref t), (1, .ref ck), (2, .ref tm), (3, .ref v)] := hl
  have lm1000000 : ((-1000000) : Int32).toInt = -1000000 := by decide +kernel
  have l0 : (0 : Int32).toInt = 0 := by decide +kernel
  have l1 : (1 : Int32).toInt = 1 := by decide +kernel
  refine lv_iconst (v := 1) hx hb dX5_findSeats_0 (by decide +kernel) ?_
  refine lv_aload_n hx hb dX5_findSeats_1 rfl (lv_at hl 2 rfl) ?_
  refine tr_get (ci := 9) hx hb ht hown hK hT hP k_tm (by decide) i_X9 rfl 1 (by decide) wd_183 rfl dX5_findSeats_2 (fun v hv hf_1 => ?_)
  obtain ⟨n_2, rfl, lo_n_2, hi_n_2⟩ := hv
  obtain ⟨t_3, et_3⟩ : ∃ zz_ : Int32, 1 <<< (n_2 &&& 31) = zz_ := ⟨_, rfl⟩
  refine gq_ishl hx hb t_3 et_3 dX5_findSeats_5 ?_
  refine lv_iconst (v := 1) hx hb dX5_findSeats_6 (by decide +kernel) ?_
  obtain ⟨t_4, et_4⟩ : ∃ zz_ : Int32, t_3 - 1 = zz_ := ⟨_, rfl⟩
  refine gq_isub hx hb t_4 et_4 dX5_findSeats_7 ?_
  refine lv_aload_n hx hb dX5_findSeats_8 rfl (lv_at hl 3 rfl) ?_
  refine gt_callI (wr := []) (va_runV (As := []) (rest := [.int t_4]) ⟨hx, hb, hml, hown, ht⟩ (d_silentOnes l G Γ s.heap.size wt hT v k_v) (cwV 0 ht (ts_gV wd_1042 wd_798 wd_799 wd_125 wd_800) rfl rfl rfl (by decide +kernel) ⟨Nat.le_of_ble_eq_true rfl, Nat.le_of_ble_eq_true rfl⟩) (gt_preW (ci := 7) hK hT (tw_right hP) (tw_rightD hD) k_v (by decide) rfl) rfl rfl hl.1 rfl (lv_room (Nat.le_of_ble_eq_true rfl)) dX5_findSeats_9 ⟨Nat.le_of_ble_eq_true rfl, Nat.le_of_ble_eq_true rfl⟩) hP hD hS hA (fun r_5 wt H locs hw hP hD hS => ?_)
  obtain ⟨hT, hkp, lo_r_5, hi_r_5⟩ := hw
  have hW := hW.call (show ∀ x ∈ [], x ∈ [504, 709] by decide) hkp
  have hf_1 := hkp _ _ _ _ (by decide) (by decide) hf_1
  refine lv_iconst (v := (-1)) hx hb dX5_findSeats_12 (by decide +kernel) ?_
  refine lv_ixor hx hb dX5_findSeats_13 ?_
  refine lv_topi (fun t_6 et_6 => ?_)
  obtain ⟨t_7, et_7⟩ : ∃ zz_ : Int32, t_4 &&& t_6 = zz_ := ⟨_, rfl⟩
  refine gq_iand hx hb t_7 et_7 dX5_findSeats_14 ?_
  refine lv_istore (lv' := [(4, .int t_7), (0, .ref t), (1, .ref ck), (2, .ref tm), (3, .ref v)]) hx hb dX5_findSeats_15 hl (by decide) rfl (fun ls hl => ?_)
  refine lv_aload_n hx hb dX5_findSeats_17 rfl (lv_at hl 3 rfl) ?_
  refine tr_get (ci := 9) hx hb ht hown hK hT hP k_tm (by decide) i_X9 rfl 2 (by decide) wd_188 rfl dX5_findSeats_18 (fun v hv hf_8 => ?_)
  obtain ⟨n_9, rfl, lo_n_9, hi_n_9⟩ := hv
  refine lv_iconst (v := 1) hx hb dX5_findSeats_21 (by decide +kernel) ?_
  obtain ⟨t_10, et_10⟩ : ∃ zz_ : Int32, n_9 + 1 = zz_ := ⟨_, rfl⟩
  refine gq_iadd hx hb t_10 et_10 dX5_findSeats_22 ?_
  have ft_10 := ia_add et_10 (by omega) (by omega)
  refine lv_istore (lv' := [(5, .int t_10), (4, .int t_7), (0, .ref t), (1, .ref ck), (2, .ref tm), (3, .ref v)]) hx hb dX5_findSeats_23 hl (by decide) rfl (fun ls hl => ?_)
  refine lv_iload hx hb dX5_findSeats_25 (lv_at hl 0 rfl) ?_
  refine lv_iload hx hb dX5_findSeats_27 (lv_at hl 1 rfl) ?_
  refine gt_callI (wr := []) (va_runS (As := [.int t_7]) (rest := [.int t_10]) ⟨hx, hb, hml, hown, ht⟩ (d_bitCount l G Γ H.size wt hT t_7) (va_cwS 1 ht (ts_gS wd_1043 wd_895 wd_141 wd_896) rfl rfl rfl (by decide +kernel) ⟨Nat.le_of_ble_eq_true rfl, Nat.le_of_ble_eq_true rfl⟩) (gc_preS hK (tw_right hP) (tw_rightD hD)) rfl rfl hl.1 rfl (lv_room (Nat.le_of_ble_eq_true rfl)) dX5_findSeats_29 ⟨Nat.le_of_ble_eq_true rfl, Nat.le_of_ble_eq_true rfl⟩) hP hD hS hA (fun r_11 wt H locs hw hP hD hS => ?_)
  obtain ⟨hT, hkp⟩ := hw
  have hW := hW.call (show ∀ x ∈ [], x ∈ [504, 709] by decide) hkp
  have hf_1 := hkp _ _ _ _ (by decide) (by decide) hf_1
  have hf_8 := hkp _ _ _ _ (by decide) (by decide) hf_8
  refine gt_callI (wr := []) (va_runSN (As := [.int t_10, .int r_11]) (rest := []) ⟨hx, hb, hml, hown, ht⟩ (d_power l G Γ H.size wt hT t_10 r_11) ⟨va_cnB 2 ht (tb_good (ts_good wd_1046)) rfl rfl rfl (hK.2.1 _ wn_1044 rfl) (ht _ wd_122) (by decide +kernel) ⟨Nat.le_of_ble_eq_true rfl, Nat.le_of_ble_eq_true rfl⟩, ht _ wd_1045, trivial⟩ (gc_preS hK (tw_right hP) (tw_rightD hD)) rfl rfl hl.1 rfl (lv_room (Nat.le_of_ble_eq_true rfl)) dX5_findSeats_32 ⟨Nat.le_of_ble_eq_true rfl, Nat.le_of_ble_eq_true rfl⟩) hP hD hS hA (fun r_12 wt H locs hw hP hD hS => ?_)
  obtain ⟨hT, hkp⟩ := hw
  have hW := hW.call (show ∀ x ∈ [], x ∈ [504, 709] by decide) hkp
  have hf_1 := hkp _ _ _ _ (by decide) (by decide) hf_1
  have hf_8 := hkp _ _ _ _ (by decide) (by decide) hf_8
  refine lv_istore (lv' := [(6, .int r_12), (5, .int t_10), (4, .int t_7), (0, .ref t), (1, .ref ck), (2, .ref tm), (3, .ref v)]) hx hb dX5_findSeats_35 hl (by decide) rfl (fun ls hl => ?_)
  refine lv_aload_n hx hb dX5_findSeats_37 rfl (lv_at hl 4 rfl) ?_
  refine gt_callI (wr := []) (va_runV (As := []) (rest := []) ⟨hx, hb, hml, hown, ht⟩ (d_mindsRooms l G Γ H.size wt hT ck k_ck) (cwV 0 ht (ts_gV wd_1047 wd_1048 wd_1049 wd_130 wd_1050) rfl rfl rfl (by decide +kernel) ⟨Nat.le_of_ble_eq_true rfl, Nat.le_of_ble_eq_true rfl⟩) (gt_preW (ci := 0) hK hT (tw_right hP) (tw_rightD hD) k_ck (by decide) rfl) rfl rfl hl.1 rfl (lv_room (Nat.le_of_ble_eq_true rfl)) dX5_findSeats_38 ⟨Nat.le_of_ble_eq_true rfl, Nat.le_of_ble_eq_true rfl⟩) hP hD hS hA (fun r_13 wt H locs hw hP hD hS => ?_)
  obtain ⟨hT, hkp, lo_r_13, hi_r_13⟩ := hw
  have hW := hW.call (show ∀ x ∈ [], x ∈ [504, 709] by decide) hkp
  have hf_1 := hkp _ _ _ _ (by decide) (by decide) hf_1
  have hf_8 := hkp _ _ _ _ (by decide) (by decide) hf_8
  refine lv_if_ne (tgt := 48) hx hb dX5_findSeats_41 (by decide) (fun c_14 => ?_) (fun c_14 => ?_)
  · rw [← Int32.toInt_inj] at c_14
    refine lv_iconst (v := 0) hx hb dX5_findSeats_48 (by decide +kernel) ?_
    refine lv_istore (lv' := [(7, .int 0), (6, .int r_12), (5, .int t_10), (4, .int t_7), (0, .ref t), (1, .ref ck), (2, .ref tm), (3, .ref v)]) hx hb dX5_findSeats_49 hl (by decide) rfl (fun ls hl => ?_)
    refine lv_iload hx hb dX5_findSeats_51 (lv_at hl 0 rfl) ?_
    refine lv_if_eq (tgt := 65) hx hb dX5_findSeats_53 (by decide) (fun _ => ?_) (fun c0 => False.elim (by rw [← Int32.toInt_inj] at c0; omega))
    refine lv_aload_n hx hb dX5_findSeats_65 rfl (lv_at hl 4 rfl) ?_
    refine lv_ldc hx hb hown (ht _ wd_1077) dX5_findSeats_66 ?_
    refine tr_put (ci := 5) hx hb ht hown hK hT hP hD hS k_t (by decide) i_X5 tyX5 tyX5_ok nmX5 rfl 4 (by decide) wd_435 rfl rfl rfl rfl ⟨_, rfl⟩ dX5_findSeats_68 (fun H locs wt hT hfl hfn hP hD hS => ?_)
    have hW := hW.obj (show 5 * 100 + 4 ∈ [504, 709] by decide) hfl
    have hf_1 := hfl _ _ _ _ (Or.inl (by decide)) hf_1
    have hf_8 := hfl _ _ _ _ (Or.inl (by decide)) hf_8
    have hf_15 := hfn
    refine lv_iconst (v := 0) hx hb dX5_findSeats_71 (by decide +kernel) ?_
    refine lv_istore (lv' := [(8, .int 0), (7, .int 0), (6, .int r_12), (5, .int t_10), (4, .int t_7), (0, .ref t), (1, .ref ck), (2, .ref tm), (3, .ref v)]) hx hb dX5_findSeats_72 hl (by decide) rfl (fun ls hl => ?_)
    refine tl_loopE (Γ := Γ) (nL := 10) (fun (zz_ : Int32) => match zz_ with | x74_0 => 0 ≤ x74_0.toInt ∧ x74_0.toInt ≤ 2147483647) (fun (zz_ : Int32) => match zz_ with | x74_0 => (r_12.toInt - x74_0.toInt).toNat) (fun (zz_ : Int32) => match zz_ with | x74_0 => [(8, .int x74_0), (7, .int 0), (6, .int r_12), (5, .int t_10), (4, .int t_7), (0, .ref t), (1, .ref ck), (2, .ref tm), (3, .ref v)]) (fun (zz_ : Int32) => match zz_ with | x74_0 => []) (fun (zz_ : Int32) (w : va_W) => match zz_ with | x74_0 => tk_kp [504, 709] w0 w) (fun zz_ hI H locs wt ls hT hW hP hD hS hl ih74 => ?_) 0 (show 0 ≤ (0 : Int32).toInt ∧ (0 : Int32).toInt ≤ 2147483647 from ⟨by omega, by omega⟩) _ _ wt ls hT hW hP hD hS hl
    obtain ⟨x74_0, rfl⟩ : ∃ z2, z2 = zz_ := ⟨_, rfl⟩
    have hW : tk_kp [504, 709] w0 wt := hW
    have hI : 0 ≤ x74_0.toInt ∧ x74_0.toInt ≤ 2147483647 := hI
    obtain ⟨j74_0, j74_1⟩ := hI
    have hl : lv_has ls 10 [(8, .int x74_0), (7, .int 0), (6, .int r_12), (5, .int t_10), (4, .int t_7), (0, .ref t), (1, .ref ck), (2, .ref tm), (3, .ref v)] := hl
    have hP : va_P (gg_D G) classes ([] ++ wt) H := hP
    have hD : va_D A ([] ++ wt) := hD
    refine lv_iload hx hb dX5_findSeats_74 (lv_at hl 0 rfl) ?_
    refine lv_iload hx hb dX5_findSeats_76 (lv_at hl 2 rfl) ?_
    refine lv_icmp_ge (tgt := 160) hx hb dX5_findSeats_78 (by decide) (fun c_16 => ?_) (fun c_16 => ?_)
    · rw [Int32.le_iff_toInt_le] at c_16
      have hP9 := tw_right hP
      have hD9 := tw_rightD hD
      exact W.vret hx hb hr (gq_endV wt ⟨hT, hW⟩ hP9 hD9 hS) hS.2.2 dX5_findSeats_160
    · rw [Int32.le_iff_toInt_le] at c_16
      refine lv_iload hx hb dX5_findSeats_81 (lv_at hl 0 rfl) ?_
      refine lv_iload hx hb dX5_findSeats_83 (lv_at hl 3 rfl) ?_
      refine lv_iload hx hb dX5_findSeats_85 (lv_at hl 4 rfl) ?_
      refine lv_aload_n hx hb dX5_findSeats_87 rfl (lv_at hl 5 rfl) ?_
      refine tr_get (ci := 5) hx hb ht hown hK hT hP k_t (by decide) i_X5 rfl 1 (by decide) wd_431 rfl dX5_findSeats_88 (fun v hv hf_17 => ?_)
      obtain ⟨q_18, rfl, hq_18⟩ := hv
      refine gt_callV (wr := []) (va_runSN (As := [.int x74_0, .int t_10, .int t_7, .ref q_18]) (rest := []) ⟨hx, hb, hml, hown, ht⟩ (d_spread l G Γ H.size wt hT x74_0 t_10 t_7 q_18 hq_18) ⟨va_cnB 4 ht (tb_good (ts_good wd_1080)) rfl rfl rfl (hK.2.1 _ wn_1078 rfl) (ht _ wd_122) (by decide +kernel) ⟨Nat.le_of_ble_eq_true rfl, Nat.le_of_ble_eq_true rfl⟩, ht _ wd_1079, trivial⟩ (gc_preS hK (tw_right hP) (tw_rightD hD)) rfl rfl hl.1 rfl (lv_room (Nat.le_of_ble_eq_true rfl)) dX5_findSeats_91 ⟨Nat.le_of_ble_eq_true rfl, Nat.le_of_ble_eq_true rfl⟩) hP hD hS hA (fun wt H locs hw hP hD hS => ?_)
      obtain ⟨hT, hkp⟩ := hw
      have hW := hW.call (show ∀ x ∈ [], x ∈ [504, 709] by decide) hkp
      refine lv_aload_n hx hb dX5_findSeats_94 rfl (lv_at hl 5 rfl) ?_
      refine lv_aload_n hx hb dX5_findSeats_95 rfl (lv_at hl 8 rfl) ?_
      refine gt_callI (wr := []) (va_runV (As := [.ref v]) (rest := []) ⟨hx, hb, hml, hown, ht⟩ (d_canSit l G Γ H.size wt hT t v k_t k_v) (cwV 1 ht (ts_gV wd_1082 wd_1084 wd_28 wd_131 wd_1085) rfl rfl rfl (by decide +kernel) ⟨Nat.le_of_ble_eq_true rfl, Nat.le_of_ble_eq_true rfl⟩) (gt_preW (ci := 5) hK hT (tw_right hP) (tw_rightD hD) k_t (by decide) rfl) rfl rfl hl.1 rfl (lv_room (Nat.le_of_ble_eq_true rfl)) dX5_findSeats_96 ⟨Nat.le_of_ble_eq_true rfl, Nat.le_of_ble_eq_true rfl⟩) hP hD hS hA (fun r_19 wt H locs hw hP hD hS => ?_)
      obtain ⟨hT, hkp, lo_r_19, hi_r_19⟩ := hw
      have hW := hW.call (show ∀ x ∈ [], x ∈ [504, 709] by decide) hkp
      refine lv_if_eq (tgt := 154) hx hb dX5_findSeats_99 (by decide) (fun c_20 => ?_) (fun c_20 => ?_)
      · rw [← Int32.toInt_inj] at c_20
        obtain ⟨t_21, et_21⟩ : ∃ zz_ : Int32, x74_0 + Int32.ofInt (1) = zz_ := ⟨_, rfl⟩
        have bd_r_12 := ia_bd r_12
        have ft_21 : t_21.toInt = x74_0.toInt + (1 : Int32).toInt := ia_add (y := 1) et_21 (by omega) (by omega)
        refine lv_iinc (v := t_21) (lv' := [(8, .int t_21), (7, .int 0), (6, .int r_12), (5, .int t_10), (4, .int t_7), (0, .ref t), (1, .ref ck), (2, .ref tm), (3, .ref v)]) hx hb dX5_findSeats_154 hl (k := 0) rfl et_21 (by decide) rfl (fun ls hl => ?_)
        refine lv_goto (tgt := 74) hx hb dX5_findSeats_157 (by decide) ?_
        exact ih74 t_21 (show 0 ≤ t_21.toInt ∧ t_21.toInt ≤ 2147483647 from ⟨by omega, by omega⟩) (show (r_12.toInt - t_21.toInt).toNat < (r_12.toInt - x74_0.toInt).toNat by omega) H locs wt ls hT hW hP hD hS (lv_sub hl [0, 1, 2, 3, 4, 5, 6, 7, 8] rfl)
      · rw [← Int32.toInt_inj] at c_20
        refine lv_iload hx hb dX5_findSeats_102 (lv_at hl 1 rfl) ?_
        refine lv_if_eq (tgt := 116) hx hb dX5_findSeats_104 (by decide) (fun _ => ?_) (fun c0 => False.elim (by rw [← Int32.toInt_inj] at c0; omega))
        refine lv_aload_n hx hb dX5_findSeats_116 rfl (lv_at hl 5 rfl) ?_
        refine lv_aload_n hx hb dX5_findSeats_117 rfl (lv_at hl 6 rfl) ?_
        refine lv_aload_n hx hb dX5_findSeats_118 rfl (lv_at hl 7 rfl) ?_
        refine lv_aload_n hx hb dX5_findSeats_119 rfl (lv_at hl 8 rfl) ?_
        refine gt_callI (wr := []) (va_runV (As := [.ref ck, .ref tm, .ref v]) (rest := []) ⟨hx, hb, hml, hown, ht⟩ (d_courseGains l G Γ H.size wt hT t ck tm v k_t k_ck k_tm k_v) (cwV 3 ht (ts_gV wd_1090 wd_1092 wd_30 wd_131 wd_1093) rfl rfl rfl (by decide +kernel) ⟨Nat.le_of_ble_eq_true rfl, Nat.le_of_ble_eq_true rfl⟩) (gt_preW (ci := 5) hK hT (tw_right hP) (tw_rightD hD) k_t (by decide) rfl) rfl rfl hl.1 rfl (lv_room (Nat.le_of_ble_eq_true rfl)) dX5_findSeats_120 ⟨Nat.le_of_ble_eq_true rfl, Nat.le_of_ble_eq_true rfl⟩) hP hD hS hA (fun r_22 wt H locs hw hP hD hS => ?_)
        obtain ⟨hT, hkp⟩ := hw
        have hW := hW.call (show ∀ x ∈ [709], x ∈ [504, 709] by decide) hkp
        refine lv_istore (lv' := [(9, .int r_22), (8, .int x74_0), (7, .int 0), (6, .int r_12), (5, .int t_10), (4, .int t_7), (0, .ref t), (1, .ref ck), (2, .ref tm), (3, .ref v)]) hx hb dX5_findSeats_123 hl (by decide) rfl (fun ls hl => ?_)
        refine lv_iload hx hb dX5_findSeats_125 (lv_at hl 0 rfl) ?_
        refine lv_aload_n hx hb dX5_findSeats_127 rfl (lv_at hl 6 rfl) ?_
        refine tr_get (ci := 5) hx hb ht hown hK hT hP k_t (by decide) i_X5 rfl 4 (by decide) wd_435 rfl dX5_findSeats_128 (fun v hv hf_23 => ?_)
        obtain ⟨n_24, rfl⟩ := hv
        refine lv_icmp_le (tgt := 154) hx hb dX5_findSeats_131 (by decide) (fun c_25 => ?_) (fun c_25 => ?_)
        · rw [Int32.le_iff_toInt_le] at c_25
          obtain ⟨t_26, et_26⟩ : ∃ zz_ : Int32, x74_0 + Int32.ofInt (1) = zz_ := ⟨_, rfl⟩
          have bd_r_12 := ia_bd r_12
          have ft_26 : t_26.toInt = x74_0.toInt + (1 : Int32).toInt := ia_add (y := 1) et_26 (by omega) (by omega)
          refine lv_iinc (v := t_26) (lv' := [(8, .int t_26), (9, .int r_22), (7, .int 0), (6, .int r_12), (5, .int t_10), (4, .int t_7), (0, .ref t), (1, .ref ck), (2, .ref tm), (3, .ref v)]) hx hb dX5_findSeats_154 hl (k := 1) rfl et_26 (by decide) rfl (fun ls hl => ?_)
          refine lv_goto (tgt := 74) hx hb dX5_findSeats_157 (by decide) ?_
          exact ih74 t_26 (show 0 ≤ t_26.toInt ∧ t_26.toInt ≤ 2147483647 from ⟨by omega, by omega⟩) (show (r_12.toInt - t_26.toInt).toNat < (r_12.toInt - x74_0.toInt).toNat by omega) H locs wt ls hT hW hP hD hS (lv_sub hl [0, 2, 3, 4, 5, 6, 7, 8, 9] rfl)
        · rw [Int32.le_iff_toInt_le] at c_25
          refine lv_aload_n hx hb dX5_findSeats_134 rfl (lv_at hl 6 rfl) ?_
          refine lv_iload hx hb dX5_findSeats_135 (lv_at hl 0 rfl) ?_
          refine tr_put (ci := 5) hx hb ht hown hK hT hP hD hS k_t (by decide) i_X5 tyX5 tyX5_ok nmX5 rfl 4 (by decide) wd_435 rfl rfl rfl rfl ⟨_, rfl⟩ dX5_findSeats_137 (fun H locs wt hT hfl hfn hP hD hS => ?_)
          have hW := hW.obj (show 5 * 100 + 4 ∈ [504, 709] by decide) hfl
          have hf_27 := hfn
          refine lv_aload_n hx hb dX5_findSeats_140 rfl (lv_at hl 6 rfl) ?_
          refine tr_get (ci := 5) hx hb ht hown hK hT hP k_t (by decide) i_X5 rfl 1 (by decide) wd_431 rfl dX5_findSeats_141 (fun v hv hf_28 => ?_)
          obtain ⟨q_29, rfl, hq_29⟩ := hv
          refine lv_iconst (v := 0) hx hb dX5_findSeats_144 (by decide +kernel) ?_
          refine lv_aload_n hx hb dX5_findSeats_145 rfl (lv_at hl 6 rfl) ?_
          refine tr_get (ci := 5) hx hb ht hown hK hT hP k_t (by decide) i_X5 rfl 3 (by decide) wd_433 rfl dX5_findSeats_146 (fun v hv hf_30 => ?_)
          obtain ⟨q_31, rfl, hq_31⟩ := hv
          refine lv_iconst (v := 0) hx hb dX5_findSeats_149 (by decide +kernel) ?_
          refine lv_iconst (v := 5) hx hb dX5_findSeats_150 (by decide +kernel) ?_
          refine tr_copy hx hb (by rw [hml]; exact hl.1.symm) hown (ht _ wd_1096) (ht _ wd_694) (ht _ wd_693) (ht _ wd_139) hK hT hP hD hS 20 hq_29 hq_31 (by decide) (by decide) (by decide +kernel) (by decide +kernel) (by decide +kernel) (by decide +kernel) (by decide +kernel) (Nat.le_of_ble_eq_true rfl) (Nat.le_of_ble_eq_true rfl) dX5_findSeats_151 (fun H locs wt hT hfl hP hD hS => ?_)
          have hW := hW.arr hfl
          have hf_27 := hfl _ _ _ _ hf_27
          obtain ⟨t_32, et_32⟩ : ∃ zz_ : Int32, x74_0 + Int32.ofInt (1) = zz_ := ⟨_, rfl⟩
          have bd_r_12 := ia_bd r_12
          have ft_32 : t_32.toInt = x74_0.toInt + (1 : Int32).toInt := ia_add (y := 1) et_32 (by omega) (by omega)
          refine lv_iinc (v := t_32) (lv' := [(8, .int t_32), (9, .int r_22), (7, .int 0), (6, .int r_12), (5, .int t_10), (4, .int t_7), (0, .ref t), (1, .ref ck), (2, .ref tm), (3, .ref v)]) hx hb dX5_findSeats_154 hl (k := 1) rfl et_32 (by decide) rfl (fun ls hl => ?_)
          refine lv_goto (tgt := 74) hx hb dX5_findSeats_157 (by decide) ?_
          exact ih74 t_32 (show 0 ≤ t_32.toInt ∧ t_32.toInt ≤ 2147483647 from ⟨by omega, by omega⟩) (show (r_12.toInt - t_32.toInt).toNat < (r_12.toInt - x74_0.toInt).toNat by omega) H locs wt ls hT hW hP hD hS (lv_sub hl [0, 2, 3, 4, 5, 6, 7, 8, 9] rfl)
  · rw [← Int32.toInt_inj] at c_14
    refine lv_iconst (v := 1) hx hb dX5_findSeats_44 (by decide +kernel) ?_
    refine lv_goto (tgt := 49) hx hb dX5_findSeats_45 (by decide) ?_
    refine lv_istore (lv' := [(7, .int 1), (6, .int r_12), (5, .int t_10), (4, .int t_7), (0, .ref t), (1, .ref ck), (2, .ref tm), (3, .ref v)]) hx hb dX5_findSeats_49 hl (by decide) rfl (fun ls hl => ?_)
    refine lv_iload hx hb dX5_findSeats_51 (lv_at hl 0 rfl) ?_
    refine lv_if_eq (tgt := 65) hx hb dX5_findSeats_53 (by decide) (fun c0 => False.elim (by rw [← Int32.toInt_inj] at c0; omega)) (fun _ => ?_)
    refine lv_aload_n hx hb dX5_findSeats_56 rfl (lv_at hl 4 rfl) ?_
    refine lv_aload_n hx hb dX5_findSeats_57 rfl (lv_at hl 5 rfl) ?_
    refine lv_aload_n hx hb dX5_findSeats_58 rfl (lv_at hl 6 rfl) ?_
    refine lv_aload_n hx hb dX5_findSeats_59 rfl (lv_at hl 7 rfl) ?_
    refine lv_iload hx hb dX5_findSeats_60 (lv_at hl 3 rfl) ?_
    refine gt_callV (wr := []) (va_runV (As := [.ref ck, .ref tm, .ref v, .int t_7]) (rest := []) ⟨hx, hb, hml, hown, ht⟩ (d_workOutSets l G Γ H.size wt hT t ck tm v t_7 k_t k_ck k_tm k_v) (cwV 4 ht (ts_gV wd_1055 wd_1057 wd_25 wd_131 wd_1058) rfl rfl rfl (by decide +kernel) ⟨Nat.le_of_ble_eq_true rfl, Nat.le_of_ble_eq_true rfl⟩) (gt_preW (ci := 5) hK hT (tw_right hP) (tw_rightD hD) k_t (by decide) rfl) rfl rfl hl.1 rfl (lv_room (Nat.le_of_ble_eq_true rfl)) dX5_findSeats_62 ⟨Nat.le_of_ble_eq_true rfl, Nat.le_of_ble_eq_true rfl⟩) hP hD hS hA (fun wt H locs hw hP hD hS => ?_)
    obtain ⟨hT, hkp⟩ := hw
    have hW := hW.call (show ∀ x ∈ [709], x ∈ [504, 709] by decide) hkp
    have hf_1 := hkp _ _ _ _ (by decide) (by decide) hf_1
    have hf_8 := hkp _ _ _ _ (by decide) (by decide) hf_8
    refine lv_aload_n hx hb dX5_findSeats_65 rfl (lv_at hl 4 rfl) ?_
    refine lv_ldc hx hb hown (ht _ wd_1077) dX5_findSeats_66 ?_
    refine tr_put (ci := 5) hx hb ht hown hK hT hP hD hS k_t (by decide) i_X5 tyX5 tyX5_ok nmX5 rfl 4 (by decide) wd_435 rfl rfl rfl rfl ⟨_, rfl⟩ dX5_findSeats_68 (fun H locs wt hT hfl hfn hP hD hS => ?_)
    have hW := hW.obj (show 5 * 100 + 4 ∈ [504, 709] by decide) hfl
    have hf_1 := hfl _ _ _ _ (Or.inl (by decide)) hf_1
    have hf_8 := hfl _ _ _ _ (Or.inl (by decide)) hf_8
    have hf_33 := hfn
    refine lv_iconst (v := 0) hx hb dX5_findSeats_71 (by decide +kernel) ?_
    refine lv_istore (lv' := [(8, .int 0), (7, .int 1), (6, .int r_12), (5, .int t_10), (4, .int t_7), (0, .ref t), (1, .ref ck), (2, .ref tm), (3, .ref v)]) hx hb dX5_findSeats_72 hl (by decide) rfl (fun ls hl => ?_)
    refine tl_loopE (Γ := Γ) (nL := 10) (fun (zz_ : Int32) => match zz_ with | x74_0 => 0 ≤ x74_0.toInt ∧ x74_0.toInt ≤ 2147483647) (fun (zz_ : Int32) => match zz_ with | x74_0 => (r_12.toInt - x74_0.toInt).toNat) (fun (zz_ : Int32) => match zz_ with | x74_0 => [(8, .int x74_0), (7, .int 1), (6, .int r_12), (5, .int t_10), (4, .int t_7), (0, .ref t), (1, .ref ck), (2, .ref tm), (3, .ref v)]) (fun (zz_ : Int32) => match zz_ with | x74_0 => []) (fun (zz_ : Int32) (w : va_W) => match zz_ with | x74_0 => tk_kp [504, 709] w0 w) (fun zz_ hI H locs wt ls hT hW hP hD hS hl ih74 => ?_) 0 (show 0 ≤ (0 : Int32).toInt ∧ (0 : Int32).toInt ≤ 2147483647 from ⟨by omega, by omega⟩) _ _ wt ls hT hW hP hD hS hl
    obtain ⟨x74_0, rfl⟩ : ∃ z2, z2 = zz_ := ⟨_, rfl⟩
    have hW : tk_kp [504, 709] w0 wt := hW
    have hI : 0 ≤ x74_0.toInt ∧ x74_0.toInt ≤ 2147483647 := hI
    obtain ⟨j74_0, j74_1⟩ := hI
    have hl : lv_has ls 10 [(8, .int x74_0), (7, .int 1), (6, .int r_12), (5, .int t_10), (4, .int t_7), (0, .ref t), (1, .ref ck), (2, .ref tm), (3, .ref v)] := hl
    have hP : va_P (gg_D G) classes ([] ++ wt) H := hP
    have hD : va_D A ([] ++ wt) := hD
    refine lv_iload hx hb dX5_findSeats_74 (lv_at hl 0 rfl) ?_
    refine lv_iload hx hb dX5_findSeats_76 (lv_at hl 2 rfl) ?_
    refine lv_icmp_ge (tgt := 160) hx hb dX5_findSeats_78 (by decide) (fun c_34 => ?_) (fun c_34 => ?_)
    · rw [Int32.le_iff_toInt_le] at c_34
      have hP9 := tw_right hP
      have hD9 := tw_rightD hD
      exact W.vret hx hb hr (gq_endV wt ⟨hT, hW⟩ hP9 hD9 hS) hS.2.2 dX5_findSeats_160
    · rw [Int32.le_iff_toInt_le] at c_34
      refine lv_iload hx hb dX5_findSeats_81 (lv_at hl 0 rfl) ?_
      refine lv_iload hx hb dX5_findSeats_83 (lv_at hl 3 rfl) ?_
      refine lv_iload hx hb dX5_findSeats_85 (lv_at hl 4 rfl) ?_
      refine lv_aload_n hx hb dX5_findSeats_87 rfl (lv_at hl 5 rfl) ?_
      refine tr_get (ci := 5) hx hb ht hown hK hT hP k_t (by decide) i_X5 rfl 1 (by decide) wd_431 rfl dX5_findSeats_88 (fun v hv hf_35 => ?_)
      obtain ⟨q_36, rfl, hq_36⟩ := hv
      refine gt_callV (wr := []) (va_runSN (As := [.int x74_0, .int t_10, .int t_7, .ref q_36]) (rest := []) ⟨hx, hb, hml, hown, ht⟩ (d_spread l G Γ H.size wt hT x74_0 t_10 t_7 q_36 hq_36) ⟨va_cnB 4 ht (tb_good (ts_good wd_1080)) rfl rfl rfl (hK.2.1 _ wn_1078 rfl) (ht _ wd_122) (by decide +kernel) ⟨Nat.le_of_ble_eq_true rfl, Nat.le_of_ble_eq_true rfl⟩, ht _ wd_1079, trivial⟩ (gc_preS hK (tw_right hP) (tw_rightD hD)) rfl rfl hl.1 rfl (lv_room (Nat.le_of_ble_eq_true rfl)) dX5_findSeats_91 ⟨Nat.le_of_ble_eq_true rfl, Nat.le_of_ble_eq_true rfl⟩) hP hD hS hA (fun wt H locs hw hP hD hS => ?_)
      obtain ⟨hT, hkp⟩ := hw
      have hW := hW.call (show ∀ x ∈ [], x ∈ [504, 709] by decide) hkp
      refine lv_aload_n hx hb dX5_findSeats_94 rfl (lv_at hl 5 rfl) ?_
      refine lv_aload_n hx hb dX5_findSeats_95 rfl (lv_at hl 8 rfl) ?_
      refine gt_callI (wr := []) (va_runV (As := [.ref v]) (rest := []) ⟨hx, hb, hml, hown, ht⟩ (d_canSit l G Γ H.size wt hT t v k_t k_v) (cwV 1 ht (ts_gV wd_1082 wd_1084 wd_28 wd_131 wd_1085) rfl rfl rfl (by decide +kernel) ⟨Nat.le_of_ble_eq_true rfl, Nat.le_of_ble_eq_true rfl⟩) (gt_preW (ci := 5) hK hT (tw_right hP) (tw_rightD hD) k_t (by decide) rfl) rfl rfl hl.1 rfl (lv_room (Nat.le_of_ble_eq_true rfl)) dX5_findSeats_96 ⟨Nat.le_of_ble_eq_true rfl, Nat.le_of_ble_eq_true rfl⟩) hP hD hS hA (fun r_37 wt H locs hw hP hD hS => ?_)
      obtain ⟨hT, hkp, lo_r_37, hi_r_37⟩ := hw
      have hW := hW.call (show ∀ x ∈ [], x ∈ [504, 709] by decide) hkp
      refine lv_if_eq (tgt := 154) hx hb dX5_findSeats_99 (by decide) (fun c_38 => ?_) (fun c_38 => ?_)
      · rw [← Int32.toInt_inj] at c_38
        obtain ⟨t_39, et_39⟩ : ∃ zz_ : Int32, x74_0 + Int32.ofInt (1) = zz_ := ⟨_, rfl⟩
        have bd_r_12 := ia_bd r_12
        have ft_39 : t_39.toInt = x74_0.toInt + (1 : Int32).toInt := ia_add (y := 1) et_39 (by omega) (by omega)
        refine lv_iinc (v := t_39) (lv' := [(8, .int t_39), (7, .int 1), (6, .int r_12), (5, .int t_10), (4, .int t_7), (0, .ref t), (1, .ref ck), (2, .ref tm), (3, .ref v)]) hx hb dX5_findSeats_154 hl (k := 0) rfl et_39 (by decide) rfl (fun ls hl => ?_)
        refine lv_goto (tgt := 74) hx hb dX5_findSeats_157 (by decide) ?_
        exact ih74 t_39 (show 0 ≤ t_39.toInt ∧ t_39.toInt ≤ 2147483647 from ⟨by omega, by omega⟩) (show (r_12.toInt - t_39.toInt).toNat < (r_12.toInt - x74_0.toInt).toNat by omega) H locs wt ls hT hW hP hD hS (lv_sub hl [0, 1, 2, 3, 4, 5, 6, 7, 8] rfl)
      · rw [← Int32.toInt_inj] at c_38
        refine lv_iload hx hb dX5_findSeats_102 (lv_at hl 1 rfl) ?_
        refine lv_if_eq (tgt := 116) hx hb dX5_findSeats_104 (by decide) (fun c0 => False.elim (by rw [← Int32.toInt_inj] at c0; omega)) (fun _ => ?_)
        refine lv_aload_n hx hb dX5_findSeats_107 rfl (lv_at hl 5 rfl) ?_
        refine lv_aload_n hx hb dX5_findSeats_108 rfl (lv_at hl 7 rfl) ?_
        refine lv_aload_n hx hb dX5_findSeats_109 rfl (lv_at hl 8 rfl) ?_
        refine gt_callI (wr := []) (va_runV (As := [.ref tm, .ref v]) (rest := []) ⟨hx, hb, hml, hown, ht⟩ (d_sumOfSets l G Γ H.size wt hT t tm v k_t k_tm k_v) (cwV 2 ht (ts_gV wd_1086 wd_1088 wd_29 wd_131 wd_1089) rfl rfl rfl (by decide +kernel) ⟨Nat.le_of_ble_eq_true rfl, Nat.le_of_ble_eq_true rfl⟩) (gt_preW (ci := 5) hK hT (tw_right hP) (tw_rightD hD) k_t (by decide) rfl) rfl rfl hl.1 rfl (lv_room (Nat.le_of_ble_eq_true rfl)) dX5_findSeats_110 ⟨Nat.le_of_ble_eq_true rfl, Nat.le_of_ble_eq_true rfl⟩) hP hD hS hA (fun r_40 wt H locs hw hP hD hS => ?_)
        obtain ⟨hT, hkp⟩ := hw
        have hW := hW.call (show ∀ x ∈ [], x ∈ [504, 709] by decide) hkp
        refine lv_goto (tgt := 123) hx hb dX5_findSeats_113 (by decide) ?_
        refine lv_istore (lv' := [(9, .int r_40), (8, .int x74_0), (7, .int 1), (6, .int r_12), (5, .int t_10), (4, .int t_7), (0, .ref t), (1, .ref ck), (2, .ref tm), (3, .ref v)]) hx hb dX5_findSeats_123 hl (by decide) rfl (fun ls hl => ?_)
        refine lv_iload hx hb dX5_findSeats_125 (lv_at hl 0 rfl) ?_
        refine lv_aload_n hx hb dX5_findSeats_127 rfl (lv_at hl 6 rfl) ?_
        refine tr_get (ci := 5) hx hb ht hown hK hT hP k_t (by decide) i_X5 rfl 4 (by decide) wd_435 rfl dX5_findSeats_128 (fun v hv hf_41 => ?_)
        obtain ⟨n_42, rfl⟩ := hv
        refine lv_icmp_le (tgt := 154) hx hb dX5_findSeats_131 (by decide) (fun c_43 => ?_) (fun c_43 => ?_)
        · rw [Int32.le_iff_toInt_le] at c_43
          obtain ⟨t_44, et_44⟩ : ∃ zz_ : Int32, x74_0 + Int32.ofInt (1) = zz_ := ⟨_, rfl⟩
          have bd_r_12 := ia_bd r_12
          have ft_44 : t_44.toInt = x74_0.toInt + (1 : Int32).toInt := ia_add (y := 1) et_44 (by omega) (by omega)
          refine lv_iinc (v := t_44) (lv' := [(8, .int t_44), (9, .int r_40), (7, .int 1), (6, .int r_12), (5, .int t_10), (4, .int t_7), (0, .ref t), (1, .ref ck), (2, .ref tm), (3, .ref v)]) hx hb dX5_findSeats_154 hl (k := 1) rfl et_44 (by decide) rfl (fun ls hl => ?_)
          refine lv_goto (tgt := 74) hx hb dX5_findSeats_157 (by decide) ?_
          exact ih74 t_44 (show 0 ≤ t_44.toInt ∧ t_44.toInt ≤ 2147483647 from ⟨by omega, by omega⟩) (show (r_12.toInt - t_44.toInt).toNat < (r_12.toInt - x74_0.toInt).toNat by omega) H locs wt ls hT hW hP hD hS (lv_sub hl [0, 2, 3, 4, 5, 6, 7, 8, 9] rfl)
        · rw [Int32.le_iff_toInt_le] at c_43
          refine lv_aload_n hx hb dX5_findSeats_134 rfl (lv_at hl 6 rfl) ?_
          refine lv_iload hx hb dX5_findSeats_135 (lv_at hl 0 rfl) ?_
          refine tr_put (ci := 5) hx hb ht hown hK hT hP hD hS k_t (by decide) i_X5 tyX5 tyX5_ok nmX5 rfl 4 (by decide) wd_435 rfl rfl rfl rfl ⟨_, rfl⟩ dX5_findSeats_137 (fun H locs wt hT hfl hfn hP hD hS => ?_)
          have hW := hW.obj (show 5 * 100 + 4 ∈ [504, 709] by decide) hfl
          have hf_45 := hfn
          refine lv_aload_n hx hb dX5_findSeats_140 rfl (lv_at hl 6 rfl) ?_
          refine tr_get (ci := 5) hx hb ht hown hK hT hP k_t (by decide) i_X5 rfl 1 (by decide) wd_431 rfl dX5_findSeats_141 (fun v hv hf_46 => ?_)
          obtain ⟨q_47, rfl, hq_47⟩ := hv
          refine lv_iconst (v := 0) hx hb dX5_findSeats_144 (by decide +kernel) ?_
          refine lv_aload_n hx hb dX5_findSeats_145 rfl (lv_at hl 6 rfl) ?_
          refine tr_get (ci := 5) hx hb ht hown hK hT hP k_t (by decide) i_X5 rfl 3 (by decide) wd_433 rfl dX5_findSeats_146 (fun v hv hf_48 => ?_)
          obtain ⟨q_49, rfl, hq_49⟩ := hv
          refine lv_iconst (v := 0) hx hb dX5_findSeats_149 (by decide +kernel) ?_
          refine lv_iconst (v := 5) hx hb dX5_findSeats_150 (by decide +kernel) ?_
          refine tr_copy hx hb (by rw [hml]; exact hl.1.symm) hown (ht _ wd_1096) (ht _ wd_694) (ht _ wd_693) (ht _ wd_139) hK hT hP hD hS 20 hq_47 hq_49 (by decide) (by decide) (by decide +kernel) (by decide +kernel) (by decide +kernel) (by decide +kernel) (by decide +kernel) (Nat.le_of_ble_eq_true rfl) (Nat.le_of_ble_eq_true rfl) dX5_findSeats_151 (fun H locs wt hT hfl hP hD hS => ?_)
          have hW := hW.arr hfl
          have hf_45 := hfl _ _ _ _ hf_45
          obtain ⟨t_50, et_50⟩ : ∃ zz_ : Int32, x74_0 + Int32.ofInt (1) = zz_ := ⟨_, rfl⟩
          have bd_r_12 := ia_bd r_12
          have ft_50 : t_50.toInt = x74_0.toInt + (1 : Int32).toInt := ia_add (y := 1) et_50 (by omega) (by omega)
          refine lv_iinc (v := t_50) (lv' := [(8, .int t_50), (9, .int r_40), (7, .int 1), (6, .int r_12), (5, .int t_10), (4, .int t_7), (0, .ref t), (1, .ref ck), (2, .ref tm), (3, .ref v)]) hx hb dX5_findSeats_154 hl (k := 1) rfl et_50 (by decide) rfl (fun ls hl => ?_)
          refine lv_goto (tgt := 74) hx hb dX5_findSeats_157 (by decide) ?_
          exact ih74 t_50 (show 0 ≤ t_50.toInt ∧ t_50.toInt ≤ 2147483647 from ⟨by omega, by omega⟩) (show (r_12.toInt - t_50.toInt).toNat < (r_12.toInt - x74_0.toInt).toNat by omega) H locs wt ls hT hW hP hD hS (lv_sub hl [0, 2, 3, 4, 5, 6, 7, 8, 9] rfl)
set_option maxHeartbeats 4000000 in
set_option maxRecDepth 100000 in
theorem d_rowCost (l : Launch) (G : gg_T) (Γ : Nat → Nat) (sz : Nat) (wt : va_W) (hT : tk_ty G Γ wt) (t : Nat) (tm : Nat) (k_t : Γ t = 11) (k_tm : Γ tm = 10) : Met l yX10_rowCost (ts_L yX10_rowCost cX10_rowCost 5 (some .int)) ({ frames := 0, cells := 0, slots := 0, locals := 0 }) (gc_P G wt sz [.ref t, .ref tm]) (gc_I G (va_A wt sz) (fun r (u : va_W) => tk_ty G Γ u ∧ tk_kp [] wt u) (fun u => u)) 0 0 (va_A wt sz) := by
  refine Met.ofW (cc := cX10_rowCost) (maxL := 5) (ret := (some .int)) (by decide) rfl ?_
  intro p e s m args below meth c s₁ B hml hv
  obtain ⟨rfl, hsz, hP, hK, hD0⟩ := hv
  have hx := B.exec
  have hb := B.bytes
  have hr := B.returns
  have ht := ts_ht (atoms_spec (ws := ts_L yX10_rowCost cX10_rowCost 5 (some .int)) B.pre)
  have hown : s.vm.findClass RX10 = some m.cls := findClass_of_methodNamed B.named
  have hlocks := B.notSynchronized
  subst hsz
  have hD := hD0.self (sz := s.heap.size)
  generalize hAe : va_A wt s.heap.size = A at hD ⊢
  have hA : ∀ q : Nat, s.heap.size ≤ q → A q := fun q h => by rw [← hAe]; exact Or.inr h
  clear hAe hD0
  have hS : va_S A s.heap s.heap [] := va_S.rf
  obtain ⟨w0, hw0⟩ : ∃ z, z = wt := ⟨_, rfl⟩
  have hW : tk_kp [] w0 wt := by rw [hw0]; exact tk_kp.rf
  rw [← hw0]
  clear hw0
  have hP : va_P (gg_D G) classes ([] ++ wt) s.heap := hP
  have hD : va_D A ([] ++ wt) := hD
  have hl := lv_entry ([.ref t, .ref tm]) (n := 5) (Nat.le_of_ble_eq_true rfl)
  rw [lg_entry_eq]
  generalize (lg_sl ([.ref t, .ref tm]) ++ List.replicate (5 - (lg_sl ([.ref t, .ref tm])).length) Slot.unset).toArray = ls at hl ⊢
  have hl : lv_has ls 5 [(0, .ref t), (1, .ref tm)] := hl
  have l0 : (0 : Int32).toInt = 0 := by decide +kernel
  have l1 : (1 : Int32).toInt = 1 := by decide +kernel
  have l3 : (3 : Int32).toInt = 3 := by decide +kernel
  have l5 : (5 : Int32).toInt = 5 := by decide +kernel
  refine lv_iconst (v := 0) hx hb dX10_rowCost_0 (by decide +kernel) ?_
  refine lv_istore_n (lv' := [(2, .int 0), (0, .ref t), (1, .ref tm)]) hx hb dX10_rowCost_1 rfl hl (by decide) rfl (fun ls hl => ?_)
  refine lv_iconst (v := 0) hx hb dX10_rowCost_2 (by decide +kernel) ?_
  refine lv_istore_n (lv' := [(3, .int 0), (2, .int 0), (0, .ref t), (1, .ref tm)]) hx hb dX10_rowCost_3 rfl hl (by decide) rfl (fun ls hl => ?_)
  refine tl_loopE (Γ := Γ) (nL := 5) (fun (zz_ : Int32 × Int32) => match zz_ with | (x4_0, x4_1) => 0 ≤ x4_0.toInt ∧ x4_0.toInt ≤ 5) (fun (zz_ : Int32 × Int32) => match zz_ with | (x4_0, x4_1) => (5 - x4_0.toInt).toNat) (fun (zz_ : Int32 × Int32) => match zz_ with | (x4_0, x4_1) => [(3, .int x4_0), (2, .int x4_1), (0, .ref t), (1, .ref tm)]) (fun (zz_ : Int32 × Int32) => match zz_ with | (x4_0, x4_1) => []) (fun (zz_ : Int32 × Int32) (w : va_W) => match zz_ with | (x4_0, x4_1) => tk_kp [] w0 w) (fun zz_ hI H locs wt ls hT hW hP hD hS hl ih4 => ?_) (0, 0) (show 0 ≤ (0 : Int32).toInt ∧ (0 : Int32).toInt ≤ 5 from ⟨by omega, by omega⟩) _ _ wt ls hT hW hP hD hS hl
  obtain ⟨x4_0, x4_1⟩ := zz_
  have hW : tk_kp [] w0 wt := hW
  have hI : 0 ≤ x4_0.toInt ∧ x4_0.toInt ≤ 5 := hI
  obtain ⟨j4_0, j4_1⟩ := hI
  have hl : lv_has ls 5 [(3, .int x4_0), (2, .int x4_1), (0, .ref t), (1, .ref tm)] := hl
  have hP : va_P (gg_D G) classes ([] ++ wt) H := hP
  have hD : va_D A ([] ++ wt) := hD
  refine lv_iload_n hx hb dX10_rowCost_4 rfl (lv_at hl 0 rfl) ?_
  refine lv_iconst (v := 5) hx hb dX10_rowCost_5 (by decide +kernel) ?_
  refine lv_icmp_ge (tgt := 48) hx hb dX10_rowCost_6 (by decide) (fun c_1 => ?_) (fun c_1 => ?_)
  · rw [Int32.le_iff_toInt_le] at c_1
    refine lv_iload_n hx hb dX10_rowCost_48 rfl (lv_at hl 1 rfl) ?_
    have hP9 := tw_right hP
    have hD9 := tw_rightD hD
    exact W.iret (v := x4_1) hx hb hr (gq_endI wt ⟨hT, hW⟩ hP9 hD9 hS) hS.2.2 dX10_rowCost_49
  · rw [Int32.le_iff_toInt_le] at c_1
    refine lv_aload_n hx hb dX10_rowCost_9 rfl (lv_at hl 2 rfl) ?_
    refine tr_get (ci := 10) hx hb ht hown hK hT hP k_t (by decide) i_X10 rfl 1 (by decide) wd_457 rfl dX10_rowCost_10 (fun v hv hf_2 => ?_)
    obtain ⟨q_3, rfl, hq_3⟩ := hv
    refine lv_iload_n hx hb dX10_rowCost_13 rfl (lv_at hl 0 rfl) ?_
    refine tr_iald hx hb hK hT hP 20 hq_3 (by decide) (by decide) (show vp_in _ (tk_len 20) from ia_in (n := 5) (by omega) (by omega)) dX10_rowCost_14 (fun n_4 hn_4 => ?_)
    clear hn_4
    refine lv_istore (lv' := [(4, .int n_4), (3, .int x4_0), (2, .int x4_1), (0, .ref t), (1, .ref tm)]) hx hb dX10_rowCost_15 hl (by decide) rfl (fun ls hl => ?_)
    refine lv_iload_n hx hb dX10_rowCost_17 rfl (lv_at hl 2 rfl) ?_
    refine lv_iload hx hb dX10_rowCost_18 (lv_at hl 0 rfl) ?_
    refine lv_if_lt (tgt := 39) hx hb dX10_rowCost_20 (by decide) (fun c_5 => ?_) (fun c_5 => ?_)
    · rw [Int32.lt_iff_toInt_lt] at c_5
      refine lv_iconst (v := 0) hx hb dX10_rowCost_39 (by decide +kernel) ?_
      obtain ⟨t_6, et_6⟩ : ∃ zz_ : Int32, x4_1 + 0 = zz_ := ⟨_, rfl⟩
      refine gq_iadd hx hb t_6 et_6 dX10_rowCost_40 ?_
      have bd_x4_1 := ia_bd x4_1
      have ft_6 := ia_add et_6 (by omega) (by omega)
      refine lv_istore_n (lv' := [(2, .int t_6), (4, .int n_4), (3, .int x4_0), (0, .ref t), (1, .ref tm)]) hx hb dX10_rowCost_41 rfl hl (by decide) rfl (fun ls hl => ?_)
      obtain ⟨t_7, et_7⟩ : ∃ zz_ : Int32, x4_0 + Int32.ofInt (1) = zz_ := ⟨_, rfl⟩
      have ft_7 : t_7.toInt = x4_0.toInt + (1 : Int32).toInt := ia_add (y := 1) et_7 (by omega) (by omega)
      refine lv_iinc (v := t_7) (lv' := [(3, .int t_7), (2, .int t_6), (4, .int n_4), (0, .ref t), (1, .ref tm)]) hx hb dX10_rowCost_42 hl (k := 2) rfl et_7 (by decide) rfl (fun ls hl => ?_)
      refine lv_goto (tgt := 4) hx hb dX10_rowCost_45 (by decide) ?_
      exact ih4 (t_7, t_6) (show 0 ≤ t_7.toInt ∧ t_7.toInt ≤ 5 from ⟨by omega, by omega⟩) (show (5 - t_7.toInt).toNat < (5 - x4_0.toInt).toNat by omega) H locs wt ls hT hW hP hD hS (lv_sub hl [0, 1, 3, 4] rfl)
    · rw [Int32.lt_iff_toInt_lt] at c_5
      refine lv_iload hx hb dX10_rowCost_23 (lv_at hl 0 rfl) ?_
      refine lv_iconst (v := 3) hx hb dX10_rowCost_25 (by decide +kernel) ?_
      refine lv_icmp_ge (tgt := 39) hx hb dX10_rowCost_26 (by decide) (fun c_8 => ?_) (fun c_8 => ?_)
      · rw [Int32.le_iff_toInt_le] at c_8
        refine lv_iconst (v := 0) hx hb dX10_rowCost_39 (by decide +kernel) ?_
        obtain ⟨t_9, et_9⟩ : ∃ zz_ : Int32, x4_1 + 0 = zz_ := ⟨_, rfl⟩
        refine gq_iadd hx hb t_9 et_9 dX10_rowCost_40 ?_
        have bd_x4_1 := ia_bd x4_1
        have ft_9 := ia_add et_9 (by omega) (by omega)
        refine lv_istore_n (lv' := [(2, .int t_9), (4, .int n_4), (3, .int x4_0), (0, .ref t), (1, .ref tm)]) hx hb dX10_rowCost_41 rfl hl (by decide) rfl (fun ls hl => ?_)
        obtain ⟨t_10, et_10⟩ : ∃ zz_ : Int32, x4_0 + Int32.ofInt (1) = zz_ := ⟨_, rfl⟩
        have ft_10 : t_10.toInt = x4_0.toInt + (1 : Int32).toInt := ia_add (y := 1) et_10 (by omega) (by omega)
        refine lv_iinc (v := t_10) (lv' := [(3, .int t_10), (2, .int t_9), (4, .int n_4), (0, .ref t), (1, .ref tm)]) hx hb dX10_rowCost_42 hl (k := 2) rfl et_10 (by decide) rfl (fun ls hl => ?_)
        refine lv_goto (tgt := 4) hx hb dX10_rowCost_45 (by decide) ?_
        exact ih4 (t_10, t_9) (show 0 ≤ t_10.toInt ∧ t_10.toInt ≤ 5 from ⟨by omega, by omega⟩) (show (5 - t_10.toInt).toNat < (5 - x4_0.toInt).toNat by omega) H locs wt ls hT hW hP hD hS (lv_sub hl [0, 1, 3, 4] rfl)
      · rw [Int32.le_iff_toInt_le] at c_8
        refine lv_aload_n hx hb dX10_rowCost_29 rfl (lv_at hl 4 rfl) ?_
        refine tr_get (ci := 9) hx hb ht hown hK hT hP k_tm (by decide) i_X9 rfl 7 (by decide) wd_200 rfl dX10_rowCost_30 (fun v hv hf_11 => ?_)
        obtain ⟨q_12, rfl, hq_12⟩ := hv
        refine lv_iload hx hb dX10_rowCost_33 (lv_at hl 0 rfl) ?_
        refine tr_iald hx hb hK hT hP 21 hq_12 (by decide) (by decide) (show vp_in _ (tk_len 21) from ia_in (n := 3) (by omega) (by omega)) dX10_rowCost_35 (fun n_13 hn_13 => ?_)
        clear hn_13
        refine lv_goto (tgt := 40) hx hb dX10_rowCost_36 (by decide) ?_
        obtain ⟨t_14, et_14⟩ : ∃ zz_ : Int32, x4_1 + n_13 = zz_ := ⟨_, rfl⟩
        refine gq_iadd hx hb t_14 et_14 dX10_rowCost_40 ?_
        refine lv_istore_n (lv' := [(2, .int t_14), (4, .int n_4), (3, .int x4_0), (0, .ref t), (1, .ref tm)]) hx hb dX10_rowCost_41 rfl hl (by decide) rfl (fun ls hl => ?_)
        obtain ⟨t_15, et_15⟩ : ∃ zz_ : Int32, x4_0 + Int32.ofInt (1) = zz_ := ⟨_, rfl⟩
        have ft_15 : t_15.toInt = x4_0.toInt + (1 : Int32).toInt := ia_add (y := 1) et_15 (by omega) (by omega)
        refine lv_iinc (v := t_15) (lv' := [(3, .int t_15), (2, .int t_14), (4, .int n_4), (0, .ref t), (1, .ref tm)]) hx hb dX10_rowCost_42 hl (k := 2) rfl et_15 (by decide) rfl (fun ls hl => ?_)
        refine lv_goto (tgt := 4) hx hb dX10_rowCost_45 (by decide) ?_
        exact ih4 (t_15, t_14) (show 0 ≤ t_15.toInt ∧ t_15.toInt ≤ 5 from ⟨by omega, by omega⟩) (show (5 - t_15.toInt).toNat < (5 - x4_0.toInt).toNat by omega) H locs wt ls hT hW hP hD hS (lv_sub hl [0, 1, 3, 4] rfl)
set_option maxHeartbeats 4000000 in
set_option maxRecDepth 100000 in
theorem d_playRow (l : Launch) (G : gg_T) (Γ : Nat → Nat) (sz : Nat) (wt : va_W) (hT : tk_ty G Γ wt) (t : Nat) (tm : Nat) (v : Nat) (b : Int32) (k_t : Γ t = 11) (k_tm : Γ tm = 10) (k_v : Γ v = 8) (lo_b : 0 ≤ b.toInt) (hi_b : b.toInt ≤ 4) : Met l yX10_playRow (ts_L yX10_playRow cX10_playRow 6 (some .boolean)) ({ frames := 3, cells := 0, slots := 0, locals := 67 }) (gc_P G wt sz [.ref t, .ref tm, .ref v, .int b]) (gc_I G (va_A wt sz) (fun r (u : va_W) => tk_ty G Γ u ∧ tk_kp [709] wt u ∧ 0 ≤ r.toInt ∧ r.toInt ≤ 1) (fun u => u)) 0 0 (va_A wt sz) := by
  refine Met.ofW (cc := cX10_playRow) (maxL := 6) (ret := (some .boolean)) (by decide) rfl ?_
  intro p e s m args below meth c s₁ B hml hv
  obtain ⟨rfl, hsz, hP, hK, hD0⟩ := hv
  have hx := B.exec
  have hb := B.bytes
  have hr := B.returns
  have ht := ts_ht (atoms_spec (ws := ts_L yX10_playRow cX10_playRow 6 (some .boolean)) B.pre)
  have hown : s.vm.findClass RX10 = some m.cls := findClass_of_methodNamed B.named
  have hlocks := B.notSynchronized
  subst hsz
  have hD := hD0.self (sz := s.heap.size)
  generalize hAe : va_A wt s.heap.size = A at hD ⊢
  have hA : ∀ q : Nat, s.heap.size ≤ q → A q := fun q h => by rw [← hAe]; exact Or.inr h
  clear hAe hD0
  have hS : va_S A s.heap s.heap [] := va_S.rf
  obtain ⟨w0, hw0⟩ : ∃ z, z = wt := ⟨_, rfl⟩
  have hW : tk_kp [709] w0 wt := by rw [hw0]; exact tk_kp.rf
  rw [← hw0]
  clear hw0
  have hP : va_P (gg_D G) classes ([] ++ wt) s.heap := hP
  have hD : va_D A ([] ++ wt) := hD
  have hl := lv_entry ([.ref t, .ref tm, .ref v, .int b]) (n := 6) (Nat.le_of_ble_eq_true rfl)
  rw [lg_entry_eq]
  generalize (lg_sl ([.ref t, .ref tm, .ref v, .int b]) ++ List.replicate (6 - (lg_sl ([.ref t, .ref tm, .ref v, .int b])).length) Slot.unset).toArray = ls at hl ⊢
  have hl : lv_has ls 6 [(0, .ref t), (1, .ref tm), (2, .ref v), (3, .int b)] := hl
  have l0 : (0 : Int32).toInt = 0 := by decide +kernel
  have l1 : (1 : Int32).toInt = 1 := by decide +kernel
  have l3 : (3 : Int32).toInt = 3 := by decide +kernel
  have l5 : (5 : Int32).toInt = 5 := by decide +kernel
  refine lv_aload_n hx hb dX10_playRow_0 rfl (lv_at hl 0 rfl) ?_
  refine tr_get (ci := 10) hx hb ht hown hK hT hP k_t (by decide) i_X10 rfl 0 (by decide) wd_456 rfl dX10_playRow_1 (fun v hv hf_1 => ?_)
  obtain ⟨q_2, rfl, hq_2⟩ := hv
  refine lv_aload_n hx hb dX10_playRow_4 rfl (lv_at hl 2 rfl) ?_
  refine gt_callV (wr := []) (va_runV (As := [.ref v]) (rest := []) ⟨hx, hb, hml, hown, ht⟩ (d_S_copyFrom l G Γ s.heap.size wt hT q_2 v hq_2 k_v) (cwV 1 ht (ts_gV wd_1116 wd_863 wd_864 wd_125 wd_865) rfl rfl rfl (by decide +kernel) ⟨Nat.le_of_ble_eq_true rfl, Nat.le_of_ble_eq_true rfl⟩) (gt_preW (ci := 7) hK hT (tw_right hP) (tw_rightD hD) hq_2 (by decide) rfl) rfl rfl hl.1 rfl (lv_room (Nat.le_of_ble_eq_true rfl)) dX10_playRow_5 ⟨Nat.le_of_ble_eq_true rfl, Nat.le_of_ble_eq_true rfl⟩) hP hD hS hA (fun wt H locs hw hP hD hS => ?_)
  obtain ⟨hT, hkp⟩ := hw
  have hW := hW.call (show ∀ x ∈ [709], x ∈ [709] by decide) hkp
  refine lv_iconst (v := 0) hx hb dX10_playRow_8 (by decide +kernel) ?_
  refine lv_istore (lv' := [(4, .int 0), (0, .ref t), (1, .ref tm), (2, .ref v), (3, .int b)]) hx hb dX10_playRow_9 hl (by decide) rfl (fun ls hl => ?_)
  refine tl_loopE (Γ := Γ) (nL := 6) (fun (zz_ : Int32) => match zz_ with | x11_0 => 0 ≤ x11_0.toInt ∧ x11_0.toInt ≤ 5) (fun (zz_ : Int32) => match zz_ with | x11_0 => (5 - x11_0.toInt).toNat) (fun (zz_ : Int32) => match zz_ with | x11_0 => [(4, .int x11_0), (0, .ref t), (1, .ref tm), (2, .ref v), (3, .int b)]) (fun (zz_ : Int32) => match zz_ with | x11_0 => []) (fun (zz_ : Int32) (w : va_W) => match zz_ with | x11_0 => tk_kp [709] w0 w) (fun zz_ hI H locs wt ls hT hW hP hD hS hl ih11 => ?_) 0 (show 0 ≤ (0 : Int32).toInt ∧ (0 : Int32).toInt ≤ 5 from ⟨by omega, by omega⟩) _ _ wt ls hT hW hP hD hS hl
  obtain ⟨x11_0, rfl⟩ : ∃ z2, z2 = zz_ := ⟨_, rfl⟩
  have hW : tk_kp [709] w0 wt := hW
  have hI : 0 ≤ x11_0.toInt ∧ x11_0.toInt ≤ 5 := hI
  obtain ⟨j11_0, j11_1⟩ := hI
  have hl : lv_has ls 6 [(4, .int x11_0), (0, .ref t), (1, .ref tm), (2, .ref v), (3, .int b)] := hl
  have hP : va_P (gg_D G) classes ([] ++ wt) H := hP
  have hD : va_D A ([] ++ wt) := hD
  refine lv_iload hx hb dX10_playRow_11 (lv_at hl 0 rfl) ?_
  refine lv_iconst (v := 5) hx hb dX10_playRow_13 (by decide +kernel) ?_
  refine lv_icmp_ge (tgt := 74) hx hb dX10_playRow_14 (by decide) (fun c_3 => ?_) (fun c_3 => ?_)
  · rw [Int32.le_iff_toInt_le] at c_3
    refine lv_iconst (v := 1) hx hb dX10_playRow_74 (by decide +kernel) ?_
    have hP9 := tw_right hP
    have hD9 := tw_rightD hD
    exact W.zret (v := 1) hx hb hr (by decide +kernel) (gq_endI wt ⟨hT, hW, (by omega), (by omega)⟩ hP9 hD9 hS) hS.2.2 dX10_playRow_75
  · rw [Int32.le_iff_toInt_le] at c_3
    refine lv_aload_n hx hb dX10_playRow_17 rfl (lv_at hl 1 rfl) ?_
    refine tr_get (ci := 10) hx hb ht hown hK hT hP k_t (by decide) i_X10 rfl 1 (by decide) wd_457 rfl dX10_playRow_18 (fun v hv hf_4 => ?_)
    obtain ⟨q_5, rfl, hq_5⟩ := hv
    refine lv_iload hx hb dX10_playRow_21 (lv_at hl 0 rfl) ?_
    refine tr_iald hx hb hK hT hP 20 hq_5 (by decide) (by decide) (show vp_in _ (tk_len 20) from ia_in (n := 5) (by omega) (by omega)) dX10_playRow_23 (fun n_6 hn_6 => ?_)
    clear hn_6
    refine lv_istore (lv' := [(5, .int n_6), (4, .int x11_0), (0, .ref t), (1, .ref tm), (2, .ref v), (3, .int b)]) hx hb dX10_playRow_24 hl (by decide) rfl (fun ls hl => ?_)
    refine lv_iload hx hb dX10_playRow_26 (lv_at hl 0 rfl) ?_
    refine lv_if_lt (tgt := 68) hx hb dX10_playRow_28 (by decide) (fun c_7 => ?_) (fun c_7 => ?_)
    · rw [Int32.lt_iff_toInt_lt] at c_7
      obtain ⟨t_8, et_8⟩ : ∃ zz_ : Int32, x11_0 + Int32.ofInt (1) = zz_ := ⟨_, rfl⟩
      have ft_8 : t_8.toInt = x11_0.toInt + (1 : Int32).toInt := ia_add (y := 1) et_8 (by omega) (by omega)
      refine lv_iinc (v := t_8) (lv' := [(4, .int t_8), (5, .int n_6), (0, .ref t), (1, .ref tm), (2, .ref v), (3, .int b)]) hx hb dX10_playRow_68 hl (k := 1) rfl et_8 (by decide) rfl (fun ls hl => ?_)
      refine lv_goto (tgt := 11) hx hb dX10_playRow_71 (by decide) ?_
      exact ih11 t_8 (show 0 ≤ t_8.toInt ∧ t_8.toInt ≤ 5 from ⟨by omega, by omega⟩) (show (5 - t_8.toInt).toNat < (5 - x11_0.toInt).toNat by omega) H locs wt ls hT hW hP hD hS (lv_sub hl [0, 2, 3, 4, 5] rfl)
    · rw [Int32.lt_iff_toInt_lt] at c_7
      refine lv_iload hx hb dX10_playRow_31 (lv_at hl 0 rfl) ?_
      refine lv_iconst (v := 3) hx hb dX10_playRow_33 (by decide +kernel) ?_
      refine lv_icmp_ge (tgt := 68) hx hb dX10_playRow_34 (by decide) (fun c_9 => ?_) (fun c_9 => ?_)
      · rw [Int32.le_iff_toInt_le] at c_9
        obtain ⟨t_10, et_10⟩ : ∃ zz_ : Int32, x11_0 + Int32.ofInt (1) = zz_ := ⟨_, rfl⟩
        have ft_10 : t_10.toInt = x11_0.toInt + (1 : Int32).toInt := ia_add (y := 1) et_10 (by omega) (by omega)
        refine lv_iinc (v := t_10) (lv' := [(4, .int t_10), (5, .int n_6), (0, .ref t), (1, .ref tm), (2, .ref v), (3, .int b)]) hx hb dX10_playRow_68 hl (k := 1) rfl et_10 (by decide) rfl (fun ls hl => ?_)
        refine lv_goto (tgt := 11) hx hb dX10_playRow_71 (by decide) ?_
        exact ih11 t_10 (show 0 ≤ t_10.toInt ∧ t_10.toInt ≤ 5 from ⟨by omega, by omega⟩) (show (5 - t_10.toInt).toNat < (5 - x11_0.toInt).toNat by omega) H locs wt ls hT hW hP hD hS (lv_sub hl [0, 2, 3, 4, 5] rfl)
      · rw [Int32.le_iff_toInt_le] at c_9
        refine lv_aload_n hx hb dX10_playRow_37 rfl (lv_at hl 2 rfl) ?_
        refine tr_get (ci := 10) hx hb ht hown hK hT hP k_t (by decide) i_X10 rfl 0 (by decide) wd_456 rfl dX10_playRow_38 (fun v hv hf_11 => ?_)
        obtain ⟨q_12, rfl, hq_12⟩ := hv
        refine lv_iload_n hx hb dX10_playRow_41 rfl (lv_at hl 5 rfl) ?_
        refine lv_iload hx hb dX10_playRow_42 (lv_at hl 1 rfl) ?_
        refine lv_iload hx hb dX10_playRow_44 (lv_at hl 0 rfl) ?_
        refine lv_aload_n hx hb dX10_playRow_46 rfl (lv_at hl 3 rfl) ?_
        refine gt_callI (wr := []) (va_runV (As := [.int b, .int x11_0, .int n_6, .ref tm]) (rest := []) ⟨hx, hb, hml, hown, ht⟩ (d_canTrick l G Γ H.size wt hT q_12 b x11_0 n_6 tm hq_12 (by omega) (by omega) (by omega) (by omega) (by omega) (by omega) k_tm) (cwV 4 ht (ts_gV wd_1117 wd_956 wd_957 wd_125 wd_958) rfl rfl rfl (by decide +kernel) ⟨Nat.le_of_ble_eq_true rfl, Nat.le_of_ble_eq_true rfl⟩) (gt_preW (ci := 7) hK hT (tw_right hP) (tw_rightD hD) hq_12 (by decide) rfl) rfl rfl hl.1 rfl (lv_room (Nat.le_of_ble_eq_true rfl)) dX10_playRow_47 ⟨Nat.le_of_ble_eq_true rfl, Nat.le_of_ble_eq_true rfl⟩) hP hD hS hA (fun r_13 wt H locs hw hP hD hS => ?_)
        obtain ⟨hT, hkp, lo_r_13, hi_r_13⟩ := hw
        have hW := hW.call (show ∀ x ∈ [], x ∈ [709] by decide) hkp
        refine lv_if_ne (tgt := 55) hx hb dX10_playRow_50 (by decide) (fun c_14 => ?_) (fun c_14 => ?_)
        · rw [← Int32.toInt_inj] at c_14
          refine lv_aload_n hx hb dX10_playRow_55 rfl (lv_at hl 2 rfl) ?_
          refine tr_get (ci := 10) hx hb ht hown hK hT hP k_t (by decide) i_X10 rfl 0 (by decide) wd_456 rfl dX10_playRow_56 (fun v hv hf_15 => ?_)
          obtain ⟨q_16, rfl, hq_16⟩ := hv
          refine lv_iload_n hx hb dX10_playRow_59 rfl (lv_at hl 5 rfl) ?_
          refine lv_iload hx hb dX10_playRow_60 (lv_at hl 1 rfl) ?_
          refine lv_iload hx hb dX10_playRow_62 (lv_at hl 0 rfl) ?_
          refine lv_aload_n hx hb dX10_playRow_64 rfl (lv_at hl 3 rfl) ?_
          refine gt_callV (wr := []) (va_runV (As := [.int b, .int x11_0, .int n_6, .ref tm]) (rest := []) ⟨hx, hb, hml, hown, ht⟩ (d_trickNow l G Γ H.size wt hT q_16 b x11_0 n_6 tm hq_16 (by omega) (by omega) (by omega) (by omega) (by omega) (by omega) k_tm) (cwV 4 ht (ts_gV wd_1118 wd_961 wd_962 wd_125 wd_963) rfl rfl rfl (by decide +kernel) ⟨Nat.le_of_ble_eq_true rfl, Nat.le_of_ble_eq_true rfl⟩) (gt_preW (ci := 7) hK hT (tw_right hP) (tw_rightD hD) hq_16 (by decide) rfl) rfl rfl hl.1 rfl (lv_room (Nat.le_of_ble_eq_true rfl)) dX10_playRow_65 ⟨Nat.le_of_ble_eq_true rfl, Nat.le_of_ble_eq_true rfl⟩) hP hD hS hA (fun wt H locs hw hP hD hS => ?_)
          obtain ⟨hT, hkp⟩ := hw
          have hW := hW.call (show ∀ x ∈ [], x ∈ [709] by decide) hkp
          obtain ⟨t_17, et_17⟩ : ∃ zz_ : Int32, x11_0 + Int32.ofInt (1) = zz_ := ⟨_, rfl⟩
          have ft_17 : t_17.toInt = x11_0.toInt + (1 : Int32).toInt := ia_add (y := 1) et_17 (by omega) (by omega)
          refine lv_iinc (v := t_17) (lv' := [(4, .int t_17), (5, .int n_6), (0, .ref t), (1, .ref tm), (2, .ref v), (3, .int b)]) hx hb dX10_playRow_68 hl (k := 1) rfl et_17 (by decide) rfl (fun ls hl => ?_)
          refine lv_goto (tgt := 11) hx hb dX10_playRow_71 (by decide) ?_
          exact ih11 t_17 (show 0 ≤ t_17.toInt ∧ t_17.toInt ≤ 5 from ⟨by omega, by omega⟩) (show (5 - t_17.toInt).toNat < (5 - x11_0.toInt).toNat by omega) H locs wt ls hT hW hP hD hS (lv_sub hl [0, 2, 3, 4, 5] rfl)
        · rw [← Int32.toInt_inj] at c_14
          refine lv_iconst (v := 0) hx hb dX10_playRow_53 (by decide +kernel) ?_
          have hP9 := tw_right hP
          have hD9 := tw_rightD hD
          exact W.zret (v := 0) hx hb hr (by decide +kernel) (gq_endI wt ⟨hT, hW, (by omega), (by omega)⟩ hP9 hD9 hS) hS.2.2 dX10_playRow_54
set_option maxHeartbeats 4000000 in
set_option maxRecDepth 100000 in
theorem d_findTricks (l : Launch) (G : gg_T) (Γ : Nat → Nat) (sz : Nat) (wt : va_W) (hT : tk_ty G Γ wt) (t : Nat) (ck : Nat) (tm : Nat) (v : Nat) (b : Int32) (w : Int32) (k_t : Γ t = 11) (k_ck : Γ ck = 1) (k_tm : Γ tm = 10) (k_v : Γ v = 8) (lo_b : 0 ≤ b.toInt) (hi_b : b.toInt ≤ 4) (lo_w : 0 ≤ w.toInt) (hi_w : w.toInt ≤ 2) : Met l yX10_findTricks (ts_L yX10_findTricks cX10_findTricks 11 none) ({ frames := 6, cells := 0, slots := 0, locals := 147 }) (gc_P G wt sz [.ref t, .ref ck, .ref tm, .ref v, .int b, .int w]) (gc_V G (va_A wt sz) (fun (u : va_W) => tk_ty G Γ u ∧ tk_kp [709, 1003] wt u) (fun u => u)) 0 0 (va_A wt sz) := by
  refine Met.ofW (cc := cX10_findTricks) (maxL := 11) (ret := none) (by decide) rfl ?_
  intro p e s m args below meth c s₁ B hml hv
  obtain ⟨rfl, hsz, hP, hK, hD0⟩ := hv
  have hx := B.exec
  have hb := B.bytes
  have hr := B.returns
  have ht := ts_ht (atoms_spec (ws := ts_L yX10_findTricks cX10_findTricks 11 none) B.pre)
  have hown : s.vm.findClass RX10 = some m.cls := findClass_of_methodNamed B.named
  have hlocks := B.notSynchronized
  subst hsz
  have hD := hD0.self (sz := s.heap.size)
  generalize hAe : va_A wt s.heap.size = A at hD ⊢
  have hA : ∀ q : Nat, s.heap.size ≤ q → A q := fun q h => by rw [← hAe]; exact Or.inr h
  clear hAe hD0
  have hS : va_S A s.heap s.heap [] := va_S.rf
  obtain ⟨w0, hw0⟩ : ∃ z, z = wt := ⟨_, rfl⟩
  have hW : tk_kp [709, 1003] w0 wt := by rw [hw0]; exact tk_kp.rf
  rw [← hw0]
  clear hw0
  have hP : va_P (gg_D G) classes ([] ++ wt) s.heap := hP
  have hD : va_D A ([] ++ wt) := hD
  have hl := lv_entry ([.ref t, .ref ck, .ref tm, .ref v, .int b, .int w]) (n := 11) (Nat.le_of_ble_eq_true rfl)
  rw [lg_entry_eq]
  generalize (lg_sl ([.ref t, .ref ck, .ref tm, .ref v, .int b, .int w]) ++ List.replicate (11 - (lg_sl ([.ref t, .ref ck, .ref tm, .ref v, .int b, .int w])).length) Slot.unset).toArray = ls at hl ⊢
  have hl : lv_has ls 11 [(0, .ref t), (1, .ref ck), (2, .ref tm), (3, .ref v), (4, .int b), (5, .int w)] := hl
  have lm1 : ((-1) : Int32).toInt = -1 := by decide +kernel
  have l0 : (0 : Int32).toInt = 0 := by decide +kernel
  have l1 : (1 : Int32).toInt = 1 := by decide +kernel
  refine lv_aload_n hx hb dX10_findTricks_0 rfl (lv_at hl 0 rfl) ?_
  refine lv_iconst (v := (-1)) hx hb dX10_findTricks_1 (by decide +kernel) ?_
  refine tr_put (ci := 10) hx hb ht hown hK hT hP hD hS k_t (by decide) i_X10 tyX10 tyX10_ok nmX10 rfl 3 (by decide) wd_460 rfl rfl rfl rfl ⟨_, rfl⟩ dX10_findTricks_2 (fun H locs wt hT hfl hfn hP hD hS => ?_)
  have hW := hW.obj (show 10 * 100 + 3 ∈ [709, 1003] by decide) hfl
  have hf_1 := hfn
  refine lv_aload_n hx hb dX10_findTricks_5 rfl (lv_at hl 3 rfl) ?_
  refine tr_get (ci := 7) hx hb ht hown hK hT hP k_v (by decide) i_X7 rfl 8 (by decide) wd_262 rfl dX10_findTricks_6 (fun v hv hf_2 => ?_)
  obtain ⟨q_3, rfl, hq_3⟩ := hv
  refine lv_iload hx hb dX10_findTricks_9 (lv_at hl 5 rfl) ?_
  refine tr_iald hx hb hK hT hP 22 hq_3 (by decide) (by decide) (show vp_in _ (tk_len 22) from ia_in (n := 3) (by omega) (by omega)) dX10_findTricks_11 (fun n_4 hn_4 => ?_)
  have hn_4 : 0 ≤ n_4.toInt ∧ n_4.toInt ≤ 31 := hn_4
  refine lv_iconst (v := 1) hx hb dX10_findTricks_12 (by decide +kernel) ?_
  refine lv_iload hx hb dX10_findTricks_13 (lv_at hl 4 rfl) ?_
  obtain ⟨t_5, et_5⟩ : ∃ zz_ : Int32, 1 <<< (b &&& 31) = zz_ := ⟨_, rfl⟩
  refine gq_ishl hx hb t_5 et_5 dX10_findTricks_15 ?_
  have ft_5 := ia_bit et_5 (by omega) (by omega)
  refine lv_iconst (v := (-1)) hx hb dX10_findTricks_16 (by decide +kernel) ?_
  refine lv_ixor hx hb dX10_findTricks_17 ?_
  refine lv_topi (fun t_6 et_6 => ?_)
  obtain ⟨t_7, et_7⟩ : ∃ zz_ : Int32, n_4 &&& t_6 = zz_ := ⟨_, rfl⟩
  refine gq_iand hx hb t_7 et_7 dX10_findTricks_18 ?_
  have ft_7 := ia_and1 et_7 (by omega)
  refine lv_istore (lv' := [(6, .int t_7), (0, .ref t), (1, .ref ck), (2, .ref tm), (3, .ref v), (4, .int b), (5, .int w)]) hx hb dX10_findTricks_19 hl (by decide) rfl (fun ls hl => ?_)
  refine lv_aload_n hx hb dX10_findTricks_21 rfl (lv_at hl 3 rfl) ?_
  refine tr_get (ci := 9) hx hb ht hown hK hT hP k_tm (by decide) i_X9 rfl 3 (by decide) wd_192 rfl dX10_findTricks_22 (fun v hv hf_8 => ?_)
  obtain ⟨n_9, rfl, lo_n_9, hi_n_9⟩ := hv
  refine lv_iconst (v := 1) hx hb dX10_findTricks_25 (by decide +kernel) ?_
  obtain ⟨t_10, et_10⟩ : ∃ zz_ : Int32, n_9 + 1 = zz_ := ⟨_, rfl⟩
  refine gq_iadd hx hb t_10 et_10 dX10_findTricks_26 ?_
  have ft_10 := ia_add et_10 (by omega) (by omega)
  refine lv_istore (lv' := [(7, .int t_10), (6, .int t_7), (0, .ref t), (1, .ref ck), (2, .ref tm), (3, .ref v), (4, .int b), (5, .int w)]) hx hb dX10_findTricks_27 hl (by decide) rfl (fun ls hl => ?_)
  refine lv_iload hx hb dX10_findTricks_29 (lv_at hl 0 rfl) ?_
  refine lv_iload hx hb dX10_findTricks_31 (lv_at hl 1 rfl) ?_
  refine gt_callI (wr := []) (va_runS (As := [.int t_7]) (rest := [.int t_10]) ⟨hx, hb, hml, hown, ht⟩ (d_bitCount l G Γ H.size wt hT t_7) (va_cwS 1 ht (ts_gS wd_1105 wd_895 wd_141 wd_896) rfl rfl rfl (by decide +kernel) ⟨Nat.le_of_ble_eq_true rfl, Nat.le_of_ble_eq_true rfl⟩) (gc_preS hK (tw_right hP) (tw_rightD hD)) rfl rfl hl.1 rfl (lv_room (Nat.le_of_ble_eq_true rfl)) dX10_findTricks_33 ⟨Nat.le_of_ble_eq_true rfl, Nat.le_of_ble_eq_true rfl⟩) hP hD hS hA (fun r_11 wt H locs hw hP hD hS => ?_)
  obtain ⟨hT, hkp⟩ := hw
  have hW := hW.call (show ∀ x ∈ [], x ∈ [709, 1003] by decide) hkp
  have hf_1 := hkp _ _ _ _ (by decide) (by decide) hf_1
  have hf_8 := hkp _ _ _ _ (by decide) (by decide) hf_8
  refine gt_callI (wr := []) (va_runSN (As := [.int t_10, .int r_11]) (rest := []) ⟨hx, hb, hml, hown, ht⟩ (d_power l G Γ H.size wt hT t_10 r_11) ⟨va_cnB 2 ht (tb_good (ts_good wd_1046)) rfl rfl rfl (hK.2.1 _ wn_1106 rfl) (ht _ wd_122) (by decide +kernel) ⟨Nat.le_of_ble_eq_true rfl, Nat.le_of_ble_eq_true rfl⟩, ht _ wd_1045, trivial⟩ (gc_preS hK (tw_right hP) (tw_rightD hD)) rfl rfl hl.1 rfl (lv_room (Nat.le_of_ble_eq_true rfl)) dX10_findTricks_36 ⟨Nat.le_of_ble_eq_true rfl, Nat.le_of_ble_eq_true rfl⟩) hP hD hS hA (fun r_12 wt H locs hw hP hD hS => ?_)
  obtain ⟨hT, hkp⟩ := hw
  have hW := hW.call (show ∀ x ∈ [], x ∈ [709, 1003] by decide) hkp
  have hf_1 := hkp _ _ _ _ (by decide) (by decide) hf_1
  have hf_8 := hkp _ _ _ _ (by decide) (by decide) hf_8
  refine lv_istore (lv' := [(8, .int r_12), (7, .int t_10), (6, .int t_7), (0, .ref t), (1, .ref ck), (2, .ref tm), (3, .ref v), (4, .int b), (5, .int w)]) hx hb dX10_findTricks_39 hl (by decide) rfl (fun ls hl => ?_)
  refine lv_iconst (v := 0) hx hb dX10_findTricks_41 (by decide +kernel) ?_
  refine lv_istore (lv' := [(9, .int 0), (8, .int r_12), (7, .int t_10), (6, .int t_7), (0, .ref t), (1, .ref ck), (2, .ref tm), (3, .ref v), (4, .int b), (5, .int w)]) hx hb dX10_findTricks_42 hl (by decide) rfl (fun ls hl => ?_)
  refine tl_loopE (Γ := Γ) (nL := 11) (fun (zz_ : Int32) => match zz_ with | x44_0 => 0 ≤ x44_0.toInt ∧ x44_0.toInt ≤ 2147483647) (fun (zz_ : Int32) => match zz_ with | x44_0 => (r_12.toInt - x44_0.toInt).toNat) (fun (zz_ : Int32) => match zz_ with | x44_0 => [(9, .int x44_0), (8, .int r_12), (7, .int t_10), (6, .int t_7), (0, .ref t), (1, .ref ck), (2, .ref tm), (3, .ref v), (4, .int b), (5, .int w)]) (fun (zz_ : Int32) => match zz_ with | x44_0 => []) (fun (zz_ : Int32) (w : va_W) => match zz_ with | x44_0 => tk_kp [709, 1003] w0 w) (fun zz_ hI H locs wt ls hT hW hP hD hS hl ih44 => ?_) 0 (show 0 ≤ (0 : Int32).toInt ∧ (0 : Int32).toInt ≤ 2147483647 from ⟨by omega, by omega⟩) _ _ wt ls hT hW hP hD hS hl
  obtain ⟨x44_0, rfl⟩ : ∃ z2, z2 = zz_ := ⟨_, rfl⟩
  have hW : tk_kp [709, 1003] w0 wt := hW
  have hI : 0 ≤ x44_0.toInt ∧ x44_0.toInt ≤ 2147483647 := hI
  obtain ⟨j44_0, j44_1⟩ := hI
  have hl : lv_has ls 11 [(9, .int x44_0), (8, .int r_12), (7, .int t_10), (6, .int t_7), (0, .ref t), (1, .ref ck), (2, .ref tm), (3, .ref v), (4, .int b), (5, .int w)] := hl
  have hP : va_P (gg_D G) classes ([] ++ wt) H := hP
  have hD : va_D A ([] ++ wt) := hD
  refine lv_iload hx hb dX10_findTricks_44 (lv_at hl 0 rfl) ?_
  refine lv_iload hx hb dX10_findTricks_46 (lv_at hl 1 rfl) ?_
  refine lv_icmp_ge (tgt := 140) hx hb dX10_findTricks_48 (by decide) (fun c_13 => ?_) (fun c_13 => ?_)
  · rw [Int32.le_iff_toInt_le] at c_13
    have hP9 := tw_right hP
    have hD9 := tw_rightD hD
    exact W.vret hx hb hr (gq_endV wt ⟨hT, hW⟩ hP9 hD9 hS) hS.2.2 dX10_findTricks_140
  · rw [Int32.le_iff_toInt_le] at c_13
    refine lv_iload hx hb dX10_findTricks_51 (lv_at hl 0 rfl) ?_
    refine lv_iload hx hb dX10_findTricks_53 (lv_at hl 2 rfl) ?_
    refine lv_iload hx hb dX10_findTricks_55 (lv_at hl 3 rfl) ?_
    refine lv_aload_n hx hb dX10_findTricks_57 rfl (lv_at hl 4 rfl) ?_
    refine tr_get (ci := 10) hx hb ht hown hK hT hP k_t (by decide) i_X10 rfl 1 (by decide) wd_457 rfl dX10_findTricks_58 (fun v hv hf_14 => ?_)
    obtain ⟨q_15, rfl, hq_15⟩ := hv
    refine gt_callV (wr := []) (va_runSN (As := [.int x44_0, .int t_10, .int t_7, .ref q_15]) (rest := []) ⟨hx, hb, hml, hown, ht⟩ (d_spread l G Γ H.size wt hT x44_0 t_10 t_7 q_15 hq_15) ⟨va_cnB 4 ht (tb_good (ts_good wd_1080)) rfl rfl rfl (hK.2.1 _ wn_1107 rfl) (ht _ wd_122) (by decide +kernel) ⟨Nat.le_of_ble_eq_true rfl, Nat.le_of_ble_eq_true rfl⟩, ht _ wd_1079, trivial⟩ (gc_preS hK (tw_right hP) (tw_rightD hD)) rfl rfl hl.1 rfl (lv_room (Nat.le_of_ble_eq_true rfl)) dX10_findTricks_61 ⟨Nat.le_of_ble_eq_true rfl, Nat.le_of_ble_eq_true rfl⟩) hP hD hS hA (fun wt H locs hw hP hD hS => ?_)
    obtain ⟨hT, hkp⟩ := hw
    have hW := hW.call (show ∀ x ∈ [], x ∈ [709, 1003] by decide) hkp
    refine lv_aload_n hx hb dX10_findTricks_64 rfl (lv_at hl 4 rfl) ?_
    refine lv_aload_n hx hb dX10_findTricks_65 rfl (lv_at hl 6 rfl) ?_
    refine gt_callI (wr := []) (va_runV (As := [.ref tm]) (rest := []) ⟨hx, hb, hml, hown, ht⟩ (d_rowCost l G Γ H.size wt hT t tm k_t k_tm) (cwV 1 ht (ts_gV wd_1108 wd_1110 wd_31 wd_132 wd_1111) rfl rfl rfl (by decide +kernel) ⟨Nat.le_of_ble_eq_true rfl, Nat.le_of_ble_eq_true rfl⟩) (gt_preW (ci := 10) hK hT (tw_right hP) (tw_rightD hD) k_t (by decide) rfl) rfl rfl hl.1 rfl (lv_room (Nat.le_of_ble_eq_true rfl)) dX10_findTricks_66 ⟨Nat.le_of_ble_eq_true rfl, Nat.le_of_ble_eq_true rfl⟩) hP hD hS hA (fun r_16 wt H locs hw hP hD hS => ?_)
    obtain ⟨hT, hkp⟩ := hw
    have hW := hW.call (show ∀ x ∈ [], x ∈ [709, 1003] by decide) hkp
    refine lv_istore (lv' := [(10, .int r_16), (9, .int x44_0), (8, .int r_12), (7, .int t_10), (6, .int t_7), (0, .ref t), (1, .ref ck), (2, .ref tm), (3, .ref v), (4, .int b), (5, .int w)]) hx hb dX10_findTricks_69 hl (by decide) rfl (fun ls hl => ?_)
    refine lv_aload_n hx hb dX10_findTricks_71 rfl (lv_at hl 5 rfl) ?_
    refine tr_get (ci := 10) hx hb ht hown hK hT hP k_t (by decide) i_X10 rfl 3 (by decide) wd_460 rfl dX10_findTricks_72 (fun v hv hf_17 => ?_)
    obtain ⟨n_18, rfl⟩ := hv
    refine lv_iconst (v := (-1)) hx hb dX10_findTricks_75 (by decide +kernel) ?_
    refine lv_icmp_eq (tgt := 88) hx hb dX10_findTricks_76 (by decide) (fun c_19 => ?_) (fun c_19 => ?_)
    · rw [← Int32.toInt_inj] at c_19
      refine lv_aload_n hx hb dX10_findTricks_88 rfl (lv_at hl 5 rfl) ?_
      refine lv_aload_n hx hb dX10_findTricks_89 rfl (lv_at hl 7 rfl) ?_
      refine lv_aload_n hx hb dX10_findTricks_90 rfl (lv_at hl 8 rfl) ?_
      refine lv_iload hx hb dX10_findTricks_91 (lv_at hl 9 rfl) ?_
      refine gt_callI (wr := []) (va_runV (As := [.ref tm, .ref v, .int b]) (rest := []) ⟨hx, hb, hml, hown, ht⟩ (d_playRow l G Γ H.size wt hT t tm v b k_t k_tm k_v (by omega) (by omega)) (cwV 3 ht (ts_gV wd_1112 wd_1114 wd_32 wd_132 wd_1115) rfl rfl rfl (by decide +kernel) ⟨Nat.le_of_ble_eq_true rfl, Nat.le_of_ble_eq_true rfl⟩) (gt_preW (ci := 10) hK hT (tw_right hP) (tw_rightD hD) k_t (by decide) rfl) rfl rfl hl.1 rfl (lv_room (Nat.le_of_ble_eq_true rfl)) dX10_findTricks_93 ⟨Nat.le_of_ble_eq_true rfl, Nat.le_of_ble_eq_true rfl⟩) hP hD hS hA (fun r_20 wt H locs hw hP hD hS => ?_)
      obtain ⟨hT, hkp, lo_r_20, hi_r_20⟩ := hw
      have hW := hW.call (show ∀ x ∈ [709], x ∈ [709, 1003] by decide) hkp
      have hf_17 := hkp _ _ _ _ (by decide) (by decide) hf_17
      refine lv_if_eq (tgt := 134) hx hb dX10_findTricks_96 (by decide) (fun c_21 => ?_) (fun c_21 => ?_)
      · rw [← Int32.toInt_inj] at c_21
        obtain ⟨t_22, et_22⟩ : ∃ zz_ : Int32, x44_0 + Int32.ofInt (1) = zz_ := ⟨_, rfl⟩
        have bd_r_12 := ia_bd r_12
        have ft_22 : t_22.toInt = x44_0.toInt + (1 : Int32).toInt := ia_add (y := 1) et_22 (by omega) (by omega)
        refine lv_iinc (v := t_22) (lv' := [(9, .int t_22), (10, .int r_16), (8, .int r_12), (7, .int t_10), (6, .int t_7), (0, .ref t), (1, .ref ck), (2, .ref tm), (3, .ref v), (4, .int b), (5, .int w)]) hx hb dX10_findTricks_134 hl (k := 1) rfl et_22 (by decide) rfl (fun ls hl => ?_)
        refine lv_goto (tgt := 44) hx hb dX10_findTricks_137 (by decide) ?_
        exact ih44 t_22 (show 0 ≤ t_22.toInt ∧ t_22.toInt ≤ 2147483647 from ⟨by omega, by omega⟩) (show (r_12.toInt - t_22.toInt).toNat < (r_12.toInt - x44_0.toInt).toNat by omega) H locs wt ls hT hW hP hD hS (lv_sub hl [0, 2, 3, 4, 5, 6, 7, 8, 9, 10] rfl)
      · rw [← Int32.toInt_inj] at c_21
        refine lv_aload_n hx hb dX10_findTricks_99 rfl (lv_at hl 6 rfl) ?_
        refine lv_aload_n hx hb dX10_findTricks_100 rfl (lv_at hl 5 rfl) ?_
        refine tr_get (ci := 10) hx hb ht hown hK hT hP k_t (by decide) i_X10 rfl 0 (by decide) wd_456 rfl dX10_findTricks_101 (fun v hv hf_23 => ?_)
        obtain ⟨q_24, rfl, hq_24⟩ := hv
        refine lv_iload hx hb dX10_findTricks_104 (lv_at hl 10 rfl) ?_
        refine lv_iload hx hb dX10_findTricks_106 (lv_at hl 9 rfl) ?_
        refine gt_callI (wr := []) (va_runV (As := [.ref q_24, .int w, .int b]) (rest := []) ⟨hx, hb, hml, hown, ht⟩ (d_passTillDecided l G Γ H.size wt hT ck q_24 w b k_ck hq_24 (by omega) (by omega)) (cwV 3 ht (ts_gV wd_1119 wd_1120 wd_1121 wd_130 wd_1122) rfl rfl rfl (by decide +kernel) ⟨Nat.le_of_ble_eq_true rfl, Nat.le_of_ble_eq_true rfl⟩) (gt_preW (ci := 0) hK hT (tw_right hP) (tw_rightD hD) k_ck (by decide) rfl) rfl rfl hl.1 rfl (lv_room (Nat.le_of_ble_eq_true rfl)) dX10_findTricks_108 ⟨Nat.le_of_ble_eq_true rfl, Nat.le_of_ble_eq_true rfl⟩) hP hD hS hA (fun r_25 wt H locs hw hP hD hS => ?_)
        obtain ⟨hT, hkp, lo_r_25, hi_r_25⟩ := hw
        have hW := hW.call (show ∀ x ∈ [709], x ∈ [709, 1003] by decide) hkp
        have hf_17 := hkp _ _ _ _ (by decide) (by decide) hf_17
        refine lv_if_eq (tgt := 134) hx hb dX10_findTricks_111 (by decide) (fun c_26 => ?_) (fun c_26 => ?_)
        · rw [← Int32.toInt_inj] at c_26
          obtain ⟨t_27, et_27⟩ : ∃ zz_ : Int32, x44_0 + Int32.ofInt (1) = zz_ := ⟨_, rfl⟩
          have bd_r_12 := ia_bd r_12
          have ft_27 : t_27.toInt = x44_0.toInt + (1 : Int32).toInt := ia_add (y := 1) et_27 (by omega) (by omega)
          refine lv_iinc (v := t_27) (lv' := [(9, .int t_27), (10, .int r_16), (8, .int r_12), (7, .int t_10), (6, .int t_7), (0, .ref t), (1, .ref ck), (2, .ref tm), (3, .ref v), (4, .int b), (5, .int w)]) hx hb dX10_findTricks_134 hl (k := 1) rfl et_27 (by decide) rfl (fun ls hl => ?_)
          refine lv_goto (tgt := 44) hx hb dX10_findTricks_137 (by decide) ?_
          exact ih44 t_27 (show 0 ≤ t_27.toInt ∧ t_27.toInt ≤ 2147483647 from ⟨by omega, by omega⟩) (show (r_12.toInt - t_27.toInt).toNat < (r_12.toInt - x44_0.toInt).toNat by omega) H locs wt ls hT hW hP hD hS (lv_sub hl [0, 2, 3, 4, 5, 6, 7, 8, 9, 10] rfl)
        · rw [← Int32.toInt_inj] at c_26
          refine lv_aload_n hx hb dX10_findTricks_114 rfl (lv_at hl 5 rfl) ?_
          refine lv_iload hx hb dX10_findTricks_115 (lv_at hl 0 rfl) ?_
          refine tr_put (ci := 10) hx hb ht hown hK hT hP hD hS k_t (by decide) i_X10 tyX10 tyX10_ok nmX10 rfl 3 (by decide) wd_460 rfl rfl rfl rfl ⟨_, rfl⟩ dX10_findTricks_117 (fun H locs wt hT hfl hfn hP hD hS => ?_)
          have hW := hW.obj (show 10 * 100 + 3 ∈ [709, 1003] by decide) hfl
          have hf_28 := hfn
          refine lv_aload_n hx hb dX10_findTricks_120 rfl (lv_at hl 5 rfl) ?_
          refine tr_get (ci := 10) hx hb ht hown hK hT hP k_t (by decide) i_X10 rfl 1 (by decide) wd_457 rfl dX10_findTricks_121 (fun v hv hf_29 => ?_)
          obtain ⟨q_30, rfl, hq_30⟩ := hv
          refine lv_iconst (v := 0) hx hb dX10_findTricks_124 (by decide +kernel) ?_
          refine lv_aload_n hx hb dX10_findTricks_125 rfl (lv_at hl 5 rfl) ?_
          refine tr_get (ci := 10) hx hb ht hown hK hT hP k_t (by decide) i_X10 rfl 2 (by decide) wd_458 rfl dX10_findTricks_126 (fun v hv hf_31 => ?_)
          obtain ⟨q_32, rfl, hq_32⟩ := hv
          refine lv_iconst (v := 0) hx hb dX10_findTricks_129 (by decide +kernel) ?_
          refine lv_iconst (v := 5) hx hb dX10_findTricks_130 (by decide +kernel) ?_
          refine tr_copy hx hb (by rw [hml]; exact hl.1.symm) hown (ht _ wd_1123) (ht _ wd_694) (ht _ wd_693) (ht _ wd_139) hK hT hP hD hS 20 hq_30 hq_32 (by decide) (by decide) (by decide +kernel) (by decide +kernel) (by decide +kernel) (by decide +kernel) (by decide +kernel) (Nat.le_of_ble_eq_true rfl) (Nat.le_of_ble_eq_true rfl) dX10_findTricks_131 (fun H locs wt hT hfl hP hD hS => ?_)
          have hW := hW.arr hfl
          have hf_28 := hfl _ _ _ _ hf_28
          obtain ⟨t_33, et_33⟩ : ∃ zz_ : Int32, x44_0 + Int32.ofInt (1) = zz_ := ⟨_, rfl⟩
          have bd_r_12 := ia_bd r_12
          have ft_33 : t_33.toInt = x44_0.toInt + (1 : Int32).toInt := ia_add (y := 1) et_33 (by omega) (by omega)
          refine lv_iinc (v := t_33) (lv' := [(9, .int t_33), (10, .int r_16), (8, .int r_12), (7, .int t_10), (6, .int t_7), (0, .ref t), (1, .ref ck), (2, .ref tm), (3, .ref v), (4, .int b), (5, .int w)]) hx hb dX10_findTricks_134 hl (k := 1) rfl et_33 (by decide) rfl (fun ls hl => ?_)
          refine lv_goto (tgt := 44) hx hb dX10_findTricks_137 (by decide) ?_
          exact ih44 t_33 (show 0 ≤ t_33.toInt ∧ t_33.toInt ≤ 2147483647 from ⟨by omega, by omega⟩) (show (r_12.toInt - t_33.toInt).toNat < (r_12.toInt - x44_0.toInt).toNat by omega) H locs wt ls hT hW hP hD hS (lv_sub hl [0, 2, 3, 4, 5, 6, 7, 8, 9, 10] rfl)
    · rw [← Int32.toInt_inj] at c_19
      refine lv_iload hx hb dX10_findTricks_79 (lv_at hl 0 rfl) ?_
      refine lv_aload_n hx hb dX10_findTricks_81 rfl (lv_at hl 5 rfl) ?_
      refine tr_getK (ci := 10) hx hb ht hown hK hP i_X10 rfl 3 (by decide) wd_460 rfl hf_17 dX10_findTricks_82 ?_
      refine lv_icmp_ge (tgt := 134) hx hb dX10_findTricks_85 (by decide) (fun c_34 => ?_) (fun c_34 => ?_)
      · rw [Int32.le_iff_toInt_le] at c_34
        obtain ⟨t_35, et_35⟩ : ∃ zz_ : Int32, x44_0 + Int32.ofInt (1) = zz_ := ⟨_, rfl⟩
        have bd_r_12 := ia_bd r_12
        have ft_35 : t_35.toInt = x44_0.toInt + (1 : Int32).toInt := ia_add (y := 1) et_35 (by omega) (by omega)
        refine lv_iinc (v := t_35) (lv' := [(9, .int t_35), (10, .int r_16), (8, .int r_12), (7, .int t_10), (6, .int t_7), (0, .ref t), (1, .ref ck), (2, .ref tm), (3, .ref v), (4, .int b), (5, .int w)]) hx hb dX10_findTricks_134 hl (k := 1) rfl et_35 (by decide) rfl (fun ls hl => ?_)
        refine lv_goto (tgt := 44) hx hb dX10_findTricks_137 (by decide) ?_
        exact ih44 t_35 (show 0 ≤ t_35.toInt ∧ t_35.toInt ≤ 2147483647 from ⟨by omega, by omega⟩) (show (r_12.toInt - t_35.toInt).toNat < (r_12.toInt - x44_0.toInt).toNat by omega) H locs wt ls hT hW hP hD hS (lv_sub hl [0, 2, 3, 4, 5, 6, 7, 8, 9, 10] rfl)
      · rw [Int32.le_iff_toInt_le] at c_34
        refine lv_aload_n hx hb dX10_findTricks_88 rfl (lv_at hl 5 rfl) ?_
        refine lv_aload_n hx hb dX10_findTricks_89 rfl (lv_at hl 7 rfl) ?_
        refine lv_aload_n hx hb dX10_findTricks_90 rfl (lv_at hl 8 rfl) ?_
        refine lv_iload hx hb dX10_findTricks_91 (lv_at hl 9 rfl) ?_
        refine gt_callI (wr := []) (va_runV (As := [.ref tm, .ref v, .int b]) (rest := []) ⟨hx, hb, hml, hown, ht⟩ (d_playRow l G Γ H.size wt hT t tm v b k_t k_tm k_v (by omega) (by omega)) (cwV 3 ht (ts_gV wd_1112 wd_1114 wd_32 wd_132 wd_1115) rfl rfl rfl (by decide +kernel) ⟨Nat.le_of_ble_eq_true rfl, Nat.le_of_ble_eq_true rfl⟩) (gt_preW (ci := 10) hK hT (tw_right hP) (tw_rightD hD) k_t (by decide) rfl) rfl rfl hl.1 rfl (lv_room (Nat.le_of_ble_eq_true rfl)) dX10_findTricks_93 ⟨Nat.le_of_ble_eq_true rfl, Nat.le_of_ble_eq_true rfl⟩) hP hD hS hA (fun r_36 wt H locs hw hP hD hS => ?_)
        obtain ⟨hT, hkp, lo_r_36, hi_r_36⟩ := hw
        have hW := hW.call (show ∀ x ∈ [709], x ∈ [709, 1003] by decide) hkp
        have hf_17 := hkp _ _ _ _ (by decide) (by decide) hf_17
        refine lv_if_eq (tgt := 134) hx hb dX10_findTricks_96 (by decide) (fun c_37 => ?_) (fun c_37 => ?_)
        · rw [← Int32.toInt_inj] at c_37
          obtain ⟨t_38, et_38⟩ : ∃ zz_ : Int32, x44_0 + Int32.ofInt (1) = zz_ := ⟨_, rfl⟩
          have bd_r_12 := ia_bd r_12
          have ft_38 : t_38.toInt = x44_0.toInt + (1 : Int32).toInt := ia_add (y := 1) et_38 (by omega) (by omega)
          refine lv_iinc (v := t_38) (lv' := [(9, .int t_38), (10, .int r_16), (8, .int r_12), (7, .int t_10), (6, .int t_7), (0, .ref t), (1, .ref ck), (2, .ref tm), (3, .ref v), (4, .int b), (5, .int w)]) hx hb dX10_findTricks_134 hl (k := 1) rfl et_38 (by decide) rfl (fun ls hl => ?_)
          refine lv_goto (tgt := 44) hx hb dX10_findTricks_137 (by decide) ?_
          exact ih44 t_38 (show 0 ≤ t_38.toInt ∧ t_38.toInt ≤ 2147483647 from ⟨by omega, by omega⟩) (show (r_12.toInt - t_38.toInt).toNat < (r_12.toInt - x44_0.toInt).toNat by omega) H locs wt ls hT hW hP hD hS (lv_sub hl [0, 2, 3, 4, 5, 6, 7, 8, 9, 10] rfl)
        · rw [← Int32.toInt_inj] at c_37
          refine lv_aload_n hx hb dX10_findTricks_99 rfl (lv_at hl 6 rfl) ?_
          refine lv_aload_n hx hb dX10_findTricks_100 rfl (lv_at hl 5 rfl) ?_
          refine tr_get (ci := 10) hx hb ht hown hK hT hP k_t (by decide) i_X10 rfl 0 (by decide) wd_456 rfl dX10_findTricks_101 (fun v hv hf_39 => ?_)
          obtain ⟨q_40, rfl, hq_40⟩ := hv
          refine lv_iload hx hb dX10_findTricks_104 (lv_at hl 10 rfl) ?_
          refine lv_iload hx hb dX10_findTricks_106 (lv_at hl 9 rfl) ?_
          refine gt_callI (wr := []) (va_runV (As := [.ref q_40, .int w, .int b]) (rest := []) ⟨hx, hb, hml, hown, ht⟩ (d_passTillDecided l G Γ H.size wt hT ck q_40 w b k_ck hq_40 (by omega) (by omega)) (cwV 3 ht (ts_gV wd_1119 wd_1120 wd_1121 wd_130 wd_1122) rfl rfl rfl (by decide +kernel) ⟨Nat.le_of_ble_eq_true rfl, Nat.le_of_ble_eq_true rfl⟩) (gt_preW (ci := 0) hK hT (tw_right hP) (tw_rightD hD) k_ck (by decide) rfl) rfl rfl hl.1 rfl (lv_room (Nat.le_of_ble_eq_true rfl)) dX10_findTricks_108 ⟨Nat.le_of_ble_eq_true rfl, Nat.le_of_ble_eq_true rfl⟩) hP hD hS hA (fun r_41 wt H locs hw hP hD hS => ?_)
          obtain ⟨hT, hkp, lo_r_41, hi_r_41⟩ := hw
          have hW := hW.call (show ∀ x ∈ [709], x ∈ [709, 1003] by decide) hkp
          have hf_17 := hkp _ _ _ _ (by decide) (by decide) hf_17
          refine lv_if_eq (tgt := 134) hx hb dX10_findTricks_111 (by decide) (fun c_42 => ?_) (fun c_42 => ?_)
          · rw [← Int32.toInt_inj] at c_42
            obtain ⟨t_43, et_43⟩ : ∃ zz_ : Int32, x44_0 + Int32.ofInt (1) = zz_ := ⟨_, rfl⟩
            have bd_r_12 := ia_bd r_12
            have ft_43 : t_43.toInt = x44_0.toInt + (1 : Int32).toInt := ia_add (y := 1) et_43 (by omega) (by omega)
            refine lv_iinc (v := t_43) (lv' := [(9, .int t_43), (10, .int r_16), (8, .int r_12), (7, .int t_10), (6, .int t_7), (0, .ref t), (1, .ref ck), (2, .ref tm), (3, .ref v), (4, .int b), (5, .int w)]) hx hb dX10_findTricks_134 hl (k := 1) rfl et_43 (by decide) rfl (fun ls hl => ?_)
            refine lv_goto (tgt := 44) hx hb dX10_findTricks_137 (by decide) ?_
            exact ih44 t_43 (show 0 ≤ t_43.toInt ∧ t_43.toInt ≤ 2147483647 from ⟨by omega, by omega⟩) (show (r_12.toInt - t_43.toInt).toNat < (r_12.toInt - x44_0.toInt).toNat by omega) H locs wt ls hT hW hP hD hS (lv_sub hl [0, 2, 3, 4, 5, 6, 7, 8, 9, 10] rfl)
          · rw [← Int32.toInt_inj] at c_42
            refine lv_aload_n hx hb dX10_findTricks_114 rfl (lv_at hl 5 rfl) ?_
            refine lv_iload hx hb dX10_findTricks_115 (lv_at hl 0 rfl) ?_
            refine tr_put (ci := 10) hx hb ht hown hK hT hP hD hS k_t (by decide) i_X10 tyX10 tyX10_ok nmX10 rfl 3 (by decide) wd_460 rfl rfl rfl rfl ⟨_, rfl⟩ dX10_findTricks_117 (fun H locs wt hT hfl hfn hP hD hS => ?_)
            have hW := hW.obj (show 10 * 100 + 3 ∈ [709, 1003] by decide) hfl
            have hf_44 := hfn
            refine lv_aload_n hx hb dX10_findTricks_120 rfl (lv_at hl 5 rfl) ?_
            refine tr_get (ci := 10) hx hb ht hown hK hT hP k_t (by decide) i_X10 rfl 1 (by decide) wd_457 rfl dX10_findTricks_121 (fun v hv hf_45 => ?_)
            obtain ⟨q_46, rfl, hq_46⟩ := hv
            refine lv_iconst (v := 0) hx hb dX10_findTricks_124 (by decide +kernel) ?_
            refine lv_aload_n hx hb dX10_findTricks_125 rfl (lv_at hl 5 rfl) ?_
            refine tr_get (ci := 10) hx hb ht hown hK hT hP k_t (by decide) i_X10 rfl 2 (by decide) wd_458 rfl dX10_findTricks_126 (fun v hv hf_47 => ?_)
            obtain ⟨q_48, rfl, hq_48⟩ := hv
            refine lv_iconst (v := 0) hx hb dX10_findTricks_129 (by decide +kernel) ?_
            refine lv_iconst (v := 5) hx hb dX10_findTricks_130 (by decide +kernel) ?_
            refine tr_copy hx hb (by rw [hml]; exact hl.1.symm) hown (ht _ wd_1123) (ht _ wd_694) (ht _ wd_693) (ht _ wd_139) hK hT hP hD hS 20 hq_46 hq_48 (by decide) (by decide) (by decide +kernel) (by decide +kernel) (by decide +kernel) (by decide +kernel) (by decide +kernel) (Nat.le_of_ble_eq_true rfl) (Nat.le_of_ble_eq_true rfl) dX10_findTricks_131 (fun H locs wt hT hfl hP hD hS => ?_)
            have hW := hW.arr hfl
            have hf_44 := hfl _ _ _ _ hf_44
            obtain ⟨t_49, et_49⟩ : ∃ zz_ : Int32, x44_0 + Int32.ofInt (1) = zz_ := ⟨_, rfl⟩
            have bd_r_12 := ia_bd r_12
            have ft_49 : t_49.toInt = x44_0.toInt + (1 : Int32).toInt := ia_add (y := 1) et_49 (by omega) (by omega)
            refine lv_iinc (v := t_49) (lv' := [(9, .int t_49), (10, .int r_16), (8, .int r_12), (7, .int t_10), (6, .int t_7), (0, .ref t), (1, .ref ck), (2, .ref tm), (3, .ref v), (4, .int b), (5, .int w)]) hx hb dX10_findTricks_134 hl (k := 1) rfl et_49 (by decide) rfl (fun ls hl => ?_)
            refine lv_goto (tgt := 44) hx hb dX10_findTricks_137 (by decide) ?_
            exact ih44 t_49 (show 0 ≤ t_49.toInt ∧ t_49.toInt ≤ 2147483647 from ⟨by omega, by omega⟩) (show (r_12.toInt - t_49.toInt).toNat < (r_12.toInt - x44_0.toInt).toNat by omega) H locs wt ls hT hW hP hD hS (lv_sub hl [0, 2, 3, 4, 5, 6, 7, 8, 9, 10] rfl)
set_option maxHeartbeats 4000000 in
set_option maxRecDepth 100000 in
theorem d_seatAllBy (l : Launch) (G : gg_T) (Γ : Nat → Nat) (sz : Nat) (wt : va_W) (hT : tk_ty G Γ wt) (t : Nat) (w : Int32) (tm : Nat) (k_t : Γ t = 7) (lo_w : 0 ≤ w.toInt) (hi_w : w.toInt ≤ 2) (k_tm : Γ tm = 10) : Met l yX6_seatAllBy (ts_L yX6_seatAllBy cX6_seatAllBy 4 none) ({ frames := 2, cells := 0, slots := 0, locals := 47 }) (gc_P G wt sz [.ref t, .int w, .ref tm]) (gc_V G (va_A wt sz) (fun (u : va_W) => tk_ty G Γ u ∧ tk_kp [709] wt u) (fun u => u)) 0 0 (va_A wt sz) := by
  refine Met.ofW (cc := cX6_seatAllBy) (maxL := 4) (ret := none) (by decide) rfl ?_
  intro p e s m args below meth c s₁ B hml hv
  obtain ⟨rfl, hsz, hP, hK, hD0⟩ := hv
  have hx := B.exec
  have hb := B.bytes
  have hr := B.returns
  have ht := ts_ht (atoms_spec (ws := ts_L yX6_seatAllBy cX6_seatAllBy 4 none) B.pre)
  have hown : s.vm.findClass RX6 = some m.cls := findClass_of_methodNamed B.named
  have hlocks := B.notSynchronized
  subst hsz
  have hD := hD0.self (sz := s.heap.size)
  generalize hAe : va_A wt s.heap.size = A at hD ⊢
  have hA : ∀ q : Nat, s.heap.size ≤ q → A q := fun q h => by rw [← hAe]; exact Or.inr h
  clear hAe hD0
  have hS : va_S A s.heap s.heap [] := va_S.rf
  obtain ⟨w0, hw0⟩ : ∃ z, z = wt := ⟨_, rfl⟩
  have hW : tk_kp [709] w0 wt := by rw [hw0]; exact tk_kp.rf
  rw [← hw0]
  clear hw0
  have hP : va_P (gg_D G) classes ([] ++ wt) s.heap := hP
  have hD : va_D A ([] ++ wt) := hD
  have hl := lv_entry ([.ref t, .int w, .ref tm]) (n := 4) (Nat.le_of_ble_eq_true rfl)
  rw [lg_entry_eq]
  generalize (lg_sl ([.ref t, .int w, .ref tm]) ++ List.replicate (4 - (lg_sl ([.ref t, .int w, .ref tm])).length) Slot.unset).toArray = ls at hl ⊢
  have hl : lv_has ls 4 [(0, .ref t), (1, .int w), (2, .ref tm)] := hl
  have l0 : (0 : Int32).toInt = 0 := by decide +kernel
  have l1 : (1 : Int32).toInt = 1 := by decide +kernel
  refine lv_aload_n hx hb dX6_seatAllBy_0 rfl (lv_at hl 0 rfl) ?_
  refine tr_get (ci := 6) hx hb ht hown hK hT hP k_t (by decide) i_X6 rfl 0 (by decide) wd_479 rfl dX6_seatAllBy_1 (fun v hv hf_1 => ?_)
  obtain ⟨q_2, rfl, hq_2⟩ := hv
  refine lv_aload_n hx hb dX6_seatAllBy_4 rfl (lv_at hl 2 rfl) ?_
  refine gt_callV (wr := []) (va_runV (As := [.ref tm]) (rest := []) ⟨hx, hb, hml, hown, ht⟩ (d_S_open l G Γ s.heap.size wt hT q_2 tm hq_2 k_tm) (cwV 1 ht (ts_gV wd_1171 wd_494 wd_495 wd_125 wd_496) rfl rfl rfl (by decide +kernel) ⟨Nat.le_of_ble_eq_true rfl, Nat.le_of_ble_eq_true rfl⟩) (gt_preW (ci := 7) hK hT (tw_right hP) (tw_rightD hD) hq_2 (by decide) rfl) rfl rfl hl.1 rfl (lv_room (Nat.le_of_ble_eq_true rfl)) dX6_seatAllBy_5 ⟨Nat.le_of_ble_eq_true rfl, Nat.le_of_ble_eq_true rfl⟩) hP hD hS hA (fun wt H locs hw hP hD hS => ?_)
  obtain ⟨hT, hkp⟩ := hw
  have hW := hW.call (show ∀ x ∈ [709], x ∈ [709] by decide) hkp
  refine lv_iconst (v := 0) hx hb dX6_seatAllBy_8 (by decide +kernel) ?_
  refine lv_istore_n (lv' := [(3, .int 0), (0, .ref t), (1, .int w), (2, .ref tm)]) hx hb dX6_seatAllBy_9 rfl hl (by decide) rfl (fun ls hl => ?_)
  refine tl_loopE (Γ := Γ) (nL := 4) (fun (zz_ : Int32) => match zz_ with | x10_0 => 0 ≤ x10_0.toInt ∧ x10_0.toInt ≤ 5) (fun (zz_ : Int32) => match zz_ with | x10_0 => (5 - x10_0.toInt).toNat) (fun (zz_ : Int32) => match zz_ with | x10_0 => [(3, .int x10_0), (0, .ref t), (1, .int w), (2, .ref tm)]) (fun (zz_ : Int32) => match zz_ with | x10_0 => []) (fun (zz_ : Int32) (w : va_W) => match zz_ with | x10_0 => tk_kp [709] w0 w) (fun zz_ hI H locs wt ls hT hW hP hD hS hl ih10 => ?_) 0 (show 0 ≤ (0 : Int32).toInt ∧ (0 : Int32).toInt ≤ 5 from ⟨by omega, by omega⟩) _ _ wt ls hT hW hP hD hS hl
  obtain ⟨x10_0, rfl⟩ : ∃ z2, z2 = zz_ := ⟨_, rfl⟩
  have hW : tk_kp [709] w0 wt := hW
  have hI : 0 ≤ x10_0.toInt ∧ x10_0.toInt ≤ 5 := hI
  obtain ⟨j10_0, j10_1⟩ := hI
  have hl : lv_has ls 4 [(3, .int x10_0), (0, .ref t), (1, .int w), (2, .ref tm)] := hl
  have hP : va_P (gg_D G) classes ([] ++ wt) H := hP
  have hD : va_D A ([] ++ wt) := hD
  refine lv_iload_n hx hb dX6_seatAllBy_10 rfl (lv_at hl 0 rfl) ?_
  refine lv_aload_n hx hb dX6_seatAllBy_11 rfl (lv_at hl 3 rfl) ?_
  refine tr_get (ci := 9) hx hb ht hown hK hT hP k_tm (by decide) i_X9 rfl 1 (by decide) wd_184 rfl dX6_seatAllBy_12 (fun v hv hf_3 => ?_)
  obtain ⟨n_4, rfl, lo_n_4, hi_n_4⟩ := hv
  refine lv_icmp_ge (tgt := 34) hx hb dX6_seatAllBy_15 (by decide) (fun c_5 => ?_) (fun c_5 => ?_)
  · rw [Int32.le_iff_toInt_le] at c_5
    refine lv_aload_n hx hb dX6_seatAllBy_34 rfl (lv_at hl 3 rfl) ?_
    refine tr_getK (ci := 9) hx hb ht hown hK hP i_X9 rfl 1 (by decide) wd_184 rfl hf_3 dX6_seatAllBy_35 ?_
    refine lv_if_le (tgt := 50) hx hb dX6_seatAllBy_38 (by decide) (fun c_6 => ?_) (fun c_6 => ?_)
    · rw [Int32.le_iff_toInt_le] at c_6
      have hP9 := tw_right hP
      have hD9 := tw_rightD hD
      exact W.vret hx hb hr (gq_endV wt ⟨hT, hW⟩ hP9 hD9 hS) hS.2.2 dX6_seatAllBy_50
    · rw [Int32.le_iff_toInt_le] at c_6
      refine lv_aload_n hx hb dX6_seatAllBy_41 rfl (lv_at hl 1 rfl) ?_
      refine tr_get (ci := 6) hx hb ht hown hK hT hP k_t (by decide) i_X6 rfl 0 (by decide) wd_479 rfl dX6_seatAllBy_42 (fun v hv hf_7 => ?_)
      obtain ⟨q_8, rfl, hq_8⟩ := hv
      refine lv_iload_n hx hb dX6_seatAllBy_45 rfl (lv_at hl 2 rfl) ?_
      refine gt_callI (wr := []) (va_runV (As := [.int w]) (rest := []) ⟨hx, hb, hml, hown, ht⟩ (d_begin l G Γ H.size wt hT q_8 w hq_8 (by omega) (by omega)) (cwV 1 ht (ts_gV wd_1172 wd_944 wd_945 wd_125 wd_946) rfl rfl rfl (by decide +kernel) ⟨Nat.le_of_ble_eq_true rfl, Nat.le_of_ble_eq_true rfl⟩) (gt_preW (ci := 7) hK hT (tw_right hP) (tw_rightD hD) hq_8 (by decide) rfl) rfl rfl hl.1 rfl (lv_room (Nat.le_of_ble_eq_true rfl)) dX6_seatAllBy_46 ⟨Nat.le_of_ble_eq_true rfl, Nat.le_of_ble_eq_true rfl⟩) hP hD hS hA (fun r_9 wt H locs hw hP hD hS => ?_)
      obtain ⟨hT, hkp⟩ := hw
      have hW := hW.call (show ∀ x ∈ [], x ∈ [709] by decide) hkp
      have hf_3 := hkp _ _ _ _ (by decide) (by decide) hf_3
      refine lv_pop hx hb dX6_seatAllBy_49 rfl ?_
      have hP9 := tw_right hP
      have hD9 := tw_rightD hD
      exact W.vret hx hb hr (gq_endV wt ⟨hT, hW⟩ hP9 hD9 hS) hS.2.2 dX6_seatAllBy_50
  · rw [Int32.le_iff_toInt_le] at c_5
    refine lv_aload_n hx hb dX6_seatAllBy_18 rfl (lv_at hl 1 rfl) ?_
    refine tr_get (ci := 6) hx hb ht hown hK hT hP k_t (by decide) i_X6 rfl 0 (by decide) wd_479 rfl dX6_seatAllBy_19 (fun v hv hf_10 => ?_)
    obtain ⟨q_11, rfl, hq_11⟩ := hv
    refine tr_get (ci := 7) hx hb ht hown hK hT hP hq_11 (by decide) i_X7 rfl 2 (by decide) wd_240 rfl dX6_seatAllBy_22 (fun v hv hf_12 => ?_)
    obtain ⟨q_13, rfl, hq_13⟩ := hv
    refine lv_iload_n hx hb dX6_seatAllBy_25 rfl (lv_at hl 0 rfl) ?_
    refine lv_iload_n hx hb dX6_seatAllBy_26 rfl (lv_at hl 2 rfl) ?_
    refine tr_iast hx hb hK hT hP hD hS 20 hq_13 (by decide) (by decide) (show vp_in _ (tk_len 20) from ia_in (n := 5) (by omega) (by omega)) (show tk_e 20 _ from trivial) dX6_seatAllBy_27 (fun H locs wt hT hfl hP hD hS => ?_)
    have hW := hW.arr hfl
    have hf_3 := hfl _ _ _ _ hf_3
    obtain ⟨t_14, et_14⟩ : ∃ zz_ : Int32, x10_0 + Int32.ofInt (1) = zz_ := ⟨_, rfl⟩
    have ft_14 : t_14.toInt = x10_0.toInt + (1 : Int32).toInt := ia_add (y := 1) et_14 (by omega) (by omega)
    refine lv_iinc (v := t_14) (lv' := [(3, .int t_14), (0, .ref t), (1, .int w), (2, .ref tm)]) hx hb dX6_seatAllBy_28 hl (k := 0) rfl et_14 (by decide) rfl (fun ls hl => ?_)
    refine lv_goto (tgt := 10) hx hb dX6_seatAllBy_31 (by decide) ?_
    exact ih10 t_14 (show 0 ≤ t_14.toInt ∧ t_14.toInt ≤ 5 from ⟨by omega, by omega⟩) (show (5 - t_14.toInt).toNat < (5 - x10_0.toInt).toNat by omega) H locs wt ls hT hW hP hD hS (lv_sub hl [0, 1, 2, 3] rfl)
set_option maxHeartbeats 4000000 in
set_option maxRecDepth 100000 in
theorem d_findRules (l : Launch) (G : gg_T) (Γ : Nat → Nat) (sz : Nat) (wt : va_W) (hT : tk_ty G Γ wt) (t : Nat) (ck : Nat) (tm : Nat) (rs : Nat) (n : Int32) (lg : Nat) (k_t : Γ t = 7) (k_ck : Γ ck = 1) (k_tm : Γ tm = 10) (k_rs : Γ rs = 41) (lo_n : 0 ≤ n.toInt) (hi_n : n.toInt ≤ 6) (k_lg : Γ lg = 3) : Met l yX6_findRules (ts_L yX6_findRules cX6_findRules 10 none) ({ frames := 6, cells := 0, slots := 0, locals := 146 }) (gc_P G wt sz [.ref t, .ref ck, .ref tm, .ref rs, .int n, .ref lg]) (gc_V G (va_A wt sz) (fun (u : va_W) => tk_ty G Γ u ∧ tk_kp [0, 1, 2, 603, 709] wt u) (fun u => u)) 0 0 (va_A wt sz) := by
  refine Met.ofW (cc := cX6_findRules) (maxL := 10) (ret := none) (by decide) rfl ?_
  intro p e s m args below meth c s₁ B hml hv
  obtain ⟨rfl, hsz, hP, hK, hD0⟩ := hv
  have hx := B.exec
  have hb := B.bytes
  have hr := B.returns
  have ht := ts_ht (atoms_spec (ws := ts_L yX6_findRules cX6_findRules 10 none) B.pre)
  have hown : s.vm.findClass RX6 = some m.cls := findClass_of_methodNamed B.named
  have hlocks := B.notSynchronized
  subst hsz
  have hD := hD0.self (sz := s.heap.size)
  generalize hAe : va_A wt s.heap.size = A at hD ⊢
  have hA : ∀ q : Nat, s.heap.size ≤ q → A q := fun q h => by rw [← hAe]; exact Or.inr h
  clear hAe hD0
  have hS : va_S A s.heap s.heap [] := va_S.rf
  obtain ⟨w0, hw0⟩ : ∃ z, z = wt := ⟨_, rfl⟩
  have hW : tk_kp [0, 1, 2, 603, 709] w0 wt := by rw [hw0]; exact tk_kp.rf
  rw [← hw0]
  clear hw0
  have hP : va_P (gg_D G) classes ([] ++ wt) s.heap := hP
  have hD : va_D A ([] ++ wt) := hD
  have hl := lv_entry ([.ref t, .ref ck, .ref tm, .ref rs, .int n, .ref lg]) (n := 10) (Nat.le_of_ble_eq_true rfl)
  rw [lg_entry_eq]
  generalize (lg_sl ([.ref t, .ref ck, .ref tm, .ref rs, .int n, .ref lg]) ++ List.replicate (10 - (lg_sl ([.ref t, .ref ck, .ref tm, .ref rs, .int n, .ref lg])).length) Slot.unset).toArray = ls at hl ⊢
  have hl : lv_has ls 10 [(0, .ref t), (1, .ref ck), (2, .ref tm), (3, .ref rs), (4, .int n), (5, .ref lg)] := hl
  have l0 : (0 : Int32).toInt = 0 := by decide +kernel
  have l1 : (1 : Int32).toInt = 1 := by decide +kernel
  have l3 : (3 : Int32).toInt = 3 := by decide +kernel
  have l7 : (7 : Int32).toInt = 7 := by decide +kernel
  refine lv_aload_n hx hb dX6_findRules_0 rfl (lv_at hl 0 rfl) ?_
  refine lv_iconst (v := 0) hx hb dX6_findRules_1 (by decide +kernel) ?_
  refine tr_put (ci := 6) hx hb ht hown hK hT hP hD hS k_t (by decide) i_X6 tyX6 tyX6_ok nmX6 rfl 3 (by decide) wd_482 rfl rfl rfl rfl ⟨_, rfl⟩ dX6_findRules_2 (fun H locs wt hT hfl hfn hP hD hS => ?_)
  have hW := hW.obj (show 6 * 100 + 3 ∈ [0, 1, 2, 603, 709] by decide) hfl
  have hf_1 := hfn
  refine lv_iconst (v := 0) hx hb dX6_findRules_5 (by decide +kernel) ?_
  refine lv_istore (lv' := [(6, .int 0), (0, .ref t), (1, .ref ck), (2, .ref tm), (3, .ref rs), (4, .int n), (5, .ref lg)]) hx hb dX6_findRules_6 hl (by decide) rfl (fun ls hl => ?_)
  refine tl_loopE (Γ := Γ) (nL := 10) (fun (zz_ : Int32) => match zz_ with | x8_0 => 0 ≤ x8_0.toInt ∧ x8_0.toInt ≤ 7) (fun (zz_ : Int32) => match zz_ with | x8_0 => (7 - x8_0.toInt).toNat) (fun (zz_ : Int32) => match zz_ with | x8_0 => [(6, .int x8_0), (0, .ref t), (1, .ref ck), (2, .ref tm), (3, .ref rs), (4, .int n), (5, .ref lg)]) (fun (zz_ : Int32) => match zz_ with | x8_0 => []) (fun (zz_ : Int32) (w : va_W) => match zz_ with | x8_0 => tk_kp [0, 1, 2, 603, 709] w0 w) (fun zz_ hI H locs wt ls hT hW hP hD hS hl ih8 => ?_) 0 (show 0 ≤ (0 : Int32).toInt ∧ (0 : Int32).toInt ≤ 7 from ⟨by omega, by omega⟩) _ _ wt ls hT hW hP hD hS hl
  obtain ⟨x8_0, rfl⟩ : ∃ z2, z2 = zz_ := ⟨_, rfl⟩
  have hW : tk_kp [0, 1, 2, 603, 709] w0 wt := hW
  have hI : 0 ≤ x8_0.toInt ∧ x8_0.toInt ≤ 7 := hI
  obtain ⟨j8_0, j8_1⟩ := hI
  have hl : lv_has ls 10 [(6, .int x8_0), (0, .ref t), (1, .ref ck), (2, .ref tm), (3, .ref rs), (4, .int n), (5, .ref lg)] := hl
  have hP : va_P (gg_D G) classes ([] ++ wt) H := hP
  have hD : va_D A ([] ++ wt) := hD
  refine lv_iload hx hb dX6_findRules_8 (lv_at hl 0 rfl) ?_
  refine lv_iload hx hb dX6_findRules_10 (lv_at hl 5 rfl) ?_
  refine lv_icmp_gt (tgt := 187) hx hb dX6_findRules_12 (by decide) (fun c_2 => ?_) (fun c_2 => ?_)
  · rw [Int32.lt_iff_toInt_lt] at c_2
    have hP9 := tw_right hP
    have hD9 := tw_rightD hD
    exact W.vret hx hb hr (gq_endV wt ⟨hT, hW⟩ hP9 hD9 hS) hS.2.2 dX6_findRules_187
  · rw [Int32.lt_iff_toInt_lt] at c_2
    refine lv_iload hx hb dX6_findRules_15 (lv_at hl 0 rfl) ?_
    refine lv_bipush (v := 7) hx hb dX6_findRules_17 (by decide +kernel) ?_
    refine lv_icmp_ge (tgt := 187) hx hb dX6_findRules_19 (by decide) (fun c0 => False.elim (by rw [Int32.le_iff_toInt_le] at c0; omega)) (fun _ => ?_)
    refine lv_aload_n hx hb dX6_findRules_22 rfl (lv_at hl 2 rfl) ?_
    refine lv_aload_n hx hb dX6_findRules_23 rfl (lv_at hl 3 rfl) ?_
    refine lv_iload hx hb dX6_findRules_24 (lv_at hl 0 rfl) ?_
    refine lv_if_ne (tgt := 33) hx hb dX6_findRules_26 (by decide) (fun c_3 => ?_) (fun c_3 => ?_)
    · rw [← Int32.toInt_inj] at c_3
      refine lv_aload_n hx hb dX6_findRules_33 rfl (lv_at hl 4 rfl) ?_
      refine lv_iload hx hb dX6_findRules_34 (lv_at hl 0 rfl) ?_
      refine lv_iconst (v := 1) hx hb dX6_findRules_36 (by decide +kernel) ?_
      obtain ⟨t_4, et_4⟩ : ∃ zz_ : Int32, x8_0 - 1 = zz_ := ⟨_, rfl⟩
      refine gq_isub hx hb t_4 et_4 dX6_findRules_37 ?_
      have ft_4 := ia_sub et_4 (by omega) (by omega)
      refine tr_aald hx hb hK hT hP 41 k_rs (by decide) rfl (show vp_in _ (tk_len 41) from ia_in (n := 6) (by omega) (by omega)) dX6_findRules_38 (fun q_5 hq_5 => ?_)
      have hq_5 : Γ q_5 = 5 := hq_5
      refine gt_callV (wr := []) (va_runV (As := [.ref tm, .ref q_5]) (rest := []) ⟨hx, hb, hml, hown, ht⟩ (d_serve1 l G Γ H.size wt hT ck tm q_5 k_ck k_tm hq_5) (cwV 2 ht (ts_gV wd_1166 wd_873 wd_874 wd_130 wd_875) rfl rfl rfl (by decide +kernel) ⟨Nat.le_of_ble_eq_true rfl, Nat.le_of_ble_eq_true rfl⟩) (gt_preW (ci := 0) hK hT (tw_right hP) (tw_rightD hD) k_ck (by decide) rfl) rfl rfl hl.1 rfl (lv_room (Nat.le_of_ble_eq_true rfl)) dX6_findRules_39 ⟨Nat.le_of_ble_eq_true rfl, Nat.le_of_ble_eq_true rfl⟩) hP hD hS hA (fun wt H locs hw hP hD hS => ?_)
      obtain ⟨hT, hkp⟩ := hw
      have hW := hW.call (show ∀ x ∈ [0, 1, 2], x ∈ [0, 1, 2, 603, 709] by decide) hkp
      refine lv_iconst (v := 1) hx hb dX6_findRules_42 (by decide +kernel) ?_
      refine lv_istore (lv' := [(7, .int 1), (6, .int x8_0), (0, .ref t), (1, .ref ck), (2, .ref tm), (3, .ref rs), (4, .int n), (5, .ref lg)]) hx hb dX6_findRules_43 hl (by decide) rfl (fun ls hl => ?_)
      refine lv_iconst (v := 0) hx hb dX6_findRules_45 (by decide +kernel) ?_
      refine lv_istore (lv' := [(8, .int 0), (7, .int 1), (6, .int x8_0), (0, .ref t), (1, .ref ck), (2, .ref tm), (3, .ref rs), (4, .int n), (5, .ref lg)]) hx hb dX6_findRules_46 hl (by decide) rfl (fun ls hl => ?_)
      refine tl_loopE (Γ := Γ) (nL := 10) (fun (zz_ : Int32 × Int32) => match zz_ with | (x48_0, x48_1) => 0 ≤ x48_0.toInt ∧ x48_0.toInt ≤ 3 ∧ 0 ≤ x48_1.toInt ∧ x48_1.toInt ≤ 1) (fun (zz_ : Int32 × Int32) => match zz_ with | (x48_0, x48_1) => (3 - x48_0.toInt).toNat) (fun (zz_ : Int32 × Int32) => match zz_ with | (x48_0, x48_1) => [(8, .int x48_0), (7, .int x48_1), (6, .int x8_0), (0, .ref t), (1, .ref ck), (2, .ref tm), (3, .ref rs), (4, .int n), (5, .ref lg)]) (fun (zz_ : Int32 × Int32) => match zz_ with | (x48_0, x48_1) => []) (fun (zz_ : Int32 × Int32) (w : va_W) => match zz_ with | (x48_0, x48_1) => tk_kp [0, 1, 2, 603, 709] w0 w) (fun zz_ hI H locs wt ls hT hW hP hD hS hl ih48 => ?_) (0, 1) (show 0 ≤ (0 : Int32).toInt ∧ (0 : Int32).toInt ≤ 3 ∧ 0 ≤ (1 : Int32).toInt ∧ (1 : Int32).toInt ≤ 1 from ⟨by omega, by omega, by omega, by omega⟩) _ _ wt ls hT hW hP hD hS hl
      obtain ⟨x48_0, x48_1⟩ := zz_
      have hW : tk_kp [0, 1, 2, 603, 709] w0 wt := hW
      have hI : 0 ≤ x48_0.toInt ∧ x48_0.toInt ≤ 3 ∧ 0 ≤ x48_1.toInt ∧ x48_1.toInt ≤ 1 := hI
      obtain ⟨j48_0, j48_1, j48_2, j48_3⟩ := hI
      have hl : lv_has ls 10 [(8, .int x48_0), (7, .int x48_1), (6, .int x8_0), (0, .ref t), (1, .ref ck), (2, .ref tm), (3, .ref rs), (4, .int n), (5, .ref lg)] := hl
      have hP : va_P (gg_D G) classes ([] ++ wt) H := hP
      have hD : va_D A ([] ++ wt) := hD
      refine lv_iload hx hb dX6_findRules_48 (lv_at hl 0 rfl) ?_
      refine lv_aload_n hx hb dX6_findRules_50 rfl (lv_at hl 5 rfl) ?_
      refine tr_get (ci := 9) hx hb ht hown hK hT hP k_tm (by decide) i_X9 rfl 2 (by decide) wd_189 rfl dX6_findRules_51 (fun v hv hf_6 => ?_)
      obtain ⟨n_7, rfl, lo_n_7, hi_n_7⟩ := hv
      refine lv_icmp_ge (tgt := 159) hx hb dX6_findRules_54 (by decide) (fun c_8 => ?_) (fun c_8 => ?_)
      · rw [Int32.le_iff_toInt_le] at c_8
        refine lv_aload_n hx hb dX6_findRules_159 rfl (lv_at hl 3 rfl) ?_
        refine lv_dup hx hb dX6_findRules_160 rfl ?_
        refine tr_get (ci := 6) hx hb ht hown hK hT hP k_t (by decide) i_X6 rfl 3 (by decide) wd_482 rfl dX6_findRules_161 (fun v hv hf_9 => ?_)
        obtain ⟨n_10, rfl⟩ := hv
        refine lv_iload hx hb dX6_findRules_164 (lv_at hl 1 rfl) ?_
        refine lv_if_eq (tgt := 176) hx hb dX6_findRules_166 (by decide) (fun c_11 => ?_) (fun c_11 => ?_)
        · rw [← Int32.toInt_inj] at c_11
          refine lv_iconst (v := 0) hx hb dX6_findRules_176 (by decide +kernel) ?_
          obtain ⟨t_12, et_12⟩ : ∃ zz_ : Int32, n_10 ||| 0 = zz_ := ⟨_, rfl⟩
          refine gq_ior hx hb t_12 et_12 dX6_findRules_177 ?_
          refine tr_put (ci := 6) hx hb ht hown hK hT hP hD hS k_t (by decide) i_X6 tyX6 tyX6_ok nmX6 rfl 3 (by decide) wd_482 rfl rfl rfl rfl ⟨_, rfl⟩ dX6_findRules_178 (fun H locs wt hT hfl hfn hP hD hS => ?_)
          have hW := hW.obj (show 6 * 100 + 3 ∈ [0, 1, 2, 603, 709] by decide) hfl
          have hf_6 := hfl _ _ _ _ (Or.inl (by decide)) hf_6
          have hf_13 := hfn
          obtain ⟨t_14, et_14⟩ : ∃ zz_ : Int32, x8_0 + Int32.ofInt (1) = zz_ := ⟨_, rfl⟩
          have ft_14 : t_14.toInt = x8_0.toInt + (1 : Int32).toInt := ia_add (y := 1) et_14 (by omega) (by omega)
          refine lv_iinc (v := t_14) (lv' := [(6, .int t_14), (8, .int x48_0), (7, .int x48_1), (0, .ref t), (1, .ref ck), (2, .ref tm), (3, .ref rs), (4, .int n), (5, .ref lg)]) hx hb dX6_findRules_181 hl (k := 2) rfl et_14 (by decide) rfl (fun ls hl => ?_)
          refine lv_goto (tgt := 8) hx hb dX6_findRules_184 (by decide) ?_
          exact ih8 t_14 (show 0 ≤ t_14.toInt ∧ t_14.toInt ≤ 7 from ⟨by omega, by omega⟩) (show (7 - t_14.toInt).toNat < (7 - x8_0.toInt).toNat by omega) H locs wt ls hT hW hP hD hS (lv_sub hl [0, 3, 4, 5, 6, 7, 8] rfl)
        · rw [← Int32.toInt_inj] at c_11
          refine lv_iconst (v := 1) hx hb dX6_findRules_169 (by decide +kernel) ?_
          refine lv_iload hx hb dX6_findRules_170 (lv_at hl 2 rfl) ?_
          obtain ⟨t_15, et_15⟩ : ∃ zz_ : Int32, 1 <<< (x8_0 &&& 31) = zz_ := ⟨_, rfl⟩
          refine gq_ishl hx hb t_15 et_15 dX6_findRules_172 ?_
          refine lv_goto (tgt := 177) hx hb dX6_findRules_173 (by decide) ?_
          obtain ⟨t_16, et_16⟩ : ∃ zz_ : Int32, n_10 ||| t_15 = zz_ := ⟨_, rfl⟩
          refine gq_ior hx hb t_16 et_16 dX6_findRules_177 ?_
          refine tr_put (ci := 6) hx hb ht hown hK hT hP hD hS k_t (by decide) i_X6 tyX6 tyX6_ok nmX6 rfl 3 (by decide) wd_482 rfl rfl rfl rfl ⟨_, rfl⟩ dX6_findRules_178 (fun H locs wt hT hfl hfn hP hD hS => ?_)
          have hW := hW.obj (show 6 * 100 + 3 ∈ [0, 1, 2, 603, 709] by decide) hfl
          have hf_6 := hfl _ _ _ _ (Or.inl (by decide)) hf_6
          have hf_17 := hfn
          obtain ⟨t_18, et_18⟩ : ∃ zz_ : Int32, x8_0 + Int32.ofInt (1) = zz_ := ⟨_, rfl⟩
          have ft_18 : t_18.toInt = x8_0.toInt + (1 : Int32).toInt := ia_add (y := 1) et_18 (by omega) (by omega)
          refine lv_iinc (v := t_18) (lv' := [(6, .int t_18), (8, .int x48_0), (7, .int x48_1), (0, .ref t), (1, .ref ck), (2, .ref tm), (3, .ref rs), (4, .int n), (5, .ref lg)]) hx hb dX6_findRules_181 hl (k := 2) rfl et_18 (by decide) rfl (fun ls hl => ?_)
          refine lv_goto (tgt := 8) hx hb dX6_findRules_184 (by decide) ?_
          exact ih8 t_18 (show 0 ≤ t_18.toInt ∧ t_18.toInt ≤ 7 from ⟨by omega, by omega⟩) (show (7 - t_18.toInt).toNat < (7 - x8_0.toInt).toNat by omega) H locs wt ls hT hW hP hD hS (lv_sub hl [0, 3, 4, 5, 6, 7, 8] rfl)
      · rw [Int32.le_iff_toInt_le] at c_8
        refine lv_iload hx hb dX6_findRules_57 (lv_at hl 2 rfl) ?_
        refine lv_iconst (v := 3) hx hb dX6_findRules_59 (by decide +kernel) ?_
        obtain ⟨t_19, et_19⟩ : ∃ zz_ : Int32, x8_0 * 3 = zz_ := ⟨_, rfl⟩
        refine gq_imul hx hb t_19 et_19 dX6_findRules_60 ?_
        have ft_19 := ia_mul et_19 (by rw [l3]; omega) (by rw [l3]; omega)
        rw [l3] at ft_19
        refine lv_iload hx hb dX6_findRules_61 (lv_at hl 0 rfl) ?_
        obtain ⟨t_20, et_20⟩ : ∃ zz_ : Int32, t_19 + x48_0 = zz_ := ⟨_, rfl⟩
        refine gq_iadd hx hb t_20 et_20 dX6_findRules_63 ?_
        have ft_20 := ia_add et_20 (by omega) (by omega)
        refine lv_istore (lv' := [(9, .int t_20), (8, .int x48_0), (7, .int x48_1), (6, .int x8_0), (0, .ref t), (1, .ref ck), (2, .ref tm), (3, .ref rs), (4, .int n), (5, .ref lg)]) hx hb dX6_findRules_64 hl (by decide) rfl (fun ls hl => ?_)
        refine lv_aload_n hx hb dX6_findRules_66 rfl (lv_at hl 4 rfl) ?_
        refine lv_iload hx hb dX6_findRules_67 (lv_at hl 1 rfl) ?_
        refine lv_aload_n hx hb dX6_findRules_69 rfl (lv_at hl 6 rfl) ?_
        refine gt_callV (wr := []) (va_runV (As := [.int x48_0, .ref tm]) (rest := []) ⟨hx, hb, hml, hown, ht⟩ (d_seatAllBy l G Γ H.size wt hT t x48_0 tm k_t (by omega) (by omega) k_tm) (cwV 2 ht (ts_gV wd_1167 wd_1169 wd_36 wd_133 wd_1170) rfl rfl rfl (by decide +kernel) ⟨Nat.le_of_ble_eq_true rfl, Nat.le_of_ble_eq_true rfl⟩) (gt_preW (ci := 6) hK hT (tw_right hP) (tw_rightD hD) k_t (by decide) rfl) rfl rfl hl.1 rfl (lv_room (Nat.le_of_ble_eq_true rfl)) dX6_findRules_70 ⟨Nat.le_of_ble_eq_true rfl, Nat.le_of_ble_eq_true rfl⟩) hP hD hS hA (fun wt H locs hw hP hD hS => ?_)
        obtain ⟨hT, hkp⟩ := hw
        have hW := hW.call (show ∀ x ∈ [709], x ∈ [0, 1, 2, 603, 709] by decide) hkp
        have hf_6 := hkp _ _ _ _ (by decide) (by decide) hf_6
        refine lv_aload_n hx hb dX6_findRules_73 rfl (lv_at hl 5 rfl) ?_
        refine lv_aload_n hx hb dX6_findRules_74 rfl (lv_at hl 4 rfl) ?_
        refine tr_get (ci := 6) hx hb ht hown hK hT hP k_t (by decide) i_X6 rfl 0 (by decide) wd_479 rfl dX6_findRules_75 (fun v hv hf_21 => ?_)
        obtain ⟨q_22, rfl, hq_22⟩ := hv
        refine lv_iload hx hb dX6_findRules_78 (lv_at hl 1 rfl) ?_
        refine gt_callV (wr := []) (va_runV (As := [.ref q_22, .int x48_0]) (rest := []) ⟨hx, hb, hml, hown, ht⟩ (d_passTillOver l G Γ H.size wt hT ck q_22 x48_0 k_ck hq_22 (by omega) (by omega)) (cwV 2 ht (ts_gV wd_1173 wd_1004 wd_1005 wd_130 wd_1006) rfl rfl rfl (by decide +kernel) ⟨Nat.le_of_ble_eq_true rfl, Nat.le_of_ble_eq_true rfl⟩) (gt_preW (ci := 0) hK hT (tw_right hP) (tw_rightD hD) k_ck (by decide) rfl) rfl rfl hl.1 rfl (lv_room (Nat.le_of_ble_eq_true rfl)) dX6_findRules_80 ⟨Nat.le_of_ble_eq_true rfl, Nat.le_of_ble_eq_true rfl⟩) hP hD hS hA (fun wt H locs hw hP hD hS => ?_)
        obtain ⟨hT, hkp⟩ := hw
        have hW := hW.call (show ∀ x ∈ [709], x ∈ [0, 1, 2, 603, 709] by decide) hkp
        have hf_6 := hkp _ _ _ _ (by decide) (by decide) hf_6
        refine lv_aload_n hx hb dX6_findRules_83 rfl (lv_at hl 4 rfl) ?_
        refine tr_get (ci := 6) hx hb ht hown hK hT hP k_t (by decide) i_X6 rfl 1 (by decide) wd_480 rfl dX6_findRules_84 (fun v hv hf_23 => ?_)
        obtain ⟨q_24, rfl, hq_24⟩ := hv
        refine lv_iload hx hb dX6_findRules_87 (lv_at hl 0 rfl) ?_
        refine lv_aload_n hx hb dX6_findRules_89 rfl (lv_at hl 4 rfl) ?_
        refine tr_get (ci := 6) hx hb ht hown hK hT hP k_t (by decide) i_X6 rfl 0 (by decide) wd_479 rfl dX6_findRules_90 (fun v hv hf_25 => ?_)
        obtain ⟨q_26, rfl, hq_26⟩ := hv
        refine tr_get (ci := 7) hx hb ht hown hK hT hP hq_26 (by decide) i_X7 rfl 6 (by decide) wd_255 rfl dX6_findRules_93 (fun v hv hf_27 => ?_)
        obtain ⟨q_28, rfl, hq_28⟩ := hv
        refine lv_iload hx hb dX6_findRules_96 (lv_at hl 1 rfl) ?_
        refine tr_iald hx hb hK hT hP 21 hq_28 (by decide) (by decide) (show vp_in _ (tk_len 21) from ia_in (n := 3) (by omega) (by omega)) dX6_findRules_98 (fun n_29 hn_29 => ?_)
        clear hn_29
        refine tr_iast hx hb hK hT hP hD hS 28 hq_24 (by decide) (by decide) (show vp_in _ (tk_len 28) from ia_in (n := 21) (by omega) (by omega)) (show tk_e 28 _ from trivial) dX6_findRules_99 (fun H locs wt hT hfl hP hD hS => ?_)
        have hW := hW.arr hfl
        have hf_6 := hfl _ _ _ _ hf_6
        refine lv_aload_n hx hb dX6_findRules_100 rfl (lv_at hl 4 rfl) ?_
        refine tr_get (ci := 6) hx hb ht hown hK hT hP k_t (by decide) i_X6 rfl 2 (by decide) wd_481 rfl dX6_findRules_101 (fun v hv hf_30 => ?_)
        obtain ⟨q_31, rfl, hq_31⟩ := hv
        refine lv_iload hx hb dX6_findRules_104 (lv_at hl 0 rfl) ?_
        refine lv_aload_n hx hb dX6_findRules_106 rfl (lv_at hl 4 rfl) ?_
        refine tr_get (ci := 6) hx hb ht hown hK hT hP k_t (by decide) i_X6 rfl 0 (by decide) wd_479 rfl dX6_findRules_107 (fun v hv hf_32 => ?_)
        obtain ⟨q_33, rfl, hq_33⟩ := hv
        refine tr_get (ci := 7) hx hb ht hown hK hT hP hq_33 (by decide) i_X7 rfl 7 (by decide) wd_259 rfl dX6_findRules_110 (fun v hv hf_34 => ?_)
        obtain ⟨q_35, rfl, hq_35⟩ := hv
        refine lv_iload hx hb dX6_findRules_113 (lv_at hl 1 rfl) ?_
        refine tr_iald hx hb hK hT hP 21 hq_35 (by decide) (by decide) (show vp_in _ (tk_len 21) from ia_in (n := 3) (by omega) (by omega)) dX6_findRules_115 (fun n_36 hn_36 => ?_)
        clear hn_36
        refine tr_iast hx hb hK hT hP hD hS 28 hq_31 (by decide) (by decide) (show vp_in _ (tk_len 28) from ia_in (n := 21) (by omega) (by omega)) (show tk_e 28 _ from trivial) dX6_findRules_116 (fun H locs wt hT hfl hP hD hS => ?_)
        have hW := hW.arr hfl
        have hf_6 := hfl _ _ _ _ hf_6
        refine lv_iload hx hb dX6_findRules_117 (lv_at hl 2 rfl) ?_
        refine lv_if_eq (tgt := 150) hx hb dX6_findRules_119 (by decide) (fun c_37 => ?_) (fun c_37 => ?_)
        · rw [← Int32.toInt_inj] at c_37
          refine lv_iconst (v := 0) hx hb dX6_findRules_150 (by decide +kernel) ?_
          refine lv_istore (lv' := [(7, .int 0), (9, .int t_20), (8, .int x48_0), (6, .int x8_0), (0, .ref t), (1, .ref ck), (2, .ref tm), (3, .ref rs), (4, .int n), (5, .ref lg)]) hx hb dX6_findRules_151 hl (by decide) rfl (fun ls hl => ?_)
          obtain ⟨t_38, et_38⟩ : ∃ zz_ : Int32, x48_0 + Int32.ofInt (1) = zz_ := ⟨_, rfl⟩
          have ft_38 : t_38.toInt = x48_0.toInt + (1 : Int32).toInt := ia_add (y := 1) et_38 (by omega) (by omega)
          refine lv_iinc (v := t_38) (lv' := [(8, .int t_38), (7, .int 0), (9, .int t_20), (6, .int x8_0), (0, .ref t), (1, .ref ck), (2, .ref tm), (3, .ref rs), (4, .int n), (5, .ref lg)]) hx hb dX6_findRules_153 hl (k := 2) rfl et_38 (by decide) rfl (fun ls hl => ?_)
          refine lv_goto (tgt := 48) hx hb dX6_findRules_156 (by decide) ?_
          exact ih48 (t_38, 0) (show 0 ≤ t_38.toInt ∧ t_38.toInt ≤ 3 ∧ 0 ≤ (0 : Int32).toInt ∧ (0 : Int32).toInt ≤ 1 from ⟨by omega, by omega, by omega, by omega⟩) (show (3 - t_38.toInt).toNat < (3 - x48_0.toInt).toNat by omega) H locs wt ls hT hW hP hD hS (lv_sub hl [0, 1, 3, 4, 5, 6, 7, 8, 9] rfl)
        · rw [← Int32.toInt_inj] at c_37
          refine lv_aload hx hb dX6_findRules_122 (lv_at hl 9 rfl) ?_
          refine lv_iload hx hb dX6_findRules_124 (lv_at hl 1 rfl) ?_
          refine lv_aload_n hx hb dX6_findRules_126 rfl (lv_at hl 4 rfl) ?_
          refine tr_get (ci := 6) hx hb ht hown hK hT hP k_t (by decide) i_X6 rfl 1 (by decide) wd_480 rfl dX6_findRules_127 (fun v hv hf_39 => ?_)
          obtain ⟨q_40, rfl, hq_40⟩ := hv
          refine lv_iload hx hb dX6_findRules_130 (lv_at hl 0 rfl) ?_
          refine tr_iald hx hb hK hT hP 28 hq_40 (by decide) (by decide) (show vp_in _ (tk_len 28) from ia_in (n := 21) (by omega) (by omega)) dX6_findRules_132 (fun n_41 hn_41 => ?_)
          clear hn_41
          refine lv_aload_n hx hb dX6_findRules_133 rfl (lv_at hl 4 rfl) ?_
          refine tr_get (ci := 6) hx hb ht hown hK hT hP k_t (by decide) i_X6 rfl 2 (by decide) wd_481 rfl dX6_findRules_134 (fun v hv hf_42 => ?_)
          obtain ⟨q_43, rfl, hq_43⟩ := hv
          refine lv_iload hx hb dX6_findRules_137 (lv_at hl 0 rfl) ?_
          refine tr_iald hx hb hK hT hP 28 hq_43 (by decide) (by decide) (show vp_in _ (tk_len 28) from ia_in (n := 21) (by omega) (by omega)) dX6_findRules_139 (fun n_44 hn_44 => ?_)
          clear hn_44
          refine gt_callI (wr := []) (va_runV (As := [.int x48_0, .int n_41, .int n_44]) (rest := []) ⟨hx, hb, hml, hown, ht⟩ (d_L_agree l G Γ H.size wt hT lg x48_0 n_41 n_44 k_lg) (cwV 3 ht (ts_gV wd_1174 wd_1175 wd_1176 wd_127 wd_1177) rfl rfl rfl (by decide +kernel) ⟨Nat.le_of_ble_eq_true rfl, Nat.le_of_ble_eq_true rfl⟩) (gt_preW (ci := 2) hK hT (tw_right hP) (tw_rightD hD) k_lg (by decide) rfl) rfl rfl hl.1 rfl (lv_room (Nat.le_of_ble_eq_true rfl)) dX6_findRules_140 ⟨Nat.le_of_ble_eq_true rfl, Nat.le_of_ble_eq_true rfl⟩) hP hD hS hA (fun r_45 wt H locs hw hP hD hS => ?_)
          obtain ⟨hT, hkp, lo_r_45, hi_r_45⟩ := hw
          have hW := hW.call (show ∀ x ∈ [], x ∈ [0, 1, 2, 603, 709] by decide) hkp
          have hf_6 := hkp _ _ _ _ (by decide) (by decide) hf_6
          refine lv_if_eq (tgt := 150) hx hb dX6_findRules_143 (by decide) (fun c_46 => ?_) (fun c_46 => ?_)
          · rw [← Int32.toInt_inj] at c_46
            refine lv_iconst (v := 0) hx hb dX6_findRules_150 (by decide +kernel) ?_
            refine lv_istore (lv' := [(7, .int 0), (9, .int t_20), (8, .int x48_0), (6, .int x8_0), (0, .ref t), (1, .ref ck), (2, .ref tm), (3, .ref rs), (4, .int n), (5, .ref lg)]) hx hb dX6_findRules_151 hl (by decide) rfl (fun ls hl => ?_)
            obtain ⟨t_47, et_47⟩ : ∃ zz_ : Int32, x48_0 + Int32.ofInt (1) = zz_ := ⟨_, rfl⟩
            have ft_47 : t_47.toInt = x48_0.toInt + (1 : Int32).toInt := ia_add (y := 1) et_47 (by omega) (by omega)
            refine lv_iinc (v := t_47) (lv' := [(8, .int t_47), (7, .int 0), (9, .int t_20), (6, .int x8_0), (0, .ref t), (1, .ref ck), (2, .ref tm), (3, .ref rs), (4, .int n), (5, .ref lg)]) hx hb dX6_findRules_153 hl (k := 2) rfl et_47 (by decide) rfl (fun ls hl => ?_)
            refine lv_goto (tgt := 48) hx hb dX6_findRules_156 (by decide) ?_
            exact ih48 (t_47, 0) (show 0 ≤ t_47.toInt ∧ t_47.toInt ≤ 3 ∧ 0 ≤ (0 : Int32).toInt ∧ (0 : Int32).toInt ≤ 1 from ⟨by omega, by omega, by omega, by omega⟩) (show (3 - t_47.toInt).toNat < (3 - x48_0.toInt).toNat by omega) H locs wt ls hT hW hP hD hS (lv_sub hl [0, 1, 3, 4, 5, 6, 7, 8, 9] rfl)
          · rw [← Int32.toInt_inj] at c_46
            refine lv_iconst (v := 1) hx hb dX6_findRules_146 (by decide +kernel) ?_
            refine lv_goto (tgt := 151) hx hb dX6_findRules_147 (by decide) ?_
            refine lv_istore (lv' := [(7, .int 1), (9, .int t_20), (8, .int x48_0), (6, .int x8_0), (0, .ref t), (1, .ref ck), (2, .ref tm), (3, .ref rs), (4, .int n), (5, .ref lg)]) hx hb dX6_findRules_151 hl (by decide) rfl (fun ls hl => ?_)
            obtain ⟨t_48, et_48⟩ : ∃ zz_ : Int32, x48_0 + Int32.ofInt (1) = zz_ := ⟨_, rfl⟩
            have ft_48 : t_48.toInt = x48_0.toInt + (1 : Int32).toInt := ia_add (y := 1) et_48 (by omega) (by omega)
            refine lv_iinc (v := t_48) (lv' := [(8, .int t_48), (7, .int 1), (9, .int t_20), (6, .int x8_0), (0, .ref t), (1, .ref ck), (2, .ref tm), (3, .ref rs), (4, .int n), (5, .ref lg)]) hx hb dX6_findRules_153 hl (k := 2) rfl et_48 (by decide) rfl (fun ls hl => ?_)
            refine lv_goto (tgt := 48) hx hb dX6_findRules_156 (by decide) ?_
            exact ih48 (t_48, 1) (show 0 ≤ t_48.toInt ∧ t_48.toInt ≤ 3 ∧ 0 ≤ (1 : Int32).toInt ∧ (1 : Int32).toInt ≤ 1 from ⟨by omega, by omega, by omega, by omega⟩) (show (3 - t_48.toInt).toNat < (3 - x48_0.toInt).toNat by omega) H locs wt ls hT hW hP hD hS (lv_sub hl [0, 1, 3, 4, 5, 6, 7, 8, 9] rfl)
    · rw [← Int32.toInt_inj] at c_3
      refine lv_null hx hb dX6_findRules_29 ?_
      refine lv_goto (tgt := 39) hx hb dX6_findRules_30 (by decide) ?_
      refine gt_callV (wr := []) (va_runV (As := [.ref tm, .null]) (rest := []) ⟨hx, hb, hml, hown, ht⟩ (d_serve0 l G Γ H.size wt hT ck tm k_ck k_tm) (cwV 2 ht (ts_gV wd_1166 wd_873 wd_874 wd_130 wd_875) rfl rfl rfl (by decide +kernel) ⟨Nat.le_of_ble_eq_true rfl, Nat.le_of_ble_eq_true rfl⟩) (gt_preW (ci := 0) hK hT (tw_right hP) (tw_rightD hD) k_ck (by decide) rfl) rfl rfl hl.1 rfl (lv_room (Nat.le_of_ble_eq_true rfl)) dX6_findRules_39 ⟨Nat.le_of_ble_eq_true rfl, Nat.le_of_ble_eq_true rfl⟩) hP hD hS hA (fun wt H locs hw hP hD hS => ?_)
      obtain ⟨hT, hkp⟩ := hw
      have hW := hW.call (show ∀ x ∈ [0, 1, 2], x ∈ [0, 1, 2, 603, 709] by decide) hkp
      refine lv_iconst (v := 1) hx hb dX6_findRules_42 (by decide +kernel) ?_
      refine lv_istore (lv' := [(7, .int 1), (6, .int x8_0), (0, .ref t), (1, .ref ck), (2, .ref tm), (3, .ref rs), (4, .int n), (5, .ref lg)]) hx hb dX6_findRules_43 hl (by decide) rfl (fun ls hl => ?_)
      refine lv_iconst (v := 0) hx hb dX6_findRules_45 (by decide +kernel) ?_
      refine lv_istore (lv' := [(8, .int 0), (7, .int 1), (6, .int x8_0), (0, .ref t), (1, .ref ck), (2, .ref tm), (3, .ref rs), (4, .int n), (5, .ref lg)]) hx hb dX6_findRules_46 hl (by decide) rfl (fun ls hl => ?_)
      refine tl_loopE (Γ := Γ) (nL := 10) (fun (zz_ : Int32 × Int32) => match zz_ with | (x48_0, x48_1) => 0 ≤ x48_0.toInt ∧ x48_0.toInt ≤ 3 ∧ 0 ≤ x48_1.toInt ∧ x48_1.toInt ≤ 1) (fun (zz_ : Int32 × Int32) => match zz_ with | (x48_0, x48_1) => (3 - x48_0.toInt).toNat) (fun (zz_ : Int32 × Int32) => match zz_ with | (x48_0, x48_1) => [(8, .int x48_0), (7, .int x48_1), (6, .int x8_0), (0, .ref t), (1, .ref ck), (2, .ref tm), (3, .ref rs), (4, .int n), (5, .ref lg)]) (fun (zz_ : Int32 × Int32) => match zz_ with | (x48_0, x48_1) => []) (fun (zz_ : Int32 × Int32) (w : va_W) => match zz_ with | (x48_0, x48_1) => tk_kp [0, 1, 2, 603, 709] w0 w) (fun zz_ hI H locs wt ls hT hW hP hD hS hl ih48 => ?_) (0, 1) (show 0 ≤ (0 : Int32).toInt ∧ (0 : Int32).toInt ≤ 3 ∧ 0 ≤ (1 : Int32).toInt ∧ (1 : Int32).toInt ≤ 1 from ⟨by omega, by omega, by omega, by omega⟩) _ _ wt ls hT hW hP hD hS hl
      obtain ⟨x48_0, x48_1⟩ := zz_
      have hW : tk_kp [0, 1, 2, 603, 709] w0 wt := hW
      have hI : 0 ≤ x48_0.toInt ∧ x48_0.toInt ≤ 3 ∧ 0 ≤ x48_1.toInt ∧ x48_1.toInt ≤ 1 := hI
      obtain ⟨j48_0, j48_1, j48_2, j48_3⟩ := hI
      have hl : lv_has ls 10 [(8, .int x48_0), (7, .int x48_1), (6, .int x8_0), (0, .ref t), (1, .ref ck), (2, .ref tm), (3, .ref rs), (4, .int n), (5, .ref lg)] := hl
      have hP : va_P (gg_D G) classes ([] ++ wt) H := hP
      have hD : va_D A ([] ++ wt) := hD
      refine lv_iload hx hb dX6_findRules_48 (lv_at hl 0 rfl) ?_
      refine lv_aload_n hx hb dX6_findRules_50 rfl (lv_at hl 5 rfl) ?_
      refine tr_get (ci := 9) hx hb ht hown hK hT hP k_tm (by decide) i_X9 rfl 2 (by decide) wd_189 rfl dX6_findRules_51 (fun v hv hf_49 => ?_)
      obtain ⟨n_50, rfl, lo_n_50, hi_n_50⟩ := hv
      refine lv_icmp_ge (tgt := 159) hx hb dX6_findRules_54 (by decide) (fun c_51 => ?_) (fun c_51 => ?_)
      · rw [Int32.le_iff_toInt_le] at c_51
        refine lv_aload_n hx hb dX6_findRules_159 rfl (lv_at hl 3 rfl) ?_
        refine lv_dup hx hb dX6_findRules_160 rfl ?_
        refine tr_get (ci := 6) hx hb ht hown hK hT hP k_t (by decide) i_X6 rfl 3 (by decide) wd_482 rfl dX6_findRules_161 (fun v hv hf_52 => ?_)
        obtain ⟨n_53, rfl⟩ := hv
        refine lv_iload hx hb dX6_findRules_164 (lv_at hl 1 rfl) ?_
        refine lv_if_eq (tgt := 176) hx hb dX6_findRules_166 (by decide) (fun c_54 => ?_) (fun c_54 => ?_)
        · rw [← Int32.toInt_inj] at c_54
          refine lv_iconst (v := 0) hx hb dX6_findRules_176 (by decide +kernel) ?_
          obtain ⟨t_55, et_55⟩ : ∃ zz_ : Int32, n_53 ||| 0 = zz_ := ⟨_, rfl⟩
          refine gq_ior hx hb t_55 et_55 dX6_findRules_177 ?_
          refine tr_put (ci := 6) hx hb ht hown hK hT hP hD hS k_t (by decide) i_X6 tyX6 tyX6_ok nmX6 rfl 3 (by decide) wd_482 rfl rfl rfl rfl ⟨_, rfl⟩ dX6_findRules_178 (fun H locs wt hT hfl hfn hP hD hS => ?_)
          have hW := hW.obj (show 6 * 100 + 3 ∈ [0, 1, 2, 603, 709] by decide) hfl
          have hf_49 := hfl _ _ _ _ (Or.inl (by decide)) hf_49
          have hf_56 := hfn
          obtain ⟨t_57, et_57⟩ : ∃ zz_ : Int32, x8_0 + Int32.ofInt (1) = zz_ := ⟨_, rfl⟩
          have ft_57 : t_57.toInt = x8_0.toInt + (1 : Int32).toInt := ia_add (y := 1) et_57 (by omega) (by omega)
          refine lv_iinc (v := t_57) (lv' := [(6, .int t_57), (8, .int x48_0), (7, .int x48_1), (0, .ref t), (1, .ref ck), (2, .ref tm), (3, .ref rs), (4, .int n), (5, .ref lg)]) hx hb dX6_findRules_181 hl (k := 2) rfl et_57 (by decide) rfl (fun ls hl => ?_)
          refine lv_goto (tgt := 8) hx hb dX6_findRules_184 (by decide) ?_
          exact ih8 t_57 (show 0 ≤ t_57.toInt ∧ t_57.toInt ≤ 7 from ⟨by omega, by omega⟩) (show (7 - t_57.toInt).toNat < (7 - x8_0.toInt).toNat by omega) H locs wt ls hT hW hP hD hS (lv_sub hl [0, 3, 4, 5, 6, 7, 8] rfl)
        · rw [← Int32.toInt_inj] at c_54
          refine lv_iconst (v := 1) hx hb dX6_findRules_169 (by decide +kernel) ?_
          refine lv_iload hx hb dX6_findRules_170 (lv_at hl 2 rfl) ?_
          obtain ⟨t_58, et_58⟩ : ∃ zz_ : Int32, 1 <<< (x8_0 &&& 31) = zz_ := ⟨_, rfl⟩
          refine gq_ishl hx hb t_58 et_58 dX6_findRules_172 ?_
          have ft_58 := ia_bit et_58 (by omega) (by omega)
          refine lv_goto (tgt := 177) hx hb dX6_findRules_173 (by decide) ?_
          obtain ⟨t_59, et_59⟩ : ∃ zz_ : Int32, n_53 ||| t_58 = zz_ := ⟨_, rfl⟩
          refine gq_ior hx hb t_59 et_59 dX6_findRules_177 ?_
          refine tr_put (ci := 6) hx hb ht hown hK hT hP hD hS k_t (by decide) i_X6 tyX6 tyX6_ok nmX6 rfl 3 (by decide) wd_482 rfl rfl rfl rfl ⟨_, rfl⟩ dX6_findRules_178 (fun H locs wt hT hfl hfn hP hD hS => ?_)
          have hW := hW.obj (show 6 * 100 + 3 ∈ [0, 1, 2, 603, 709] by decide) hfl
          have hf_49 := hfl _ _ _ _ (Or.inl (by decide)) hf_49
          have hf_60 := hfn
          obtain ⟨t_61, et_61⟩ : ∃ zz_ : Int32, x8_0 + Int32.ofInt (1) = zz_ := ⟨_, rfl⟩
          have ft_61 : t_61.toInt = x8_0.toInt + (1 : Int32).toInt := ia_add (y := 1) et_61 (by omega) (by omega)
          refine lv_iinc (v := t_61) (lv' := [(6, .int t_61), (8, .int x48_0), (7, .int x48_1), (0, .ref t), (1, .ref ck), (2, .ref tm), (3, .ref rs), (4, .int n), (5, .ref lg)]) hx hb dX6_findRules_181 hl (k := 2) rfl et_61 (by decide) rfl (fun ls hl => ?_)
          refine lv_goto (tgt := 8) hx hb dX6_findRules_184 (by decide) ?_
          exact ih8 t_61 (show 0 ≤ t_61.toInt ∧ t_61.toInt ≤ 7 from ⟨by omega, by omega⟩) (show (7 - t_61.toInt).toNat < (7 - x8_0.toInt).toNat by omega) H locs wt ls hT hW hP hD hS (lv_sub hl [0, 3, 4, 5, 6, 7, 8] rfl)
      · rw [Int32.le_iff_toInt_le] at c_51
        refine lv_iload hx hb dX6_findRules_57 (lv_at hl 2 rfl) ?_
        refine lv_iconst (v := 3) hx hb dX6_findRules_59 (by decide +kernel) ?_
        obtain ⟨t_62, et_62⟩ : ∃ zz_ : Int32, x8_0 * 3 = zz_ := ⟨_, rfl⟩
        refine gq_imul hx hb t_62 et_62 dX6_findRules_60 ?_
        have ft_62 := ia_mul et_62 (by rw [l3]; omega) (by rw [l3]; omega)
        rw [l3] at ft_62
        refine lv_iload hx hb dX6_findRules_61 (lv_at hl 0 rfl) ?_
        obtain ⟨t_63, et_63⟩ : ∃ zz_ : Int32, t_62 + x48_0 = zz_ := ⟨_, rfl⟩
        refine gq_iadd hx hb t_63 et_63 dX6_findRules_63 ?_
        have ft_63 := ia_add et_63 (by omega) (by omega)
        refine lv_istore (lv' := [(9, .int t_63), (8, .int x48_0), (7, .int x48_1), (6, .int x8_0), (0, .ref t), (1, .ref ck), (2, .ref tm), (3, .ref rs), (4, .int n), (5, .ref lg)]) hx hb dX6_findRules_64 hl (by decide) rfl (fun ls hl => ?_)
        refine lv_aload_n hx hb dX6_findRules_66 rfl (lv_at hl 4 rfl) ?_
        refine lv_iload hx hb dX6_findRules_67 (lv_at hl 1 rfl) ?_
        refine lv_aload_n hx hb dX6_findRules_69 rfl (lv_at hl 6 rfl) ?_
        refine gt_callV (wr := []) (va_runV (As := [.int x48_0, .ref tm]) (rest := []) ⟨hx, hb, hml, hown, ht⟩ (d_seatAllBy l G Γ H.size wt hT t x48_0 tm k_t (by omega) (by omega) k_tm) (cwV 2 ht (ts_gV wd_1167 wd_1169 wd_36 wd_133 wd_1170) rfl rfl rfl (by decide +kernel) ⟨Nat.le_of_ble_eq_true rfl, Nat.le_of_ble_eq_true rfl⟩) (gt_preW (ci := 6) hK hT (tw_right hP) (tw_rightD hD) k_t (by decide) rfl) rfl rfl hl.1 rfl (lv_room (Nat.le_of_ble_eq_true rfl)) dX6_findRules_70 ⟨Nat.le_of_ble_eq_true rfl, Nat.le_of_ble_eq_true rfl⟩) hP hD hS hA (fun wt H locs hw hP hD hS => ?_)
        obtain ⟨hT, hkp⟩ := hw
        have hW := hW.call (show ∀ x ∈ [709], x ∈ [0, 1, 2, 603, 709] by decide) hkp
        have hf_49 := hkp _ _ _ _ (by decide) (by decide) hf_49
        refine lv_aload_n hx hb dX6_findRules_73 rfl (lv_at hl 5 rfl) ?_
        refine lv_aload_n hx hb dX6_findRules_74 rfl (lv_at hl 4 rfl) ?_
        refine tr_get (ci := 6) hx hb ht hown hK hT hP k_t (by decide) i_X6 rfl 0 (by decide) wd_479 rfl dX6_findRules_75 (fun v hv hf_64 => ?_)
        obtain ⟨q_65, rfl, hq_65⟩ := hv
        refine lv_iload hx hb dX6_findRules_78 (lv_at hl 1 rfl) ?_
        refine gt_callV (wr := []) (va_runV (As := [.ref q_65, .int x48_0]) (rest := []) ⟨hx, hb, hml, hown, ht⟩ (d_passTillOver l G Γ H.size wt hT ck q_65 x48_0 k_ck hq_65 (by omega) (by omega)) (cwV 2 ht (ts_gV wd_1173 wd_1004 wd_1005 wd_130 wd_1006) rfl rfl rfl (by decide +kernel) ⟨Nat.le_of_ble_eq_true rfl, Nat.le_of_ble_eq_true rfl⟩) (gt_preW (ci := 0) hK hT (tw_right hP) (tw_rightD hD) k_ck (by decide) rfl) rfl rfl hl.1 rfl (lv_room (Nat.le_of_ble_eq_true rfl)) dX6_findRules_80 ⟨Nat.le_of_ble_eq_true rfl, Nat.le_of_ble_eq_true rfl⟩) hP hD hS hA (fun wt H locs hw hP hD hS => ?_)
        obtain ⟨hT, hkp⟩ := hw
        have hW := hW.call (show ∀ x ∈ [709], x ∈ [0, 1, 2, 603, 709] by decide) hkp
        have hf_49 := hkp _ _ _ _ (by decide) (by decide) hf_49
        refine lv_aload_n hx hb dX6_findRules_83 rfl (lv_at hl 4 rfl) ?_
        refine tr_get (ci := 6) hx hb ht hown hK hT hP k_t (by decide) i_X6 rfl 1 (by decide) wd_480 rfl dX6_findRules_84 (fun v hv hf_66 => ?_)
        obtain ⟨q_67, rfl, hq_67⟩ := hv
        refine lv_iload hx hb dX6_findRules_87 (lv_at hl 0 rfl) ?_
        refine lv_aload_n hx hb dX6_findRules_89 rfl (lv_at hl 4 rfl) ?_
        refine tr_get (ci := 6) hx hb ht hown hK hT hP k_t (by decide) i_X6 rfl 0 (by decide) wd_479 rfl dX6_findRules_90 (fun v hv hf_68 => ?_)
        obtain ⟨q_69, rfl, hq_69⟩ := hv
        refine tr_get (ci := 7) hx hb ht hown hK hT hP hq_69 (by decide) i_X7 rfl 6 (by decide) wd_255 rfl dX6_findRules_93 (fun v hv hf_70 => ?_)
        obtain ⟨q_71, rfl, hq_71⟩ := hv
        refine lv_iload hx hb dX6_findRules_96 (lv_at hl 1 rfl) ?_
        refine tr_iald hx hb hK hT hP 21 hq_71 (by decide) (by decide) (show vp_in _ (tk_len 21) from ia_in (n := 3) (by omega) (by omega)) dX6_findRules_98 (fun n_72 hn_72 => ?_)
        clear hn_72
        refine tr_iast hx hb hK hT hP hD hS 28 hq_67 (by decide) (by decide) (show vp_in _ (tk_len 28) from ia_in (n := 21) (by omega) (by omega)) (show tk_e 28 _ from trivial) dX6_findRules_99 (fun H locs wt hT hfl hP hD hS => ?_)
        have hW := hW.arr hfl
        have hf_49 := hfl _ _ _ _ hf_49
        refine lv_aload_n hx hb dX6_findRules_100 rfl (lv_at hl 4 rfl) ?_
        refine tr_get (ci := 6) hx hb ht hown hK hT hP k_t (by decide) i_X6 rfl 2 (by decide) wd_481 rfl dX6_findRules_101 (fun v hv hf_73 => ?_)
        obtain ⟨q_74, rfl, hq_74⟩ := hv
        refine lv_iload hx hb dX6_findRules_104 (lv_at hl 0 rfl) ?_
        refine lv_aload_n hx hb dX6_findRules_106 rfl (lv_at hl 4 rfl) ?_
        refine tr_get (ci := 6) hx hb ht hown hK hT hP k_t (by decide) i_X6 rfl 0 (by decide) wd_479 rfl dX6_findRules_107 (fun v hv hf_75 => ?_)
        obtain ⟨q_76, rfl, hq_76⟩ := hv
        refine tr_get (ci := 7) hx hb ht hown hK hT hP hq_76 (by decide) i_X7 rfl 7 (by decide) wd_259 rfl dX6_findRules_110 (fun v hv hf_77 => ?_)
        obtain ⟨q_78, rfl, hq_78⟩ := hv
        refine lv_iload hx hb dX6_findRules_113 (lv_at hl 1 rfl) ?_
        refine tr_iald hx hb hK hT hP 21 hq_78 (by decide) (by decide) (show vp_in _ (tk_len 21) from ia_in (n := 3) (by omega) (by omega)) dX6_findRules_115 (fun n_79 hn_79 => ?_)
        clear hn_79
        refine tr_iast hx hb hK hT hP hD hS 28 hq_74 (by decide) (by decide) (show vp_in _ (tk_len 28) from ia_in (n := 21) (by omega) (by omega)) (show tk_e 28 _ from trivial) dX6_findRules_116 (fun H locs wt hT hfl hP hD hS => ?_)
        have hW := hW.arr hfl
        have hf_49 := hfl _ _ _ _ hf_49
        refine lv_iload hx hb dX6_findRules_117 (lv_at hl 2 rfl) ?_
        refine lv_if_eq (tgt := 150) hx hb dX6_findRules_119 (by decide) (fun c_80 => ?_) (fun c_80 => ?_)
        · rw [← Int32.toInt_inj] at c_80
          refine lv_iconst (v := 0) hx hb dX6_findRules_150 (by decide +kernel) ?_
          refine lv_istore (lv' := [(7, .int 0), (9, .int t_63), (8, .int x48_0), (6, .int x8_0), (0, .ref t), (1, .ref ck), (2, .ref tm), (3, .ref rs), (4, .int n), (5, .ref lg)]) hx hb dX6_findRules_151 hl (by decide) rfl (fun ls hl => ?_)
          obtain ⟨t_81, et_81⟩ : ∃ zz_ : Int32, x48_0 + Int32.ofInt (1) = zz_ := ⟨_, rfl⟩
          have ft_81 : t_81.toInt = x48_0.toInt + (1 : Int32).toInt := ia_add (y := 1) et_81 (by omega) (by omega)
          refine lv_iinc (v := t_81) (lv' := [(8, .int t_81), (7, .int 0), (9, .int t_63), (6, .int x8_0), (0, .ref t), (1, .ref ck), (2, .ref tm), (3, .ref rs), (4, .int n), (5, .ref lg)]) hx hb dX6_findRules_153 hl (k := 2) rfl et_81 (by decide) rfl (fun ls hl => ?_)
          refine lv_goto (tgt := 48) hx hb dX6_findRules_156 (by decide) ?_
          exact ih48 (t_81, 0) (show 0 ≤ t_81.toInt ∧ t_81.toInt ≤ 3 ∧ 0 ≤ (0 : Int32).toInt ∧ (0 : Int32).toInt ≤ 1 from ⟨by omega, by omega, by omega, by omega⟩) (show (3 - t_81.toInt).toNat < (3 - x48_0.toInt).toNat by omega) H locs wt ls hT hW hP hD hS (lv_sub hl [0, 1, 3, 4, 5, 6, 7, 8, 9] rfl)
        · rw [← Int32.toInt_inj] at c_80
          refine lv_aload hx hb dX6_findRules_122 (lv_at hl 9 rfl) ?_
          refine lv_iload hx hb dX6_findRules_124 (lv_at hl 1 rfl) ?_
          refine lv_aload_n hx hb dX6_findRules_126 rfl (lv_at hl 4 rfl) ?_
          refine tr_get (ci := 6) hx hb ht hown hK hT hP k_t (by decide) i_X6 rfl 1 (by decide) wd_480 rfl dX6_findRules_127 (fun v hv hf_82 => ?_)
          obtain ⟨q_83, rfl, hq_83⟩ := hv
          refine lv_iload hx hb dX6_findRules_130 (lv_at hl 0 rfl) ?_
          refine tr_iald hx hb hK hT hP 28 hq_83 (by decide) (by decide) (show vp_in _ (tk_len 28) from ia_in (n := 21) (by omega) (by omega)) dX6_findRules_132 (fun n_84 hn_84 => ?_)
          clear hn_84
          refine lv_aload_n hx hb dX6_findRules_133 rfl (lv_at hl 4 rfl) ?_
          refine tr_get (ci := 6) hx hb ht hown hK hT hP k_t (by decide) i_X6 rfl 2 (by decide) wd_481 rfl dX6_findRules_134 (fun v hv hf_85 => ?_)
          obtain ⟨q_86, rfl, hq_86⟩ := hv
          refine lv_iload hx hb dX6_findRules_137 (lv_at hl 0 rfl) ?_
          refine tr_iald hx hb hK hT hP 28 hq_86 (by decide) (by decide) (show vp_in _ (tk_len 28) from ia_in (n := 21) (by omega) (by omega)) dX6_findRules_139 (fun n_87 hn_87 => ?_)
          clear hn_87
          refine gt_callI (wr := []) (va_runV (As := [.int x48_0, .int n_84, .int n_87]) (rest := []) ⟨hx, hb, hml, hown, ht⟩ (d_L_agree l G Γ H.size wt hT lg x48_0 n_84 n_87 k_lg) (cwV 3 ht (ts_gV wd_1174 wd_1175 wd_1176 wd_127 wd_1177) rfl rfl rfl (by decide +kernel) ⟨Nat.le_of_ble_eq_true rfl, Nat.le_of_ble_eq_true rfl⟩) (gt_preW (ci := 2) hK hT (tw_right hP) (tw_rightD hD) k_lg (by decide) rfl) rfl rfl hl.1 rfl (lv_room (Nat.le_of_ble_eq_true rfl)) dX6_findRules_140 ⟨Nat.le_of_ble_eq_true rfl, Nat.le_of_ble_eq_true rfl⟩) hP hD hS hA (fun r_88 wt H locs hw hP hD hS => ?_)
          obtain ⟨hT, hkp, lo_r_88, hi_r_88⟩ := hw
          have hW := hW.call (show ∀ x ∈ [], x ∈ [0, 1, 2, 603, 709] by decide) hkp
          have hf_49 := hkp _ _ _ _ (by decide) (by decide) hf_49
          refine lv_if_eq (tgt := 150) hx hb dX6_findRules_143 (by decide) (fun c_89 => ?_) (fun c_89 => ?_)
          · rw [← Int32.toInt_inj] at c_89
            refine lv_iconst (v := 0) hx hb dX6_findRules_150 (by decide +kernel) ?_
            refine lv_istore (lv' := [(7, .int 0), (9, .int t_63), (8, .int x48_0), (6, .int x8_0), (0, .ref t), (1, .ref ck), (2, .ref tm), (3, .ref rs), (4, .int n), (5, .ref lg)]) hx hb dX6_findRules_151 hl (by decide) rfl (fun ls hl => ?_)
            obtain ⟨t_90, et_90⟩ : ∃ zz_ : Int32, x48_0 + Int32.ofInt (1) = zz_ := ⟨_, rfl⟩
            have ft_90 : t_90.toInt = x48_0.toInt + (1 : Int32).toInt := ia_add (y := 1) et_90 (by omega) (by omega)
            refine lv_iinc (v := t_90) (lv' := [(8, .int t_90), (7, .int 0), (9, .int t_63), (6, .int x8_0), (0, .ref t), (1, .ref ck), (2, .ref tm), (3, .ref rs), (4, .int n), (5, .ref lg)]) hx hb dX6_findRules_153 hl (k := 2) rfl et_90 (by decide) rfl (fun ls hl => ?_)
            refine lv_goto (tgt := 48) hx hb dX6_findRules_156 (by decide) ?_
            exact ih48 (t_90, 0) (show 0 ≤ t_90.toInt ∧ t_90.toInt ≤ 3 ∧ 0 ≤ (0 : Int32).toInt ∧ (0 : Int32).toInt ≤ 1 from ⟨by omega, by omega, by omega, by omega⟩) (show (3 - t_90.toInt).toNat < (3 - x48_0.toInt).toNat by omega) H locs wt ls hT hW hP hD hS (lv_sub hl [0, 1, 3, 4, 5, 6, 7, 8, 9] rfl)
          · rw [← Int32.toInt_inj] at c_89
            refine lv_iconst (v := 1) hx hb dX6_findRules_146 (by decide +kernel) ?_
            refine lv_goto (tgt := 151) hx hb dX6_findRules_147 (by decide) ?_
            refine lv_istore (lv' := [(7, .int 1), (9, .int t_63), (8, .int x48_0), (6, .int x8_0), (0, .ref t), (1, .ref ck), (2, .ref tm), (3, .ref rs), (4, .int n), (5, .ref lg)]) hx hb dX6_findRules_151 hl (by decide) rfl (fun ls hl => ?_)
            obtain ⟨t_91, et_91⟩ : ∃ zz_ : Int32, x48_0 + Int32.ofInt (1) = zz_ := ⟨_, rfl⟩
            have ft_91 : t_91.toInt = x48_0.toInt + (1 : Int32).toInt := ia_add (y := 1) et_91 (by omega) (by omega)
            refine lv_iinc (v := t_91) (lv' := [(8, .int t_91), (7, .int 1), (9, .int t_63), (6, .int x8_0), (0, .ref t), (1, .ref ck), (2, .ref tm), (3, .ref rs), (4, .int n), (5, .ref lg)]) hx hb dX6_findRules_153 hl (k := 2) rfl et_91 (by decide) rfl (fun ls hl => ?_)
            refine lv_goto (tgt := 48) hx hb dX6_findRules_156 (by decide) ?_
            exact ih48 (t_91, 1) (show 0 ≤ t_91.toInt ∧ t_91.toInt ≤ 3 ∧ 0 ≤ (1 : Int32).toInt ∧ (1 : Int32).toInt ≤ 1 from ⟨by omega, by omega, by omega, by omega⟩) (show (3 - t_91.toInt).toNat < (3 - x48_0.toInt).toNat by omega) H locs wt ls hT hW hP hD hS (lv_sub hl [0, 1, 3, 4, 5, 6, 7, 8, 9] rfl)
set_option maxHeartbeats 4000000 in
set_option maxRecDepth 100000 in
theorem d_howMany (l : Launch) (G : gg_T) (Γ : Nat → Nat) (sz : Nat) (wt : va_W) (hT : tk_ty G Γ wt) (t : Nat) (k_t : Γ t = 7) : Met l yX6_howMany (ts_L yX6_howMany cX6_howMany 1 (some .int)) ({ frames := 1, cells := 0, slots := 0, locals := 20 }) (gc_P G wt sz [.ref t]) (gc_I G (va_A wt sz) (fun r (u : va_W) => tk_ty G Γ u ∧ tk_kp [] wt u) (fun u => u)) 0 0 (va_A wt sz) := by
  refine Met.ofW (cc := cX6_howMany) (maxL := 1) (ret := (some .int)) (by decide) rfl ?_
  intro p e s m args below meth c s₁ B hml hv
  obtain ⟨rfl, hsz, hP, hK, hD0⟩ := hv
  have hx := B.exec
  have hb := B.bytes
  have hr := B.returns
  have ht := ts_ht (atoms_spec (ws := ts_L yX6_howMany cX6_howMany 1 (some .int)) B.pre)
  have hown : s.vm.findClass RX6 = some m.cls := findClass_of_methodNamed B.named
  have hlocks := B.notSynchronized
  subst hsz
  have hD := hD0.self (sz := s.heap.size)
  generalize hAe : va_A wt s.heap.size = A at hD ⊢
  have hA : ∀ q : Nat, s.heap.size ≤ q → A q := fun q h => by rw [← hAe]; exact Or.inr h
  clear hAe hD0
  have hS : va_S A s.heap s.heap [] := va_S.rf
  obtain ⟨w0, hw0⟩ : ∃ z, z = wt := ⟨_, rfl⟩
  have hW : tk_kp [] w0 wt := by rw [hw0]; exact tk_kp.rf
  rw [← hw0]
  clear hw0
  have hP : va_P (gg_D G) classes ([] ++ wt) s.heap := hP
  have hD : va_D A ([] ++ wt) := hD
  have hl := lv_entry ([.ref t]) (n := 1) (Nat.le_of_ble_eq_true rfl)
  rw [lg_entry_eq]
  generalize (lg_sl ([.ref t]) ++ List.replicate (1 - (lg_sl ([.ref t])).length) Slot.unset).toArray = ls at hl ⊢
  have hl : lv_has ls 1 [(0, .ref t)] := hl
  refine lv_aload_n hx hb dX6_howMany_0 rfl (lv_at hl 0 rfl) ?_
  refine tr_get (ci := 6) hx hb ht hown hK hT hP k_t (by decide) i_X6 rfl 3 (by decide) wd_482 rfl dX6_howMany_1 (fun v hv hf_1 => ?_)
  obtain ⟨n_2, rfl⟩ := hv
  refine gt_callI (wr := []) (va_runS (As := [.int n_2]) (rest := []) ⟨hx, hb, hml, hown, ht⟩ (d_bitCount l G Γ s.heap.size wt hT n_2) (va_cwS 1 ht (ts_gS wd_1182 wd_895 wd_141 wd_896) rfl rfl rfl (by decide +kernel) ⟨Nat.le_of_ble_eq_true rfl, Nat.le_of_ble_eq_true rfl⟩) (gc_preS hK (tw_right hP) (tw_rightD hD)) rfl rfl hl.1 rfl (lv_room (Nat.le_of_ble_eq_true rfl)) dX6_howMany_4 ⟨Nat.le_of_ble_eq_true rfl, Nat.le_of_ble_eq_true rfl⟩) hP hD hS hA (fun r_3 wt H locs hw hP hD hS => ?_)
  obtain ⟨hT, hkp⟩ := hw
  have hW := hW.call (show ∀ x ∈ [], x ∈ [] by decide) hkp
  have hf_1 := hkp _ _ _ _ (by decide) (by decide) hf_1
  have hP9 := tw_right hP
  have hD9 := tw_rightD hD
  exact W.iret (v := r_3) hx hb hr (gq_endI wt ⟨hT, hW⟩ hP9 hD9 hS) hS.2.2 dX6_howMany_7
set_option maxHeartbeats 4000000 in
set_option maxRecDepth 100000 in
theorem d_alike (l : Launch) (G : gg_T) (Γ : Nat → Nat) (sz : Nat) (wt : va_W) (hT : tk_ty G Γ wt) (t : Nat) (b : Int32) (w : Int32) (k_t : Γ t = 7) (lo_b : 0 ≤ b.toInt) (hi_b : b.toInt ≤ 6) (lo_w : 0 ≤ w.toInt) (hi_w : w.toInt ≤ 2) : Met l yX6_alike (ts_L yX6_alike cX6_alike 7 (some .int)) ({ frames := 1, cells := 0, slots := 0, locals := 21 }) (gc_P G wt sz [.ref t, .int b, .int w]) (gc_I G (va_A wt sz) (fun r (u : va_W) => tk_ty G Γ u ∧ tk_kp [] wt u) (fun u => u)) 0 0 (va_A wt sz) := by
  refine Met.ofW (cc := cX6_alike) (maxL := 7) (ret := (some .int)) (by decide) rfl ?_
  intro p e s m args below meth c s₁ B hml hv
  obtain ⟨rfl, hsz, hP, hK, hD0⟩ := hv
  have hx := B.exec
  have hb := B.bytes
  have hr := B.returns
  have ht := ts_ht (atoms_spec (ws := ts_L yX6_alike cX6_alike 7 (some .int)) B.pre)
  have hown : s.vm.findClass RX6 = some m.cls := findClass_of_methodNamed B.named
  have hlocks := B.notSynchronized
  subst hsz
  have hD := hD0.self (sz := s.heap.size)
  generalize hAe : va_A wt s.heap.size = A at hD ⊢
  have hA : ∀ q : Nat, s.heap.size ≤ q → A q := fun q h => by rw [← hAe]; exact Or.inr h
  clear hAe hD0
  have hS : va_S A s.heap s.heap [] := va_S.rf
  obtain ⟨w0, hw0⟩ : ∃ z, z = wt := ⟨_, rfl⟩
  have hW : tk_kp [] w0 wt := by rw [hw0]; exact tk_kp.rf
  rw [← hw0]
  clear hw0
  have hP : va_P (gg_D G) classes ([] ++ wt) s.heap := hP
  have hD : va_D A ([] ++ wt) := hD
  have hl := lv_entry ([.ref t, .int b, .int w]) (n := 7) (Nat.le_of_ble_eq_true rfl)
  rw [lg_entry_eq]
  generalize (lg_sl ([.ref t, .int b, .int w]) ++ List.replicate (7 - (lg_sl ([.ref t, .int b, .int w])).length) Slot.unset).toArray = ls at hl ⊢
  have hl : lv_has ls 7 [(0, .ref t), (1, .int b), (2, .int w)] := hl
  have l0 : (0 : Int32).toInt = 0 := by decide +kernel
  have l1 : (1 : Int32).toInt = 1 := by decide +kernel
  have l3 : (3 : Int32).toInt = 3 := by decide +kernel
  have l7 : (7 : Int32).toInt = 7 := by decide +kernel
  refine lv_iconst (v := 0) hx hb dX6_alike_0 (by decide +kernel) ?_
  refine lv_istore_n (lv' := [(3, .int 0), (0, .ref t), (1, .int b), (2, .int w)]) hx hb dX6_alike_1 rfl hl (by decide) rfl (fun ls hl => ?_)
  refine lv_iconst (v := 0) hx hb dX6_alike_2 (by decide +kernel) ?_
  refine lv_istore (lv' := [(4, .int 0), (3, .int 0), (0, .ref t), (1, .int b), (2, .int w)]) hx hb dX6_alike_3 hl (by decide) rfl (fun ls hl => ?_)
  refine tl_loopE (Γ := Γ) (nL := 7) (fun (zz_ : Int32 × Int32) => match zz_ with | (x5_0, x5_1) => 0 ≤ x5_0.toInt ∧ x5_0.toInt ≤ 7) (fun (zz_ : Int32 × Int32) => match zz_ with | (x5_0, x5_1) => (7 - x5_0.toInt).toNat) (fun (zz_ : Int32 × Int32) => match zz_ with | (x5_0, x5_1) => [(4, .int x5_0), (3, .int x5_1), (0, .ref t), (1, .int b), (2, .int w)]) (fun (zz_ : Int32 × Int32) => match zz_ with | (x5_0, x5_1) => []) (fun (zz_ : Int32 × Int32) (w : va_W) => match zz_ with | (x5_0, x5_1) => tk_kp [] w0 w) (fun zz_ hI H locs wt ls hT hW hP hD hS hl ih5 => ?_) (0, 0) (show 0 ≤ (0 : Int32).toInt ∧ (0 : Int32).toInt ≤ 7 from ⟨by omega, by omega⟩) _ _ wt ls hT hW hP hD hS hl
  obtain ⟨x5_0, x5_1⟩ := zz_
  have hW : tk_kp [] w0 wt := hW
  have hI : 0 ≤ x5_0.toInt ∧ x5_0.toInt ≤ 7 := hI
  obtain ⟨j5_0, j5_1⟩ := hI
  have hl : lv_has ls 7 [(4, .int x5_0), (3, .int x5_1), (0, .ref t), (1, .int b), (2, .int w)] := hl
  have hP : va_P (gg_D G) classes ([] ++ wt) H := hP
  have hD : va_D A ([] ++ wt) := hD
  refine lv_iload hx hb dX6_alike_5 (lv_at hl 0 rfl) ?_
  refine lv_bipush (v := 7) hx hb dX6_alike_7 (by decide +kernel) ?_
  refine lv_icmp_ge (tgt := 98) hx hb dX6_alike_9 (by decide) (fun c_1 => ?_) (fun c_1 => ?_)
  · rw [Int32.le_iff_toInt_le] at c_1
    refine lv_iload_n hx hb dX6_alike_98 rfl (lv_at hl 1 rfl) ?_
    have hP9 := tw_right hP
    have hD9 := tw_rightD hD
    exact W.iret (v := x5_1) hx hb hr (gq_endI wt ⟨hT, hW⟩ hP9 hD9 hS) hS.2.2 dX6_alike_99
  · rw [Int32.le_iff_toInt_le] at c_1
    refine lv_iload hx hb dX6_alike_12 (lv_at hl 0 rfl) ?_
    refine lv_iconst (v := 3) hx hb dX6_alike_14 (by decide +kernel) ?_
    obtain ⟨t_2, et_2⟩ : ∃ zz_ : Int32, x5_0 * 3 = zz_ := ⟨_, rfl⟩
    refine gq_imul hx hb t_2 et_2 dX6_alike_15 ?_
    have ft_2 := ia_mul et_2 (by rw [l3]; omega) (by rw [l3]; omega)
    rw [l3] at ft_2
    refine lv_iload_n hx hb dX6_alike_16 rfl (lv_at hl 4 rfl) ?_
    obtain ⟨t_3, et_3⟩ : ∃ zz_ : Int32, t_2 + w = zz_ := ⟨_, rfl⟩
    refine gq_iadd hx hb t_3 et_3 dX6_alike_17 ?_
    have ft_3 := ia_add et_3 (by omega) (by omega)
    refine lv_istore (lv' := [(5, .int t_3), (4, .int x5_0), (3, .int x5_1), (0, .ref t), (1, .int b), (2, .int w)]) hx hb dX6_alike_18 hl (by decide) rfl (fun ls hl => ?_)
    refine lv_aload_n hx hb dX6_alike_20 rfl (lv_at hl 3 rfl) ?_
    refine tr_get (ci := 6) hx hb ht hown hK hT hP k_t (by decide) i_X6 rfl 1 (by decide) wd_480 rfl dX6_alike_21 (fun v hv hf_4 => ?_)
    obtain ⟨q_5, rfl, hq_5⟩ := hv
    refine lv_iload hx hb dX6_alike_24 (lv_at hl 0 rfl) ?_
    refine tr_iald hx hb hK hT hP 28 hq_5 (by decide) (by decide) (show vp_in _ (tk_len 28) from ia_in (n := 21) (by omega) (by omega)) dX6_alike_26 (fun n_6 hn_6 => ?_)
    clear hn_6
    refine lv_aload_n hx hb dX6_alike_27 rfl (lv_at hl 3 rfl) ?_
    refine tr_get (ci := 6) hx hb ht hown hK hT hP k_t (by decide) i_X6 rfl 1 (by decide) wd_480 rfl dX6_alike_28 (fun v hv hf_7 => ?_)
    obtain ⟨q_8, rfl, hq_8⟩ := hv
    refine lv_iload_n hx hb dX6_alike_31 rfl (lv_at hl 4 rfl) ?_
    refine lv_iconst (v := 3) hx hb dX6_alike_32 (by decide +kernel) ?_
    obtain ⟨t_9, et_9⟩ : ∃ zz_ : Int32, b * 3 = zz_ := ⟨_, rfl⟩
    refine gq_imul hx hb t_9 et_9 dX6_alike_33 ?_
    have ft_9 := ia_mul et_9 (by rw [l3]; omega) (by rw [l3]; omega)
    rw [l3] at ft_9
    refine lv_iload_n hx hb dX6_alike_34 rfl (lv_at hl 5 rfl) ?_
    obtain ⟨t_10, et_10⟩ : ∃ zz_ : Int32, t_9 + w = zz_ := ⟨_, rfl⟩
    refine gq_iadd hx hb t_10 et_10 dX6_alike_35 ?_
    have ft_10 := ia_add et_10 (by omega) (by omega)
    refine tr_iald hx hb hK hT hP 28 hq_8 (by decide) (by decide) (show vp_in _ (tk_len 28) from ia_in (n := 21) (by omega) (by omega)) dX6_alike_36 (fun n_11 hn_11 => ?_)
    clear hn_11
    refine lv_icmp_ne (tgt := 64) hx hb dX6_alike_37 (by decide) (fun c_12 => ?_) (fun c_12 => ?_)
    · rw [← Int32.toInt_inj] at c_12
      refine lv_iconst (v := 0) hx hb dX6_alike_64 (by decide +kernel) ?_
      refine lv_istore (lv' := [(6, .int 0), (5, .int t_3), (4, .int x5_0), (3, .int x5_1), (0, .ref t), (1, .int b), (2, .int w)]) hx hb dX6_alike_65 hl (by decide) rfl (fun ls hl => ?_)
      refine lv_iload_n hx hb dX6_alike_67 rfl (lv_at hl 3 rfl) ?_
      refine lv_iload hx hb dX6_alike_68 (lv_at hl 2 rfl) ?_
      refine lv_aload_n hx hb dX6_alike_70 rfl (lv_at hl 4 rfl) ?_
      refine tr_get (ci := 6) hx hb ht hown hK hT hP k_t (by decide) i_X6 rfl 3 (by decide) wd_482 rfl dX6_alike_71 (fun v hv hf_13 => ?_)
      obtain ⟨n_14, rfl⟩ := hv
      refine gt_callI (wr := []) (va_runSN (As := [.int x5_0, .int n_14]) (rest := [.int x5_1]) ⟨hx, hb, hml, hown, ht⟩ (d_isIn l G Γ H.size wt hT x5_0 n_14) ⟨va_cnB 2 ht (tb_good (ts_good wd_803)) rfl rfl rfl (hK.2.1 _ wn_1191 rfl) (ht _ wd_122) (by decide +kernel) ⟨Nat.le_of_ble_eq_true rfl, Nat.le_of_ble_eq_true rfl⟩, ht _ wd_802, trivial⟩ (gc_preS hK (tw_right hP) (tw_rightD hD)) rfl rfl hl.1 rfl (lv_room (Nat.le_of_ble_eq_true rfl)) dX6_alike_74 ⟨Nat.le_of_ble_eq_true rfl, Nat.le_of_ble_eq_true rfl⟩) hP hD hS hA (fun r_15 wt H locs hw hP hD hS => ?_)
      obtain ⟨hT, hkp, lo_r_15, hi_r_15⟩ := hw
      have hW := hW.call (show ∀ x ∈ [], x ∈ [] by decide) hkp
      have hf_13 := hkp _ _ _ _ (by decide) (by decide) hf_13
      refine lv_if_eq (tgt := 89) hx hb dX6_alike_77 (by decide) (fun c_16 => ?_) (fun c_16 => ?_)
      · rw [← Int32.toInt_inj] at c_16
        refine lv_iconst (v := 0) hx hb dX6_alike_89 (by decide +kernel) ?_
        obtain ⟨t_17, et_17⟩ : ∃ zz_ : Int32, x5_1 + 0 = zz_ := ⟨_, rfl⟩
        refine gq_iadd hx hb t_17 et_17 dX6_alike_90 ?_
        have bd_x5_1 := ia_bd x5_1
        have ft_17 := ia_add et_17 (by omega) (by omega)
        refine lv_istore_n (lv' := [(3, .int t_17), (6, .int 0), (5, .int t_3), (4, .int x5_0), (0, .ref t), (1, .int b), (2, .int w)]) hx hb dX6_alike_91 rfl hl (by decide) rfl (fun ls hl => ?_)
        obtain ⟨t_18, et_18⟩ : ∃ zz_ : Int32, x5_0 + Int32.ofInt (1) = zz_ := ⟨_, rfl⟩
        have ft_18 : t_18.toInt = x5_0.toInt + (1 : Int32).toInt := ia_add (y := 1) et_18 (by omega) (by omega)
        refine lv_iinc (v := t_18) (lv' := [(4, .int t_18), (3, .int t_17), (6, .int 0), (5, .int t_3), (0, .ref t), (1, .int b), (2, .int w)]) hx hb dX6_alike_92 hl (k := 3) rfl et_18 (by decide) rfl (fun ls hl => ?_)
        refine lv_goto (tgt := 5) hx hb dX6_alike_95 (by decide) ?_
        exact ih5 (t_18, t_17) (show 0 ≤ t_18.toInt ∧ t_18.toInt ≤ 7 from ⟨by omega, by omega⟩) (show (7 - t_18.toInt).toNat < (7 - x5_0.toInt).toNat by omega) H locs wt ls hT hW hP hD hS (lv_sub hl [0, 1, 4, 5, 6] rfl)
      · rw [← Int32.toInt_inj] at c_16
        refine lv_iload hx hb dX6_alike_80 (lv_at hl 0 rfl) ?_
        refine lv_if_eq (tgt := 89) hx hb dX6_alike_82 (by decide) (fun _ => ?_) (fun c0 => False.elim (by rw [← Int32.toInt_inj] at c0; omega))
        refine lv_iconst (v := 0) hx hb dX6_alike_89 (by decide +kernel) ?_
        obtain ⟨t_19, et_19⟩ : ∃ zz_ : Int32, x5_1 + 0 = zz_ := ⟨_, rfl⟩
        refine gq_iadd hx hb t_19 et_19 dX6_alike_90 ?_
        have bd_x5_1 := ia_bd x5_1
        have ft_19 := ia_add et_19 (by omega) (by omega)
        refine lv_istore_n (lv' := [(3, .int t_19), (6, .int 0), (5, .int t_3), (4, .int x5_0), (0, .ref t), (1, .int b), (2, .int w)]) hx hb dX6_alike_91 rfl hl (by decide) rfl (fun ls hl => ?_)
        obtain ⟨t_20, et_20⟩ : ∃ zz_ : Int32, x5_0 + Int32.ofInt (1) = zz_ := ⟨_, rfl⟩
        have ft_20 : t_20.toInt = x5_0.toInt + (1 : Int32).toInt := ia_add (y := 1) et_20 (by omega) (by omega)
        refine lv_iinc (v := t_20) (lv' := [(4, .int t_20), (3, .int t_19), (6, .int 0), (5, .int t_3), (0, .ref t), (1, .int b), (2, .int w)]) hx hb dX6_alike_92 hl (k := 3) rfl et_20 (by decide) rfl (fun ls hl => ?_)
        refine lv_goto (tgt := 5) hx hb dX6_alike_95 (by decide) ?_
        exact ih5 (t_20, t_19) (show 0 ≤ t_20.toInt ∧ t_20.toInt ≤ 7 from ⟨by omega, by omega⟩) (show (7 - t_20.toInt).toNat < (7 - x5_0.toInt).toNat by omega) H locs wt ls hT hW hP hD hS (lv_sub hl [0, 1, 4, 5, 6] rfl)
    · rw [← Int32.toInt_inj] at c_12
      refine lv_aload_n hx hb dX6_alike_40 rfl (lv_at hl 3 rfl) ?_
      refine tr_get (ci := 6) hx hb ht hown hK hT hP k_t (by decide) i_X6 rfl 2 (by decide) wd_481 rfl dX6_alike_41 (fun v hv hf_21 => ?_)
      obtain ⟨q_22, rfl, hq_22⟩ := hv
      refine lv_iload hx hb dX6_alike_44 (lv_at hl 0 rfl) ?_
      refine tr_iald hx hb hK hT hP 28 hq_22 (by decide) (by decide) (show vp_in _ (tk_len 28) from ia_in (n := 21) (by omega) (by omega)) dX6_alike_46 (fun n_23 hn_23 => ?_)
      clear hn_23
      refine lv_aload_n hx hb dX6_alike_47 rfl (lv_at hl 3 rfl) ?_
      refine tr_get (ci := 6) hx hb ht hown hK hT hP k_t (by decide) i_X6 rfl 2 (by decide) wd_481 rfl dX6_alike_48 (fun v hv hf_24 => ?_)
      obtain ⟨q_25, rfl, hq_25⟩ := hv
      refine lv_iload_n hx hb dX6_alike_51 rfl (lv_at hl 4 rfl) ?_
      refine lv_iconst (v := 3) hx hb dX6_alike_52 (by decide +kernel) ?_
      refine gq_imul hx hb t_9 et_9 dX6_alike_53 ?_
      refine lv_iload_n hx hb dX6_alike_54 rfl (lv_at hl 5 rfl) ?_
      refine gq_iadd hx hb t_10 et_10 dX6_alike_55 ?_
      refine tr_iald hx hb hK hT hP 28 hq_25 (by decide) (by decide) (show vp_in _ (tk_len 28) from ia_in (n := 21) (by omega) (by omega)) dX6_alike_56 (fun n_26 hn_26 => ?_)
      clear hn_26
      refine lv_icmp_ne (tgt := 64) hx hb dX6_alike_57 (by decide) (fun c_27 => ?_) (fun c_27 => ?_)
      · rw [← Int32.toInt_inj] at c_27
        refine lv_iconst (v := 0) hx hb dX6_alike_64 (by decide +kernel) ?_
        refine lv_istore (lv' := [(6, .int 0), (5, .int t_3), (4, .int x5_0), (3, .int x5_1), (0, .ref t), (1, .int b), (2, .int w)]) hx hb dX6_alike_65 hl (by decide) rfl (fun ls hl => ?_)
        refine lv_iload_n hx hb dX6_alike_67 rfl (lv_at hl 3 rfl) ?_
        refine lv_iload hx hb dX6_alike_68 (lv_at hl 2 rfl) ?_
        refine lv_aload_n hx hb dX6_alike_70 rfl (lv_at hl 4 rfl) ?_
        refine tr_get (ci := 6) hx hb ht hown hK hT hP k_t (by decide) i_X6 rfl 3 (by decide) wd_482 rfl dX6_alike_71 (fun v hv hf_28 => ?_)
        obtain ⟨n_29, rfl⟩ := hv
        refine gt_callI (wr := []) (va_runSN (As := [.int x5_0, .int n_29]) (rest := [.int x5_1]) ⟨hx, hb, hml, hown, ht⟩ (d_isIn l G Γ H.size wt hT x5_0 n_29) ⟨va_cnB 2 ht (tb_good (ts_good wd_803)) rfl rfl rfl (hK.2.1 _ wn_1191 rfl) (ht _ wd_122) (by decide +kernel) ⟨Nat.le_of_ble_eq_true rfl, Nat.le_of_ble_eq_true rfl⟩, ht _ wd_802, trivial⟩ (gc_preS hK (tw_right hP) (tw_rightD hD)) rfl rfl hl.1 rfl (lv_room (Nat.le_of_ble_eq_true rfl)) dX6_alike_74 ⟨Nat.le_of_ble_eq_true rfl, Nat.le_of_ble_eq_true rfl⟩) hP hD hS hA (fun r_30 wt H locs hw hP hD hS => ?_)
        obtain ⟨hT, hkp, lo_r_30, hi_r_30⟩ := hw
        have hW := hW.call (show ∀ x ∈ [], x ∈ [] by decide) hkp
        have hf_28 := hkp _ _ _ _ (by decide) (by decide) hf_28
        refine lv_if_eq (tgt := 89) hx hb dX6_alike_77 (by decide) (fun c_31 => ?_) (fun c_31 => ?_)
        · rw [← Int32.toInt_inj] at c_31
          refine lv_iconst (v := 0) hx hb dX6_alike_89 (by decide +kernel) ?_
          obtain ⟨t_32, et_32⟩ : ∃ zz_ : Int32, x5_1 + 0 = zz_ := ⟨_, rfl⟩
          refine gq_iadd hx hb t_32 et_32 dX6_alike_90 ?_
          have bd_x5_1 := ia_bd x5_1
          have ft_32 := ia_add et_32 (by omega) (by omega)
          refine lv_istore_n (lv' := [(3, .int t_32), (6, .int 0), (5, .int t_3), (4, .int x5_0), (0, .ref t), (1, .int b), (2, .int w)]) hx hb dX6_alike_91 rfl hl (by decide) rfl (fun ls hl => ?_)
          obtain ⟨t_33, et_33⟩ : ∃ zz_ : Int32, x5_0 + Int32.ofInt (1) = zz_ := ⟨_, rfl⟩
          have ft_33 : t_33.toInt = x5_0.toInt + (1 : Int32).toInt := ia_add (y := 1) et_33 (by omega) (by omega)
          refine lv_iinc (v := t_33) (lv' := [(4, .int t_33), (3, .int t_32), (6, .int 0), (5, .int t_3), (0, .ref t), (1, .int b), (2, .int w)]) hx hb dX6_alike_92 hl (k := 3) rfl et_33 (by decide) rfl (fun ls hl => ?_)
          refine lv_goto (tgt := 5) hx hb dX6_alike_95 (by decide) ?_
          exact ih5 (t_33, t_32) (show 0 ≤ t_33.toInt ∧ t_33.toInt ≤ 7 from ⟨by omega, by omega⟩) (show (7 - t_33.toInt).toNat < (7 - x5_0.toInt).toNat by omega) H locs wt ls hT hW hP hD hS (lv_sub hl [0, 1, 4, 5, 6] rfl)
        · rw [← Int32.toInt_inj] at c_31
          refine lv_iload hx hb dX6_alike_80 (lv_at hl 0 rfl) ?_
          refine lv_if_eq (tgt := 89) hx hb dX6_alike_82 (by decide) (fun _ => ?_) (fun c0 => False.elim (by rw [← Int32.toInt_inj] at c0; omega))
          refine lv_iconst (v := 0) hx hb dX6_alike_89 (by decide +kernel) ?_
          obtain ⟨t_34, et_34⟩ : ∃ zz_ : Int32, x5_1 + 0 = zz_ := ⟨_, rfl⟩
          refine gq_iadd hx hb t_34 et_34 dX6_alike_90 ?_
          have bd_x5_1 := ia_bd x5_1
          have ft_34 := ia_add et_34 (by omega) (by omega)
          refine lv_istore_n (lv' := [(3, .int t_34), (6, .int 0), (5, .int t_3), (4, .int x5_0), (0, .ref t), (1, .int b), (2, .int w)]) hx hb dX6_alike_91 rfl hl (by decide) rfl (fun ls hl => ?_)
          obtain ⟨t_35, et_35⟩ : ∃ zz_ : Int32, x5_0 + Int32.ofInt (1) = zz_ := ⟨_, rfl⟩
          have ft_35 : t_35.toInt = x5_0.toInt + (1 : Int32).toInt := ia_add (y := 1) et_35 (by omega) (by omega)
          refine lv_iinc (v := t_35) (lv' := [(4, .int t_35), (3, .int t_34), (6, .int 0), (5, .int t_3), (0, .ref t), (1, .int b), (2, .int w)]) hx hb dX6_alike_92 hl (k := 3) rfl et_35 (by decide) rfl (fun ls hl => ?_)
          refine lv_goto (tgt := 5) hx hb dX6_alike_95 (by decide) ?_
          exact ih5 (t_35, t_34) (show 0 ≤ t_35.toInt ∧ t_35.toInt ≤ 7 from ⟨by omega, by omega⟩) (show (7 - t_35.toInt).toNat < (7 - x5_0.toInt).toNat by omega) H locs wt ls hT hW hP hD hS (lv_sub hl [0, 1, 4, 5, 6] rfl)
      · rw [← Int32.toInt_inj] at c_27
        refine lv_iconst (v := 1) hx hb dX6_alike_60 (by decide +kernel) ?_
        refine lv_goto (tgt := 65) hx hb dX6_alike_61 (by decide) ?_
        refine lv_istore (lv' := [(6, .int 1), (5, .int t_3), (4, .int x5_0), (3, .int x5_1), (0, .ref t), (1, .int b), (2, .int w)]) hx hb dX6_alike_65 hl (by decide) rfl (fun ls hl => ?_)
        refine lv_iload_n hx hb dX6_alike_67 rfl (lv_at hl 3 rfl) ?_
        refine lv_iload hx hb dX6_alike_68 (lv_at hl 2 rfl) ?_
        refine lv_aload_n hx hb dX6_alike_70 rfl (lv_at hl 4 rfl) ?_
        refine tr_get (ci := 6) hx hb ht hown hK hT hP k_t (by decide) i_X6 rfl 3 (by decide) wd_482 rfl dX6_alike_71 (fun v hv hf_36 => ?_)
        obtain ⟨n_37, rfl⟩ := hv
        refine gt_callI (wr := []) (va_runSN (As := [.int x5_0, .int n_37]) (rest := [.int x5_1]) ⟨hx, hb, hml, hown, ht⟩ (d_isIn l G Γ H.size wt hT x5_0 n_37) ⟨va_cnB 2 ht (tb_good (ts_good wd_803)) rfl rfl rfl (hK.2.1 _ wn_1191 rfl) (ht _ wd_122) (by decide +kernel) ⟨Nat.le_of_ble_eq_true rfl, Nat.le_of_ble_eq_true rfl⟩, ht _ wd_802, trivial⟩ (gc_preS hK (tw_right hP) (tw_rightD hD)) rfl rfl hl.1 rfl (lv_room (Nat.le_of_ble_eq_true rfl)) dX6_alike_74 ⟨Nat.le_of_ble_eq_true rfl, Nat.le_of_ble_eq_true rfl⟩) hP hD hS hA (fun r_38 wt H locs hw hP hD hS => ?_)
        obtain ⟨hT, hkp, lo_r_38, hi_r_38⟩ := hw
        have hW := hW.call (show ∀ x ∈ [], x ∈ [] by decide) hkp
        have hf_36 := hkp _ _ _ _ (by decide) (by decide) hf_36
        refine lv_if_eq (tgt := 89) hx hb dX6_alike_77 (by decide) (fun c_39 => ?_) (fun c_39 => ?_)
        · rw [← Int32.toInt_inj] at c_39
          refine lv_iconst (v := 0) hx hb dX6_alike_89 (by decide +kernel) ?_
          obtain ⟨t_40, et_40⟩ : ∃ zz_ : Int32, x5_1 + 0 = zz_ := ⟨_, rfl⟩
          refine gq_iadd hx hb t_40 et_40 dX6_alike_90 ?_
          have bd_x5_1 := ia_bd x5_1
          have ft_40 := ia_add et_40 (by omega) (by omega)
          refine lv_istore_n (lv' := [(3, .int t_40), (6, .int 1), (5, .int t_3), (4, .int x5_0), (0, .ref t), (1, .int b), (2, .int w)]) hx hb dX6_alike_91 rfl hl (by decide) rfl (fun ls hl => ?_)
          obtain ⟨t_41, et_41⟩ : ∃ zz_ : Int32, x5_0 + Int32.ofInt (1) = zz_ := ⟨_, rfl⟩
          have ft_41 : t_41.toInt = x5_0.toInt + (1 : Int32).toInt := ia_add (y := 1) et_41 (by omega) (by omega)
          refine lv_iinc (v := t_41) (lv' := [(4, .int t_41), (3, .int t_40), (6, .int 1), (5, .int t_3), (0, .ref t), (1, .int b), (2, .int w)]) hx hb dX6_alike_92 hl (k := 3) rfl et_41 (by decide) rfl (fun ls hl => ?_)
          refine lv_goto (tgt := 5) hx hb dX6_alike_95 (by decide) ?_
          exact ih5 (t_41, t_40) (show 0 ≤ t_41.toInt ∧ t_41.toInt ≤ 7 from ⟨by omega, by omega⟩) (show (7 - t_41.toInt).toNat < (7 - x5_0.toInt).toNat by omega) H locs wt ls hT hW hP hD hS (lv_sub hl [0, 1, 4, 5, 6] rfl)
        · rw [← Int32.toInt_inj] at c_39
          refine lv_iload hx hb dX6_alike_80 (lv_at hl 0 rfl) ?_
          refine lv_if_eq (tgt := 89) hx hb dX6_alike_82 (by decide) (fun c0 => False.elim (by rw [← Int32.toInt_inj] at c0; omega)) (fun _ => ?_)
          refine lv_iconst (v := 1) hx hb dX6_alike_85 (by decide +kernel) ?_
          refine lv_goto (tgt := 90) hx hb dX6_alike_86 (by decide) ?_
          obtain ⟨t_42, et_42⟩ : ∃ zz_ : Int32, x5_1 + 1 = zz_ := ⟨_, rfl⟩
          refine gq_iadd hx hb t_42 et_42 dX6_alike_90 ?_
          refine lv_istore_n (lv' := [(3, .int t_42), (6, .int 1), (5, .int t_3), (4, .int x5_0), (0, .ref t), (1, .int b), (2, .int w)]) hx hb dX6_alike_91 rfl hl (by decide) rfl (fun ls hl => ?_)
          obtain ⟨t_43, et_43⟩ : ∃ zz_ : Int32, x5_0 + Int32.ofInt (1) = zz_ := ⟨_, rfl⟩
          have ft_43 : t_43.toInt = x5_0.toInt + (1 : Int32).toInt := ia_add (y := 1) et_43 (by omega) (by omega)
          refine lv_iinc (v := t_43) (lv' := [(4, .int t_43), (3, .int t_42), (6, .int 1), (5, .int t_3), (0, .ref t), (1, .int b), (2, .int w)]) hx hb dX6_alike_92 hl (k := 3) rfl et_43 (by decide) rfl (fun ls hl => ?_)
          refine lv_goto (tgt := 5) hx hb dX6_alike_95 (by decide) ?_
          exact ih5 (t_43, t_42) (show 0 ≤ t_43.toInt ∧ t_43.toInt ≤ 7 from ⟨by omega, by omega⟩) (show (7 - t_43.toInt).toNat < (7 - x5_0.toInt).toNat by omega) H locs wt ls hT hW hP hD hS (lv_sub hl [0, 1, 4, 5, 6] rfl)
set_option maxHeartbeats 4000000 in
set_option maxRecDepth 100000 in
theorem d_mostAlike (l : Launch) (G : gg_T) (Γ : Nat → Nat) (sz : Nat) (wt : va_W) (hT : tk_ty G Γ wt) (t : Nat) (w : Int32) (k_t : Γ t = 7) (lo_w : 0 ≤ w.toInt) (hi_w : w.toInt ≤ 2) : Met l yX6_mostAlike (ts_L yX6_mostAlike cX6_mostAlike 4 (some .int)) ({ frames := 2, cells := 0, slots := 0, locals := 47 }) (gc_P G wt sz [.ref t, .int w]) (gc_I G (va_A wt sz) (fun r (u : va_W) => tk_ty G Γ u ∧ tk_kp [] wt u) (fun u => u)) 0 0 (va_A wt sz) := by
  refine Met.ofW (cc := cX6_mostAlike) (maxL := 4) (ret := (some .int)) (by decide) rfl ?_
  intro p e s m args below meth c s₁ B hml hv
  obtain ⟨rfl, hsz, hP, hK, hD0⟩ := hv
  have hx := B.exec
  have hb := B.bytes
  have hr := B.returns
  have ht := ts_ht (atoms_spec (ws := ts_L yX6_mostAlike cX6_mostAlike 4 (some .int)) B.pre)
  have hown : s.vm.findClass RX6 = some m.cls := findClass_of_methodNamed B.named
  have hlocks := B.notSynchronized
  subst hsz
  have hD := hD0.self (sz := s.heap.size)
  generalize hAe : va_A wt s.heap.size = A at hD ⊢
  have hA : ∀ q : Nat, s.heap.size ≤ q → A q := fun q h => by rw [← hAe]; exact Or.inr h
  clear hAe hD0
  have hS : va_S A s.heap s.heap [] := va_S.rf
  obtain ⟨w0, hw0⟩ : ∃ z, z = wt := ⟨_, rfl⟩
  have hW : tk_kp [] w0 wt := by rw [hw0]; exact tk_kp.rf
  rw [← hw0]
  clear hw0
  have hP : va_P (gg_D G) classes ([] ++ wt) s.heap := hP
  have hD : va_D A ([] ++ wt) := hD
  have hl := lv_entry ([.ref t, .int w]) (n := 4) (Nat.le_of_ble_eq_true rfl)
  rw [lg_entry_eq]
  generalize (lg_sl ([.ref t, .int w]) ++ List.replicate (4 - (lg_sl ([.ref t, .int w])).length) Slot.unset).toArray = ls at hl ⊢
  have hl : lv_has ls 4 [(0, .ref t), (1, .int w)] := hl
  have l0 : (0 : Int32).toInt = 0 := by decide +kernel
  have l1 : (1 : Int32).toInt = 1 := by decide +kernel
  have l7 : (7 : Int32).toInt = 7 := by decide +kernel
  refine lv_iconst (v := 0) hx hb dX6_mostAlike_0 (by decide +kernel) ?_
  refine lv_istore_n (lv' := [(2, .int 0), (0, .ref t), (1, .int w)]) hx hb dX6_mostAlike_1 rfl hl (by decide) rfl (fun ls hl => ?_)
  refine lv_iconst (v := 0) hx hb dX6_mostAlike_2 (by decide +kernel) ?_
  refine lv_istore_n (lv' := [(3, .int 0), (2, .int 0), (0, .ref t), (1, .int w)]) hx hb dX6_mostAlike_3 rfl hl (by decide) rfl (fun ls hl => ?_)
  refine tl_loopE (Γ := Γ) (nL := 4) (fun (zz_ : Int32 × Int32) => match zz_ with | (x4_0, x4_1) => 0 ≤ x4_0.toInt ∧ x4_0.toInt ≤ 7) (fun (zz_ : Int32 × Int32) => match zz_ with | (x4_0, x4_1) => (7 - x4_0.toInt).toNat) (fun (zz_ : Int32 × Int32) => match zz_ with | (x4_0, x4_1) => [(3, .int x4_0), (2, .int x4_1), (0, .ref t), (1, .int w)]) (fun (zz_ : Int32 × Int32) => match zz_ with | (x4_0, x4_1) => []) (fun (zz_ : Int32 × Int32) (w : va_W) => match zz_ with | (x4_0, x4_1) => tk_kp [] w0 w) (fun zz_ hI H locs wt ls hT hW hP hD hS hl ih4 => ?_) (0, 0) (show 0 ≤ (0 : Int32).toInt ∧ (0 : Int32).toInt ≤ 7 from ⟨by omega, by omega⟩) _ _ wt ls hT hW hP hD hS hl
  obtain ⟨x4_0, x4_1⟩ := zz_
  have hW : tk_kp [] w0 wt := hW
  have hI : 0 ≤ x4_0.toInt ∧ x4_0.toInt ≤ 7 := hI
  obtain ⟨j4_0, j4_1⟩ := hI
  have hl : lv_has ls 4 [(3, .int x4_0), (2, .int x4_1), (0, .ref t), (1, .int w)] := hl
  have hP : va_P (gg_D G) classes ([] ++ wt) H := hP
  have hD : va_D A ([] ++ wt) := hD
  refine lv_iload_n hx hb dX6_mostAlike_4 rfl (lv_at hl 0 rfl) ?_
  refine lv_bipush (v := 7) hx hb dX6_mostAlike_5 (by decide +kernel) ?_
  refine lv_icmp_ge (tgt := 42) hx hb dX6_mostAlike_7 (by decide) (fun c_1 => ?_) (fun c_1 => ?_)
  · rw [Int32.le_iff_toInt_le] at c_1
    refine lv_iload_n hx hb dX6_mostAlike_42 rfl (lv_at hl 1 rfl) ?_
    have hP9 := tw_right hP
    have hD9 := tw_rightD hD
    exact W.iret (v := x4_1) hx hb hr (gq_endI wt ⟨hT, hW⟩ hP9 hD9 hS) hS.2.2 dX6_mostAlike_43
  · rw [Int32.le_iff_toInt_le] at c_1
    refine lv_iload_n hx hb dX6_mostAlike_10 rfl (lv_at hl 0 rfl) ?_
    refine lv_aload_n hx hb dX6_mostAlike_11 rfl (lv_at hl 2 rfl) ?_
    refine tr_get (ci := 6) hx hb ht hown hK hT hP k_t (by decide) i_X6 rfl 3 (by decide) wd_482 rfl dX6_mostAlike_12 (fun v hv hf_2 => ?_)
    obtain ⟨n_3, rfl⟩ := hv
    refine gt_callI (wr := []) (va_runSN (As := [.int x4_0, .int n_3]) (rest := []) ⟨hx, hb, hml, hown, ht⟩ (d_isIn l G Γ H.size wt hT x4_0 n_3) ⟨va_cnB 2 ht (tb_good (ts_good wd_803)) rfl rfl rfl (hK.2.1 _ wn_1191 rfl) (ht _ wd_122) (by decide +kernel) ⟨Nat.le_of_ble_eq_true rfl, Nat.le_of_ble_eq_true rfl⟩, ht _ wd_802, trivial⟩ (gc_preS hK (tw_right hP) (tw_rightD hD)) rfl rfl hl.1 rfl (lv_room (Nat.le_of_ble_eq_true rfl)) dX6_mostAlike_15 ⟨Nat.le_of_ble_eq_true rfl, Nat.le_of_ble_eq_true rfl⟩) hP hD hS hA (fun r_4 wt H locs hw hP hD hS => ?_)
    obtain ⟨hT, hkp, lo_r_4, hi_r_4⟩ := hw
    have hW := hW.call (show ∀ x ∈ [], x ∈ [] by decide) hkp
    have hf_2 := hkp _ _ _ _ (by decide) (by decide) hf_2
    refine lv_if_eq (tgt := 34) hx hb dX6_mostAlike_18 (by decide) (fun c_5 => ?_) (fun c_5 => ?_)
    · rw [← Int32.toInt_inj] at c_5
      refine lv_iload_n hx hb dX6_mostAlike_34 rfl (lv_at hl 1 rfl) ?_
      refine lv_istore_n (lv' := [(2, .int x4_1), (3, .int x4_0), (0, .ref t), (1, .int w)]) hx hb dX6_mostAlike_35 rfl hl (by decide) rfl (fun ls hl => ?_)
      obtain ⟨t_6, et_6⟩ : ∃ zz_ : Int32, x4_0 + Int32.ofInt (1) = zz_ := ⟨_, rfl⟩
      have ft_6 : t_6.toInt = x4_0.toInt + (1 : Int32).toInt := ia_add (y := 1) et_6 (by omega) (by omega)
      refine lv_iinc (v := t_6) (lv' := [(3, .int t_6), (2, .int x4_1), (0, .ref t), (1, .int w)]) hx hb dX6_mostAlike_36 hl (k := 1) rfl et_6 (by decide) rfl (fun ls hl => ?_)
      refine lv_goto (tgt := 4) hx hb dX6_mostAlike_39 (by decide) ?_
      exact ih4 (t_6, x4_1) (show 0 ≤ t_6.toInt ∧ t_6.toInt ≤ 7 from ⟨by omega, by omega⟩) (show (7 - t_6.toInt).toNat < (7 - x4_0.toInt).toNat by omega) H locs wt ls hT hW hP hD hS (lv_sub hl [0, 1, 2, 3] rfl)
    · rw [← Int32.toInt_inj] at c_5
      refine lv_iload_n hx hb dX6_mostAlike_21 rfl (lv_at hl 1 rfl) ?_
      refine lv_aload_n hx hb dX6_mostAlike_22 rfl (lv_at hl 2 rfl) ?_
      refine lv_iload_n hx hb dX6_mostAlike_23 rfl (lv_at hl 0 rfl) ?_
      refine lv_iload_n hx hb dX6_mostAlike_24 rfl (lv_at hl 3 rfl) ?_
      refine gt_callI (wr := []) (va_runV (As := [.int x4_0, .int w]) (rest := [.int x4_1]) ⟨hx, hb, hml, hown, ht⟩ (d_alike l G Γ H.size wt hT t x4_0 w k_t (by omega) (by omega) (by omega) (by omega)) (cwV 2 ht (ts_gV wd_1192 wd_1194 wd_37 wd_133 wd_1195) rfl rfl rfl (by decide +kernel) ⟨Nat.le_of_ble_eq_true rfl, Nat.le_of_ble_eq_true rfl⟩) (gt_preW (ci := 6) hK hT (tw_right hP) (tw_rightD hD) k_t (by decide) rfl) rfl rfl hl.1 rfl (lv_room (Nat.le_of_ble_eq_true rfl)) dX6_mostAlike_25 ⟨Nat.le_of_ble_eq_true rfl, Nat.le_of_ble_eq_true rfl⟩) hP hD hS hA (fun r_7 wt H locs hw hP hD hS => ?_)
      obtain ⟨hT, hkp⟩ := hw
      have hW := hW.call (show ∀ x ∈ [], x ∈ [] by decide) hkp
      have hf_2 := hkp _ _ _ _ (by decide) (by decide) hf_2
      refine va_mmax hx hb (by rw [hml]; exact hl.1.symm) hown (ht _ wd_1196) (ht _ wd_909) (ht _ wd_140) (ht _ wd_910) (Nat.le_of_ble_eq_true rfl) (Nat.le_of_ble_eq_true rfl) (Nat.zero_le _) (Nat.zero_le _) dX6_mostAlike_28 ?_
      refine lv_topi (fun t_8 et_8 => ?_)
      have ft_8 := ia_max et_8.symm
      refine lv_goto (tgt := 35) hx hb dX6_mostAlike_31 (by decide) ?_
      refine lv_istore_n (lv' := [(2, .int t_8), (3, .int x4_0), (0, .ref t), (1, .int w)]) hx hb dX6_mostAlike_35 rfl hl (by decide) rfl (fun ls hl => ?_)
      obtain ⟨t_9, et_9⟩ : ∃ zz_ : Int32, x4_0 + Int32.ofInt (1) = zz_ := ⟨_, rfl⟩
      have ft_9 : t_9.toInt = x4_0.toInt + (1 : Int32).toInt := ia_add (y := 1) et_9 (by omega) (by omega)
      refine lv_iinc (v := t_9) (lv' := [(3, .int t_9), (2, .int t_8), (0, .ref t), (1, .int w)]) hx hb dX6_mostAlike_36 hl (k := 1) rfl et_9 (by decide) rfl (fun ls hl => ?_)
      refine lv_goto (tgt := 4) hx hb dX6_mostAlike_39 (by decide) ?_
      exact ih4 (t_9, t_8) (show 0 ≤ t_9.toInt ∧ t_9.toInt ≤ 7 from ⟨by omega, by omega⟩) (show (7 - t_9.toInt).toNat < (7 - x4_0.toInt).toNat by omega) H locs wt ls hT hW hP hD hS (lv_sub hl [0, 1, 2, 3] rfl)

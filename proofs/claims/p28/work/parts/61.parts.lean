theorem wd_140 : (Jvm.Cond.initialized "java/lang/Math") ∈ tb_L := tb_in (i := 140) (by decide +kernel) (by decide +kernel)
theorem wd_182 : (Jvm.Cond.fieldLink "SilentSale$Terms" (15 : Nat) "SilentSale$Terms" "bidders" "I") ∈ tb_L := tb_in (i := 182) (by decide +kernel) (by decide +kernel)
theorem wd_906 : (Jvm.Cond.code ({ cls := "SilentSale$Terms", name := "mostWorth", desc := "(II)I" } : Jvm.MethodName) prog_11_method_3_code (5 : Nat) (Option.some Jvm.ClassFile.FieldType.int)) ∈ tb_L := tb_in (i := 906) (by decide +kernel) (by decide +kernel)
theorem wd_908 : (Jvm.Cond.methodLink "SilentSale$Terms" (44 : Nat) ({ cls := "java/lang/Math", name := "max", desc := "(II)I" } : Jvm.MethodName)) ∈ tb_L := tb_in (i := 908) (by decide +kernel) (by decide +kernel)
theorem wd_909 : (Jvm.Cond.static ({ cls := "java/lang/Math", name := "max", desc := "(II)I" } : Jvm.MethodName)) ∈ tb_L := tb_in (i := 909) (by decide +kernel) (by decide +kernel)
theorem wd_910 : (Jvm.Cond.code ({ cls := "java/lang/Math", name := "max", desc := "(II)I" } : Jvm.MethodName) prog_16_method_65_code (2 : Nat) (Option.some Jvm.ClassFile.FieldType.int)) ∈ tb_L := tb_in (i := 910) (by decide +kernel) (by decide +kernel)
theorem dX9_mostWorth_0 : decode cX9_mostWorth 0 = .ok (.iconst 0, 1) := by decide +kernel
theorem dX9_mostWorth_1 : decode cX9_mostWorth 1 = .ok (.istore_n 3, 1) := by decide +kernel
theorem dX9_mostWorth_2 : decode cX9_mostWorth 2 = .ok (.iconst 0, 1) := by decide +kernel
theorem dX9_mostWorth_3 : decode cX9_mostWorth 3 = .ok (.istore 4, 2) := by decide +kernel
theorem dX9_mostWorth_5 : decode cX9_mostWorth 5 = .ok (.iload 4, 2) := by decide +kernel
theorem dX9_mostWorth_7 : decode cX9_mostWorth 7 = .ok (.aload_n 0, 1) := by decide +kernel
theorem dX9_mostWorth_8 : decode cX9_mostWorth 8 = .ok (.getfield 15, 3) := by decide +kernel
theorem dX9_mostWorth_11 : decode cX9_mostWorth 11 = .ok (.if_icmp .ge 38, 3) := by decide +kernel
theorem dX9_mostWorth_14 : decode cX9_mostWorth 14 = .ok (.iload 4, 2) := by decide +kernel
theorem dX9_mostWorth_16 : decode cX9_mostWorth 16 = .ok (.iload_n 1, 1) := by decide +kernel
theorem dX9_mostWorth_17 : decode cX9_mostWorth 17 = .ok (.invokestatic 40, 3) := by decide +kernel
theorem dX9_mostWorth_20 : decode cX9_mostWorth 20 = .ok (.ifCond .eq 21, 3) := by decide +kernel
theorem dX9_mostWorth_23 : decode cX9_mostWorth 23 = .ok (.iload_n 3, 1) := by decide +kernel
theorem dX9_mostWorth_24 : decode cX9_mostWorth 24 = .ok (.aload_n 0, 1) := by decide +kernel
theorem dX9_mostWorth_25 : decode cX9_mostWorth 25 = .ok (.getfield 31, 3) := by decide +kernel
theorem dX9_mostWorth_28 : decode cX9_mostWorth 28 = .ok (.iload 4, 2) := by decide +kernel
theorem dX9_mostWorth_30 : decode cX9_mostWorth 30 = .ok (.iconst 3, 1) := by decide +kernel
theorem dX9_mostWorth_31 : decode cX9_mostWorth 31 = .ok (.imul, 1) := by decide +kernel
theorem dX9_mostWorth_32 : decode cX9_mostWorth 32 = .ok (.iload_n 2, 1) := by decide +kernel
theorem dX9_mostWorth_33 : decode cX9_mostWorth 33 = .ok (.iadd, 1) := by decide +kernel
theorem dX9_mostWorth_34 : decode cX9_mostWorth 34 = .ok (.iaload, 1) := by decide +kernel
theorem dX9_mostWorth_35 : decode cX9_mostWorth 35 = .ok (.invokestatic 44, 3) := by decide +kernel
theorem dX9_mostWorth_38 : decode cX9_mostWorth 38 = .ok (.goto 4, 3) := by decide +kernel
theorem dX9_mostWorth_41 : decode cX9_mostWorth 41 = .ok (.iload_n 3, 1) := by decide +kernel
theorem dX9_mostWorth_42 : decode cX9_mostWorth 42 = .ok (.istore_n 3, 1) := by decide +kernel
theorem dX9_mostWorth_43 : decode cX9_mostWorth 43 = .ok (.iinc 4 1, 3) := by decide +kernel
theorem dX9_mostWorth_46 : decode cX9_mostWorth 46 = .ok (.goto (-41), 3) := by decide +kernel
theorem dX9_mostWorth_49 : decode cX9_mostWorth 49 = .ok (.iload_n 3, 1) := by decide +kernel
theorem dX9_mostWorth_50 : decode cX9_mostWorth 50 = .ok (.ireturn, 1) := by decide +kernel
theorem wd_139 : (Jvm.Cond.initialized "java/lang/System") ∈ tb_L := tb_in (i := 139) (by decide +kernel) (by decide +kernel)
theorem wd_179 : (Jvm.Cond.fieldLink "SilentSale$Terms" (9 : Nat) "SilentSale$Terms" "longest" "I") ∈ tb_L := tb_in (i := 179) (by decide +kernel) (by decide +kernel)
theorem wd_187 : (Jvm.Cond.fieldLink "SilentSale$Terms" (18 : Nat) "SilentSale$Terms" "lots" "I") ∈ tb_L := tb_in (i := 187) (by decide +kernel) (by decide +kernel)
theorem wd_191 : (Jvm.Cond.fieldLink "SilentSale$Terms" (21 : Nat) "SilentSale$Terms" "tricks" "I") ∈ tb_L := tb_in (i := 191) (by decide +kernel) (by decide +kernel)
theorem wd_194 : (Jvm.Cond.fieldLink "SilentSale$Terms" (24 : Nat) "SilentSale$Terms" "purse" "[I") ∈ tb_L := tb_in (i := 194) (by decide +kernel) (by decide +kernel)
theorem wd_196 : (Jvm.Cond.fieldLink "SilentSale$Terms" (28 : Nat) "SilentSale$Terms" "patience" "[I") ∈ tb_L := tb_in (i := 196) (by decide +kernel) (by decide +kernel)
theorem wd_199 : (Jvm.Cond.fieldLink "SilentSale$Terms" (34 : Nat) "SilentSale$Terms" "price" "[I") ∈ tb_L := tb_in (i := 199) (by decide +kernel) (by decide +kernel)
theorem wd_203 : (Jvm.Cond.fieldLink "SilentSale$Terms" (37 : Nat) "SilentSale$Terms" "effect" "[I") ∈ tb_L := tb_in (i := 203) (by decide +kernel) (by decide +kernel)
theorem wd_691 : (Jvm.Cond.code ({ cls := "SilentSale$Terms", name := "copyFrom", desc := "(LSilentSale$Terms;)V" } : Jvm.MethodName) prog_11_method_4_code (2 : Nat) (Option.none : Option Jvm.ClassFile.FieldType)) ∈ tb_L := tb_in (i := 691) (by decide +kernel) (by decide +kernel)
theorem wd_692 : (Jvm.Cond.methodLink "SilentSale$Terms" (50 : Nat) ({ cls := "java/lang/System", name := "arraycopy", desc := "(Ljava/lang/Object;ILjava/lang/Object;II)V" } : Jvm.MethodName)) ∈ tb_L := tb_in (i := 692) (by decide +kernel) (by decide +kernel)
theorem wd_693 : (Jvm.Cond.static ({ cls := "java/lang/System", name := "arraycopy", desc := "(Ljava/lang/Object;ILjava/lang/Object;II)V" } : Jvm.MethodName)) ∈ tb_L := tb_in (i := 693) (by decide +kernel) (by decide +kernel)
theorem wd_694 : (Jvm.Cond.native ({ cls := "java/lang/System", name := "arraycopy", desc := "(Ljava/lang/Object;ILjava/lang/Object;II)V" } : Jvm.MethodName)) ∈ tb_L := tb_in (i := 694) (by decide +kernel) (by decide +kernel)
theorem dX9_copyFrom_0 : decode cX9_copyFrom 0 = .ok (.aload_n 0, 1) := by decide +kernel
theorem dX9_copyFrom_1 : decode cX9_copyFrom 1 = .ok (.aload_n 1, 1) := by decide +kernel
theorem dX9_copyFrom_2 : decode cX9_copyFrom 2 = .ok (.getfield 9, 3) := by decide +kernel
theorem dX9_copyFrom_5 : decode cX9_copyFrom 5 = .ok (.putfield 9, 3) := by decide +kernel
theorem dX9_copyFrom_8 : decode cX9_copyFrom 8 = .ok (.aload_n 0, 1) := by decide +kernel
theorem dX9_copyFrom_9 : decode cX9_copyFrom 9 = .ok (.aload_n 1, 1) := by decide +kernel
theorem dX9_copyFrom_10 : decode cX9_copyFrom 10 = .ok (.getfield 15, 3) := by decide +kernel
theorem dX9_copyFrom_13 : decode cX9_copyFrom 13 = .ok (.putfield 15, 3) := by decide +kernel
theorem dX9_copyFrom_16 : decode cX9_copyFrom 16 = .ok (.aload_n 0, 1) := by decide +kernel
theorem dX9_copyFrom_17 : decode cX9_copyFrom 17 = .ok (.aload_n 1, 1) := by decide +kernel
theorem dX9_copyFrom_18 : decode cX9_copyFrom 18 = .ok (.getfield 18, 3) := by decide +kernel
theorem dX9_copyFrom_21 : decode cX9_copyFrom 21 = .ok (.putfield 18, 3) := by decide +kernel
theorem dX9_copyFrom_24 : decode cX9_copyFrom 24 = .ok (.aload_n 0, 1) := by decide +kernel
theorem dX9_copyFrom_25 : decode cX9_copyFrom 25 = .ok (.aload_n 1, 1) := by decide +kernel
theorem dX9_copyFrom_26 : decode cX9_copyFrom 26 = .ok (.getfield 21, 3) := by decide +kernel
theorem dX9_copyFrom_29 : decode cX9_copyFrom 29 = .ok (.putfield 21, 3) := by decide +kernel
theorem dX9_copyFrom_32 : decode cX9_copyFrom 32 = .ok (.aload_n 1, 1) := by decide +kernel
theorem dX9_copyFrom_33 : decode cX9_copyFrom 33 = .ok (.getfield 24, 3) := by decide +kernel
theorem dX9_copyFrom_36 : decode cX9_copyFrom 36 = .ok (.iconst 0, 1) := by decide +kernel
theorem dX9_copyFrom_37 : decode cX9_copyFrom 37 = .ok (.aload_n 0, 1) := by decide +kernel
theorem dX9_copyFrom_38 : decode cX9_copyFrom 38 = .ok (.getfield 24, 3) := by decide +kernel
theorem dX9_copyFrom_41 : decode cX9_copyFrom 41 = .ok (.iconst 0, 1) := by decide +kernel
theorem dX9_copyFrom_42 : decode cX9_copyFrom 42 = .ok (.iconst 5, 1) := by decide +kernel
theorem dX9_copyFrom_43 : decode cX9_copyFrom 43 = .ok (.invokestatic 50, 3) := by decide +kernel
theorem dX9_copyFrom_46 : decode cX9_copyFrom 46 = .ok (.aload_n 1, 1) := by decide +kernel
theorem dX9_copyFrom_47 : decode cX9_copyFrom 47 = .ok (.getfield 28, 3) := by decide +kernel
theorem dX9_copyFrom_50 : decode cX9_copyFrom 50 = .ok (.iconst 0, 1) := by decide +kernel
theorem dX9_copyFrom_51 : decode cX9_copyFrom 51 = .ok (.aload_n 0, 1) := by decide +kernel
theorem dX9_copyFrom_52 : decode cX9_copyFrom 52 = .ok (.getfield 28, 3) := by decide +kernel
theorem dX9_copyFrom_55 : decode cX9_copyFrom 55 = .ok (.iconst 0, 1) := by decide +kernel
theorem dX9_copyFrom_56 : decode cX9_copyFrom 56 = .ok (.iconst 5, 1) := by decide +kernel
theorem dX9_copyFrom_57 : decode cX9_copyFrom 57 = .ok (.invokestatic 50, 3) := by decide +kernel
theorem dX9_copyFrom_60 : decode cX9_copyFrom 60 = .ok (.aload_n 1, 1) := by decide +kernel
theorem dX9_copyFrom_61 : decode cX9_copyFrom 61 = .ok (.getfield 31, 3) := by decide +kernel
theorem dX9_copyFrom_64 : decode cX9_copyFrom 64 = .ok (.iconst 0, 1) := by decide +kernel
theorem dX9_copyFrom_65 : decode cX9_copyFrom 65 = .ok (.aload_n 0, 1) := by decide +kernel
theorem dX9_copyFrom_66 : decode cX9_copyFrom 66 = .ok (.getfield 31, 3) := by decide +kernel
theorem dX9_copyFrom_69 : decode cX9_copyFrom 69 = .ok (.iconst 0, 1) := by decide +kernel
theorem dX9_copyFrom_70 : decode cX9_copyFrom 70 = .ok (.bipush 15, 2) := by decide +kernel
theorem dX9_copyFrom_72 : decode cX9_copyFrom 72 = .ok (.invokestatic 50, 3) := by decide +kernel
theorem dX9_copyFrom_75 : decode cX9_copyFrom 75 = .ok (.aload_n 1, 1) := by decide +kernel
theorem dX9_copyFrom_76 : decode cX9_copyFrom 76 = .ok (.getfield 34, 3) := by decide +kernel
theorem dX9_copyFrom_79 : decode cX9_copyFrom 79 = .ok (.iconst 0, 1) := by decide +kernel
theorem dX9_copyFrom_80 : decode cX9_copyFrom 80 = .ok (.aload_n 0, 1) := by decide +kernel
theorem dX9_copyFrom_81 : decode cX9_copyFrom 81 = .ok (.getfield 34, 3) := by decide +kernel
theorem dX9_copyFrom_84 : decode cX9_copyFrom 84 = .ok (.iconst 0, 1) := by decide +kernel
theorem dX9_copyFrom_85 : decode cX9_copyFrom 85 = .ok (.iconst 3, 1) := by decide +kernel
theorem dX9_copyFrom_86 : decode cX9_copyFrom 86 = .ok (.invokestatic 50, 3) := by decide +kernel
theorem dX9_copyFrom_89 : decode cX9_copyFrom 89 = .ok (.aload_n 1, 1) := by decide +kernel
theorem dX9_copyFrom_90 : decode cX9_copyFrom 90 = .ok (.getfield 37, 3) := by decide +kernel
theorem dX9_copyFrom_93 : decode cX9_copyFrom 93 = .ok (.iconst 0, 1) := by decide +kernel
theorem dX9_copyFrom_94 : decode cX9_copyFrom 94 = .ok (.aload_n 0, 1) := by decide +kernel
theorem dX9_copyFrom_95 : decode cX9_copyFrom 95 = .ok (.getfield 37, 3) := by decide +kernel
theorem dX9_copyFrom_98 : decode cX9_copyFrom 98 = .ok (.iconst 0, 1) := by decide +kernel
theorem dX9_copyFrom_99 : decode cX9_copyFrom 99 = .ok (.iconst 3, 1) := by decide +kernel
theorem dX9_copyFrom_100 : decode cX9_copyFrom 100 = .ok (.invokestatic 50, 3) := by decide +kernel
theorem dX9_copyFrom_103 : decode cX9_copyFrom 103 = .ok (.return_, 1) := by decide +kernel
theorem wd_266 : (Jvm.Cond.fieldLink "SilentSale$State" (39 : Nat) "SilentSale$State" "minutes" "I") ∈ tb_L := tb_in (i := 266) (by decide +kernel) (by decide +kernel)
theorem wd_865 : (Jvm.Cond.code ({ cls := "SilentSale$State", name := "copyFrom", desc := "(LSilentSale$State;)V" } : Jvm.MethodName) prog_9_method_2_code (2 : Nat) (Option.none : Option Jvm.ClassFile.FieldType)) ∈ tb_L := tb_in (i := 865) (by decide +kernel) (by decide +kernel)
theorem wd_866 : (Jvm.Cond.methodLink "SilentSale$State" (43 : Nat) ({ cls := "java/lang/System", name := "arraycopy", desc := "(Ljava/lang/Object;ILjava/lang/Object;II)V" } : Jvm.MethodName)) ∈ tb_L := tb_in (i := 866) (by decide +kernel) (by decide +kernel)
theorem dX7_copyFrom_0 : decode cX7_copyFrom 0 = .ok (.aload_n 1, 1) := by decide +kernel
theorem dX7_copyFrom_1 : decode cX7_copyFrom 1 = .ok (.getfield 9, 3) := by decide +kernel
theorem dX7_copyFrom_4 : decode cX7_copyFrom 4 = .ok (.iconst 0, 1) := by decide +kernel
theorem dX7_copyFrom_5 : decode cX7_copyFrom 5 = .ok (.aload_n 0, 1) := by decide +kernel
theorem dX7_copyFrom_6 : decode cX7_copyFrom 6 = .ok (.getfield 9, 3) := by decide +kernel
theorem dX7_copyFrom_9 : decode cX7_copyFrom 9 = .ok (.iconst 0, 1) := by decide +kernel
theorem dX7_copyFrom_10 : decode cX7_copyFrom 10 = .ok (.iconst 5, 1) := by decide +kernel
theorem dX7_copyFrom_11 : decode cX7_copyFrom 11 = .ok (.invokestatic 43, 3) := by decide +kernel
theorem dX7_copyFrom_14 : decode cX7_copyFrom 14 = .ok (.aload_n 1, 1) := by decide +kernel
theorem dX7_copyFrom_15 : decode cX7_copyFrom 15 = .ok (.getfield 15, 3) := by decide +kernel
theorem dX7_copyFrom_18 : decode cX7_copyFrom 18 = .ok (.iconst 0, 1) := by decide +kernel
theorem dX7_copyFrom_19 : decode cX7_copyFrom 19 = .ok (.aload_n 0, 1) := by decide +kernel
theorem dX7_copyFrom_20 : decode cX7_copyFrom 20 = .ok (.getfield 15, 3) := by decide +kernel
theorem dX7_copyFrom_23 : decode cX7_copyFrom 23 = .ok (.iconst 0, 1) := by decide +kernel
theorem dX7_copyFrom_24 : decode cX7_copyFrom 24 = .ok (.iconst 5, 1) := by decide +kernel
theorem dX7_copyFrom_25 : decode cX7_copyFrom 25 = .ok (.invokestatic 43, 3) := by decide +kernel
theorem dX7_copyFrom_28 : decode cX7_copyFrom 28 = .ok (.aload_n 1, 1) := by decide +kernel
theorem dX7_copyFrom_29 : decode cX7_copyFrom 29 = .ok (.getfield 18, 3) := by decide +kernel
theorem dX7_copyFrom_32 : decode cX7_copyFrom 32 = .ok (.iconst 0, 1) := by decide +kernel
theorem dX7_copyFrom_33 : decode cX7_copyFrom 33 = .ok (.aload_n 0, 1) := by decide +kernel
theorem dX7_copyFrom_34 : decode cX7_copyFrom 34 = .ok (.getfield 18, 3) := by decide +kernel
theorem dX7_copyFrom_37 : decode cX7_copyFrom 37 = .ok (.iconst 0, 1) := by decide +kernel
theorem dX7_copyFrom_38 : decode cX7_copyFrom 38 = .ok (.iconst 5, 1) := by decide +kernel
theorem dX7_copyFrom_39 : decode cX7_copyFrom 39 = .ok (.invokestatic 43, 3) := by decide +kernel
theorem dX7_copyFrom_42 : decode cX7_copyFrom 42 = .ok (.aload_n 1, 1) := by decide +kernel
theorem dX7_copyFrom_43 : decode cX7_copyFrom 43 = .ok (.getfield 21, 3) := by decide +kernel
theorem dX7_copyFrom_46 : decode cX7_copyFrom 46 = .ok (.iconst 0, 1) := by decide +kernel
theorem dX7_copyFrom_47 : decode cX7_copyFrom 47 = .ok (.aload_n 0, 1) := by decide +kernel
theorem dX7_copyFrom_48 : decode cX7_copyFrom 48 = .ok (.getfield 21, 3) := by decide +kernel
theorem dX7_copyFrom_51 : decode cX7_copyFrom 51 = .ok (.iconst 0, 1) := by decide +kernel
theorem dX7_copyFrom_52 : decode cX7_copyFrom 52 = .ok (.iconst 5, 1) := by decide +kernel
theorem dX7_copyFrom_53 : decode cX7_copyFrom 53 = .ok (.invokestatic 43, 3) := by decide +kernel
theorem dX7_copyFrom_56 : decode cX7_copyFrom 56 = .ok (.aload_n 1, 1) := by decide +kernel
theorem dX7_copyFrom_57 : decode cX7_copyFrom 57 = .ok (.getfield 24, 3) := by decide +kernel
theorem dX7_copyFrom_60 : decode cX7_copyFrom 60 = .ok (.iconst 0, 1) := by decide +kernel
theorem dX7_copyFrom_61 : decode cX7_copyFrom 61 = .ok (.aload_n 0, 1) := by decide +kernel
theorem dX7_copyFrom_62 : decode cX7_copyFrom 62 = .ok (.getfield 24, 3) := by decide +kernel
theorem dX7_copyFrom_65 : decode cX7_copyFrom 65 = .ok (.iconst 0, 1) := by decide +kernel
theorem dX7_copyFrom_66 : decode cX7_copyFrom 66 = .ok (.iconst 3, 1) := by decide +kernel
theorem dX7_copyFrom_67 : decode cX7_copyFrom 67 = .ok (.invokestatic 43, 3) := by decide +kernel
theorem dX7_copyFrom_70 : decode cX7_copyFrom 70 = .ok (.aload_n 1, 1) := by decide +kernel
theorem dX7_copyFrom_71 : decode cX7_copyFrom 71 = .ok (.getfield 27, 3) := by decide +kernel
theorem dX7_copyFrom_74 : decode cX7_copyFrom 74 = .ok (.iconst 0, 1) := by decide +kernel
theorem dX7_copyFrom_75 : decode cX7_copyFrom 75 = .ok (.aload_n 0, 1) := by decide +kernel
theorem dX7_copyFrom_76 : decode cX7_copyFrom 76 = .ok (.getfield 27, 3) := by decide +kernel
theorem dX7_copyFrom_79 : decode cX7_copyFrom 79 = .ok (.iconst 0, 1) := by decide +kernel
theorem dX7_copyFrom_80 : decode cX7_copyFrom 80 = .ok (.iconst 3, 1) := by decide +kernel
theorem dX7_copyFrom_81 : decode cX7_copyFrom 81 = .ok (.invokestatic 43, 3) := by decide +kernel
theorem dX7_copyFrom_84 : decode cX7_copyFrom 84 = .ok (.aload_n 1, 1) := by decide +kernel
theorem dX7_copyFrom_85 : decode cX7_copyFrom 85 = .ok (.getfield 30, 3) := by decide +kernel
theorem dX7_copyFrom_88 : decode cX7_copyFrom 88 = .ok (.iconst 0, 1) := by decide +kernel
theorem dX7_copyFrom_89 : decode cX7_copyFrom 89 = .ok (.aload_n 0, 1) := by decide +kernel
theorem dX7_copyFrom_90 : decode cX7_copyFrom 90 = .ok (.getfield 30, 3) := by decide +kernel
theorem dX7_copyFrom_93 : decode cX7_copyFrom 93 = .ok (.iconst 0, 1) := by decide +kernel
theorem dX7_copyFrom_94 : decode cX7_copyFrom 94 = .ok (.iconst 3, 1) := by decide +kernel
theorem dX7_copyFrom_95 : decode cX7_copyFrom 95 = .ok (.invokestatic 43, 3) := by decide +kernel
theorem dX7_copyFrom_98 : decode cX7_copyFrom 98 = .ok (.aload_n 1, 1) := by decide +kernel
theorem dX7_copyFrom_99 : decode cX7_copyFrom 99 = .ok (.getfield 33, 3) := by decide +kernel
theorem dX7_copyFrom_102 : decode cX7_copyFrom 102 = .ok (.iconst 0, 1) := by decide +kernel
theorem dX7_copyFrom_103 : decode cX7_copyFrom 103 = .ok (.aload_n 0, 1) := by decide +kernel
theorem dX7_copyFrom_104 : decode cX7_copyFrom 104 = .ok (.getfield 33, 3) := by decide +kernel
theorem dX7_copyFrom_107 : decode cX7_copyFrom 107 = .ok (.iconst 0, 1) := by decide +kernel
theorem dX7_copyFrom_108 : decode cX7_copyFrom 108 = .ok (.iconst 3, 1) := by decide +kernel
theorem dX7_copyFrom_109 : decode cX7_copyFrom 109 = .ok (.invokestatic 43, 3) := by decide +kernel
theorem dX7_copyFrom_112 : decode cX7_copyFrom 112 = .ok (.aload_n 1, 1) := by decide +kernel
theorem dX7_copyFrom_113 : decode cX7_copyFrom 113 = .ok (.getfield 36, 3) := by decide +kernel
theorem dX7_copyFrom_116 : decode cX7_copyFrom 116 = .ok (.iconst 0, 1) := by decide +kernel
theorem dX7_copyFrom_117 : decode cX7_copyFrom 117 = .ok (.aload_n 0, 1) := by decide +kernel
theorem dX7_copyFrom_118 : decode cX7_copyFrom 118 = .ok (.getfield 36, 3) := by decide +kernel
theorem dX7_copyFrom_121 : decode cX7_copyFrom 121 = .ok (.iconst 0, 1) := by decide +kernel
theorem dX7_copyFrom_122 : decode cX7_copyFrom 122 = .ok (.iconst 3, 1) := by decide +kernel
theorem dX7_copyFrom_123 : decode cX7_copyFrom 123 = .ok (.invokestatic 43, 3) := by decide +kernel
theorem dX7_copyFrom_126 : decode cX7_copyFrom 126 = .ok (.aload_n 0, 1) := by decide +kernel
theorem dX7_copyFrom_127 : decode cX7_copyFrom 127 = .ok (.aload_n 1, 1) := by decide +kernel
theorem dX7_copyFrom_128 : decode cX7_copyFrom 128 = .ok (.getfield 39, 3) := by decide +kernel
theorem dX7_copyFrom_131 : decode cX7_copyFrom 131 = .ok (.putfield 39, 3) := by decide +kernel
theorem dX7_copyFrom_134 : decode cX7_copyFrom 134 = .ok (.return_, 1) := by decide +kernel
theorem wd_316 : (Jvm.Cond.fieldLink "SilentSale$Logs" (9 : Nat) "SilentSale$Logs" "lots" "[I") ∈ tb_L := tb_in (i := 316) (by decide +kernel) (by decide +kernel)
theorem wd_317 : (Jvm.Cond.fieldLink "SilentSale$Logs" (15 : Nat) "SilentSale$Logs" "bidders" "[I") ∈ tb_L := tb_in (i := 317) (by decide +kernel) (by decide +kernel)
theorem wd_318 : (Jvm.Cond.fieldLink "SilentSale$Logs" (18 : Nat) "SilentSale$Logs" "coins" "[I") ∈ tb_L := tb_in (i := 318) (by decide +kernel) (by decide +kernel)
theorem wd_319 : (Jvm.Cond.fieldLink "SilentSale$Logs" (21 : Nat) "SilentSale$Logs" "size" "I") ∈ tb_L := tb_in (i := 319) (by decide +kernel) (by decide +kernel)
theorem wd_1236 : (Jvm.Cond.code ({ cls := "SilentSale$Logs", name := "copyFrom", desc := "(LSilentSale$Logs;)V" } : Jvm.MethodName) prog_4_method_4_code (2 : Nat) (Option.none : Option Jvm.ClassFile.FieldType)) ∈ tb_L := tb_in (i := 1236) (by decide +kernel) (by decide +kernel)
theorem wd_1237 : (Jvm.Cond.methodLink "SilentSale$Logs" (25 : Nat) ({ cls := "java/lang/System", name := "arraycopy", desc := "(Ljava/lang/Object;ILjava/lang/Object;II)V" } : Jvm.MethodName)) ∈ tb_L := tb_in (i := 1237) (by decide +kernel) (by decide +kernel)
theorem dX2_copyFrom_0 : decode cX2_copyFrom 0 = .ok (.aload_n 1, 1) := by decide +kernel
theorem dX2_copyFrom_1 : decode cX2_copyFrom 1 = .ok (.getfield 9, 3) := by decide +kernel
theorem dX2_copyFrom_4 : decode cX2_copyFrom 4 = .ok (.iconst 0, 1) := by decide +kernel
theorem dX2_copyFrom_5 : decode cX2_copyFrom 5 = .ok (.aload_n 0, 1) := by decide +kernel
theorem dX2_copyFrom_6 : decode cX2_copyFrom 6 = .ok (.getfield 9, 3) := by decide +kernel
theorem dX2_copyFrom_9 : decode cX2_copyFrom 9 = .ok (.iconst 0, 1) := by decide +kernel
theorem dX2_copyFrom_10 : decode cX2_copyFrom 10 = .ok (.bipush 10, 2) := by decide +kernel
theorem dX2_copyFrom_12 : decode cX2_copyFrom 12 = .ok (.invokestatic 25, 3) := by decide +kernel
theorem dX2_copyFrom_15 : decode cX2_copyFrom 15 = .ok (.aload_n 1, 1) := by decide +kernel
theorem dX2_copyFrom_16 : decode cX2_copyFrom 16 = .ok (.getfield 15, 3) := by decide +kernel
theorem dX2_copyFrom_19 : decode cX2_copyFrom 19 = .ok (.iconst 0, 1) := by decide +kernel
theorem dX2_copyFrom_20 : decode cX2_copyFrom 20 = .ok (.aload_n 0, 1) := by decide +kernel
theorem dX2_copyFrom_21 : decode cX2_copyFrom 21 = .ok (.getfield 15, 3) := by decide +kernel
theorem dX2_copyFrom_24 : decode cX2_copyFrom 24 = .ok (.iconst 0, 1) := by decide +kernel
theorem dX2_copyFrom_25 : decode cX2_copyFrom 25 = .ok (.bipush 10, 2) := by decide +kernel
theorem dX2_copyFrom_27 : decode cX2_copyFrom 27 = .ok (.invokestatic 25, 3) := by decide +kernel
theorem dX2_copyFrom_30 : decode cX2_copyFrom 30 = .ok (.aload_n 1, 1) := by decide +kernel
theorem dX2_copyFrom_31 : decode cX2_copyFrom 31 = .ok (.getfield 18, 3) := by decide +kernel
theorem dX2_copyFrom_34 : decode cX2_copyFrom 34 = .ok (.iconst 0, 1) := by decide +kernel
theorem dX2_copyFrom_35 : decode cX2_copyFrom 35 = .ok (.aload_n 0, 1) := by decide +kernel
theorem dX2_copyFrom_36 : decode cX2_copyFrom 36 = .ok (.getfield 18, 3) := by decide +kernel
theorem dX2_copyFrom_39 : decode cX2_copyFrom 39 = .ok (.iconst 0, 1) := by decide +kernel
theorem dX2_copyFrom_40 : decode cX2_copyFrom 40 = .ok (.bipush 10, 2) := by decide +kernel
theorem dX2_copyFrom_42 : decode cX2_copyFrom 42 = .ok (.invokestatic 25, 3) := by decide +kernel
theorem dX2_copyFrom_45 : decode cX2_copyFrom 45 = .ok (.aload_n 0, 1) := by decide +kernel
theorem dX2_copyFrom_46 : decode cX2_copyFrom 46 = .ok (.aload_n 1, 1) := by decide +kernel
theorem dX2_copyFrom_47 : decode cX2_copyFrom 47 = .ok (.getfield 21, 3) := by decide +kernel
theorem dX2_copyFrom_50 : decode cX2_copyFrom 50 = .ok (.putfield 21, 3) := by decide +kernel
theorem dX2_copyFrom_53 : decode cX2_copyFrom 53 = .ok (.return_, 1) := by decide +kernel
theorem wd_698 : (Jvm.Cond.code ({ cls := "SilentSale$Logs", name := "clear", desc := "()V" } : Jvm.MethodName) prog_4_method_2_code (1 : Nat) (Option.none : Option Jvm.ClassFile.FieldType)) ∈ tb_L := tb_in (i := 698) (by decide +kernel) (by decide +kernel)
theorem dX2_clear_0 : decode cX2_clear 0 = .ok (.aload_n 0, 1) := by decide +kernel
theorem dX2_clear_1 : decode cX2_clear 1 = .ok (.iconst 0, 1) := by decide +kernel
theorem dX2_clear_2 : decode cX2_clear 2 = .ok (.putfield 21, 3) := by decide +kernel
theorem dX2_clear_5 : decode cX2_clear 5 = .ok (.return_, 1) := by decide +kernel
theorem wd_1157 : (Jvm.Cond.code ({ cls := "SilentSale$Logs", name := "add", desc := "(III)Z" } : Jvm.MethodName) prog_4_method_3_code (4 : Nat) (Option.some Jvm.ClassFile.FieldType.boolean)) ∈ tb_L := tb_in (i := 1157) (by decide +kernel) (by decide +kernel)
theorem dX2_add_0 : decode cX2_add 0 = .ok (.aload_n 0, 1) := by decide +kernel
theorem dX2_add_1 : decode cX2_add 1 = .ok (.getfield 21, 3) := by decide +kernel
theorem dX2_add_4 : decode cX2_add 4 = .ok (.bipush 10, 2) := by decide +kernel
theorem dX2_add_6 : decode cX2_add 6 = .ok (.if_icmp .lt 5, 3) := by decide +kernel
theorem dX2_add_9 : decode cX2_add 9 = .ok (.iconst 0, 1) := by decide +kernel
theorem dX2_add_10 : decode cX2_add 10 = .ok (.ireturn, 1) := by decide +kernel
theorem dX2_add_11 : decode cX2_add 11 = .ok (.aload_n 0, 1) := by decide +kernel
theorem dX2_add_12 : decode cX2_add 12 = .ok (.getfield 9, 3) := by decide +kernel
theorem dX2_add_15 : decode cX2_add 15 = .ok (.aload_n 0, 1) := by decide +kernel
theorem dX2_add_16 : decode cX2_add 16 = .ok (.getfield 21, 3) := by decide +kernel
theorem dX2_add_19 : decode cX2_add 19 = .ok (.iload_n 1, 1) := by decide +kernel
theorem dX2_add_20 : decode cX2_add 20 = .ok (.iastore, 1) := by decide +kernel
theorem dX2_add_21 : decode cX2_add 21 = .ok (.aload_n 0, 1) := by decide +kernel
theorem dX2_add_22 : decode cX2_add 22 = .ok (.getfield 15, 3) := by decide +kernel
theorem dX2_add_25 : decode cX2_add 25 = .ok (.aload_n 0, 1) := by decide +kernel
theorem dX2_add_26 : decode cX2_add 26 = .ok (.getfield 21, 3) := by decide +kernel
theorem dX2_add_29 : decode cX2_add 29 = .ok (.iload_n 2, 1) := by decide +kernel
theorem dX2_add_30 : decode cX2_add 30 = .ok (.iastore, 1) := by decide +kernel
theorem dX2_add_31 : decode cX2_add 31 = .ok (.aload_n 0, 1) := by decide +kernel
theorem dX2_add_32 : decode cX2_add 32 = .ok (.getfield 18, 3) := by decide +kernel
theorem dX2_add_35 : decode cX2_add 35 = .ok (.aload_n 0, 1) := by decide +kernel
theorem dX2_add_36 : decode cX2_add 36 = .ok (.getfield 21, 3) := by decide +kernel
theorem dX2_add_39 : decode cX2_add 39 = .ok (.iload_n 2, 1) := by decide +kernel
theorem dX2_add_40 : decode cX2_add 40 = .ok (.iconst (-1), 1) := by decide +kernel
theorem dX2_add_41 : decode cX2_add 41 = .ok (.if_icmp .ne 7, 3) := by decide +kernel
theorem dX2_add_44 : decode cX2_add 44 = .ok (.iconst 0, 1) := by decide +kernel
theorem dX2_add_45 : decode cX2_add 45 = .ok (.goto 4, 3) := by decide +kernel
theorem dX2_add_48 : decode cX2_add 48 = .ok (.iload_n 3, 1) := by decide +kernel
theorem dX2_add_49 : decode cX2_add 49 = .ok (.iastore, 1) := by decide +kernel
theorem dX2_add_50 : decode cX2_add 50 = .ok (.aload_n 0, 1) := by decide +kernel
theorem dX2_add_51 : decode cX2_add 51 = .ok (.dup, 1) := by decide +kernel
theorem dX2_add_52 : decode cX2_add 52 = .ok (.getfield 21, 3) := by decide +kernel
theorem dX2_add_55 : decode cX2_add 55 = .ok (.iconst 1, 1) := by decide +kernel
theorem dX2_add_56 : decode cX2_add 56 = .ok (.iadd, 1) := by decide +kernel
theorem dX2_add_57 : decode cX2_add 57 = .ok (.putfield 21, 3) := by decide +kernel
theorem dX2_add_60 : decode cX2_add 60 = .ok (.iconst 1, 1) := by decide +kernel
theorem dX2_add_61 : decode cX2_add 61 = .ok (.ireturn, 1) := by decide +kernel
theorem wd_1177 : (Jvm.Cond.code ({ cls := "SilentSale$Logs", name := "agree", desc := "(III)Z" } : Jvm.MethodName) prog_4_method_5_code (5 : Nat) (Option.some Jvm.ClassFile.FieldType.boolean)) ∈ tb_L := tb_in (i := 1177) (by decide +kernel) (by decide +kernel)
theorem dX2_agree_0 : decode cX2_agree 0 = .ok (.iconst 0, 1) := by decide +kernel
theorem dX2_agree_1 : decode cX2_agree 1 = .ok (.istore 4, 2) := by decide +kernel
theorem dX2_agree_3 : decode cX2_agree 3 = .ok (.iload 4, 2) := by decide +kernel
theorem dX2_agree_5 : decode cX2_agree 5 = .ok (.aload_n 0, 1) := by decide +kernel
theorem dX2_agree_6 : decode cX2_agree 6 = .ok (.getfield 21, 3) := by decide +kernel
theorem dX2_agree_9 : decode cX2_agree 9 = .ok (.if_icmp .ge 44, 3) := by decide +kernel
theorem dX2_agree_12 : decode cX2_agree 12 = .ok (.aload_n 0, 1) := by decide +kernel
theorem dX2_agree_13 : decode cX2_agree 13 = .ok (.getfield 9, 3) := by decide +kernel
theorem dX2_agree_16 : decode cX2_agree 16 = .ok (.iload 4, 2) := by decide +kernel
theorem dX2_agree_18 : decode cX2_agree 18 = .ok (.iaload, 1) := by decide +kernel
theorem dX2_agree_19 : decode cX2_agree 19 = .ok (.iload_n 1, 1) := by decide +kernel
theorem dX2_agree_20 : decode cX2_agree 20 = .ok (.if_icmp .ne 27, 3) := by decide +kernel
theorem dX2_agree_23 : decode cX2_agree 23 = .ok (.aload_n 0, 1) := by decide +kernel
theorem dX2_agree_24 : decode cX2_agree 24 = .ok (.getfield 15, 3) := by decide +kernel
theorem dX2_agree_27 : decode cX2_agree 27 = .ok (.iload 4, 2) := by decide +kernel
theorem dX2_agree_29 : decode cX2_agree 29 = .ok (.iaload, 1) := by decide +kernel
theorem dX2_agree_30 : decode cX2_agree 30 = .ok (.iload_n 2, 1) := by decide +kernel
theorem dX2_agree_31 : decode cX2_agree 31 = .ok (.if_icmp .ne 14, 3) := by decide +kernel
theorem dX2_agree_34 : decode cX2_agree 34 = .ok (.aload_n 0, 1) := by decide +kernel
theorem dX2_agree_35 : decode cX2_agree 35 = .ok (.getfield 18, 3) := by decide +kernel
theorem dX2_agree_38 : decode cX2_agree 38 = .ok (.iload 4, 2) := by decide +kernel
theorem dX2_agree_40 : decode cX2_agree 40 = .ok (.iaload, 1) := by decide +kernel
theorem dX2_agree_41 : decode cX2_agree 41 = .ok (.iload_n 3, 1) := by decide +kernel
theorem dX2_agree_42 : decode cX2_agree 42 = .ok (.if_icmp .eq 5, 3) := by decide +kernel
theorem dX2_agree_45 : decode cX2_agree 45 = .ok (.iconst 0, 1) := by decide +kernel
theorem dX2_agree_46 : decode cX2_agree 46 = .ok (.ireturn, 1) := by decide +kernel
theorem dX2_agree_47 : decode cX2_agree 47 = .ok (.iinc 4 1, 3) := by decide +kernel
theorem dX2_agree_50 : decode cX2_agree 50 = .ok (.goto (-47), 3) := by decide +kernel
theorem dX2_agree_53 : decode cX2_agree 53 = .ok (.iconst 1, 1) := by decide +kernel
theorem dX2_agree_54 : decode cX2_agree 54 = .ok (.ireturn, 1) := by decide +kernel
theorem wd_301 : (Jvm.Cond.fieldLink "SilentSale$Past" (21 : Nat) "SilentSale$Past" "size" "I") ∈ tb_L := tb_in (i := 301) (by decide +kernel) (by decide +kernel)
theorem wd_702 : (Jvm.Cond.code ({ cls := "SilentSale$Past", name := "forget", desc := "()V" } : Jvm.MethodName) prog_5_method_2_code (1 : Nat) (Option.none : Option Jvm.ClassFile.FieldType)) ∈ tb_L := tb_in (i := 702) (by decide +kernel) (by decide +kernel)
theorem dX3_forget_0 : decode cX3_forget 0 = .ok (.aload_n 0, 1) := by decide +kernel
theorem dX3_forget_1 : decode cX3_forget 1 = .ok (.iconst 0, 1) := by decide +kernel
theorem dX3_forget_2 : decode cX3_forget 2 = .ok (.putfield 21, 3) := by decide +kernel
theorem dX3_forget_5 : decode cX3_forget 5 = .ok (.return_, 1) := by decide +kernel
theorem wd_299 : (Jvm.Cond.fieldLink "SilentSale$Past" (11 : Nat) "SilentSale$Past" "states" "[LSilentSale$State;") ∈ tb_L := tb_in (i := 299) (by decide +kernel) (by decide +kernel)
theorem wd_300 : (Jvm.Cond.fieldLink "SilentSale$Past" (17 : Nat) "SilentSale$Past" "next" "I") ∈ tb_L := tb_in (i := 300) (by decide +kernel) (by decide +kernel)
theorem wd_746 : (Jvm.Cond.static ({ cls := "java/lang/Math", name := "min", desc := "(II)I" } : Jvm.MethodName)) ∈ tb_L := tb_in (i := 746) (by decide +kernel) (by decide +kernel)
theorem wd_747 : (Jvm.Cond.code ({ cls := "java/lang/Math", name := "min", desc := "(II)I" } : Jvm.MethodName) prog_16_method_69_code (2 : Nat) (Option.some Jvm.ClassFile.FieldType.int)) ∈ tb_L := tb_in (i := 747) (by decide +kernel) (by decide +kernel)
theorem wd_861 : (Jvm.Cond.code ({ cls := "SilentSale$Past", name := "keep", desc := "(LSilentSale$State;)V" } : Jvm.MethodName) prog_5_method_3_code (2 : Nat) (Option.none : Option Jvm.ClassFile.FieldType)) ∈ tb_L := tb_in (i := 861) (by decide +kernel) (by decide +kernel)
theorem wd_862 : (Jvm.Cond.methodLink "SilentSale$Past" (25 : Nat) ({ cls := "SilentSale$State", name := "copyFrom", desc := "(LSilentSale$State;)V" } : Jvm.MethodName)) ∈ tb_L := tb_in (i := 862) (by decide +kernel) (by decide +kernel)
theorem wd_863 : (Jvm.Cond.instanceMethod ({ cls := "SilentSale$State", name := "copyFrom", desc := "(LSilentSale$State;)V" } : Jvm.MethodName)) ∈ tb_L := tb_in (i := 863) (by decide +kernel) (by decide +kernel)
theorem wd_864 : (Jvm.Cond.selects "SilentSale$State" ({ cls := "SilentSale$State", name := "copyFrom", desc := "(LSilentSale$State;)V" } : Jvm.MethodName) ({ cls := "SilentSale$State", name := "copyFrom", desc := "(LSilentSale$State;)V" } : Jvm.MethodName)) ∈ tb_L := tb_in (i := 864) (by decide +kernel) (by decide +kernel)
theorem wd_867 : (Jvm.Cond.methodLink "SilentSale$Past" (29 : Nat) ({ cls := "java/lang/Math", name := "min", desc := "(II)I" } : Jvm.MethodName)) ∈ tb_L := tb_in (i := 867) (by decide +kernel) (by decide +kernel)
theorem dX3_keep_0 : decode cX3_keep 0 = .ok (.aload_n 0, 1) := by decide +kernel
theorem dX3_keep_1 : decode cX3_keep 1 = .ok (.getfield 11, 3) := by decide +kernel
theorem dX3_keep_4 : decode cX3_keep 4 = .ok (.aload_n 0, 1) := by decide +kernel
theorem dX3_keep_5 : decode cX3_keep 5 = .ok (.getfield 17, 3) := by decide +kernel
theorem dX3_keep_8 : decode cX3_keep 8 = .ok (.aaload, 1) := by decide +kernel
theorem dX3_keep_9 : decode cX3_keep 9 = .ok (.aload_n 1, 1) := by decide +kernel
theorem dX3_keep_10 : decode cX3_keep 10 = .ok (.invokevirtual 25, 3) := by decide +kernel
theorem dX3_keep_13 : decode cX3_keep 13 = .ok (.aload_n 0, 1) := by decide +kernel
theorem dX3_keep_14 : decode cX3_keep 14 = .ok (.aload_n 0, 1) := by decide +kernel
theorem dX3_keep_15 : decode cX3_keep 15 = .ok (.getfield 17, 3) := by decide +kernel
theorem dX3_keep_18 : decode cX3_keep 18 = .ok (.iconst 1, 1) := by decide +kernel
theorem dX3_keep_19 : decode cX3_keep 19 = .ok (.iadd, 1) := by decide +kernel
theorem dX3_keep_20 : decode cX3_keep 20 = .ok (.bipush 20, 2) := by decide +kernel
theorem dX3_keep_22 : decode cX3_keep 22 = .ok (.irem, 1) := by decide +kernel
theorem dX3_keep_23 : decode cX3_keep 23 = .ok (.putfield 17, 3) := by decide +kernel
theorem dX3_keep_26 : decode cX3_keep 26 = .ok (.aload_n 0, 1) := by decide +kernel
theorem dX3_keep_27 : decode cX3_keep 27 = .ok (.bipush 20, 2) := by decide +kernel
theorem dX3_keep_29 : decode cX3_keep 29 = .ok (.aload_n 0, 1) := by decide +kernel
theorem dX3_keep_30 : decode cX3_keep 30 = .ok (.getfield 21, 3) := by decide +kernel
theorem dX3_keep_33 : decode cX3_keep 33 = .ok (.iconst 1, 1) := by decide +kernel
theorem dX3_keep_34 : decode cX3_keep 34 = .ok (.iadd, 1) := by decide +kernel
theorem dX3_keep_35 : decode cX3_keep 35 = .ok (.invokestatic 29, 3) := by decide +kernel
theorem dX3_keep_38 : decode cX3_keep 38 = .ok (.putfield 21, 3) := by decide +kernel
theorem dX3_keep_41 : decode cX3_keep 41 = .ok (.return_, 1) := by decide +kernel
theorem wd_979 : (Jvm.Cond.code ({ cls := "SilentSale$Past", name := "takeBack", desc := "(LSilentSale$State;)Z" } : Jvm.MethodName) prog_5_method_4_code (2 : Nat) (Option.some Jvm.ClassFile.FieldType.boolean)) ∈ tb_L := tb_in (i := 979) (by decide +kernel) (by decide +kernel)
theorem dX3_takeBack_0 : decode cX3_takeBack 0 = .ok (.aload_n 0, 1) := by decide +kernel
theorem dX3_takeBack_1 : decode cX3_takeBack 1 = .ok (.getfield 21, 3) := by decide +kernel
theorem dX3_takeBack_4 : decode cX3_takeBack 4 = .ok (.ifCond .ne 5, 3) := by decide +kernel
theorem dX3_takeBack_7 : decode cX3_takeBack 7 = .ok (.iconst 0, 1) := by decide +kernel
theorem dX3_takeBack_8 : decode cX3_takeBack 8 = .ok (.ireturn, 1) := by decide +kernel
theorem dX3_takeBack_9 : decode cX3_takeBack 9 = .ok (.aload_n 0, 1) := by decide +kernel
theorem dX3_takeBack_10 : decode cX3_takeBack 10 = .ok (.aload_n 0, 1) := by decide +kernel
theorem dX3_takeBack_11 : decode cX3_takeBack 11 = .ok (.getfield 17, 3) := by decide +kernel
theorem dX3_takeBack_14 : decode cX3_takeBack 14 = .ok (.bipush 20, 2) := by decide +kernel
theorem dX3_takeBack_16 : decode cX3_takeBack 16 = .ok (.iadd, 1) := by decide +kernel
theorem dX3_takeBack_17 : decode cX3_takeBack 17 = .ok (.iconst 1, 1) := by decide +kernel
theorem dX3_takeBack_18 : decode cX3_takeBack 18 = .ok (.isub, 1) := by decide +kernel
theorem dX3_takeBack_19 : decode cX3_takeBack 19 = .ok (.bipush 20, 2) := by decide +kernel
theorem dX3_takeBack_21 : decode cX3_takeBack 21 = .ok (.irem, 1) := by decide +kernel
theorem dX3_takeBack_22 : decode cX3_takeBack 22 = .ok (.putfield 17, 3) := by decide +kernel
theorem dX3_takeBack_25 : decode cX3_takeBack 25 = .ok (.aload_n 1, 1) := by decide +kernel
theorem dX3_takeBack_26 : decode cX3_takeBack 26 = .ok (.aload_n 0, 1) := by decide +kernel
theorem dX3_takeBack_27 : decode cX3_takeBack 27 = .ok (.getfield 11, 3) := by decide +kernel
theorem dX3_takeBack_30 : decode cX3_takeBack 30 = .ok (.aload_n 0, 1) := by decide +kernel
theorem dX3_takeBack_31 : decode cX3_takeBack 31 = .ok (.getfield 17, 3) := by decide +kernel
theorem dX3_takeBack_34 : decode cX3_takeBack 34 = .ok (.aaload, 1) := by decide +kernel
theorem dX3_takeBack_35 : decode cX3_takeBack 35 = .ok (.invokevirtual 25, 3) := by decide +kernel
theorem dX3_takeBack_38 : decode cX3_takeBack 38 = .ok (.aload_n 0, 1) := by decide +kernel
theorem dX3_takeBack_39 : decode cX3_takeBack 39 = .ok (.dup, 1) := by decide +kernel
theorem dX3_takeBack_40 : decode cX3_takeBack 40 = .ok (.getfield 21, 3) := by decide +kernel
theorem dX3_takeBack_43 : decode cX3_takeBack 43 = .ok (.iconst 1, 1) := by decide +kernel
theorem dX3_takeBack_44 : decode cX3_takeBack 44 = .ok (.isub, 1) := by decide +kernel
theorem dX3_takeBack_45 : decode cX3_takeBack 45 = .ok (.putfield 21, 3) := by decide +kernel
theorem dX3_takeBack_48 : decode cX3_takeBack 48 = .ok (.iconst 1, 1) := by decide +kernel
theorem dX3_takeBack_49 : decode cX3_takeBack 49 = .ok (.ireturn, 1) := by decide +kernel
theorem wd_195 : (Jvm.Cond.fieldLink "SilentSale$State" (49 : Nat) "SilentSale$Terms" "purse" "[I") ∈ tb_L := tb_in (i := 195) (by decide +kernel) (by decide +kernel)
theorem wd_197 : (Jvm.Cond.fieldLink "SilentSale$State" (52 : Nat) "SilentSale$Terms" "patience" "[I") ∈ tb_L := tb_in (i := 197) (by decide +kernel) (by decide +kernel)
theorem wd_496 : (Jvm.Cond.code ({ cls := "SilentSale$State", name := "open", desc := "(LSilentSale$Terms;)V" } : Jvm.MethodName) prog_9_method_3_code (3 : Nat) (Option.none : Option Jvm.ClassFile.FieldType)) ∈ tb_L := tb_in (i := 496) (by decide +kernel) (by decide +kernel)
theorem dX7_open_0 : decode cX7_open 0 = .ok (.iconst 0, 1) := by decide +kernel
theorem dX7_open_1 : decode cX7_open 1 = .ok (.istore_n 2, 1) := by decide +kernel
theorem dX7_open_2 : decode cX7_open 2 = .ok (.iload_n 2, 1) := by decide +kernel
theorem dX7_open_3 : decode cX7_open 3 = .ok (.iconst 5, 1) := by decide +kernel
theorem dX7_open_4 : decode cX7_open 4 = .ok (.if_icmp .ge 47, 3) := by decide +kernel
theorem dX7_open_7 : decode cX7_open 7 = .ok (.aload_n 0, 1) := by decide +kernel
theorem dX7_open_8 : decode cX7_open 8 = .ok (.getfield 9, 3) := by decide +kernel
theorem dX7_open_11 : decode cX7_open 11 = .ok (.iload_n 2, 1) := by decide +kernel
theorem dX7_open_12 : decode cX7_open 12 = .ok (.aload_n 1, 1) := by decide +kernel
theorem dX7_open_13 : decode cX7_open 13 = .ok (.getfield 49, 3) := by decide +kernel
theorem dX7_open_16 : decode cX7_open 16 = .ok (.iload_n 2, 1) := by decide +kernel
theorem dX7_open_17 : decode cX7_open 17 = .ok (.iaload, 1) := by decide +kernel
theorem dX7_open_18 : decode cX7_open 18 = .ok (.iastore, 1) := by decide +kernel
theorem dX7_open_19 : decode cX7_open 19 = .ok (.aload_n 0, 1) := by decide +kernel
theorem dX7_open_20 : decode cX7_open 20 = .ok (.getfield 15, 3) := by decide +kernel
theorem dX7_open_23 : decode cX7_open 23 = .ok (.iload_n 2, 1) := by decide +kernel
theorem dX7_open_24 : decode cX7_open 24 = .ok (.aload_n 1, 1) := by decide +kernel
theorem dX7_open_25 : decode cX7_open 25 = .ok (.getfield 52, 3) := by decide +kernel
theorem dX7_open_28 : decode cX7_open 28 = .ok (.iload_n 2, 1) := by decide +kernel
theorem dX7_open_29 : decode cX7_open 29 = .ok (.iaload, 1) := by decide +kernel
theorem dX7_open_30 : decode cX7_open 30 = .ok (.iastore, 1) := by decide +kernel
theorem dX7_open_31 : decode cX7_open 31 = .ok (.aload_n 0, 1) := by decide +kernel
theorem dX7_open_32 : decode cX7_open 32 = .ok (.getfield 18, 3) := by decide +kernel
theorem dX7_open_35 : decode cX7_open 35 = .ok (.iload_n 2, 1) := by decide +kernel
theorem dX7_open_36 : decode cX7_open 36 = .ok (.iconst (-1), 1) := by decide +kernel
theorem dX7_open_37 : decode cX7_open 37 = .ok (.iastore, 1) := by decide +kernel
theorem dX7_open_38 : decode cX7_open 38 = .ok (.aload_n 0, 1) := by decide +kernel
theorem dX7_open_39 : decode cX7_open 39 = .ok (.getfield 21, 3) := by decide +kernel
theorem dX7_open_42 : decode cX7_open 42 = .ok (.iload_n 2, 1) := by decide +kernel
theorem dX7_open_43 : decode cX7_open 43 = .ok (.iconst 0, 1) := by decide +kernel
theorem dX7_open_44 : decode cX7_open 44 = .ok (.iastore, 1) := by decide +kernel
theorem dX7_open_45 : decode cX7_open 45 = .ok (.iinc 2 1, 3) := by decide +kernel
theorem dX7_open_48 : decode cX7_open 48 = .ok (.goto (-46), 3) := by decide +kernel
theorem dX7_open_51 : decode cX7_open 51 = .ok (.iconst 0, 1) := by decide +kernel
theorem dX7_open_52 : decode cX7_open 52 = .ok (.istore_n 2, 1) := by decide +kernel
theorem dX7_open_53 : decode cX7_open 53 = .ok (.iload_n 2, 1) := by decide +kernel
theorem dX7_open_54 : decode cX7_open 54 = .ok (.iconst 3, 1) := by decide +kernel
theorem dX7_open_55 : decode cX7_open 55 = .ok (.if_icmp .ge 44, 3) := by decide +kernel
theorem dX7_open_58 : decode cX7_open 58 = .ok (.aload_n 0, 1) := by decide +kernel
theorem dX7_open_59 : decode cX7_open 59 = .ok (.getfield 24, 3) := by decide +kernel
theorem dX7_open_62 : decode cX7_open 62 = .ok (.iload_n 2, 1) := by decide +kernel
theorem dX7_open_63 : decode cX7_open 63 = .ok (.iconst 0, 1) := by decide +kernel
theorem dX7_open_64 : decode cX7_open 64 = .ok (.iastore, 1) := by decide +kernel
theorem dX7_open_65 : decode cX7_open 65 = .ok (.aload_n 0, 1) := by decide +kernel
theorem dX7_open_66 : decode cX7_open 66 = .ok (.getfield 27, 3) := by decide +kernel
theorem dX7_open_69 : decode cX7_open 69 = .ok (.iload_n 2, 1) := by decide +kernel
theorem dX7_open_70 : decode cX7_open 70 = .ok (.iconst 0, 1) := by decide +kernel
theorem dX7_open_71 : decode cX7_open 71 = .ok (.iastore, 1) := by decide +kernel
theorem dX7_open_72 : decode cX7_open 72 = .ok (.aload_n 0, 1) := by decide +kernel
theorem dX7_open_73 : decode cX7_open 73 = .ok (.getfield 30, 3) := by decide +kernel
theorem dX7_open_76 : decode cX7_open 76 = .ok (.iload_n 2, 1) := by decide +kernel
theorem dX7_open_77 : decode cX7_open 77 = .ok (.iconst (-1), 1) := by decide +kernel
theorem dX7_open_78 : decode cX7_open 78 = .ok (.iastore, 1) := by decide +kernel
theorem dX7_open_79 : decode cX7_open 79 = .ok (.aload_n 0, 1) := by decide +kernel
theorem dX7_open_80 : decode cX7_open 80 = .ok (.getfield 33, 3) := by decide +kernel
theorem dX7_open_83 : decode cX7_open 83 = .ok (.iload_n 2, 1) := by decide +kernel
theorem dX7_open_84 : decode cX7_open 84 = .ok (.iconst 0, 1) := by decide +kernel
theorem dX7_open_85 : decode cX7_open 85 = .ok (.iastore, 1) := by decide +kernel
theorem dX7_open_86 : decode cX7_open 86 = .ok (.aload_n 0, 1) := by decide +kernel
theorem dX7_open_87 : decode cX7_open 87 = .ok (.getfield 36, 3) := by decide +kernel
theorem dX7_open_90 : decode cX7_open 90 = .ok (.iload_n 2, 1) := by decide +kernel
theorem dX7_open_91 : decode cX7_open 91 = .ok (.iconst 0, 1) := by decide +kernel
theorem dX7_open_92 : decode cX7_open 92 = .ok (.iastore, 1) := by decide +kernel
theorem dX7_open_93 : decode cX7_open 93 = .ok (.iinc 2 1, 3) := by decide +kernel
theorem dX7_open_96 : decode cX7_open 96 = .ok (.goto (-43), 3) := by decide +kernel
theorem dX7_open_99 : decode cX7_open 99 = .ok (.aload_n 0, 1) := by decide +kernel
theorem dX7_open_100 : decode cX7_open 100 = .ok (.iconst 0, 1) := by decide +kernel
theorem dX7_open_101 : decode cX7_open 101 = .ok (.putfield 39, 3) := by decide +kernel
theorem dX7_open_104 : decode cX7_open 104 = .ok (.return_, 1) := by decide +kernel
set_option maxHeartbeats 4000000 in
set_option maxRecDepth 100000 in
theorem d_mostWorth (l : Launch) (G : gg_T) (Γ : Nat → Nat) (sz : Nat) (wt : va_W) (hT : tk_ty G Γ wt) (t : Nat) (b : Int32) (w : Int32) (k_t : Γ t = 10) (lo_w : 0 ≤ w.toInt) (hi_w : w.toInt ≤ 2) : Met l yX9_mostWorth (ts_L yX9_mostWorth cX9_mostWorth 5 (some .int)) ({ frames := 1, cells := 0, slots := 0, locals := 21 }) (gc_P G wt sz [.ref t, .int b, .int w]) (gc_I G (va_A wt sz) (fun r (u : va_W) => tk_ty G Γ u ∧ tk_kp [] wt u) (fun u => u)) 0 0 (va_A wt sz) := by
  refine Met.ofW (cc := cX9_mostWorth) (maxL := 5) (ret := (some .int)) (by decide) rfl ?_
  intro p e s m args below meth c s₁ B hml hv
  obtain ⟨rfl, hsz, hP, hK, hD0⟩ := hv
  have hx := B.exec
  have hb := B.bytes
  have hr := B.returns
  have ht := ts_ht (atoms_spec (ws := ts_L yX9_mostWorth cX9_mostWorth 5 (some .int)) B.pre)
  have hown : s.vm.findClass RX9 = some m.cls := findClass_of_methodNamed B.named
  have hlocks := B.notSynchronized
  subst hsz
  have hD := hD0.self (sz := s.heap.size)
  generalize hAe : va_A wt s.heap.size = A at hD ⊢
  have hA : ∀ q : Nat, s.heap.size ≤ q → A q := fun q h => by rw [← hAe]; exact Or.inr h
  clear hAe hD0
  have hS : va_S A s.heap s.heap [] := va_S.rf
  obtain ⟨w0, hw0⟩ : ∃ z, z = wt := ⟨_, rfl⟩
  have hW : tk_kp [] w0 wt := by rw [hw0]; exact tk_kp.rf
  rw [← hw0]
  clear hw0
  have hP : va_P (gg_D G) classes ([] ++ wt) s.heap := hP
  have hD : va_D A ([] ++ wt) := hD
  have hl := lv_entry ([.ref t, .int b, .int w]) (n := 5) (Nat.le_of_ble_eq_true rfl)
  rw [lg_entry_eq]
  generalize (lg_sl ([.ref t, .int b, .int w]) ++ List.replicate (5 - (lg_sl ([.ref t, .int b, .int w])).length) Slot.unset).toArray = ls at hl ⊢
  have hl : lv_has ls 5 [(0, .ref t), (1, .int b), (2, .int w)] := hl
  have l0 : (0 : Int32).toInt = 0 := by decide +kernel
  have l1 : (1 : Int32).toInt = 1 := by decide +kernel
  have l3 : (3 : Int32).toInt = 3 := by decide +kernel
  refine lv_iconst (v := 0) hx hb dX9_mostWorth_0 (by decide +kernel) ?_
  refine lv_istore_n (lv' := [(3, .int 0), (0, .ref t), (1, .int b), (2, .int w)]) hx hb dX9_mostWorth_1 rfl hl (by decide) rfl (fun ls hl => ?_)
  refine lv_iconst (v := 0) hx hb dX9_mostWorth_2 (by decide +kernel) ?_
  refine lv_istore (lv' := [(4, .int 0), (3, .int 0), (0, .ref t), (1, .int b), (2, .int w)]) hx hb dX9_mostWorth_3 hl (by decide) rfl (fun ls hl => ?_)
  refine tl_loopE (Γ := Γ) (nL := 5) (fun (zz_ : Int32 × Int32) => match zz_ with | (x5_0, x5_1) => 0 ≤ x5_0.toInt ∧ x5_0.toInt ≤ 5) (fun (zz_ : Int32 × Int32) => match zz_ with | (x5_0, x5_1) => (5 - x5_0.toInt).toNat) (fun (zz_ : Int32 × Int32) => match zz_ with | (x5_0, x5_1) => [(4, .int x5_0), (3, .int x5_1), (0, .ref t), (1, .int b), (2, .int w)]) (fun (zz_ : Int32 × Int32) => match zz_ with | (x5_0, x5_1) => []) (fun (zz_ : Int32 × Int32) (w : va_W) => match zz_ with | (x5_0, x5_1) => tk_kp [] w0 w) (fun zz_ hI H locs wt ls hT hW hP hD hS hl ih5 => ?_) (0, 0) (show 0 ≤ (0 : Int32).toInt ∧ (0 : Int32).toInt ≤ 5 from ⟨by omega, by omega⟩) _ _ wt ls hT hW hP hD hS hl
  obtain ⟨x5_0, x5_1⟩ := zz_
  have hW : tk_kp [] w0 wt := hW
  have hI : 0 ≤ x5_0.toInt ∧ x5_0.toInt ≤ 5 := hI
  obtain ⟨j5_0, j5_1⟩ := hI
  have hl : lv_has ls 5 [(4, .int x5_0), (3, .int x5_1), (0, .ref t), (1, .int b), (2, .int w)] := hl
  have hP : va_P (gg_D G) classes ([] ++ wt) H := hP
  have hD : va_D A ([] ++ wt) := hD
  refine lv_iload hx hb dX9_mostWorth_5 (lv_at hl 0 rfl) ?_
  refine lv_aload_n hx hb dX9_mostWorth_7 rfl (lv_at hl 2 rfl) ?_
  refine tr_get (ci := 9) hx hb ht hown hK hT hP k_t (by decide) i_X9 rfl 1 (by decide) wd_182 rfl dX9_mostWorth_8 (fun v hv hf_1 => ?_)
  obtain ⟨n_2, rfl, lo_n_2, hi_n_2⟩ := hv
  refine lv_icmp_ge (tgt := 49) hx hb dX9_mostWorth_11 (by decide) (fun c_3 => ?_) (fun c_3 => ?_)
  · rw [Int32.le_iff_toInt_le] at c_3
    refine lv_iload_n hx hb dX9_mostWorth_49 rfl (lv_at hl 1 rfl) ?_
    have hP9 := tw_right hP
    have hD9 := tw_rightD hD
    exact W.iret (v := x5_1) hx hb hr (gq_endI wt ⟨hT, hW⟩ hP9 hD9 hS) hS.2.2 dX9_mostWorth_50
  · rw [Int32.le_iff_toInt_le] at c_3
    refine lv_iload hx hb dX9_mostWorth_14 (lv_at hl 0 rfl) ?_
    refine lv_iload_n hx hb dX9_mostWorth_16 rfl (lv_at hl 3 rfl) ?_
    refine gt_callI (wr := []) (va_runSN (As := [.int x5_0, .int b]) (rest := []) ⟨hx, hb, hml, hown, ht⟩ (d_isIn l G Γ H.size wt hT x5_0 b) ⟨va_cnB 2 ht (tb_good (ts_good wd_803)) rfl rfl rfl (hK.2.1 _ wn_907 rfl) (ht _ wd_122) (by decide +kernel) ⟨Nat.le_of_ble_eq_true rfl, Nat.le_of_ble_eq_true rfl⟩, ht _ wd_802, trivial⟩ (gc_preS hK (tw_right hP) (tw_rightD hD)) rfl rfl hl.1 rfl (lv_room (Nat.le_of_ble_eq_true rfl)) dX9_mostWorth_17 ⟨Nat.le_of_ble_eq_true rfl, Nat.le_of_ble_eq_true rfl⟩) hP hD hS hA (fun r_4 wt H locs hw hP hD hS => ?_)
    obtain ⟨hT, hkp, lo_r_4, hi_r_4⟩ := hw
    have hW := hW.call (show ∀ x ∈ [], x ∈ [] by decide) hkp
    have hf_1 := hkp _ _ _ _ (by decide) (by decide) hf_1
    refine lv_if_eq (tgt := 41) hx hb dX9_mostWorth_20 (by decide) (fun c_5 => ?_) (fun c_5 => ?_)
    · rw [← Int32.toInt_inj] at c_5
      refine lv_iload_n hx hb dX9_mostWorth_41 rfl (lv_at hl 1 rfl) ?_
      refine lv_istore_n (lv' := [(3, .int x5_1), (4, .int x5_0), (0, .ref t), (1, .int b), (2, .int w)]) hx hb dX9_mostWorth_42 rfl hl (by decide) rfl (fun ls hl => ?_)
      obtain ⟨t_6, et_6⟩ : ∃ zz_ : Int32, x5_0 + Int32.ofInt (1) = zz_ := ⟨_, rfl⟩
      have ft_6 : t_6.toInt = x5_0.toInt + (1 : Int32).toInt := ia_add (y := 1) et_6 (by omega) (by omega)
      refine lv_iinc (v := t_6) (lv' := [(4, .int t_6), (3, .int x5_1), (0, .ref t), (1, .int b), (2, .int w)]) hx hb dX9_mostWorth_43 hl (k := 1) rfl et_6 (by decide) rfl (fun ls hl => ?_)
      refine lv_goto (tgt := 5) hx hb dX9_mostWorth_46 (by decide) ?_
      exact ih5 (t_6, x5_1) (show 0 ≤ t_6.toInt ∧ t_6.toInt ≤ 5 from ⟨by omega, by omega⟩) (show (5 - t_6.toInt).toNat < (5 - x5_0.toInt).toNat by omega) H locs wt ls hT hW hP hD hS (lv_sub hl [0, 1, 2, 3, 4] rfl)
    · rw [← Int32.toInt_inj] at c_5
      refine lv_iload_n hx hb dX9_mostWorth_23 rfl (lv_at hl 1 rfl) ?_
      refine lv_aload_n hx hb dX9_mostWorth_24 rfl (lv_at hl 2 rfl) ?_
      refine tr_get (ci := 9) hx hb ht hown hK hT hP k_t (by decide) i_X9 rfl 6 (by decide) wd_198 rfl dX9_mostWorth_25 (fun v hv hf_7 => ?_)
      obtain ⟨q_8, rfl, hq_8⟩ := hv
      refine lv_iload hx hb dX9_mostWorth_28 (lv_at hl 0 rfl) ?_
      refine lv_iconst (v := 3) hx hb dX9_mostWorth_30 (by decide +kernel) ?_
      obtain ⟨t_9, et_9⟩ : ∃ zz_ : Int32, x5_0 * 3 = zz_ := ⟨_, rfl⟩
      refine gq_imul hx hb t_9 et_9 dX9_mostWorth_31 ?_
      have ft_9 := ia_mul et_9 (by rw [l3]; omega) (by rw [l3]; omega)
      rw [l3] at ft_9
      refine lv_iload_n hx hb dX9_mostWorth_32 rfl (lv_at hl 4 rfl) ?_
      obtain ⟨t_10, et_10⟩ : ∃ zz_ : Int32, t_9 + w = zz_ := ⟨_, rfl⟩
      refine gq_iadd hx hb t_10 et_10 dX9_mostWorth_33 ?_
      have ft_10 := ia_add et_10 (by omega) (by omega)
      refine tr_iald hx hb hK hT hP 24 hq_8 (by decide) (by decide) (show vp_in _ (tk_len 24) from ia_in (n := 15) (by omega) (by omega)) dX9_mostWorth_34 (fun n_11 hn_11 => ?_)
      clear hn_11
      refine va_mmax hx hb (by rw [hml]; exact hl.1.symm) hown (ht _ wd_908) (ht _ wd_909) (ht _ wd_140) (ht _ wd_910) (Nat.le_of_ble_eq_true rfl) (Nat.le_of_ble_eq_true rfl) (Nat.zero_le _) (Nat.zero_le _) dX9_mostWorth_35 ?_
      refine lv_topi (fun t_12 et_12 => ?_)
      have ft_12 := ia_max et_12.symm
      refine lv_goto (tgt := 42) hx hb dX9_mostWorth_38 (by decide) ?_
      refine lv_istore_n (lv' := [(3, .int t_12), (4, .int x5_0), (0, .ref t), (1, .int b), (2, .int w)]) hx hb dX9_mostWorth_42 rfl hl (by decide) rfl (fun ls hl => ?_)
      obtain ⟨t_13, et_13⟩ : ∃ zz_ : Int32, x5_0 + Int32.ofInt (1) = zz_ := ⟨_, rfl⟩
      have ft_13 : t_13.toInt = x5_0.toInt + (1 : Int32).toInt := ia_add (y := 1) et_13 (by omega) (by omega)
      refine lv_iinc (v := t_13) (lv' := [(4, .int t_13), (3, .int t_12), (0, .ref t), (1, .int b), (2, .int w)]) hx hb dX9_mostWorth_43 hl (k := 1) rfl et_13 (by decide) rfl (fun ls hl => ?_)
      refine lv_goto (tgt := 5) hx hb dX9_mostWorth_46 (by decide) ?_
      exact ih5 (t_13, t_12) (show 0 ≤ t_13.toInt ∧ t_13.toInt ≤ 5 from ⟨by omega, by omega⟩) (show (5 - t_13.toInt).toNat < (5 - x5_0.toInt).toNat by omega) H locs wt ls hT hW hP hD hS (lv_sub hl [0, 1, 2, 3, 4] rfl)
set_option maxHeartbeats 4000000 in
set_option maxRecDepth 100000 in
theorem d_T_copyFrom (l : Launch) (G : gg_T) (Γ : Nat → Nat) (sz : Nat) (wt : va_W) (hT : tk_ty G Γ wt) (t : Nat) (v : Nat) (k_t : Γ t = 10) (k_v : Γ v = 10) : Met l yX9_copyFrom (ts_L yX9_copyFrom cX9_copyFrom 2 none) ({ frames := 1, cells := 0, slots := 0, locals := 40 }) (gc_P G wt sz [.ref t, .ref v]) (gc_V G (va_A wt sz) (fun (u : va_W) => tk_ty G Γ u ∧ tk_kp [900, 901, 902, 903] wt u) (fun u => u)) 0 0 (va_A wt sz) := by
  refine Met.ofW (cc := cX9_copyFrom) (maxL := 2) (ret := none) (by decide) rfl ?_
  intro p e s m args below meth c s₁ B hml hv
  obtain ⟨rfl, hsz, hP, hK, hD0⟩ := hv
  have hx := B.exec
  have hb := B.bytes
  have hr := B.returns
  have ht := ts_ht (atoms_spec (ws := ts_L yX9_copyFrom cX9_copyFrom 2 none) B.pre)
  have hown : s.vm.findClass RX9 = some m.cls := findClass_of_methodNamed B.named
  have hlocks := B.notSynchronized
  subst hsz
  have hD := hD0.self (sz := s.heap.size)
  generalize hAe : va_A wt s.heap.size = A at hD ⊢
  have hA : ∀ q : Nat, s.heap.size ≤ q → A q := fun q h => by rw [← hAe]; exact Or.inr h
  clear hAe hD0
  have hS : va_S A s.heap s.heap [] := va_S.rf
  obtain ⟨w0, hw0⟩ : ∃ z, z = wt := ⟨_, rfl⟩
  have hW : tk_kp [900, 901, 902, 903] w0 wt := by rw [hw0]; exact tk_kp.rf
  rw [← hw0]
  clear hw0
  have hP : va_P (gg_D G) classes ([] ++ wt) s.heap := hP
  have hD : va_D A ([] ++ wt) := hD
  have hl := lv_entry ([.ref t, .ref v]) (n := 2) (Nat.le_of_ble_eq_true rfl)
  rw [lg_entry_eq]
  generalize (lg_sl ([.ref t, .ref v]) ++ List.replicate (2 - (lg_sl ([.ref t, .ref v])).length) Slot.unset).toArray = ls at hl ⊢
  have hl : lv_has ls 2 [(0, .ref t), (1, .ref v)] := hl
  refine lv_aload_n hx hb dX9_copyFrom_0 rfl (lv_at hl 0 rfl) ?_
  refine lv_aload_n hx hb dX9_copyFrom_1 rfl (lv_at hl 1 rfl) ?_
  refine tr_get (ci := 9) hx hb ht hown hK hT hP k_v (by decide) i_X9 rfl 0 (by decide) wd_179 rfl dX9_copyFrom_2 (fun v hv hf_1 => ?_)
  obtain ⟨n_2, rfl⟩ := hv
  refine tr_put (ci := 9) hx hb ht hown hK hT hP hD hS k_t (by decide) i_X9 tyX9 tyX9_ok nmX9 rfl 0 (by decide) wd_179 rfl rfl rfl rfl ⟨_, rfl⟩ dX9_copyFrom_5 (fun H locs wt hT hfl hfn hP hD hS => ?_)
  have hW := hW.obj (show 9 * 100 + 0 ∈ [900, 901, 902, 903] by decide) hfl
  have hf_3 := hfn
  refine lv_aload_n hx hb dX9_copyFrom_8 rfl (lv_at hl 0 rfl) ?_
  refine lv_aload_n hx hb dX9_copyFrom_9 rfl (lv_at hl 1 rfl) ?_
  refine tr_get (ci := 9) hx hb ht hown hK hT hP k_v (by decide) i_X9 rfl 1 (by decide) wd_182 rfl dX9_copyFrom_10 (fun v hv hf_4 => ?_)
  obtain ⟨n_5, rfl, lo_n_5, hi_n_5⟩ := hv
  refine tr_put (ci := 9) hx hb ht hown hK hT hP hD hS k_t (by decide) i_X9 tyX9 tyX9_ok nmX9 rfl 1 (by decide) wd_182 rfl rfl rfl rfl ⟨_, rfl, by omega, by omega⟩ dX9_copyFrom_13 (fun H locs wt hT hfl hfn hP hD hS => ?_)
  have hW := hW.obj (show 9 * 100 + 1 ∈ [900, 901, 902, 903] by decide) hfl
  have hf_3 := hfl _ _ _ _ (Or.inr (Or.inr (by decide))) hf_3
  have hf_6 := hfn
  refine lv_aload_n hx hb dX9_copyFrom_16 rfl (lv_at hl 0 rfl) ?_
  refine lv_aload_n hx hb dX9_copyFrom_17 rfl (lv_at hl 1 rfl) ?_
  refine tr_get (ci := 9) hx hb ht hown hK hT hP k_v (by decide) i_X9 rfl 2 (by decide) wd_187 rfl dX9_copyFrom_18 (fun v hv hf_7 => ?_)
  obtain ⟨n_8, rfl, lo_n_8, hi_n_8⟩ := hv
  refine tr_put (ci := 9) hx hb ht hown hK hT hP hD hS k_t (by decide) i_X9 tyX9 tyX9_ok nmX9 rfl 2 (by decide) wd_187 rfl rfl rfl rfl ⟨_, rfl, by omega, by omega⟩ dX9_copyFrom_21 (fun H locs wt hT hfl hfn hP hD hS => ?_)
  have hW := hW.obj (show 9 * 100 + 2 ∈ [900, 901, 902, 903] by decide) hfl
  have hf_3 := hfl _ _ _ _ (Or.inr (Or.inr (by decide))) hf_3
  have hf_6 := hfl _ _ _ _ (Or.inr (Or.inr (by decide))) hf_6
  have hf_9 := hfn
  refine lv_aload_n hx hb dX9_copyFrom_24 rfl (lv_at hl 0 rfl) ?_
  refine lv_aload_n hx hb dX9_copyFrom_25 rfl (lv_at hl 1 rfl) ?_
  refine tr_get (ci := 9) hx hb ht hown hK hT hP k_v (by decide) i_X9 rfl 3 (by decide) wd_191 rfl dX9_copyFrom_26 (fun v hv hf_10 => ?_)
  obtain ⟨n_11, rfl, lo_n_11, hi_n_11⟩ := hv
  refine tr_put (ci := 9) hx hb ht hown hK hT hP hD hS k_t (by decide) i_X9 tyX9 tyX9_ok nmX9 rfl 3 (by decide) wd_191 rfl rfl rfl rfl ⟨_, rfl, by omega, by omega⟩ dX9_copyFrom_29 (fun H locs wt hT hfl hfn hP hD hS => ?_)
  have hW := hW.obj (show 9 * 100 + 3 ∈ [900, 901, 902, 903] by decide) hfl
  have hf_3 := hfl _ _ _ _ (Or.inr (Or.inr (by decide))) hf_3
  have hf_6 := hfl _ _ _ _ (Or.inr (Or.inr (by decide))) hf_6
  have hf_9 := hfl _ _ _ _ (Or.inr (Or.inr (by decide))) hf_9
  have hf_12 := hfn
  refine lv_aload_n hx hb dX9_copyFrom_32 rfl (lv_at hl 1 rfl) ?_
  refine tr_get (ci := 9) hx hb ht hown hK hT hP k_v (by decide) i_X9 rfl 4 (by decide) wd_194 rfl dX9_copyFrom_33 (fun v hv hf_13 => ?_)
  obtain ⟨q_14, rfl, hq_14⟩ := hv
  refine lv_iconst (v := 0) hx hb dX9_copyFrom_36 (by decide +kernel) ?_
  refine lv_aload_n hx hb dX9_copyFrom_37 rfl (lv_at hl 0 rfl) ?_
  refine tr_get (ci := 9) hx hb ht hown hK hT hP k_t (by decide) i_X9 rfl 4 (by decide) wd_194 rfl dX9_copyFrom_38 (fun v hv hf_15 => ?_)
  obtain ⟨q_16, rfl, hq_16⟩ := hv
  refine lv_iconst (v := 0) hx hb dX9_copyFrom_41 (by decide +kernel) ?_
  refine lv_iconst (v := 5) hx hb dX9_copyFrom_42 (by decide +kernel) ?_
  refine tr_copy hx hb (by rw [hml]; exact hl.1.symm) hown (ht _ wd_692) (ht _ wd_694) (ht _ wd_693) (ht _ wd_139) hK hT hP hD hS 20 hq_14 hq_16 (by decide) (by decide) (by decide +kernel) (by decide +kernel) (by decide +kernel) (by decide +kernel) (by decide +kernel) (Nat.le_of_ble_eq_true rfl) (Nat.le_of_ble_eq_true rfl) dX9_copyFrom_43 (fun H locs wt hT hfl hP hD hS => ?_)
  have hW := hW.arr hfl
  have hf_3 := hfl _ _ _ _ hf_3
  have hf_6 := hfl _ _ _ _ hf_6
  have hf_9 := hfl _ _ _ _ hf_9
  have hf_12 := hfl _ _ _ _ hf_12
  refine lv_aload_n hx hb dX9_copyFrom_46 rfl (lv_at hl 1 rfl) ?_
  refine tr_get (ci := 9) hx hb ht hown hK hT hP k_v (by decide) i_X9 rfl 5 (by decide) wd_196 rfl dX9_copyFrom_47 (fun v hv hf_17 => ?_)
  obtain ⟨q_18, rfl, hq_18⟩ := hv
  refine lv_iconst (v := 0) hx hb dX9_copyFrom_50 (by decide +kernel) ?_
  refine lv_aload_n hx hb dX9_copyFrom_51 rfl (lv_at hl 0 rfl) ?_
  refine tr_get (ci := 9) hx hb ht hown hK hT hP k_t (by decide) i_X9 rfl 5 (by decide) wd_196 rfl dX9_copyFrom_52 (fun v hv hf_19 => ?_)
  obtain ⟨q_20, rfl, hq_20⟩ := hv
  refine lv_iconst (v := 0) hx hb dX9_copyFrom_55 (by decide +kernel) ?_
  refine lv_iconst (v := 5) hx hb dX9_copyFrom_56 (by decide +kernel) ?_
  refine tr_copy hx hb (by rw [hml]; exact hl.1.symm) hown (ht _ wd_692) (ht _ wd_694) (ht _ wd_693) (ht _ wd_139) hK hT hP hD hS 20 hq_18 hq_20 (by decide) (by decide) (by decide +kernel) (by decide +kernel) (by decide +kernel) (by decide +kernel) (by decide +kernel) (Nat.le_of_ble_eq_true rfl) (Nat.le_of_ble_eq_true rfl) dX9_copyFrom_57 (fun H locs wt hT hfl hP hD hS => ?_)
  have hW := hW.arr hfl
  have hf_3 := hfl _ _ _ _ hf_3
  have hf_6 := hfl _ _ _ _ hf_6
  have hf_9 := hfl _ _ _ _ hf_9
  have hf_12 := hfl _ _ _ _ hf_12
  refine lv_aload_n hx hb dX9_copyFrom_60 rfl (lv_at hl 1 rfl) ?_
  refine tr_get (ci := 9) hx hb ht hown hK hT hP k_v (by decide) i_X9 rfl 6 (by decide) wd_198 rfl dX9_copyFrom_61 (fun v hv hf_21 => ?_)
  obtain ⟨q_22, rfl, hq_22⟩ := hv
  refine lv_iconst (v := 0) hx hb dX9_copyFrom_64 (by decide +kernel) ?_
  refine lv_aload_n hx hb dX9_copyFrom_65 rfl (lv_at hl 0 rfl) ?_
  refine tr_get (ci := 9) hx hb ht hown hK hT hP k_t (by decide) i_X9 rfl 6 (by decide) wd_198 rfl dX9_copyFrom_66 (fun v hv hf_23 => ?_)
  obtain ⟨q_24, rfl, hq_24⟩ := hv
  refine lv_iconst (v := 0) hx hb dX9_copyFrom_69 (by decide +kernel) ?_
  refine lv_bipush (v := 15) hx hb dX9_copyFrom_70 (by decide +kernel) ?_
  refine tr_copy hx hb (by rw [hml]; exact hl.1.symm) hown (ht _ wd_692) (ht _ wd_694) (ht _ wd_693) (ht _ wd_139) hK hT hP hD hS 24 hq_22 hq_24 (by decide) (by decide) (by decide +kernel) (by decide +kernel) (by decide +kernel) (by decide +kernel) (by decide +kernel) (Nat.le_of_ble_eq_true rfl) (Nat.le_of_ble_eq_true rfl) dX9_copyFrom_72 (fun H locs wt hT hfl hP hD hS => ?_)
  have hW := hW.arr hfl
  have hf_3 := hfl _ _ _ _ hf_3
  have hf_6 := hfl _ _ _ _ hf_6
  have hf_9 := hfl _ _ _ _ hf_9
  have hf_12 := hfl _ _ _ _ hf_12
  refine lv_aload_n hx hb dX9_copyFrom_75 rfl (lv_at hl 1 rfl) ?_
  refine tr_get (ci := 9) hx hb ht hown hK hT hP k_v (by decide) i_X9 rfl 7 (by decide) wd_199 rfl dX9_copyFrom_76 (fun v hv hf_25 => ?_)
  obtain ⟨q_26, rfl, hq_26⟩ := hv
  refine lv_iconst (v := 0) hx hb dX9_copyFrom_79 (by decide +kernel) ?_
  refine lv_aload_n hx hb dX9_copyFrom_80 rfl (lv_at hl 0 rfl) ?_
  refine tr_get (ci := 9) hx hb ht hown hK hT hP k_t (by decide) i_X9 rfl 7 (by decide) wd_199 rfl dX9_copyFrom_81 (fun v hv hf_27 => ?_)
  obtain ⟨q_28, rfl, hq_28⟩ := hv
  refine lv_iconst (v := 0) hx hb dX9_copyFrom_84 (by decide +kernel) ?_
  refine lv_iconst (v := 3) hx hb dX9_copyFrom_85 (by decide +kernel) ?_
  refine tr_copy hx hb (by rw [hml]; exact hl.1.symm) hown (ht _ wd_692) (ht _ wd_694) (ht _ wd_693) (ht _ wd_139) hK hT hP hD hS 21 hq_26 hq_28 (by decide) (by decide) (by decide +kernel) (by decide +kernel) (by decide +kernel) (by decide +kernel) (by decide +kernel) (Nat.le_of_ble_eq_true rfl) (Nat.le_of_ble_eq_true rfl) dX9_copyFrom_86 (fun H locs wt hT hfl hP hD hS => ?_)
  have hW := hW.arr hfl
  have hf_3 := hfl _ _ _ _ hf_3
  have hf_6 := hfl _ _ _ _ hf_6
  have hf_9 := hfl _ _ _ _ hf_9
  have hf_12 := hfl _ _ _ _ hf_12
  refine lv_aload_n hx hb dX9_copyFrom_89 rfl (lv_at hl 1 rfl) ?_
  refine tr_get (ci := 9) hx hb ht hown hK hT hP k_v (by decide) i_X9 rfl 8 (by decide) wd_203 rfl dX9_copyFrom_90 (fun v hv hf_29 => ?_)
  obtain ⟨q_30, rfl, hq_30⟩ := hv
  refine lv_iconst (v := 0) hx hb dX9_copyFrom_93 (by decide +kernel) ?_
  refine lv_aload_n hx hb dX9_copyFrom_94 rfl (lv_at hl 0 rfl) ?_
  refine tr_get (ci := 9) hx hb ht hown hK hT hP k_t (by decide) i_X9 rfl 8 (by decide) wd_203 rfl dX9_copyFrom_95 (fun v hv hf_31 => ?_)
  obtain ⟨q_32, rfl, hq_32⟩ := hv
  refine lv_iconst (v := 0) hx hb dX9_copyFrom_98 (by decide +kernel) ?_
  refine lv_iconst (v := 3) hx hb dX9_copyFrom_99 (by decide +kernel) ?_
  refine tr_copy hx hb (by rw [hml]; exact hl.1.symm) hown (ht _ wd_692) (ht _ wd_694) (ht _ wd_693) (ht _ wd_139) hK hT hP hD hS 21 hq_30 hq_32 (by decide) (by decide) (by decide +kernel) (by decide +kernel) (by decide +kernel) (by decide +kernel) (by decide +kernel) (Nat.le_of_ble_eq_true rfl) (Nat.le_of_ble_eq_true rfl) dX9_copyFrom_100 (fun H locs wt hT hfl hP hD hS => ?_)
  have hW := hW.arr hfl
  have hf_3 := hfl _ _ _ _ hf_3
  have hf_6 := hfl _ _ _ _ hf_6
  have hf_9 := hfl _ _ _ _ hf_9
  have hf_12 := hfl _ _ _ _ hf_12
  have hP9 := tw_right hP
  have hD9 := tw_rightD hD
  exact W.vret hx hb hr (gq_endV wt ⟨hT, hW⟩ hP9 hD9 hS) hS.2.2 dX9_copyFrom_103
set_option maxHeartbeats 4000000 in
set_option maxRecDepth 100000 in
theorem d_S_copyFrom (l : Launch) (G : gg_T) (Γ : Nat → Nat) (sz : Nat) (wt : va_W) (hT : tk_ty G Γ wt) (t : Nat) (v : Nat) (k_t : Γ t = 8) (k_v : Γ v = 8) : Met l yX7_copyFrom (ts_L yX7_copyFrom cX7_copyFrom 2 none) ({ frames := 1, cells := 0, slots := 0, locals := 40 }) (gc_P G wt sz [.ref t, .ref v]) (gc_V G (va_A wt sz) (fun (u : va_W) => tk_ty G Γ u ∧ tk_kp [709] wt u) (fun u => u)) 0 0 (va_A wt sz) := by
  refine Met.ofW (cc := cX7_copyFrom) (maxL := 2) (ret := none) (by decide) rfl ?_
  intro p e s m args below meth c s₁ B hml hv
  obtain ⟨rfl, hsz, hP, hK, hD0⟩ := hv
  have hx := B.exec
  have hb := B.bytes
  have hr := B.returns
  have ht := ts_ht (atoms_spec (ws := ts_L yX7_copyFrom cX7_copyFrom 2 none) B.pre)
  have hown : s.vm.findClass RX7 = some m.cls := findClass_of_methodNamed B.named
  have hlocks := B.notSynchronized
  subst hsz
  have hD := hD0.self (sz := s.heap.size)
  generalize hAe : va_A wt s.heap.size = A at hD ⊢
  have hA : ∀ q : Nat, s.heap.size ≤ q → A q := fun q h => by rw [← hAe]; exact Or.inr h
  clear hAe hD0
  have hS : va_S A s.heap s.heap [] := va_S.rf
  obtain ⟨w0, hw0⟩ : ∃ z, z = wt := ⟨_, rfl⟩
  have hW : tk_kp [709] w0 wt := by rw [hw0]; exact tk_kp.rf
  rw [← hw0]
  clear hw0
  have hP : va_P (gg_D G) classes ([] ++ wt) s.heap := hP
  have hD : va_D A ([] ++ wt) := hD
  have hl := lv_entry ([.ref t, .ref v]) (n := 2) (Nat.le_of_ble_eq_true rfl)
  rw [lg_entry_eq]
  generalize (lg_sl ([.ref t, .ref v]) ++ List.replicate (2 - (lg_sl ([.ref t, .ref v])).length) Slot.unset).toArray = ls at hl ⊢
  have hl : lv_has ls 2 [(0, .ref t), (1, .ref v)] := hl
  refine lv_aload_n hx hb dX7_copyFrom_0 rfl (lv_at hl 1 rfl) ?_
  refine tr_get (ci := 7) hx hb ht hown hK hT hP k_v (by decide) i_X7 rfl 0 (by decide) wd_231 rfl dX7_copyFrom_1 (fun v hv hf_1 => ?_)
  obtain ⟨q_2, rfl, hq_2⟩ := hv
  refine lv_iconst (v := 0) hx hb dX7_copyFrom_4 (by decide +kernel) ?_
  refine lv_aload_n hx hb dX7_copyFrom_5 rfl (lv_at hl 0 rfl) ?_
  refine tr_get (ci := 7) hx hb ht hown hK hT hP k_t (by decide) i_X7 rfl 0 (by decide) wd_231 rfl dX7_copyFrom_6 (fun v hv hf_3 => ?_)
  obtain ⟨q_4, rfl, hq_4⟩ := hv
  refine lv_iconst (v := 0) hx hb dX7_copyFrom_9 (by decide +kernel) ?_
  refine lv_iconst (v := 5) hx hb dX7_copyFrom_10 (by decide +kernel) ?_
  refine tr_copy hx hb (by rw [hml]; exact hl.1.symm) hown (ht _ wd_866) (ht _ wd_694) (ht _ wd_693) (ht _ wd_139) hK hT hP hD hS 20 hq_2 hq_4 (by decide) (by decide) (by decide +kernel) (by decide +kernel) (by decide +kernel) (by decide +kernel) (by decide +kernel) (Nat.le_of_ble_eq_true rfl) (Nat.le_of_ble_eq_true rfl) dX7_copyFrom_11 (fun H locs wt hT hfl hP hD hS => ?_)
  have hW := hW.arr hfl
  refine lv_aload_n hx hb dX7_copyFrom_14 rfl (lv_at hl 1 rfl) ?_
  refine tr_get (ci := 7) hx hb ht hown hK hT hP k_v (by decide) i_X7 rfl 1 (by decide) wd_235 rfl dX7_copyFrom_15 (fun v hv hf_5 => ?_)
  obtain ⟨q_6, rfl, hq_6⟩ := hv
  refine lv_iconst (v := 0) hx hb dX7_copyFrom_18 (by decide +kernel) ?_
  refine lv_aload_n hx hb dX7_copyFrom_19 rfl (lv_at hl 0 rfl) ?_
  refine tr_get (ci := 7) hx hb ht hown hK hT hP k_t (by decide) i_X7 rfl 1 (by decide) wd_235 rfl dX7_copyFrom_20 (fun v hv hf_7 => ?_)
  obtain ⟨q_8, rfl, hq_8⟩ := hv
  refine lv_iconst (v := 0) hx hb dX7_copyFrom_23 (by decide +kernel) ?_
  refine lv_iconst (v := 5) hx hb dX7_copyFrom_24 (by decide +kernel) ?_
  refine tr_copy hx hb (by rw [hml]; exact hl.1.symm) hown (ht _ wd_866) (ht _ wd_694) (ht _ wd_693) (ht _ wd_139) hK hT hP hD hS 20 hq_6 hq_8 (by decide) (by decide) (by decide +kernel) (by decide +kernel) (by decide +kernel) (by decide +kernel) (by decide +kernel) (Nat.le_of_ble_eq_true rfl) (Nat.le_of_ble_eq_true rfl) dX7_copyFrom_25 (fun H locs wt hT hfl hP hD hS => ?_)
  have hW := hW.arr hfl
  refine lv_aload_n hx hb dX7_copyFrom_28 rfl (lv_at hl 1 rfl) ?_
  refine tr_get (ci := 7) hx hb ht hown hK hT hP k_v (by decide) i_X7 rfl 2 (by decide) wd_239 rfl dX7_copyFrom_29 (fun v hv hf_9 => ?_)
  obtain ⟨q_10, rfl, hq_10⟩ := hv
  refine lv_iconst (v := 0) hx hb dX7_copyFrom_32 (by decide +kernel) ?_
  refine lv_aload_n hx hb dX7_copyFrom_33 rfl (lv_at hl 0 rfl) ?_
  refine tr_get (ci := 7) hx hb ht hown hK hT hP k_t (by decide) i_X7 rfl 2 (by decide) wd_239 rfl dX7_copyFrom_34 (fun v hv hf_11 => ?_)
  obtain ⟨q_12, rfl, hq_12⟩ := hv
  refine lv_iconst (v := 0) hx hb dX7_copyFrom_37 (by decide +kernel) ?_
  refine lv_iconst (v := 5) hx hb dX7_copyFrom_38 (by decide +kernel) ?_
  refine tr_copy hx hb (by rw [hml]; exact hl.1.symm) hown (ht _ wd_866) (ht _ wd_694) (ht _ wd_693) (ht _ wd_139) hK hT hP hD hS 20 hq_10 hq_12 (by decide) (by decide) (by decide +kernel) (by decide +kernel) (by decide +kernel) (by decide +kernel) (by decide +kernel) (Nat.le_of_ble_eq_true rfl) (Nat.le_of_ble_eq_true rfl) dX7_copyFrom_39 (fun H locs wt hT hfl hP hD hS => ?_)
  have hW := hW.arr hfl
  refine lv_aload_n hx hb dX7_copyFrom_42 rfl (lv_at hl 1 rfl) ?_
  refine tr_get (ci := 7) hx hb ht hown hK hT hP k_v (by decide) i_X7 rfl 3 (by decide) wd_243 rfl dX7_copyFrom_43 (fun v hv hf_13 => ?_)
  obtain ⟨q_14, rfl, hq_14⟩ := hv
  refine lv_iconst (v := 0) hx hb dX7_copyFrom_46 (by decide +kernel) ?_
  refine lv_aload_n hx hb dX7_copyFrom_47 rfl (lv_at hl 0 rfl) ?_
  refine tr_get (ci := 7) hx hb ht hown hK hT hP k_t (by decide) i_X7 rfl 3 (by decide) wd_243 rfl dX7_copyFrom_48 (fun v hv hf_15 => ?_)
  obtain ⟨q_16, rfl, hq_16⟩ := hv
  refine lv_iconst (v := 0) hx hb dX7_copyFrom_51 (by decide +kernel) ?_
  refine lv_iconst (v := 5) hx hb dX7_copyFrom_52 (by decide +kernel) ?_
  refine tr_copy hx hb (by rw [hml]; exact hl.1.symm) hown (ht _ wd_866) (ht _ wd_694) (ht _ wd_693) (ht _ wd_139) hK hT hP hD hS 20 hq_14 hq_16 (by decide) (by decide) (by decide +kernel) (by decide +kernel) (by decide +kernel) (by decide +kernel) (by decide +kernel) (Nat.le_of_ble_eq_true rfl) (Nat.le_of_ble_eq_true rfl) dX7_copyFrom_53 (fun H locs wt hT hfl hP hD hS => ?_)
  have hW := hW.arr hfl
  refine lv_aload_n hx hb dX7_copyFrom_56 rfl (lv_at hl 1 rfl) ?_
  refine tr_get (ci := 7) hx hb ht hown hK hT hP k_v (by decide) i_X7 rfl 4 (by decide) wd_246 rfl dX7_copyFrom_57 (fun v hv hf_17 => ?_)
  obtain ⟨q_18, rfl, hq_18⟩ := hv
  refine lv_iconst (v := 0) hx hb dX7_copyFrom_60 (by decide +kernel) ?_
  refine lv_aload_n hx hb dX7_copyFrom_61 rfl (lv_at hl 0 rfl) ?_
  refine tr_get (ci := 7) hx hb ht hown hK hT hP k_t (by decide) i_X7 rfl 4 (by decide) wd_246 rfl dX7_copyFrom_62 (fun v hv hf_19 => ?_)
  obtain ⟨q_20, rfl, hq_20⟩ := hv
  refine lv_iconst (v := 0) hx hb dX7_copyFrom_65 (by decide +kernel) ?_
  refine lv_iconst (v := 3) hx hb dX7_copyFrom_66 (by decide +kernel) ?_
  refine tr_copy hx hb (by rw [hml]; exact hl.1.symm) hown (ht _ wd_866) (ht _ wd_694) (ht _ wd_693) (ht _ wd_139) hK hT hP hD hS 21 hq_18 hq_20 (by decide) (by decide) (by decide +kernel) (by decide +kernel) (by decide +kernel) (by decide +kernel) (by decide +kernel) (Nat.le_of_ble_eq_true rfl) (Nat.le_of_ble_eq_true rfl) dX7_copyFrom_67 (fun H locs wt hT hfl hP hD hS => ?_)
  have hW := hW.arr hfl
  refine lv_aload_n hx hb dX7_copyFrom_70 rfl (lv_at hl 1 rfl) ?_
  refine tr_get (ci := 7) hx hb ht hown hK hT hP k_v (by decide) i_X7 rfl 5 (by decide) wd_250 rfl dX7_copyFrom_71 (fun v hv hf_21 => ?_)
  obtain ⟨q_22, rfl, hq_22⟩ := hv
  refine lv_iconst (v := 0) hx hb dX7_copyFrom_74 (by decide +kernel) ?_
  refine lv_aload_n hx hb dX7_copyFrom_75 rfl (lv_at hl 0 rfl) ?_
  refine tr_get (ci := 7) hx hb ht hown hK hT hP k_t (by decide) i_X7 rfl 5 (by decide) wd_250 rfl dX7_copyFrom_76 (fun v hv hf_23 => ?_)
  obtain ⟨q_24, rfl, hq_24⟩ := hv
  refine lv_iconst (v := 0) hx hb dX7_copyFrom_79 (by decide +kernel) ?_
  refine lv_iconst (v := 3) hx hb dX7_copyFrom_80 (by decide +kernel) ?_
  refine tr_copy hx hb (by rw [hml]; exact hl.1.symm) hown (ht _ wd_866) (ht _ wd_694) (ht _ wd_693) (ht _ wd_139) hK hT hP hD hS 21 hq_22 hq_24 (by decide) (by decide) (by decide +kernel) (by decide +kernel) (by decide +kernel) (by decide +kernel) (by decide +kernel) (Nat.le_of_ble_eq_true rfl) (Nat.le_of_ble_eq_true rfl) dX7_copyFrom_81 (fun H locs wt hT hfl hP hD hS => ?_)
  have hW := hW.arr hfl
  refine lv_aload_n hx hb dX7_copyFrom_84 rfl (lv_at hl 1 rfl) ?_
  refine tr_get (ci := 7) hx hb ht hown hK hT hP k_v (by decide) i_X7 rfl 6 (by decide) wd_254 rfl dX7_copyFrom_85 (fun v hv hf_25 => ?_)
  obtain ⟨q_26, rfl, hq_26⟩ := hv
  refine lv_iconst (v := 0) hx hb dX7_copyFrom_88 (by decide +kernel) ?_
  refine lv_aload_n hx hb dX7_copyFrom_89 rfl (lv_at hl 0 rfl) ?_
  refine tr_get (ci := 7) hx hb ht hown hK hT hP k_t (by decide) i_X7 rfl 6 (by decide) wd_254 rfl dX7_copyFrom_90 (fun v hv hf_27 => ?_)
  obtain ⟨q_28, rfl, hq_28⟩ := hv
  refine lv_iconst (v := 0) hx hb dX7_copyFrom_93 (by decide +kernel) ?_
  refine lv_iconst (v := 3) hx hb dX7_copyFrom_94 (by decide +kernel) ?_
  refine tr_copy hx hb (by rw [hml]; exact hl.1.symm) hown (ht _ wd_866) (ht _ wd_694) (ht _ wd_693) (ht _ wd_139) hK hT hP hD hS 21 hq_26 hq_28 (by decide) (by decide) (by decide +kernel) (by decide +kernel) (by decide +kernel) (by decide +kernel) (by decide +kernel) (Nat.le_of_ble_eq_true rfl) (Nat.le_of_ble_eq_true rfl) dX7_copyFrom_95 (fun H locs wt hT hfl hP hD hS => ?_)
  have hW := hW.arr hfl
  refine lv_aload_n hx hb dX7_copyFrom_98 rfl (lv_at hl 1 rfl) ?_
  refine tr_get (ci := 7) hx hb ht hown hK hT hP k_v (by decide) i_X7 rfl 7 (by decide) wd_258 rfl dX7_copyFrom_99 (fun v hv hf_29 => ?_)
  obtain ⟨q_30, rfl, hq_30⟩ := hv
  refine lv_iconst (v := 0) hx hb dX7_copyFrom_102 (by decide +kernel) ?_
  refine lv_aload_n hx hb dX7_copyFrom_103 rfl (lv_at hl 0 rfl) ?_
  refine tr_get (ci := 7) hx hb ht hown hK hT hP k_t (by decide) i_X7 rfl 7 (by decide) wd_258 rfl dX7_copyFrom_104 (fun v hv hf_31 => ?_)
  obtain ⟨q_32, rfl, hq_32⟩ := hv
  refine lv_iconst (v := 0) hx hb dX7_copyFrom_107 (by decide +kernel) ?_
  refine lv_iconst (v := 3) hx hb dX7_copyFrom_108 (by decide +kernel) ?_
  refine tr_copy hx hb (by rw [hml]; exact hl.1.symm) hown (ht _ wd_866) (ht _ wd_694) (ht _ wd_693) (ht _ wd_139) hK hT hP hD hS 21 hq_30 hq_32 (by decide) (by decide) (by decide +kernel) (by decide +kernel) (by decide +kernel) (by decide +kernel) (by decide +kernel) (Nat.le_of_ble_eq_true rfl) (Nat.le_of_ble_eq_true rfl) dX7_copyFrom_109 (fun H locs wt hT hfl hP hD hS => ?_)
  have hW := hW.arr hfl
  refine lv_aload_n hx hb dX7_copyFrom_112 rfl (lv_at hl 1 rfl) ?_
  refine tr_get (ci := 7) hx hb ht hown hK hT hP k_v (by decide) i_X7 rfl 8 (by decide) wd_261 rfl dX7_copyFrom_113 (fun v hv hf_33 => ?_)
  obtain ⟨q_34, rfl, hq_34⟩ := hv
  refine lv_iconst (v := 0) hx hb dX7_copyFrom_116 (by decide +kernel) ?_
  refine lv_aload_n hx hb dX7_copyFrom_117 rfl (lv_at hl 0 rfl) ?_
  refine tr_get (ci := 7) hx hb ht hown hK hT hP k_t (by decide) i_X7 rfl 8 (by decide) wd_261 rfl dX7_copyFrom_118 (fun v hv hf_35 => ?_)
  obtain ⟨q_36, rfl, hq_36⟩ := hv
  refine lv_iconst (v := 0) hx hb dX7_copyFrom_121 (by decide +kernel) ?_
  refine lv_iconst (v := 3) hx hb dX7_copyFrom_122 (by decide +kernel) ?_
  refine tr_copy hx hb (by rw [hml]; exact hl.1.symm) hown (ht _ wd_866) (ht _ wd_694) (ht _ wd_693) (ht _ wd_139) hK hT hP hD hS 22 hq_34 hq_36 (by decide) (by decide) (by decide +kernel) (by decide +kernel) (by decide +kernel) (by decide +kernel) (by decide +kernel) (Nat.le_of_ble_eq_true rfl) (Nat.le_of_ble_eq_true rfl) dX7_copyFrom_123 (fun H locs wt hT hfl hP hD hS => ?_)
  have hW := hW.arr hfl
  refine lv_aload_n hx hb dX7_copyFrom_126 rfl (lv_at hl 0 rfl) ?_
  refine lv_aload_n hx hb dX7_copyFrom_127 rfl (lv_at hl 1 rfl) ?_
  refine tr_get (ci := 7) hx hb ht hown hK hT hP k_v (by decide) i_X7 rfl 9 (by decide) wd_266 rfl dX7_copyFrom_128 (fun v hv hf_37 => ?_)
  obtain ⟨n_38, rfl⟩ := hv
  refine tr_put (ci := 7) hx hb ht hown hK hT hP hD hS k_t (by decide) i_X7 tyX7 tyX7_ok nmX7 rfl 9 (by decide) wd_266 rfl rfl rfl rfl ⟨_, rfl⟩ dX7_copyFrom_131 (fun H locs wt hT hfl hfn hP hD hS => ?_)
  have hW := hW.obj (show 7 * 100 + 9 ∈ [709] by decide) hfl
  have hf_39 := hfn
  have hP9 := tw_right hP
  have hD9 := tw_rightD hD
  exact W.vret hx hb hr (gq_endV wt ⟨hT, hW⟩ hP9 hD9 hS) hS.2.2 dX7_copyFrom_134
set_option maxHeartbeats 4000000 in
set_option maxRecDepth 100000 in
theorem d_L_copyFrom (l : Launch) (G : gg_T) (Γ : Nat → Nat) (sz : Nat) (wt : va_W) (hT : tk_ty G Γ wt) (t : Nat) (v : Nat) (k_t : Γ t = 3) (k_v : Γ v = 3) : Met l yX2_copyFrom (ts_L yX2_copyFrom cX2_copyFrom 2 none) ({ frames := 1, cells := 0, slots := 0, locals := 40 }) (gc_P G wt sz [.ref t, .ref v]) (gc_V G (va_A wt sz) (fun (u : va_W) => tk_ty G Γ u ∧ tk_kp [203] wt u) (fun u => u)) 0 0 (va_A wt sz) := by
  refine Met.ofW (cc := cX2_copyFrom) (maxL := 2) (ret := none) (by decide) rfl ?_
  intro p e s m args below meth c s₁ B hml hv
  obtain ⟨rfl, hsz, hP, hK, hD0⟩ := hv
  have hx := B.exec
  have hb := B.bytes
  have hr := B.returns
  have ht := ts_ht (atoms_spec (ws := ts_L yX2_copyFrom cX2_copyFrom 2 none) B.pre)
  have hown : s.vm.findClass RX2 = some m.cls := findClass_of_methodNamed B.named
  have hlocks := B.notSynchronized
  subst hsz
  have hD := hD0.self (sz := s.heap.size)
  generalize hAe : va_A wt s.heap.size = A at hD ⊢
  have hA : ∀ q : Nat, s.heap.size ≤ q → A q := fun q h => by rw [← hAe]; exact Or.inr h
  clear hAe hD0
  have hS : va_S A s.heap s.heap [] := va_S.rf
  obtain ⟨w0, hw0⟩ : ∃ z, z = wt := ⟨_, rfl⟩
  have hW : tk_kp [203] w0 wt := by rw [hw0]; exact tk_kp.rf
  rw [← hw0]
  clear hw0
  have hP : va_P (gg_D G) classes ([] ++ wt) s.heap := hP
  have hD : va_D A ([] ++ wt) := hD
  have hl := lv_entry ([.ref t, .ref v]) (n := 2) (Nat.le_of_ble_eq_true rfl)
  rw [lg_entry_eq]
  generalize (lg_sl ([.ref t, .ref v]) ++ List.replicate (2 - (lg_sl ([.ref t, .ref v])).length) Slot.unset).toArray = ls at hl ⊢
  have hl : lv_has ls 2 [(0, .ref t), (1, .ref v)] := hl
  refine lv_aload_n hx hb dX2_copyFrom_0 rfl (lv_at hl 1 rfl) ?_
  refine tr_get (ci := 2) hx hb ht hown hK hT hP k_v (by decide) i_X2 rfl 0 (by decide) wd_316 rfl dX2_copyFrom_1 (fun v hv hf_1 => ?_)
  obtain ⟨q_2, rfl, hq_2⟩ := hv
  refine lv_iconst (v := 0) hx hb dX2_copyFrom_4 (by decide +kernel) ?_
  refine lv_aload_n hx hb dX2_copyFrom_5 rfl (lv_at hl 0 rfl) ?_
  refine tr_get (ci := 2) hx hb ht hown hK hT hP k_t (by decide) i_X2 rfl 0 (by decide) wd_316 rfl dX2_copyFrom_6 (fun v hv hf_3 => ?_)
  obtain ⟨q_4, rfl, hq_4⟩ := hv
  refine lv_iconst (v := 0) hx hb dX2_copyFrom_9 (by decide +kernel) ?_
  refine lv_bipush (v := 10) hx hb dX2_copyFrom_10 (by decide +kernel) ?_
  refine tr_copy hx hb (by rw [hml]; exact hl.1.symm) hown (ht _ wd_1237) (ht _ wd_694) (ht _ wd_693) (ht _ wd_139) hK hT hP hD hS 23 hq_2 hq_4 (by decide) (by decide) (by decide +kernel) (by decide +kernel) (by decide +kernel) (by decide +kernel) (by decide +kernel) (Nat.le_of_ble_eq_true rfl) (Nat.le_of_ble_eq_true rfl) dX2_copyFrom_12 (fun H locs wt hT hfl hP hD hS => ?_)
  have hW := hW.arr hfl
  refine lv_aload_n hx hb dX2_copyFrom_15 rfl (lv_at hl 1 rfl) ?_
  refine tr_get (ci := 2) hx hb ht hown hK hT hP k_v (by decide) i_X2 rfl 1 (by decide) wd_317 rfl dX2_copyFrom_16 (fun v hv hf_5 => ?_)
  obtain ⟨q_6, rfl, hq_6⟩ := hv
  refine lv_iconst (v := 0) hx hb dX2_copyFrom_19 (by decide +kernel) ?_
  refine lv_aload_n hx hb dX2_copyFrom_20 rfl (lv_at hl 0 rfl) ?_
  refine tr_get (ci := 2) hx hb ht hown hK hT hP k_t (by decide) i_X2 rfl 1 (by decide) wd_317 rfl dX2_copyFrom_21 (fun v hv hf_7 => ?_)
  obtain ⟨q_8, rfl, hq_8⟩ := hv
  refine lv_iconst (v := 0) hx hb dX2_copyFrom_24 (by decide +kernel) ?_
  refine lv_bipush (v := 10) hx hb dX2_copyFrom_25 (by decide +kernel) ?_
  refine tr_copy hx hb (by rw [hml]; exact hl.1.symm) hown (ht _ wd_1237) (ht _ wd_694) (ht _ wd_693) (ht _ wd_139) hK hT hP hD hS 23 hq_6 hq_8 (by decide) (by decide) (by decide +kernel) (by decide +kernel) (by decide +kernel) (by decide +kernel) (by decide +kernel) (Nat.le_of_ble_eq_true rfl) (Nat.le_of_ble_eq_true rfl) dX2_copyFrom_27 (fun H locs wt hT hfl hP hD hS => ?_)
  have hW := hW.arr hfl
  refine lv_aload_n hx hb dX2_copyFrom_30 rfl (lv_at hl 1 rfl) ?_
  refine tr_get (ci := 2) hx hb ht hown hK hT hP k_v (by decide) i_X2 rfl 2 (by decide) wd_318 rfl dX2_copyFrom_31 (fun v hv hf_9 => ?_)
  obtain ⟨q_10, rfl, hq_10⟩ := hv
  refine lv_iconst (v := 0) hx hb dX2_copyFrom_34 (by decide +kernel) ?_
  refine lv_aload_n hx hb dX2_copyFrom_35 rfl (lv_at hl 0 rfl) ?_
  refine tr_get (ci := 2) hx hb ht hown hK hT hP k_t (by decide) i_X2 rfl 2 (by decide) wd_318 rfl dX2_copyFrom_36 (fun v hv hf_11 => ?_)
  obtain ⟨q_12, rfl, hq_12⟩ := hv
  refine lv_iconst (v := 0) hx hb dX2_copyFrom_39 (by decide +kernel) ?_
  refine lv_bipush (v := 10) hx hb dX2_copyFrom_40 (by decide +kernel) ?_
  refine tr_copy hx hb (by rw [hml]; exact hl.1.symm) hown (ht _ wd_1237) (ht _ wd_694) (ht _ wd_693) (ht _ wd_139) hK hT hP hD hS 23 hq_10 hq_12 (by decide) (by decide) (by decide +kernel) (by decide +kernel) (by decide +kernel) (by decide +kernel) (by decide +kernel) (Nat.le_of_ble_eq_true rfl) (Nat.le_of_ble_eq_true rfl) dX2_copyFrom_42 (fun H locs wt hT hfl hP hD hS => ?_)
  have hW := hW.arr hfl
  refine lv_aload_n hx hb dX2_copyFrom_45 rfl (lv_at hl 0 rfl) ?_
  refine lv_aload_n hx hb dX2_copyFrom_46 rfl (lv_at hl 1 rfl) ?_
  refine tr_get (ci := 2) hx hb ht hown hK hT hP k_v (by decide) i_X2 rfl 3 (by decide) wd_319 rfl dX2_copyFrom_47 (fun v hv hf_13 => ?_)
  obtain ⟨n_14, rfl, lo_n_14, hi_n_14⟩ := hv
  refine tr_put (ci := 2) hx hb ht hown hK hT hP hD hS k_t (by decide) i_X2 tyX2 tyX2_ok nmX2 rfl 3 (by decide) wd_319 rfl rfl rfl rfl ⟨_, rfl, by omega, by omega⟩ dX2_copyFrom_50 (fun H locs wt hT hfl hfn hP hD hS => ?_)
  have hW := hW.obj (show 2 * 100 + 3 ∈ [203] by decide) hfl
  have hf_15 := hfn
  have hP9 := tw_right hP
  have hD9 := tw_rightD hD
  exact W.vret hx hb hr (gq_endV wt ⟨hT, hW⟩ hP9 hD9 hS) hS.2.2 dX2_copyFrom_53
set_option maxHeartbeats 4000000 in
set_option maxRecDepth 100000 in
theorem d_L_clear (l : Launch) (G : gg_T) (Γ : Nat → Nat) (sz : Nat) (wt : va_W) (hT : tk_ty G Γ wt) (t : Nat) (k_t : Γ t = 3) : Met l yX2_clear (ts_L yX2_clear cX2_clear 1 none) ({ frames := 0, cells := 0, slots := 0, locals := 0 }) (gc_P G wt sz [.ref t]) (gc_V G (va_A wt sz) (fun (u : va_W) => tk_ty G Γ u ∧ tk_kp [203] wt u) (fun u => u)) 0 0 (va_A wt sz) := by
  refine Met.ofW (cc := cX2_clear) (maxL := 1) (ret := none) (by decide) rfl ?_
  intro p e s m args below meth c s₁ B hml hv
  obtain ⟨rfl, hsz, hP, hK, hD0⟩ := hv
  have hx := B.exec
  have hb := B.bytes
  have hr := B.returns
  have ht := ts_ht (atoms_spec (ws := ts_L yX2_clear cX2_clear 1 none) B.pre)
  have hown : s.vm.findClass RX2 = some m.cls := findClass_of_methodNamed B.named
  have hlocks := B.notSynchronized
  subst hsz
  have hD := hD0.self (sz := s.heap.size)
  generalize hAe : va_A wt s.heap.size = A at hD ⊢
  have hA : ∀ q : Nat, s.heap.size ≤ q → A q := fun q h => by rw [← hAe]; exact Or.inr h
  clear hAe hD0
  have hS : va_S A s.heap s.heap [] := va_S.rf
  obtain ⟨w0, hw0⟩ : ∃ z, z = wt := ⟨_, rfl⟩
  have hW : tk_kp [203] w0 wt := by rw [hw0]; exact tk_kp.rf
  rw [← hw0]
  clear hw0
  have hP : va_P (gg_D G) classes ([] ++ wt) s.heap := hP
  have hD : va_D A ([] ++ wt) := hD
  have hl := lv_entry ([.ref t]) (n := 1) (Nat.le_of_ble_eq_true rfl)
  rw [lg_entry_eq]
  generalize (lg_sl ([.ref t]) ++ List.replicate (1 - (lg_sl ([.ref t])).length) Slot.unset).toArray = ls at hl ⊢
  have hl : lv_has ls 1 [(0, .ref t)] := hl
  have l0 : (0 : Int32).toInt = 0 := by decide +kernel
  refine lv_aload_n hx hb dX2_clear_0 rfl (lv_at hl 0 rfl) ?_
  refine lv_iconst (v := 0) hx hb dX2_clear_1 (by decide +kernel) ?_
  refine tr_put (ci := 2) hx hb ht hown hK hT hP hD hS k_t (by decide) i_X2 tyX2 tyX2_ok nmX2 rfl 3 (by decide) wd_319 rfl rfl rfl rfl ⟨_, rfl, by omega, by omega⟩ dX2_clear_2 (fun H locs wt hT hfl hfn hP hD hS => ?_)
  have hW := hW.obj (show 2 * 100 + 3 ∈ [203] by decide) hfl
  have hf_1 := hfn
  have hP9 := tw_right hP
  have hD9 := tw_rightD hD
  exact W.vret hx hb hr (gq_endV wt ⟨hT, hW⟩ hP9 hD9 hS) hS.2.2 dX2_clear_5
set_option maxHeartbeats 4000000 in
set_option maxRecDepth 100000 in
theorem d_L_add (l : Launch) (G : gg_T) (Γ : Nat → Nat) (sz : Nat) (wt : va_W) (hT : tk_ty G Γ wt) (t : Nat) (b : Int32) (w : Int32) (z : Int32) (k_t : Γ t = 3) : Met l yX2_add (ts_L yX2_add cX2_add 4 (some .boolean)) ({ frames := 0, cells := 0, slots := 0, locals := 0 }) (gc_P G wt sz [.ref t, .int b, .int w, .int z]) (gc_I G (va_A wt sz) (fun r (u : va_W) => tk_ty G Γ u ∧ tk_kp [203] wt u ∧ 0 ≤ r.toInt ∧ r.toInt ≤ 1) (fun u => u)) 0 0 (va_A wt sz) := by
  refine Met.ofW (cc := cX2_add) (maxL := 4) (ret := (some .boolean)) (by decide) rfl ?_
  intro p e s m args below meth c s₁ B hml hv
  obtain ⟨rfl, hsz, hP, hK, hD0⟩ := hv
  have hx := B.exec
  have hb := B.bytes
  have hr := B.returns
  have ht := ts_ht (atoms_spec (ws := ts_L yX2_add cX2_add 4 (some .boolean)) B.pre)
  have hown : s.vm.findClass RX2 = some m.cls := findClass_of_methodNamed B.named
  have hlocks := B.notSynchronized
  subst hsz
  have hD := hD0.self (sz := s.heap.size)
  generalize hAe : va_A wt s.heap.size = A at hD ⊢
  have hA : ∀ q : Nat, s.heap.size ≤ q → A q := fun q h => by rw [← hAe]; exact Or.inr h
  clear hAe hD0
  have hS : va_S A s.heap s.heap [] := va_S.rf
  obtain ⟨w0, hw0⟩ : ∃ z, z = wt := ⟨_, rfl⟩
  have hW : tk_kp [203] w0 wt := by rw [hw0]; exact tk_kp.rf
  rw [← hw0]
  clear hw0
  have hP : va_P (gg_D G) classes ([] ++ wt) s.heap := hP
  have hD : va_D A ([] ++ wt) := hD
  have hl := lv_entry ([.ref t, .int b, .int w, .int z]) (n := 4) (Nat.le_of_ble_eq_true rfl)
  rw [lg_entry_eq]
  generalize (lg_sl ([.ref t, .int b, .int w, .int z]) ++ List.replicate (4 - (lg_sl ([.ref t, .int b, .int w, .int z])).length) Slot.unset).toArray = ls at hl ⊢
  have hl : lv_has ls 4 [(0, .ref t), (1, .int b), (2, .int w), (3, .int z)] := hl
  have lm1 : ((-1) : Int32).toInt = -1 := by decide +kernel
  have l0 : (0 : Int32).toInt = 0 := by decide +kernel
  have l1 : (1 : Int32).toInt = 1 := by decide +kernel
  have l10 : (10 : Int32).toInt = 10 := by decide +kernel
  refine lv_aload_n hx hb dX2_add_0 rfl (lv_at hl 0 rfl) ?_
  refine tr_get (ci := 2) hx hb ht hown hK hT hP k_t (by decide) i_X2 rfl 3 (by decide) wd_319 rfl dX2_add_1 (fun v hv hf_1 => ?_)
  obtain ⟨n_2, rfl, lo_n_2, hi_n_2⟩ := hv
  refine lv_bipush (v := 10) hx hb dX2_add_4 (by decide +kernel) ?_
  refine lv_icmp_lt (tgt := 11) hx hb dX2_add_6 (by decide) (fun c_3 => ?_) (fun c_3 => ?_)
  · rw [Int32.lt_iff_toInt_lt] at c_3
    refine lv_aload_n hx hb dX2_add_11 rfl (lv_at hl 0 rfl) ?_
    refine tr_get (ci := 2) hx hb ht hown hK hT hP k_t (by decide) i_X2 rfl 0 (by decide) wd_316 rfl dX2_add_12 (fun v hv hf_4 => ?_)
    obtain ⟨q_5, rfl, hq_5⟩ := hv
    refine lv_aload_n hx hb dX2_add_15 rfl (lv_at hl 0 rfl) ?_
    refine tr_getK (ci := 2) hx hb ht hown hK hP i_X2 rfl 3 (by decide) wd_319 rfl hf_1 dX2_add_16 ?_
    refine lv_iload_n hx hb dX2_add_19 rfl (lv_at hl 1 rfl) ?_
    refine tr_iast hx hb hK hT hP hD hS 23 hq_5 (by decide) (by decide) (show vp_in _ (tk_len 23) from ia_in (n := 10) (by omega) (by omega)) (show tk_e 23 _ from trivial) dX2_add_20 (fun H locs wt hT hfl hP hD hS => ?_)
    have hW := hW.arr hfl
    have hf_1 := hfl _ _ _ _ hf_1
    refine lv_aload_n hx hb dX2_add_21 rfl (lv_at hl 0 rfl) ?_
    refine tr_get (ci := 2) hx hb ht hown hK hT hP k_t (by decide) i_X2 rfl 1 (by decide) wd_317 rfl dX2_add_22 (fun v hv hf_6 => ?_)
    obtain ⟨q_7, rfl, hq_7⟩ := hv
    refine lv_aload_n hx hb dX2_add_25 rfl (lv_at hl 0 rfl) ?_
    refine tr_getK (ci := 2) hx hb ht hown hK hP i_X2 rfl 3 (by decide) wd_319 rfl hf_1 dX2_add_26 ?_
    refine lv_iload_n hx hb dX2_add_29 rfl (lv_at hl 2 rfl) ?_
    refine tr_iast hx hb hK hT hP hD hS 23 hq_7 (by decide) (by decide) (show vp_in _ (tk_len 23) from ia_in (n := 10) (by omega) (by omega)) (show tk_e 23 _ from trivial) dX2_add_30 (fun H locs wt hT hfl hP hD hS => ?_)
    have hW := hW.arr hfl
    have hf_1 := hfl _ _ _ _ hf_1
    refine lv_aload_n hx hb dX2_add_31 rfl (lv_at hl 0 rfl) ?_
    refine tr_get (ci := 2) hx hb ht hown hK hT hP k_t (by decide) i_X2 rfl 2 (by decide) wd_318 rfl dX2_add_32 (fun v hv hf_8 => ?_)
    obtain ⟨q_9, rfl, hq_9⟩ := hv
    refine lv_aload_n hx hb dX2_add_35 rfl (lv_at hl 0 rfl) ?_
    refine tr_getK (ci := 2) hx hb ht hown hK hP i_X2 rfl 3 (by decide) wd_319 rfl hf_1 dX2_add_36 ?_
    refine lv_iload_n hx hb dX2_add_39 rfl (lv_at hl 2 rfl) ?_
    refine lv_iconst (v := (-1)) hx hb dX2_add_40 (by decide +kernel) ?_
    refine lv_icmp_ne (tgt := 48) hx hb dX2_add_41 (by decide) (fun c_10 => ?_) (fun c_10 => ?_)
    · rw [← Int32.toInt_inj] at c_10
      refine lv_iload_n hx hb dX2_add_48 rfl (lv_at hl 3 rfl) ?_
      refine tr_iast hx hb hK hT hP hD hS 23 hq_9 (by decide) (by decide) (show vp_in _ (tk_len 23) from ia_in (n := 10) (by omega) (by omega)) (show tk_e 23 _ from trivial) dX2_add_49 (fun H locs wt hT hfl hP hD hS => ?_)
      have hW := hW.arr hfl
      have hf_1 := hfl _ _ _ _ hf_1
      refine lv_aload_n hx hb dX2_add_50 rfl (lv_at hl 0 rfl) ?_
      refine lv_dup hx hb dX2_add_51 rfl ?_
      refine tr_getK (ci := 2) hx hb ht hown hK hP i_X2 rfl 3 (by decide) wd_319 rfl hf_1 dX2_add_52 ?_
      refine lv_iconst (v := 1) hx hb dX2_add_55 (by decide +kernel) ?_
      obtain ⟨t_11, et_11⟩ : ∃ zz_ : Int32, n_2 + 1 = zz_ := ⟨_, rfl⟩
      refine gq_iadd hx hb t_11 et_11 dX2_add_56 ?_
      have ft_11 := ia_add et_11 (by omega) (by omega)
      refine tr_put (ci := 2) hx hb ht hown hK hT hP hD hS k_t (by decide) i_X2 tyX2 tyX2_ok nmX2 rfl 3 (by decide) wd_319 rfl rfl rfl rfl ⟨_, rfl, by omega, by omega⟩ dX2_add_57 (fun H locs wt hT hfl hfn hP hD hS => ?_)
      have hW := hW.obj (show 2 * 100 + 3 ∈ [203] by decide) hfl
      have hf_12 := hfn
      refine lv_iconst (v := 1) hx hb dX2_add_60 (by decide +kernel) ?_
      have hP9 := tw_right hP
      have hD9 := tw_rightD hD
      exact W.zret (v := 1) hx hb hr (by decide +kernel) (gq_endI wt ⟨hT, hW, (by omega), (by omega)⟩ hP9 hD9 hS) hS.2.2 dX2_add_61
    · rw [← Int32.toInt_inj] at c_10
      refine lv_iconst (v := 0) hx hb dX2_add_44 (by decide +kernel) ?_
      refine lv_goto (tgt := 49) hx hb dX2_add_45 (by decide) ?_
      refine tr_iast hx hb hK hT hP hD hS 23 hq_9 (by decide) (by decide) (show vp_in _ (tk_len 23) from ia_in (n := 10) (by omega) (by omega)) (show tk_e 23 _ from trivial) dX2_add_49 (fun H locs wt hT hfl hP hD hS => ?_)
      have hW := hW.arr hfl
      have hf_1 := hfl _ _ _ _ hf_1
      refine lv_aload_n hx hb dX2_add_50 rfl (lv_at hl 0 rfl) ?_
      refine lv_dup hx hb dX2_add_51 rfl ?_
      refine tr_getK (ci := 2) hx hb ht hown hK hP i_X2 rfl 3 (by decide) wd_319 rfl hf_1 dX2_add_52 ?_
      refine lv_iconst (v := 1) hx hb dX2_add_55 (by decide +kernel) ?_
      obtain ⟨t_13, et_13⟩ : ∃ zz_ : Int32, n_2 + 1 = zz_ := ⟨_, rfl⟩
      refine gq_iadd hx hb t_13 et_13 dX2_add_56 ?_
      have ft_13 := ia_add et_13 (by omega) (by omega)
      refine tr_put (ci := 2) hx hb ht hown hK hT hP hD hS k_t (by decide) i_X2 tyX2 tyX2_ok nmX2 rfl 3 (by decide) wd_319 rfl rfl rfl rfl ⟨_, rfl, by omega, by omega⟩ dX2_add_57 (fun H locs wt hT hfl hfn hP hD hS => ?_)
      have hW := hW.obj (show 2 * 100 + 3 ∈ [203] by decide) hfl
      have hf_14 := hfn
      refine lv_iconst (v := 1) hx hb dX2_add_60 (by decide +kernel) ?_
      have hP9 := tw_right hP
      have hD9 := tw_rightD hD
      exact W.zret (v := 1) hx hb hr (by decide +kernel) (gq_endI wt ⟨hT, hW, (by omega), (by omega)⟩ hP9 hD9 hS) hS.2.2 dX2_add_61
  · rw [Int32.lt_iff_toInt_lt] at c_3
    refine lv_iconst (v := 0) hx hb dX2_add_9 (by decide +kernel) ?_
    have hP9 := tw_right hP
    have hD9 := tw_rightD hD
    exact W.zret (v := 0) hx hb hr (by decide +kernel) (gq_endI wt ⟨hT, hW, (by omega), (by omega)⟩ hP9 hD9 hS) hS.2.2 dX2_add_10
set_option maxHeartbeats 4000000 in
set_option maxRecDepth 100000 in
theorem d_L_agree (l : Launch) (G : gg_T) (Γ : Nat → Nat) (sz : Nat) (wt : va_W) (hT : tk_ty G Γ wt) (t : Nat) (b : Int32) (w : Int32) (z : Int32) (k_t : Γ t = 3) : Met l yX2_agree (ts_L yX2_agree cX2_agree 5 (some .boolean)) ({ frames := 0, cells := 0, slots := 0, locals := 0 }) (gc_P G wt sz [.ref t, .int b, .int w, .int z]) (gc_I G (va_A wt sz) (fun r (u : va_W) => tk_ty G Γ u ∧ tk_kp [] wt u ∧ 0 ≤ r.toInt ∧ r.toInt ≤ 1) (fun u => u)) 0 0 (va_A wt sz) := by
  refine Met.ofW (cc := cX2_agree) (maxL := 5) (ret := (some .boolean)) (by decide) rfl ?_
  intro p e s m args below meth c s₁ B hml hv
  obtain ⟨rfl, hsz, hP, hK, hD0⟩ := hv
  have hx := B.exec
  have hb := B.bytes
  have hr := B.returns
  have ht := ts_ht (atoms_spec (ws := ts_L yX2_agree cX2_agree 5 (some .boolean)) B.pre)
  have hown : s.vm.findClass RX2 = some m.cls := findClass_of_methodNamed B.named
  have hlocks := B.notSynchronized
  subst hsz
  have hD := hD0.self (sz := s.heap.size)
  generalize hAe : va_A wt s.heap.size = A at hD ⊢
  have hA : ∀ q : Nat, s.heap.size ≤ q → A q := fun q h => by rw [← hAe]; exact Or.inr h
  clear hAe hD0
  have hS : va_S A s.heap s.heap [] := va_S.rf
  obtain ⟨w0, hw0⟩ : ∃ z, z = wt := ⟨_, rfl⟩
  have hW : tk_kp [] w0 wt := by rw [hw0]; exact tk_kp.rf
  rw [← hw0]
  clear hw0
  have hP : va_P (gg_D G) classes ([] ++ wt) s.heap := hP
  have hD : va_D A ([] ++ wt) := hD
  have hl := lv_entry ([.ref t, .int b, .int w, .int z]) (n := 5) (Nat.le_of_ble_eq_true rfl)
  rw [lg_entry_eq]
  generalize (lg_sl ([.ref t, .int b, .int w, .int z]) ++ List.replicate (5 - (lg_sl ([.ref t, .int b, .int w, .int z])).length) Slot.unset).toArray = ls at hl ⊢
  have hl : lv_has ls 5 [(0, .ref t), (1, .int b), (2, .int w), (3, .int z)] := hl
  have l0 : (0 : Int32).toInt = 0 := by decide +kernel
  have l1 : (1 : Int32).toInt = 1 := by decide +kernel
  refine lv_iconst (v := 0) hx hb dX2_agree_0 (by decide +kernel) ?_
  refine lv_istore (lv' := [(4, .int 0), (0, .ref t), (1, .int b), (2, .int w), (3, .int z)]) hx hb dX2_agree_1 hl (by decide) rfl (fun ls hl => ?_)
  refine tl_loopE (Γ := Γ) (nL := 5) (fun (zz_ : Int32) => match zz_ with | x3_0 => 0 ≤ x3_0.toInt ∧ x3_0.toInt ≤ 10) (fun (zz_ : Int32) => match zz_ with | x3_0 => (10 - x3_0.toInt).toNat) (fun (zz_ : Int32) => match zz_ with | x3_0 => [(4, .int x3_0), (0, .ref t), (1, .int b), (2, .int w), (3, .int z)]) (fun (zz_ : Int32) => match zz_ with | x3_0 => []) (fun (zz_ : Int32) (w : va_W) => match zz_ with | x3_0 => tk_kp [] w0 w) (fun zz_ hI H locs wt ls hT hW hP hD hS hl ih3 => ?_) 0 (show 0 ≤ (0 : Int32).toInt ∧ (0 : Int32).toInt ≤ 10 from ⟨by omega, by omega⟩) _ _ wt ls hT hW hP hD hS hl
  obtain ⟨x3_0, rfl⟩ : ∃ z2, z2 = zz_ := ⟨_, rfl⟩
  have hW : tk_kp [] w0 wt := hW
  have hI : 0 ≤ x3_0.toInt ∧ x3_0.toInt ≤ 10 := hI
  obtain ⟨j3_0, j3_1⟩ := hI
  have hl : lv_has ls 5 [(4, .int x3_0), (0, .ref t), (1, .int b), (2, .int w), (3, .int z)] := hl
  have hP : va_P (gg_D G) classes ([] ++ wt) H := hP
  have hD : va_D A ([] ++ wt) := hD
  refine lv_iload hx hb dX2_agree_3 (lv_at hl 0 rfl) ?_
  refine lv_aload_n hx hb dX2_agree_5 rfl (lv_at hl 1 rfl) ?_
  refine tr_get (ci := 2) hx hb ht hown hK hT hP k_t (by decide) i_X2 rfl 3 (by decide) wd_319 rfl dX2_agree_6 (fun v hv hf_1 => ?_)
  obtain ⟨n_2, rfl, lo_n_2, hi_n_2⟩ := hv
  refine lv_icmp_ge (tgt := 53) hx hb dX2_agree_9 (by decide) (fun c_3 => ?_) (fun c_3 => ?_)
  · rw [Int32.le_iff_toInt_le] at c_3
    refine lv_iconst (v := 1) hx hb dX2_agree_53 (by decide +kernel) ?_
    have hP9 := tw_right hP
    have hD9 := tw_rightD hD
    exact W.zret (v := 1) hx hb hr (by decide +kernel) (gq_endI wt ⟨hT, hW, (by omega), (by omega)⟩ hP9 hD9 hS) hS.2.2 dX2_agree_54
  · rw [Int32.le_iff_toInt_le] at c_3
    refine lv_aload_n hx hb dX2_agree_12 rfl (lv_at hl 1 rfl) ?_
    refine tr_get (ci := 2) hx hb ht hown hK hT hP k_t (by decide) i_X2 rfl 0 (by decide) wd_316 rfl dX2_agree_13 (fun v hv hf_4 => ?_)
    obtain ⟨q_5, rfl, hq_5⟩ := hv
    refine lv_iload hx hb dX2_agree_16 (lv_at hl 0 rfl) ?_
    refine tr_iald hx hb hK hT hP 23 hq_5 (by decide) (by decide) (show vp_in _ (tk_len 23) from ia_in (n := 10) (by omega) (by omega)) dX2_agree_18 (fun n_6 hn_6 => ?_)
    clear hn_6
    refine lv_iload_n hx hb dX2_agree_19 rfl (lv_at hl 2 rfl) ?_
    refine lv_icmp_ne (tgt := 47) hx hb dX2_agree_20 (by decide) (fun c_7 => ?_) (fun c_7 => ?_)
    · rw [← Int32.toInt_inj] at c_7
      obtain ⟨t_8, et_8⟩ : ∃ zz_ : Int32, x3_0 + Int32.ofInt (1) = zz_ := ⟨_, rfl⟩
      have ft_8 : t_8.toInt = x3_0.toInt + (1 : Int32).toInt := ia_add (y := 1) et_8 (by omega) (by omega)
      refine lv_iinc (v := t_8) (lv' := [(4, .int t_8), (0, .ref t), (1, .int b), (2, .int w), (3, .int z)]) hx hb dX2_agree_47 hl (k := 0) rfl et_8 (by decide) rfl (fun ls hl => ?_)
      refine lv_goto (tgt := 3) hx hb dX2_agree_50 (by decide) ?_
      exact ih3 t_8 (show 0 ≤ t_8.toInt ∧ t_8.toInt ≤ 10 from ⟨by omega, by omega⟩) (show (10 - t_8.toInt).toNat < (10 - x3_0.toInt).toNat by omega) H locs wt ls hT hW hP hD hS (lv_sub hl [0, 1, 2, 3, 4] rfl)
    · rw [← Int32.toInt_inj] at c_7
      refine lv_aload_n hx hb dX2_agree_23 rfl (lv_at hl 1 rfl) ?_
      refine tr_get (ci := 2) hx hb ht hown hK hT hP k_t (by decide) i_X2 rfl 1 (by decide) wd_317 rfl dX2_agree_24 (fun v hv hf_9 => ?_)
      obtain ⟨q_10, rfl, hq_10⟩ := hv
      refine lv_iload hx hb dX2_agree_27 (lv_at hl 0 rfl) ?_
      refine tr_iald hx hb hK hT hP 23 hq_10 (by decide) (by decide) (show vp_in _ (tk_len 23) from ia_in (n := 10) (by omega) (by omega)) dX2_agree_29 (fun n_11 hn_11 => ?_)
      clear hn_11
      refine lv_iload_n hx hb dX2_agree_30 rfl (lv_at hl 3 rfl) ?_
      refine lv_icmp_ne (tgt := 45) hx hb dX2_agree_31 (by decide) (fun c_12 => ?_) (fun c_12 => ?_)
      · rw [← Int32.toInt_inj] at c_12
        refine lv_iconst (v := 0) hx hb dX2_agree_45 (by decide +kernel) ?_
        have hP9 := tw_right hP
        have hD9 := tw_rightD hD
        exact W.zret (v := 0) hx hb hr (by decide +kernel) (gq_endI wt ⟨hT, hW, (by omega), (by omega)⟩ hP9 hD9 hS) hS.2.2 dX2_agree_46
      · rw [← Int32.toInt_inj] at c_12
        refine lv_aload_n hx hb dX2_agree_34 rfl (lv_at hl 1 rfl) ?_
        refine tr_get (ci := 2) hx hb ht hown hK hT hP k_t (by decide) i_X2 rfl 2 (by decide) wd_318 rfl dX2_agree_35 (fun v hv hf_13 => ?_)
        obtain ⟨q_14, rfl, hq_14⟩ := hv
        refine lv_iload hx hb dX2_agree_38 (lv_at hl 0 rfl) ?_
        refine tr_iald hx hb hK hT hP 23 hq_14 (by decide) (by decide) (show vp_in _ (tk_len 23) from ia_in (n := 10) (by omega) (by omega)) dX2_agree_40 (fun n_15 hn_15 => ?_)
        clear hn_15
        refine lv_iload_n hx hb dX2_agree_41 rfl (lv_at hl 4 rfl) ?_
        refine lv_icmp_eq (tgt := 47) hx hb dX2_agree_42 (by decide) (fun c_16 => ?_) (fun c_16 => ?_)
        · rw [← Int32.toInt_inj] at c_16
          obtain ⟨t_17, et_17⟩ : ∃ zz_ : Int32, x3_0 + Int32.ofInt (1) = zz_ := ⟨_, rfl⟩
          have ft_17 : t_17.toInt = x3_0.toInt + (1 : Int32).toInt := ia_add (y := 1) et_17 (by omega) (by omega)
          refine lv_iinc (v := t_17) (lv' := [(4, .int t_17), (0, .ref t), (1, .int b), (2, .int w), (3, .int z)]) hx hb dX2_agree_47 hl (k := 0) rfl et_17 (by decide) rfl (fun ls hl => ?_)
          refine lv_goto (tgt := 3) hx hb dX2_agree_50 (by decide) ?_
          exact ih3 t_17 (show 0 ≤ t_17.toInt ∧ t_17.toInt ≤ 10 from ⟨by omega, by omega⟩) (show (10 - t_17.toInt).toNat < (10 - x3_0.toInt).toNat by omega) H locs wt ls hT hW hP hD hS (lv_sub hl [0, 1, 2, 3, 4] rfl)
        · rw [← Int32.toInt_inj] at c_16
          refine lv_iconst (v := 0) hx hb dX2_agree_45 (by decide +kernel) ?_
          have hP9 := tw_right hP
          have hD9 := tw_rightD hD
          exact W.zret (v := 0) hx hb hr (by decide +kernel) (gq_endI wt ⟨hT, hW, (by omega), (by omega)⟩ hP9 hD9 hS) hS.2.2 dX2_agree_46
set_option maxHeartbeats 4000000 in
set_option maxRecDepth 100000 in
theorem d_P_forget (l : Launch) (G : gg_T) (Γ : Nat → Nat) (sz : Nat) (wt : va_W) (hT : tk_ty G Γ wt) (t : Nat) (k_t : Γ t = 4) : Met l yX3_forget (ts_L yX3_forget cX3_forget 1 none) ({ frames := 0, cells := 0, slots := 0, locals := 0 }) (gc_P G wt sz [.ref t]) (gc_V G (va_A wt sz) (fun (u : va_W) => tk_ty G Γ u ∧ tk_kp [302] wt u) (fun u => u)) 0 0 (va_A wt sz) := by
  refine Met.ofW (cc := cX3_forget) (maxL := 1) (ret := none) (by decide) rfl ?_
  intro p e s m args below meth c s₁ B hml hv
  obtain ⟨rfl, hsz, hP, hK, hD0⟩ := hv
  have hx := B.exec
  have hb := B.bytes
  have hr := B.returns
  have ht := ts_ht (atoms_spec (ws := ts_L yX3_forget cX3_forget 1 none) B.pre)
  have hown : s.vm.findClass RX3 = some m.cls := findClass_of_methodNamed B.named
  have hlocks := B.notSynchronized
  subst hsz
  have hD := hD0.self (sz := s.heap.size)
  generalize hAe : va_A wt s.heap.size = A at hD ⊢
  have hA : ∀ q : Nat, s.heap.size ≤ q → A q := fun q h => by rw [← hAe]; exact Or.inr h
  clear hAe hD0
  have hS : va_S A s.heap s.heap [] := va_S.rf
  obtain ⟨w0, hw0⟩ : ∃ z, z = wt := ⟨_, rfl⟩
  have hW : tk_kp [302] w0 wt := by rw [hw0]; exact tk_kp.rf
  rw [← hw0]
  clear hw0
  have hP : va_P (gg_D G) classes ([] ++ wt) s.heap := hP
  have hD : va_D A ([] ++ wt) := hD
  have hl := lv_entry ([.ref t]) (n := 1) (Nat.le_of_ble_eq_true rfl)
  rw [lg_entry_eq]
  generalize (lg_sl ([.ref t]) ++ List.replicate (1 - (lg_sl ([.ref t])).length) Slot.unset).toArray = ls at hl ⊢
  have hl : lv_has ls 1 [(0, .ref t)] := hl
  have l0 : (0 : Int32).toInt = 0 := by decide +kernel
  refine lv_aload_n hx hb dX3_forget_0 rfl (lv_at hl 0 rfl) ?_
  refine lv_iconst (v := 0) hx hb dX3_forget_1 (by decide +kernel) ?_
  refine tr_put (ci := 3) hx hb ht hown hK hT hP hD hS k_t (by decide) i_X3 tyX3 tyX3_ok nmX3 rfl 2 (by decide) wd_301 rfl rfl rfl rfl ⟨_, rfl, by omega, by omega⟩ dX3_forget_2 (fun H locs wt hT hfl hfn hP hD hS => ?_)
  have hW := hW.obj (show 3 * 100 + 2 ∈ [302] by decide) hfl
  have hf_1 := hfn
  have hP9 := tw_right hP
  have hD9 := tw_rightD hD
  exact W.vret hx hb hr (gq_endV wt ⟨hT, hW⟩ hP9 hD9 hS) hS.2.2 dX3_forget_5
set_option maxHeartbeats 4000000 in
set_option maxRecDepth 100000 in
theorem d_P_keep (l : Launch) (G : gg_T) (Γ : Nat → Nat) (sz : Nat) (wt : va_W) (hT : tk_ty G Γ wt) (t : Nat) (v : Nat) (k_t : Γ t = 4) (k_v : Γ v = 8) : Met l yX3_keep (ts_L yX3_keep cX3_keep 2 none) ({ frames := 2, cells := 0, slots := 0, locals := 61 }) (gc_P G wt sz [.ref t, .ref v]) (gc_V G (va_A wt sz) (fun (u : va_W) => tk_ty G Γ u ∧ tk_kp [301, 302, 709] wt u) (fun u => u)) 0 0 (va_A wt sz) := by
  refine Met.ofW (cc := cX3_keep) (maxL := 2) (ret := none) (by decide) rfl ?_
  intro p e s m args below meth c s₁ B hml hv
  obtain ⟨rfl, hsz, hP, hK, hD0⟩ := hv
  have hx := B.exec
  have hb := B.bytes
  have hr := B.returns
  have ht := ts_ht (atoms_spec (ws := ts_L yX3_keep cX3_keep 2 none) B.pre)
  have hown : s.vm.findClass RX3 = some m.cls := findClass_of_methodNamed B.named
  have hlocks := B.notSynchronized
  subst hsz
  have hD := hD0.self (sz := s.heap.size)
  generalize hAe : va_A wt s.heap.size = A at hD ⊢
  have hA : ∀ q : Nat, s.heap.size ≤ q → A q := fun q h => by rw [← hAe]; exact Or.inr h
  clear hAe hD0
  have hS : va_S A s.heap s.heap [] := va_S.rf
  obtain ⟨w0, hw0⟩ : ∃ z, z = wt := ⟨_, rfl⟩
  have hW : tk_kp [301, 302, 709] w0 wt := by rw [hw0]; exact tk_kp.rf
  rw [← hw0]
  clear hw0
  have hP : va_P (gg_D G) classes ([] ++ wt) s.heap := hP
  have hD : va_D A ([] ++ wt) := hD
  have hl := lv_entry ([.ref t, .ref v]) (n := 2) (Nat.le_of_ble_eq_true rfl)
  rw [lg_entry_eq]
  generalize (lg_sl ([.ref t, .ref v]) ++ List.replicate (2 - (lg_sl ([.ref t, .ref v])).length) Slot.unset).toArray = ls at hl ⊢
  have hl : lv_has ls 2 [(0, .ref t), (1, .ref v)] := hl
  have l0 : (0 : Int32).toInt = 0 := by decide +kernel
  have l1 : (1 : Int32).toInt = 1 := by decide +kernel
  have l20 : (20 : Int32).toInt = 20 := by decide +kernel
  refine lv_aload_n hx hb dX3_keep_0 rfl (lv_at hl 0 rfl) ?_
  refine tr_get (ci := 3) hx hb ht hown hK hT hP k_t (by decide) i_X3 rfl 0 (by decide) wd_299 rfl dX3_keep_1 (fun v hv hf_1 => ?_)
  obtain ⟨q_2, rfl, hq_2⟩ := hv
  refine lv_aload_n hx hb dX3_keep_4 rfl (lv_at hl 0 rfl) ?_
  refine tr_get (ci := 3) hx hb ht hown hK hT hP k_t (by decide) i_X3 rfl 1 (by decide) wd_300 rfl dX3_keep_5 (fun v hv hf_3 => ?_)
  obtain ⟨n_4, rfl, lo_n_4, hi_n_4⟩ := hv
  refine tr_aald hx hb hK hT hP 40 hq_2 (by decide) rfl (show vp_in _ (tk_len 40) from ia_in (n := 20) (by omega) (by omega)) dX3_keep_8 (fun q_5 hq_5 => ?_)
  have hq_5 : Γ q_5 = 8 := hq_5
  refine lv_aload_n hx hb dX3_keep_9 rfl (lv_at hl 1 rfl) ?_
  refine gt_callV (wr := []) (va_runV (As := [.ref v]) (rest := []) ⟨hx, hb, hml, hown, ht⟩ (d_S_copyFrom l G Γ s.heap.size wt hT q_5 v hq_5 k_v) (cwV 1 ht (ts_gV wd_862 wd_863 wd_864 wd_125 wd_865) rfl rfl rfl (by decide +kernel) ⟨Nat.le_of_ble_eq_true rfl, Nat.le_of_ble_eq_true rfl⟩) (gt_preW (ci := 7) hK hT (tw_right hP) (tw_rightD hD) hq_5 (by decide) rfl) rfl rfl hl.1 rfl (lv_room (Nat.le_of_ble_eq_true rfl)) dX3_keep_10 ⟨Nat.le_of_ble_eq_true rfl, Nat.le_of_ble_eq_true rfl⟩) hP hD hS hA (fun wt H locs hw hP hD hS => ?_)
  obtain ⟨hT, hkp⟩ := hw
  have hW := hW.call (show ∀ x ∈ [709], x ∈ [301, 302, 709] by decide) hkp
  have hf_3 := hkp _ _ _ _ (by decide) (by decide) hf_3
  refine lv_aload_n hx hb dX3_keep_13 rfl (lv_at hl 0 rfl) ?_
  refine lv_aload_n hx hb dX3_keep_14 rfl (lv_at hl 0 rfl) ?_
  refine tr_getK (ci := 3) hx hb ht hown hK hP i_X3 rfl 1 (by decide) wd_300 rfl hf_3 dX3_keep_15 ?_
  refine lv_iconst (v := 1) hx hb dX3_keep_18 (by decide +kernel) ?_
  obtain ⟨t_6, et_6⟩ : ∃ zz_ : Int32, n_4 + 1 = zz_ := ⟨_, rfl⟩
  refine gq_iadd hx hb t_6 et_6 dX3_keep_19 ?_
  have ft_6 := ia_add et_6 (by omega) (by omega)
  refine lv_bipush (v := 20) hx hb dX3_keep_20 (by decide +kernel) ?_
  refine lv_irem hx hb dX3_keep_22 (fun h0 => absurd h0 (by rw [← Int32.toInt_inj]; omega)) ?_
  refine lv_topi (fun t_7 et_7 => ?_)
  have ft_7 := ia_rem et_7.symm (by omega) (by omega)
  refine tr_put (ci := 3) hx hb ht hown hK hT hP hD hS k_t (by decide) i_X3 tyX3 tyX3_ok nmX3 rfl 1 (by decide) wd_300 rfl rfl rfl rfl ⟨_, rfl, by omega, by omega⟩ dX3_keep_23 (fun H locs wt hT hfl hfn hP hD hS => ?_)
  have hW := hW.obj (show 3 * 100 + 1 ∈ [301, 302, 709] by decide) hfl
  have hf_8 := hfn
  refine lv_aload_n hx hb dX3_keep_26 rfl (lv_at hl 0 rfl) ?_
  refine lv_bipush (v := 20) hx hb dX3_keep_27 (by decide +kernel) ?_
  refine lv_aload_n hx hb dX3_keep_29 rfl (lv_at hl 0 rfl) ?_
  refine tr_get (ci := 3) hx hb ht hown hK hT hP k_t (by decide) i_X3 rfl 2 (by decide) wd_301 rfl dX3_keep_30 (fun v hv hf_9 => ?_)
  obtain ⟨n_10, rfl, lo_n_10, hi_n_10⟩ := hv
  refine lv_iconst (v := 1) hx hb dX3_keep_33 (by decide +kernel) ?_
  obtain ⟨t_11, et_11⟩ : ∃ zz_ : Int32, n_10 + 1 = zz_ := ⟨_, rfl⟩
  refine gq_iadd hx hb t_11 et_11 dX3_keep_34 ?_
  have ft_11 := ia_add et_11 (by omega) (by omega)
  refine va_mmin hx hb (by rw [hml]; exact hl.1.symm) hown (ht _ wd_867) (ht _ wd_746) (ht _ wd_140) (ht _ wd_747) (Nat.le_of_ble_eq_true rfl) (Nat.le_of_ble_eq_true rfl) (Nat.zero_le _) (Nat.zero_le _) dX3_keep_35 ?_
  refine lv_topi (fun t_12 et_12 => ?_)
  have ft_12 := ia_min et_12.symm
  refine tr_put (ci := 3) hx hb ht hown hK hT hP hD hS k_t (by decide) i_X3 tyX3 tyX3_ok nmX3 rfl 2 (by decide) wd_301 rfl rfl rfl rfl ⟨_, rfl, by omega, by omega⟩ dX3_keep_38 (fun H locs wt hT hfl hfn hP hD hS => ?_)
  have hW := hW.obj (show 3 * 100 + 2 ∈ [301, 302, 709] by decide) hfl
  have hf_8 := hfl _ _ _ _ (Or.inr (Or.inr (by decide))) hf_8
  have hf_13 := hfn
  have hP9 := tw_right hP
  have hD9 := tw_rightD hD
  exact W.vret hx hb hr (gq_endV wt ⟨hT, hW⟩ hP9 hD9 hS) hS.2.2 dX3_keep_41
set_option maxHeartbeats 4000000 in
set_option maxRecDepth 100000 in
theorem d_P_takeBack (l : Launch) (G : gg_T) (Γ : Nat → Nat) (sz : Nat) (wt : va_W) (hT : tk_ty G Γ wt) (t : Nat) (v : Nat) (k_t : Γ t = 4) (k_v : Γ v = 8) : Met l yX3_takeBack (ts_L yX3_takeBack cX3_takeBack 2 (some .boolean)) ({ frames := 2, cells := 0, slots := 0, locals := 61 }) (gc_P G wt sz [.ref t, .ref v]) (gc_I G (va_A wt sz) (fun r (u : va_W) => tk_ty G Γ u ∧ tk_kp [301, 302, 709] wt u ∧ 0 ≤ r.toInt ∧ r.toInt ≤ 1) (fun u => u)) 0 0 (va_A wt sz) := by
  refine Met.ofW (cc := cX3_takeBack) (maxL := 2) (ret := (some .boolean)) (by decide) rfl ?_
  intro p e s m args below meth c s₁ B hml hv
  obtain ⟨rfl, hsz, hP, hK, hD0⟩ := hv
  have hx := B.exec
  have hb := B.bytes
  have hr := B.returns
  have ht := ts_ht (atoms_spec (ws := ts_L yX3_takeBack cX3_takeBack 2 (some .boolean)) B.pre)
  have hown : s.vm.findClass RX3 = some m.cls := findClass_of_methodNamed B.named
  have hlocks := B.notSynchronized
  subst hsz
  have hD := hD0.self (sz := s.heap.size)
  generalize hAe : va_A wt s.heap.size = A at hD ⊢
  have hA : ∀ q : Nat, s.heap.size ≤ q → A q := fun q h => by rw [← hAe]; exact Or.inr h
  clear hAe hD0
  have hS : va_S A s.heap s.heap [] := va_S.rf
  obtain ⟨w0, hw0⟩ : ∃ z, z = wt := ⟨_, rfl⟩
  have hW : tk_kp [301, 302, 709] w0 wt := by rw [hw0]; exact tk_kp.rf
  rw [← hw0]
  clear hw0
  have hP : va_P (gg_D G) classes ([] ++ wt) s.heap := hP
  have hD : va_D A ([] ++ wt) := hD
  have hl := lv_entry ([.ref t, .ref v]) (n := 2) (Nat.le_of_ble_eq_true rfl)
  rw [lg_entry_eq]
  generalize (lg_sl ([.ref t, .ref v]) ++ List.replicate (2 - (lg_sl ([.ref t, .ref v])).length) Slot.unset).toArray = ls at hl ⊢
  have hl : lv_has ls 2 [(0, .ref t), (1, .ref v)] := hl
  have l0 : (0 : Int32).toInt = 0 := by decide +kernel
  have l1 : (1 : Int32).toInt = 1 := by decide +kernel
  have l20 : (20 : Int32).toInt = 20 := by decide +kernel
  refine lv_aload_n hx hb dX3_takeBack_0 rfl (lv_at hl 0 rfl) ?_
  refine tr_get (ci := 3) hx hb ht hown hK hT hP k_t (by decide) i_X3 rfl 2 (by decide) wd_301 rfl dX3_takeBack_1 (fun v hv hf_1 => ?_)
  obtain ⟨n_2, rfl, lo_n_2, hi_n_2⟩ := hv
  refine lv_if_ne (tgt := 9) hx hb dX3_takeBack_4 (by decide) (fun c_3 => ?_) (fun c_3 => ?_)
  · rw [← Int32.toInt_inj] at c_3
    refine lv_aload_n hx hb dX3_takeBack_9 rfl (lv_at hl 0 rfl) ?_
    refine lv_aload_n hx hb dX3_takeBack_10 rfl (lv_at hl 0 rfl) ?_
    refine tr_get (ci := 3) hx hb ht hown hK hT hP k_t (by decide) i_X3 rfl 1 (by decide) wd_300 rfl dX3_takeBack_11 (fun v hv hf_4 => ?_)
    obtain ⟨n_5, rfl, lo_n_5, hi_n_5⟩ := hv
    refine lv_bipush (v := 20) hx hb dX3_takeBack_14 (by decide +kernel) ?_
    obtain ⟨t_6, et_6⟩ : ∃ zz_ : Int32, n_5 + 20 = zz_ := ⟨_, rfl⟩
    refine gq_iadd hx hb t_6 et_6 dX3_takeBack_16 ?_
    have ft_6 := ia_add et_6 (by omega) (by omega)
    refine lv_iconst (v := 1) hx hb dX3_takeBack_17 (by decide +kernel) ?_
    obtain ⟨t_7, et_7⟩ : ∃ zz_ : Int32, t_6 - 1 = zz_ := ⟨_, rfl⟩
    refine gq_isub hx hb t_7 et_7 dX3_takeBack_18 ?_
    have ft_7 := ia_sub et_7 (by omega) (by omega)
    refine lv_bipush (v := 20) hx hb dX3_takeBack_19 (by decide +kernel) ?_
    refine lv_irem hx hb dX3_takeBack_21 (fun h0 => absurd h0 (by rw [← Int32.toInt_inj]; omega)) ?_
    refine lv_topi (fun t_8 et_8 => ?_)
    have ft_8 := ia_rem et_8.symm (by omega) (by omega)
    refine tr_put (ci := 3) hx hb ht hown hK hT hP hD hS k_t (by decide) i_X3 tyX3 tyX3_ok nmX3 rfl 1 (by decide) wd_300 rfl rfl rfl rfl ⟨_, rfl, by omega, by omega⟩ dX3_takeBack_22 (fun H locs wt hT hfl hfn hP hD hS => ?_)
    have hW := hW.obj (show 3 * 100 + 1 ∈ [301, 302, 709] by decide) hfl
    have hf_1 := hfl _ _ _ _ (Or.inr (Or.inr (by decide))) hf_1
    have hf_9 := hfn
    refine lv_aload_n hx hb dX3_takeBack_25 rfl (lv_at hl 1 rfl) ?_
    refine lv_aload_n hx hb dX3_takeBack_26 rfl (lv_at hl 0 rfl) ?_
    refine tr_get (ci := 3) hx hb ht hown hK hT hP k_t (by decide) i_X3 rfl 0 (by decide) wd_299 rfl dX3_takeBack_27 (fun v hv hf_10 => ?_)
    obtain ⟨q_11, rfl, hq_11⟩ := hv
    refine lv_aload_n hx hb dX3_takeBack_30 rfl (lv_at hl 0 rfl) ?_
    refine tr_getK (ci := 3) hx hb ht hown hK hP i_X3 rfl 1 (by decide) wd_300 rfl hf_9 dX3_takeBack_31 ?_
    refine tr_aald hx hb hK hT hP 40 hq_11 (by decide) rfl (show vp_in _ (tk_len 40) from ia_in (n := 20) (by omega) (by omega)) dX3_takeBack_34 (fun q_12 hq_12 => ?_)
    have hq_12 : Γ q_12 = 8 := hq_12
    refine gt_callV (wr := []) (va_runV (As := [.ref q_12]) (rest := []) ⟨hx, hb, hml, hown, ht⟩ (d_S_copyFrom l G Γ H.size wt hT v q_12 k_v hq_12) (cwV 1 ht (ts_gV wd_862 wd_863 wd_864 wd_125 wd_865) rfl rfl rfl (by decide +kernel) ⟨Nat.le_of_ble_eq_true rfl, Nat.le_of_ble_eq_true rfl⟩) (gt_preW (ci := 7) hK hT (tw_right hP) (tw_rightD hD) k_v (by decide) rfl) rfl rfl hl.1 rfl (lv_room (Nat.le_of_ble_eq_true rfl)) dX3_takeBack_35 ⟨Nat.le_of_ble_eq_true rfl, Nat.le_of_ble_eq_true rfl⟩) hP hD hS hA (fun wt H locs hw hP hD hS => ?_)
    obtain ⟨hT, hkp⟩ := hw
    have hW := hW.call (show ∀ x ∈ [709], x ∈ [301, 302, 709] by decide) hkp
    have hf_1 := hkp _ _ _ _ (by decide) (by decide) hf_1
    have hf_9 := hkp _ _ _ _ (by decide) (by decide) hf_9
    refine lv_aload_n hx hb dX3_takeBack_38 rfl (lv_at hl 0 rfl) ?_
    refine lv_dup hx hb dX3_takeBack_39 rfl ?_
    refine tr_getK (ci := 3) hx hb ht hown hK hP i_X3 rfl 2 (by decide) wd_301 rfl hf_1 dX3_takeBack_40 ?_
    refine lv_iconst (v := 1) hx hb dX3_takeBack_43 (by decide +kernel) ?_
    obtain ⟨t_13, et_13⟩ : ∃ zz_ : Int32, n_2 - 1 = zz_ := ⟨_, rfl⟩
    refine gq_isub hx hb t_13 et_13 dX3_takeBack_44 ?_
    have ft_13 := ia_sub et_13 (by omega) (by omega)
    refine tr_put (ci := 3) hx hb ht hown hK hT hP hD hS k_t (by decide) i_X3 tyX3 tyX3_ok nmX3 rfl 2 (by decide) wd_301 rfl rfl rfl rfl ⟨_, rfl, by omega, by omega⟩ dX3_takeBack_45 (fun H locs wt hT hfl hfn hP hD hS => ?_)
    have hW := hW.obj (show 3 * 100 + 2 ∈ [301, 302, 709] by decide) hfl
    have hf_9 := hfl _ _ _ _ (Or.inr (Or.inr (by decide))) hf_9
    have hf_14 := hfn
    refine lv_iconst (v := 1) hx hb dX3_takeBack_48 (by decide +kernel) ?_
    have hP9 := tw_right hP
    have hD9 := tw_rightD hD
    exact W.zret (v := 1) hx hb hr (by decide +kernel) (gq_endI wt ⟨hT, hW, (by omega), (by omega)⟩ hP9 hD9 hS) hS.2.2 dX3_takeBack_49
  · rw [← Int32.toInt_inj] at c_3
    refine lv_iconst (v := 0) hx hb dX3_takeBack_7 (by decide +kernel) ?_
    have hP9 := tw_right hP
    have hD9 := tw_rightD hD
    exact W.zret (v := 0) hx hb hr (by decide +kernel) (gq_endI wt ⟨hT, hW, (by omega), (by omega)⟩ hP9 hD9 hS) hS.2.2 dX3_takeBack_8
set_option maxHeartbeats 4000000 in
set_option maxRecDepth 100000 in
theorem d_S_open (l : Launch) (G : gg_T) (Γ : Nat → Nat) (sz : Nat) (wt : va_W) (hT : tk_ty G Γ wt) (t : Nat) (tm : Nat) (k_t : Γ t = 8) (k_tm : Γ tm = 10) : Met l yX7_open (ts_L yX7_open cX7_open 3 none) ({ frames := 0, cells := 0, slots := 0, locals := 0 }) (gc_P G wt sz [.ref t, .ref tm]) (gc_V G (va_A wt sz) (fun (u : va_W) => tk_ty G Γ u ∧ tk_kp [709] wt u) (fun u => u)) 0 0 (va_A wt sz) := by
  refine Met.ofW (cc := cX7_open) (maxL := 3) (ret := none) (by decide) rfl ?_
  intro p e s m args below meth c s₁ B hml hv
  obtain ⟨rfl, hsz, hP, hK, hD0⟩ := hv
  have hx := B.exec
  have hb := B.bytes
  have hr := B.returns
  have ht := ts_ht (atoms_spec (ws := ts_L yX7_open cX7_open 3 none) B.pre)
  have hown : s.vm.findClass RX7 = some m.cls := findClass_of_methodNamed B.named
  have hlocks := B.notSynchronized
  subst hsz
  have hD := hD0.self (sz := s.heap.size)
  generalize hAe : va_A wt s.heap.size = A at hD ⊢
  have hA : ∀ q : Nat, s.heap.size ≤ q → A q := fun q h => by rw [← hAe]; exact Or.inr h
  clear hAe hD0
  have hS : va_S A s.heap s.heap [] := va_S.rf
  obtain ⟨w0, hw0⟩ : ∃ z, z = wt := ⟨_, rfl⟩
  have hW : tk_kp [709] w0 wt := by rw [hw0]; exact tk_kp.rf
  rw [← hw0]
  clear hw0
  have hP : va_P (gg_D G) classes ([] ++ wt) s.heap := hP
  have hD : va_D A ([] ++ wt) := hD
  have hl := lv_entry ([.ref t, .ref tm]) (n := 3) (Nat.le_of_ble_eq_true rfl)
  rw [lg_entry_eq]
  generalize (lg_sl ([.ref t, .ref tm]) ++ List.replicate (3 - (lg_sl ([.ref t, .ref tm])).length) Slot.unset).toArray = ls at hl ⊢
  have hl : lv_has ls 3 [(0, .ref t), (1, .ref tm)] := hl
  have lm1 : ((-1) : Int32).toInt = -1 := by decide +kernel
  have l0 : (0 : Int32).toInt = 0 := by decide +kernel
  have l1 : (1 : Int32).toInt = 1 := by decide +kernel
  have l2 : (2 : Int32).toInt = 2 := by decide +kernel
  have l3 : (3 : Int32).toInt = 3 := by decide +kernel
  have l4 : (4 : Int32).toInt = 4 := by decide +kernel
  have l5 : (5 : Int32).toInt = 5 := by decide +kernel
  refine lv_iconst (v := 0) hx hb dX7_open_0 (by decide +kernel) ?_
  refine lv_istore_n (lv' := [(2, .int 0), (0, .ref t), (1, .ref tm)]) hx hb dX7_open_1 rfl hl (by decide) rfl (fun ls hl => ?_)
  refine lv_iload_n hx hb dX7_open_2 rfl (lv_at hl 0 rfl) ?_
  refine lv_iconst (v := 5) hx hb dX7_open_3 (by decide +kernel) ?_
  refine lv_icmp_ge (tgt := 51) hx hb dX7_open_4 (by decide) (fun c0 => False.elim (by rw [Int32.le_iff_toInt_le] at c0; omega)) (fun _ => ?_)
  refine lv_aload_n hx hb dX7_open_7 rfl (lv_at hl 1 rfl) ?_
  refine tr_get (ci := 7) hx hb ht hown hK hT hP k_t (by decide) i_X7 rfl 0 (by decide) wd_231 rfl dX7_open_8 (fun v hv hf_1 => ?_)
  obtain ⟨q_2, rfl, hq_2⟩ := hv
  refine lv_iload_n hx hb dX7_open_11 rfl (lv_at hl 0 rfl) ?_
  refine lv_aload_n hx hb dX7_open_12 rfl (lv_at hl 2 rfl) ?_
  refine tr_get (ci := 9) hx hb ht hown hK hT hP k_tm (by decide) i_X9 rfl 4 (by decide) wd_195 rfl dX7_open_13 (fun v hv hf_3 => ?_)
  obtain ⟨q_4, rfl, hq_4⟩ := hv
  refine lv_iload_n hx hb dX7_open_16 rfl (lv_at hl 0 rfl) ?_
  refine tr_iald hx hb hK hT hP 20 hq_4 (by decide) (by decide) (show vp_in _ (tk_len 20) from ia_in (n := 5) (by omega) (by omega)) dX7_open_17 (fun n_5 hn_5 => ?_)
  clear hn_5
  refine tr_iast hx hb hK hT hP hD hS 20 hq_2 (by decide) (by decide) (show vp_in _ (tk_len 20) from ia_in (n := 5) (by omega) (by omega)) (show tk_e 20 _ from trivial) dX7_open_18 (fun H locs wt hT hfl hP hD hS => ?_)
  have hW := hW.arr hfl
  refine lv_aload_n hx hb dX7_open_19 rfl (lv_at hl 1 rfl) ?_
  refine tr_get (ci := 7) hx hb ht hown hK hT hP k_t (by decide) i_X7 rfl 1 (by decide) wd_235 rfl dX7_open_20 (fun v hv hf_6 => ?_)
  obtain ⟨q_7, rfl, hq_7⟩ := hv
  refine lv_iload_n hx hb dX7_open_23 rfl (lv_at hl 0 rfl) ?_
  refine lv_aload_n hx hb dX7_open_24 rfl (lv_at hl 2 rfl) ?_
  refine tr_get (ci := 9) hx hb ht hown hK hT hP k_tm (by decide) i_X9 rfl 5 (by decide) wd_197 rfl dX7_open_25 (fun v hv hf_8 => ?_)
  obtain ⟨q_9, rfl, hq_9⟩ := hv
  refine lv_iload_n hx hb dX7_open_28 rfl (lv_at hl 0 rfl) ?_
  refine tr_iald hx hb hK hT hP 20 hq_9 (by decide) (by decide) (show vp_in _ (tk_len 20) from ia_in (n := 5) (by omega) (by omega)) dX7_open_29 (fun n_10 hn_10 => ?_)
  clear hn_10
  refine tr_iast hx hb hK hT hP hD hS 20 hq_7 (by decide) (by decide) (show vp_in _ (tk_len 20) from ia_in (n := 5) (by omega) (by omega)) (show tk_e 20 _ from trivial) dX7_open_30 (fun H locs wt hT hfl hP hD hS => ?_)
  have hW := hW.arr hfl
  refine lv_aload_n hx hb dX7_open_31 rfl (lv_at hl 1 rfl) ?_
  refine tr_get (ci := 7) hx hb ht hown hK hT hP k_t (by decide) i_X7 rfl 2 (by decide) wd_239 rfl dX7_open_32 (fun v hv hf_11 => ?_)
  obtain ⟨q_12, rfl, hq_12⟩ := hv
  refine lv_iload_n hx hb dX7_open_35 rfl (lv_at hl 0 rfl) ?_
  refine lv_iconst (v := (-1)) hx hb dX7_open_36 (by decide +kernel) ?_
  refine tr_iast hx hb hK hT hP hD hS 20 hq_12 (by decide) (by decide) (show vp_in _ (tk_len 20) from ia_in (n := 5) (by omega) (by omega)) (show tk_e 20 _ from trivial) dX7_open_37 (fun H locs wt hT hfl hP hD hS => ?_)
  have hW := hW.arr hfl
  refine lv_aload_n hx hb dX7_open_38 rfl (lv_at hl 1 rfl) ?_
  refine tr_get (ci := 7) hx hb ht hown hK hT hP k_t (by decide) i_X7 rfl 3 (by decide) wd_243 rfl dX7_open_39 (fun v hv hf_13 => ?_)
  obtain ⟨q_14, rfl, hq_14⟩ := hv
  refine lv_iload_n hx hb dX7_open_42 rfl (lv_at hl 0 rfl) ?_
  refine lv_iconst (v := 0) hx hb dX7_open_43 (by decide +kernel) ?_
  refine tr_iast hx hb hK hT hP hD hS 20 hq_14 (by decide) (by decide) (show vp_in _ (tk_len 20) from ia_in (n := 5) (by omega) (by omega)) (show tk_e 20 _ from trivial) dX7_open_44 (fun H locs wt hT hfl hP hD hS => ?_)
  have hW := hW.arr hfl
  refine lv_iinc (v := 1) (lv' := [(2, .int 1), (0, .ref t), (1, .ref tm)]) hx hb dX7_open_45 hl (k := 0) rfl (by decide +kernel) (by decide) rfl (fun ls hl => ?_)
  refine lv_goto (tgt := 2) hx hb dX7_open_48 (by decide) ?_
  refine lv_iload_n hx hb dX7_open_2 rfl (lv_at hl 0 rfl) ?_
  refine lv_iconst (v := 5) hx hb dX7_open_3 (by decide +kernel) ?_
  refine lv_icmp_ge (tgt := 51) hx hb dX7_open_4 (by decide) (fun c0 => False.elim (by rw [Int32.le_iff_toInt_le] at c0; omega)) (fun _ => ?_)
  refine lv_aload_n hx hb dX7_open_7 rfl (lv_at hl 1 rfl) ?_
  refine tr_get (ci := 7) hx hb ht hown hK hT hP k_t (by decide) i_X7 rfl 0 (by decide) wd_231 rfl dX7_open_8 (fun v hv hf_15 => ?_)
  obtain ⟨q_16, rfl, hq_16⟩ := hv
  refine lv_iload_n hx hb dX7_open_11 rfl (lv_at hl 0 rfl) ?_
  refine lv_aload_n hx hb dX7_open_12 rfl (lv_at hl 2 rfl) ?_
  refine tr_get (ci := 9) hx hb ht hown hK hT hP k_tm (by decide) i_X9 rfl 4 (by decide) wd_195 rfl dX7_open_13 (fun v hv hf_17 => ?_)
  obtain ⟨q_18, rfl, hq_18⟩ := hv
  refine lv_iload_n hx hb dX7_open_16 rfl (lv_at hl 0 rfl) ?_
  refine tr_iald hx hb hK hT hP 20 hq_18 (by decide) (by decide) (show vp_in _ (tk_len 20) from ia_in (n := 5) (by omega) (by omega)) dX7_open_17 (fun n_19 hn_19 => ?_)
  clear hn_19
  refine tr_iast hx hb hK hT hP hD hS 20 hq_16 (by decide) (by decide) (show vp_in _ (tk_len 20) from ia_in (n := 5) (by omega) (by omega)) (show tk_e 20 _ from trivial) dX7_open_18 (fun H locs wt hT hfl hP hD hS => ?_)
  have hW := hW.arr hfl
  refine lv_aload_n hx hb dX7_open_19 rfl (lv_at hl 1 rfl) ?_
  refine tr_get (ci := 7) hx hb ht hown hK hT hP k_t (by decide) i_X7 rfl 1 (by decide) wd_235 rfl dX7_open_20 (fun v hv hf_20 => ?_)
  obtain ⟨q_21, rfl, hq_21⟩ := hv
  refine lv_iload_n hx hb dX7_open_23 rfl (lv_at hl 0 rfl) ?_
  refine lv_aload_n hx hb dX7_open_24 rfl (lv_at hl 2 rfl) ?_
  refine tr_get (ci := 9) hx hb ht hown hK hT hP k_tm (by decide) i_X9 rfl 5 (by decide) wd_197 rfl dX7_open_25 (fun v hv hf_22 => ?_)
  obtain ⟨q_23, rfl, hq_23⟩ := hv
  refine lv_iload_n hx hb dX7_open_28 rfl (lv_at hl 0 rfl) ?_
  refine tr_iald hx hb hK hT hP 20 hq_23 (by decide) (by decide) (show vp_in _ (tk_len 20) from ia_in (n := 5) (by omega) (by omega)) dX7_open_29 (fun n_24 hn_24 => ?_)
  clear hn_24
  refine tr_iast hx hb hK hT hP hD hS 20 hq_21 (by decide) (by decide) (show vp_in _ (tk_len 20) from ia_in (n := 5) (by omega) (by omega)) (show tk_e 20 _ from trivial) dX7_open_30 (fun H locs wt hT hfl hP hD hS => ?_)
  have hW := hW.arr hfl
  refine lv_aload_n hx hb dX7_open_31 rfl (lv_at hl 1 rfl) ?_
  refine tr_get (ci := 7) hx hb ht hown hK hT hP k_t (by decide) i_X7 rfl 2 (by decide) wd_239 rfl dX7_open_32 (fun v hv hf_25 => ?_)
  obtain ⟨q_26, rfl, hq_26⟩ := hv
  refine lv_iload_n hx hb dX7_open_35 rfl (lv_at hl 0 rfl) ?_
  refine lv_iconst (v := (-1)) hx hb dX7_open_36 (by decide +kernel) ?_
  refine tr_iast hx hb hK hT hP hD hS 20 hq_26 (by decide) (by decide) (show vp_in _ (tk_len 20) from ia_in (n := 5) (by omega) (by omega)) (show tk_e 20 _ from trivial) dX7_open_37 (fun H locs wt hT hfl hP hD hS => ?_)
  have hW := hW.arr hfl
  refine lv_aload_n hx hb dX7_open_38 rfl (lv_at hl 1 rfl) ?_
  refine tr_get (ci := 7) hx hb ht hown hK hT hP k_t (by decide) i_X7 rfl 3 (by decide) wd_243 rfl dX7_open_39 (fun v hv hf_27 => ?_)
  obtain ⟨q_28, rfl, hq_28⟩ := hv
  refine lv_iload_n hx hb dX7_open_42 rfl (lv_at hl 0 rfl) ?_
  refine lv_iconst (v := 0) hx hb dX7_open_43 (by decide +kernel) ?_
  refine tr_iast hx hb hK hT hP hD hS 20 hq_28 (by decide) (by decide) (show vp_in _ (tk_len 20) from ia_in (n := 5) (by omega) (by omega)) (show tk_e 20 _ from trivial) dX7_open_44 (fun H locs wt hT hfl hP hD hS => ?_)
  have hW := hW.arr hfl
  refine lv_iinc (v := 2) (lv' := [(2, .int 2), (0, .ref t), (1, .ref tm)]) hx hb dX7_open_45 hl (k := 0) rfl (by decide +kernel) (by decide) rfl (fun ls hl => ?_)
  refine lv_goto (tgt := 2) hx hb dX7_open_48 (by decide) ?_
  refine lv_iload_n hx hb dX7_open_2 rfl (lv_at hl 0 rfl) ?_
  refine lv_iconst (v := 5) hx hb dX7_open_3 (by decide +kernel) ?_
  refine lv_icmp_ge (tgt := 51) hx hb dX7_open_4 (by decide) (fun c0 => False.elim (by rw [Int32.le_iff_toInt_le] at c0; omega)) (fun _ => ?_)
  refine lv_aload_n hx hb dX7_open_7 rfl (lv_at hl 1 rfl) ?_
  refine tr_get (ci := 7) hx hb ht hown hK hT hP k_t (by decide) i_X7 rfl 0 (by decide) wd_231 rfl dX7_open_8 (fun v hv hf_29 => ?_)
  obtain ⟨q_30, rfl, hq_30⟩ := hv
  refine lv_iload_n hx hb dX7_open_11 rfl (lv_at hl 0 rfl) ?_
  refine lv_aload_n hx hb dX7_open_12 rfl (lv_at hl 2 rfl) ?_
  refine tr_get (ci := 9) hx hb ht hown hK hT hP k_tm (by decide) i_X9 rfl 4 (by decide) wd_195 rfl dX7_open_13 (fun v hv hf_31 => ?_)
  obtain ⟨q_32, rfl, hq_32⟩ := hv
  refine lv_iload_n hx hb dX7_open_16 rfl (lv_at hl 0 rfl) ?_
  refine tr_iald hx hb hK hT hP 20 hq_32 (by decide) (by decide) (show vp_in _ (tk_len 20) from ia_in (n := 5) (by omega) (by omega)) dX7_open_17 (fun n_33 hn_33 => ?_)
  clear hn_33
  refine tr_iast hx hb hK hT hP hD hS 20 hq_30 (by decide) (by decide) (show vp_in _ (tk_len 20) from ia_in (n := 5) (by omega) (by omega)) (show tk_e 20 _ from trivial) dX7_open_18 (fun H locs wt hT hfl hP hD hS => ?_)
  have hW := hW.arr hfl
  refine lv_aload_n hx hb dX7_open_19 rfl (lv_at hl 1 rfl) ?_
  refine tr_get (ci := 7) hx hb ht hown hK hT hP k_t (by decide) i_X7 rfl 1 (by decide) wd_235 rfl dX7_open_20 (fun v hv hf_34 => ?_)
  obtain ⟨q_35, rfl, hq_35⟩ := hv
  refine lv_iload_n hx hb dX7_open_23 rfl (lv_at hl 0 rfl) ?_
  refine lv_aload_n hx hb dX7_open_24 rfl (lv_at hl 2 rfl) ?_
  refine tr_get (ci := 9) hx hb ht hown hK hT hP k_tm (by decide) i_X9 rfl 5 (by decide) wd_197 rfl dX7_open_25 (fun v hv hf_36 => ?_)
  obtain ⟨q_37, rfl, hq_37⟩ := hv
  refine lv_iload_n hx hb dX7_open_28 rfl (lv_at hl 0 rfl) ?_
  refine tr_iald hx hb hK hT hP 20 hq_37 (by decide) (by decide) (show vp_in _ (tk_len 20) from ia_in (n := 5) (by omega) (by omega)) dX7_open_29 (fun n_38 hn_38 => ?_)
  clear hn_38
  refine tr_iast hx hb hK hT hP hD hS 20 hq_35 (by decide) (by decide) (show vp_in _ (tk_len 20) from ia_in (n := 5) (by omega) (by omega)) (show tk_e 20 _ from trivial) dX7_open_30 (fun H locs wt hT hfl hP hD hS => ?_)
  have hW := hW.arr hfl
  refine lv_aload_n hx hb dX7_open_31 rfl (lv_at hl 1 rfl) ?_
  refine tr_get (ci := 7) hx hb ht hown hK hT hP k_t (by decide) i_X7 rfl 2 (by decide) wd_239 rfl dX7_open_32 (fun v hv hf_39 => ?_)
  obtain ⟨q_40, rfl, hq_40⟩ := hv
  refine lv_iload_n hx hb dX7_open_35 rfl (lv_at hl 0 rfl) ?_
  refine lv_iconst (v := (-1)) hx hb dX7_open_36 (by decide +kernel) ?_
  refine tr_iast hx hb hK hT hP hD hS 20 hq_40 (by decide) (by decide) (show vp_in _ (tk_len 20) from ia_in (n := 5) (by omega) (by omega)) (show tk_e 20 _ from trivial) dX7_open_37 (fun H locs wt hT hfl hP hD hS => ?_)
  have hW := hW.arr hfl
  refine lv_aload_n hx hb dX7_open_38 rfl (lv_at hl 1 rfl) ?_
  refine tr_get (ci := 7) hx hb ht hown hK hT hP k_t (by decide) i_X7 rfl 3 (by decide) wd_243 rfl dX7_open_39 (fun v hv hf_41 => ?_)
  obtain ⟨q_42, rfl, hq_42⟩ := hv
  refine lv_iload_n hx hb dX7_open_42 rfl (lv_at hl 0 rfl) ?_
  refine lv_iconst (v := 0) hx hb dX7_open_43 (by decide +kernel) ?_
  refine tr_iast hx hb hK hT hP hD hS 20 hq_42 (by decide) (by decide) (show vp_in _ (tk_len 20) from ia_in (n := 5) (by omega) (by omega)) (show tk_e 20 _ from trivial) dX7_open_44 (fun H locs wt hT hfl hP hD hS => ?_)
  have hW := hW.arr hfl
  refine lv_iinc (v := 3) (lv' := [(2, .int 3), (0, .ref t), (1, .ref tm)]) hx hb dX7_open_45 hl (k := 0) rfl (by decide +kernel) (by decide) rfl (fun ls hl => ?_)
  refine lv_goto (tgt := 2) hx hb dX7_open_48 (by decide) ?_
  refine lv_iload_n hx hb dX7_open_2 rfl (lv_at hl 0 rfl) ?_
  refine lv_iconst (v := 5) hx hb dX7_open_3 (by decide +kernel) ?_
  refine lv_icmp_ge (tgt := 51) hx hb dX7_open_4 (by decide) (fun c0 => False.elim (by rw [Int32.le_iff_toInt_le] at c0; omega)) (fun _ => ?_)
  refine lv_aload_n hx hb dX7_open_7 rfl (lv_at hl 1 rfl) ?_
  refine tr_get (ci := 7) hx hb ht hown hK hT hP k_t (by decide) i_X7 rfl 0 (by decide) wd_231 rfl dX7_open_8 (fun v hv hf_43 => ?_)
  obtain ⟨q_44, rfl, hq_44⟩ := hv
  refine lv_iload_n hx hb dX7_open_11 rfl (lv_at hl 0 rfl) ?_
  refine lv_aload_n hx hb dX7_open_12 rfl (lv_at hl 2 rfl) ?_
  refine tr_get (ci := 9) hx hb ht hown hK hT hP k_tm (by decide) i_X9 rfl 4 (by decide) wd_195 rfl dX7_open_13 (fun v hv hf_45 => ?_)
  obtain ⟨q_46, rfl, hq_46⟩ := hv
  refine lv_iload_n hx hb dX7_open_16 rfl (lv_at hl 0 rfl) ?_
  refine tr_iald hx hb hK hT hP 20 hq_46 (by decide) (by decide) (show vp_in _ (tk_len 20) from ia_in (n := 5) (by omega) (by omega)) dX7_open_17 (fun n_47 hn_47 => ?_)
  clear hn_47
  refine tr_iast hx hb hK hT hP hD hS 20 hq_44 (by decide) (by decide) (show vp_in _ (tk_len 20) from ia_in (n := 5) (by omega) (by omega)) (show tk_e 20 _ from trivial) dX7_open_18 (fun H locs wt hT hfl hP hD hS => ?_)
  have hW := hW.arr hfl
  refine lv_aload_n hx hb dX7_open_19 rfl (lv_at hl 1 rfl) ?_
  refine tr_get (ci := 7) hx hb ht hown hK hT hP k_t (by decide) i_X7 rfl 1 (by decide) wd_235 rfl dX7_open_20 (fun v hv hf_48 => ?_)
  obtain ⟨q_49, rfl, hq_49⟩ := hv
  refine lv_iload_n hx hb dX7_open_23 rfl (lv_at hl 0 rfl) ?_
  refine lv_aload_n hx hb dX7_open_24 rfl (lv_at hl 2 rfl) ?_
  refine tr_get (ci := 9) hx hb ht hown hK hT hP k_tm (by decide) i_X9 rfl 5 (by decide) wd_197 rfl dX7_open_25 (fun v hv hf_50 => ?_)
  obtain ⟨q_51, rfl, hq_51⟩ := hv
  refine lv_iload_n hx hb dX7_open_28 rfl (lv_at hl 0 rfl) ?_
  refine tr_iald hx hb hK hT hP 20 hq_51 (by decide) (by decide) (show vp_in _ (tk_len 20) from ia_in (n := 5) (by omega) (by omega)) dX7_open_29 (fun n_52 hn_52 => ?_)
  clear hn_52
  refine tr_iast hx hb hK hT hP hD hS 20 hq_49 (by decide) (by decide) (show vp_in _ (tk_len 20) from ia_in (n := 5) (by omega) (by omega)) (show tk_e 20 _ from trivial) dX7_open_30 (fun H locs wt hT hfl hP hD hS => ?_)
  have hW := hW.arr hfl
  refine lv_aload_n hx hb dX7_open_31 rfl (lv_at hl 1 rfl) ?_
  refine tr_get (ci := 7) hx hb ht hown hK hT hP k_t (by decide) i_X7 rfl 2 (by decide) wd_239 rfl dX7_open_32 (fun v hv hf_53 => ?_)
  obtain ⟨q_54, rfl, hq_54⟩ := hv
  refine lv_iload_n hx hb dX7_open_35 rfl (lv_at hl 0 rfl) ?_
  refine lv_iconst (v := (-1)) hx hb dX7_open_36 (by decide +kernel) ?_
  refine tr_iast hx hb hK hT hP hD hS 20 hq_54 (by decide) (by decide) (show vp_in _ (tk_len 20) from ia_in (n := 5) (by omega) (by omega)) (show tk_e 20 _ from trivial) dX7_open_37 (fun H locs wt hT hfl hP hD hS => ?_)
  have hW := hW.arr hfl
  refine lv_aload_n hx hb dX7_open_38 rfl (lv_at hl 1 rfl) ?_
  refine tr_get (ci := 7) hx hb ht hown hK hT hP k_t (by decide) i_X7 rfl 3 (by decide) wd_243 rfl dX7_open_39 (fun v hv hf_55 => ?_)
  obtain ⟨q_56, rfl, hq_56⟩ := hv
  refine lv_iload_n hx hb dX7_open_42 rfl (lv_at hl 0 rfl) ?_
  refine lv_iconst (v := 0) hx hb dX7_open_43 (by decide +kernel) ?_
  refine tr_iast hx hb hK hT hP hD hS 20 hq_56 (by decide) (by decide) (show vp_in _ (tk_len 20) from ia_in (n := 5) (by omega) (by omega)) (show tk_e 20 _ from trivial) dX7_open_44 (fun H locs wt hT hfl hP hD hS => ?_)
  have hW := hW.arr hfl
  refine lv_iinc (v := 4) (lv' := [(2, .int 4), (0, .ref t), (1, .ref tm)]) hx hb dX7_open_45 hl (k := 0) rfl (by decide +kernel) (by decide) rfl (fun ls hl => ?_)
  refine lv_goto (tgt := 2) hx hb dX7_open_48 (by decide) ?_
  refine lv_iload_n hx hb dX7_open_2 rfl (lv_at hl 0 rfl) ?_
  refine lv_iconst (v := 5) hx hb dX7_open_3 (by decide +kernel) ?_
  refine lv_icmp_ge (tgt := 51) hx hb dX7_open_4 (by decide) (fun c0 => False.elim (by rw [Int32.le_iff_toInt_le] at c0; omega)) (fun _ => ?_)
  refine lv_aload_n hx hb dX7_open_7 rfl (lv_at hl 1 rfl) ?_
  refine tr_get (ci := 7) hx hb ht hown hK hT hP k_t (by decide) i_X7 rfl 0 (by decide) wd_231 rfl dX7_open_8 (fun v hv hf_57 => ?_)
  obtain ⟨q_58, rfl, hq_58⟩ := hv
  refine lv_iload_n hx hb dX7_open_11 rfl (lv_at hl 0 rfl) ?_
  refine lv_aload_n hx hb dX7_open_12 rfl (lv_at hl 2 rfl) ?_
  refine tr_get (ci := 9) hx hb ht hown hK hT hP k_tm (by decide) i_X9 rfl 4 (by decide) wd_195 rfl dX7_open_13 (fun v hv hf_59 => ?_)
  obtain ⟨q_60, rfl, hq_60⟩ := hv
  refine lv_iload_n hx hb dX7_open_16 rfl (lv_at hl 0 rfl) ?_
  refine tr_iald hx hb hK hT hP 20 hq_60 (by decide) (by decide) (show vp_in _ (tk_len 20) from ia_in (n := 5) (by omega) (by omega)) dX7_open_17 (fun n_61 hn_61 => ?_)
  clear hn_61
  refine tr_iast hx hb hK hT hP hD hS 20 hq_58 (by decide) (by decide) (show vp_in _ (tk_len 20) from ia_in (n := 5) (by omega) (by omega)) (show tk_e 20 _ from trivial) dX7_open_18 (fun H locs wt hT hfl hP hD hS => ?_)
  have hW := hW.arr hfl
  refine lv_aload_n hx hb dX7_open_19 rfl (lv_at hl 1 rfl) ?_
  refine tr_get (ci := 7) hx hb ht hown hK hT hP k_t (by decide) i_X7 rfl 1 (by decide) wd_235 rfl dX7_open_20 (fun v hv hf_62 => ?_)
  obtain ⟨q_63, rfl, hq_63⟩ := hv
  refine lv_iload_n hx hb dX7_open_23 rfl (lv_at hl 0 rfl) ?_
  refine lv_aload_n hx hb dX7_open_24 rfl (lv_at hl 2 rfl) ?_
  refine tr_get (ci := 9) hx hb ht hown hK hT hP k_tm (by decide) i_X9 rfl 5 (by decide) wd_197 rfl dX7_open_25 (fun v hv hf_64 => ?_)
  obtain ⟨q_65, rfl, hq_65⟩ := hv
  refine lv_iload_n hx hb dX7_open_28 rfl (lv_at hl 0 rfl) ?_
  refine tr_iald hx hb hK hT hP 20 hq_65 (by decide) (by decide) (show vp_in _ (tk_len 20) from ia_in (n := 5) (by omega) (by omega)) dX7_open_29 (fun n_66 hn_66 => ?_)
  clear hn_66
  refine tr_iast hx hb hK hT hP hD hS 20 hq_63 (by decide) (by decide) (show vp_in _ (tk_len 20) from ia_in (n := 5) (by omega) (by omega)) (show tk_e 20 _ from trivial) dX7_open_30 (fun H locs wt hT hfl hP hD hS => ?_)
  have hW := hW.arr hfl
  refine lv_aload_n hx hb dX7_open_31 rfl (lv_at hl 1 rfl) ?_
  refine tr_get (ci := 7) hx hb ht hown hK hT hP k_t (by decide) i_X7 rfl 2 (by decide) wd_239 rfl dX7_open_32 (fun v hv hf_67 => ?_)
  obtain ⟨q_68, rfl, hq_68⟩ := hv
  refine lv_iload_n hx hb dX7_open_35 rfl (lv_at hl 0 rfl) ?_
  refine lv_iconst (v := (-1)) hx hb dX7_open_36 (by decide +kernel) ?_
  refine tr_iast hx hb hK hT hP hD hS 20 hq_68 (by decide) (by decide) (show vp_in _ (tk_len 20) from ia_in (n := 5) (by omega) (by omega)) (show tk_e 20 _ from trivial) dX7_open_37 (fun H locs wt hT hfl hP hD hS => ?_)
  have hW := hW.arr hfl
  refine lv_aload_n hx hb dX7_open_38 rfl (lv_at hl 1 rfl) ?_
  refine tr_get (ci := 7) hx hb ht hown hK hT hP k_t (by decide) i_X7 rfl 3 (by decide) wd_243 rfl dX7_open_39 (fun v hv hf_69 => ?_)
  obtain ⟨q_70, rfl, hq_70⟩ := hv
  refine lv_iload_n hx hb dX7_open_42 rfl (lv_at hl 0 rfl) ?_
  refine lv_iconst (v := 0) hx hb dX7_open_43 (by decide +kernel) ?_
  refine tr_iast hx hb hK hT hP hD hS 20 hq_70 (by decide) (by decide) (show vp_in _ (tk_len 20) from ia_in (n := 5) (by omega) (by omega)) (show tk_e 20 _ from trivial) dX7_open_44 (fun H locs wt hT hfl hP hD hS => ?_)
  have hW := hW.arr hfl
  refine lv_iinc (v := 5) (lv' := [(2, .int 5), (0, .ref t), (1, .ref tm)]) hx hb dX7_open_45 hl (k := 0) rfl (by decide +kernel) (by decide) rfl (fun ls hl => ?_)
  refine lv_goto (tgt := 2) hx hb dX7_open_48 (by decide) ?_
  refine lv_iload_n hx hb dX7_open_2 rfl (lv_at hl 0 rfl) ?_
  refine lv_iconst (v := 5) hx hb dX7_open_3 (by decide +kernel) ?_
  refine lv_icmp_ge (tgt := 51) hx hb dX7_open_4 (by decide) (fun _ => ?_) (fun c0 => False.elim (by rw [Int32.le_iff_toInt_le] at c0; omega))
  refine lv_iconst (v := 0) hx hb dX7_open_51 (by decide +kernel) ?_
  refine lv_istore_n (lv' := [(2, .int 0), (0, .ref t), (1, .ref tm)]) hx hb dX7_open_52 rfl hl (by decide) rfl (fun ls hl => ?_)
  refine lv_iload_n hx hb dX7_open_53 rfl (lv_at hl 0 rfl) ?_
  refine lv_iconst (v := 3) hx hb dX7_open_54 (by decide +kernel) ?_
  refine lv_icmp_ge (tgt := 99) hx hb dX7_open_55 (by decide) (fun c0 => False.elim (by rw [Int32.le_iff_toInt_le] at c0; omega)) (fun _ => ?_)
  refine lv_aload_n hx hb dX7_open_58 rfl (lv_at hl 1 rfl) ?_
  refine tr_get (ci := 7) hx hb ht hown hK hT hP k_t (by decide) i_X7 rfl 4 (by decide) wd_246 rfl dX7_open_59 (fun v hv hf_71 => ?_)
  obtain ⟨q_72, rfl, hq_72⟩ := hv
  refine lv_iload_n hx hb dX7_open_62 rfl (lv_at hl 0 rfl) ?_
  refine lv_iconst (v := 0) hx hb dX7_open_63 (by decide +kernel) ?_
  refine tr_iast hx hb hK hT hP hD hS 21 hq_72 (by decide) (by decide) (show vp_in _ (tk_len 21) from ia_in (n := 3) (by omega) (by omega)) (show tk_e 21 _ from trivial) dX7_open_64 (fun H locs wt hT hfl hP hD hS => ?_)
  have hW := hW.arr hfl
  refine lv_aload_n hx hb dX7_open_65 rfl (lv_at hl 1 rfl) ?_
  refine tr_get (ci := 7) hx hb ht hown hK hT hP k_t (by decide) i_X7 rfl 5 (by decide) wd_250 rfl dX7_open_66 (fun v hv hf_73 => ?_)
  obtain ⟨q_74, rfl, hq_74⟩ := hv
  refine lv_iload_n hx hb dX7_open_69 rfl (lv_at hl 0 rfl) ?_
  refine lv_iconst (v := 0) hx hb dX7_open_70 (by decide +kernel) ?_
  refine tr_iast hx hb hK hT hP hD hS 21 hq_74 (by decide) (by decide) (show vp_in _ (tk_len 21) from ia_in (n := 3) (by omega) (by omega)) (show tk_e 21 _ from trivial) dX7_open_71 (fun H locs wt hT hfl hP hD hS => ?_)
  have hW := hW.arr hfl
  refine lv_aload_n hx hb dX7_open_72 rfl (lv_at hl 1 rfl) ?_
  refine tr_get (ci := 7) hx hb ht hown hK hT hP k_t (by decide) i_X7 rfl 6 (by decide) wd_254 rfl dX7_open_73 (fun v hv hf_75 => ?_)
  obtain ⟨q_76, rfl, hq_76⟩ := hv
  refine lv_iload_n hx hb dX7_open_76 rfl (lv_at hl 0 rfl) ?_
  refine lv_iconst (v := (-1)) hx hb dX7_open_77 (by decide +kernel) ?_
  refine tr_iast hx hb hK hT hP hD hS 21 hq_76 (by decide) (by decide) (show vp_in _ (tk_len 21) from ia_in (n := 3) (by omega) (by omega)) (show tk_e 21 _ from trivial) dX7_open_78 (fun H locs wt hT hfl hP hD hS => ?_)
  have hW := hW.arr hfl
  refine lv_aload_n hx hb dX7_open_79 rfl (lv_at hl 1 rfl) ?_
  refine tr_get (ci := 7) hx hb ht hown hK hT hP k_t (by decide) i_X7 rfl 7 (by decide) wd_258 rfl dX7_open_80 (fun v hv hf_77 => ?_)
  obtain ⟨q_78, rfl, hq_78⟩ := hv
  refine lv_iload_n hx hb dX7_open_83 rfl (lv_at hl 0 rfl) ?_
  refine lv_iconst (v := 0) hx hb dX7_open_84 (by decide +kernel) ?_
  refine tr_iast hx hb hK hT hP hD hS 21 hq_78 (by decide) (by decide) (show vp_in _ (tk_len 21) from ia_in (n := 3) (by omega) (by omega)) (show tk_e 21 _ from trivial) dX7_open_85 (fun H locs wt hT hfl hP hD hS => ?_)
  have hW := hW.arr hfl
  refine lv_aload_n hx hb dX7_open_86 rfl (lv_at hl 1 rfl) ?_
  refine tr_get (ci := 7) hx hb ht hown hK hT hP k_t (by decide) i_X7 rfl 8 (by decide) wd_261 rfl dX7_open_87 (fun v hv hf_79 => ?_)
  obtain ⟨q_80, rfl, hq_80⟩ := hv
  refine lv_iload_n hx hb dX7_open_90 rfl (lv_at hl 0 rfl) ?_
  refine lv_iconst (v := 0) hx hb dX7_open_91 (by decide +kernel) ?_
  refine tr_iast hx hb hK hT hP hD hS 22 hq_80 (by decide) (by decide) (show vp_in _ (tk_len 22) from ia_in (n := 3) (by omega) (by omega)) (show tk_e 22 _ from ⟨by omega, by omega⟩) dX7_open_92 (fun H locs wt hT hfl hP hD hS => ?_)
  have hW := hW.arr hfl
  refine lv_iinc (v := 1) (lv' := [(2, .int 1), (0, .ref t), (1, .ref tm)]) hx hb dX7_open_93 hl (k := 0) rfl (by decide +kernel) (by decide) rfl (fun ls hl => ?_)
  refine lv_goto (tgt := 53) hx hb dX7_open_96 (by decide) ?_
  refine lv_iload_n hx hb dX7_open_53 rfl (lv_at hl 0 rfl) ?_
  refine lv_iconst (v := 3) hx hb dX7_open_54 (by decide +kernel) ?_
  refine lv_icmp_ge (tgt := 99) hx hb dX7_open_55 (by decide) (fun c0 => False.elim (by rw [Int32.le_iff_toInt_le] at c0; omega)) (fun _ => ?_)
  refine lv_aload_n hx hb dX7_open_58 rfl (lv_at hl 1 rfl) ?_
  refine tr_get (ci := 7) hx hb ht hown hK hT hP k_t (by decide) i_X7 rfl 4 (by decide) wd_246 rfl dX7_open_59 (fun v hv hf_81 => ?_)
  obtain ⟨q_82, rfl, hq_82⟩ := hv
  refine lv_iload_n hx hb dX7_open_62 rfl (lv_at hl 0 rfl) ?_
  refine lv_iconst (v := 0) hx hb dX7_open_63 (by decide +kernel) ?_
  refine tr_iast hx hb hK hT hP hD hS 21 hq_82 (by decide) (by decide) (show vp_in _ (tk_len 21) from ia_in (n := 3) (by omega) (by omega)) (show tk_e 21 _ from trivial) dX7_open_64 (fun H locs wt hT hfl hP hD hS => ?_)
  have hW := hW.arr hfl
  refine lv_aload_n hx hb dX7_open_65 rfl (lv_at hl 1 rfl) ?_
  refine tr_get (ci := 7) hx hb ht hown hK hT hP k_t (by decide) i_X7 rfl 5 (by decide) wd_250 rfl dX7_open_66 (fun v hv hf_83 => ?_)
  obtain ⟨q_84, rfl, hq_84⟩ := hv
  refine lv_iload_n hx hb dX7_open_69 rfl (lv_at hl 0 rfl) ?_
  refine lv_iconst (v := 0) hx hb dX7_open_70 (by decide +kernel) ?_
  refine tr_iast hx hb hK hT hP hD hS 21 hq_84 (by decide) (by decide) (show vp_in _ (tk_len 21) from ia_in (n := 3) (by omega) (by omega)) (show tk_e 21 _ from trivial) dX7_open_71 (fun H locs wt hT hfl hP hD hS => ?_)
  have hW := hW.arr hfl
  refine lv_aload_n hx hb dX7_open_72 rfl (lv_at hl 1 rfl) ?_
  refine tr_get (ci := 7) hx hb ht hown hK hT hP k_t (by decide) i_X7 rfl 6 (by decide) wd_254 rfl dX7_open_73 (fun v hv hf_85 => ?_)
  obtain ⟨q_86, rfl, hq_86⟩ := hv
  refine lv_iload_n hx hb dX7_open_76 rfl (lv_at hl 0 rfl) ?_
  refine lv_iconst (v := (-1)) hx hb dX7_open_77 (by decide +kernel) ?_
  refine tr_iast hx hb hK hT hP hD hS 21 hq_86 (by decide) (by decide) (show vp_in _ (tk_len 21) from ia_in (n := 3) (by omega) (by omega)) (show tk_e 21 _ from trivial) dX7_open_78 (fun H locs wt hT hfl hP hD hS => ?_)
  have hW := hW.arr hfl
  refine lv_aload_n hx hb dX7_open_79 rfl (lv_at hl 1 rfl) ?_
  refine tr_get (ci := 7) hx hb ht hown hK hT hP k_t (by decide) i_X7 rfl 7 (by decide) wd_258 rfl dX7_open_80 (fun v hv hf_87 => ?_)
  obtain ⟨q_88, rfl, hq_88⟩ := hv
  refine lv_iload_n hx hb dX7_open_83 rfl (lv_at hl 0 rfl) ?_
  refine lv_iconst (v := 0) hx hb dX7_open_84 (by decide +kernel) ?_
  refine tr_iast hx hb hK hT hP hD hS 21 hq_88 (by decide) (by decide) (show vp_in _ (tk_len 21) from ia_in (n := 3) (by omega) (by omega)) (show tk_e 21 _ from trivial) dX7_open_85 (fun H locs wt hT hfl hP hD hS => ?_)
  have hW := hW.arr hfl
  refine lv_aload_n hx hb dX7_open_86 rfl (lv_at hl 1 rfl) ?_
  refine tr_get (ci := 7) hx hb ht hown hK hT hP k_t (by decide) i_X7 rfl 8 (by decide) wd_261 rfl dX7_open_87 (fun v hv hf_89 => ?_)
  obtain ⟨q_90, rfl, hq_90⟩ := hv
  refine lv_iload_n hx hb dX7_open_90 rfl (lv_at hl 0 rfl) ?_
  refine lv_iconst (v := 0) hx hb dX7_open_91 (by decide +kernel) ?_
  refine tr_iast hx hb hK hT hP hD hS 22 hq_90 (by decide) (by decide) (show vp_in _ (tk_len 22) from ia_in (n := 3) (by omega) (by omega)) (show tk_e 22 _ from ⟨by omega, by omega⟩) dX7_open_92 (fun H locs wt hT hfl hP hD hS => ?_)
  have hW := hW.arr hfl
  refine lv_iinc (v := 2) (lv' := [(2, .int 2), (0, .ref t), (1, .ref tm)]) hx hb dX7_open_93 hl (k := 0) rfl (by decide +kernel) (by decide) rfl (fun ls hl => ?_)
  refine lv_goto (tgt := 53) hx hb dX7_open_96 (by decide) ?_
  refine lv_iload_n hx hb dX7_open_53 rfl (lv_at hl 0 rfl) ?_
  refine lv_iconst (v := 3) hx hb dX7_open_54 (by decide +kernel) ?_
  refine lv_icmp_ge (tgt := 99) hx hb dX7_open_55 (by decide) (fun c0 => False.elim (by rw [Int32.le_iff_toInt_le] at c0; omega)) (fun _ => ?_)
  refine lv_aload_n hx hb dX7_open_58 rfl (lv_at hl 1 rfl) ?_
  refine tr_get (ci := 7) hx hb ht hown hK hT hP k_t (by decide) i_X7 rfl 4 (by decide) wd_246 rfl dX7_open_59 (fun v hv hf_91 => ?_)
  obtain ⟨q_92, rfl, hq_92⟩ := hv
  refine lv_iload_n hx hb dX7_open_62 rfl (lv_at hl 0 rfl) ?_
  refine lv_iconst (v := 0) hx hb dX7_open_63 (by decide +kernel) ?_
  refine tr_iast hx hb hK hT hP hD hS 21 hq_92 (by decide) (by decide) (show vp_in _ (tk_len 21) from ia_in (n := 3) (by omega) (by omega)) (show tk_e 21 _ from trivial) dX7_open_64 (fun H locs wt hT hfl hP hD hS => ?_)
  have hW := hW.arr hfl
  refine lv_aload_n hx hb dX7_open_65 rfl (lv_at hl 1 rfl) ?_
  refine tr_get (ci := 7) hx hb ht hown hK hT hP k_t (by decide) i_X7 rfl 5 (by decide) wd_250 rfl dX7_open_66 (fun v hv hf_93 => ?_)
  obtain ⟨q_94, rfl, hq_94⟩ := hv
  refine lv_iload_n hx hb dX7_open_69 rfl (lv_at hl 0 rfl) ?_
  refine lv_iconst (v := 0) hx hb dX7_open_70 (by decide +kernel) ?_
  refine tr_iast hx hb hK hT hP hD hS 21 hq_94 (by decide) (by decide) (show vp_in _ (tk_len 21) from ia_in (n := 3) (by omega) (by omega)) (show tk_e 21 _ from trivial) dX7_open_71 (fun H locs wt hT hfl hP hD hS => ?_)
  have hW := hW.arr hfl
  refine lv_aload_n hx hb dX7_open_72 rfl (lv_at hl 1 rfl) ?_
  refine tr_get (ci := 7) hx hb ht hown hK hT hP k_t (by decide) i_X7 rfl 6 (by decide) wd_254 rfl dX7_open_73 (fun v hv hf_95 => ?_)
  obtain ⟨q_96, rfl, hq_96⟩ := hv
  refine lv_iload_n hx hb dX7_open_76 rfl (lv_at hl 0 rfl) ?_
  refine lv_iconst (v := (-1)) hx hb dX7_open_77 (by decide +kernel) ?_
  refine tr_iast hx hb hK hT hP hD hS 21 hq_96 (by decide) (by decide) (show vp_in _ (tk_len 21) from ia_in (n := 3) (by omega) (by omega)) (show tk_e 21 _ from trivial) dX7_open_78 (fun H locs wt hT hfl hP hD hS => ?_)
  have hW := hW.arr hfl
  refine lv_aload_n hx hb dX7_open_79 rfl (lv_at hl 1 rfl) ?_
  refine tr_get (ci := 7) hx hb ht hown hK hT hP k_t (by decide) i_X7 rfl 7 (by decide) wd_258 rfl dX7_open_80 (fun v hv hf_97 => ?_)
  obtain ⟨q_98, rfl, hq_98⟩ := hv
  refine lv_iload_n hx hb dX7_open_83 rfl (lv_at hl 0 rfl) ?_
  refine lv_iconst (v := 0) hx hb dX7_open_84 (by decide +kernel) ?_
  refine tr_iast hx hb hK hT hP hD hS 21 hq_98 (by decide) (by decide) (show vp_in _ (tk_len 21) from ia_in (n := 3) (by omega) (by omega)) (show tk_e 21 _ from trivial) dX7_open_85 (fun H locs wt hT hfl hP hD hS => ?_)
  have hW := hW.arr hfl
  refine lv_aload_n hx hb dX7_open_86 rfl (lv_at hl 1 rfl) ?_
  refine tr_get (ci := 7) hx hb ht hown hK hT hP k_t (by decide) i_X7 rfl 8 (by decide) wd_261 rfl dX7_open_87 (fun v hv hf_99 => ?_)
  obtain ⟨q_100, rfl, hq_100⟩ := hv
  refine lv_iload_n hx hb dX7_open_90 rfl (lv_at hl 0 rfl) ?_
  refine lv_iconst (v := 0) hx hb dX7_open_91 (by decide +kernel) ?_
  refine tr_iast hx hb hK hT hP hD hS 22 hq_100 (by decide) (by decide) (show vp_in _ (tk_len 22) from ia_in (n := 3) (by omega) (by omega)) (show tk_e 22 _ from ⟨by omega, by omega⟩) dX7_open_92 (fun H locs wt hT hfl hP hD hS => ?_)
  have hW := hW.arr hfl
  refine lv_iinc (v := 3) (lv' := [(2, .int 3), (0, .ref t), (1, .ref tm)]) hx hb dX7_open_93 hl (k := 0) rfl (by decide +kernel) (by decide) rfl (fun ls hl => ?_)
  refine lv_goto (tgt := 53) hx hb dX7_open_96 (by decide) ?_
  refine lv_iload_n hx hb dX7_open_53 rfl (lv_at hl 0 rfl) ?_
  refine lv_iconst (v := 3) hx hb dX7_open_54 (by decide +kernel) ?_
  refine lv_icmp_ge (tgt := 99) hx hb dX7_open_55 (by decide) (fun _ => ?_) (fun c0 => False.elim (by rw [Int32.le_iff_toInt_le] at c0; omega))
  refine lv_aload_n hx hb dX7_open_99 rfl (lv_at hl 1 rfl) ?_
  refine lv_iconst (v := 0) hx hb dX7_open_100 (by decide +kernel) ?_
  refine tr_put (ci := 7) hx hb ht hown hK hT hP hD hS k_t (by decide) i_X7 tyX7 tyX7_ok nmX7 rfl 9 (by decide) wd_266 rfl rfl rfl rfl ⟨_, rfl⟩ dX7_open_101 (fun H locs wt hT hfl hfn hP hD hS => ?_)
  have hW := hW.obj (show 7 * 100 + 9 ∈ [709] by decide) hfl
  have hf_101 := hfn
  have hP9 := tw_right hP
  have hD9 := tw_rightD hD
  exact W.vret hx hb hr (gq_endV wt ⟨hT, hW⟩ hP9 hD9 hS) hS.2.2 dX7_open_104

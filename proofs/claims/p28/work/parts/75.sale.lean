theorem wd_655 : (Jvm.Cond.methodLink "SilentSale$Terms" (92 : Nat) ({ cls := "SilentSale$Tape", name := "number", desc := "(II)I" } : Jvm.MethodName)) ∈ tb_L := tb_in (i := 655) (by decide +kernel) (by decide +kernel)
theorem wd_663 : (Jvm.Cond.code ({ cls := "SilentSale$Terms", name := "readBidder", desc := "(LSilentSale$Tape;)Z" } : Jvm.MethodName) prog_11_method_8_code (4 : Nat) (Option.some Jvm.ClassFile.FieldType.boolean)) ∈ tb_L := tb_in (i := 663) (by decide +kernel) (by decide +kernel)
theorem dX9_readBidder_0 : decode cX9_readBidder 0 = .ok (.aload_n 1, 1) := by decide +kernel
theorem dX9_readBidder_1 : decode cX9_readBidder 1 = .ok (.iconst 0, 1) := by decide +kernel
theorem dX9_readBidder_2 : decode cX9_readBidder 2 = .ok (.sipush 999, 3) := by decide +kernel
theorem dX9_readBidder_5 : decode cX9_readBidder 5 = .ok (.invokevirtual 92, 3) := by decide +kernel
theorem dX9_readBidder_8 : decode cX9_readBidder 8 = .ok (.istore_n 2, 1) := by decide +kernel
theorem dX9_readBidder_9 : decode cX9_readBidder 9 = .ok (.iload_n 2, 1) := by decide +kernel
theorem dX9_readBidder_10 : decode cX9_readBidder 10 = .ok (.iconst (-1), 1) := by decide +kernel
theorem dX9_readBidder_11 : decode cX9_readBidder 11 = .ok (.if_icmp .ne 7, 3) := by decide +kernel
theorem dX9_readBidder_14 : decode cX9_readBidder 14 = .ok (.iconst (-1), 1) := by decide +kernel
theorem dX9_readBidder_15 : decode cX9_readBidder 15 = .ok (.goto 11, 3) := by decide +kernel
theorem dX9_readBidder_18 : decode cX9_readBidder 18 = .ok (.aload_n 1, 1) := by decide +kernel
theorem dX9_readBidder_19 : decode cX9_readBidder 19 = .ok (.iconst 1, 1) := by decide +kernel
theorem dX9_readBidder_20 : decode cX9_readBidder 20 = .ok (.sipush 300, 3) := by decide +kernel
theorem dX9_readBidder_23 : decode cX9_readBidder 23 = .ok (.invokevirtual 92, 3) := by decide +kernel
theorem dX9_readBidder_26 : decode cX9_readBidder 26 = .ok (.istore_n 3, 1) := by decide +kernel
theorem dX9_readBidder_27 : decode cX9_readBidder 27 = .ok (.iload_n 3, 1) := by decide +kernel
theorem dX9_readBidder_28 : decode cX9_readBidder 28 = .ok (.iconst (-1), 1) := by decide +kernel
theorem dX9_readBidder_29 : decode cX9_readBidder 29 = .ok (.if_icmp .eq 11, 3) := by decide +kernel
theorem dX9_readBidder_32 : decode cX9_readBidder 32 = .ok (.aload_n 0, 1) := by decide +kernel
theorem dX9_readBidder_33 : decode cX9_readBidder 33 = .ok (.getfield 15, 3) := by decide +kernel
theorem dX9_readBidder_36 : decode cX9_readBidder 36 = .ok (.iconst 5, 1) := by decide +kernel
theorem dX9_readBidder_37 : decode cX9_readBidder 37 = .ok (.if_icmp .lt 5, 3) := by decide +kernel
theorem dX9_readBidder_40 : decode cX9_readBidder 40 = .ok (.iconst 0, 1) := by decide +kernel
theorem dX9_readBidder_41 : decode cX9_readBidder 41 = .ok (.ireturn, 1) := by decide +kernel
theorem dX9_readBidder_42 : decode cX9_readBidder 42 = .ok (.aload_n 0, 1) := by decide +kernel
theorem dX9_readBidder_43 : decode cX9_readBidder 43 = .ok (.getfield 24, 3) := by decide +kernel
theorem dX9_readBidder_46 : decode cX9_readBidder 46 = .ok (.aload_n 0, 1) := by decide +kernel
theorem dX9_readBidder_47 : decode cX9_readBidder 47 = .ok (.getfield 15, 3) := by decide +kernel
theorem dX9_readBidder_50 : decode cX9_readBidder 50 = .ok (.iload_n 2, 1) := by decide +kernel
theorem dX9_readBidder_51 : decode cX9_readBidder 51 = .ok (.iastore, 1) := by decide +kernel
theorem dX9_readBidder_52 : decode cX9_readBidder 52 = .ok (.aload_n 0, 1) := by decide +kernel
theorem dX9_readBidder_53 : decode cX9_readBidder 53 = .ok (.getfield 28, 3) := by decide +kernel
theorem dX9_readBidder_56 : decode cX9_readBidder 56 = .ok (.aload_n 0, 1) := by decide +kernel
theorem dX9_readBidder_57 : decode cX9_readBidder 57 = .ok (.getfield 15, 3) := by decide +kernel
theorem dX9_readBidder_60 : decode cX9_readBidder 60 = .ok (.iload_n 3, 1) := by decide +kernel
theorem dX9_readBidder_61 : decode cX9_readBidder 61 = .ok (.iastore, 1) := by decide +kernel
theorem dX9_readBidder_62 : decode cX9_readBidder 62 = .ok (.aload_n 0, 1) := by decide +kernel
theorem dX9_readBidder_63 : decode cX9_readBidder 63 = .ok (.dup, 1) := by decide +kernel
theorem dX9_readBidder_64 : decode cX9_readBidder 64 = .ok (.getfield 15, 3) := by decide +kernel
theorem dX9_readBidder_67 : decode cX9_readBidder 67 = .ok (.iconst 1, 1) := by decide +kernel
theorem dX9_readBidder_68 : decode cX9_readBidder 68 = .ok (.iadd, 1) := by decide +kernel
theorem dX9_readBidder_69 : decode cX9_readBidder 69 = .ok (.putfield 15, 3) := by decide +kernel
theorem dX9_readBidder_72 : decode cX9_readBidder 72 = .ok (.iconst 1, 1) := by decide +kernel
theorem dX9_readBidder_73 : decode cX9_readBidder 73 = .ok (.ireturn, 1) := by decide +kernel
theorem wd_667 : (Jvm.Cond.code ({ cls := "SilentSale$Terms", name := "readWorth", desc := "(LSilentSale$Tape;)Z" } : Jvm.MethodName) prog_11_method_9_code (5 : Nat) (Option.some Jvm.ClassFile.FieldType.boolean)) ∈ tb_L := tb_in (i := 667) (by decide +kernel) (by decide +kernel)
theorem dX9_readWorth_0 : decode cX9_readWorth 0 = .ok (.aload_n 1, 1) := by decide +kernel
theorem dX9_readWorth_1 : decode cX9_readWorth 1 = .ok (.iconst 0, 1) := by decide +kernel
theorem dX9_readWorth_2 : decode cX9_readWorth 2 = .ok (.aload_n 0, 1) := by decide +kernel
theorem dX9_readWorth_3 : decode cX9_readWorth 3 = .ok (.getfield 15, 3) := by decide +kernel
theorem dX9_readWorth_6 : decode cX9_readWorth 6 = .ok (.iconst 1, 1) := by decide +kernel
theorem dX9_readWorth_7 : decode cX9_readWorth 7 = .ok (.isub, 1) := by decide +kernel
theorem dX9_readWorth_8 : decode cX9_readWorth 8 = .ok (.invokevirtual 92, 3) := by decide +kernel
theorem dX9_readWorth_11 : decode cX9_readWorth 11 = .ok (.istore_n 2, 1) := by decide +kernel
theorem dX9_readWorth_12 : decode cX9_readWorth 12 = .ok (.iload_n 2, 1) := by decide +kernel
theorem dX9_readWorth_13 : decode cX9_readWorth 13 = .ok (.iconst (-1), 1) := by decide +kernel
theorem dX9_readWorth_14 : decode cX9_readWorth 14 = .ok (.if_icmp .ne 7, 3) := by decide +kernel
theorem dX9_readWorth_17 : decode cX9_readWorth 17 = .ok (.iconst (-1), 1) := by decide +kernel
theorem dX9_readWorth_18 : decode cX9_readWorth 18 = .ok (.goto 14, 3) := by decide +kernel
theorem dX9_readWorth_21 : decode cX9_readWorth 21 = .ok (.aload_n 1, 1) := by decide +kernel
theorem dX9_readWorth_22 : decode cX9_readWorth 22 = .ok (.iconst 0, 1) := by decide +kernel
theorem dX9_readWorth_23 : decode cX9_readWorth 23 = .ok (.aload_n 0, 1) := by decide +kernel
theorem dX9_readWorth_24 : decode cX9_readWorth 24 = .ok (.getfield 18, 3) := by decide +kernel
theorem dX9_readWorth_27 : decode cX9_readWorth 27 = .ok (.iconst 1, 1) := by decide +kernel
theorem dX9_readWorth_28 : decode cX9_readWorth 28 = .ok (.isub, 1) := by decide +kernel
theorem dX9_readWorth_29 : decode cX9_readWorth 29 = .ok (.invokevirtual 92, 3) := by decide +kernel
theorem dX9_readWorth_32 : decode cX9_readWorth 32 = .ok (.istore_n 3, 1) := by decide +kernel
theorem dX9_readWorth_33 : decode cX9_readWorth 33 = .ok (.iload_n 3, 1) := by decide +kernel
theorem dX9_readWorth_34 : decode cX9_readWorth 34 = .ok (.iconst (-1), 1) := by decide +kernel
theorem dX9_readWorth_35 : decode cX9_readWorth 35 = .ok (.if_icmp .ne 7, 3) := by decide +kernel
theorem dX9_readWorth_38 : decode cX9_readWorth 38 = .ok (.iconst (-1), 1) := by decide +kernel
theorem dX9_readWorth_39 : decode cX9_readWorth 39 = .ok (.goto 11, 3) := by decide +kernel
theorem dX9_readWorth_42 : decode cX9_readWorth 42 = .ok (.aload_n 1, 1) := by decide +kernel
theorem dX9_readWorth_43 : decode cX9_readWorth 43 = .ok (.iconst 0, 1) := by decide +kernel
theorem dX9_readWorth_44 : decode cX9_readWorth 44 = .ok (.sipush 300, 3) := by decide +kernel
theorem dX9_readWorth_47 : decode cX9_readWorth 47 = .ok (.invokevirtual 92, 3) := by decide +kernel
theorem dX9_readWorth_50 : decode cX9_readWorth 50 = .ok (.istore 4, 2) := by decide +kernel
theorem dX9_readWorth_52 : decode cX9_readWorth 52 = .ok (.iload 4, 2) := by decide +kernel
theorem dX9_readWorth_54 : decode cX9_readWorth 54 = .ok (.iconst (-1), 1) := by decide +kernel
theorem dX9_readWorth_55 : decode cX9_readWorth 55 = .ok (.if_icmp .ne 5, 3) := by decide +kernel
theorem dX9_readWorth_58 : decode cX9_readWorth 58 = .ok (.iconst 0, 1) := by decide +kernel
theorem dX9_readWorth_59 : decode cX9_readWorth 59 = .ok (.ireturn, 1) := by decide +kernel
theorem dX9_readWorth_60 : decode cX9_readWorth 60 = .ok (.aload_n 0, 1) := by decide +kernel
theorem dX9_readWorth_61 : decode cX9_readWorth 61 = .ok (.getfield 31, 3) := by decide +kernel
theorem dX9_readWorth_64 : decode cX9_readWorth 64 = .ok (.iload_n 2, 1) := by decide +kernel
theorem dX9_readWorth_65 : decode cX9_readWorth 65 = .ok (.iconst 3, 1) := by decide +kernel
theorem dX9_readWorth_66 : decode cX9_readWorth 66 = .ok (.imul, 1) := by decide +kernel
theorem dX9_readWorth_67 : decode cX9_readWorth 67 = .ok (.iload_n 3, 1) := by decide +kernel
theorem dX9_readWorth_68 : decode cX9_readWorth 68 = .ok (.iadd, 1) := by decide +kernel
theorem dX9_readWorth_69 : decode cX9_readWorth 69 = .ok (.iload 4, 2) := by decide +kernel
theorem dX9_readWorth_71 : decode cX9_readWorth 71 = .ok (.iastore, 1) := by decide +kernel
theorem dX9_readWorth_72 : decode cX9_readWorth 72 = .ok (.iconst 1, 1) := by decide +kernel
theorem dX9_readWorth_73 : decode cX9_readWorth 73 = .ok (.ireturn, 1) := by decide +kernel
theorem wd_671 : (Jvm.Cond.code ({ cls := "SilentSale$Terms", name := "readTrick", desc := "(LSilentSale$Tape;)Z" } : Jvm.MethodName) prog_11_method_10_code (4 : Nat) (Option.some Jvm.ClassFile.FieldType.boolean)) ∈ tb_L := tb_in (i := 671) (by decide +kernel) (by decide +kernel)
theorem dX9_readTrick_0 : decode cX9_readTrick 0 = .ok (.aload_n 1, 1) := by decide +kernel
theorem dX9_readTrick_1 : decode cX9_readTrick 1 = .ok (.iconst 0, 1) := by decide +kernel
theorem dX9_readTrick_2 : decode cX9_readTrick 2 = .ok (.bipush 99, 2) := by decide +kernel
theorem dX9_readTrick_4 : decode cX9_readTrick 4 = .ok (.invokevirtual 92, 3) := by decide +kernel
theorem dX9_readTrick_7 : decode cX9_readTrick 7 = .ok (.istore_n 2, 1) := by decide +kernel
theorem dX9_readTrick_8 : decode cX9_readTrick 8 = .ok (.iload_n 2, 1) := by decide +kernel
theorem dX9_readTrick_9 : decode cX9_readTrick 9 = .ok (.iconst (-1), 1) := by decide +kernel
theorem dX9_readTrick_10 : decode cX9_readTrick 10 = .ok (.if_icmp .ne 7, 3) := by decide +kernel
theorem dX9_readTrick_13 : decode cX9_readTrick 13 = .ok (.iconst (-1), 1) := by decide +kernel
theorem dX9_readTrick_14 : decode cX9_readTrick 14 = .ok (.goto 10, 3) := by decide +kernel
theorem dX9_readTrick_17 : decode cX9_readTrick 17 = .ok (.aload_n 1, 1) := by decide +kernel
theorem dX9_readTrick_18 : decode cX9_readTrick 18 = .ok (.iconst 1, 1) := by decide +kernel
theorem dX9_readTrick_19 : decode cX9_readTrick 19 = .ok (.bipush 99, 2) := by decide +kernel
theorem dX9_readTrick_21 : decode cX9_readTrick 21 = .ok (.invokevirtual 92, 3) := by decide +kernel
theorem dX9_readTrick_24 : decode cX9_readTrick 24 = .ok (.istore_n 3, 1) := by decide +kernel
theorem dX9_readTrick_25 : decode cX9_readTrick 25 = .ok (.iload_n 3, 1) := by decide +kernel
theorem dX9_readTrick_26 : decode cX9_readTrick 26 = .ok (.iconst (-1), 1) := by decide +kernel
theorem dX9_readTrick_27 : decode cX9_readTrick 27 = .ok (.if_icmp .eq 11, 3) := by decide +kernel
theorem dX9_readTrick_30 : decode cX9_readTrick 30 = .ok (.aload_n 0, 1) := by decide +kernel
theorem dX9_readTrick_31 : decode cX9_readTrick 31 = .ok (.getfield 21, 3) := by decide +kernel
theorem dX9_readTrick_34 : decode cX9_readTrick 34 = .ok (.iconst 3, 1) := by decide +kernel
theorem dX9_readTrick_35 : decode cX9_readTrick 35 = .ok (.if_icmp .lt 5, 3) := by decide +kernel
theorem dX9_readTrick_38 : decode cX9_readTrick 38 = .ok (.iconst 0, 1) := by decide +kernel
theorem dX9_readTrick_39 : decode cX9_readTrick 39 = .ok (.ireturn, 1) := by decide +kernel
theorem dX9_readTrick_40 : decode cX9_readTrick 40 = .ok (.aload_n 0, 1) := by decide +kernel
theorem dX9_readTrick_41 : decode cX9_readTrick 41 = .ok (.getfield 34, 3) := by decide +kernel
theorem dX9_readTrick_44 : decode cX9_readTrick 44 = .ok (.aload_n 0, 1) := by decide +kernel
theorem dX9_readTrick_45 : decode cX9_readTrick 45 = .ok (.getfield 21, 3) := by decide +kernel
theorem dX9_readTrick_48 : decode cX9_readTrick 48 = .ok (.iload_n 2, 1) := by decide +kernel
theorem dX9_readTrick_49 : decode cX9_readTrick 49 = .ok (.iastore, 1) := by decide +kernel
theorem dX9_readTrick_50 : decode cX9_readTrick 50 = .ok (.aload_n 0, 1) := by decide +kernel
theorem dX9_readTrick_51 : decode cX9_readTrick 51 = .ok (.getfield 37, 3) := by decide +kernel
theorem dX9_readTrick_54 : decode cX9_readTrick 54 = .ok (.aload_n 0, 1) := by decide +kernel
theorem dX9_readTrick_55 : decode cX9_readTrick 55 = .ok (.getfield 21, 3) := by decide +kernel
theorem dX9_readTrick_58 : decode cX9_readTrick 58 = .ok (.iload_n 3, 1) := by decide +kernel
theorem dX9_readTrick_59 : decode cX9_readTrick 59 = .ok (.iastore, 1) := by decide +kernel
theorem dX9_readTrick_60 : decode cX9_readTrick 60 = .ok (.aload_n 0, 1) := by decide +kernel
theorem dX9_readTrick_61 : decode cX9_readTrick 61 = .ok (.dup, 1) := by decide +kernel
theorem dX9_readTrick_62 : decode cX9_readTrick 62 = .ok (.getfield 21, 3) := by decide +kernel
theorem dX9_readTrick_65 : decode cX9_readTrick 65 = .ok (.iconst 1, 1) := by decide +kernel
theorem dX9_readTrick_66 : decode cX9_readTrick 66 = .ok (.iadd, 1) := by decide +kernel
theorem dX9_readTrick_67 : decode cX9_readTrick 67 = .ok (.putfield 21, 3) := by decide +kernel
theorem dX9_readTrick_70 : decode cX9_readTrick 70 = .ok (.iconst 1, 1) := by decide +kernel
theorem dX9_readTrick_71 : decode cX9_readTrick 71 = .ok (.ireturn, 1) := by decide +kernel
theorem wd_650 : (Jvm.Cond.code ({ cls := "SilentSale$Terms", name := "isFull", desc := "(I)Z" } : Jvm.MethodName) prog_11_method_7_code (2 : Nat) (Option.some Jvm.ClassFile.FieldType.boolean)) ∈ tb_L := tb_in (i := 650) (by decide +kernel) (by decide +kernel)
theorem dX9_isFull_0 : decode cX9_isFull 0 = .ok (.iload_n 1, 1) := by decide +kernel
theorem dX9_isFull_1 : decode cX9_isFull 1 = .ok (.iconst 1, 1) := by decide +kernel
theorem dX9_isFull_2 : decode cX9_isFull 2 = .ok (.if_icmp .ne 11, 3) := by decide +kernel
theorem dX9_isFull_5 : decode cX9_isFull 5 = .ok (.aload_n 0, 1) := by decide +kernel
theorem dX9_isFull_6 : decode cX9_isFull 6 = .ok (.getfield 15, 3) := by decide +kernel
theorem dX9_isFull_9 : decode cX9_isFull 9 = .ok (.iconst 5, 1) := by decide +kernel
theorem dX9_isFull_10 : decode cX9_isFull 10 = .ok (.if_icmp .ge 29, 3) := by decide +kernel
theorem dX9_isFull_13 : decode cX9_isFull 13 = .ok (.iload_n 1, 1) := by decide +kernel
theorem dX9_isFull_14 : decode cX9_isFull 14 = .ok (.iconst 2, 1) := by decide +kernel
theorem dX9_isFull_15 : decode cX9_isFull 15 = .ok (.if_icmp .ne 11, 3) := by decide +kernel
theorem dX9_isFull_18 : decode cX9_isFull 18 = .ok (.aload_n 0, 1) := by decide +kernel
theorem dX9_isFull_19 : decode cX9_isFull 19 = .ok (.getfield 18, 3) := by decide +kernel
theorem dX9_isFull_22 : decode cX9_isFull 22 = .ok (.iconst 3, 1) := by decide +kernel
theorem dX9_isFull_23 : decode cX9_isFull 23 = .ok (.if_icmp .ge 16, 3) := by decide +kernel
theorem dX9_isFull_26 : decode cX9_isFull 26 = .ok (.iload_n 1, 1) := by decide +kernel
theorem dX9_isFull_27 : decode cX9_isFull 27 = .ok (.iconst 4, 1) := by decide +kernel
theorem dX9_isFull_28 : decode cX9_isFull 28 = .ok (.if_icmp .ne 15, 3) := by decide +kernel
theorem dX9_isFull_31 : decode cX9_isFull 31 = .ok (.aload_n 0, 1) := by decide +kernel
theorem dX9_isFull_32 : decode cX9_isFull 32 = .ok (.getfield 21, 3) := by decide +kernel
theorem dX9_isFull_35 : decode cX9_isFull 35 = .ok (.iconst 3, 1) := by decide +kernel
theorem dX9_isFull_36 : decode cX9_isFull 36 = .ok (.if_icmp .lt 7, 3) := by decide +kernel
theorem dX9_isFull_39 : decode cX9_isFull 39 = .ok (.iconst 1, 1) := by decide +kernel
theorem dX9_isFull_40 : decode cX9_isFull 40 = .ok (.goto 4, 3) := by decide +kernel
theorem dX9_isFull_43 : decode cX9_isFull 43 = .ok (.iconst 0, 1) := by decide +kernel
theorem dX9_isFull_44 : decode cX9_isFull 44 = .ok (.ireturn, 1) := by decide +kernel
theorem wd_2 : (Jvm.Cond.selects "SilentSale$Terms" ({ cls := "SilentSale$Terms", name := "isFull", desc := "(I)Z" } : Jvm.MethodName) ({ cls := "SilentSale$Terms", name := "isFull", desc := "(I)Z" } : Jvm.MethodName)) ∈ tb_L := tb_in (i := 2) (by decide +kernel) (by decide +kernel)
theorem wd_3 : (Jvm.Cond.selects "SilentSale$Terms" ({ cls := "SilentSale$Terms", name := "readBidder", desc := "(LSilentSale$Tape;)Z" } : Jvm.MethodName) ({ cls := "SilentSale$Terms", name := "readBidder", desc := "(LSilentSale$Tape;)Z" } : Jvm.MethodName)) ∈ tb_L := tb_in (i := 3) (by decide +kernel) (by decide +kernel)
theorem wd_4 : (Jvm.Cond.selects "SilentSale$Terms" ({ cls := "SilentSale$Terms", name := "readWorth", desc := "(LSilentSale$Tape;)Z" } : Jvm.MethodName) ({ cls := "SilentSale$Terms", name := "readWorth", desc := "(LSilentSale$Tape;)Z" } : Jvm.MethodName)) ∈ tb_L := tb_in (i := 4) (by decide +kernel) (by decide +kernel)
theorem wd_5 : (Jvm.Cond.selects "SilentSale$Terms" ({ cls := "SilentSale$Terms", name := "readTrick", desc := "(LSilentSale$Tape;)Z" } : Jvm.MethodName) ({ cls := "SilentSale$Terms", name := "readTrick", desc := "(LSilentSale$Tape;)Z" } : Jvm.MethodName)) ∈ tb_L := tb_in (i := 5) (by decide +kernel) (by decide +kernel)
theorem wd_585 : (Jvm.Cond.code ({ cls := "SilentSale$Terms", name := "readClause", desc := "(LSilentSale$Tape;I)Z" } : Jvm.MethodName) prog_11_method_6_code (4 : Nat) (Option.some Jvm.ClassFile.FieldType.boolean)) ∈ tb_L := tb_in (i := 585) (by decide +kernel) (by decide +kernel)
theorem wd_587 : (Jvm.Cond.methodLink "SilentSale$Terms" (75 : Nat) ({ cls := "SilentSale$Tape", name := "whichWord", desc := "(Ljava/lang/String;)I" } : Jvm.MethodName)) ∈ tb_L := tb_in (i := 587) (by decide +kernel) (by decide +kernel)
theorem wd_639 : (Jvm.Cond.methodLink "SilentSale$Terms" (79 : Nat) ({ cls := "SilentSale$Tape", name := "place", desc := "()I" } : Jvm.MethodName)) ∈ tb_L := tb_in (i := 639) (by decide +kernel) (by decide +kernel)
theorem wd_643 : (Jvm.Cond.methodLink "SilentSale$Terms" (82 : Nat) ({ cls := "SilentSale$Tape", name := "refuse", desc := "(II)Z" } : Jvm.MethodName)) ∈ tb_L := tb_in (i := 643) (by decide +kernel) (by decide +kernel)
theorem wd_647 : (Jvm.Cond.methodLink "SilentSale$Terms" (85 : Nat) ({ cls := "SilentSale$Terms", name := "isFull", desc := "(I)Z" } : Jvm.MethodName)) ∈ tb_L := tb_in (i := 647) (by decide +kernel) (by decide +kernel)
theorem wd_649 : (Jvm.Cond.instanceMethod ({ cls := "SilentSale$Terms", name := "isFull", desc := "(I)Z" } : Jvm.MethodName)) ∈ tb_L := tb_in (i := 649) (by decide +kernel) (by decide +kernel)
theorem wd_651 : (Jvm.Cond.methodLink "SilentSale$Terms" (89 : Nat) ({ cls := "SilentSale$Tape", name := "passWord", desc := "()V" } : Jvm.MethodName)) ∈ tb_L := tb_in (i := 651) (by decide +kernel) (by decide +kernel)
theorem wd_660 : (Jvm.Cond.methodLink "SilentSale$Terms" (95 : Nat) ({ cls := "SilentSale$Terms", name := "readBidder", desc := "(LSilentSale$Tape;)Z" } : Jvm.MethodName)) ∈ tb_L := tb_in (i := 660) (by decide +kernel) (by decide +kernel)
theorem wd_662 : (Jvm.Cond.instanceMethod ({ cls := "SilentSale$Terms", name := "readBidder", desc := "(LSilentSale$Tape;)Z" } : Jvm.MethodName)) ∈ tb_L := tb_in (i := 662) (by decide +kernel) (by decide +kernel)
theorem wd_664 : (Jvm.Cond.methodLink "SilentSale$Terms" (99 : Nat) ({ cls := "SilentSale$Terms", name := "readWorth", desc := "(LSilentSale$Tape;)Z" } : Jvm.MethodName)) ∈ tb_L := tb_in (i := 664) (by decide +kernel) (by decide +kernel)
theorem wd_666 : (Jvm.Cond.instanceMethod ({ cls := "SilentSale$Terms", name := "readWorth", desc := "(LSilentSale$Tape;)Z" } : Jvm.MethodName)) ∈ tb_L := tb_in (i := 666) (by decide +kernel) (by decide +kernel)
theorem wd_668 : (Jvm.Cond.methodLink "SilentSale$Terms" (102 : Nat) ({ cls := "SilentSale$Terms", name := "readTrick", desc := "(LSilentSale$Tape;)Z" } : Jvm.MethodName)) ∈ tb_L := tb_in (i := 668) (by decide +kernel) (by decide +kernel)
theorem wd_670 : (Jvm.Cond.instanceMethod ({ cls := "SilentSale$Terms", name := "readTrick", desc := "(LSilentSale$Tape;)Z" } : Jvm.MethodName)) ∈ tb_L := tb_in (i := 670) (by decide +kernel) (by decide +kernel)
theorem dX9_readClause_0 : decode cX9_readClause 0 = .ok (.aload_n 1, 1) := by decide +kernel
theorem dX9_readClause_1 : decode cX9_readClause 1 = .ok (.ldc 73, 2) := by decide +kernel
theorem dX9_readClause_3 : decode cX9_readClause 3 = .ok (.invokevirtual 75, 3) := by decide +kernel
theorem dX9_readClause_6 : decode cX9_readClause 6 = .ok (.istore_n 3, 1) := by decide +kernel
theorem dX9_readClause_7 : decode cX9_readClause 7 = .ok (.iload_n 3, 1) := by decide +kernel
theorem dX9_readClause_8 : decode cX9_readClause 8 = .ok (.iconst (-1), 1) := by decide +kernel
theorem dX9_readClause_9 : decode cX9_readClause 9 = .ok (.if_icmp .ne 13, 3) := by decide +kernel
theorem dX9_readClause_12 : decode cX9_readClause 12 = .ok (.aload_n 1, 1) := by decide +kernel
theorem dX9_readClause_13 : decode cX9_readClause 13 = .ok (.aload_n 1, 1) := by decide +kernel
theorem dX9_readClause_14 : decode cX9_readClause 14 = .ok (.invokevirtual 79, 3) := by decide +kernel
theorem dX9_readClause_17 : decode cX9_readClause 17 = .ok (.iconst 0, 1) := by decide +kernel
theorem dX9_readClause_18 : decode cX9_readClause 18 = .ok (.invokevirtual 82, 3) := by decide +kernel
theorem dX9_readClause_21 : decode cX9_readClause 21 = .ok (.ireturn, 1) := by decide +kernel
theorem dX9_readClause_22 : decode cX9_readClause 22 = .ok (.iload_n 2, 1) := by decide +kernel
theorem dX9_readClause_23 : decode cX9_readClause 23 = .ok (.bipush 40, 2) := by decide +kernel
theorem dX9_readClause_25 : decode cX9_readClause 25 = .ok (.if_icmp .ge 32, 3) := by decide +kernel
theorem dX9_readClause_28 : decode cX9_readClause 28 = .ok (.iload_n 3, 1) := by decide +kernel
theorem dX9_readClause_29 : decode cX9_readClause 29 = .ok (.ifCond .ne 7, 3) := by decide +kernel
theorem dX9_readClause_32 : decode cX9_readClause 32 = .ok (.iconst 1, 1) := by decide +kernel
theorem dX9_readClause_33 : decode cX9_readClause 33 = .ok (.goto 4, 3) := by decide +kernel
theorem dX9_readClause_36 : decode cX9_readClause 36 = .ok (.iconst 0, 1) := by decide +kernel
theorem dX9_readClause_37 : decode cX9_readClause 37 = .ok (.iload_n 2, 1) := by decide +kernel
theorem dX9_readClause_38 : decode cX9_readClause 38 = .ok (.ifCond .ne 7, 3) := by decide +kernel
theorem dX9_readClause_41 : decode cX9_readClause 41 = .ok (.iconst 1, 1) := by decide +kernel
theorem dX9_readClause_42 : decode cX9_readClause 42 = .ok (.goto 4, 3) := by decide +kernel
theorem dX9_readClause_45 : decode cX9_readClause 45 = .ok (.iconst 0, 1) := by decide +kernel
theorem dX9_readClause_46 : decode cX9_readClause 46 = .ok (.if_icmp .ne 11, 3) := by decide +kernel
theorem dX9_readClause_49 : decode cX9_readClause 49 = .ok (.aload_n 0, 1) := by decide +kernel
theorem dX9_readClause_50 : decode cX9_readClause 50 = .ok (.iload_n 3, 1) := by decide +kernel
theorem dX9_readClause_51 : decode cX9_readClause 51 = .ok (.invokevirtual 85, 3) := by decide +kernel
theorem dX9_readClause_54 : decode cX9_readClause 54 = .ok (.ifCond .eq 13, 3) := by decide +kernel
theorem dX9_readClause_57 : decode cX9_readClause 57 = .ok (.aload_n 1, 1) := by decide +kernel
theorem dX9_readClause_58 : decode cX9_readClause 58 = .ok (.aload_n 1, 1) := by decide +kernel
theorem dX9_readClause_59 : decode cX9_readClause 59 = .ok (.invokevirtual 79, 3) := by decide +kernel
theorem dX9_readClause_62 : decode cX9_readClause 62 = .ok (.iconst 4, 1) := by decide +kernel
theorem dX9_readClause_63 : decode cX9_readClause 63 = .ok (.invokevirtual 82, 3) := by decide +kernel
theorem dX9_readClause_66 : decode cX9_readClause 66 = .ok (.ireturn, 1) := by decide +kernel
theorem dX9_readClause_67 : decode cX9_readClause 67 = .ok (.aload_n 1, 1) := by decide +kernel
theorem dX9_readClause_68 : decode cX9_readClause 68 = .ok (.invokevirtual 89, 3) := by decide +kernel
theorem dX9_readClause_71 : decode cX9_readClause 71 = .ok (.iload_n 3, 1) := by decide +kernel
theorem dX9_readClause_72 : decode cX9_readClause 72 = .ok (.tableswitch 82 0 3 #[32, 58, 64, 76], 32) := by decide +kernel
theorem dX9_readClause_104 : decode cX9_readClause 104 = .ok (.aload_n 0, 1) := by decide +kernel
theorem dX9_readClause_105 : decode cX9_readClause 105 = .ok (.aload_n 1, 1) := by decide +kernel
theorem dX9_readClause_106 : decode cX9_readClause 106 = .ok (.iconst 1, 1) := by decide +kernel
theorem dX9_readClause_107 : decode cX9_readClause 107 = .ok (.sipush 300, 3) := by decide +kernel
theorem dX9_readClause_110 : decode cX9_readClause 110 = .ok (.invokevirtual 92, 3) := by decide +kernel
theorem dX9_readClause_113 : decode cX9_readClause 113 = .ok (.putfield 9, 3) := by decide +kernel
theorem dX9_readClause_116 : decode cX9_readClause 116 = .ok (.aload_n 0, 1) := by decide +kernel
theorem dX9_readClause_117 : decode cX9_readClause 117 = .ok (.getfield 9, 3) := by decide +kernel
theorem dX9_readClause_120 : decode cX9_readClause 120 = .ok (.iconst (-1), 1) := by decide +kernel
theorem dX9_readClause_121 : decode cX9_readClause 121 = .ok (.if_icmp .eq 7, 3) := by decide +kernel
theorem dX9_readClause_124 : decode cX9_readClause 124 = .ok (.iconst 1, 1) := by decide +kernel
theorem dX9_readClause_125 : decode cX9_readClause 125 = .ok (.goto 4, 3) := by decide +kernel
theorem dX9_readClause_128 : decode cX9_readClause 128 = .ok (.iconst 0, 1) := by decide +kernel
theorem dX9_readClause_129 : decode cX9_readClause 129 = .ok (.ireturn, 1) := by decide +kernel
theorem dX9_readClause_130 : decode cX9_readClause 130 = .ok (.aload_n 0, 1) := by decide +kernel
theorem dX9_readClause_131 : decode cX9_readClause 131 = .ok (.aload_n 1, 1) := by decide +kernel
theorem dX9_readClause_132 : decode cX9_readClause 132 = .ok (.invokevirtual 95, 3) := by decide +kernel
theorem dX9_readClause_135 : decode cX9_readClause 135 = .ok (.ireturn, 1) := by decide +kernel
theorem dX9_readClause_136 : decode cX9_readClause 136 = .ok (.aload_n 0, 1) := by decide +kernel
theorem dX9_readClause_137 : decode cX9_readClause 137 = .ok (.dup, 1) := by decide +kernel
theorem dX9_readClause_138 : decode cX9_readClause 138 = .ok (.getfield 18, 3) := by decide +kernel
theorem dX9_readClause_141 : decode cX9_readClause 141 = .ok (.iconst 1, 1) := by decide +kernel
theorem dX9_readClause_142 : decode cX9_readClause 142 = .ok (.iadd, 1) := by decide +kernel
theorem dX9_readClause_143 : decode cX9_readClause 143 = .ok (.putfield 18, 3) := by decide +kernel
theorem dX9_readClause_146 : decode cX9_readClause 146 = .ok (.iconst 1, 1) := by decide +kernel
theorem dX9_readClause_147 : decode cX9_readClause 147 = .ok (.ireturn, 1) := by decide +kernel
theorem dX9_readClause_148 : decode cX9_readClause 148 = .ok (.aload_n 0, 1) := by decide +kernel
theorem dX9_readClause_149 : decode cX9_readClause 149 = .ok (.aload_n 1, 1) := by decide +kernel
theorem dX9_readClause_150 : decode cX9_readClause 150 = .ok (.invokevirtual 99, 3) := by decide +kernel
theorem dX9_readClause_153 : decode cX9_readClause 153 = .ok (.ireturn, 1) := by decide +kernel
theorem dX9_readClause_154 : decode cX9_readClause 154 = .ok (.aload_n 0, 1) := by decide +kernel
theorem dX9_readClause_155 : decode cX9_readClause 155 = .ok (.aload_n 1, 1) := by decide +kernel
theorem dX9_readClause_156 : decode cX9_readClause 156 = .ok (.invokevirtual 102, 3) := by decide +kernel
theorem dX9_readClause_159 : decode cX9_readClause 159 = .ok (.ireturn, 1) := by decide +kernel
theorem wd_1 : (Jvm.Cond.selects "SilentSale$Terms" ({ cls := "SilentSale$Terms", name := "readClause", desc := "(LSilentSale$Tape;I)Z" } : Jvm.MethodName) ({ cls := "SilentSale$Terms", name := "readClause", desc := "(LSilentSale$Tape;I)Z" } : Jvm.MethodName)) ∈ tb_L := tb_in (i := 1) (by decide +kernel) (by decide +kernel)
theorem wd_573 : (Jvm.Cond.code ({ cls := "SilentSale$Terms", name := "readSale", desc := "(LSilentSale$Tape;)I" } : Jvm.MethodName) prog_11_method_5_code (4 : Nat) (Option.some Jvm.ClassFile.FieldType.int)) ∈ tb_L := tb_in (i := 573) (by decide +kernel) (by decide +kernel)
theorem wd_574 : (Jvm.Cond.methodLink "SilentSale$Terms" (56 : Nat) ({ cls := "SilentSale$Tape", name := "rewind", desc := "()V" } : Jvm.MethodName)) ∈ tb_L := tb_in (i := 574) (by decide +kernel) (by decide +kernel)
theorem wd_582 : (Jvm.Cond.methodLink "SilentSale$Terms" (61 : Nat) ({ cls := "SilentSale$Terms", name := "readClause", desc := "(LSilentSale$Tape;I)Z" } : Jvm.MethodName)) ∈ tb_L := tb_in (i := 582) (by decide +kernel) (by decide +kernel)
theorem wd_584 : (Jvm.Cond.instanceMethod ({ cls := "SilentSale$Terms", name := "readClause", desc := "(LSilentSale$Tape;I)Z" } : Jvm.MethodName)) ∈ tb_L := tb_in (i := 584) (by decide +kernel) (by decide +kernel)
theorem wd_672 : (Jvm.Cond.methodLink "SilentSale$Terms" (65 : Nat) ({ cls := "SilentSale$Tape", name := "anotherClause", desc := "()Z" } : Jvm.MethodName)) ∈ tb_L := tb_in (i := 672) (by decide +kernel) (by decide +kernel)
theorem wd_684 : (Jvm.Cond.methodLink "SilentSale$Terms" (69 : Nat) ({ cls := "SilentSale$Tape", name := "firstFault", desc := "()I" } : Jvm.MethodName)) ∈ tb_L := tb_in (i := 684) (by decide +kernel) (by decide +kernel)
theorem dX9_readSale_0 : decode cX9_readSale 0 = .ok (.aload_n 0, 1) := by decide +kernel
theorem dX9_readSale_1 : decode cX9_readSale 1 = .ok (.iconst 0, 1) := by decide +kernel
theorem dX9_readSale_2 : decode cX9_readSale 2 = .ok (.putfield 9, 3) := by decide +kernel
theorem dX9_readSale_5 : decode cX9_readSale 5 = .ok (.aload_n 0, 1) := by decide +kernel
theorem dX9_readSale_6 : decode cX9_readSale 6 = .ok (.iconst 0, 1) := by decide +kernel
theorem dX9_readSale_7 : decode cX9_readSale 7 = .ok (.putfield 15, 3) := by decide +kernel
theorem dX9_readSale_10 : decode cX9_readSale 10 = .ok (.aload_n 0, 1) := by decide +kernel
theorem dX9_readSale_11 : decode cX9_readSale 11 = .ok (.iconst 0, 1) := by decide +kernel
theorem dX9_readSale_12 : decode cX9_readSale 12 = .ok (.putfield 18, 3) := by decide +kernel
theorem dX9_readSale_15 : decode cX9_readSale 15 = .ok (.aload_n 0, 1) := by decide +kernel
theorem dX9_readSale_16 : decode cX9_readSale 16 = .ok (.iconst 0, 1) := by decide +kernel
theorem dX9_readSale_17 : decode cX9_readSale 17 = .ok (.putfield 21, 3) := by decide +kernel
theorem dX9_readSale_20 : decode cX9_readSale 20 = .ok (.iconst 0, 1) := by decide +kernel
theorem dX9_readSale_21 : decode cX9_readSale 21 = .ok (.istore_n 2, 1) := by decide +kernel
theorem dX9_readSale_22 : decode cX9_readSale 22 = .ok (.iload_n 2, 1) := by decide +kernel
theorem dX9_readSale_23 : decode cX9_readSale 23 = .ok (.aload_n 0, 1) := by decide +kernel
theorem dX9_readSale_24 : decode cX9_readSale 24 = .ok (.getfield 31, 3) := by decide +kernel
theorem dX9_readSale_27 : decode cX9_readSale 27 = .ok (.arraylength, 1) := by decide +kernel
theorem dX9_readSale_28 : decode cX9_readSale 28 = .ok (.if_icmp .ge 16, 3) := by decide +kernel
theorem dX9_readSale_31 : decode cX9_readSale 31 = .ok (.aload_n 0, 1) := by decide +kernel
theorem dX9_readSale_32 : decode cX9_readSale 32 = .ok (.getfield 31, 3) := by decide +kernel
theorem dX9_readSale_35 : decode cX9_readSale 35 = .ok (.iload_n 2, 1) := by decide +kernel
theorem dX9_readSale_36 : decode cX9_readSale 36 = .ok (.iconst 0, 1) := by decide +kernel
theorem dX9_readSale_37 : decode cX9_readSale 37 = .ok (.iastore, 1) := by decide +kernel
theorem dX9_readSale_38 : decode cX9_readSale 38 = .ok (.iinc 2 1, 3) := by decide +kernel
theorem dX9_readSale_41 : decode cX9_readSale 41 = .ok (.goto (-19), 3) := by decide +kernel
theorem dX9_readSale_44 : decode cX9_readSale 44 = .ok (.aload_n 1, 1) := by decide +kernel
theorem dX9_readSale_45 : decode cX9_readSale 45 = .ok (.invokevirtual 56, 3) := by decide +kernel
theorem dX9_readSale_48 : decode cX9_readSale 48 = .ok (.iconst 1, 1) := by decide +kernel
theorem dX9_readSale_49 : decode cX9_readSale 49 = .ok (.istore_n 2, 1) := by decide +kernel
theorem dX9_readSale_50 : decode cX9_readSale 50 = .ok (.iconst 0, 1) := by decide +kernel
theorem dX9_readSale_51 : decode cX9_readSale 51 = .ok (.istore_n 3, 1) := by decide +kernel
theorem dX9_readSale_52 : decode cX9_readSale 52 = .ok (.iload_n 2, 1) := by decide +kernel
theorem dX9_readSale_53 : decode cX9_readSale 53 = .ok (.ifCond .eq 37, 3) := by decide +kernel
theorem dX9_readSale_56 : decode cX9_readSale 56 = .ok (.iload_n 3, 1) := by decide +kernel
theorem dX9_readSale_57 : decode cX9_readSale 57 = .ok (.bipush 40, 2) := by decide +kernel
theorem dX9_readSale_59 : decode cX9_readSale 59 = .ok (.if_icmp .gt 31, 3) := by decide +kernel
theorem dX9_readSale_62 : decode cX9_readSale 62 = .ok (.aload_n 0, 1) := by decide +kernel
theorem dX9_readSale_63 : decode cX9_readSale 63 = .ok (.aload_n 1, 1) := by decide +kernel
theorem dX9_readSale_64 : decode cX9_readSale 64 = .ok (.iload_n 3, 1) := by decide +kernel
theorem dX9_readSale_65 : decode cX9_readSale 65 = .ok (.invokevirtual 61, 3) := by decide +kernel
theorem dX9_readSale_68 : decode cX9_readSale 68 = .ok (.ifCond .eq 14, 3) := by decide +kernel
theorem dX9_readSale_71 : decode cX9_readSale 71 = .ok (.aload_n 1, 1) := by decide +kernel
theorem dX9_readSale_72 : decode cX9_readSale 72 = .ok (.invokevirtual 65, 3) := by decide +kernel
theorem dX9_readSale_75 : decode cX9_readSale 75 = .ok (.ifCond .eq 7, 3) := by decide +kernel
theorem dX9_readSale_78 : decode cX9_readSale 78 = .ok (.iconst 1, 1) := by decide +kernel
theorem dX9_readSale_79 : decode cX9_readSale 79 = .ok (.goto 4, 3) := by decide +kernel
theorem dX9_readSale_82 : decode cX9_readSale 82 = .ok (.iconst 0, 1) := by decide +kernel
theorem dX9_readSale_83 : decode cX9_readSale 83 = .ok (.istore_n 2, 1) := by decide +kernel
theorem dX9_readSale_84 : decode cX9_readSale 84 = .ok (.iinc 3 1, 3) := by decide +kernel
theorem dX9_readSale_87 : decode cX9_readSale 87 = .ok (.goto (-35), 3) := by decide +kernel
theorem dX9_readSale_90 : decode cX9_readSale 90 = .ok (.aload_n 1, 1) := by decide +kernel
theorem dX9_readSale_91 : decode cX9_readSale 91 = .ok (.invokevirtual 69, 3) := by decide +kernel
theorem dX9_readSale_94 : decode cX9_readSale 94 = .ok (.ireturn, 1) := by decide +kernel
set_option maxHeartbeats 4000000 in
set_option maxRecDepth 100000 in
theorem d_readBidder (l : Launch) (G : gg_T) (Γ : Nat → Nat) (sz : Nat) (wt : va_W) (hT : tk_ty G Γ wt) (t : Nat) (tp : Nat) (bp : Nat) (n : Int32) (at_ : Int32) (w_ : Int32) (fl : Int32) (bf : Nat → Int32) (k_t : Γ t = 10) (xp1 : 0 ≤ n.toInt) (xp2 : n.toInt ≤ 400) (xp3 : 0 ≤ at_.toInt) (xp4 : 0 ≤ w_.toInt) (xp5 : at_.toInt + w_.toInt ≤ 400) : Met l yX9_readBidder (ts_L yX9_readBidder cX9_readBidder 4 (some .boolean)) ({ frames := 2, cells := 0, slots := 0, locals := 46 }) (gc_P G ([(tp, .inr (8, [.ref bp, .int n, .int at_, .int w_, .int fl])), (bp, .inl (G.2.2 0, 400, .inl bf))] ++ wt) sz [.ref t, .ref tp]) (gc_I G (va_A ([(tp, .inr (8, [.ref bp, .int n, .int at_, .int w_, .int fl])), (bp, .inl (G.2.2 0, 400, .inl bf))] ++ wt) sz) (fun r (u : (Int32) × (Int32) × (Int32) × va_W) => match u with | (a1, w1, f1, wt1) => tk_ty G Γ wt1 ∧ tk_kp [901] wt wt1 ∧ 0 ≤ a1.toInt ∧ 0 ≤ w1.toInt ∧ a1.toInt + w1.toInt ≤ 400 ∧ 0 ≤ r.toInt ∧ r.toInt ≤ 1) (fun (u : (Int32) × (Int32) × (Int32) × va_W) => match u with | (a1, w1, f1, wt1) => [(tp, .inr (8, [.ref bp, .int n, .int a1, .int w1, .int f1])), (bp, .inl (G.2.2 0, 400, .inl bf))] ++ wt1)) 0 0 (va_A ([(tp, .inr (8, [.ref bp, .int n, .int at_, .int w_, .int fl])), (bp, .inl (G.2.2 0, 400, .inl bf))] ++ wt) sz) := by
  refine Met.ofW (cc := cX9_readBidder) (maxL := 4) (ret := (some .boolean)) (by decide) rfl ?_
  intro p e s m args below meth c s₁ B hml hv
  obtain ⟨rfl, hsz, hP, hK, hD0⟩ := hv
  have hx := B.exec
  have hb := B.bytes
  have hr := B.returns
  have ht := ts_ht (atoms_spec (ws := ts_L yX9_readBidder cX9_readBidder 4 (some .boolean)) B.pre)
  have hown : s.vm.findClass RX9 = some m.cls := findClass_of_methodNamed B.named
  have hlocks := B.notSynchronized
  subst hsz
  have hD := hD0.self (sz := s.heap.size)
  generalize hAe : va_A ([(tp, .inr (8, [.ref bp, .int n, .int at_, .int w_, .int fl])), (bp, .inl (G.2.2 0, 400, .inl bf))] ++ wt) s.heap.size = A at hD ⊢
  have hA : ∀ q : Nat, s.heap.size ≤ q → A q := fun q h => by rw [← hAe]; exact Or.inr h
  clear hAe hD0
  have hS : va_S A s.heap s.heap [] := va_S.rf
  obtain ⟨w0, hw0⟩ : ∃ z, z = wt := ⟨_, rfl⟩
  have hW : tk_kp [901] w0 wt := by rw [hw0]; exact tk_kp.rf
  rw [← hw0]
  clear hw0
  have hP : va_P (gg_D G) classes ([(tp, .inr (8, [.ref bp, .int n, .int at_, .int w_, .int fl])), (bp, .inl (G.2.2 0, 400, .inl bf))] ++ wt) s.heap := hP
  have hD : va_D A ([(tp, .inr (8, [.ref bp, .int n, .int at_, .int w_, .int fl])), (bp, .inl (G.2.2 0, 400, .inl bf))] ++ wt) := hD
  have hl := lv_entry ([.ref t, .ref tp]) (n := 4) (Nat.le_of_ble_eq_true rfl)
  rw [lg_entry_eq]
  generalize (lg_sl ([.ref t, .ref tp]) ++ List.replicate (4 - (lg_sl ([.ref t, .ref tp])).length) Slot.unset).toArray = ls at hl ⊢
  have hl : lv_has ls 4 [(0, .ref t), (1, .ref tp)] := hl
  have lm1 : ((-1) : Int32).toInt = -1 := by decide +kernel
  have l0 : (0 : Int32).toInt = 0 := by decide +kernel
  have l1 : (1 : Int32).toInt = 1 := by decide +kernel
  have l5 : (5 : Int32).toInt = 5 := by decide +kernel
  have l300 : (300 : Int32).toInt = 300 := by decide +kernel
  have l999 : (999 : Int32).toInt = 999 := by decide +kernel
  refine lv_aload_n hx hb dX9_readBidder_0 rfl (lv_at hl 1 rfl) ?_
  refine lv_iconst (v := 0) hx hb dX9_readBidder_1 (by decide +kernel) ?_
  refine lv_sipush (v := 999) hx hb dX9_readBidder_2 (by decide +kernel) ?_
  have hP : va_P (gg_D G) classes ([] ++ ([(tp, .inr (8, [.ref bp, .int n, .int at_, .int w_, .int fl])), (bp, .inl (G.2.2 0, 400, .inl bf))] ++ wt)) s.heap := hP
  have hD : va_D A ([] ++ ([(tp, .inr (8, [.ref bp, .int n, .int at_, .int w_, .int fl])), (bp, .inl (G.2.2 0, 400, .inl bf))] ++ wt)) := hD
  refine gt_callI (wr := []) (va_runV (As := [.int 0, .int 999]) (rest := []) ⟨hx, hb, hml, hown, ht⟩ (d_number l G Γ s.heap.size wt hT 0 999 tp bp n at_ w_ fl bf (by first | assumption | omega) (by first | assumption | omega) (by first | assumption | omega) (by first | assumption | omega) (by first | assumption | omega)) (cwV 2 ht (ts_gV wd_655 wd_656 wd_657 wd_123 wd_658) rfl rfl rfl (by decide +kernel) ⟨Nat.le_of_ble_eq_true rfl, Nat.le_of_ble_eq_true rfl⟩) (gc_preV (ci := 8) (q0 := 0) hK (tw_right hP) (tw_rightD hD) rfl rfl) rfl rfl hl.1 rfl (lv_room (Nat.le_of_ble_eq_true rfl)) dX9_readBidder_5 ⟨Nat.le_of_ble_eq_true rfl, Nat.le_of_ble_eq_true rfl⟩) hP hD hS hA (fun r_1 u H locs hw hP hD hS => ?_)
  obtain ⟨y_2, y_3, y_4, wt⟩ := u
  obtain ⟨hT, hkp, w_5, w_6, w_7, rp_r_1⟩ := hw
  have hW := hW.call (show ∀ x ∈ [], x ∈ [901] by decide) hkp
  have hP : va_P (gg_D G) classes ([(tp, .inr (8, [.ref bp, .int n, .int y_2, .int y_3, .int y_4])), (bp, .inl (G.2.2 0, 400, .inl bf))] ++ wt) H := hP
  have hD : va_D A ([(tp, .inr (8, [.ref bp, .int n, .int y_2, .int y_3, .int y_4])), (bp, .inl (G.2.2 0, 400, .inl bf))] ++ wt) := hD
  refine lv_istore_n (lv' := [(2, .int r_1), (0, .ref t), (1, .ref tp)]) hx hb dX9_readBidder_8 rfl hl (by decide) rfl (fun ls hl => ?_)
  refine lv_iload_n hx hb dX9_readBidder_9 rfl (lv_at hl 0 rfl) ?_
  refine lv_iconst (v := (-1)) hx hb dX9_readBidder_10 (by decide +kernel) ?_
  refine lv_icmp_ne (tgt := 18) hx hb dX9_readBidder_11 (by decide) (fun c_8 => ?_) (fun c_8 => ?_)
  · rw [← Int32.toInt_inj] at c_8
    refine lv_aload_n hx hb dX9_readBidder_18 rfl (lv_at hl 2 rfl) ?_
    refine lv_iconst (v := 1) hx hb dX9_readBidder_19 (by decide +kernel) ?_
    refine lv_sipush (v := 300) hx hb dX9_readBidder_20 (by decide +kernel) ?_
    have hP : va_P (gg_D G) classes ([] ++ ([(tp, .inr (8, [.ref bp, .int n, .int y_2, .int y_3, .int y_4])), (bp, .inl (G.2.2 0, 400, .inl bf))] ++ wt)) H := hP
    have hD : va_D A ([] ++ ([(tp, .inr (8, [.ref bp, .int n, .int y_2, .int y_3, .int y_4])), (bp, .inl (G.2.2 0, 400, .inl bf))] ++ wt)) := hD
    refine gt_callI (wr := []) (va_runV (As := [.int 1, .int 300]) (rest := []) ⟨hx, hb, hml, hown, ht⟩ (d_number l G Γ H.size wt hT 1 300 tp bp n y_2 y_3 y_4 bf (by first | assumption | omega) (by first | assumption | omega) (by first | assumption | omega) (by first | assumption | omega) (by first | assumption | omega)) (cwV 2 ht (ts_gV wd_655 wd_656 wd_657 wd_123 wd_658) rfl rfl rfl (by decide +kernel) ⟨Nat.le_of_ble_eq_true rfl, Nat.le_of_ble_eq_true rfl⟩) (gc_preV (ci := 8) (q0 := 0) hK (tw_right hP) (tw_rightD hD) rfl rfl) rfl rfl hl.1 rfl (lv_room (Nat.le_of_ble_eq_true rfl)) dX9_readBidder_23 ⟨Nat.le_of_ble_eq_true rfl, Nat.le_of_ble_eq_true rfl⟩) hP hD hS hA (fun r_9 u H locs hw hP hD hS => ?_)
    obtain ⟨y_10, y_11, y_12, wt⟩ := u
    obtain ⟨hT, hkp, w_13, w_14, w_15, rp_r_9⟩ := hw
    have hW := hW.call (show ∀ x ∈ [], x ∈ [901] by decide) hkp
    have hP : va_P (gg_D G) classes ([(tp, .inr (8, [.ref bp, .int n, .int y_10, .int y_11, .int y_12])), (bp, .inl (G.2.2 0, 400, .inl bf))] ++ wt) H := hP
    have hD : va_D A ([(tp, .inr (8, [.ref bp, .int n, .int y_10, .int y_11, .int y_12])), (bp, .inl (G.2.2 0, 400, .inl bf))] ++ wt) := hD
    refine lv_istore_n (lv' := [(3, .int r_9), (2, .int r_1), (0, .ref t), (1, .ref tp)]) hx hb dX9_readBidder_26 rfl hl (by decide) rfl (fun ls hl => ?_)
    refine lv_iload_n hx hb dX9_readBidder_27 rfl (lv_at hl 0 rfl) ?_
    refine lv_iconst (v := (-1)) hx hb dX9_readBidder_28 (by decide +kernel) ?_
    refine lv_icmp_eq (tgt := 40) hx hb dX9_readBidder_29 (by decide) (fun c_16 => ?_) (fun c_16 => ?_)
    · rw [← Int32.toInt_inj] at c_16
      refine lv_iconst (v := 0) hx hb dX9_readBidder_40 (by decide +kernel) ?_
      have hP9 : va_P (gg_D G) classes ([(tp, .inr (8, [.ref bp, .int n, .int y_10, .int y_11, .int y_12])), (bp, .inl (G.2.2 0, 400, .inl bf))] ++ wt) _ := hP
      have hD9 : va_D A ([(tp, .inr (8, [.ref bp, .int n, .int y_10, .int y_11, .int y_12])), (bp, .inl (G.2.2 0, 400, .inl bf))] ++ wt) := hD
      exact W.zret (v := 0) hx hb hr (by decide +kernel) (gq_endI (y_10, y_11, y_12, wt) ⟨hT, hW, (by omega), (by omega), (by omega), (by omega), (by omega)⟩ hP9 hD9 hS) hS.2.2 dX9_readBidder_41
    · rw [← Int32.toInt_inj] at c_16
      refine lv_aload_n hx hb dX9_readBidder_32 rfl (lv_at hl 2 rfl) ?_
      refine tr_get (ci := 9) hx hb ht hown hK hT hP k_t (by decide) i_X9 rfl 1 (by decide) wd_182 rfl dX9_readBidder_33 (fun v hv hf_17 => ?_)
      obtain ⟨n_18, rfl, lo_n_18, hi_n_18⟩ := hv
      refine lv_iconst (v := 5) hx hb dX9_readBidder_36 (by decide +kernel) ?_
      refine lv_icmp_lt (tgt := 42) hx hb dX9_readBidder_37 (by decide) (fun c_19 => ?_) (fun c_19 => ?_)
      · rw [Int32.lt_iff_toInt_lt] at c_19
        refine lv_aload_n hx hb dX9_readBidder_42 rfl (lv_at hl 2 rfl) ?_
        refine tr_get (ci := 9) hx hb ht hown hK hT hP k_t (by decide) i_X9 rfl 4 (by decide) wd_194 rfl dX9_readBidder_43 (fun v hv hf_20 => ?_)
        obtain ⟨q_21, rfl, hq_21⟩ := hv
        refine lv_aload_n hx hb dX9_readBidder_46 rfl (lv_at hl 2 rfl) ?_
        refine tr_getK (ci := 9) hx hb ht hown hK hP i_X9 rfl 1 (by decide) wd_182 rfl hf_17 dX9_readBidder_47 ?_
        refine lv_iload_n hx hb dX9_readBidder_50 rfl (lv_at hl 1 rfl) ?_
        refine tr_iast hx hb hK hT hP hD hS 20 hq_21 (by decide) (by decide) (show vp_in _ (tk_len 20) from ia_in (n := 5) (by omega) (by omega)) (show tk_e 20 _ from trivial) dX9_readBidder_51 (fun H locs wt hT hfl hP hD hS => ?_)
        have hW := hW.arr hfl
        have hf_17 := hfl _ _ _ _ hf_17
        refine lv_aload_n hx hb dX9_readBidder_52 rfl (lv_at hl 2 rfl) ?_
        refine tr_get (ci := 9) hx hb ht hown hK hT hP k_t (by decide) i_X9 rfl 5 (by decide) wd_196 rfl dX9_readBidder_53 (fun v hv hf_22 => ?_)
        obtain ⟨q_23, rfl, hq_23⟩ := hv
        refine lv_aload_n hx hb dX9_readBidder_56 rfl (lv_at hl 2 rfl) ?_
        refine tr_getK (ci := 9) hx hb ht hown hK hP i_X9 rfl 1 (by decide) wd_182 rfl hf_17 dX9_readBidder_57 ?_
        refine lv_iload_n hx hb dX9_readBidder_60 rfl (lv_at hl 0 rfl) ?_
        refine tr_iast hx hb hK hT hP hD hS 20 hq_23 (by decide) (by decide) (show vp_in _ (tk_len 20) from ia_in (n := 5) (by omega) (by omega)) (show tk_e 20 _ from trivial) dX9_readBidder_61 (fun H locs wt hT hfl hP hD hS => ?_)
        have hW := hW.arr hfl
        have hf_17 := hfl _ _ _ _ hf_17
        refine lv_aload_n hx hb dX9_readBidder_62 rfl (lv_at hl 2 rfl) ?_
        refine lv_dup hx hb dX9_readBidder_63 rfl ?_
        refine tr_getK (ci := 9) hx hb ht hown hK hP i_X9 rfl 1 (by decide) wd_182 rfl hf_17 dX9_readBidder_64 ?_
        refine lv_iconst (v := 1) hx hb dX9_readBidder_67 (by decide +kernel) ?_
        obtain ⟨t_24, et_24⟩ : ∃ zz_ : Int32, n_18 + 1 = zz_ := ⟨_, rfl⟩
        refine gq_iadd hx hb t_24 et_24 dX9_readBidder_68 ?_
        have ft_24 := ia_add et_24 (by omega) (by omega)
        refine tr_put (ci := 9) hx hb ht hown hK hT hP hD hS k_t (by decide) i_X9 tyX9 tyX9_ok nmX9 rfl 1 (by decide) wd_182 rfl rfl rfl rfl ⟨_, rfl, by omega, by omega⟩ dX9_readBidder_69 (fun H locs wt hT hfl hfn hP hD hS => ?_)
        have hW := hW.obj (show 9 * 100 + 1 ∈ [901] by decide) hfl
        have hf_25 := hfn
        refine lv_iconst (v := 1) hx hb dX9_readBidder_72 (by decide +kernel) ?_
        have hP9 : va_P (gg_D G) classes ([(tp, .inr (8, [.ref bp, .int n, .int y_10, .int y_11, .int y_12])), (bp, .inl (G.2.2 0, 400, .inl bf))] ++ wt) _ := hP
        have hD9 : va_D A ([(tp, .inr (8, [.ref bp, .int n, .int y_10, .int y_11, .int y_12])), (bp, .inl (G.2.2 0, 400, .inl bf))] ++ wt) := hD
        exact W.zret (v := 1) hx hb hr (by decide +kernel) (gq_endI (y_10, y_11, y_12, wt) ⟨hT, hW, (by omega), (by omega), (by omega), (by omega), (by omega)⟩ hP9 hD9 hS) hS.2.2 dX9_readBidder_73
      · rw [Int32.lt_iff_toInt_lt] at c_19
        refine lv_iconst (v := 0) hx hb dX9_readBidder_40 (by decide +kernel) ?_
        have hP9 : va_P (gg_D G) classes ([(tp, .inr (8, [.ref bp, .int n, .int y_10, .int y_11, .int y_12])), (bp, .inl (G.2.2 0, 400, .inl bf))] ++ wt) _ := hP
        have hD9 : va_D A ([(tp, .inr (8, [.ref bp, .int n, .int y_10, .int y_11, .int y_12])), (bp, .inl (G.2.2 0, 400, .inl bf))] ++ wt) := hD
        exact W.zret (v := 0) hx hb hr (by decide +kernel) (gq_endI (y_10, y_11, y_12, wt) ⟨hT, hW, (by omega), (by omega), (by omega), (by omega), (by omega)⟩ hP9 hD9 hS) hS.2.2 dX9_readBidder_41
  · rw [← Int32.toInt_inj] at c_8
    refine lv_iconst (v := (-1)) hx hb dX9_readBidder_14 (by decide +kernel) ?_
    refine lv_goto (tgt := 26) hx hb dX9_readBidder_15 (by decide) ?_
    refine lv_istore_n (lv' := [(3, .int (-1)), (2, .int r_1), (0, .ref t), (1, .ref tp)]) hx hb dX9_readBidder_26 rfl hl (by decide) rfl (fun ls hl => ?_)
    refine lv_iload_n hx hb dX9_readBidder_27 rfl (lv_at hl 0 rfl) ?_
    refine lv_iconst (v := (-1)) hx hb dX9_readBidder_28 (by decide +kernel) ?_
    refine lv_icmp_eq (tgt := 40) hx hb dX9_readBidder_29 (by decide) (fun _ => ?_) (fun c0 => False.elim (by rw [← Int32.toInt_inj] at c0; omega))
    refine lv_iconst (v := 0) hx hb dX9_readBidder_40 (by decide +kernel) ?_
    have hP9 : va_P (gg_D G) classes ([(tp, .inr (8, [.ref bp, .int n, .int y_2, .int y_3, .int y_4])), (bp, .inl (G.2.2 0, 400, .inl bf))] ++ wt) _ := hP
    have hD9 : va_D A ([(tp, .inr (8, [.ref bp, .int n, .int y_2, .int y_3, .int y_4])), (bp, .inl (G.2.2 0, 400, .inl bf))] ++ wt) := hD
    exact W.zret (v := 0) hx hb hr (by decide +kernel) (gq_endI (y_2, y_3, y_4, wt) ⟨hT, hW, (by omega), (by omega), (by omega), (by omega), (by omega)⟩ hP9 hD9 hS) hS.2.2 dX9_readBidder_41
set_option maxHeartbeats 4000000 in
set_option maxRecDepth 100000 in
theorem d_readWorth (l : Launch) (G : gg_T) (Γ : Nat → Nat) (sz : Nat) (wt : va_W) (hT : tk_ty G Γ wt) (t : Nat) (tp : Nat) (bp : Nat) (n : Int32) (at_ : Int32) (w_ : Int32) (fl : Int32) (bf : Nat → Int32) (k_t : Γ t = 10) (xp1 : 0 ≤ n.toInt) (xp2 : n.toInt ≤ 400) (xp3 : 0 ≤ at_.toInt) (xp4 : 0 ≤ w_.toInt) (xp5 : at_.toInt + w_.toInt ≤ 400) : Met l yX9_readWorth (ts_L yX9_readWorth cX9_readWorth 5 (some .boolean)) ({ frames := 2, cells := 0, slots := 0, locals := 46 }) (gc_P G ([(tp, .inr (8, [.ref bp, .int n, .int at_, .int w_, .int fl])), (bp, .inl (G.2.2 0, 400, .inl bf))] ++ wt) sz [.ref t, .ref tp]) (gc_I G (va_A ([(tp, .inr (8, [.ref bp, .int n, .int at_, .int w_, .int fl])), (bp, .inl (G.2.2 0, 400, .inl bf))] ++ wt) sz) (fun r (u : (Int32) × (Int32) × (Int32) × va_W) => match u with | (a1, w1, f1, wt1) => tk_ty G Γ wt1 ∧ tk_kp [] wt wt1 ∧ 0 ≤ a1.toInt ∧ 0 ≤ w1.toInt ∧ a1.toInt + w1.toInt ≤ 400 ∧ 0 ≤ r.toInt ∧ r.toInt ≤ 1) (fun (u : (Int32) × (Int32) × (Int32) × va_W) => match u with | (a1, w1, f1, wt1) => [(tp, .inr (8, [.ref bp, .int n, .int a1, .int w1, .int f1])), (bp, .inl (G.2.2 0, 400, .inl bf))] ++ wt1)) 0 0 (va_A ([(tp, .inr (8, [.ref bp, .int n, .int at_, .int w_, .int fl])), (bp, .inl (G.2.2 0, 400, .inl bf))] ++ wt) sz) := by
  refine Met.ofW (cc := cX9_readWorth) (maxL := 5) (ret := (some .boolean)) (by decide) rfl ?_
  intro p e s m args below meth c s₁ B hml hv
  obtain ⟨rfl, hsz, hP, hK, hD0⟩ := hv
  have hx := B.exec
  have hb := B.bytes
  have hr := B.returns
  have ht := ts_ht (atoms_spec (ws := ts_L yX9_readWorth cX9_readWorth 5 (some .boolean)) B.pre)
  have hown : s.vm.findClass RX9 = some m.cls := findClass_of_methodNamed B.named
  have hlocks := B.notSynchronized
  subst hsz
  have hD := hD0.self (sz := s.heap.size)
  generalize hAe : va_A ([(tp, .inr (8, [.ref bp, .int n, .int at_, .int w_, .int fl])), (bp, .inl (G.2.2 0, 400, .inl bf))] ++ wt) s.heap.size = A at hD ⊢
  have hA : ∀ q : Nat, s.heap.size ≤ q → A q := fun q h => by rw [← hAe]; exact Or.inr h
  clear hAe hD0
  have hS : va_S A s.heap s.heap [] := va_S.rf
  obtain ⟨w0, hw0⟩ : ∃ z, z = wt := ⟨_, rfl⟩
  have hW : tk_kp [] w0 wt := by rw [hw0]; exact tk_kp.rf
  rw [← hw0]
  clear hw0
  have hP : va_P (gg_D G) classes ([(tp, .inr (8, [.ref bp, .int n, .int at_, .int w_, .int fl])), (bp, .inl (G.2.2 0, 400, .inl bf))] ++ wt) s.heap := hP
  have hD : va_D A ([(tp, .inr (8, [.ref bp, .int n, .int at_, .int w_, .int fl])), (bp, .inl (G.2.2 0, 400, .inl bf))] ++ wt) := hD
  have hl := lv_entry ([.ref t, .ref tp]) (n := 5) (Nat.le_of_ble_eq_true rfl)
  rw [lg_entry_eq]
  generalize (lg_sl ([.ref t, .ref tp]) ++ List.replicate (5 - (lg_sl ([.ref t, .ref tp])).length) Slot.unset).toArray = ls at hl ⊢
  have hl : lv_has ls 5 [(0, .ref t), (1, .ref tp)] := hl
  have lm1 : ((-1) : Int32).toInt = -1 := by decide +kernel
  have l0 : (0 : Int32).toInt = 0 := by decide +kernel
  have l1 : (1 : Int32).toInt = 1 := by decide +kernel
  have l3 : (3 : Int32).toInt = 3 := by decide +kernel
  have l300 : (300 : Int32).toInt = 300 := by decide +kernel
  refine lv_aload_n hx hb dX9_readWorth_0 rfl (lv_at hl 1 rfl) ?_
  refine lv_iconst (v := 0) hx hb dX9_readWorth_1 (by decide +kernel) ?_
  refine lv_aload_n hx hb dX9_readWorth_2 rfl (lv_at hl 0 rfl) ?_
  refine tr_get (ci := 9) hx hb ht hown hK hT hP k_t (by decide) i_X9 rfl 1 (by decide) wd_182 rfl dX9_readWorth_3 (fun v hv hf_1 => ?_)
  obtain ⟨n_2, rfl, lo_n_2, hi_n_2⟩ := hv
  refine lv_iconst (v := 1) hx hb dX9_readWorth_6 (by decide +kernel) ?_
  obtain ⟨t_3, et_3⟩ : ∃ zz_ : Int32, n_2 - 1 = zz_ := ⟨_, rfl⟩
  refine gq_isub hx hb t_3 et_3 dX9_readWorth_7 ?_
  have ft_3 := ia_sub et_3 (by omega) (by omega)
  have hP : va_P (gg_D G) classes ([] ++ ([(tp, .inr (8, [.ref bp, .int n, .int at_, .int w_, .int fl])), (bp, .inl (G.2.2 0, 400, .inl bf))] ++ wt)) s.heap := hP
  have hD : va_D A ([] ++ ([(tp, .inr (8, [.ref bp, .int n, .int at_, .int w_, .int fl])), (bp, .inl (G.2.2 0, 400, .inl bf))] ++ wt)) := hD
  refine gt_callI (wr := []) (va_runV (As := [.int 0, .int t_3]) (rest := []) ⟨hx, hb, hml, hown, ht⟩ (d_number l G Γ s.heap.size wt hT 0 t_3 tp bp n at_ w_ fl bf (by first | assumption | omega) (by first | assumption | omega) (by first | assumption | omega) (by first | assumption | omega) (by first | assumption | omega)) (cwV 2 ht (ts_gV wd_655 wd_656 wd_657 wd_123 wd_658) rfl rfl rfl (by decide +kernel) ⟨Nat.le_of_ble_eq_true rfl, Nat.le_of_ble_eq_true rfl⟩) (gc_preV (ci := 8) (q0 := 0) hK (tw_right hP) (tw_rightD hD) rfl rfl) rfl rfl hl.1 rfl (lv_room (Nat.le_of_ble_eq_true rfl)) dX9_readWorth_8 ⟨Nat.le_of_ble_eq_true rfl, Nat.le_of_ble_eq_true rfl⟩) hP hD hS hA (fun r_4 u H locs hw hP hD hS => ?_)
  obtain ⟨y_5, y_6, y_7, wt⟩ := u
  obtain ⟨hT, hkp, w_8, w_9, w_10, rp_r_4⟩ := hw
  have hW := hW.call (show ∀ x ∈ [], x ∈ [] by decide) hkp
  have hf_1 := hkp _ _ _ _ (by decide) (by decide) hf_1
  have hP : va_P (gg_D G) classes ([(tp, .inr (8, [.ref bp, .int n, .int y_5, .int y_6, .int y_7])), (bp, .inl (G.2.2 0, 400, .inl bf))] ++ wt) H := hP
  have hD : va_D A ([(tp, .inr (8, [.ref bp, .int n, .int y_5, .int y_6, .int y_7])), (bp, .inl (G.2.2 0, 400, .inl bf))] ++ wt) := hD
  refine lv_istore_n (lv' := [(2, .int r_4), (0, .ref t), (1, .ref tp)]) hx hb dX9_readWorth_11 rfl hl (by decide) rfl (fun ls hl => ?_)
  refine lv_iload_n hx hb dX9_readWorth_12 rfl (lv_at hl 0 rfl) ?_
  refine lv_iconst (v := (-1)) hx hb dX9_readWorth_13 (by decide +kernel) ?_
  refine lv_icmp_ne (tgt := 21) hx hb dX9_readWorth_14 (by decide) (fun c_11 => ?_) (fun c_11 => ?_)
  · rw [← Int32.toInt_inj] at c_11
    refine lv_aload_n hx hb dX9_readWorth_21 rfl (lv_at hl 2 rfl) ?_
    refine lv_iconst (v := 0) hx hb dX9_readWorth_22 (by decide +kernel) ?_
    refine lv_aload_n hx hb dX9_readWorth_23 rfl (lv_at hl 1 rfl) ?_
    refine tr_get (ci := 9) hx hb ht hown hK hT hP k_t (by decide) i_X9 rfl 2 (by decide) wd_187 rfl dX9_readWorth_24 (fun v hv hf_12 => ?_)
    obtain ⟨n_13, rfl, lo_n_13, hi_n_13⟩ := hv
    refine lv_iconst (v := 1) hx hb dX9_readWorth_27 (by decide +kernel) ?_
    obtain ⟨t_14, et_14⟩ : ∃ zz_ : Int32, n_13 - 1 = zz_ := ⟨_, rfl⟩
    refine gq_isub hx hb t_14 et_14 dX9_readWorth_28 ?_
    have ft_14 := ia_sub et_14 (by omega) (by omega)
    have hP : va_P (gg_D G) classes ([] ++ ([(tp, .inr (8, [.ref bp, .int n, .int y_5, .int y_6, .int y_7])), (bp, .inl (G.2.2 0, 400, .inl bf))] ++ wt)) H := hP
    have hD : va_D A ([] ++ ([(tp, .inr (8, [.ref bp, .int n, .int y_5, .int y_6, .int y_7])), (bp, .inl (G.2.2 0, 400, .inl bf))] ++ wt)) := hD
    refine gt_callI (wr := []) (va_runV (As := [.int 0, .int t_14]) (rest := []) ⟨hx, hb, hml, hown, ht⟩ (d_number l G Γ H.size wt hT 0 t_14 tp bp n y_5 y_6 y_7 bf (by first | assumption | omega) (by first | assumption | omega) (by first | assumption | omega) (by first | assumption | omega) (by first | assumption | omega)) (cwV 2 ht (ts_gV wd_655 wd_656 wd_657 wd_123 wd_658) rfl rfl rfl (by decide +kernel) ⟨Nat.le_of_ble_eq_true rfl, Nat.le_of_ble_eq_true rfl⟩) (gc_preV (ci := 8) (q0 := 0) hK (tw_right hP) (tw_rightD hD) rfl rfl) rfl rfl hl.1 rfl (lv_room (Nat.le_of_ble_eq_true rfl)) dX9_readWorth_29 ⟨Nat.le_of_ble_eq_true rfl, Nat.le_of_ble_eq_true rfl⟩) hP hD hS hA (fun r_15 u H locs hw hP hD hS => ?_)
    obtain ⟨y_16, y_17, y_18, wt⟩ := u
    obtain ⟨hT, hkp, w_19, w_20, w_21, rp_r_15⟩ := hw
    have hW := hW.call (show ∀ x ∈ [], x ∈ [] by decide) hkp
    have hf_1 := hkp _ _ _ _ (by decide) (by decide) hf_1
    have hf_12 := hkp _ _ _ _ (by decide) (by decide) hf_12
    have hP : va_P (gg_D G) classes ([(tp, .inr (8, [.ref bp, .int n, .int y_16, .int y_17, .int y_18])), (bp, .inl (G.2.2 0, 400, .inl bf))] ++ wt) H := hP
    have hD : va_D A ([(tp, .inr (8, [.ref bp, .int n, .int y_16, .int y_17, .int y_18])), (bp, .inl (G.2.2 0, 400, .inl bf))] ++ wt) := hD
    refine lv_istore_n (lv' := [(3, .int r_15), (2, .int r_4), (0, .ref t), (1, .ref tp)]) hx hb dX9_readWorth_32 rfl hl (by decide) rfl (fun ls hl => ?_)
    refine lv_iload_n hx hb dX9_readWorth_33 rfl (lv_at hl 0 rfl) ?_
    refine lv_iconst (v := (-1)) hx hb dX9_readWorth_34 (by decide +kernel) ?_
    refine lv_icmp_ne (tgt := 42) hx hb dX9_readWorth_35 (by decide) (fun c_22 => ?_) (fun c_22 => ?_)
    · rw [← Int32.toInt_inj] at c_22
      refine lv_aload_n hx hb dX9_readWorth_42 rfl (lv_at hl 3 rfl) ?_
      refine lv_iconst (v := 0) hx hb dX9_readWorth_43 (by decide +kernel) ?_
      refine lv_sipush (v := 300) hx hb dX9_readWorth_44 (by decide +kernel) ?_
      have hP : va_P (gg_D G) classes ([] ++ ([(tp, .inr (8, [.ref bp, .int n, .int y_16, .int y_17, .int y_18])), (bp, .inl (G.2.2 0, 400, .inl bf))] ++ wt)) H := hP
      have hD : va_D A ([] ++ ([(tp, .inr (8, [.ref bp, .int n, .int y_16, .int y_17, .int y_18])), (bp, .inl (G.2.2 0, 400, .inl bf))] ++ wt)) := hD
      refine gt_callI (wr := []) (va_runV (As := [.int 0, .int 300]) (rest := []) ⟨hx, hb, hml, hown, ht⟩ (d_number l G Γ H.size wt hT 0 300 tp bp n y_16 y_17 y_18 bf (by first | assumption | omega) (by first | assumption | omega) (by first | assumption | omega) (by first | assumption | omega) (by first | assumption | omega)) (cwV 2 ht (ts_gV wd_655 wd_656 wd_657 wd_123 wd_658) rfl rfl rfl (by decide +kernel) ⟨Nat.le_of_ble_eq_true rfl, Nat.le_of_ble_eq_true rfl⟩) (gc_preV (ci := 8) (q0 := 0) hK (tw_right hP) (tw_rightD hD) rfl rfl) rfl rfl hl.1 rfl (lv_room (Nat.le_of_ble_eq_true rfl)) dX9_readWorth_47 ⟨Nat.le_of_ble_eq_true rfl, Nat.le_of_ble_eq_true rfl⟩) hP hD hS hA (fun r_23 u H locs hw hP hD hS => ?_)
      obtain ⟨y_24, y_25, y_26, wt⟩ := u
      obtain ⟨hT, hkp, w_27, w_28, w_29, rp_r_23⟩ := hw
      have hW := hW.call (show ∀ x ∈ [], x ∈ [] by decide) hkp
      have hf_1 := hkp _ _ _ _ (by decide) (by decide) hf_1
      have hf_12 := hkp _ _ _ _ (by decide) (by decide) hf_12
      have hP : va_P (gg_D G) classes ([(tp, .inr (8, [.ref bp, .int n, .int y_24, .int y_25, .int y_26])), (bp, .inl (G.2.2 0, 400, .inl bf))] ++ wt) H := hP
      have hD : va_D A ([(tp, .inr (8, [.ref bp, .int n, .int y_24, .int y_25, .int y_26])), (bp, .inl (G.2.2 0, 400, .inl bf))] ++ wt) := hD
      refine lv_istore (lv' := [(4, .int r_23), (3, .int r_15), (2, .int r_4), (0, .ref t), (1, .ref tp)]) hx hb dX9_readWorth_50 hl (by decide) rfl (fun ls hl => ?_)
      refine lv_iload hx hb dX9_readWorth_52 (lv_at hl 0 rfl) ?_
      refine lv_iconst (v := (-1)) hx hb dX9_readWorth_54 (by decide +kernel) ?_
      refine lv_icmp_ne (tgt := 60) hx hb dX9_readWorth_55 (by decide) (fun c_30 => ?_) (fun c_30 => ?_)
      · rw [← Int32.toInt_inj] at c_30
        refine lv_aload_n hx hb dX9_readWorth_60 rfl (lv_at hl 3 rfl) ?_
        refine tr_get (ci := 9) hx hb ht hown hK hT hP k_t (by decide) i_X9 rfl 6 (by decide) wd_198 rfl dX9_readWorth_61 (fun v hv hf_31 => ?_)
        obtain ⟨q_32, rfl, hq_32⟩ := hv
        refine lv_iload_n hx hb dX9_readWorth_64 rfl (lv_at hl 2 rfl) ?_
        refine lv_iconst (v := 3) hx hb dX9_readWorth_65 (by decide +kernel) ?_
        obtain ⟨t_33, et_33⟩ : ∃ zz_ : Int32, r_4 * 3 = zz_ := ⟨_, rfl⟩
        refine gq_imul hx hb t_33 et_33 dX9_readWorth_66 ?_
        have ft_33 := ia_mul et_33 (by rw [l3]; omega) (by rw [l3]; omega)
        rw [l3] at ft_33
        refine lv_iload_n hx hb dX9_readWorth_67 rfl (lv_at hl 1 rfl) ?_
        obtain ⟨t_34, et_34⟩ : ∃ zz_ : Int32, t_33 + r_15 = zz_ := ⟨_, rfl⟩
        refine gq_iadd hx hb t_34 et_34 dX9_readWorth_68 ?_
        have ft_34 := ia_add et_34 (by omega) (by omega)
        refine lv_iload hx hb dX9_readWorth_69 (lv_at hl 0 rfl) ?_
        refine tr_iast hx hb hK hT hP hD hS 24 hq_32 (by decide) (by decide) (show vp_in _ (tk_len 24) from ia_in (n := 15) (by omega) (by omega)) (show tk_e 24 _ from trivial) dX9_readWorth_71 (fun H locs wt hT hfl hP hD hS => ?_)
        have hW := hW.arr hfl
        have hf_1 := hfl _ _ _ _ hf_1
        have hf_12 := hfl _ _ _ _ hf_12
        refine lv_iconst (v := 1) hx hb dX9_readWorth_72 (by decide +kernel) ?_
        have hP9 : va_P (gg_D G) classes ([(tp, .inr (8, [.ref bp, .int n, .int y_24, .int y_25, .int y_26])), (bp, .inl (G.2.2 0, 400, .inl bf))] ++ wt) _ := hP
        have hD9 : va_D A ([(tp, .inr (8, [.ref bp, .int n, .int y_24, .int y_25, .int y_26])), (bp, .inl (G.2.2 0, 400, .inl bf))] ++ wt) := hD
        exact W.zret (v := 1) hx hb hr (by decide +kernel) (gq_endI (y_24, y_25, y_26, wt) ⟨hT, hW, (by omega), (by omega), (by omega), (by omega), (by omega)⟩ hP9 hD9 hS) hS.2.2 dX9_readWorth_73
      · rw [← Int32.toInt_inj] at c_30
        refine lv_iconst (v := 0) hx hb dX9_readWorth_58 (by decide +kernel) ?_
        have hP9 : va_P (gg_D G) classes ([(tp, .inr (8, [.ref bp, .int n, .int y_24, .int y_25, .int y_26])), (bp, .inl (G.2.2 0, 400, .inl bf))] ++ wt) _ := hP
        have hD9 : va_D A ([(tp, .inr (8, [.ref bp, .int n, .int y_24, .int y_25, .int y_26])), (bp, .inl (G.2.2 0, 400, .inl bf))] ++ wt) := hD
        exact W.zret (v := 0) hx hb hr (by decide +kernel) (gq_endI (y_24, y_25, y_26, wt) ⟨hT, hW, (by omega), (by omega), (by omega), (by omega), (by omega)⟩ hP9 hD9 hS) hS.2.2 dX9_readWorth_59
    · rw [← Int32.toInt_inj] at c_22
      refine lv_iconst (v := (-1)) hx hb dX9_readWorth_38 (by decide +kernel) ?_
      refine lv_goto (tgt := 50) hx hb dX9_readWorth_39 (by decide) ?_
      refine lv_istore (lv' := [(4, .int (-1)), (3, .int r_15), (2, .int r_4), (0, .ref t), (1, .ref tp)]) hx hb dX9_readWorth_50 hl (by decide) rfl (fun ls hl => ?_)
      refine lv_iload hx hb dX9_readWorth_52 (lv_at hl 0 rfl) ?_
      refine lv_iconst (v := (-1)) hx hb dX9_readWorth_54 (by decide +kernel) ?_
      refine lv_icmp_ne (tgt := 60) hx hb dX9_readWorth_55 (by decide) (fun c0 => False.elim (by rw [← Int32.toInt_inj] at c0; omega)) (fun _ => ?_)
      refine lv_iconst (v := 0) hx hb dX9_readWorth_58 (by decide +kernel) ?_
      have hP9 : va_P (gg_D G) classes ([(tp, .inr (8, [.ref bp, .int n, .int y_16, .int y_17, .int y_18])), (bp, .inl (G.2.2 0, 400, .inl bf))] ++ wt) _ := hP
      have hD9 : va_D A ([(tp, .inr (8, [.ref bp, .int n, .int y_16, .int y_17, .int y_18])), (bp, .inl (G.2.2 0, 400, .inl bf))] ++ wt) := hD
      exact W.zret (v := 0) hx hb hr (by decide +kernel) (gq_endI (y_16, y_17, y_18, wt) ⟨hT, hW, (by omega), (by omega), (by omega), (by omega), (by omega)⟩ hP9 hD9 hS) hS.2.2 dX9_readWorth_59
  · rw [← Int32.toInt_inj] at c_11
    refine lv_iconst (v := (-1)) hx hb dX9_readWorth_17 (by decide +kernel) ?_
    refine lv_goto (tgt := 32) hx hb dX9_readWorth_18 (by decide) ?_
    refine lv_istore_n (lv' := [(3, .int (-1)), (2, .int r_4), (0, .ref t), (1, .ref tp)]) hx hb dX9_readWorth_32 rfl hl (by decide) rfl (fun ls hl => ?_)
    refine lv_iload_n hx hb dX9_readWorth_33 rfl (lv_at hl 0 rfl) ?_
    refine lv_iconst (v := (-1)) hx hb dX9_readWorth_34 (by decide +kernel) ?_
    refine lv_icmp_ne (tgt := 42) hx hb dX9_readWorth_35 (by decide) (fun c0 => False.elim (by rw [← Int32.toInt_inj] at c0; omega)) (fun _ => ?_)
    refine lv_iconst (v := (-1)) hx hb dX9_readWorth_38 (by decide +kernel) ?_
    refine lv_goto (tgt := 50) hx hb dX9_readWorth_39 (by decide) ?_
    refine lv_istore (lv' := [(4, .int (-1)), (3, .int (-1)), (2, .int r_4), (0, .ref t), (1, .ref tp)]) hx hb dX9_readWorth_50 hl (by decide) rfl (fun ls hl => ?_)
    refine lv_iload hx hb dX9_readWorth_52 (lv_at hl 0 rfl) ?_
    refine lv_iconst (v := (-1)) hx hb dX9_readWorth_54 (by decide +kernel) ?_
    refine lv_icmp_ne (tgt := 60) hx hb dX9_readWorth_55 (by decide) (fun c0 => False.elim (by rw [← Int32.toInt_inj] at c0; omega)) (fun _ => ?_)
    refine lv_iconst (v := 0) hx hb dX9_readWorth_58 (by decide +kernel) ?_
    have hP9 : va_P (gg_D G) classes ([(tp, .inr (8, [.ref bp, .int n, .int y_5, .int y_6, .int y_7])), (bp, .inl (G.2.2 0, 400, .inl bf))] ++ wt) _ := hP
    have hD9 : va_D A ([(tp, .inr (8, [.ref bp, .int n, .int y_5, .int y_6, .int y_7])), (bp, .inl (G.2.2 0, 400, .inl bf))] ++ wt) := hD
    exact W.zret (v := 0) hx hb hr (by decide +kernel) (gq_endI (y_5, y_6, y_7, wt) ⟨hT, hW, (by omega), (by omega), (by omega), (by omega), (by omega)⟩ hP9 hD9 hS) hS.2.2 dX9_readWorth_59
set_option maxHeartbeats 4000000 in
set_option maxRecDepth 100000 in
theorem d_readTrick (l : Launch) (G : gg_T) (Γ : Nat → Nat) (sz : Nat) (wt : va_W) (hT : tk_ty G Γ wt) (t : Nat) (tp : Nat) (bp : Nat) (n : Int32) (at_ : Int32) (w_ : Int32) (fl : Int32) (bf : Nat → Int32) (k_t : Γ t = 10) (xp1 : 0 ≤ n.toInt) (xp2 : n.toInt ≤ 400) (xp3 : 0 ≤ at_.toInt) (xp4 : 0 ≤ w_.toInt) (xp5 : at_.toInt + w_.toInt ≤ 400) : Met l yX9_readTrick (ts_L yX9_readTrick cX9_readTrick 4 (some .boolean)) ({ frames := 2, cells := 0, slots := 0, locals := 46 }) (gc_P G ([(tp, .inr (8, [.ref bp, .int n, .int at_, .int w_, .int fl])), (bp, .inl (G.2.2 0, 400, .inl bf))] ++ wt) sz [.ref t, .ref tp]) (gc_I G (va_A ([(tp, .inr (8, [.ref bp, .int n, .int at_, .int w_, .int fl])), (bp, .inl (G.2.2 0, 400, .inl bf))] ++ wt) sz) (fun r (u : (Int32) × (Int32) × (Int32) × va_W) => match u with | (a1, w1, f1, wt1) => tk_ty G Γ wt1 ∧ tk_kp [903] wt wt1 ∧ 0 ≤ a1.toInt ∧ 0 ≤ w1.toInt ∧ a1.toInt + w1.toInt ≤ 400 ∧ 0 ≤ r.toInt ∧ r.toInt ≤ 1) (fun (u : (Int32) × (Int32) × (Int32) × va_W) => match u with | (a1, w1, f1, wt1) => [(tp, .inr (8, [.ref bp, .int n, .int a1, .int w1, .int f1])), (bp, .inl (G.2.2 0, 400, .inl bf))] ++ wt1)) 0 0 (va_A ([(tp, .inr (8, [.ref bp, .int n, .int at_, .int w_, .int fl])), (bp, .inl (G.2.2 0, 400, .inl bf))] ++ wt) sz) := by
  refine Met.ofW (cc := cX9_readTrick) (maxL := 4) (ret := (some .boolean)) (by decide) rfl ?_
  intro p e s m args below meth c s₁ B hml hv
  obtain ⟨rfl, hsz, hP, hK, hD0⟩ := hv
  have hx := B.exec
  have hb := B.bytes
  have hr := B.returns
  have ht := ts_ht (atoms_spec (ws := ts_L yX9_readTrick cX9_readTrick 4 (some .boolean)) B.pre)
  have hown : s.vm.findClass RX9 = some m.cls := findClass_of_methodNamed B.named
  have hlocks := B.notSynchronized
  subst hsz
  have hD := hD0.self (sz := s.heap.size)
  generalize hAe : va_A ([(tp, .inr (8, [.ref bp, .int n, .int at_, .int w_, .int fl])), (bp, .inl (G.2.2 0, 400, .inl bf))] ++ wt) s.heap.size = A at hD ⊢
  have hA : ∀ q : Nat, s.heap.size ≤ q → A q := fun q h => by rw [← hAe]; exact Or.inr h
  clear hAe hD0
  have hS : va_S A s.heap s.heap [] := va_S.rf
  obtain ⟨w0, hw0⟩ : ∃ z, z = wt := ⟨_, rfl⟩
  have hW : tk_kp [903] w0 wt := by rw [hw0]; exact tk_kp.rf
  rw [← hw0]
  clear hw0
  have hP : va_P (gg_D G) classes ([(tp, .inr (8, [.ref bp, .int n, .int at_, .int w_, .int fl])), (bp, .inl (G.2.2 0, 400, .inl bf))] ++ wt) s.heap := hP
  have hD : va_D A ([(tp, .inr (8, [.ref bp, .int n, .int at_, .int w_, .int fl])), (bp, .inl (G.2.2 0, 400, .inl bf))] ++ wt) := hD
  have hl := lv_entry ([.ref t, .ref tp]) (n := 4) (Nat.le_of_ble_eq_true rfl)
  rw [lg_entry_eq]
  generalize (lg_sl ([.ref t, .ref tp]) ++ List.replicate (4 - (lg_sl ([.ref t, .ref tp])).length) Slot.unset).toArray = ls at hl ⊢
  have hl : lv_has ls 4 [(0, .ref t), (1, .ref tp)] := hl
  have lm1 : ((-1) : Int32).toInt = -1 := by decide +kernel
  have l0 : (0 : Int32).toInt = 0 := by decide +kernel
  have l1 : (1 : Int32).toInt = 1 := by decide +kernel
  have l3 : (3 : Int32).toInt = 3 := by decide +kernel
  have l99 : (99 : Int32).toInt = 99 := by decide +kernel
  refine lv_aload_n hx hb dX9_readTrick_0 rfl (lv_at hl 1 rfl) ?_
  refine lv_iconst (v := 0) hx hb dX9_readTrick_1 (by decide +kernel) ?_
  refine lv_bipush (v := 99) hx hb dX9_readTrick_2 (by decide +kernel) ?_
  have hP : va_P (gg_D G) classes ([] ++ ([(tp, .inr (8, [.ref bp, .int n, .int at_, .int w_, .int fl])), (bp, .inl (G.2.2 0, 400, .inl bf))] ++ wt)) s.heap := hP
  have hD : va_D A ([] ++ ([(tp, .inr (8, [.ref bp, .int n, .int at_, .int w_, .int fl])), (bp, .inl (G.2.2 0, 400, .inl bf))] ++ wt)) := hD
  refine gt_callI (wr := []) (va_runV (As := [.int 0, .int 99]) (rest := []) ⟨hx, hb, hml, hown, ht⟩ (d_number l G Γ s.heap.size wt hT 0 99 tp bp n at_ w_ fl bf (by first | assumption | omega) (by first | assumption | omega) (by first | assumption | omega) (by first | assumption | omega) (by first | assumption | omega)) (cwV 2 ht (ts_gV wd_655 wd_656 wd_657 wd_123 wd_658) rfl rfl rfl (by decide +kernel) ⟨Nat.le_of_ble_eq_true rfl, Nat.le_of_ble_eq_true rfl⟩) (gc_preV (ci := 8) (q0 := 0) hK (tw_right hP) (tw_rightD hD) rfl rfl) rfl rfl hl.1 rfl (lv_room (Nat.le_of_ble_eq_true rfl)) dX9_readTrick_4 ⟨Nat.le_of_ble_eq_true rfl, Nat.le_of_ble_eq_true rfl⟩) hP hD hS hA (fun r_1 u H locs hw hP hD hS => ?_)
  obtain ⟨y_2, y_3, y_4, wt⟩ := u
  obtain ⟨hT, hkp, w_5, w_6, w_7, rp_r_1⟩ := hw
  have hW := hW.call (show ∀ x ∈ [], x ∈ [903] by decide) hkp
  have hP : va_P (gg_D G) classes ([(tp, .inr (8, [.ref bp, .int n, .int y_2, .int y_3, .int y_4])), (bp, .inl (G.2.2 0, 400, .inl bf))] ++ wt) H := hP
  have hD : va_D A ([(tp, .inr (8, [.ref bp, .int n, .int y_2, .int y_3, .int y_4])), (bp, .inl (G.2.2 0, 400, .inl bf))] ++ wt) := hD
  refine lv_istore_n (lv' := [(2, .int r_1), (0, .ref t), (1, .ref tp)]) hx hb dX9_readTrick_7 rfl hl (by decide) rfl (fun ls hl => ?_)
  refine lv_iload_n hx hb dX9_readTrick_8 rfl (lv_at hl 0 rfl) ?_
  refine lv_iconst (v := (-1)) hx hb dX9_readTrick_9 (by decide +kernel) ?_
  refine lv_icmp_ne (tgt := 17) hx hb dX9_readTrick_10 (by decide) (fun c_8 => ?_) (fun c_8 => ?_)
  · rw [← Int32.toInt_inj] at c_8
    refine lv_aload_n hx hb dX9_readTrick_17 rfl (lv_at hl 2 rfl) ?_
    refine lv_iconst (v := 1) hx hb dX9_readTrick_18 (by decide +kernel) ?_
    refine lv_bipush (v := 99) hx hb dX9_readTrick_19 (by decide +kernel) ?_
    have hP : va_P (gg_D G) classes ([] ++ ([(tp, .inr (8, [.ref bp, .int n, .int y_2, .int y_3, .int y_4])), (bp, .inl (G.2.2 0, 400, .inl bf))] ++ wt)) H := hP
    have hD : va_D A ([] ++ ([(tp, .inr (8, [.ref bp, .int n, .int y_2, .int y_3, .int y_4])), (bp, .inl (G.2.2 0, 400, .inl bf))] ++ wt)) := hD
    refine gt_callI (wr := []) (va_runV (As := [.int 1, .int 99]) (rest := []) ⟨hx, hb, hml, hown, ht⟩ (d_number l G Γ H.size wt hT 1 99 tp bp n y_2 y_3 y_4 bf (by first | assumption | omega) (by first | assumption | omega) (by first | assumption | omega) (by first | assumption | omega) (by first | assumption | omega)) (cwV 2 ht (ts_gV wd_655 wd_656 wd_657 wd_123 wd_658) rfl rfl rfl (by decide +kernel) ⟨Nat.le_of_ble_eq_true rfl, Nat.le_of_ble_eq_true rfl⟩) (gc_preV (ci := 8) (q0 := 0) hK (tw_right hP) (tw_rightD hD) rfl rfl) rfl rfl hl.1 rfl (lv_room (Nat.le_of_ble_eq_true rfl)) dX9_readTrick_21 ⟨Nat.le_of_ble_eq_true rfl, Nat.le_of_ble_eq_true rfl⟩) hP hD hS hA (fun r_9 u H locs hw hP hD hS => ?_)
    obtain ⟨y_10, y_11, y_12, wt⟩ := u
    obtain ⟨hT, hkp, w_13, w_14, w_15, rp_r_9⟩ := hw
    have hW := hW.call (show ∀ x ∈ [], x ∈ [903] by decide) hkp
    have hP : va_P (gg_D G) classes ([(tp, .inr (8, [.ref bp, .int n, .int y_10, .int y_11, .int y_12])), (bp, .inl (G.2.2 0, 400, .inl bf))] ++ wt) H := hP
    have hD : va_D A ([(tp, .inr (8, [.ref bp, .int n, .int y_10, .int y_11, .int y_12])), (bp, .inl (G.2.2 0, 400, .inl bf))] ++ wt) := hD
    refine lv_istore_n (lv' := [(3, .int r_9), (2, .int r_1), (0, .ref t), (1, .ref tp)]) hx hb dX9_readTrick_24 rfl hl (by decide) rfl (fun ls hl => ?_)
    refine lv_iload_n hx hb dX9_readTrick_25 rfl (lv_at hl 0 rfl) ?_
    refine lv_iconst (v := (-1)) hx hb dX9_readTrick_26 (by decide +kernel) ?_
    refine lv_icmp_eq (tgt := 38) hx hb dX9_readTrick_27 (by decide) (fun c_16 => ?_) (fun c_16 => ?_)
    · rw [← Int32.toInt_inj] at c_16
      refine lv_iconst (v := 0) hx hb dX9_readTrick_38 (by decide +kernel) ?_
      have hP9 : va_P (gg_D G) classes ([(tp, .inr (8, [.ref bp, .int n, .int y_10, .int y_11, .int y_12])), (bp, .inl (G.2.2 0, 400, .inl bf))] ++ wt) _ := hP
      have hD9 : va_D A ([(tp, .inr (8, [.ref bp, .int n, .int y_10, .int y_11, .int y_12])), (bp, .inl (G.2.2 0, 400, .inl bf))] ++ wt) := hD
      exact W.zret (v := 0) hx hb hr (by decide +kernel) (gq_endI (y_10, y_11, y_12, wt) ⟨hT, hW, (by omega), (by omega), (by omega), (by omega), (by omega)⟩ hP9 hD9 hS) hS.2.2 dX9_readTrick_39
    · rw [← Int32.toInt_inj] at c_16
      refine lv_aload_n hx hb dX9_readTrick_30 rfl (lv_at hl 2 rfl) ?_
      refine tr_get (ci := 9) hx hb ht hown hK hT hP k_t (by decide) i_X9 rfl 3 (by decide) wd_191 rfl dX9_readTrick_31 (fun v hv hf_17 => ?_)
      obtain ⟨n_18, rfl, lo_n_18, hi_n_18⟩ := hv
      refine lv_iconst (v := 3) hx hb dX9_readTrick_34 (by decide +kernel) ?_
      refine lv_icmp_lt (tgt := 40) hx hb dX9_readTrick_35 (by decide) (fun c_19 => ?_) (fun c_19 => ?_)
      · rw [Int32.lt_iff_toInt_lt] at c_19
        refine lv_aload_n hx hb dX9_readTrick_40 rfl (lv_at hl 2 rfl) ?_
        refine tr_get (ci := 9) hx hb ht hown hK hT hP k_t (by decide) i_X9 rfl 7 (by decide) wd_199 rfl dX9_readTrick_41 (fun v hv hf_20 => ?_)
        obtain ⟨q_21, rfl, hq_21⟩ := hv
        refine lv_aload_n hx hb dX9_readTrick_44 rfl (lv_at hl 2 rfl) ?_
        refine tr_getK (ci := 9) hx hb ht hown hK hP i_X9 rfl 3 (by decide) wd_191 rfl hf_17 dX9_readTrick_45 ?_
        refine lv_iload_n hx hb dX9_readTrick_48 rfl (lv_at hl 1 rfl) ?_
        refine tr_iast hx hb hK hT hP hD hS 21 hq_21 (by decide) (by decide) (show vp_in _ (tk_len 21) from ia_in (n := 3) (by omega) (by omega)) (show tk_e 21 _ from trivial) dX9_readTrick_49 (fun H locs wt hT hfl hP hD hS => ?_)
        have hW := hW.arr hfl
        have hf_17 := hfl _ _ _ _ hf_17
        refine lv_aload_n hx hb dX9_readTrick_50 rfl (lv_at hl 2 rfl) ?_
        refine tr_get (ci := 9) hx hb ht hown hK hT hP k_t (by decide) i_X9 rfl 8 (by decide) wd_203 rfl dX9_readTrick_51 (fun v hv hf_22 => ?_)
        obtain ⟨q_23, rfl, hq_23⟩ := hv
        refine lv_aload_n hx hb dX9_readTrick_54 rfl (lv_at hl 2 rfl) ?_
        refine tr_getK (ci := 9) hx hb ht hown hK hP i_X9 rfl 3 (by decide) wd_191 rfl hf_17 dX9_readTrick_55 ?_
        refine lv_iload_n hx hb dX9_readTrick_58 rfl (lv_at hl 0 rfl) ?_
        refine tr_iast hx hb hK hT hP hD hS 21 hq_23 (by decide) (by decide) (show vp_in _ (tk_len 21) from ia_in (n := 3) (by omega) (by omega)) (show tk_e 21 _ from trivial) dX9_readTrick_59 (fun H locs wt hT hfl hP hD hS => ?_)
        have hW := hW.arr hfl
        have hf_17 := hfl _ _ _ _ hf_17
        refine lv_aload_n hx hb dX9_readTrick_60 rfl (lv_at hl 2 rfl) ?_
        refine lv_dup hx hb dX9_readTrick_61 rfl ?_
        refine tr_getK (ci := 9) hx hb ht hown hK hP i_X9 rfl 3 (by decide) wd_191 rfl hf_17 dX9_readTrick_62 ?_
        refine lv_iconst (v := 1) hx hb dX9_readTrick_65 (by decide +kernel) ?_
        obtain ⟨t_24, et_24⟩ : ∃ zz_ : Int32, n_18 + 1 = zz_ := ⟨_, rfl⟩
        refine gq_iadd hx hb t_24 et_24 dX9_readTrick_66 ?_
        have ft_24 := ia_add et_24 (by omega) (by omega)
        refine tr_put (ci := 9) hx hb ht hown hK hT hP hD hS k_t (by decide) i_X9 tyX9 tyX9_ok nmX9 rfl 3 (by decide) wd_191 rfl rfl rfl rfl ⟨_, rfl, by omega, by omega⟩ dX9_readTrick_67 (fun H locs wt hT hfl hfn hP hD hS => ?_)
        have hW := hW.obj (show 9 * 100 + 3 ∈ [903] by decide) hfl
        have hf_25 := hfn
        refine lv_iconst (v := 1) hx hb dX9_readTrick_70 (by decide +kernel) ?_
        have hP9 : va_P (gg_D G) classes ([(tp, .inr (8, [.ref bp, .int n, .int y_10, .int y_11, .int y_12])), (bp, .inl (G.2.2 0, 400, .inl bf))] ++ wt) _ := hP
        have hD9 : va_D A ([(tp, .inr (8, [.ref bp, .int n, .int y_10, .int y_11, .int y_12])), (bp, .inl (G.2.2 0, 400, .inl bf))] ++ wt) := hD
        exact W.zret (v := 1) hx hb hr (by decide +kernel) (gq_endI (y_10, y_11, y_12, wt) ⟨hT, hW, (by omega), (by omega), (by omega), (by omega), (by omega)⟩ hP9 hD9 hS) hS.2.2 dX9_readTrick_71
      · rw [Int32.lt_iff_toInt_lt] at c_19
        refine lv_iconst (v := 0) hx hb dX9_readTrick_38 (by decide +kernel) ?_
        have hP9 : va_P (gg_D G) classes ([(tp, .inr (8, [.ref bp, .int n, .int y_10, .int y_11, .int y_12])), (bp, .inl (G.2.2 0, 400, .inl bf))] ++ wt) _ := hP
        have hD9 : va_D A ([(tp, .inr (8, [.ref bp, .int n, .int y_10, .int y_11, .int y_12])), (bp, .inl (G.2.2 0, 400, .inl bf))] ++ wt) := hD
        exact W.zret (v := 0) hx hb hr (by decide +kernel) (gq_endI (y_10, y_11, y_12, wt) ⟨hT, hW, (by omega), (by omega), (by omega), (by omega), (by omega)⟩ hP9 hD9 hS) hS.2.2 dX9_readTrick_39
  · rw [← Int32.toInt_inj] at c_8
    refine lv_iconst (v := (-1)) hx hb dX9_readTrick_13 (by decide +kernel) ?_
    refine lv_goto (tgt := 24) hx hb dX9_readTrick_14 (by decide) ?_
    refine lv_istore_n (lv' := [(3, .int (-1)), (2, .int r_1), (0, .ref t), (1, .ref tp)]) hx hb dX9_readTrick_24 rfl hl (by decide) rfl (fun ls hl => ?_)
    refine lv_iload_n hx hb dX9_readTrick_25 rfl (lv_at hl 0 rfl) ?_
    refine lv_iconst (v := (-1)) hx hb dX9_readTrick_26 (by decide +kernel) ?_
    refine lv_icmp_eq (tgt := 38) hx hb dX9_readTrick_27 (by decide) (fun _ => ?_) (fun c0 => False.elim (by rw [← Int32.toInt_inj] at c0; omega))
    refine lv_iconst (v := 0) hx hb dX9_readTrick_38 (by decide +kernel) ?_
    have hP9 : va_P (gg_D G) classes ([(tp, .inr (8, [.ref bp, .int n, .int y_2, .int y_3, .int y_4])), (bp, .inl (G.2.2 0, 400, .inl bf))] ++ wt) _ := hP
    have hD9 : va_D A ([(tp, .inr (8, [.ref bp, .int n, .int y_2, .int y_3, .int y_4])), (bp, .inl (G.2.2 0, 400, .inl bf))] ++ wt) := hD
    exact W.zret (v := 0) hx hb hr (by decide +kernel) (gq_endI (y_2, y_3, y_4, wt) ⟨hT, hW, (by omega), (by omega), (by omega), (by omega), (by omega)⟩ hP9 hD9 hS) hS.2.2 dX9_readTrick_39
set_option maxHeartbeats 4000000 in
set_option maxRecDepth 100000 in
theorem d_isFull (l : Launch) (G : gg_T) (Γ : Nat → Nat) (sz : Nat) (wt : va_W) (hT : tk_ty G Γ wt) (t : Nat) (b : Int32) (n2 : Int32) (k_t : Γ t = 10) (lo_n2 : 0 ≤ n2.toInt) (hi_n2 : n2.toInt ≤ 3) (hf_n2 : tk_fl wt t 9 2 (.int n2)) : Met l yX9_isFull (ts_L yX9_isFull cX9_isFull 2 (some .boolean)) ({ frames := 0, cells := 0, slots := 0, locals := 0 }) (gc_P G wt sz [.ref t, .int b]) (gc_I G (va_A wt sz) (fun r (u : va_W) => tk_ty G Γ u ∧ tk_kp [] wt u ∧ 0 ≤ r.toInt ∧ r.toInt ≤ 1 ∧ (r.toInt = 1 ∨ b.toInt ≠ 2 ∨ n2.toInt < 3)) (fun u => u)) 0 0 (va_A wt sz) := by
  refine Met.ofW (cc := cX9_isFull) (maxL := 2) (ret := (some .boolean)) (by decide) rfl ?_
  intro p e s m args below meth c s₁ B hml hv
  obtain ⟨rfl, hsz, hP, hK, hD0⟩ := hv
  have hx := B.exec
  have hb := B.bytes
  have hr := B.returns
  have ht := ts_ht (atoms_spec (ws := ts_L yX9_isFull cX9_isFull 2 (some .boolean)) B.pre)
  have hown : s.vm.findClass RX9 = some m.cls := findClass_of_methodNamed B.named
  have hlocks := B.notSynchronized
  subst hsz
  have hD := hD0.self (sz := s.heap.size)
  generalize hAe : va_A wt s.heap.size = A at hD ⊢
  have hA : ∀ q : Nat, s.heap.size ≤ q → A q := fun q h => by rw [← hAe]; exact Or.inr h
  clear hAe hD0
  have hS : va_S A s.heap s.heap [] := va_S.rf
  obtain ⟨w0, hw0⟩ : ∃ z, z = wt := ⟨_, rfl⟩
  have hW : tk_kp [] w0 wt := by rw [hw0]; exact tk_kp.rf
  rw [← hw0]
  clear hw0
  have hP : va_P (gg_D G) classes ([] ++ wt) s.heap := hP
  have hD : va_D A ([] ++ wt) := hD
  have hl := lv_entry ([.ref t, .int b]) (n := 2) (Nat.le_of_ble_eq_true rfl)
  rw [lg_entry_eq]
  generalize (lg_sl ([.ref t, .int b]) ++ List.replicate (2 - (lg_sl ([.ref t, .int b])).length) Slot.unset).toArray = ls at hl ⊢
  have hl : lv_has ls 2 [(0, .ref t), (1, .int b)] := hl
  have l0 : (0 : Int32).toInt = 0 := by decide +kernel
  have l1 : (1 : Int32).toInt = 1 := by decide +kernel
  have l2 : (2 : Int32).toInt = 2 := by decide +kernel
  have l3 : (3 : Int32).toInt = 3 := by decide +kernel
  have l4 : (4 : Int32).toInt = 4 := by decide +kernel
  have l5 : (5 : Int32).toInt = 5 := by decide +kernel
  refine lv_iload_n hx hb dX9_isFull_0 rfl (lv_at hl 1 rfl) ?_
  refine lv_iconst (v := 1) hx hb dX9_isFull_1 (by decide +kernel) ?_
  refine lv_icmp_ne (tgt := 13) hx hb dX9_isFull_2 (by decide) (fun c_1 => ?_) (fun c_1 => ?_)
  · rw [← Int32.toInt_inj] at c_1
    refine lv_iload_n hx hb dX9_isFull_13 rfl (lv_at hl 1 rfl) ?_
    refine lv_iconst (v := 2) hx hb dX9_isFull_14 (by decide +kernel) ?_
    refine lv_icmp_ne (tgt := 26) hx hb dX9_isFull_15 (by decide) (fun c_2 => ?_) (fun c_2 => ?_)
    · rw [← Int32.toInt_inj] at c_2
      refine lv_iload_n hx hb dX9_isFull_26 rfl (lv_at hl 1 rfl) ?_
      refine lv_iconst (v := 4) hx hb dX9_isFull_27 (by decide +kernel) ?_
      refine lv_icmp_ne (tgt := 43) hx hb dX9_isFull_28 (by decide) (fun c_3 => ?_) (fun c_3 => ?_)
      · rw [← Int32.toInt_inj] at c_3
        refine lv_iconst (v := 0) hx hb dX9_isFull_43 (by decide +kernel) ?_
        have hP9 := tw_right hP
        have hD9 := tw_rightD hD
        exact W.zret (v := 0) hx hb hr (by decide +kernel) (gq_endI wt ⟨hT, hW, (by omega), (by omega), (by omega)⟩ hP9 hD9 hS) hS.2.2 dX9_isFull_44
      · rw [← Int32.toInt_inj] at c_3
        refine lv_aload_n hx hb dX9_isFull_31 rfl (lv_at hl 0 rfl) ?_
        refine tr_get (ci := 9) hx hb ht hown hK hT hP k_t (by decide) i_X9 rfl 3 (by decide) wd_191 rfl dX9_isFull_32 (fun v hv hf_4 => ?_)
        obtain ⟨n_5, rfl, lo_n_5, hi_n_5⟩ := hv
        refine lv_iconst (v := 3) hx hb dX9_isFull_35 (by decide +kernel) ?_
        refine lv_icmp_lt (tgt := 43) hx hb dX9_isFull_36 (by decide) (fun c_6 => ?_) (fun c_6 => ?_)
        · rw [Int32.lt_iff_toInt_lt] at c_6
          refine lv_iconst (v := 0) hx hb dX9_isFull_43 (by decide +kernel) ?_
          have hP9 := tw_right hP
          have hD9 := tw_rightD hD
          exact W.zret (v := 0) hx hb hr (by decide +kernel) (gq_endI wt ⟨hT, hW, (by omega), (by omega), (by omega)⟩ hP9 hD9 hS) hS.2.2 dX9_isFull_44
        · rw [Int32.lt_iff_toInt_lt] at c_6
          refine lv_iconst (v := 1) hx hb dX9_isFull_39 (by decide +kernel) ?_
          refine lv_goto (tgt := 44) hx hb dX9_isFull_40 (by decide) ?_
          have hP9 := tw_right hP
          have hD9 := tw_rightD hD
          exact W.zret (v := 1) hx hb hr (by decide +kernel) (gq_endI wt ⟨hT, hW, (by omega), (by omega), (by omega)⟩ hP9 hD9 hS) hS.2.2 dX9_isFull_44
    · rw [← Int32.toInt_inj] at c_2
      refine lv_aload_n hx hb dX9_isFull_18 rfl (lv_at hl 0 rfl) ?_
      refine tr_getK (ci := 9) hx hb ht hown hK hP i_X9 rfl 2 (by decide) wd_187 rfl hf_n2 dX9_isFull_19 ?_
      refine lv_iconst (v := 3) hx hb dX9_isFull_22 (by decide +kernel) ?_
      refine lv_icmp_ge (tgt := 39) hx hb dX9_isFull_23 (by decide) (fun c_7 => ?_) (fun c_7 => ?_)
      · rw [Int32.le_iff_toInt_le] at c_7
        refine lv_iconst (v := 1) hx hb dX9_isFull_39 (by decide +kernel) ?_
        refine lv_goto (tgt := 44) hx hb dX9_isFull_40 (by decide) ?_
        have hP9 := tw_right hP
        have hD9 := tw_rightD hD
        exact W.zret (v := 1) hx hb hr (by decide +kernel) (gq_endI wt ⟨hT, hW, (by omega), (by omega), (by omega)⟩ hP9 hD9 hS) hS.2.2 dX9_isFull_44
      · rw [Int32.le_iff_toInt_le] at c_7
        refine lv_iload_n hx hb dX9_isFull_26 rfl (lv_at hl 1 rfl) ?_
        refine lv_iconst (v := 4) hx hb dX9_isFull_27 (by decide +kernel) ?_
        refine lv_icmp_ne (tgt := 43) hx hb dX9_isFull_28 (by decide) (fun _ => ?_) (fun c0 => False.elim (by rw [← Int32.toInt_inj] at c0; omega))
        refine lv_iconst (v := 0) hx hb dX9_isFull_43 (by decide +kernel) ?_
        have hP9 := tw_right hP
        have hD9 := tw_rightD hD
        exact W.zret (v := 0) hx hb hr (by decide +kernel) (gq_endI wt ⟨hT, hW, (by omega), (by omega), (by omega)⟩ hP9 hD9 hS) hS.2.2 dX9_isFull_44
  · rw [← Int32.toInt_inj] at c_1
    refine lv_aload_n hx hb dX9_isFull_5 rfl (lv_at hl 0 rfl) ?_
    refine tr_get (ci := 9) hx hb ht hown hK hT hP k_t (by decide) i_X9 rfl 1 (by decide) wd_182 rfl dX9_isFull_6 (fun v hv hf_8 => ?_)
    obtain ⟨n_9, rfl, lo_n_9, hi_n_9⟩ := hv
    refine lv_iconst (v := 5) hx hb dX9_isFull_9 (by decide +kernel) ?_
    refine lv_icmp_ge (tgt := 39) hx hb dX9_isFull_10 (by decide) (fun c_10 => ?_) (fun c_10 => ?_)
    · rw [Int32.le_iff_toInt_le] at c_10
      refine lv_iconst (v := 1) hx hb dX9_isFull_39 (by decide +kernel) ?_
      refine lv_goto (tgt := 44) hx hb dX9_isFull_40 (by decide) ?_
      have hP9 := tw_right hP
      have hD9 := tw_rightD hD
      exact W.zret (v := 1) hx hb hr (by decide +kernel) (gq_endI wt ⟨hT, hW, (by omega), (by omega), (by omega)⟩ hP9 hD9 hS) hS.2.2 dX9_isFull_44
    · rw [Int32.le_iff_toInt_le] at c_10
      refine lv_iload_n hx hb dX9_isFull_13 rfl (lv_at hl 1 rfl) ?_
      refine lv_iconst (v := 2) hx hb dX9_isFull_14 (by decide +kernel) ?_
      refine lv_icmp_ne (tgt := 26) hx hb dX9_isFull_15 (by decide) (fun _ => ?_) (fun c0 => False.elim (by rw [← Int32.toInt_inj] at c0; omega))
      refine lv_iload_n hx hb dX9_isFull_26 rfl (lv_at hl 1 rfl) ?_
      refine lv_iconst (v := 4) hx hb dX9_isFull_27 (by decide +kernel) ?_
      refine lv_icmp_ne (tgt := 43) hx hb dX9_isFull_28 (by decide) (fun _ => ?_) (fun c0 => False.elim (by rw [← Int32.toInt_inj] at c0; omega))
      refine lv_iconst (v := 0) hx hb dX9_isFull_43 (by decide +kernel) ?_
      have hP9 := tw_right hP
      have hD9 := tw_rightD hD
      exact W.zret (v := 0) hx hb hr (by decide +kernel) (gq_endI wt ⟨hT, hW, (by omega), (by omega), (by omega)⟩ hP9 hD9 hS) hS.2.2 dX9_isFull_44
set_option maxHeartbeats 4000000 in
set_option maxRecDepth 100000 in
theorem d_readClause (l : Launch) (G : gg_T) (Γ : Nat → Nat) (sz : Nat) (wt : va_W) (hT : tk_ty G Γ wt) (K : Nat → Nat) (V : Nat → Nat) (t : Nat) (b : Int32) (tp : Nat) (bp : Nat) (n : Int32) (at_ : Int32) (w_ : Int32) (fl : Int32) (bf : Nat → Int32) (k_t : Γ t = 10) (xp1 : 0 ≤ n.toInt) (xp2 : n.toInt ≤ 400) (xp3 : 0 ≤ at_.toInt) (xp4 : 0 ≤ w_.toInt) (xp5 : at_.toInt + w_.toInt ≤ 400) : Met l yX9_readClause (ts_L yX9_readClause cX9_readClause 4 (some .boolean)) ({ frames := 5, cells := 0, slots := 0, locals := 110 }) (gx_P G K V ([(tp, .inr (8, [.ref bp, .int n, .int at_, .int w_, .int fl])), (bp, .inl (G.2.2 0, 400, .inl bf))] ++ wt) sz [.ref t, .ref tp, .int b]) (gc_I G (va_A ([(tp, .inr (8, [.ref bp, .int n, .int at_, .int w_, .int fl])), (bp, .inl (G.2.2 0, 400, .inl bf))] ++ wt) sz) (fun r (u : (Int32) × (Int32) × (Int32) × va_W) => match u with | (a1, w1, f1, wt1) => tk_ty G Γ wt1 ∧ tk_kp [900, 901, 902, 903] wt wt1 ∧ 0 ≤ a1.toInt ∧ 0 ≤ w1.toInt ∧ a1.toInt + w1.toInt ≤ 400 ∧ 0 ≤ r.toInt ∧ r.toInt ≤ 1) (fun (u : (Int32) × (Int32) × (Int32) × va_W) => match u with | (a1, w1, f1, wt1) => [(tp, .inr (8, [.ref bp, .int n, .int a1, .int w1, .int f1])), (bp, .inl (G.2.2 0, 400, .inl bf))] ++ wt1)) 0 0 (va_A ([(tp, .inr (8, [.ref bp, .int n, .int at_, .int w_, .int fl])), (bp, .inl (G.2.2 0, 400, .inl bf))] ++ wt) sz) := by
  refine Met.ofW (cc := cX9_readClause) (maxL := 4) (ret := (some .boolean)) (by decide) rfl ?_
  intro p e s m args below meth c s₁ B hml hv
  obtain ⟨rfl, hsz, hP, hK, hD0, hX⟩ := hv
  have hx := B.exec
  have hb := B.bytes
  have hr := B.returns
  have ht := ts_ht (atoms_spec (ws := ts_L yX9_readClause cX9_readClause 4 (some .boolean)) B.pre)
  have hown : s.vm.findClass RX9 = some m.cls := findClass_of_methodNamed B.named
  have hlocks := B.notSynchronized
  subst hsz
  have hD := hD0.self (sz := s.heap.size)
  generalize hAe : va_A ([(tp, .inr (8, [.ref bp, .int n, .int at_, .int w_, .int fl])), (bp, .inl (G.2.2 0, 400, .inl bf))] ++ wt) s.heap.size = A at hD hX ⊢
  have hA : ∀ q : Nat, s.heap.size ≤ q → A q := fun q h => by rw [← hAe]; exact Or.inr h
  clear hAe hD0
  have hS : va_S A s.heap s.heap [] := va_S.rf
  obtain ⟨w0, hw0⟩ : ∃ z, z = wt := ⟨_, rfl⟩
  have hW : tk_kp [900, 901, 902, 903] w0 wt := by rw [hw0]; exact tk_kp.rf
  rw [← hw0]
  clear hw0
  have hP : va_P (gg_D G) classes ([(tp, .inr (8, [.ref bp, .int n, .int at_, .int w_, .int fl])), (bp, .inl (G.2.2 0, 400, .inl bf))] ++ wt) s.heap := hP
  have hD : va_D A ([(tp, .inr (8, [.ref bp, .int n, .int at_, .int w_, .int fl])), (bp, .inl (G.2.2 0, 400, .inl bf))] ++ wt) := hD
  have hl := lv_entry ([.ref t, .ref tp, .int b]) (n := 4) (Nat.le_of_ble_eq_true rfl)
  rw [lg_entry_eq]
  generalize (lg_sl ([.ref t, .ref tp, .int b]) ++ List.replicate (4 - (lg_sl ([.ref t, .ref tp, .int b])).length) Slot.unset).toArray = ls at hl ⊢
  have hl : lv_has ls 4 [(0, .ref t), (1, .ref tp), (2, .int b)] := hl
  have lm1 : ((-1) : Int32).toInt = -1 := by decide +kernel
  have l0 : (0 : Int32).toInt = 0 := by decide +kernel
  have l1 : (1 : Int32).toInt = 1 := by decide +kernel
  have l2 : (2 : Int32).toInt = 2 := by decide +kernel
  have l3 : (3 : Int32).toInt = 3 := by decide +kernel
  have l4 : (4 : Int32).toInt = 4 := by decide +kernel
  have l40 : (40 : Int32).toInt = 40 := by decide +kernel
  have l300 : (300 : Int32).toInt = 300 := by decide +kernel
  refine lv_aload_n hx hb dX9_readClause_0 rfl (lv_at hl 1 rfl) ?_
  refine va_ldcS hx hb hown (hX.2.2.2.1) dX9_readClause_1 ?_
  have hP : va_P (gg_D G) classes ([] ++ ([(tp, .inr (8, [.ref bp, .int n, .int at_, .int w_, .int fl])), (bp, .inl (G.2.2 0, 400, .inl bf))] ++ wt)) s.heap := hP
  have hD : va_D A ([] ++ ([(tp, .inr (8, [.ref bp, .int n, .int at_, .int w_, .int fl])), (bp, .inl (G.2.2 0, 400, .inl bf))] ++ wt)) := hD
  refine gt_callI (wr := []) (va_runV (As := [.ref (K 0)]) (rest := []) ⟨hx, hb, hml, hown, ht⟩ (d_which0 l G Γ s.heap.size wt hT K V tp bp n at_ w_ fl bf (by first | assumption | omega) (by first | assumption | omega) (by first | assumption | omega) (by first | assumption | omega) (by first | assumption | omega)) (cwV 1 ht (ts_gV wd_587 wd_588 wd_589 wd_123 wd_590) rfl rfl rfl (by decide +kernel) ⟨Nat.le_of_ble_eq_true rfl, Nat.le_of_ble_eq_true rfl⟩) (gx_preV (ci := 8) (q0 := 0) hK (tw_right hP) (tw_rightD hD) hX hS (tw_free hD hS hA) rfl rfl) rfl rfl hl.1 rfl (lv_room (Nat.le_of_ble_eq_true rfl)) dX9_readClause_3 ⟨Nat.le_of_ble_eq_true rfl, Nat.le_of_ble_eq_true rfl⟩) hP hD hS hA (fun r_1 wt H locs hw hP hD hS => ?_)
  obtain ⟨hT, hkp, lo_r_1, hi_r_1⟩ := hw
  have hW := hW.call (show ∀ x ∈ [], x ∈ [900, 901, 902, 903] by decide) hkp
  have hP : va_P (gg_D G) classes ([(tp, .inr (8, [.ref bp, .int n, .int at_, .int w_, .int fl])), (bp, .inl (G.2.2 0, 400, .inl bf))] ++ wt) H := hP
  have hD : va_D A ([(tp, .inr (8, [.ref bp, .int n, .int at_, .int w_, .int fl])), (bp, .inl (G.2.2 0, 400, .inl bf))] ++ wt) := hD
  refine lv_istore_n (lv' := [(3, .int r_1), (0, .ref t), (1, .ref tp), (2, .int b)]) hx hb dX9_readClause_6 rfl hl (by decide) rfl (fun ls hl => ?_)
  refine lv_iload_n hx hb dX9_readClause_7 rfl (lv_at hl 0 rfl) ?_
  refine lv_iconst (v := (-1)) hx hb dX9_readClause_8 (by decide +kernel) ?_
  refine lv_icmp_ne (tgt := 22) hx hb dX9_readClause_9 (by decide) (fun c_2 => ?_) (fun c_2 => ?_)
  · rw [← Int32.toInt_inj] at c_2
    refine lv_iload_n hx hb dX9_readClause_22 rfl (lv_at hl 3 rfl) ?_
    refine lv_bipush (v := 40) hx hb dX9_readClause_23 (by decide +kernel) ?_
    refine lv_icmp_ge (tgt := 57) hx hb dX9_readClause_25 (by decide) (fun c_3 => ?_) (fun c_3 => ?_)
    · rw [Int32.le_iff_toInt_le] at c_3
      refine lv_aload_n hx hb dX9_readClause_57 rfl (lv_at hl 2 rfl) ?_
      refine lv_aload_n hx hb dX9_readClause_58 rfl (lv_at hl 2 rfl) ?_
      have hP : va_P (gg_D G) classes ([] ++ ([(tp, .inr (8, [.ref bp, .int n, .int at_, .int w_, .int fl])), (bp, .inl (G.2.2 0, 400, .inl bf))] ++ wt)) H := hP
      have hD : va_D A ([] ++ ([(tp, .inr (8, [.ref bp, .int n, .int at_, .int w_, .int fl])), (bp, .inl (G.2.2 0, 400, .inl bf))] ++ wt)) := hD
      refine gt_callI (wr := []) (va_runV (As := []) (rest := [.ref tp]) ⟨hx, hb, hml, hown, ht⟩ (d_place l G Γ H.size wt hT tp bp n at_ w_ fl bf (by first | assumption | omega) (by first | assumption | omega) (by first | assumption | omega) (by first | assumption | omega) (by first | assumption | omega)) (cwV 0 ht (ts_gV wd_639 wd_640 wd_641 wd_123 wd_642) rfl rfl rfl (by decide +kernel) ⟨Nat.le_of_ble_eq_true rfl, Nat.le_of_ble_eq_true rfl⟩) (gc_preV (ci := 8) (q0 := 0) hK (tw_right hP) (tw_rightD hD) rfl rfl) rfl rfl hl.1 rfl (lv_room (Nat.le_of_ble_eq_true rfl)) dX9_readClause_59 ⟨Nat.le_of_ble_eq_true rfl, Nat.le_of_ble_eq_true rfl⟩) hP hD hS hA (fun r_4 wt H locs hw hP hD hS => ?_)
      obtain ⟨hT, hkp, lo_r_4, hi_r_4⟩ := hw
      have hW := hW.call (show ∀ x ∈ [], x ∈ [900, 901, 902, 903] by decide) hkp
      have hP : va_P (gg_D G) classes ([(tp, .inr (8, [.ref bp, .int n, .int at_, .int w_, .int fl])), (bp, .inl (G.2.2 0, 400, .inl bf))] ++ wt) H := hP
      have hD : va_D A ([(tp, .inr (8, [.ref bp, .int n, .int at_, .int w_, .int fl])), (bp, .inl (G.2.2 0, 400, .inl bf))] ++ wt) := hD
      refine lv_iconst (v := 4) hx hb dX9_readClause_62 (by decide +kernel) ?_
      have hP : va_P (gg_D G) classes ([] ++ ([(tp, .inr (8, [.ref bp, .int n, .int at_, .int w_, .int fl])), (bp, .inl (G.2.2 0, 400, .inl bf))] ++ wt)) H := hP
      have hD : va_D A ([] ++ ([(tp, .inr (8, [.ref bp, .int n, .int at_, .int w_, .int fl])), (bp, .inl (G.2.2 0, 400, .inl bf))] ++ wt)) := hD
      refine gt_callI (wr := []) (va_runV (As := [.int r_4, .int 4]) (rest := []) ⟨hx, hb, hml, hown, ht⟩ (d_refuse l G Γ H.size wt hT r_4 4 tp bp n at_ w_ fl bf (by first | assumption | omega) (by first | assumption | omega) (by first | assumption | omega) (by first | assumption | omega) (by first | assumption | omega)) (cwV 2 ht (ts_gV wd_643 wd_644 wd_645 wd_123 wd_646) rfl rfl rfl (by decide +kernel) ⟨Nat.le_of_ble_eq_true rfl, Nat.le_of_ble_eq_true rfl⟩) (gc_preV (ci := 8) (q0 := 0) hK (tw_right hP) (tw_rightD hD) rfl rfl) rfl rfl hl.1 rfl (lv_room (Nat.le_of_ble_eq_true rfl)) dX9_readClause_63 ⟨Nat.le_of_ble_eq_true rfl, Nat.le_of_ble_eq_true rfl⟩) hP hD hS hA (fun r_5 u H locs hw hP hD hS => ?_)
      obtain ⟨y_6, y_7, y_8, wt⟩ := u
      obtain ⟨hT, hkp, w_9, w_10, w_11, lo_r_5, hi_r_5⟩ := hw
      have hW := hW.call (show ∀ x ∈ [], x ∈ [900, 901, 902, 903] by decide) hkp
      have hP : va_P (gg_D G) classes ([(tp, .inr (8, [.ref bp, .int n, .int y_6, .int y_7, .int y_8])), (bp, .inl (G.2.2 0, 400, .inl bf))] ++ wt) H := hP
      have hD : va_D A ([(tp, .inr (8, [.ref bp, .int n, .int y_6, .int y_7, .int y_8])), (bp, .inl (G.2.2 0, 400, .inl bf))] ++ wt) := hD
      have z_r_5 : r_5 = 0 := by rw [← Int32.toInt_inj]; omega
      subst z_r_5
      have hP9 : va_P (gg_D G) classes ([(tp, .inr (8, [.ref bp, .int n, .int y_6, .int y_7, .int y_8])), (bp, .inl (G.2.2 0, 400, .inl bf))] ++ wt) _ := hP
      have hD9 : va_D A ([(tp, .inr (8, [.ref bp, .int n, .int y_6, .int y_7, .int y_8])), (bp, .inl (G.2.2 0, 400, .inl bf))] ++ wt) := hD
      exact W.zret (v := 0) hx hb hr (by decide +kernel) (gq_endI (y_6, y_7, y_8, wt) ⟨hT, hW, (by omega), (by omega), (by omega), (by omega), (by omega)⟩ hP9 hD9 hS) hS.2.2 dX9_readClause_66
    · rw [Int32.le_iff_toInt_le] at c_3
      refine lv_iload_n hx hb dX9_readClause_28 rfl (lv_at hl 0 rfl) ?_
      refine lv_if_ne (tgt := 36) hx hb dX9_readClause_29 (by decide) (fun c_12 => ?_) (fun c_12 => ?_)
      · rw [← Int32.toInt_inj] at c_12
        refine lv_iconst (v := 0) hx hb dX9_readClause_36 (by decide +kernel) ?_
        refine lv_iload_n hx hb dX9_readClause_37 rfl (lv_at hl 3 rfl) ?_
        refine lv_if_ne (tgt := 45) hx hb dX9_readClause_38 (by decide) (fun c_13 => ?_) (fun c_13 => ?_)
        · rw [← Int32.toInt_inj] at c_13
          refine lv_iconst (v := 0) hx hb dX9_readClause_45 (by decide +kernel) ?_
          refine lv_icmp_ne (tgt := 57) hx hb dX9_readClause_46 (by decide) (fun c0 => False.elim (by rw [← Int32.toInt_inj] at c0; omega)) (fun _ => ?_)
          refine lv_aload_n hx hb dX9_readClause_49 rfl (lv_at hl 1 rfl) ?_
          refine lv_iload_n hx hb dX9_readClause_50 rfl (lv_at hl 0 rfl) ?_
          obtain ⟨v, hv, hf_14⟩ := tk_peek hT k_t (by decide) (show classes[9]? = some _ from rfl) 2 (by decide)
          obtain ⟨n_15, rfl, lo_n_15, hi_n_15⟩ := hv
          refine gt_callI (wr := [(tp, .inr (8, [.ref bp, .int n, .int at_, .int w_, .int fl])), (bp, .inl (G.2.2 0, 400, .inl bf))]) (va_runV (As := [.int r_1]) (rest := []) ⟨hx, hb, hml, hown, ht⟩ (d_isFull l G Γ H.size wt hT t r_1 n_15 k_t (by omega) (by omega) hf_14) (cwV 1 ht (ts_gV wd_647 wd_649 wd_2 wd_124 wd_650) rfl rfl rfl (by decide +kernel) ⟨Nat.le_of_ble_eq_true rfl, Nat.le_of_ble_eq_true rfl⟩) (gt_preW (ci := 9) hK hT (tw_right hP) (tw_rightD hD) k_t (by decide) rfl) rfl rfl hl.1 rfl (lv_room (Nat.le_of_ble_eq_true rfl)) dX9_readClause_51 ⟨Nat.le_of_ble_eq_true rfl, Nat.le_of_ble_eq_true rfl⟩) hP hD hS hA (fun r_16 wt H locs hw hP hD hS => ?_)
          obtain ⟨hT, hkp, lo_r_16, hi_r_16, rp_r_16⟩ := hw
          have hW := hW.call (show ∀ x ∈ [], x ∈ [900, 901, 902, 903] by decide) hkp
          have hf_14 := hkp _ _ _ _ (by decide) (by decide) hf_14
          have hP : va_P (gg_D G) classes ([(tp, .inr (8, [.ref bp, .int n, .int at_, .int w_, .int fl])), (bp, .inl (G.2.2 0, 400, .inl bf))] ++ wt) H := hP
          have hD : va_D A ([(tp, .inr (8, [.ref bp, .int n, .int at_, .int w_, .int fl])), (bp, .inl (G.2.2 0, 400, .inl bf))] ++ wt) := hD
          refine lv_if_eq (tgt := 67) hx hb dX9_readClause_54 (by decide) (fun c_17 => ?_) (fun c_17 => ?_)
          · rw [← Int32.toInt_inj] at c_17
            refine lv_aload_n hx hb dX9_readClause_67 rfl (lv_at hl 2 rfl) ?_
            have hP : va_P (gg_D G) classes ([] ++ ([(tp, .inr (8, [.ref bp, .int n, .int at_, .int w_, .int fl])), (bp, .inl (G.2.2 0, 400, .inl bf))] ++ wt)) H := hP
            have hD : va_D A ([] ++ ([(tp, .inr (8, [.ref bp, .int n, .int at_, .int w_, .int fl])), (bp, .inl (G.2.2 0, 400, .inl bf))] ++ wt)) := hD
            refine gt_callV (wr := []) (va_runV (As := []) (rest := []) ⟨hx, hb, hml, hown, ht⟩ (d_passWord l G Γ H.size wt hT tp bp n at_ w_ fl bf (by first | assumption | omega) (by first | assumption | omega) (by first | assumption | omega) (by first | assumption | omega) (by first | assumption | omega)) (cwV 0 ht (ts_gV wd_651 wd_652 wd_653 wd_123 wd_654) rfl rfl rfl (by decide +kernel) ⟨Nat.le_of_ble_eq_true rfl, Nat.le_of_ble_eq_true rfl⟩) (gc_preV (ci := 8) (q0 := 0) hK (tw_right hP) (tw_rightD hD) rfl rfl) rfl rfl hl.1 rfl (lv_room (Nat.le_of_ble_eq_true rfl)) dX9_readClause_68 ⟨Nat.le_of_ble_eq_true rfl, Nat.le_of_ble_eq_true rfl⟩) hP hD hS hA (fun u H locs hw hP hD hS => ?_)
            obtain ⟨y_18, y_19, y_20, wt⟩ := u
            obtain ⟨hT, hkp, w_21, w_22, w_23⟩ := hw
            have hW := hW.call (show ∀ x ∈ [], x ∈ [900, 901, 902, 903] by decide) hkp
            have hf_14 := hkp _ _ _ _ (by decide) (by decide) hf_14
            have hP : va_P (gg_D G) classes ([(tp, .inr (8, [.ref bp, .int n, .int y_18, .int y_19, .int y_20])), (bp, .inl (G.2.2 0, 400, .inl bf))] ++ wt) H := hP
            have hD : va_D A ([(tp, .inr (8, [.ref bp, .int n, .int y_18, .int y_19, .int y_20])), (bp, .inl (G.2.2 0, 400, .inl bf))] ++ wt) := hD
            refine lv_iload_n hx hb dX9_readClause_71 rfl (lv_at hl 0 rfl) ?_
            by_cases c_24 : r_1 = 1
            · refine lv_tableIn (x := r_1) (off := 58) (tgt := 130) hx hb dX9_readClause_72 (by rw [c_24]; decide +kernel) (by rw [c_24]; decide +kernel) (by rw [c_24]; decide +kernel) (by decide) ?_
              rw [← Int32.toInt_inj] at c_24
              refine lv_aload_n hx hb dX9_readClause_130 rfl (lv_at hl 1 rfl) ?_
              refine lv_aload_n hx hb dX9_readClause_131 rfl (lv_at hl 2 rfl) ?_
              have hP : va_P (gg_D G) classes ([] ++ ([(tp, .inr (8, [.ref bp, .int n, .int y_18, .int y_19, .int y_20])), (bp, .inl (G.2.2 0, 400, .inl bf))] ++ wt)) H := hP
              have hD : va_D A ([] ++ ([(tp, .inr (8, [.ref bp, .int n, .int y_18, .int y_19, .int y_20])), (bp, .inl (G.2.2 0, 400, .inl bf))] ++ wt)) := hD
              refine gt_callI (wr := []) (va_runV (As := [.ref tp]) (rest := []) ⟨hx, hb, hml, hown, ht⟩ (d_readBidder l G Γ H.size wt hT t tp bp n y_18 y_19 y_20 bf k_t (by first | assumption | omega) (by first | assumption | omega) (by first | assumption | omega) (by first | assumption | omega) (by first | assumption | omega)) (cwV 1 ht (ts_gV wd_660 wd_662 wd_3 wd_124 wd_663) rfl rfl rfl (by decide +kernel) ⟨Nat.le_of_ble_eq_true rfl, Nat.le_of_ble_eq_true rfl⟩) (gt_preV (ci := 9) hK hT (tw_right hP) (tw_rightD hD) k_t (by decide) rfl) rfl rfl hl.1 rfl (lv_room (Nat.le_of_ble_eq_true rfl)) dX9_readClause_132 ⟨Nat.le_of_ble_eq_true rfl, Nat.le_of_ble_eq_true rfl⟩) hP hD hS hA (fun r_25 u H locs hw hP hD hS => ?_)
              obtain ⟨y_26, y_27, y_28, wt⟩ := u
              obtain ⟨hT, hkp, w_29, w_30, w_31, lo_r_25, hi_r_25⟩ := hw
              have hW := hW.call (show ∀ x ∈ [901], x ∈ [900, 901, 902, 903] by decide) hkp
              have hf_14 := hkp _ _ _ _ (by decide) (by decide) hf_14
              have hP : va_P (gg_D G) classes ([(tp, .inr (8, [.ref bp, .int n, .int y_26, .int y_27, .int y_28])), (bp, .inl (G.2.2 0, 400, .inl bf))] ++ wt) H := hP
              have hD : va_D A ([(tp, .inr (8, [.ref bp, .int n, .int y_26, .int y_27, .int y_28])), (bp, .inl (G.2.2 0, 400, .inl bf))] ++ wt) := hD
              have hP9 : va_P (gg_D G) classes ([(tp, .inr (8, [.ref bp, .int n, .int y_26, .int y_27, .int y_28])), (bp, .inl (G.2.2 0, 400, .inl bf))] ++ wt) _ := hP
              have hD9 : va_D A ([(tp, .inr (8, [.ref bp, .int n, .int y_26, .int y_27, .int y_28])), (bp, .inl (G.2.2 0, 400, .inl bf))] ++ wt) := hD
              exact W.zret (v := r_25) hx hb hr (ia_bool (by omega) (by omega)) (gq_endI (y_26, y_27, y_28, wt) ⟨hT, hW, (by omega), (by omega), (by omega), (by omega), (by omega)⟩ hP9 hD9 hS) hS.2.2 dX9_readClause_135
            by_cases c_32 : r_1 = 2
            · refine lv_tableIn (x := r_1) (off := 64) (tgt := 136) hx hb dX9_readClause_72 (by rw [c_32]; decide +kernel) (by rw [c_32]; decide +kernel) (by rw [c_32]; decide +kernel) (by decide) ?_
              rw [← Int32.toInt_inj] at c_32
              refine lv_aload_n hx hb dX9_readClause_136 rfl (lv_at hl 1 rfl) ?_
              refine lv_dup hx hb dX9_readClause_137 rfl ?_
              refine tr_getK (ci := 9) hx hb ht hown hK hP i_X9 rfl 2 (by decide) wd_187 rfl hf_14 dX9_readClause_138 ?_
              refine lv_iconst (v := 1) hx hb dX9_readClause_141 (by decide +kernel) ?_
              obtain ⟨t_33, et_33⟩ : ∃ zz_ : Int32, n_15 + 1 = zz_ := ⟨_, rfl⟩
              refine gq_iadd hx hb t_33 et_33 dX9_readClause_142 ?_
              have ft_33 := ia_add et_33 (by omega) (by omega)
              refine tr_put (ci := 9) hx hb ht hown hK hT hP hD hS k_t (by decide) i_X9 tyX9 tyX9_ok nmX9 rfl 2 (by decide) wd_187 rfl rfl rfl rfl ⟨_, rfl, by omega, by omega⟩ dX9_readClause_143 (fun H locs wt hT hfl hfn hP hD hS => ?_)
              have hW := hW.obj (show 9 * 100 + 2 ∈ [900, 901, 902, 903] by decide) hfl
              have hf_34 := hfn
              refine lv_iconst (v := 1) hx hb dX9_readClause_146 (by decide +kernel) ?_
              have hP9 : va_P (gg_D G) classes ([(tp, .inr (8, [.ref bp, .int n, .int y_18, .int y_19, .int y_20])), (bp, .inl (G.2.2 0, 400, .inl bf))] ++ wt) _ := hP
              have hD9 : va_D A ([(tp, .inr (8, [.ref bp, .int n, .int y_18, .int y_19, .int y_20])), (bp, .inl (G.2.2 0, 400, .inl bf))] ++ wt) := hD
              exact W.zret (v := 1) hx hb hr (by decide +kernel) (gq_endI (y_18, y_19, y_20, wt) ⟨hT, hW, (by omega), (by omega), (by omega), (by omega), (by omega)⟩ hP9 hD9 hS) hS.2.2 dX9_readClause_147
            by_cases c_35 : r_1 = 3
            · refine lv_tableIn (x := r_1) (off := 76) (tgt := 148) hx hb dX9_readClause_72 (by rw [c_35]; decide +kernel) (by rw [c_35]; decide +kernel) (by rw [c_35]; decide +kernel) (by decide) ?_
              rw [← Int32.toInt_inj] at c_35
              refine lv_aload_n hx hb dX9_readClause_148 rfl (lv_at hl 1 rfl) ?_
              refine lv_aload_n hx hb dX9_readClause_149 rfl (lv_at hl 2 rfl) ?_
              have hP : va_P (gg_D G) classes ([] ++ ([(tp, .inr (8, [.ref bp, .int n, .int y_18, .int y_19, .int y_20])), (bp, .inl (G.2.2 0, 400, .inl bf))] ++ wt)) H := hP
              have hD : va_D A ([] ++ ([(tp, .inr (8, [.ref bp, .int n, .int y_18, .int y_19, .int y_20])), (bp, .inl (G.2.2 0, 400, .inl bf))] ++ wt)) := hD
              refine gt_callI (wr := []) (va_runV (As := [.ref tp]) (rest := []) ⟨hx, hb, hml, hown, ht⟩ (d_readWorth l G Γ H.size wt hT t tp bp n y_18 y_19 y_20 bf k_t (by first | assumption | omega) (by first | assumption | omega) (by first | assumption | omega) (by first | assumption | omega) (by first | assumption | omega)) (cwV 1 ht (ts_gV wd_664 wd_666 wd_4 wd_124 wd_667) rfl rfl rfl (by decide +kernel) ⟨Nat.le_of_ble_eq_true rfl, Nat.le_of_ble_eq_true rfl⟩) (gt_preV (ci := 9) hK hT (tw_right hP) (tw_rightD hD) k_t (by decide) rfl) rfl rfl hl.1 rfl (lv_room (Nat.le_of_ble_eq_true rfl)) dX9_readClause_150 ⟨Nat.le_of_ble_eq_true rfl, Nat.le_of_ble_eq_true rfl⟩) hP hD hS hA (fun r_36 u H locs hw hP hD hS => ?_)
              obtain ⟨y_37, y_38, y_39, wt⟩ := u
              obtain ⟨hT, hkp, w_40, w_41, w_42, lo_r_36, hi_r_36⟩ := hw
              have hW := hW.call (show ∀ x ∈ [], x ∈ [900, 901, 902, 903] by decide) hkp
              have hf_14 := hkp _ _ _ _ (by decide) (by decide) hf_14
              have hP : va_P (gg_D G) classes ([(tp, .inr (8, [.ref bp, .int n, .int y_37, .int y_38, .int y_39])), (bp, .inl (G.2.2 0, 400, .inl bf))] ++ wt) H := hP
              have hD : va_D A ([(tp, .inr (8, [.ref bp, .int n, .int y_37, .int y_38, .int y_39])), (bp, .inl (G.2.2 0, 400, .inl bf))] ++ wt) := hD
              have hP9 : va_P (gg_D G) classes ([(tp, .inr (8, [.ref bp, .int n, .int y_37, .int y_38, .int y_39])), (bp, .inl (G.2.2 0, 400, .inl bf))] ++ wt) _ := hP
              have hD9 : va_D A ([(tp, .inr (8, [.ref bp, .int n, .int y_37, .int y_38, .int y_39])), (bp, .inl (G.2.2 0, 400, .inl bf))] ++ wt) := hD
              exact W.zret (v := r_36) hx hb hr (ia_bool (by omega) (by omega)) (gq_endI (y_37, y_38, y_39, wt) ⟨hT, hW, (by omega), (by omega), (by omega), (by omega), (by omega)⟩ hP9 hD9 hS) hS.2.2 dX9_readClause_153
            rw [← Int32.toInt_inj] at c_24 c_32 c_35
            refine lv_tableOut (x := r_1) (tgt := 154) hx hb dX9_readClause_72 (by omega) (by decide) ?_
            refine lv_aload_n hx hb dX9_readClause_154 rfl (lv_at hl 1 rfl) ?_
            refine lv_aload_n hx hb dX9_readClause_155 rfl (lv_at hl 2 rfl) ?_
            have hP : va_P (gg_D G) classes ([] ++ ([(tp, .inr (8, [.ref bp, .int n, .int y_18, .int y_19, .int y_20])), (bp, .inl (G.2.2 0, 400, .inl bf))] ++ wt)) H := hP
            have hD : va_D A ([] ++ ([(tp, .inr (8, [.ref bp, .int n, .int y_18, .int y_19, .int y_20])), (bp, .inl (G.2.2 0, 400, .inl bf))] ++ wt)) := hD
            refine gt_callI (wr := []) (va_runV (As := [.ref tp]) (rest := []) ⟨hx, hb, hml, hown, ht⟩ (d_readTrick l G Γ H.size wt hT t tp bp n y_18 y_19 y_20 bf k_t (by first | assumption | omega) (by first | assumption | omega) (by first | assumption | omega) (by first | assumption | omega) (by first | assumption | omega)) (cwV 1 ht (ts_gV wd_668 wd_670 wd_5 wd_124 wd_671) rfl rfl rfl (by decide +kernel) ⟨Nat.le_of_ble_eq_true rfl, Nat.le_of_ble_eq_true rfl⟩) (gt_preV (ci := 9) hK hT (tw_right hP) (tw_rightD hD) k_t (by decide) rfl) rfl rfl hl.1 rfl (lv_room (Nat.le_of_ble_eq_true rfl)) dX9_readClause_156 ⟨Nat.le_of_ble_eq_true rfl, Nat.le_of_ble_eq_true rfl⟩) hP hD hS hA (fun r_43 u H locs hw hP hD hS => ?_)
            obtain ⟨y_44, y_45, y_46, wt⟩ := u
            obtain ⟨hT, hkp, w_47, w_48, w_49, lo_r_43, hi_r_43⟩ := hw
            have hW := hW.call (show ∀ x ∈ [903], x ∈ [900, 901, 902, 903] by decide) hkp
            have hf_14 := hkp _ _ _ _ (by decide) (by decide) hf_14
            have hP : va_P (gg_D G) classes ([(tp, .inr (8, [.ref bp, .int n, .int y_44, .int y_45, .int y_46])), (bp, .inl (G.2.2 0, 400, .inl bf))] ++ wt) H := hP
            have hD : va_D A ([(tp, .inr (8, [.ref bp, .int n, .int y_44, .int y_45, .int y_46])), (bp, .inl (G.2.2 0, 400, .inl bf))] ++ wt) := hD
            have hP9 : va_P (gg_D G) classes ([(tp, .inr (8, [.ref bp, .int n, .int y_44, .int y_45, .int y_46])), (bp, .inl (G.2.2 0, 400, .inl bf))] ++ wt) _ := hP
            have hD9 : va_D A ([(tp, .inr (8, [.ref bp, .int n, .int y_44, .int y_45, .int y_46])), (bp, .inl (G.2.2 0, 400, .inl bf))] ++ wt) := hD
            exact W.zret (v := r_43) hx hb hr (ia_bool (by omega) (by omega)) (gq_endI (y_44, y_45, y_46, wt) ⟨hT, hW, (by omega), (by omega), (by omega), (by omega), (by omega)⟩ hP9 hD9 hS) hS.2.2 dX9_readClause_159
          · rw [← Int32.toInt_inj] at c_17
            refine lv_aload_n hx hb dX9_readClause_57 rfl (lv_at hl 2 rfl) ?_
            refine lv_aload_n hx hb dX9_readClause_58 rfl (lv_at hl 2 rfl) ?_
            have hP : va_P (gg_D G) classes ([] ++ ([(tp, .inr (8, [.ref bp, .int n, .int at_, .int w_, .int fl])), (bp, .inl (G.2.2 0, 400, .inl bf))] ++ wt)) H := hP
            have hD : va_D A ([] ++ ([(tp, .inr (8, [.ref bp, .int n, .int at_, .int w_, .int fl])), (bp, .inl (G.2.2 0, 400, .inl bf))] ++ wt)) := hD
            refine gt_callI (wr := []) (va_runV (As := []) (rest := [.ref tp]) ⟨hx, hb, hml, hown, ht⟩ (d_place l G Γ H.size wt hT tp bp n at_ w_ fl bf (by first | assumption | omega) (by first | assumption | omega) (by first | assumption | omega) (by first | assumption | omega) (by first | assumption | omega)) (cwV 0 ht (ts_gV wd_639 wd_640 wd_641 wd_123 wd_642) rfl rfl rfl (by decide +kernel) ⟨Nat.le_of_ble_eq_true rfl, Nat.le_of_ble_eq_true rfl⟩) (gc_preV (ci := 8) (q0 := 0) hK (tw_right hP) (tw_rightD hD) rfl rfl) rfl rfl hl.1 rfl (lv_room (Nat.le_of_ble_eq_true rfl)) dX9_readClause_59 ⟨Nat.le_of_ble_eq_true rfl, Nat.le_of_ble_eq_true rfl⟩) hP hD hS hA (fun r_50 wt H locs hw hP hD hS => ?_)
            obtain ⟨hT, hkp, lo_r_50, hi_r_50⟩ := hw
            have hW := hW.call (show ∀ x ∈ [], x ∈ [900, 901, 902, 903] by decide) hkp
            have hf_14 := hkp _ _ _ _ (by decide) (by decide) hf_14
            have hP : va_P (gg_D G) classes ([(tp, .inr (8, [.ref bp, .int n, .int at_, .int w_, .int fl])), (bp, .inl (G.2.2 0, 400, .inl bf))] ++ wt) H := hP
            have hD : va_D A ([(tp, .inr (8, [.ref bp, .int n, .int at_, .int w_, .int fl])), (bp, .inl (G.2.2 0, 400, .inl bf))] ++ wt) := hD
            refine lv_iconst (v := 4) hx hb dX9_readClause_62 (by decide +kernel) ?_
            have hP : va_P (gg_D G) classes ([] ++ ([(tp, .inr (8, [.ref bp, .int n, .int at_, .int w_, .int fl])), (bp, .inl (G.2.2 0, 400, .inl bf))] ++ wt)) H := hP
            have hD : va_D A ([] ++ ([(tp, .inr (8, [.ref bp, .int n, .int at_, .int w_, .int fl])), (bp, .inl (G.2.2 0, 400, .inl bf))] ++ wt)) := hD
            refine gt_callI (wr := []) (va_runV (As := [.int r_50, .int 4]) (rest := []) ⟨hx, hb, hml, hown, ht⟩ (d_refuse l G Γ H.size wt hT r_50 4 tp bp n at_ w_ fl bf (by first | assumption | omega) (by first | assumption | omega) (by first | assumption | omega) (by first | assumption | omega) (by first | assumption | omega)) (cwV 2 ht (ts_gV wd_643 wd_644 wd_645 wd_123 wd_646) rfl rfl rfl (by decide +kernel) ⟨Nat.le_of_ble_eq_true rfl, Nat.le_of_ble_eq_true rfl⟩) (gc_preV (ci := 8) (q0 := 0) hK (tw_right hP) (tw_rightD hD) rfl rfl) rfl rfl hl.1 rfl (lv_room (Nat.le_of_ble_eq_true rfl)) dX9_readClause_63 ⟨Nat.le_of_ble_eq_true rfl, Nat.le_of_ble_eq_true rfl⟩) hP hD hS hA (fun r_51 u H locs hw hP hD hS => ?_)
            obtain ⟨y_52, y_53, y_54, wt⟩ := u
            obtain ⟨hT, hkp, w_55, w_56, w_57, lo_r_51, hi_r_51⟩ := hw
            have hW := hW.call (show ∀ x ∈ [], x ∈ [900, 901, 902, 903] by decide) hkp
            have hf_14 := hkp _ _ _ _ (by decide) (by decide) hf_14
            have hP : va_P (gg_D G) classes ([(tp, .inr (8, [.ref bp, .int n, .int y_52, .int y_53, .int y_54])), (bp, .inl (G.2.2 0, 400, .inl bf))] ++ wt) H := hP
            have hD : va_D A ([(tp, .inr (8, [.ref bp, .int n, .int y_52, .int y_53, .int y_54])), (bp, .inl (G.2.2 0, 400, .inl bf))] ++ wt) := hD
            have z_r_51 : r_51 = 0 := by rw [← Int32.toInt_inj]; omega
            subst z_r_51
            have hP9 : va_P (gg_D G) classes ([(tp, .inr (8, [.ref bp, .int n, .int y_52, .int y_53, .int y_54])), (bp, .inl (G.2.2 0, 400, .inl bf))] ++ wt) _ := hP
            have hD9 : va_D A ([(tp, .inr (8, [.ref bp, .int n, .int y_52, .int y_53, .int y_54])), (bp, .inl (G.2.2 0, 400, .inl bf))] ++ wt) := hD
            exact W.zret (v := 0) hx hb hr (by decide +kernel) (gq_endI (y_52, y_53, y_54, wt) ⟨hT, hW, (by omega), (by omega), (by omega), (by omega), (by omega)⟩ hP9 hD9 hS) hS.2.2 dX9_readClause_66
        · rw [← Int32.toInt_inj] at c_13
          refine lv_iconst (v := 1) hx hb dX9_readClause_41 (by decide +kernel) ?_
          refine lv_goto (tgt := 46) hx hb dX9_readClause_42 (by decide) ?_
          refine lv_icmp_ne (tgt := 57) hx hb dX9_readClause_46 (by decide) (fun _ => ?_) (fun c0 => False.elim (by rw [← Int32.toInt_inj] at c0; omega))
          refine lv_aload_n hx hb dX9_readClause_57 rfl (lv_at hl 2 rfl) ?_
          refine lv_aload_n hx hb dX9_readClause_58 rfl (lv_at hl 2 rfl) ?_
          have hP : va_P (gg_D G) classes ([] ++ ([(tp, .inr (8, [.ref bp, .int n, .int at_, .int w_, .int fl])), (bp, .inl (G.2.2 0, 400, .inl bf))] ++ wt)) H := hP
          have hD : va_D A ([] ++ ([(tp, .inr (8, [.ref bp, .int n, .int at_, .int w_, .int fl])), (bp, .inl (G.2.2 0, 400, .inl bf))] ++ wt)) := hD
          refine gt_callI (wr := []) (va_runV (As := []) (rest := [.ref tp]) ⟨hx, hb, hml, hown, ht⟩ (d_place l G Γ H.size wt hT tp bp n at_ w_ fl bf (by first | assumption | omega) (by first | assumption | omega) (by first | assumption | omega) (by first | assumption | omega) (by first | assumption | omega)) (cwV 0 ht (ts_gV wd_639 wd_640 wd_641 wd_123 wd_642) rfl rfl rfl (by decide +kernel) ⟨Nat.le_of_ble_eq_true rfl, Nat.le_of_ble_eq_true rfl⟩) (gc_preV (ci := 8) (q0 := 0) hK (tw_right hP) (tw_rightD hD) rfl rfl) rfl rfl hl.1 rfl (lv_room (Nat.le_of_ble_eq_true rfl)) dX9_readClause_59 ⟨Nat.le_of_ble_eq_true rfl, Nat.le_of_ble_eq_true rfl⟩) hP hD hS hA (fun r_58 wt H locs hw hP hD hS => ?_)
          obtain ⟨hT, hkp, lo_r_58, hi_r_58⟩ := hw
          have hW := hW.call (show ∀ x ∈ [], x ∈ [900, 901, 902, 903] by decide) hkp
          have hP : va_P (gg_D G) classes ([(tp, .inr (8, [.ref bp, .int n, .int at_, .int w_, .int fl])), (bp, .inl (G.2.2 0, 400, .inl bf))] ++ wt) H := hP
          have hD : va_D A ([(tp, .inr (8, [.ref bp, .int n, .int at_, .int w_, .int fl])), (bp, .inl (G.2.2 0, 400, .inl bf))] ++ wt) := hD
          refine lv_iconst (v := 4) hx hb dX9_readClause_62 (by decide +kernel) ?_
          have hP : va_P (gg_D G) classes ([] ++ ([(tp, .inr (8, [.ref bp, .int n, .int at_, .int w_, .int fl])), (bp, .inl (G.2.2 0, 400, .inl bf))] ++ wt)) H := hP
          have hD : va_D A ([] ++ ([(tp, .inr (8, [.ref bp, .int n, .int at_, .int w_, .int fl])), (bp, .inl (G.2.2 0, 400, .inl bf))] ++ wt)) := hD
          refine gt_callI (wr := []) (va_runV (As := [.int r_58, .int 4]) (rest := []) ⟨hx, hb, hml, hown, ht⟩ (d_refuse l G Γ H.size wt hT r_58 4 tp bp n at_ w_ fl bf (by first | assumption | omega) (by first | assumption | omega) (by first | assumption | omega) (by first | assumption | omega) (by first | assumption | omega)) (cwV 2 ht (ts_gV wd_643 wd_644 wd_645 wd_123 wd_646) rfl rfl rfl (by decide +kernel) ⟨Nat.le_of_ble_eq_true rfl, Nat.le_of_ble_eq_true rfl⟩) (gc_preV (ci := 8) (q0 := 0) hK (tw_right hP) (tw_rightD hD) rfl rfl) rfl rfl hl.1 rfl (lv_room (Nat.le_of_ble_eq_true rfl)) dX9_readClause_63 ⟨Nat.le_of_ble_eq_true rfl, Nat.le_of_ble_eq_true rfl⟩) hP hD hS hA (fun r_59 u H locs hw hP hD hS => ?_)
          obtain ⟨y_60, y_61, y_62, wt⟩ := u
          obtain ⟨hT, hkp, w_63, w_64, w_65, lo_r_59, hi_r_59⟩ := hw
          have hW := hW.call (show ∀ x ∈ [], x ∈ [900, 901, 902, 903] by decide) hkp
          have hP : va_P (gg_D G) classes ([(tp, .inr (8, [.ref bp, .int n, .int y_60, .int y_61, .int y_62])), (bp, .inl (G.2.2 0, 400, .inl bf))] ++ wt) H := hP
          have hD : va_D A ([(tp, .inr (8, [.ref bp, .int n, .int y_60, .int y_61, .int y_62])), (bp, .inl (G.2.2 0, 400, .inl bf))] ++ wt) := hD
          have z_r_59 : r_59 = 0 := by rw [← Int32.toInt_inj]; omega
          subst z_r_59
          have hP9 : va_P (gg_D G) classes ([(tp, .inr (8, [.ref bp, .int n, .int y_60, .int y_61, .int y_62])), (bp, .inl (G.2.2 0, 400, .inl bf))] ++ wt) _ := hP
          have hD9 : va_D A ([(tp, .inr (8, [.ref bp, .int n, .int y_60, .int y_61, .int y_62])), (bp, .inl (G.2.2 0, 400, .inl bf))] ++ wt) := hD
          exact W.zret (v := 0) hx hb hr (by decide +kernel) (gq_endI (y_60, y_61, y_62, wt) ⟨hT, hW, (by omega), (by omega), (by omega), (by omega), (by omega)⟩ hP9 hD9 hS) hS.2.2 dX9_readClause_66
      · rw [← Int32.toInt_inj] at c_12
        refine lv_iconst (v := 1) hx hb dX9_readClause_32 (by decide +kernel) ?_
        refine lv_goto (tgt := 37) hx hb dX9_readClause_33 (by decide) ?_
        refine lv_iload_n hx hb dX9_readClause_37 rfl (lv_at hl 3 rfl) ?_
        refine lv_if_ne (tgt := 45) hx hb dX9_readClause_38 (by decide) (fun c_66 => ?_) (fun c_66 => ?_)
        · rw [← Int32.toInt_inj] at c_66
          refine lv_iconst (v := 0) hx hb dX9_readClause_45 (by decide +kernel) ?_
          refine lv_icmp_ne (tgt := 57) hx hb dX9_readClause_46 (by decide) (fun _ => ?_) (fun c0 => False.elim (by rw [← Int32.toInt_inj] at c0; omega))
          refine lv_aload_n hx hb dX9_readClause_57 rfl (lv_at hl 2 rfl) ?_
          refine lv_aload_n hx hb dX9_readClause_58 rfl (lv_at hl 2 rfl) ?_
          have hP : va_P (gg_D G) classes ([] ++ ([(tp, .inr (8, [.ref bp, .int n, .int at_, .int w_, .int fl])), (bp, .inl (G.2.2 0, 400, .inl bf))] ++ wt)) H := hP
          have hD : va_D A ([] ++ ([(tp, .inr (8, [.ref bp, .int n, .int at_, .int w_, .int fl])), (bp, .inl (G.2.2 0, 400, .inl bf))] ++ wt)) := hD
          refine gt_callI (wr := []) (va_runV (As := []) (rest := [.ref tp]) ⟨hx, hb, hml, hown, ht⟩ (d_place l G Γ H.size wt hT tp bp n at_ w_ fl bf (by first | assumption | omega) (by first | assumption | omega) (by first | assumption | omega) (by first | assumption | omega) (by first | assumption | omega)) (cwV 0 ht (ts_gV wd_639 wd_640 wd_641 wd_123 wd_642) rfl rfl rfl (by decide +kernel) ⟨Nat.le_of_ble_eq_true rfl, Nat.le_of_ble_eq_true rfl⟩) (gc_preV (ci := 8) (q0 := 0) hK (tw_right hP) (tw_rightD hD) rfl rfl) rfl rfl hl.1 rfl (lv_room (Nat.le_of_ble_eq_true rfl)) dX9_readClause_59 ⟨Nat.le_of_ble_eq_true rfl, Nat.le_of_ble_eq_true rfl⟩) hP hD hS hA (fun r_67 wt H locs hw hP hD hS => ?_)
          obtain ⟨hT, hkp, lo_r_67, hi_r_67⟩ := hw
          have hW := hW.call (show ∀ x ∈ [], x ∈ [900, 901, 902, 903] by decide) hkp
          have hP : va_P (gg_D G) classes ([(tp, .inr (8, [.ref bp, .int n, .int at_, .int w_, .int fl])), (bp, .inl (G.2.2 0, 400, .inl bf))] ++ wt) H := hP
          have hD : va_D A ([(tp, .inr (8, [.ref bp, .int n, .int at_, .int w_, .int fl])), (bp, .inl (G.2.2 0, 400, .inl bf))] ++ wt) := hD
          refine lv_iconst (v := 4) hx hb dX9_readClause_62 (by decide +kernel) ?_
          have hP : va_P (gg_D G) classes ([] ++ ([(tp, .inr (8, [.ref bp, .int n, .int at_, .int w_, .int fl])), (bp, .inl (G.2.2 0, 400, .inl bf))] ++ wt)) H := hP
          have hD : va_D A ([] ++ ([(tp, .inr (8, [.ref bp, .int n, .int at_, .int w_, .int fl])), (bp, .inl (G.2.2 0, 400, .inl bf))] ++ wt)) := hD
          refine gt_callI (wr := []) (va_runV (As := [.int r_67, .int 4]) (rest := []) ⟨hx, hb, hml, hown, ht⟩ (d_refuse l G Γ H.size wt hT r_67 4 tp bp n at_ w_ fl bf (by first | assumption | omega) (by first | assumption | omega) (by first | assumption | omega) (by first | assumption | omega) (by first | assumption | omega)) (cwV 2 ht (ts_gV wd_643 wd_644 wd_645 wd_123 wd_646) rfl rfl rfl (by decide +kernel) ⟨Nat.le_of_ble_eq_true rfl, Nat.le_of_ble_eq_true rfl⟩) (gc_preV (ci := 8) (q0 := 0) hK (tw_right hP) (tw_rightD hD) rfl rfl) rfl rfl hl.1 rfl (lv_room (Nat.le_of_ble_eq_true rfl)) dX9_readClause_63 ⟨Nat.le_of_ble_eq_true rfl, Nat.le_of_ble_eq_true rfl⟩) hP hD hS hA (fun r_68 u H locs hw hP hD hS => ?_)
          obtain ⟨y_69, y_70, y_71, wt⟩ := u
          obtain ⟨hT, hkp, w_72, w_73, w_74, lo_r_68, hi_r_68⟩ := hw
          have hW := hW.call (show ∀ x ∈ [], x ∈ [900, 901, 902, 903] by decide) hkp
          have hP : va_P (gg_D G) classes ([(tp, .inr (8, [.ref bp, .int n, .int y_69, .int y_70, .int y_71])), (bp, .inl (G.2.2 0, 400, .inl bf))] ++ wt) H := hP
          have hD : va_D A ([(tp, .inr (8, [.ref bp, .int n, .int y_69, .int y_70, .int y_71])), (bp, .inl (G.2.2 0, 400, .inl bf))] ++ wt) := hD
          have z_r_68 : r_68 = 0 := by rw [← Int32.toInt_inj]; omega
          subst z_r_68
          have hP9 : va_P (gg_D G) classes ([(tp, .inr (8, [.ref bp, .int n, .int y_69, .int y_70, .int y_71])), (bp, .inl (G.2.2 0, 400, .inl bf))] ++ wt) _ := hP
          have hD9 : va_D A ([(tp, .inr (8, [.ref bp, .int n, .int y_69, .int y_70, .int y_71])), (bp, .inl (G.2.2 0, 400, .inl bf))] ++ wt) := hD
          exact W.zret (v := 0) hx hb hr (by decide +kernel) (gq_endI (y_69, y_70, y_71, wt) ⟨hT, hW, (by omega), (by omega), (by omega), (by omega), (by omega)⟩ hP9 hD9 hS) hS.2.2 dX9_readClause_66
        · rw [← Int32.toInt_inj] at c_66
          refine lv_iconst (v := 1) hx hb dX9_readClause_41 (by decide +kernel) ?_
          refine lv_goto (tgt := 46) hx hb dX9_readClause_42 (by decide) ?_
          refine lv_icmp_ne (tgt := 57) hx hb dX9_readClause_46 (by decide) (fun c0 => False.elim (by rw [← Int32.toInt_inj] at c0; omega)) (fun _ => ?_)
          refine lv_aload_n hx hb dX9_readClause_49 rfl (lv_at hl 1 rfl) ?_
          refine lv_iload_n hx hb dX9_readClause_50 rfl (lv_at hl 0 rfl) ?_
          obtain ⟨v, hv, hf_75⟩ := tk_peek hT k_t (by decide) (show classes[9]? = some _ from rfl) 2 (by decide)
          obtain ⟨n_76, rfl, lo_n_76, hi_n_76⟩ := hv
          refine gt_callI (wr := [(tp, .inr (8, [.ref bp, .int n, .int at_, .int w_, .int fl])), (bp, .inl (G.2.2 0, 400, .inl bf))]) (va_runV (As := [.int r_1]) (rest := []) ⟨hx, hb, hml, hown, ht⟩ (d_isFull l G Γ H.size wt hT t r_1 n_76 k_t (by omega) (by omega) hf_75) (cwV 1 ht (ts_gV wd_647 wd_649 wd_2 wd_124 wd_650) rfl rfl rfl (by decide +kernel) ⟨Nat.le_of_ble_eq_true rfl, Nat.le_of_ble_eq_true rfl⟩) (gt_preW (ci := 9) hK hT (tw_right hP) (tw_rightD hD) k_t (by decide) rfl) rfl rfl hl.1 rfl (lv_room (Nat.le_of_ble_eq_true rfl)) dX9_readClause_51 ⟨Nat.le_of_ble_eq_true rfl, Nat.le_of_ble_eq_true rfl⟩) hP hD hS hA (fun r_77 wt H locs hw hP hD hS => ?_)
          obtain ⟨hT, hkp, lo_r_77, hi_r_77, rp_r_77⟩ := hw
          have hW := hW.call (show ∀ x ∈ [], x ∈ [900, 901, 902, 903] by decide) hkp
          have hf_75 := hkp _ _ _ _ (by decide) (by decide) hf_75
          have hP : va_P (gg_D G) classes ([(tp, .inr (8, [.ref bp, .int n, .int at_, .int w_, .int fl])), (bp, .inl (G.2.2 0, 400, .inl bf))] ++ wt) H := hP
          have hD : va_D A ([(tp, .inr (8, [.ref bp, .int n, .int at_, .int w_, .int fl])), (bp, .inl (G.2.2 0, 400, .inl bf))] ++ wt) := hD
          refine lv_if_eq (tgt := 67) hx hb dX9_readClause_54 (by decide) (fun c_78 => ?_) (fun c_78 => ?_)
          · rw [← Int32.toInt_inj] at c_78
            refine lv_aload_n hx hb dX9_readClause_67 rfl (lv_at hl 2 rfl) ?_
            have hP : va_P (gg_D G) classes ([] ++ ([(tp, .inr (8, [.ref bp, .int n, .int at_, .int w_, .int fl])), (bp, .inl (G.2.2 0, 400, .inl bf))] ++ wt)) H := hP
            have hD : va_D A ([] ++ ([(tp, .inr (8, [.ref bp, .int n, .int at_, .int w_, .int fl])), (bp, .inl (G.2.2 0, 400, .inl bf))] ++ wt)) := hD
            refine gt_callV (wr := []) (va_runV (As := []) (rest := []) ⟨hx, hb, hml, hown, ht⟩ (d_passWord l G Γ H.size wt hT tp bp n at_ w_ fl bf (by first | assumption | omega) (by first | assumption | omega) (by first | assumption | omega) (by first | assumption | omega) (by first | assumption | omega)) (cwV 0 ht (ts_gV wd_651 wd_652 wd_653 wd_123 wd_654) rfl rfl rfl (by decide +kernel) ⟨Nat.le_of_ble_eq_true rfl, Nat.le_of_ble_eq_true rfl⟩) (gc_preV (ci := 8) (q0 := 0) hK (tw_right hP) (tw_rightD hD) rfl rfl) rfl rfl hl.1 rfl (lv_room (Nat.le_of_ble_eq_true rfl)) dX9_readClause_68 ⟨Nat.le_of_ble_eq_true rfl, Nat.le_of_ble_eq_true rfl⟩) hP hD hS hA (fun u H locs hw hP hD hS => ?_)
            obtain ⟨y_79, y_80, y_81, wt⟩ := u
            obtain ⟨hT, hkp, w_82, w_83, w_84⟩ := hw
            have hW := hW.call (show ∀ x ∈ [], x ∈ [900, 901, 902, 903] by decide) hkp
            have hf_75 := hkp _ _ _ _ (by decide) (by decide) hf_75
            have hP : va_P (gg_D G) classes ([(tp, .inr (8, [.ref bp, .int n, .int y_79, .int y_80, .int y_81])), (bp, .inl (G.2.2 0, 400, .inl bf))] ++ wt) H := hP
            have hD : va_D A ([(tp, .inr (8, [.ref bp, .int n, .int y_79, .int y_80, .int y_81])), (bp, .inl (G.2.2 0, 400, .inl bf))] ++ wt) := hD
            refine lv_iload_n hx hb dX9_readClause_71 rfl (lv_at hl 0 rfl) ?_
            by_cases c_85 : r_1 = 0
            · refine lv_tableIn (x := r_1) (off := 32) (tgt := 104) hx hb dX9_readClause_72 (by rw [c_85]; decide +kernel) (by rw [c_85]; decide +kernel) (by rw [c_85]; decide +kernel) (by decide) ?_
              rw [← Int32.toInt_inj] at c_85
              refine lv_aload_n hx hb dX9_readClause_104 rfl (lv_at hl 1 rfl) ?_
              refine lv_aload_n hx hb dX9_readClause_105 rfl (lv_at hl 2 rfl) ?_
              refine lv_iconst (v := 1) hx hb dX9_readClause_106 (by decide +kernel) ?_
              refine lv_sipush (v := 300) hx hb dX9_readClause_107 (by decide +kernel) ?_
              have hP : va_P (gg_D G) classes ([] ++ ([(tp, .inr (8, [.ref bp, .int n, .int y_79, .int y_80, .int y_81])), (bp, .inl (G.2.2 0, 400, .inl bf))] ++ wt)) H := hP
              have hD : va_D A ([] ++ ([(tp, .inr (8, [.ref bp, .int n, .int y_79, .int y_80, .int y_81])), (bp, .inl (G.2.2 0, 400, .inl bf))] ++ wt)) := hD
              refine gt_callI (wr := []) (va_runV (As := [.int 1, .int 300]) (rest := [.ref t]) ⟨hx, hb, hml, hown, ht⟩ (d_number l G Γ H.size wt hT 1 300 tp bp n y_79 y_80 y_81 bf (by first | assumption | omega) (by first | assumption | omega) (by first | assumption | omega) (by first | assumption | omega) (by first | assumption | omega)) (cwV 2 ht (ts_gV wd_655 wd_656 wd_657 wd_123 wd_658) rfl rfl rfl (by decide +kernel) ⟨Nat.le_of_ble_eq_true rfl, Nat.le_of_ble_eq_true rfl⟩) (gc_preV (ci := 8) (q0 := 0) hK (tw_right hP) (tw_rightD hD) rfl rfl) rfl rfl hl.1 rfl (lv_room (Nat.le_of_ble_eq_true rfl)) dX9_readClause_110 ⟨Nat.le_of_ble_eq_true rfl, Nat.le_of_ble_eq_true rfl⟩) hP hD hS hA (fun r_86 u H locs hw hP hD hS => ?_)
              obtain ⟨y_87, y_88, y_89, wt⟩ := u
              obtain ⟨hT, hkp, w_90, w_91, w_92, rp_r_86⟩ := hw
              have hW := hW.call (show ∀ x ∈ [], x ∈ [900, 901, 902, 903] by decide) hkp
              have hf_75 := hkp _ _ _ _ (by decide) (by decide) hf_75
              have hP : va_P (gg_D G) classes ([(tp, .inr (8, [.ref bp, .int n, .int y_87, .int y_88, .int y_89])), (bp, .inl (G.2.2 0, 400, .inl bf))] ++ wt) H := hP
              have hD : va_D A ([(tp, .inr (8, [.ref bp, .int n, .int y_87, .int y_88, .int y_89])), (bp, .inl (G.2.2 0, 400, .inl bf))] ++ wt) := hD
              refine tr_put (ci := 9) hx hb ht hown hK hT hP hD hS k_t (by decide) i_X9 tyX9 tyX9_ok nmX9 rfl 0 (by decide) wd_179 rfl rfl rfl rfl ⟨_, rfl⟩ dX9_readClause_113 (fun H locs wt hT hfl hfn hP hD hS => ?_)
              have hW := hW.obj (show 9 * 100 + 0 ∈ [900, 901, 902, 903] by decide) hfl
              have hf_75 := hfl _ _ _ _ (Or.inr (Or.inr (by decide))) hf_75
              have hf_93 := hfn
              refine lv_aload_n hx hb dX9_readClause_116 rfl (lv_at hl 1 rfl) ?_
              refine tr_getK (ci := 9) hx hb ht hown hK hP i_X9 rfl 0 (by decide) wd_179 rfl hf_93 dX9_readClause_117 ?_
              refine lv_iconst (v := (-1)) hx hb dX9_readClause_120 (by decide +kernel) ?_
              refine lv_icmp_eq (tgt := 128) hx hb dX9_readClause_121 (by decide) (fun c_94 => ?_) (fun c_94 => ?_)
              · rw [← Int32.toInt_inj] at c_94
                refine lv_iconst (v := 0) hx hb dX9_readClause_128 (by decide +kernel) ?_
                have hP9 : va_P (gg_D G) classes ([(tp, .inr (8, [.ref bp, .int n, .int y_87, .int y_88, .int y_89])), (bp, .inl (G.2.2 0, 400, .inl bf))] ++ wt) _ := hP
                have hD9 : va_D A ([(tp, .inr (8, [.ref bp, .int n, .int y_87, .int y_88, .int y_89])), (bp, .inl (G.2.2 0, 400, .inl bf))] ++ wt) := hD
                exact W.zret (v := 0) hx hb hr (by decide +kernel) (gq_endI (y_87, y_88, y_89, wt) ⟨hT, hW, (by omega), (by omega), (by omega), (by omega), (by omega)⟩ hP9 hD9 hS) hS.2.2 dX9_readClause_129
              · rw [← Int32.toInt_inj] at c_94
                refine lv_iconst (v := 1) hx hb dX9_readClause_124 (by decide +kernel) ?_
                refine lv_goto (tgt := 129) hx hb dX9_readClause_125 (by decide) ?_
                have hP9 : va_P (gg_D G) classes ([(tp, .inr (8, [.ref bp, .int n, .int y_87, .int y_88, .int y_89])), (bp, .inl (G.2.2 0, 400, .inl bf))] ++ wt) _ := hP
                have hD9 : va_D A ([(tp, .inr (8, [.ref bp, .int n, .int y_87, .int y_88, .int y_89])), (bp, .inl (G.2.2 0, 400, .inl bf))] ++ wt) := hD
                exact W.zret (v := 1) hx hb hr (by decide +kernel) (gq_endI (y_87, y_88, y_89, wt) ⟨hT, hW, (by omega), (by omega), (by omega), (by omega), (by omega)⟩ hP9 hD9 hS) hS.2.2 dX9_readClause_129
            rw [← Int32.toInt_inj] at c_85
            refine lv_tableOut (x := r_1) (tgt := 154) hx hb dX9_readClause_72 (by omega) (by decide) ?_
            refine lv_aload_n hx hb dX9_readClause_154 rfl (lv_at hl 1 rfl) ?_
            refine lv_aload_n hx hb dX9_readClause_155 rfl (lv_at hl 2 rfl) ?_
            have hP : va_P (gg_D G) classes ([] ++ ([(tp, .inr (8, [.ref bp, .int n, .int y_79, .int y_80, .int y_81])), (bp, .inl (G.2.2 0, 400, .inl bf))] ++ wt)) H := hP
            have hD : va_D A ([] ++ ([(tp, .inr (8, [.ref bp, .int n, .int y_79, .int y_80, .int y_81])), (bp, .inl (G.2.2 0, 400, .inl bf))] ++ wt)) := hD
            refine gt_callI (wr := []) (va_runV (As := [.ref tp]) (rest := []) ⟨hx, hb, hml, hown, ht⟩ (d_readTrick l G Γ H.size wt hT t tp bp n y_79 y_80 y_81 bf k_t (by first | assumption | omega) (by first | assumption | omega) (by first | assumption | omega) (by first | assumption | omega) (by first | assumption | omega)) (cwV 1 ht (ts_gV wd_668 wd_670 wd_5 wd_124 wd_671) rfl rfl rfl (by decide +kernel) ⟨Nat.le_of_ble_eq_true rfl, Nat.le_of_ble_eq_true rfl⟩) (gt_preV (ci := 9) hK hT (tw_right hP) (tw_rightD hD) k_t (by decide) rfl) rfl rfl hl.1 rfl (lv_room (Nat.le_of_ble_eq_true rfl)) dX9_readClause_156 ⟨Nat.le_of_ble_eq_true rfl, Nat.le_of_ble_eq_true rfl⟩) hP hD hS hA (fun r_95 u H locs hw hP hD hS => ?_)
            obtain ⟨y_96, y_97, y_98, wt⟩ := u
            obtain ⟨hT, hkp, w_99, w_100, w_101, lo_r_95, hi_r_95⟩ := hw
            have hW := hW.call (show ∀ x ∈ [903], x ∈ [900, 901, 902, 903] by decide) hkp
            have hf_75 := hkp _ _ _ _ (by decide) (by decide) hf_75
            have hP : va_P (gg_D G) classes ([(tp, .inr (8, [.ref bp, .int n, .int y_96, .int y_97, .int y_98])), (bp, .inl (G.2.2 0, 400, .inl bf))] ++ wt) H := hP
            have hD : va_D A ([(tp, .inr (8, [.ref bp, .int n, .int y_96, .int y_97, .int y_98])), (bp, .inl (G.2.2 0, 400, .inl bf))] ++ wt) := hD
            have hP9 : va_P (gg_D G) classes ([(tp, .inr (8, [.ref bp, .int n, .int y_96, .int y_97, .int y_98])), (bp, .inl (G.2.2 0, 400, .inl bf))] ++ wt) _ := hP
            have hD9 : va_D A ([(tp, .inr (8, [.ref bp, .int n, .int y_96, .int y_97, .int y_98])), (bp, .inl (G.2.2 0, 400, .inl bf))] ++ wt) := hD
            exact W.zret (v := r_95) hx hb hr (ia_bool (by omega) (by omega)) (gq_endI (y_96, y_97, y_98, wt) ⟨hT, hW, (by omega), (by omega), (by omega), (by omega), (by omega)⟩ hP9 hD9 hS) hS.2.2 dX9_readClause_159
          · rw [← Int32.toInt_inj] at c_78
            refine lv_aload_n hx hb dX9_readClause_57 rfl (lv_at hl 2 rfl) ?_
            refine lv_aload_n hx hb dX9_readClause_58 rfl (lv_at hl 2 rfl) ?_
            have hP : va_P (gg_D G) classes ([] ++ ([(tp, .inr (8, [.ref bp, .int n, .int at_, .int w_, .int fl])), (bp, .inl (G.2.2 0, 400, .inl bf))] ++ wt)) H := hP
            have hD : va_D A ([] ++ ([(tp, .inr (8, [.ref bp, .int n, .int at_, .int w_, .int fl])), (bp, .inl (G.2.2 0, 400, .inl bf))] ++ wt)) := hD
            refine gt_callI (wr := []) (va_runV (As := []) (rest := [.ref tp]) ⟨hx, hb, hml, hown, ht⟩ (d_place l G Γ H.size wt hT tp bp n at_ w_ fl bf (by first | assumption | omega) (by first | assumption | omega) (by first | assumption | omega) (by first | assumption | omega) (by first | assumption | omega)) (cwV 0 ht (ts_gV wd_639 wd_640 wd_641 wd_123 wd_642) rfl rfl rfl (by decide +kernel) ⟨Nat.le_of_ble_eq_true rfl, Nat.le_of_ble_eq_true rfl⟩) (gc_preV (ci := 8) (q0 := 0) hK (tw_right hP) (tw_rightD hD) rfl rfl) rfl rfl hl.1 rfl (lv_room (Nat.le_of_ble_eq_true rfl)) dX9_readClause_59 ⟨Nat.le_of_ble_eq_true rfl, Nat.le_of_ble_eq_true rfl⟩) hP hD hS hA (fun r_102 wt H locs hw hP hD hS => ?_)
            obtain ⟨hT, hkp, lo_r_102, hi_r_102⟩ := hw
            have hW := hW.call (show ∀ x ∈ [], x ∈ [900, 901, 902, 903] by decide) hkp
            have hf_75 := hkp _ _ _ _ (by decide) (by decide) hf_75
            have hP : va_P (gg_D G) classes ([(tp, .inr (8, [.ref bp, .int n, .int at_, .int w_, .int fl])), (bp, .inl (G.2.2 0, 400, .inl bf))] ++ wt) H := hP
            have hD : va_D A ([(tp, .inr (8, [.ref bp, .int n, .int at_, .int w_, .int fl])), (bp, .inl (G.2.2 0, 400, .inl bf))] ++ wt) := hD
            refine lv_iconst (v := 4) hx hb dX9_readClause_62 (by decide +kernel) ?_
            have hP : va_P (gg_D G) classes ([] ++ ([(tp, .inr (8, [.ref bp, .int n, .int at_, .int w_, .int fl])), (bp, .inl (G.2.2 0, 400, .inl bf))] ++ wt)) H := hP
            have hD : va_D A ([] ++ ([(tp, .inr (8, [.ref bp, .int n, .int at_, .int w_, .int fl])), (bp, .inl (G.2.2 0, 400, .inl bf))] ++ wt)) := hD
            refine gt_callI (wr := []) (va_runV (As := [.int r_102, .int 4]) (rest := []) ⟨hx, hb, hml, hown, ht⟩ (d_refuse l G Γ H.size wt hT r_102 4 tp bp n at_ w_ fl bf (by first | assumption | omega) (by first | assumption | omega) (by first | assumption | omega) (by first | assumption | omega) (by first | assumption | omega)) (cwV 2 ht (ts_gV wd_643 wd_644 wd_645 wd_123 wd_646) rfl rfl rfl (by decide +kernel) ⟨Nat.le_of_ble_eq_true rfl, Nat.le_of_ble_eq_true rfl⟩) (gc_preV (ci := 8) (q0 := 0) hK (tw_right hP) (tw_rightD hD) rfl rfl) rfl rfl hl.1 rfl (lv_room (Nat.le_of_ble_eq_true rfl)) dX9_readClause_63 ⟨Nat.le_of_ble_eq_true rfl, Nat.le_of_ble_eq_true rfl⟩) hP hD hS hA (fun r_103 u H locs hw hP hD hS => ?_)
            obtain ⟨y_104, y_105, y_106, wt⟩ := u
            obtain ⟨hT, hkp, w_107, w_108, w_109, lo_r_103, hi_r_103⟩ := hw
            have hW := hW.call (show ∀ x ∈ [], x ∈ [900, 901, 902, 903] by decide) hkp
            have hf_75 := hkp _ _ _ _ (by decide) (by decide) hf_75
            have hP : va_P (gg_D G) classes ([(tp, .inr (8, [.ref bp, .int n, .int y_104, .int y_105, .int y_106])), (bp, .inl (G.2.2 0, 400, .inl bf))] ++ wt) H := hP
            have hD : va_D A ([(tp, .inr (8, [.ref bp, .int n, .int y_104, .int y_105, .int y_106])), (bp, .inl (G.2.2 0, 400, .inl bf))] ++ wt) := hD
            have z_r_103 : r_103 = 0 := by rw [← Int32.toInt_inj]; omega
            subst z_r_103
            have hP9 : va_P (gg_D G) classes ([(tp, .inr (8, [.ref bp, .int n, .int y_104, .int y_105, .int y_106])), (bp, .inl (G.2.2 0, 400, .inl bf))] ++ wt) _ := hP
            have hD9 : va_D A ([(tp, .inr (8, [.ref bp, .int n, .int y_104, .int y_105, .int y_106])), (bp, .inl (G.2.2 0, 400, .inl bf))] ++ wt) := hD
            exact W.zret (v := 0) hx hb hr (by decide +kernel) (gq_endI (y_104, y_105, y_106, wt) ⟨hT, hW, (by omega), (by omega), (by omega), (by omega), (by omega)⟩ hP9 hD9 hS) hS.2.2 dX9_readClause_66
  · rw [← Int32.toInt_inj] at c_2
    refine lv_aload_n hx hb dX9_readClause_12 rfl (lv_at hl 2 rfl) ?_
    refine lv_aload_n hx hb dX9_readClause_13 rfl (lv_at hl 2 rfl) ?_
    have hP : va_P (gg_D G) classes ([] ++ ([(tp, .inr (8, [.ref bp, .int n, .int at_, .int w_, .int fl])), (bp, .inl (G.2.2 0, 400, .inl bf))] ++ wt)) H := hP
    have hD : va_D A ([] ++ ([(tp, .inr (8, [.ref bp, .int n, .int at_, .int w_, .int fl])), (bp, .inl (G.2.2 0, 400, .inl bf))] ++ wt)) := hD
    refine gt_callI (wr := []) (va_runV (As := []) (rest := [.ref tp]) ⟨hx, hb, hml, hown, ht⟩ (d_place l G Γ H.size wt hT tp bp n at_ w_ fl bf (by first | assumption | omega) (by first | assumption | omega) (by first | assumption | omega) (by first | assumption | omega) (by first | assumption | omega)) (cwV 0 ht (ts_gV wd_639 wd_640 wd_641 wd_123 wd_642) rfl rfl rfl (by decide +kernel) ⟨Nat.le_of_ble_eq_true rfl, Nat.le_of_ble_eq_true rfl⟩) (gc_preV (ci := 8) (q0 := 0) hK (tw_right hP) (tw_rightD hD) rfl rfl) rfl rfl hl.1 rfl (lv_room (Nat.le_of_ble_eq_true rfl)) dX9_readClause_14 ⟨Nat.le_of_ble_eq_true rfl, Nat.le_of_ble_eq_true rfl⟩) hP hD hS hA (fun r_110 wt H locs hw hP hD hS => ?_)
    obtain ⟨hT, hkp, lo_r_110, hi_r_110⟩ := hw
    have hW := hW.call (show ∀ x ∈ [], x ∈ [900, 901, 902, 903] by decide) hkp
    have hP : va_P (gg_D G) classes ([(tp, .inr (8, [.ref bp, .int n, .int at_, .int w_, .int fl])), (bp, .inl (G.2.2 0, 400, .inl bf))] ++ wt) H := hP
    have hD : va_D A ([(tp, .inr (8, [.ref bp, .int n, .int at_, .int w_, .int fl])), (bp, .inl (G.2.2 0, 400, .inl bf))] ++ wt) := hD
    refine lv_iconst (v := 0) hx hb dX9_readClause_17 (by decide +kernel) ?_
    have hP : va_P (gg_D G) classes ([] ++ ([(tp, .inr (8, [.ref bp, .int n, .int at_, .int w_, .int fl])), (bp, .inl (G.2.2 0, 400, .inl bf))] ++ wt)) H := hP
    have hD : va_D A ([] ++ ([(tp, .inr (8, [.ref bp, .int n, .int at_, .int w_, .int fl])), (bp, .inl (G.2.2 0, 400, .inl bf))] ++ wt)) := hD
    refine gt_callI (wr := []) (va_runV (As := [.int r_110, .int 0]) (rest := []) ⟨hx, hb, hml, hown, ht⟩ (d_refuse l G Γ H.size wt hT r_110 0 tp bp n at_ w_ fl bf (by first | assumption | omega) (by first | assumption | omega) (by first | assumption | omega) (by first | assumption | omega) (by first | assumption | omega)) (cwV 2 ht (ts_gV wd_643 wd_644 wd_645 wd_123 wd_646) rfl rfl rfl (by decide +kernel) ⟨Nat.le_of_ble_eq_true rfl, Nat.le_of_ble_eq_true rfl⟩) (gc_preV (ci := 8) (q0 := 0) hK (tw_right hP) (tw_rightD hD) rfl rfl) rfl rfl hl.1 rfl (lv_room (Nat.le_of_ble_eq_true rfl)) dX9_readClause_18 ⟨Nat.le_of_ble_eq_true rfl, Nat.le_of_ble_eq_true rfl⟩) hP hD hS hA (fun r_111 u H locs hw hP hD hS => ?_)
    obtain ⟨y_112, y_113, y_114, wt⟩ := u
    obtain ⟨hT, hkp, w_115, w_116, w_117, lo_r_111, hi_r_111⟩ := hw
    have hW := hW.call (show ∀ x ∈ [], x ∈ [900, 901, 902, 903] by decide) hkp
    have hP : va_P (gg_D G) classes ([(tp, .inr (8, [.ref bp, .int n, .int y_112, .int y_113, .int y_114])), (bp, .inl (G.2.2 0, 400, .inl bf))] ++ wt) H := hP
    have hD : va_D A ([(tp, .inr (8, [.ref bp, .int n, .int y_112, .int y_113, .int y_114])), (bp, .inl (G.2.2 0, 400, .inl bf))] ++ wt) := hD
    have z_r_111 : r_111 = 0 := by rw [← Int32.toInt_inj]; omega
    subst z_r_111
    have hP9 : va_P (gg_D G) classes ([(tp, .inr (8, [.ref bp, .int n, .int y_112, .int y_113, .int y_114])), (bp, .inl (G.2.2 0, 400, .inl bf))] ++ wt) _ := hP
    have hD9 : va_D A ([(tp, .inr (8, [.ref bp, .int n, .int y_112, .int y_113, .int y_114])), (bp, .inl (G.2.2 0, 400, .inl bf))] ++ wt) := hD
    exact W.zret (v := 0) hx hb hr (by decide +kernel) (gq_endI (y_112, y_113, y_114, wt) ⟨hT, hW, (by omega), (by omega), (by omega), (by omega), (by omega)⟩ hP9 hD9 hS) hS.2.2 dX9_readClause_21
set_option maxHeartbeats 4000000 in
set_option maxRecDepth 100000 in
theorem d_readSale (l : Launch) (G : gg_T) (Γ : Nat → Nat) (sz : Nat) (wt : va_W) (hT : tk_ty G Γ wt) (K : Nat → Nat) (V : Nat → Nat) (t : Nat) (tp : Nat) (bp : Nat) (n : Int32) (at_ : Int32) (w_ : Int32) (fl : Int32) (bf : Nat → Int32) (k_t : Γ t = 10) (xp1 : 0 ≤ n.toInt) (xp2 : n.toInt ≤ 400) (xp3 : 0 ≤ at_.toInt) (xp4 : 0 ≤ w_.toInt) (xp5 : at_.toInt + w_.toInt ≤ 400) : Met l yX9_readSale (ts_L yX9_readSale cX9_readSale 4 (some .int)) ({ frames := 6, cells := 0, slots := 0, locals := 133 }) (gx_P G K V ([(tp, .inr (8, [.ref bp, .int n, .int at_, .int w_, .int fl])), (bp, .inl (G.2.2 0, 400, .inl bf))] ++ wt) sz [.ref t, .ref tp]) (gc_I G (va_A ([(tp, .inr (8, [.ref bp, .int n, .int at_, .int w_, .int fl])), (bp, .inl (G.2.2 0, 400, .inl bf))] ++ wt) sz) (fun r (u : (Int32) × (Int32) × (Int32) × va_W) => match u with | (a1, w1, f1, wt1) => tk_ty G Γ wt1 ∧ tk_kp [900, 901, 902, 903] wt wt1 ∧ 0 ≤ a1.toInt ∧ 0 ≤ w1.toInt ∧ a1.toInt + w1.toInt ≤ 400) (fun (u : (Int32) × (Int32) × (Int32) × va_W) => match u with | (a1, w1, f1, wt1) => [(tp, .inr (8, [.ref bp, .int n, .int a1, .int w1, .int f1])), (bp, .inl (G.2.2 0, 400, .inl bf))] ++ wt1)) 0 0 (va_A ([(tp, .inr (8, [.ref bp, .int n, .int at_, .int w_, .int fl])), (bp, .inl (G.2.2 0, 400, .inl bf))] ++ wt) sz) := by
  refine Met.ofW (cc := cX9_readSale) (maxL := 4) (ret := (some .int)) (by decide) rfl ?_
  intro p e s m args below meth c s₁ B hml hv
  obtain ⟨rfl, hsz, hP, hK, hD0, hX⟩ := hv
  have hx := B.exec
  have hb := B.bytes
  have hr := B.returns
  have ht := ts_ht (atoms_spec (ws := ts_L yX9_readSale cX9_readSale 4 (some .int)) B.pre)
  have hown : s.vm.findClass RX9 = some m.cls := findClass_of_methodNamed B.named
  have hlocks := B.notSynchronized
  subst hsz
  have hD := hD0.self (sz := s.heap.size)
  generalize hAe : va_A ([(tp, .inr (8, [.ref bp, .int n, .int at_, .int w_, .int fl])), (bp, .inl (G.2.2 0, 400, .inl bf))] ++ wt) s.heap.size = A at hD hX ⊢
  have hA : ∀ q : Nat, s.heap.size ≤ q → A q := fun q h => by rw [← hAe]; exact Or.inr h
  clear hAe hD0
  have hS : va_S A s.heap s.heap [] := va_S.rf
  obtain ⟨w0, hw0⟩ : ∃ z, z = wt := ⟨_, rfl⟩
  have hW : tk_kp [900, 901, 902, 903] w0 wt := by rw [hw0]; exact tk_kp.rf
  rw [← hw0]
  clear hw0
  have hP : va_P (gg_D G) classes ([(tp, .inr (8, [.ref bp, .int n, .int at_, .int w_, .int fl])), (bp, .inl (G.2.2 0, 400, .inl bf))] ++ wt) s.heap := hP
  have hD : va_D A ([(tp, .inr (8, [.ref bp, .int n, .int at_, .int w_, .int fl])), (bp, .inl (G.2.2 0, 400, .inl bf))] ++ wt) := hD
  have hl := lv_entry ([.ref t, .ref tp]) (n := 4) (Nat.le_of_ble_eq_true rfl)
  rw [lg_entry_eq]
  generalize (lg_sl ([.ref t, .ref tp]) ++ List.replicate (4 - (lg_sl ([.ref t, .ref tp])).length) Slot.unset).toArray = ls at hl ⊢
  have hl : lv_has ls 4 [(0, .ref t), (1, .ref tp)] := hl
  have l0 : (0 : Int32).toInt = 0 := by decide +kernel
  have l1 : (1 : Int32).toInt = 1 := by decide +kernel
  have l15 : (15 : Int32).toInt = 15 := by decide +kernel
  have l40 : (40 : Int32).toInt = 40 := by decide +kernel
  refine lv_aload_n hx hb dX9_readSale_0 rfl (lv_at hl 0 rfl) ?_
  refine lv_iconst (v := 0) hx hb dX9_readSale_1 (by decide +kernel) ?_
  refine tr_put (ci := 9) hx hb ht hown hK hT hP hD hS k_t (by decide) i_X9 tyX9 tyX9_ok nmX9 rfl 0 (by decide) wd_179 rfl rfl rfl rfl ⟨_, rfl⟩ dX9_readSale_2 (fun H locs wt hT hfl hfn hP hD hS => ?_)
  have hW := hW.obj (show 9 * 100 + 0 ∈ [900, 901, 902, 903] by decide) hfl
  have hf_1 := hfn
  refine lv_aload_n hx hb dX9_readSale_5 rfl (lv_at hl 0 rfl) ?_
  refine lv_iconst (v := 0) hx hb dX9_readSale_6 (by decide +kernel) ?_
  refine tr_put (ci := 9) hx hb ht hown hK hT hP hD hS k_t (by decide) i_X9 tyX9 tyX9_ok nmX9 rfl 1 (by decide) wd_182 rfl rfl rfl rfl ⟨_, rfl, by omega, by omega⟩ dX9_readSale_7 (fun H locs wt hT hfl hfn hP hD hS => ?_)
  have hW := hW.obj (show 9 * 100 + 1 ∈ [900, 901, 902, 903] by decide) hfl
  have hf_1 := hfl _ _ _ _ (Or.inr (Or.inr (by decide))) hf_1
  have hf_2 := hfn
  refine lv_aload_n hx hb dX9_readSale_10 rfl (lv_at hl 0 rfl) ?_
  refine lv_iconst (v := 0) hx hb dX9_readSale_11 (by decide +kernel) ?_
  refine tr_put (ci := 9) hx hb ht hown hK hT hP hD hS k_t (by decide) i_X9 tyX9 tyX9_ok nmX9 rfl 2 (by decide) wd_187 rfl rfl rfl rfl ⟨_, rfl, by omega, by omega⟩ dX9_readSale_12 (fun H locs wt hT hfl hfn hP hD hS => ?_)
  have hW := hW.obj (show 9 * 100 + 2 ∈ [900, 901, 902, 903] by decide) hfl
  have hf_1 := hfl _ _ _ _ (Or.inr (Or.inr (by decide))) hf_1
  have hf_2 := hfl _ _ _ _ (Or.inr (Or.inr (by decide))) hf_2
  have hf_3 := hfn
  refine lv_aload_n hx hb dX9_readSale_15 rfl (lv_at hl 0 rfl) ?_
  refine lv_iconst (v := 0) hx hb dX9_readSale_16 (by decide +kernel) ?_
  refine tr_put (ci := 9) hx hb ht hown hK hT hP hD hS k_t (by decide) i_X9 tyX9 tyX9_ok nmX9 rfl 3 (by decide) wd_191 rfl rfl rfl rfl ⟨_, rfl, by omega, by omega⟩ dX9_readSale_17 (fun H locs wt hT hfl hfn hP hD hS => ?_)
  have hW := hW.obj (show 9 * 100 + 3 ∈ [900, 901, 902, 903] by decide) hfl
  have hf_1 := hfl _ _ _ _ (Or.inr (Or.inr (by decide))) hf_1
  have hf_2 := hfl _ _ _ _ (Or.inr (Or.inr (by decide))) hf_2
  have hf_3 := hfl _ _ _ _ (Or.inr (Or.inr (by decide))) hf_3
  have hf_4 := hfn
  refine lv_iconst (v := 0) hx hb dX9_readSale_20 (by decide +kernel) ?_
  refine lv_istore_n (lv' := [(2, .int 0), (0, .ref t), (1, .ref tp)]) hx hb dX9_readSale_21 rfl hl (by decide) rfl (fun ls hl => ?_)
  refine tl_loopE (Γ := Γ) (nL := 4) (fun (zz_ : Int32) => match zz_ with | x22_0 => 0 ≤ x22_0.toInt ∧ x22_0.toInt ≤ 15) (fun (zz_ : Int32) => match zz_ with | x22_0 => (15 - x22_0.toInt).toNat) (fun (zz_ : Int32) => match zz_ with | x22_0 => [(2, .int x22_0), (0, .ref t), (1, .ref tp)]) (fun (zz_ : Int32) => match zz_ with | x22_0 => [(tp, .inr (8, [.ref bp, .int n, .int at_, .int w_, .int fl])), (bp, .inl (G.2.2 0, 400, .inl bf))]) (fun (zz_ : Int32) (w : va_W) => match zz_ with | x22_0 => tk_kp [900, 901, 902, 903] w0 w) (fun zz_ hI H locs wt ls hT hW hP hD hS hl ih22 => ?_) 0 (show 0 ≤ (0 : Int32).toInt ∧ (0 : Int32).toInt ≤ 15 from ⟨by omega, by omega⟩) _ _ wt ls hT hW hP hD hS hl
  obtain ⟨x22_0, rfl⟩ : ∃ z2, z2 = zz_ := ⟨_, rfl⟩
  have hW : tk_kp [900, 901, 902, 903] w0 wt := hW
  have hI : 0 ≤ x22_0.toInt ∧ x22_0.toInt ≤ 15 := hI
  obtain ⟨j22_0, j22_1⟩ := hI
  have hl : lv_has ls 4 [(2, .int x22_0), (0, .ref t), (1, .ref tp)] := hl
  have hP : va_P (gg_D G) classes ([(tp, .inr (8, [.ref bp, .int n, .int at_, .int w_, .int fl])), (bp, .inl (G.2.2 0, 400, .inl bf))] ++ wt) H := hP
  have hD : va_D A ([(tp, .inr (8, [.ref bp, .int n, .int at_, .int w_, .int fl])), (bp, .inl (G.2.2 0, 400, .inl bf))] ++ wt) := hD
  refine lv_iload_n hx hb dX9_readSale_22 rfl (lv_at hl 0 rfl) ?_
  refine lv_aload_n hx hb dX9_readSale_23 rfl (lv_at hl 1 rfl) ?_
  refine tr_get (ci := 9) hx hb ht hown hK hT hP k_t (by decide) i_X9 rfl 6 (by decide) wd_198 rfl dX9_readSale_24 (fun v hv hf_5 => ?_)
  obtain ⟨q_6, rfl, hq_6⟩ := hv
  refine tr_alen hx hb hK hT hP 24 hq_6 (by decide) (by decide) 15 (by decide +kernel) dX9_readSale_27 ?_
  refine lv_icmp_ge (tgt := 44) hx hb dX9_readSale_28 (by decide) (fun c_7 => ?_) (fun c_7 => ?_)
  · rw [Int32.le_iff_toInt_le] at c_7
    refine lv_aload_n hx hb dX9_readSale_44 rfl (lv_at hl 2 rfl) ?_
    have hP : va_P (gg_D G) classes ([] ++ ([(tp, .inr (8, [.ref bp, .int n, .int at_, .int w_, .int fl])), (bp, .inl (G.2.2 0, 400, .inl bf))] ++ wt)) H := hP
    have hD : va_D A ([] ++ ([(tp, .inr (8, [.ref bp, .int n, .int at_, .int w_, .int fl])), (bp, .inl (G.2.2 0, 400, .inl bf))] ++ wt)) := hD
    refine gt_callV (wr := []) (va_runV (As := []) (rest := []) ⟨hx, hb, hml, hown, ht⟩ (d_rewind l G Γ H.size wt hT tp bp n at_ w_ fl bf (by first | assumption | omega) (by first | assumption | omega) (by first | assumption | omega) (by first | assumption | omega) (by first | assumption | omega)) (cwV 0 ht (ts_gV wd_574 wd_575 wd_576 wd_123 wd_577) rfl rfl rfl (by decide +kernel) ⟨Nat.le_of_ble_eq_true rfl, Nat.le_of_ble_eq_true rfl⟩) (gc_preV (ci := 8) (q0 := 0) hK (tw_right hP) (tw_rightD hD) rfl rfl) rfl rfl hl.1 rfl (lv_room (Nat.le_of_ble_eq_true rfl)) dX9_readSale_45 ⟨Nat.le_of_ble_eq_true rfl, Nat.le_of_ble_eq_true rfl⟩) hP hD hS hA (fun u H locs hw hP hD hS => ?_)
    obtain ⟨y_8, y_9, y_10, wt⟩ := u
    obtain ⟨hT, hkp, w_11, w_12, w_13⟩ := hw
    have hW := hW.call (show ∀ x ∈ [], x ∈ [900, 901, 902, 903] by decide) hkp
    have hP : va_P (gg_D G) classes ([(tp, .inr (8, [.ref bp, .int n, .int y_8, .int y_9, .int y_10])), (bp, .inl (G.2.2 0, 400, .inl bf))] ++ wt) H := hP
    have hD : va_D A ([(tp, .inr (8, [.ref bp, .int n, .int y_8, .int y_9, .int y_10])), (bp, .inl (G.2.2 0, 400, .inl bf))] ++ wt) := hD
    refine lv_iconst (v := 1) hx hb dX9_readSale_48 (by decide +kernel) ?_
    refine lv_istore_n (lv' := [(2, .int 1), (0, .ref t), (1, .ref tp)]) hx hb dX9_readSale_49 rfl hl (by decide) rfl (fun ls hl => ?_)
    refine lv_iconst (v := 0) hx hb dX9_readSale_50 (by decide +kernel) ?_
    refine lv_istore_n (lv' := [(3, .int 0), (2, .int 1), (0, .ref t), (1, .ref tp)]) hx hb dX9_readSale_51 rfl hl (by decide) rfl (fun ls hl => ?_)
    refine tl_loopE (Γ := Γ) (nL := 4) (fun (zz_ : Int32 × Int32 × Int32 × Int32 × Int32) => match zz_ with | (x52_0, x52_1, x52_2, x52_3, x52_4) => 0 ≤ x52_0.toInt ∧ x52_0.toInt ≤ 41 ∧ 0 ≤ x52_1.toInt ∧ x52_1.toInt ≤ 1 ∧ 0 ≤ x52_2.toInt ∧ x52_2.toInt ≤ 400 ∧ 0 ≤ x52_3.toInt ∧ x52_3.toInt ≤ 400 ∧ x52_2.toInt + x52_3.toInt ≤ 400) (fun (zz_ : Int32 × Int32 × Int32 × Int32 × Int32) => match zz_ with | (x52_0, x52_1, x52_2, x52_3, x52_4) => (41 - x52_0.toInt).toNat) (fun (zz_ : Int32 × Int32 × Int32 × Int32 × Int32) => match zz_ with | (x52_0, x52_1, x52_2, x52_3, x52_4) => [(3, .int x52_0), (2, .int x52_1), (0, .ref t), (1, .ref tp)]) (fun (zz_ : Int32 × Int32 × Int32 × Int32 × Int32) => match zz_ with | (x52_0, x52_1, x52_2, x52_3, x52_4) => [(tp, .inr (8, [.ref bp, .int n, .int x52_2, .int x52_3, .int x52_4])), (bp, .inl (G.2.2 0, 400, .inl bf))]) (fun (zz_ : Int32 × Int32 × Int32 × Int32 × Int32) (w : va_W) => match zz_ with | (x52_0, x52_1, x52_2, x52_3, x52_4) => tk_kp [900, 901, 902, 903] w0 w) (fun zz_ hI H locs wt ls hT hW hP hD hS hl ih52 => ?_) (0, 1, y_8, y_9, y_10) (show 0 ≤ (0 : Int32).toInt ∧ (0 : Int32).toInt ≤ 41 ∧ 0 ≤ (1 : Int32).toInt ∧ (1 : Int32).toInt ≤ 1 ∧ 0 ≤ y_8.toInt ∧ y_8.toInt ≤ 400 ∧ 0 ≤ y_9.toInt ∧ y_9.toInt ≤ 400 ∧ y_8.toInt + y_9.toInt ≤ 400 from ⟨by omega, by omega, by omega, by omega, by omega, by omega, by omega, by omega, by omega⟩) _ _ wt ls hT hW hP hD hS hl
    obtain ⟨x52_0, x52_1, x52_2, x52_3, x52_4⟩ := zz_
    have hW : tk_kp [900, 901, 902, 903] w0 wt := hW
    have hI : 0 ≤ x52_0.toInt ∧ x52_0.toInt ≤ 41 ∧ 0 ≤ x52_1.toInt ∧ x52_1.toInt ≤ 1 ∧ 0 ≤ x52_2.toInt ∧ x52_2.toInt ≤ 400 ∧ 0 ≤ x52_3.toInt ∧ x52_3.toInt ≤ 400 ∧ x52_2.toInt + x52_3.toInt ≤ 400 := hI
    obtain ⟨j52_0, j52_1, j52_2, j52_3, j52_4, j52_5, j52_6, j52_7, j52_8⟩ := hI
    have hl : lv_has ls 4 [(3, .int x52_0), (2, .int x52_1), (0, .ref t), (1, .ref tp)] := hl
    have hP : va_P (gg_D G) classes ([(tp, .inr (8, [.ref bp, .int n, .int x52_2, .int x52_3, .int x52_4])), (bp, .inl (G.2.2 0, 400, .inl bf))] ++ wt) H := hP
    have hD : va_D A ([(tp, .inr (8, [.ref bp, .int n, .int x52_2, .int x52_3, .int x52_4])), (bp, .inl (G.2.2 0, 400, .inl bf))] ++ wt) := hD
    refine lv_iload_n hx hb dX9_readSale_52 rfl (lv_at hl 1 rfl) ?_
    refine lv_if_eq (tgt := 90) hx hb dX9_readSale_53 (by decide) (fun c_14 => ?_) (fun c_14 => ?_)
    · rw [← Int32.toInt_inj] at c_14
      refine lv_aload_n hx hb dX9_readSale_90 rfl (lv_at hl 3 rfl) ?_
      have hP : va_P (gg_D G) classes ([] ++ ([(tp, .inr (8, [.ref bp, .int n, .int x52_2, .int x52_3, .int x52_4])), (bp, .inl (G.2.2 0, 400, .inl bf))] ++ wt)) H := hP
      have hD : va_D A ([] ++ ([(tp, .inr (8, [.ref bp, .int n, .int x52_2, .int x52_3, .int x52_4])), (bp, .inl (G.2.2 0, 400, .inl bf))] ++ wt)) := hD
      refine gt_callI (wr := []) (va_runV (As := []) (rest := []) ⟨hx, hb, hml, hown, ht⟩ (d_firstFault l G Γ H.size wt hT tp bp n x52_2 x52_3 x52_4 bf (by first | assumption | omega) (by first | assumption | omega) (by first | assumption | omega) (by first | assumption | omega) (by first | assumption | omega)) (cwV 0 ht (ts_gV wd_684 wd_685 wd_686 wd_123 wd_687) rfl rfl rfl (by decide +kernel) ⟨Nat.le_of_ble_eq_true rfl, Nat.le_of_ble_eq_true rfl⟩) (gc_preV (ci := 8) (q0 := 0) hK (tw_right hP) (tw_rightD hD) rfl rfl) rfl rfl hl.1 rfl (lv_room (Nat.le_of_ble_eq_true rfl)) dX9_readSale_91 ⟨Nat.le_of_ble_eq_true rfl, Nat.le_of_ble_eq_true rfl⟩) hP hD hS hA (fun r_15 wt H locs hw hP hD hS => ?_)
      obtain ⟨hT, hkp⟩ := hw
      have hW := hW.call (show ∀ x ∈ [], x ∈ [900, 901, 902, 903] by decide) hkp
      have hP : va_P (gg_D G) classes ([(tp, .inr (8, [.ref bp, .int n, .int x52_2, .int x52_3, .int x52_4])), (bp, .inl (G.2.2 0, 400, .inl bf))] ++ wt) H := hP
      have hD : va_D A ([(tp, .inr (8, [.ref bp, .int n, .int x52_2, .int x52_3, .int x52_4])), (bp, .inl (G.2.2 0, 400, .inl bf))] ++ wt) := hD
      have hP9 : va_P (gg_D G) classes ([(tp, .inr (8, [.ref bp, .int n, .int x52_2, .int x52_3, .int x52_4])), (bp, .inl (G.2.2 0, 400, .inl bf))] ++ wt) _ := hP
      have hD9 : va_D A ([(tp, .inr (8, [.ref bp, .int n, .int x52_2, .int x52_3, .int x52_4])), (bp, .inl (G.2.2 0, 400, .inl bf))] ++ wt) := hD
      exact W.iret (v := r_15) hx hb hr (gq_endI (x52_2, x52_3, x52_4, wt) ⟨hT, hW, (by omega), (by omega), (by omega)⟩ hP9 hD9 hS) hS.2.2 dX9_readSale_94
    · rw [← Int32.toInt_inj] at c_14
      refine lv_iload_n hx hb dX9_readSale_56 rfl (lv_at hl 0 rfl) ?_
      refine lv_bipush (v := 40) hx hb dX9_readSale_57 (by decide +kernel) ?_
      refine lv_icmp_gt (tgt := 90) hx hb dX9_readSale_59 (by decide) (fun c_16 => ?_) (fun c_16 => ?_)
      · rw [Int32.lt_iff_toInt_lt] at c_16
        refine lv_aload_n hx hb dX9_readSale_90 rfl (lv_at hl 3 rfl) ?_
        have hP : va_P (gg_D G) classes ([] ++ ([(tp, .inr (8, [.ref bp, .int n, .int x52_2, .int x52_3, .int x52_4])), (bp, .inl (G.2.2 0, 400, .inl bf))] ++ wt)) H := hP
        have hD : va_D A ([] ++ ([(tp, .inr (8, [.ref bp, .int n, .int x52_2, .int x52_3, .int x52_4])), (bp, .inl (G.2.2 0, 400, .inl bf))] ++ wt)) := hD
        refine gt_callI (wr := []) (va_runV (As := []) (rest := []) ⟨hx, hb, hml, hown, ht⟩ (d_firstFault l G Γ H.size wt hT tp bp n x52_2 x52_3 x52_4 bf (by first | assumption | omega) (by first | assumption | omega) (by first | assumption | omega) (by first | assumption | omega) (by first | assumption | omega)) (cwV 0 ht (ts_gV wd_684 wd_685 wd_686 wd_123 wd_687) rfl rfl rfl (by decide +kernel) ⟨Nat.le_of_ble_eq_true rfl, Nat.le_of_ble_eq_true rfl⟩) (gc_preV (ci := 8) (q0 := 0) hK (tw_right hP) (tw_rightD hD) rfl rfl) rfl rfl hl.1 rfl (lv_room (Nat.le_of_ble_eq_true rfl)) dX9_readSale_91 ⟨Nat.le_of_ble_eq_true rfl, Nat.le_of_ble_eq_true rfl⟩) hP hD hS hA (fun r_17 wt H locs hw hP hD hS => ?_)
        obtain ⟨hT, hkp⟩ := hw
        have hW := hW.call (show ∀ x ∈ [], x ∈ [900, 901, 902, 903] by decide) hkp
        have hP : va_P (gg_D G) classes ([(tp, .inr (8, [.ref bp, .int n, .int x52_2, .int x52_3, .int x52_4])), (bp, .inl (G.2.2 0, 400, .inl bf))] ++ wt) H := hP
        have hD : va_D A ([(tp, .inr (8, [.ref bp, .int n, .int x52_2, .int x52_3, .int x52_4])), (bp, .inl (G.2.2 0, 400, .inl bf))] ++ wt) := hD
        have hP9 : va_P (gg_D G) classes ([(tp, .inr (8, [.ref bp, .int n, .int x52_2, .int x52_3, .int x52_4])), (bp, .inl (G.2.2 0, 400, .inl bf))] ++ wt) _ := hP
        have hD9 : va_D A ([(tp, .inr (8, [.ref bp, .int n, .int x52_2, .int x52_3, .int x52_4])), (bp, .inl (G.2.2 0, 400, .inl bf))] ++ wt) := hD
        exact W.iret (v := r_17) hx hb hr (gq_endI (x52_2, x52_3, x52_4, wt) ⟨hT, hW, (by omega), (by omega), (by omega)⟩ hP9 hD9 hS) hS.2.2 dX9_readSale_94
      · rw [Int32.lt_iff_toInt_lt] at c_16
        refine lv_aload_n hx hb dX9_readSale_62 rfl (lv_at hl 2 rfl) ?_
        refine lv_aload_n hx hb dX9_readSale_63 rfl (lv_at hl 3 rfl) ?_
        refine lv_iload_n hx hb dX9_readSale_64 rfl (lv_at hl 0 rfl) ?_
        have hP : va_P (gg_D G) classes ([] ++ ([(tp, .inr (8, [.ref bp, .int n, .int x52_2, .int x52_3, .int x52_4])), (bp, .inl (G.2.2 0, 400, .inl bf))] ++ wt)) H := hP
        have hD : va_D A ([] ++ ([(tp, .inr (8, [.ref bp, .int n, .int x52_2, .int x52_3, .int x52_4])), (bp, .inl (G.2.2 0, 400, .inl bf))] ++ wt)) := hD
        refine gt_callI (wr := []) (va_runV (As := [.ref tp, .int x52_0]) (rest := []) ⟨hx, hb, hml, hown, ht⟩ (d_readClause l G Γ H.size wt hT K V t x52_0 tp bp n x52_2 x52_3 x52_4 bf k_t (by first | assumption | omega) (by first | assumption | omega) (by first | assumption | omega) (by first | assumption | omega) (by first | assumption | omega)) (cwV 2 ht (ts_gV wd_582 wd_584 wd_1 wd_124 wd_585) rfl rfl rfl (by decide +kernel) ⟨Nat.le_of_ble_eq_true rfl, Nat.le_of_ble_eq_true rfl⟩) (gx_preW (we := [(tp, .inr (8, [.ref bp, .int n, .int x52_2, .int x52_3, .int x52_4])), (bp, .inl (G.2.2 0, 400, .inl bf))]) (ci := 9) hK hT (tw_right hP) (tw_rightD hD) hX hS (tw_free hD hS hA) k_t (by decide) rfl) rfl rfl hl.1 rfl (lv_room (Nat.le_of_ble_eq_true rfl)) dX9_readSale_65 ⟨Nat.le_of_ble_eq_true rfl, Nat.le_of_ble_eq_true rfl⟩) hP hD hS hA (fun r_18 u H locs hw hP hD hS => ?_)
        obtain ⟨y_19, y_20, y_21, wt⟩ := u
        obtain ⟨hT, hkp, w_22, w_23, w_24, lo_r_18, hi_r_18⟩ := hw
        have hW := hW.call (show ∀ x ∈ [900, 901, 902, 903], x ∈ [900, 901, 902, 903] by decide) hkp
        have hP : va_P (gg_D G) classes ([(tp, .inr (8, [.ref bp, .int n, .int y_19, .int y_20, .int y_21])), (bp, .inl (G.2.2 0, 400, .inl bf))] ++ wt) H := hP
        have hD : va_D A ([(tp, .inr (8, [.ref bp, .int n, .int y_19, .int y_20, .int y_21])), (bp, .inl (G.2.2 0, 400, .inl bf))] ++ wt) := hD
        refine lv_if_eq (tgt := 82) hx hb dX9_readSale_68 (by decide) (fun c_25 => ?_) (fun c_25 => ?_)
        · rw [← Int32.toInt_inj] at c_25
          refine lv_iconst (v := 0) hx hb dX9_readSale_82 (by decide +kernel) ?_
          refine lv_istore_n (lv' := [(2, .int 0), (3, .int x52_0), (0, .ref t), (1, .ref tp)]) hx hb dX9_readSale_83 rfl hl (by decide) rfl (fun ls hl => ?_)
          obtain ⟨t_26, et_26⟩ : ∃ zz_ : Int32, x52_0 + Int32.ofInt (1) = zz_ := ⟨_, rfl⟩
          have ft_26 : t_26.toInt = x52_0.toInt + (1 : Int32).toInt := ia_add (y := 1) et_26 (by omega) (by omega)
          refine lv_iinc (v := t_26) (lv' := [(3, .int t_26), (2, .int 0), (0, .ref t), (1, .ref tp)]) hx hb dX9_readSale_84 hl (k := 1) rfl et_26 (by decide) rfl (fun ls hl => ?_)
          refine lv_goto (tgt := 52) hx hb dX9_readSale_87 (by decide) ?_
          exact ih52 (t_26, 0, y_19, y_20, y_21) (show 0 ≤ t_26.toInt ∧ t_26.toInt ≤ 41 ∧ 0 ≤ (0 : Int32).toInt ∧ (0 : Int32).toInt ≤ 1 ∧ 0 ≤ y_19.toInt ∧ y_19.toInt ≤ 400 ∧ 0 ≤ y_20.toInt ∧ y_20.toInt ≤ 400 ∧ y_19.toInt + y_20.toInt ≤ 400 from ⟨by omega, by omega, by omega, by omega, by omega, by omega, by omega, by omega, by omega⟩) (show (41 - t_26.toInt).toNat < (41 - x52_0.toInt).toNat by omega) H locs wt ls hT hW hP hD hS (lv_sub hl [0, 1, 2, 3] rfl)
        · rw [← Int32.toInt_inj] at c_25
          refine lv_aload_n hx hb dX9_readSale_71 rfl (lv_at hl 3 rfl) ?_
          have hP : va_P (gg_D G) classes ([] ++ ([(tp, .inr (8, [.ref bp, .int n, .int y_19, .int y_20, .int y_21])), (bp, .inl (G.2.2 0, 400, .inl bf))] ++ wt)) H := hP
          have hD : va_D A ([] ++ ([(tp, .inr (8, [.ref bp, .int n, .int y_19, .int y_20, .int y_21])), (bp, .inl (G.2.2 0, 400, .inl bf))] ++ wt)) := hD
          refine gt_callI (wr := []) (va_runV (As := []) (rest := []) ⟨hx, hb, hml, hown, ht⟩ (d_another l G Γ H.size wt hT tp bp n y_19 y_20 y_21 bf (by first | assumption | omega) (by first | assumption | omega) (by first | assumption | omega) (by first | assumption | omega) (by first | assumption | omega)) (cwV 0 ht (ts_gV wd_672 wd_673 wd_674 wd_123 wd_675) rfl rfl rfl (by decide +kernel) ⟨Nat.le_of_ble_eq_true rfl, Nat.le_of_ble_eq_true rfl⟩) (gc_preV (ci := 8) (q0 := 0) hK (tw_right hP) (tw_rightD hD) rfl rfl) rfl rfl hl.1 rfl (lv_room (Nat.le_of_ble_eq_true rfl)) dX9_readSale_72 ⟨Nat.le_of_ble_eq_true rfl, Nat.le_of_ble_eq_true rfl⟩) hP hD hS hA (fun r_27 u H locs hw hP hD hS => ?_)
          obtain ⟨y_28, y_29, y_30, wt⟩ := u
          obtain ⟨hT, hkp, w_31, w_32, w_33, lo_r_27, hi_r_27⟩ := hw
          have hW := hW.call (show ∀ x ∈ [], x ∈ [900, 901, 902, 903] by decide) hkp
          have hP : va_P (gg_D G) classes ([(tp, .inr (8, [.ref bp, .int n, .int y_28, .int y_29, .int y_30])), (bp, .inl (G.2.2 0, 400, .inl bf))] ++ wt) H := hP
          have hD : va_D A ([(tp, .inr (8, [.ref bp, .int n, .int y_28, .int y_29, .int y_30])), (bp, .inl (G.2.2 0, 400, .inl bf))] ++ wt) := hD
          refine lv_if_eq (tgt := 82) hx hb dX9_readSale_75 (by decide) (fun c_34 => ?_) (fun c_34 => ?_)
          · rw [← Int32.toInt_inj] at c_34
            refine lv_iconst (v := 0) hx hb dX9_readSale_82 (by decide +kernel) ?_
            refine lv_istore_n (lv' := [(2, .int 0), (3, .int x52_0), (0, .ref t), (1, .ref tp)]) hx hb dX9_readSale_83 rfl hl (by decide) rfl (fun ls hl => ?_)
            obtain ⟨t_35, et_35⟩ : ∃ zz_ : Int32, x52_0 + Int32.ofInt (1) = zz_ := ⟨_, rfl⟩
            have ft_35 : t_35.toInt = x52_0.toInt + (1 : Int32).toInt := ia_add (y := 1) et_35 (by omega) (by omega)
            refine lv_iinc (v := t_35) (lv' := [(3, .int t_35), (2, .int 0), (0, .ref t), (1, .ref tp)]) hx hb dX9_readSale_84 hl (k := 1) rfl et_35 (by decide) rfl (fun ls hl => ?_)
            refine lv_goto (tgt := 52) hx hb dX9_readSale_87 (by decide) ?_
            exact ih52 (t_35, 0, y_28, y_29, y_30) (show 0 ≤ t_35.toInt ∧ t_35.toInt ≤ 41 ∧ 0 ≤ (0 : Int32).toInt ∧ (0 : Int32).toInt ≤ 1 ∧ 0 ≤ y_28.toInt ∧ y_28.toInt ≤ 400 ∧ 0 ≤ y_29.toInt ∧ y_29.toInt ≤ 400 ∧ y_28.toInt + y_29.toInt ≤ 400 from ⟨by omega, by omega, by omega, by omega, by omega, by omega, by omega, by omega, by omega⟩) (show (41 - t_35.toInt).toNat < (41 - x52_0.toInt).toNat by omega) H locs wt ls hT hW hP hD hS (lv_sub hl [0, 1, 2, 3] rfl)
          · rw [← Int32.toInt_inj] at c_34
            refine lv_iconst (v := 1) hx hb dX9_readSale_78 (by decide +kernel) ?_
            refine lv_goto (tgt := 83) hx hb dX9_readSale_79 (by decide) ?_
            refine lv_istore_n (lv' := [(2, .int 1), (3, .int x52_0), (0, .ref t), (1, .ref tp)]) hx hb dX9_readSale_83 rfl hl (by decide) rfl (fun ls hl => ?_)
            obtain ⟨t_36, et_36⟩ : ∃ zz_ : Int32, x52_0 + Int32.ofInt (1) = zz_ := ⟨_, rfl⟩
            have ft_36 : t_36.toInt = x52_0.toInt + (1 : Int32).toInt := ia_add (y := 1) et_36 (by omega) (by omega)
            refine lv_iinc (v := t_36) (lv' := [(3, .int t_36), (2, .int 1), (0, .ref t), (1, .ref tp)]) hx hb dX9_readSale_84 hl (k := 1) rfl et_36 (by decide) rfl (fun ls hl => ?_)
            refine lv_goto (tgt := 52) hx hb dX9_readSale_87 (by decide) ?_
            exact ih52 (t_36, 1, y_28, y_29, y_30) (show 0 ≤ t_36.toInt ∧ t_36.toInt ≤ 41 ∧ 0 ≤ (1 : Int32).toInt ∧ (1 : Int32).toInt ≤ 1 ∧ 0 ≤ y_28.toInt ∧ y_28.toInt ≤ 400 ∧ 0 ≤ y_29.toInt ∧ y_29.toInt ≤ 400 ∧ y_28.toInt + y_29.toInt ≤ 400 from ⟨by omega, by omega, by omega, by omega, by omega, by omega, by omega, by omega, by omega⟩) (show (41 - t_36.toInt).toNat < (41 - x52_0.toInt).toNat by omega) H locs wt ls hT hW hP hD hS (lv_sub hl [0, 1, 2, 3] rfl)
  · rw [Int32.le_iff_toInt_le] at c_7
    refine lv_aload_n hx hb dX9_readSale_31 rfl (lv_at hl 1 rfl) ?_
    refine tr_get (ci := 9) hx hb ht hown hK hT hP k_t (by decide) i_X9 rfl 6 (by decide) wd_198 rfl dX9_readSale_32 (fun v hv hf_37 => ?_)
    obtain ⟨q_38, rfl, hq_38⟩ := hv
    refine lv_iload_n hx hb dX9_readSale_35 rfl (lv_at hl 0 rfl) ?_
    refine lv_iconst (v := 0) hx hb dX9_readSale_36 (by decide +kernel) ?_
    refine tr_iast hx hb hK hT hP hD hS 24 hq_38 (by decide) (by decide) (show vp_in _ (tk_len 24) from ia_in (n := 15) (by omega) (by omega)) (show tk_e 24 _ from trivial) dX9_readSale_37 (fun H locs wt hT hfl hP hD hS => ?_)
    have hW := hW.arr hfl
    obtain ⟨t_39, et_39⟩ : ∃ zz_ : Int32, x22_0 + Int32.ofInt (1) = zz_ := ⟨_, rfl⟩
    have ft_39 : t_39.toInt = x22_0.toInt + (1 : Int32).toInt := ia_add (y := 1) et_39 (by omega) (by omega)
    refine lv_iinc (v := t_39) (lv' := [(2, .int t_39), (0, .ref t), (1, .ref tp)]) hx hb dX9_readSale_38 hl (k := 0) rfl et_39 (by decide) rfl (fun ls hl => ?_)
    refine lv_goto (tgt := 22) hx hb dX9_readSale_41 (by decide) ?_
    exact ih22 t_39 (show 0 ≤ t_39.toInt ∧ t_39.toInt ≤ 15 from ⟨by omega, by omega⟩) (show (15 - t_39.toInt).toNat < (15 - x22_0.toInt).toNat by omega) H locs wt ls hT hW hP hD hS (lv_sub hl [0, 1, 2] rfl)

theorem wd_590 : (Jvm.Cond.code ({ cls := "SilentSale$Tape", name := "whichWord", desc := "(Ljava/lang/String;)I" } : Jvm.MethodName) prog_10_method_16_code (6 : Nat) (Option.some Jvm.ClassFile.FieldType.int)) ∈ tb_L := tb_in (i := 590) (by decide +kernel) (by decide +kernel)
theorem wd_591 : (Jvm.Cond.methodLink "SilentSale$Tape" (49 : Nat) ({ cls := "java/lang/String", name := "length", desc := "()I" } : Jvm.MethodName)) ∈ tb_L := tb_in (i := 591) (by decide +kernel) (by decide +kernel)
theorem wd_592 : (Jvm.Cond.instanceMethod ({ cls := "java/lang/String", name := "length", desc := "()I" } : Jvm.MethodName)) ∈ tb_L := tb_in (i := 592) (by decide +kernel) (by decide +kernel)
theorem wd_593 : (Jvm.Cond.selects "java/lang/String" ({ cls := "java/lang/String", name := "length", desc := "()I" } : Jvm.MethodName) ({ cls := "java/lang/String", name := "length", desc := "()I" } : Jvm.MethodName)) ∈ tb_L := tb_in (i := 593) (by decide +kernel) (by decide +kernel)
theorem wd_601 : (Jvm.Cond.methodLink "SilentSale$Tape" (53 : Nat) ({ cls := "java/lang/String", name := "charAt", desc := "(I)C" } : Jvm.MethodName)) ∈ tb_L := tb_in (i := 601) (by decide +kernel) (by decide +kernel)
theorem wd_602 : (Jvm.Cond.instanceMethod ({ cls := "java/lang/String", name := "charAt", desc := "(I)C" } : Jvm.MethodName)) ∈ tb_L := tb_in (i := 602) (by decide +kernel) (by decide +kernel)
theorem wd_603 : (Jvm.Cond.selects "java/lang/String" ({ cls := "java/lang/String", name := "charAt", desc := "(I)C" } : Jvm.MethodName) ({ cls := "java/lang/String", name := "charAt", desc := "(I)C" } : Jvm.MethodName)) ∈ tb_L := tb_in (i := 603) (by decide +kernel) (by decide +kernel)
theorem dX8_whichWord_0 : decode cX8_whichWord 0 = .ok (.iconst 0, 1) := by decide +kernel
theorem dX8_whichWord_1 : decode cX8_whichWord 1 = .ok (.istore_n 2, 1) := by decide +kernel
theorem dX8_whichWord_2 : decode cX8_whichWord 2 = .ok (.iconst 0, 1) := by decide +kernel
theorem dX8_whichWord_3 : decode cX8_whichWord 3 = .ok (.istore_n 3, 1) := by decide +kernel
theorem dX8_whichWord_4 : decode cX8_whichWord 4 = .ok (.iconst 1, 1) := by decide +kernel
theorem dX8_whichWord_5 : decode cX8_whichWord 5 = .ok (.istore 4, 2) := by decide +kernel
theorem dX8_whichWord_7 : decode cX8_whichWord 7 = .ok (.iconst 0, 1) := by decide +kernel
theorem dX8_whichWord_8 : decode cX8_whichWord 8 = .ok (.istore 5, 2) := by decide +kernel
theorem dX8_whichWord_10 : decode cX8_whichWord 10 = .ok (.iload 5, 2) := by decide +kernel
theorem dX8_whichWord_12 : decode cX8_whichWord 12 = .ok (.aload_n 1, 1) := by decide +kernel
theorem dX8_whichWord_13 : decode cX8_whichWord 13 = .ok (.invokevirtual 49, 3) := by decide +kernel
theorem dX8_whichWord_16 : decode cX8_whichWord 16 = .ok (.if_icmp .gt 98, 3) := by decide +kernel
theorem dX8_whichWord_19 : decode cX8_whichWord 19 = .ok (.iload 5, 2) := by decide +kernel
theorem dX8_whichWord_21 : decode cX8_whichWord 21 = .ok (.aload_n 1, 1) := by decide +kernel
theorem dX8_whichWord_22 : decode cX8_whichWord 22 = .ok (.invokevirtual 49, 3) := by decide +kernel
theorem dX8_whichWord_25 : decode cX8_whichWord 25 = .ok (.if_icmp .eq 14, 3) := by decide +kernel
theorem dX8_whichWord_28 : decode cX8_whichWord 28 = .ok (.aload_n 1, 1) := by decide +kernel
theorem dX8_whichWord_29 : decode cX8_whichWord 29 = .ok (.iload 5, 2) := by decide +kernel
theorem dX8_whichWord_31 : decode cX8_whichWord 31 = .ok (.invokevirtual 53, 3) := by decide +kernel
theorem dX8_whichWord_34 : decode cX8_whichWord 34 = .ok (.bipush 32, 2) := by decide +kernel
theorem dX8_whichWord_36 : decode cX8_whichWord 36 = .ok (.if_icmp .ne 29, 3) := by decide +kernel
theorem dX8_whichWord_39 : decode cX8_whichWord 39 = .ok (.iload 4, 2) := by decide +kernel
theorem dX8_whichWord_41 : decode cX8_whichWord 41 = .ok (.ifCond .eq 13, 3) := by decide +kernel
theorem dX8_whichWord_54 : decode cX8_whichWord 54 = .ok (.iinc 2 1, 3) := by decide +kernel
theorem dX8_whichWord_57 : decode cX8_whichWord 57 = .ok (.iconst 0, 1) := by decide +kernel
theorem dX8_whichWord_58 : decode cX8_whichWord 58 = .ok (.istore_n 3, 1) := by decide +kernel
theorem dX8_whichWord_59 : decode cX8_whichWord 59 = .ok (.iconst 1, 1) := by decide +kernel
theorem dX8_whichWord_60 : decode cX8_whichWord 60 = .ok (.istore 4, 2) := by decide +kernel
theorem dX8_whichWord_62 : decode cX8_whichWord 62 = .ok (.goto 46, 3) := by decide +kernel
theorem dX8_whichWord_65 : decode cX8_whichWord 65 = .ok (.iload 4, 2) := by decide +kernel
theorem dX8_whichWord_67 : decode cX8_whichWord 67 = .ok (.ifCond .eq 35, 3) := by decide +kernel
theorem dX8_whichWord_70 : decode cX8_whichWord 70 = .ok (.iload_n 3, 1) := by decide +kernel
theorem dX8_whichWord_71 : decode cX8_whichWord 71 = .ok (.aload_n 0, 1) := by decide +kernel
theorem dX8_whichWord_72 : decode cX8_whichWord 72 = .ok (.getfield 22, 3) := by decide +kernel
theorem dX8_whichWord_75 : decode cX8_whichWord 75 = .ok (.if_icmp .ge 27, 3) := by decide +kernel
theorem dX8_whichWord_102 : decode cX8_whichWord 102 = .ok (.iconst 0, 1) := by decide +kernel
theorem dX8_whichWord_103 : decode cX8_whichWord 103 = .ok (.istore 4, 2) := by decide +kernel
theorem dX8_whichWord_105 : decode cX8_whichWord 105 = .ok (.iinc 3 1, 3) := by decide +kernel
theorem dX8_whichWord_108 : decode cX8_whichWord 108 = .ok (.iinc 5 1, 3) := by decide +kernel
theorem dX8_whichWord_111 : decode cX8_whichWord 111 = .ok (.goto (-101), 3) := by decide +kernel
theorem dX8_whichWord_114 : decode cX8_whichWord 114 = .ok (.iconst (-1), 1) := by decide +kernel
theorem dX8_whichWord_115 : decode cX8_whichWord 115 = .ok (.ireturn, 1) := by decide +kernel
theorem wd_585 : (Jvm.Cond.code ({ cls := "SilentSale$Terms", name := "readClause", desc := "(LSilentSale$Tape;I)Z" } : Jvm.MethodName) prog_11_method_6_code (4 : Nat) (Option.some Jvm.ClassFile.FieldType.boolean)) ∈ tb_L := tb_in (i := 585) (by decide +kernel) (by decide +kernel)
theorem wd_587 : (Jvm.Cond.methodLink "SilentSale$Terms" (75 : Nat) ({ cls := "SilentSale$Tape", name := "whichWord", desc := "(Ljava/lang/String;)I" } : Jvm.MethodName)) ∈ tb_L := tb_in (i := 587) (by decide +kernel) (by decide +kernel)
theorem wd_588 : (Jvm.Cond.instanceMethod ({ cls := "SilentSale$Tape", name := "whichWord", desc := "(Ljava/lang/String;)I" } : Jvm.MethodName)) ∈ tb_L := tb_in (i := 588) (by decide +kernel) (by decide +kernel)
theorem wd_589 : (Jvm.Cond.selects "SilentSale$Tape" ({ cls := "SilentSale$Tape", name := "whichWord", desc := "(Ljava/lang/String;)I" } : Jvm.MethodName) ({ cls := "SilentSale$Tape", name := "whichWord", desc := "(Ljava/lang/String;)I" } : Jvm.MethodName)) ∈ tb_L := tb_in (i := 589) (by decide +kernel) (by decide +kernel)
theorem wd_639 : (Jvm.Cond.methodLink "SilentSale$Terms" (79 : Nat) ({ cls := "SilentSale$Tape", name := "place", desc := "()I" } : Jvm.MethodName)) ∈ tb_L := tb_in (i := 639) (by decide +kernel) (by decide +kernel)
theorem wd_640 : (Jvm.Cond.instanceMethod ({ cls := "SilentSale$Tape", name := "place", desc := "()I" } : Jvm.MethodName)) ∈ tb_L := tb_in (i := 640) (by decide +kernel) (by decide +kernel)
theorem wd_641 : (Jvm.Cond.selects "SilentSale$Tape" ({ cls := "SilentSale$Tape", name := "place", desc := "()I" } : Jvm.MethodName) ({ cls := "SilentSale$Tape", name := "place", desc := "()I" } : Jvm.MethodName)) ∈ tb_L := tb_in (i := 641) (by decide +kernel) (by decide +kernel)
theorem wd_643 : (Jvm.Cond.methodLink "SilentSale$Terms" (82 : Nat) ({ cls := "SilentSale$Tape", name := "refuse", desc := "(II)Z" } : Jvm.MethodName)) ∈ tb_L := tb_in (i := 643) (by decide +kernel) (by decide +kernel)
theorem wd_644 : (Jvm.Cond.instanceMethod ({ cls := "SilentSale$Tape", name := "refuse", desc := "(II)Z" } : Jvm.MethodName)) ∈ tb_L := tb_in (i := 644) (by decide +kernel) (by decide +kernel)
theorem wd_645 : (Jvm.Cond.selects "SilentSale$Tape" ({ cls := "SilentSale$Tape", name := "refuse", desc := "(II)Z" } : Jvm.MethodName) ({ cls := "SilentSale$Tape", name := "refuse", desc := "(II)Z" } : Jvm.MethodName)) ∈ tb_L := tb_in (i := 645) (by decide +kernel) (by decide +kernel)
theorem dX9_readClause_0 : decode cX9_readClause 0 = .ok (.aload_n 1, 1) := by decide +kernel
theorem dX9_readClause_1 : decode cX9_readClause 1 = .ok (.ldc 73, 2) := by decide +kernel
theorem dX9_readClause_3 : decode cX9_readClause 3 = .ok (.invokevirtual 75, 3) := by decide +kernel
theorem dX9_readClause_6 : decode cX9_readClause 6 = .ok (.istore_n 3, 1) := by decide +kernel
theorem dX9_readClause_7 : decode cX9_readClause 7 = .ok (.iload_n 3, 1) := by decide +kernel
theorem dX9_readClause_8 : decode cX9_readClause 8 = .ok (.iconst (-1), 1) := by decide +kernel
theorem dX9_readClause_9 : decode cX9_readClause 9 = .ok (.if_icmp .ne 13, 3) := by decide +kernel
theorem dX9_readClause_12 : decode cX9_readClause 12 = .ok (.aload_n 1, 1) := by decide +kernel
theorem dX9_readClause_13 : decode cX9_readClause 13 = .ok (.aload_n 1, 1) := by decide +kernel
theorem dX9_readClause_14 : decode cX9_readClause 14 = .ok (.invokevirtual 79, 3) := by decide +kernel
theorem dX9_readClause_17 : decode cX9_readClause 17 = .ok (.iconst 0, 1) := by decide +kernel
theorem dX9_readClause_18 : decode cX9_readClause 18 = .ok (.invokevirtual 82, 3) := by decide +kernel
theorem dX9_readClause_21 : decode cX9_readClause 21 = .ok (.ireturn, 1) := by decide +kernel
theorem wd_1 : (Jvm.Cond.selects "SilentSale$Terms" ({ cls := "SilentSale$Terms", name := "readClause", desc := "(LSilentSale$Tape;I)Z" } : Jvm.MethodName) ({ cls := "SilentSale$Terms", name := "readClause", desc := "(LSilentSale$Tape;I)Z" } : Jvm.MethodName)) ∈ tb_L := tb_in (i := 1) (by decide +kernel) (by decide +kernel)
theorem wd_573 : (Jvm.Cond.code ({ cls := "SilentSale$Terms", name := "readSale", desc := "(LSilentSale$Tape;)I" } : Jvm.MethodName) prog_11_method_5_code (4 : Nat) (Option.some Jvm.ClassFile.FieldType.int)) ∈ tb_L := tb_in (i := 573) (by decide +kernel) (by decide +kernel)
theorem wd_574 : (Jvm.Cond.methodLink "SilentSale$Terms" (56 : Nat) ({ cls := "SilentSale$Tape", name := "rewind", desc := "()V" } : Jvm.MethodName)) ∈ tb_L := tb_in (i := 574) (by decide +kernel) (by decide +kernel)
theorem wd_575 : (Jvm.Cond.instanceMethod ({ cls := "SilentSale$Tape", name := "rewind", desc := "()V" } : Jvm.MethodName)) ∈ tb_L := tb_in (i := 575) (by decide +kernel) (by decide +kernel)
theorem wd_576 : (Jvm.Cond.selects "SilentSale$Tape" ({ cls := "SilentSale$Tape", name := "rewind", desc := "()V" } : Jvm.MethodName) ({ cls := "SilentSale$Tape", name := "rewind", desc := "()V" } : Jvm.MethodName)) ∈ tb_L := tb_in (i := 576) (by decide +kernel) (by decide +kernel)
theorem wd_582 : (Jvm.Cond.methodLink "SilentSale$Terms" (61 : Nat) ({ cls := "SilentSale$Terms", name := "readClause", desc := "(LSilentSale$Tape;I)Z" } : Jvm.MethodName)) ∈ tb_L := tb_in (i := 582) (by decide +kernel) (by decide +kernel)
theorem wd_584 : (Jvm.Cond.instanceMethod ({ cls := "SilentSale$Terms", name := "readClause", desc := "(LSilentSale$Tape;I)Z" } : Jvm.MethodName)) ∈ tb_L := tb_in (i := 584) (by decide +kernel) (by decide +kernel)
theorem wd_684 : (Jvm.Cond.methodLink "SilentSale$Terms" (69 : Nat) ({ cls := "SilentSale$Tape", name := "firstFault", desc := "()I" } : Jvm.MethodName)) ∈ tb_L := tb_in (i := 684) (by decide +kernel) (by decide +kernel)
theorem wd_685 : (Jvm.Cond.instanceMethod ({ cls := "SilentSale$Tape", name := "firstFault", desc := "()I" } : Jvm.MethodName)) ∈ tb_L := tb_in (i := 685) (by decide +kernel) (by decide +kernel)
theorem wd_686 : (Jvm.Cond.selects "SilentSale$Tape" ({ cls := "SilentSale$Tape", name := "firstFault", desc := "()I" } : Jvm.MethodName) ({ cls := "SilentSale$Tape", name := "firstFault", desc := "()I" } : Jvm.MethodName)) ∈ tb_L := tb_in (i := 686) (by decide +kernel) (by decide +kernel)
theorem dX9_readSale_0 : decode cX9_readSale 0 = .ok (.aload_n 0, 1) := by decide +kernel
theorem dX9_readSale_1 : decode cX9_readSale 1 = .ok (.iconst 0, 1) := by decide +kernel
theorem dX9_readSale_2 : decode cX9_readSale 2 = .ok (.putfield 9, 3) := by decide +kernel
theorem dX9_readSale_5 : decode cX9_readSale 5 = .ok (.aload_n 0, 1) := by decide +kernel
theorem dX9_readSale_6 : decode cX9_readSale 6 = .ok (.iconst 0, 1) := by decide +kernel
theorem dX9_readSale_7 : decode cX9_readSale 7 = .ok (.putfield 15, 3) := by decide +kernel
theorem dX9_readSale_10 : decode cX9_readSale 10 = .ok (.aload_n 0, 1) := by decide +kernel
theorem dX9_readSale_11 : decode cX9_readSale 11 = .ok (.iconst 0, 1) := by decide +kernel
theorem dX9_readSale_12 : decode cX9_readSale 12 = .ok (.putfield 18, 3) := by decide +kernel
theorem dX9_readSale_15 : decode cX9_readSale 15 = .ok (.aload_n 0, 1) := by decide +kernel
theorem dX9_readSale_16 : decode cX9_readSale 16 = .ok (.iconst 0, 1) := by decide +kernel
theorem dX9_readSale_17 : decode cX9_readSale 17 = .ok (.putfield 21, 3) := by decide +kernel
theorem dX9_readSale_20 : decode cX9_readSale 20 = .ok (.iconst 0, 1) := by decide +kernel
theorem dX9_readSale_21 : decode cX9_readSale 21 = .ok (.istore_n 2, 1) := by decide +kernel
theorem dX9_readSale_22 : decode cX9_readSale 22 = .ok (.iload_n 2, 1) := by decide +kernel
theorem dX9_readSale_23 : decode cX9_readSale 23 = .ok (.aload_n 0, 1) := by decide +kernel
theorem dX9_readSale_24 : decode cX9_readSale 24 = .ok (.getfield 31, 3) := by decide +kernel
theorem dX9_readSale_27 : decode cX9_readSale 27 = .ok (.arraylength, 1) := by decide +kernel
theorem dX9_readSale_28 : decode cX9_readSale 28 = .ok (.if_icmp .ge 16, 3) := by decide +kernel
theorem dX9_readSale_31 : decode cX9_readSale 31 = .ok (.aload_n 0, 1) := by decide +kernel
theorem dX9_readSale_32 : decode cX9_readSale 32 = .ok (.getfield 31, 3) := by decide +kernel
theorem dX9_readSale_35 : decode cX9_readSale 35 = .ok (.iload_n 2, 1) := by decide +kernel
theorem dX9_readSale_36 : decode cX9_readSale 36 = .ok (.iconst 0, 1) := by decide +kernel
theorem dX9_readSale_37 : decode cX9_readSale 37 = .ok (.iastore, 1) := by decide +kernel
theorem dX9_readSale_38 : decode cX9_readSale 38 = .ok (.iinc 2 1, 3) := by decide +kernel
theorem dX9_readSale_41 : decode cX9_readSale 41 = .ok (.goto (-19), 3) := by decide +kernel
theorem dX9_readSale_44 : decode cX9_readSale 44 = .ok (.aload_n 1, 1) := by decide +kernel
theorem dX9_readSale_45 : decode cX9_readSale 45 = .ok (.invokevirtual 56, 3) := by decide +kernel
theorem dX9_readSale_48 : decode cX9_readSale 48 = .ok (.iconst 1, 1) := by decide +kernel
theorem dX9_readSale_49 : decode cX9_readSale 49 = .ok (.istore_n 2, 1) := by decide +kernel
theorem dX9_readSale_50 : decode cX9_readSale 50 = .ok (.iconst 0, 1) := by decide +kernel
theorem dX9_readSale_51 : decode cX9_readSale 51 = .ok (.istore_n 3, 1) := by decide +kernel
theorem dX9_readSale_52 : decode cX9_readSale 52 = .ok (.iload_n 2, 1) := by decide +kernel
theorem dX9_readSale_53 : decode cX9_readSale 53 = .ok (.ifCond .eq 37, 3) := by decide +kernel
theorem dX9_readSale_56 : decode cX9_readSale 56 = .ok (.iload_n 3, 1) := by decide +kernel
theorem dX9_readSale_57 : decode cX9_readSale 57 = .ok (.bipush 40, 2) := by decide +kernel
theorem dX9_readSale_59 : decode cX9_readSale 59 = .ok (.if_icmp .gt 31, 3) := by decide +kernel
theorem dX9_readSale_62 : decode cX9_readSale 62 = .ok (.aload_n 0, 1) := by decide +kernel
theorem dX9_readSale_63 : decode cX9_readSale 63 = .ok (.aload_n 1, 1) := by decide +kernel
theorem dX9_readSale_64 : decode cX9_readSale 64 = .ok (.iload_n 3, 1) := by decide +kernel
theorem dX9_readSale_65 : decode cX9_readSale 65 = .ok (.invokevirtual 61, 3) := by decide +kernel
theorem dX9_readSale_68 : decode cX9_readSale 68 = .ok (.ifCond .eq 14, 3) := by decide +kernel
theorem dX9_readSale_82 : decode cX9_readSale 82 = .ok (.iconst 0, 1) := by decide +kernel
theorem dX9_readSale_83 : decode cX9_readSale 83 = .ok (.istore_n 2, 1) := by decide +kernel
theorem dX9_readSale_84 : decode cX9_readSale 84 = .ok (.iinc 3 1, 3) := by decide +kernel
theorem dX9_readSale_87 : decode cX9_readSale 87 = .ok (.goto (-35), 3) := by decide +kernel
theorem dX9_readSale_90 : decode cX9_readSale 90 = .ok (.aload_n 1, 1) := by decide +kernel
theorem dX9_readSale_91 : decode cX9_readSale 91 = .ok (.invokevirtual 69, 3) := by decide +kernel
theorem dX9_readSale_94 : decode cX9_readSale 94 = .ok (.ireturn, 1) := by decide +kernel
theorem wd_715 : (Jvm.Cond.code ({ cls := "SilentSale$Rule", name := "readHead", desc := "(LSilentSale$Tape;I)Z" } : Jvm.MethodName) prog_6_method_4_code (2 : Nat) (Option.some Jvm.ClassFile.FieldType.boolean)) ∈ tb_L := tb_in (i := 715) (by decide +kernel) (by decide +kernel)
theorem wd_717 : (Jvm.Cond.methodLink "SilentSale$Rule" (81 : Nat) ({ cls := "SilentSale$Tape", name := "whichWord", desc := "(Ljava/lang/String;)I" } : Jvm.MethodName)) ∈ tb_L := tb_in (i := 717) (by decide +kernel) (by decide +kernel)
theorem wd_718 : (Jvm.Cond.methodLink "SilentSale$Rule" (85 : Nat) ({ cls := "SilentSale$Tape", name := "place", desc := "()I" } : Jvm.MethodName)) ∈ tb_L := tb_in (i := 718) (by decide +kernel) (by decide +kernel)
theorem wd_719 : (Jvm.Cond.methodLink "SilentSale$Rule" (88 : Nat) ({ cls := "SilentSale$Tape", name := "refuse", desc := "(II)Z" } : Jvm.MethodName)) ∈ tb_L := tb_in (i := 719) (by decide +kernel) (by decide +kernel)
theorem dX4_readHead_0 : decode cX4_readHead 0 = .ok (.aload_n 0, 1) := by decide +kernel
theorem dX4_readHead_1 : decode cX4_readHead 1 = .ok (.ldc 79, 2) := by decide +kernel
theorem dX4_readHead_3 : decode cX4_readHead 3 = .ok (.invokevirtual 81, 3) := by decide +kernel
theorem dX4_readHead_6 : decode cX4_readHead 6 = .ok (.iconst (-1), 1) := by decide +kernel
theorem dX4_readHead_7 : decode cX4_readHead 7 = .ok (.if_icmp .ne 13, 3) := by decide +kernel
theorem dX4_readHead_10 : decode cX4_readHead 10 = .ok (.aload_n 0, 1) := by decide +kernel
theorem dX4_readHead_11 : decode cX4_readHead 11 = .ok (.aload_n 0, 1) := by decide +kernel
theorem dX4_readHead_12 : decode cX4_readHead 12 = .ok (.invokevirtual 85, 3) := by decide +kernel
theorem dX4_readHead_15 : decode cX4_readHead 15 = .ok (.iconst 0, 1) := by decide +kernel
theorem dX4_readHead_16 : decode cX4_readHead 16 = .ok (.invokevirtual 88, 3) := by decide +kernel
theorem dX4_readHead_19 : decode cX4_readHead 19 = .ok (.ireturn, 1) := by decide +kernel
theorem wd_711 : (Jvm.Cond.code ({ cls := "SilentSale$Rule", name := "readRule", desc := "(LSilentSale$Tape;)I" } : Jvm.MethodName) prog_6_method_3_code (5 : Nat) (Option.some Jvm.ClassFile.FieldType.int)) ∈ tb_L := tb_in (i := 711) (by decide +kernel) (by decide +kernel)
theorem wd_712 : (Jvm.Cond.methodLink "SilentSale$Rule" (45 : Nat) ({ cls := "SilentSale$Tape", name := "rewind", desc := "()V" } : Jvm.MethodName)) ∈ tb_L := tb_in (i := 712) (by decide +kernel) (by decide +kernel)
theorem wd_713 : (Jvm.Cond.methodLink "SilentSale$Rule" (50 : Nat) ({ cls := "SilentSale$Rule", name := "readHead", desc := "(LSilentSale$Tape;I)Z" } : Jvm.MethodName)) ∈ tb_L := tb_in (i := 713) (by decide +kernel) (by decide +kernel)
theorem wd_714 : (Jvm.Cond.static ({ cls := "SilentSale$Rule", name := "readHead", desc := "(LSilentSale$Tape;I)Z" } : Jvm.MethodName)) ∈ tb_L := tb_in (i := 714) (by decide +kernel) (by decide +kernel)
theorem wd_779 : (Jvm.Cond.methodLink "SilentSale$Rule" (75 : Nat) ({ cls := "SilentSale$Tape", name := "firstFault", desc := "()I" } : Jvm.MethodName)) ∈ tb_L := tb_in (i := 779) (by decide +kernel) (by decide +kernel)
theorem dX4_readRule_0 : decode cX4_readRule 0 = .ok (.aload_n 0, 1) := by decide +kernel
theorem dX4_readRule_1 : decode cX4_readRule 1 = .ok (.iconst 0, 1) := by decide +kernel
theorem dX4_readRule_2 : decode cX4_readRule 2 = .ok (.putfield 32, 3) := by decide +kernel
theorem dX4_readRule_5 : decode cX4_readRule 5 = .ok (.aload_n 0, 1) := by decide +kernel
theorem dX4_readRule_6 : decode cX4_readRule 6 = .ok (.iconst 0, 1) := by decide +kernel
theorem dX4_readRule_7 : decode cX4_readRule 7 = .ok (.putfield 35, 3) := by decide +kernel
theorem dX4_readRule_10 : decode cX4_readRule 10 = .ok (.aload_n 0, 1) := by decide +kernel
theorem dX4_readRule_11 : decode cX4_readRule 11 = .ok (.iconst 0, 1) := by decide +kernel
theorem dX4_readRule_12 : decode cX4_readRule 12 = .ok (.putfield 38, 3) := by decide +kernel
theorem dX4_readRule_15 : decode cX4_readRule 15 = .ok (.aload_n 1, 1) := by decide +kernel
theorem dX4_readRule_16 : decode cX4_readRule 16 = .ok (.invokevirtual 45, 3) := by decide +kernel
theorem dX4_readRule_19 : decode cX4_readRule 19 = .ok (.iconst 1, 1) := by decide +kernel
theorem dX4_readRule_20 : decode cX4_readRule 20 = .ok (.istore_n 2, 1) := by decide +kernel
theorem dX4_readRule_21 : decode cX4_readRule 21 = .ok (.iconst 0, 1) := by decide +kernel
theorem dX4_readRule_22 : decode cX4_readRule 22 = .ok (.istore_n 3, 1) := by decide +kernel
theorem dX4_readRule_23 : decode cX4_readRule 23 = .ok (.iload_n 2, 1) := by decide +kernel
theorem dX4_readRule_24 : decode cX4_readRule 24 = .ok (.ifCond .eq 118, 3) := by decide +kernel
theorem dX4_readRule_27 : decode cX4_readRule 27 = .ok (.iload_n 3, 1) := by decide +kernel
theorem dX4_readRule_28 : decode cX4_readRule 28 = .ok (.bipush 12, 2) := by decide +kernel
theorem dX4_readRule_30 : decode cX4_readRule 30 = .ok (.if_icmp .gt 112, 3) := by decide +kernel
theorem dX4_readRule_33 : decode cX4_readRule 33 = .ok (.aload_n 1, 1) := by decide +kernel
theorem dX4_readRule_34 : decode cX4_readRule 34 = .ok (.iload_n 3, 1) := by decide +kernel
theorem dX4_readRule_35 : decode cX4_readRule 35 = .ok (.invokestatic 50, 3) := by decide +kernel
theorem dX4_readRule_38 : decode cX4_readRule 38 = .ok (.ifCond .eq 15, 3) := by decide +kernel
theorem dX4_readRule_53 : decode cX4_readRule 53 = .ok (.iconst 0, 1) := by decide +kernel
theorem dX4_readRule_54 : decode cX4_readRule 54 = .ok (.istore 4, 2) := by decide +kernel
theorem dX4_readRule_56 : decode cX4_readRule 56 = .ok (.iload 4, 2) := by decide +kernel
theorem dX4_readRule_58 : decode cX4_readRule 58 = .ok (.ifCond .eq 39, 3) := by decide +kernel
theorem dX4_readRule_97 : decode cX4_readRule 97 = .ok (.iload 4, 2) := by decide +kernel
theorem dX4_readRule_99 : decode cX4_readRule 99 = .ok (.ifCond .eq 16, 3) := by decide +kernel
theorem dX4_readRule_115 : decode cX4_readRule 115 = .ok (.iconst 0, 1) := by decide +kernel
theorem dX4_readRule_116 : decode cX4_readRule 116 = .ok (.istore 4, 2) := by decide +kernel
theorem dX4_readRule_118 : decode cX4_readRule 118 = .ok (.iload 4, 2) := by decide +kernel
theorem dX4_readRule_120 : decode cX4_readRule 120 = .ok (.ifCond .eq 14, 3) := by decide +kernel
theorem dX4_readRule_134 : decode cX4_readRule 134 = .ok (.iconst 0, 1) := by decide +kernel
theorem dX4_readRule_135 : decode cX4_readRule 135 = .ok (.istore_n 2, 1) := by decide +kernel
theorem dX4_readRule_136 : decode cX4_readRule 136 = .ok (.iinc 3 1, 3) := by decide +kernel
theorem dX4_readRule_139 : decode cX4_readRule 139 = .ok (.goto (-116), 3) := by decide +kernel
theorem dX4_readRule_142 : decode cX4_readRule 142 = .ok (.aload_n 1, 1) := by decide +kernel
theorem dX4_readRule_143 : decode cX4_readRule 143 = .ok (.invokevirtual 75, 3) := by decide +kernel
theorem dX4_readRule_146 : decode cX4_readRule 146 = .ok (.ireturn, 1) := by decide +kernel
theorem wd_569 : (Jvm.Cond.code ({ cls := "SilentSale", name := "sale", desc := "()I" } : Jvm.MethodName) prog_1_method_4_code (2 : Nat) (Option.some Jvm.ClassFile.FieldType.int)) ∈ tb_L := tb_in (i := 569) (by decide +kernel) (by decide +kernel)
theorem wd_570 : (Jvm.Cond.methodLink "SilentSale" (117 : Nat) ({ cls := "SilentSale$Terms", name := "readSale", desc := "(LSilentSale$Tape;)I" } : Jvm.MethodName)) ∈ tb_L := tb_in (i := 570) (by decide +kernel) (by decide +kernel)
theorem wd_571 : (Jvm.Cond.instanceMethod ({ cls := "SilentSale$Terms", name := "readSale", desc := "(LSilentSale$Tape;)I" } : Jvm.MethodName)) ∈ tb_L := tb_in (i := 571) (by decide +kernel) (by decide +kernel)
theorem wd_572 : (Jvm.Cond.selects "SilentSale$Terms" ({ cls := "SilentSale$Terms", name := "readSale", desc := "(LSilentSale$Tape;)I" } : Jvm.MethodName) ({ cls := "SilentSale$Terms", name := "readSale", desc := "(LSilentSale$Tape;)I" } : Jvm.MethodName)) ∈ tb_L := tb_in (i := 572) (by decide +kernel) (by decide +kernel)
theorem dX11_sale_0 : decode cX11_sale 0 = .ok (.aload_n 0, 1) := by decide +kernel
theorem dX11_sale_1 : decode cX11_sale 1 = .ok (.getfield 23, 3) := by decide +kernel
theorem dX11_sale_4 : decode cX11_sale 4 = .ok (.aload_n 0, 1) := by decide +kernel
theorem dX11_sale_5 : decode cX11_sale 5 = .ok (.getfield 10, 3) := by decide +kernel
theorem dX11_sale_8 : decode cX11_sale 8 = .ok (.invokevirtual 117, 3) := by decide +kernel
theorem dX11_sale_11 : decode cX11_sale 11 = .ok (.istore_n 1, 1) := by decide +kernel
theorem dX11_sale_12 : decode cX11_sale 12 = .ok (.iload_n 1, 1) := by decide +kernel
theorem dX11_sale_13 : decode cX11_sale 13 = .ok (.ifCond .eq 8, 3) := by decide +kernel
theorem dX11_sale_16 : decode cX11_sale 16 = .ok (.bipush (-2), 2) := by decide +kernel
theorem dX11_sale_18 : decode cX11_sale 18 = .ok (.iload_n 1, 1) := by decide +kernel
theorem dX11_sale_19 : decode cX11_sale 19 = .ok (.isub, 1) := by decide +kernel
theorem dX11_sale_20 : decode cX11_sale 20 = .ok (.ireturn, 1) := by decide +kernel
theorem wd_707 : (Jvm.Cond.code ({ cls := "SilentSale", name := "rule", desc := "()I" } : Jvm.MethodName) prog_1_method_5_code (2 : Nat) (Option.some Jvm.ClassFile.FieldType.int)) ∈ tb_L := tb_in (i := 707) (by decide +kernel) (by decide +kernel)
theorem wd_708 : (Jvm.Cond.methodLink "SilentSale" (133 : Nat) ({ cls := "SilentSale$Rule", name := "readRule", desc := "(LSilentSale$Tape;)I" } : Jvm.MethodName)) ∈ tb_L := tb_in (i := 708) (by decide +kernel) (by decide +kernel)
theorem wd_709 : (Jvm.Cond.instanceMethod ({ cls := "SilentSale$Rule", name := "readRule", desc := "(LSilentSale$Tape;)I" } : Jvm.MethodName)) ∈ tb_L := tb_in (i := 709) (by decide +kernel) (by decide +kernel)
theorem wd_710 : (Jvm.Cond.selects "SilentSale$Rule" ({ cls := "SilentSale$Rule", name := "readRule", desc := "(LSilentSale$Tape;)I" } : Jvm.MethodName) ({ cls := "SilentSale$Rule", name := "readRule", desc := "(LSilentSale$Tape;)I" } : Jvm.MethodName)) ∈ tb_L := tb_in (i := 710) (by decide +kernel) (by decide +kernel)
theorem dX11_rule_0 : decode cX11_rule 0 = .ok (.aload_n 0, 1) := by decide +kernel
theorem dX11_rule_1 : decode cX11_rule 1 = .ok (.getfield 92, 3) := by decide +kernel
theorem dX11_rule_4 : decode cX11_rule 4 = .ok (.bipush 6, 2) := by decide +kernel
theorem dX11_rule_6 : decode cX11_rule 6 = .ok (.if_icmp .lt 5, 3) := by decide +kernel
theorem dX11_rule_11 : decode cX11_rule 11 = .ok (.aload_n 0, 1) := by decide +kernel
theorem dX11_rule_12 : decode cX11_rule 12 = .ok (.getfield 52, 3) := by decide +kernel
theorem dX11_rule_15 : decode cX11_rule 15 = .ok (.aload_n 0, 1) := by decide +kernel
theorem dX11_rule_16 : decode cX11_rule 16 = .ok (.getfield 92, 3) := by decide +kernel
theorem dX11_rule_19 : decode cX11_rule 19 = .ok (.aaload, 1) := by decide +kernel
theorem dX11_rule_20 : decode cX11_rule 20 = .ok (.aload_n 0, 1) := by decide +kernel
theorem dX11_rule_21 : decode cX11_rule 21 = .ok (.getfield 10, 3) := by decide +kernel
theorem dX11_rule_24 : decode cX11_rule 24 = .ok (.invokevirtual 133, 3) := by decide +kernel
theorem dX11_rule_27 : decode cX11_rule 27 = .ok (.istore_n 1, 1) := by decide +kernel
theorem dX11_rule_28 : decode cX11_rule 28 = .ok (.aload_n 0, 1) := by decide +kernel
theorem dX11_rule_29 : decode cX11_rule 29 = .ok (.getfield 10, 3) := by decide +kernel
theorem dX11_rule_32 : decode cX11_rule 32 = .ok (.iconst 0, 1) := by decide +kernel
theorem dX11_rule_33 : decode cX11_rule 33 = .ok (.invokevirtual 114, 3) := by decide +kernel
theorem dX11_rule_36 : decode cX11_rule 36 = .ok (.iload_n 1, 1) := by decide +kernel
theorem dX11_rule_37 : decode cX11_rule 37 = .ok (.ifCond .eq 8, 3) := by decide +kernel
theorem dX11_rule_40 : decode cX11_rule 40 = .ok (.bipush (-2), 2) := by decide +kernel
theorem dX11_rule_42 : decode cX11_rule 42 = .ok (.iload_n 1, 1) := by decide +kernel
theorem dX11_rule_43 : decode cX11_rule 43 = .ok (.isub, 1) := by decide +kernel
theorem dX11_rule_44 : decode cX11_rule 44 = .ok (.ireturn, 1) := by decide +kernel
set_option maxHeartbeats 4000000 in
set_option maxRecDepth 100000 in
theorem c_Tape_which1 (l : Launch) (G : gg_T) (sz : Nat) (K : Nat → Nat) (V : Nat → Nat) (t : Nat) (b : Nat) (fl : Int32) : Met l yX8_whichWord (ts_L yX8_whichWord cX8_whichWord 6 (some .int)) ({ frames := 4, cells := 0, slots := 0, locals := 85 }) (gx_P G K V [(t, .inr (8, [.ref b, .int 0, .int 0, .int 0, .int fl]))] sz [.ref t, .ref (K 1)]) (gc_I G (va_A [(t, .inr (8, [.ref b, .int 0, .int 0, .int 0, .int fl]))] sz) (fun r (_ : Unit) => r = (-1)) (fun _ => [(t, .inr (8, [.ref b, .int 0, .int 0, .int 0, .int fl]))])) 0 0 (va_A [(t, .inr (8, [.ref b, .int 0, .int 0, .int 0, .int fl]))] sz) := by
  refine Met.ofW (cc := cX8_whichWord) (maxL := 6) (ret := (some .int)) (by decide) rfl ?_
  intro p e s m args below meth c s₁ B hml hv
  obtain ⟨rfl, hsz, hP, hK, hD0, hX⟩ := hv
  have hx := B.exec
  have hb := B.bytes
  have hr := B.returns
  have ht := ts_ht (atoms_spec (ws := ts_L yX8_whichWord cX8_whichWord 6 (some .int)) B.pre)
  have hown : s.vm.findClass RX8 = some m.cls := findClass_of_methodNamed B.named
  have hlocks := B.notSynchronized
  subst hsz
  have hD := hD0.self (sz := s.heap.size)
  generalize hAe : va_A [(t, .inr (8, [.ref b, .int 0, .int 0, .int 0, .int fl]))] s.heap.size = A at hD hX ⊢
  have hA : ∀ q : Nat, s.heap.size ≤ q → A q := fun q h => by rw [← hAe]; exact Or.inr h
  have hS : va_S A s.heap s.heap [] := va_S.rf
  have hl := lv_entry ([.ref t, .ref (K 1)]) (n := 6) (Nat.le_of_ble_eq_true rfl)
  rw [lg_entry_eq]
  generalize (lg_sl ([.ref t, .ref (K 1)]) ++ List.replicate (6 - (lg_sl ([.ref t, .ref (K 1)])).length) Slot.unset).toArray = ls at hl ⊢
  have hl : lv_has ls 6 [(0, .ref t), (1, .ref (K 1))] := hl
  refine lv_iconst (v := 0) hx hb dX8_whichWord_0 (by decide) ?_
  refine lv_istore_n (lv' := [(2, .int 0), (0, .ref t), (1, .ref (K 1))]) hx hb dX8_whichWord_1 rfl hl (by decide) rfl (fun ls hl => ?_)
  refine lv_iconst (v := 0) hx hb dX8_whichWord_2 (by decide) ?_
  refine lv_istore_n (lv' := [(3, .int 0), (2, .int 0), (0, .ref t), (1, .ref (K 1))]) hx hb dX8_whichWord_3 rfl hl (by decide) rfl (fun ls hl => ?_)
  refine lv_iconst (v := 1) hx hb dX8_whichWord_4 (by decide) ?_
  refine lv_istore (lv' := [(4, .int 1), (3, .int 0), (2, .int 0), (0, .ref t), (1, .ref (K 1))]) hx hb dX8_whichWord_5 hl (by decide) rfl (fun ls hl => ?_)
  refine lv_iconst (v := 0) hx hb dX8_whichWord_7 (by decide) ?_
  refine lv_istore (lv' := [(5, .int 0), (4, .int 1), (3, .int 0), (2, .int 0), (0, .ref t), (1, .ref (K 1))]) hx hb dX8_whichWord_8 hl (by decide) rfl (fun ls hl => ?_)
  refine lv_iload hx hb dX8_whichWord_10 (lv_at hl 0 rfl) ?_
  refine lv_aload_n hx hb dX8_whichWord_12 rfl (lv_at hl 5 rfl) ?_
  have hPc := hP.sub (ws' := []) [] rfl
  have hDc := hD.sub (ws' := []) [] (by decide) rfl
  refine gq_callI (wr := [(t, .inr (8, [.ref b, .int 0, .int 0, .int 0, .int fl]))]) (va_runV (As := []) (rest := [.int 0]) ⟨hx, hb, hml, hown, ht⟩ (c_J_length1 l G s.heap.size K V) (cwV 0 ht (ts_gV wd_591 wd_592 wd_593 wd_135 wd_594) rfl rfl rfl (by decide +kernel) ⟨Nat.le_of_ble_eq_true rfl, Nat.le_of_ble_eq_true rfl⟩) (gx_preK 1 (by decide) hK hPc hDc hX hS (va_free hD hS hA [] rfl)) rfl rfl hl.1 rfl (lv_room (Nat.le_of_ble_eq_true rfl)) dX8_whichWord_13 ⟨Nat.le_of_ble_eq_true rfl, Nat.le_of_ble_eq_true rfl⟩) hP hD hS hA [] [0] rfl rfl (by decide) (by decide) (fun r u H locs hw hP hD hS => ?_)
  have hw : r = 5 := hw
  subst hw
  have hP : va_P (gg_D G) classes [(t, .inr (8, [.ref b, .int 0, .int 0, .int 0, .int fl]))] H := hP
  have hD : va_D A [(t, .inr (8, [.ref b, .int 0, .int 0, .int 0, .int fl]))] := hD
  refine lv_icmp_gt (tgt := 114) hx hb dX8_whichWord_16 (by decide) (fun c0 => absurd c0 (by decide +kernel)) (fun _ => ?_)
  refine lv_iload hx hb dX8_whichWord_19 (lv_at hl 0 rfl) ?_
  refine lv_aload_n hx hb dX8_whichWord_21 rfl (lv_at hl 5 rfl) ?_
  have hPc := hP.sub (ws' := []) [] rfl
  have hDc := hD.sub (ws' := []) [] (by decide) rfl
  refine gq_callI (wr := [(t, .inr (8, [.ref b, .int 0, .int 0, .int 0, .int fl]))]) (va_runV (As := []) (rest := [.int 0]) ⟨hx, hb, hml, hown, ht⟩ (c_J_length1 l G H.size K V) (cwV 0 ht (ts_gV wd_591 wd_592 wd_593 wd_135 wd_594) rfl rfl rfl (by decide +kernel) ⟨Nat.le_of_ble_eq_true rfl, Nat.le_of_ble_eq_true rfl⟩) (gx_preK 1 (by decide) hK hPc hDc hX hS (va_free hD hS hA [] rfl)) rfl rfl hl.1 rfl (lv_room (Nat.le_of_ble_eq_true rfl)) dX8_whichWord_22 ⟨Nat.le_of_ble_eq_true rfl, Nat.le_of_ble_eq_true rfl⟩) hP hD hS hA [] [0] rfl rfl (by decide) (by decide) (fun r u H locs hw hP hD hS => ?_)
  have hw : r = 5 := hw
  subst hw
  have hP : va_P (gg_D G) classes [(t, .inr (8, [.ref b, .int 0, .int 0, .int 0, .int fl]))] H := hP
  have hD : va_D A [(t, .inr (8, [.ref b, .int 0, .int 0, .int 0, .int fl]))] := hD
  refine lv_icmp_eq (tgt := 39) hx hb dX8_whichWord_25 (by decide) (fun c0 => absurd c0 (by decide +kernel)) (fun _ => ?_)
  refine lv_aload_n hx hb dX8_whichWord_28 rfl (lv_at hl 5 rfl) ?_
  refine lv_iload hx hb dX8_whichWord_29 (lv_at hl 0 rfl) ?_
  have hPc := hP.sub (ws' := []) [] rfl
  have hDc := hD.sub (ws' := []) [] (by decide) rfl
  refine gq_callI (wr := [(t, .inr (8, [.ref b, .int 0, .int 0, .int 0, .int fl]))]) (va_runV (As := [.int 0]) (rest := []) ⟨hx, hb, hml, hown, ht⟩ (c_J_char1 l G H.size K V 0 (by decide +kernel) (by decide +kernel)) (cwV 1 ht (ts_gV wd_601 wd_602 wd_603 wd_135 wd_604) rfl rfl rfl (by decide +kernel) ⟨Nat.le_of_ble_eq_true rfl, Nat.le_of_ble_eq_true rfl⟩) (gx_preK 1 (by decide) hK hPc hDc hX hS (va_free hD hS hA [] rfl)) rfl rfl hl.1 rfl (lv_room (Nat.le_of_ble_eq_true rfl)) dX8_whichWord_31 ⟨Nat.le_of_ble_eq_true rfl, Nat.le_of_ble_eq_true rfl⟩) hP hD hS hA [] [0] rfl rfl (by decide) (by decide) (fun r u H locs hw hP hD hS => ?_)
  have hw : r = (sx_c 1 0) := hw
  subst hw
  have hP : va_P (gg_D G) classes [(t, .inr (8, [.ref b, .int 0, .int 0, .int 0, .int fl]))] H := hP
  have hD : va_D A [(t, .inr (8, [.ref b, .int 0, .int 0, .int 0, .int fl]))] := hD
  rw [show (sx_c 1 0) = 115 by decide +kernel]
  refine lv_bipush (v := 32) hx hb dX8_whichWord_34 (by decide +kernel) ?_
  refine lv_icmp_ne (tgt := 65) hx hb dX8_whichWord_36 (by decide) (fun _ => ?_) (fun c0 => absurd c0 (by decide +kernel))
  refine lv_iload hx hb dX8_whichWord_65 (lv_at hl 1 rfl) ?_
  refine lv_if_eq (tgt := 102) hx hb dX8_whichWord_67 (by decide) (fun c0 => absurd c0 (by decide +kernel)) (fun _ => ?_)
  refine lv_iload_n hx hb dX8_whichWord_70 rfl (lv_at hl 2 rfl) ?_
  refine lv_aload_n hx hb dX8_whichWord_71 rfl (lv_at hl 4 rfl) ?_
  refine gq_get hx hb ht hown hK hP i_X8 0 rfl rfl 3 (by decide) wd_159 rfl rfl dX8_whichWord_72 ?_
  refine lv_icmp_ge (tgt := 102) hx hb dX8_whichWord_75 (by decide) (fun _ => ?_) (fun c0 => absurd (by decide +kernel) c0)
  refine lv_iconst (v := 0) hx hb dX8_whichWord_102 (by decide) ?_
  refine lv_istore (lv' := [(4, .int 0), (5, .int 0), (3, .int 0), (2, .int 0), (0, .ref t), (1, .ref (K 1))]) hx hb dX8_whichWord_103 hl (by decide) rfl (fun ls hl => ?_)
  refine lv_iinc (v := 1) (lv' := [(3, .int 1), (4, .int 0), (5, .int 0), (2, .int 0), (0, .ref t), (1, .ref (K 1))]) hx hb dX8_whichWord_105 hl (k := 2) rfl (by decide +kernel) (by decide) rfl (fun ls hl => ?_)
  refine lv_iinc (v := 1) (lv' := [(5, .int 1), (3, .int 1), (4, .int 0), (2, .int 0), (0, .ref t), (1, .ref (K 1))]) hx hb dX8_whichWord_108 hl (k := 2) rfl (by decide +kernel) (by decide) rfl (fun ls hl => ?_)
  refine lv_goto (tgt := 10) hx hb dX8_whichWord_111 (by decide) ?_
  refine lv_iload hx hb dX8_whichWord_10 (lv_at hl 0 rfl) ?_
  refine lv_aload_n hx hb dX8_whichWord_12 rfl (lv_at hl 5 rfl) ?_
  have hPc := hP.sub (ws' := []) [] rfl
  have hDc := hD.sub (ws' := []) [] (by decide) rfl
  refine gq_callI (wr := [(t, .inr (8, [.ref b, .int 0, .int 0, .int 0, .int fl]))]) (va_runV (As := []) (rest := [.int 1]) ⟨hx, hb, hml, hown, ht⟩ (c_J_length1 l G H.size K V) (cwV 0 ht (ts_gV wd_591 wd_592 wd_593 wd_135 wd_594) rfl rfl rfl (by decide +kernel) ⟨Nat.le_of_ble_eq_true rfl, Nat.le_of_ble_eq_true rfl⟩) (gx_preK 1 (by decide) hK hPc hDc hX hS (va_free hD hS hA [] rfl)) rfl rfl hl.1 rfl (lv_room (Nat.le_of_ble_eq_true rfl)) dX8_whichWord_13 ⟨Nat.le_of_ble_eq_true rfl, Nat.le_of_ble_eq_true rfl⟩) hP hD hS hA [] [0] rfl rfl (by decide) (by decide) (fun r u H locs hw hP hD hS => ?_)
  have hw : r = 5 := hw
  subst hw
  have hP : va_P (gg_D G) classes [(t, .inr (8, [.ref b, .int 0, .int 0, .int 0, .int fl]))] H := hP
  have hD : va_D A [(t, .inr (8, [.ref b, .int 0, .int 0, .int 0, .int fl]))] := hD
  refine lv_icmp_gt (tgt := 114) hx hb dX8_whichWord_16 (by decide) (fun c0 => absurd c0 (by decide +kernel)) (fun _ => ?_)
  refine lv_iload hx hb dX8_whichWord_19 (lv_at hl 0 rfl) ?_
  refine lv_aload_n hx hb dX8_whichWord_21 rfl (lv_at hl 5 rfl) ?_
  have hPc := hP.sub (ws' := []) [] rfl
  have hDc := hD.sub (ws' := []) [] (by decide) rfl
  refine gq_callI (wr := [(t, .inr (8, [.ref b, .int 0, .int 0, .int 0, .int fl]))]) (va_runV (As := []) (rest := [.int 1]) ⟨hx, hb, hml, hown, ht⟩ (c_J_length1 l G H.size K V) (cwV 0 ht (ts_gV wd_591 wd_592 wd_593 wd_135 wd_594) rfl rfl rfl (by decide +kernel) ⟨Nat.le_of_ble_eq_true rfl, Nat.le_of_ble_eq_true rfl⟩) (gx_preK 1 (by decide) hK hPc hDc hX hS (va_free hD hS hA [] rfl)) rfl rfl hl.1 rfl (lv_room (Nat.le_of_ble_eq_true rfl)) dX8_whichWord_22 ⟨Nat.le_of_ble_eq_true rfl, Nat.le_of_ble_eq_true rfl⟩) hP hD hS hA [] [0] rfl rfl (by decide) (by decide) (fun r u H locs hw hP hD hS => ?_)
  have hw : r = 5 := hw
  subst hw
  have hP : va_P (gg_D G) classes [(t, .inr (8, [.ref b, .int 0, .int 0, .int 0, .int fl]))] H := hP
  have hD : va_D A [(t, .inr (8, [.ref b, .int 0, .int 0, .int 0, .int fl]))] := hD
  refine lv_icmp_eq (tgt := 39) hx hb dX8_whichWord_25 (by decide) (fun c0 => absurd c0 (by decide +kernel)) (fun _ => ?_)
  refine lv_aload_n hx hb dX8_whichWord_28 rfl (lv_at hl 5 rfl) ?_
  refine lv_iload hx hb dX8_whichWord_29 (lv_at hl 0 rfl) ?_
  have hPc := hP.sub (ws' := []) [] rfl
  have hDc := hD.sub (ws' := []) [] (by decide) rfl
  refine gq_callI (wr := [(t, .inr (8, [.ref b, .int 0, .int 0, .int 0, .int fl]))]) (va_runV (As := [.int 1]) (rest := []) ⟨hx, hb, hml, hown, ht⟩ (c_J_char1 l G H.size K V 1 (by decide +kernel) (by decide +kernel)) (cwV 1 ht (ts_gV wd_601 wd_602 wd_603 wd_135 wd_604) rfl rfl rfl (by decide +kernel) ⟨Nat.le_of_ble_eq_true rfl, Nat.le_of_ble_eq_true rfl⟩) (gx_preK 1 (by decide) hK hPc hDc hX hS (va_free hD hS hA [] rfl)) rfl rfl hl.1 rfl (lv_room (Nat.le_of_ble_eq_true rfl)) dX8_whichWord_31 ⟨Nat.le_of_ble_eq_true rfl, Nat.le_of_ble_eq_true rfl⟩) hP hD hS hA [] [0] rfl rfl (by decide) (by decide) (fun r u H locs hw hP hD hS => ?_)
  have hw : r = (sx_c 1 1) := hw
  subst hw
  have hP : va_P (gg_D G) classes [(t, .inr (8, [.ref b, .int 0, .int 0, .int 0, .int fl]))] H := hP
  have hD : va_D A [(t, .inr (8, [.ref b, .int 0, .int 0, .int 0, .int fl]))] := hD
  rw [show (sx_c 1 1) = 112 by decide +kernel]
  refine lv_bipush (v := 32) hx hb dX8_whichWord_34 (by decide +kernel) ?_
  refine lv_icmp_ne (tgt := 65) hx hb dX8_whichWord_36 (by decide) (fun _ => ?_) (fun c0 => absurd c0 (by decide +kernel))
  refine lv_iload hx hb dX8_whichWord_65 (lv_at hl 2 rfl) ?_
  refine lv_if_eq (tgt := 102) hx hb dX8_whichWord_67 (by decide) (fun _ => ?_) (fun c0 => absurd (by decide +kernel) c0)
  refine lv_iconst (v := 0) hx hb dX8_whichWord_102 (by decide) ?_
  refine lv_istore (lv' := [(4, .int 0), (5, .int 1), (3, .int 1), (2, .int 0), (0, .ref t), (1, .ref (K 1))]) hx hb dX8_whichWord_103 hl (by decide) rfl (fun ls hl => ?_)
  refine lv_iinc (v := 2) (lv' := [(3, .int 2), (4, .int 0), (5, .int 1), (2, .int 0), (0, .ref t), (1, .ref (K 1))]) hx hb dX8_whichWord_105 hl (k := 2) rfl (by decide +kernel) (by decide) rfl (fun ls hl => ?_)
  refine lv_iinc (v := 2) (lv' := [(5, .int 2), (3, .int 2), (4, .int 0), (2, .int 0), (0, .ref t), (1, .ref (K 1))]) hx hb dX8_whichWord_108 hl (k := 2) rfl (by decide +kernel) (by decide) rfl (fun ls hl => ?_)
  refine lv_goto (tgt := 10) hx hb dX8_whichWord_111 (by decide) ?_
  refine lv_iload hx hb dX8_whichWord_10 (lv_at hl 0 rfl) ?_
  refine lv_aload_n hx hb dX8_whichWord_12 rfl (lv_at hl 5 rfl) ?_
  have hPc := hP.sub (ws' := []) [] rfl
  have hDc := hD.sub (ws' := []) [] (by decide) rfl
  refine gq_callI (wr := [(t, .inr (8, [.ref b, .int 0, .int 0, .int 0, .int fl]))]) (va_runV (As := []) (rest := [.int 2]) ⟨hx, hb, hml, hown, ht⟩ (c_J_length1 l G H.size K V) (cwV 0 ht (ts_gV wd_591 wd_592 wd_593 wd_135 wd_594) rfl rfl rfl (by decide +kernel) ⟨Nat.le_of_ble_eq_true rfl, Nat.le_of_ble_eq_true rfl⟩) (gx_preK 1 (by decide) hK hPc hDc hX hS (va_free hD hS hA [] rfl)) rfl rfl hl.1 rfl (lv_room (Nat.le_of_ble_eq_true rfl)) dX8_whichWord_13 ⟨Nat.le_of_ble_eq_true rfl, Nat.le_of_ble_eq_true rfl⟩) hP hD hS hA [] [0] rfl rfl (by decide) (by decide) (fun r u H locs hw hP hD hS => ?_)
  have hw : r = 5 := hw
  subst hw
  have hP : va_P (gg_D G) classes [(t, .inr (8, [.ref b, .int 0, .int 0, .int 0, .int fl]))] H := hP
  have hD : va_D A [(t, .inr (8, [.ref b, .int 0, .int 0, .int 0, .int fl]))] := hD
  refine lv_icmp_gt (tgt := 114) hx hb dX8_whichWord_16 (by decide) (fun c0 => absurd c0 (by decide +kernel)) (fun _ => ?_)
  refine lv_iload hx hb dX8_whichWord_19 (lv_at hl 0 rfl) ?_
  refine lv_aload_n hx hb dX8_whichWord_21 rfl (lv_at hl 5 rfl) ?_
  have hPc := hP.sub (ws' := []) [] rfl
  have hDc := hD.sub (ws' := []) [] (by decide) rfl
  refine gq_callI (wr := [(t, .inr (8, [.ref b, .int 0, .int 0, .int 0, .int fl]))]) (va_runV (As := []) (rest := [.int 2]) ⟨hx, hb, hml, hown, ht⟩ (c_J_length1 l G H.size K V) (cwV 0 ht (ts_gV wd_591 wd_592 wd_593 wd_135 wd_594) rfl rfl rfl (by decide +kernel) ⟨Nat.le_of_ble_eq_true rfl, Nat.le_of_ble_eq_true rfl⟩) (gx_preK 1 (by decide) hK hPc hDc hX hS (va_free hD hS hA [] rfl)) rfl rfl hl.1 rfl (lv_room (Nat.le_of_ble_eq_true rfl)) dX8_whichWord_22 ⟨Nat.le_of_ble_eq_true rfl, Nat.le_of_ble_eq_true rfl⟩) hP hD hS hA [] [0] rfl rfl (by decide) (by decide) (fun r u H locs hw hP hD hS => ?_)
  have hw : r = 5 := hw
  subst hw
  have hP : va_P (gg_D G) classes [(t, .inr (8, [.ref b, .int 0, .int 0, .int 0, .int fl]))] H := hP
  have hD : va_D A [(t, .inr (8, [.ref b, .int 0, .int 0, .int 0, .int fl]))] := hD
  refine lv_icmp_eq (tgt := 39) hx hb dX8_whichWord_25 (by decide) (fun c0 => absurd c0 (by decide +kernel)) (fun _ => ?_)
  refine lv_aload_n hx hb dX8_whichWord_28 rfl (lv_at hl 5 rfl) ?_
  refine lv_iload hx hb dX8_whichWord_29 (lv_at hl 0 rfl) ?_
  have hPc := hP.sub (ws' := []) [] rfl
  have hDc := hD.sub (ws' := []) [] (by decide) rfl
  refine gq_callI (wr := [(t, .inr (8, [.ref b, .int 0, .int 0, .int 0, .int fl]))]) (va_runV (As := [.int 2]) (rest := []) ⟨hx, hb, hml, hown, ht⟩ (c_J_char1 l G H.size K V 2 (by decide +kernel) (by decide +kernel)) (cwV 1 ht (ts_gV wd_601 wd_602 wd_603 wd_135 wd_604) rfl rfl rfl (by decide +kernel) ⟨Nat.le_of_ble_eq_true rfl, Nat.le_of_ble_eq_true rfl⟩) (gx_preK 1 (by decide) hK hPc hDc hX hS (va_free hD hS hA [] rfl)) rfl rfl hl.1 rfl (lv_room (Nat.le_of_ble_eq_true rfl)) dX8_whichWord_31 ⟨Nat.le_of_ble_eq_true rfl, Nat.le_of_ble_eq_true rfl⟩) hP hD hS hA [] [0] rfl rfl (by decide) (by decide) (fun r u H locs hw hP hD hS => ?_)
  have hw : r = (sx_c 1 2) := hw
  subst hw
  have hP : va_P (gg_D G) classes [(t, .inr (8, [.ref b, .int 0, .int 0, .int 0, .int fl]))] H := hP
  have hD : va_D A [(t, .inr (8, [.ref b, .int 0, .int 0, .int 0, .int fl]))] := hD
  rw [show (sx_c 1 2) = 101 by decide +kernel]
  refine lv_bipush (v := 32) hx hb dX8_whichWord_34 (by decide +kernel) ?_
  refine lv_icmp_ne (tgt := 65) hx hb dX8_whichWord_36 (by decide) (fun _ => ?_) (fun c0 => absurd c0 (by decide +kernel))
  refine lv_iload hx hb dX8_whichWord_65 (lv_at hl 2 rfl) ?_
  refine lv_if_eq (tgt := 102) hx hb dX8_whichWord_67 (by decide) (fun _ => ?_) (fun c0 => absurd (by decide +kernel) c0)
  refine lv_iconst (v := 0) hx hb dX8_whichWord_102 (by decide) ?_
  refine lv_istore (lv' := [(4, .int 0), (5, .int 2), (3, .int 2), (2, .int 0), (0, .ref t), (1, .ref (K 1))]) hx hb dX8_whichWord_103 hl (by decide) rfl (fun ls hl => ?_)
  refine lv_iinc (v := 3) (lv' := [(3, .int 3), (4, .int 0), (5, .int 2), (2, .int 0), (0, .ref t), (1, .ref (K 1))]) hx hb dX8_whichWord_105 hl (k := 2) rfl (by decide +kernel) (by decide) rfl (fun ls hl => ?_)
  refine lv_iinc (v := 3) (lv' := [(5, .int 3), (3, .int 3), (4, .int 0), (2, .int 0), (0, .ref t), (1, .ref (K 1))]) hx hb dX8_whichWord_108 hl (k := 2) rfl (by decide +kernel) (by decide) rfl (fun ls hl => ?_)
  refine lv_goto (tgt := 10) hx hb dX8_whichWord_111 (by decide) ?_
  refine lv_iload hx hb dX8_whichWord_10 (lv_at hl 0 rfl) ?_
  refine lv_aload_n hx hb dX8_whichWord_12 rfl (lv_at hl 5 rfl) ?_
  have hPc := hP.sub (ws' := []) [] rfl
  have hDc := hD.sub (ws' := []) [] (by decide) rfl
  refine gq_callI (wr := [(t, .inr (8, [.ref b, .int 0, .int 0, .int 0, .int fl]))]) (va_runV (As := []) (rest := [.int 3]) ⟨hx, hb, hml, hown, ht⟩ (c_J_length1 l G H.size K V) (cwV 0 ht (ts_gV wd_591 wd_592 wd_593 wd_135 wd_594) rfl rfl rfl (by decide +kernel) ⟨Nat.le_of_ble_eq_true rfl, Nat.le_of_ble_eq_true rfl⟩) (gx_preK 1 (by decide) hK hPc hDc hX hS (va_free hD hS hA [] rfl)) rfl rfl hl.1 rfl (lv_room (Nat.le_of_ble_eq_true rfl)) dX8_whichWord_13 ⟨Nat.le_of_ble_eq_true rfl, Nat.le_of_ble_eq_true rfl⟩) hP hD hS hA [] [0] rfl rfl (by decide) (by decide) (fun r u H locs hw hP hD hS => ?_)
  have hw : r = 5 := hw
  subst hw
  have hP : va_P (gg_D G) classes [(t, .inr (8, [.ref b, .int 0, .int 0, .int 0, .int fl]))] H := hP
  have hD : va_D A [(t, .inr (8, [.ref b, .int 0, .int 0, .int 0, .int fl]))] := hD
  refine lv_icmp_gt (tgt := 114) hx hb dX8_whichWord_16 (by decide) (fun c0 => absurd c0 (by decide +kernel)) (fun _ => ?_)
  refine lv_iload hx hb dX8_whichWord_19 (lv_at hl 0 rfl) ?_
  refine lv_aload_n hx hb dX8_whichWord_21 rfl (lv_at hl 5 rfl) ?_
  have hPc := hP.sub (ws' := []) [] rfl
  have hDc := hD.sub (ws' := []) [] (by decide) rfl
  refine gq_callI (wr := [(t, .inr (8, [.ref b, .int 0, .int 0, .int 0, .int fl]))]) (va_runV (As := []) (rest := [.int 3]) ⟨hx, hb, hml, hown, ht⟩ (c_J_length1 l G H.size K V) (cwV 0 ht (ts_gV wd_591 wd_592 wd_593 wd_135 wd_594) rfl rfl rfl (by decide +kernel) ⟨Nat.le_of_ble_eq_true rfl, Nat.le_of_ble_eq_true rfl⟩) (gx_preK 1 (by decide) hK hPc hDc hX hS (va_free hD hS hA [] rfl)) rfl rfl hl.1 rfl (lv_room (Nat.le_of_ble_eq_true rfl)) dX8_whichWord_22 ⟨Nat.le_of_ble_eq_true rfl, Nat.le_of_ble_eq_true rfl⟩) hP hD hS hA [] [0] rfl rfl (by decide) (by decide) (fun r u H locs hw hP hD hS => ?_)
  have hw : r = 5 := hw
  subst hw
  have hP : va_P (gg_D G) classes [(t, .inr (8, [.ref b, .int 0, .int 0, .int 0, .int fl]))] H := hP
  have hD : va_D A [(t, .inr (8, [.ref b, .int 0, .int 0, .int 0, .int fl]))] := hD
  refine lv_icmp_eq (tgt := 39) hx hb dX8_whichWord_25 (by decide) (fun c0 => absurd c0 (by decide +kernel)) (fun _ => ?_)
  refine lv_aload_n hx hb dX8_whichWord_28 rfl (lv_at hl 5 rfl) ?_
  refine lv_iload hx hb dX8_whichWord_29 (lv_at hl 0 rfl) ?_
  have hPc := hP.sub (ws' := []) [] rfl
  have hDc := hD.sub (ws' := []) [] (by decide) rfl
  refine gq_callI (wr := [(t, .inr (8, [.ref b, .int 0, .int 0, .int 0, .int fl]))]) (va_runV (As := [.int 3]) (rest := []) ⟨hx, hb, hml, hown, ht⟩ (c_J_char1 l G H.size K V 3 (by decide +kernel) (by decide +kernel)) (cwV 1 ht (ts_gV wd_601 wd_602 wd_603 wd_135 wd_604) rfl rfl rfl (by decide +kernel) ⟨Nat.le_of_ble_eq_true rfl, Nat.le_of_ble_eq_true rfl⟩) (gx_preK 1 (by decide) hK hPc hDc hX hS (va_free hD hS hA [] rfl)) rfl rfl hl.1 rfl (lv_room (Nat.le_of_ble_eq_true rfl)) dX8_whichWord_31 ⟨Nat.le_of_ble_eq_true rfl, Nat.le_of_ble_eq_true rfl⟩) hP hD hS hA [] [0] rfl rfl (by decide) (by decide) (fun r u H locs hw hP hD hS => ?_)
  have hw : r = (sx_c 1 3) := hw
  subst hw
  have hP : va_P (gg_D G) classes [(t, .inr (8, [.ref b, .int 0, .int 0, .int 0, .int fl]))] H := hP
  have hD : va_D A [(t, .inr (8, [.ref b, .int 0, .int 0, .int 0, .int fl]))] := hD
  rw [show (sx_c 1 3) = 97 by decide +kernel]
  refine lv_bipush (v := 32) hx hb dX8_whichWord_34 (by decide +kernel) ?_
  refine lv_icmp_ne (tgt := 65) hx hb dX8_whichWord_36 (by decide) (fun _ => ?_) (fun c0 => absurd c0 (by decide +kernel))
  refine lv_iload hx hb dX8_whichWord_65 (lv_at hl 2 rfl) ?_
  refine lv_if_eq (tgt := 102) hx hb dX8_whichWord_67 (by decide) (fun _ => ?_) (fun c0 => absurd (by decide +kernel) c0)
  refine lv_iconst (v := 0) hx hb dX8_whichWord_102 (by decide) ?_
  refine lv_istore (lv' := [(4, .int 0), (5, .int 3), (3, .int 3), (2, .int 0), (0, .ref t), (1, .ref (K 1))]) hx hb dX8_whichWord_103 hl (by decide) rfl (fun ls hl => ?_)
  refine lv_iinc (v := 4) (lv' := [(3, .int 4), (4, .int 0), (5, .int 3), (2, .int 0), (0, .ref t), (1, .ref (K 1))]) hx hb dX8_whichWord_105 hl (k := 2) rfl (by decide +kernel) (by decide) rfl (fun ls hl => ?_)
  refine lv_iinc (v := 4) (lv' := [(5, .int 4), (3, .int 4), (4, .int 0), (2, .int 0), (0, .ref t), (1, .ref (K 1))]) hx hb dX8_whichWord_108 hl (k := 2) rfl (by decide +kernel) (by decide) rfl (fun ls hl => ?_)
  refine lv_goto (tgt := 10) hx hb dX8_whichWord_111 (by decide) ?_
  refine lv_iload hx hb dX8_whichWord_10 (lv_at hl 0 rfl) ?_
  refine lv_aload_n hx hb dX8_whichWord_12 rfl (lv_at hl 5 rfl) ?_
  have hPc := hP.sub (ws' := []) [] rfl
  have hDc := hD.sub (ws' := []) [] (by decide) rfl
  refine gq_callI (wr := [(t, .inr (8, [.ref b, .int 0, .int 0, .int 0, .int fl]))]) (va_runV (As := []) (rest := [.int 4]) ⟨hx, hb, hml, hown, ht⟩ (c_J_length1 l G H.size K V) (cwV 0 ht (ts_gV wd_591 wd_592 wd_593 wd_135 wd_594) rfl rfl rfl (by decide +kernel) ⟨Nat.le_of_ble_eq_true rfl, Nat.le_of_ble_eq_true rfl⟩) (gx_preK 1 (by decide) hK hPc hDc hX hS (va_free hD hS hA [] rfl)) rfl rfl hl.1 rfl (lv_room (Nat.le_of_ble_eq_true rfl)) dX8_whichWord_13 ⟨Nat.le_of_ble_eq_true rfl, Nat.le_of_ble_eq_true rfl⟩) hP hD hS hA [] [0] rfl rfl (by decide) (by decide) (fun r u H locs hw hP hD hS => ?_)
  have hw : r = 5 := hw
  subst hw
  have hP : va_P (gg_D G) classes [(t, .inr (8, [.ref b, .int 0, .int 0, .int 0, .int fl]))] H := hP
  have hD : va_D A [(t, .inr (8, [.ref b, .int 0, .int 0, .int 0, .int fl]))] := hD
  refine lv_icmp_gt (tgt := 114) hx hb dX8_whichWord_16 (by decide) (fun c0 => absurd c0 (by decide +kernel)) (fun _ => ?_)
  refine lv_iload hx hb dX8_whichWord_19 (lv_at hl 0 rfl) ?_
  refine lv_aload_n hx hb dX8_whichWord_21 rfl (lv_at hl 5 rfl) ?_
  have hPc := hP.sub (ws' := []) [] rfl
  have hDc := hD.sub (ws' := []) [] (by decide) rfl
  refine gq_callI (wr := [(t, .inr (8, [.ref b, .int 0, .int 0, .int 0, .int fl]))]) (va_runV (As := []) (rest := [.int 4]) ⟨hx, hb, hml, hown, ht⟩ (c_J_length1 l G H.size K V) (cwV 0 ht (ts_gV wd_591 wd_592 wd_593 wd_135 wd_594) rfl rfl rfl (by decide +kernel) ⟨Nat.le_of_ble_eq_true rfl, Nat.le_of_ble_eq_true rfl⟩) (gx_preK 1 (by decide) hK hPc hDc hX hS (va_free hD hS hA [] rfl)) rfl rfl hl.1 rfl (lv_room (Nat.le_of_ble_eq_true rfl)) dX8_whichWord_22 ⟨Nat.le_of_ble_eq_true rfl, Nat.le_of_ble_eq_true rfl⟩) hP hD hS hA [] [0] rfl rfl (by decide) (by decide) (fun r u H locs hw hP hD hS => ?_)
  have hw : r = 5 := hw
  subst hw
  have hP : va_P (gg_D G) classes [(t, .inr (8, [.ref b, .int 0, .int 0, .int 0, .int fl]))] H := hP
  have hD : va_D A [(t, .inr (8, [.ref b, .int 0, .int 0, .int 0, .int fl]))] := hD
  refine lv_icmp_eq (tgt := 39) hx hb dX8_whichWord_25 (by decide) (fun c0 => absurd c0 (by decide +kernel)) (fun _ => ?_)
  refine lv_aload_n hx hb dX8_whichWord_28 rfl (lv_at hl 5 rfl) ?_
  refine lv_iload hx hb dX8_whichWord_29 (lv_at hl 0 rfl) ?_
  have hPc := hP.sub (ws' := []) [] rfl
  have hDc := hD.sub (ws' := []) [] (by decide) rfl
  refine gq_callI (wr := [(t, .inr (8, [.ref b, .int 0, .int 0, .int 0, .int fl]))]) (va_runV (As := [.int 4]) (rest := []) ⟨hx, hb, hml, hown, ht⟩ (c_J_char1 l G H.size K V 4 (by decide +kernel) (by decide +kernel)) (cwV 1 ht (ts_gV wd_601 wd_602 wd_603 wd_135 wd_604) rfl rfl rfl (by decide +kernel) ⟨Nat.le_of_ble_eq_true rfl, Nat.le_of_ble_eq_true rfl⟩) (gx_preK 1 (by decide) hK hPc hDc hX hS (va_free hD hS hA [] rfl)) rfl rfl hl.1 rfl (lv_room (Nat.le_of_ble_eq_true rfl)) dX8_whichWord_31 ⟨Nat.le_of_ble_eq_true rfl, Nat.le_of_ble_eq_true rfl⟩) hP hD hS hA [] [0] rfl rfl (by decide) (by decide) (fun r u H locs hw hP hD hS => ?_)
  have hw : r = (sx_c 1 4) := hw
  subst hw
  have hP : va_P (gg_D G) classes [(t, .inr (8, [.ref b, .int 0, .int 0, .int 0, .int fl]))] H := hP
  have hD : va_D A [(t, .inr (8, [.ref b, .int 0, .int 0, .int 0, .int fl]))] := hD
  rw [show (sx_c 1 4) = 107 by decide +kernel]
  refine lv_bipush (v := 32) hx hb dX8_whichWord_34 (by decide +kernel) ?_
  refine lv_icmp_ne (tgt := 65) hx hb dX8_whichWord_36 (by decide) (fun _ => ?_) (fun c0 => absurd c0 (by decide +kernel))
  refine lv_iload hx hb dX8_whichWord_65 (lv_at hl 2 rfl) ?_
  refine lv_if_eq (tgt := 102) hx hb dX8_whichWord_67 (by decide) (fun _ => ?_) (fun c0 => absurd (by decide +kernel) c0)
  refine lv_iconst (v := 0) hx hb dX8_whichWord_102 (by decide) ?_
  refine lv_istore (lv' := [(4, .int 0), (5, .int 4), (3, .int 4), (2, .int 0), (0, .ref t), (1, .ref (K 1))]) hx hb dX8_whichWord_103 hl (by decide) rfl (fun ls hl => ?_)
  refine lv_iinc (v := 5) (lv' := [(3, .int 5), (4, .int 0), (5, .int 4), (2, .int 0), (0, .ref t), (1, .ref (K 1))]) hx hb dX8_whichWord_105 hl (k := 2) rfl (by decide +kernel) (by decide) rfl (fun ls hl => ?_)
  refine lv_iinc (v := 5) (lv' := [(5, .int 5), (3, .int 5), (4, .int 0), (2, .int 0), (0, .ref t), (1, .ref (K 1))]) hx hb dX8_whichWord_108 hl (k := 2) rfl (by decide +kernel) (by decide) rfl (fun ls hl => ?_)
  refine lv_goto (tgt := 10) hx hb dX8_whichWord_111 (by decide) ?_
  refine lv_iload hx hb dX8_whichWord_10 (lv_at hl 0 rfl) ?_
  refine lv_aload_n hx hb dX8_whichWord_12 rfl (lv_at hl 5 rfl) ?_
  have hPc := hP.sub (ws' := []) [] rfl
  have hDc := hD.sub (ws' := []) [] (by decide) rfl
  refine gq_callI (wr := [(t, .inr (8, [.ref b, .int 0, .int 0, .int 0, .int fl]))]) (va_runV (As := []) (rest := [.int 5]) ⟨hx, hb, hml, hown, ht⟩ (c_J_length1 l G H.size K V) (cwV 0 ht (ts_gV wd_591 wd_592 wd_593 wd_135 wd_594) rfl rfl rfl (by decide +kernel) ⟨Nat.le_of_ble_eq_true rfl, Nat.le_of_ble_eq_true rfl⟩) (gx_preK 1 (by decide) hK hPc hDc hX hS (va_free hD hS hA [] rfl)) rfl rfl hl.1 rfl (lv_room (Nat.le_of_ble_eq_true rfl)) dX8_whichWord_13 ⟨Nat.le_of_ble_eq_true rfl, Nat.le_of_ble_eq_true rfl⟩) hP hD hS hA [] [0] rfl rfl (by decide) (by decide) (fun r u H locs hw hP hD hS => ?_)
  have hw : r = 5 := hw
  subst hw
  have hP : va_P (gg_D G) classes [(t, .inr (8, [.ref b, .int 0, .int 0, .int 0, .int fl]))] H := hP
  have hD : va_D A [(t, .inr (8, [.ref b, .int 0, .int 0, .int 0, .int fl]))] := hD
  refine lv_icmp_gt (tgt := 114) hx hb dX8_whichWord_16 (by decide) (fun c0 => absurd c0 (by decide +kernel)) (fun _ => ?_)
  refine lv_iload hx hb dX8_whichWord_19 (lv_at hl 0 rfl) ?_
  refine lv_aload_n hx hb dX8_whichWord_21 rfl (lv_at hl 5 rfl) ?_
  have hPc := hP.sub (ws' := []) [] rfl
  have hDc := hD.sub (ws' := []) [] (by decide) rfl
  refine gq_callI (wr := [(t, .inr (8, [.ref b, .int 0, .int 0, .int 0, .int fl]))]) (va_runV (As := []) (rest := [.int 5]) ⟨hx, hb, hml, hown, ht⟩ (c_J_length1 l G H.size K V) (cwV 0 ht (ts_gV wd_591 wd_592 wd_593 wd_135 wd_594) rfl rfl rfl (by decide +kernel) ⟨Nat.le_of_ble_eq_true rfl, Nat.le_of_ble_eq_true rfl⟩) (gx_preK 1 (by decide) hK hPc hDc hX hS (va_free hD hS hA [] rfl)) rfl rfl hl.1 rfl (lv_room (Nat.le_of_ble_eq_true rfl)) dX8_whichWord_22 ⟨Nat.le_of_ble_eq_true rfl, Nat.le_of_ble_eq_true rfl⟩) hP hD hS hA [] [0] rfl rfl (by decide) (by decide) (fun r u H locs hw hP hD hS => ?_)
  have hw : r = 5 := hw
  subst hw
  have hP : va_P (gg_D G) classes [(t, .inr (8, [.ref b, .int 0, .int 0, .int 0, .int fl]))] H := hP
  have hD : va_D A [(t, .inr (8, [.ref b, .int 0, .int 0, .int 0, .int fl]))] := hD
  refine lv_icmp_eq (tgt := 39) hx hb dX8_whichWord_25 (by decide) (fun _ => ?_) (fun c0 => absurd (by decide +kernel) c0)
  refine lv_iload hx hb dX8_whichWord_39 (lv_at hl 2 rfl) ?_
  refine lv_if_eq (tgt := 54) hx hb dX8_whichWord_41 (by decide) (fun _ => ?_) (fun c0 => absurd (by decide +kernel) c0)
  refine lv_iinc (v := 1) (lv' := [(2, .int 1), (5, .int 5), (3, .int 5), (4, .int 0), (0, .ref t), (1, .ref (K 1))]) hx hb dX8_whichWord_54 hl (k := 3) rfl (by decide +kernel) (by decide) rfl (fun ls hl => ?_)
  refine lv_iconst (v := 0) hx hb dX8_whichWord_57 (by decide) ?_
  refine lv_istore_n (lv' := [(3, .int 0), (2, .int 1), (5, .int 5), (4, .int 0), (0, .ref t), (1, .ref (K 1))]) hx hb dX8_whichWord_58 rfl hl (by decide) rfl (fun ls hl => ?_)
  refine lv_iconst (v := 1) hx hb dX8_whichWord_59 (by decide) ?_
  refine lv_istore (lv' := [(4, .int 1), (3, .int 0), (2, .int 1), (5, .int 5), (0, .ref t), (1, .ref (K 1))]) hx hb dX8_whichWord_60 hl (by decide) rfl (fun ls hl => ?_)
  refine lv_goto (tgt := 108) hx hb dX8_whichWord_62 (by decide) ?_
  refine lv_iinc (v := 6) (lv' := [(5, .int 6), (4, .int 1), (3, .int 0), (2, .int 1), (0, .ref t), (1, .ref (K 1))]) hx hb dX8_whichWord_108 hl (k := 3) rfl (by decide +kernel) (by decide) rfl (fun ls hl => ?_)
  refine lv_goto (tgt := 10) hx hb dX8_whichWord_111 (by decide) ?_
  refine lv_iload hx hb dX8_whichWord_10 (lv_at hl 0 rfl) ?_
  refine lv_aload_n hx hb dX8_whichWord_12 rfl (lv_at hl 5 rfl) ?_
  have hPc := hP.sub (ws' := []) [] rfl
  have hDc := hD.sub (ws' := []) [] (by decide) rfl
  refine gq_callI (wr := [(t, .inr (8, [.ref b, .int 0, .int 0, .int 0, .int fl]))]) (va_runV (As := []) (rest := [.int 6]) ⟨hx, hb, hml, hown, ht⟩ (c_J_length1 l G H.size K V) (cwV 0 ht (ts_gV wd_591 wd_592 wd_593 wd_135 wd_594) rfl rfl rfl (by decide +kernel) ⟨Nat.le_of_ble_eq_true rfl, Nat.le_of_ble_eq_true rfl⟩) (gx_preK 1 (by decide) hK hPc hDc hX hS (va_free hD hS hA [] rfl)) rfl rfl hl.1 rfl (lv_room (Nat.le_of_ble_eq_true rfl)) dX8_whichWord_13 ⟨Nat.le_of_ble_eq_true rfl, Nat.le_of_ble_eq_true rfl⟩) hP hD hS hA [] [0] rfl rfl (by decide) (by decide) (fun r u H locs hw hP hD hS => ?_)
  have hw : r = 5 := hw
  subst hw
  have hP : va_P (gg_D G) classes [(t, .inr (8, [.ref b, .int 0, .int 0, .int 0, .int fl]))] H := hP
  have hD : va_D A [(t, .inr (8, [.ref b, .int 0, .int 0, .int 0, .int fl]))] := hD
  refine lv_icmp_gt (tgt := 114) hx hb dX8_whichWord_16 (by decide) (fun _ => ?_) (fun c0 => absurd (by decide +kernel) c0)
  refine lv_iconst (v := (-1)) hx hb dX8_whichWord_114 (by decide) ?_
  have hP9 := hP.sub (ws' := [(t, .inr (8, [.ref b, .int 0, .int 0, .int 0, .int fl]))]) [0] rfl
  have hD9 := hD.sub (ws' := [(t, .inr (8, [.ref b, .int 0, .int 0, .int 0, .int fl]))]) [0] (by decide) rfl
  exact W.iret (v := (-1)) hx hb hr (gq_endI () rfl hP9 hD9 hS) hS.2.2 dX8_whichWord_115
set_option maxHeartbeats 4000000 in
set_option maxRecDepth 100000 in
theorem c_Tape_which0 (l : Launch) (G : gg_T) (sz : Nat) (K : Nat → Nat) (V : Nat → Nat) (t : Nat) (b : Nat) (fl : Int32) : Met l yX8_whichWord (ts_L yX8_whichWord cX8_whichWord 6 (some .int)) ({ frames := 4, cells := 0, slots := 0, locals := 85 }) (gx_P G K V [(t, .inr (8, [.ref b, .int 0, .int 0, .int 0, .int fl]))] sz [.ref t, .ref (K 0)]) (gc_I G (va_A [(t, .inr (8, [.ref b, .int 0, .int 0, .int 0, .int fl]))] sz) (fun r (_ : Unit) => r = (-1)) (fun _ => [(t, .inr (8, [.ref b, .int 0, .int 0, .int 0, .int fl]))])) 0 0 (va_A [(t, .inr (8, [.ref b, .int 0, .int 0, .int 0, .int fl]))] sz) := by
  refine Met.ofW (cc := cX8_whichWord) (maxL := 6) (ret := (some .int)) (by decide) rfl ?_
  intro p e s m args below meth c s₁ B hml hv
  obtain ⟨rfl, hsz, hP, hK, hD0, hX⟩ := hv
  have hx := B.exec
  have hb := B.bytes
  have hr := B.returns
  have ht := ts_ht (atoms_spec (ws := ts_L yX8_whichWord cX8_whichWord 6 (some .int)) B.pre)
  have hown : s.vm.findClass RX8 = some m.cls := findClass_of_methodNamed B.named
  have hlocks := B.notSynchronized
  subst hsz
  have hD := hD0.self (sz := s.heap.size)
  generalize hAe : va_A [(t, .inr (8, [.ref b, .int 0, .int 0, .int 0, .int fl]))] s.heap.size = A at hD hX ⊢
  have hA : ∀ q : Nat, s.heap.size ≤ q → A q := fun q h => by rw [← hAe]; exact Or.inr h
  have hS : va_S A s.heap s.heap [] := va_S.rf
  have hl := lv_entry ([.ref t, .ref (K 0)]) (n := 6) (Nat.le_of_ble_eq_true rfl)
  rw [lg_entry_eq]
  generalize (lg_sl ([.ref t, .ref (K 0)]) ++ List.replicate (6 - (lg_sl ([.ref t, .ref (K 0)])).length) Slot.unset).toArray = ls at hl ⊢
  have hl : lv_has ls 6 [(0, .ref t), (1, .ref (K 0))] := hl
  refine lv_iconst (v := 0) hx hb dX8_whichWord_0 (by decide) ?_
  refine lv_istore_n (lv' := [(2, .int 0), (0, .ref t), (1, .ref (K 0))]) hx hb dX8_whichWord_1 rfl hl (by decide) rfl (fun ls hl => ?_)
  refine lv_iconst (v := 0) hx hb dX8_whichWord_2 (by decide) ?_
  refine lv_istore_n (lv' := [(3, .int 0), (2, .int 0), (0, .ref t), (1, .ref (K 0))]) hx hb dX8_whichWord_3 rfl hl (by decide) rfl (fun ls hl => ?_)
  refine lv_iconst (v := 1) hx hb dX8_whichWord_4 (by decide) ?_
  refine lv_istore (lv' := [(4, .int 1), (3, .int 0), (2, .int 0), (0, .ref t), (1, .ref (K 0))]) hx hb dX8_whichWord_5 hl (by decide) rfl (fun ls hl => ?_)
  refine lv_iconst (v := 0) hx hb dX8_whichWord_7 (by decide) ?_
  refine lv_istore (lv' := [(5, .int 0), (4, .int 1), (3, .int 0), (2, .int 0), (0, .ref t), (1, .ref (K 0))]) hx hb dX8_whichWord_8 hl (by decide) rfl (fun ls hl => ?_)
  refine lv_iload hx hb dX8_whichWord_10 (lv_at hl 0 rfl) ?_
  refine lv_aload_n hx hb dX8_whichWord_12 rfl (lv_at hl 5 rfl) ?_
  have hPc := hP.sub (ws' := []) [] rfl
  have hDc := hD.sub (ws' := []) [] (by decide) rfl
  refine gq_callI (wr := [(t, .inr (8, [.ref b, .int 0, .int 0, .int 0, .int fl]))]) (va_runV (As := []) (rest := [.int 0]) ⟨hx, hb, hml, hown, ht⟩ (c_J_length0 l G s.heap.size K V) (cwV 0 ht (ts_gV wd_591 wd_592 wd_593 wd_135 wd_594) rfl rfl rfl (by decide +kernel) ⟨Nat.le_of_ble_eq_true rfl, Nat.le_of_ble_eq_true rfl⟩) (gx_preK 0 (by decide) hK hPc hDc hX hS (va_free hD hS hA [] rfl)) rfl rfl hl.1 rfl (lv_room (Nat.le_of_ble_eq_true rfl)) dX8_whichWord_13 ⟨Nat.le_of_ble_eq_true rfl, Nat.le_of_ble_eq_true rfl⟩) hP hD hS hA [] [0] rfl rfl (by decide) (by decide) (fun r u H locs hw hP hD hS => ?_)
  have hw : r = 27 := hw
  subst hw
  have hP : va_P (gg_D G) classes [(t, .inr (8, [.ref b, .int 0, .int 0, .int 0, .int fl]))] H := hP
  have hD : va_D A [(t, .inr (8, [.ref b, .int 0, .int 0, .int 0, .int fl]))] := hD
  refine lv_icmp_gt (tgt := 114) hx hb dX8_whichWord_16 (by decide) (fun c0 => absurd c0 (by decide +kernel)) (fun _ => ?_)
  refine lv_iload hx hb dX8_whichWord_19 (lv_at hl 0 rfl) ?_
  refine lv_aload_n hx hb dX8_whichWord_21 rfl (lv_at hl 5 rfl) ?_
  have hPc := hP.sub (ws' := []) [] rfl
  have hDc := hD.sub (ws' := []) [] (by decide) rfl
  refine gq_callI (wr := [(t, .inr (8, [.ref b, .int 0, .int 0, .int 0, .int fl]))]) (va_runV (As := []) (rest := [.int 0]) ⟨hx, hb, hml, hown, ht⟩ (c_J_length0 l G H.size K V) (cwV 0 ht (ts_gV wd_591 wd_592 wd_593 wd_135 wd_594) rfl rfl rfl (by decide +kernel) ⟨Nat.le_of_ble_eq_true rfl, Nat.le_of_ble_eq_true rfl⟩) (gx_preK 0 (by decide) hK hPc hDc hX hS (va_free hD hS hA [] rfl)) rfl rfl hl.1 rfl (lv_room (Nat.le_of_ble_eq_true rfl)) dX8_whichWord_22 ⟨Nat.le_of_ble_eq_true rfl, Nat.le_of_ble_eq_true rfl⟩) hP hD hS hA [] [0] rfl rfl (by decide) (by decide) (fun r u H locs hw hP hD hS => ?_)
  have hw : r = 27 := hw
  subst hw
  have hP : va_P (gg_D G) classes [(t, .inr (8, [.ref b, .int 0, .int 0, .int 0, .int fl]))] H := hP
  have hD : va_D A [(t, .inr (8, [.ref b, .int 0, .int 0, .int 0, .int fl]))] := hD
  refine lv_icmp_eq (tgt := 39) hx hb dX8_whichWord_25 (by decide) (fun c0 => absurd c0 (by decide +kernel)) (fun _ => ?_)
  refine lv_aload_n hx hb dX8_whichWord_28 rfl (lv_at hl 5 rfl) ?_
  refine lv_iload hx hb dX8_whichWord_29 (lv_at hl 0 rfl) ?_
  have hPc := hP.sub (ws' := []) [] rfl
  have hDc := hD.sub (ws' := []) [] (by decide) rfl
  refine gq_callI (wr := [(t, .inr (8, [.ref b, .int 0, .int 0, .int 0, .int fl]))]) (va_runV (As := [.int 0]) (rest := []) ⟨hx, hb, hml, hown, ht⟩ (c_J_char0 l G H.size K V 0 (by decide +kernel) (by decide +kernel)) (cwV 1 ht (ts_gV wd_601 wd_602 wd_603 wd_135 wd_604) rfl rfl rfl (by decide +kernel) ⟨Nat.le_of_ble_eq_true rfl, Nat.le_of_ble_eq_true rfl⟩) (gx_preK 0 (by decide) hK hPc hDc hX hS (va_free hD hS hA [] rfl)) rfl rfl hl.1 rfl (lv_room (Nat.le_of_ble_eq_true rfl)) dX8_whichWord_31 ⟨Nat.le_of_ble_eq_true rfl, Nat.le_of_ble_eq_true rfl⟩) hP hD hS hA [] [0] rfl rfl (by decide) (by decide) (fun r u H locs hw hP hD hS => ?_)
  have hw : r = (sx_c 0 0) := hw
  subst hw
  have hP : va_P (gg_D G) classes [(t, .inr (8, [.ref b, .int 0, .int 0, .int 0, .int fl]))] H := hP
  have hD : va_D A [(t, .inr (8, [.ref b, .int 0, .int 0, .int 0, .int fl]))] := hD
  rw [show (sx_c 0 0) = 115 by decide +kernel]
  refine lv_bipush (v := 32) hx hb dX8_whichWord_34 (by decide +kernel) ?_
  refine lv_icmp_ne (tgt := 65) hx hb dX8_whichWord_36 (by decide) (fun _ => ?_) (fun c0 => absurd c0 (by decide +kernel))
  refine lv_iload hx hb dX8_whichWord_65 (lv_at hl 1 rfl) ?_
  refine lv_if_eq (tgt := 102) hx hb dX8_whichWord_67 (by decide) (fun c0 => absurd c0 (by decide +kernel)) (fun _ => ?_)
  refine lv_iload_n hx hb dX8_whichWord_70 rfl (lv_at hl 2 rfl) ?_
  refine lv_aload_n hx hb dX8_whichWord_71 rfl (lv_at hl 4 rfl) ?_
  refine gq_get hx hb ht hown hK hP i_X8 0 rfl rfl 3 (by decide) wd_159 rfl rfl dX8_whichWord_72 ?_
  refine lv_icmp_ge (tgt := 102) hx hb dX8_whichWord_75 (by decide) (fun _ => ?_) (fun c0 => absurd (by decide +kernel) c0)
  refine lv_iconst (v := 0) hx hb dX8_whichWord_102 (by decide) ?_
  refine lv_istore (lv' := [(4, .int 0), (5, .int 0), (3, .int 0), (2, .int 0), (0, .ref t), (1, .ref (K 0))]) hx hb dX8_whichWord_103 hl (by decide) rfl (fun ls hl => ?_)
  refine lv_iinc (v := 1) (lv' := [(3, .int 1), (4, .int 0), (5, .int 0), (2, .int 0), (0, .ref t), (1, .ref (K 0))]) hx hb dX8_whichWord_105 hl (k := 2) rfl (by decide +kernel) (by decide) rfl (fun ls hl => ?_)
  refine lv_iinc (v := 1) (lv' := [(5, .int 1), (3, .int 1), (4, .int 0), (2, .int 0), (0, .ref t), (1, .ref (K 0))]) hx hb dX8_whichWord_108 hl (k := 2) rfl (by decide +kernel) (by decide) rfl (fun ls hl => ?_)
  refine lv_goto (tgt := 10) hx hb dX8_whichWord_111 (by decide) ?_
  refine lv_iload hx hb dX8_whichWord_10 (lv_at hl 0 rfl) ?_
  refine lv_aload_n hx hb dX8_whichWord_12 rfl (lv_at hl 5 rfl) ?_
  have hPc := hP.sub (ws' := []) [] rfl
  have hDc := hD.sub (ws' := []) [] (by decide) rfl
  refine gq_callI (wr := [(t, .inr (8, [.ref b, .int 0, .int 0, .int 0, .int fl]))]) (va_runV (As := []) (rest := [.int 1]) ⟨hx, hb, hml, hown, ht⟩ (c_J_length0 l G H.size K V) (cwV 0 ht (ts_gV wd_591 wd_592 wd_593 wd_135 wd_594) rfl rfl rfl (by decide +kernel) ⟨Nat.le_of_ble_eq_true rfl, Nat.le_of_ble_eq_true rfl⟩) (gx_preK 0 (by decide) hK hPc hDc hX hS (va_free hD hS hA [] rfl)) rfl rfl hl.1 rfl (lv_room (Nat.le_of_ble_eq_true rfl)) dX8_whichWord_13 ⟨Nat.le_of_ble_eq_true rfl, Nat.le_of_ble_eq_true rfl⟩) hP hD hS hA [] [0] rfl rfl (by decide) (by decide) (fun r u H locs hw hP hD hS => ?_)
  have hw : r = 27 := hw
  subst hw
  have hP : va_P (gg_D G) classes [(t, .inr (8, [.ref b, .int 0, .int 0, .int 0, .int fl]))] H := hP
  have hD : va_D A [(t, .inr (8, [.ref b, .int 0, .int 0, .int 0, .int fl]))] := hD
  refine lv_icmp_gt (tgt := 114) hx hb dX8_whichWord_16 (by decide) (fun c0 => absurd c0 (by decide +kernel)) (fun _ => ?_)
  refine lv_iload hx hb dX8_whichWord_19 (lv_at hl 0 rfl) ?_
  refine lv_aload_n hx hb dX8_whichWord_21 rfl (lv_at hl 5 rfl) ?_
  have hPc := hP.sub (ws' := []) [] rfl
  have hDc := hD.sub (ws' := []) [] (by decide) rfl
  refine gq_callI (wr := [(t, .inr (8, [.ref b, .int 0, .int 0, .int 0, .int fl]))]) (va_runV (As := []) (rest := [.int 1]) ⟨hx, hb, hml, hown, ht⟩ (c_J_length0 l G H.size K V) (cwV 0 ht (ts_gV wd_591 wd_592 wd_593 wd_135 wd_594) rfl rfl rfl (by decide +kernel) ⟨Nat.le_of_ble_eq_true rfl, Nat.le_of_ble_eq_true rfl⟩) (gx_preK 0 (by decide) hK hPc hDc hX hS (va_free hD hS hA [] rfl)) rfl rfl hl.1 rfl (lv_room (Nat.le_of_ble_eq_true rfl)) dX8_whichWord_22 ⟨Nat.le_of_ble_eq_true rfl, Nat.le_of_ble_eq_true rfl⟩) hP hD hS hA [] [0] rfl rfl (by decide) (by decide) (fun r u H locs hw hP hD hS => ?_)
  have hw : r = 27 := hw
  subst hw
  have hP : va_P (gg_D G) classes [(t, .inr (8, [.ref b, .int 0, .int 0, .int 0, .int fl]))] H := hP
  have hD : va_D A [(t, .inr (8, [.ref b, .int 0, .int 0, .int 0, .int fl]))] := hD
  refine lv_icmp_eq (tgt := 39) hx hb dX8_whichWord_25 (by decide) (fun c0 => absurd c0 (by decide +kernel)) (fun _ => ?_)
  refine lv_aload_n hx hb dX8_whichWord_28 rfl (lv_at hl 5 rfl) ?_
  refine lv_iload hx hb dX8_whichWord_29 (lv_at hl 0 rfl) ?_
  have hPc := hP.sub (ws' := []) [] rfl
  have hDc := hD.sub (ws' := []) [] (by decide) rfl
  refine gq_callI (wr := [(t, .inr (8, [.ref b, .int 0, .int 0, .int 0, .int fl]))]) (va_runV (As := [.int 1]) (rest := []) ⟨hx, hb, hml, hown, ht⟩ (c_J_char0 l G H.size K V 1 (by decide +kernel) (by decide +kernel)) (cwV 1 ht (ts_gV wd_601 wd_602 wd_603 wd_135 wd_604) rfl rfl rfl (by decide +kernel) ⟨Nat.le_of_ble_eq_true rfl, Nat.le_of_ble_eq_true rfl⟩) (gx_preK 0 (by decide) hK hPc hDc hX hS (va_free hD hS hA [] rfl)) rfl rfl hl.1 rfl (lv_room (Nat.le_of_ble_eq_true rfl)) dX8_whichWord_31 ⟨Nat.le_of_ble_eq_true rfl, Nat.le_of_ble_eq_true rfl⟩) hP hD hS hA [] [0] rfl rfl (by decide) (by decide) (fun r u H locs hw hP hD hS => ?_)
  have hw : r = (sx_c 0 1) := hw
  subst hw
  have hP : va_P (gg_D G) classes [(t, .inr (8, [.ref b, .int 0, .int 0, .int 0, .int fl]))] H := hP
  have hD : va_D A [(t, .inr (8, [.ref b, .int 0, .int 0, .int 0, .int fl]))] := hD
  rw [show (sx_c 0 1) = 97 by decide +kernel]
  refine lv_bipush (v := 32) hx hb dX8_whichWord_34 (by decide +kernel) ?_
  refine lv_icmp_ne (tgt := 65) hx hb dX8_whichWord_36 (by decide) (fun _ => ?_) (fun c0 => absurd c0 (by decide +kernel))
  refine lv_iload hx hb dX8_whichWord_65 (lv_at hl 2 rfl) ?_
  refine lv_if_eq (tgt := 102) hx hb dX8_whichWord_67 (by decide) (fun _ => ?_) (fun c0 => absurd (by decide +kernel) c0)
  refine lv_iconst (v := 0) hx hb dX8_whichWord_102 (by decide) ?_
  refine lv_istore (lv' := [(4, .int 0), (5, .int 1), (3, .int 1), (2, .int 0), (0, .ref t), (1, .ref (K 0))]) hx hb dX8_whichWord_103 hl (by decide) rfl (fun ls hl => ?_)
  refine lv_iinc (v := 2) (lv' := [(3, .int 2), (4, .int 0), (5, .int 1), (2, .int 0), (0, .ref t), (1, .ref (K 0))]) hx hb dX8_whichWord_105 hl (k := 2) rfl (by decide +kernel) (by decide) rfl (fun ls hl => ?_)
  refine lv_iinc (v := 2) (lv' := [(5, .int 2), (3, .int 2), (4, .int 0), (2, .int 0), (0, .ref t), (1, .ref (K 0))]) hx hb dX8_whichWord_108 hl (k := 2) rfl (by decide +kernel) (by decide) rfl (fun ls hl => ?_)
  refine lv_goto (tgt := 10) hx hb dX8_whichWord_111 (by decide) ?_
  refine lv_iload hx hb dX8_whichWord_10 (lv_at hl 0 rfl) ?_
  refine lv_aload_n hx hb dX8_whichWord_12 rfl (lv_at hl 5 rfl) ?_
  have hPc := hP.sub (ws' := []) [] rfl
  have hDc := hD.sub (ws' := []) [] (by decide) rfl
  refine gq_callI (wr := [(t, .inr (8, [.ref b, .int 0, .int 0, .int 0, .int fl]))]) (va_runV (As := []) (rest := [.int 2]) ⟨hx, hb, hml, hown, ht⟩ (c_J_length0 l G H.size K V) (cwV 0 ht (ts_gV wd_591 wd_592 wd_593 wd_135 wd_594) rfl rfl rfl (by decide +kernel) ⟨Nat.le_of_ble_eq_true rfl, Nat.le_of_ble_eq_true rfl⟩) (gx_preK 0 (by decide) hK hPc hDc hX hS (va_free hD hS hA [] rfl)) rfl rfl hl.1 rfl (lv_room (Nat.le_of_ble_eq_true rfl)) dX8_whichWord_13 ⟨Nat.le_of_ble_eq_true rfl, Nat.le_of_ble_eq_true rfl⟩) hP hD hS hA [] [0] rfl rfl (by decide) (by decide) (fun r u H locs hw hP hD hS => ?_)
  have hw : r = 27 := hw
  subst hw
  have hP : va_P (gg_D G) classes [(t, .inr (8, [.ref b, .int 0, .int 0, .int 0, .int fl]))] H := hP
  have hD : va_D A [(t, .inr (8, [.ref b, .int 0, .int 0, .int 0, .int fl]))] := hD
  refine lv_icmp_gt (tgt := 114) hx hb dX8_whichWord_16 (by decide) (fun c0 => absurd c0 (by decide +kernel)) (fun _ => ?_)
  refine lv_iload hx hb dX8_whichWord_19 (lv_at hl 0 rfl) ?_
  refine lv_aload_n hx hb dX8_whichWord_21 rfl (lv_at hl 5 rfl) ?_
  have hPc := hP.sub (ws' := []) [] rfl
  have hDc := hD.sub (ws' := []) [] (by decide) rfl
  refine gq_callI (wr := [(t, .inr (8, [.ref b, .int 0, .int 0, .int 0, .int fl]))]) (va_runV (As := []) (rest := [.int 2]) ⟨hx, hb, hml, hown, ht⟩ (c_J_length0 l G H.size K V) (cwV 0 ht (ts_gV wd_591 wd_592 wd_593 wd_135 wd_594) rfl rfl rfl (by decide +kernel) ⟨Nat.le_of_ble_eq_true rfl, Nat.le_of_ble_eq_true rfl⟩) (gx_preK 0 (by decide) hK hPc hDc hX hS (va_free hD hS hA [] rfl)) rfl rfl hl.1 rfl (lv_room (Nat.le_of_ble_eq_true rfl)) dX8_whichWord_22 ⟨Nat.le_of_ble_eq_true rfl, Nat.le_of_ble_eq_true rfl⟩) hP hD hS hA [] [0] rfl rfl (by decide) (by decide) (fun r u H locs hw hP hD hS => ?_)
  have hw : r = 27 := hw
  subst hw
  have hP : va_P (gg_D G) classes [(t, .inr (8, [.ref b, .int 0, .int 0, .int 0, .int fl]))] H := hP
  have hD : va_D A [(t, .inr (8, [.ref b, .int 0, .int 0, .int 0, .int fl]))] := hD
  refine lv_icmp_eq (tgt := 39) hx hb dX8_whichWord_25 (by decide) (fun c0 => absurd c0 (by decide +kernel)) (fun _ => ?_)
  refine lv_aload_n hx hb dX8_whichWord_28 rfl (lv_at hl 5 rfl) ?_
  refine lv_iload hx hb dX8_whichWord_29 (lv_at hl 0 rfl) ?_
  have hPc := hP.sub (ws' := []) [] rfl
  have hDc := hD.sub (ws' := []) [] (by decide) rfl
  refine gq_callI (wr := [(t, .inr (8, [.ref b, .int 0, .int 0, .int 0, .int fl]))]) (va_runV (As := [.int 2]) (rest := []) ⟨hx, hb, hml, hown, ht⟩ (c_J_char0 l G H.size K V 2 (by decide +kernel) (by decide +kernel)) (cwV 1 ht (ts_gV wd_601 wd_602 wd_603 wd_135 wd_604) rfl rfl rfl (by decide +kernel) ⟨Nat.le_of_ble_eq_true rfl, Nat.le_of_ble_eq_true rfl⟩) (gx_preK 0 (by decide) hK hPc hDc hX hS (va_free hD hS hA [] rfl)) rfl rfl hl.1 rfl (lv_room (Nat.le_of_ble_eq_true rfl)) dX8_whichWord_31 ⟨Nat.le_of_ble_eq_true rfl, Nat.le_of_ble_eq_true rfl⟩) hP hD hS hA [] [0] rfl rfl (by decide) (by decide) (fun r u H locs hw hP hD hS => ?_)
  have hw : r = (sx_c 0 2) := hw
  subst hw
  have hP : va_P (gg_D G) classes [(t, .inr (8, [.ref b, .int 0, .int 0, .int 0, .int fl]))] H := hP
  have hD : va_D A [(t, .inr (8, [.ref b, .int 0, .int 0, .int 0, .int fl]))] := hD
  rw [show (sx_c 0 2) = 108 by decide +kernel]
  refine lv_bipush (v := 32) hx hb dX8_whichWord_34 (by decide +kernel) ?_
  refine lv_icmp_ne (tgt := 65) hx hb dX8_whichWord_36 (by decide) (fun _ => ?_) (fun c0 => absurd c0 (by decide +kernel))
  refine lv_iload hx hb dX8_whichWord_65 (lv_at hl 2 rfl) ?_
  refine lv_if_eq (tgt := 102) hx hb dX8_whichWord_67 (by decide) (fun _ => ?_) (fun c0 => absurd (by decide +kernel) c0)
  refine lv_iconst (v := 0) hx hb dX8_whichWord_102 (by decide) ?_
  refine lv_istore (lv' := [(4, .int 0), (5, .int 2), (3, .int 2), (2, .int 0), (0, .ref t), (1, .ref (K 0))]) hx hb dX8_whichWord_103 hl (by decide) rfl (fun ls hl => ?_)
  refine lv_iinc (v := 3) (lv' := [(3, .int 3), (4, .int 0), (5, .int 2), (2, .int 0), (0, .ref t), (1, .ref (K 0))]) hx hb dX8_whichWord_105 hl (k := 2) rfl (by decide +kernel) (by decide) rfl (fun ls hl => ?_)
  refine lv_iinc (v := 3) (lv' := [(5, .int 3), (3, .int 3), (4, .int 0), (2, .int 0), (0, .ref t), (1, .ref (K 0))]) hx hb dX8_whichWord_108 hl (k := 2) rfl (by decide +kernel) (by decide) rfl (fun ls hl => ?_)
  refine lv_goto (tgt := 10) hx hb dX8_whichWord_111 (by decide) ?_
  refine lv_iload hx hb dX8_whichWord_10 (lv_at hl 0 rfl) ?_
  refine lv_aload_n hx hb dX8_whichWord_12 rfl (lv_at hl 5 rfl) ?_
  have hPc := hP.sub (ws' := []) [] rfl
  have hDc := hD.sub (ws' := []) [] (by decide) rfl
  refine gq_callI (wr := [(t, .inr (8, [.ref b, .int 0, .int 0, .int 0, .int fl]))]) (va_runV (As := []) (rest := [.int 3]) ⟨hx, hb, hml, hown, ht⟩ (c_J_length0 l G H.size K V) (cwV 0 ht (ts_gV wd_591 wd_592 wd_593 wd_135 wd_594) rfl rfl rfl (by decide +kernel) ⟨Nat.le_of_ble_eq_true rfl, Nat.le_of_ble_eq_true rfl⟩) (gx_preK 0 (by decide) hK hPc hDc hX hS (va_free hD hS hA [] rfl)) rfl rfl hl.1 rfl (lv_room (Nat.le_of_ble_eq_true rfl)) dX8_whichWord_13 ⟨Nat.le_of_ble_eq_true rfl, Nat.le_of_ble_eq_true rfl⟩) hP hD hS hA [] [0] rfl rfl (by decide) (by decide) (fun r u H locs hw hP hD hS => ?_)
  have hw : r = 27 := hw
  subst hw
  have hP : va_P (gg_D G) classes [(t, .inr (8, [.ref b, .int 0, .int 0, .int 0, .int fl]))] H := hP
  have hD : va_D A [(t, .inr (8, [.ref b, .int 0, .int 0, .int 0, .int fl]))] := hD
  refine lv_icmp_gt (tgt := 114) hx hb dX8_whichWord_16 (by decide) (fun c0 => absurd c0 (by decide +kernel)) (fun _ => ?_)
  refine lv_iload hx hb dX8_whichWord_19 (lv_at hl 0 rfl) ?_
  refine lv_aload_n hx hb dX8_whichWord_21 rfl (lv_at hl 5 rfl) ?_
  have hPc := hP.sub (ws' := []) [] rfl
  have hDc := hD.sub (ws' := []) [] (by decide) rfl
  refine gq_callI (wr := [(t, .inr (8, [.ref b, .int 0, .int 0, .int 0, .int fl]))]) (va_runV (As := []) (rest := [.int 3]) ⟨hx, hb, hml, hown, ht⟩ (c_J_length0 l G H.size K V) (cwV 0 ht (ts_gV wd_591 wd_592 wd_593 wd_135 wd_594) rfl rfl rfl (by decide +kernel) ⟨Nat.le_of_ble_eq_true rfl, Nat.le_of_ble_eq_true rfl⟩) (gx_preK 0 (by decide) hK hPc hDc hX hS (va_free hD hS hA [] rfl)) rfl rfl hl.1 rfl (lv_room (Nat.le_of_ble_eq_true rfl)) dX8_whichWord_22 ⟨Nat.le_of_ble_eq_true rfl, Nat.le_of_ble_eq_true rfl⟩) hP hD hS hA [] [0] rfl rfl (by decide) (by decide) (fun r u H locs hw hP hD hS => ?_)
  have hw : r = 27 := hw
  subst hw
  have hP : va_P (gg_D G) classes [(t, .inr (8, [.ref b, .int 0, .int 0, .int 0, .int fl]))] H := hP
  have hD : va_D A [(t, .inr (8, [.ref b, .int 0, .int 0, .int 0, .int fl]))] := hD
  refine lv_icmp_eq (tgt := 39) hx hb dX8_whichWord_25 (by decide) (fun c0 => absurd c0 (by decide +kernel)) (fun _ => ?_)
  refine lv_aload_n hx hb dX8_whichWord_28 rfl (lv_at hl 5 rfl) ?_
  refine lv_iload hx hb dX8_whichWord_29 (lv_at hl 0 rfl) ?_
  have hPc := hP.sub (ws' := []) [] rfl
  have hDc := hD.sub (ws' := []) [] (by decide) rfl
  refine gq_callI (wr := [(t, .inr (8, [.ref b, .int 0, .int 0, .int 0, .int fl]))]) (va_runV (As := [.int 3]) (rest := []) ⟨hx, hb, hml, hown, ht⟩ (c_J_char0 l G H.size K V 3 (by decide +kernel) (by decide +kernel)) (cwV 1 ht (ts_gV wd_601 wd_602 wd_603 wd_135 wd_604) rfl rfl rfl (by decide +kernel) ⟨Nat.le_of_ble_eq_true rfl, Nat.le_of_ble_eq_true rfl⟩) (gx_preK 0 (by decide) hK hPc hDc hX hS (va_free hD hS hA [] rfl)) rfl rfl hl.1 rfl (lv_room (Nat.le_of_ble_eq_true rfl)) dX8_whichWord_31 ⟨Nat.le_of_ble_eq_true rfl, Nat.le_of_ble_eq_true rfl⟩) hP hD hS hA [] [0] rfl rfl (by decide) (by decide) (fun r u H locs hw hP hD hS => ?_)
  have hw : r = (sx_c 0 3) := hw
  subst hw
  have hP : va_P (gg_D G) classes [(t, .inr (8, [.ref b, .int 0, .int 0, .int 0, .int fl]))] H := hP
  have hD : va_D A [(t, .inr (8, [.ref b, .int 0, .int 0, .int 0, .int fl]))] := hD
  rw [show (sx_c 0 3) = 101 by decide +kernel]
  refine lv_bipush (v := 32) hx hb dX8_whichWord_34 (by decide +kernel) ?_
  refine lv_icmp_ne (tgt := 65) hx hb dX8_whichWord_36 (by decide) (fun _ => ?_) (fun c0 => absurd c0 (by decide +kernel))
  refine lv_iload hx hb dX8_whichWord_65 (lv_at hl 2 rfl) ?_
  refine lv_if_eq (tgt := 102) hx hb dX8_whichWord_67 (by decide) (fun _ => ?_) (fun c0 => absurd (by decide +kernel) c0)
  refine lv_iconst (v := 0) hx hb dX8_whichWord_102 (by decide) ?_
  refine lv_istore (lv' := [(4, .int 0), (5, .int 3), (3, .int 3), (2, .int 0), (0, .ref t), (1, .ref (K 0))]) hx hb dX8_whichWord_103 hl (by decide) rfl (fun ls hl => ?_)
  refine lv_iinc (v := 4) (lv' := [(3, .int 4), (4, .int 0), (5, .int 3), (2, .int 0), (0, .ref t), (1, .ref (K 0))]) hx hb dX8_whichWord_105 hl (k := 2) rfl (by decide +kernel) (by decide) rfl (fun ls hl => ?_)
  refine lv_iinc (v := 4) (lv' := [(5, .int 4), (3, .int 4), (4, .int 0), (2, .int 0), (0, .ref t), (1, .ref (K 0))]) hx hb dX8_whichWord_108 hl (k := 2) rfl (by decide +kernel) (by decide) rfl (fun ls hl => ?_)
  refine lv_goto (tgt := 10) hx hb dX8_whichWord_111 (by decide) ?_
  refine lv_iload hx hb dX8_whichWord_10 (lv_at hl 0 rfl) ?_
  refine lv_aload_n hx hb dX8_whichWord_12 rfl (lv_at hl 5 rfl) ?_
  have hPc := hP.sub (ws' := []) [] rfl
  have hDc := hD.sub (ws' := []) [] (by decide) rfl
  refine gq_callI (wr := [(t, .inr (8, [.ref b, .int 0, .int 0, .int 0, .int fl]))]) (va_runV (As := []) (rest := [.int 4]) ⟨hx, hb, hml, hown, ht⟩ (c_J_length0 l G H.size K V) (cwV 0 ht (ts_gV wd_591 wd_592 wd_593 wd_135 wd_594) rfl rfl rfl (by decide +kernel) ⟨Nat.le_of_ble_eq_true rfl, Nat.le_of_ble_eq_true rfl⟩) (gx_preK 0 (by decide) hK hPc hDc hX hS (va_free hD hS hA [] rfl)) rfl rfl hl.1 rfl (lv_room (Nat.le_of_ble_eq_true rfl)) dX8_whichWord_13 ⟨Nat.le_of_ble_eq_true rfl, Nat.le_of_ble_eq_true rfl⟩) hP hD hS hA [] [0] rfl rfl (by decide) (by decide) (fun r u H locs hw hP hD hS => ?_)
  have hw : r = 27 := hw
  subst hw
  have hP : va_P (gg_D G) classes [(t, .inr (8, [.ref b, .int 0, .int 0, .int 0, .int fl]))] H := hP
  have hD : va_D A [(t, .inr (8, [.ref b, .int 0, .int 0, .int 0, .int fl]))] := hD
  refine lv_icmp_gt (tgt := 114) hx hb dX8_whichWord_16 (by decide) (fun c0 => absurd c0 (by decide +kernel)) (fun _ => ?_)
  refine lv_iload hx hb dX8_whichWord_19 (lv_at hl 0 rfl) ?_
  refine lv_aload_n hx hb dX8_whichWord_21 rfl (lv_at hl 5 rfl) ?_
  have hPc := hP.sub (ws' := []) [] rfl
  have hDc := hD.sub (ws' := []) [] (by decide) rfl
  refine gq_callI (wr := [(t, .inr (8, [.ref b, .int 0, .int 0, .int 0, .int fl]))]) (va_runV (As := []) (rest := [.int 4]) ⟨hx, hb, hml, hown, ht⟩ (c_J_length0 l G H.size K V) (cwV 0 ht (ts_gV wd_591 wd_592 wd_593 wd_135 wd_594) rfl rfl rfl (by decide +kernel) ⟨Nat.le_of_ble_eq_true rfl, Nat.le_of_ble_eq_true rfl⟩) (gx_preK 0 (by decide) hK hPc hDc hX hS (va_free hD hS hA [] rfl)) rfl rfl hl.1 rfl (lv_room (Nat.le_of_ble_eq_true rfl)) dX8_whichWord_22 ⟨Nat.le_of_ble_eq_true rfl, Nat.le_of_ble_eq_true rfl⟩) hP hD hS hA [] [0] rfl rfl (by decide) (by decide) (fun r u H locs hw hP hD hS => ?_)
  have hw : r = 27 := hw
  subst hw
  have hP : va_P (gg_D G) classes [(t, .inr (8, [.ref b, .int 0, .int 0, .int 0, .int fl]))] H := hP
  have hD : va_D A [(t, .inr (8, [.ref b, .int 0, .int 0, .int 0, .int fl]))] := hD
  refine lv_icmp_eq (tgt := 39) hx hb dX8_whichWord_25 (by decide) (fun c0 => absurd c0 (by decide +kernel)) (fun _ => ?_)
  refine lv_aload_n hx hb dX8_whichWord_28 rfl (lv_at hl 5 rfl) ?_
  refine lv_iload hx hb dX8_whichWord_29 (lv_at hl 0 rfl) ?_
  have hPc := hP.sub (ws' := []) [] rfl
  have hDc := hD.sub (ws' := []) [] (by decide) rfl
  refine gq_callI (wr := [(t, .inr (8, [.ref b, .int 0, .int 0, .int 0, .int fl]))]) (va_runV (As := [.int 4]) (rest := []) ⟨hx, hb, hml, hown, ht⟩ (c_J_char0 l G H.size K V 4 (by decide +kernel) (by decide +kernel)) (cwV 1 ht (ts_gV wd_601 wd_602 wd_603 wd_135 wd_604) rfl rfl rfl (by decide +kernel) ⟨Nat.le_of_ble_eq_true rfl, Nat.le_of_ble_eq_true rfl⟩) (gx_preK 0 (by decide) hK hPc hDc hX hS (va_free hD hS hA [] rfl)) rfl rfl hl.1 rfl (lv_room (Nat.le_of_ble_eq_true rfl)) dX8_whichWord_31 ⟨Nat.le_of_ble_eq_true rfl, Nat.le_of_ble_eq_true rfl⟩) hP hD hS hA [] [0] rfl rfl (by decide) (by decide) (fun r u H locs hw hP hD hS => ?_)
  have hw : r = (sx_c 0 4) := hw
  subst hw
  have hP : va_P (gg_D G) classes [(t, .inr (8, [.ref b, .int 0, .int 0, .int 0, .int fl]))] H := hP
  have hD : va_D A [(t, .inr (8, [.ref b, .int 0, .int 0, .int 0, .int fl]))] := hD
  rw [show (sx_c 0 4) = 32 by decide +kernel]
  refine lv_bipush (v := 32) hx hb dX8_whichWord_34 (by decide +kernel) ?_
  refine lv_icmp_ne (tgt := 65) hx hb dX8_whichWord_36 (by decide) (fun c0 => absurd (by decide +kernel) c0) (fun _ => ?_)
  refine lv_iload hx hb dX8_whichWord_39 (lv_at hl 2 rfl) ?_
  refine lv_if_eq (tgt := 54) hx hb dX8_whichWord_41 (by decide) (fun _ => ?_) (fun c0 => absurd (by decide +kernel) c0)
  refine lv_iinc (v := 1) (lv' := [(2, .int 1), (5, .int 4), (3, .int 4), (4, .int 0), (0, .ref t), (1, .ref (K 0))]) hx hb dX8_whichWord_54 hl (k := 3) rfl (by decide +kernel) (by decide) rfl (fun ls hl => ?_)
  refine lv_iconst (v := 0) hx hb dX8_whichWord_57 (by decide) ?_
  refine lv_istore_n (lv' := [(3, .int 0), (2, .int 1), (5, .int 4), (4, .int 0), (0, .ref t), (1, .ref (K 0))]) hx hb dX8_whichWord_58 rfl hl (by decide) rfl (fun ls hl => ?_)
  refine lv_iconst (v := 1) hx hb dX8_whichWord_59 (by decide) ?_
  refine lv_istore (lv' := [(4, .int 1), (3, .int 0), (2, .int 1), (5, .int 4), (0, .ref t), (1, .ref (K 0))]) hx hb dX8_whichWord_60 hl (by decide) rfl (fun ls hl => ?_)
  refine lv_goto (tgt := 108) hx hb dX8_whichWord_62 (by decide) ?_
  refine lv_iinc (v := 5) (lv' := [(5, .int 5), (4, .int 1), (3, .int 0), (2, .int 1), (0, .ref t), (1, .ref (K 0))]) hx hb dX8_whichWord_108 hl (k := 3) rfl (by decide +kernel) (by decide) rfl (fun ls hl => ?_)
  refine lv_goto (tgt := 10) hx hb dX8_whichWord_111 (by decide) ?_
  refine lv_iload hx hb dX8_whichWord_10 (lv_at hl 0 rfl) ?_
  refine lv_aload_n hx hb dX8_whichWord_12 rfl (lv_at hl 5 rfl) ?_
  have hPc := hP.sub (ws' := []) [] rfl
  have hDc := hD.sub (ws' := []) [] (by decide) rfl
  refine gq_callI (wr := [(t, .inr (8, [.ref b, .int 0, .int 0, .int 0, .int fl]))]) (va_runV (As := []) (rest := [.int 5]) ⟨hx, hb, hml, hown, ht⟩ (c_J_length0 l G H.size K V) (cwV 0 ht (ts_gV wd_591 wd_592 wd_593 wd_135 wd_594) rfl rfl rfl (by decide +kernel) ⟨Nat.le_of_ble_eq_true rfl, Nat.le_of_ble_eq_true rfl⟩) (gx_preK 0 (by decide) hK hPc hDc hX hS (va_free hD hS hA [] rfl)) rfl rfl hl.1 rfl (lv_room (Nat.le_of_ble_eq_true rfl)) dX8_whichWord_13 ⟨Nat.le_of_ble_eq_true rfl, Nat.le_of_ble_eq_true rfl⟩) hP hD hS hA [] [0] rfl rfl (by decide) (by decide) (fun r u H locs hw hP hD hS => ?_)
  have hw : r = 27 := hw
  subst hw
  have hP : va_P (gg_D G) classes [(t, .inr (8, [.ref b, .int 0, .int 0, .int 0, .int fl]))] H := hP
  have hD : va_D A [(t, .inr (8, [.ref b, .int 0, .int 0, .int 0, .int fl]))] := hD
  refine lv_icmp_gt (tgt := 114) hx hb dX8_whichWord_16 (by decide) (fun c0 => absurd c0 (by decide +kernel)) (fun _ => ?_)
  refine lv_iload hx hb dX8_whichWord_19 (lv_at hl 0 rfl) ?_
  refine lv_aload_n hx hb dX8_whichWord_21 rfl (lv_at hl 5 rfl) ?_
  have hPc := hP.sub (ws' := []) [] rfl
  have hDc := hD.sub (ws' := []) [] (by decide) rfl
  refine gq_callI (wr := [(t, .inr (8, [.ref b, .int 0, .int 0, .int 0, .int fl]))]) (va_runV (As := []) (rest := [.int 5]) ⟨hx, hb, hml, hown, ht⟩ (c_J_length0 l G H.size K V) (cwV 0 ht (ts_gV wd_591 wd_592 wd_593 wd_135 wd_594) rfl rfl rfl (by decide +kernel) ⟨Nat.le_of_ble_eq_true rfl, Nat.le_of_ble_eq_true rfl⟩) (gx_preK 0 (by decide) hK hPc hDc hX hS (va_free hD hS hA [] rfl)) rfl rfl hl.1 rfl (lv_room (Nat.le_of_ble_eq_true rfl)) dX8_whichWord_22 ⟨Nat.le_of_ble_eq_true rfl, Nat.le_of_ble_eq_true rfl⟩) hP hD hS hA [] [0] rfl rfl (by decide) (by decide) (fun r u H locs hw hP hD hS => ?_)
  have hw : r = 27 := hw
  subst hw
  have hP : va_P (gg_D G) classes [(t, .inr (8, [.ref b, .int 0, .int 0, .int 0, .int fl]))] H := hP
  have hD : va_D A [(t, .inr (8, [.ref b, .int 0, .int 0, .int 0, .int fl]))] := hD
  refine lv_icmp_eq (tgt := 39) hx hb dX8_whichWord_25 (by decide) (fun c0 => absurd c0 (by decide +kernel)) (fun _ => ?_)
  refine lv_aload_n hx hb dX8_whichWord_28 rfl (lv_at hl 5 rfl) ?_
  refine lv_iload hx hb dX8_whichWord_29 (lv_at hl 0 rfl) ?_
  have hPc := hP.sub (ws' := []) [] rfl
  have hDc := hD.sub (ws' := []) [] (by decide) rfl
  refine gq_callI (wr := [(t, .inr (8, [.ref b, .int 0, .int 0, .int 0, .int fl]))]) (va_runV (As := [.int 5]) (rest := []) ⟨hx, hb, hml, hown, ht⟩ (c_J_char0 l G H.size K V 5 (by decide +kernel) (by decide +kernel)) (cwV 1 ht (ts_gV wd_601 wd_602 wd_603 wd_135 wd_604) rfl rfl rfl (by decide +kernel) ⟨Nat.le_of_ble_eq_true rfl, Nat.le_of_ble_eq_true rfl⟩) (gx_preK 0 (by decide) hK hPc hDc hX hS (va_free hD hS hA [] rfl)) rfl rfl hl.1 rfl (lv_room (Nat.le_of_ble_eq_true rfl)) dX8_whichWord_31 ⟨Nat.le_of_ble_eq_true rfl, Nat.le_of_ble_eq_true rfl⟩) hP hD hS hA [] [0] rfl rfl (by decide) (by decide) (fun r u H locs hw hP hD hS => ?_)
  have hw : r = (sx_c 0 5) := hw
  subst hw
  have hP : va_P (gg_D G) classes [(t, .inr (8, [.ref b, .int 0, .int 0, .int 0, .int fl]))] H := hP
  have hD : va_D A [(t, .inr (8, [.ref b, .int 0, .int 0, .int 0, .int fl]))] := hD
  rw [show (sx_c 0 5) = 98 by decide +kernel]
  refine lv_bipush (v := 32) hx hb dX8_whichWord_34 (by decide +kernel) ?_
  refine lv_icmp_ne (tgt := 65) hx hb dX8_whichWord_36 (by decide) (fun _ => ?_) (fun c0 => absurd c0 (by decide +kernel))
  refine lv_iload hx hb dX8_whichWord_65 (lv_at hl 1 rfl) ?_
  refine lv_if_eq (tgt := 102) hx hb dX8_whichWord_67 (by decide) (fun c0 => absurd c0 (by decide +kernel)) (fun _ => ?_)
  refine lv_iload_n hx hb dX8_whichWord_70 rfl (lv_at hl 2 rfl) ?_
  refine lv_aload_n hx hb dX8_whichWord_71 rfl (lv_at hl 4 rfl) ?_
  refine gq_get hx hb ht hown hK hP i_X8 0 rfl rfl 3 (by decide) wd_159 rfl rfl dX8_whichWord_72 ?_
  refine lv_icmp_ge (tgt := 102) hx hb dX8_whichWord_75 (by decide) (fun _ => ?_) (fun c0 => absurd (by decide +kernel) c0)
  refine lv_iconst (v := 0) hx hb dX8_whichWord_102 (by decide) ?_
  refine lv_istore (lv' := [(4, .int 0), (5, .int 5), (3, .int 0), (2, .int 1), (0, .ref t), (1, .ref (K 0))]) hx hb dX8_whichWord_103 hl (by decide) rfl (fun ls hl => ?_)
  refine lv_iinc (v := 1) (lv' := [(3, .int 1), (4, .int 0), (5, .int 5), (2, .int 1), (0, .ref t), (1, .ref (K 0))]) hx hb dX8_whichWord_105 hl (k := 2) rfl (by decide +kernel) (by decide) rfl (fun ls hl => ?_)
  refine lv_iinc (v := 6) (lv' := [(5, .int 6), (3, .int 1), (4, .int 0), (2, .int 1), (0, .ref t), (1, .ref (K 0))]) hx hb dX8_whichWord_108 hl (k := 2) rfl (by decide +kernel) (by decide) rfl (fun ls hl => ?_)
  refine lv_goto (tgt := 10) hx hb dX8_whichWord_111 (by decide) ?_
  refine lv_iload hx hb dX8_whichWord_10 (lv_at hl 0 rfl) ?_
  refine lv_aload_n hx hb dX8_whichWord_12 rfl (lv_at hl 5 rfl) ?_
  have hPc := hP.sub (ws' := []) [] rfl
  have hDc := hD.sub (ws' := []) [] (by decide) rfl
  refine gq_callI (wr := [(t, .inr (8, [.ref b, .int 0, .int 0, .int 0, .int fl]))]) (va_runV (As := []) (rest := [.int 6]) ⟨hx, hb, hml, hown, ht⟩ (c_J_length0 l G H.size K V) (cwV 0 ht (ts_gV wd_591 wd_592 wd_593 wd_135 wd_594) rfl rfl rfl (by decide +kernel) ⟨Nat.le_of_ble_eq_true rfl, Nat.le_of_ble_eq_true rfl⟩) (gx_preK 0 (by decide) hK hPc hDc hX hS (va_free hD hS hA [] rfl)) rfl rfl hl.1 rfl (lv_room (Nat.le_of_ble_eq_true rfl)) dX8_whichWord_13 ⟨Nat.le_of_ble_eq_true rfl, Nat.le_of_ble_eq_true rfl⟩) hP hD hS hA [] [0] rfl rfl (by decide) (by decide) (fun r u H locs hw hP hD hS => ?_)
  have hw : r = 27 := hw
  subst hw
  have hP : va_P (gg_D G) classes [(t, .inr (8, [.ref b, .int 0, .int 0, .int 0, .int fl]))] H := hP
  have hD : va_D A [(t, .inr (8, [.ref b, .int 0, .int 0, .int 0, .int fl]))] := hD
  refine lv_icmp_gt (tgt := 114) hx hb dX8_whichWord_16 (by decide) (fun c0 => absurd c0 (by decide +kernel)) (fun _ => ?_)
  refine lv_iload hx hb dX8_whichWord_19 (lv_at hl 0 rfl) ?_
  refine lv_aload_n hx hb dX8_whichWord_21 rfl (lv_at hl 5 rfl) ?_
  have hPc := hP.sub (ws' := []) [] rfl
  have hDc := hD.sub (ws' := []) [] (by decide) rfl
  refine gq_callI (wr := [(t, .inr (8, [.ref b, .int 0, .int 0, .int 0, .int fl]))]) (va_runV (As := []) (rest := [.int 6]) ⟨hx, hb, hml, hown, ht⟩ (c_J_length0 l G H.size K V) (cwV 0 ht (ts_gV wd_591 wd_592 wd_593 wd_135 wd_594) rfl rfl rfl (by decide +kernel) ⟨Nat.le_of_ble_eq_true rfl, Nat.le_of_ble_eq_true rfl⟩) (gx_preK 0 (by decide) hK hPc hDc hX hS (va_free hD hS hA [] rfl)) rfl rfl hl.1 rfl (lv_room (Nat.le_of_ble_eq_true rfl)) dX8_whichWord_22 ⟨Nat.le_of_ble_eq_true rfl, Nat.le_of_ble_eq_true rfl⟩) hP hD hS hA [] [0] rfl rfl (by decide) (by decide) (fun r u H locs hw hP hD hS => ?_)
  have hw : r = 27 := hw
  subst hw
  have hP : va_P (gg_D G) classes [(t, .inr (8, [.ref b, .int 0, .int 0, .int 0, .int fl]))] H := hP
  have hD : va_D A [(t, .inr (8, [.ref b, .int 0, .int 0, .int 0, .int fl]))] := hD
  refine lv_icmp_eq (tgt := 39) hx hb dX8_whichWord_25 (by decide) (fun c0 => absurd c0 (by decide +kernel)) (fun _ => ?_)
  refine lv_aload_n hx hb dX8_whichWord_28 rfl (lv_at hl 5 rfl) ?_
  refine lv_iload hx hb dX8_whichWord_29 (lv_at hl 0 rfl) ?_
  have hPc := hP.sub (ws' := []) [] rfl
  have hDc := hD.sub (ws' := []) [] (by decide) rfl
  refine gq_callI (wr := [(t, .inr (8, [.ref b, .int 0, .int 0, .int 0, .int fl]))]) (va_runV (As := [.int 6]) (rest := []) ⟨hx, hb, hml, hown, ht⟩ (c_J_char0 l G H.size K V 6 (by decide +kernel) (by decide +kernel)) (cwV 1 ht (ts_gV wd_601 wd_602 wd_603 wd_135 wd_604) rfl rfl rfl (by decide +kernel) ⟨Nat.le_of_ble_eq_true rfl, Nat.le_of_ble_eq_true rfl⟩) (gx_preK 0 (by decide) hK hPc hDc hX hS (va_free hD hS hA [] rfl)) rfl rfl hl.1 rfl (lv_room (Nat.le_of_ble_eq_true rfl)) dX8_whichWord_31 ⟨Nat.le_of_ble_eq_true rfl, Nat.le_of_ble_eq_true rfl⟩) hP hD hS hA [] [0] rfl rfl (by decide) (by decide) (fun r u H locs hw hP hD hS => ?_)
  have hw : r = (sx_c 0 6) := hw
  subst hw
  have hP : va_P (gg_D G) classes [(t, .inr (8, [.ref b, .int 0, .int 0, .int 0, .int fl]))] H := hP
  have hD : va_D A [(t, .inr (8, [.ref b, .int 0, .int 0, .int 0, .int fl]))] := hD
  rw [show (sx_c 0 6) = 105 by decide +kernel]
  refine lv_bipush (v := 32) hx hb dX8_whichWord_34 (by decide +kernel) ?_
  refine lv_icmp_ne (tgt := 65) hx hb dX8_whichWord_36 (by decide) (fun _ => ?_) (fun c0 => absurd c0 (by decide +kernel))
  refine lv_iload hx hb dX8_whichWord_65 (lv_at hl 2 rfl) ?_
  refine lv_if_eq (tgt := 102) hx hb dX8_whichWord_67 (by decide) (fun _ => ?_) (fun c0 => absurd (by decide +kernel) c0)
  refine lv_iconst (v := 0) hx hb dX8_whichWord_102 (by decide) ?_
  refine lv_istore (lv' := [(4, .int 0), (5, .int 6), (3, .int 1), (2, .int 1), (0, .ref t), (1, .ref (K 0))]) hx hb dX8_whichWord_103 hl (by decide) rfl (fun ls hl => ?_)
  refine lv_iinc (v := 2) (lv' := [(3, .int 2), (4, .int 0), (5, .int 6), (2, .int 1), (0, .ref t), (1, .ref (K 0))]) hx hb dX8_whichWord_105 hl (k := 2) rfl (by decide +kernel) (by decide) rfl (fun ls hl => ?_)
  refine lv_iinc (v := 7) (lv' := [(5, .int 7), (3, .int 2), (4, .int 0), (2, .int 1), (0, .ref t), (1, .ref (K 0))]) hx hb dX8_whichWord_108 hl (k := 2) rfl (by decide +kernel) (by decide) rfl (fun ls hl => ?_)
  refine lv_goto (tgt := 10) hx hb dX8_whichWord_111 (by decide) ?_
  refine lv_iload hx hb dX8_whichWord_10 (lv_at hl 0 rfl) ?_
  refine lv_aload_n hx hb dX8_whichWord_12 rfl (lv_at hl 5 rfl) ?_
  have hPc := hP.sub (ws' := []) [] rfl
  have hDc := hD.sub (ws' := []) [] (by decide) rfl
  refine gq_callI (wr := [(t, .inr (8, [.ref b, .int 0, .int 0, .int 0, .int fl]))]) (va_runV (As := []) (rest := [.int 7]) ⟨hx, hb, hml, hown, ht⟩ (c_J_length0 l G H.size K V) (cwV 0 ht (ts_gV wd_591 wd_592 wd_593 wd_135 wd_594) rfl rfl rfl (by decide +kernel) ⟨Nat.le_of_ble_eq_true rfl, Nat.le_of_ble_eq_true rfl⟩) (gx_preK 0 (by decide) hK hPc hDc hX hS (va_free hD hS hA [] rfl)) rfl rfl hl.1 rfl (lv_room (Nat.le_of_ble_eq_true rfl)) dX8_whichWord_13 ⟨Nat.le_of_ble_eq_true rfl, Nat.le_of_ble_eq_true rfl⟩) hP hD hS hA [] [0] rfl rfl (by decide) (by decide) (fun r u H locs hw hP hD hS => ?_)
  have hw : r = 27 := hw
  subst hw
  have hP : va_P (gg_D G) classes [(t, .inr (8, [.ref b, .int 0, .int 0, .int 0, .int fl]))] H := hP
  have hD : va_D A [(t, .inr (8, [.ref b, .int 0, .int 0, .int 0, .int fl]))] := hD
  refine lv_icmp_gt (tgt := 114) hx hb dX8_whichWord_16 (by decide) (fun c0 => absurd c0 (by decide +kernel)) (fun _ => ?_)
  refine lv_iload hx hb dX8_whichWord_19 (lv_at hl 0 rfl) ?_
  refine lv_aload_n hx hb dX8_whichWord_21 rfl (lv_at hl 5 rfl) ?_
  have hPc := hP.sub (ws' := []) [] rfl
  have hDc := hD.sub (ws' := []) [] (by decide) rfl
  refine gq_callI (wr := [(t, .inr (8, [.ref b, .int 0, .int 0, .int 0, .int fl]))]) (va_runV (As := []) (rest := [.int 7]) ⟨hx, hb, hml, hown, ht⟩ (c_J_length0 l G H.size K V) (cwV 0 ht (ts_gV wd_591 wd_592 wd_593 wd_135 wd_594) rfl rfl rfl (by decide +kernel) ⟨Nat.le_of_ble_eq_true rfl, Nat.le_of_ble_eq_true rfl⟩) (gx_preK 0 (by decide) hK hPc hDc hX hS (va_free hD hS hA [] rfl)) rfl rfl hl.1 rfl (lv_room (Nat.le_of_ble_eq_true rfl)) dX8_whichWord_22 ⟨Nat.le_of_ble_eq_true rfl, Nat.le_of_ble_eq_true rfl⟩) hP hD hS hA [] [0] rfl rfl (by decide) (by decide) (fun r u H locs hw hP hD hS => ?_)
  have hw : r = 27 := hw
  subst hw
  have hP : va_P (gg_D G) classes [(t, .inr (8, [.ref b, .int 0, .int 0, .int 0, .int fl]))] H := hP
  have hD : va_D A [(t, .inr (8, [.ref b, .int 0, .int 0, .int 0, .int fl]))] := hD
  refine lv_icmp_eq (tgt := 39) hx hb dX8_whichWord_25 (by decide) (fun c0 => absurd c0 (by decide +kernel)) (fun _ => ?_)
  refine lv_aload_n hx hb dX8_whichWord_28 rfl (lv_at hl 5 rfl) ?_
  refine lv_iload hx hb dX8_whichWord_29 (lv_at hl 0 rfl) ?_
  have hPc := hP.sub (ws' := []) [] rfl
  have hDc := hD.sub (ws' := []) [] (by decide) rfl
  refine gq_callI (wr := [(t, .inr (8, [.ref b, .int 0, .int 0, .int 0, .int fl]))]) (va_runV (As := [.int 7]) (rest := []) ⟨hx, hb, hml, hown, ht⟩ (c_J_char0 l G H.size K V 7 (by decide +kernel) (by decide +kernel)) (cwV 1 ht (ts_gV wd_601 wd_602 wd_603 wd_135 wd_604) rfl rfl rfl (by decide +kernel) ⟨Nat.le_of_ble_eq_true rfl, Nat.le_of_ble_eq_true rfl⟩) (gx_preK 0 (by decide) hK hPc hDc hX hS (va_free hD hS hA [] rfl)) rfl rfl hl.1 rfl (lv_room (Nat.le_of_ble_eq_true rfl)) dX8_whichWord_31 ⟨Nat.le_of_ble_eq_true rfl, Nat.le_of_ble_eq_true rfl⟩) hP hD hS hA [] [0] rfl rfl (by decide) (by decide) (fun r u H locs hw hP hD hS => ?_)
  have hw : r = (sx_c 0 7) := hw
  subst hw
  have hP : va_P (gg_D G) classes [(t, .inr (8, [.ref b, .int 0, .int 0, .int 0, .int fl]))] H := hP
  have hD : va_D A [(t, .inr (8, [.ref b, .int 0, .int 0, .int 0, .int fl]))] := hD
  rw [show (sx_c 0 7) = 100 by decide +kernel]
  refine lv_bipush (v := 32) hx hb dX8_whichWord_34 (by decide +kernel) ?_
  refine lv_icmp_ne (tgt := 65) hx hb dX8_whichWord_36 (by decide) (fun _ => ?_) (fun c0 => absurd c0 (by decide +kernel))
  refine lv_iload hx hb dX8_whichWord_65 (lv_at hl 2 rfl) ?_
  refine lv_if_eq (tgt := 102) hx hb dX8_whichWord_67 (by decide) (fun _ => ?_) (fun c0 => absurd (by decide +kernel) c0)
  refine lv_iconst (v := 0) hx hb dX8_whichWord_102 (by decide) ?_
  refine lv_istore (lv' := [(4, .int 0), (5, .int 7), (3, .int 2), (2, .int 1), (0, .ref t), (1, .ref (K 0))]) hx hb dX8_whichWord_103 hl (by decide) rfl (fun ls hl => ?_)
  refine lv_iinc (v := 3) (lv' := [(3, .int 3), (4, .int 0), (5, .int 7), (2, .int 1), (0, .ref t), (1, .ref (K 0))]) hx hb dX8_whichWord_105 hl (k := 2) rfl (by decide +kernel) (by decide) rfl (fun ls hl => ?_)
  refine lv_iinc (v := 8) (lv' := [(5, .int 8), (3, .int 3), (4, .int 0), (2, .int 1), (0, .ref t), (1, .ref (K 0))]) hx hb dX8_whichWord_108 hl (k := 2) rfl (by decide +kernel) (by decide) rfl (fun ls hl => ?_)
  refine lv_goto (tgt := 10) hx hb dX8_whichWord_111 (by decide) ?_
  refine lv_iload hx hb dX8_whichWord_10 (lv_at hl 0 rfl) ?_
  refine lv_aload_n hx hb dX8_whichWord_12 rfl (lv_at hl 5 rfl) ?_
  have hPc := hP.sub (ws' := []) [] rfl
  have hDc := hD.sub (ws' := []) [] (by decide) rfl
  refine gq_callI (wr := [(t, .inr (8, [.ref b, .int 0, .int 0, .int 0, .int fl]))]) (va_runV (As := []) (rest := [.int 8]) ⟨hx, hb, hml, hown, ht⟩ (c_J_length0 l G H.size K V) (cwV 0 ht (ts_gV wd_591 wd_592 wd_593 wd_135 wd_594) rfl rfl rfl (by decide +kernel) ⟨Nat.le_of_ble_eq_true rfl, Nat.le_of_ble_eq_true rfl⟩) (gx_preK 0 (by decide) hK hPc hDc hX hS (va_free hD hS hA [] rfl)) rfl rfl hl.1 rfl (lv_room (Nat.le_of_ble_eq_true rfl)) dX8_whichWord_13 ⟨Nat.le_of_ble_eq_true rfl, Nat.le_of_ble_eq_true rfl⟩) hP hD hS hA [] [0] rfl rfl (by decide) (by decide) (fun r u H locs hw hP hD hS => ?_)
  have hw : r = 27 := hw
  subst hw
  have hP : va_P (gg_D G) classes [(t, .inr (8, [.ref b, .int 0, .int 0, .int 0, .int fl]))] H := hP
  have hD : va_D A [(t, .inr (8, [.ref b, .int 0, .int 0, .int 0, .int fl]))] := hD
  refine lv_icmp_gt (tgt := 114) hx hb dX8_whichWord_16 (by decide) (fun c0 => absurd c0 (by decide +kernel)) (fun _ => ?_)
  refine lv_iload hx hb dX8_whichWord_19 (lv_at hl 0 rfl) ?_
  refine lv_aload_n hx hb dX8_whichWord_21 rfl (lv_at hl 5 rfl) ?_
  have hPc := hP.sub (ws' := []) [] rfl
  have hDc := hD.sub (ws' := []) [] (by decide) rfl
  refine gq_callI (wr := [(t, .inr (8, [.ref b, .int 0, .int 0, .int 0, .int fl]))]) (va_runV (As := []) (rest := [.int 8]) ⟨hx, hb, hml, hown, ht⟩ (c_J_length0 l G H.size K V) (cwV 0 ht (ts_gV wd_591 wd_592 wd_593 wd_135 wd_594) rfl rfl rfl (by decide +kernel) ⟨Nat.le_of_ble_eq_true rfl, Nat.le_of_ble_eq_true rfl⟩) (gx_preK 0 (by decide) hK hPc hDc hX hS (va_free hD hS hA [] rfl)) rfl rfl hl.1 rfl (lv_room (Nat.le_of_ble_eq_true rfl)) dX8_whichWord_22 ⟨Nat.le_of_ble_eq_true rfl, Nat.le_of_ble_eq_true rfl⟩) hP hD hS hA [] [0] rfl rfl (by decide) (by decide) (fun r u H locs hw hP hD hS => ?_)
  have hw : r = 27 := hw
  subst hw
  have hP : va_P (gg_D G) classes [(t, .inr (8, [.ref b, .int 0, .int 0, .int 0, .int fl]))] H := hP
  have hD : va_D A [(t, .inr (8, [.ref b, .int 0, .int 0, .int 0, .int fl]))] := hD
  refine lv_icmp_eq (tgt := 39) hx hb dX8_whichWord_25 (by decide) (fun c0 => absurd c0 (by decide +kernel)) (fun _ => ?_)
  refine lv_aload_n hx hb dX8_whichWord_28 rfl (lv_at hl 5 rfl) ?_
  refine lv_iload hx hb dX8_whichWord_29 (lv_at hl 0 rfl) ?_
  have hPc := hP.sub (ws' := []) [] rfl
  have hDc := hD.sub (ws' := []) [] (by decide) rfl
  refine gq_callI (wr := [(t, .inr (8, [.ref b, .int 0, .int 0, .int 0, .int fl]))]) (va_runV (As := [.int 8]) (rest := []) ⟨hx, hb, hml, hown, ht⟩ (c_J_char0 l G H.size K V 8 (by decide +kernel) (by decide +kernel)) (cwV 1 ht (ts_gV wd_601 wd_602 wd_603 wd_135 wd_604) rfl rfl rfl (by decide +kernel) ⟨Nat.le_of_ble_eq_true rfl, Nat.le_of_ble_eq_true rfl⟩) (gx_preK 0 (by decide) hK hPc hDc hX hS (va_free hD hS hA [] rfl)) rfl rfl hl.1 rfl (lv_room (Nat.le_of_ble_eq_true rfl)) dX8_whichWord_31 ⟨Nat.le_of_ble_eq_true rfl, Nat.le_of_ble_eq_true rfl⟩) hP hD hS hA [] [0] rfl rfl (by decide) (by decide) (fun r u H locs hw hP hD hS => ?_)
  have hw : r = (sx_c 0 8) := hw
  subst hw
  have hP : va_P (gg_D G) classes [(t, .inr (8, [.ref b, .int 0, .int 0, .int 0, .int fl]))] H := hP
  have hD : va_D A [(t, .inr (8, [.ref b, .int 0, .int 0, .int 0, .int fl]))] := hD
  rw [show (sx_c 0 8) = 100 by decide +kernel]
  refine lv_bipush (v := 32) hx hb dX8_whichWord_34 (by decide +kernel) ?_
  refine lv_icmp_ne (tgt := 65) hx hb dX8_whichWord_36 (by decide) (fun _ => ?_) (fun c0 => absurd c0 (by decide +kernel))
  refine lv_iload hx hb dX8_whichWord_65 (lv_at hl 2 rfl) ?_
  refine lv_if_eq (tgt := 102) hx hb dX8_whichWord_67 (by decide) (fun _ => ?_) (fun c0 => absurd (by decide +kernel) c0)
  refine lv_iconst (v := 0) hx hb dX8_whichWord_102 (by decide) ?_
  refine lv_istore (lv' := [(4, .int 0), (5, .int 8), (3, .int 3), (2, .int 1), (0, .ref t), (1, .ref (K 0))]) hx hb dX8_whichWord_103 hl (by decide) rfl (fun ls hl => ?_)
  refine lv_iinc (v := 4) (lv' := [(3, .int 4), (4, .int 0), (5, .int 8), (2, .int 1), (0, .ref t), (1, .ref (K 0))]) hx hb dX8_whichWord_105 hl (k := 2) rfl (by decide +kernel) (by decide) rfl (fun ls hl => ?_)
  refine lv_iinc (v := 9) (lv' := [(5, .int 9), (3, .int 4), (4, .int 0), (2, .int 1), (0, .ref t), (1, .ref (K 0))]) hx hb dX8_whichWord_108 hl (k := 2) rfl (by decide +kernel) (by decide) rfl (fun ls hl => ?_)
  refine lv_goto (tgt := 10) hx hb dX8_whichWord_111 (by decide) ?_
  refine lv_iload hx hb dX8_whichWord_10 (lv_at hl 0 rfl) ?_
  refine lv_aload_n hx hb dX8_whichWord_12 rfl (lv_at hl 5 rfl) ?_
  have hPc := hP.sub (ws' := []) [] rfl
  have hDc := hD.sub (ws' := []) [] (by decide) rfl
  refine gq_callI (wr := [(t, .inr (8, [.ref b, .int 0, .int 0, .int 0, .int fl]))]) (va_runV (As := []) (rest := [.int 9]) ⟨hx, hb, hml, hown, ht⟩ (c_J_length0 l G H.size K V) (cwV 0 ht (ts_gV wd_591 wd_592 wd_593 wd_135 wd_594) rfl rfl rfl (by decide +kernel) ⟨Nat.le_of_ble_eq_true rfl, Nat.le_of_ble_eq_true rfl⟩) (gx_preK 0 (by decide) hK hPc hDc hX hS (va_free hD hS hA [] rfl)) rfl rfl hl.1 rfl (lv_room (Nat.le_of_ble_eq_true rfl)) dX8_whichWord_13 ⟨Nat.le_of_ble_eq_true rfl, Nat.le_of_ble_eq_true rfl⟩) hP hD hS hA [] [0] rfl rfl (by decide) (by decide) (fun r u H locs hw hP hD hS => ?_)
  have hw : r = 27 := hw
  subst hw
  have hP : va_P (gg_D G) classes [(t, .inr (8, [.ref b, .int 0, .int 0, .int 0, .int fl]))] H := hP
  have hD : va_D A [(t, .inr (8, [.ref b, .int 0, .int 0, .int 0, .int fl]))] := hD
  refine lv_icmp_gt (tgt := 114) hx hb dX8_whichWord_16 (by decide) (fun c0 => absurd c0 (by decide +kernel)) (fun _ => ?_)
  refine lv_iload hx hb dX8_whichWord_19 (lv_at hl 0 rfl) ?_
  refine lv_aload_n hx hb dX8_whichWord_21 rfl (lv_at hl 5 rfl) ?_
  have hPc := hP.sub (ws' := []) [] rfl
  have hDc := hD.sub (ws' := []) [] (by decide) rfl
  refine gq_callI (wr := [(t, .inr (8, [.ref b, .int 0, .int 0, .int 0, .int fl]))]) (va_runV (As := []) (rest := [.int 9]) ⟨hx, hb, hml, hown, ht⟩ (c_J_length0 l G H.size K V) (cwV 0 ht (ts_gV wd_591 wd_592 wd_593 wd_135 wd_594) rfl rfl rfl (by decide +kernel) ⟨Nat.le_of_ble_eq_true rfl, Nat.le_of_ble_eq_true rfl⟩) (gx_preK 0 (by decide) hK hPc hDc hX hS (va_free hD hS hA [] rfl)) rfl rfl hl.1 rfl (lv_room (Nat.le_of_ble_eq_true rfl)) dX8_whichWord_22 ⟨Nat.le_of_ble_eq_true rfl, Nat.le_of_ble_eq_true rfl⟩) hP hD hS hA [] [0] rfl rfl (by decide) (by decide) (fun r u H locs hw hP hD hS => ?_)
  have hw : r = 27 := hw
  subst hw
  have hP : va_P (gg_D G) classes [(t, .inr (8, [.ref b, .int 0, .int 0, .int 0, .int fl]))] H := hP
  have hD : va_D A [(t, .inr (8, [.ref b, .int 0, .int 0, .int 0, .int fl]))] := hD
  refine lv_icmp_eq (tgt := 39) hx hb dX8_whichWord_25 (by decide) (fun c0 => absurd c0 (by decide +kernel)) (fun _ => ?_)
  refine lv_aload_n hx hb dX8_whichWord_28 rfl (lv_at hl 5 rfl) ?_
  refine lv_iload hx hb dX8_whichWord_29 (lv_at hl 0 rfl) ?_
  have hPc := hP.sub (ws' := []) [] rfl
  have hDc := hD.sub (ws' := []) [] (by decide) rfl
  refine gq_callI (wr := [(t, .inr (8, [.ref b, .int 0, .int 0, .int 0, .int fl]))]) (va_runV (As := [.int 9]) (rest := []) ⟨hx, hb, hml, hown, ht⟩ (c_J_char0 l G H.size K V 9 (by decide +kernel) (by decide +kernel)) (cwV 1 ht (ts_gV wd_601 wd_602 wd_603 wd_135 wd_604) rfl rfl rfl (by decide +kernel) ⟨Nat.le_of_ble_eq_true rfl, Nat.le_of_ble_eq_true rfl⟩) (gx_preK 0 (by decide) hK hPc hDc hX hS (va_free hD hS hA [] rfl)) rfl rfl hl.1 rfl (lv_room (Nat.le_of_ble_eq_true rfl)) dX8_whichWord_31 ⟨Nat.le_of_ble_eq_true rfl, Nat.le_of_ble_eq_true rfl⟩) hP hD hS hA [] [0] rfl rfl (by decide) (by decide) (fun r u H locs hw hP hD hS => ?_)
  have hw : r = (sx_c 0 9) := hw
  subst hw
  have hP : va_P (gg_D G) classes [(t, .inr (8, [.ref b, .int 0, .int 0, .int 0, .int fl]))] H := hP
  have hD : va_D A [(t, .inr (8, [.ref b, .int 0, .int 0, .int 0, .int fl]))] := hD
  rw [show (sx_c 0 9) = 101 by decide +kernel]
  refine lv_bipush (v := 32) hx hb dX8_whichWord_34 (by decide +kernel) ?_
  refine lv_icmp_ne (tgt := 65) hx hb dX8_whichWord_36 (by decide) (fun _ => ?_) (fun c0 => absurd c0 (by decide +kernel))
  refine lv_iload hx hb dX8_whichWord_65 (lv_at hl 2 rfl) ?_
  refine lv_if_eq (tgt := 102) hx hb dX8_whichWord_67 (by decide) (fun _ => ?_) (fun c0 => absurd (by decide +kernel) c0)
  refine lv_iconst (v := 0) hx hb dX8_whichWord_102 (by decide) ?_
  refine lv_istore (lv' := [(4, .int 0), (5, .int 9), (3, .int 4), (2, .int 1), (0, .ref t), (1, .ref (K 0))]) hx hb dX8_whichWord_103 hl (by decide) rfl (fun ls hl => ?_)
  refine lv_iinc (v := 5) (lv' := [(3, .int 5), (4, .int 0), (5, .int 9), (2, .int 1), (0, .ref t), (1, .ref (K 0))]) hx hb dX8_whichWord_105 hl (k := 2) rfl (by decide +kernel) (by decide) rfl (fun ls hl => ?_)
  refine lv_iinc (v := 10) (lv' := [(5, .int 10), (3, .int 5), (4, .int 0), (2, .int 1), (0, .ref t), (1, .ref (K 0))]) hx hb dX8_whichWord_108 hl (k := 2) rfl (by decide +kernel) (by decide) rfl (fun ls hl => ?_)
  refine lv_goto (tgt := 10) hx hb dX8_whichWord_111 (by decide) ?_
  refine lv_iload hx hb dX8_whichWord_10 (lv_at hl 0 rfl) ?_
  refine lv_aload_n hx hb dX8_whichWord_12 rfl (lv_at hl 5 rfl) ?_
  have hPc := hP.sub (ws' := []) [] rfl
  have hDc := hD.sub (ws' := []) [] (by decide) rfl
  refine gq_callI (wr := [(t, .inr (8, [.ref b, .int 0, .int 0, .int 0, .int fl]))]) (va_runV (As := []) (rest := [.int 10]) ⟨hx, hb, hml, hown, ht⟩ (c_J_length0 l G H.size K V) (cwV 0 ht (ts_gV wd_591 wd_592 wd_593 wd_135 wd_594) rfl rfl rfl (by decide +kernel) ⟨Nat.le_of_ble_eq_true rfl, Nat.le_of_ble_eq_true rfl⟩) (gx_preK 0 (by decide) hK hPc hDc hX hS (va_free hD hS hA [] rfl)) rfl rfl hl.1 rfl (lv_room (Nat.le_of_ble_eq_true rfl)) dX8_whichWord_13 ⟨Nat.le_of_ble_eq_true rfl, Nat.le_of_ble_eq_true rfl⟩) hP hD hS hA [] [0] rfl rfl (by decide) (by decide) (fun r u H locs hw hP hD hS => ?_)
  have hw : r = 27 := hw
  subst hw
  have hP : va_P (gg_D G) classes [(t, .inr (8, [.ref b, .int 0, .int 0, .int 0, .int fl]))] H := hP
  have hD : va_D A [(t, .inr (8, [.ref b, .int 0, .int 0, .int 0, .int fl]))] := hD
  refine lv_icmp_gt (tgt := 114) hx hb dX8_whichWord_16 (by decide) (fun c0 => absurd c0 (by decide +kernel)) (fun _ => ?_)
  refine lv_iload hx hb dX8_whichWord_19 (lv_at hl 0 rfl) ?_
  refine lv_aload_n hx hb dX8_whichWord_21 rfl (lv_at hl 5 rfl) ?_
  have hPc := hP.sub (ws' := []) [] rfl
  have hDc := hD.sub (ws' := []) [] (by decide) rfl
  refine gq_callI (wr := [(t, .inr (8, [.ref b, .int 0, .int 0, .int 0, .int fl]))]) (va_runV (As := []) (rest := [.int 10]) ⟨hx, hb, hml, hown, ht⟩ (c_J_length0 l G H.size K V) (cwV 0 ht (ts_gV wd_591 wd_592 wd_593 wd_135 wd_594) rfl rfl rfl (by decide +kernel) ⟨Nat.le_of_ble_eq_true rfl, Nat.le_of_ble_eq_true rfl⟩) (gx_preK 0 (by decide) hK hPc hDc hX hS (va_free hD hS hA [] rfl)) rfl rfl hl.1 rfl (lv_room (Nat.le_of_ble_eq_true rfl)) dX8_whichWord_22 ⟨Nat.le_of_ble_eq_true rfl, Nat.le_of_ble_eq_true rfl⟩) hP hD hS hA [] [0] rfl rfl (by decide) (by decide) (fun r u H locs hw hP hD hS => ?_)
  have hw : r = 27 := hw
  subst hw
  have hP : va_P (gg_D G) classes [(t, .inr (8, [.ref b, .int 0, .int 0, .int 0, .int fl]))] H := hP
  have hD : va_D A [(t, .inr (8, [.ref b, .int 0, .int 0, .int 0, .int fl]))] := hD
  refine lv_icmp_eq (tgt := 39) hx hb dX8_whichWord_25 (by decide) (fun c0 => absurd c0 (by decide +kernel)) (fun _ => ?_)
  refine lv_aload_n hx hb dX8_whichWord_28 rfl (lv_at hl 5 rfl) ?_
  refine lv_iload hx hb dX8_whichWord_29 (lv_at hl 0 rfl) ?_
  have hPc := hP.sub (ws' := []) [] rfl
  have hDc := hD.sub (ws' := []) [] (by decide) rfl
  refine gq_callI (wr := [(t, .inr (8, [.ref b, .int 0, .int 0, .int 0, .int fl]))]) (va_runV (As := [.int 10]) (rest := []) ⟨hx, hb, hml, hown, ht⟩ (c_J_char0 l G H.size K V 10 (by decide +kernel) (by decide +kernel)) (cwV 1 ht (ts_gV wd_601 wd_602 wd_603 wd_135 wd_604) rfl rfl rfl (by decide +kernel) ⟨Nat.le_of_ble_eq_true rfl, Nat.le_of_ble_eq_true rfl⟩) (gx_preK 0 (by decide) hK hPc hDc hX hS (va_free hD hS hA [] rfl)) rfl rfl hl.1 rfl (lv_room (Nat.le_of_ble_eq_true rfl)) dX8_whichWord_31 ⟨Nat.le_of_ble_eq_true rfl, Nat.le_of_ble_eq_true rfl⟩) hP hD hS hA [] [0] rfl rfl (by decide) (by decide) (fun r u H locs hw hP hD hS => ?_)
  have hw : r = (sx_c 0 10) := hw
  subst hw
  have hP : va_P (gg_D G) classes [(t, .inr (8, [.ref b, .int 0, .int 0, .int 0, .int fl]))] H := hP
  have hD : va_D A [(t, .inr (8, [.ref b, .int 0, .int 0, .int 0, .int fl]))] := hD
  rw [show (sx_c 0 10) = 114 by decide +kernel]
  refine lv_bipush (v := 32) hx hb dX8_whichWord_34 (by decide +kernel) ?_
  refine lv_icmp_ne (tgt := 65) hx hb dX8_whichWord_36 (by decide) (fun _ => ?_) (fun c0 => absurd c0 (by decide +kernel))
  refine lv_iload hx hb dX8_whichWord_65 (lv_at hl 2 rfl) ?_
  refine lv_if_eq (tgt := 102) hx hb dX8_whichWord_67 (by decide) (fun _ => ?_) (fun c0 => absurd (by decide +kernel) c0)
  refine lv_iconst (v := 0) hx hb dX8_whichWord_102 (by decide) ?_
  refine lv_istore (lv' := [(4, .int 0), (5, .int 10), (3, .int 5), (2, .int 1), (0, .ref t), (1, .ref (K 0))]) hx hb dX8_whichWord_103 hl (by decide) rfl (fun ls hl => ?_)
  refine lv_iinc (v := 6) (lv' := [(3, .int 6), (4, .int 0), (5, .int 10), (2, .int 1), (0, .ref t), (1, .ref (K 0))]) hx hb dX8_whichWord_105 hl (k := 2) rfl (by decide +kernel) (by decide) rfl (fun ls hl => ?_)
  refine lv_iinc (v := 11) (lv' := [(5, .int 11), (3, .int 6), (4, .int 0), (2, .int 1), (0, .ref t), (1, .ref (K 0))]) hx hb dX8_whichWord_108 hl (k := 2) rfl (by decide +kernel) (by decide) rfl (fun ls hl => ?_)
  refine lv_goto (tgt := 10) hx hb dX8_whichWord_111 (by decide) ?_
  refine lv_iload hx hb dX8_whichWord_10 (lv_at hl 0 rfl) ?_
  refine lv_aload_n hx hb dX8_whichWord_12 rfl (lv_at hl 5 rfl) ?_
  have hPc := hP.sub (ws' := []) [] rfl
  have hDc := hD.sub (ws' := []) [] (by decide) rfl
  refine gq_callI (wr := [(t, .inr (8, [.ref b, .int 0, .int 0, .int 0, .int fl]))]) (va_runV (As := []) (rest := [.int 11]) ⟨hx, hb, hml, hown, ht⟩ (c_J_length0 l G H.size K V) (cwV 0 ht (ts_gV wd_591 wd_592 wd_593 wd_135 wd_594) rfl rfl rfl (by decide +kernel) ⟨Nat.le_of_ble_eq_true rfl, Nat.le_of_ble_eq_true rfl⟩) (gx_preK 0 (by decide) hK hPc hDc hX hS (va_free hD hS hA [] rfl)) rfl rfl hl.1 rfl (lv_room (Nat.le_of_ble_eq_true rfl)) dX8_whichWord_13 ⟨Nat.le_of_ble_eq_true rfl, Nat.le_of_ble_eq_true rfl⟩) hP hD hS hA [] [0] rfl rfl (by decide) (by decide) (fun r u H locs hw hP hD hS => ?_)
  have hw : r = 27 := hw
  subst hw
  have hP : va_P (gg_D G) classes [(t, .inr (8, [.ref b, .int 0, .int 0, .int 0, .int fl]))] H := hP
  have hD : va_D A [(t, .inr (8, [.ref b, .int 0, .int 0, .int 0, .int fl]))] := hD
  refine lv_icmp_gt (tgt := 114) hx hb dX8_whichWord_16 (by decide) (fun c0 => absurd c0 (by decide +kernel)) (fun _ => ?_)
  refine lv_iload hx hb dX8_whichWord_19 (lv_at hl 0 rfl) ?_
  refine lv_aload_n hx hb dX8_whichWord_21 rfl (lv_at hl 5 rfl) ?_
  have hPc := hP.sub (ws' := []) [] rfl
  have hDc := hD.sub (ws' := []) [] (by decide) rfl
  refine gq_callI (wr := [(t, .inr (8, [.ref b, .int 0, .int 0, .int 0, .int fl]))]) (va_runV (As := []) (rest := [.int 11]) ⟨hx, hb, hml, hown, ht⟩ (c_J_length0 l G H.size K V) (cwV 0 ht (ts_gV wd_591 wd_592 wd_593 wd_135 wd_594) rfl rfl rfl (by decide +kernel) ⟨Nat.le_of_ble_eq_true rfl, Nat.le_of_ble_eq_true rfl⟩) (gx_preK 0 (by decide) hK hPc hDc hX hS (va_free hD hS hA [] rfl)) rfl rfl hl.1 rfl (lv_room (Nat.le_of_ble_eq_true rfl)) dX8_whichWord_22 ⟨Nat.le_of_ble_eq_true rfl, Nat.le_of_ble_eq_true rfl⟩) hP hD hS hA [] [0] rfl rfl (by decide) (by decide) (fun r u H locs hw hP hD hS => ?_)
  have hw : r = 27 := hw
  subst hw
  have hP : va_P (gg_D G) classes [(t, .inr (8, [.ref b, .int 0, .int 0, .int 0, .int fl]))] H := hP
  have hD : va_D A [(t, .inr (8, [.ref b, .int 0, .int 0, .int 0, .int fl]))] := hD
  refine lv_icmp_eq (tgt := 39) hx hb dX8_whichWord_25 (by decide) (fun c0 => absurd c0 (by decide +kernel)) (fun _ => ?_)
  refine lv_aload_n hx hb dX8_whichWord_28 rfl (lv_at hl 5 rfl) ?_
  refine lv_iload hx hb dX8_whichWord_29 (lv_at hl 0 rfl) ?_
  have hPc := hP.sub (ws' := []) [] rfl
  have hDc := hD.sub (ws' := []) [] (by decide) rfl
  refine gq_callI (wr := [(t, .inr (8, [.ref b, .int 0, .int 0, .int 0, .int fl]))]) (va_runV (As := [.int 11]) (rest := []) ⟨hx, hb, hml, hown, ht⟩ (c_J_char0 l G H.size K V 11 (by decide +kernel) (by decide +kernel)) (cwV 1 ht (ts_gV wd_601 wd_602 wd_603 wd_135 wd_604) rfl rfl rfl (by decide +kernel) ⟨Nat.le_of_ble_eq_true rfl, Nat.le_of_ble_eq_true rfl⟩) (gx_preK 0 (by decide) hK hPc hDc hX hS (va_free hD hS hA [] rfl)) rfl rfl hl.1 rfl (lv_room (Nat.le_of_ble_eq_true rfl)) dX8_whichWord_31 ⟨Nat.le_of_ble_eq_true rfl, Nat.le_of_ble_eq_true rfl⟩) hP hD hS hA [] [0] rfl rfl (by decide) (by decide) (fun r u H locs hw hP hD hS => ?_)
  have hw : r = (sx_c 0 11) := hw
  subst hw
  have hP : va_P (gg_D G) classes [(t, .inr (8, [.ref b, .int 0, .int 0, .int 0, .int fl]))] H := hP
  have hD : va_D A [(t, .inr (8, [.ref b, .int 0, .int 0, .int 0, .int fl]))] := hD
  rw [show (sx_c 0 11) = 32 by decide +kernel]
  refine lv_bipush (v := 32) hx hb dX8_whichWord_34 (by decide +kernel) ?_
  refine lv_icmp_ne (tgt := 65) hx hb dX8_whichWord_36 (by decide) (fun c0 => absurd (by decide +kernel) c0) (fun _ => ?_)
  refine lv_iload hx hb dX8_whichWord_39 (lv_at hl 2 rfl) ?_
  refine lv_if_eq (tgt := 54) hx hb dX8_whichWord_41 (by decide) (fun _ => ?_) (fun c0 => absurd (by decide +kernel) c0)
  refine lv_iinc (v := 2) (lv' := [(2, .int 2), (5, .int 11), (3, .int 6), (4, .int 0), (0, .ref t), (1, .ref (K 0))]) hx hb dX8_whichWord_54 hl (k := 3) rfl (by decide +kernel) (by decide) rfl (fun ls hl => ?_)
  refine lv_iconst (v := 0) hx hb dX8_whichWord_57 (by decide) ?_
  refine lv_istore_n (lv' := [(3, .int 0), (2, .int 2), (5, .int 11), (4, .int 0), (0, .ref t), (1, .ref (K 0))]) hx hb dX8_whichWord_58 rfl hl (by decide) rfl (fun ls hl => ?_)
  refine lv_iconst (v := 1) hx hb dX8_whichWord_59 (by decide) ?_
  refine lv_istore (lv' := [(4, .int 1), (3, .int 0), (2, .int 2), (5, .int 11), (0, .ref t), (1, .ref (K 0))]) hx hb dX8_whichWord_60 hl (by decide) rfl (fun ls hl => ?_)
  refine lv_goto (tgt := 108) hx hb dX8_whichWord_62 (by decide) ?_
  refine lv_iinc (v := 12) (lv' := [(5, .int 12), (4, .int 1), (3, .int 0), (2, .int 2), (0, .ref t), (1, .ref (K 0))]) hx hb dX8_whichWord_108 hl (k := 3) rfl (by decide +kernel) (by decide) rfl (fun ls hl => ?_)
  refine lv_goto (tgt := 10) hx hb dX8_whichWord_111 (by decide) ?_
  refine lv_iload hx hb dX8_whichWord_10 (lv_at hl 0 rfl) ?_
  refine lv_aload_n hx hb dX8_whichWord_12 rfl (lv_at hl 5 rfl) ?_
  have hPc := hP.sub (ws' := []) [] rfl
  have hDc := hD.sub (ws' := []) [] (by decide) rfl
  refine gq_callI (wr := [(t, .inr (8, [.ref b, .int 0, .int 0, .int 0, .int fl]))]) (va_runV (As := []) (rest := [.int 12]) ⟨hx, hb, hml, hown, ht⟩ (c_J_length0 l G H.size K V) (cwV 0 ht (ts_gV wd_591 wd_592 wd_593 wd_135 wd_594) rfl rfl rfl (by decide +kernel) ⟨Nat.le_of_ble_eq_true rfl, Nat.le_of_ble_eq_true rfl⟩) (gx_preK 0 (by decide) hK hPc hDc hX hS (va_free hD hS hA [] rfl)) rfl rfl hl.1 rfl (lv_room (Nat.le_of_ble_eq_true rfl)) dX8_whichWord_13 ⟨Nat.le_of_ble_eq_true rfl, Nat.le_of_ble_eq_true rfl⟩) hP hD hS hA [] [0] rfl rfl (by decide) (by decide) (fun r u H locs hw hP hD hS => ?_)
  have hw : r = 27 := hw
  subst hw
  have hP : va_P (gg_D G) classes [(t, .inr (8, [.ref b, .int 0, .int 0, .int 0, .int fl]))] H := hP
  have hD : va_D A [(t, .inr (8, [.ref b, .int 0, .int 0, .int 0, .int fl]))] := hD
  refine lv_icmp_gt (tgt := 114) hx hb dX8_whichWord_16 (by decide) (fun c0 => absurd c0 (by decide +kernel)) (fun _ => ?_)
  refine lv_iload hx hb dX8_whichWord_19 (lv_at hl 0 rfl) ?_
  refine lv_aload_n hx hb dX8_whichWord_21 rfl (lv_at hl 5 rfl) ?_
  have hPc := hP.sub (ws' := []) [] rfl
  have hDc := hD.sub (ws' := []) [] (by decide) rfl
  refine gq_callI (wr := [(t, .inr (8, [.ref b, .int 0, .int 0, .int 0, .int fl]))]) (va_runV (As := []) (rest := [.int 12]) ⟨hx, hb, hml, hown, ht⟩ (c_J_length0 l G H.size K V) (cwV 0 ht (ts_gV wd_591 wd_592 wd_593 wd_135 wd_594) rfl rfl rfl (by decide +kernel) ⟨Nat.le_of_ble_eq_true rfl, Nat.le_of_ble_eq_true rfl⟩) (gx_preK 0 (by decide) hK hPc hDc hX hS (va_free hD hS hA [] rfl)) rfl rfl hl.1 rfl (lv_room (Nat.le_of_ble_eq_true rfl)) dX8_whichWord_22 ⟨Nat.le_of_ble_eq_true rfl, Nat.le_of_ble_eq_true rfl⟩) hP hD hS hA [] [0] rfl rfl (by decide) (by decide) (fun r u H locs hw hP hD hS => ?_)
  have hw : r = 27 := hw
  subst hw
  have hP : va_P (gg_D G) classes [(t, .inr (8, [.ref b, .int 0, .int 0, .int 0, .int fl]))] H := hP
  have hD : va_D A [(t, .inr (8, [.ref b, .int 0, .int 0, .int 0, .int fl]))] := hD
  refine lv_icmp_eq (tgt := 39) hx hb dX8_whichWord_25 (by decide) (fun c0 => absurd c0 (by decide +kernel)) (fun _ => ?_)
  refine lv_aload_n hx hb dX8_whichWord_28 rfl (lv_at hl 5 rfl) ?_
  refine lv_iload hx hb dX8_whichWord_29 (lv_at hl 0 rfl) ?_
  have hPc := hP.sub (ws' := []) [] rfl
  have hDc := hD.sub (ws' := []) [] (by decide) rfl
  refine gq_callI (wr := [(t, .inr (8, [.ref b, .int 0, .int 0, .int 0, .int fl]))]) (va_runV (As := [.int 12]) (rest := []) ⟨hx, hb, hml, hown, ht⟩ (c_J_char0 l G H.size K V 12 (by decide +kernel) (by decide +kernel)) (cwV 1 ht (ts_gV wd_601 wd_602 wd_603 wd_135 wd_604) rfl rfl rfl (by decide +kernel) ⟨Nat.le_of_ble_eq_true rfl, Nat.le_of_ble_eq_true rfl⟩) (gx_preK 0 (by decide) hK hPc hDc hX hS (va_free hD hS hA [] rfl)) rfl rfl hl.1 rfl (lv_room (Nat.le_of_ble_eq_true rfl)) dX8_whichWord_31 ⟨Nat.le_of_ble_eq_true rfl, Nat.le_of_ble_eq_true rfl⟩) hP hD hS hA [] [0] rfl rfl (by decide) (by decide) (fun r u H locs hw hP hD hS => ?_)
  have hw : r = (sx_c 0 12) := hw
  subst hw
  have hP : va_P (gg_D G) classes [(t, .inr (8, [.ref b, .int 0, .int 0, .int 0, .int fl]))] H := hP
  have hD : va_D A [(t, .inr (8, [.ref b, .int 0, .int 0, .int 0, .int fl]))] := hD
  rw [show (sx_c 0 12) = 108 by decide +kernel]
  refine lv_bipush (v := 32) hx hb dX8_whichWord_34 (by decide +kernel) ?_
  refine lv_icmp_ne (tgt := 65) hx hb dX8_whichWord_36 (by decide) (fun _ => ?_) (fun c0 => absurd c0 (by decide +kernel))
  refine lv_iload hx hb dX8_whichWord_65 (lv_at hl 1 rfl) ?_
  refine lv_if_eq (tgt := 102) hx hb dX8_whichWord_67 (by decide) (fun c0 => absurd c0 (by decide +kernel)) (fun _ => ?_)
  refine lv_iload_n hx hb dX8_whichWord_70 rfl (lv_at hl 2 rfl) ?_
  refine lv_aload_n hx hb dX8_whichWord_71 rfl (lv_at hl 4 rfl) ?_
  refine gq_get hx hb ht hown hK hP i_X8 0 rfl rfl 3 (by decide) wd_159 rfl rfl dX8_whichWord_72 ?_
  refine lv_icmp_ge (tgt := 102) hx hb dX8_whichWord_75 (by decide) (fun _ => ?_) (fun c0 => absurd (by decide +kernel) c0)
  refine lv_iconst (v := 0) hx hb dX8_whichWord_102 (by decide) ?_
  refine lv_istore (lv' := [(4, .int 0), (5, .int 12), (3, .int 0), (2, .int 2), (0, .ref t), (1, .ref (K 0))]) hx hb dX8_whichWord_103 hl (by decide) rfl (fun ls hl => ?_)
  refine lv_iinc (v := 1) (lv' := [(3, .int 1), (4, .int 0), (5, .int 12), (2, .int 2), (0, .ref t), (1, .ref (K 0))]) hx hb dX8_whichWord_105 hl (k := 2) rfl (by decide +kernel) (by decide) rfl (fun ls hl => ?_)
  refine lv_iinc (v := 13) (lv' := [(5, .int 13), (3, .int 1), (4, .int 0), (2, .int 2), (0, .ref t), (1, .ref (K 0))]) hx hb dX8_whichWord_108 hl (k := 2) rfl (by decide +kernel) (by decide) rfl (fun ls hl => ?_)
  refine lv_goto (tgt := 10) hx hb dX8_whichWord_111 (by decide) ?_
  refine lv_iload hx hb dX8_whichWord_10 (lv_at hl 0 rfl) ?_
  refine lv_aload_n hx hb dX8_whichWord_12 rfl (lv_at hl 5 rfl) ?_
  have hPc := hP.sub (ws' := []) [] rfl
  have hDc := hD.sub (ws' := []) [] (by decide) rfl
  refine gq_callI (wr := [(t, .inr (8, [.ref b, .int 0, .int 0, .int 0, .int fl]))]) (va_runV (As := []) (rest := [.int 13]) ⟨hx, hb, hml, hown, ht⟩ (c_J_length0 l G H.size K V) (cwV 0 ht (ts_gV wd_591 wd_592 wd_593 wd_135 wd_594) rfl rfl rfl (by decide +kernel) ⟨Nat.le_of_ble_eq_true rfl, Nat.le_of_ble_eq_true rfl⟩) (gx_preK 0 (by decide) hK hPc hDc hX hS (va_free hD hS hA [] rfl)) rfl rfl hl.1 rfl (lv_room (Nat.le_of_ble_eq_true rfl)) dX8_whichWord_13 ⟨Nat.le_of_ble_eq_true rfl, Nat.le_of_ble_eq_true rfl⟩) hP hD hS hA [] [0] rfl rfl (by decide) (by decide) (fun r u H locs hw hP hD hS => ?_)
  have hw : r = 27 := hw
  subst hw
  have hP : va_P (gg_D G) classes [(t, .inr (8, [.ref b, .int 0, .int 0, .int 0, .int fl]))] H := hP
  have hD : va_D A [(t, .inr (8, [.ref b, .int 0, .int 0, .int 0, .int fl]))] := hD
  refine lv_icmp_gt (tgt := 114) hx hb dX8_whichWord_16 (by decide) (fun c0 => absurd c0 (by decide +kernel)) (fun _ => ?_)
  refine lv_iload hx hb dX8_whichWord_19 (lv_at hl 0 rfl) ?_
  refine lv_aload_n hx hb dX8_whichWord_21 rfl (lv_at hl 5 rfl) ?_
  have hPc := hP.sub (ws' := []) [] rfl
  have hDc := hD.sub (ws' := []) [] (by decide) rfl
  refine gq_callI (wr := [(t, .inr (8, [.ref b, .int 0, .int 0, .int 0, .int fl]))]) (va_runV (As := []) (rest := [.int 13]) ⟨hx, hb, hml, hown, ht⟩ (c_J_length0 l G H.size K V) (cwV 0 ht (ts_gV wd_591 wd_592 wd_593 wd_135 wd_594) rfl rfl rfl (by decide +kernel) ⟨Nat.le_of_ble_eq_true rfl, Nat.le_of_ble_eq_true rfl⟩) (gx_preK 0 (by decide) hK hPc hDc hX hS (va_free hD hS hA [] rfl)) rfl rfl hl.1 rfl (lv_room (Nat.le_of_ble_eq_true rfl)) dX8_whichWord_22 ⟨Nat.le_of_ble_eq_true rfl, Nat.le_of_ble_eq_true rfl⟩) hP hD hS hA [] [0] rfl rfl (by decide) (by decide) (fun r u H locs hw hP hD hS => ?_)
  have hw : r = 27 := hw
  subst hw
  have hP : va_P (gg_D G) classes [(t, .inr (8, [.ref b, .int 0, .int 0, .int 0, .int fl]))] H := hP
  have hD : va_D A [(t, .inr (8, [.ref b, .int 0, .int 0, .int 0, .int fl]))] := hD
  refine lv_icmp_eq (tgt := 39) hx hb dX8_whichWord_25 (by decide) (fun c0 => absurd c0 (by decide +kernel)) (fun _ => ?_)
  refine lv_aload_n hx hb dX8_whichWord_28 rfl (lv_at hl 5 rfl) ?_
  refine lv_iload hx hb dX8_whichWord_29 (lv_at hl 0 rfl) ?_
  have hPc := hP.sub (ws' := []) [] rfl
  have hDc := hD.sub (ws' := []) [] (by decide) rfl
  refine gq_callI (wr := [(t, .inr (8, [.ref b, .int 0, .int 0, .int 0, .int fl]))]) (va_runV (As := [.int 13]) (rest := []) ⟨hx, hb, hml, hown, ht⟩ (c_J_char0 l G H.size K V 13 (by decide +kernel) (by decide +kernel)) (cwV 1 ht (ts_gV wd_601 wd_602 wd_603 wd_135 wd_604) rfl rfl rfl (by decide +kernel) ⟨Nat.le_of_ble_eq_true rfl, Nat.le_of_ble_eq_true rfl⟩) (gx_preK 0 (by decide) hK hPc hDc hX hS (va_free hD hS hA [] rfl)) rfl rfl hl.1 rfl (lv_room (Nat.le_of_ble_eq_true rfl)) dX8_whichWord_31 ⟨Nat.le_of_ble_eq_true rfl, Nat.le_of_ble_eq_true rfl⟩) hP hD hS hA [] [0] rfl rfl (by decide) (by decide) (fun r u H locs hw hP hD hS => ?_)
  have hw : r = (sx_c 0 13) := hw
  subst hw
  have hP : va_P (gg_D G) classes [(t, .inr (8, [.ref b, .int 0, .int 0, .int 0, .int fl]))] H := hP
  have hD : va_D A [(t, .inr (8, [.ref b, .int 0, .int 0, .int 0, .int fl]))] := hD
  rw [show (sx_c 0 13) = 111 by decide +kernel]
  refine lv_bipush (v := 32) hx hb dX8_whichWord_34 (by decide +kernel) ?_
  refine lv_icmp_ne (tgt := 65) hx hb dX8_whichWord_36 (by decide) (fun _ => ?_) (fun c0 => absurd c0 (by decide +kernel))
  refine lv_iload hx hb dX8_whichWord_65 (lv_at hl 2 rfl) ?_
  refine lv_if_eq (tgt := 102) hx hb dX8_whichWord_67 (by decide) (fun _ => ?_) (fun c0 => absurd (by decide +kernel) c0)
  refine lv_iconst (v := 0) hx hb dX8_whichWord_102 (by decide) ?_
  refine lv_istore (lv' := [(4, .int 0), (5, .int 13), (3, .int 1), (2, .int 2), (0, .ref t), (1, .ref (K 0))]) hx hb dX8_whichWord_103 hl (by decide) rfl (fun ls hl => ?_)
  refine lv_iinc (v := 2) (lv' := [(3, .int 2), (4, .int 0), (5, .int 13), (2, .int 2), (0, .ref t), (1, .ref (K 0))]) hx hb dX8_whichWord_105 hl (k := 2) rfl (by decide +kernel) (by decide) rfl (fun ls hl => ?_)
  refine lv_iinc (v := 14) (lv' := [(5, .int 14), (3, .int 2), (4, .int 0), (2, .int 2), (0, .ref t), (1, .ref (K 0))]) hx hb dX8_whichWord_108 hl (k := 2) rfl (by decide +kernel) (by decide) rfl (fun ls hl => ?_)
  refine lv_goto (tgt := 10) hx hb dX8_whichWord_111 (by decide) ?_
  refine lv_iload hx hb dX8_whichWord_10 (lv_at hl 0 rfl) ?_
  refine lv_aload_n hx hb dX8_whichWord_12 rfl (lv_at hl 5 rfl) ?_
  have hPc := hP.sub (ws' := []) [] rfl
  have hDc := hD.sub (ws' := []) [] (by decide) rfl
  refine gq_callI (wr := [(t, .inr (8, [.ref b, .int 0, .int 0, .int 0, .int fl]))]) (va_runV (As := []) (rest := [.int 14]) ⟨hx, hb, hml, hown, ht⟩ (c_J_length0 l G H.size K V) (cwV 0 ht (ts_gV wd_591 wd_592 wd_593 wd_135 wd_594) rfl rfl rfl (by decide +kernel) ⟨Nat.le_of_ble_eq_true rfl, Nat.le_of_ble_eq_true rfl⟩) (gx_preK 0 (by decide) hK hPc hDc hX hS (va_free hD hS hA [] rfl)) rfl rfl hl.1 rfl (lv_room (Nat.le_of_ble_eq_true rfl)) dX8_whichWord_13 ⟨Nat.le_of_ble_eq_true rfl, Nat.le_of_ble_eq_true rfl⟩) hP hD hS hA [] [0] rfl rfl (by decide) (by decide) (fun r u H locs hw hP hD hS => ?_)
  have hw : r = 27 := hw
  subst hw
  have hP : va_P (gg_D G) classes [(t, .inr (8, [.ref b, .int 0, .int 0, .int 0, .int fl]))] H := hP
  have hD : va_D A [(t, .inr (8, [.ref b, .int 0, .int 0, .int 0, .int fl]))] := hD
  refine lv_icmp_gt (tgt := 114) hx hb dX8_whichWord_16 (by decide) (fun c0 => absurd c0 (by decide +kernel)) (fun _ => ?_)
  refine lv_iload hx hb dX8_whichWord_19 (lv_at hl 0 rfl) ?_
  refine lv_aload_n hx hb dX8_whichWord_21 rfl (lv_at hl 5 rfl) ?_
  have hPc := hP.sub (ws' := []) [] rfl
  have hDc := hD.sub (ws' := []) [] (by decide) rfl
  refine gq_callI (wr := [(t, .inr (8, [.ref b, .int 0, .int 0, .int 0, .int fl]))]) (va_runV (As := []) (rest := [.int 14]) ⟨hx, hb, hml, hown, ht⟩ (c_J_length0 l G H.size K V) (cwV 0 ht (ts_gV wd_591 wd_592 wd_593 wd_135 wd_594) rfl rfl rfl (by decide +kernel) ⟨Nat.le_of_ble_eq_true rfl, Nat.le_of_ble_eq_true rfl⟩) (gx_preK 0 (by decide) hK hPc hDc hX hS (va_free hD hS hA [] rfl)) rfl rfl hl.1 rfl (lv_room (Nat.le_of_ble_eq_true rfl)) dX8_whichWord_22 ⟨Nat.le_of_ble_eq_true rfl, Nat.le_of_ble_eq_true rfl⟩) hP hD hS hA [] [0] rfl rfl (by decide) (by decide) (fun r u H locs hw hP hD hS => ?_)
  have hw : r = 27 := hw
  subst hw
  have hP : va_P (gg_D G) classes [(t, .inr (8, [.ref b, .int 0, .int 0, .int 0, .int fl]))] H := hP
  have hD : va_D A [(t, .inr (8, [.ref b, .int 0, .int 0, .int 0, .int fl]))] := hD
  refine lv_icmp_eq (tgt := 39) hx hb dX8_whichWord_25 (by decide) (fun c0 => absurd c0 (by decide +kernel)) (fun _ => ?_)
  refine lv_aload_n hx hb dX8_whichWord_28 rfl (lv_at hl 5 rfl) ?_
  refine lv_iload hx hb dX8_whichWord_29 (lv_at hl 0 rfl) ?_
  have hPc := hP.sub (ws' := []) [] rfl
  have hDc := hD.sub (ws' := []) [] (by decide) rfl
  refine gq_callI (wr := [(t, .inr (8, [.ref b, .int 0, .int 0, .int 0, .int fl]))]) (va_runV (As := [.int 14]) (rest := []) ⟨hx, hb, hml, hown, ht⟩ (c_J_char0 l G H.size K V 14 (by decide +kernel) (by decide +kernel)) (cwV 1 ht (ts_gV wd_601 wd_602 wd_603 wd_135 wd_604) rfl rfl rfl (by decide +kernel) ⟨Nat.le_of_ble_eq_true rfl, Nat.le_of_ble_eq_true rfl⟩) (gx_preK 0 (by decide) hK hPc hDc hX hS (va_free hD hS hA [] rfl)) rfl rfl hl.1 rfl (lv_room (Nat.le_of_ble_eq_true rfl)) dX8_whichWord_31 ⟨Nat.le_of_ble_eq_true rfl, Nat.le_of_ble_eq_true rfl⟩) hP hD hS hA [] [0] rfl rfl (by decide) (by decide) (fun r u H locs hw hP hD hS => ?_)
  have hw : r = (sx_c 0 14) := hw
  subst hw
  have hP : va_P (gg_D G) classes [(t, .inr (8, [.ref b, .int 0, .int 0, .int 0, .int fl]))] H := hP
  have hD : va_D A [(t, .inr (8, [.ref b, .int 0, .int 0, .int 0, .int fl]))] := hD
  rw [show (sx_c 0 14) = 116 by decide +kernel]
  refine lv_bipush (v := 32) hx hb dX8_whichWord_34 (by decide +kernel) ?_
  refine lv_icmp_ne (tgt := 65) hx hb dX8_whichWord_36 (by decide) (fun _ => ?_) (fun c0 => absurd c0 (by decide +kernel))
  refine lv_iload hx hb dX8_whichWord_65 (lv_at hl 2 rfl) ?_
  refine lv_if_eq (tgt := 102) hx hb dX8_whichWord_67 (by decide) (fun _ => ?_) (fun c0 => absurd (by decide +kernel) c0)
  refine lv_iconst (v := 0) hx hb dX8_whichWord_102 (by decide) ?_
  refine lv_istore (lv' := [(4, .int 0), (5, .int 14), (3, .int 2), (2, .int 2), (0, .ref t), (1, .ref (K 0))]) hx hb dX8_whichWord_103 hl (by decide) rfl (fun ls hl => ?_)
  refine lv_iinc (v := 3) (lv' := [(3, .int 3), (4, .int 0), (5, .int 14), (2, .int 2), (0, .ref t), (1, .ref (K 0))]) hx hb dX8_whichWord_105 hl (k := 2) rfl (by decide +kernel) (by decide) rfl (fun ls hl => ?_)
  refine lv_iinc (v := 15) (lv' := [(5, .int 15), (3, .int 3), (4, .int 0), (2, .int 2), (0, .ref t), (1, .ref (K 0))]) hx hb dX8_whichWord_108 hl (k := 2) rfl (by decide +kernel) (by decide) rfl (fun ls hl => ?_)
  refine lv_goto (tgt := 10) hx hb dX8_whichWord_111 (by decide) ?_
  refine lv_iload hx hb dX8_whichWord_10 (lv_at hl 0 rfl) ?_
  refine lv_aload_n hx hb dX8_whichWord_12 rfl (lv_at hl 5 rfl) ?_
  have hPc := hP.sub (ws' := []) [] rfl
  have hDc := hD.sub (ws' := []) [] (by decide) rfl
  refine gq_callI (wr := [(t, .inr (8, [.ref b, .int 0, .int 0, .int 0, .int fl]))]) (va_runV (As := []) (rest := [.int 15]) ⟨hx, hb, hml, hown, ht⟩ (c_J_length0 l G H.size K V) (cwV 0 ht (ts_gV wd_591 wd_592 wd_593 wd_135 wd_594) rfl rfl rfl (by decide +kernel) ⟨Nat.le_of_ble_eq_true rfl, Nat.le_of_ble_eq_true rfl⟩) (gx_preK 0 (by decide) hK hPc hDc hX hS (va_free hD hS hA [] rfl)) rfl rfl hl.1 rfl (lv_room (Nat.le_of_ble_eq_true rfl)) dX8_whichWord_13 ⟨Nat.le_of_ble_eq_true rfl, Nat.le_of_ble_eq_true rfl⟩) hP hD hS hA [] [0] rfl rfl (by decide) (by decide) (fun r u H locs hw hP hD hS => ?_)
  have hw : r = 27 := hw
  subst hw
  have hP : va_P (gg_D G) classes [(t, .inr (8, [.ref b, .int 0, .int 0, .int 0, .int fl]))] H := hP
  have hD : va_D A [(t, .inr (8, [.ref b, .int 0, .int 0, .int 0, .int fl]))] := hD
  refine lv_icmp_gt (tgt := 114) hx hb dX8_whichWord_16 (by decide) (fun c0 => absurd c0 (by decide +kernel)) (fun _ => ?_)
  refine lv_iload hx hb dX8_whichWord_19 (lv_at hl 0 rfl) ?_
  refine lv_aload_n hx hb dX8_whichWord_21 rfl (lv_at hl 5 rfl) ?_
  have hPc := hP.sub (ws' := []) [] rfl
  have hDc := hD.sub (ws' := []) [] (by decide) rfl
  refine gq_callI (wr := [(t, .inr (8, [.ref b, .int 0, .int 0, .int 0, .int fl]))]) (va_runV (As := []) (rest := [.int 15]) ⟨hx, hb, hml, hown, ht⟩ (c_J_length0 l G H.size K V) (cwV 0 ht (ts_gV wd_591 wd_592 wd_593 wd_135 wd_594) rfl rfl rfl (by decide +kernel) ⟨Nat.le_of_ble_eq_true rfl, Nat.le_of_ble_eq_true rfl⟩) (gx_preK 0 (by decide) hK hPc hDc hX hS (va_free hD hS hA [] rfl)) rfl rfl hl.1 rfl (lv_room (Nat.le_of_ble_eq_true rfl)) dX8_whichWord_22 ⟨Nat.le_of_ble_eq_true rfl, Nat.le_of_ble_eq_true rfl⟩) hP hD hS hA [] [0] rfl rfl (by decide) (by decide) (fun r u H locs hw hP hD hS => ?_)
  have hw : r = 27 := hw
  subst hw
  have hP : va_P (gg_D G) classes [(t, .inr (8, [.ref b, .int 0, .int 0, .int 0, .int fl]))] H := hP
  have hD : va_D A [(t, .inr (8, [.ref b, .int 0, .int 0, .int 0, .int fl]))] := hD
  refine lv_icmp_eq (tgt := 39) hx hb dX8_whichWord_25 (by decide) (fun c0 => absurd c0 (by decide +kernel)) (fun _ => ?_)
  refine lv_aload_n hx hb dX8_whichWord_28 rfl (lv_at hl 5 rfl) ?_
  refine lv_iload hx hb dX8_whichWord_29 (lv_at hl 0 rfl) ?_
  have hPc := hP.sub (ws' := []) [] rfl
  have hDc := hD.sub (ws' := []) [] (by decide) rfl
  refine gq_callI (wr := [(t, .inr (8, [.ref b, .int 0, .int 0, .int 0, .int fl]))]) (va_runV (As := [.int 15]) (rest := []) ⟨hx, hb, hml, hown, ht⟩ (c_J_char0 l G H.size K V 15 (by decide +kernel) (by decide +kernel)) (cwV 1 ht (ts_gV wd_601 wd_602 wd_603 wd_135 wd_604) rfl rfl rfl (by decide +kernel) ⟨Nat.le_of_ble_eq_true rfl, Nat.le_of_ble_eq_true rfl⟩) (gx_preK 0 (by decide) hK hPc hDc hX hS (va_free hD hS hA [] rfl)) rfl rfl hl.1 rfl (lv_room (Nat.le_of_ble_eq_true rfl)) dX8_whichWord_31 ⟨Nat.le_of_ble_eq_true rfl, Nat.le_of_ble_eq_true rfl⟩) hP hD hS hA [] [0] rfl rfl (by decide) (by decide) (fun r u H locs hw hP hD hS => ?_)
  have hw : r = (sx_c 0 15) := hw
  subst hw
  have hP : va_P (gg_D G) classes [(t, .inr (8, [.ref b, .int 0, .int 0, .int 0, .int fl]))] H := hP
  have hD : va_D A [(t, .inr (8, [.ref b, .int 0, .int 0, .int 0, .int fl]))] := hD
  rw [show (sx_c 0 15) = 32 by decide +kernel]
  refine lv_bipush (v := 32) hx hb dX8_whichWord_34 (by decide +kernel) ?_
  refine lv_icmp_ne (tgt := 65) hx hb dX8_whichWord_36 (by decide) (fun c0 => absurd (by decide +kernel) c0) (fun _ => ?_)
  refine lv_iload hx hb dX8_whichWord_39 (lv_at hl 2 rfl) ?_
  refine lv_if_eq (tgt := 54) hx hb dX8_whichWord_41 (by decide) (fun _ => ?_) (fun c0 => absurd (by decide +kernel) c0)
  refine lv_iinc (v := 3) (lv' := [(2, .int 3), (5, .int 15), (3, .int 3), (4, .int 0), (0, .ref t), (1, .ref (K 0))]) hx hb dX8_whichWord_54 hl (k := 3) rfl (by decide +kernel) (by decide) rfl (fun ls hl => ?_)
  refine lv_iconst (v := 0) hx hb dX8_whichWord_57 (by decide) ?_
  refine lv_istore_n (lv' := [(3, .int 0), (2, .int 3), (5, .int 15), (4, .int 0), (0, .ref t), (1, .ref (K 0))]) hx hb dX8_whichWord_58 rfl hl (by decide) rfl (fun ls hl => ?_)
  refine lv_iconst (v := 1) hx hb dX8_whichWord_59 (by decide) ?_
  refine lv_istore (lv' := [(4, .int 1), (3, .int 0), (2, .int 3), (5, .int 15), (0, .ref t), (1, .ref (K 0))]) hx hb dX8_whichWord_60 hl (by decide) rfl (fun ls hl => ?_)
  refine lv_goto (tgt := 108) hx hb dX8_whichWord_62 (by decide) ?_
  refine lv_iinc (v := 16) (lv' := [(5, .int 16), (4, .int 1), (3, .int 0), (2, .int 3), (0, .ref t), (1, .ref (K 0))]) hx hb dX8_whichWord_108 hl (k := 3) rfl (by decide +kernel) (by decide) rfl (fun ls hl => ?_)
  refine lv_goto (tgt := 10) hx hb dX8_whichWord_111 (by decide) ?_
  refine lv_iload hx hb dX8_whichWord_10 (lv_at hl 0 rfl) ?_
  refine lv_aload_n hx hb dX8_whichWord_12 rfl (lv_at hl 5 rfl) ?_
  have hPc := hP.sub (ws' := []) [] rfl
  have hDc := hD.sub (ws' := []) [] (by decide) rfl
  refine gq_callI (wr := [(t, .inr (8, [.ref b, .int 0, .int 0, .int 0, .int fl]))]) (va_runV (As := []) (rest := [.int 16]) ⟨hx, hb, hml, hown, ht⟩ (c_J_length0 l G H.size K V) (cwV 0 ht (ts_gV wd_591 wd_592 wd_593 wd_135 wd_594) rfl rfl rfl (by decide +kernel) ⟨Nat.le_of_ble_eq_true rfl, Nat.le_of_ble_eq_true rfl⟩) (gx_preK 0 (by decide) hK hPc hDc hX hS (va_free hD hS hA [] rfl)) rfl rfl hl.1 rfl (lv_room (Nat.le_of_ble_eq_true rfl)) dX8_whichWord_13 ⟨Nat.le_of_ble_eq_true rfl, Nat.le_of_ble_eq_true rfl⟩) hP hD hS hA [] [0] rfl rfl (by decide) (by decide) (fun r u H locs hw hP hD hS => ?_)
  have hw : r = 27 := hw
  subst hw
  have hP : va_P (gg_D G) classes [(t, .inr (8, [.ref b, .int 0, .int 0, .int 0, .int fl]))] H := hP
  have hD : va_D A [(t, .inr (8, [.ref b, .int 0, .int 0, .int 0, .int fl]))] := hD
  refine lv_icmp_gt (tgt := 114) hx hb dX8_whichWord_16 (by decide) (fun c0 => absurd c0 (by decide +kernel)) (fun _ => ?_)
  refine lv_iload hx hb dX8_whichWord_19 (lv_at hl 0 rfl) ?_
  refine lv_aload_n hx hb dX8_whichWord_21 rfl (lv_at hl 5 rfl) ?_
  have hPc := hP.sub (ws' := []) [] rfl
  have hDc := hD.sub (ws' := []) [] (by decide) rfl
  refine gq_callI (wr := [(t, .inr (8, [.ref b, .int 0, .int 0, .int 0, .int fl]))]) (va_runV (As := []) (rest := [.int 16]) ⟨hx, hb, hml, hown, ht⟩ (c_J_length0 l G H.size K V) (cwV 0 ht (ts_gV wd_591 wd_592 wd_593 wd_135 wd_594) rfl rfl rfl (by decide +kernel) ⟨Nat.le_of_ble_eq_true rfl, Nat.le_of_ble_eq_true rfl⟩) (gx_preK 0 (by decide) hK hPc hDc hX hS (va_free hD hS hA [] rfl)) rfl rfl hl.1 rfl (lv_room (Nat.le_of_ble_eq_true rfl)) dX8_whichWord_22 ⟨Nat.le_of_ble_eq_true rfl, Nat.le_of_ble_eq_true rfl⟩) hP hD hS hA [] [0] rfl rfl (by decide) (by decide) (fun r u H locs hw hP hD hS => ?_)
  have hw : r = 27 := hw
  subst hw
  have hP : va_P (gg_D G) classes [(t, .inr (8, [.ref b, .int 0, .int 0, .int 0, .int fl]))] H := hP
  have hD : va_D A [(t, .inr (8, [.ref b, .int 0, .int 0, .int 0, .int fl]))] := hD
  refine lv_icmp_eq (tgt := 39) hx hb dX8_whichWord_25 (by decide) (fun c0 => absurd c0 (by decide +kernel)) (fun _ => ?_)
  refine lv_aload_n hx hb dX8_whichWord_28 rfl (lv_at hl 5 rfl) ?_
  refine lv_iload hx hb dX8_whichWord_29 (lv_at hl 0 rfl) ?_
  have hPc := hP.sub (ws' := []) [] rfl
  have hDc := hD.sub (ws' := []) [] (by decide) rfl
  refine gq_callI (wr := [(t, .inr (8, [.ref b, .int 0, .int 0, .int 0, .int fl]))]) (va_runV (As := [.int 16]) (rest := []) ⟨hx, hb, hml, hown, ht⟩ (c_J_char0 l G H.size K V 16 (by decide +kernel) (by decide +kernel)) (cwV 1 ht (ts_gV wd_601 wd_602 wd_603 wd_135 wd_604) rfl rfl rfl (by decide +kernel) ⟨Nat.le_of_ble_eq_true rfl, Nat.le_of_ble_eq_true rfl⟩) (gx_preK 0 (by decide) hK hPc hDc hX hS (va_free hD hS hA [] rfl)) rfl rfl hl.1 rfl (lv_room (Nat.le_of_ble_eq_true rfl)) dX8_whichWord_31 ⟨Nat.le_of_ble_eq_true rfl, Nat.le_of_ble_eq_true rfl⟩) hP hD hS hA [] [0] rfl rfl (by decide) (by decide) (fun r u H locs hw hP hD hS => ?_)
  have hw : r = (sx_c 0 16) := hw
  subst hw
  have hP : va_P (gg_D G) classes [(t, .inr (8, [.ref b, .int 0, .int 0, .int 0, .int fl]))] H := hP
  have hD : va_D A [(t, .inr (8, [.ref b, .int 0, .int 0, .int 0, .int fl]))] := hD
  rw [show (sx_c 0 16) = 119 by decide +kernel]
  refine lv_bipush (v := 32) hx hb dX8_whichWord_34 (by decide +kernel) ?_
  refine lv_icmp_ne (tgt := 65) hx hb dX8_whichWord_36 (by decide) (fun _ => ?_) (fun c0 => absurd c0 (by decide +kernel))
  refine lv_iload hx hb dX8_whichWord_65 (lv_at hl 1 rfl) ?_
  refine lv_if_eq (tgt := 102) hx hb dX8_whichWord_67 (by decide) (fun c0 => absurd c0 (by decide +kernel)) (fun _ => ?_)
  refine lv_iload_n hx hb dX8_whichWord_70 rfl (lv_at hl 2 rfl) ?_
  refine lv_aload_n hx hb dX8_whichWord_71 rfl (lv_at hl 4 rfl) ?_
  refine gq_get hx hb ht hown hK hP i_X8 0 rfl rfl 3 (by decide) wd_159 rfl rfl dX8_whichWord_72 ?_
  refine lv_icmp_ge (tgt := 102) hx hb dX8_whichWord_75 (by decide) (fun _ => ?_) (fun c0 => absurd (by decide +kernel) c0)
  refine lv_iconst (v := 0) hx hb dX8_whichWord_102 (by decide) ?_
  refine lv_istore (lv' := [(4, .int 0), (5, .int 16), (3, .int 0), (2, .int 3), (0, .ref t), (1, .ref (K 0))]) hx hb dX8_whichWord_103 hl (by decide) rfl (fun ls hl => ?_)
  refine lv_iinc (v := 1) (lv' := [(3, .int 1), (4, .int 0), (5, .int 16), (2, .int 3), (0, .ref t), (1, .ref (K 0))]) hx hb dX8_whichWord_105 hl (k := 2) rfl (by decide +kernel) (by decide) rfl (fun ls hl => ?_)
  refine lv_iinc (v := 17) (lv' := [(5, .int 17), (3, .int 1), (4, .int 0), (2, .int 3), (0, .ref t), (1, .ref (K 0))]) hx hb dX8_whichWord_108 hl (k := 2) rfl (by decide +kernel) (by decide) rfl (fun ls hl => ?_)
  refine lv_goto (tgt := 10) hx hb dX8_whichWord_111 (by decide) ?_
  refine lv_iload hx hb dX8_whichWord_10 (lv_at hl 0 rfl) ?_
  refine lv_aload_n hx hb dX8_whichWord_12 rfl (lv_at hl 5 rfl) ?_
  have hPc := hP.sub (ws' := []) [] rfl
  have hDc := hD.sub (ws' := []) [] (by decide) rfl
  refine gq_callI (wr := [(t, .inr (8, [.ref b, .int 0, .int 0, .int 0, .int fl]))]) (va_runV (As := []) (rest := [.int 17]) ⟨hx, hb, hml, hown, ht⟩ (c_J_length0 l G H.size K V) (cwV 0 ht (ts_gV wd_591 wd_592 wd_593 wd_135 wd_594) rfl rfl rfl (by decide +kernel) ⟨Nat.le_of_ble_eq_true rfl, Nat.le_of_ble_eq_true rfl⟩) (gx_preK 0 (by decide) hK hPc hDc hX hS (va_free hD hS hA [] rfl)) rfl rfl hl.1 rfl (lv_room (Nat.le_of_ble_eq_true rfl)) dX8_whichWord_13 ⟨Nat.le_of_ble_eq_true rfl, Nat.le_of_ble_eq_true rfl⟩) hP hD hS hA [] [0] rfl rfl (by decide) (by decide) (fun r u H locs hw hP hD hS => ?_)
  have hw : r = 27 := hw
  subst hw
  have hP : va_P (gg_D G) classes [(t, .inr (8, [.ref b, .int 0, .int 0, .int 0, .int fl]))] H := hP
  have hD : va_D A [(t, .inr (8, [.ref b, .int 0, .int 0, .int 0, .int fl]))] := hD
  refine lv_icmp_gt (tgt := 114) hx hb dX8_whichWord_16 (by decide) (fun c0 => absurd c0 (by decide +kernel)) (fun _ => ?_)
  refine lv_iload hx hb dX8_whichWord_19 (lv_at hl 0 rfl) ?_
  refine lv_aload_n hx hb dX8_whichWord_21 rfl (lv_at hl 5 rfl) ?_
  have hPc := hP.sub (ws' := []) [] rfl
  have hDc := hD.sub (ws' := []) [] (by decide) rfl
  refine gq_callI (wr := [(t, .inr (8, [.ref b, .int 0, .int 0, .int 0, .int fl]))]) (va_runV (As := []) (rest := [.int 17]) ⟨hx, hb, hml, hown, ht⟩ (c_J_length0 l G H.size K V) (cwV 0 ht (ts_gV wd_591 wd_592 wd_593 wd_135 wd_594) rfl rfl rfl (by decide +kernel) ⟨Nat.le_of_ble_eq_true rfl, Nat.le_of_ble_eq_true rfl⟩) (gx_preK 0 (by decide) hK hPc hDc hX hS (va_free hD hS hA [] rfl)) rfl rfl hl.1 rfl (lv_room (Nat.le_of_ble_eq_true rfl)) dX8_whichWord_22 ⟨Nat.le_of_ble_eq_true rfl, Nat.le_of_ble_eq_true rfl⟩) hP hD hS hA [] [0] rfl rfl (by decide) (by decide) (fun r u H locs hw hP hD hS => ?_)
  have hw : r = 27 := hw
  subst hw
  have hP : va_P (gg_D G) classes [(t, .inr (8, [.ref b, .int 0, .int 0, .int 0, .int fl]))] H := hP
  have hD : va_D A [(t, .inr (8, [.ref b, .int 0, .int 0, .int 0, .int fl]))] := hD
  refine lv_icmp_eq (tgt := 39) hx hb dX8_whichWord_25 (by decide) (fun c0 => absurd c0 (by decide +kernel)) (fun _ => ?_)
  refine lv_aload_n hx hb dX8_whichWord_28 rfl (lv_at hl 5 rfl) ?_
  refine lv_iload hx hb dX8_whichWord_29 (lv_at hl 0 rfl) ?_
  have hPc := hP.sub (ws' := []) [] rfl
  have hDc := hD.sub (ws' := []) [] (by decide) rfl
  refine gq_callI (wr := [(t, .inr (8, [.ref b, .int 0, .int 0, .int 0, .int fl]))]) (va_runV (As := [.int 17]) (rest := []) ⟨hx, hb, hml, hown, ht⟩ (c_J_char0 l G H.size K V 17 (by decide +kernel) (by decide +kernel)) (cwV 1 ht (ts_gV wd_601 wd_602 wd_603 wd_135 wd_604) rfl rfl rfl (by decide +kernel) ⟨Nat.le_of_ble_eq_true rfl, Nat.le_of_ble_eq_true rfl⟩) (gx_preK 0 (by decide) hK hPc hDc hX hS (va_free hD hS hA [] rfl)) rfl rfl hl.1 rfl (lv_room (Nat.le_of_ble_eq_true rfl)) dX8_whichWord_31 ⟨Nat.le_of_ble_eq_true rfl, Nat.le_of_ble_eq_true rfl⟩) hP hD hS hA [] [0] rfl rfl (by decide) (by decide) (fun r u H locs hw hP hD hS => ?_)
  have hw : r = (sx_c 0 17) := hw
  subst hw
  have hP : va_P (gg_D G) classes [(t, .inr (8, [.ref b, .int 0, .int 0, .int 0, .int fl]))] H := hP
  have hD : va_D A [(t, .inr (8, [.ref b, .int 0, .int 0, .int 0, .int fl]))] := hD
  rw [show (sx_c 0 17) = 111 by decide +kernel]
  refine lv_bipush (v := 32) hx hb dX8_whichWord_34 (by decide +kernel) ?_
  refine lv_icmp_ne (tgt := 65) hx hb dX8_whichWord_36 (by decide) (fun _ => ?_) (fun c0 => absurd c0 (by decide +kernel))
  refine lv_iload hx hb dX8_whichWord_65 (lv_at hl 2 rfl) ?_
  refine lv_if_eq (tgt := 102) hx hb dX8_whichWord_67 (by decide) (fun _ => ?_) (fun c0 => absurd (by decide +kernel) c0)
  refine lv_iconst (v := 0) hx hb dX8_whichWord_102 (by decide) ?_
  refine lv_istore (lv' := [(4, .int 0), (5, .int 17), (3, .int 1), (2, .int 3), (0, .ref t), (1, .ref (K 0))]) hx hb dX8_whichWord_103 hl (by decide) rfl (fun ls hl => ?_)
  refine lv_iinc (v := 2) (lv' := [(3, .int 2), (4, .int 0), (5, .int 17), (2, .int 3), (0, .ref t), (1, .ref (K 0))]) hx hb dX8_whichWord_105 hl (k := 2) rfl (by decide +kernel) (by decide) rfl (fun ls hl => ?_)
  refine lv_iinc (v := 18) (lv' := [(5, .int 18), (3, .int 2), (4, .int 0), (2, .int 3), (0, .ref t), (1, .ref (K 0))]) hx hb dX8_whichWord_108 hl (k := 2) rfl (by decide +kernel) (by decide) rfl (fun ls hl => ?_)
  refine lv_goto (tgt := 10) hx hb dX8_whichWord_111 (by decide) ?_
  refine lv_iload hx hb dX8_whichWord_10 (lv_at hl 0 rfl) ?_
  refine lv_aload_n hx hb dX8_whichWord_12 rfl (lv_at hl 5 rfl) ?_
  have hPc := hP.sub (ws' := []) [] rfl
  have hDc := hD.sub (ws' := []) [] (by decide) rfl
  refine gq_callI (wr := [(t, .inr (8, [.ref b, .int 0, .int 0, .int 0, .int fl]))]) (va_runV (As := []) (rest := [.int 18]) ⟨hx, hb, hml, hown, ht⟩ (c_J_length0 l G H.size K V) (cwV 0 ht (ts_gV wd_591 wd_592 wd_593 wd_135 wd_594) rfl rfl rfl (by decide +kernel) ⟨Nat.le_of_ble_eq_true rfl, Nat.le_of_ble_eq_true rfl⟩) (gx_preK 0 (by decide) hK hPc hDc hX hS (va_free hD hS hA [] rfl)) rfl rfl hl.1 rfl (lv_room (Nat.le_of_ble_eq_true rfl)) dX8_whichWord_13 ⟨Nat.le_of_ble_eq_true rfl, Nat.le_of_ble_eq_true rfl⟩) hP hD hS hA [] [0] rfl rfl (by decide) (by decide) (fun r u H locs hw hP hD hS => ?_)
  have hw : r = 27 := hw
  subst hw
  have hP : va_P (gg_D G) classes [(t, .inr (8, [.ref b, .int 0, .int 0, .int 0, .int fl]))] H := hP
  have hD : va_D A [(t, .inr (8, [.ref b, .int 0, .int 0, .int 0, .int fl]))] := hD
  refine lv_icmp_gt (tgt := 114) hx hb dX8_whichWord_16 (by decide) (fun c0 => absurd c0 (by decide +kernel)) (fun _ => ?_)
  refine lv_iload hx hb dX8_whichWord_19 (lv_at hl 0 rfl) ?_
  refine lv_aload_n hx hb dX8_whichWord_21 rfl (lv_at hl 5 rfl) ?_
  have hPc := hP.sub (ws' := []) [] rfl
  have hDc := hD.sub (ws' := []) [] (by decide) rfl
  refine gq_callI (wr := [(t, .inr (8, [.ref b, .int 0, .int 0, .int 0, .int fl]))]) (va_runV (As := []) (rest := [.int 18]) ⟨hx, hb, hml, hown, ht⟩ (c_J_length0 l G H.size K V) (cwV 0 ht (ts_gV wd_591 wd_592 wd_593 wd_135 wd_594) rfl rfl rfl (by decide +kernel) ⟨Nat.le_of_ble_eq_true rfl, Nat.le_of_ble_eq_true rfl⟩) (gx_preK 0 (by decide) hK hPc hDc hX hS (va_free hD hS hA [] rfl)) rfl rfl hl.1 rfl (lv_room (Nat.le_of_ble_eq_true rfl)) dX8_whichWord_22 ⟨Nat.le_of_ble_eq_true rfl, Nat.le_of_ble_eq_true rfl⟩) hP hD hS hA [] [0] rfl rfl (by decide) (by decide) (fun r u H locs hw hP hD hS => ?_)
  have hw : r = 27 := hw
  subst hw
  have hP : va_P (gg_D G) classes [(t, .inr (8, [.ref b, .int 0, .int 0, .int 0, .int fl]))] H := hP
  have hD : va_D A [(t, .inr (8, [.ref b, .int 0, .int 0, .int 0, .int fl]))] := hD
  refine lv_icmp_eq (tgt := 39) hx hb dX8_whichWord_25 (by decide) (fun c0 => absurd c0 (by decide +kernel)) (fun _ => ?_)
  refine lv_aload_n hx hb dX8_whichWord_28 rfl (lv_at hl 5 rfl) ?_
  refine lv_iload hx hb dX8_whichWord_29 (lv_at hl 0 rfl) ?_
  have hPc := hP.sub (ws' := []) [] rfl
  have hDc := hD.sub (ws' := []) [] (by decide) rfl
  refine gq_callI (wr := [(t, .inr (8, [.ref b, .int 0, .int 0, .int 0, .int fl]))]) (va_runV (As := [.int 18]) (rest := []) ⟨hx, hb, hml, hown, ht⟩ (c_J_char0 l G H.size K V 18 (by decide +kernel) (by decide +kernel)) (cwV 1 ht (ts_gV wd_601 wd_602 wd_603 wd_135 wd_604) rfl rfl rfl (by decide +kernel) ⟨Nat.le_of_ble_eq_true rfl, Nat.le_of_ble_eq_true rfl⟩) (gx_preK 0 (by decide) hK hPc hDc hX hS (va_free hD hS hA [] rfl)) rfl rfl hl.1 rfl (lv_room (Nat.le_of_ble_eq_true rfl)) dX8_whichWord_31 ⟨Nat.le_of_ble_eq_true rfl, Nat.le_of_ble_eq_true rfl⟩) hP hD hS hA [] [0] rfl rfl (by decide) (by decide) (fun r u H locs hw hP hD hS => ?_)
  have hw : r = (sx_c 0 18) := hw
  subst hw
  have hP : va_P (gg_D G) classes [(t, .inr (8, [.ref b, .int 0, .int 0, .int 0, .int fl]))] H := hP
  have hD : va_D A [(t, .inr (8, [.ref b, .int 0, .int 0, .int 0, .int fl]))] := hD
  rw [show (sx_c 0 18) = 114 by decide +kernel]
  refine lv_bipush (v := 32) hx hb dX8_whichWord_34 (by decide +kernel) ?_
  refine lv_icmp_ne (tgt := 65) hx hb dX8_whichWord_36 (by decide) (fun _ => ?_) (fun c0 => absurd c0 (by decide +kernel))
  refine lv_iload hx hb dX8_whichWord_65 (lv_at hl 2 rfl) ?_
  refine lv_if_eq (tgt := 102) hx hb dX8_whichWord_67 (by decide) (fun _ => ?_) (fun c0 => absurd (by decide +kernel) c0)
  refine lv_iconst (v := 0) hx hb dX8_whichWord_102 (by decide) ?_
  refine lv_istore (lv' := [(4, .int 0), (5, .int 18), (3, .int 2), (2, .int 3), (0, .ref t), (1, .ref (K 0))]) hx hb dX8_whichWord_103 hl (by decide) rfl (fun ls hl => ?_)
  refine lv_iinc (v := 3) (lv' := [(3, .int 3), (4, .int 0), (5, .int 18), (2, .int 3), (0, .ref t), (1, .ref (K 0))]) hx hb dX8_whichWord_105 hl (k := 2) rfl (by decide +kernel) (by decide) rfl (fun ls hl => ?_)
  refine lv_iinc (v := 19) (lv' := [(5, .int 19), (3, .int 3), (4, .int 0), (2, .int 3), (0, .ref t), (1, .ref (K 0))]) hx hb dX8_whichWord_108 hl (k := 2) rfl (by decide +kernel) (by decide) rfl (fun ls hl => ?_)
  refine lv_goto (tgt := 10) hx hb dX8_whichWord_111 (by decide) ?_
  refine lv_iload hx hb dX8_whichWord_10 (lv_at hl 0 rfl) ?_
  refine lv_aload_n hx hb dX8_whichWord_12 rfl (lv_at hl 5 rfl) ?_
  have hPc := hP.sub (ws' := []) [] rfl
  have hDc := hD.sub (ws' := []) [] (by decide) rfl
  refine gq_callI (wr := [(t, .inr (8, [.ref b, .int 0, .int 0, .int 0, .int fl]))]) (va_runV (As := []) (rest := [.int 19]) ⟨hx, hb, hml, hown, ht⟩ (c_J_length0 l G H.size K V) (cwV 0 ht (ts_gV wd_591 wd_592 wd_593 wd_135 wd_594) rfl rfl rfl (by decide +kernel) ⟨Nat.le_of_ble_eq_true rfl, Nat.le_of_ble_eq_true rfl⟩) (gx_preK 0 (by decide) hK hPc hDc hX hS (va_free hD hS hA [] rfl)) rfl rfl hl.1 rfl (lv_room (Nat.le_of_ble_eq_true rfl)) dX8_whichWord_13 ⟨Nat.le_of_ble_eq_true rfl, Nat.le_of_ble_eq_true rfl⟩) hP hD hS hA [] [0] rfl rfl (by decide) (by decide) (fun r u H locs hw hP hD hS => ?_)
  have hw : r = 27 := hw
  subst hw
  have hP : va_P (gg_D G) classes [(t, .inr (8, [.ref b, .int 0, .int 0, .int 0, .int fl]))] H := hP
  have hD : va_D A [(t, .inr (8, [.ref b, .int 0, .int 0, .int 0, .int fl]))] := hD
  refine lv_icmp_gt (tgt := 114) hx hb dX8_whichWord_16 (by decide) (fun c0 => absurd c0 (by decide +kernel)) (fun _ => ?_)
  refine lv_iload hx hb dX8_whichWord_19 (lv_at hl 0 rfl) ?_
  refine lv_aload_n hx hb dX8_whichWord_21 rfl (lv_at hl 5 rfl) ?_
  have hPc := hP.sub (ws' := []) [] rfl
  have hDc := hD.sub (ws' := []) [] (by decide) rfl
  refine gq_callI (wr := [(t, .inr (8, [.ref b, .int 0, .int 0, .int 0, .int fl]))]) (va_runV (As := []) (rest := [.int 19]) ⟨hx, hb, hml, hown, ht⟩ (c_J_length0 l G H.size K V) (cwV 0 ht (ts_gV wd_591 wd_592 wd_593 wd_135 wd_594) rfl rfl rfl (by decide +kernel) ⟨Nat.le_of_ble_eq_true rfl, Nat.le_of_ble_eq_true rfl⟩) (gx_preK 0 (by decide) hK hPc hDc hX hS (va_free hD hS hA [] rfl)) rfl rfl hl.1 rfl (lv_room (Nat.le_of_ble_eq_true rfl)) dX8_whichWord_22 ⟨Nat.le_of_ble_eq_true rfl, Nat.le_of_ble_eq_true rfl⟩) hP hD hS hA [] [0] rfl rfl (by decide) (by decide) (fun r u H locs hw hP hD hS => ?_)
  have hw : r = 27 := hw
  subst hw
  have hP : va_P (gg_D G) classes [(t, .inr (8, [.ref b, .int 0, .int 0, .int 0, .int fl]))] H := hP
  have hD : va_D A [(t, .inr (8, [.ref b, .int 0, .int 0, .int 0, .int fl]))] := hD
  refine lv_icmp_eq (tgt := 39) hx hb dX8_whichWord_25 (by decide) (fun c0 => absurd c0 (by decide +kernel)) (fun _ => ?_)
  refine lv_aload_n hx hb dX8_whichWord_28 rfl (lv_at hl 5 rfl) ?_
  refine lv_iload hx hb dX8_whichWord_29 (lv_at hl 0 rfl) ?_
  have hPc := hP.sub (ws' := []) [] rfl
  have hDc := hD.sub (ws' := []) [] (by decide) rfl
  refine gq_callI (wr := [(t, .inr (8, [.ref b, .int 0, .int 0, .int 0, .int fl]))]) (va_runV (As := [.int 19]) (rest := []) ⟨hx, hb, hml, hown, ht⟩ (c_J_char0 l G H.size K V 19 (by decide +kernel) (by decide +kernel)) (cwV 1 ht (ts_gV wd_601 wd_602 wd_603 wd_135 wd_604) rfl rfl rfl (by decide +kernel) ⟨Nat.le_of_ble_eq_true rfl, Nat.le_of_ble_eq_true rfl⟩) (gx_preK 0 (by decide) hK hPc hDc hX hS (va_free hD hS hA [] rfl)) rfl rfl hl.1 rfl (lv_room (Nat.le_of_ble_eq_true rfl)) dX8_whichWord_31 ⟨Nat.le_of_ble_eq_true rfl, Nat.le_of_ble_eq_true rfl⟩) hP hD hS hA [] [0] rfl rfl (by decide) (by decide) (fun r u H locs hw hP hD hS => ?_)
  have hw : r = (sx_c 0 19) := hw
  subst hw
  have hP : va_P (gg_D G) classes [(t, .inr (8, [.ref b, .int 0, .int 0, .int 0, .int fl]))] H := hP
  have hD : va_D A [(t, .inr (8, [.ref b, .int 0, .int 0, .int 0, .int fl]))] := hD
  rw [show (sx_c 0 19) = 116 by decide +kernel]
  refine lv_bipush (v := 32) hx hb dX8_whichWord_34 (by decide +kernel) ?_
  refine lv_icmp_ne (tgt := 65) hx hb dX8_whichWord_36 (by decide) (fun _ => ?_) (fun c0 => absurd c0 (by decide +kernel))
  refine lv_iload hx hb dX8_whichWord_65 (lv_at hl 2 rfl) ?_
  refine lv_if_eq (tgt := 102) hx hb dX8_whichWord_67 (by decide) (fun _ => ?_) (fun c0 => absurd (by decide +kernel) c0)
  refine lv_iconst (v := 0) hx hb dX8_whichWord_102 (by decide) ?_
  refine lv_istore (lv' := [(4, .int 0), (5, .int 19), (3, .int 3), (2, .int 3), (0, .ref t), (1, .ref (K 0))]) hx hb dX8_whichWord_103 hl (by decide) rfl (fun ls hl => ?_)
  refine lv_iinc (v := 4) (lv' := [(3, .int 4), (4, .int 0), (5, .int 19), (2, .int 3), (0, .ref t), (1, .ref (K 0))]) hx hb dX8_whichWord_105 hl (k := 2) rfl (by decide +kernel) (by decide) rfl (fun ls hl => ?_)
  refine lv_iinc (v := 20) (lv' := [(5, .int 20), (3, .int 4), (4, .int 0), (2, .int 3), (0, .ref t), (1, .ref (K 0))]) hx hb dX8_whichWord_108 hl (k := 2) rfl (by decide +kernel) (by decide) rfl (fun ls hl => ?_)
  refine lv_goto (tgt := 10) hx hb dX8_whichWord_111 (by decide) ?_
  refine lv_iload hx hb dX8_whichWord_10 (lv_at hl 0 rfl) ?_
  refine lv_aload_n hx hb dX8_whichWord_12 rfl (lv_at hl 5 rfl) ?_
  have hPc := hP.sub (ws' := []) [] rfl
  have hDc := hD.sub (ws' := []) [] (by decide) rfl
  refine gq_callI (wr := [(t, .inr (8, [.ref b, .int 0, .int 0, .int 0, .int fl]))]) (va_runV (As := []) (rest := [.int 20]) ⟨hx, hb, hml, hown, ht⟩ (c_J_length0 l G H.size K V) (cwV 0 ht (ts_gV wd_591 wd_592 wd_593 wd_135 wd_594) rfl rfl rfl (by decide +kernel) ⟨Nat.le_of_ble_eq_true rfl, Nat.le_of_ble_eq_true rfl⟩) (gx_preK 0 (by decide) hK hPc hDc hX hS (va_free hD hS hA [] rfl)) rfl rfl hl.1 rfl (lv_room (Nat.le_of_ble_eq_true rfl)) dX8_whichWord_13 ⟨Nat.le_of_ble_eq_true rfl, Nat.le_of_ble_eq_true rfl⟩) hP hD hS hA [] [0] rfl rfl (by decide) (by decide) (fun r u H locs hw hP hD hS => ?_)
  have hw : r = 27 := hw
  subst hw
  have hP : va_P (gg_D G) classes [(t, .inr (8, [.ref b, .int 0, .int 0, .int 0, .int fl]))] H := hP
  have hD : va_D A [(t, .inr (8, [.ref b, .int 0, .int 0, .int 0, .int fl]))] := hD
  refine lv_icmp_gt (tgt := 114) hx hb dX8_whichWord_16 (by decide) (fun c0 => absurd c0 (by decide +kernel)) (fun _ => ?_)
  refine lv_iload hx hb dX8_whichWord_19 (lv_at hl 0 rfl) ?_
  refine lv_aload_n hx hb dX8_whichWord_21 rfl (lv_at hl 5 rfl) ?_
  have hPc := hP.sub (ws' := []) [] rfl
  have hDc := hD.sub (ws' := []) [] (by decide) rfl
  refine gq_callI (wr := [(t, .inr (8, [.ref b, .int 0, .int 0, .int 0, .int fl]))]) (va_runV (As := []) (rest := [.int 20]) ⟨hx, hb, hml, hown, ht⟩ (c_J_length0 l G H.size K V) (cwV 0 ht (ts_gV wd_591 wd_592 wd_593 wd_135 wd_594) rfl rfl rfl (by decide +kernel) ⟨Nat.le_of_ble_eq_true rfl, Nat.le_of_ble_eq_true rfl⟩) (gx_preK 0 (by decide) hK hPc hDc hX hS (va_free hD hS hA [] rfl)) rfl rfl hl.1 rfl (lv_room (Nat.le_of_ble_eq_true rfl)) dX8_whichWord_22 ⟨Nat.le_of_ble_eq_true rfl, Nat.le_of_ble_eq_true rfl⟩) hP hD hS hA [] [0] rfl rfl (by decide) (by decide) (fun r u H locs hw hP hD hS => ?_)
  have hw : r = 27 := hw
  subst hw
  have hP : va_P (gg_D G) classes [(t, .inr (8, [.ref b, .int 0, .int 0, .int 0, .int fl]))] H := hP
  have hD : va_D A [(t, .inr (8, [.ref b, .int 0, .int 0, .int 0, .int fl]))] := hD
  refine lv_icmp_eq (tgt := 39) hx hb dX8_whichWord_25 (by decide) (fun c0 => absurd c0 (by decide +kernel)) (fun _ => ?_)
  refine lv_aload_n hx hb dX8_whichWord_28 rfl (lv_at hl 5 rfl) ?_
  refine lv_iload hx hb dX8_whichWord_29 (lv_at hl 0 rfl) ?_
  have hPc := hP.sub (ws' := []) [] rfl
  have hDc := hD.sub (ws' := []) [] (by decide) rfl
  refine gq_callI (wr := [(t, .inr (8, [.ref b, .int 0, .int 0, .int 0, .int fl]))]) (va_runV (As := [.int 20]) (rest := []) ⟨hx, hb, hml, hown, ht⟩ (c_J_char0 l G H.size K V 20 (by decide +kernel) (by decide +kernel)) (cwV 1 ht (ts_gV wd_601 wd_602 wd_603 wd_135 wd_604) rfl rfl rfl (by decide +kernel) ⟨Nat.le_of_ble_eq_true rfl, Nat.le_of_ble_eq_true rfl⟩) (gx_preK 0 (by decide) hK hPc hDc hX hS (va_free hD hS hA [] rfl)) rfl rfl hl.1 rfl (lv_room (Nat.le_of_ble_eq_true rfl)) dX8_whichWord_31 ⟨Nat.le_of_ble_eq_true rfl, Nat.le_of_ble_eq_true rfl⟩) hP hD hS hA [] [0] rfl rfl (by decide) (by decide) (fun r u H locs hw hP hD hS => ?_)
  have hw : r = (sx_c 0 20) := hw
  subst hw
  have hP : va_P (gg_D G) classes [(t, .inr (8, [.ref b, .int 0, .int 0, .int 0, .int fl]))] H := hP
  have hD : va_D A [(t, .inr (8, [.ref b, .int 0, .int 0, .int 0, .int fl]))] := hD
  rw [show (sx_c 0 20) = 104 by decide +kernel]
  refine lv_bipush (v := 32) hx hb dX8_whichWord_34 (by decide +kernel) ?_
  refine lv_icmp_ne (tgt := 65) hx hb dX8_whichWord_36 (by decide) (fun _ => ?_) (fun c0 => absurd c0 (by decide +kernel))
  refine lv_iload hx hb dX8_whichWord_65 (lv_at hl 2 rfl) ?_
  refine lv_if_eq (tgt := 102) hx hb dX8_whichWord_67 (by decide) (fun _ => ?_) (fun c0 => absurd (by decide +kernel) c0)
  refine lv_iconst (v := 0) hx hb dX8_whichWord_102 (by decide) ?_
  refine lv_istore (lv' := [(4, .int 0), (5, .int 20), (3, .int 4), (2, .int 3), (0, .ref t), (1, .ref (K 0))]) hx hb dX8_whichWord_103 hl (by decide) rfl (fun ls hl => ?_)
  refine lv_iinc (v := 5) (lv' := [(3, .int 5), (4, .int 0), (5, .int 20), (2, .int 3), (0, .ref t), (1, .ref (K 0))]) hx hb dX8_whichWord_105 hl (k := 2) rfl (by decide +kernel) (by decide) rfl (fun ls hl => ?_)
  refine lv_iinc (v := 21) (lv' := [(5, .int 21), (3, .int 5), (4, .int 0), (2, .int 3), (0, .ref t), (1, .ref (K 0))]) hx hb dX8_whichWord_108 hl (k := 2) rfl (by decide +kernel) (by decide) rfl (fun ls hl => ?_)
  refine lv_goto (tgt := 10) hx hb dX8_whichWord_111 (by decide) ?_
  refine lv_iload hx hb dX8_whichWord_10 (lv_at hl 0 rfl) ?_
  refine lv_aload_n hx hb dX8_whichWord_12 rfl (lv_at hl 5 rfl) ?_
  have hPc := hP.sub (ws' := []) [] rfl
  have hDc := hD.sub (ws' := []) [] (by decide) rfl
  refine gq_callI (wr := [(t, .inr (8, [.ref b, .int 0, .int 0, .int 0, .int fl]))]) (va_runV (As := []) (rest := [.int 21]) ⟨hx, hb, hml, hown, ht⟩ (c_J_length0 l G H.size K V) (cwV 0 ht (ts_gV wd_591 wd_592 wd_593 wd_135 wd_594) rfl rfl rfl (by decide +kernel) ⟨Nat.le_of_ble_eq_true rfl, Nat.le_of_ble_eq_true rfl⟩) (gx_preK 0 (by decide) hK hPc hDc hX hS (va_free hD hS hA [] rfl)) rfl rfl hl.1 rfl (lv_room (Nat.le_of_ble_eq_true rfl)) dX8_whichWord_13 ⟨Nat.le_of_ble_eq_true rfl, Nat.le_of_ble_eq_true rfl⟩) hP hD hS hA [] [0] rfl rfl (by decide) (by decide) (fun r u H locs hw hP hD hS => ?_)
  have hw : r = 27 := hw
  subst hw
  have hP : va_P (gg_D G) classes [(t, .inr (8, [.ref b, .int 0, .int 0, .int 0, .int fl]))] H := hP
  have hD : va_D A [(t, .inr (8, [.ref b, .int 0, .int 0, .int 0, .int fl]))] := hD
  refine lv_icmp_gt (tgt := 114) hx hb dX8_whichWord_16 (by decide) (fun c0 => absurd c0 (by decide +kernel)) (fun _ => ?_)
  refine lv_iload hx hb dX8_whichWord_19 (lv_at hl 0 rfl) ?_
  refine lv_aload_n hx hb dX8_whichWord_21 rfl (lv_at hl 5 rfl) ?_
  have hPc := hP.sub (ws' := []) [] rfl
  have hDc := hD.sub (ws' := []) [] (by decide) rfl
  refine gq_callI (wr := [(t, .inr (8, [.ref b, .int 0, .int 0, .int 0, .int fl]))]) (va_runV (As := []) (rest := [.int 21]) ⟨hx, hb, hml, hown, ht⟩ (c_J_length0 l G H.size K V) (cwV 0 ht (ts_gV wd_591 wd_592 wd_593 wd_135 wd_594) rfl rfl rfl (by decide +kernel) ⟨Nat.le_of_ble_eq_true rfl, Nat.le_of_ble_eq_true rfl⟩) (gx_preK 0 (by decide) hK hPc hDc hX hS (va_free hD hS hA [] rfl)) rfl rfl hl.1 rfl (lv_room (Nat.le_of_ble_eq_true rfl)) dX8_whichWord_22 ⟨Nat.le_of_ble_eq_true rfl, Nat.le_of_ble_eq_true rfl⟩) hP hD hS hA [] [0] rfl rfl (by decide) (by decide) (fun r u H locs hw hP hD hS => ?_)
  have hw : r = 27 := hw
  subst hw
  have hP : va_P (gg_D G) classes [(t, .inr (8, [.ref b, .int 0, .int 0, .int 0, .int fl]))] H := hP
  have hD : va_D A [(t, .inr (8, [.ref b, .int 0, .int 0, .int 0, .int fl]))] := hD
  refine lv_icmp_eq (tgt := 39) hx hb dX8_whichWord_25 (by decide) (fun c0 => absurd c0 (by decide +kernel)) (fun _ => ?_)
  refine lv_aload_n hx hb dX8_whichWord_28 rfl (lv_at hl 5 rfl) ?_
  refine lv_iload hx hb dX8_whichWord_29 (lv_at hl 0 rfl) ?_
  have hPc := hP.sub (ws' := []) [] rfl
  have hDc := hD.sub (ws' := []) [] (by decide) rfl
  refine gq_callI (wr := [(t, .inr (8, [.ref b, .int 0, .int 0, .int 0, .int fl]))]) (va_runV (As := [.int 21]) (rest := []) ⟨hx, hb, hml, hown, ht⟩ (c_J_char0 l G H.size K V 21 (by decide +kernel) (by decide +kernel)) (cwV 1 ht (ts_gV wd_601 wd_602 wd_603 wd_135 wd_604) rfl rfl rfl (by decide +kernel) ⟨Nat.le_of_ble_eq_true rfl, Nat.le_of_ble_eq_true rfl⟩) (gx_preK 0 (by decide) hK hPc hDc hX hS (va_free hD hS hA [] rfl)) rfl rfl hl.1 rfl (lv_room (Nat.le_of_ble_eq_true rfl)) dX8_whichWord_31 ⟨Nat.le_of_ble_eq_true rfl, Nat.le_of_ble_eq_true rfl⟩) hP hD hS hA [] [0] rfl rfl (by decide) (by decide) (fun r u H locs hw hP hD hS => ?_)
  have hw : r = (sx_c 0 21) := hw
  subst hw
  have hP : va_P (gg_D G) classes [(t, .inr (8, [.ref b, .int 0, .int 0, .int 0, .int fl]))] H := hP
  have hD : va_D A [(t, .inr (8, [.ref b, .int 0, .int 0, .int 0, .int fl]))] := hD
  rw [show (sx_c 0 21) = 32 by decide +kernel]
  refine lv_bipush (v := 32) hx hb dX8_whichWord_34 (by decide +kernel) ?_
  refine lv_icmp_ne (tgt := 65) hx hb dX8_whichWord_36 (by decide) (fun c0 => absurd (by decide +kernel) c0) (fun _ => ?_)
  refine lv_iload hx hb dX8_whichWord_39 (lv_at hl 2 rfl) ?_
  refine lv_if_eq (tgt := 54) hx hb dX8_whichWord_41 (by decide) (fun _ => ?_) (fun c0 => absurd (by decide +kernel) c0)
  refine lv_iinc (v := 4) (lv' := [(2, .int 4), (5, .int 21), (3, .int 5), (4, .int 0), (0, .ref t), (1, .ref (K 0))]) hx hb dX8_whichWord_54 hl (k := 3) rfl (by decide +kernel) (by decide) rfl (fun ls hl => ?_)
  refine lv_iconst (v := 0) hx hb dX8_whichWord_57 (by decide) ?_
  refine lv_istore_n (lv' := [(3, .int 0), (2, .int 4), (5, .int 21), (4, .int 0), (0, .ref t), (1, .ref (K 0))]) hx hb dX8_whichWord_58 rfl hl (by decide) rfl (fun ls hl => ?_)
  refine lv_iconst (v := 1) hx hb dX8_whichWord_59 (by decide) ?_
  refine lv_istore (lv' := [(4, .int 1), (3, .int 0), (2, .int 4), (5, .int 21), (0, .ref t), (1, .ref (K 0))]) hx hb dX8_whichWord_60 hl (by decide) rfl (fun ls hl => ?_)
  refine lv_goto (tgt := 108) hx hb dX8_whichWord_62 (by decide) ?_
  refine lv_iinc (v := 22) (lv' := [(5, .int 22), (4, .int 1), (3, .int 0), (2, .int 4), (0, .ref t), (1, .ref (K 0))]) hx hb dX8_whichWord_108 hl (k := 3) rfl (by decide +kernel) (by decide) rfl (fun ls hl => ?_)
  refine lv_goto (tgt := 10) hx hb dX8_whichWord_111 (by decide) ?_
  refine lv_iload hx hb dX8_whichWord_10 (lv_at hl 0 rfl) ?_
  refine lv_aload_n hx hb dX8_whichWord_12 rfl (lv_at hl 5 rfl) ?_
  have hPc := hP.sub (ws' := []) [] rfl
  have hDc := hD.sub (ws' := []) [] (by decide) rfl
  refine gq_callI (wr := [(t, .inr (8, [.ref b, .int 0, .int 0, .int 0, .int fl]))]) (va_runV (As := []) (rest := [.int 22]) ⟨hx, hb, hml, hown, ht⟩ (c_J_length0 l G H.size K V) (cwV 0 ht (ts_gV wd_591 wd_592 wd_593 wd_135 wd_594) rfl rfl rfl (by decide +kernel) ⟨Nat.le_of_ble_eq_true rfl, Nat.le_of_ble_eq_true rfl⟩) (gx_preK 0 (by decide) hK hPc hDc hX hS (va_free hD hS hA [] rfl)) rfl rfl hl.1 rfl (lv_room (Nat.le_of_ble_eq_true rfl)) dX8_whichWord_13 ⟨Nat.le_of_ble_eq_true rfl, Nat.le_of_ble_eq_true rfl⟩) hP hD hS hA [] [0] rfl rfl (by decide) (by decide) (fun r u H locs hw hP hD hS => ?_)
  have hw : r = 27 := hw
  subst hw
  have hP : va_P (gg_D G) classes [(t, .inr (8, [.ref b, .int 0, .int 0, .int 0, .int fl]))] H := hP
  have hD : va_D A [(t, .inr (8, [.ref b, .int 0, .int 0, .int 0, .int fl]))] := hD
  refine lv_icmp_gt (tgt := 114) hx hb dX8_whichWord_16 (by decide) (fun c0 => absurd c0 (by decide +kernel)) (fun _ => ?_)
  refine lv_iload hx hb dX8_whichWord_19 (lv_at hl 0 rfl) ?_
  refine lv_aload_n hx hb dX8_whichWord_21 rfl (lv_at hl 5 rfl) ?_
  have hPc := hP.sub (ws' := []) [] rfl
  have hDc := hD.sub (ws' := []) [] (by decide) rfl
  refine gq_callI (wr := [(t, .inr (8, [.ref b, .int 0, .int 0, .int 0, .int fl]))]) (va_runV (As := []) (rest := [.int 22]) ⟨hx, hb, hml, hown, ht⟩ (c_J_length0 l G H.size K V) (cwV 0 ht (ts_gV wd_591 wd_592 wd_593 wd_135 wd_594) rfl rfl rfl (by decide +kernel) ⟨Nat.le_of_ble_eq_true rfl, Nat.le_of_ble_eq_true rfl⟩) (gx_preK 0 (by decide) hK hPc hDc hX hS (va_free hD hS hA [] rfl)) rfl rfl hl.1 rfl (lv_room (Nat.le_of_ble_eq_true rfl)) dX8_whichWord_22 ⟨Nat.le_of_ble_eq_true rfl, Nat.le_of_ble_eq_true rfl⟩) hP hD hS hA [] [0] rfl rfl (by decide) (by decide) (fun r u H locs hw hP hD hS => ?_)
  have hw : r = 27 := hw
  subst hw
  have hP : va_P (gg_D G) classes [(t, .inr (8, [.ref b, .int 0, .int 0, .int 0, .int fl]))] H := hP
  have hD : va_D A [(t, .inr (8, [.ref b, .int 0, .int 0, .int 0, .int fl]))] := hD
  refine lv_icmp_eq (tgt := 39) hx hb dX8_whichWord_25 (by decide) (fun c0 => absurd c0 (by decide +kernel)) (fun _ => ?_)
  refine lv_aload_n hx hb dX8_whichWord_28 rfl (lv_at hl 5 rfl) ?_
  refine lv_iload hx hb dX8_whichWord_29 (lv_at hl 0 rfl) ?_
  have hPc := hP.sub (ws' := []) [] rfl
  have hDc := hD.sub (ws' := []) [] (by decide) rfl
  refine gq_callI (wr := [(t, .inr (8, [.ref b, .int 0, .int 0, .int 0, .int fl]))]) (va_runV (As := [.int 22]) (rest := []) ⟨hx, hb, hml, hown, ht⟩ (c_J_char0 l G H.size K V 22 (by decide +kernel) (by decide +kernel)) (cwV 1 ht (ts_gV wd_601 wd_602 wd_603 wd_135 wd_604) rfl rfl rfl (by decide +kernel) ⟨Nat.le_of_ble_eq_true rfl, Nat.le_of_ble_eq_true rfl⟩) (gx_preK 0 (by decide) hK hPc hDc hX hS (va_free hD hS hA [] rfl)) rfl rfl hl.1 rfl (lv_room (Nat.le_of_ble_eq_true rfl)) dX8_whichWord_31 ⟨Nat.le_of_ble_eq_true rfl, Nat.le_of_ble_eq_true rfl⟩) hP hD hS hA [] [0] rfl rfl (by decide) (by decide) (fun r u H locs hw hP hD hS => ?_)
  have hw : r = (sx_c 0 22) := hw
  subst hw
  have hP : va_P (gg_D G) classes [(t, .inr (8, [.ref b, .int 0, .int 0, .int 0, .int fl]))] H := hP
  have hD : va_D A [(t, .inr (8, [.ref b, .int 0, .int 0, .int 0, .int fl]))] := hD
  rw [show (sx_c 0 22) = 116 by decide +kernel]
  refine lv_bipush (v := 32) hx hb dX8_whichWord_34 (by decide +kernel) ?_
  refine lv_icmp_ne (tgt := 65) hx hb dX8_whichWord_36 (by decide) (fun _ => ?_) (fun c0 => absurd c0 (by decide +kernel))
  refine lv_iload hx hb dX8_whichWord_65 (lv_at hl 1 rfl) ?_
  refine lv_if_eq (tgt := 102) hx hb dX8_whichWord_67 (by decide) (fun c0 => absurd c0 (by decide +kernel)) (fun _ => ?_)
  refine lv_iload_n hx hb dX8_whichWord_70 rfl (lv_at hl 2 rfl) ?_
  refine lv_aload_n hx hb dX8_whichWord_71 rfl (lv_at hl 4 rfl) ?_
  refine gq_get hx hb ht hown hK hP i_X8 0 rfl rfl 3 (by decide) wd_159 rfl rfl dX8_whichWord_72 ?_
  refine lv_icmp_ge (tgt := 102) hx hb dX8_whichWord_75 (by decide) (fun _ => ?_) (fun c0 => absurd (by decide +kernel) c0)
  refine lv_iconst (v := 0) hx hb dX8_whichWord_102 (by decide) ?_
  refine lv_istore (lv' := [(4, .int 0), (5, .int 22), (3, .int 0), (2, .int 4), (0, .ref t), (1, .ref (K 0))]) hx hb dX8_whichWord_103 hl (by decide) rfl (fun ls hl => ?_)
  refine lv_iinc (v := 1) (lv' := [(3, .int 1), (4, .int 0), (5, .int 22), (2, .int 4), (0, .ref t), (1, .ref (K 0))]) hx hb dX8_whichWord_105 hl (k := 2) rfl (by decide +kernel) (by decide) rfl (fun ls hl => ?_)
  refine lv_iinc (v := 23) (lv' := [(5, .int 23), (3, .int 1), (4, .int 0), (2, .int 4), (0, .ref t), (1, .ref (K 0))]) hx hb dX8_whichWord_108 hl (k := 2) rfl (by decide +kernel) (by decide) rfl (fun ls hl => ?_)
  refine lv_goto (tgt := 10) hx hb dX8_whichWord_111 (by decide) ?_
  refine lv_iload hx hb dX8_whichWord_10 (lv_at hl 0 rfl) ?_
  refine lv_aload_n hx hb dX8_whichWord_12 rfl (lv_at hl 5 rfl) ?_
  have hPc := hP.sub (ws' := []) [] rfl
  have hDc := hD.sub (ws' := []) [] (by decide) rfl
  refine gq_callI (wr := [(t, .inr (8, [.ref b, .int 0, .int 0, .int 0, .int fl]))]) (va_runV (As := []) (rest := [.int 23]) ⟨hx, hb, hml, hown, ht⟩ (c_J_length0 l G H.size K V) (cwV 0 ht (ts_gV wd_591 wd_592 wd_593 wd_135 wd_594) rfl rfl rfl (by decide +kernel) ⟨Nat.le_of_ble_eq_true rfl, Nat.le_of_ble_eq_true rfl⟩) (gx_preK 0 (by decide) hK hPc hDc hX hS (va_free hD hS hA [] rfl)) rfl rfl hl.1 rfl (lv_room (Nat.le_of_ble_eq_true rfl)) dX8_whichWord_13 ⟨Nat.le_of_ble_eq_true rfl, Nat.le_of_ble_eq_true rfl⟩) hP hD hS hA [] [0] rfl rfl (by decide) (by decide) (fun r u H locs hw hP hD hS => ?_)
  have hw : r = 27 := hw
  subst hw
  have hP : va_P (gg_D G) classes [(t, .inr (8, [.ref b, .int 0, .int 0, .int 0, .int fl]))] H := hP
  have hD : va_D A [(t, .inr (8, [.ref b, .int 0, .int 0, .int 0, .int fl]))] := hD
  refine lv_icmp_gt (tgt := 114) hx hb dX8_whichWord_16 (by decide) (fun c0 => absurd c0 (by decide +kernel)) (fun _ => ?_)
  refine lv_iload hx hb dX8_whichWord_19 (lv_at hl 0 rfl) ?_
  refine lv_aload_n hx hb dX8_whichWord_21 rfl (lv_at hl 5 rfl) ?_
  have hPc := hP.sub (ws' := []) [] rfl
  have hDc := hD.sub (ws' := []) [] (by decide) rfl
  refine gq_callI (wr := [(t, .inr (8, [.ref b, .int 0, .int 0, .int 0, .int fl]))]) (va_runV (As := []) (rest := [.int 23]) ⟨hx, hb, hml, hown, ht⟩ (c_J_length0 l G H.size K V) (cwV 0 ht (ts_gV wd_591 wd_592 wd_593 wd_135 wd_594) rfl rfl rfl (by decide +kernel) ⟨Nat.le_of_ble_eq_true rfl, Nat.le_of_ble_eq_true rfl⟩) (gx_preK 0 (by decide) hK hPc hDc hX hS (va_free hD hS hA [] rfl)) rfl rfl hl.1 rfl (lv_room (Nat.le_of_ble_eq_true rfl)) dX8_whichWord_22 ⟨Nat.le_of_ble_eq_true rfl, Nat.le_of_ble_eq_true rfl⟩) hP hD hS hA [] [0] rfl rfl (by decide) (by decide) (fun r u H locs hw hP hD hS => ?_)
  have hw : r = 27 := hw
  subst hw
  have hP : va_P (gg_D G) classes [(t, .inr (8, [.ref b, .int 0, .int 0, .int 0, .int fl]))] H := hP
  have hD : va_D A [(t, .inr (8, [.ref b, .int 0, .int 0, .int 0, .int fl]))] := hD
  refine lv_icmp_eq (tgt := 39) hx hb dX8_whichWord_25 (by decide) (fun c0 => absurd c0 (by decide +kernel)) (fun _ => ?_)
  refine lv_aload_n hx hb dX8_whichWord_28 rfl (lv_at hl 5 rfl) ?_
  refine lv_iload hx hb dX8_whichWord_29 (lv_at hl 0 rfl) ?_
  have hPc := hP.sub (ws' := []) [] rfl
  have hDc := hD.sub (ws' := []) [] (by decide) rfl
  refine gq_callI (wr := [(t, .inr (8, [.ref b, .int 0, .int 0, .int 0, .int fl]))]) (va_runV (As := [.int 23]) (rest := []) ⟨hx, hb, hml, hown, ht⟩ (c_J_char0 l G H.size K V 23 (by decide +kernel) (by decide +kernel)) (cwV 1 ht (ts_gV wd_601 wd_602 wd_603 wd_135 wd_604) rfl rfl rfl (by decide +kernel) ⟨Nat.le_of_ble_eq_true rfl, Nat.le_of_ble_eq_true rfl⟩) (gx_preK 0 (by decide) hK hPc hDc hX hS (va_free hD hS hA [] rfl)) rfl rfl hl.1 rfl (lv_room (Nat.le_of_ble_eq_true rfl)) dX8_whichWord_31 ⟨Nat.le_of_ble_eq_true rfl, Nat.le_of_ble_eq_true rfl⟩) hP hD hS hA [] [0] rfl rfl (by decide) (by decide) (fun r u H locs hw hP hD hS => ?_)
  have hw : r = (sx_c 0 23) := hw
  subst hw
  have hP : va_P (gg_D G) classes [(t, .inr (8, [.ref b, .int 0, .int 0, .int 0, .int fl]))] H := hP
  have hD : va_D A [(t, .inr (8, [.ref b, .int 0, .int 0, .int 0, .int fl]))] := hD
  rw [show (sx_c 0 23) = 114 by decide +kernel]
  refine lv_bipush (v := 32) hx hb dX8_whichWord_34 (by decide +kernel) ?_
  refine lv_icmp_ne (tgt := 65) hx hb dX8_whichWord_36 (by decide) (fun _ => ?_) (fun c0 => absurd c0 (by decide +kernel))
  refine lv_iload hx hb dX8_whichWord_65 (lv_at hl 2 rfl) ?_
  refine lv_if_eq (tgt := 102) hx hb dX8_whichWord_67 (by decide) (fun _ => ?_) (fun c0 => absurd (by decide +kernel) c0)
  refine lv_iconst (v := 0) hx hb dX8_whichWord_102 (by decide) ?_
  refine lv_istore (lv' := [(4, .int 0), (5, .int 23), (3, .int 1), (2, .int 4), (0, .ref t), (1, .ref (K 0))]) hx hb dX8_whichWord_103 hl (by decide) rfl (fun ls hl => ?_)
  refine lv_iinc (v := 2) (lv' := [(3, .int 2), (4, .int 0), (5, .int 23), (2, .int 4), (0, .ref t), (1, .ref (K 0))]) hx hb dX8_whichWord_105 hl (k := 2) rfl (by decide +kernel) (by decide) rfl (fun ls hl => ?_)
  refine lv_iinc (v := 24) (lv' := [(5, .int 24), (3, .int 2), (4, .int 0), (2, .int 4), (0, .ref t), (1, .ref (K 0))]) hx hb dX8_whichWord_108 hl (k := 2) rfl (by decide +kernel) (by decide) rfl (fun ls hl => ?_)
  refine lv_goto (tgt := 10) hx hb dX8_whichWord_111 (by decide) ?_
  refine lv_iload hx hb dX8_whichWord_10 (lv_at hl 0 rfl) ?_
  refine lv_aload_n hx hb dX8_whichWord_12 rfl (lv_at hl 5 rfl) ?_
  have hPc := hP.sub (ws' := []) [] rfl
  have hDc := hD.sub (ws' := []) [] (by decide) rfl
  refine gq_callI (wr := [(t, .inr (8, [.ref b, .int 0, .int 0, .int 0, .int fl]))]) (va_runV (As := []) (rest := [.int 24]) ⟨hx, hb, hml, hown, ht⟩ (c_J_length0 l G H.size K V) (cwV 0 ht (ts_gV wd_591 wd_592 wd_593 wd_135 wd_594) rfl rfl rfl (by decide +kernel) ⟨Nat.le_of_ble_eq_true rfl, Nat.le_of_ble_eq_true rfl⟩) (gx_preK 0 (by decide) hK hPc hDc hX hS (va_free hD hS hA [] rfl)) rfl rfl hl.1 rfl (lv_room (Nat.le_of_ble_eq_true rfl)) dX8_whichWord_13 ⟨Nat.le_of_ble_eq_true rfl, Nat.le_of_ble_eq_true rfl⟩) hP hD hS hA [] [0] rfl rfl (by decide) (by decide) (fun r u H locs hw hP hD hS => ?_)
  have hw : r = 27 := hw
  subst hw
  have hP : va_P (gg_D G) classes [(t, .inr (8, [.ref b, .int 0, .int 0, .int 0, .int fl]))] H := hP
  have hD : va_D A [(t, .inr (8, [.ref b, .int 0, .int 0, .int 0, .int fl]))] := hD
  refine lv_icmp_gt (tgt := 114) hx hb dX8_whichWord_16 (by decide) (fun c0 => absurd c0 (by decide +kernel)) (fun _ => ?_)
  refine lv_iload hx hb dX8_whichWord_19 (lv_at hl 0 rfl) ?_
  refine lv_aload_n hx hb dX8_whichWord_21 rfl (lv_at hl 5 rfl) ?_
  have hPc := hP.sub (ws' := []) [] rfl
  have hDc := hD.sub (ws' := []) [] (by decide) rfl
  refine gq_callI (wr := [(t, .inr (8, [.ref b, .int 0, .int 0, .int 0, .int fl]))]) (va_runV (As := []) (rest := [.int 24]) ⟨hx, hb, hml, hown, ht⟩ (c_J_length0 l G H.size K V) (cwV 0 ht (ts_gV wd_591 wd_592 wd_593 wd_135 wd_594) rfl rfl rfl (by decide +kernel) ⟨Nat.le_of_ble_eq_true rfl, Nat.le_of_ble_eq_true rfl⟩) (gx_preK 0 (by decide) hK hPc hDc hX hS (va_free hD hS hA [] rfl)) rfl rfl hl.1 rfl (lv_room (Nat.le_of_ble_eq_true rfl)) dX8_whichWord_22 ⟨Nat.le_of_ble_eq_true rfl, Nat.le_of_ble_eq_true rfl⟩) hP hD hS hA [] [0] rfl rfl (by decide) (by decide) (fun r u H locs hw hP hD hS => ?_)
  have hw : r = 27 := hw
  subst hw
  have hP : va_P (gg_D G) classes [(t, .inr (8, [.ref b, .int 0, .int 0, .int 0, .int fl]))] H := hP
  have hD : va_D A [(t, .inr (8, [.ref b, .int 0, .int 0, .int 0, .int fl]))] := hD
  refine lv_icmp_eq (tgt := 39) hx hb dX8_whichWord_25 (by decide) (fun c0 => absurd c0 (by decide +kernel)) (fun _ => ?_)
  refine lv_aload_n hx hb dX8_whichWord_28 rfl (lv_at hl 5 rfl) ?_
  refine lv_iload hx hb dX8_whichWord_29 (lv_at hl 0 rfl) ?_
  have hPc := hP.sub (ws' := []) [] rfl
  have hDc := hD.sub (ws' := []) [] (by decide) rfl
  refine gq_callI (wr := [(t, .inr (8, [.ref b, .int 0, .int 0, .int 0, .int fl]))]) (va_runV (As := [.int 24]) (rest := []) ⟨hx, hb, hml, hown, ht⟩ (c_J_char0 l G H.size K V 24 (by decide +kernel) (by decide +kernel)) (cwV 1 ht (ts_gV wd_601 wd_602 wd_603 wd_135 wd_604) rfl rfl rfl (by decide +kernel) ⟨Nat.le_of_ble_eq_true rfl, Nat.le_of_ble_eq_true rfl⟩) (gx_preK 0 (by decide) hK hPc hDc hX hS (va_free hD hS hA [] rfl)) rfl rfl hl.1 rfl (lv_room (Nat.le_of_ble_eq_true rfl)) dX8_whichWord_31 ⟨Nat.le_of_ble_eq_true rfl, Nat.le_of_ble_eq_true rfl⟩) hP hD hS hA [] [0] rfl rfl (by decide) (by decide) (fun r u H locs hw hP hD hS => ?_)
  have hw : r = (sx_c 0 24) := hw
  subst hw
  have hP : va_P (gg_D G) classes [(t, .inr (8, [.ref b, .int 0, .int 0, .int 0, .int fl]))] H := hP
  have hD : va_D A [(t, .inr (8, [.ref b, .int 0, .int 0, .int 0, .int fl]))] := hD
  rw [show (sx_c 0 24) = 105 by decide +kernel]
  refine lv_bipush (v := 32) hx hb dX8_whichWord_34 (by decide +kernel) ?_
  refine lv_icmp_ne (tgt := 65) hx hb dX8_whichWord_36 (by decide) (fun _ => ?_) (fun c0 => absurd c0 (by decide +kernel))
  refine lv_iload hx hb dX8_whichWord_65 (lv_at hl 2 rfl) ?_
  refine lv_if_eq (tgt := 102) hx hb dX8_whichWord_67 (by decide) (fun _ => ?_) (fun c0 => absurd (by decide +kernel) c0)
  refine lv_iconst (v := 0) hx hb dX8_whichWord_102 (by decide) ?_
  refine lv_istore (lv' := [(4, .int 0), (5, .int 24), (3, .int 2), (2, .int 4), (0, .ref t), (1, .ref (K 0))]) hx hb dX8_whichWord_103 hl (by decide) rfl (fun ls hl => ?_)
  refine lv_iinc (v := 3) (lv' := [(3, .int 3), (4, .int 0), (5, .int 24), (2, .int 4), (0, .ref t), (1, .ref (K 0))]) hx hb dX8_whichWord_105 hl (k := 2) rfl (by decide +kernel) (by decide) rfl (fun ls hl => ?_)
  refine lv_iinc (v := 25) (lv' := [(5, .int 25), (3, .int 3), (4, .int 0), (2, .int 4), (0, .ref t), (1, .ref (K 0))]) hx hb dX8_whichWord_108 hl (k := 2) rfl (by decide +kernel) (by decide) rfl (fun ls hl => ?_)
  refine lv_goto (tgt := 10) hx hb dX8_whichWord_111 (by decide) ?_
  refine lv_iload hx hb dX8_whichWord_10 (lv_at hl 0 rfl) ?_
  refine lv_aload_n hx hb dX8_whichWord_12 rfl (lv_at hl 5 rfl) ?_
  have hPc := hP.sub (ws' := []) [] rfl
  have hDc := hD.sub (ws' := []) [] (by decide) rfl
  refine gq_callI (wr := [(t, .inr (8, [.ref b, .int 0, .int 0, .int 0, .int fl]))]) (va_runV (As := []) (rest := [.int 25]) ⟨hx, hb, hml, hown, ht⟩ (c_J_length0 l G H.size K V) (cwV 0 ht (ts_gV wd_591 wd_592 wd_593 wd_135 wd_594) rfl rfl rfl (by decide +kernel) ⟨Nat.le_of_ble_eq_true rfl, Nat.le_of_ble_eq_true rfl⟩) (gx_preK 0 (by decide) hK hPc hDc hX hS (va_free hD hS hA [] rfl)) rfl rfl hl.1 rfl (lv_room (Nat.le_of_ble_eq_true rfl)) dX8_whichWord_13 ⟨Nat.le_of_ble_eq_true rfl, Nat.le_of_ble_eq_true rfl⟩) hP hD hS hA [] [0] rfl rfl (by decide) (by decide) (fun r u H locs hw hP hD hS => ?_)
  have hw : r = 27 := hw
  subst hw
  have hP : va_P (gg_D G) classes [(t, .inr (8, [.ref b, .int 0, .int 0, .int 0, .int fl]))] H := hP
  have hD : va_D A [(t, .inr (8, [.ref b, .int 0, .int 0, .int 0, .int fl]))] := hD
  refine lv_icmp_gt (tgt := 114) hx hb dX8_whichWord_16 (by decide) (fun c0 => absurd c0 (by decide +kernel)) (fun _ => ?_)
  refine lv_iload hx hb dX8_whichWord_19 (lv_at hl 0 rfl) ?_
  refine lv_aload_n hx hb dX8_whichWord_21 rfl (lv_at hl 5 rfl) ?_
  have hPc := hP.sub (ws' := []) [] rfl
  have hDc := hD.sub (ws' := []) [] (by decide) rfl
  refine gq_callI (wr := [(t, .inr (8, [.ref b, .int 0, .int 0, .int 0, .int fl]))]) (va_runV (As := []) (rest := [.int 25]) ⟨hx, hb, hml, hown, ht⟩ (c_J_length0 l G H.size K V) (cwV 0 ht (ts_gV wd_591 wd_592 wd_593 wd_135 wd_594) rfl rfl rfl (by decide +kernel) ⟨Nat.le_of_ble_eq_true rfl, Nat.le_of_ble_eq_true rfl⟩) (gx_preK 0 (by decide) hK hPc hDc hX hS (va_free hD hS hA [] rfl)) rfl rfl hl.1 rfl (lv_room (Nat.le_of_ble_eq_true rfl)) dX8_whichWord_22 ⟨Nat.le_of_ble_eq_true rfl, Nat.le_of_ble_eq_true rfl⟩) hP hD hS hA [] [0] rfl rfl (by decide) (by decide) (fun r u H locs hw hP hD hS => ?_)
  have hw : r = 27 := hw
  subst hw
  have hP : va_P (gg_D G) classes [(t, .inr (8, [.ref b, .int 0, .int 0, .int 0, .int fl]))] H := hP
  have hD : va_D A [(t, .inr (8, [.ref b, .int 0, .int 0, .int 0, .int fl]))] := hD
  refine lv_icmp_eq (tgt := 39) hx hb dX8_whichWord_25 (by decide) (fun c0 => absurd c0 (by decide +kernel)) (fun _ => ?_)
  refine lv_aload_n hx hb dX8_whichWord_28 rfl (lv_at hl 5 rfl) ?_
  refine lv_iload hx hb dX8_whichWord_29 (lv_at hl 0 rfl) ?_
  have hPc := hP.sub (ws' := []) [] rfl
  have hDc := hD.sub (ws' := []) [] (by decide) rfl
  refine gq_callI (wr := [(t, .inr (8, [.ref b, .int 0, .int 0, .int 0, .int fl]))]) (va_runV (As := [.int 25]) (rest := []) ⟨hx, hb, hml, hown, ht⟩ (c_J_char0 l G H.size K V 25 (by decide +kernel) (by decide +kernel)) (cwV 1 ht (ts_gV wd_601 wd_602 wd_603 wd_135 wd_604) rfl rfl rfl (by decide +kernel) ⟨Nat.le_of_ble_eq_true rfl, Nat.le_of_ble_eq_true rfl⟩) (gx_preK 0 (by decide) hK hPc hDc hX hS (va_free hD hS hA [] rfl)) rfl rfl hl.1 rfl (lv_room (Nat.le_of_ble_eq_true rfl)) dX8_whichWord_31 ⟨Nat.le_of_ble_eq_true rfl, Nat.le_of_ble_eq_true rfl⟩) hP hD hS hA [] [0] rfl rfl (by decide) (by decide) (fun r u H locs hw hP hD hS => ?_)
  have hw : r = (sx_c 0 25) := hw
  subst hw
  have hP : va_P (gg_D G) classes [(t, .inr (8, [.ref b, .int 0, .int 0, .int 0, .int fl]))] H := hP
  have hD : va_D A [(t, .inr (8, [.ref b, .int 0, .int 0, .int 0, .int fl]))] := hD
  rw [show (sx_c 0 25) = 99 by decide +kernel]
  refine lv_bipush (v := 32) hx hb dX8_whichWord_34 (by decide +kernel) ?_
  refine lv_icmp_ne (tgt := 65) hx hb dX8_whichWord_36 (by decide) (fun _ => ?_) (fun c0 => absurd c0 (by decide +kernel))
  refine lv_iload hx hb dX8_whichWord_65 (lv_at hl 2 rfl) ?_
  refine lv_if_eq (tgt := 102) hx hb dX8_whichWord_67 (by decide) (fun _ => ?_) (fun c0 => absurd (by decide +kernel) c0)
  refine lv_iconst (v := 0) hx hb dX8_whichWord_102 (by decide) ?_
  refine lv_istore (lv' := [(4, .int 0), (5, .int 25), (3, .int 3), (2, .int 4), (0, .ref t), (1, .ref (K 0))]) hx hb dX8_whichWord_103 hl (by decide) rfl (fun ls hl => ?_)
  refine lv_iinc (v := 4) (lv' := [(3, .int 4), (4, .int 0), (5, .int 25), (2, .int 4), (0, .ref t), (1, .ref (K 0))]) hx hb dX8_whichWord_105 hl (k := 2) rfl (by decide +kernel) (by decide) rfl (fun ls hl => ?_)
  refine lv_iinc (v := 26) (lv' := [(5, .int 26), (3, .int 4), (4, .int 0), (2, .int 4), (0, .ref t), (1, .ref (K 0))]) hx hb dX8_whichWord_108 hl (k := 2) rfl (by decide +kernel) (by decide) rfl (fun ls hl => ?_)
  refine lv_goto (tgt := 10) hx hb dX8_whichWord_111 (by decide) ?_
  refine lv_iload hx hb dX8_whichWord_10 (lv_at hl 0 rfl) ?_
  refine lv_aload_n hx hb dX8_whichWord_12 rfl (lv_at hl 5 rfl) ?_
  have hPc := hP.sub (ws' := []) [] rfl
  have hDc := hD.sub (ws' := []) [] (by decide) rfl
  refine gq_callI (wr := [(t, .inr (8, [.ref b, .int 0, .int 0, .int 0, .int fl]))]) (va_runV (As := []) (rest := [.int 26]) ⟨hx, hb, hml, hown, ht⟩ (c_J_length0 l G H.size K V) (cwV 0 ht (ts_gV wd_591 wd_592 wd_593 wd_135 wd_594) rfl rfl rfl (by decide +kernel) ⟨Nat.le_of_ble_eq_true rfl, Nat.le_of_ble_eq_true rfl⟩) (gx_preK 0 (by decide) hK hPc hDc hX hS (va_free hD hS hA [] rfl)) rfl rfl hl.1 rfl (lv_room (Nat.le_of_ble_eq_true rfl)) dX8_whichWord_13 ⟨Nat.le_of_ble_eq_true rfl, Nat.le_of_ble_eq_true rfl⟩) hP hD hS hA [] [0] rfl rfl (by decide) (by decide) (fun r u H locs hw hP hD hS => ?_)
  have hw : r = 27 := hw
  subst hw
  have hP : va_P (gg_D G) classes [(t, .inr (8, [.ref b, .int 0, .int 0, .int 0, .int fl]))] H := hP
  have hD : va_D A [(t, .inr (8, [.ref b, .int 0, .int 0, .int 0, .int fl]))] := hD
  refine lv_icmp_gt (tgt := 114) hx hb dX8_whichWord_16 (by decide) (fun c0 => absurd c0 (by decide +kernel)) (fun _ => ?_)
  refine lv_iload hx hb dX8_whichWord_19 (lv_at hl 0 rfl) ?_
  refine lv_aload_n hx hb dX8_whichWord_21 rfl (lv_at hl 5 rfl) ?_
  have hPc := hP.sub (ws' := []) [] rfl
  have hDc := hD.sub (ws' := []) [] (by decide) rfl
  refine gq_callI (wr := [(t, .inr (8, [.ref b, .int 0, .int 0, .int 0, .int fl]))]) (va_runV (As := []) (rest := [.int 26]) ⟨hx, hb, hml, hown, ht⟩ (c_J_length0 l G H.size K V) (cwV 0 ht (ts_gV wd_591 wd_592 wd_593 wd_135 wd_594) rfl rfl rfl (by decide +kernel) ⟨Nat.le_of_ble_eq_true rfl, Nat.le_of_ble_eq_true rfl⟩) (gx_preK 0 (by decide) hK hPc hDc hX hS (va_free hD hS hA [] rfl)) rfl rfl hl.1 rfl (lv_room (Nat.le_of_ble_eq_true rfl)) dX8_whichWord_22 ⟨Nat.le_of_ble_eq_true rfl, Nat.le_of_ble_eq_true rfl⟩) hP hD hS hA [] [0] rfl rfl (by decide) (by decide) (fun r u H locs hw hP hD hS => ?_)
  have hw : r = 27 := hw
  subst hw
  have hP : va_P (gg_D G) classes [(t, .inr (8, [.ref b, .int 0, .int 0, .int 0, .int fl]))] H := hP
  have hD : va_D A [(t, .inr (8, [.ref b, .int 0, .int 0, .int 0, .int fl]))] := hD
  refine lv_icmp_eq (tgt := 39) hx hb dX8_whichWord_25 (by decide) (fun c0 => absurd c0 (by decide +kernel)) (fun _ => ?_)
  refine lv_aload_n hx hb dX8_whichWord_28 rfl (lv_at hl 5 rfl) ?_
  refine lv_iload hx hb dX8_whichWord_29 (lv_at hl 0 rfl) ?_
  have hPc := hP.sub (ws' := []) [] rfl
  have hDc := hD.sub (ws' := []) [] (by decide) rfl
  refine gq_callI (wr := [(t, .inr (8, [.ref b, .int 0, .int 0, .int 0, .int fl]))]) (va_runV (As := [.int 26]) (rest := []) ⟨hx, hb, hml, hown, ht⟩ (c_J_char0 l G H.size K V 26 (by decide +kernel) (by decide +kernel)) (cwV 1 ht (ts_gV wd_601 wd_602 wd_603 wd_135 wd_604) rfl rfl rfl (by decide +kernel) ⟨Nat.le_of_ble_eq_true rfl, Nat.le_of_ble_eq_true rfl⟩) (gx_preK 0 (by decide) hK hPc hDc hX hS (va_free hD hS hA [] rfl)) rfl rfl hl.1 rfl (lv_room (Nat.le_of_ble_eq_true rfl)) dX8_whichWord_31 ⟨Nat.le_of_ble_eq_true rfl, Nat.le_of_ble_eq_true rfl⟩) hP hD hS hA [] [0] rfl rfl (by decide) (by decide) (fun r u H locs hw hP hD hS => ?_)
  have hw : r = (sx_c 0 26) := hw
  subst hw
  have hP : va_P (gg_D G) classes [(t, .inr (8, [.ref b, .int 0, .int 0, .int 0, .int fl]))] H := hP
  have hD : va_D A [(t, .inr (8, [.ref b, .int 0, .int 0, .int 0, .int fl]))] := hD
  rw [show (sx_c 0 26) = 107 by decide +kernel]
  refine lv_bipush (v := 32) hx hb dX8_whichWord_34 (by decide +kernel) ?_
  refine lv_icmp_ne (tgt := 65) hx hb dX8_whichWord_36 (by decide) (fun _ => ?_) (fun c0 => absurd c0 (by decide +kernel))
  refine lv_iload hx hb dX8_whichWord_65 (lv_at hl 2 rfl) ?_
  refine lv_if_eq (tgt := 102) hx hb dX8_whichWord_67 (by decide) (fun _ => ?_) (fun c0 => absurd (by decide +kernel) c0)
  refine lv_iconst (v := 0) hx hb dX8_whichWord_102 (by decide) ?_
  refine lv_istore (lv' := [(4, .int 0), (5, .int 26), (3, .int 4), (2, .int 4), (0, .ref t), (1, .ref (K 0))]) hx hb dX8_whichWord_103 hl (by decide) rfl (fun ls hl => ?_)
  refine lv_iinc (v := 5) (lv' := [(3, .int 5), (4, .int 0), (5, .int 26), (2, .int 4), (0, .ref t), (1, .ref (K 0))]) hx hb dX8_whichWord_105 hl (k := 2) rfl (by decide +kernel) (by decide) rfl (fun ls hl => ?_)
  refine lv_iinc (v := 27) (lv' := [(5, .int 27), (3, .int 5), (4, .int 0), (2, .int 4), (0, .ref t), (1, .ref (K 0))]) hx hb dX8_whichWord_108 hl (k := 2) rfl (by decide +kernel) (by decide) rfl (fun ls hl => ?_)
  refine lv_goto (tgt := 10) hx hb dX8_whichWord_111 (by decide) ?_
  refine lv_iload hx hb dX8_whichWord_10 (lv_at hl 0 rfl) ?_
  refine lv_aload_n hx hb dX8_whichWord_12 rfl (lv_at hl 5 rfl) ?_
  have hPc := hP.sub (ws' := []) [] rfl
  have hDc := hD.sub (ws' := []) [] (by decide) rfl
  refine gq_callI (wr := [(t, .inr (8, [.ref b, .int 0, .int 0, .int 0, .int fl]))]) (va_runV (As := []) (rest := [.int 27]) ⟨hx, hb, hml, hown, ht⟩ (c_J_length0 l G H.size K V) (cwV 0 ht (ts_gV wd_591 wd_592 wd_593 wd_135 wd_594) rfl rfl rfl (by decide +kernel) ⟨Nat.le_of_ble_eq_true rfl, Nat.le_of_ble_eq_true rfl⟩) (gx_preK 0 (by decide) hK hPc hDc hX hS (va_free hD hS hA [] rfl)) rfl rfl hl.1 rfl (lv_room (Nat.le_of_ble_eq_true rfl)) dX8_whichWord_13 ⟨Nat.le_of_ble_eq_true rfl, Nat.le_of_ble_eq_true rfl⟩) hP hD hS hA [] [0] rfl rfl (by decide) (by decide) (fun r u H locs hw hP hD hS => ?_)
  have hw : r = 27 := hw
  subst hw
  have hP : va_P (gg_D G) classes [(t, .inr (8, [.ref b, .int 0, .int 0, .int 0, .int fl]))] H := hP
  have hD : va_D A [(t, .inr (8, [.ref b, .int 0, .int 0, .int 0, .int fl]))] := hD
  refine lv_icmp_gt (tgt := 114) hx hb dX8_whichWord_16 (by decide) (fun c0 => absurd c0 (by decide +kernel)) (fun _ => ?_)
  refine lv_iload hx hb dX8_whichWord_19 (lv_at hl 0 rfl) ?_
  refine lv_aload_n hx hb dX8_whichWord_21 rfl (lv_at hl 5 rfl) ?_
  have hPc := hP.sub (ws' := []) [] rfl
  have hDc := hD.sub (ws' := []) [] (by decide) rfl
  refine gq_callI (wr := [(t, .inr (8, [.ref b, .int 0, .int 0, .int 0, .int fl]))]) (va_runV (As := []) (rest := [.int 27]) ⟨hx, hb, hml, hown, ht⟩ (c_J_length0 l G H.size K V) (cwV 0 ht (ts_gV wd_591 wd_592 wd_593 wd_135 wd_594) rfl rfl rfl (by decide +kernel) ⟨Nat.le_of_ble_eq_true rfl, Nat.le_of_ble_eq_true rfl⟩) (gx_preK 0 (by decide) hK hPc hDc hX hS (va_free hD hS hA [] rfl)) rfl rfl hl.1 rfl (lv_room (Nat.le_of_ble_eq_true rfl)) dX8_whichWord_22 ⟨Nat.le_of_ble_eq_true rfl, Nat.le_of_ble_eq_true rfl⟩) hP hD hS hA [] [0] rfl rfl (by decide) (by decide) (fun r u H locs hw hP hD hS => ?_)
  have hw : r = 27 := hw
  subst hw
  have hP : va_P (gg_D G) classes [(t, .inr (8, [.ref b, .int 0, .int 0, .int 0, .int fl]))] H := hP
  have hD : va_D A [(t, .inr (8, [.ref b, .int 0, .int 0, .int 0, .int fl]))] := hD
  refine lv_icmp_eq (tgt := 39) hx hb dX8_whichWord_25 (by decide) (fun _ => ?_) (fun c0 => absurd (by decide +kernel) c0)
  refine lv_iload hx hb dX8_whichWord_39 (lv_at hl 2 rfl) ?_
  refine lv_if_eq (tgt := 54) hx hb dX8_whichWord_41 (by decide) (fun _ => ?_) (fun c0 => absurd (by decide +kernel) c0)
  refine lv_iinc (v := 5) (lv' := [(2, .int 5), (5, .int 27), (3, .int 5), (4, .int 0), (0, .ref t), (1, .ref (K 0))]) hx hb dX8_whichWord_54 hl (k := 3) rfl (by decide +kernel) (by decide) rfl (fun ls hl => ?_)
  refine lv_iconst (v := 0) hx hb dX8_whichWord_57 (by decide) ?_
  refine lv_istore_n (lv' := [(3, .int 0), (2, .int 5), (5, .int 27), (4, .int 0), (0, .ref t), (1, .ref (K 0))]) hx hb dX8_whichWord_58 rfl hl (by decide) rfl (fun ls hl => ?_)
  refine lv_iconst (v := 1) hx hb dX8_whichWord_59 (by decide) ?_
  refine lv_istore (lv' := [(4, .int 1), (3, .int 0), (2, .int 5), (5, .int 27), (0, .ref t), (1, .ref (K 0))]) hx hb dX8_whichWord_60 hl (by decide) rfl (fun ls hl => ?_)
  refine lv_goto (tgt := 108) hx hb dX8_whichWord_62 (by decide) ?_
  refine lv_iinc (v := 28) (lv' := [(5, .int 28), (4, .int 1), (3, .int 0), (2, .int 5), (0, .ref t), (1, .ref (K 0))]) hx hb dX8_whichWord_108 hl (k := 3) rfl (by decide +kernel) (by decide) rfl (fun ls hl => ?_)
  refine lv_goto (tgt := 10) hx hb dX8_whichWord_111 (by decide) ?_
  refine lv_iload hx hb dX8_whichWord_10 (lv_at hl 0 rfl) ?_
  refine lv_aload_n hx hb dX8_whichWord_12 rfl (lv_at hl 5 rfl) ?_
  have hPc := hP.sub (ws' := []) [] rfl
  have hDc := hD.sub (ws' := []) [] (by decide) rfl
  refine gq_callI (wr := [(t, .inr (8, [.ref b, .int 0, .int 0, .int 0, .int fl]))]) (va_runV (As := []) (rest := [.int 28]) ⟨hx, hb, hml, hown, ht⟩ (c_J_length0 l G H.size K V) (cwV 0 ht (ts_gV wd_591 wd_592 wd_593 wd_135 wd_594) rfl rfl rfl (by decide +kernel) ⟨Nat.le_of_ble_eq_true rfl, Nat.le_of_ble_eq_true rfl⟩) (gx_preK 0 (by decide) hK hPc hDc hX hS (va_free hD hS hA [] rfl)) rfl rfl hl.1 rfl (lv_room (Nat.le_of_ble_eq_true rfl)) dX8_whichWord_13 ⟨Nat.le_of_ble_eq_true rfl, Nat.le_of_ble_eq_true rfl⟩) hP hD hS hA [] [0] rfl rfl (by decide) (by decide) (fun r u H locs hw hP hD hS => ?_)
  have hw : r = 27 := hw
  subst hw
  have hP : va_P (gg_D G) classes [(t, .inr (8, [.ref b, .int 0, .int 0, .int 0, .int fl]))] H := hP
  have hD : va_D A [(t, .inr (8, [.ref b, .int 0, .int 0, .int 0, .int fl]))] := hD
  refine lv_icmp_gt (tgt := 114) hx hb dX8_whichWord_16 (by decide) (fun _ => ?_) (fun c0 => absurd (by decide +kernel) c0)
  refine lv_iconst (v := (-1)) hx hb dX8_whichWord_114 (by decide) ?_
  have hP9 := hP.sub (ws' := [(t, .inr (8, [.ref b, .int 0, .int 0, .int 0, .int fl]))]) [0] rfl
  have hD9 := hD.sub (ws' := [(t, .inr (8, [.ref b, .int 0, .int 0, .int 0, .int fl]))]) [0] (by decide) rfl
  exact W.iret (v := (-1)) hx hb hr (gq_endI () rfl hP9 hD9 hS) hS.2.2 dX8_whichWord_115
set_option maxHeartbeats 4000000 in
set_option maxRecDepth 100000 in
theorem c_Terms_readClause (l : Launch) (G : gg_T) (sz : Nat) (K : Nat → Nat) (V : Nat → Nat) (tm : Nat) (r0 : Nat) (r1 : Nat) (r2 : Nat) (r3 : Nat) (r4 : Nat) (t : Nat) (b : Nat) : Met l yX9_readClause (ts_L yX9_readClause cX9_readClause 4 (some .boolean)) ({ frames := 5, cells := 0, slots := 0, locals := 110 }) (gx_P G K V [(tm, .inr (9, [.int 0, .int 0, .int 0, .int 0, .ref r0, .ref r1, .ref r2, .ref r3, .ref r4])), (t, .inr (8, [.ref b, .int 0, .int 0, .int 0, .int 0]))] sz [.ref tm, .ref t, .int 0]) (gc_I G (va_A [(tm, .inr (9, [.int 0, .int 0, .int 0, .int 0, .ref r0, .ref r1, .ref r2, .ref r3, .ref r4])), (t, .inr (8, [.ref b, .int 0, .int 0, .int 0, .int 0]))] sz) (fun r (_ : Unit) => r = 0) (fun _ => [(tm, .inr (9, [.int 0, .int 0, .int 0, .int 0, .ref r0, .ref r1, .ref r2, .ref r3, .ref r4])), (t, .inr (8, [.ref b, .int 0, .int 0, .int 0, .int 1]))])) 0 0 (va_A [(tm, .inr (9, [.int 0, .int 0, .int 0, .int 0, .ref r0, .ref r1, .ref r2, .ref r3, .ref r4])), (t, .inr (8, [.ref b, .int 0, .int 0, .int 0, .int 0]))] sz) := by
  refine Met.ofW (cc := cX9_readClause) (maxL := 4) (ret := (some .boolean)) (by decide) rfl ?_
  intro p e s m args below meth c s₁ B hml hv
  obtain ⟨rfl, hsz, hP, hK, hD0, hX⟩ := hv
  have hx := B.exec
  have hb := B.bytes
  have hr := B.returns
  have ht := ts_ht (atoms_spec (ws := ts_L yX9_readClause cX9_readClause 4 (some .boolean)) B.pre)
  have hown : s.vm.findClass RX9 = some m.cls := findClass_of_methodNamed B.named
  have hlocks := B.notSynchronized
  subst hsz
  have hD := hD0.self (sz := s.heap.size)
  generalize hAe : va_A [(tm, .inr (9, [.int 0, .int 0, .int 0, .int 0, .ref r0, .ref r1, .ref r2, .ref r3, .ref r4])), (t, .inr (8, [.ref b, .int 0, .int 0, .int 0, .int 0]))] s.heap.size = A at hD hX ⊢
  have hA : ∀ q : Nat, s.heap.size ≤ q → A q := fun q h => by rw [← hAe]; exact Or.inr h
  have hS : va_S A s.heap s.heap [] := va_S.rf
  have hl := lv_entry ([.ref tm, .ref t, .int 0]) (n := 4) (Nat.le_of_ble_eq_true rfl)
  rw [lg_entry_eq]
  generalize (lg_sl ([.ref tm, .ref t, .int 0]) ++ List.replicate (4 - (lg_sl ([.ref tm, .ref t, .int 0])).length) Slot.unset).toArray = ls at hl ⊢
  have hl : lv_has ls 4 [(0, .ref tm), (1, .ref t), (2, .int 0)] := hl
  refine lv_aload_n hx hb dX9_readClause_0 rfl (lv_at hl 1 rfl) ?_
  refine va_ldcS hx hb hown hX.2.2.2.1 dX9_readClause_1 ?_
  have hPc := hP.sub (ws' := [(t, .inr (8, [.ref b, .int 0, .int 0, .int 0, .int 0]))]) [1] rfl
  have hDc := hD.sub (ws' := [(t, .inr (8, [.ref b, .int 0, .int 0, .int 0, .int 0]))]) [1] (by decide) rfl
  refine gq_callI (wr := [(tm, .inr (9, [.int 0, .int 0, .int 0, .int 0, .ref r0, .ref r1, .ref r2, .ref r3, .ref r4]))]) (va_runV (As := [.ref (K 0)]) (rest := []) ⟨hx, hb, hml, hown, ht⟩ (c_Tape_which0 l G s.heap.size K V t b 0) (cwV 1 ht (ts_gV wd_587 wd_588 wd_589 wd_123 wd_590) rfl rfl rfl (by decide +kernel) ⟨Nat.le_of_ble_eq_true rfl, Nat.le_of_ble_eq_true rfl⟩) (gx_preV (ci := 8) (q0 := 0) hK hPc hDc hX hS (va_free hD hS hA [1] rfl) rfl rfl) rfl rfl hl.1 rfl (lv_room (Nat.le_of_ble_eq_true rfl)) dX9_readClause_3 ⟨Nat.le_of_ble_eq_true rfl, Nat.le_of_ble_eq_true rfl⟩) hP hD hS hA [1] [0] rfl rfl (by decide) (by decide) (fun r u H locs hw hP hD hS => ?_)
  have hw : r = (-1) := hw
  subst hw
  have hP : va_P (gg_D G) classes [(tm, .inr (9, [.int 0, .int 0, .int 0, .int 0, .ref r0, .ref r1, .ref r2, .ref r3, .ref r4])), (t, .inr (8, [.ref b, .int 0, .int 0, .int 0, .int 0]))] H := hP
  have hD : va_D A [(tm, .inr (9, [.int 0, .int 0, .int 0, .int 0, .ref r0, .ref r1, .ref r2, .ref r3, .ref r4])), (t, .inr (8, [.ref b, .int 0, .int 0, .int 0, .int 0]))] := hD
  refine lv_istore_n (lv' := [(3, .int (-1)), (0, .ref tm), (1, .ref t), (2, .int 0)]) hx hb dX9_readClause_6 rfl hl (by decide) rfl (fun ls hl => ?_)
  refine lv_iload_n hx hb dX9_readClause_7 rfl (lv_at hl 0 rfl) ?_
  refine lv_iconst (v := (-1)) hx hb dX9_readClause_8 (by decide) ?_
  refine lv_icmp_ne (tgt := 22) hx hb dX9_readClause_9 (by decide) (fun c0 => absurd (by decide +kernel) c0) (fun _ => ?_)
  refine lv_aload_n hx hb dX9_readClause_12 rfl (lv_at hl 2 rfl) ?_
  refine lv_aload_n hx hb dX9_readClause_13 rfl (lv_at hl 2 rfl) ?_
  have hPc := hP.sub (ws' := [(t, .inr (8, [.ref b, .int 0, .int 0, .int 0, .int 0]))]) [1] rfl
  have hDc := hD.sub (ws' := [(t, .inr (8, [.ref b, .int 0, .int 0, .int 0, .int 0]))]) [1] (by decide) rfl
  refine gq_callI (wr := [(tm, .inr (9, [.int 0, .int 0, .int 0, .int 0, .ref r0, .ref r1, .ref r2, .ref r3, .ref r4]))]) (va_runV (As := []) (rest := [.ref t]) ⟨hx, hb, hml, hown, ht⟩ (c_Tape_place l G H.size t b 0 0 0 0) (cwV 0 ht (ts_gV wd_639 wd_640 wd_641 wd_123 wd_642) rfl rfl rfl (by decide +kernel) ⟨Nat.le_of_ble_eq_true rfl, Nat.le_of_ble_eq_true rfl⟩) (gc_preV (ci := 8) (q0 := 0) hK hPc hDc rfl rfl) rfl rfl hl.1 rfl (lv_room (Nat.le_of_ble_eq_true rfl)) dX9_readClause_14 ⟨Nat.le_of_ble_eq_true rfl, Nat.le_of_ble_eq_true rfl⟩) hP hD hS hA [1] [0] rfl rfl (by decide) (by decide) (fun r u H locs hw hP hD hS => ?_)
  have hw : r = 0 := hw
  subst hw
  have hP : va_P (gg_D G) classes [(tm, .inr (9, [.int 0, .int 0, .int 0, .int 0, .ref r0, .ref r1, .ref r2, .ref r3, .ref r4])), (t, .inr (8, [.ref b, .int 0, .int 0, .int 0, .int 0]))] H := hP
  have hD : va_D A [(tm, .inr (9, [.int 0, .int 0, .int 0, .int 0, .ref r0, .ref r1, .ref r2, .ref r3, .ref r4])), (t, .inr (8, [.ref b, .int 0, .int 0, .int 0, .int 0]))] := hD
  refine lv_iconst (v := 0) hx hb dX9_readClause_17 (by decide) ?_
  have hPc := hP.sub (ws' := [(t, .inr (8, [.ref b, .int 0, .int 0, .int 0, .int 0]))]) [1] rfl
  have hDc := hD.sub (ws' := [(t, .inr (8, [.ref b, .int 0, .int 0, .int 0, .int 0]))]) [1] (by decide) rfl
  refine gq_callI (wr := [(tm, .inr (9, [.int 0, .int 0, .int 0, .int 0, .ref r0, .ref r1, .ref r2, .ref r3, .ref r4]))]) (va_runV (As := [.int 0, .int 0]) (rest := []) ⟨hx, hb, hml, hown, ht⟩ (c_Tape_refuse0 l G H.size t b) (cwV 2 ht (ts_gV wd_643 wd_644 wd_645 wd_123 wd_646) rfl rfl rfl (by decide +kernel) ⟨Nat.le_of_ble_eq_true rfl, Nat.le_of_ble_eq_true rfl⟩) (gc_preV (ci := 8) (q0 := 0) hK hPc hDc rfl rfl) rfl rfl hl.1 rfl (lv_room (Nat.le_of_ble_eq_true rfl)) dX9_readClause_18 ⟨Nat.le_of_ble_eq_true rfl, Nat.le_of_ble_eq_true rfl⟩) hP hD hS hA [1] [0] rfl rfl (by decide) (by decide) (fun r u H locs hw hP hD hS => ?_)
  have hw : r = 0 := hw
  subst hw
  have hP : va_P (gg_D G) classes [(tm, .inr (9, [.int 0, .int 0, .int 0, .int 0, .ref r0, .ref r1, .ref r2, .ref r3, .ref r4])), (t, .inr (8, [.ref b, .int 0, .int 0, .int 0, .int 1]))] H := hP
  have hD : va_D A [(tm, .inr (9, [.int 0, .int 0, .int 0, .int 0, .ref r0, .ref r1, .ref r2, .ref r3, .ref r4])), (t, .inr (8, [.ref b, .int 0, .int 0, .int 0, .int 1]))] := hD
  have hP9 := hP.sub (ws' := [(tm, .inr (9, [.int 0, .int 0, .int 0, .int 0, .ref r0, .ref r1, .ref r2, .ref r3, .ref r4])), (t, .inr (8, [.ref b, .int 0, .int 0, .int 0, .int 1]))]) [0, 1] rfl
  have hD9 := hD.sub (ws' := [(tm, .inr (9, [.int 0, .int 0, .int 0, .int 0, .ref r0, .ref r1, .ref r2, .ref r3, .ref r4])), (t, .inr (8, [.ref b, .int 0, .int 0, .int 0, .int 1]))]) [0, 1] (by decide) rfl
  exact W.zret (v := 0) hx hb hr (by decide +kernel) (gq_endI () rfl hP9 hD9 hS) hS.2.2 dX9_readClause_21
set_option maxHeartbeats 4000000 in
set_option maxRecDepth 100000 in
theorem c_Terms_readSale (l : Launch) (G : gg_T) (sz : Nat) (K : Nat → Nat) (V : Nat → Nat) (tm : Nat) (r0 : Nat) (r1 : Nat) (r2 : Nat) (r3 : Nat) (r4 : Nat) (t : Nat) (b : Nat) : Met l yX9_readSale (ts_L yX9_readSale cX9_readSale 4 (some .int)) ({ frames := 6, cells := 0, slots := 0, locals := 133 }) (gx_P G K V [(tm, .inr (9, [.int 0, .int 0, .int 0, .int 0, .ref r0, .ref r1, .ref r2, .ref r3, .ref r4])), (r2, .inl (G.2.2 0, 15, .inl (fun _ => 0))), (t, .inr (8, [.ref b, .int 0, .int 0, .int 0, .int 0]))] sz [.ref tm, .ref t]) (gc_I G (va_A [(tm, .inr (9, [.int 0, .int 0, .int 0, .int 0, .ref r0, .ref r1, .ref r2, .ref r3, .ref r4])), (r2, .inl (G.2.2 0, 15, .inl (fun _ => 0))), (t, .inr (8, [.ref b, .int 0, .int 0, .int 0, .int 0]))] sz) (fun r (_ : Unit) => r = 1) (fun _ => [])) 0 0 (va_A [(tm, .inr (9, [.int 0, .int 0, .int 0, .int 0, .ref r0, .ref r1, .ref r2, .ref r3, .ref r4])), (r2, .inl (G.2.2 0, 15, .inl (fun _ => 0))), (t, .inr (8, [.ref b, .int 0, .int 0, .int 0, .int 0]))] sz) := by
  refine Met.ofW (cc := cX9_readSale) (maxL := 4) (ret := (some .int)) (by decide) rfl ?_
  intro p e s m args below meth c s₁ B hml hv
  obtain ⟨rfl, hsz, hP, hK, hD0, hX⟩ := hv
  have hx := B.exec
  have hb := B.bytes
  have hr := B.returns
  have ht := ts_ht (atoms_spec (ws := ts_L yX9_readSale cX9_readSale 4 (some .int)) B.pre)
  have hown : s.vm.findClass RX9 = some m.cls := findClass_of_methodNamed B.named
  have hlocks := B.notSynchronized
  subst hsz
  have hD := hD0.self (sz := s.heap.size)
  generalize hAe : va_A [(tm, .inr (9, [.int 0, .int 0, .int 0, .int 0, .ref r0, .ref r1, .ref r2, .ref r3, .ref r4])), (r2, .inl (G.2.2 0, 15, .inl (fun _ => 0))), (t, .inr (8, [.ref b, .int 0, .int 0, .int 0, .int 0]))] s.heap.size = A at hD hX ⊢
  have hA : ∀ q : Nat, s.heap.size ≤ q → A q := fun q h => by rw [← hAe]; exact Or.inr h
  have hS : va_S A s.heap s.heap [] := va_S.rf
  have hl := lv_entry ([.ref tm, .ref t]) (n := 4) (Nat.le_of_ble_eq_true rfl)
  rw [lg_entry_eq]
  generalize (lg_sl ([.ref tm, .ref t]) ++ List.replicate (4 - (lg_sl ([.ref tm, .ref t])).length) Slot.unset).toArray = ls at hl ⊢
  have hl : lv_has ls 4 [(0, .ref tm), (1, .ref t)] := hl
  refine lv_aload_n hx hb dX9_readSale_0 rfl (lv_at hl 0 rfl) ?_
  refine lv_iconst (v := 0) hx hb dX9_readSale_1 (by decide) ?_
  refine gq_put (ws' := [(tm, .inr (9, [.int 0, .int 0, .int 0, .int 0, .ref r0, .ref r1, .ref r2, .ref r3, .ref r4])), (r2, .inl (G.2.2 0, 15, .inl (fun _ => 0))), (t, .inr (8, [.ref b, .int 0, .int 0, .int 0, .int 0]))]) hx hb ht hown hK hP hD hS i_X9 tyX9 tyX9_ok nmX9 0 rfl rfl 0 (by decide) wd_179 rfl rfl rfl rfl (Nat.le_of_ble_eq_true rfl) rfl dX9_readSale_2 (fun H locs hP hD hS => ?_)
  refine lv_aload_n hx hb dX9_readSale_5 rfl (lv_at hl 0 rfl) ?_
  refine lv_iconst (v := 0) hx hb dX9_readSale_6 (by decide) ?_
  refine gq_put (ws' := [(tm, .inr (9, [.int 0, .int 0, .int 0, .int 0, .ref r0, .ref r1, .ref r2, .ref r3, .ref r4])), (r2, .inl (G.2.2 0, 15, .inl (fun _ => 0))), (t, .inr (8, [.ref b, .int 0, .int 0, .int 0, .int 0]))]) hx hb ht hown hK hP hD hS i_X9 tyX9 tyX9_ok nmX9 0 rfl rfl 1 (by decide) wd_182 rfl rfl rfl rfl (Nat.le_of_ble_eq_true rfl) rfl dX9_readSale_7 (fun H locs hP hD hS => ?_)
  refine lv_aload_n hx hb dX9_readSale_10 rfl (lv_at hl 0 rfl) ?_
  refine lv_iconst (v := 0) hx hb dX9_readSale_11 (by decide) ?_
  refine gq_put (ws' := [(tm, .inr (9, [.int 0, .int 0, .int 0, .int 0, .ref r0, .ref r1, .ref r2, .ref r3, .ref r4])), (r2, .inl (G.2.2 0, 15, .inl (fun _ => 0))), (t, .inr (8, [.ref b, .int 0, .int 0, .int 0, .int 0]))]) hx hb ht hown hK hP hD hS i_X9 tyX9 tyX9_ok nmX9 0 rfl rfl 2 (by decide) wd_187 rfl rfl rfl rfl (Nat.le_of_ble_eq_true rfl) rfl dX9_readSale_12 (fun H locs hP hD hS => ?_)
  refine lv_aload_n hx hb dX9_readSale_15 rfl (lv_at hl 0 rfl) ?_
  refine lv_iconst (v := 0) hx hb dX9_readSale_16 (by decide) ?_
  refine gq_put (ws' := [(tm, .inr (9, [.int 0, .int 0, .int 0, .int 0, .ref r0, .ref r1, .ref r2, .ref r3, .ref r4])), (r2, .inl (G.2.2 0, 15, .inl (fun _ => 0))), (t, .inr (8, [.ref b, .int 0, .int 0, .int 0, .int 0]))]) hx hb ht hown hK hP hD hS i_X9 tyX9 tyX9_ok nmX9 0 rfl rfl 3 (by decide) wd_191 rfl rfl rfl rfl (Nat.le_of_ble_eq_true rfl) rfl dX9_readSale_17 (fun H locs hP hD hS => ?_)
  refine lv_iconst (v := 0) hx hb dX9_readSale_20 (by decide) ?_
  refine lv_istore_n (lv' := [(2, .int 0), (0, .ref tm), (1, .ref t)]) hx hb dX9_readSale_21 rfl hl (by decide) rfl (fun ls hl => ?_)
  refine lv_iload_n hx hb dX9_readSale_22 rfl (lv_at hl 0 rfl) ?_
  refine lv_aload_n hx hb dX9_readSale_23 rfl (lv_at hl 1 rfl) ?_
  refine gq_get hx hb ht hown hK hP i_X9 0 rfl rfl 6 (by decide) wd_198 rfl rfl dX9_readSale_24 ?_
  refine gq_alen hx hb hK hP 1 0 rfl rfl 15 (by decide +kernel) dX9_readSale_27 ?_
  refine lv_icmp_ge (tgt := 44) hx hb dX9_readSale_28 (by decide) (fun c0 => absurd c0 (by decide +kernel)) (fun _ => ?_)
  refine lv_aload_n hx hb dX9_readSale_31 rfl (lv_at hl 1 rfl) ?_
  refine gq_get hx hb ht hown hK hP i_X9 0 rfl rfl 6 (by decide) wd_198 rfl rfl dX9_readSale_32 ?_
  refine lv_iload_n hx hb dX9_readSale_35 rfl (lv_at hl 0 rfl) ?_
  refine lv_iconst (v := 0) hx hb dX9_readSale_36 (by decide) ?_
  refine gq_iast (ws' := [(tm, .inr (9, [.int 0, .int 0, .int 0, .int 0, .ref r0, .ref r1, .ref r2, .ref r3, .ref r4])), (r2, .inl (G.2.2 0, 15, .inl (fun _ => 0))), (t, .inr (8, [.ref b, .int 0, .int 0, .int 0, .int 0]))]) hx hb hK hP hD hS 1 rfl (fun _ => 0) (by unfold vp_in; decide +kernel) (up_z _ _) rfl dX9_readSale_37 (fun H locs hP hD hS => ?_)
  refine lv_iinc (v := 1) (lv' := [(2, .int 1), (0, .ref tm), (1, .ref t)]) hx hb dX9_readSale_38 hl (k := 0) rfl (by decide +kernel) (by decide) rfl (fun ls hl => ?_)
  refine lv_goto (tgt := 22) hx hb dX9_readSale_41 (by decide) ?_
  refine lv_iload_n hx hb dX9_readSale_22 rfl (lv_at hl 0 rfl) ?_
  refine lv_aload_n hx hb dX9_readSale_23 rfl (lv_at hl 1 rfl) ?_
  refine gq_get hx hb ht hown hK hP i_X9 0 rfl rfl 6 (by decide) wd_198 rfl rfl dX9_readSale_24 ?_
  refine gq_alen hx hb hK hP 1 0 rfl rfl 15 (by decide +kernel) dX9_readSale_27 ?_
  refine lv_icmp_ge (tgt := 44) hx hb dX9_readSale_28 (by decide) (fun c0 => absurd c0 (by decide +kernel)) (fun _ => ?_)
  refine lv_aload_n hx hb dX9_readSale_31 rfl (lv_at hl 1 rfl) ?_
  refine gq_get hx hb ht hown hK hP i_X9 0 rfl rfl 6 (by decide) wd_198 rfl rfl dX9_readSale_32 ?_
  refine lv_iload_n hx hb dX9_readSale_35 rfl (lv_at hl 0 rfl) ?_
  refine lv_iconst (v := 0) hx hb dX9_readSale_36 (by decide) ?_
  refine gq_iast (ws' := [(tm, .inr (9, [.int 0, .int 0, .int 0, .int 0, .ref r0, .ref r1, .ref r2, .ref r3, .ref r4])), (r2, .inl (G.2.2 0, 15, .inl (fun _ => 0))), (t, .inr (8, [.ref b, .int 0, .int 0, .int 0, .int 0]))]) hx hb hK hP hD hS 1 rfl (fun _ => 0) (by unfold vp_in; decide +kernel) (up_z _ _) rfl dX9_readSale_37 (fun H locs hP hD hS => ?_)
  refine lv_iinc (v := 2) (lv' := [(2, .int 2), (0, .ref tm), (1, .ref t)]) hx hb dX9_readSale_38 hl (k := 0) rfl (by decide +kernel) (by decide) rfl (fun ls hl => ?_)
  refine lv_goto (tgt := 22) hx hb dX9_readSale_41 (by decide) ?_
  refine lv_iload_n hx hb dX9_readSale_22 rfl (lv_at hl 0 rfl) ?_
  refine lv_aload_n hx hb dX9_readSale_23 rfl (lv_at hl 1 rfl) ?_
  refine gq_get hx hb ht hown hK hP i_X9 0 rfl rfl 6 (by decide) wd_198 rfl rfl dX9_readSale_24 ?_
  refine gq_alen hx hb hK hP 1 0 rfl rfl 15 (by decide +kernel) dX9_readSale_27 ?_
  refine lv_icmp_ge (tgt := 44) hx hb dX9_readSale_28 (by decide) (fun c0 => absurd c0 (by decide +kernel)) (fun _ => ?_)
  refine lv_aload_n hx hb dX9_readSale_31 rfl (lv_at hl 1 rfl) ?_
  refine gq_get hx hb ht hown hK hP i_X9 0 rfl rfl 6 (by decide) wd_198 rfl rfl dX9_readSale_32 ?_
  refine lv_iload_n hx hb dX9_readSale_35 rfl (lv_at hl 0 rfl) ?_
  refine lv_iconst (v := 0) hx hb dX9_readSale_36 (by decide) ?_
  refine gq_iast (ws' := [(tm, .inr (9, [.int 0, .int 0, .int 0, .int 0, .ref r0, .ref r1, .ref r2, .ref r3, .ref r4])), (r2, .inl (G.2.2 0, 15, .inl (fun _ => 0))), (t, .inr (8, [.ref b, .int 0, .int 0, .int 0, .int 0]))]) hx hb hK hP hD hS 1 rfl (fun _ => 0) (by unfold vp_in; decide +kernel) (up_z _ _) rfl dX9_readSale_37 (fun H locs hP hD hS => ?_)
  refine lv_iinc (v := 3) (lv' := [(2, .int 3), (0, .ref tm), (1, .ref t)]) hx hb dX9_readSale_38 hl (k := 0) rfl (by decide +kernel) (by decide) rfl (fun ls hl => ?_)
  refine lv_goto (tgt := 22) hx hb dX9_readSale_41 (by decide) ?_
  refine lv_iload_n hx hb dX9_readSale_22 rfl (lv_at hl 0 rfl) ?_
  refine lv_aload_n hx hb dX9_readSale_23 rfl (lv_at hl 1 rfl) ?_
  refine gq_get hx hb ht hown hK hP i_X9 0 rfl rfl 6 (by decide) wd_198 rfl rfl dX9_readSale_24 ?_
  refine gq_alen hx hb hK hP 1 0 rfl rfl 15 (by decide +kernel) dX9_readSale_27 ?_
  refine lv_icmp_ge (tgt := 44) hx hb dX9_readSale_28 (by decide) (fun c0 => absurd c0 (by decide +kernel)) (fun _ => ?_)
  refine lv_aload_n hx hb dX9_readSale_31 rfl (lv_at hl 1 rfl) ?_
  refine gq_get hx hb ht hown hK hP i_X9 0 rfl rfl 6 (by decide) wd_198 rfl rfl dX9_readSale_32 ?_
  refine lv_iload_n hx hb dX9_readSale_35 rfl (lv_at hl 0 rfl) ?_
  refine lv_iconst (v := 0) hx hb dX9_readSale_36 (by decide) ?_
  refine gq_iast (ws' := [(tm, .inr (9, [.int 0, .int 0, .int 0, .int 0, .ref r0, .ref r1, .ref r2, .ref r3, .ref r4])), (r2, .inl (G.2.2 0, 15, .inl (fun _ => 0))), (t, .inr (8, [.ref b, .int 0, .int 0, .int 0, .int 0]))]) hx hb hK hP hD hS 1 rfl (fun _ => 0) (by unfold vp_in; decide +kernel) (up_z _ _) rfl dX9_readSale_37 (fun H locs hP hD hS => ?_)
  refine lv_iinc (v := 4) (lv' := [(2, .int 4), (0, .ref tm), (1, .ref t)]) hx hb dX9_readSale_38 hl (k := 0) rfl (by decide +kernel) (by decide) rfl (fun ls hl => ?_)
  refine lv_goto (tgt := 22) hx hb dX9_readSale_41 (by decide) ?_
  refine lv_iload_n hx hb dX9_readSale_22 rfl (lv_at hl 0 rfl) ?_
  refine lv_aload_n hx hb dX9_readSale_23 rfl (lv_at hl 1 rfl) ?_
  refine gq_get hx hb ht hown hK hP i_X9 0 rfl rfl 6 (by decide) wd_198 rfl rfl dX9_readSale_24 ?_
  refine gq_alen hx hb hK hP 1 0 rfl rfl 15 (by decide +kernel) dX9_readSale_27 ?_
  refine lv_icmp_ge (tgt := 44) hx hb dX9_readSale_28 (by decide) (fun c0 => absurd c0 (by decide +kernel)) (fun _ => ?_)
  refine lv_aload_n hx hb dX9_readSale_31 rfl (lv_at hl 1 rfl) ?_
  refine gq_get hx hb ht hown hK hP i_X9 0 rfl rfl 6 (by decide) wd_198 rfl rfl dX9_readSale_32 ?_
  refine lv_iload_n hx hb dX9_readSale_35 rfl (lv_at hl 0 rfl) ?_
  refine lv_iconst (v := 0) hx hb dX9_readSale_36 (by decide) ?_
  refine gq_iast (ws' := [(tm, .inr (9, [.int 0, .int 0, .int 0, .int 0, .ref r0, .ref r1, .ref r2, .ref r3, .ref r4])), (r2, .inl (G.2.2 0, 15, .inl (fun _ => 0))), (t, .inr (8, [.ref b, .int 0, .int 0, .int 0, .int 0]))]) hx hb hK hP hD hS 1 rfl (fun _ => 0) (by unfold vp_in; decide +kernel) (up_z _ _) rfl dX9_readSale_37 (fun H locs hP hD hS => ?_)
  refine lv_iinc (v := 5) (lv' := [(2, .int 5), (0, .ref tm), (1, .ref t)]) hx hb dX9_readSale_38 hl (k := 0) rfl (by decide +kernel) (by decide) rfl (fun ls hl => ?_)
  refine lv_goto (tgt := 22) hx hb dX9_readSale_41 (by decide) ?_
  refine lv_iload_n hx hb dX9_readSale_22 rfl (lv_at hl 0 rfl) ?_
  refine lv_aload_n hx hb dX9_readSale_23 rfl (lv_at hl 1 rfl) ?_
  refine gq_get hx hb ht hown hK hP i_X9 0 rfl rfl 6 (by decide) wd_198 rfl rfl dX9_readSale_24 ?_
  refine gq_alen hx hb hK hP 1 0 rfl rfl 15 (by decide +kernel) dX9_readSale_27 ?_
  refine lv_icmp_ge (tgt := 44) hx hb dX9_readSale_28 (by decide) (fun c0 => absurd c0 (by decide +kernel)) (fun _ => ?_)
  refine lv_aload_n hx hb dX9_readSale_31 rfl (lv_at hl 1 rfl) ?_
  refine gq_get hx hb ht hown hK hP i_X9 0 rfl rfl 6 (by decide) wd_198 rfl rfl dX9_readSale_32 ?_
  refine lv_iload_n hx hb dX9_readSale_35 rfl (lv_at hl 0 rfl) ?_
  refine lv_iconst (v := 0) hx hb dX9_readSale_36 (by decide) ?_
  refine gq_iast (ws' := [(tm, .inr (9, [.int 0, .int 0, .int 0, .int 0, .ref r0, .ref r1, .ref r2, .ref r3, .ref r4])), (r2, .inl (G.2.2 0, 15, .inl (fun _ => 0))), (t, .inr (8, [.ref b, .int 0, .int 0, .int 0, .int 0]))]) hx hb hK hP hD hS 1 rfl (fun _ => 0) (by unfold vp_in; decide +kernel) (up_z _ _) rfl dX9_readSale_37 (fun H locs hP hD hS => ?_)
  refine lv_iinc (v := 6) (lv' := [(2, .int 6), (0, .ref tm), (1, .ref t)]) hx hb dX9_readSale_38 hl (k := 0) rfl (by decide +kernel) (by decide) rfl (fun ls hl => ?_)
  refine lv_goto (tgt := 22) hx hb dX9_readSale_41 (by decide) ?_
  refine lv_iload_n hx hb dX9_readSale_22 rfl (lv_at hl 0 rfl) ?_
  refine lv_aload_n hx hb dX9_readSale_23 rfl (lv_at hl 1 rfl) ?_
  refine gq_get hx hb ht hown hK hP i_X9 0 rfl rfl 6 (by decide) wd_198 rfl rfl dX9_readSale_24 ?_
  refine gq_alen hx hb hK hP 1 0 rfl rfl 15 (by decide +kernel) dX9_readSale_27 ?_
  refine lv_icmp_ge (tgt := 44) hx hb dX9_readSale_28 (by decide) (fun c0 => absurd c0 (by decide +kernel)) (fun _ => ?_)
  refine lv_aload_n hx hb dX9_readSale_31 rfl (lv_at hl 1 rfl) ?_
  refine gq_get hx hb ht hown hK hP i_X9 0 rfl rfl 6 (by decide) wd_198 rfl rfl dX9_readSale_32 ?_
  refine lv_iload_n hx hb dX9_readSale_35 rfl (lv_at hl 0 rfl) ?_
  refine lv_iconst (v := 0) hx hb dX9_readSale_36 (by decide) ?_
  refine gq_iast (ws' := [(tm, .inr (9, [.int 0, .int 0, .int 0, .int 0, .ref r0, .ref r1, .ref r2, .ref r3, .ref r4])), (r2, .inl (G.2.2 0, 15, .inl (fun _ => 0))), (t, .inr (8, [.ref b, .int 0, .int 0, .int 0, .int 0]))]) hx hb hK hP hD hS 1 rfl (fun _ => 0) (by unfold vp_in; decide +kernel) (up_z _ _) rfl dX9_readSale_37 (fun H locs hP hD hS => ?_)
  refine lv_iinc (v := 7) (lv' := [(2, .int 7), (0, .ref tm), (1, .ref t)]) hx hb dX9_readSale_38 hl (k := 0) rfl (by decide +kernel) (by decide) rfl (fun ls hl => ?_)
  refine lv_goto (tgt := 22) hx hb dX9_readSale_41 (by decide) ?_
  refine lv_iload_n hx hb dX9_readSale_22 rfl (lv_at hl 0 rfl) ?_
  refine lv_aload_n hx hb dX9_readSale_23 rfl (lv_at hl 1 rfl) ?_
  refine gq_get hx hb ht hown hK hP i_X9 0 rfl rfl 6 (by decide) wd_198 rfl rfl dX9_readSale_24 ?_
  refine gq_alen hx hb hK hP 1 0 rfl rfl 15 (by decide +kernel) dX9_readSale_27 ?_
  refine lv_icmp_ge (tgt := 44) hx hb dX9_readSale_28 (by decide) (fun c0 => absurd c0 (by decide +kernel)) (fun _ => ?_)
  refine lv_aload_n hx hb dX9_readSale_31 rfl (lv_at hl 1 rfl) ?_
  refine gq_get hx hb ht hown hK hP i_X9 0 rfl rfl 6 (by decide) wd_198 rfl rfl dX9_readSale_32 ?_
  refine lv_iload_n hx hb dX9_readSale_35 rfl (lv_at hl 0 rfl) ?_
  refine lv_iconst (v := 0) hx hb dX9_readSale_36 (by decide) ?_
  refine gq_iast (ws' := [(tm, .inr (9, [.int 0, .int 0, .int 0, .int 0, .ref r0, .ref r1, .ref r2, .ref r3, .ref r4])), (r2, .inl (G.2.2 0, 15, .inl (fun _ => 0))), (t, .inr (8, [.ref b, .int 0, .int 0, .int 0, .int 0]))]) hx hb hK hP hD hS 1 rfl (fun _ => 0) (by unfold vp_in; decide +kernel) (up_z _ _) rfl dX9_readSale_37 (fun H locs hP hD hS => ?_)
  refine lv_iinc (v := 8) (lv' := [(2, .int 8), (0, .ref tm), (1, .ref t)]) hx hb dX9_readSale_38 hl (k := 0) rfl (by decide +kernel) (by decide) rfl (fun ls hl => ?_)
  refine lv_goto (tgt := 22) hx hb dX9_readSale_41 (by decide) ?_
  refine lv_iload_n hx hb dX9_readSale_22 rfl (lv_at hl 0 rfl) ?_
  refine lv_aload_n hx hb dX9_readSale_23 rfl (lv_at hl 1 rfl) ?_
  refine gq_get hx hb ht hown hK hP i_X9 0 rfl rfl 6 (by decide) wd_198 rfl rfl dX9_readSale_24 ?_
  refine gq_alen hx hb hK hP 1 0 rfl rfl 15 (by decide +kernel) dX9_readSale_27 ?_
  refine lv_icmp_ge (tgt := 44) hx hb dX9_readSale_28 (by decide) (fun c0 => absurd c0 (by decide +kernel)) (fun _ => ?_)
  refine lv_aload_n hx hb dX9_readSale_31 rfl (lv_at hl 1 rfl) ?_
  refine gq_get hx hb ht hown hK hP i_X9 0 rfl rfl 6 (by decide) wd_198 rfl rfl dX9_readSale_32 ?_
  refine lv_iload_n hx hb dX9_readSale_35 rfl (lv_at hl 0 rfl) ?_
  refine lv_iconst (v := 0) hx hb dX9_readSale_36 (by decide) ?_
  refine gq_iast (ws' := [(tm, .inr (9, [.int 0, .int 0, .int 0, .int 0, .ref r0, .ref r1, .ref r2, .ref r3, .ref r4])), (r2, .inl (G.2.2 0, 15, .inl (fun _ => 0))), (t, .inr (8, [.ref b, .int 0, .int 0, .int 0, .int 0]))]) hx hb hK hP hD hS 1 rfl (fun _ => 0) (by unfold vp_in; decide +kernel) (up_z _ _) rfl dX9_readSale_37 (fun H locs hP hD hS => ?_)
  refine lv_iinc (v := 9) (lv' := [(2, .int 9), (0, .ref tm), (1, .ref t)]) hx hb dX9_readSale_38 hl (k := 0) rfl (by decide +kernel) (by decide) rfl (fun ls hl => ?_)
  refine lv_goto (tgt := 22) hx hb dX9_readSale_41 (by decide) ?_
  refine lv_iload_n hx hb dX9_readSale_22 rfl (lv_at hl 0 rfl) ?_
  refine lv_aload_n hx hb dX9_readSale_23 rfl (lv_at hl 1 rfl) ?_
  refine gq_get hx hb ht hown hK hP i_X9 0 rfl rfl 6 (by decide) wd_198 rfl rfl dX9_readSale_24 ?_
  refine gq_alen hx hb hK hP 1 0 rfl rfl 15 (by decide +kernel) dX9_readSale_27 ?_
  refine lv_icmp_ge (tgt := 44) hx hb dX9_readSale_28 (by decide) (fun c0 => absurd c0 (by decide +kernel)) (fun _ => ?_)
  refine lv_aload_n hx hb dX9_readSale_31 rfl (lv_at hl 1 rfl) ?_
  refine gq_get hx hb ht hown hK hP i_X9 0 rfl rfl 6 (by decide) wd_198 rfl rfl dX9_readSale_32 ?_
  refine lv_iload_n hx hb dX9_readSale_35 rfl (lv_at hl 0 rfl) ?_
  refine lv_iconst (v := 0) hx hb dX9_readSale_36 (by decide) ?_
  refine gq_iast (ws' := [(tm, .inr (9, [.int 0, .int 0, .int 0, .int 0, .ref r0, .ref r1, .ref r2, .ref r3, .ref r4])), (r2, .inl (G.2.2 0, 15, .inl (fun _ => 0))), (t, .inr (8, [.ref b, .int 0, .int 0, .int 0, .int 0]))]) hx hb hK hP hD hS 1 rfl (fun _ => 0) (by unfold vp_in; decide +kernel) (up_z _ _) rfl dX9_readSale_37 (fun H locs hP hD hS => ?_)
  refine lv_iinc (v := 10) (lv' := [(2, .int 10), (0, .ref tm), (1, .ref t)]) hx hb dX9_readSale_38 hl (k := 0) rfl (by decide +kernel) (by decide) rfl (fun ls hl => ?_)
  refine lv_goto (tgt := 22) hx hb dX9_readSale_41 (by decide) ?_
  refine lv_iload_n hx hb dX9_readSale_22 rfl (lv_at hl 0 rfl) ?_
  refine lv_aload_n hx hb dX9_readSale_23 rfl (lv_at hl 1 rfl) ?_
  refine gq_get hx hb ht hown hK hP i_X9 0 rfl rfl 6 (by decide) wd_198 rfl rfl dX9_readSale_24 ?_
  refine gq_alen hx hb hK hP 1 0 rfl rfl 15 (by decide +kernel) dX9_readSale_27 ?_
  refine lv_icmp_ge (tgt := 44) hx hb dX9_readSale_28 (by decide) (fun c0 => absurd c0 (by decide +kernel)) (fun _ => ?_)
  refine lv_aload_n hx hb dX9_readSale_31 rfl (lv_at hl 1 rfl) ?_
  refine gq_get hx hb ht hown hK hP i_X9 0 rfl rfl 6 (by decide) wd_198 rfl rfl dX9_readSale_32 ?_
  refine lv_iload_n hx hb dX9_readSale_35 rfl (lv_at hl 0 rfl) ?_
  refine lv_iconst (v := 0) hx hb dX9_readSale_36 (by decide) ?_
  refine gq_iast (ws' := [(tm, .inr (9, [.int 0, .int 0, .int 0, .int 0, .ref r0, .ref r1, .ref r2, .ref r3, .ref r4])), (r2, .inl (G.2.2 0, 15, .inl (fun _ => 0))), (t, .inr (8, [.ref b, .int 0, .int 0, .int 0, .int 0]))]) hx hb hK hP hD hS 1 rfl (fun _ => 0) (by unfold vp_in; decide +kernel) (up_z _ _) rfl dX9_readSale_37 (fun H locs hP hD hS => ?_)
  refine lv_iinc (v := 11) (lv' := [(2, .int 11), (0, .ref tm), (1, .ref t)]) hx hb dX9_readSale_38 hl (k := 0) rfl (by decide +kernel) (by decide) rfl (fun ls hl => ?_)
  refine lv_goto (tgt := 22) hx hb dX9_readSale_41 (by decide) ?_
  refine lv_iload_n hx hb dX9_readSale_22 rfl (lv_at hl 0 rfl) ?_
  refine lv_aload_n hx hb dX9_readSale_23 rfl (lv_at hl 1 rfl) ?_
  refine gq_get hx hb ht hown hK hP i_X9 0 rfl rfl 6 (by decide) wd_198 rfl rfl dX9_readSale_24 ?_
  refine gq_alen hx hb hK hP 1 0 rfl rfl 15 (by decide +kernel) dX9_readSale_27 ?_
  refine lv_icmp_ge (tgt := 44) hx hb dX9_readSale_28 (by decide) (fun c0 => absurd c0 (by decide +kernel)) (fun _ => ?_)
  refine lv_aload_n hx hb dX9_readSale_31 rfl (lv_at hl 1 rfl) ?_
  refine gq_get hx hb ht hown hK hP i_X9 0 rfl rfl 6 (by decide) wd_198 rfl rfl dX9_readSale_32 ?_
  refine lv_iload_n hx hb dX9_readSale_35 rfl (lv_at hl 0 rfl) ?_
  refine lv_iconst (v := 0) hx hb dX9_readSale_36 (by decide) ?_
  refine gq_iast (ws' := [(tm, .inr (9, [.int 0, .int 0, .int 0, .int 0, .ref r0, .ref r1, .ref r2, .ref r3, .ref r4])), (r2, .inl (G.2.2 0, 15, .inl (fun _ => 0))), (t, .inr (8, [.ref b, .int 0, .int 0, .int 0, .int 0]))]) hx hb hK hP hD hS 1 rfl (fun _ => 0) (by unfold vp_in; decide +kernel) (up_z _ _) rfl dX9_readSale_37 (fun H locs hP hD hS => ?_)
  refine lv_iinc (v := 12) (lv' := [(2, .int 12), (0, .ref tm), (1, .ref t)]) hx hb dX9_readSale_38 hl (k := 0) rfl (by decide +kernel) (by decide) rfl (fun ls hl => ?_)
  refine lv_goto (tgt := 22) hx hb dX9_readSale_41 (by decide) ?_
  refine lv_iload_n hx hb dX9_readSale_22 rfl (lv_at hl 0 rfl) ?_
  refine lv_aload_n hx hb dX9_readSale_23 rfl (lv_at hl 1 rfl) ?_
  refine gq_get hx hb ht hown hK hP i_X9 0 rfl rfl 6 (by decide) wd_198 rfl rfl dX9_readSale_24 ?_
  refine gq_alen hx hb hK hP 1 0 rfl rfl 15 (by decide +kernel) dX9_readSale_27 ?_
  refine lv_icmp_ge (tgt := 44) hx hb dX9_readSale_28 (by decide) (fun c0 => absurd c0 (by decide +kernel)) (fun _ => ?_)
  refine lv_aload_n hx hb dX9_readSale_31 rfl (lv_at hl 1 rfl) ?_
  refine gq_get hx hb ht hown hK hP i_X9 0 rfl rfl 6 (by decide) wd_198 rfl rfl dX9_readSale_32 ?_
  refine lv_iload_n hx hb dX9_readSale_35 rfl (lv_at hl 0 rfl) ?_
  refine lv_iconst (v := 0) hx hb dX9_readSale_36 (by decide) ?_
  refine gq_iast (ws' := [(tm, .inr (9, [.int 0, .int 0, .int 0, .int 0, .ref r0, .ref r1, .ref r2, .ref r3, .ref r4])), (r2, .inl (G.2.2 0, 15, .inl (fun _ => 0))), (t, .inr (8, [.ref b, .int 0, .int 0, .int 0, .int 0]))]) hx hb hK hP hD hS 1 rfl (fun _ => 0) (by unfold vp_in; decide +kernel) (up_z _ _) rfl dX9_readSale_37 (fun H locs hP hD hS => ?_)
  refine lv_iinc (v := 13) (lv' := [(2, .int 13), (0, .ref tm), (1, .ref t)]) hx hb dX9_readSale_38 hl (k := 0) rfl (by decide +kernel) (by decide) rfl (fun ls hl => ?_)
  refine lv_goto (tgt := 22) hx hb dX9_readSale_41 (by decide) ?_
  refine lv_iload_n hx hb dX9_readSale_22 rfl (lv_at hl 0 rfl) ?_
  refine lv_aload_n hx hb dX9_readSale_23 rfl (lv_at hl 1 rfl) ?_
  refine gq_get hx hb ht hown hK hP i_X9 0 rfl rfl 6 (by decide) wd_198 rfl rfl dX9_readSale_24 ?_
  refine gq_alen hx hb hK hP 1 0 rfl rfl 15 (by decide +kernel) dX9_readSale_27 ?_
  refine lv_icmp_ge (tgt := 44) hx hb dX9_readSale_28 (by decide) (fun c0 => absurd c0 (by decide +kernel)) (fun _ => ?_)
  refine lv_aload_n hx hb dX9_readSale_31 rfl (lv_at hl 1 rfl) ?_
  refine gq_get hx hb ht hown hK hP i_X9 0 rfl rfl 6 (by decide) wd_198 rfl rfl dX9_readSale_32 ?_
  refine lv_iload_n hx hb dX9_readSale_35 rfl (lv_at hl 0 rfl) ?_
  refine lv_iconst (v := 0) hx hb dX9_readSale_36 (by decide) ?_
  refine gq_iast (ws' := [(tm, .inr (9, [.int 0, .int 0, .int 0, .int 0, .ref r0, .ref r1, .ref r2, .ref r3, .ref r4])), (r2, .inl (G.2.2 0, 15, .inl (fun _ => 0))), (t, .inr (8, [.ref b, .int 0, .int 0, .int 0, .int 0]))]) hx hb hK hP hD hS 1 rfl (fun _ => 0) (by unfold vp_in; decide +kernel) (up_z _ _) rfl dX9_readSale_37 (fun H locs hP hD hS => ?_)
  refine lv_iinc (v := 14) (lv' := [(2, .int 14), (0, .ref tm), (1, .ref t)]) hx hb dX9_readSale_38 hl (k := 0) rfl (by decide +kernel) (by decide) rfl (fun ls hl => ?_)
  refine lv_goto (tgt := 22) hx hb dX9_readSale_41 (by decide) ?_
  refine lv_iload_n hx hb dX9_readSale_22 rfl (lv_at hl 0 rfl) ?_
  refine lv_aload_n hx hb dX9_readSale_23 rfl (lv_at hl 1 rfl) ?_
  refine gq_get hx hb ht hown hK hP i_X9 0 rfl rfl 6 (by decide) wd_198 rfl rfl dX9_readSale_24 ?_
  refine gq_alen hx hb hK hP 1 0 rfl rfl 15 (by decide +kernel) dX9_readSale_27 ?_
  refine lv_icmp_ge (tgt := 44) hx hb dX9_readSale_28 (by decide) (fun c0 => absurd c0 (by decide +kernel)) (fun _ => ?_)
  refine lv_aload_n hx hb dX9_readSale_31 rfl (lv_at hl 1 rfl) ?_
  refine gq_get hx hb ht hown hK hP i_X9 0 rfl rfl 6 (by decide) wd_198 rfl rfl dX9_readSale_32 ?_
  refine lv_iload_n hx hb dX9_readSale_35 rfl (lv_at hl 0 rfl) ?_
  refine lv_iconst (v := 0) hx hb dX9_readSale_36 (by decide) ?_
  refine gq_iast (ws' := [(tm, .inr (9, [.int 0, .int 0, .int 0, .int 0, .ref r0, .ref r1, .ref r2, .ref r3, .ref r4])), (r2, .inl (G.2.2 0, 15, .inl (fun _ => 0))), (t, .inr (8, [.ref b, .int 0, .int 0, .int 0, .int 0]))]) hx hb hK hP hD hS 1 rfl (fun _ => 0) (by unfold vp_in; decide +kernel) (up_z _ _) rfl dX9_readSale_37 (fun H locs hP hD hS => ?_)
  refine lv_iinc (v := 15) (lv' := [(2, .int 15), (0, .ref tm), (1, .ref t)]) hx hb dX9_readSale_38 hl (k := 0) rfl (by decide +kernel) (by decide) rfl (fun ls hl => ?_)
  refine lv_goto (tgt := 22) hx hb dX9_readSale_41 (by decide) ?_
  refine lv_iload_n hx hb dX9_readSale_22 rfl (lv_at hl 0 rfl) ?_
  refine lv_aload_n hx hb dX9_readSale_23 rfl (lv_at hl 1 rfl) ?_
  refine gq_get hx hb ht hown hK hP i_X9 0 rfl rfl 6 (by decide) wd_198 rfl rfl dX9_readSale_24 ?_
  refine gq_alen hx hb hK hP 1 0 rfl rfl 15 (by decide +kernel) dX9_readSale_27 ?_
  refine lv_icmp_ge (tgt := 44) hx hb dX9_readSale_28 (by decide) (fun _ => ?_) (fun c0 => absurd (by decide +kernel) c0)
  refine lv_aload_n hx hb dX9_readSale_44 rfl (lv_at hl 2 rfl) ?_
  have hPc := hP.sub (ws' := [(t, .inr (8, [.ref b, .int 0, .int 0, .int 0, .int 0]))]) [2] rfl
  have hDc := hD.sub (ws' := [(t, .inr (8, [.ref b, .int 0, .int 0, .int 0, .int 0]))]) [2] (by decide) rfl
  refine gq_callV (wr := [(tm, .inr (9, [.int 0, .int 0, .int 0, .int 0, .ref r0, .ref r1, .ref r2, .ref r3, .ref r4])), (r2, .inl (G.2.2 0, 15, .inl (fun _ => 0)))]) (va_runV (As := []) (rest := []) ⟨hx, hb, hml, hown, ht⟩ (c_Tape_rewind l G H.size t b 0 0 0) (cwV 0 ht (ts_gV wd_574 wd_575 wd_576 wd_123 wd_577) rfl rfl rfl (by decide +kernel) ⟨Nat.le_of_ble_eq_true rfl, Nat.le_of_ble_eq_true rfl⟩) (gc_preV (ci := 8) (q0 := 0) hK hPc hDc rfl rfl) rfl rfl hl.1 rfl (lv_room (Nat.le_of_ble_eq_true rfl)) dX9_readSale_45 ⟨Nat.le_of_ble_eq_true rfl, Nat.le_of_ble_eq_true rfl⟩) hP hD hS hA [2] [0, 1] rfl rfl (by decide) (by decide) (fun u H locs hw hP hD hS => ?_)
  have hP : va_P (gg_D G) classes [(tm, .inr (9, [.int 0, .int 0, .int 0, .int 0, .ref r0, .ref r1, .ref r2, .ref r3, .ref r4])), (r2, .inl (G.2.2 0, 15, .inl (fun _ => 0))), (t, .inr (8, [.ref b, .int 0, .int 0, .int 0, .int 0]))] H := hP
  have hD : va_D A [(tm, .inr (9, [.int 0, .int 0, .int 0, .int 0, .ref r0, .ref r1, .ref r2, .ref r3, .ref r4])), (r2, .inl (G.2.2 0, 15, .inl (fun _ => 0))), (t, .inr (8, [.ref b, .int 0, .int 0, .int 0, .int 0]))] := hD
  refine lv_iconst (v := 1) hx hb dX9_readSale_48 (by decide) ?_
  refine lv_istore_n (lv' := [(2, .int 1), (0, .ref tm), (1, .ref t)]) hx hb dX9_readSale_49 rfl hl (by decide) rfl (fun ls hl => ?_)
  refine lv_iconst (v := 0) hx hb dX9_readSale_50 (by decide) ?_
  refine lv_istore_n (lv' := [(3, .int 0), (2, .int 1), (0, .ref tm), (1, .ref t)]) hx hb dX9_readSale_51 rfl hl (by decide) rfl (fun ls hl => ?_)
  refine lv_iload_n hx hb dX9_readSale_52 rfl (lv_at hl 1 rfl) ?_
  refine lv_if_eq (tgt := 90) hx hb dX9_readSale_53 (by decide) (fun c0 => absurd c0 (by decide +kernel)) (fun _ => ?_)
  refine lv_iload_n hx hb dX9_readSale_56 rfl (lv_at hl 0 rfl) ?_
  refine lv_bipush (v := 40) hx hb dX9_readSale_57 (by decide +kernel) ?_
  refine lv_icmp_gt (tgt := 90) hx hb dX9_readSale_59 (by decide) (fun c0 => absurd c0 (by decide +kernel)) (fun _ => ?_)
  refine lv_aload_n hx hb dX9_readSale_62 rfl (lv_at hl 2 rfl) ?_
  refine lv_aload_n hx hb dX9_readSale_63 rfl (lv_at hl 3 rfl) ?_
  refine lv_iload_n hx hb dX9_readSale_64 rfl (lv_at hl 0 rfl) ?_
  have hPc := hP.sub (ws' := [(tm, .inr (9, [.int 0, .int 0, .int 0, .int 0, .ref r0, .ref r1, .ref r2, .ref r3, .ref r4])), (t, .inr (8, [.ref b, .int 0, .int 0, .int 0, .int 0]))]) [0, 2] rfl
  have hDc := hD.sub (ws' := [(tm, .inr (9, [.int 0, .int 0, .int 0, .int 0, .ref r0, .ref r1, .ref r2, .ref r3, .ref r4])), (t, .inr (8, [.ref b, .int 0, .int 0, .int 0, .int 0]))]) [0, 2] (by decide) rfl
  refine gq_callI (wr := [(r2, .inl (G.2.2 0, 15, .inl (fun _ => 0)))]) (va_runV (As := [.ref t, .int 0]) (rest := []) ⟨hx, hb, hml, hown, ht⟩ (c_Terms_readClause l G H.size K V tm r0 r1 r2 r3 r4 t b) (cwV 2 ht (ts_gV wd_582 wd_584 wd_1 wd_124 wd_585) rfl rfl rfl (by decide +kernel) ⟨Nat.le_of_ble_eq_true rfl, Nat.le_of_ble_eq_true rfl⟩) (gx_preV (ci := 9) (q0 := 0) hK hPc hDc hX hS (va_free hD hS hA [0, 2] rfl) rfl rfl) rfl rfl hl.1 rfl (lv_room (Nat.le_of_ble_eq_true rfl)) dX9_readSale_65 ⟨Nat.le_of_ble_eq_true rfl, Nat.le_of_ble_eq_true rfl⟩) hP hD hS hA [0, 2] [1] rfl rfl (by decide) (by decide) (fun r u H locs hw hP hD hS => ?_)
  have hw : r = 0 := hw
  subst hw
  have hP : va_P (gg_D G) classes [(r2, .inl (G.2.2 0, 15, .inl (fun _ => 0))), (tm, .inr (9, [.int 0, .int 0, .int 0, .int 0, .ref r0, .ref r1, .ref r2, .ref r3, .ref r4])), (t, .inr (8, [.ref b, .int 0, .int 0, .int 0, .int 1]))] H := hP
  have hD : va_D A [(r2, .inl (G.2.2 0, 15, .inl (fun _ => 0))), (tm, .inr (9, [.int 0, .int 0, .int 0, .int 0, .ref r0, .ref r1, .ref r2, .ref r3, .ref r4])), (t, .inr (8, [.ref b, .int 0, .int 0, .int 0, .int 1]))] := hD
  refine lv_if_eq (tgt := 82) hx hb dX9_readSale_68 (by decide) (fun _ => ?_) (fun c0 => absurd (by decide +kernel) c0)
  refine lv_iconst (v := 0) hx hb dX9_readSale_82 (by decide) ?_
  refine lv_istore_n (lv' := [(2, .int 0), (3, .int 0), (0, .ref tm), (1, .ref t)]) hx hb dX9_readSale_83 rfl hl (by decide) rfl (fun ls hl => ?_)
  refine lv_iinc (v := 1) (lv' := [(3, .int 1), (2, .int 0), (0, .ref tm), (1, .ref t)]) hx hb dX9_readSale_84 hl (k := 1) rfl (by decide +kernel) (by decide) rfl (fun ls hl => ?_)
  refine lv_goto (tgt := 52) hx hb dX9_readSale_87 (by decide) ?_
  refine lv_iload_n hx hb dX9_readSale_52 rfl (lv_at hl 1 rfl) ?_
  refine lv_if_eq (tgt := 90) hx hb dX9_readSale_53 (by decide) (fun _ => ?_) (fun c0 => absurd (by decide +kernel) c0)
  refine lv_aload_n hx hb dX9_readSale_90 rfl (lv_at hl 3 rfl) ?_
  have hPc := hP.sub (ws' := [(t, .inr (8, [.ref b, .int 0, .int 0, .int 0, .int 1]))]) [2] rfl
  have hDc := hD.sub (ws' := [(t, .inr (8, [.ref b, .int 0, .int 0, .int 0, .int 1]))]) [2] (by decide) rfl
  refine gq_callI (wr := [(r2, .inl (G.2.2 0, 15, .inl (fun _ => 0))), (tm, .inr (9, [.int 0, .int 0, .int 0, .int 0, .ref r0, .ref r1, .ref r2, .ref r3, .ref r4]))]) (va_runV (As := []) (rest := []) ⟨hx, hb, hml, hown, ht⟩ (c_Tape_firstFault l G H.size t b 0 0 0 1) (cwV 0 ht (ts_gV wd_684 wd_685 wd_686 wd_123 wd_687) rfl rfl rfl (by decide +kernel) ⟨Nat.le_of_ble_eq_true rfl, Nat.le_of_ble_eq_true rfl⟩) (gc_preV (ci := 8) (q0 := 0) hK hPc hDc rfl rfl) rfl rfl hl.1 rfl (lv_room (Nat.le_of_ble_eq_true rfl)) dX9_readSale_91 ⟨Nat.le_of_ble_eq_true rfl, Nat.le_of_ble_eq_true rfl⟩) hP hD hS hA [2] [0, 1] rfl rfl (by decide) (by decide) (fun r u H locs hw hP hD hS => ?_)
  have hw : r = 1 := hw
  subst hw
  have hP : va_P (gg_D G) classes [(r2, .inl (G.2.2 0, 15, .inl (fun _ => 0))), (tm, .inr (9, [.int 0, .int 0, .int 0, .int 0, .ref r0, .ref r1, .ref r2, .ref r3, .ref r4])), (t, .inr (8, [.ref b, .int 0, .int 0, .int 0, .int 1]))] H := hP
  have hD : va_D A [(r2, .inl (G.2.2 0, 15, .inl (fun _ => 0))), (tm, .inr (9, [.int 0, .int 0, .int 0, .int 0, .ref r0, .ref r1, .ref r2, .ref r3, .ref r4])), (t, .inr (8, [.ref b, .int 0, .int 0, .int 0, .int 1]))] := hD
  have hP9 := hP.sub (ws' := []) [] rfl
  have hD9 := hD.sub (ws' := []) [] (by decide) rfl
  exact W.iret (v := 1) hx hb hr (gq_endI () rfl hP9 hD9 hS) hS.2.2 dX9_readSale_94
set_option maxHeartbeats 4000000 in
set_option maxRecDepth 100000 in
theorem c_Rule_readHead (l : Launch) (G : gg_T) (sz : Nat) (K : Nat → Nat) (V : Nat → Nat) (t : Nat) (b : Nat) : Met l yX4_readHead (ts_L yX4_readHead cX4_readHead 2 (some .boolean)) ({ frames := 5, cells := 0, slots := 0, locals := 110 }) (gx_P G K V [(t, .inr (8, [.ref b, .int 0, .int 0, .int 0, .int 0]))] sz [.ref t, .int 0]) (gc_I G (va_A [(t, .inr (8, [.ref b, .int 0, .int 0, .int 0, .int 0]))] sz) (fun r (_ : Unit) => r = 0) (fun _ => [(t, .inr (8, [.ref b, .int 0, .int 0, .int 0, .int 1]))])) 0 0 (va_A [(t, .inr (8, [.ref b, .int 0, .int 0, .int 0, .int 0]))] sz) := by
  refine Met.ofW (cc := cX4_readHead) (maxL := 2) (ret := (some .boolean)) (by decide) rfl ?_
  intro p e s m args below meth c s₁ B hml hv
  obtain ⟨rfl, hsz, hP, hK, hD0, hX⟩ := hv
  have hx := B.exec
  have hb := B.bytes
  have hr := B.returns
  have ht := ts_ht (atoms_spec (ws := ts_L yX4_readHead cX4_readHead 2 (some .boolean)) B.pre)
  have hown : s.vm.findClass RX4 = some m.cls := findClass_of_methodNamed B.named
  have hlocks := B.notSynchronized
  subst hsz
  have hD := hD0.self (sz := s.heap.size)
  generalize hAe : va_A [(t, .inr (8, [.ref b, .int 0, .int 0, .int 0, .int 0]))] s.heap.size = A at hD hX ⊢
  have hA : ∀ q : Nat, s.heap.size ≤ q → A q := fun q h => by rw [← hAe]; exact Or.inr h
  have hS : va_S A s.heap s.heap [] := va_S.rf
  have hl := lv_entry ([.ref t, .int 0]) (n := 2) (Nat.le_of_ble_eq_true rfl)
  rw [lg_entry_eq]
  generalize (lg_sl ([.ref t, .int 0]) ++ List.replicate (2 - (lg_sl ([.ref t, .int 0])).length) Slot.unset).toArray = ls at hl ⊢
  have hl : lv_has ls 2 [(0, .ref t), (1, .int 0)] := hl
  refine lv_aload_n hx hb dX4_readHead_0 rfl (lv_at hl 0 rfl) ?_
  refine va_ldcS hx hb hown hX.2.2.2.2 dX4_readHead_1 ?_
  have hPc := hP.sub (ws' := [(t, .inr (8, [.ref b, .int 0, .int 0, .int 0, .int 0]))]) [0] rfl
  have hDc := hD.sub (ws' := [(t, .inr (8, [.ref b, .int 0, .int 0, .int 0, .int 0]))]) [0] (by decide) rfl
  refine gq_callI (wr := []) (va_runV (As := [.ref (K 1)]) (rest := []) ⟨hx, hb, hml, hown, ht⟩ (c_Tape_which1 l G s.heap.size K V t b 0) (cwV 1 ht (ts_gV wd_717 wd_588 wd_589 wd_123 wd_590) rfl rfl rfl (by decide +kernel) ⟨Nat.le_of_ble_eq_true rfl, Nat.le_of_ble_eq_true rfl⟩) (gx_preV (ci := 8) (q0 := 0) hK hPc hDc hX hS (va_free hD hS hA [0] rfl) rfl rfl) rfl rfl hl.1 rfl (lv_room (Nat.le_of_ble_eq_true rfl)) dX4_readHead_3 ⟨Nat.le_of_ble_eq_true rfl, Nat.le_of_ble_eq_true rfl⟩) hP hD hS hA [0] [] rfl rfl (by decide) (by decide) (fun r u H locs hw hP hD hS => ?_)
  have hw : r = (-1) := hw
  subst hw
  have hP : va_P (gg_D G) classes [(t, .inr (8, [.ref b, .int 0, .int 0, .int 0, .int 0]))] H := hP
  have hD : va_D A [(t, .inr (8, [.ref b, .int 0, .int 0, .int 0, .int 0]))] := hD
  refine lv_iconst (v := (-1)) hx hb dX4_readHead_6 (by decide) ?_
  refine lv_icmp_ne (tgt := 20) hx hb dX4_readHead_7 (by decide) (fun c0 => absurd (by decide +kernel) c0) (fun _ => ?_)
  refine lv_aload_n hx hb dX4_readHead_10 rfl (lv_at hl 0 rfl) ?_
  refine lv_aload_n hx hb dX4_readHead_11 rfl (lv_at hl 0 rfl) ?_
  have hPc := hP.sub (ws' := [(t, .inr (8, [.ref b, .int 0, .int 0, .int 0, .int 0]))]) [0] rfl
  have hDc := hD.sub (ws' := [(t, .inr (8, [.ref b, .int 0, .int 0, .int 0, .int 0]))]) [0] (by decide) rfl
  refine gq_callI (wr := []) (va_runV (As := []) (rest := [.ref t]) ⟨hx, hb, hml, hown, ht⟩ (c_Tape_place l G H.size t b 0 0 0 0) (cwV 0 ht (ts_gV wd_718 wd_640 wd_641 wd_123 wd_642) rfl rfl rfl (by decide +kernel) ⟨Nat.le_of_ble_eq_true rfl, Nat.le_of_ble_eq_true rfl⟩) (gc_preV (ci := 8) (q0 := 0) hK hPc hDc rfl rfl) rfl rfl hl.1 rfl (lv_room (Nat.le_of_ble_eq_true rfl)) dX4_readHead_12 ⟨Nat.le_of_ble_eq_true rfl, Nat.le_of_ble_eq_true rfl⟩) hP hD hS hA [0] [] rfl rfl (by decide) (by decide) (fun r u H locs hw hP hD hS => ?_)
  have hw : r = 0 := hw
  subst hw
  have hP : va_P (gg_D G) classes [(t, .inr (8, [.ref b, .int 0, .int 0, .int 0, .int 0]))] H := hP
  have hD : va_D A [(t, .inr (8, [.ref b, .int 0, .int 0, .int 0, .int 0]))] := hD
  refine lv_iconst (v := 0) hx hb dX4_readHead_15 (by decide) ?_
  have hPc := hP.sub (ws' := [(t, .inr (8, [.ref b, .int 0, .int 0, .int 0, .int 0]))]) [0] rfl
  have hDc := hD.sub (ws' := [(t, .inr (8, [.ref b, .int 0, .int 0, .int 0, .int 0]))]) [0] (by decide) rfl
  refine gq_callI (wr := []) (va_runV (As := [.int 0, .int 0]) (rest := []) ⟨hx, hb, hml, hown, ht⟩ (c_Tape_refuse0 l G H.size t b) (cwV 2 ht (ts_gV wd_719 wd_644 wd_645 wd_123 wd_646) rfl rfl rfl (by decide +kernel) ⟨Nat.le_of_ble_eq_true rfl, Nat.le_of_ble_eq_true rfl⟩) (gc_preV (ci := 8) (q0 := 0) hK hPc hDc rfl rfl) rfl rfl hl.1 rfl (lv_room (Nat.le_of_ble_eq_true rfl)) dX4_readHead_16 ⟨Nat.le_of_ble_eq_true rfl, Nat.le_of_ble_eq_true rfl⟩) hP hD hS hA [0] [] rfl rfl (by decide) (by decide) (fun r u H locs hw hP hD hS => ?_)
  have hw : r = 0 := hw
  subst hw
  have hP : va_P (gg_D G) classes [(t, .inr (8, [.ref b, .int 0, .int 0, .int 0, .int 1]))] H := hP
  have hD : va_D A [(t, .inr (8, [.ref b, .int 0, .int 0, .int 0, .int 1]))] := hD
  have hP9 := hP.sub (ws' := [(t, .inr (8, [.ref b, .int 0, .int 0, .int 0, .int 1]))]) [0] rfl
  have hD9 := hD.sub (ws' := [(t, .inr (8, [.ref b, .int 0, .int 0, .int 0, .int 1]))]) [0] (by decide) rfl
  exact W.zret (v := 0) hx hb hr (by decide +kernel) (gq_endI () rfl hP9 hD9 hS) hS.2.2 dX4_readHead_19
set_option maxHeartbeats 4000000 in
set_option maxRecDepth 100000 in
theorem c_Rule_readRule (l : Launch) (G : gg_T) (sz : Nat) (K : Nat → Nat) (V : Nat → Nat) (rl : Nat) (q0 : Nat) (q1 : Nat) (q2 : Nat) (q3 : Nat) (q4 : Nat) (t : Nat) (b : Nat) : Met l yX4_readRule (ts_L yX4_readRule cX4_readRule 5 (some .int)) ({ frames := 6, cells := 0, slots := 0, locals := 131 }) (gx_P G K V [(rl, .inr (4, [.ref q0, .ref q1, .ref q2, .ref q3, .ref q4, .int 0, .int 0, .int 0, .int 0])), (t, .inr (8, [.ref b, .int 0, .int 0, .int 0, .int 0]))] sz [.ref rl, .ref t]) (gc_I G (va_A [(rl, .inr (4, [.ref q0, .ref q1, .ref q2, .ref q3, .ref q4, .int 0, .int 0, .int 0, .int 0])), (t, .inr (8, [.ref b, .int 0, .int 0, .int 0, .int 0]))] sz) (fun r (_ : Unit) => r = 1) (fun _ => [(t, .inr (8, [.ref b, .int 0, .int 0, .int 0, .int 1]))])) 0 0 (va_A [(rl, .inr (4, [.ref q0, .ref q1, .ref q2, .ref q3, .ref q4, .int 0, .int 0, .int 0, .int 0])), (t, .inr (8, [.ref b, .int 0, .int 0, .int 0, .int 0]))] sz) := by
  refine Met.ofW (cc := cX4_readRule) (maxL := 5) (ret := (some .int)) (by decide) rfl ?_
  intro p e s m args below meth c s₁ B hml hv
  obtain ⟨rfl, hsz, hP, hK, hD0, hX⟩ := hv
  have hx := B.exec
  have hb := B.bytes
  have hr := B.returns
  have ht := ts_ht (atoms_spec (ws := ts_L yX4_readRule cX4_readRule 5 (some .int)) B.pre)
  have hown : s.vm.findClass RX4 = some m.cls := findClass_of_methodNamed B.named
  have hlocks := B.notSynchronized
  subst hsz
  have hD := hD0.self (sz := s.heap.size)
  generalize hAe : va_A [(rl, .inr (4, [.ref q0, .ref q1, .ref q2, .ref q3, .ref q4, .int 0, .int 0, .int 0, .int 0])), (t, .inr (8, [.ref b, .int 0, .int 0, .int 0, .int 0]))] s.heap.size = A at hD hX ⊢
  have hA : ∀ q : Nat, s.heap.size ≤ q → A q := fun q h => by rw [← hAe]; exact Or.inr h
  have hS : va_S A s.heap s.heap [] := va_S.rf
  have hl := lv_entry ([.ref rl, .ref t]) (n := 5) (Nat.le_of_ble_eq_true rfl)
  rw [lg_entry_eq]
  generalize (lg_sl ([.ref rl, .ref t]) ++ List.replicate (5 - (lg_sl ([.ref rl, .ref t])).length) Slot.unset).toArray = ls at hl ⊢
  have hl : lv_has ls 5 [(0, .ref rl), (1, .ref t)] := hl
  refine lv_aload_n hx hb dX4_readRule_0 rfl (lv_at hl 0 rfl) ?_
  refine lv_iconst (v := 0) hx hb dX4_readRule_1 (by decide) ?_
  refine gq_put (ws' := [(rl, .inr (4, [.ref q0, .ref q1, .ref q2, .ref q3, .ref q4, .int 0, .int 0, .int 0, .int 0])), (t, .inr (8, [.ref b, .int 0, .int 0, .int 0, .int 0]))]) hx hb ht hown hK hP hD hS i_X4 tyX4 tyX4_ok nmX4 0 rfl rfl 6 (by decide) wd_343 rfl rfl rfl rfl (Nat.le_of_ble_eq_true rfl) rfl dX4_readRule_2 (fun H locs hP hD hS => ?_)
  refine lv_aload_n hx hb dX4_readRule_5 rfl (lv_at hl 0 rfl) ?_
  refine lv_iconst (v := 0) hx hb dX4_readRule_6 (by decide) ?_
  refine gq_put (ws' := [(rl, .inr (4, [.ref q0, .ref q1, .ref q2, .ref q3, .ref q4, .int 0, .int 0, .int 0, .int 0])), (t, .inr (8, [.ref b, .int 0, .int 0, .int 0, .int 0]))]) hx hb ht hown hK hP hD hS i_X4 tyX4 tyX4_ok nmX4 0 rfl rfl 7 (by decide) wd_344 rfl rfl rfl rfl (Nat.le_of_ble_eq_true rfl) rfl dX4_readRule_7 (fun H locs hP hD hS => ?_)
  refine lv_aload_n hx hb dX4_readRule_10 rfl (lv_at hl 0 rfl) ?_
  refine lv_iconst (v := 0) hx hb dX4_readRule_11 (by decide) ?_
  refine gq_put (ws' := [(rl, .inr (4, [.ref q0, .ref q1, .ref q2, .ref q3, .ref q4, .int 0, .int 0, .int 0, .int 0])), (t, .inr (8, [.ref b, .int 0, .int 0, .int 0, .int 0]))]) hx hb ht hown hK hP hD hS i_X4 tyX4 tyX4_ok nmX4 0 rfl rfl 8 (by decide) wd_345 rfl rfl rfl rfl (Nat.le_of_ble_eq_true rfl) rfl dX4_readRule_12 (fun H locs hP hD hS => ?_)
  refine lv_aload_n hx hb dX4_readRule_15 rfl (lv_at hl 1 rfl) ?_
  have hPc := hP.sub (ws' := [(t, .inr (8, [.ref b, .int 0, .int 0, .int 0, .int 0]))]) [1] rfl
  have hDc := hD.sub (ws' := [(t, .inr (8, [.ref b, .int 0, .int 0, .int 0, .int 0]))]) [1] (by decide) rfl
  refine gq_callV (wr := [(rl, .inr (4, [.ref q0, .ref q1, .ref q2, .ref q3, .ref q4, .int 0, .int 0, .int 0, .int 0]))]) (va_runV (As := []) (rest := []) ⟨hx, hb, hml, hown, ht⟩ (c_Tape_rewind l G H.size t b 0 0 0) (cwV 0 ht (ts_gV wd_712 wd_575 wd_576 wd_123 wd_577) rfl rfl rfl (by decide +kernel) ⟨Nat.le_of_ble_eq_true rfl, Nat.le_of_ble_eq_true rfl⟩) (gc_preV (ci := 8) (q0 := 0) hK hPc hDc rfl rfl) rfl rfl hl.1 rfl (lv_room (Nat.le_of_ble_eq_true rfl)) dX4_readRule_16 ⟨Nat.le_of_ble_eq_true rfl, Nat.le_of_ble_eq_true rfl⟩) hP hD hS hA [1] [0] rfl rfl (by decide) (by decide) (fun u H locs hw hP hD hS => ?_)
  have hP : va_P (gg_D G) classes [(rl, .inr (4, [.ref q0, .ref q1, .ref q2, .ref q3, .ref q4, .int 0, .int 0, .int 0, .int 0])), (t, .inr (8, [.ref b, .int 0, .int 0, .int 0, .int 0]))] H := hP
  have hD : va_D A [(rl, .inr (4, [.ref q0, .ref q1, .ref q2, .ref q3, .ref q4, .int 0, .int 0, .int 0, .int 0])), (t, .inr (8, [.ref b, .int 0, .int 0, .int 0, .int 0]))] := hD
  refine lv_iconst (v := 1) hx hb dX4_readRule_19 (by decide) ?_
  refine lv_istore_n (lv' := [(2, .int 1), (0, .ref rl), (1, .ref t)]) hx hb dX4_readRule_20 rfl hl (by decide) rfl (fun ls hl => ?_)
  refine lv_iconst (v := 0) hx hb dX4_readRule_21 (by decide) ?_
  refine lv_istore_n (lv' := [(3, .int 0), (2, .int 1), (0, .ref rl), (1, .ref t)]) hx hb dX4_readRule_22 rfl hl (by decide) rfl (fun ls hl => ?_)
  refine lv_iload_n hx hb dX4_readRule_23 rfl (lv_at hl 1 rfl) ?_
  refine lv_if_eq (tgt := 142) hx hb dX4_readRule_24 (by decide) (fun c0 => absurd c0 (by decide +kernel)) (fun _ => ?_)
  refine lv_iload_n hx hb dX4_readRule_27 rfl (lv_at hl 0 rfl) ?_
  refine lv_bipush (v := 12) hx hb dX4_readRule_28 (by decide +kernel) ?_
  refine lv_icmp_gt (tgt := 142) hx hb dX4_readRule_30 (by decide) (fun c0 => absurd c0 (by decide +kernel)) (fun _ => ?_)
  refine lv_aload_n hx hb dX4_readRule_33 rfl (lv_at hl 3 rfl) ?_
  refine lv_iload_n hx hb dX4_readRule_34 rfl (lv_at hl 0 rfl) ?_
  have hPc := hP.sub (ws' := [(t, .inr (8, [.ref b, .int 0, .int 0, .int 0, .int 0]))]) [1] rfl
  have hDc := hD.sub (ws' := [(t, .inr (8, [.ref b, .int 0, .int 0, .int 0, .int 0]))]) [1] (by decide) rfl
  refine gq_callI (wr := [(rl, .inr (4, [.ref q0, .ref q1, .ref q2, .ref q3, .ref q4, .int 0, .int 0, .int 0, .int 0]))]) (va_runS (As := [.ref t, .int 0]) (rest := []) ⟨hx, hb, hml, hown, ht⟩ (c_Rule_readHead l G H.size K V t b) (va_cwS 2 ht (ts_gS wd_713 wd_714 wd_128 wd_715) rfl rfl rfl (by decide +kernel) ⟨Nat.le_of_ble_eq_true rfl, Nat.le_of_ble_eq_true rfl⟩) (gx_preS hK hPc hDc hX hS (va_free hD hS hA [1] rfl)) rfl rfl hl.1 rfl (lv_room (Nat.le_of_ble_eq_true rfl)) dX4_readRule_35 ⟨Nat.le_of_ble_eq_true rfl, Nat.le_of_ble_eq_true rfl⟩) hP hD hS hA [1] [0] rfl rfl (by decide) (by decide) (fun r u H locs hw hP hD hS => ?_)
  have hw : r = 0 := hw
  subst hw
  have hP : va_P (gg_D G) classes [(rl, .inr (4, [.ref q0, .ref q1, .ref q2, .ref q3, .ref q4, .int 0, .int 0, .int 0, .int 0])), (t, .inr (8, [.ref b, .int 0, .int 0, .int 0, .int 1]))] H := hP
  have hD : va_D A [(rl, .inr (4, [.ref q0, .ref q1, .ref q2, .ref q3, .ref q4, .int 0, .int 0, .int 0, .int 0])), (t, .inr (8, [.ref b, .int 0, .int 0, .int 0, .int 1]))] := hD
  refine lv_if_eq (tgt := 53) hx hb dX4_readRule_38 (by decide) (fun _ => ?_) (fun c0 => absurd (by decide +kernel) c0)
  refine lv_iconst (v := 0) hx hb dX4_readRule_53 (by decide) ?_
  refine lv_istore (lv' := [(4, .int 0), (3, .int 0), (2, .int 1), (0, .ref rl), (1, .ref t)]) hx hb dX4_readRule_54 hl (by decide) rfl (fun ls hl => ?_)
  refine lv_iload hx hb dX4_readRule_56 (lv_at hl 0 rfl) ?_
  refine lv_if_eq (tgt := 97) hx hb dX4_readRule_58 (by decide) (fun _ => ?_) (fun c0 => absurd (by decide +kernel) c0)
  refine lv_iload hx hb dX4_readRule_97 (lv_at hl 0 rfl) ?_
  refine lv_if_eq (tgt := 115) hx hb dX4_readRule_99 (by decide) (fun _ => ?_) (fun c0 => absurd (by decide +kernel) c0)
  refine lv_iconst (v := 0) hx hb dX4_readRule_115 (by decide) ?_
  refine lv_istore (lv' := [(4, .int 0), (3, .int 0), (2, .int 1), (0, .ref rl), (1, .ref t)]) hx hb dX4_readRule_116 hl (by decide) rfl (fun ls hl => ?_)
  refine lv_iload hx hb dX4_readRule_118 (lv_at hl 0 rfl) ?_
  refine lv_if_eq (tgt := 134) hx hb dX4_readRule_120 (by decide) (fun _ => ?_) (fun c0 => absurd (by decide +kernel) c0)
  refine lv_iconst (v := 0) hx hb dX4_readRule_134 (by decide) ?_
  refine lv_istore_n (lv' := [(2, .int 0), (4, .int 0), (3, .int 0), (0, .ref rl), (1, .ref t)]) hx hb dX4_readRule_135 rfl hl (by decide) rfl (fun ls hl => ?_)
  refine lv_iinc (v := 1) (lv' := [(3, .int 1), (2, .int 0), (4, .int 0), (0, .ref rl), (1, .ref t)]) hx hb dX4_readRule_136 hl (k := 2) rfl (by decide +kernel) (by decide) rfl (fun ls hl => ?_)
  refine lv_goto (tgt := 23) hx hb dX4_readRule_139 (by decide) ?_
  refine lv_iload_n hx hb dX4_readRule_23 rfl (lv_at hl 1 rfl) ?_
  refine lv_if_eq (tgt := 142) hx hb dX4_readRule_24 (by decide) (fun _ => ?_) (fun c0 => absurd (by decide +kernel) c0)
  refine lv_aload_n hx hb dX4_readRule_142 rfl (lv_at hl 4 rfl) ?_
  have hPc := hP.sub (ws' := [(t, .inr (8, [.ref b, .int 0, .int 0, .int 0, .int 1]))]) [1] rfl
  have hDc := hD.sub (ws' := [(t, .inr (8, [.ref b, .int 0, .int 0, .int 0, .int 1]))]) [1] (by decide) rfl
  refine gq_callI (wr := [(rl, .inr (4, [.ref q0, .ref q1, .ref q2, .ref q3, .ref q4, .int 0, .int 0, .int 0, .int 0]))]) (va_runV (As := []) (rest := []) ⟨hx, hb, hml, hown, ht⟩ (c_Tape_firstFault l G H.size t b 0 0 0 1) (cwV 0 ht (ts_gV wd_779 wd_685 wd_686 wd_123 wd_687) rfl rfl rfl (by decide +kernel) ⟨Nat.le_of_ble_eq_true rfl, Nat.le_of_ble_eq_true rfl⟩) (gc_preV (ci := 8) (q0 := 0) hK hPc hDc rfl rfl) rfl rfl hl.1 rfl (lv_room (Nat.le_of_ble_eq_true rfl)) dX4_readRule_143 ⟨Nat.le_of_ble_eq_true rfl, Nat.le_of_ble_eq_true rfl⟩) hP hD hS hA [1] [0] rfl rfl (by decide) (by decide) (fun r u H locs hw hP hD hS => ?_)
  have hw : r = 1 := hw
  subst hw
  have hP : va_P (gg_D G) classes [(rl, .inr (4, [.ref q0, .ref q1, .ref q2, .ref q3, .ref q4, .int 0, .int 0, .int 0, .int 0])), (t, .inr (8, [.ref b, .int 0, .int 0, .int 0, .int 1]))] H := hP
  have hD : va_D A [(rl, .inr (4, [.ref q0, .ref q1, .ref q2, .ref q3, .ref q4, .int 0, .int 0, .int 0, .int 0])), (t, .inr (8, [.ref b, .int 0, .int 0, .int 0, .int 1]))] := hD
  have hP9 := hP.sub (ws' := [(t, .inr (8, [.ref b, .int 0, .int 0, .int 0, .int 1]))]) [1] rfl
  have hD9 := hD.sub (ws' := [(t, .inr (8, [.ref b, .int 0, .int 0, .int 0, .int 1]))]) [1] (by decide) rfl
  exact W.iret (v := 1) hx hb hr (gq_endI () rfl hP9 hD9 hS) hS.2.2 dX4_readRule_146
set_option maxHeartbeats 4000000 in
set_option maxRecDepth 100000 in
theorem c_S_sale (l : Launch) (G : gg_T) (sz : Nat) (K : Nat → Nat) (V : Nat → Nat) (h0 : Nat) (ad : Nat → Nat) : Met l yX11_sale (ts_L yX11_sale cX11_sale 2 (some .int)) ({ frames := 7, cells := 0, slots := 0, locals := 156 }) (gx_P G K V [(h0, .inr (11, [.ref (ad 0), .ref (ad 1), .ref (ad 2), .ref (ad 3), .ref (ad 4), .ref (ad 5), .ref (ad 6), .ref (ad 7), .ref (ad 8), .ref (ad 9), .ref (ad 10), .ref (ad 11), .ref (ad 12), .int 0, .int (-1), .int 0])), ((ad 0), .inr (8, [.ref (ad 13), .int 0, .int 0, .int 0, .int 0])), ((ad 2), .inr (9, [.int 0, .int 0, .int 0, .int 0, .ref (ad 19), .ref (ad 20), .ref (ad 21), .ref (ad 22), .ref (ad 23)])), ((ad 21), .inl (G.2.2 0, 15, .inl (fun _ => 0)))] sz [.ref h0]) (gc_I G (va_A [(h0, .inr (11, [.ref (ad 0), .ref (ad 1), .ref (ad 2), .ref (ad 3), .ref (ad 4), .ref (ad 5), .ref (ad 6), .ref (ad 7), .ref (ad 8), .ref (ad 9), .ref (ad 10), .ref (ad 11), .ref (ad 12), .int 0, .int (-1), .int 0])), ((ad 0), .inr (8, [.ref (ad 13), .int 0, .int 0, .int 0, .int 0])), ((ad 2), .inr (9, [.int 0, .int 0, .int 0, .int 0, .ref (ad 19), .ref (ad 20), .ref (ad 21), .ref (ad 22), .ref (ad 23)])), ((ad 21), .inl (G.2.2 0, 15, .inl (fun _ => 0)))] sz) (fun r (_ : Unit) => r = (-3)) (fun _ => [])) 0 0 (va_A [(h0, .inr (11, [.ref (ad 0), .ref (ad 1), .ref (ad 2), .ref (ad 3), .ref (ad 4), .ref (ad 5), .ref (ad 6), .ref (ad 7), .ref (ad 8), .ref (ad 9), .ref (ad 10), .ref (ad 11), .ref (ad 12), .int 0, .int (-1), .int 0])), ((ad 0), .inr (8, [.ref (ad 13), .int 0, .int 0, .int 0, .int 0])), ((ad 2), .inr (9, [.int 0, .int 0, .int 0, .int 0, .ref (ad 19), .ref (ad 20), .ref (ad 21), .ref (ad 22), .ref (ad 23)])), ((ad 21), .inl (G.2.2 0, 15, .inl (fun _ => 0)))] sz) := by
  refine Met.ofW (cc := cX11_sale) (maxL := 2) (ret := (some .int)) (by decide) rfl ?_
  intro p e s m args below meth c s₁ B hml hv
  obtain ⟨rfl, hsz, hP, hK, hD0, hX⟩ := hv
  have hx := B.exec
  have hb := B.bytes
  have hr := B.returns
  have ht := ts_ht (atoms_spec (ws := ts_L yX11_sale cX11_sale 2 (some .int)) B.pre)
  have hown : s.vm.findClass RX11 = some m.cls := findClass_of_methodNamed B.named
  have hlocks := B.notSynchronized
  subst hsz
  have hD := hD0.self (sz := s.heap.size)
  generalize hAe : va_A [(h0, .inr (11, [.ref (ad 0), .ref (ad 1), .ref (ad 2), .ref (ad 3), .ref (ad 4), .ref (ad 5), .ref (ad 6), .ref (ad 7), .ref (ad 8), .ref (ad 9), .ref (ad 10), .ref (ad 11), .ref (ad 12), .int 0, .int (-1), .int 0])), ((ad 0), .inr (8, [.ref (ad 13), .int 0, .int 0, .int 0, .int 0])), ((ad 2), .inr (9, [.int 0, .int 0, .int 0, .int 0, .ref (ad 19), .ref (ad 20), .ref (ad 21), .ref (ad 22), .ref (ad 23)])), ((ad 21), .inl (G.2.2 0, 15, .inl (fun _ => 0)))] s.heap.size = A at hD hX ⊢
  have hA : ∀ q : Nat, s.heap.size ≤ q → A q := fun q h => by rw [← hAe]; exact Or.inr h
  have hS : va_S A s.heap s.heap [] := va_S.rf
  have hl := lv_entry ([.ref h0]) (n := 2) (Nat.le_of_ble_eq_true rfl)
  rw [lg_entry_eq]
  generalize (lg_sl ([.ref h0]) ++ List.replicate (2 - (lg_sl ([.ref h0])).length) Slot.unset).toArray = ls at hl ⊢
  have hl : lv_has ls 2 [(0, .ref h0)] := hl
  refine lv_aload_n hx hb dX11_sale_0 rfl (lv_at hl 0 rfl) ?_
  refine gq_get hx hb ht hown hK hP i_X11 0 rfl rfl 2 (by decide) wd_499 rfl rfl dX11_sale_1 ?_
  refine lv_aload_n hx hb dX11_sale_4 rfl (lv_at hl 0 rfl) ?_
  refine gq_get hx hb ht hown hK hP i_X11 0 rfl rfl 0 (by decide) wd_497 rfl rfl dX11_sale_5 ?_
  have hPc := hP.sub (ws' := [((ad 2), .inr (9, [.int 0, .int 0, .int 0, .int 0, .ref (ad 19), .ref (ad 20), .ref (ad 21), .ref (ad 22), .ref (ad 23)])), ((ad 21), .inl (G.2.2 0, 15, .inl (fun _ => 0))), ((ad 0), .inr (8, [.ref (ad 13), .int 0, .int 0, .int 0, .int 0]))]) [2, 3, 1] rfl
  have hDc := hD.sub (ws' := [((ad 2), .inr (9, [.int 0, .int 0, .int 0, .int 0, .ref (ad 19), .ref (ad 20), .ref (ad 21), .ref (ad 22), .ref (ad 23)])), ((ad 21), .inl (G.2.2 0, 15, .inl (fun _ => 0))), ((ad 0), .inr (8, [.ref (ad 13), .int 0, .int 0, .int 0, .int 0]))]) [2, 3, 1] (by decide) rfl
  refine gq_callI (wr := [(h0, .inr (11, [.ref (ad 0), .ref (ad 1), .ref (ad 2), .ref (ad 3), .ref (ad 4), .ref (ad 5), .ref (ad 6), .ref (ad 7), .ref (ad 8), .ref (ad 9), .ref (ad 10), .ref (ad 11), .ref (ad 12), .int 0, .int (-1), .int 0]))]) (va_runV (As := [.ref (ad 0)]) (rest := []) ⟨hx, hb, hml, hown, ht⟩ (c_Terms_readSale l G s.heap.size K V (ad 2) (ad 19) (ad 20) (ad 21) (ad 22) (ad 23) (ad 0) (ad 13)) (cwV 1 ht (ts_gV wd_570 wd_571 wd_572 wd_124 wd_573) rfl rfl rfl (by decide +kernel) ⟨Nat.le_of_ble_eq_true rfl, Nat.le_of_ble_eq_true rfl⟩) (gx_preV (ci := 9) (q0 := 0) hK hPc hDc hX hS (va_free hD hS hA [2, 3, 1] rfl) rfl rfl) rfl rfl hl.1 rfl (lv_room (Nat.le_of_ble_eq_true rfl)) dX11_sale_8 ⟨Nat.le_of_ble_eq_true rfl, Nat.le_of_ble_eq_true rfl⟩) hP hD hS hA [2, 3, 1] [0] rfl rfl (by decide) (by decide) (fun r u H locs hw hP hD hS => ?_)
  have hw : r = 1 := hw
  subst hw
  have hP : va_P (gg_D G) classes [(h0, .inr (11, [.ref (ad 0), .ref (ad 1), .ref (ad 2), .ref (ad 3), .ref (ad 4), .ref (ad 5), .ref (ad 6), .ref (ad 7), .ref (ad 8), .ref (ad 9), .ref (ad 10), .ref (ad 11), .ref (ad 12), .int 0, .int (-1), .int 0]))] H := hP
  have hD : va_D A [(h0, .inr (11, [.ref (ad 0), .ref (ad 1), .ref (ad 2), .ref (ad 3), .ref (ad 4), .ref (ad 5), .ref (ad 6), .ref (ad 7), .ref (ad 8), .ref (ad 9), .ref (ad 10), .ref (ad 11), .ref (ad 12), .int 0, .int (-1), .int 0]))] := hD
  refine lv_istore_n (lv' := [(1, .int 1), (0, .ref h0)]) hx hb dX11_sale_11 rfl hl (by decide) rfl (fun ls hl => ?_)
  refine lv_iload_n hx hb dX11_sale_12 rfl (lv_at hl 0 rfl) ?_
  refine lv_if_eq (tgt := 21) hx hb dX11_sale_13 (by decide) (fun c0 => absurd c0 (by decide +kernel)) (fun _ => ?_)
  refine lv_bipush (v := (-2)) hx hb dX11_sale_16 (by decide +kernel) ?_
  refine lv_iload_n hx hb dX11_sale_18 rfl (lv_at hl 0 rfl) ?_
  refine gq_isub hx hb (-3) (by decide +kernel) dX11_sale_19 ?_
  have hP9 := hP.sub (ws' := []) [] rfl
  have hD9 := hD.sub (ws' := []) [] (by decide) rfl
  exact W.iret (v := (-3)) hx hb hr (gq_endI () rfl hP9 hD9 hS) hS.2.2 dX11_sale_20
set_option maxHeartbeats 4000000 in
set_option maxRecDepth 100000 in
theorem c_S_rule (l : Launch) (G : gg_T) (sz : Nat) (K : Nat → Nat) (V : Nat → Nat) (h0 : Nat) (ad : Nat → Nat) (fr : Nat → Option Nat) (pr0 : fr 0 = some (ad 37)) : Met l yX11_rule (ts_L yX11_rule cX11_rule 2 (some .int)) ({ frames := 7, cells := 0, slots := 0, locals := 155 }) (gx_P G K V [(h0, .inr (11, [.ref (ad 0), .ref (ad 1), .ref (ad 2), .ref (ad 3), .ref (ad 4), .ref (ad 5), .ref (ad 6), .ref (ad 7), .ref (ad 8), .ref (ad 9), .ref (ad 10), .ref (ad 11), .ref (ad 12), .int 0, .int (-1), .int 0])), ((ad 0), .inr (8, [.ref (ad 13), .int 0, .int 0, .int 0, .int 0])), ((ad 7), .inl (G.2.2 5, 6, .inr (.inr (.inr (.inr fr))))), ((ad 37), .inr (4, [.ref (ad 38), .ref (ad 39), .ref (ad 40), .ref (ad 41), .ref (ad 42), .int 0, .int 0, .int 0, .int 0]))] sz [.ref h0]) (gc_I G (va_A [(h0, .inr (11, [.ref (ad 0), .ref (ad 1), .ref (ad 2), .ref (ad 3), .ref (ad 4), .ref (ad 5), .ref (ad 6), .ref (ad 7), .ref (ad 8), .ref (ad 9), .ref (ad 10), .ref (ad 11), .ref (ad 12), .int 0, .int (-1), .int 0])), ((ad 0), .inr (8, [.ref (ad 13), .int 0, .int 0, .int 0, .int 0])), ((ad 7), .inl (G.2.2 5, 6, .inr (.inr (.inr (.inr fr))))), ((ad 37), .inr (4, [.ref (ad 38), .ref (ad 39), .ref (ad 40), .ref (ad 41), .ref (ad 42), .int 0, .int 0, .int 0, .int 0]))] sz) (fun r (_ : Unit) => r = (-3)) (fun _ => [])) 0 0 (va_A [(h0, .inr (11, [.ref (ad 0), .ref (ad 1), .ref (ad 2), .ref (ad 3), .ref (ad 4), .ref (ad 5), .ref (ad 6), .ref (ad 7), .ref (ad 8), .ref (ad 9), .ref (ad 10), .ref (ad 11), .ref (ad 12), .int 0, .int (-1), .int 0])), ((ad 0), .inr (8, [.ref (ad 13), .int 0, .int 0, .int 0, .int 0])), ((ad 7), .inl (G.2.2 5, 6, .inr (.inr (.inr (.inr fr))))), ((ad 37), .inr (4, [.ref (ad 38), .ref (ad 39), .ref (ad 40), .ref (ad 41), .ref (ad 42), .int 0, .int 0, .int 0, .int 0]))] sz) := by
  refine Met.ofW (cc := cX11_rule) (maxL := 2) (ret := (some .int)) (by decide) rfl ?_
  intro p e s m args below meth c s₁ B hml hv
  obtain ⟨rfl, hsz, hP, hK, hD0, hX⟩ := hv
  have hx := B.exec
  have hb := B.bytes
  have hr := B.returns
  have ht := ts_ht (atoms_spec (ws := ts_L yX11_rule cX11_rule 2 (some .int)) B.pre)
  have hown : s.vm.findClass RX11 = some m.cls := findClass_of_methodNamed B.named
  have hlocks := B.notSynchronized
  subst hsz
  have hD := hD0.self (sz := s.heap.size)
  generalize hAe : va_A [(h0, .inr (11, [.ref (ad 0), .ref (ad 1), .ref (ad 2), .ref (ad 3), .ref (ad 4), .ref (ad 5), .ref (ad 6), .ref (ad 7), .ref (ad 8), .ref (ad 9), .ref (ad 10), .ref (ad 11), .ref (ad 12), .int 0, .int (-1), .int 0])), ((ad 0), .inr (8, [.ref (ad 13), .int 0, .int 0, .int 0, .int 0])), ((ad 7), .inl (G.2.2 5, 6, .inr (.inr (.inr (.inr fr))))), ((ad 37), .inr (4, [.ref (ad 38), .ref (ad 39), .ref (ad 40), .ref (ad 41), .ref (ad 42), .int 0, .int 0, .int 0, .int 0]))] s.heap.size = A at hD hX ⊢
  have hA : ∀ q : Nat, s.heap.size ≤ q → A q := fun q h => by rw [← hAe]; exact Or.inr h
  have hS : va_S A s.heap s.heap [] := va_S.rf
  have hl := lv_entry ([.ref h0]) (n := 2) (Nat.le_of_ble_eq_true rfl)
  rw [lg_entry_eq]
  generalize (lg_sl ([.ref h0]) ++ List.replicate (2 - (lg_sl ([.ref h0])).length) Slot.unset).toArray = ls at hl ⊢
  have hl : lv_has ls 2 [(0, .ref h0)] := hl
  refine lv_aload_n hx hb dX11_rule_0 rfl (lv_at hl 0 rfl) ?_
  refine gq_get hx hb ht hown hK hP i_X11 0 rfl rfl 13 (by decide) wd_510 rfl rfl dX11_rule_1 ?_
  refine lv_bipush (v := 6) hx hb dX11_rule_4 (by decide +kernel) ?_
  refine lv_icmp_lt (tgt := 11) hx hb dX11_rule_6 (by decide) (fun _ => ?_) (fun c0 => absurd (by decide +kernel) c0)
  refine lv_aload_n hx hb dX11_rule_11 rfl (lv_at hl 0 rfl) ?_
  refine gq_get hx hb ht hown hK hP i_X11 0 rfl rfl 7 (by decide) wd_504 rfl rfl dX11_rule_12 ?_
  refine lv_aload_n hx hb dX11_rule_15 rfl (lv_at hl 0 rfl) ?_
  refine gq_get hx hb ht hown hK hP i_X11 0 rfl rfl 13 (by decide) wd_510 rfl rfl dX11_rule_16 ?_
  refine gq_aald hx hb hK hP 2 5 rfl rfl (ad 37) (by unfold vp_in; decide +kernel) pr0 dX11_rule_19 ?_
  refine lv_aload_n hx hb dX11_rule_20 rfl (lv_at hl 0 rfl) ?_
  refine gq_get hx hb ht hown hK hP i_X11 0 rfl rfl 0 (by decide) wd_497 rfl rfl dX11_rule_21 ?_
  have hPc := hP.sub (ws' := [((ad 37), .inr (4, [.ref (ad 38), .ref (ad 39), .ref (ad 40), .ref (ad 41), .ref (ad 42), .int 0, .int 0, .int 0, .int 0])), ((ad 0), .inr (8, [.ref (ad 13), .int 0, .int 0, .int 0, .int 0]))]) [3, 1] rfl
  have hDc := hD.sub (ws' := [((ad 37), .inr (4, [.ref (ad 38), .ref (ad 39), .ref (ad 40), .ref (ad 41), .ref (ad 42), .int 0, .int 0, .int 0, .int 0])), ((ad 0), .inr (8, [.ref (ad 13), .int 0, .int 0, .int 0, .int 0]))]) [3, 1] (by decide) rfl
  refine gq_callI (wr := [(h0, .inr (11, [.ref (ad 0), .ref (ad 1), .ref (ad 2), .ref (ad 3), .ref (ad 4), .ref (ad 5), .ref (ad 6), .ref (ad 7), .ref (ad 8), .ref (ad 9), .ref (ad 10), .ref (ad 11), .ref (ad 12), .int 0, .int (-1), .int 0])), ((ad 7), .inl (G.2.2 5, 6, .inr (.inr (.inr (.inr fr)))))]) (va_runV (As := [.ref (ad 0)]) (rest := []) ⟨hx, hb, hml, hown, ht⟩ (c_Rule_readRule l G s.heap.size K V (ad 37) (ad 38) (ad 39) (ad 40) (ad 41) (ad 42) (ad 0) (ad 13)) (cwV 1 ht (ts_gV wd_708 wd_709 wd_710 wd_128 wd_711) rfl rfl rfl (by decide +kernel) ⟨Nat.le_of_ble_eq_true rfl, Nat.le_of_ble_eq_true rfl⟩) (gx_preV (ci := 4) (q0 := 0) hK hPc hDc hX hS (va_free hD hS hA [3, 1] rfl) rfl rfl) rfl rfl hl.1 rfl (lv_room (Nat.le_of_ble_eq_true rfl)) dX11_rule_24 ⟨Nat.le_of_ble_eq_true rfl, Nat.le_of_ble_eq_true rfl⟩) hP hD hS hA [3, 1] [0, 2] rfl rfl (by decide) (by decide) (fun r u H locs hw hP hD hS => ?_)
  have hw : r = 1 := hw
  subst hw
  have hP : va_P (gg_D G) classes [(h0, .inr (11, [.ref (ad 0), .ref (ad 1), .ref (ad 2), .ref (ad 3), .ref (ad 4), .ref (ad 5), .ref (ad 6), .ref (ad 7), .ref (ad 8), .ref (ad 9), .ref (ad 10), .ref (ad 11), .ref (ad 12), .int 0, .int (-1), .int 0])), ((ad 7), .inl (G.2.2 5, 6, .inr (.inr (.inr (.inr fr))))), ((ad 0), .inr (8, [.ref (ad 13), .int 0, .int 0, .int 0, .int 1]))] H := hP
  have hD : va_D A [(h0, .inr (11, [.ref (ad 0), .ref (ad 1), .ref (ad 2), .ref (ad 3), .ref (ad 4), .ref (ad 5), .ref (ad 6), .ref (ad 7), .ref (ad 8), .ref (ad 9), .ref (ad 10), .ref (ad 11), .ref (ad 12), .int 0, .int (-1), .int 0])), ((ad 7), .inl (G.2.2 5, 6, .inr (.inr (.inr (.inr fr))))), ((ad 0), .inr (8, [.ref (ad 13), .int 0, .int 0, .int 0, .int 1]))] := hD
  refine lv_istore_n (lv' := [(1, .int 1), (0, .ref h0)]) hx hb dX11_rule_27 rfl hl (by decide) rfl (fun ls hl => ?_)
  refine lv_aload_n hx hb dX11_rule_28 rfl (lv_at hl 1 rfl) ?_
  refine gq_get hx hb ht hown hK hP i_X11 0 rfl rfl 0 (by decide) wd_497 rfl rfl dX11_rule_29 ?_
  refine lv_iconst (v := 0) hx hb dX11_rule_32 (by decide) ?_
  have hPc := hP.sub (ws' := [((ad 0), .inr (8, [.ref (ad 13), .int 0, .int 0, .int 0, .int 1]))]) [2] rfl
  have hDc := hD.sub (ws' := [((ad 0), .inr (8, [.ref (ad 13), .int 0, .int 0, .int 0, .int 1]))]) [2] (by decide) rfl
  refine gq_callV (wr := [(h0, .inr (11, [.ref (ad 0), .ref (ad 1), .ref (ad 2), .ref (ad 3), .ref (ad 4), .ref (ad 5), .ref (ad 6), .ref (ad 7), .ref (ad 8), .ref (ad 9), .ref (ad 10), .ref (ad 11), .ref (ad 12), .int 0, .int (-1), .int 0])), ((ad 7), .inl (G.2.2 5, 6, .inr (.inr (.inr (.inr fr)))))]) (va_runV (As := [.int 0]) (rest := []) ⟨hx, hb, hml, hown, ht⟩ (c_Tape_cut0 l G H.size (ad 0) (ad 13) 0 0 1) (cwV 1 ht (ts_gV wd_562 wd_563 wd_564 wd_123 wd_565) rfl rfl rfl (by decide +kernel) ⟨Nat.le_of_ble_eq_true rfl, Nat.le_of_ble_eq_true rfl⟩) (gc_preV (ci := 8) (q0 := 0) hK hPc hDc rfl rfl) rfl rfl hl.1 rfl (lv_room (Nat.le_of_ble_eq_true rfl)) dX11_rule_33 ⟨Nat.le_of_ble_eq_true rfl, Nat.le_of_ble_eq_true rfl⟩) hP hD hS hA [2] [0, 1] rfl rfl (by decide) (by decide) (fun u H locs hw hP hD hS => ?_)
  have hP : va_P (gg_D G) classes [(h0, .inr (11, [.ref (ad 0), .ref (ad 1), .ref (ad 2), .ref (ad 3), .ref (ad 4), .ref (ad 5), .ref (ad 6), .ref (ad 7), .ref (ad 8), .ref (ad 9), .ref (ad 10), .ref (ad 11), .ref (ad 12), .int 0, .int (-1), .int 0])), ((ad 7), .inl (G.2.2 5, 6, .inr (.inr (.inr (.inr fr))))), ((ad 0), .inr (8, [.ref (ad 13), .int 0, .int 0, .int 0, .int 1]))] H := hP
  have hD : va_D A [(h0, .inr (11, [.ref (ad 0), .ref (ad 1), .ref (ad 2), .ref (ad 3), .ref (ad 4), .ref (ad 5), .ref (ad 6), .ref (ad 7), .ref (ad 8), .ref (ad 9), .ref (ad 10), .ref (ad 11), .ref (ad 12), .int 0, .int (-1), .int 0])), ((ad 7), .inl (G.2.2 5, 6, .inr (.inr (.inr (.inr fr))))), ((ad 0), .inr (8, [.ref (ad 13), .int 0, .int 0, .int 0, .int 1]))] := hD
  refine lv_iload_n hx hb dX11_rule_36 rfl (lv_at hl 0 rfl) ?_
  refine lv_if_eq (tgt := 45) hx hb dX11_rule_37 (by decide) (fun c0 => absurd c0 (by decide +kernel)) (fun _ => ?_)
  refine lv_bipush (v := (-2)) hx hb dX11_rule_40 (by decide +kernel) ?_
  refine lv_iload_n hx hb dX11_rule_42 rfl (lv_at hl 0 rfl) ?_
  refine gq_isub hx hb (-3) (by decide +kernel) dX11_rule_43 ?_
  have hP9 := hP.sub (ws' := []) [] rfl
  have hD9 := hD.sub (ws' := []) [] (by decide) rfl
  exact W.iret (v := (-3)) hx hb hr (gq_endI () rfl hP9 hD9 hS) hS.2.2 dX11_rule_44

theorem wd_157 : (Jvm.Cond.fieldLink "SilentSale$Tape" (15 : Nat) "SilentSale$Tape" "length" "I") ∈ tb_L := tb_in (i := 157) (by decide +kernel) (by decide +kernel)
theorem wd_553 : (Jvm.Cond.code ({ cls := "SilentSale$Tape", name := "size", desc := "()I" } : Jvm.MethodName) prog_10_method_2_code (1 : Nat) (Option.some Jvm.ClassFile.FieldType.int)) ∈ tb_L := tb_in (i := 553) (by decide +kernel) (by decide +kernel)
theorem dX8_size_0 : decode cX8_size 0 = .ok (.aload_n 0, 1) := by decide +kernel
theorem dX8_size_1 : decode cX8_size 1 = .ok (.getfield 15, 3) := by decide +kernel
theorem dX8_size_4 : decode cX8_size 4 = .ok (.ireturn, 1) := by decide +kernel
theorem wd_158 : (Jvm.Cond.fieldLink "SilentSale$Tape" (19 : Nat) "SilentSale$Tape" "at" "I") ∈ tb_L := tb_in (i := 158) (by decide +kernel) (by decide +kernel)
theorem wd_642 : (Jvm.Cond.code ({ cls := "SilentSale$Tape", name := "place", desc := "()I" } : Jvm.MethodName) prog_10_method_7_code (1 : Nat) (Option.some Jvm.ClassFile.FieldType.int)) ∈ tb_L := tb_in (i := 642) (by decide +kernel) (by decide +kernel)
theorem dX8_place_0 : decode cX8_place 0 = .ok (.aload_n 0, 1) := by decide +kernel
theorem dX8_place_1 : decode cX8_place 1 = .ok (.getfield 19, 3) := by decide +kernel
theorem dX8_place_4 : decode cX8_place 4 = .ok (.ireturn, 1) := by decide +kernel
theorem wd_160 : (Jvm.Cond.fieldLink "SilentSale$Tape" (25 : Nat) "SilentSale$Tape" "fault" "I") ∈ tb_L := tb_in (i := 160) (by decide +kernel) (by decide +kernel)
theorem wd_687 : (Jvm.Cond.code ({ cls := "SilentSale$Tape", name := "firstFault", desc := "()I" } : Jvm.MethodName) prog_10_method_8_code (1 : Nat) (Option.some Jvm.ClassFile.FieldType.int)) ∈ tb_L := tb_in (i := 687) (by decide +kernel) (by decide +kernel)
theorem dX8_firstFault_0 : decode cX8_firstFault 0 = .ok (.aload_n 0, 1) := by decide +kernel
theorem dX8_firstFault_1 : decode cX8_firstFault 1 = .ok (.getfield 25, 3) := by decide +kernel
theorem dX8_firstFault_4 : decode cX8_firstFault 4 = .ok (.ireturn, 1) := by decide +kernel
theorem wd_156 : (Jvm.Cond.fieldLink "SilentSale$Tape" (9 : Nat) "SilentSale$Tape" "bytes" "[I") ∈ tb_L := tb_in (i := 156) (by decide +kernel) (by decide +kernel)
theorem wd_683 : (Jvm.Cond.code ({ cls := "SilentSale$Tape", name := "sign", desc := "()I" } : Jvm.MethodName) prog_10_method_10_code (1 : Nat) (Option.some Jvm.ClassFile.FieldType.int)) ∈ tb_L := tb_in (i := 683) (by decide +kernel) (by decide +kernel)
theorem dX8_sign_0 : decode cX8_sign 0 = .ok (.aload_n 0, 1) := by decide +kernel
theorem dX8_sign_1 : decode cX8_sign 1 = .ok (.getfield 19, 3) := by decide +kernel
theorem dX8_sign_4 : decode cX8_sign 4 = .ok (.aload_n 0, 1) := by decide +kernel
theorem dX8_sign_5 : decode cX8_sign 5 = .ok (.getfield 15, 3) := by decide +kernel
theorem dX8_sign_8 : decode cX8_sign 8 = .ok (.if_icmp .ge 15, 3) := by decide +kernel
theorem dX8_sign_11 : decode cX8_sign 11 = .ok (.aload_n 0, 1) := by decide +kernel
theorem dX8_sign_12 : decode cX8_sign 12 = .ok (.getfield 9, 3) := by decide +kernel
theorem dX8_sign_15 : decode cX8_sign 15 = .ok (.aload_n 0, 1) := by decide +kernel
theorem dX8_sign_16 : decode cX8_sign 16 = .ok (.getfield 19, 3) := by decide +kernel
theorem dX8_sign_19 : decode cX8_sign 19 = .ok (.iaload, 1) := by decide +kernel
theorem dX8_sign_20 : decode cX8_sign 20 = .ok (.goto 4, 3) := by decide +kernel
theorem dX8_sign_23 : decode cX8_sign 23 = .ok (.iconst (-1), 1) := by decide +kernel
theorem dX8_sign_24 : decode cX8_sign 24 = .ok (.ireturn, 1) := by decide +kernel
theorem wd_767 : (Jvm.Cond.code ({ cls := "SilentSale$Tape", name := "signBehind", desc := "()I" } : Jvm.MethodName) prog_10_method_11_code (1 : Nat) (Option.some Jvm.ClassFile.FieldType.int)) ∈ tb_L := tb_in (i := 767) (by decide +kernel) (by decide +kernel)
theorem dX8_signBehind_0 : decode cX8_signBehind 0 = .ok (.aload_n 0, 1) := by decide +kernel
theorem dX8_signBehind_1 : decode cX8_signBehind 1 = .ok (.getfield 19, 3) := by decide +kernel
theorem dX8_signBehind_4 : decode cX8_signBehind 4 = .ok (.iconst 1, 1) := by decide +kernel
theorem dX8_signBehind_5 : decode cX8_signBehind 5 = .ok (.iadd, 1) := by decide +kernel
theorem dX8_signBehind_6 : decode cX8_signBehind 6 = .ok (.aload_n 0, 1) := by decide +kernel
theorem dX8_signBehind_7 : decode cX8_signBehind 7 = .ok (.getfield 15, 3) := by decide +kernel
theorem dX8_signBehind_10 : decode cX8_signBehind 10 = .ok (.if_icmp .ge 17, 3) := by decide +kernel
theorem dX8_signBehind_13 : decode cX8_signBehind 13 = .ok (.aload_n 0, 1) := by decide +kernel
theorem dX8_signBehind_14 : decode cX8_signBehind 14 = .ok (.getfield 9, 3) := by decide +kernel
theorem dX8_signBehind_17 : decode cX8_signBehind 17 = .ok (.aload_n 0, 1) := by decide +kernel
theorem dX8_signBehind_18 : decode cX8_signBehind 18 = .ok (.getfield 19, 3) := by decide +kernel
theorem dX8_signBehind_21 : decode cX8_signBehind 21 = .ok (.iconst 1, 1) := by decide +kernel
theorem dX8_signBehind_22 : decode cX8_signBehind 22 = .ok (.iadd, 1) := by decide +kernel
theorem dX8_signBehind_23 : decode cX8_signBehind 23 = .ok (.iaload, 1) := by decide +kernel
theorem dX8_signBehind_24 : decode cX8_signBehind 24 = .ok (.goto 4, 3) := by decide +kernel
theorem dX8_signBehind_27 : decode cX8_signBehind 27 = .ok (.iconst (-1), 1) := by decide +kernel
theorem dX8_signBehind_28 : decode cX8_signBehind 28 = .ok (.ireturn, 1) := by decide +kernel
theorem wd_159 : (Jvm.Cond.fieldLink "SilentSale$Tape" (22 : Nat) "SilentSale$Tape" "wordSize" "I") ∈ tb_L := tb_in (i := 159) (by decide +kernel) (by decide +kernel)
theorem wd_581 : (Jvm.Cond.code ({ cls := "SilentSale$Tape", name := "goTo", desc := "(I)V" } : Jvm.MethodName) prog_10_method_6_code (2 : Nat) (Option.none : Option Jvm.ClassFile.FieldType)) ∈ tb_L := tb_in (i := 581) (by decide +kernel) (by decide +kernel)
theorem dX8_goTo_0 : decode cX8_goTo 0 = .ok (.aload_n 0, 1) := by decide +kernel
theorem dX8_goTo_1 : decode cX8_goTo 1 = .ok (.iload_n 1, 1) := by decide +kernel
theorem dX8_goTo_2 : decode cX8_goTo 2 = .ok (.putfield 19, 3) := by decide +kernel
theorem dX8_goTo_5 : decode cX8_goTo 5 = .ok (.aload_n 0, 1) := by decide +kernel
theorem dX8_goTo_6 : decode cX8_goTo 6 = .ok (.getfield 19, 3) := by decide +kernel
theorem dX8_goTo_9 : decode cX8_goTo 9 = .ok (.aload_n 0, 1) := by decide +kernel
theorem dX8_goTo_10 : decode cX8_goTo 10 = .ok (.getfield 15, 3) := by decide +kernel
theorem dX8_goTo_13 : decode cX8_goTo 13 = .ok (.if_icmp .ge 30, 3) := by decide +kernel
theorem dX8_goTo_16 : decode cX8_goTo 16 = .ok (.aload_n 0, 1) := by decide +kernel
theorem dX8_goTo_17 : decode cX8_goTo 17 = .ok (.getfield 9, 3) := by decide +kernel
theorem dX8_goTo_20 : decode cX8_goTo 20 = .ok (.aload_n 0, 1) := by decide +kernel
theorem dX8_goTo_21 : decode cX8_goTo 21 = .ok (.getfield 19, 3) := by decide +kernel
theorem dX8_goTo_24 : decode cX8_goTo 24 = .ok (.iaload, 1) := by decide +kernel
theorem dX8_goTo_25 : decode cX8_goTo 25 = .ok (.bipush 32, 2) := by decide +kernel
theorem dX8_goTo_27 : decode cX8_goTo 27 = .ok (.if_icmp .ne 16, 3) := by decide +kernel
theorem dX8_goTo_30 : decode cX8_goTo 30 = .ok (.aload_n 0, 1) := by decide +kernel
theorem dX8_goTo_31 : decode cX8_goTo 31 = .ok (.dup, 1) := by decide +kernel
theorem dX8_goTo_32 : decode cX8_goTo 32 = .ok (.getfield 19, 3) := by decide +kernel
theorem dX8_goTo_35 : decode cX8_goTo 35 = .ok (.iconst 1, 1) := by decide +kernel
theorem dX8_goTo_36 : decode cX8_goTo 36 = .ok (.iadd, 1) := by decide +kernel
theorem dX8_goTo_37 : decode cX8_goTo 37 = .ok (.putfield 19, 3) := by decide +kernel
theorem dX8_goTo_40 : decode cX8_goTo 40 = .ok (.goto (-35), 3) := by decide +kernel
theorem dX8_goTo_43 : decode cX8_goTo 43 = .ok (.aload_n 0, 1) := by decide +kernel
theorem dX8_goTo_44 : decode cX8_goTo 44 = .ok (.iconst 0, 1) := by decide +kernel
theorem dX8_goTo_45 : decode cX8_goTo 45 = .ok (.putfield 22, 3) := by decide +kernel
theorem dX8_goTo_48 : decode cX8_goTo 48 = .ok (.aload_n 0, 1) := by decide +kernel
theorem dX8_goTo_49 : decode cX8_goTo 49 = .ok (.getfield 19, 3) := by decide +kernel
theorem dX8_goTo_52 : decode cX8_goTo 52 = .ok (.aload_n 0, 1) := by decide +kernel
theorem dX8_goTo_53 : decode cX8_goTo 53 = .ok (.getfield 22, 3) := by decide +kernel
theorem dX8_goTo_56 : decode cX8_goTo 56 = .ok (.iadd, 1) := by decide +kernel
theorem dX8_goTo_57 : decode cX8_goTo 57 = .ok (.aload_n 0, 1) := by decide +kernel
theorem dX8_goTo_58 : decode cX8_goTo 58 = .ok (.getfield 15, 3) := by decide +kernel
theorem dX8_goTo_61 : decode cX8_goTo 61 = .ok (.if_icmp .ge 54, 3) := by decide +kernel
theorem dX8_goTo_64 : decode cX8_goTo 64 = .ok (.aload_n 0, 1) := by decide +kernel
theorem dX8_goTo_65 : decode cX8_goTo 65 = .ok (.getfield 9, 3) := by decide +kernel
theorem dX8_goTo_68 : decode cX8_goTo 68 = .ok (.aload_n 0, 1) := by decide +kernel
theorem dX8_goTo_69 : decode cX8_goTo 69 = .ok (.getfield 19, 3) := by decide +kernel
theorem dX8_goTo_72 : decode cX8_goTo 72 = .ok (.aload_n 0, 1) := by decide +kernel
theorem dX8_goTo_73 : decode cX8_goTo 73 = .ok (.getfield 22, 3) := by decide +kernel
theorem dX8_goTo_76 : decode cX8_goTo 76 = .ok (.iadd, 1) := by decide +kernel
theorem dX8_goTo_77 : decode cX8_goTo 77 = .ok (.iaload, 1) := by decide +kernel
theorem dX8_goTo_78 : decode cX8_goTo 78 = .ok (.bipush 97, 2) := by decide +kernel
theorem dX8_goTo_80 : decode cX8_goTo 80 = .ok (.if_icmp .lt 35, 3) := by decide +kernel
theorem dX8_goTo_83 : decode cX8_goTo 83 = .ok (.aload_n 0, 1) := by decide +kernel
theorem dX8_goTo_84 : decode cX8_goTo 84 = .ok (.getfield 9, 3) := by decide +kernel
theorem dX8_goTo_87 : decode cX8_goTo 87 = .ok (.aload_n 0, 1) := by decide +kernel
theorem dX8_goTo_88 : decode cX8_goTo 88 = .ok (.getfield 19, 3) := by decide +kernel
theorem dX8_goTo_91 : decode cX8_goTo 91 = .ok (.aload_n 0, 1) := by decide +kernel
theorem dX8_goTo_92 : decode cX8_goTo 92 = .ok (.getfield 22, 3) := by decide +kernel
theorem dX8_goTo_95 : decode cX8_goTo 95 = .ok (.iadd, 1) := by decide +kernel
theorem dX8_goTo_96 : decode cX8_goTo 96 = .ok (.iaload, 1) := by decide +kernel
theorem dX8_goTo_97 : decode cX8_goTo 97 = .ok (.bipush 122, 2) := by decide +kernel
theorem dX8_goTo_99 : decode cX8_goTo 99 = .ok (.if_icmp .gt 16, 3) := by decide +kernel
theorem dX8_goTo_102 : decode cX8_goTo 102 = .ok (.aload_n 0, 1) := by decide +kernel
theorem dX8_goTo_103 : decode cX8_goTo 103 = .ok (.dup, 1) := by decide +kernel
theorem dX8_goTo_104 : decode cX8_goTo 104 = .ok (.getfield 22, 3) := by decide +kernel
theorem dX8_goTo_107 : decode cX8_goTo 107 = .ok (.iconst 1, 1) := by decide +kernel
theorem dX8_goTo_108 : decode cX8_goTo 108 = .ok (.iadd, 1) := by decide +kernel
theorem dX8_goTo_109 : decode cX8_goTo 109 = .ok (.putfield 22, 3) := by decide +kernel
theorem dX8_goTo_112 : decode cX8_goTo 112 = .ok (.goto (-64), 3) := by decide +kernel
theorem dX8_goTo_115 : decode cX8_goTo 115 = .ok (.return_, 1) := by decide +kernel
theorem wd_0 : (Jvm.Cond.selects "SilentSale$Tape" ({ cls := "SilentSale$Tape", name := "goTo", desc := "(I)V" } : Jvm.MethodName) ({ cls := "SilentSale$Tape", name := "goTo", desc := "(I)V" } : Jvm.MethodName)) ∈ tb_L := tb_in (i := 0) (by decide +kernel) (by decide +kernel)
theorem wd_123 : (Jvm.Cond.initialized "SilentSale$Tape") ∈ tb_L := tb_in (i := 123) (by decide +kernel) (by decide +kernel)
theorem wd_577 : (Jvm.Cond.code ({ cls := "SilentSale$Tape", name := "rewind", desc := "()V" } : Jvm.MethodName) prog_10_method_5_code (1 : Nat) (Option.none : Option Jvm.ClassFile.FieldType)) ∈ tb_L := tb_in (i := 577) (by decide +kernel) (by decide +kernel)
theorem wd_578 : (Jvm.Cond.methodLink "SilentSale$Tape" (28 : Nat) ({ cls := "SilentSale$Tape", name := "goTo", desc := "(I)V" } : Jvm.MethodName)) ∈ tb_L := tb_in (i := 578) (by decide +kernel) (by decide +kernel)
theorem wd_580 : (Jvm.Cond.instanceMethod ({ cls := "SilentSale$Tape", name := "goTo", desc := "(I)V" } : Jvm.MethodName)) ∈ tb_L := tb_in (i := 580) (by decide +kernel) (by decide +kernel)
theorem dX8_rewind_0 : decode cX8_rewind 0 = .ok (.aload_n 0, 1) := by decide +kernel
theorem dX8_rewind_1 : decode cX8_rewind 1 = .ok (.iconst 0, 1) := by decide +kernel
theorem dX8_rewind_2 : decode cX8_rewind 2 = .ok (.putfield 25, 3) := by decide +kernel
theorem dX8_rewind_5 : decode cX8_rewind 5 = .ok (.aload_n 0, 1) := by decide +kernel
theorem dX8_rewind_6 : decode cX8_rewind 6 = .ok (.iconst 0, 1) := by decide +kernel
theorem dX8_rewind_7 : decode cX8_rewind 7 = .ok (.invokevirtual 28, 3) := by decide +kernel
theorem dX8_rewind_10 : decode cX8_rewind 10 = .ok (.return_, 1) := by decide +kernel
theorem wd_646 : (Jvm.Cond.code ({ cls := "SilentSale$Tape", name := "refuse", desc := "(II)Z" } : Jvm.MethodName) prog_10_method_9_code (3 : Nat) (Option.some Jvm.ClassFile.FieldType.boolean)) ∈ tb_L := tb_in (i := 646) (by decide +kernel) (by decide +kernel)
theorem dX8_refuse_0 : decode cX8_refuse 0 = .ok (.aload_n 0, 1) := by decide +kernel
theorem dX8_refuse_1 : decode cX8_refuse 1 = .ok (.getfield 25, 3) := by decide +kernel
theorem dX8_refuse_4 : decode cX8_refuse 4 = .ok (.ifCond .ne 15, 3) := by decide +kernel
theorem dX8_refuse_7 : decode cX8_refuse 7 = .ok (.aload_n 0, 1) := by decide +kernel
theorem dX8_refuse_8 : decode cX8_refuse 8 = .ok (.iconst 1, 1) := by decide +kernel
theorem dX8_refuse_9 : decode cX8_refuse 9 = .ok (.bipush 8, 2) := by decide +kernel
theorem dX8_refuse_11 : decode cX8_refuse 11 = .ok (.iload_n 1, 1) := by decide +kernel
theorem dX8_refuse_12 : decode cX8_refuse 12 = .ok (.imul, 1) := by decide +kernel
theorem dX8_refuse_13 : decode cX8_refuse 13 = .ok (.iadd, 1) := by decide +kernel
theorem dX8_refuse_14 : decode cX8_refuse 14 = .ok (.iload_n 2, 1) := by decide +kernel
theorem dX8_refuse_15 : decode cX8_refuse 15 = .ok (.iadd, 1) := by decide +kernel
theorem dX8_refuse_16 : decode cX8_refuse 16 = .ok (.putfield 25, 3) := by decide +kernel
theorem dX8_refuse_19 : decode cX8_refuse 19 = .ok (.iconst 0, 1) := by decide +kernel
theorem dX8_refuse_20 : decode cX8_refuse 20 = .ok (.ireturn, 1) := by decide +kernel
theorem wd_744 : (Jvm.Cond.code ({ cls := "SilentSale$Tape", name := "skip", desc := "(I)V" } : Jvm.MethodName) prog_10_method_12_code (2 : Nat) (Option.none : Option Jvm.ClassFile.FieldType)) ∈ tb_L := tb_in (i := 744) (by decide +kernel) (by decide +kernel)
theorem wd_745 : (Jvm.Cond.methodLink "SilentSale$Tape" (32 : Nat) ({ cls := "java/lang/Math", name := "min", desc := "(II)I" } : Jvm.MethodName)) ∈ tb_L := tb_in (i := 745) (by decide +kernel) (by decide +kernel)
theorem dX8_skip_0 : decode cX8_skip 0 = .ok (.aload_n 0, 1) := by decide +kernel
theorem dX8_skip_1 : decode cX8_skip 1 = .ok (.aload_n 0, 1) := by decide +kernel
theorem dX8_skip_2 : decode cX8_skip 2 = .ok (.getfield 15, 3) := by decide +kernel
theorem dX8_skip_5 : decode cX8_skip 5 = .ok (.aload_n 0, 1) := by decide +kernel
theorem dX8_skip_6 : decode cX8_skip 6 = .ok (.getfield 19, 3) := by decide +kernel
theorem dX8_skip_9 : decode cX8_skip 9 = .ok (.iload_n 1, 1) := by decide +kernel
theorem dX8_skip_10 : decode cX8_skip 10 = .ok (.iadd, 1) := by decide +kernel
theorem dX8_skip_11 : decode cX8_skip 11 = .ok (.invokestatic 32, 3) := by decide +kernel
theorem dX8_skip_14 : decode cX8_skip 14 = .ok (.invokevirtual 28, 3) := by decide +kernel
theorem dX8_skip_17 : decode cX8_skip 17 = .ok (.return_, 1) := by decide +kernel
theorem wd_679 : (Jvm.Cond.code ({ cls := "SilentSale$Tape", name := "take", desc := "(C)Z" } : Jvm.MethodName) prog_10_method_13_code (2 : Nat) (Option.some Jvm.ClassFile.FieldType.boolean)) ∈ tb_L := tb_in (i := 679) (by decide +kernel) (by decide +kernel)
theorem wd_680 : (Jvm.Cond.methodLink "SilentSale$Tape" (38 : Nat) ({ cls := "SilentSale$Tape", name := "sign", desc := "()I" } : Jvm.MethodName)) ∈ tb_L := tb_in (i := 680) (by decide +kernel) (by decide +kernel)
theorem wd_681 : (Jvm.Cond.instanceMethod ({ cls := "SilentSale$Tape", name := "sign", desc := "()I" } : Jvm.MethodName)) ∈ tb_L := tb_in (i := 681) (by decide +kernel) (by decide +kernel)
theorem wd_682 : (Jvm.Cond.selects "SilentSale$Tape" ({ cls := "SilentSale$Tape", name := "sign", desc := "()I" } : Jvm.MethodName) ({ cls := "SilentSale$Tape", name := "sign", desc := "()I" } : Jvm.MethodName)) ∈ tb_L := tb_in (i := 682) (by decide +kernel) (by decide +kernel)
theorem dX8_take_0 : decode cX8_take 0 = .ok (.aload_n 0, 1) := by decide +kernel
theorem dX8_take_1 : decode cX8_take 1 = .ok (.invokevirtual 38, 3) := by decide +kernel
theorem dX8_take_4 : decode cX8_take 4 = .ok (.iload_n 1, 1) := by decide +kernel
theorem dX8_take_5 : decode cX8_take 5 = .ok (.if_icmp .eq 5, 3) := by decide +kernel
theorem dX8_take_8 : decode cX8_take 8 = .ok (.iconst 0, 1) := by decide +kernel
theorem dX8_take_9 : decode cX8_take 9 = .ok (.ireturn, 1) := by decide +kernel
theorem dX8_take_10 : decode cX8_take 10 = .ok (.aload_n 0, 1) := by decide +kernel
theorem dX8_take_11 : decode cX8_take 11 = .ok (.aload_n 0, 1) := by decide +kernel
theorem dX8_take_12 : decode cX8_take 12 = .ok (.getfield 19, 3) := by decide +kernel
theorem dX8_take_15 : decode cX8_take 15 = .ok (.iconst 1, 1) := by decide +kernel
theorem dX8_take_16 : decode cX8_take 16 = .ok (.iadd, 1) := by decide +kernel
theorem dX8_take_17 : decode cX8_take 17 = .ok (.invokevirtual 28, 3) := by decide +kernel
theorem dX8_take_20 : decode cX8_take 20 = .ok (.iconst 1, 1) := by decide +kernel
theorem dX8_take_21 : decode cX8_take 21 = .ok (.ireturn, 1) := by decide +kernel
theorem wd_654 : (Jvm.Cond.code ({ cls := "SilentSale$Tape", name := "passWord", desc := "()V" } : Jvm.MethodName) prog_10_method_15_code (1 : Nat) (Option.none : Option Jvm.ClassFile.FieldType)) ∈ tb_L := tb_in (i := 654) (by decide +kernel) (by decide +kernel)
theorem dX8_passWord_0 : decode cX8_passWord 0 = .ok (.aload_n 0, 1) := by decide +kernel
theorem dX8_passWord_1 : decode cX8_passWord 1 = .ok (.aload_n 0, 1) := by decide +kernel
theorem dX8_passWord_2 : decode cX8_passWord 2 = .ok (.getfield 19, 3) := by decide +kernel
theorem dX8_passWord_5 : decode cX8_passWord 5 = .ok (.aload_n 0, 1) := by decide +kernel
theorem dX8_passWord_6 : decode cX8_passWord 6 = .ok (.getfield 22, 3) := by decide +kernel
theorem dX8_passWord_9 : decode cX8_passWord 9 = .ok (.iadd, 1) := by decide +kernel
theorem dX8_passWord_10 : decode cX8_passWord 10 = .ok (.invokevirtual 28, 3) := by decide +kernel
theorem dX8_passWord_13 : decode cX8_passWord 13 = .ok (.return_, 1) := by decide +kernel
theorem wd_644 : (Jvm.Cond.instanceMethod ({ cls := "SilentSale$Tape", name := "refuse", desc := "(II)Z" } : Jvm.MethodName)) ∈ tb_L := tb_in (i := 644) (by decide +kernel) (by decide +kernel)
theorem wd_645 : (Jvm.Cond.selects "SilentSale$Tape" ({ cls := "SilentSale$Tape", name := "refuse", desc := "(II)Z" } : Jvm.MethodName) ({ cls := "SilentSale$Tape", name := "refuse", desc := "(II)Z" } : Jvm.MethodName)) ∈ tb_L := tb_in (i := 645) (by decide +kernel) (by decide +kernel)
theorem wd_658 : (Jvm.Cond.code ({ cls := "SilentSale$Tape", name := "number", desc := "(II)I" } : Jvm.MethodName) prog_10_method_17_code (5 : Nat) (Option.some Jvm.ClassFile.FieldType.int)) ∈ tb_L := tb_in (i := 658) (by decide +kernel) (by decide +kernel)
theorem wd_659 : (Jvm.Cond.methodLink "SilentSale$Tape" (57 : Nat) ({ cls := "SilentSale$Tape", name := "refuse", desc := "(II)Z" } : Jvm.MethodName)) ∈ tb_L := tb_in (i := 659) (by decide +kernel) (by decide +kernel)
theorem dX8_number_0 : decode cX8_number 0 = .ok (.iconst 0, 1) := by decide +kernel
theorem dX8_number_1 : decode cX8_number 1 = .ok (.istore_n 3, 1) := by decide +kernel
theorem dX8_number_2 : decode cX8_number 2 = .ok (.aload_n 0, 1) := by decide +kernel
theorem dX8_number_3 : decode cX8_number 3 = .ok (.getfield 19, 3) := by decide +kernel
theorem dX8_number_6 : decode cX8_number 6 = .ok (.istore 4, 2) := by decide +kernel
theorem dX8_number_8 : decode cX8_number 8 = .ok (.iload 4, 2) := by decide +kernel
theorem dX8_number_10 : decode cX8_number 10 = .ok (.aload_n 0, 1) := by decide +kernel
theorem dX8_number_11 : decode cX8_number 11 = .ok (.getfield 15, 3) := by decide +kernel
theorem dX8_number_14 : decode cX8_number 14 = .ok (.if_icmp .ge 64, 3) := by decide +kernel
theorem dX8_number_17 : decode cX8_number 17 = .ok (.aload_n 0, 1) := by decide +kernel
theorem dX8_number_18 : decode cX8_number 18 = .ok (.getfield 9, 3) := by decide +kernel
theorem dX8_number_21 : decode cX8_number 21 = .ok (.iload 4, 2) := by decide +kernel
theorem dX8_number_23 : decode cX8_number 23 = .ok (.iaload, 1) := by decide +kernel
theorem dX8_number_24 : decode cX8_number 24 = .ok (.bipush 48, 2) := by decide +kernel
theorem dX8_number_26 : decode cX8_number 26 = .ok (.if_icmp .lt 52, 3) := by decide +kernel
theorem dX8_number_29 : decode cX8_number 29 = .ok (.aload_n 0, 1) := by decide +kernel
theorem dX8_number_30 : decode cX8_number 30 = .ok (.getfield 9, 3) := by decide +kernel
theorem dX8_number_33 : decode cX8_number 33 = .ok (.iload 4, 2) := by decide +kernel
theorem dX8_number_35 : decode cX8_number 35 = .ok (.iaload, 1) := by decide +kernel
theorem dX8_number_36 : decode cX8_number 36 = .ok (.bipush 57, 2) := by decide +kernel
theorem dX8_number_38 : decode cX8_number 38 = .ok (.if_icmp .gt 40, 3) := by decide +kernel
theorem dX8_number_41 : decode cX8_number 41 = .ok (.iload 4, 2) := by decide +kernel
theorem dX8_number_43 : decode cX8_number 43 = .ok (.aload_n 0, 1) := by decide +kernel
theorem dX8_number_44 : decode cX8_number 44 = .ok (.getfield 19, 3) := by decide +kernel
theorem dX8_number_47 : decode cX8_number 47 = .ok (.isub, 1) := by decide +kernel
theorem dX8_number_48 : decode cX8_number 48 = .ok (.iconst 5, 1) := by decide +kernel
theorem dX8_number_49 : decode cX8_number 49 = .ok (.if_icmp .ge 21, 3) := by decide +kernel
theorem dX8_number_52 : decode cX8_number 52 = .ok (.iload_n 3, 1) := by decide +kernel
theorem dX8_number_53 : decode cX8_number 53 = .ok (.bipush 10, 2) := by decide +kernel
theorem dX8_number_55 : decode cX8_number 55 = .ok (.imul, 1) := by decide +kernel
theorem dX8_number_56 : decode cX8_number 56 = .ok (.aload_n 0, 1) := by decide +kernel
theorem dX8_number_57 : decode cX8_number 57 = .ok (.getfield 9, 3) := by decide +kernel
theorem dX8_number_60 : decode cX8_number 60 = .ok (.iload 4, 2) := by decide +kernel
theorem dX8_number_62 : decode cX8_number 62 = .ok (.iaload, 1) := by decide +kernel
theorem dX8_number_63 : decode cX8_number 63 = .ok (.iadd, 1) := by decide +kernel
theorem dX8_number_64 : decode cX8_number 64 = .ok (.bipush 48, 2) := by decide +kernel
theorem dX8_number_66 : decode cX8_number 66 = .ok (.isub, 1) := by decide +kernel
theorem dX8_number_67 : decode cX8_number 67 = .ok (.goto 4, 3) := by decide +kernel
theorem dX8_number_70 : decode cX8_number 70 = .ok (.iload_n 3, 1) := by decide +kernel
theorem dX8_number_71 : decode cX8_number 71 = .ok (.istore_n 3, 1) := by decide +kernel
theorem dX8_number_72 : decode cX8_number 72 = .ok (.iinc 4 1, 3) := by decide +kernel
theorem dX8_number_75 : decode cX8_number 75 = .ok (.goto (-67), 3) := by decide +kernel
theorem dX8_number_78 : decode cX8_number 78 = .ok (.iload 4, 2) := by decide +kernel
theorem dX8_number_80 : decode cX8_number 80 = .ok (.aload_n 0, 1) := by decide +kernel
theorem dX8_number_81 : decode cX8_number 81 = .ok (.getfield 19, 3) := by decide +kernel
theorem dX8_number_84 : decode cX8_number 84 = .ok (.if_icmp .ne 15, 3) := by decide +kernel
theorem dX8_number_87 : decode cX8_number 87 = .ok (.aload_n 0, 1) := by decide +kernel
theorem dX8_number_88 : decode cX8_number 88 = .ok (.aload_n 0, 1) := by decide +kernel
theorem dX8_number_89 : decode cX8_number 89 = .ok (.getfield 19, 3) := by decide +kernel
theorem dX8_number_92 : decode cX8_number 92 = .ok (.iconst 0, 1) := by decide +kernel
theorem dX8_number_93 : decode cX8_number 93 = .ok (.invokevirtual 57, 3) := by decide +kernel
theorem dX8_number_96 : decode cX8_number 96 = .ok (.pop, 1) := by decide +kernel
theorem dX8_number_97 : decode cX8_number 97 = .ok (.iconst (-1), 1) := by decide +kernel
theorem dX8_number_98 : decode cX8_number 98 = .ok (.ireturn, 1) := by decide +kernel
theorem dX8_number_99 : decode cX8_number 99 = .ok (.iload 4, 2) := by decide +kernel
theorem dX8_number_101 : decode cX8_number 101 = .ok (.aload_n 0, 1) := by decide +kernel
theorem dX8_number_102 : decode cX8_number 102 = .ok (.getfield 19, 3) := by decide +kernel
theorem dX8_number_105 : decode cX8_number 105 = .ok (.isub, 1) := by decide +kernel
theorem dX8_number_106 : decode cX8_number 106 = .ok (.iconst 5, 1) := by decide +kernel
theorem dX8_number_107 : decode cX8_number 107 = .ok (.if_icmp .gt 13, 3) := by decide +kernel
theorem dX8_number_110 : decode cX8_number 110 = .ok (.iload_n 3, 1) := by decide +kernel
theorem dX8_number_111 : decode cX8_number 111 = .ok (.iload_n 1, 1) := by decide +kernel
theorem dX8_number_112 : decode cX8_number 112 = .ok (.if_icmp .lt 8, 3) := by decide +kernel
theorem dX8_number_115 : decode cX8_number 115 = .ok (.iload_n 3, 1) := by decide +kernel
theorem dX8_number_116 : decode cX8_number 116 = .ok (.iload_n 2, 1) := by decide +kernel
theorem dX8_number_117 : decode cX8_number 117 = .ok (.if_icmp .le 15, 3) := by decide +kernel
theorem dX8_number_120 : decode cX8_number 120 = .ok (.aload_n 0, 1) := by decide +kernel
theorem dX8_number_121 : decode cX8_number 121 = .ok (.aload_n 0, 1) := by decide +kernel
theorem dX8_number_122 : decode cX8_number 122 = .ok (.getfield 19, 3) := by decide +kernel
theorem dX8_number_125 : decode cX8_number 125 = .ok (.iconst 1, 1) := by decide +kernel
theorem dX8_number_126 : decode cX8_number 126 = .ok (.invokevirtual 57, 3) := by decide +kernel
theorem dX8_number_129 : decode cX8_number 129 = .ok (.pop, 1) := by decide +kernel
theorem dX8_number_130 : decode cX8_number 130 = .ok (.iconst (-1), 1) := by decide +kernel
theorem dX8_number_131 : decode cX8_number 131 = .ok (.ireturn, 1) := by decide +kernel
theorem dX8_number_132 : decode cX8_number 132 = .ok (.aload_n 0, 1) := by decide +kernel
theorem dX8_number_133 : decode cX8_number 133 = .ok (.iload 4, 2) := by decide +kernel
theorem dX8_number_135 : decode cX8_number 135 = .ok (.invokevirtual 28, 3) := by decide +kernel
theorem dX8_number_138 : decode cX8_number 138 = .ok (.iload_n 3, 1) := by decide +kernel
theorem dX8_number_139 : decode cX8_number 139 = .ok (.ireturn, 1) := by decide +kernel
theorem wd_675 : (Jvm.Cond.code ({ cls := "SilentSale$Tape", name := "anotherClause", desc := "()Z" } : Jvm.MethodName) prog_10_method_18_code (1 : Nat) (Option.some Jvm.ClassFile.FieldType.boolean)) ∈ tb_L := tb_in (i := 675) (by decide +kernel) (by decide +kernel)
theorem wd_676 : (Jvm.Cond.methodLink "SilentSale$Tape" (61 : Nat) ({ cls := "SilentSale$Tape", name := "take", desc := "(C)Z" } : Jvm.MethodName)) ∈ tb_L := tb_in (i := 676) (by decide +kernel) (by decide +kernel)
theorem wd_677 : (Jvm.Cond.instanceMethod ({ cls := "SilentSale$Tape", name := "take", desc := "(C)Z" } : Jvm.MethodName)) ∈ tb_L := tb_in (i := 677) (by decide +kernel) (by decide +kernel)
theorem wd_678 : (Jvm.Cond.selects "SilentSale$Tape" ({ cls := "SilentSale$Tape", name := "take", desc := "(C)Z" } : Jvm.MethodName) ({ cls := "SilentSale$Tape", name := "take", desc := "(C)Z" } : Jvm.MethodName)) ∈ tb_L := tb_in (i := 678) (by decide +kernel) (by decide +kernel)
theorem dX8_anotherClause_0 : decode cX8_anotherClause 0 = .ok (.aload_n 0, 1) := by decide +kernel
theorem dX8_anotherClause_1 : decode cX8_anotherClause 1 = .ok (.getfield 19, 3) := by decide +kernel
theorem dX8_anotherClause_4 : decode cX8_anotherClause 4 = .ok (.aload_n 0, 1) := by decide +kernel
theorem dX8_anotherClause_5 : decode cX8_anotherClause 5 = .ok (.getfield 15, 3) := by decide +kernel
theorem dX8_anotherClause_8 : decode cX8_anotherClause 8 = .ok (.if_icmp .ge 28, 3) := by decide +kernel
theorem dX8_anotherClause_11 : decode cX8_anotherClause 11 = .ok (.aload_n 0, 1) := by decide +kernel
theorem dX8_anotherClause_12 : decode cX8_anotherClause 12 = .ok (.bipush 59, 2) := by decide +kernel
theorem dX8_anotherClause_14 : decode cX8_anotherClause 14 = .ok (.invokevirtual 61, 3) := by decide +kernel
theorem dX8_anotherClause_17 : decode cX8_anotherClause 17 = .ok (.ifCond .ne 15, 3) := by decide +kernel
theorem dX8_anotherClause_20 : decode cX8_anotherClause 20 = .ok (.aload_n 0, 1) := by decide +kernel
theorem dX8_anotherClause_21 : decode cX8_anotherClause 21 = .ok (.aload_n 0, 1) := by decide +kernel
theorem dX8_anotherClause_22 : decode cX8_anotherClause 22 = .ok (.getfield 19, 3) := by decide +kernel
theorem dX8_anotherClause_25 : decode cX8_anotherClause 25 = .ok (.iconst 0, 1) := by decide +kernel
theorem dX8_anotherClause_26 : decode cX8_anotherClause 26 = .ok (.invokevirtual 57, 3) := by decide +kernel
theorem dX8_anotherClause_29 : decode cX8_anotherClause 29 = .ok (.ifCond .eq 7, 3) := by decide +kernel
theorem dX8_anotherClause_32 : decode cX8_anotherClause 32 = .ok (.iconst 1, 1) := by decide +kernel
theorem dX8_anotherClause_33 : decode cX8_anotherClause 33 = .ok (.goto 4, 3) := by decide +kernel
theorem dX8_anotherClause_36 : decode cX8_anotherClause 36 = .ok (.iconst 0, 1) := by decide +kernel
theorem dX8_anotherClause_37 : decode cX8_anotherClause 37 = .ok (.ireturn, 1) := by decide +kernel
set_option maxHeartbeats 4000000 in
set_option maxRecDepth 100000 in
theorem d_size (l : Launch) (G : gg_T) (Γ : Nat → Nat) (sz : Nat) (wt : va_W) (hT : tk_ty G Γ wt) (tp : Nat) (bp : Nat) (n : Int32) (at_ : Int32) (w_ : Int32) (fl : Int32) (bf : Nat → Int32) (xp1 : 0 ≤ n.toInt) (xp2 : n.toInt ≤ 400) (xp3 : 0 ≤ at_.toInt) (xp4 : 0 ≤ w_.toInt) (xp5 : at_.toInt + w_.toInt ≤ 400) : Met l yX8_size (ts_L yX8_size cX8_size 1 (some .int)) ({ frames := 0, cells := 0, slots := 0, locals := 0 }) (gc_P G ([(tp, .inr (8, [.ref bp, .int n, .int at_, .int w_, .int fl])), (bp, .inl (G.2.2 0, 400, .inl bf))] ++ wt) sz [.ref tp]) (gc_I G (va_A ([(tp, .inr (8, [.ref bp, .int n, .int at_, .int w_, .int fl])), (bp, .inl (G.2.2 0, 400, .inl bf))] ++ wt) sz) (fun r (u : va_W) => match u with | wt1 => tk_ty G Γ wt1 ∧ tk_kp [] wt wt1 ∧ 0 ≤ r.toInt ∧ r.toInt ≤ 400) (fun (u : va_W) => match u with | wt1 => [(tp, .inr (8, [.ref bp, .int n, .int at_, .int w_, .int fl])), (bp, .inl (G.2.2 0, 400, .inl bf))] ++ wt1)) 0 0 (va_A ([(tp, .inr (8, [.ref bp, .int n, .int at_, .int w_, .int fl])), (bp, .inl (G.2.2 0, 400, .inl bf))] ++ wt) sz) := by
  refine Met.ofW (cc := cX8_size) (maxL := 1) (ret := (some .int)) (by decide) rfl ?_
  intro p e s m args below meth c s₁ B hml hv
  obtain ⟨rfl, hsz, hP, hK, hD0⟩ := hv
  have hx := B.exec
  have hb := B.bytes
  have hr := B.returns
  have ht := ts_ht (atoms_spec (ws := ts_L yX8_size cX8_size 1 (some .int)) B.pre)
  have hown : s.vm.findClass RX8 = some m.cls := findClass_of_methodNamed B.named
  have hlocks := B.notSynchronized
  subst hsz
  have hD := hD0.self (sz := s.heap.size)
  generalize hAe : va_A ([(tp, .inr (8, [.ref bp, .int n, .int at_, .int w_, .int fl])), (bp, .inl (G.2.2 0, 400, .inl bf))] ++ wt) s.heap.size = A at hD ⊢
  have hA : ∀ q : Nat, s.heap.size ≤ q → A q := fun q h => by rw [← hAe]; exact Or.inr h
  clear hAe hD0
  have hS : va_S A s.heap s.heap [] := va_S.rf
  obtain ⟨w0, hw0⟩ : ∃ z, z = wt := ⟨_, rfl⟩
  have hW : tk_kp [] w0 wt := by rw [hw0]; exact tk_kp.rf
  rw [← hw0]
  clear hw0
  have hP : va_P (gg_D G) classes ([(tp, .inr (8, [.ref bp, .int n, .int at_, .int w_, .int fl])), (bp, .inl (G.2.2 0, 400, .inl bf))] ++ wt) s.heap := hP
  have hD : va_D A ([(tp, .inr (8, [.ref bp, .int n, .int at_, .int w_, .int fl])), (bp, .inl (G.2.2 0, 400, .inl bf))] ++ wt) := hD
  have hl := lv_entry ([.ref tp]) (n := 1) (Nat.le_of_ble_eq_true rfl)
  rw [lg_entry_eq]
  generalize (lg_sl ([.ref tp]) ++ List.replicate (1 - (lg_sl ([.ref tp])).length) Slot.unset).toArray = ls at hl ⊢
  have hl : lv_has ls 1 [(0, .ref tp)] := hl
  refine lv_aload_n hx hb dX8_size_0 rfl (lv_at hl 0 rfl) ?_
  refine gq_get hx hb ht hown hK hP i_X8 0 rfl rfl 1 (by decide) wd_157 rfl rfl dX8_size_1 ?_
  have hP9 : va_P (gg_D G) classes ([(tp, .inr (8, [.ref bp, .int n, .int at_, .int w_, .int fl])), (bp, .inl (G.2.2 0, 400, .inl bf))] ++ wt) _ := hP
  have hD9 : va_D A ([(tp, .inr (8, [.ref bp, .int n, .int at_, .int w_, .int fl])), (bp, .inl (G.2.2 0, 400, .inl bf))] ++ wt) := hD
  exact W.iret (v := n) hx hb hr (gq_endI wt ⟨hT, hW, (by omega), (by omega)⟩ hP9 hD9 hS) hS.2.2 dX8_size_4
set_option maxHeartbeats 4000000 in
set_option maxRecDepth 100000 in
theorem d_place (l : Launch) (G : gg_T) (Γ : Nat → Nat) (sz : Nat) (wt : va_W) (hT : tk_ty G Γ wt) (tp : Nat) (bp : Nat) (n : Int32) (at_ : Int32) (w_ : Int32) (fl : Int32) (bf : Nat → Int32) (xp1 : 0 ≤ n.toInt) (xp2 : n.toInt ≤ 400) (xp3 : 0 ≤ at_.toInt) (xp4 : 0 ≤ w_.toInt) (xp5 : at_.toInt + w_.toInt ≤ 400) : Met l yX8_place (ts_L yX8_place cX8_place 1 (some .int)) ({ frames := 0, cells := 0, slots := 0, locals := 0 }) (gc_P G ([(tp, .inr (8, [.ref bp, .int n, .int at_, .int w_, .int fl])), (bp, .inl (G.2.2 0, 400, .inl bf))] ++ wt) sz [.ref tp]) (gc_I G (va_A ([(tp, .inr (8, [.ref bp, .int n, .int at_, .int w_, .int fl])), (bp, .inl (G.2.2 0, 400, .inl bf))] ++ wt) sz) (fun r (u : va_W) => match u with | wt1 => tk_ty G Γ wt1 ∧ tk_kp [] wt wt1 ∧ 0 ≤ r.toInt ∧ r.toInt ≤ 400) (fun (u : va_W) => match u with | wt1 => [(tp, .inr (8, [.ref bp, .int n, .int at_, .int w_, .int fl])), (bp, .inl (G.2.2 0, 400, .inl bf))] ++ wt1)) 0 0 (va_A ([(tp, .inr (8, [.ref bp, .int n, .int at_, .int w_, .int fl])), (bp, .inl (G.2.2 0, 400, .inl bf))] ++ wt) sz) := by
  refine Met.ofW (cc := cX8_place) (maxL := 1) (ret := (some .int)) (by decide) rfl ?_
  intro p e s m args below meth c s₁ B hml hv
  obtain ⟨rfl, hsz, hP, hK, hD0⟩ := hv
  have hx := B.exec
  have hb := B.bytes
  have hr := B.returns
  have ht := ts_ht (atoms_spec (ws := ts_L yX8_place cX8_place 1 (some .int)) B.pre)
  have hown : s.vm.findClass RX8 = some m.cls := findClass_of_methodNamed B.named
  have hlocks := B.notSynchronized
  subst hsz
  have hD := hD0.self (sz := s.heap.size)
  generalize hAe : va_A ([(tp, .inr (8, [.ref bp, .int n, .int at_, .int w_, .int fl])), (bp, .inl (G.2.2 0, 400, .inl bf))] ++ wt) s.heap.size = A at hD ⊢
  have hA : ∀ q : Nat, s.heap.size ≤ q → A q := fun q h => by rw [← hAe]; exact Or.inr h
  clear hAe hD0
  have hS : va_S A s.heap s.heap [] := va_S.rf
  obtain ⟨w0, hw0⟩ : ∃ z, z = wt := ⟨_, rfl⟩
  have hW : tk_kp [] w0 wt := by rw [hw0]; exact tk_kp.rf
  rw [← hw0]
  clear hw0
  have hP : va_P (gg_D G) classes ([(tp, .inr (8, [.ref bp, .int n, .int at_, .int w_, .int fl])), (bp, .inl (G.2.2 0, 400, .inl bf))] ++ wt) s.heap := hP
  have hD : va_D A ([(tp, .inr (8, [.ref bp, .int n, .int at_, .int w_, .int fl])), (bp, .inl (G.2.2 0, 400, .inl bf))] ++ wt) := hD
  have hl := lv_entry ([.ref tp]) (n := 1) (Nat.le_of_ble_eq_true rfl)
  rw [lg_entry_eq]
  generalize (lg_sl ([.ref tp]) ++ List.replicate (1 - (lg_sl ([.ref tp])).length) Slot.unset).toArray = ls at hl ⊢
  have hl : lv_has ls 1 [(0, .ref tp)] := hl
  refine lv_aload_n hx hb dX8_place_0 rfl (lv_at hl 0 rfl) ?_
  refine gq_get hx hb ht hown hK hP i_X8 0 rfl rfl 2 (by decide) wd_158 rfl rfl dX8_place_1 ?_
  have hP9 : va_P (gg_D G) classes ([(tp, .inr (8, [.ref bp, .int n, .int at_, .int w_, .int fl])), (bp, .inl (G.2.2 0, 400, .inl bf))] ++ wt) _ := hP
  have hD9 : va_D A ([(tp, .inr (8, [.ref bp, .int n, .int at_, .int w_, .int fl])), (bp, .inl (G.2.2 0, 400, .inl bf))] ++ wt) := hD
  exact W.iret (v := at_) hx hb hr (gq_endI wt ⟨hT, hW, (by omega), (by omega)⟩ hP9 hD9 hS) hS.2.2 dX8_place_4
set_option maxHeartbeats 4000000 in
set_option maxRecDepth 100000 in
theorem d_firstFault (l : Launch) (G : gg_T) (Γ : Nat → Nat) (sz : Nat) (wt : va_W) (hT : tk_ty G Γ wt) (tp : Nat) (bp : Nat) (n : Int32) (at_ : Int32) (w_ : Int32) (fl : Int32) (bf : Nat → Int32) (xp1 : 0 ≤ n.toInt) (xp2 : n.toInt ≤ 400) (xp3 : 0 ≤ at_.toInt) (xp4 : 0 ≤ w_.toInt) (xp5 : at_.toInt + w_.toInt ≤ 400) : Met l yX8_firstFault (ts_L yX8_firstFault cX8_firstFault 1 (some .int)) ({ frames := 0, cells := 0, slots := 0, locals := 0 }) (gc_P G ([(tp, .inr (8, [.ref bp, .int n, .int at_, .int w_, .int fl])), (bp, .inl (G.2.2 0, 400, .inl bf))] ++ wt) sz [.ref tp]) (gc_I G (va_A ([(tp, .inr (8, [.ref bp, .int n, .int at_, .int w_, .int fl])), (bp, .inl (G.2.2 0, 400, .inl bf))] ++ wt) sz) (fun r (u : va_W) => match u with | wt1 => tk_ty G Γ wt1 ∧ tk_kp [] wt wt1) (fun (u : va_W) => match u with | wt1 => [(tp, .inr (8, [.ref bp, .int n, .int at_, .int w_, .int fl])), (bp, .inl (G.2.2 0, 400, .inl bf))] ++ wt1)) 0 0 (va_A ([(tp, .inr (8, [.ref bp, .int n, .int at_, .int w_, .int fl])), (bp, .inl (G.2.2 0, 400, .inl bf))] ++ wt) sz) := by
  refine Met.ofW (cc := cX8_firstFault) (maxL := 1) (ret := (some .int)) (by decide) rfl ?_
  intro p e s m args below meth c s₁ B hml hv
  obtain ⟨rfl, hsz, hP, hK, hD0⟩ := hv
  have hx := B.exec
  have hb := B.bytes
  have hr := B.returns
  have ht := ts_ht (atoms_spec (ws := ts_L yX8_firstFault cX8_firstFault 1 (some .int)) B.pre)
  have hown : s.vm.findClass RX8 = some m.cls := findClass_of_methodNamed B.named
  have hlocks := B.notSynchronized
  subst hsz
  have hD := hD0.self (sz := s.heap.size)
  generalize hAe : va_A ([(tp, .inr (8, [.ref bp, .int n, .int at_, .int w_, .int fl])), (bp, .inl (G.2.2 0, 400, .inl bf))] ++ wt) s.heap.size = A at hD ⊢
  have hA : ∀ q : Nat, s.heap.size ≤ q → A q := fun q h => by rw [← hAe]; exact Or.inr h
  clear hAe hD0
  have hS : va_S A s.heap s.heap [] := va_S.rf
  obtain ⟨w0, hw0⟩ : ∃ z, z = wt := ⟨_, rfl⟩
  have hW : tk_kp [] w0 wt := by rw [hw0]; exact tk_kp.rf
  rw [← hw0]
  clear hw0
  have hP : va_P (gg_D G) classes ([(tp, .inr (8, [.ref bp, .int n, .int at_, .int w_, .int fl])), (bp, .inl (G.2.2 0, 400, .inl bf))] ++ wt) s.heap := hP
  have hD : va_D A ([(tp, .inr (8, [.ref bp, .int n, .int at_, .int w_, .int fl])), (bp, .inl (G.2.2 0, 400, .inl bf))] ++ wt) := hD
  have hl := lv_entry ([.ref tp]) (n := 1) (Nat.le_of_ble_eq_true rfl)
  rw [lg_entry_eq]
  generalize (lg_sl ([.ref tp]) ++ List.replicate (1 - (lg_sl ([.ref tp])).length) Slot.unset).toArray = ls at hl ⊢
  have hl : lv_has ls 1 [(0, .ref tp)] := hl
  refine lv_aload_n hx hb dX8_firstFault_0 rfl (lv_at hl 0 rfl) ?_
  refine gq_get hx hb ht hown hK hP i_X8 0 rfl rfl 4 (by decide) wd_160 rfl rfl dX8_firstFault_1 ?_
  have hP9 : va_P (gg_D G) classes ([(tp, .inr (8, [.ref bp, .int n, .int at_, .int w_, .int fl])), (bp, .inl (G.2.2 0, 400, .inl bf))] ++ wt) _ := hP
  have hD9 : va_D A ([(tp, .inr (8, [.ref bp, .int n, .int at_, .int w_, .int fl])), (bp, .inl (G.2.2 0, 400, .inl bf))] ++ wt) := hD
  exact W.iret (v := fl) hx hb hr (gq_endI wt ⟨hT, hW⟩ hP9 hD9 hS) hS.2.2 dX8_firstFault_4
set_option maxHeartbeats 4000000 in
set_option maxRecDepth 100000 in
theorem d_sign (l : Launch) (G : gg_T) (Γ : Nat → Nat) (sz : Nat) (wt : va_W) (hT : tk_ty G Γ wt) (tp : Nat) (bp : Nat) (n : Int32) (at_ : Int32) (w_ : Int32) (fl : Int32) (bf : Nat → Int32) (xp1 : 0 ≤ n.toInt) (xp2 : n.toInt ≤ 400) (xp3 : 0 ≤ at_.toInt) (xp4 : 0 ≤ w_.toInt) (xp5 : at_.toInt + w_.toInt ≤ 400) : Met l yX8_sign (ts_L yX8_sign cX8_sign 1 (some .int)) ({ frames := 0, cells := 0, slots := 0, locals := 0 }) (gc_P G ([(tp, .inr (8, [.ref bp, .int n, .int at_, .int w_, .int fl])), (bp, .inl (G.2.2 0, 400, .inl bf))] ++ wt) sz [.ref tp]) (gc_I G (va_A ([(tp, .inr (8, [.ref bp, .int n, .int at_, .int w_, .int fl])), (bp, .inl (G.2.2 0, 400, .inl bf))] ++ wt) sz) (fun r (u : va_W) => match u with | wt1 => tk_ty G Γ wt1 ∧ tk_kp [] wt wt1 ∧ (r.toInt = -1 ∨ at_.toInt < n.toInt)) (fun (u : va_W) => match u with | wt1 => [(tp, .inr (8, [.ref bp, .int n, .int at_, .int w_, .int fl])), (bp, .inl (G.2.2 0, 400, .inl bf))] ++ wt1)) 0 0 (va_A ([(tp, .inr (8, [.ref bp, .int n, .int at_, .int w_, .int fl])), (bp, .inl (G.2.2 0, 400, .inl bf))] ++ wt) sz) := by
  refine Met.ofW (cc := cX8_sign) (maxL := 1) (ret := (some .int)) (by decide) rfl ?_
  intro p e s m args below meth c s₁ B hml hv
  obtain ⟨rfl, hsz, hP, hK, hD0⟩ := hv
  have hx := B.exec
  have hb := B.bytes
  have hr := B.returns
  have ht := ts_ht (atoms_spec (ws := ts_L yX8_sign cX8_sign 1 (some .int)) B.pre)
  have hown : s.vm.findClass RX8 = some m.cls := findClass_of_methodNamed B.named
  have hlocks := B.notSynchronized
  subst hsz
  have hD := hD0.self (sz := s.heap.size)
  generalize hAe : va_A ([(tp, .inr (8, [.ref bp, .int n, .int at_, .int w_, .int fl])), (bp, .inl (G.2.2 0, 400, .inl bf))] ++ wt) s.heap.size = A at hD ⊢
  have hA : ∀ q : Nat, s.heap.size ≤ q → A q := fun q h => by rw [← hAe]; exact Or.inr h
  clear hAe hD0
  have hS : va_S A s.heap s.heap [] := va_S.rf
  obtain ⟨w0, hw0⟩ : ∃ z, z = wt := ⟨_, rfl⟩
  have hW : tk_kp [] w0 wt := by rw [hw0]; exact tk_kp.rf
  rw [← hw0]
  clear hw0
  have hP : va_P (gg_D G) classes ([(tp, .inr (8, [.ref bp, .int n, .int at_, .int w_, .int fl])), (bp, .inl (G.2.2 0, 400, .inl bf))] ++ wt) s.heap := hP
  have hD : va_D A ([(tp, .inr (8, [.ref bp, .int n, .int at_, .int w_, .int fl])), (bp, .inl (G.2.2 0, 400, .inl bf))] ++ wt) := hD
  have hl := lv_entry ([.ref tp]) (n := 1) (Nat.le_of_ble_eq_true rfl)
  rw [lg_entry_eq]
  generalize (lg_sl ([.ref tp]) ++ List.replicate (1 - (lg_sl ([.ref tp])).length) Slot.unset).toArray = ls at hl ⊢
  have hl : lv_has ls 1 [(0, .ref tp)] := hl
  have lm1 : ((-1) : Int32).toInt = -1 := by decide +kernel
  refine lv_aload_n hx hb dX8_sign_0 rfl (lv_at hl 0 rfl) ?_
  refine gq_get hx hb ht hown hK hP i_X8 0 rfl rfl 2 (by decide) wd_158 rfl rfl dX8_sign_1 ?_
  refine lv_aload_n hx hb dX8_sign_4 rfl (lv_at hl 0 rfl) ?_
  refine gq_get hx hb ht hown hK hP i_X8 0 rfl rfl 1 (by decide) wd_157 rfl rfl dX8_sign_5 ?_
  refine lv_icmp_ge (tgt := 23) hx hb dX8_sign_8 (by decide) (fun c_1 => ?_) (fun c_1 => ?_)
  · rw [Int32.le_iff_toInt_le] at c_1
    refine lv_iconst (v := (-1)) hx hb dX8_sign_23 (by decide +kernel) ?_
    have hP9 : va_P (gg_D G) classes ([(tp, .inr (8, [.ref bp, .int n, .int at_, .int w_, .int fl])), (bp, .inl (G.2.2 0, 400, .inl bf))] ++ wt) _ := hP
    have hD9 : va_D A ([(tp, .inr (8, [.ref bp, .int n, .int at_, .int w_, .int fl])), (bp, .inl (G.2.2 0, 400, .inl bf))] ++ wt) := hD
    exact W.iret (v := (-1)) hx hb hr (gq_endI wt ⟨hT, hW, (by omega)⟩ hP9 hD9 hS) hS.2.2 dX8_sign_24
  · rw [Int32.le_iff_toInt_le] at c_1
    refine lv_aload_n hx hb dX8_sign_11 rfl (lv_at hl 0 rfl) ?_
    refine gq_get hx hb ht hown hK hP i_X8 0 rfl rfl 0 (by decide) wd_156 rfl rfl dX8_sign_12 ?_
    refine lv_aload_n hx hb dX8_sign_15 rfl (lv_at hl 0 rfl) ?_
    refine gq_get hx hb ht hown hK hP i_X8 0 rfl rfl 2 (by decide) wd_158 rfl rfl dX8_sign_16 ?_
    obtain ⟨n_2, en_2⟩ : ∃ zz_ : Int32, bf (Int32.toNatClampNeg at_) = zz_ := ⟨_, rfl⟩
    refine gq_iald hx hb hK hP 1 rfl n_2 (ia_in (n := 400) (by omega) (by omega)) en_2 dX8_sign_19 ?_
    refine lv_goto (tgt := 24) hx hb dX8_sign_20 (by decide) ?_
    have hP9 : va_P (gg_D G) classes ([(tp, .inr (8, [.ref bp, .int n, .int at_, .int w_, .int fl])), (bp, .inl (G.2.2 0, 400, .inl bf))] ++ wt) _ := hP
    have hD9 : va_D A ([(tp, .inr (8, [.ref bp, .int n, .int at_, .int w_, .int fl])), (bp, .inl (G.2.2 0, 400, .inl bf))] ++ wt) := hD
    exact W.iret (v := n_2) hx hb hr (gq_endI wt ⟨hT, hW, (by omega)⟩ hP9 hD9 hS) hS.2.2 dX8_sign_24
set_option maxHeartbeats 4000000 in
set_option maxRecDepth 100000 in
theorem d_signBehind (l : Launch) (G : gg_T) (Γ : Nat → Nat) (sz : Nat) (wt : va_W) (hT : tk_ty G Γ wt) (tp : Nat) (bp : Nat) (n : Int32) (at_ : Int32) (w_ : Int32) (fl : Int32) (bf : Nat → Int32) (xp1 : 0 ≤ n.toInt) (xp2 : n.toInt ≤ 400) (xp3 : 0 ≤ at_.toInt) (xp4 : 0 ≤ w_.toInt) (xp5 : at_.toInt + w_.toInt ≤ 400) : Met l yX8_signBehind (ts_L yX8_signBehind cX8_signBehind 1 (some .int)) ({ frames := 0, cells := 0, slots := 0, locals := 0 }) (gc_P G ([(tp, .inr (8, [.ref bp, .int n, .int at_, .int w_, .int fl])), (bp, .inl (G.2.2 0, 400, .inl bf))] ++ wt) sz [.ref tp]) (gc_I G (va_A ([(tp, .inr (8, [.ref bp, .int n, .int at_, .int w_, .int fl])), (bp, .inl (G.2.2 0, 400, .inl bf))] ++ wt) sz) (fun r (u : va_W) => match u with | wt1 => tk_ty G Γ wt1 ∧ tk_kp [] wt wt1) (fun (u : va_W) => match u with | wt1 => [(tp, .inr (8, [.ref bp, .int n, .int at_, .int w_, .int fl])), (bp, .inl (G.2.2 0, 400, .inl bf))] ++ wt1)) 0 0 (va_A ([(tp, .inr (8, [.ref bp, .int n, .int at_, .int w_, .int fl])), (bp, .inl (G.2.2 0, 400, .inl bf))] ++ wt) sz) := by
  refine Met.ofW (cc := cX8_signBehind) (maxL := 1) (ret := (some .int)) (by decide) rfl ?_
  intro p e s m args below meth c s₁ B hml hv
  obtain ⟨rfl, hsz, hP, hK, hD0⟩ := hv
  have hx := B.exec
  have hb := B.bytes
  have hr := B.returns
  have ht := ts_ht (atoms_spec (ws := ts_L yX8_signBehind cX8_signBehind 1 (some .int)) B.pre)
  have hown : s.vm.findClass RX8 = some m.cls := findClass_of_methodNamed B.named
  have hlocks := B.notSynchronized
  subst hsz
  have hD := hD0.self (sz := s.heap.size)
  generalize hAe : va_A ([(tp, .inr (8, [.ref bp, .int n, .int at_, .int w_, .int fl])), (bp, .inl (G.2.2 0, 400, .inl bf))] ++ wt) s.heap.size = A at hD ⊢
  have hA : ∀ q : Nat, s.heap.size ≤ q → A q := fun q h => by rw [← hAe]; exact Or.inr h
  clear hAe hD0
  have hS : va_S A s.heap s.heap [] := va_S.rf
  obtain ⟨w0, hw0⟩ : ∃ z, z = wt := ⟨_, rfl⟩
  have hW : tk_kp [] w0 wt := by rw [hw0]; exact tk_kp.rf
  rw [← hw0]
  clear hw0
  have hP : va_P (gg_D G) classes ([(tp, .inr (8, [.ref bp, .int n, .int at_, .int w_, .int fl])), (bp, .inl (G.2.2 0, 400, .inl bf))] ++ wt) s.heap := hP
  have hD : va_D A ([(tp, .inr (8, [.ref bp, .int n, .int at_, .int w_, .int fl])), (bp, .inl (G.2.2 0, 400, .inl bf))] ++ wt) := hD
  have hl := lv_entry ([.ref tp]) (n := 1) (Nat.le_of_ble_eq_true rfl)
  rw [lg_entry_eq]
  generalize (lg_sl ([.ref tp]) ++ List.replicate (1 - (lg_sl ([.ref tp])).length) Slot.unset).toArray = ls at hl ⊢
  have hl : lv_has ls 1 [(0, .ref tp)] := hl
  have lm1 : ((-1) : Int32).toInt = -1 := by decide +kernel
  have l1 : (1 : Int32).toInt = 1 := by decide +kernel
  refine lv_aload_n hx hb dX8_signBehind_0 rfl (lv_at hl 0 rfl) ?_
  refine gq_get hx hb ht hown hK hP i_X8 0 rfl rfl 2 (by decide) wd_158 rfl rfl dX8_signBehind_1 ?_
  refine lv_iconst (v := 1) hx hb dX8_signBehind_4 (by decide +kernel) ?_
  obtain ⟨t_1, et_1⟩ : ∃ zz_ : Int32, at_ + 1 = zz_ := ⟨_, rfl⟩
  refine gq_iadd hx hb t_1 et_1 dX8_signBehind_5 ?_
  have ft_1 := ia_add et_1 (by omega) (by omega)
  refine lv_aload_n hx hb dX8_signBehind_6 rfl (lv_at hl 0 rfl) ?_
  refine gq_get hx hb ht hown hK hP i_X8 0 rfl rfl 1 (by decide) wd_157 rfl rfl dX8_signBehind_7 ?_
  refine lv_icmp_ge (tgt := 27) hx hb dX8_signBehind_10 (by decide) (fun c_2 => ?_) (fun c_2 => ?_)
  · rw [Int32.le_iff_toInt_le] at c_2
    refine lv_iconst (v := (-1)) hx hb dX8_signBehind_27 (by decide +kernel) ?_
    have hP9 : va_P (gg_D G) classes ([(tp, .inr (8, [.ref bp, .int n, .int at_, .int w_, .int fl])), (bp, .inl (G.2.2 0, 400, .inl bf))] ++ wt) _ := hP
    have hD9 : va_D A ([(tp, .inr (8, [.ref bp, .int n, .int at_, .int w_, .int fl])), (bp, .inl (G.2.2 0, 400, .inl bf))] ++ wt) := hD
    exact W.iret (v := (-1)) hx hb hr (gq_endI wt ⟨hT, hW⟩ hP9 hD9 hS) hS.2.2 dX8_signBehind_28
  · rw [Int32.le_iff_toInt_le] at c_2
    refine lv_aload_n hx hb dX8_signBehind_13 rfl (lv_at hl 0 rfl) ?_
    refine gq_get hx hb ht hown hK hP i_X8 0 rfl rfl 0 (by decide) wd_156 rfl rfl dX8_signBehind_14 ?_
    refine lv_aload_n hx hb dX8_signBehind_17 rfl (lv_at hl 0 rfl) ?_
    refine gq_get hx hb ht hown hK hP i_X8 0 rfl rfl 2 (by decide) wd_158 rfl rfl dX8_signBehind_18 ?_
    refine lv_iconst (v := 1) hx hb dX8_signBehind_21 (by decide +kernel) ?_
    refine gq_iadd hx hb t_1 et_1 dX8_signBehind_22 ?_
    obtain ⟨n_3, en_3⟩ : ∃ zz_ : Int32, bf (Int32.toNatClampNeg t_1) = zz_ := ⟨_, rfl⟩
    refine gq_iald hx hb hK hP 1 rfl n_3 (ia_in (n := 400) (by omega) (by omega)) en_3 dX8_signBehind_23 ?_
    refine lv_goto (tgt := 28) hx hb dX8_signBehind_24 (by decide) ?_
    have hP9 : va_P (gg_D G) classes ([(tp, .inr (8, [.ref bp, .int n, .int at_, .int w_, .int fl])), (bp, .inl (G.2.2 0, 400, .inl bf))] ++ wt) _ := hP
    have hD9 : va_D A ([(tp, .inr (8, [.ref bp, .int n, .int at_, .int w_, .int fl])), (bp, .inl (G.2.2 0, 400, .inl bf))] ++ wt) := hD
    exact W.iret (v := n_3) hx hb hr (gq_endI wt ⟨hT, hW⟩ hP9 hD9 hS) hS.2.2 dX8_signBehind_28
set_option maxHeartbeats 4000000 in
set_option maxRecDepth 100000 in
theorem d_goTo (l : Launch) (G : gg_T) (Γ : Nat → Nat) (sz : Nat) (wt : va_W) (hT : tk_ty G Γ wt) (b : Int32) (tp : Nat) (bp : Nat) (n : Int32) (at_ : Int32) (w_ : Int32) (fl : Int32) (bf : Nat → Int32) (lo_b : 0 ≤ b.toInt) (hi_b : b.toInt ≤ 400) (xp1 : 0 ≤ n.toInt) (xp2 : n.toInt ≤ 400) (xp3 : 0 ≤ at_.toInt) (xp4 : 0 ≤ w_.toInt) (xp5 : at_.toInt + w_.toInt ≤ 400) : Met l yX8_goTo (ts_L yX8_goTo cX8_goTo 2 none) ({ frames := 0, cells := 0, slots := 0, locals := 0 }) (gc_P G ([(tp, .inr (8, [.ref bp, .int n, .int at_, .int w_, .int fl])), (bp, .inl (G.2.2 0, 400, .inl bf))] ++ wt) sz [.ref tp, .int b]) (gc_V G (va_A ([(tp, .inr (8, [.ref bp, .int n, .int at_, .int w_, .int fl])), (bp, .inl (G.2.2 0, 400, .inl bf))] ++ wt) sz) (fun (u : (Int32) × (Int32) × (Int32) × va_W) => match u with | (a1, w1, f1, wt1) => tk_ty G Γ wt1 ∧ tk_kp [] wt wt1 ∧ 0 ≤ a1.toInt ∧ 0 ≤ w1.toInt ∧ a1.toInt + w1.toInt ≤ 400) (fun (u : (Int32) × (Int32) × (Int32) × va_W) => match u with | (a1, w1, f1, wt1) => [(tp, .inr (8, [.ref bp, .int n, .int a1, .int w1, .int f1])), (bp, .inl (G.2.2 0, 400, .inl bf))] ++ wt1)) 0 0 (va_A ([(tp, .inr (8, [.ref bp, .int n, .int at_, .int w_, .int fl])), (bp, .inl (G.2.2 0, 400, .inl bf))] ++ wt) sz) := by
  refine Met.ofW (cc := cX8_goTo) (maxL := 2) (ret := none) (by decide) rfl ?_
  intro p e s m args below meth c s₁ B hml hv
  obtain ⟨rfl, hsz, hP, hK, hD0⟩ := hv
  have hx := B.exec
  have hb := B.bytes
  have hr := B.returns
  have ht := ts_ht (atoms_spec (ws := ts_L yX8_goTo cX8_goTo 2 none) B.pre)
  have hown : s.vm.findClass RX8 = some m.cls := findClass_of_methodNamed B.named
  have hlocks := B.notSynchronized
  subst hsz
  have hD := hD0.self (sz := s.heap.size)
  generalize hAe : va_A ([(tp, .inr (8, [.ref bp, .int n, .int at_, .int w_, .int fl])), (bp, .inl (G.2.2 0, 400, .inl bf))] ++ wt) s.heap.size = A at hD ⊢
  have hA : ∀ q : Nat, s.heap.size ≤ q → A q := fun q h => by rw [← hAe]; exact Or.inr h
  clear hAe hD0
  have hS : va_S A s.heap s.heap [] := va_S.rf
  obtain ⟨w0, hw0⟩ : ∃ z, z = wt := ⟨_, rfl⟩
  have hW : tk_kp [] w0 wt := by rw [hw0]; exact tk_kp.rf
  rw [← hw0]
  clear hw0
  have hP : va_P (gg_D G) classes ([(tp, .inr (8, [.ref bp, .int n, .int at_, .int w_, .int fl])), (bp, .inl (G.2.2 0, 400, .inl bf))] ++ wt) s.heap := hP
  have hD : va_D A ([(tp, .inr (8, [.ref bp, .int n, .int at_, .int w_, .int fl])), (bp, .inl (G.2.2 0, 400, .inl bf))] ++ wt) := hD
  have hl := lv_entry ([.ref tp, .int b]) (n := 2) (Nat.le_of_ble_eq_true rfl)
  rw [lg_entry_eq]
  generalize (lg_sl ([.ref tp, .int b]) ++ List.replicate (2 - (lg_sl ([.ref tp, .int b])).length) Slot.unset).toArray = ls at hl ⊢
  have hl : lv_has ls 2 [(0, .ref tp), (1, .int b)] := hl
  have l0 : (0 : Int32).toInt = 0 := by decide +kernel
  have l1 : (1 : Int32).toInt = 1 := by decide +kernel
  have l32 : (32 : Int32).toInt = 32 := by decide +kernel
  have l97 : (97 : Int32).toInt = 97 := by decide +kernel
  have l122 : (122 : Int32).toInt = 122 := by decide +kernel
  refine lv_aload_n hx hb dX8_goTo_0 rfl (lv_at hl 0 rfl) ?_
  refine lv_iload_n hx hb dX8_goTo_1 rfl (lv_at hl 1 rfl) ?_
  refine gq_put (ws' := [(tp, .inr (8, [.ref bp, .int n, .int b, .int w_, .int fl])), (bp, .inl (G.2.2 0, 400, .inl bf))] ++ wt) hx hb ht hown hK hP hD hS i_X8 tyX8 tyX8_ok nmX8 0 rfl rfl 2 (by decide) wd_158 rfl rfl rfl rfl (Nat.le_of_ble_eq_true rfl) rfl dX8_goTo_2 (fun H locs hP hD hS => ?_)
  refine tl_loopE (Γ := Γ) (nL := 2) (fun (zz_ : Int32) => match zz_ with | x5_0 => 0 ≤ x5_0.toInt ∧ x5_0.toInt ≤ 400) (fun (zz_ : Int32) => match zz_ with | x5_0 => (400 - x5_0.toInt).toNat) (fun (zz_ : Int32) => match zz_ with | x5_0 => [(0, .ref tp), (1, .int b)]) (fun (zz_ : Int32) => match zz_ with | x5_0 => [(tp, .inr (8, [.ref bp, .int n, .int x5_0, .int w_, .int fl])), (bp, .inl (G.2.2 0, 400, .inl bf))]) (fun (zz_ : Int32) (w : va_W) => match zz_ with | x5_0 => tk_kp [] w0 w) (fun zz_ hI H locs wt ls hT hW hP hD hS hl ih5 => ?_) b (show 0 ≤ b.toInt ∧ b.toInt ≤ 400 from ⟨by omega, by omega⟩) _ _ wt ls hT hW hP hD hS hl
  obtain ⟨x5_0, rfl⟩ : ∃ z2, z2 = zz_ := ⟨_, rfl⟩
  have hW : tk_kp [] w0 wt := hW
  have hI : 0 ≤ x5_0.toInt ∧ x5_0.toInt ≤ 400 := hI
  obtain ⟨j5_0, j5_1⟩ := hI
  have hl : lv_has ls 2 [(0, .ref tp), (1, .int b)] := hl
  have hP : va_P (gg_D G) classes ([(tp, .inr (8, [.ref bp, .int n, .int x5_0, .int w_, .int fl])), (bp, .inl (G.2.2 0, 400, .inl bf))] ++ wt) H := hP
  have hD : va_D A ([(tp, .inr (8, [.ref bp, .int n, .int x5_0, .int w_, .int fl])), (bp, .inl (G.2.2 0, 400, .inl bf))] ++ wt) := hD
  refine lv_aload_n hx hb dX8_goTo_5 rfl (lv_at hl 0 rfl) ?_
  refine gq_get hx hb ht hown hK hP i_X8 0 rfl rfl 2 (by decide) wd_158 rfl rfl dX8_goTo_6 ?_
  refine lv_aload_n hx hb dX8_goTo_9 rfl (lv_at hl 0 rfl) ?_
  refine gq_get hx hb ht hown hK hP i_X8 0 rfl rfl 1 (by decide) wd_157 rfl rfl dX8_goTo_10 ?_
  refine lv_icmp_ge (tgt := 43) hx hb dX8_goTo_13 (by decide) (fun c_1 => ?_) (fun c_1 => ?_)
  · rw [Int32.le_iff_toInt_le] at c_1
    refine lv_aload_n hx hb dX8_goTo_43 rfl (lv_at hl 0 rfl) ?_
    refine lv_iconst (v := 0) hx hb dX8_goTo_44 (by decide +kernel) ?_
    refine gq_put (ws' := [(tp, .inr (8, [.ref bp, .int n, .int x5_0, .int 0, .int fl])), (bp, .inl (G.2.2 0, 400, .inl bf))] ++ wt) hx hb ht hown hK hP hD hS i_X8 tyX8 tyX8_ok nmX8 0 rfl rfl 3 (by decide) wd_159 rfl rfl rfl rfl (Nat.le_of_ble_eq_true rfl) rfl dX8_goTo_45 (fun H locs hP hD hS => ?_)
    refine tl_loopE (Γ := Γ) (nL := 2) (fun (zz_ : Int32) => match zz_ with | x48_0 => 0 ≤ x48_0.toInt ∧ x48_0.toInt ≤ 400 ∧ x5_0.toInt + x48_0.toInt ≤ 400) (fun (zz_ : Int32) => match zz_ with | x48_0 => (400 - x48_0.toInt).toNat) (fun (zz_ : Int32) => match zz_ with | x48_0 => [(0, .ref tp), (1, .int b)]) (fun (zz_ : Int32) => match zz_ with | x48_0 => [(tp, .inr (8, [.ref bp, .int n, .int x5_0, .int x48_0, .int fl])), (bp, .inl (G.2.2 0, 400, .inl bf))]) (fun (zz_ : Int32) (w : va_W) => match zz_ with | x48_0 => tk_kp [] w0 w) (fun zz_ hI H locs wt ls hT hW hP hD hS hl ih48 => ?_) 0 (show 0 ≤ (0 : Int32).toInt ∧ (0 : Int32).toInt ≤ 400 ∧ x5_0.toInt + (0 : Int32).toInt ≤ 400 from ⟨by omega, by omega, by omega⟩) _ _ wt ls hT hW hP hD hS hl
    obtain ⟨x48_0, rfl⟩ : ∃ z2, z2 = zz_ := ⟨_, rfl⟩
    have hW : tk_kp [] w0 wt := hW
    have hI : 0 ≤ x48_0.toInt ∧ x48_0.toInt ≤ 400 ∧ x5_0.toInt + x48_0.toInt ≤ 400 := hI
    obtain ⟨j48_0, j48_1, j48_2⟩ := hI
    have hl : lv_has ls 2 [(0, .ref tp), (1, .int b)] := hl
    have hP : va_P (gg_D G) classes ([(tp, .inr (8, [.ref bp, .int n, .int x5_0, .int x48_0, .int fl])), (bp, .inl (G.2.2 0, 400, .inl bf))] ++ wt) H := hP
    have hD : va_D A ([(tp, .inr (8, [.ref bp, .int n, .int x5_0, .int x48_0, .int fl])), (bp, .inl (G.2.2 0, 400, .inl bf))] ++ wt) := hD
    refine lv_aload_n hx hb dX8_goTo_48 rfl (lv_at hl 0 rfl) ?_
    refine gq_get hx hb ht hown hK hP i_X8 0 rfl rfl 2 (by decide) wd_158 rfl rfl dX8_goTo_49 ?_
    refine lv_aload_n hx hb dX8_goTo_52 rfl (lv_at hl 0 rfl) ?_
    refine gq_get hx hb ht hown hK hP i_X8 0 rfl rfl 3 (by decide) wd_159 rfl rfl dX8_goTo_53 ?_
    obtain ⟨t_2, et_2⟩ : ∃ zz_ : Int32, x5_0 + x48_0 = zz_ := ⟨_, rfl⟩
    refine gq_iadd hx hb t_2 et_2 dX8_goTo_56 ?_
    have ft_2 := ia_add et_2 (by omega) (by omega)
    refine lv_aload_n hx hb dX8_goTo_57 rfl (lv_at hl 0 rfl) ?_
    refine gq_get hx hb ht hown hK hP i_X8 0 rfl rfl 1 (by decide) wd_157 rfl rfl dX8_goTo_58 ?_
    refine lv_icmp_ge (tgt := 115) hx hb dX8_goTo_61 (by decide) (fun c_3 => ?_) (fun c_3 => ?_)
    · rw [Int32.le_iff_toInt_le] at c_3
      have hP9 : va_P (gg_D G) classes ([(tp, .inr (8, [.ref bp, .int n, .int x5_0, .int x48_0, .int fl])), (bp, .inl (G.2.2 0, 400, .inl bf))] ++ wt) _ := hP
      have hD9 : va_D A ([(tp, .inr (8, [.ref bp, .int n, .int x5_0, .int x48_0, .int fl])), (bp, .inl (G.2.2 0, 400, .inl bf))] ++ wt) := hD
      exact W.vret hx hb hr (gq_endV (x5_0, x48_0, fl, wt) ⟨hT, hW, (by omega), (by omega), (by omega)⟩ hP9 hD9 hS) hS.2.2 dX8_goTo_115
    · rw [Int32.le_iff_toInt_le] at c_3
      refine lv_aload_n hx hb dX8_goTo_64 rfl (lv_at hl 0 rfl) ?_
      refine gq_get hx hb ht hown hK hP i_X8 0 rfl rfl 0 (by decide) wd_156 rfl rfl dX8_goTo_65 ?_
      refine lv_aload_n hx hb dX8_goTo_68 rfl (lv_at hl 0 rfl) ?_
      refine gq_get hx hb ht hown hK hP i_X8 0 rfl rfl 2 (by decide) wd_158 rfl rfl dX8_goTo_69 ?_
      refine lv_aload_n hx hb dX8_goTo_72 rfl (lv_at hl 0 rfl) ?_
      refine gq_get hx hb ht hown hK hP i_X8 0 rfl rfl 3 (by decide) wd_159 rfl rfl dX8_goTo_73 ?_
      refine gq_iadd hx hb t_2 et_2 dX8_goTo_76 ?_
      obtain ⟨n_4, en_4⟩ : ∃ zz_ : Int32, bf (Int32.toNatClampNeg t_2) = zz_ := ⟨_, rfl⟩
      refine gq_iald hx hb hK hP 1 rfl n_4 (ia_in (n := 400) (by omega) (by omega)) en_4 dX8_goTo_77 ?_
      refine lv_bipush (v := 97) hx hb dX8_goTo_78 (by decide +kernel) ?_
      refine lv_icmp_lt (tgt := 115) hx hb dX8_goTo_80 (by decide) (fun c_5 => ?_) (fun c_5 => ?_)
      · rw [Int32.lt_iff_toInt_lt] at c_5
        have hP9 : va_P (gg_D G) classes ([(tp, .inr (8, [.ref bp, .int n, .int x5_0, .int x48_0, .int fl])), (bp, .inl (G.2.2 0, 400, .inl bf))] ++ wt) _ := hP
        have hD9 : va_D A ([(tp, .inr (8, [.ref bp, .int n, .int x5_0, .int x48_0, .int fl])), (bp, .inl (G.2.2 0, 400, .inl bf))] ++ wt) := hD
        exact W.vret hx hb hr (gq_endV (x5_0, x48_0, fl, wt) ⟨hT, hW, (by omega), (by omega), (by omega)⟩ hP9 hD9 hS) hS.2.2 dX8_goTo_115
      · rw [Int32.lt_iff_toInt_lt] at c_5
        refine lv_aload_n hx hb dX8_goTo_83 rfl (lv_at hl 0 rfl) ?_
        refine gq_get hx hb ht hown hK hP i_X8 0 rfl rfl 0 (by decide) wd_156 rfl rfl dX8_goTo_84 ?_
        refine lv_aload_n hx hb dX8_goTo_87 rfl (lv_at hl 0 rfl) ?_
        refine gq_get hx hb ht hown hK hP i_X8 0 rfl rfl 2 (by decide) wd_158 rfl rfl dX8_goTo_88 ?_
        refine lv_aload_n hx hb dX8_goTo_91 rfl (lv_at hl 0 rfl) ?_
        refine gq_get hx hb ht hown hK hP i_X8 0 rfl rfl 3 (by decide) wd_159 rfl rfl dX8_goTo_92 ?_
        refine gq_iadd hx hb t_2 et_2 dX8_goTo_95 ?_
        refine gq_iald hx hb hK hP 1 rfl n_4 (ia_in (n := 400) (by omega) (by omega)) en_4 dX8_goTo_96 ?_
        refine lv_bipush (v := 122) hx hb dX8_goTo_97 (by decide +kernel) ?_
        refine lv_icmp_gt (tgt := 115) hx hb dX8_goTo_99 (by decide) (fun c_6 => ?_) (fun c_6 => ?_)
        · rw [Int32.lt_iff_toInt_lt] at c_6
          have hP9 : va_P (gg_D G) classes ([(tp, .inr (8, [.ref bp, .int n, .int x5_0, .int x48_0, .int fl])), (bp, .inl (G.2.2 0, 400, .inl bf))] ++ wt) _ := hP
          have hD9 : va_D A ([(tp, .inr (8, [.ref bp, .int n, .int x5_0, .int x48_0, .int fl])), (bp, .inl (G.2.2 0, 400, .inl bf))] ++ wt) := hD
          exact W.vret hx hb hr (gq_endV (x5_0, x48_0, fl, wt) ⟨hT, hW, (by omega), (by omega), (by omega)⟩ hP9 hD9 hS) hS.2.2 dX8_goTo_115
        · rw [Int32.lt_iff_toInt_lt] at c_6
          refine lv_aload_n hx hb dX8_goTo_102 rfl (lv_at hl 0 rfl) ?_
          refine lv_dup hx hb dX8_goTo_103 rfl ?_
          refine gq_get hx hb ht hown hK hP i_X8 0 rfl rfl 3 (by decide) wd_159 rfl rfl dX8_goTo_104 ?_
          refine lv_iconst (v := 1) hx hb dX8_goTo_107 (by decide +kernel) ?_
          obtain ⟨t_7, et_7⟩ : ∃ zz_ : Int32, x48_0 + 1 = zz_ := ⟨_, rfl⟩
          refine gq_iadd hx hb t_7 et_7 dX8_goTo_108 ?_
          have ft_7 := ia_add et_7 (by omega) (by omega)
          refine gq_put (ws' := [(tp, .inr (8, [.ref bp, .int n, .int x5_0, .int t_7, .int fl])), (bp, .inl (G.2.2 0, 400, .inl bf))] ++ wt) hx hb ht hown hK hP hD hS i_X8 tyX8 tyX8_ok nmX8 0 rfl rfl 3 (by decide) wd_159 rfl rfl rfl rfl (Nat.le_of_ble_eq_true rfl) rfl dX8_goTo_109 (fun H locs hP hD hS => ?_)
          refine lv_goto (tgt := 48) hx hb dX8_goTo_112 (by decide) ?_
          exact ih48 t_7 (show 0 ≤ t_7.toInt ∧ t_7.toInt ≤ 400 ∧ x5_0.toInt + t_7.toInt ≤ 400 from ⟨by omega, by omega, by omega⟩) (show (400 - t_7.toInt).toNat < (400 - x48_0.toInt).toNat by omega) H locs wt ls hT hW hP hD hS (lv_sub hl [0, 1] rfl)
  · rw [Int32.le_iff_toInt_le] at c_1
    refine lv_aload_n hx hb dX8_goTo_16 rfl (lv_at hl 0 rfl) ?_
    refine gq_get hx hb ht hown hK hP i_X8 0 rfl rfl 0 (by decide) wd_156 rfl rfl dX8_goTo_17 ?_
    refine lv_aload_n hx hb dX8_goTo_20 rfl (lv_at hl 0 rfl) ?_
    refine gq_get hx hb ht hown hK hP i_X8 0 rfl rfl 2 (by decide) wd_158 rfl rfl dX8_goTo_21 ?_
    obtain ⟨n_8, en_8⟩ : ∃ zz_ : Int32, bf (Int32.toNatClampNeg x5_0) = zz_ := ⟨_, rfl⟩
    refine gq_iald hx hb hK hP 1 rfl n_8 (ia_in (n := 400) (by omega) (by omega)) en_8 dX8_goTo_24 ?_
    refine lv_bipush (v := 32) hx hb dX8_goTo_25 (by decide +kernel) ?_
    refine lv_icmp_ne (tgt := 43) hx hb dX8_goTo_27 (by decide) (fun c_9 => ?_) (fun c_9 => ?_)
    · rw [← Int32.toInt_inj] at c_9
      refine lv_aload_n hx hb dX8_goTo_43 rfl (lv_at hl 0 rfl) ?_
      refine lv_iconst (v := 0) hx hb dX8_goTo_44 (by decide +kernel) ?_
      refine gq_put (ws' := [(tp, .inr (8, [.ref bp, .int n, .int x5_0, .int 0, .int fl])), (bp, .inl (G.2.2 0, 400, .inl bf))] ++ wt) hx hb ht hown hK hP hD hS i_X8 tyX8 tyX8_ok nmX8 0 rfl rfl 3 (by decide) wd_159 rfl rfl rfl rfl (Nat.le_of_ble_eq_true rfl) rfl dX8_goTo_45 (fun H locs hP hD hS => ?_)
      refine tl_loopE (Γ := Γ) (nL := 2) (fun (zz_ : Int32) => match zz_ with | x48_0 => 0 ≤ x48_0.toInt ∧ x48_0.toInt ≤ 400 ∧ x5_0.toInt + x48_0.toInt ≤ 400) (fun (zz_ : Int32) => match zz_ with | x48_0 => (400 - x48_0.toInt).toNat) (fun (zz_ : Int32) => match zz_ with | x48_0 => [(0, .ref tp), (1, .int b)]) (fun (zz_ : Int32) => match zz_ with | x48_0 => [(tp, .inr (8, [.ref bp, .int n, .int x5_0, .int x48_0, .int fl])), (bp, .inl (G.2.2 0, 400, .inl bf))]) (fun (zz_ : Int32) (w : va_W) => match zz_ with | x48_0 => tk_kp [] w0 w) (fun zz_ hI H locs wt ls hT hW hP hD hS hl ih48 => ?_) 0 (show 0 ≤ (0 : Int32).toInt ∧ (0 : Int32).toInt ≤ 400 ∧ x5_0.toInt + (0 : Int32).toInt ≤ 400 from ⟨by omega, by omega, by omega⟩) _ _ wt ls hT hW hP hD hS hl
      obtain ⟨x48_0, rfl⟩ : ∃ z2, z2 = zz_ := ⟨_, rfl⟩
      have hW : tk_kp [] w0 wt := hW
      have hI : 0 ≤ x48_0.toInt ∧ x48_0.toInt ≤ 400 ∧ x5_0.toInt + x48_0.toInt ≤ 400 := hI
      obtain ⟨j48_0, j48_1, j48_2⟩ := hI
      have hl : lv_has ls 2 [(0, .ref tp), (1, .int b)] := hl
      have hP : va_P (gg_D G) classes ([(tp, .inr (8, [.ref bp, .int n, .int x5_0, .int x48_0, .int fl])), (bp, .inl (G.2.2 0, 400, .inl bf))] ++ wt) H := hP
      have hD : va_D A ([(tp, .inr (8, [.ref bp, .int n, .int x5_0, .int x48_0, .int fl])), (bp, .inl (G.2.2 0, 400, .inl bf))] ++ wt) := hD
      refine lv_aload_n hx hb dX8_goTo_48 rfl (lv_at hl 0 rfl) ?_
      refine gq_get hx hb ht hown hK hP i_X8 0 rfl rfl 2 (by decide) wd_158 rfl rfl dX8_goTo_49 ?_
      refine lv_aload_n hx hb dX8_goTo_52 rfl (lv_at hl 0 rfl) ?_
      refine gq_get hx hb ht hown hK hP i_X8 0 rfl rfl 3 (by decide) wd_159 rfl rfl dX8_goTo_53 ?_
      obtain ⟨t_10, et_10⟩ : ∃ zz_ : Int32, x5_0 + x48_0 = zz_ := ⟨_, rfl⟩
      refine gq_iadd hx hb t_10 et_10 dX8_goTo_56 ?_
      have ft_10 := ia_add et_10 (by omega) (by omega)
      refine lv_aload_n hx hb dX8_goTo_57 rfl (lv_at hl 0 rfl) ?_
      refine gq_get hx hb ht hown hK hP i_X8 0 rfl rfl 1 (by decide) wd_157 rfl rfl dX8_goTo_58 ?_
      refine lv_icmp_ge (tgt := 115) hx hb dX8_goTo_61 (by decide) (fun c_11 => ?_) (fun c_11 => ?_)
      · rw [Int32.le_iff_toInt_le] at c_11
        have hP9 : va_P (gg_D G) classes ([(tp, .inr (8, [.ref bp, .int n, .int x5_0, .int x48_0, .int fl])), (bp, .inl (G.2.2 0, 400, .inl bf))] ++ wt) _ := hP
        have hD9 : va_D A ([(tp, .inr (8, [.ref bp, .int n, .int x5_0, .int x48_0, .int fl])), (bp, .inl (G.2.2 0, 400, .inl bf))] ++ wt) := hD
        exact W.vret hx hb hr (gq_endV (x5_0, x48_0, fl, wt) ⟨hT, hW, (by omega), (by omega), (by omega)⟩ hP9 hD9 hS) hS.2.2 dX8_goTo_115
      · rw [Int32.le_iff_toInt_le] at c_11
        refine lv_aload_n hx hb dX8_goTo_64 rfl (lv_at hl 0 rfl) ?_
        refine gq_get hx hb ht hown hK hP i_X8 0 rfl rfl 0 (by decide) wd_156 rfl rfl dX8_goTo_65 ?_
        refine lv_aload_n hx hb dX8_goTo_68 rfl (lv_at hl 0 rfl) ?_
        refine gq_get hx hb ht hown hK hP i_X8 0 rfl rfl 2 (by decide) wd_158 rfl rfl dX8_goTo_69 ?_
        refine lv_aload_n hx hb dX8_goTo_72 rfl (lv_at hl 0 rfl) ?_
        refine gq_get hx hb ht hown hK hP i_X8 0 rfl rfl 3 (by decide) wd_159 rfl rfl dX8_goTo_73 ?_
        refine gq_iadd hx hb t_10 et_10 dX8_goTo_76 ?_
        obtain ⟨n_12, en_12⟩ : ∃ zz_ : Int32, bf (Int32.toNatClampNeg t_10) = zz_ := ⟨_, rfl⟩
        refine gq_iald hx hb hK hP 1 rfl n_12 (ia_in (n := 400) (by omega) (by omega)) en_12 dX8_goTo_77 ?_
        refine lv_bipush (v := 97) hx hb dX8_goTo_78 (by decide +kernel) ?_
        refine lv_icmp_lt (tgt := 115) hx hb dX8_goTo_80 (by decide) (fun c_13 => ?_) (fun c_13 => ?_)
        · rw [Int32.lt_iff_toInt_lt] at c_13
          have hP9 : va_P (gg_D G) classes ([(tp, .inr (8, [.ref bp, .int n, .int x5_0, .int x48_0, .int fl])), (bp, .inl (G.2.2 0, 400, .inl bf))] ++ wt) _ := hP
          have hD9 : va_D A ([(tp, .inr (8, [.ref bp, .int n, .int x5_0, .int x48_0, .int fl])), (bp, .inl (G.2.2 0, 400, .inl bf))] ++ wt) := hD
          exact W.vret hx hb hr (gq_endV (x5_0, x48_0, fl, wt) ⟨hT, hW, (by omega), (by omega), (by omega)⟩ hP9 hD9 hS) hS.2.2 dX8_goTo_115
        · rw [Int32.lt_iff_toInt_lt] at c_13
          refine lv_aload_n hx hb dX8_goTo_83 rfl (lv_at hl 0 rfl) ?_
          refine gq_get hx hb ht hown hK hP i_X8 0 rfl rfl 0 (by decide) wd_156 rfl rfl dX8_goTo_84 ?_
          refine lv_aload_n hx hb dX8_goTo_87 rfl (lv_at hl 0 rfl) ?_
          refine gq_get hx hb ht hown hK hP i_X8 0 rfl rfl 2 (by decide) wd_158 rfl rfl dX8_goTo_88 ?_
          refine lv_aload_n hx hb dX8_goTo_91 rfl (lv_at hl 0 rfl) ?_
          refine gq_get hx hb ht hown hK hP i_X8 0 rfl rfl 3 (by decide) wd_159 rfl rfl dX8_goTo_92 ?_
          refine gq_iadd hx hb t_10 et_10 dX8_goTo_95 ?_
          refine gq_iald hx hb hK hP 1 rfl n_12 (ia_in (n := 400) (by omega) (by omega)) en_12 dX8_goTo_96 ?_
          refine lv_bipush (v := 122) hx hb dX8_goTo_97 (by decide +kernel) ?_
          refine lv_icmp_gt (tgt := 115) hx hb dX8_goTo_99 (by decide) (fun c_14 => ?_) (fun c_14 => ?_)
          · rw [Int32.lt_iff_toInt_lt] at c_14
            have hP9 : va_P (gg_D G) classes ([(tp, .inr (8, [.ref bp, .int n, .int x5_0, .int x48_0, .int fl])), (bp, .inl (G.2.2 0, 400, .inl bf))] ++ wt) _ := hP
            have hD9 : va_D A ([(tp, .inr (8, [.ref bp, .int n, .int x5_0, .int x48_0, .int fl])), (bp, .inl (G.2.2 0, 400, .inl bf))] ++ wt) := hD
            exact W.vret hx hb hr (gq_endV (x5_0, x48_0, fl, wt) ⟨hT, hW, (by omega), (by omega), (by omega)⟩ hP9 hD9 hS) hS.2.2 dX8_goTo_115
          · rw [Int32.lt_iff_toInt_lt] at c_14
            refine lv_aload_n hx hb dX8_goTo_102 rfl (lv_at hl 0 rfl) ?_
            refine lv_dup hx hb dX8_goTo_103 rfl ?_
            refine gq_get hx hb ht hown hK hP i_X8 0 rfl rfl 3 (by decide) wd_159 rfl rfl dX8_goTo_104 ?_
            refine lv_iconst (v := 1) hx hb dX8_goTo_107 (by decide +kernel) ?_
            obtain ⟨t_15, et_15⟩ : ∃ zz_ : Int32, x48_0 + 1 = zz_ := ⟨_, rfl⟩
            refine gq_iadd hx hb t_15 et_15 dX8_goTo_108 ?_
            have ft_15 := ia_add et_15 (by omega) (by omega)
            refine gq_put (ws' := [(tp, .inr (8, [.ref bp, .int n, .int x5_0, .int t_15, .int fl])), (bp, .inl (G.2.2 0, 400, .inl bf))] ++ wt) hx hb ht hown hK hP hD hS i_X8 tyX8 tyX8_ok nmX8 0 rfl rfl 3 (by decide) wd_159 rfl rfl rfl rfl (Nat.le_of_ble_eq_true rfl) rfl dX8_goTo_109 (fun H locs hP hD hS => ?_)
            refine lv_goto (tgt := 48) hx hb dX8_goTo_112 (by decide) ?_
            exact ih48 t_15 (show 0 ≤ t_15.toInt ∧ t_15.toInt ≤ 400 ∧ x5_0.toInt + t_15.toInt ≤ 400 from ⟨by omega, by omega, by omega⟩) (show (400 - t_15.toInt).toNat < (400 - x48_0.toInt).toNat by omega) H locs wt ls hT hW hP hD hS (lv_sub hl [0, 1] rfl)
    · rw [← Int32.toInt_inj] at c_9
      refine lv_aload_n hx hb dX8_goTo_30 rfl (lv_at hl 0 rfl) ?_
      refine lv_dup hx hb dX8_goTo_31 rfl ?_
      refine gq_get hx hb ht hown hK hP i_X8 0 rfl rfl 2 (by decide) wd_158 rfl rfl dX8_goTo_32 ?_
      refine lv_iconst (v := 1) hx hb dX8_goTo_35 (by decide +kernel) ?_
      obtain ⟨t_16, et_16⟩ : ∃ zz_ : Int32, x5_0 + 1 = zz_ := ⟨_, rfl⟩
      refine gq_iadd hx hb t_16 et_16 dX8_goTo_36 ?_
      have ft_16 := ia_add et_16 (by omega) (by omega)
      refine gq_put (ws' := [(tp, .inr (8, [.ref bp, .int n, .int t_16, .int w_, .int fl])), (bp, .inl (G.2.2 0, 400, .inl bf))] ++ wt) hx hb ht hown hK hP hD hS i_X8 tyX8 tyX8_ok nmX8 0 rfl rfl 2 (by decide) wd_158 rfl rfl rfl rfl (Nat.le_of_ble_eq_true rfl) rfl dX8_goTo_37 (fun H locs hP hD hS => ?_)
      refine lv_goto (tgt := 5) hx hb dX8_goTo_40 (by decide) ?_
      exact ih5 t_16 (show 0 ≤ t_16.toInt ∧ t_16.toInt ≤ 400 from ⟨by omega, by omega⟩) (show (400 - t_16.toInt).toNat < (400 - x5_0.toInt).toNat by omega) H locs wt ls hT hW hP hD hS (lv_sub hl [0, 1] rfl)
set_option maxHeartbeats 4000000 in
set_option maxRecDepth 100000 in
theorem d_rewind (l : Launch) (G : gg_T) (Γ : Nat → Nat) (sz : Nat) (wt : va_W) (hT : tk_ty G Γ wt) (tp : Nat) (bp : Nat) (n : Int32) (at_ : Int32) (w_ : Int32) (fl : Int32) (bf : Nat → Int32) (xp1 : 0 ≤ n.toInt) (xp2 : n.toInt ≤ 400) (xp3 : 0 ≤ at_.toInt) (xp4 : 0 ≤ w_.toInt) (xp5 : at_.toInt + w_.toInt ≤ 400) : Met l yX8_rewind (ts_L yX8_rewind cX8_rewind 1 none) ({ frames := 1, cells := 0, slots := 0, locals := 21 }) (gc_P G ([(tp, .inr (8, [.ref bp, .int n, .int at_, .int w_, .int fl])), (bp, .inl (G.2.2 0, 400, .inl bf))] ++ wt) sz [.ref tp]) (gc_V G (va_A ([(tp, .inr (8, [.ref bp, .int n, .int at_, .int w_, .int fl])), (bp, .inl (G.2.2 0, 400, .inl bf))] ++ wt) sz) (fun (u : (Int32) × (Int32) × (Int32) × va_W) => match u with | (a1, w1, f1, wt1) => tk_ty G Γ wt1 ∧ tk_kp [] wt wt1 ∧ 0 ≤ a1.toInt ∧ 0 ≤ w1.toInt ∧ a1.toInt + w1.toInt ≤ 400) (fun (u : (Int32) × (Int32) × (Int32) × va_W) => match u with | (a1, w1, f1, wt1) => [(tp, .inr (8, [.ref bp, .int n, .int a1, .int w1, .int f1])), (bp, .inl (G.2.2 0, 400, .inl bf))] ++ wt1)) 0 0 (va_A ([(tp, .inr (8, [.ref bp, .int n, .int at_, .int w_, .int fl])), (bp, .inl (G.2.2 0, 400, .inl bf))] ++ wt) sz) := by
  refine Met.ofW (cc := cX8_rewind) (maxL := 1) (ret := none) (by decide) rfl ?_
  intro p e s m args below meth c s₁ B hml hv
  obtain ⟨rfl, hsz, hP, hK, hD0⟩ := hv
  have hx := B.exec
  have hb := B.bytes
  have hr := B.returns
  have ht := ts_ht (atoms_spec (ws := ts_L yX8_rewind cX8_rewind 1 none) B.pre)
  have hown : s.vm.findClass RX8 = some m.cls := findClass_of_methodNamed B.named
  have hlocks := B.notSynchronized
  subst hsz
  have hD := hD0.self (sz := s.heap.size)
  generalize hAe : va_A ([(tp, .inr (8, [.ref bp, .int n, .int at_, .int w_, .int fl])), (bp, .inl (G.2.2 0, 400, .inl bf))] ++ wt) s.heap.size = A at hD ⊢
  have hA : ∀ q : Nat, s.heap.size ≤ q → A q := fun q h => by rw [← hAe]; exact Or.inr h
  clear hAe hD0
  have hS : va_S A s.heap s.heap [] := va_S.rf
  obtain ⟨w0, hw0⟩ : ∃ z, z = wt := ⟨_, rfl⟩
  have hW : tk_kp [] w0 wt := by rw [hw0]; exact tk_kp.rf
  rw [← hw0]
  clear hw0
  have hP : va_P (gg_D G) classes ([(tp, .inr (8, [.ref bp, .int n, .int at_, .int w_, .int fl])), (bp, .inl (G.2.2 0, 400, .inl bf))] ++ wt) s.heap := hP
  have hD : va_D A ([(tp, .inr (8, [.ref bp, .int n, .int at_, .int w_, .int fl])), (bp, .inl (G.2.2 0, 400, .inl bf))] ++ wt) := hD
  have hl := lv_entry ([.ref tp]) (n := 1) (Nat.le_of_ble_eq_true rfl)
  rw [lg_entry_eq]
  generalize (lg_sl ([.ref tp]) ++ List.replicate (1 - (lg_sl ([.ref tp])).length) Slot.unset).toArray = ls at hl ⊢
  have hl : lv_has ls 1 [(0, .ref tp)] := hl
  have l0 : (0 : Int32).toInt = 0 := by decide +kernel
  refine lv_aload_n hx hb dX8_rewind_0 rfl (lv_at hl 0 rfl) ?_
  refine lv_iconst (v := 0) hx hb dX8_rewind_1 (by decide +kernel) ?_
  refine gq_put (ws' := [(tp, .inr (8, [.ref bp, .int n, .int at_, .int w_, .int 0])), (bp, .inl (G.2.2 0, 400, .inl bf))] ++ wt) hx hb ht hown hK hP hD hS i_X8 tyX8 tyX8_ok nmX8 0 rfl rfl 4 (by decide) wd_160 rfl rfl rfl rfl (Nat.le_of_ble_eq_true rfl) rfl dX8_rewind_2 (fun H locs hP hD hS => ?_)
  refine lv_aload_n hx hb dX8_rewind_5 rfl (lv_at hl 0 rfl) ?_
  refine lv_iconst (v := 0) hx hb dX8_rewind_6 (by decide +kernel) ?_
  have hP : va_P (gg_D G) classes ([] ++ ([(tp, .inr (8, [.ref bp, .int n, .int at_, .int w_, .int 0])), (bp, .inl (G.2.2 0, 400, .inl bf))] ++ wt)) H := hP
  have hD : va_D A ([] ++ ([(tp, .inr (8, [.ref bp, .int n, .int at_, .int w_, .int 0])), (bp, .inl (G.2.2 0, 400, .inl bf))] ++ wt)) := hD
  refine gt_callV (wr := []) (va_runV (As := [.int 0]) (rest := []) ⟨hx, hb, hml, hown, ht⟩ (d_goTo l G Γ H.size wt hT 0 tp bp n at_ w_ 0 bf (by omega) (by omega) (by first | assumption | omega) (by first | assumption | omega) (by first | assumption | omega) (by first | assumption | omega) (by first | assumption | omega)) (cwV 1 ht (ts_gV wd_578 wd_580 wd_0 wd_123 wd_581) rfl rfl rfl (by decide +kernel) ⟨Nat.le_of_ble_eq_true rfl, Nat.le_of_ble_eq_true rfl⟩) (gc_preV (ci := 8) (q0 := 0) hK (tw_right hP) (tw_rightD hD) rfl rfl) rfl rfl hl.1 rfl (lv_room (Nat.le_of_ble_eq_true rfl)) dX8_rewind_7 ⟨Nat.le_of_ble_eq_true rfl, Nat.le_of_ble_eq_true rfl⟩) hP hD hS hA (fun u H locs hw hP hD hS => ?_)
  obtain ⟨y_1, y_2, y_3, wt⟩ := u
  obtain ⟨hT, hkp, w_4, w_5, w_6⟩ := hw
  have hW := hW.call (show ∀ x ∈ [], x ∈ [] by decide) hkp
  have hP : va_P (gg_D G) classes ([(tp, .inr (8, [.ref bp, .int n, .int y_1, .int y_2, .int y_3])), (bp, .inl (G.2.2 0, 400, .inl bf))] ++ wt) H := hP
  have hD : va_D A ([(tp, .inr (8, [.ref bp, .int n, .int y_1, .int y_2, .int y_3])), (bp, .inl (G.2.2 0, 400, .inl bf))] ++ wt) := hD
  have hP9 : va_P (gg_D G) classes ([(tp, .inr (8, [.ref bp, .int n, .int y_1, .int y_2, .int y_3])), (bp, .inl (G.2.2 0, 400, .inl bf))] ++ wt) _ := hP
  have hD9 : va_D A ([(tp, .inr (8, [.ref bp, .int n, .int y_1, .int y_2, .int y_3])), (bp, .inl (G.2.2 0, 400, .inl bf))] ++ wt) := hD
  exact W.vret hx hb hr (gq_endV (y_1, y_2, y_3, wt) ⟨hT, hW, (by omega), (by omega), (by omega)⟩ hP9 hD9 hS) hS.2.2 dX8_rewind_10
set_option maxHeartbeats 4000000 in
set_option maxRecDepth 100000 in
theorem d_refuse (l : Launch) (G : gg_T) (Γ : Nat → Nat) (sz : Nat) (wt : va_W) (hT : tk_ty G Γ wt) (b : Int32) (w : Int32) (tp : Nat) (bp : Nat) (n : Int32) (at_ : Int32) (w_ : Int32) (fl : Int32) (bf : Nat → Int32) (xp1 : 0 ≤ n.toInt) (xp2 : n.toInt ≤ 400) (xp3 : 0 ≤ at_.toInt) (xp4 : 0 ≤ w_.toInt) (xp5 : at_.toInt + w_.toInt ≤ 400) : Met l yX8_refuse (ts_L yX8_refuse cX8_refuse 3 (some .boolean)) ({ frames := 0, cells := 0, slots := 0, locals := 0 }) (gc_P G ([(tp, .inr (8, [.ref bp, .int n, .int at_, .int w_, .int fl])), (bp, .inl (G.2.2 0, 400, .inl bf))] ++ wt) sz [.ref tp, .int b, .int w]) (gc_I G (va_A ([(tp, .inr (8, [.ref bp, .int n, .int at_, .int w_, .int fl])), (bp, .inl (G.2.2 0, 400, .inl bf))] ++ wt) sz) (fun r (u : (Int32) × (Int32) × (Int32) × va_W) => match u with | (a1, w1, f1, wt1) => tk_ty G Γ wt1 ∧ tk_kp [] wt wt1 ∧ 0 ≤ a1.toInt ∧ 0 ≤ w1.toInt ∧ a1.toInt + w1.toInt ≤ 400 ∧ 0 ≤ r.toInt ∧ r.toInt ≤ 0) (fun (u : (Int32) × (Int32) × (Int32) × va_W) => match u with | (a1, w1, f1, wt1) => [(tp, .inr (8, [.ref bp, .int n, .int a1, .int w1, .int f1])), (bp, .inl (G.2.2 0, 400, .inl bf))] ++ wt1)) 0 0 (va_A ([(tp, .inr (8, [.ref bp, .int n, .int at_, .int w_, .int fl])), (bp, .inl (G.2.2 0, 400, .inl bf))] ++ wt) sz) := by
  refine Met.ofW (cc := cX8_refuse) (maxL := 3) (ret := (some .boolean)) (by decide) rfl ?_
  intro p e s m args below meth c s₁ B hml hv
  obtain ⟨rfl, hsz, hP, hK, hD0⟩ := hv
  have hx := B.exec
  have hb := B.bytes
  have hr := B.returns
  have ht := ts_ht (atoms_spec (ws := ts_L yX8_refuse cX8_refuse 3 (some .boolean)) B.pre)
  have hown : s.vm.findClass RX8 = some m.cls := findClass_of_methodNamed B.named
  have hlocks := B.notSynchronized
  subst hsz
  have hD := hD0.self (sz := s.heap.size)
  generalize hAe : va_A ([(tp, .inr (8, [.ref bp, .int n, .int at_, .int w_, .int fl])), (bp, .inl (G.2.2 0, 400, .inl bf))] ++ wt) s.heap.size = A at hD ⊢
  have hA : ∀ q : Nat, s.heap.size ≤ q → A q := fun q h => by rw [← hAe]; exact Or.inr h
  clear hAe hD0
  have hS : va_S A s.heap s.heap [] := va_S.rf
  obtain ⟨w0, hw0⟩ : ∃ z, z = wt := ⟨_, rfl⟩
  have hW : tk_kp [] w0 wt := by rw [hw0]; exact tk_kp.rf
  rw [← hw0]
  clear hw0
  have hP : va_P (gg_D G) classes ([(tp, .inr (8, [.ref bp, .int n, .int at_, .int w_, .int fl])), (bp, .inl (G.2.2 0, 400, .inl bf))] ++ wt) s.heap := hP
  have hD : va_D A ([(tp, .inr (8, [.ref bp, .int n, .int at_, .int w_, .int fl])), (bp, .inl (G.2.2 0, 400, .inl bf))] ++ wt) := hD
  have hl := lv_entry ([.ref tp, .int b, .int w]) (n := 3) (Nat.le_of_ble_eq_true rfl)
  rw [lg_entry_eq]
  generalize (lg_sl ([.ref tp, .int b, .int w]) ++ List.replicate (3 - (lg_sl ([.ref tp, .int b, .int w])).length) Slot.unset).toArray = ls at hl ⊢
  have hl : lv_has ls 3 [(0, .ref tp), (1, .int b), (2, .int w)] := hl
  have l0 : (0 : Int32).toInt = 0 := by decide +kernel
  refine lv_aload_n hx hb dX8_refuse_0 rfl (lv_at hl 0 rfl) ?_
  refine gq_get hx hb ht hown hK hP i_X8 0 rfl rfl 4 (by decide) wd_160 rfl rfl dX8_refuse_1 ?_
  refine lv_if_ne (tgt := 19) hx hb dX8_refuse_4 (by decide) (fun c_1 => ?_) (fun c_1 => ?_)
  · rw [← Int32.toInt_inj] at c_1
    refine lv_iconst (v := 0) hx hb dX8_refuse_19 (by decide +kernel) ?_
    have hP9 : va_P (gg_D G) classes ([(tp, .inr (8, [.ref bp, .int n, .int at_, .int w_, .int fl])), (bp, .inl (G.2.2 0, 400, .inl bf))] ++ wt) _ := hP
    have hD9 : va_D A ([(tp, .inr (8, [.ref bp, .int n, .int at_, .int w_, .int fl])), (bp, .inl (G.2.2 0, 400, .inl bf))] ++ wt) := hD
    exact W.zret (v := 0) hx hb hr (by decide +kernel) (gq_endI (at_, w_, fl, wt) ⟨hT, hW, (by omega), (by omega), (by omega), (by omega), (by omega)⟩ hP9 hD9 hS) hS.2.2 dX8_refuse_20
  · rw [← Int32.toInt_inj] at c_1
    refine lv_aload_n hx hb dX8_refuse_7 rfl (lv_at hl 0 rfl) ?_
    refine lv_iconst (v := 1) hx hb dX8_refuse_8 (by decide +kernel) ?_
    refine lv_bipush (v := 8) hx hb dX8_refuse_9 (by decide +kernel) ?_
    refine lv_iload_n hx hb dX8_refuse_11 rfl (lv_at hl 1 rfl) ?_
    obtain ⟨t_2, et_2⟩ : ∃ zz_ : Int32, 8 * b = zz_ := ⟨_, rfl⟩
    refine gq_imul hx hb t_2 et_2 dX8_refuse_12 ?_
    obtain ⟨t_3, et_3⟩ : ∃ zz_ : Int32, 1 + t_2 = zz_ := ⟨_, rfl⟩
    refine gq_iadd hx hb t_3 et_3 dX8_refuse_13 ?_
    refine lv_iload_n hx hb dX8_refuse_14 rfl (lv_at hl 2 rfl) ?_
    obtain ⟨t_4, et_4⟩ : ∃ zz_ : Int32, t_3 + w = zz_ := ⟨_, rfl⟩
    refine gq_iadd hx hb t_4 et_4 dX8_refuse_15 ?_
    refine gq_put (ws' := [(tp, .inr (8, [.ref bp, .int n, .int at_, .int w_, .int t_4])), (bp, .inl (G.2.2 0, 400, .inl bf))] ++ wt) hx hb ht hown hK hP hD hS i_X8 tyX8 tyX8_ok nmX8 0 rfl rfl 4 (by decide) wd_160 rfl rfl rfl rfl (Nat.le_of_ble_eq_true rfl) rfl dX8_refuse_16 (fun H locs hP hD hS => ?_)
    refine lv_iconst (v := 0) hx hb dX8_refuse_19 (by decide +kernel) ?_
    have hP9 : va_P (gg_D G) classes ([(tp, .inr (8, [.ref bp, .int n, .int at_, .int w_, .int t_4])), (bp, .inl (G.2.2 0, 400, .inl bf))] ++ wt) _ := hP
    have hD9 : va_D A ([(tp, .inr (8, [.ref bp, .int n, .int at_, .int w_, .int t_4])), (bp, .inl (G.2.2 0, 400, .inl bf))] ++ wt) := hD
    exact W.zret (v := 0) hx hb hr (by decide +kernel) (gq_endI (at_, w_, t_4, wt) ⟨hT, hW, (by omega), (by omega), (by omega), (by omega), (by omega)⟩ hP9 hD9 hS) hS.2.2 dX8_refuse_20
set_option maxHeartbeats 4000000 in
set_option maxRecDepth 100000 in
theorem d_skip (l : Launch) (G : gg_T) (Γ : Nat → Nat) (sz : Nat) (wt : va_W) (hT : tk_ty G Γ wt) (b : Int32) (tp : Nat) (bp : Nat) (n : Int32) (at_ : Int32) (w_ : Int32) (fl : Int32) (bf : Nat → Int32) (lo_b : 0 ≤ b.toInt) (hi_b : b.toInt ≤ 400) (xp1 : 0 ≤ n.toInt) (xp2 : n.toInt ≤ 400) (xp3 : 0 ≤ at_.toInt) (xp4 : 0 ≤ w_.toInt) (xp5 : at_.toInt + w_.toInt ≤ 400) : Met l yX8_skip (ts_L yX8_skip cX8_skip 2 none) ({ frames := 1, cells := 0, slots := 0, locals := 21 }) (gc_P G ([(tp, .inr (8, [.ref bp, .int n, .int at_, .int w_, .int fl])), (bp, .inl (G.2.2 0, 400, .inl bf))] ++ wt) sz [.ref tp, .int b]) (gc_V G (va_A ([(tp, .inr (8, [.ref bp, .int n, .int at_, .int w_, .int fl])), (bp, .inl (G.2.2 0, 400, .inl bf))] ++ wt) sz) (fun (u : (Int32) × (Int32) × (Int32) × va_W) => match u with | (a1, w1, f1, wt1) => tk_ty G Γ wt1 ∧ tk_kp [] wt wt1 ∧ 0 ≤ a1.toInt ∧ 0 ≤ w1.toInt ∧ a1.toInt + w1.toInt ≤ 400) (fun (u : (Int32) × (Int32) × (Int32) × va_W) => match u with | (a1, w1, f1, wt1) => [(tp, .inr (8, [.ref bp, .int n, .int a1, .int w1, .int f1])), (bp, .inl (G.2.2 0, 400, .inl bf))] ++ wt1)) 0 0 (va_A ([(tp, .inr (8, [.ref bp, .int n, .int at_, .int w_, .int fl])), (bp, .inl (G.2.2 0, 400, .inl bf))] ++ wt) sz) := by
  refine Met.ofW (cc := cX8_skip) (maxL := 2) (ret := none) (by decide) rfl ?_
  intro p e s m args below meth c s₁ B hml hv
  obtain ⟨rfl, hsz, hP, hK, hD0⟩ := hv
  have hx := B.exec
  have hb := B.bytes
  have hr := B.returns
  have ht := ts_ht (atoms_spec (ws := ts_L yX8_skip cX8_skip 2 none) B.pre)
  have hown : s.vm.findClass RX8 = some m.cls := findClass_of_methodNamed B.named
  have hlocks := B.notSynchronized
  subst hsz
  have hD := hD0.self (sz := s.heap.size)
  generalize hAe : va_A ([(tp, .inr (8, [.ref bp, .int n, .int at_, .int w_, .int fl])), (bp, .inl (G.2.2 0, 400, .inl bf))] ++ wt) s.heap.size = A at hD ⊢
  have hA : ∀ q : Nat, s.heap.size ≤ q → A q := fun q h => by rw [← hAe]; exact Or.inr h
  clear hAe hD0
  have hS : va_S A s.heap s.heap [] := va_S.rf
  obtain ⟨w0, hw0⟩ : ∃ z, z = wt := ⟨_, rfl⟩
  have hW : tk_kp [] w0 wt := by rw [hw0]; exact tk_kp.rf
  rw [← hw0]
  clear hw0
  have hP : va_P (gg_D G) classes ([(tp, .inr (8, [.ref bp, .int n, .int at_, .int w_, .int fl])), (bp, .inl (G.2.2 0, 400, .inl bf))] ++ wt) s.heap := hP
  have hD : va_D A ([(tp, .inr (8, [.ref bp, .int n, .int at_, .int w_, .int fl])), (bp, .inl (G.2.2 0, 400, .inl bf))] ++ wt) := hD
  have hl := lv_entry ([.ref tp, .int b]) (n := 2) (Nat.le_of_ble_eq_true rfl)
  rw [lg_entry_eq]
  generalize (lg_sl ([.ref tp, .int b]) ++ List.replicate (2 - (lg_sl ([.ref tp, .int b])).length) Slot.unset).toArray = ls at hl ⊢
  have hl : lv_has ls 2 [(0, .ref tp), (1, .int b)] := hl
  refine lv_aload_n hx hb dX8_skip_0 rfl (lv_at hl 0 rfl) ?_
  refine lv_aload_n hx hb dX8_skip_1 rfl (lv_at hl 0 rfl) ?_
  refine gq_get hx hb ht hown hK hP i_X8 0 rfl rfl 1 (by decide) wd_157 rfl rfl dX8_skip_2 ?_
  refine lv_aload_n hx hb dX8_skip_5 rfl (lv_at hl 0 rfl) ?_
  refine gq_get hx hb ht hown hK hP i_X8 0 rfl rfl 2 (by decide) wd_158 rfl rfl dX8_skip_6 ?_
  refine lv_iload_n hx hb dX8_skip_9 rfl (lv_at hl 1 rfl) ?_
  obtain ⟨t_1, et_1⟩ : ∃ zz_ : Int32, at_ + b = zz_ := ⟨_, rfl⟩
  refine gq_iadd hx hb t_1 et_1 dX8_skip_10 ?_
  have ft_1 := ia_add et_1 (by omega) (by omega)
  refine va_mmin hx hb (by rw [hml]; exact hl.1.symm) hown (ht _ wd_745) (ht _ wd_746) (ht _ wd_140) (ht _ wd_747) (Nat.le_of_ble_eq_true rfl) (Nat.le_of_ble_eq_true rfl) (Nat.zero_le _) (Nat.zero_le _) dX8_skip_11 ?_
  refine lv_topi (fun t_2 et_2 => ?_)
  have ft_2 := ia_min et_2.symm
  have hP : va_P (gg_D G) classes ([] ++ ([(tp, .inr (8, [.ref bp, .int n, .int at_, .int w_, .int fl])), (bp, .inl (G.2.2 0, 400, .inl bf))] ++ wt)) s.heap := hP
  have hD : va_D A ([] ++ ([(tp, .inr (8, [.ref bp, .int n, .int at_, .int w_, .int fl])), (bp, .inl (G.2.2 0, 400, .inl bf))] ++ wt)) := hD
  refine gt_callV (wr := []) (va_runV (As := [.int t_2]) (rest := []) ⟨hx, hb, hml, hown, ht⟩ (d_goTo l G Γ s.heap.size wt hT t_2 tp bp n at_ w_ fl bf (by omega) (by omega) (by first | assumption | omega) (by first | assumption | omega) (by first | assumption | omega) (by first | assumption | omega) (by first | assumption | omega)) (cwV 1 ht (ts_gV wd_578 wd_580 wd_0 wd_123 wd_581) rfl rfl rfl (by decide +kernel) ⟨Nat.le_of_ble_eq_true rfl, Nat.le_of_ble_eq_true rfl⟩) (gc_preV (ci := 8) (q0 := 0) hK (tw_right hP) (tw_rightD hD) rfl rfl) rfl rfl hl.1 rfl (lv_room (Nat.le_of_ble_eq_true rfl)) dX8_skip_14 ⟨Nat.le_of_ble_eq_true rfl, Nat.le_of_ble_eq_true rfl⟩) hP hD hS hA (fun u H locs hw hP hD hS => ?_)
  obtain ⟨y_3, y_4, y_5, wt⟩ := u
  obtain ⟨hT, hkp, w_6, w_7, w_8⟩ := hw
  have hW := hW.call (show ∀ x ∈ [], x ∈ [] by decide) hkp
  have hP : va_P (gg_D G) classes ([(tp, .inr (8, [.ref bp, .int n, .int y_3, .int y_4, .int y_5])), (bp, .inl (G.2.2 0, 400, .inl bf))] ++ wt) H := hP
  have hD : va_D A ([(tp, .inr (8, [.ref bp, .int n, .int y_3, .int y_4, .int y_5])), (bp, .inl (G.2.2 0, 400, .inl bf))] ++ wt) := hD
  have hP9 : va_P (gg_D G) classes ([(tp, .inr (8, [.ref bp, .int n, .int y_3, .int y_4, .int y_5])), (bp, .inl (G.2.2 0, 400, .inl bf))] ++ wt) _ := hP
  have hD9 : va_D A ([(tp, .inr (8, [.ref bp, .int n, .int y_3, .int y_4, .int y_5])), (bp, .inl (G.2.2 0, 400, .inl bf))] ++ wt) := hD
  exact W.vret hx hb hr (gq_endV (y_3, y_4, y_5, wt) ⟨hT, hW, (by omega), (by omega), (by omega)⟩ hP9 hD9 hS) hS.2.2 dX8_skip_17
set_option maxHeartbeats 4000000 in
set_option maxRecDepth 100000 in
theorem d_take (l : Launch) (G : gg_T) (Γ : Nat → Nat) (sz : Nat) (wt : va_W) (hT : tk_ty G Γ wt) (b : Int32) (tp : Nat) (bp : Nat) (n : Int32) (at_ : Int32) (w_ : Int32) (fl : Int32) (bf : Nat → Int32) (lo_b : 0 ≤ b.toInt) (hi_b : b.toInt ≤ 65535) (xp1 : 0 ≤ n.toInt) (xp2 : n.toInt ≤ 400) (xp3 : 0 ≤ at_.toInt) (xp4 : 0 ≤ w_.toInt) (xp5 : at_.toInt + w_.toInt ≤ 400) : Met l yX8_take (ts_L yX8_take cX8_take 2 (some .boolean)) ({ frames := 1, cells := 0, slots := 0, locals := 21 }) (gc_P G ([(tp, .inr (8, [.ref bp, .int n, .int at_, .int w_, .int fl])), (bp, .inl (G.2.2 0, 400, .inl bf))] ++ wt) sz [.ref tp, .int b]) (gc_I G (va_A ([(tp, .inr (8, [.ref bp, .int n, .int at_, .int w_, .int fl])), (bp, .inl (G.2.2 0, 400, .inl bf))] ++ wt) sz) (fun r (u : (Int32) × (Int32) × (Int32) × va_W) => match u with | (a1, w1, f1, wt1) => tk_ty G Γ wt1 ∧ tk_kp [] wt wt1 ∧ 0 ≤ a1.toInt ∧ 0 ≤ w1.toInt ∧ a1.toInt + w1.toInt ≤ 400 ∧ 0 ≤ r.toInt ∧ r.toInt ≤ 1) (fun (u : (Int32) × (Int32) × (Int32) × va_W) => match u with | (a1, w1, f1, wt1) => [(tp, .inr (8, [.ref bp, .int n, .int a1, .int w1, .int f1])), (bp, .inl (G.2.2 0, 400, .inl bf))] ++ wt1)) 0 0 (va_A ([(tp, .inr (8, [.ref bp, .int n, .int at_, .int w_, .int fl])), (bp, .inl (G.2.2 0, 400, .inl bf))] ++ wt) sz) := by
  refine Met.ofW (cc := cX8_take) (maxL := 2) (ret := (some .boolean)) (by decide) rfl ?_
  intro p e s m args below meth c s₁ B hml hv
  obtain ⟨rfl, hsz, hP, hK, hD0⟩ := hv
  have hx := B.exec
  have hb := B.bytes
  have hr := B.returns
  have ht := ts_ht (atoms_spec (ws := ts_L yX8_take cX8_take 2 (some .boolean)) B.pre)
  have hown : s.vm.findClass RX8 = some m.cls := findClass_of_methodNamed B.named
  have hlocks := B.notSynchronized
  subst hsz
  have hD := hD0.self (sz := s.heap.size)
  generalize hAe : va_A ([(tp, .inr (8, [.ref bp, .int n, .int at_, .int w_, .int fl])), (bp, .inl (G.2.2 0, 400, .inl bf))] ++ wt) s.heap.size = A at hD ⊢
  have hA : ∀ q : Nat, s.heap.size ≤ q → A q := fun q h => by rw [← hAe]; exact Or.inr h
  clear hAe hD0
  have hS : va_S A s.heap s.heap [] := va_S.rf
  obtain ⟨w0, hw0⟩ : ∃ z, z = wt := ⟨_, rfl⟩
  have hW : tk_kp [] w0 wt := by rw [hw0]; exact tk_kp.rf
  rw [← hw0]
  clear hw0
  have hP : va_P (gg_D G) classes ([(tp, .inr (8, [.ref bp, .int n, .int at_, .int w_, .int fl])), (bp, .inl (G.2.2 0, 400, .inl bf))] ++ wt) s.heap := hP
  have hD : va_D A ([(tp, .inr (8, [.ref bp, .int n, .int at_, .int w_, .int fl])), (bp, .inl (G.2.2 0, 400, .inl bf))] ++ wt) := hD
  have hl := lv_entry ([.ref tp, .int b]) (n := 2) (Nat.le_of_ble_eq_true rfl)
  rw [lg_entry_eq]
  generalize (lg_sl ([.ref tp, .int b]) ++ List.replicate (2 - (lg_sl ([.ref tp, .int b])).length) Slot.unset).toArray = ls at hl ⊢
  have hl : lv_has ls 2 [(0, .ref tp), (1, .int b)] := hl
  have l0 : (0 : Int32).toInt = 0 := by decide +kernel
  have l1 : (1 : Int32).toInt = 1 := by decide +kernel
  refine lv_aload_n hx hb dX8_take_0 rfl (lv_at hl 0 rfl) ?_
  have hP : va_P (gg_D G) classes ([] ++ ([(tp, .inr (8, [.ref bp, .int n, .int at_, .int w_, .int fl])), (bp, .inl (G.2.2 0, 400, .inl bf))] ++ wt)) s.heap := hP
  have hD : va_D A ([] ++ ([(tp, .inr (8, [.ref bp, .int n, .int at_, .int w_, .int fl])), (bp, .inl (G.2.2 0, 400, .inl bf))] ++ wt)) := hD
  refine gt_callI (wr := []) (va_runV (As := []) (rest := []) ⟨hx, hb, hml, hown, ht⟩ (d_sign l G Γ s.heap.size wt hT tp bp n at_ w_ fl bf (by first | assumption | omega) (by first | assumption | omega) (by first | assumption | omega) (by first | assumption | omega) (by first | assumption | omega)) (cwV 0 ht (ts_gV wd_680 wd_681 wd_682 wd_123 wd_683) rfl rfl rfl (by decide +kernel) ⟨Nat.le_of_ble_eq_true rfl, Nat.le_of_ble_eq_true rfl⟩) (gc_preV (ci := 8) (q0 := 0) hK (tw_right hP) (tw_rightD hD) rfl rfl) rfl rfl hl.1 rfl (lv_room (Nat.le_of_ble_eq_true rfl)) dX8_take_1 ⟨Nat.le_of_ble_eq_true rfl, Nat.le_of_ble_eq_true rfl⟩) hP hD hS hA (fun r_1 wt H locs hw hP hD hS => ?_)
  obtain ⟨hT, hkp, rp_r_1⟩ := hw
  have hW := hW.call (show ∀ x ∈ [], x ∈ [] by decide) hkp
  have hP : va_P (gg_D G) classes ([(tp, .inr (8, [.ref bp, .int n, .int at_, .int w_, .int fl])), (bp, .inl (G.2.2 0, 400, .inl bf))] ++ wt) H := hP
  have hD : va_D A ([(tp, .inr (8, [.ref bp, .int n, .int at_, .int w_, .int fl])), (bp, .inl (G.2.2 0, 400, .inl bf))] ++ wt) := hD
  refine lv_iload_n hx hb dX8_take_4 rfl (lv_at hl 1 rfl) ?_
  refine lv_icmp_eq (tgt := 10) hx hb dX8_take_5 (by decide) (fun c_2 => ?_) (fun c_2 => ?_)
  · rw [← Int32.toInt_inj] at c_2
    refine lv_aload_n hx hb dX8_take_10 rfl (lv_at hl 0 rfl) ?_
    refine lv_aload_n hx hb dX8_take_11 rfl (lv_at hl 0 rfl) ?_
    refine gq_get hx hb ht hown hK hP i_X8 0 rfl rfl 2 (by decide) wd_158 rfl rfl dX8_take_12 ?_
    refine lv_iconst (v := 1) hx hb dX8_take_15 (by decide +kernel) ?_
    obtain ⟨t_3, et_3⟩ : ∃ zz_ : Int32, at_ + 1 = zz_ := ⟨_, rfl⟩
    refine gq_iadd hx hb t_3 et_3 dX8_take_16 ?_
    have ft_3 := ia_add et_3 (by omega) (by omega)
    have hP : va_P (gg_D G) classes ([] ++ ([(tp, .inr (8, [.ref bp, .int n, .int at_, .int w_, .int fl])), (bp, .inl (G.2.2 0, 400, .inl bf))] ++ wt)) H := hP
    have hD : va_D A ([] ++ ([(tp, .inr (8, [.ref bp, .int n, .int at_, .int w_, .int fl])), (bp, .inl (G.2.2 0, 400, .inl bf))] ++ wt)) := hD
    refine gt_callV (wr := []) (va_runV (As := [.int t_3]) (rest := []) ⟨hx, hb, hml, hown, ht⟩ (d_goTo l G Γ H.size wt hT t_3 tp bp n at_ w_ fl bf (by omega) (by omega) (by first | assumption | omega) (by first | assumption | omega) (by first | assumption | omega) (by first | assumption | omega) (by first | assumption | omega)) (cwV 1 ht (ts_gV wd_578 wd_580 wd_0 wd_123 wd_581) rfl rfl rfl (by decide +kernel) ⟨Nat.le_of_ble_eq_true rfl, Nat.le_of_ble_eq_true rfl⟩) (gc_preV (ci := 8) (q0 := 0) hK (tw_right hP) (tw_rightD hD) rfl rfl) rfl rfl hl.1 rfl (lv_room (Nat.le_of_ble_eq_true rfl)) dX8_take_17 ⟨Nat.le_of_ble_eq_true rfl, Nat.le_of_ble_eq_true rfl⟩) hP hD hS hA (fun u H locs hw hP hD hS => ?_)
    obtain ⟨y_4, y_5, y_6, wt⟩ := u
    obtain ⟨hT, hkp, w_7, w_8, w_9⟩ := hw
    have hW := hW.call (show ∀ x ∈ [], x ∈ [] by decide) hkp
    have hP : va_P (gg_D G) classes ([(tp, .inr (8, [.ref bp, .int n, .int y_4, .int y_5, .int y_6])), (bp, .inl (G.2.2 0, 400, .inl bf))] ++ wt) H := hP
    have hD : va_D A ([(tp, .inr (8, [.ref bp, .int n, .int y_4, .int y_5, .int y_6])), (bp, .inl (G.2.2 0, 400, .inl bf))] ++ wt) := hD
    refine lv_iconst (v := 1) hx hb dX8_take_20 (by decide +kernel) ?_
    have hP9 : va_P (gg_D G) classes ([(tp, .inr (8, [.ref bp, .int n, .int y_4, .int y_5, .int y_6])), (bp, .inl (G.2.2 0, 400, .inl bf))] ++ wt) _ := hP
    have hD9 : va_D A ([(tp, .inr (8, [.ref bp, .int n, .int y_4, .int y_5, .int y_6])), (bp, .inl (G.2.2 0, 400, .inl bf))] ++ wt) := hD
    exact W.zret (v := 1) hx hb hr (by decide +kernel) (gq_endI (y_4, y_5, y_6, wt) ⟨hT, hW, (by omega), (by omega), (by omega), (by omega), (by omega)⟩ hP9 hD9 hS) hS.2.2 dX8_take_21
  · rw [← Int32.toInt_inj] at c_2
    refine lv_iconst (v := 0) hx hb dX8_take_8 (by decide +kernel) ?_
    have hP9 : va_P (gg_D G) classes ([(tp, .inr (8, [.ref bp, .int n, .int at_, .int w_, .int fl])), (bp, .inl (G.2.2 0, 400, .inl bf))] ++ wt) _ := hP
    have hD9 : va_D A ([(tp, .inr (8, [.ref bp, .int n, .int at_, .int w_, .int fl])), (bp, .inl (G.2.2 0, 400, .inl bf))] ++ wt) := hD
    exact W.zret (v := 0) hx hb hr (by decide +kernel) (gq_endI (at_, w_, fl, wt) ⟨hT, hW, (by omega), (by omega), (by omega), (by omega), (by omega)⟩ hP9 hD9 hS) hS.2.2 dX8_take_9
set_option maxHeartbeats 4000000 in
set_option maxRecDepth 100000 in
theorem d_passWord (l : Launch) (G : gg_T) (Γ : Nat → Nat) (sz : Nat) (wt : va_W) (hT : tk_ty G Γ wt) (tp : Nat) (bp : Nat) (n : Int32) (at_ : Int32) (w_ : Int32) (fl : Int32) (bf : Nat → Int32) (xp1 : 0 ≤ n.toInt) (xp2 : n.toInt ≤ 400) (xp3 : 0 ≤ at_.toInt) (xp4 : 0 ≤ w_.toInt) (xp5 : at_.toInt + w_.toInt ≤ 400) : Met l yX8_passWord (ts_L yX8_passWord cX8_passWord 1 none) ({ frames := 1, cells := 0, slots := 0, locals := 21 }) (gc_P G ([(tp, .inr (8, [.ref bp, .int n, .int at_, .int w_, .int fl])), (bp, .inl (G.2.2 0, 400, .inl bf))] ++ wt) sz [.ref tp]) (gc_V G (va_A ([(tp, .inr (8, [.ref bp, .int n, .int at_, .int w_, .int fl])), (bp, .inl (G.2.2 0, 400, .inl bf))] ++ wt) sz) (fun (u : (Int32) × (Int32) × (Int32) × va_W) => match u with | (a1, w1, f1, wt1) => tk_ty G Γ wt1 ∧ tk_kp [] wt wt1 ∧ 0 ≤ a1.toInt ∧ 0 ≤ w1.toInt ∧ a1.toInt + w1.toInt ≤ 400) (fun (u : (Int32) × (Int32) × (Int32) × va_W) => match u with | (a1, w1, f1, wt1) => [(tp, .inr (8, [.ref bp, .int n, .int a1, .int w1, .int f1])), (bp, .inl (G.2.2 0, 400, .inl bf))] ++ wt1)) 0 0 (va_A ([(tp, .inr (8, [.ref bp, .int n, .int at_, .int w_, .int fl])), (bp, .inl (G.2.2 0, 400, .inl bf))] ++ wt) sz) := by
  refine Met.ofW (cc := cX8_passWord) (maxL := 1) (ret := none) (by decide) rfl ?_
  intro p e s m args below meth c s₁ B hml hv
  obtain ⟨rfl, hsz, hP, hK, hD0⟩ := hv
  have hx := B.exec
  have hb := B.bytes
  have hr := B.returns
  have ht := ts_ht (atoms_spec (ws := ts_L yX8_passWord cX8_passWord 1 none) B.pre)
  have hown : s.vm.findClass RX8 = some m.cls := findClass_of_methodNamed B.named
  have hlocks := B.notSynchronized
  subst hsz
  have hD := hD0.self (sz := s.heap.size)
  generalize hAe : va_A ([(tp, .inr (8, [.ref bp, .int n, .int at_, .int w_, .int fl])), (bp, .inl (G.2.2 0, 400, .inl bf))] ++ wt) s.heap.size = A at hD ⊢
  have hA : ∀ q : Nat, s.heap.size ≤ q → A q := fun q h => by rw [← hAe]; exact Or.inr h
  clear hAe hD0
  have hS : va_S A s.heap s.heap [] := va_S.rf
  obtain ⟨w0, hw0⟩ : ∃ z, z = wt := ⟨_, rfl⟩
  have hW : tk_kp [] w0 wt := by rw [hw0]; exact tk_kp.rf
  rw [← hw0]
  clear hw0
  have hP : va_P (gg_D G) classes ([(tp, .inr (8, [.ref bp, .int n, .int at_, .int w_, .int fl])), (bp, .inl (G.2.2 0, 400, .inl bf))] ++ wt) s.heap := hP
  have hD : va_D A ([(tp, .inr (8, [.ref bp, .int n, .int at_, .int w_, .int fl])), (bp, .inl (G.2.2 0, 400, .inl bf))] ++ wt) := hD
  have hl := lv_entry ([.ref tp]) (n := 1) (Nat.le_of_ble_eq_true rfl)
  rw [lg_entry_eq]
  generalize (lg_sl ([.ref tp]) ++ List.replicate (1 - (lg_sl ([.ref tp])).length) Slot.unset).toArray = ls at hl ⊢
  have hl : lv_has ls 1 [(0, .ref tp)] := hl
  refine lv_aload_n hx hb dX8_passWord_0 rfl (lv_at hl 0 rfl) ?_
  refine lv_aload_n hx hb dX8_passWord_1 rfl (lv_at hl 0 rfl) ?_
  refine gq_get hx hb ht hown hK hP i_X8 0 rfl rfl 2 (by decide) wd_158 rfl rfl dX8_passWord_2 ?_
  refine lv_aload_n hx hb dX8_passWord_5 rfl (lv_at hl 0 rfl) ?_
  refine gq_get hx hb ht hown hK hP i_X8 0 rfl rfl 3 (by decide) wd_159 rfl rfl dX8_passWord_6 ?_
  obtain ⟨t_1, et_1⟩ : ∃ zz_ : Int32, at_ + w_ = zz_ := ⟨_, rfl⟩
  refine gq_iadd hx hb t_1 et_1 dX8_passWord_9 ?_
  have ft_1 := ia_add et_1 (by omega) (by omega)
  have hP : va_P (gg_D G) classes ([] ++ ([(tp, .inr (8, [.ref bp, .int n, .int at_, .int w_, .int fl])), (bp, .inl (G.2.2 0, 400, .inl bf))] ++ wt)) s.heap := hP
  have hD : va_D A ([] ++ ([(tp, .inr (8, [.ref bp, .int n, .int at_, .int w_, .int fl])), (bp, .inl (G.2.2 0, 400, .inl bf))] ++ wt)) := hD
  refine gt_callV (wr := []) (va_runV (As := [.int t_1]) (rest := []) ⟨hx, hb, hml, hown, ht⟩ (d_goTo l G Γ s.heap.size wt hT t_1 tp bp n at_ w_ fl bf (by omega) (by omega) (by first | assumption | omega) (by first | assumption | omega) (by first | assumption | omega) (by first | assumption | omega) (by first | assumption | omega)) (cwV 1 ht (ts_gV wd_578 wd_580 wd_0 wd_123 wd_581) rfl rfl rfl (by decide +kernel) ⟨Nat.le_of_ble_eq_true rfl, Nat.le_of_ble_eq_true rfl⟩) (gc_preV (ci := 8) (q0 := 0) hK (tw_right hP) (tw_rightD hD) rfl rfl) rfl rfl hl.1 rfl (lv_room (Nat.le_of_ble_eq_true rfl)) dX8_passWord_10 ⟨Nat.le_of_ble_eq_true rfl, Nat.le_of_ble_eq_true rfl⟩) hP hD hS hA (fun u H locs hw hP hD hS => ?_)
  obtain ⟨y_2, y_3, y_4, wt⟩ := u
  obtain ⟨hT, hkp, w_5, w_6, w_7⟩ := hw
  have hW := hW.call (show ∀ x ∈ [], x ∈ [] by decide) hkp
  have hP : va_P (gg_D G) classes ([(tp, .inr (8, [.ref bp, .int n, .int y_2, .int y_3, .int y_4])), (bp, .inl (G.2.2 0, 400, .inl bf))] ++ wt) H := hP
  have hD : va_D A ([(tp, .inr (8, [.ref bp, .int n, .int y_2, .int y_3, .int y_4])), (bp, .inl (G.2.2 0, 400, .inl bf))] ++ wt) := hD
  have hP9 : va_P (gg_D G) classes ([(tp, .inr (8, [.ref bp, .int n, .int y_2, .int y_3, .int y_4])), (bp, .inl (G.2.2 0, 400, .inl bf))] ++ wt) _ := hP
  have hD9 : va_D A ([(tp, .inr (8, [.ref bp, .int n, .int y_2, .int y_3, .int y_4])), (bp, .inl (G.2.2 0, 400, .inl bf))] ++ wt) := hD
  exact W.vret hx hb hr (gq_endV (y_2, y_3, y_4, wt) ⟨hT, hW, (by omega), (by omega), (by omega)⟩ hP9 hD9 hS) hS.2.2 dX8_passWord_13
set_option maxHeartbeats 4000000 in
set_option maxRecDepth 100000 in
theorem d_number (l : Launch) (G : gg_T) (Γ : Nat → Nat) (sz : Nat) (wt : va_W) (hT : tk_ty G Γ wt) (b : Int32) (w : Int32) (tp : Nat) (bp : Nat) (n : Int32) (at_ : Int32) (w_ : Int32) (fl : Int32) (bf : Nat → Int32) (xp1 : 0 ≤ n.toInt) (xp2 : n.toInt ≤ 400) (xp3 : 0 ≤ at_.toInt) (xp4 : 0 ≤ w_.toInt) (xp5 : at_.toInt + w_.toInt ≤ 400) : Met l yX8_number (ts_L yX8_number cX8_number 5 (some .int)) ({ frames := 1, cells := 0, slots := 0, locals := 22 }) (gc_P G ([(tp, .inr (8, [.ref bp, .int n, .int at_, .int w_, .int fl])), (bp, .inl (G.2.2 0, 400, .inl bf))] ++ wt) sz [.ref tp, .int b, .int w]) (gc_I G (va_A ([(tp, .inr (8, [.ref bp, .int n, .int at_, .int w_, .int fl])), (bp, .inl (G.2.2 0, 400, .inl bf))] ++ wt) sz) (fun r (u : (Int32) × (Int32) × (Int32) × va_W) => match u with | (a1, w1, f1, wt1) => tk_ty G Γ wt1 ∧ tk_kp [] wt wt1 ∧ 0 ≤ a1.toInt ∧ 0 ≤ w1.toInt ∧ a1.toInt + w1.toInt ≤ 400 ∧ (r.toInt = -1 ∨ (b.toInt ≤ r.toInt ∧ r.toInt ≤ w.toInt))) (fun (u : (Int32) × (Int32) × (Int32) × va_W) => match u with | (a1, w1, f1, wt1) => [(tp, .inr (8, [.ref bp, .int n, .int a1, .int w1, .int f1])), (bp, .inl (G.2.2 0, 400, .inl bf))] ++ wt1)) 0 0 (va_A ([(tp, .inr (8, [.ref bp, .int n, .int at_, .int w_, .int fl])), (bp, .inl (G.2.2 0, 400, .inl bf))] ++ wt) sz) := by
  refine Met.ofW (cc := cX8_number) (maxL := 5) (ret := (some .int)) (by decide) rfl ?_
  intro p e s m args below meth c s₁ B hml hv
  obtain ⟨rfl, hsz, hP, hK, hD0⟩ := hv
  have hx := B.exec
  have hb := B.bytes
  have hr := B.returns
  have ht := ts_ht (atoms_spec (ws := ts_L yX8_number cX8_number 5 (some .int)) B.pre)
  have hown : s.vm.findClass RX8 = some m.cls := findClass_of_methodNamed B.named
  have hlocks := B.notSynchronized
  subst hsz
  have hD := hD0.self (sz := s.heap.size)
  generalize hAe : va_A ([(tp, .inr (8, [.ref bp, .int n, .int at_, .int w_, .int fl])), (bp, .inl (G.2.2 0, 400, .inl bf))] ++ wt) s.heap.size = A at hD ⊢
  have hA : ∀ q : Nat, s.heap.size ≤ q → A q := fun q h => by rw [← hAe]; exact Or.inr h
  clear hAe hD0
  have hS : va_S A s.heap s.heap [] := va_S.rf
  obtain ⟨w0, hw0⟩ : ∃ z, z = wt := ⟨_, rfl⟩
  have hW : tk_kp [] w0 wt := by rw [hw0]; exact tk_kp.rf
  rw [← hw0]
  clear hw0
  have hP : va_P (gg_D G) classes ([(tp, .inr (8, [.ref bp, .int n, .int at_, .int w_, .int fl])), (bp, .inl (G.2.2 0, 400, .inl bf))] ++ wt) s.heap := hP
  have hD : va_D A ([(tp, .inr (8, [.ref bp, .int n, .int at_, .int w_, .int fl])), (bp, .inl (G.2.2 0, 400, .inl bf))] ++ wt) := hD
  have hl := lv_entry ([.ref tp, .int b, .int w]) (n := 5) (Nat.le_of_ble_eq_true rfl)
  rw [lg_entry_eq]
  generalize (lg_sl ([.ref tp, .int b, .int w]) ++ List.replicate (5 - (lg_sl ([.ref tp, .int b, .int w])).length) Slot.unset).toArray = ls at hl ⊢
  have hl : lv_has ls 5 [(0, .ref tp), (1, .int b), (2, .int w)] := hl
  have lm1 : ((-1) : Int32).toInt = -1 := by decide +kernel
  have l0 : (0 : Int32).toInt = 0 := by decide +kernel
  have l1 : (1 : Int32).toInt = 1 := by decide +kernel
  have l5 : (5 : Int32).toInt = 5 := by decide +kernel
  have l48 : (48 : Int32).toInt = 48 := by decide +kernel
  have l57 : (57 : Int32).toInt = 57 := by decide +kernel
  refine lv_iconst (v := 0) hx hb dX8_number_0 (by decide +kernel) ?_
  refine lv_istore_n (lv' := [(3, .int 0), (0, .ref tp), (1, .int b), (2, .int w)]) hx hb dX8_number_1 rfl hl (by decide) rfl (fun ls hl => ?_)
  refine lv_aload_n hx hb dX8_number_2 rfl (lv_at hl 1 rfl) ?_
  refine gq_get hx hb ht hown hK hP i_X8 0 rfl rfl 2 (by decide) wd_158 rfl rfl dX8_number_3 ?_
  refine lv_istore (lv' := [(4, .int at_), (3, .int 0), (0, .ref tp), (1, .int b), (2, .int w)]) hx hb dX8_number_6 hl (by decide) rfl (fun ls hl => ?_)
  refine tl_loopE (Γ := Γ) (nL := 5) (fun (zz_ : Int32 × Int32) => match zz_ with | (x8_0, x8_1) => 0 ≤ x8_0.toInt ∧ x8_0.toInt ≤ 400 ∧ at_.toInt ≤ x8_0.toInt) (fun (zz_ : Int32 × Int32) => match zz_ with | (x8_0, x8_1) => (400 - x8_0.toInt).toNat) (fun (zz_ : Int32 × Int32) => match zz_ with | (x8_0, x8_1) => [(4, .int x8_0), (3, .int x8_1), (0, .ref tp), (1, .int b), (2, .int w)]) (fun (zz_ : Int32 × Int32) => match zz_ with | (x8_0, x8_1) => [(tp, .inr (8, [.ref bp, .int n, .int at_, .int w_, .int fl])), (bp, .inl (G.2.2 0, 400, .inl bf))]) (fun (zz_ : Int32 × Int32) (w : va_W) => match zz_ with | (x8_0, x8_1) => tk_kp [] w0 w) (fun zz_ hI H locs wt ls hT hW hP hD hS hl ih8 => ?_) (at_, 0) (show 0 ≤ at_.toInt ∧ at_.toInt ≤ 400 ∧ at_.toInt ≤ at_.toInt from ⟨by omega, by omega, by omega⟩) _ _ wt ls hT hW hP hD hS hl
  obtain ⟨x8_0, x8_1⟩ := zz_
  have hW : tk_kp [] w0 wt := hW
  have hI : 0 ≤ x8_0.toInt ∧ x8_0.toInt ≤ 400 ∧ at_.toInt ≤ x8_0.toInt := hI
  obtain ⟨j8_0, j8_1, j8_2⟩ := hI
  have hl : lv_has ls 5 [(4, .int x8_0), (3, .int x8_1), (0, .ref tp), (1, .int b), (2, .int w)] := hl
  have hP : va_P (gg_D G) classes ([(tp, .inr (8, [.ref bp, .int n, .int at_, .int w_, .int fl])), (bp, .inl (G.2.2 0, 400, .inl bf))] ++ wt) H := hP
  have hD : va_D A ([(tp, .inr (8, [.ref bp, .int n, .int at_, .int w_, .int fl])), (bp, .inl (G.2.2 0, 400, .inl bf))] ++ wt) := hD
  refine lv_iload hx hb dX8_number_8 (lv_at hl 0 rfl) ?_
  refine lv_aload_n hx hb dX8_number_10 rfl (lv_at hl 2 rfl) ?_
  refine gq_get hx hb ht hown hK hP i_X8 0 rfl rfl 1 (by decide) wd_157 rfl rfl dX8_number_11 ?_
  refine lv_icmp_ge (tgt := 78) hx hb dX8_number_14 (by decide) (fun c_1 => ?_) (fun c_1 => ?_)
  · rw [Int32.le_iff_toInt_le] at c_1
    refine lv_iload hx hb dX8_number_78 (lv_at hl 0 rfl) ?_
    refine lv_aload_n hx hb dX8_number_80 rfl (lv_at hl 2 rfl) ?_
    refine gq_get hx hb ht hown hK hP i_X8 0 rfl rfl 2 (by decide) wd_158 rfl rfl dX8_number_81 ?_
    refine lv_icmp_ne (tgt := 99) hx hb dX8_number_84 (by decide) (fun c_2 => ?_) (fun c_2 => ?_)
    · rw [← Int32.toInt_inj] at c_2
      refine lv_iload hx hb dX8_number_99 (lv_at hl 0 rfl) ?_
      refine lv_aload_n hx hb dX8_number_101 rfl (lv_at hl 2 rfl) ?_
      refine gq_get hx hb ht hown hK hP i_X8 0 rfl rfl 2 (by decide) wd_158 rfl rfl dX8_number_102 ?_
      obtain ⟨t_3, et_3⟩ : ∃ zz_ : Int32, x8_0 - at_ = zz_ := ⟨_, rfl⟩
      refine gq_isub hx hb t_3 et_3 dX8_number_105 ?_
      have ft_3 := ia_sub et_3 (by omega) (by omega)
      refine lv_iconst (v := 5) hx hb dX8_number_106 (by decide +kernel) ?_
      refine lv_icmp_gt (tgt := 120) hx hb dX8_number_107 (by decide) (fun c_4 => ?_) (fun c_4 => ?_)
      · rw [Int32.lt_iff_toInt_lt] at c_4
        refine lv_aload_n hx hb dX8_number_120 rfl (lv_at hl 2 rfl) ?_
        refine lv_aload_n hx hb dX8_number_121 rfl (lv_at hl 2 rfl) ?_
        refine gq_get hx hb ht hown hK hP i_X8 0 rfl rfl 2 (by decide) wd_158 rfl rfl dX8_number_122 ?_
        refine lv_iconst (v := 1) hx hb dX8_number_125 (by decide +kernel) ?_
        have hP : va_P (gg_D G) classes ([] ++ ([(tp, .inr (8, [.ref bp, .int n, .int at_, .int w_, .int fl])), (bp, .inl (G.2.2 0, 400, .inl bf))] ++ wt)) H := hP
        have hD : va_D A ([] ++ ([(tp, .inr (8, [.ref bp, .int n, .int at_, .int w_, .int fl])), (bp, .inl (G.2.2 0, 400, .inl bf))] ++ wt)) := hD
        refine gt_callI (wr := []) (va_runV (As := [.int at_, .int 1]) (rest := []) ⟨hx, hb, hml, hown, ht⟩ (d_refuse l G Γ H.size wt hT at_ 1 tp bp n at_ w_ fl bf (by first | assumption | omega) (by first | assumption | omega) (by first | assumption | omega) (by first | assumption | omega) (by first | assumption | omega)) (cwV 2 ht (ts_gV wd_659 wd_644 wd_645 wd_123 wd_646) rfl rfl rfl (by decide +kernel) ⟨Nat.le_of_ble_eq_true rfl, Nat.le_of_ble_eq_true rfl⟩) (gc_preV (ci := 8) (q0 := 0) hK (tw_right hP) (tw_rightD hD) rfl rfl) rfl rfl hl.1 rfl (lv_room (Nat.le_of_ble_eq_true rfl)) dX8_number_126 ⟨Nat.le_of_ble_eq_true rfl, Nat.le_of_ble_eq_true rfl⟩) hP hD hS hA (fun r_5 u H locs hw hP hD hS => ?_)
        obtain ⟨y_6, y_7, y_8, wt⟩ := u
        obtain ⟨hT, hkp, w_9, w_10, w_11, lo_r_5, hi_r_5⟩ := hw
        have hW := hW.call (show ∀ x ∈ [], x ∈ [] by decide) hkp
        have hP : va_P (gg_D G) classes ([(tp, .inr (8, [.ref bp, .int n, .int y_6, .int y_7, .int y_8])), (bp, .inl (G.2.2 0, 400, .inl bf))] ++ wt) H := hP
        have hD : va_D A ([(tp, .inr (8, [.ref bp, .int n, .int y_6, .int y_7, .int y_8])), (bp, .inl (G.2.2 0, 400, .inl bf))] ++ wt) := hD
        have z_r_5 : r_5 = 0 := by rw [← Int32.toInt_inj]; omega
        subst z_r_5
        refine lv_pop hx hb dX8_number_129 rfl ?_
        refine lv_iconst (v := (-1)) hx hb dX8_number_130 (by decide +kernel) ?_
        have hP9 : va_P (gg_D G) classes ([(tp, .inr (8, [.ref bp, .int n, .int y_6, .int y_7, .int y_8])), (bp, .inl (G.2.2 0, 400, .inl bf))] ++ wt) _ := hP
        have hD9 : va_D A ([(tp, .inr (8, [.ref bp, .int n, .int y_6, .int y_7, .int y_8])), (bp, .inl (G.2.2 0, 400, .inl bf))] ++ wt) := hD
        exact W.iret (v := (-1)) hx hb hr (gq_endI (y_6, y_7, y_8, wt) ⟨hT, hW, (by omega), (by omega), (by omega), (by omega)⟩ hP9 hD9 hS) hS.2.2 dX8_number_131
      · rw [Int32.lt_iff_toInt_lt] at c_4
        refine lv_iload_n hx hb dX8_number_110 rfl (lv_at hl 1 rfl) ?_
        refine lv_iload_n hx hb dX8_number_111 rfl (lv_at hl 3 rfl) ?_
        refine lv_icmp_lt (tgt := 120) hx hb dX8_number_112 (by decide) (fun c_12 => ?_) (fun c_12 => ?_)
        · rw [Int32.lt_iff_toInt_lt] at c_12
          refine lv_aload_n hx hb dX8_number_120 rfl (lv_at hl 2 rfl) ?_
          refine lv_aload_n hx hb dX8_number_121 rfl (lv_at hl 2 rfl) ?_
          refine gq_get hx hb ht hown hK hP i_X8 0 rfl rfl 2 (by decide) wd_158 rfl rfl dX8_number_122 ?_
          refine lv_iconst (v := 1) hx hb dX8_number_125 (by decide +kernel) ?_
          have hP : va_P (gg_D G) classes ([] ++ ([(tp, .inr (8, [.ref bp, .int n, .int at_, .int w_, .int fl])), (bp, .inl (G.2.2 0, 400, .inl bf))] ++ wt)) H := hP
          have hD : va_D A ([] ++ ([(tp, .inr (8, [.ref bp, .int n, .int at_, .int w_, .int fl])), (bp, .inl (G.2.2 0, 400, .inl bf))] ++ wt)) := hD
          refine gt_callI (wr := []) (va_runV (As := [.int at_, .int 1]) (rest := []) ⟨hx, hb, hml, hown, ht⟩ (d_refuse l G Γ H.size wt hT at_ 1 tp bp n at_ w_ fl bf (by first | assumption | omega) (by first | assumption | omega) (by first | assumption | omega) (by first | assumption | omega) (by first | assumption | omega)) (cwV 2 ht (ts_gV wd_659 wd_644 wd_645 wd_123 wd_646) rfl rfl rfl (by decide +kernel) ⟨Nat.le_of_ble_eq_true rfl, Nat.le_of_ble_eq_true rfl⟩) (gc_preV (ci := 8) (q0 := 0) hK (tw_right hP) (tw_rightD hD) rfl rfl) rfl rfl hl.1 rfl (lv_room (Nat.le_of_ble_eq_true rfl)) dX8_number_126 ⟨Nat.le_of_ble_eq_true rfl, Nat.le_of_ble_eq_true rfl⟩) hP hD hS hA (fun r_13 u H locs hw hP hD hS => ?_)
          obtain ⟨y_14, y_15, y_16, wt⟩ := u
          obtain ⟨hT, hkp, w_17, w_18, w_19, lo_r_13, hi_r_13⟩ := hw
          have hW := hW.call (show ∀ x ∈ [], x ∈ [] by decide) hkp
          have hP : va_P (gg_D G) classes ([(tp, .inr (8, [.ref bp, .int n, .int y_14, .int y_15, .int y_16])), (bp, .inl (G.2.2 0, 400, .inl bf))] ++ wt) H := hP
          have hD : va_D A ([(tp, .inr (8, [.ref bp, .int n, .int y_14, .int y_15, .int y_16])), (bp, .inl (G.2.2 0, 400, .inl bf))] ++ wt) := hD
          have z_r_13 : r_13 = 0 := by rw [← Int32.toInt_inj]; omega
          subst z_r_13
          refine lv_pop hx hb dX8_number_129 rfl ?_
          refine lv_iconst (v := (-1)) hx hb dX8_number_130 (by decide +kernel) ?_
          have hP9 : va_P (gg_D G) classes ([(tp, .inr (8, [.ref bp, .int n, .int y_14, .int y_15, .int y_16])), (bp, .inl (G.2.2 0, 400, .inl bf))] ++ wt) _ := hP
          have hD9 : va_D A ([(tp, .inr (8, [.ref bp, .int n, .int y_14, .int y_15, .int y_16])), (bp, .inl (G.2.2 0, 400, .inl bf))] ++ wt) := hD
          exact W.iret (v := (-1)) hx hb hr (gq_endI (y_14, y_15, y_16, wt) ⟨hT, hW, (by omega), (by omega), (by omega), (by omega)⟩ hP9 hD9 hS) hS.2.2 dX8_number_131
        · rw [Int32.lt_iff_toInt_lt] at c_12
          refine lv_iload_n hx hb dX8_number_115 rfl (lv_at hl 1 rfl) ?_
          refine lv_iload_n hx hb dX8_number_116 rfl (lv_at hl 4 rfl) ?_
          refine lv_icmp_le (tgt := 132) hx hb dX8_number_117 (by decide) (fun c_20 => ?_) (fun c_20 => ?_)
          · rw [Int32.le_iff_toInt_le] at c_20
            refine lv_aload_n hx hb dX8_number_132 rfl (lv_at hl 2 rfl) ?_
            refine lv_iload hx hb dX8_number_133 (lv_at hl 0 rfl) ?_
            have hP : va_P (gg_D G) classes ([] ++ ([(tp, .inr (8, [.ref bp, .int n, .int at_, .int w_, .int fl])), (bp, .inl (G.2.2 0, 400, .inl bf))] ++ wt)) H := hP
            have hD : va_D A ([] ++ ([(tp, .inr (8, [.ref bp, .int n, .int at_, .int w_, .int fl])), (bp, .inl (G.2.2 0, 400, .inl bf))] ++ wt)) := hD
            refine gt_callV (wr := []) (va_runV (As := [.int x8_0]) (rest := []) ⟨hx, hb, hml, hown, ht⟩ (d_goTo l G Γ H.size wt hT x8_0 tp bp n at_ w_ fl bf (by omega) (by omega) (by first | assumption | omega) (by first | assumption | omega) (by first | assumption | omega) (by first | assumption | omega) (by first | assumption | omega)) (cwV 1 ht (ts_gV wd_578 wd_580 wd_0 wd_123 wd_581) rfl rfl rfl (by decide +kernel) ⟨Nat.le_of_ble_eq_true rfl, Nat.le_of_ble_eq_true rfl⟩) (gc_preV (ci := 8) (q0 := 0) hK (tw_right hP) (tw_rightD hD) rfl rfl) rfl rfl hl.1 rfl (lv_room (Nat.le_of_ble_eq_true rfl)) dX8_number_135 ⟨Nat.le_of_ble_eq_true rfl, Nat.le_of_ble_eq_true rfl⟩) hP hD hS hA (fun u H locs hw hP hD hS => ?_)
            obtain ⟨y_21, y_22, y_23, wt⟩ := u
            obtain ⟨hT, hkp, w_24, w_25, w_26⟩ := hw
            have hW := hW.call (show ∀ x ∈ [], x ∈ [] by decide) hkp
            have hP : va_P (gg_D G) classes ([(tp, .inr (8, [.ref bp, .int n, .int y_21, .int y_22, .int y_23])), (bp, .inl (G.2.2 0, 400, .inl bf))] ++ wt) H := hP
            have hD : va_D A ([(tp, .inr (8, [.ref bp, .int n, .int y_21, .int y_22, .int y_23])), (bp, .inl (G.2.2 0, 400, .inl bf))] ++ wt) := hD
            refine lv_iload_n hx hb dX8_number_138 rfl (lv_at hl 1 rfl) ?_
            have hP9 : va_P (gg_D G) classes ([(tp, .inr (8, [.ref bp, .int n, .int y_21, .int y_22, .int y_23])), (bp, .inl (G.2.2 0, 400, .inl bf))] ++ wt) _ := hP
            have hD9 : va_D A ([(tp, .inr (8, [.ref bp, .int n, .int y_21, .int y_22, .int y_23])), (bp, .inl (G.2.2 0, 400, .inl bf))] ++ wt) := hD
            exact W.iret (v := x8_1) hx hb hr (gq_endI (y_21, y_22, y_23, wt) ⟨hT, hW, (by omega), (by omega), (by omega), (by omega)⟩ hP9 hD9 hS) hS.2.2 dX8_number_139
          · rw [Int32.le_iff_toInt_le] at c_20
            refine lv_aload_n hx hb dX8_number_120 rfl (lv_at hl 2 rfl) ?_
            refine lv_aload_n hx hb dX8_number_121 rfl (lv_at hl 2 rfl) ?_
            refine gq_get hx hb ht hown hK hP i_X8 0 rfl rfl 2 (by decide) wd_158 rfl rfl dX8_number_122 ?_
            refine lv_iconst (v := 1) hx hb dX8_number_125 (by decide +kernel) ?_
            have hP : va_P (gg_D G) classes ([] ++ ([(tp, .inr (8, [.ref bp, .int n, .int at_, .int w_, .int fl])), (bp, .inl (G.2.2 0, 400, .inl bf))] ++ wt)) H := hP
            have hD : va_D A ([] ++ ([(tp, .inr (8, [.ref bp, .int n, .int at_, .int w_, .int fl])), (bp, .inl (G.2.2 0, 400, .inl bf))] ++ wt)) := hD
            refine gt_callI (wr := []) (va_runV (As := [.int at_, .int 1]) (rest := []) ⟨hx, hb, hml, hown, ht⟩ (d_refuse l G Γ H.size wt hT at_ 1 tp bp n at_ w_ fl bf (by first | assumption | omega) (by first | assumption | omega) (by first | assumption | omega) (by first | assumption | omega) (by first | assumption | omega)) (cwV 2 ht (ts_gV wd_659 wd_644 wd_645 wd_123 wd_646) rfl rfl rfl (by decide +kernel) ⟨Nat.le_of_ble_eq_true rfl, Nat.le_of_ble_eq_true rfl⟩) (gc_preV (ci := 8) (q0 := 0) hK (tw_right hP) (tw_rightD hD) rfl rfl) rfl rfl hl.1 rfl (lv_room (Nat.le_of_ble_eq_true rfl)) dX8_number_126 ⟨Nat.le_of_ble_eq_true rfl, Nat.le_of_ble_eq_true rfl⟩) hP hD hS hA (fun r_27 u H locs hw hP hD hS => ?_)
            obtain ⟨y_28, y_29, y_30, wt⟩ := u
            obtain ⟨hT, hkp, w_31, w_32, w_33, lo_r_27, hi_r_27⟩ := hw
            have hW := hW.call (show ∀ x ∈ [], x ∈ [] by decide) hkp
            have hP : va_P (gg_D G) classes ([(tp, .inr (8, [.ref bp, .int n, .int y_28, .int y_29, .int y_30])), (bp, .inl (G.2.2 0, 400, .inl bf))] ++ wt) H := hP
            have hD : va_D A ([(tp, .inr (8, [.ref bp, .int n, .int y_28, .int y_29, .int y_30])), (bp, .inl (G.2.2 0, 400, .inl bf))] ++ wt) := hD
            have z_r_27 : r_27 = 0 := by rw [← Int32.toInt_inj]; omega
            subst z_r_27
            refine lv_pop hx hb dX8_number_129 rfl ?_
            refine lv_iconst (v := (-1)) hx hb dX8_number_130 (by decide +kernel) ?_
            have hP9 : va_P (gg_D G) classes ([(tp, .inr (8, [.ref bp, .int n, .int y_28, .int y_29, .int y_30])), (bp, .inl (G.2.2 0, 400, .inl bf))] ++ wt) _ := hP
            have hD9 : va_D A ([(tp, .inr (8, [.ref bp, .int n, .int y_28, .int y_29, .int y_30])), (bp, .inl (G.2.2 0, 400, .inl bf))] ++ wt) := hD
            exact W.iret (v := (-1)) hx hb hr (gq_endI (y_28, y_29, y_30, wt) ⟨hT, hW, (by omega), (by omega), (by omega), (by omega)⟩ hP9 hD9 hS) hS.2.2 dX8_number_131
    · rw [← Int32.toInt_inj] at c_2
      refine lv_aload_n hx hb dX8_number_87 rfl (lv_at hl 2 rfl) ?_
      refine lv_aload_n hx hb dX8_number_88 rfl (lv_at hl 2 rfl) ?_
      refine gq_get hx hb ht hown hK hP i_X8 0 rfl rfl 2 (by decide) wd_158 rfl rfl dX8_number_89 ?_
      refine lv_iconst (v := 0) hx hb dX8_number_92 (by decide +kernel) ?_
      have hP : va_P (gg_D G) classes ([] ++ ([(tp, .inr (8, [.ref bp, .int n, .int at_, .int w_, .int fl])), (bp, .inl (G.2.2 0, 400, .inl bf))] ++ wt)) H := hP
      have hD : va_D A ([] ++ ([(tp, .inr (8, [.ref bp, .int n, .int at_, .int w_, .int fl])), (bp, .inl (G.2.2 0, 400, .inl bf))] ++ wt)) := hD
      refine gt_callI (wr := []) (va_runV (As := [.int at_, .int 0]) (rest := []) ⟨hx, hb, hml, hown, ht⟩ (d_refuse l G Γ H.size wt hT at_ 0 tp bp n at_ w_ fl bf (by first | assumption | omega) (by first | assumption | omega) (by first | assumption | omega) (by first | assumption | omega) (by first | assumption | omega)) (cwV 2 ht (ts_gV wd_659 wd_644 wd_645 wd_123 wd_646) rfl rfl rfl (by decide +kernel) ⟨Nat.le_of_ble_eq_true rfl, Nat.le_of_ble_eq_true rfl⟩) (gc_preV (ci := 8) (q0 := 0) hK (tw_right hP) (tw_rightD hD) rfl rfl) rfl rfl hl.1 rfl (lv_room (Nat.le_of_ble_eq_true rfl)) dX8_number_93 ⟨Nat.le_of_ble_eq_true rfl, Nat.le_of_ble_eq_true rfl⟩) hP hD hS hA (fun r_34 u H locs hw hP hD hS => ?_)
      obtain ⟨y_35, y_36, y_37, wt⟩ := u
      obtain ⟨hT, hkp, w_38, w_39, w_40, lo_r_34, hi_r_34⟩ := hw
      have hW := hW.call (show ∀ x ∈ [], x ∈ [] by decide) hkp
      have hP : va_P (gg_D G) classes ([(tp, .inr (8, [.ref bp, .int n, .int y_35, .int y_36, .int y_37])), (bp, .inl (G.2.2 0, 400, .inl bf))] ++ wt) H := hP
      have hD : va_D A ([(tp, .inr (8, [.ref bp, .int n, .int y_35, .int y_36, .int y_37])), (bp, .inl (G.2.2 0, 400, .inl bf))] ++ wt) := hD
      have z_r_34 : r_34 = 0 := by rw [← Int32.toInt_inj]; omega
      subst z_r_34
      refine lv_pop hx hb dX8_number_96 rfl ?_
      refine lv_iconst (v := (-1)) hx hb dX8_number_97 (by decide +kernel) ?_
      have hP9 : va_P (gg_D G) classes ([(tp, .inr (8, [.ref bp, .int n, .int y_35, .int y_36, .int y_37])), (bp, .inl (G.2.2 0, 400, .inl bf))] ++ wt) _ := hP
      have hD9 : va_D A ([(tp, .inr (8, [.ref bp, .int n, .int y_35, .int y_36, .int y_37])), (bp, .inl (G.2.2 0, 400, .inl bf))] ++ wt) := hD
      exact W.iret (v := (-1)) hx hb hr (gq_endI (y_35, y_36, y_37, wt) ⟨hT, hW, (by omega), (by omega), (by omega), (by omega)⟩ hP9 hD9 hS) hS.2.2 dX8_number_98
  · rw [Int32.le_iff_toInt_le] at c_1
    refine lv_aload_n hx hb dX8_number_17 rfl (lv_at hl 2 rfl) ?_
    refine gq_get hx hb ht hown hK hP i_X8 0 rfl rfl 0 (by decide) wd_156 rfl rfl dX8_number_18 ?_
    refine lv_iload hx hb dX8_number_21 (lv_at hl 0 rfl) ?_
    obtain ⟨n_41, en_41⟩ : ∃ zz_ : Int32, bf (Int32.toNatClampNeg x8_0) = zz_ := ⟨_, rfl⟩
    refine gq_iald hx hb hK hP 1 rfl n_41 (ia_in (n := 400) (by omega) (by omega)) en_41 dX8_number_23 ?_
    refine lv_bipush (v := 48) hx hb dX8_number_24 (by decide +kernel) ?_
    refine lv_icmp_lt (tgt := 78) hx hb dX8_number_26 (by decide) (fun c_42 => ?_) (fun c_42 => ?_)
    · rw [Int32.lt_iff_toInt_lt] at c_42
      refine lv_iload hx hb dX8_number_78 (lv_at hl 0 rfl) ?_
      refine lv_aload_n hx hb dX8_number_80 rfl (lv_at hl 2 rfl) ?_
      refine gq_get hx hb ht hown hK hP i_X8 0 rfl rfl 2 (by decide) wd_158 rfl rfl dX8_number_81 ?_
      refine lv_icmp_ne (tgt := 99) hx hb dX8_number_84 (by decide) (fun c_43 => ?_) (fun c_43 => ?_)
      · rw [← Int32.toInt_inj] at c_43
        refine lv_iload hx hb dX8_number_99 (lv_at hl 0 rfl) ?_
        refine lv_aload_n hx hb dX8_number_101 rfl (lv_at hl 2 rfl) ?_
        refine gq_get hx hb ht hown hK hP i_X8 0 rfl rfl 2 (by decide) wd_158 rfl rfl dX8_number_102 ?_
        obtain ⟨t_44, et_44⟩ : ∃ zz_ : Int32, x8_0 - at_ = zz_ := ⟨_, rfl⟩
        refine gq_isub hx hb t_44 et_44 dX8_number_105 ?_
        have ft_44 := ia_sub et_44 (by omega) (by omega)
        refine lv_iconst (v := 5) hx hb dX8_number_106 (by decide +kernel) ?_
        refine lv_icmp_gt (tgt := 120) hx hb dX8_number_107 (by decide) (fun c_45 => ?_) (fun c_45 => ?_)
        · rw [Int32.lt_iff_toInt_lt] at c_45
          refine lv_aload_n hx hb dX8_number_120 rfl (lv_at hl 2 rfl) ?_
          refine lv_aload_n hx hb dX8_number_121 rfl (lv_at hl 2 rfl) ?_
          refine gq_get hx hb ht hown hK hP i_X8 0 rfl rfl 2 (by decide) wd_158 rfl rfl dX8_number_122 ?_
          refine lv_iconst (v := 1) hx hb dX8_number_125 (by decide +kernel) ?_
          have hP : va_P (gg_D G) classes ([] ++ ([(tp, .inr (8, [.ref bp, .int n, .int at_, .int w_, .int fl])), (bp, .inl (G.2.2 0, 400, .inl bf))] ++ wt)) H := hP
          have hD : va_D A ([] ++ ([(tp, .inr (8, [.ref bp, .int n, .int at_, .int w_, .int fl])), (bp, .inl (G.2.2 0, 400, .inl bf))] ++ wt)) := hD
          refine gt_callI (wr := []) (va_runV (As := [.int at_, .int 1]) (rest := []) ⟨hx, hb, hml, hown, ht⟩ (d_refuse l G Γ H.size wt hT at_ 1 tp bp n at_ w_ fl bf (by first | assumption | omega) (by first | assumption | omega) (by first | assumption | omega) (by first | assumption | omega) (by first | assumption | omega)) (cwV 2 ht (ts_gV wd_659 wd_644 wd_645 wd_123 wd_646) rfl rfl rfl (by decide +kernel) ⟨Nat.le_of_ble_eq_true rfl, Nat.le_of_ble_eq_true rfl⟩) (gc_preV (ci := 8) (q0 := 0) hK (tw_right hP) (tw_rightD hD) rfl rfl) rfl rfl hl.1 rfl (lv_room (Nat.le_of_ble_eq_true rfl)) dX8_number_126 ⟨Nat.le_of_ble_eq_true rfl, Nat.le_of_ble_eq_true rfl⟩) hP hD hS hA (fun r_46 u H locs hw hP hD hS => ?_)
          obtain ⟨y_47, y_48, y_49, wt⟩ := u
          obtain ⟨hT, hkp, w_50, w_51, w_52, lo_r_46, hi_r_46⟩ := hw
          have hW := hW.call (show ∀ x ∈ [], x ∈ [] by decide) hkp
          have hP : va_P (gg_D G) classes ([(tp, .inr (8, [.ref bp, .int n, .int y_47, .int y_48, .int y_49])), (bp, .inl (G.2.2 0, 400, .inl bf))] ++ wt) H := hP
          have hD : va_D A ([(tp, .inr (8, [.ref bp, .int n, .int y_47, .int y_48, .int y_49])), (bp, .inl (G.2.2 0, 400, .inl bf))] ++ wt) := hD
          have z_r_46 : r_46 = 0 := by rw [← Int32.toInt_inj]; omega
          subst z_r_46
          refine lv_pop hx hb dX8_number_129 rfl ?_
          refine lv_iconst (v := (-1)) hx hb dX8_number_130 (by decide +kernel) ?_
          have hP9 : va_P (gg_D G) classes ([(tp, .inr (8, [.ref bp, .int n, .int y_47, .int y_48, .int y_49])), (bp, .inl (G.2.2 0, 400, .inl bf))] ++ wt) _ := hP
          have hD9 : va_D A ([(tp, .inr (8, [.ref bp, .int n, .int y_47, .int y_48, .int y_49])), (bp, .inl (G.2.2 0, 400, .inl bf))] ++ wt) := hD
          exact W.iret (v := (-1)) hx hb hr (gq_endI (y_47, y_48, y_49, wt) ⟨hT, hW, (by omega), (by omega), (by omega), (by omega)⟩ hP9 hD9 hS) hS.2.2 dX8_number_131
        · rw [Int32.lt_iff_toInt_lt] at c_45
          refine lv_iload_n hx hb dX8_number_110 rfl (lv_at hl 1 rfl) ?_
          refine lv_iload_n hx hb dX8_number_111 rfl (lv_at hl 3 rfl) ?_
          refine lv_icmp_lt (tgt := 120) hx hb dX8_number_112 (by decide) (fun c_53 => ?_) (fun c_53 => ?_)
          · rw [Int32.lt_iff_toInt_lt] at c_53
            refine lv_aload_n hx hb dX8_number_120 rfl (lv_at hl 2 rfl) ?_
            refine lv_aload_n hx hb dX8_number_121 rfl (lv_at hl 2 rfl) ?_
            refine gq_get hx hb ht hown hK hP i_X8 0 rfl rfl 2 (by decide) wd_158 rfl rfl dX8_number_122 ?_
            refine lv_iconst (v := 1) hx hb dX8_number_125 (by decide +kernel) ?_
            have hP : va_P (gg_D G) classes ([] ++ ([(tp, .inr (8, [.ref bp, .int n, .int at_, .int w_, .int fl])), (bp, .inl (G.2.2 0, 400, .inl bf))] ++ wt)) H := hP
            have hD : va_D A ([] ++ ([(tp, .inr (8, [.ref bp, .int n, .int at_, .int w_, .int fl])), (bp, .inl (G.2.2 0, 400, .inl bf))] ++ wt)) := hD
            refine gt_callI (wr := []) (va_runV (As := [.int at_, .int 1]) (rest := []) ⟨hx, hb, hml, hown, ht⟩ (d_refuse l G Γ H.size wt hT at_ 1 tp bp n at_ w_ fl bf (by first | assumption | omega) (by first | assumption | omega) (by first | assumption | omega) (by first | assumption | omega) (by first | assumption | omega)) (cwV 2 ht (ts_gV wd_659 wd_644 wd_645 wd_123 wd_646) rfl rfl rfl (by decide +kernel) ⟨Nat.le_of_ble_eq_true rfl, Nat.le_of_ble_eq_true rfl⟩) (gc_preV (ci := 8) (q0 := 0) hK (tw_right hP) (tw_rightD hD) rfl rfl) rfl rfl hl.1 rfl (lv_room (Nat.le_of_ble_eq_true rfl)) dX8_number_126 ⟨Nat.le_of_ble_eq_true rfl, Nat.le_of_ble_eq_true rfl⟩) hP hD hS hA (fun r_54 u H locs hw hP hD hS => ?_)
            obtain ⟨y_55, y_56, y_57, wt⟩ := u
            obtain ⟨hT, hkp, w_58, w_59, w_60, lo_r_54, hi_r_54⟩ := hw
            have hW := hW.call (show ∀ x ∈ [], x ∈ [] by decide) hkp
            have hP : va_P (gg_D G) classes ([(tp, .inr (8, [.ref bp, .int n, .int y_55, .int y_56, .int y_57])), (bp, .inl (G.2.2 0, 400, .inl bf))] ++ wt) H := hP
            have hD : va_D A ([(tp, .inr (8, [.ref bp, .int n, .int y_55, .int y_56, .int y_57])), (bp, .inl (G.2.2 0, 400, .inl bf))] ++ wt) := hD
            have z_r_54 : r_54 = 0 := by rw [← Int32.toInt_inj]; omega
            subst z_r_54
            refine lv_pop hx hb dX8_number_129 rfl ?_
            refine lv_iconst (v := (-1)) hx hb dX8_number_130 (by decide +kernel) ?_
            have hP9 : va_P (gg_D G) classes ([(tp, .inr (8, [.ref bp, .int n, .int y_55, .int y_56, .int y_57])), (bp, .inl (G.2.2 0, 400, .inl bf))] ++ wt) _ := hP
            have hD9 : va_D A ([(tp, .inr (8, [.ref bp, .int n, .int y_55, .int y_56, .int y_57])), (bp, .inl (G.2.2 0, 400, .inl bf))] ++ wt) := hD
            exact W.iret (v := (-1)) hx hb hr (gq_endI (y_55, y_56, y_57, wt) ⟨hT, hW, (by omega), (by omega), (by omega), (by omega)⟩ hP9 hD9 hS) hS.2.2 dX8_number_131
          · rw [Int32.lt_iff_toInt_lt] at c_53
            refine lv_iload_n hx hb dX8_number_115 rfl (lv_at hl 1 rfl) ?_
            refine lv_iload_n hx hb dX8_number_116 rfl (lv_at hl 4 rfl) ?_
            refine lv_icmp_le (tgt := 132) hx hb dX8_number_117 (by decide) (fun c_61 => ?_) (fun c_61 => ?_)
            · rw [Int32.le_iff_toInt_le] at c_61
              refine lv_aload_n hx hb dX8_number_132 rfl (lv_at hl 2 rfl) ?_
              refine lv_iload hx hb dX8_number_133 (lv_at hl 0 rfl) ?_
              have hP : va_P (gg_D G) classes ([] ++ ([(tp, .inr (8, [.ref bp, .int n, .int at_, .int w_, .int fl])), (bp, .inl (G.2.2 0, 400, .inl bf))] ++ wt)) H := hP
              have hD : va_D A ([] ++ ([(tp, .inr (8, [.ref bp, .int n, .int at_, .int w_, .int fl])), (bp, .inl (G.2.2 0, 400, .inl bf))] ++ wt)) := hD
              refine gt_callV (wr := []) (va_runV (As := [.int x8_0]) (rest := []) ⟨hx, hb, hml, hown, ht⟩ (d_goTo l G Γ H.size wt hT x8_0 tp bp n at_ w_ fl bf (by omega) (by omega) (by first | assumption | omega) (by first | assumption | omega) (by first | assumption | omega) (by first | assumption | omega) (by first | assumption | omega)) (cwV 1 ht (ts_gV wd_578 wd_580 wd_0 wd_123 wd_581) rfl rfl rfl (by decide +kernel) ⟨Nat.le_of_ble_eq_true rfl, Nat.le_of_ble_eq_true rfl⟩) (gc_preV (ci := 8) (q0 := 0) hK (tw_right hP) (tw_rightD hD) rfl rfl) rfl rfl hl.1 rfl (lv_room (Nat.le_of_ble_eq_true rfl)) dX8_number_135 ⟨Nat.le_of_ble_eq_true rfl, Nat.le_of_ble_eq_true rfl⟩) hP hD hS hA (fun u H locs hw hP hD hS => ?_)
              obtain ⟨y_62, y_63, y_64, wt⟩ := u
              obtain ⟨hT, hkp, w_65, w_66, w_67⟩ := hw
              have hW := hW.call (show ∀ x ∈ [], x ∈ [] by decide) hkp
              have hP : va_P (gg_D G) classes ([(tp, .inr (8, [.ref bp, .int n, .int y_62, .int y_63, .int y_64])), (bp, .inl (G.2.2 0, 400, .inl bf))] ++ wt) H := hP
              have hD : va_D A ([(tp, .inr (8, [.ref bp, .int n, .int y_62, .int y_63, .int y_64])), (bp, .inl (G.2.2 0, 400, .inl bf))] ++ wt) := hD
              refine lv_iload_n hx hb dX8_number_138 rfl (lv_at hl 1 rfl) ?_
              have hP9 : va_P (gg_D G) classes ([(tp, .inr (8, [.ref bp, .int n, .int y_62, .int y_63, .int y_64])), (bp, .inl (G.2.2 0, 400, .inl bf))] ++ wt) _ := hP
              have hD9 : va_D A ([(tp, .inr (8, [.ref bp, .int n, .int y_62, .int y_63, .int y_64])), (bp, .inl (G.2.2 0, 400, .inl bf))] ++ wt) := hD
              exact W.iret (v := x8_1) hx hb hr (gq_endI (y_62, y_63, y_64, wt) ⟨hT, hW, (by omega), (by omega), (by omega), (by omega)⟩ hP9 hD9 hS) hS.2.2 dX8_number_139
            · rw [Int32.le_iff_toInt_le] at c_61
              refine lv_aload_n hx hb dX8_number_120 rfl (lv_at hl 2 rfl) ?_
              refine lv_aload_n hx hb dX8_number_121 rfl (lv_at hl 2 rfl) ?_
              refine gq_get hx hb ht hown hK hP i_X8 0 rfl rfl 2 (by decide) wd_158 rfl rfl dX8_number_122 ?_
              refine lv_iconst (v := 1) hx hb dX8_number_125 (by decide +kernel) ?_
              have hP : va_P (gg_D G) classes ([] ++ ([(tp, .inr (8, [.ref bp, .int n, .int at_, .int w_, .int fl])), (bp, .inl (G.2.2 0, 400, .inl bf))] ++ wt)) H := hP
              have hD : va_D A ([] ++ ([(tp, .inr (8, [.ref bp, .int n, .int at_, .int w_, .int fl])), (bp, .inl (G.2.2 0, 400, .inl bf))] ++ wt)) := hD
              refine gt_callI (wr := []) (va_runV (As := [.int at_, .int 1]) (rest := []) ⟨hx, hb, hml, hown, ht⟩ (d_refuse l G Γ H.size wt hT at_ 1 tp bp n at_ w_ fl bf (by first | assumption | omega) (by first | assumption | omega) (by first | assumption | omega) (by first | assumption | omega) (by first | assumption | omega)) (cwV 2 ht (ts_gV wd_659 wd_644 wd_645 wd_123 wd_646) rfl rfl rfl (by decide +kernel) ⟨Nat.le_of_ble_eq_true rfl, Nat.le_of_ble_eq_true rfl⟩) (gc_preV (ci := 8) (q0 := 0) hK (tw_right hP) (tw_rightD hD) rfl rfl) rfl rfl hl.1 rfl (lv_room (Nat.le_of_ble_eq_true rfl)) dX8_number_126 ⟨Nat.le_of_ble_eq_true rfl, Nat.le_of_ble_eq_true rfl⟩) hP hD hS hA (fun r_68 u H locs hw hP hD hS => ?_)
              obtain ⟨y_69, y_70, y_71, wt⟩ := u
              obtain ⟨hT, hkp, w_72, w_73, w_74, lo_r_68, hi_r_68⟩ := hw
              have hW := hW.call (show ∀ x ∈ [], x ∈ [] by decide) hkp
              have hP : va_P (gg_D G) classes ([(tp, .inr (8, [.ref bp, .int n, .int y_69, .int y_70, .int y_71])), (bp, .inl (G.2.2 0, 400, .inl bf))] ++ wt) H := hP
              have hD : va_D A ([(tp, .inr (8, [.ref bp, .int n, .int y_69, .int y_70, .int y_71])), (bp, .inl (G.2.2 0, 400, .inl bf))] ++ wt) := hD
              have z_r_68 : r_68 = 0 := by rw [← Int32.toInt_inj]; omega
              subst z_r_68
              refine lv_pop hx hb dX8_number_129 rfl ?_
              refine lv_iconst (v := (-1)) hx hb dX8_number_130 (by decide +kernel) ?_
              have hP9 : va_P (gg_D G) classes ([(tp, .inr (8, [.ref bp, .int n, .int y_69, .int y_70, .int y_71])), (bp, .inl (G.2.2 0, 400, .inl bf))] ++ wt) _ := hP
              have hD9 : va_D A ([(tp, .inr (8, [.ref bp, .int n, .int y_69, .int y_70, .int y_71])), (bp, .inl (G.2.2 0, 400, .inl bf))] ++ wt) := hD
              exact W.iret (v := (-1)) hx hb hr (gq_endI (y_69, y_70, y_71, wt) ⟨hT, hW, (by omega), (by omega), (by omega), (by omega)⟩ hP9 hD9 hS) hS.2.2 dX8_number_131
      · rw [← Int32.toInt_inj] at c_43
        refine lv_aload_n hx hb dX8_number_87 rfl (lv_at hl 2 rfl) ?_
        refine lv_aload_n hx hb dX8_number_88 rfl (lv_at hl 2 rfl) ?_
        refine gq_get hx hb ht hown hK hP i_X8 0 rfl rfl 2 (by decide) wd_158 rfl rfl dX8_number_89 ?_
        refine lv_iconst (v := 0) hx hb dX8_number_92 (by decide +kernel) ?_
        have hP : va_P (gg_D G) classes ([] ++ ([(tp, .inr (8, [.ref bp, .int n, .int at_, .int w_, .int fl])), (bp, .inl (G.2.2 0, 400, .inl bf))] ++ wt)) H := hP
        have hD : va_D A ([] ++ ([(tp, .inr (8, [.ref bp, .int n, .int at_, .int w_, .int fl])), (bp, .inl (G.2.2 0, 400, .inl bf))] ++ wt)) := hD
        refine gt_callI (wr := []) (va_runV (As := [.int at_, .int 0]) (rest := []) ⟨hx, hb, hml, hown, ht⟩ (d_refuse l G Γ H.size wt hT at_ 0 tp bp n at_ w_ fl bf (by first | assumption | omega) (by first | assumption | omega) (by first | assumption | omega) (by first | assumption | omega) (by first | assumption | omega)) (cwV 2 ht (ts_gV wd_659 wd_644 wd_645 wd_123 wd_646) rfl rfl rfl (by decide +kernel) ⟨Nat.le_of_ble_eq_true rfl, Nat.le_of_ble_eq_true rfl⟩) (gc_preV (ci := 8) (q0 := 0) hK (tw_right hP) (tw_rightD hD) rfl rfl) rfl rfl hl.1 rfl (lv_room (Nat.le_of_ble_eq_true rfl)) dX8_number_93 ⟨Nat.le_of_ble_eq_true rfl, Nat.le_of_ble_eq_true rfl⟩) hP hD hS hA (fun r_75 u H locs hw hP hD hS => ?_)
        obtain ⟨y_76, y_77, y_78, wt⟩ := u
        obtain ⟨hT, hkp, w_79, w_80, w_81, lo_r_75, hi_r_75⟩ := hw
        have hW := hW.call (show ∀ x ∈ [], x ∈ [] by decide) hkp
        have hP : va_P (gg_D G) classes ([(tp, .inr (8, [.ref bp, .int n, .int y_76, .int y_77, .int y_78])), (bp, .inl (G.2.2 0, 400, .inl bf))] ++ wt) H := hP
        have hD : va_D A ([(tp, .inr (8, [.ref bp, .int n, .int y_76, .int y_77, .int y_78])), (bp, .inl (G.2.2 0, 400, .inl bf))] ++ wt) := hD
        have z_r_75 : r_75 = 0 := by rw [← Int32.toInt_inj]; omega
        subst z_r_75
        refine lv_pop hx hb dX8_number_96 rfl ?_
        refine lv_iconst (v := (-1)) hx hb dX8_number_97 (by decide +kernel) ?_
        have hP9 : va_P (gg_D G) classes ([(tp, .inr (8, [.ref bp, .int n, .int y_76, .int y_77, .int y_78])), (bp, .inl (G.2.2 0, 400, .inl bf))] ++ wt) _ := hP
        have hD9 : va_D A ([(tp, .inr (8, [.ref bp, .int n, .int y_76, .int y_77, .int y_78])), (bp, .inl (G.2.2 0, 400, .inl bf))] ++ wt) := hD
        exact W.iret (v := (-1)) hx hb hr (gq_endI (y_76, y_77, y_78, wt) ⟨hT, hW, (by omega), (by omega), (by omega), (by omega)⟩ hP9 hD9 hS) hS.2.2 dX8_number_98
    · rw [Int32.lt_iff_toInt_lt] at c_42
      refine lv_aload_n hx hb dX8_number_29 rfl (lv_at hl 2 rfl) ?_
      refine gq_get hx hb ht hown hK hP i_X8 0 rfl rfl 0 (by decide) wd_156 rfl rfl dX8_number_30 ?_
      refine lv_iload hx hb dX8_number_33 (lv_at hl 0 rfl) ?_
      refine gq_iald hx hb hK hP 1 rfl n_41 (ia_in (n := 400) (by omega) (by omega)) en_41 dX8_number_35 ?_
      refine lv_bipush (v := 57) hx hb dX8_number_36 (by decide +kernel) ?_
      refine lv_icmp_gt (tgt := 78) hx hb dX8_number_38 (by decide) (fun c_82 => ?_) (fun c_82 => ?_)
      · rw [Int32.lt_iff_toInt_lt] at c_82
        refine lv_iload hx hb dX8_number_78 (lv_at hl 0 rfl) ?_
        refine lv_aload_n hx hb dX8_number_80 rfl (lv_at hl 2 rfl) ?_
        refine gq_get hx hb ht hown hK hP i_X8 0 rfl rfl 2 (by decide) wd_158 rfl rfl dX8_number_81 ?_
        refine lv_icmp_ne (tgt := 99) hx hb dX8_number_84 (by decide) (fun c_83 => ?_) (fun c_83 => ?_)
        · rw [← Int32.toInt_inj] at c_83
          refine lv_iload hx hb dX8_number_99 (lv_at hl 0 rfl) ?_
          refine lv_aload_n hx hb dX8_number_101 rfl (lv_at hl 2 rfl) ?_
          refine gq_get hx hb ht hown hK hP i_X8 0 rfl rfl 2 (by decide) wd_158 rfl rfl dX8_number_102 ?_
          obtain ⟨t_84, et_84⟩ : ∃ zz_ : Int32, x8_0 - at_ = zz_ := ⟨_, rfl⟩
          refine gq_isub hx hb t_84 et_84 dX8_number_105 ?_
          have ft_84 := ia_sub et_84 (by omega) (by omega)
          refine lv_iconst (v := 5) hx hb dX8_number_106 (by decide +kernel) ?_
          refine lv_icmp_gt (tgt := 120) hx hb dX8_number_107 (by decide) (fun c_85 => ?_) (fun c_85 => ?_)
          · rw [Int32.lt_iff_toInt_lt] at c_85
            refine lv_aload_n hx hb dX8_number_120 rfl (lv_at hl 2 rfl) ?_
            refine lv_aload_n hx hb dX8_number_121 rfl (lv_at hl 2 rfl) ?_
            refine gq_get hx hb ht hown hK hP i_X8 0 rfl rfl 2 (by decide) wd_158 rfl rfl dX8_number_122 ?_
            refine lv_iconst (v := 1) hx hb dX8_number_125 (by decide +kernel) ?_
            have hP : va_P (gg_D G) classes ([] ++ ([(tp, .inr (8, [.ref bp, .int n, .int at_, .int w_, .int fl])), (bp, .inl (G.2.2 0, 400, .inl bf))] ++ wt)) H := hP
            have hD : va_D A ([] ++ ([(tp, .inr (8, [.ref bp, .int n, .int at_, .int w_, .int fl])), (bp, .inl (G.2.2 0, 400, .inl bf))] ++ wt)) := hD
            refine gt_callI (wr := []) (va_runV (As := [.int at_, .int 1]) (rest := []) ⟨hx, hb, hml, hown, ht⟩ (d_refuse l G Γ H.size wt hT at_ 1 tp bp n at_ w_ fl bf (by first | assumption | omega) (by first | assumption | omega) (by first | assumption | omega) (by first | assumption | omega) (by first | assumption | omega)) (cwV 2 ht (ts_gV wd_659 wd_644 wd_645 wd_123 wd_646) rfl rfl rfl (by decide +kernel) ⟨Nat.le_of_ble_eq_true rfl, Nat.le_of_ble_eq_true rfl⟩) (gc_preV (ci := 8) (q0 := 0) hK (tw_right hP) (tw_rightD hD) rfl rfl) rfl rfl hl.1 rfl (lv_room (Nat.le_of_ble_eq_true rfl)) dX8_number_126 ⟨Nat.le_of_ble_eq_true rfl, Nat.le_of_ble_eq_true rfl⟩) hP hD hS hA (fun r_86 u H locs hw hP hD hS => ?_)
            obtain ⟨y_87, y_88, y_89, wt⟩ := u
            obtain ⟨hT, hkp, w_90, w_91, w_92, lo_r_86, hi_r_86⟩ := hw
            have hW := hW.call (show ∀ x ∈ [], x ∈ [] by decide) hkp
            have hP : va_P (gg_D G) classes ([(tp, .inr (8, [.ref bp, .int n, .int y_87, .int y_88, .int y_89])), (bp, .inl (G.2.2 0, 400, .inl bf))] ++ wt) H := hP
            have hD : va_D A ([(tp, .inr (8, [.ref bp, .int n, .int y_87, .int y_88, .int y_89])), (bp, .inl (G.2.2 0, 400, .inl bf))] ++ wt) := hD
            have z_r_86 : r_86 = 0 := by rw [← Int32.toInt_inj]; omega
            subst z_r_86
            refine lv_pop hx hb dX8_number_129 rfl ?_
            refine lv_iconst (v := (-1)) hx hb dX8_number_130 (by decide +kernel) ?_
            have hP9 : va_P (gg_D G) classes ([(tp, .inr (8, [.ref bp, .int n, .int y_87, .int y_88, .int y_89])), (bp, .inl (G.2.2 0, 400, .inl bf))] ++ wt) _ := hP
            have hD9 : va_D A ([(tp, .inr (8, [.ref bp, .int n, .int y_87, .int y_88, .int y_89])), (bp, .inl (G.2.2 0, 400, .inl bf))] ++ wt) := hD
            exact W.iret (v := (-1)) hx hb hr (gq_endI (y_87, y_88, y_89, wt) ⟨hT, hW, (by omega), (by omega), (by omega), (by omega)⟩ hP9 hD9 hS) hS.2.2 dX8_number_131
          · rw [Int32.lt_iff_toInt_lt] at c_85
            refine lv_iload_n hx hb dX8_number_110 rfl (lv_at hl 1 rfl) ?_
            refine lv_iload_n hx hb dX8_number_111 rfl (lv_at hl 3 rfl) ?_
            refine lv_icmp_lt (tgt := 120) hx hb dX8_number_112 (by decide) (fun c_93 => ?_) (fun c_93 => ?_)
            · rw [Int32.lt_iff_toInt_lt] at c_93
              refine lv_aload_n hx hb dX8_number_120 rfl (lv_at hl 2 rfl) ?_
              refine lv_aload_n hx hb dX8_number_121 rfl (lv_at hl 2 rfl) ?_
              refine gq_get hx hb ht hown hK hP i_X8 0 rfl rfl 2 (by decide) wd_158 rfl rfl dX8_number_122 ?_
              refine lv_iconst (v := 1) hx hb dX8_number_125 (by decide +kernel) ?_
              have hP : va_P (gg_D G) classes ([] ++ ([(tp, .inr (8, [.ref bp, .int n, .int at_, .int w_, .int fl])), (bp, .inl (G.2.2 0, 400, .inl bf))] ++ wt)) H := hP
              have hD : va_D A ([] ++ ([(tp, .inr (8, [.ref bp, .int n, .int at_, .int w_, .int fl])), (bp, .inl (G.2.2 0, 400, .inl bf))] ++ wt)) := hD
              refine gt_callI (wr := []) (va_runV (As := [.int at_, .int 1]) (rest := []) ⟨hx, hb, hml, hown, ht⟩ (d_refuse l G Γ H.size wt hT at_ 1 tp bp n at_ w_ fl bf (by first | assumption | omega) (by first | assumption | omega) (by first | assumption | omega) (by first | assumption | omega) (by first | assumption | omega)) (cwV 2 ht (ts_gV wd_659 wd_644 wd_645 wd_123 wd_646) rfl rfl rfl (by decide +kernel) ⟨Nat.le_of_ble_eq_true rfl, Nat.le_of_ble_eq_true rfl⟩) (gc_preV (ci := 8) (q0 := 0) hK (tw_right hP) (tw_rightD hD) rfl rfl) rfl rfl hl.1 rfl (lv_room (Nat.le_of_ble_eq_true rfl)) dX8_number_126 ⟨Nat.le_of_ble_eq_true rfl, Nat.le_of_ble_eq_true rfl⟩) hP hD hS hA (fun r_94 u H locs hw hP hD hS => ?_)
              obtain ⟨y_95, y_96, y_97, wt⟩ := u
              obtain ⟨hT, hkp, w_98, w_99, w_100, lo_r_94, hi_r_94⟩ := hw
              have hW := hW.call (show ∀ x ∈ [], x ∈ [] by decide) hkp
              have hP : va_P (gg_D G) classes ([(tp, .inr (8, [.ref bp, .int n, .int y_95, .int y_96, .int y_97])), (bp, .inl (G.2.2 0, 400, .inl bf))] ++ wt) H := hP
              have hD : va_D A ([(tp, .inr (8, [.ref bp, .int n, .int y_95, .int y_96, .int y_97])), (bp, .inl (G.2.2 0, 400, .inl bf))] ++ wt) := hD
              have z_r_94 : r_94 = 0 := by rw [← Int32.toInt_inj]; omega
              subst z_r_94
              refine lv_pop hx hb dX8_number_129 rfl ?_
              refine lv_iconst (v := (-1)) hx hb dX8_number_130 (by decide +kernel) ?_
              have hP9 : va_P (gg_D G) classes ([(tp, .inr (8, [.ref bp, .int n, .int y_95, .int y_96, .int y_97])), (bp, .inl (G.2.2 0, 400, .inl bf))] ++ wt) _ := hP
              have hD9 : va_D A ([(tp, .inr (8, [.ref bp, .int n, .int y_95, .int y_96, .int y_97])), (bp, .inl (G.2.2 0, 400, .inl bf))] ++ wt) := hD
              exact W.iret (v := (-1)) hx hb hr (gq_endI (y_95, y_96, y_97, wt) ⟨hT, hW, (by omega), (by omega), (by omega), (by omega)⟩ hP9 hD9 hS) hS.2.2 dX8_number_131
            · rw [Int32.lt_iff_toInt_lt] at c_93
              refine lv_iload_n hx hb dX8_number_115 rfl (lv_at hl 1 rfl) ?_
              refine lv_iload_n hx hb dX8_number_116 rfl (lv_at hl 4 rfl) ?_
              refine lv_icmp_le (tgt := 132) hx hb dX8_number_117 (by decide) (fun c_101 => ?_) (fun c_101 => ?_)
              · rw [Int32.le_iff_toInt_le] at c_101
                refine lv_aload_n hx hb dX8_number_132 rfl (lv_at hl 2 rfl) ?_
                refine lv_iload hx hb dX8_number_133 (lv_at hl 0 rfl) ?_
                have hP : va_P (gg_D G) classes ([] ++ ([(tp, .inr (8, [.ref bp, .int n, .int at_, .int w_, .int fl])), (bp, .inl (G.2.2 0, 400, .inl bf))] ++ wt)) H := hP
                have hD : va_D A ([] ++ ([(tp, .inr (8, [.ref bp, .int n, .int at_, .int w_, .int fl])), (bp, .inl (G.2.2 0, 400, .inl bf))] ++ wt)) := hD
                refine gt_callV (wr := []) (va_runV (As := [.int x8_0]) (rest := []) ⟨hx, hb, hml, hown, ht⟩ (d_goTo l G Γ H.size wt hT x8_0 tp bp n at_ w_ fl bf (by omega) (by omega) (by first | assumption | omega) (by first | assumption | omega) (by first | assumption | omega) (by first | assumption | omega) (by first | assumption | omega)) (cwV 1 ht (ts_gV wd_578 wd_580 wd_0 wd_123 wd_581) rfl rfl rfl (by decide +kernel) ⟨Nat.le_of_ble_eq_true rfl, Nat.le_of_ble_eq_true rfl⟩) (gc_preV (ci := 8) (q0 := 0) hK (tw_right hP) (tw_rightD hD) rfl rfl) rfl rfl hl.1 rfl (lv_room (Nat.le_of_ble_eq_true rfl)) dX8_number_135 ⟨Nat.le_of_ble_eq_true rfl, Nat.le_of_ble_eq_true rfl⟩) hP hD hS hA (fun u H locs hw hP hD hS => ?_)
                obtain ⟨y_102, y_103, y_104, wt⟩ := u
                obtain ⟨hT, hkp, w_105, w_106, w_107⟩ := hw
                have hW := hW.call (show ∀ x ∈ [], x ∈ [] by decide) hkp
                have hP : va_P (gg_D G) classes ([(tp, .inr (8, [.ref bp, .int n, .int y_102, .int y_103, .int y_104])), (bp, .inl (G.2.2 0, 400, .inl bf))] ++ wt) H := hP
                have hD : va_D A ([(tp, .inr (8, [.ref bp, .int n, .int y_102, .int y_103, .int y_104])), (bp, .inl (G.2.2 0, 400, .inl bf))] ++ wt) := hD
                refine lv_iload_n hx hb dX8_number_138 rfl (lv_at hl 1 rfl) ?_
                have hP9 : va_P (gg_D G) classes ([(tp, .inr (8, [.ref bp, .int n, .int y_102, .int y_103, .int y_104])), (bp, .inl (G.2.2 0, 400, .inl bf))] ++ wt) _ := hP
                have hD9 : va_D A ([(tp, .inr (8, [.ref bp, .int n, .int y_102, .int y_103, .int y_104])), (bp, .inl (G.2.2 0, 400, .inl bf))] ++ wt) := hD
                exact W.iret (v := x8_1) hx hb hr (gq_endI (y_102, y_103, y_104, wt) ⟨hT, hW, (by omega), (by omega), (by omega), (by omega)⟩ hP9 hD9 hS) hS.2.2 dX8_number_139
              · rw [Int32.le_iff_toInt_le] at c_101
                refine lv_aload_n hx hb dX8_number_120 rfl (lv_at hl 2 rfl) ?_
                refine lv_aload_n hx hb dX8_number_121 rfl (lv_at hl 2 rfl) ?_
                refine gq_get hx hb ht hown hK hP i_X8 0 rfl rfl 2 (by decide) wd_158 rfl rfl dX8_number_122 ?_
                refine lv_iconst (v := 1) hx hb dX8_number_125 (by decide +kernel) ?_
                have hP : va_P (gg_D G) classes ([] ++ ([(tp, .inr (8, [.ref bp, .int n, .int at_, .int w_, .int fl])), (bp, .inl (G.2.2 0, 400, .inl bf))] ++ wt)) H := hP
                have hD : va_D A ([] ++ ([(tp, .inr (8, [.ref bp, .int n, .int at_, .int w_, .int fl])), (bp, .inl (G.2.2 0, 400, .inl bf))] ++ wt)) := hD
                refine gt_callI (wr := []) (va_runV (As := [.int at_, .int 1]) (rest := []) ⟨hx, hb, hml, hown, ht⟩ (d_refuse l G Γ H.size wt hT at_ 1 tp bp n at_ w_ fl bf (by first | assumption | omega) (by first | assumption | omega) (by first | assumption | omega) (by first | assumption | omega) (by first | assumption | omega)) (cwV 2 ht (ts_gV wd_659 wd_644 wd_645 wd_123 wd_646) rfl rfl rfl (by decide +kernel) ⟨Nat.le_of_ble_eq_true rfl, Nat.le_of_ble_eq_true rfl⟩) (gc_preV (ci := 8) (q0 := 0) hK (tw_right hP) (tw_rightD hD) rfl rfl) rfl rfl hl.1 rfl (lv_room (Nat.le_of_ble_eq_true rfl)) dX8_number_126 ⟨Nat.le_of_ble_eq_true rfl, Nat.le_of_ble_eq_true rfl⟩) hP hD hS hA (fun r_108 u H locs hw hP hD hS => ?_)
                obtain ⟨y_109, y_110, y_111, wt⟩ := u
                obtain ⟨hT, hkp, w_112, w_113, w_114, lo_r_108, hi_r_108⟩ := hw
                have hW := hW.call (show ∀ x ∈ [], x ∈ [] by decide) hkp
                have hP : va_P (gg_D G) classes ([(tp, .inr (8, [.ref bp, .int n, .int y_109, .int y_110, .int y_111])), (bp, .inl (G.2.2 0, 400, .inl bf))] ++ wt) H := hP
                have hD : va_D A ([(tp, .inr (8, [.ref bp, .int n, .int y_109, .int y_110, .int y_111])), (bp, .inl (G.2.2 0, 400, .inl bf))] ++ wt) := hD
                have z_r_108 : r_108 = 0 := by rw [← Int32.toInt_inj]; omega
                subst z_r_108
                refine lv_pop hx hb dX8_number_129 rfl ?_
                refine lv_iconst (v := (-1)) hx hb dX8_number_130 (by decide +kernel) ?_
                have hP9 : va_P (gg_D G) classes ([(tp, .inr (8, [.ref bp, .int n, .int y_109, .int y_110, .int y_111])), (bp, .inl (G.2.2 0, 400, .inl bf))] ++ wt) _ := hP
                have hD9 : va_D A ([(tp, .inr (8, [.ref bp, .int n, .int y_109, .int y_110, .int y_111])), (bp, .inl (G.2.2 0, 400, .inl bf))] ++ wt) := hD
                exact W.iret (v := (-1)) hx hb hr (gq_endI (y_109, y_110, y_111, wt) ⟨hT, hW, (by omega), (by omega), (by omega), (by omega)⟩ hP9 hD9 hS) hS.2.2 dX8_number_131
        · rw [← Int32.toInt_inj] at c_83
          refine lv_aload_n hx hb dX8_number_87 rfl (lv_at hl 2 rfl) ?_
          refine lv_aload_n hx hb dX8_number_88 rfl (lv_at hl 2 rfl) ?_
          refine gq_get hx hb ht hown hK hP i_X8 0 rfl rfl 2 (by decide) wd_158 rfl rfl dX8_number_89 ?_
          refine lv_iconst (v := 0) hx hb dX8_number_92 (by decide +kernel) ?_
          have hP : va_P (gg_D G) classes ([] ++ ([(tp, .inr (8, [.ref bp, .int n, .int at_, .int w_, .int fl])), (bp, .inl (G.2.2 0, 400, .inl bf))] ++ wt)) H := hP
          have hD : va_D A ([] ++ ([(tp, .inr (8, [.ref bp, .int n, .int at_, .int w_, .int fl])), (bp, .inl (G.2.2 0, 400, .inl bf))] ++ wt)) := hD
          refine gt_callI (wr := []) (va_runV (As := [.int at_, .int 0]) (rest := []) ⟨hx, hb, hml, hown, ht⟩ (d_refuse l G Γ H.size wt hT at_ 0 tp bp n at_ w_ fl bf (by first | assumption | omega) (by first | assumption | omega) (by first | assumption | omega) (by first | assumption | omega) (by first | assumption | omega)) (cwV 2 ht (ts_gV wd_659 wd_644 wd_645 wd_123 wd_646) rfl rfl rfl (by decide +kernel) ⟨Nat.le_of_ble_eq_true rfl, Nat.le_of_ble_eq_true rfl⟩) (gc_preV (ci := 8) (q0 := 0) hK (tw_right hP) (tw_rightD hD) rfl rfl) rfl rfl hl.1 rfl (lv_room (Nat.le_of_ble_eq_true rfl)) dX8_number_93 ⟨Nat.le_of_ble_eq_true rfl, Nat.le_of_ble_eq_true rfl⟩) hP hD hS hA (fun r_115 u H locs hw hP hD hS => ?_)
          obtain ⟨y_116, y_117, y_118, wt⟩ := u
          obtain ⟨hT, hkp, w_119, w_120, w_121, lo_r_115, hi_r_115⟩ := hw
          have hW := hW.call (show ∀ x ∈ [], x ∈ [] by decide) hkp
          have hP : va_P (gg_D G) classes ([(tp, .inr (8, [.ref bp, .int n, .int y_116, .int y_117, .int y_118])), (bp, .inl (G.2.2 0, 400, .inl bf))] ++ wt) H := hP
          have hD : va_D A ([(tp, .inr (8, [.ref bp, .int n, .int y_116, .int y_117, .int y_118])), (bp, .inl (G.2.2 0, 400, .inl bf))] ++ wt) := hD
          have z_r_115 : r_115 = 0 := by rw [← Int32.toInt_inj]; omega
          subst z_r_115
          refine lv_pop hx hb dX8_number_96 rfl ?_
          refine lv_iconst (v := (-1)) hx hb dX8_number_97 (by decide +kernel) ?_
          have hP9 : va_P (gg_D G) classes ([(tp, .inr (8, [.ref bp, .int n, .int y_116, .int y_117, .int y_118])), (bp, .inl (G.2.2 0, 400, .inl bf))] ++ wt) _ := hP
          have hD9 : va_D A ([(tp, .inr (8, [.ref bp, .int n, .int y_116, .int y_117, .int y_118])), (bp, .inl (G.2.2 0, 400, .inl bf))] ++ wt) := hD
          exact W.iret (v := (-1)) hx hb hr (gq_endI (y_116, y_117, y_118, wt) ⟨hT, hW, (by omega), (by omega), (by omega), (by omega)⟩ hP9 hD9 hS) hS.2.2 dX8_number_98
      · rw [Int32.lt_iff_toInt_lt] at c_82
        refine lv_iload hx hb dX8_number_41 (lv_at hl 0 rfl) ?_
        refine lv_aload_n hx hb dX8_number_43 rfl (lv_at hl 2 rfl) ?_
        refine gq_get hx hb ht hown hK hP i_X8 0 rfl rfl 2 (by decide) wd_158 rfl rfl dX8_number_44 ?_
        obtain ⟨t_122, et_122⟩ : ∃ zz_ : Int32, x8_0 - at_ = zz_ := ⟨_, rfl⟩
        refine gq_isub hx hb t_122 et_122 dX8_number_47 ?_
        have ft_122 := ia_sub et_122 (by omega) (by omega)
        refine lv_iconst (v := 5) hx hb dX8_number_48 (by decide +kernel) ?_
        refine lv_icmp_ge (tgt := 70) hx hb dX8_number_49 (by decide) (fun c_123 => ?_) (fun c_123 => ?_)
        · rw [Int32.le_iff_toInt_le] at c_123
          refine lv_iload_n hx hb dX8_number_70 rfl (lv_at hl 1 rfl) ?_
          refine lv_istore_n (lv' := [(3, .int x8_1), (4, .int x8_0), (0, .ref tp), (1, .int b), (2, .int w)]) hx hb dX8_number_71 rfl hl (by decide) rfl (fun ls hl => ?_)
          obtain ⟨t_124, et_124⟩ : ∃ zz_ : Int32, x8_0 + Int32.ofInt (1) = zz_ := ⟨_, rfl⟩
          have ft_124 : t_124.toInt = x8_0.toInt + (1 : Int32).toInt := ia_add (y := 1) et_124 (by omega) (by omega)
          refine lv_iinc (v := t_124) (lv' := [(4, .int t_124), (3, .int x8_1), (0, .ref tp), (1, .int b), (2, .int w)]) hx hb dX8_number_72 hl (k := 1) rfl et_124 (by decide) rfl (fun ls hl => ?_)
          refine lv_goto (tgt := 8) hx hb dX8_number_75 (by decide) ?_
          exact ih8 (t_124, x8_1) (show 0 ≤ t_124.toInt ∧ t_124.toInt ≤ 400 ∧ at_.toInt ≤ t_124.toInt from ⟨by omega, by omega, by omega⟩) (show (400 - t_124.toInt).toNat < (400 - x8_0.toInt).toNat by omega) H locs wt ls hT hW hP hD hS (lv_sub hl [0, 1, 2, 3, 4] rfl)
        · rw [Int32.le_iff_toInt_le] at c_123
          refine lv_iload_n hx hb dX8_number_52 rfl (lv_at hl 1 rfl) ?_
          refine lv_bipush (v := 10) hx hb dX8_number_53 (by decide +kernel) ?_
          obtain ⟨t_125, et_125⟩ : ∃ zz_ : Int32, x8_1 * 10 = zz_ := ⟨_, rfl⟩
          refine gq_imul hx hb t_125 et_125 dX8_number_55 ?_
          refine lv_aload_n hx hb dX8_number_56 rfl (lv_at hl 2 rfl) ?_
          refine gq_get hx hb ht hown hK hP i_X8 0 rfl rfl 0 (by decide) wd_156 rfl rfl dX8_number_57 ?_
          refine lv_iload hx hb dX8_number_60 (lv_at hl 0 rfl) ?_
          refine gq_iald hx hb hK hP 1 rfl n_41 (ia_in (n := 400) (by omega) (by omega)) en_41 dX8_number_62 ?_
          obtain ⟨t_126, et_126⟩ : ∃ zz_ : Int32, t_125 + n_41 = zz_ := ⟨_, rfl⟩
          refine gq_iadd hx hb t_126 et_126 dX8_number_63 ?_
          refine lv_bipush (v := 48) hx hb dX8_number_64 (by decide +kernel) ?_
          obtain ⟨t_127, et_127⟩ : ∃ zz_ : Int32, t_126 - 48 = zz_ := ⟨_, rfl⟩
          refine gq_isub hx hb t_127 et_127 dX8_number_66 ?_
          refine lv_goto (tgt := 71) hx hb dX8_number_67 (by decide) ?_
          refine lv_istore_n (lv' := [(3, .int t_127), (4, .int x8_0), (0, .ref tp), (1, .int b), (2, .int w)]) hx hb dX8_number_71 rfl hl (by decide) rfl (fun ls hl => ?_)
          obtain ⟨t_128, et_128⟩ : ∃ zz_ : Int32, x8_0 + Int32.ofInt (1) = zz_ := ⟨_, rfl⟩
          have ft_128 : t_128.toInt = x8_0.toInt + (1 : Int32).toInt := ia_add (y := 1) et_128 (by omega) (by omega)
          refine lv_iinc (v := t_128) (lv' := [(4, .int t_128), (3, .int t_127), (0, .ref tp), (1, .int b), (2, .int w)]) hx hb dX8_number_72 hl (k := 1) rfl et_128 (by decide) rfl (fun ls hl => ?_)
          refine lv_goto (tgt := 8) hx hb dX8_number_75 (by decide) ?_
          exact ih8 (t_128, t_127) (show 0 ≤ t_128.toInt ∧ t_128.toInt ≤ 400 ∧ at_.toInt ≤ t_128.toInt from ⟨by omega, by omega, by omega⟩) (show (400 - t_128.toInt).toNat < (400 - x8_0.toInt).toNat by omega) H locs wt ls hT hW hP hD hS (lv_sub hl [0, 1, 2, 3, 4] rfl)
set_option maxHeartbeats 4000000 in
set_option maxRecDepth 100000 in
theorem d_another (l : Launch) (G : gg_T) (Γ : Nat → Nat) (sz : Nat) (wt : va_W) (hT : tk_ty G Γ wt) (tp : Nat) (bp : Nat) (n : Int32) (at_ : Int32) (w_ : Int32) (fl : Int32) (bf : Nat → Int32) (xp1 : 0 ≤ n.toInt) (xp2 : n.toInt ≤ 400) (xp3 : 0 ≤ at_.toInt) (xp4 : 0 ≤ w_.toInt) (xp5 : at_.toInt + w_.toInt ≤ 400) : Met l yX8_anotherClause (ts_L yX8_anotherClause cX8_anotherClause 1 (some .boolean)) ({ frames := 2, cells := 0, slots := 0, locals := 42 }) (gc_P G ([(tp, .inr (8, [.ref bp, .int n, .int at_, .int w_, .int fl])), (bp, .inl (G.2.2 0, 400, .inl bf))] ++ wt) sz [.ref tp]) (gc_I G (va_A ([(tp, .inr (8, [.ref bp, .int n, .int at_, .int w_, .int fl])), (bp, .inl (G.2.2 0, 400, .inl bf))] ++ wt) sz) (fun r (u : (Int32) × (Int32) × (Int32) × va_W) => match u with | (a1, w1, f1, wt1) => tk_ty G Γ wt1 ∧ tk_kp [] wt wt1 ∧ 0 ≤ a1.toInt ∧ 0 ≤ w1.toInt ∧ a1.toInt + w1.toInt ≤ 400 ∧ 0 ≤ r.toInt ∧ r.toInt ≤ 1) (fun (u : (Int32) × (Int32) × (Int32) × va_W) => match u with | (a1, w1, f1, wt1) => [(tp, .inr (8, [.ref bp, .int n, .int a1, .int w1, .int f1])), (bp, .inl (G.2.2 0, 400, .inl bf))] ++ wt1)) 0 0 (va_A ([(tp, .inr (8, [.ref bp, .int n, .int at_, .int w_, .int fl])), (bp, .inl (G.2.2 0, 400, .inl bf))] ++ wt) sz) := by
  refine Met.ofW (cc := cX8_anotherClause) (maxL := 1) (ret := (some .boolean)) (by decide) rfl ?_
  intro p e s m args below meth c s₁ B hml hv
  obtain ⟨rfl, hsz, hP, hK, hD0⟩ := hv
  have hx := B.exec
  have hb := B.bytes
  have hr := B.returns
  have ht := ts_ht (atoms_spec (ws := ts_L yX8_anotherClause cX8_anotherClause 1 (some .boolean)) B.pre)
  have hown : s.vm.findClass RX8 = some m.cls := findClass_of_methodNamed B.named
  have hlocks := B.notSynchronized
  subst hsz
  have hD := hD0.self (sz := s.heap.size)
  generalize hAe : va_A ([(tp, .inr (8, [.ref bp, .int n, .int at_, .int w_, .int fl])), (bp, .inl (G.2.2 0, 400, .inl bf))] ++ wt) s.heap.size = A at hD ⊢
  have hA : ∀ q : Nat, s.heap.size ≤ q → A q := fun q h => by rw [← hAe]; exact Or.inr h
  clear hAe hD0
  have hS : va_S A s.heap s.heap [] := va_S.rf
  obtain ⟨w0, hw0⟩ : ∃ z, z = wt := ⟨_, rfl⟩
  have hW : tk_kp [] w0 wt := by rw [hw0]; exact tk_kp.rf
  rw [← hw0]
  clear hw0
  have hP : va_P (gg_D G) classes ([(tp, .inr (8, [.ref bp, .int n, .int at_, .int w_, .int fl])), (bp, .inl (G.2.2 0, 400, .inl bf))] ++ wt) s.heap := hP
  have hD : va_D A ([(tp, .inr (8, [.ref bp, .int n, .int at_, .int w_, .int fl])), (bp, .inl (G.2.2 0, 400, .inl bf))] ++ wt) := hD
  have hl := lv_entry ([.ref tp]) (n := 1) (Nat.le_of_ble_eq_true rfl)
  rw [lg_entry_eq]
  generalize (lg_sl ([.ref tp]) ++ List.replicate (1 - (lg_sl ([.ref tp])).length) Slot.unset).toArray = ls at hl ⊢
  have hl : lv_has ls 1 [(0, .ref tp)] := hl
  have l0 : (0 : Int32).toInt = 0 := by decide +kernel
  have l1 : (1 : Int32).toInt = 1 := by decide +kernel
  have l59 : (59 : Int32).toInt = 59 := by decide +kernel
  refine lv_aload_n hx hb dX8_anotherClause_0 rfl (lv_at hl 0 rfl) ?_
  refine gq_get hx hb ht hown hK hP i_X8 0 rfl rfl 2 (by decide) wd_158 rfl rfl dX8_anotherClause_1 ?_
  refine lv_aload_n hx hb dX8_anotherClause_4 rfl (lv_at hl 0 rfl) ?_
  refine gq_get hx hb ht hown hK hP i_X8 0 rfl rfl 1 (by decide) wd_157 rfl rfl dX8_anotherClause_5 ?_
  refine lv_icmp_ge (tgt := 36) hx hb dX8_anotherClause_8 (by decide) (fun c_1 => ?_) (fun c_1 => ?_)
  · rw [Int32.le_iff_toInt_le] at c_1
    refine lv_iconst (v := 0) hx hb dX8_anotherClause_36 (by decide +kernel) ?_
    have hP9 : va_P (gg_D G) classes ([(tp, .inr (8, [.ref bp, .int n, .int at_, .int w_, .int fl])), (bp, .inl (G.2.2 0, 400, .inl bf))] ++ wt) _ := hP
    have hD9 : va_D A ([(tp, .inr (8, [.ref bp, .int n, .int at_, .int w_, .int fl])), (bp, .inl (G.2.2 0, 400, .inl bf))] ++ wt) := hD
    exact W.zret (v := 0) hx hb hr (by decide +kernel) (gq_endI (at_, w_, fl, wt) ⟨hT, hW, (by omega), (by omega), (by omega), (by omega), (by omega)⟩ hP9 hD9 hS) hS.2.2 dX8_anotherClause_37
  · rw [Int32.le_iff_toInt_le] at c_1
    refine lv_aload_n hx hb dX8_anotherClause_11 rfl (lv_at hl 0 rfl) ?_
    refine lv_bipush (v := 59) hx hb dX8_anotherClause_12 (by decide +kernel) ?_
    have hP : va_P (gg_D G) classes ([] ++ ([(tp, .inr (8, [.ref bp, .int n, .int at_, .int w_, .int fl])), (bp, .inl (G.2.2 0, 400, .inl bf))] ++ wt)) s.heap := hP
    have hD : va_D A ([] ++ ([(tp, .inr (8, [.ref bp, .int n, .int at_, .int w_, .int fl])), (bp, .inl (G.2.2 0, 400, .inl bf))] ++ wt)) := hD
    refine gt_callI (wr := []) (va_runV (As := [.int 59]) (rest := []) ⟨hx, hb, hml, hown, ht⟩ (d_take l G Γ s.heap.size wt hT 59 tp bp n at_ w_ fl bf (by omega) (by omega) (by first | assumption | omega) (by first | assumption | omega) (by first | assumption | omega) (by first | assumption | omega) (by first | assumption | omega)) (cwV 1 ht (ts_gV wd_676 wd_677 wd_678 wd_123 wd_679) rfl rfl rfl (by decide +kernel) ⟨Nat.le_of_ble_eq_true rfl, Nat.le_of_ble_eq_true rfl⟩) (gc_preV (ci := 8) (q0 := 0) hK (tw_right hP) (tw_rightD hD) rfl rfl) rfl rfl hl.1 rfl (lv_room (Nat.le_of_ble_eq_true rfl)) dX8_anotherClause_14 ⟨Nat.le_of_ble_eq_true rfl, Nat.le_of_ble_eq_true rfl⟩) hP hD hS hA (fun r_2 u H locs hw hP hD hS => ?_)
    obtain ⟨y_3, y_4, y_5, wt⟩ := u
    obtain ⟨hT, hkp, w_6, w_7, w_8, lo_r_2, hi_r_2⟩ := hw
    have hW := hW.call (show ∀ x ∈ [], x ∈ [] by decide) hkp
    have hP : va_P (gg_D G) classes ([(tp, .inr (8, [.ref bp, .int n, .int y_3, .int y_4, .int y_5])), (bp, .inl (G.2.2 0, 400, .inl bf))] ++ wt) H := hP
    have hD : va_D A ([(tp, .inr (8, [.ref bp, .int n, .int y_3, .int y_4, .int y_5])), (bp, .inl (G.2.2 0, 400, .inl bf))] ++ wt) := hD
    refine lv_if_ne (tgt := 32) hx hb dX8_anotherClause_17 (by decide) (fun c_9 => ?_) (fun c_9 => ?_)
    · rw [← Int32.toInt_inj] at c_9
      refine lv_iconst (v := 1) hx hb dX8_anotherClause_32 (by decide +kernel) ?_
      refine lv_goto (tgt := 37) hx hb dX8_anotherClause_33 (by decide) ?_
      have hP9 : va_P (gg_D G) classes ([(tp, .inr (8, [.ref bp, .int n, .int y_3, .int y_4, .int y_5])), (bp, .inl (G.2.2 0, 400, .inl bf))] ++ wt) _ := hP
      have hD9 : va_D A ([(tp, .inr (8, [.ref bp, .int n, .int y_3, .int y_4, .int y_5])), (bp, .inl (G.2.2 0, 400, .inl bf))] ++ wt) := hD
      exact W.zret (v := 1) hx hb hr (by decide +kernel) (gq_endI (y_3, y_4, y_5, wt) ⟨hT, hW, (by omega), (by omega), (by omega), (by omega), (by omega)⟩ hP9 hD9 hS) hS.2.2 dX8_anotherClause_37
    · rw [← Int32.toInt_inj] at c_9
      refine lv_aload_n hx hb dX8_anotherClause_20 rfl (lv_at hl 0 rfl) ?_
      refine lv_aload_n hx hb dX8_anotherClause_21 rfl (lv_at hl 0 rfl) ?_
      refine gq_get hx hb ht hown hK hP i_X8 0 rfl rfl 2 (by decide) wd_158 rfl rfl dX8_anotherClause_22 ?_
      refine lv_iconst (v := 0) hx hb dX8_anotherClause_25 (by decide +kernel) ?_
      have hP : va_P (gg_D G) classes ([] ++ ([(tp, .inr (8, [.ref bp, .int n, .int y_3, .int y_4, .int y_5])), (bp, .inl (G.2.2 0, 400, .inl bf))] ++ wt)) H := hP
      have hD : va_D A ([] ++ ([(tp, .inr (8, [.ref bp, .int n, .int y_3, .int y_4, .int y_5])), (bp, .inl (G.2.2 0, 400, .inl bf))] ++ wt)) := hD
      refine gt_callI (wr := []) (va_runV (As := [.int y_3, .int 0]) (rest := []) ⟨hx, hb, hml, hown, ht⟩ (d_refuse l G Γ H.size wt hT y_3 0 tp bp n y_3 y_4 y_5 bf (by first | assumption | omega) (by first | assumption | omega) (by first | assumption | omega) (by first | assumption | omega) (by first | assumption | omega)) (cwV 2 ht (ts_gV wd_659 wd_644 wd_645 wd_123 wd_646) rfl rfl rfl (by decide +kernel) ⟨Nat.le_of_ble_eq_true rfl, Nat.le_of_ble_eq_true rfl⟩) (gc_preV (ci := 8) (q0 := 0) hK (tw_right hP) (tw_rightD hD) rfl rfl) rfl rfl hl.1 rfl (lv_room (Nat.le_of_ble_eq_true rfl)) dX8_anotherClause_26 ⟨Nat.le_of_ble_eq_true rfl, Nat.le_of_ble_eq_true rfl⟩) hP hD hS hA (fun r_10 u H locs hw hP hD hS => ?_)
      obtain ⟨y_11, y_12, y_13, wt⟩ := u
      obtain ⟨hT, hkp, w_14, w_15, w_16, lo_r_10, hi_r_10⟩ := hw
      have hW := hW.call (show ∀ x ∈ [], x ∈ [] by decide) hkp
      have hP : va_P (gg_D G) classes ([(tp, .inr (8, [.ref bp, .int n, .int y_11, .int y_12, .int y_13])), (bp, .inl (G.2.2 0, 400, .inl bf))] ++ wt) H := hP
      have hD : va_D A ([(tp, .inr (8, [.ref bp, .int n, .int y_11, .int y_12, .int y_13])), (bp, .inl (G.2.2 0, 400, .inl bf))] ++ wt) := hD
      have z_r_10 : r_10 = 0 := by rw [← Int32.toInt_inj]; omega
      subst z_r_10
      refine lv_if_eq (tgt := 36) hx hb dX8_anotherClause_29 (by decide) (fun _ => ?_) (fun c0 => False.elim (by rw [← Int32.toInt_inj] at c0; omega))
      refine lv_iconst (v := 0) hx hb dX8_anotherClause_36 (by decide +kernel) ?_
      have hP9 : va_P (gg_D G) classes ([(tp, .inr (8, [.ref bp, .int n, .int y_11, .int y_12, .int y_13])), (bp, .inl (G.2.2 0, 400, .inl bf))] ++ wt) _ := hP
      have hD9 : va_D A ([(tp, .inr (8, [.ref bp, .int n, .int y_11, .int y_12, .int y_13])), (bp, .inl (G.2.2 0, 400, .inl bf))] ++ wt) := hD
      exact W.zret (v := 0) hx hb hr (by decide +kernel) (gq_endI (y_11, y_12, y_13, wt) ⟨hT, hW, (by omega), (by omega), (by omega), (by omega), (by omega)⟩ hP9 hD9 hS) hS.2.2 dX8_anotherClause_37

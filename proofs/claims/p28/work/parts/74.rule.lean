theorem wd_739 : (Jvm.Cond.code ({ cls := "SilentSale$Rule", name := "step", desc := "(I)Z" } : Jvm.MethodName) prog_6_method_12_code (2 : Nat) (Option.some Jvm.ClassFile.FieldType.boolean)) ∈ tb_L := tb_in (i := 739) (by decide +kernel) (by decide +kernel)
theorem dX4_step_0 : decode cX4_step 0 = .ok (.aload_n 0, 1) := by decide +kernel
theorem dX4_step_1 : decode cX4_step 1 = .ok (.getfield 32, 3) := by decide +kernel
theorem dX4_step_4 : decode cX4_step 4 = .ok (.aload_n 0, 1) := by decide +kernel
theorem dX4_step_5 : decode cX4_step 5 = .ok (.getfield 9, 3) := by decide +kernel
theorem dX4_step_8 : decode cX4_step 8 = .ok (.arraylength, 1) := by decide +kernel
theorem dX4_step_9 : decode cX4_step 9 = .ok (.if_icmp .lt 5, 3) := by decide +kernel
theorem dX4_step_12 : decode cX4_step 12 = .ok (.iconst 0, 1) := by decide +kernel
theorem dX4_step_13 : decode cX4_step 13 = .ok (.ireturn, 1) := by decide +kernel
theorem dX4_step_14 : decode cX4_step 14 = .ok (.aload_n 0, 1) := by decide +kernel
theorem dX4_step_15 : decode cX4_step 15 = .ok (.getfield 9, 3) := by decide +kernel
theorem dX4_step_18 : decode cX4_step 18 = .ok (.aload_n 0, 1) := by decide +kernel
theorem dX4_step_19 : decode cX4_step 19 = .ok (.getfield 32, 3) := by decide +kernel
theorem dX4_step_22 : decode cX4_step 22 = .ok (.iload_n 1, 1) := by decide +kernel
theorem dX4_step_23 : decode cX4_step 23 = .ok (.iastore, 1) := by decide +kernel
theorem dX4_step_24 : decode cX4_step 24 = .ok (.aload_n 0, 1) := by decide +kernel
theorem dX4_step_25 : decode cX4_step 25 = .ok (.dup, 1) := by decide +kernel
theorem dX4_step_26 : decode cX4_step 26 = .ok (.getfield 32, 3) := by decide +kernel
theorem dX4_step_29 : decode cX4_step 29 = .ok (.iconst 1, 1) := by decide +kernel
theorem dX4_step_30 : decode cX4_step 30 = .ok (.iadd, 1) := by decide +kernel
theorem dX4_step_31 : decode cX4_step 31 = .ok (.putfield 32, 3) := by decide +kernel
theorem dX4_step_34 : decode cX4_step 34 = .ok (.iconst 1, 1) := by decide +kernel
theorem dX4_step_35 : decode cX4_step 35 = .ok (.ireturn, 1) := by decide +kernel
theorem wd_344 : (Jvm.Cond.fieldLink "SilentSale$Rule" (35 : Nat) "SilentSale$Rule" "pieces" "I") ∈ tb_L := tb_in (i := 344) (by decide +kernel) (by decide +kernel)
theorem wd_719 : (Jvm.Cond.methodLink "SilentSale$Rule" (88 : Nat) ({ cls := "SilentSale$Tape", name := "refuse", desc := "(II)Z" } : Jvm.MethodName)) ∈ tb_L := tb_in (i := 719) (by decide +kernel) (by decide +kernel)
theorem wd_735 : (Jvm.Cond.code ({ cls := "SilentSale$Rule", name := "isRoomForPiece", desc := "(LSilentSale$Tape;I)Z" } : Jvm.MethodName) prog_6_method_11_code (3 : Nat) (Option.some Jvm.ClassFile.FieldType.boolean)) ∈ tb_L := tb_in (i := 735) (by decide +kernel) (by decide +kernel)
theorem dX4_isRoomForPiece_0 : decode cX4_isRoomForPiece 0 = .ok (.aload_n 0, 1) := by decide +kernel
theorem dX4_isRoomForPiece_1 : decode cX4_isRoomForPiece 1 = .ok (.getfield 35, 3) := by decide +kernel
theorem dX4_isRoomForPiece_4 : decode cX4_isRoomForPiece 4 = .ok (.bipush 60, 2) := by decide +kernel
theorem dX4_isRoomForPiece_6 : decode cX4_isRoomForPiece 6 = .ok (.if_icmp .lt 10, 3) := by decide +kernel
theorem dX4_isRoomForPiece_9 : decode cX4_isRoomForPiece 9 = .ok (.aload_n 1, 1) := by decide +kernel
theorem dX4_isRoomForPiece_10 : decode cX4_isRoomForPiece 10 = .ok (.iload_n 2, 1) := by decide +kernel
theorem dX4_isRoomForPiece_11 : decode cX4_isRoomForPiece 11 = .ok (.iconst 3, 1) := by decide +kernel
theorem dX4_isRoomForPiece_12 : decode cX4_isRoomForPiece 12 = .ok (.invokevirtual 88, 3) := by decide +kernel
theorem dX4_isRoomForPiece_15 : decode cX4_isRoomForPiece 15 = .ok (.ireturn, 1) := by decide +kernel
theorem dX4_isRoomForPiece_16 : decode cX4_isRoomForPiece 16 = .ok (.aload_n 0, 1) := by decide +kernel
theorem dX4_isRoomForPiece_17 : decode cX4_isRoomForPiece 17 = .ok (.dup, 1) := by decide +kernel
theorem dX4_isRoomForPiece_18 : decode cX4_isRoomForPiece 18 = .ok (.getfield 35, 3) := by decide +kernel
theorem dX4_isRoomForPiece_21 : decode cX4_isRoomForPiece 21 = .ok (.iconst 1, 1) := by decide +kernel
theorem dX4_isRoomForPiece_22 : decode cX4_isRoomForPiece 22 = .ok (.iadd, 1) := by decide +kernel
theorem dX4_isRoomForPiece_23 : decode cX4_isRoomForPiece 23 = .ok (.putfield 35, 3) := by decide +kernel
theorem dX4_isRoomForPiece_26 : decode cX4_isRoomForPiece 26 = .ok (.iconst 1, 1) := by decide +kernel
theorem dX4_isRoomForPiece_27 : decode cX4_isRoomForPiece 27 = .ok (.ireturn, 1) := by decide +kernel
theorem wd_9 : (Jvm.Cond.selects "SilentSale$Rule" ({ cls := "SilentSale$Rule", name := "step", desc := "(I)Z" } : Jvm.MethodName) ({ cls := "SilentSale$Rule", name := "step", desc := "(I)Z" } : Jvm.MethodName)) ∈ tb_L := tb_in (i := 9) (by decide +kernel) (by decide +kernel)
theorem wd_341 : (Jvm.Cond.fieldLink "SilentSale$Rule" (25 : Nat) "SilentSale$Rule" "waiting" "[I") ∈ tb_L := tb_in (i := 341) (by decide +kernel) (by decide +kernel)
theorem wd_342 : (Jvm.Cond.fieldLink "SilentSale$Rule" (28 : Nat) "SilentSale$Rule" "depth" "I") ∈ tb_L := tb_in (i := 342) (by decide +kernel) (by decide +kernel)
theorem wd_736 : (Jvm.Cond.methodLink "SilentSale$Rule" (67 : Nat) ({ cls := "SilentSale$Rule", name := "step", desc := "(I)Z" } : Jvm.MethodName)) ∈ tb_L := tb_in (i := 736) (by decide +kernel) (by decide +kernel)
theorem wd_738 : (Jvm.Cond.instanceMethod ({ cls := "SilentSale$Rule", name := "step", desc := "(I)Z" } : Jvm.MethodName)) ∈ tb_L := tb_in (i := 738) (by decide +kernel) (by decide +kernel)
theorem wd_775 : (Jvm.Cond.code ({ cls := "SilentSale$Rule", name := "stepIfWaiting", desc := "(II)V" } : Jvm.MethodName) prog_6_method_7_code (3 : Nat) (Option.none : Option Jvm.ClassFile.FieldType)) ∈ tb_L := tb_in (i := 775) (by decide +kernel) (by decide +kernel)
theorem dX4_stepIfWaiting_0 : decode cX4_stepIfWaiting 0 = .ok (.aload_n 0, 1) := by decide +kernel
theorem dX4_stepIfWaiting_1 : decode cX4_stepIfWaiting 1 = .ok (.getfield 25, 3) := by decide +kernel
theorem dX4_stepIfWaiting_4 : decode cX4_stepIfWaiting 4 = .ok (.aload_n 0, 1) := by decide +kernel
theorem dX4_stepIfWaiting_5 : decode cX4_stepIfWaiting 5 = .ok (.getfield 28, 3) := by decide +kernel
theorem dX4_stepIfWaiting_8 : decode cX4_stepIfWaiting 8 = .ok (.iaload, 1) := by decide +kernel
theorem dX4_stepIfWaiting_9 : decode cX4_stepIfWaiting 9 = .ok (.iload_n 1, 1) := by decide +kernel
theorem dX4_stepIfWaiting_10 : decode cX4_stepIfWaiting 10 = .ok (.iand, 1) := by decide +kernel
theorem dX4_stepIfWaiting_11 : decode cX4_stepIfWaiting 11 = .ok (.ifCond .eq 24, 3) := by decide +kernel
theorem dX4_stepIfWaiting_14 : decode cX4_stepIfWaiting 14 = .ok (.aload_n 0, 1) := by decide +kernel
theorem dX4_stepIfWaiting_15 : decode cX4_stepIfWaiting 15 = .ok (.getfield 25, 3) := by decide +kernel
theorem dX4_stepIfWaiting_18 : decode cX4_stepIfWaiting 18 = .ok (.aload_n 0, 1) := by decide +kernel
theorem dX4_stepIfWaiting_19 : decode cX4_stepIfWaiting 19 = .ok (.getfield 28, 3) := by decide +kernel
theorem dX4_stepIfWaiting_22 : decode cX4_stepIfWaiting 22 = .ok (.dup2, 1) := by decide +kernel
theorem dX4_stepIfWaiting_23 : decode cX4_stepIfWaiting 23 = .ok (.iaload, 1) := by decide +kernel
theorem dX4_stepIfWaiting_24 : decode cX4_stepIfWaiting 24 = .ok (.iload_n 1, 1) := by decide +kernel
theorem dX4_stepIfWaiting_25 : decode cX4_stepIfWaiting 25 = .ok (.iconst (-1), 1) := by decide +kernel
theorem dX4_stepIfWaiting_26 : decode cX4_stepIfWaiting 26 = .ok (.ixor, 1) := by decide +kernel
theorem dX4_stepIfWaiting_27 : decode cX4_stepIfWaiting 27 = .ok (.iand, 1) := by decide +kernel
theorem dX4_stepIfWaiting_28 : decode cX4_stepIfWaiting 28 = .ok (.iastore, 1) := by decide +kernel
theorem dX4_stepIfWaiting_29 : decode cX4_stepIfWaiting 29 = .ok (.aload_n 0, 1) := by decide +kernel
theorem dX4_stepIfWaiting_30 : decode cX4_stepIfWaiting 30 = .ok (.iload_n 2, 1) := by decide +kernel
theorem dX4_stepIfWaiting_31 : decode cX4_stepIfWaiting 31 = .ok (.invokevirtual 67, 3) := by decide +kernel
theorem dX4_stepIfWaiting_34 : decode cX4_stepIfWaiting 34 = .ok (.pop, 1) := by decide +kernel
theorem dX4_stepIfWaiting_35 : decode cX4_stepIfWaiting 35 = .ok (.return_, 1) := by decide +kernel
theorem wd_588 : (Jvm.Cond.instanceMethod ({ cls := "SilentSale$Tape", name := "whichWord", desc := "(Ljava/lang/String;)I" } : Jvm.MethodName)) ∈ tb_L := tb_in (i := 588) (by decide +kernel) (by decide +kernel)
theorem wd_589 : (Jvm.Cond.selects "SilentSale$Tape" ({ cls := "SilentSale$Tape", name := "whichWord", desc := "(Ljava/lang/String;)I" } : Jvm.MethodName) ({ cls := "SilentSale$Tape", name := "whichWord", desc := "(Ljava/lang/String;)I" } : Jvm.MethodName)) ∈ tb_L := tb_in (i := 589) (by decide +kernel) (by decide +kernel)
theorem wd_652 : (Jvm.Cond.instanceMethod ({ cls := "SilentSale$Tape", name := "passWord", desc := "()V" } : Jvm.MethodName)) ∈ tb_L := tb_in (i := 652) (by decide +kernel) (by decide +kernel)
theorem wd_653 : (Jvm.Cond.selects "SilentSale$Tape" ({ cls := "SilentSale$Tape", name := "passWord", desc := "()V" } : Jvm.MethodName) ({ cls := "SilentSale$Tape", name := "passWord", desc := "()V" } : Jvm.MethodName)) ∈ tb_L := tb_in (i := 653) (by decide +kernel) (by decide +kernel)
theorem wd_752 : (Jvm.Cond.code ({ cls := "SilentSale$Tape", name := "takeWord", desc := "(Ljava/lang/String;)Z" } : Jvm.MethodName) prog_10_method_14_code (2 : Nat) (Option.some Jvm.ClassFile.FieldType.boolean)) ∈ tb_L := tb_in (i := 752) (by decide +kernel) (by decide +kernel)
theorem wd_753 : (Jvm.Cond.methodLink "SilentSale$Tape" (42 : Nat) ({ cls := "SilentSale$Tape", name := "whichWord", desc := "(Ljava/lang/String;)I" } : Jvm.MethodName)) ∈ tb_L := tb_in (i := 753) (by decide +kernel) (by decide +kernel)
theorem wd_754 : (Jvm.Cond.methodLink "SilentSale$Tape" (46 : Nat) ({ cls := "SilentSale$Tape", name := "passWord", desc := "()V" } : Jvm.MethodName)) ∈ tb_L := tb_in (i := 754) (by decide +kernel) (by decide +kernel)
theorem dX8_takeWord_0 : decode cX8_takeWord 0 = .ok (.aload_n 0, 1) := by decide +kernel
theorem dX8_takeWord_1 : decode cX8_takeWord 1 = .ok (.aload_n 1, 1) := by decide +kernel
theorem dX8_takeWord_2 : decode cX8_takeWord 2 = .ok (.invokevirtual 42, 3) := by decide +kernel
theorem dX8_takeWord_5 : decode cX8_takeWord 5 = .ok (.ifCond .eq 5, 3) := by decide +kernel
theorem dX8_takeWord_8 : decode cX8_takeWord 8 = .ok (.iconst 0, 1) := by decide +kernel
theorem dX8_takeWord_9 : decode cX8_takeWord 9 = .ok (.ireturn, 1) := by decide +kernel
theorem dX8_takeWord_10 : decode cX8_takeWord 10 = .ok (.aload_n 0, 1) := by decide +kernel
theorem dX8_takeWord_11 : decode cX8_takeWord 11 = .ok (.invokevirtual 46, 3) := by decide +kernel
theorem dX8_takeWord_14 : decode cX8_takeWord 14 = .ok (.iconst 1, 1) := by decide +kernel
theorem dX8_takeWord_15 : decode cX8_takeWord 15 = .ok (.ireturn, 1) := by decide +kernel
theorem wd_8 : (Jvm.Cond.selects "SilentSale$Rule" ({ cls := "SilentSale$Rule", name := "isRoomForPiece", desc := "(LSilentSale$Tape;I)Z" } : Jvm.MethodName) ({ cls := "SilentSale$Rule", name := "isRoomForPiece", desc := "(LSilentSale$Tape;I)Z" } : Jvm.MethodName)) ∈ tb_L := tb_in (i := 8) (by decide +kernel) (by decide +kernel)
theorem wd_640 : (Jvm.Cond.instanceMethod ({ cls := "SilentSale$Tape", name := "place", desc := "()I" } : Jvm.MethodName)) ∈ tb_L := tb_in (i := 640) (by decide +kernel) (by decide +kernel)
theorem wd_641 : (Jvm.Cond.selects "SilentSale$Tape" ({ cls := "SilentSale$Tape", name := "place", desc := "()I" } : Jvm.MethodName) ({ cls := "SilentSale$Tape", name := "place", desc := "()I" } : Jvm.MethodName)) ∈ tb_L := tb_in (i := 641) (by decide +kernel) (by decide +kernel)
theorem wd_656 : (Jvm.Cond.instanceMethod ({ cls := "SilentSale$Tape", name := "number", desc := "(II)I" } : Jvm.MethodName)) ∈ tb_L := tb_in (i := 656) (by decide +kernel) (by decide +kernel)
theorem wd_657 : (Jvm.Cond.selects "SilentSale$Tape" ({ cls := "SilentSale$Tape", name := "number", desc := "(II)I" } : Jvm.MethodName) ({ cls := "SilentSale$Tape", name := "number", desc := "(II)I" } : Jvm.MethodName)) ∈ tb_L := tb_in (i := 657) (by decide +kernel) (by decide +kernel)
theorem wd_717 : (Jvm.Cond.methodLink "SilentSale$Rule" (81 : Nat) ({ cls := "SilentSale$Tape", name := "whichWord", desc := "(Ljava/lang/String;)I" } : Jvm.MethodName)) ∈ tb_L := tb_in (i := 717) (by decide +kernel) (by decide +kernel)
theorem wd_718 : (Jvm.Cond.methodLink "SilentSale$Rule" (85 : Nat) ({ cls := "SilentSale$Tape", name := "place", desc := "()I" } : Jvm.MethodName)) ∈ tb_L := tb_in (i := 718) (by decide +kernel) (by decide +kernel)
theorem wd_720 : (Jvm.Cond.methodLink "SilentSale$Rule" (91 : Nat) ({ cls := "SilentSale$Tape", name := "passWord", desc := "()V" } : Jvm.MethodName)) ∈ tb_L := tb_in (i := 720) (by decide +kernel) (by decide +kernel)
theorem wd_728 : (Jvm.Cond.code ({ cls := "SilentSale$Rule", name := "readValue", desc := "(LSilentSale$Tape;)Z" } : Jvm.MethodName) prog_6_method_10_code (5 : Nat) (Option.some Jvm.ClassFile.FieldType.boolean)) ∈ tb_L := tb_in (i := 728) (by decide +kernel) (by decide +kernel)
theorem wd_730 : (Jvm.Cond.constant "SilentSale$Rule" (132 : Nat) (99999 : Int32)) ∈ tb_L := tb_in (i := 730) (by decide +kernel) (by decide +kernel)
theorem wd_731 : (Jvm.Cond.methodLink "SilentSale$Rule" (133 : Nat) ({ cls := "SilentSale$Tape", name := "number", desc := "(II)I" } : Jvm.MethodName)) ∈ tb_L := tb_in (i := 731) (by decide +kernel) (by decide +kernel)
theorem wd_732 : (Jvm.Cond.methodLink "SilentSale$Rule" (121 : Nat) ({ cls := "SilentSale$Rule", name := "isRoomForPiece", desc := "(LSilentSale$Tape;I)Z" } : Jvm.MethodName)) ∈ tb_L := tb_in (i := 732) (by decide +kernel) (by decide +kernel)
theorem wd_734 : (Jvm.Cond.instanceMethod ({ cls := "SilentSale$Rule", name := "isRoomForPiece", desc := "(LSilentSale$Tape;I)Z" } : Jvm.MethodName)) ∈ tb_L := tb_in (i := 734) (by decide +kernel) (by decide +kernel)
theorem dX4_readValue_0 : decode cX4_readValue 0 = .ok (.aload_n 1, 1) := by decide +kernel
theorem dX4_readValue_1 : decode cX4_readValue 1 = .ok (.invokevirtual 85, 3) := by decide +kernel
theorem dX4_readValue_4 : decode cX4_readValue 4 = .ok (.istore_n 2, 1) := by decide +kernel
theorem dX4_readValue_5 : decode cX4_readValue 5 = .ok (.aload_n 1, 1) := by decide +kernel
theorem dX4_readValue_6 : decode cX4_readValue 6 = .ok (.ldc 130, 2) := by decide +kernel
theorem dX4_readValue_8 : decode cX4_readValue 8 = .ok (.invokevirtual 81, 3) := by decide +kernel
theorem dX4_readValue_11 : decode cX4_readValue 11 = .ok (.istore_n 3, 1) := by decide +kernel
theorem dX4_readValue_12 : decode cX4_readValue 12 = .ok (.iload_n 3, 1) := by decide +kernel
theorem dX4_readValue_13 : decode cX4_readValue 13 = .ok (.iconst (-1), 1) := by decide +kernel
theorem dX4_readValue_14 : decode cX4_readValue 14 = .ok (.if_icmp .ne 45, 3) := by decide +kernel
theorem dX4_readValue_17 : decode cX4_readValue 17 = .ok (.aload_n 1, 1) := by decide +kernel
theorem dX4_readValue_18 : decode cX4_readValue 18 = .ok (.iconst 0, 1) := by decide +kernel
theorem dX4_readValue_19 : decode cX4_readValue 19 = .ok (.ldc 132, 2) := by decide +kernel
theorem dX4_readValue_21 : decode cX4_readValue 21 = .ok (.invokevirtual 133, 3) := by decide +kernel
theorem dX4_readValue_24 : decode cX4_readValue 24 = .ok (.istore 4, 2) := by decide +kernel
theorem dX4_readValue_26 : decode cX4_readValue 26 = .ok (.iload 4, 2) := by decide +kernel
theorem dX4_readValue_28 : decode cX4_readValue 28 = .ok (.iconst (-1), 1) := by decide +kernel
theorem dX4_readValue_29 : decode cX4_readValue 29 = .ok (.if_icmp .eq 28, 3) := by decide +kernel
theorem dX4_readValue_32 : decode cX4_readValue 32 = .ok (.aload_n 0, 1) := by decide +kernel
theorem dX4_readValue_33 : decode cX4_readValue 33 = .ok (.aload_n 1, 1) := by decide +kernel
theorem dX4_readValue_34 : decode cX4_readValue 34 = .ok (.iload_n 2, 1) := by decide +kernel
theorem dX4_readValue_35 : decode cX4_readValue 35 = .ok (.invokevirtual 121, 3) := by decide +kernel
theorem dX4_readValue_38 : decode cX4_readValue 38 = .ok (.ifCond .eq 19, 3) := by decide +kernel
theorem dX4_readValue_41 : decode cX4_readValue 41 = .ok (.aload_n 0, 1) := by decide +kernel
theorem dX4_readValue_42 : decode cX4_readValue 42 = .ok (.bipush 100, 2) := by decide +kernel
theorem dX4_readValue_44 : decode cX4_readValue 44 = .ok (.iload 4, 2) := by decide +kernel
theorem dX4_readValue_46 : decode cX4_readValue 46 = .ok (.iadd, 1) := by decide +kernel
theorem dX4_readValue_47 : decode cX4_readValue 47 = .ok (.invokevirtual 67, 3) := by decide +kernel
theorem dX4_readValue_50 : decode cX4_readValue 50 = .ok (.ifCond .eq 7, 3) := by decide +kernel
theorem dX4_readValue_53 : decode cX4_readValue 53 = .ok (.iconst 1, 1) := by decide +kernel
theorem dX4_readValue_54 : decode cX4_readValue 54 = .ok (.goto 4, 3) := by decide +kernel
theorem dX4_readValue_57 : decode cX4_readValue 57 = .ok (.iconst 0, 1) := by decide +kernel
theorem dX4_readValue_58 : decode cX4_readValue 58 = .ok (.ireturn, 1) := by decide +kernel
theorem dX4_readValue_59 : decode cX4_readValue 59 = .ok (.aload_n 1, 1) := by decide +kernel
theorem dX4_readValue_60 : decode cX4_readValue 60 = .ok (.invokevirtual 91, 3) := by decide +kernel
theorem dX4_readValue_63 : decode cX4_readValue 63 = .ok (.aload_n 0, 1) := by decide +kernel
theorem dX4_readValue_64 : decode cX4_readValue 64 = .ok (.dup, 1) := by decide +kernel
theorem dX4_readValue_65 : decode cX4_readValue 65 = .ok (.getfield 38, 3) := by decide +kernel
theorem dX4_readValue_68 : decode cX4_readValue 68 = .ok (.iconst 1, 1) := by decide +kernel
theorem dX4_readValue_69 : decode cX4_readValue 69 = .ok (.iload_n 3, 1) := by decide +kernel
theorem dX4_readValue_70 : decode cX4_readValue 70 = .ok (.ishl, 1) := by decide +kernel
theorem dX4_readValue_71 : decode cX4_readValue 71 = .ok (.ior, 1) := by decide +kernel
theorem dX4_readValue_72 : decode cX4_readValue 72 = .ok (.putfield 38, 3) := by decide +kernel
theorem dX4_readValue_75 : decode cX4_readValue 75 = .ok (.aload_n 0, 1) := by decide +kernel
theorem dX4_readValue_76 : decode cX4_readValue 76 = .ok (.aload_n 1, 1) := by decide +kernel
theorem dX4_readValue_77 : decode cX4_readValue 77 = .ok (.iload_n 2, 1) := by decide +kernel
theorem dX4_readValue_78 : decode cX4_readValue 78 = .ok (.invokevirtual 121, 3) := by decide +kernel
theorem dX4_readValue_81 : decode cX4_readValue 81 = .ok (.ifCond .eq 15, 3) := by decide +kernel
theorem dX4_readValue_84 : decode cX4_readValue 84 = .ok (.aload_n 0, 1) := by decide +kernel
theorem dX4_readValue_85 : decode cX4_readValue 85 = .ok (.iload_n 3, 1) := by decide +kernel
theorem dX4_readValue_86 : decode cX4_readValue 86 = .ok (.invokevirtual 67, 3) := by decide +kernel
theorem dX4_readValue_89 : decode cX4_readValue 89 = .ok (.ifCond .eq 7, 3) := by decide +kernel
theorem dX4_readValue_92 : decode cX4_readValue 92 = .ok (.iconst 1, 1) := by decide +kernel
theorem dX4_readValue_93 : decode cX4_readValue 93 = .ok (.goto 4, 3) := by decide +kernel
theorem dX4_readValue_96 : decode cX4_readValue 96 = .ok (.iconst 0, 1) := by decide +kernel
theorem dX4_readValue_97 : decode cX4_readValue 97 = .ok (.ireturn, 1) := by decide +kernel
theorem wd_7 : (Jvm.Cond.selects "SilentSale$Rule" ({ cls := "SilentSale$Rule", name := "readValue", desc := "(LSilentSale$Tape;)Z" } : Jvm.MethodName) ({ cls := "SilentSale$Rule", name := "readValue", desc := "(LSilentSale$Tape;)Z" } : Jvm.MethodName)) ∈ tb_L := tb_in (i := 7) (by decide +kernel) (by decide +kernel)
theorem wd_724 : (Jvm.Cond.code ({ cls := "SilentSale$Rule", name := "readSum", desc := "(LSilentSale$Tape;)Z" } : Jvm.MethodName) prog_6_method_9_code (6 : Nat) (Option.some Jvm.ClassFile.FieldType.boolean)) ∈ tb_L := tb_in (i := 724) (by decide +kernel) (by decide +kernel)
theorem wd_725 : (Jvm.Cond.methodLink "SilentSale$Rule" (127 : Nat) ({ cls := "SilentSale$Rule", name := "readValue", desc := "(LSilentSale$Tape;)Z" } : Jvm.MethodName)) ∈ tb_L := tb_in (i := 725) (by decide +kernel) (by decide +kernel)
theorem wd_727 : (Jvm.Cond.instanceMethod ({ cls := "SilentSale$Rule", name := "readValue", desc := "(LSilentSale$Tape;)Z" } : Jvm.MethodName)) ∈ tb_L := tb_in (i := 727) (by decide +kernel) (by decide +kernel)
theorem wd_740 : (Jvm.Cond.methodLink "SilentSale$Rule" (96 : Nat) ({ cls := "SilentSale$Tape", name := "sign", desc := "()I" } : Jvm.MethodName)) ∈ tb_L := tb_in (i := 740) (by decide +kernel) (by decide +kernel)
theorem wd_741 : (Jvm.Cond.methodLink "SilentSale$Rule" (105 : Nat) ({ cls := "SilentSale$Tape", name := "skip", desc := "(I)V" } : Jvm.MethodName)) ∈ tb_L := tb_in (i := 741) (by decide +kernel) (by decide +kernel)
theorem wd_742 : (Jvm.Cond.instanceMethod ({ cls := "SilentSale$Tape", name := "skip", desc := "(I)V" } : Jvm.MethodName)) ∈ tb_L := tb_in (i := 742) (by decide +kernel) (by decide +kernel)
theorem wd_743 : (Jvm.Cond.selects "SilentSale$Tape" ({ cls := "SilentSale$Tape", name := "skip", desc := "(I)V" } : Jvm.MethodName) ({ cls := "SilentSale$Tape", name := "skip", desc := "(I)V" } : Jvm.MethodName)) ∈ tb_L := tb_in (i := 743) (by decide +kernel) (by decide +kernel)
theorem dX4_readSum_0 : decode cX4_readSum 0 = .ok (.iconst 0, 1) := by decide +kernel
theorem dX4_readSum_1 : decode cX4_readSum 1 = .ok (.istore_n 2, 1) := by decide +kernel
theorem dX4_readSum_2 : decode cX4_readSum 2 = .ok (.iconst 0, 1) := by decide +kernel
theorem dX4_readSum_3 : decode cX4_readSum 3 = .ok (.istore_n 3, 1) := by decide +kernel
theorem dX4_readSum_4 : decode cX4_readSum 4 = .ok (.iconst 0, 1) := by decide +kernel
theorem dX4_readSum_5 : decode cX4_readSum 5 = .ok (.istore 4, 2) := by decide +kernel
theorem dX4_readSum_7 : decode cX4_readSum 7 = .ok (.iload 4, 2) := by decide +kernel
theorem dX4_readSum_9 : decode cX4_readSum 9 = .ok (.bipush 60, 2) := by decide +kernel
theorem dX4_readSum_11 : decode cX4_readSum 11 = .ok (.if_icmp .gt 124, 3) := by decide +kernel
theorem dX4_readSum_14 : decode cX4_readSum 14 = .ok (.aload_n 0, 1) := by decide +kernel
theorem dX4_readSum_15 : decode cX4_readSum 15 = .ok (.aload_n 1, 1) := by decide +kernel
theorem dX4_readSum_16 : decode cX4_readSum 16 = .ok (.invokevirtual 127, 3) := by decide +kernel
theorem dX4_readSum_19 : decode cX4_readSum 19 = .ok (.ifCond .ne 5, 3) := by decide +kernel
theorem dX4_readSum_22 : decode cX4_readSum 22 = .ok (.iconst 0, 1) := by decide +kernel
theorem dX4_readSum_23 : decode cX4_readSum 23 = .ok (.ireturn, 1) := by decide +kernel
theorem dX4_readSum_24 : decode cX4_readSum 24 = .ok (.iload_n 3, 1) := by decide +kernel
theorem dX4_readSum_25 : decode cX4_readSum 25 = .ok (.ifCond .eq 9, 3) := by decide +kernel
theorem dX4_readSum_28 : decode cX4_readSum 28 = .ok (.aload_n 0, 1) := by decide +kernel
theorem dX4_readSum_29 : decode cX4_readSum 29 = .ok (.iload_n 3, 1) := by decide +kernel
theorem dX4_readSum_30 : decode cX4_readSum 30 = .ok (.invokevirtual 67, 3) := by decide +kernel
theorem dX4_readSum_33 : decode cX4_readSum 33 = .ok (.pop, 1) := by decide +kernel
theorem dX4_readSum_34 : decode cX4_readSum 34 = .ok (.aload_n 1, 1) := by decide +kernel
theorem dX4_readSum_35 : decode cX4_readSum 35 = .ok (.invokevirtual 96, 3) := by decide +kernel
theorem dX4_readSum_38 : decode cX4_readSum 38 = .ok (.istore 5, 2) := by decide +kernel
theorem dX4_readSum_40 : decode cX4_readSum 40 = .ok (.iload 5, 2) := by decide +kernel
theorem dX4_readSum_42 : decode cX4_readSum 42 = .ok (.bipush 42, 2) := by decide +kernel
theorem dX4_readSum_44 : decode cX4_readSum 44 = .ok (.if_icmp .ne 8, 3) := by decide +kernel
theorem dX4_readSum_47 : decode cX4_readSum 47 = .ok (.bipush 12, 2) := by decide +kernel
theorem dX4_readSum_49 : decode cX4_readSum 49 = .ok (.goto 28, 3) := by decide +kernel
theorem dX4_readSum_52 : decode cX4_readSum 52 = .ok (.iload 5, 2) := by decide +kernel
theorem dX4_readSum_54 : decode cX4_readSum 54 = .ok (.bipush 47, 2) := by decide +kernel
theorem dX4_readSum_56 : decode cX4_readSum 56 = .ok (.if_icmp .ne 8, 3) := by decide +kernel
theorem dX4_readSum_59 : decode cX4_readSum 59 = .ok (.bipush 13, 2) := by decide +kernel
theorem dX4_readSum_61 : decode cX4_readSum 61 = .ok (.goto 16, 3) := by decide +kernel
theorem dX4_readSum_64 : decode cX4_readSum 64 = .ok (.iload 5, 2) := by decide +kernel
theorem dX4_readSum_66 : decode cX4_readSum 66 = .ok (.bipush 37, 2) := by decide +kernel
theorem dX4_readSum_68 : decode cX4_readSum 68 = .ok (.if_icmp .ne 8, 3) := by decide +kernel
theorem dX4_readSum_71 : decode cX4_readSum 71 = .ok (.bipush 14, 2) := by decide +kernel
theorem dX4_readSum_73 : decode cX4_readSum 73 = .ok (.goto 4, 3) := by decide +kernel
theorem dX4_readSum_76 : decode cX4_readSum 76 = .ok (.iconst 0, 1) := by decide +kernel
theorem dX4_readSum_77 : decode cX4_readSum 77 = .ok (.istore_n 3, 1) := by decide +kernel
theorem dX4_readSum_78 : decode cX4_readSum 78 = .ok (.iload_n 3, 1) := by decide +kernel
theorem dX4_readSum_79 : decode cX4_readSum 79 = .ok (.ifCond .ne 45, 3) := by decide +kernel
theorem dX4_readSum_82 : decode cX4_readSum 82 = .ok (.iload_n 2, 1) := by decide +kernel
theorem dX4_readSum_83 : decode cX4_readSum 83 = .ok (.ifCond .eq 9, 3) := by decide +kernel
theorem dX4_readSum_86 : decode cX4_readSum 86 = .ok (.aload_n 0, 1) := by decide +kernel
theorem dX4_readSum_87 : decode cX4_readSum 87 = .ok (.iload_n 2, 1) := by decide +kernel
theorem dX4_readSum_88 : decode cX4_readSum 88 = .ok (.invokevirtual 67, 3) := by decide +kernel
theorem dX4_readSum_91 : decode cX4_readSum 91 = .ok (.pop, 1) := by decide +kernel
theorem dX4_readSum_92 : decode cX4_readSum 92 = .ok (.iload 5, 2) := by decide +kernel
theorem dX4_readSum_94 : decode cX4_readSum 94 = .ok (.bipush 43, 2) := by decide +kernel
theorem dX4_readSum_96 : decode cX4_readSum 96 = .ok (.if_icmp .ne 8, 3) := by decide +kernel
theorem dX4_readSum_99 : decode cX4_readSum 99 = .ok (.bipush 10, 2) := by decide +kernel
theorem dX4_readSum_101 : decode cX4_readSum 101 = .ok (.goto 16, 3) := by decide +kernel
theorem dX4_readSum_104 : decode cX4_readSum 104 = .ok (.iload 5, 2) := by decide +kernel
theorem dX4_readSum_106 : decode cX4_readSum 106 = .ok (.bipush 45, 2) := by decide +kernel
theorem dX4_readSum_108 : decode cX4_readSum 108 = .ok (.if_icmp .ne 8, 3) := by decide +kernel
theorem dX4_readSum_111 : decode cX4_readSum 111 = .ok (.bipush 11, 2) := by decide +kernel
theorem dX4_readSum_113 : decode cX4_readSum 113 = .ok (.goto 4, 3) := by decide +kernel
theorem dX4_readSum_116 : decode cX4_readSum 116 = .ok (.iconst 0, 1) := by decide +kernel
theorem dX4_readSum_117 : decode cX4_readSum 117 = .ok (.istore_n 2, 1) := by decide +kernel
theorem dX4_readSum_118 : decode cX4_readSum 118 = .ok (.iload_n 2, 1) := by decide +kernel
theorem dX4_readSum_119 : decode cX4_readSum 119 = .ok (.ifCond .ne 5, 3) := by decide +kernel
theorem dX4_readSum_122 : decode cX4_readSum 122 = .ok (.iconst 1, 1) := by decide +kernel
theorem dX4_readSum_123 : decode cX4_readSum 123 = .ok (.ireturn, 1) := by decide +kernel
theorem dX4_readSum_124 : decode cX4_readSum 124 = .ok (.aload_n 1, 1) := by decide +kernel
theorem dX4_readSum_125 : decode cX4_readSum 125 = .ok (.iconst 1, 1) := by decide +kernel
theorem dX4_readSum_126 : decode cX4_readSum 126 = .ok (.invokevirtual 105, 3) := by decide +kernel
theorem dX4_readSum_129 : decode cX4_readSum 129 = .ok (.iinc 4 1, 3) := by decide +kernel
theorem dX4_readSum_132 : decode cX4_readSum 132 = .ok (.goto (-125), 3) := by decide +kernel
theorem dX4_readSum_135 : decode cX4_readSum 135 = .ok (.iconst 0, 1) := by decide +kernel
theorem dX4_readSum_136 : decode cX4_readSum 136 = .ok (.ireturn, 1) := by decide +kernel
theorem wd_6 : (Jvm.Cond.selects "SilentSale$Rule" ({ cls := "SilentSale$Rule", name := "readSum", desc := "(LSilentSale$Tape;)Z" } : Jvm.MethodName) ({ cls := "SilentSale$Rule", name := "readSum", desc := "(LSilentSale$Tape;)Z" } : Jvm.MethodName)) ∈ tb_L := tb_in (i := 6) (by decide +kernel) (by decide +kernel)
theorem wd_721 : (Jvm.Cond.methodLink "SilentSale$Rule" (54 : Nat) ({ cls := "SilentSale$Rule", name := "readSum", desc := "(LSilentSale$Tape;)Z" } : Jvm.MethodName)) ∈ tb_L := tb_in (i := 721) (by decide +kernel) (by decide +kernel)
theorem wd_723 : (Jvm.Cond.instanceMethod ({ cls := "SilentSale$Rule", name := "readSum", desc := "(LSilentSale$Tape;)Z" } : Jvm.MethodName)) ∈ tb_L := tb_in (i := 723) (by decide +kernel) (by decide +kernel)
theorem wd_763 : (Jvm.Cond.code ({ cls := "SilentSale$Rule", name := "readFact", desc := "(LSilentSale$Tape;)Z" } : Jvm.MethodName) prog_6_method_8_code (5 : Nat) (Option.some Jvm.ClassFile.FieldType.boolean)) ∈ tb_L := tb_in (i := 763) (by decide +kernel) (by decide +kernel)
theorem wd_764 : (Jvm.Cond.methodLink "SilentSale$Rule" (124 : Nat) ({ cls := "SilentSale$Tape", name := "signBehind", desc := "()I" } : Jvm.MethodName)) ∈ tb_L := tb_in (i := 764) (by decide +kernel) (by decide +kernel)
theorem wd_765 : (Jvm.Cond.instanceMethod ({ cls := "SilentSale$Tape", name := "signBehind", desc := "()I" } : Jvm.MethodName)) ∈ tb_L := tb_in (i := 765) (by decide +kernel) (by decide +kernel)
theorem wd_766 : (Jvm.Cond.selects "SilentSale$Tape" ({ cls := "SilentSale$Tape", name := "signBehind", desc := "()I" } : Jvm.MethodName) ({ cls := "SilentSale$Tape", name := "signBehind", desc := "()I" } : Jvm.MethodName)) ∈ tb_L := tb_in (i := 766) (by decide +kernel) (by decide +kernel)
theorem dX4_readFact_0 : decode cX4_readFact 0 = .ok (.aload_n 0, 1) := by decide +kernel
theorem dX4_readFact_1 : decode cX4_readFact 1 = .ok (.aload_n 1, 1) := by decide +kernel
theorem dX4_readFact_2 : decode cX4_readFact 2 = .ok (.invokevirtual 54, 3) := by decide +kernel
theorem dX4_readFact_5 : decode cX4_readFact 5 = .ok (.ifCond .ne 5, 3) := by decide +kernel
theorem dX4_readFact_8 : decode cX4_readFact 8 = .ok (.iconst 0, 1) := by decide +kernel
theorem dX4_readFact_9 : decode cX4_readFact 9 = .ok (.ireturn, 1) := by decide +kernel
theorem dX4_readFact_10 : decode cX4_readFact 10 = .ok (.aload_n 1, 1) := by decide +kernel
theorem dX4_readFact_11 : decode cX4_readFact 11 = .ok (.invokevirtual 96, 3) := by decide +kernel
theorem dX4_readFact_14 : decode cX4_readFact 14 = .ok (.istore_n 2, 1) := by decide +kernel
theorem dX4_readFact_15 : decode cX4_readFact 15 = .ok (.iload_n 2, 1) := by decide +kernel
theorem dX4_readFact_16 : decode cX4_readFact 16 = .ok (.bipush 60, 2) := by decide +kernel
theorem dX4_readFact_18 : decode cX4_readFact 18 = .ok (.if_icmp .eq 25, 3) := by decide +kernel
theorem dX4_readFact_21 : decode cX4_readFact 21 = .ok (.iload_n 2, 1) := by decide +kernel
theorem dX4_readFact_22 : decode cX4_readFact 22 = .ok (.bipush 61, 2) := by decide +kernel
theorem dX4_readFact_24 : decode cX4_readFact 24 = .ok (.if_icmp .eq 19, 3) := by decide +kernel
theorem dX4_readFact_27 : decode cX4_readFact 27 = .ok (.iload_n 2, 1) := by decide +kernel
theorem dX4_readFact_28 : decode cX4_readFact 28 = .ok (.bipush 62, 2) := by decide +kernel
theorem dX4_readFact_30 : decode cX4_readFact 30 = .ok (.if_icmp .eq 13, 3) := by decide +kernel
theorem dX4_readFact_33 : decode cX4_readFact 33 = .ok (.aload_n 1, 1) := by decide +kernel
theorem dX4_readFact_34 : decode cX4_readFact 34 = .ok (.aload_n 1, 1) := by decide +kernel
theorem dX4_readFact_35 : decode cX4_readFact 35 = .ok (.invokevirtual 85, 3) := by decide +kernel
theorem dX4_readFact_38 : decode cX4_readFact 38 = .ok (.iconst 0, 1) := by decide +kernel
theorem dX4_readFact_39 : decode cX4_readFact 39 = .ok (.invokevirtual 88, 3) := by decide +kernel
theorem dX4_readFact_42 : decode cX4_readFact 42 = .ok (.ireturn, 1) := by decide +kernel
theorem dX4_readFact_43 : decode cX4_readFact 43 = .ok (.aload_n 0, 1) := by decide +kernel
theorem dX4_readFact_44 : decode cX4_readFact 44 = .ok (.aload_n 1, 1) := by decide +kernel
theorem dX4_readFact_45 : decode cX4_readFact 45 = .ok (.aload_n 1, 1) := by decide +kernel
theorem dX4_readFact_46 : decode cX4_readFact 46 = .ok (.invokevirtual 85, 3) := by decide +kernel
theorem dX4_readFact_49 : decode cX4_readFact 49 = .ok (.invokevirtual 121, 3) := by decide +kernel
theorem dX4_readFact_52 : decode cX4_readFact 52 = .ok (.ifCond .ne 5, 3) := by decide +kernel
theorem dX4_readFact_55 : decode cX4_readFact 55 = .ok (.iconst 0, 1) := by decide +kernel
theorem dX4_readFact_56 : decode cX4_readFact 56 = .ok (.ireturn, 1) := by decide +kernel
theorem dX4_readFact_57 : decode cX4_readFact 57 = .ok (.iload_n 2, 1) := by decide +kernel
theorem dX4_readFact_58 : decode cX4_readFact 58 = .ok (.bipush 61, 2) := by decide +kernel
theorem dX4_readFact_60 : decode cX4_readFact 60 = .ok (.if_icmp .eq 16, 3) := by decide +kernel
theorem dX4_readFact_63 : decode cX4_readFact 63 = .ok (.aload_n 1, 1) := by decide +kernel
theorem dX4_readFact_64 : decode cX4_readFact 64 = .ok (.invokevirtual 124, 3) := by decide +kernel
theorem dX4_readFact_67 : decode cX4_readFact 67 = .ok (.bipush 61, 2) := by decide +kernel
theorem dX4_readFact_69 : decode cX4_readFact 69 = .ok (.if_icmp .ne 7, 3) := by decide +kernel
theorem dX4_readFact_72 : decode cX4_readFact 72 = .ok (.iconst 1, 1) := by decide +kernel
theorem dX4_readFact_73 : decode cX4_readFact 73 = .ok (.goto 4, 3) := by decide +kernel
theorem dX4_readFact_76 : decode cX4_readFact 76 = .ok (.iconst 0, 1) := by decide +kernel
theorem dX4_readFact_77 : decode cX4_readFact 77 = .ok (.istore_n 3, 1) := by decide +kernel
theorem dX4_readFact_78 : decode cX4_readFact 78 = .ok (.bipush 17, 2) := by decide +kernel
theorem dX4_readFact_80 : decode cX4_readFact 80 = .ok (.istore 4, 2) := by decide +kernel
theorem dX4_readFact_82 : decode cX4_readFact 82 = .ok (.iload_n 2, 1) := by decide +kernel
theorem dX4_readFact_83 : decode cX4_readFact 83 = .ok (.bipush 60, 2) := by decide +kernel
theorem dX4_readFact_85 : decode cX4_readFact 85 = .ok (.if_icmp .ne 19, 3) := by decide +kernel
theorem dX4_readFact_88 : decode cX4_readFact 88 = .ok (.iload_n 3, 1) := by decide +kernel
theorem dX4_readFact_89 : decode cX4_readFact 89 = .ok (.ifCond .eq 8, 3) := by decide +kernel
theorem dX4_readFact_92 : decode cX4_readFact 92 = .ok (.bipush 16, 2) := by decide +kernel
theorem dX4_readFact_94 : decode cX4_readFact 94 = .ok (.goto 5, 3) := by decide +kernel
theorem dX4_readFact_97 : decode cX4_readFact 97 = .ok (.bipush 15, 2) := by decide +kernel
theorem dX4_readFact_99 : decode cX4_readFact 99 = .ok (.istore 4, 2) := by decide +kernel
theorem dX4_readFact_101 : decode cX4_readFact 101 = .ok (.goto 22, 3) := by decide +kernel
theorem dX4_readFact_104 : decode cX4_readFact 104 = .ok (.iload_n 2, 1) := by decide +kernel
theorem dX4_readFact_105 : decode cX4_readFact 105 = .ok (.bipush 62, 2) := by decide +kernel
theorem dX4_readFact_107 : decode cX4_readFact 107 = .ok (.if_icmp .ne 16, 3) := by decide +kernel
theorem dX4_readFact_110 : decode cX4_readFact 110 = .ok (.iload_n 3, 1) := by decide +kernel
theorem dX4_readFact_111 : decode cX4_readFact 111 = .ok (.ifCond .eq 8, 3) := by decide +kernel
theorem dX4_readFact_114 : decode cX4_readFact 114 = .ok (.bipush 18, 2) := by decide +kernel
theorem dX4_readFact_116 : decode cX4_readFact 116 = .ok (.goto 5, 3) := by decide +kernel
theorem dX4_readFact_119 : decode cX4_readFact 119 = .ok (.bipush 19, 2) := by decide +kernel
theorem dX4_readFact_121 : decode cX4_readFact 121 = .ok (.istore 4, 2) := by decide +kernel
theorem dX4_readFact_123 : decode cX4_readFact 123 = .ok (.aload_n 1, 1) := by decide +kernel
theorem dX4_readFact_124 : decode cX4_readFact 124 = .ok (.iload_n 3, 1) := by decide +kernel
theorem dX4_readFact_125 : decode cX4_readFact 125 = .ok (.ifCond .eq 7, 3) := by decide +kernel
theorem dX4_readFact_128 : decode cX4_readFact 128 = .ok (.iconst 2, 1) := by decide +kernel
theorem dX4_readFact_129 : decode cX4_readFact 129 = .ok (.goto 4, 3) := by decide +kernel
theorem dX4_readFact_132 : decode cX4_readFact 132 = .ok (.iconst 1, 1) := by decide +kernel
theorem dX4_readFact_133 : decode cX4_readFact 133 = .ok (.invokevirtual 105, 3) := by decide +kernel
theorem dX4_readFact_136 : decode cX4_readFact 136 = .ok (.aload_n 0, 1) := by decide +kernel
theorem dX4_readFact_137 : decode cX4_readFact 137 = .ok (.aload_n 1, 1) := by decide +kernel
theorem dX4_readFact_138 : decode cX4_readFact 138 = .ok (.invokevirtual 54, 3) := by decide +kernel
theorem dX4_readFact_141 : decode cX4_readFact 141 = .ok (.ifCond .eq 16, 3) := by decide +kernel
theorem dX4_readFact_144 : decode cX4_readFact 144 = .ok (.aload_n 0, 1) := by decide +kernel
theorem dX4_readFact_145 : decode cX4_readFact 145 = .ok (.iload 4, 2) := by decide +kernel
theorem dX4_readFact_147 : decode cX4_readFact 147 = .ok (.invokevirtual 67, 3) := by decide +kernel
theorem dX4_readFact_150 : decode cX4_readFact 150 = .ok (.ifCond .eq 7, 3) := by decide +kernel
theorem dX4_readFact_153 : decode cX4_readFact 153 = .ok (.iconst 1, 1) := by decide +kernel
theorem dX4_readFact_154 : decode cX4_readFact 154 = .ok (.goto 4, 3) := by decide +kernel
theorem dX4_readFact_157 : decode cX4_readFact 157 = .ok (.iconst 0, 1) := by decide +kernel
theorem dX4_readFact_158 : decode cX4_readFact 158 = .ok (.ireturn, 1) := by decide +kernel
theorem wd_13 : (Jvm.Cond.selects "SilentSale$Rule" ({ cls := "SilentSale$Rule", name := "stepIfWaiting", desc := "(II)V" } : Jvm.MethodName) ({ cls := "SilentSale$Rule", name := "stepIfWaiting", desc := "(II)V" } : Jvm.MethodName)) ∈ tb_L := tb_in (i := 13) (by decide +kernel) (by decide +kernel)
theorem wd_340 : (Jvm.Cond.fieldLink "SilentSale$Rule" (22 : Nat) "SilentSale$Rule" "opened" "[I") ∈ tb_L := tb_in (i := 340) (by decide +kernel) (by decide +kernel)
theorem wd_749 : (Jvm.Cond.methodLink "SilentSale$Rule" (60 : Nat) ({ cls := "SilentSale$Tape", name := "takeWord", desc := "(Ljava/lang/String;)Z" } : Jvm.MethodName)) ∈ tb_L := tb_in (i := 749) (by decide +kernel) (by decide +kernel)
theorem wd_750 : (Jvm.Cond.instanceMethod ({ cls := "SilentSale$Tape", name := "takeWord", desc := "(Ljava/lang/String;)Z" } : Jvm.MethodName)) ∈ tb_L := tb_in (i := 750) (by decide +kernel) (by decide +kernel)
theorem wd_751 : (Jvm.Cond.selects "SilentSale$Tape" ({ cls := "SilentSale$Tape", name := "takeWord", desc := "(Ljava/lang/String;)Z" } : Jvm.MethodName) ({ cls := "SilentSale$Tape", name := "takeWord", desc := "(Ljava/lang/String;)Z" } : Jvm.MethodName)) ∈ tb_L := tb_in (i := 751) (by decide +kernel) (by decide +kernel)
theorem wd_771 : (Jvm.Cond.code ({ cls := "SilentSale$Rule", name := "isFactToCome", desc := "(LSilentSale$Tape;)Z" } : Jvm.MethodName) prog_6_method_6_code (3 : Nat) (Option.some Jvm.ClassFile.FieldType.boolean)) ∈ tb_L := tb_in (i := 771) (by decide +kernel) (by decide +kernel)
theorem wd_772 : (Jvm.Cond.methodLink "SilentSale$Rule" (109 : Nat) ({ cls := "SilentSale$Rule", name := "stepIfWaiting", desc := "(II)V" } : Jvm.MethodName)) ∈ tb_L := tb_in (i := 772) (by decide +kernel) (by decide +kernel)
theorem wd_774 : (Jvm.Cond.instanceMethod ({ cls := "SilentSale$Rule", name := "stepIfWaiting", desc := "(II)V" } : Jvm.MethodName)) ∈ tb_L := tb_in (i := 774) (by decide +kernel) (by decide +kernel)
theorem wd_778 : (Jvm.Cond.methodLink "SilentSale$Rule" (117 : Nat) ({ cls := "SilentSale$Tape", name := "take", desc := "(C)Z" } : Jvm.MethodName)) ∈ tb_L := tb_in (i := 778) (by decide +kernel) (by decide +kernel)
theorem dX4_isFactToCome_0 : decode cX4_isFactToCome 0 = .ok (.iconst 0, 1) := by decide +kernel
theorem dX4_isFactToCome_1 : decode cX4_isFactToCome 1 = .ok (.istore_n 2, 1) := by decide +kernel
theorem dX4_isFactToCome_2 : decode cX4_isFactToCome 2 = .ok (.iload_n 2, 1) := by decide +kernel
theorem dX4_isFactToCome_3 : decode cX4_isFactToCome 3 = .ok (.bipush 10, 2) := by decide +kernel
theorem dX4_isFactToCome_5 : decode cX4_isFactToCome 5 = .ok (.if_icmp .gt 150, 3) := by decide +kernel
theorem dX4_isFactToCome_8 : decode cX4_isFactToCome 8 = .ok (.aload_n 0, 1) := by decide +kernel
theorem dX4_isFactToCome_9 : decode cX4_isFactToCome 9 = .ok (.getfield 28, 3) := by decide +kernel
theorem dX4_isFactToCome_12 : decode cX4_isFactToCome 12 = .ok (.ifCond .le 37, 3) := by decide +kernel
theorem dX4_isFactToCome_15 : decode cX4_isFactToCome 15 = .ok (.aload_n 0, 1) := by decide +kernel
theorem dX4_isFactToCome_16 : decode cX4_isFactToCome 16 = .ok (.getfield 22, 3) := by decide +kernel
theorem dX4_isFactToCome_19 : decode cX4_isFactToCome 19 = .ok (.aload_n 0, 1) := by decide +kernel
theorem dX4_isFactToCome_20 : decode cX4_isFactToCome 20 = .ok (.getfield 28, 3) := by decide +kernel
theorem dX4_isFactToCome_23 : decode cX4_isFactToCome 23 = .ok (.iaload, 1) := by decide +kernel
theorem dX4_isFactToCome_24 : decode cX4_isFactToCome 24 = .ok (.bipush 22, 2) := by decide +kernel
theorem dX4_isFactToCome_26 : decode cX4_isFactToCome 26 = .ok (.if_icmp .ne 23, 3) := by decide +kernel
theorem dX4_isFactToCome_29 : decode cX4_isFactToCome 29 = .ok (.aload_n 0, 1) := by decide +kernel
theorem dX4_isFactToCome_30 : decode cX4_isFactToCome 30 = .ok (.bipush 22, 2) := by decide +kernel
theorem dX4_isFactToCome_32 : decode cX4_isFactToCome 32 = .ok (.invokevirtual 67, 3) := by decide +kernel
theorem dX4_isFactToCome_35 : decode cX4_isFactToCome 35 = .ok (.pop, 1) := by decide +kernel
theorem dX4_isFactToCome_36 : decode cX4_isFactToCome 36 = .ok (.aload_n 0, 1) := by decide +kernel
theorem dX4_isFactToCome_37 : decode cX4_isFactToCome 37 = .ok (.dup, 1) := by decide +kernel
theorem dX4_isFactToCome_38 : decode cX4_isFactToCome 38 = .ok (.getfield 28, 3) := by decide +kernel
theorem dX4_isFactToCome_41 : decode cX4_isFactToCome 41 = .ok (.iconst 1, 1) := by decide +kernel
theorem dX4_isFactToCome_42 : decode cX4_isFactToCome 42 = .ok (.isub, 1) := by decide +kernel
theorem dX4_isFactToCome_43 : decode cX4_isFactToCome 43 = .ok (.putfield 28, 3) := by decide +kernel
theorem dX4_isFactToCome_46 : decode cX4_isFactToCome 46 = .ok (.goto (-38), 3) := by decide +kernel
theorem dX4_isFactToCome_49 : decode cX4_isFactToCome 49 = .ok (.aload_n 0, 1) := by decide +kernel
theorem dX4_isFactToCome_50 : decode cX4_isFactToCome 50 = .ok (.iconst 1, 1) := by decide +kernel
theorem dX4_isFactToCome_51 : decode cX4_isFactToCome 51 = .ok (.bipush 20, 2) := by decide +kernel
theorem dX4_isFactToCome_53 : decode cX4_isFactToCome 53 = .ok (.invokevirtual 109, 3) := by decide +kernel
theorem dX4_isFactToCome_56 : decode cX4_isFactToCome 56 = .ok (.aload_n 1, 1) := by decide +kernel
theorem dX4_isFactToCome_57 : decode cX4_isFactToCome 57 = .ok (.ldc 113, 2) := by decide +kernel
theorem dX4_isFactToCome_59 : decode cX4_isFactToCome 59 = .ok (.invokevirtual 60, 3) := by decide +kernel
theorem dX4_isFactToCome_62 : decode cX4_isFactToCome 62 = .ok (.ifCond .eq 18, 3) := by decide +kernel
theorem dX4_isFactToCome_65 : decode cX4_isFactToCome 65 = .ok (.aload_n 0, 1) := by decide +kernel
theorem dX4_isFactToCome_66 : decode cX4_isFactToCome 66 = .ok (.getfield 25, 3) := by decide +kernel
theorem dX4_isFactToCome_69 : decode cX4_isFactToCome 69 = .ok (.aload_n 0, 1) := by decide +kernel
theorem dX4_isFactToCome_70 : decode cX4_isFactToCome 70 = .ok (.getfield 28, 3) := by decide +kernel
theorem dX4_isFactToCome_73 : decode cX4_isFactToCome 73 = .ok (.dup2, 1) := by decide +kernel
theorem dX4_isFactToCome_74 : decode cX4_isFactToCome 74 = .ok (.iaload, 1) := by decide +kernel
theorem dX4_isFactToCome_75 : decode cX4_isFactToCome 75 = .ok (.iconst 1, 1) := by decide +kernel
theorem dX4_isFactToCome_76 : decode cX4_isFactToCome 76 = .ok (.ior, 1) := by decide +kernel
theorem dX4_isFactToCome_77 : decode cX4_isFactToCome 77 = .ok (.iastore, 1) := by decide +kernel
theorem dX4_isFactToCome_78 : decode cX4_isFactToCome 78 = .ok (.iconst 1, 1) := by decide +kernel
theorem dX4_isFactToCome_79 : decode cX4_isFactToCome 79 = .ok (.ireturn, 1) := by decide +kernel
theorem dX4_isFactToCome_80 : decode cX4_isFactToCome 80 = .ok (.aload_n 0, 1) := by decide +kernel
theorem dX4_isFactToCome_81 : decode cX4_isFactToCome 81 = .ok (.iconst 2, 1) := by decide +kernel
theorem dX4_isFactToCome_82 : decode cX4_isFactToCome 82 = .ok (.bipush 21, 2) := by decide +kernel
theorem dX4_isFactToCome_84 : decode cX4_isFactToCome 84 = .ok (.invokevirtual 109, 3) := by decide +kernel
theorem dX4_isFactToCome_87 : decode cX4_isFactToCome 87 = .ok (.aload_n 1, 1) := by decide +kernel
theorem dX4_isFactToCome_88 : decode cX4_isFactToCome 88 = .ok (.ldc 115, 2) := by decide +kernel
theorem dX4_isFactToCome_90 : decode cX4_isFactToCome 90 = .ok (.invokevirtual 60, 3) := by decide +kernel
theorem dX4_isFactToCome_93 : decode cX4_isFactToCome 93 = .ok (.ifCond .eq 18, 3) := by decide +kernel
theorem dX4_isFactToCome_96 : decode cX4_isFactToCome 96 = .ok (.aload_n 0, 1) := by decide +kernel
theorem dX4_isFactToCome_97 : decode cX4_isFactToCome 97 = .ok (.getfield 25, 3) := by decide +kernel
theorem dX4_isFactToCome_100 : decode cX4_isFactToCome 100 = .ok (.aload_n 0, 1) := by decide +kernel
theorem dX4_isFactToCome_101 : decode cX4_isFactToCome 101 = .ok (.getfield 28, 3) := by decide +kernel
theorem dX4_isFactToCome_104 : decode cX4_isFactToCome 104 = .ok (.dup2, 1) := by decide +kernel
theorem dX4_isFactToCome_105 : decode cX4_isFactToCome 105 = .ok (.iaload, 1) := by decide +kernel
theorem dX4_isFactToCome_106 : decode cX4_isFactToCome 106 = .ok (.iconst 2, 1) := by decide +kernel
theorem dX4_isFactToCome_107 : decode cX4_isFactToCome 107 = .ok (.ior, 1) := by decide +kernel
theorem dX4_isFactToCome_108 : decode cX4_isFactToCome 108 = .ok (.iastore, 1) := by decide +kernel
theorem dX4_isFactToCome_109 : decode cX4_isFactToCome 109 = .ok (.iconst 1, 1) := by decide +kernel
theorem dX4_isFactToCome_110 : decode cX4_isFactToCome 110 = .ok (.ireturn, 1) := by decide +kernel
theorem dX4_isFactToCome_111 : decode cX4_isFactToCome 111 = .ok (.aload_n 0, 1) := by decide +kernel
theorem dX4_isFactToCome_112 : decode cX4_isFactToCome 112 = .ok (.getfield 28, 3) := by decide +kernel
theorem dX4_isFactToCome_115 : decode cX4_isFactToCome 115 = .ok (.ifCond .ne 5, 3) := by decide +kernel
theorem dX4_isFactToCome_118 : decode cX4_isFactToCome 118 = .ok (.iconst 0, 1) := by decide +kernel
theorem dX4_isFactToCome_119 : decode cX4_isFactToCome 119 = .ok (.ireturn, 1) := by decide +kernel
theorem dX4_isFactToCome_120 : decode cX4_isFactToCome 120 = .ok (.aload_n 1, 1) := by decide +kernel
theorem dX4_isFactToCome_121 : decode cX4_isFactToCome 121 = .ok (.bipush 93, 2) := by decide +kernel
theorem dX4_isFactToCome_123 : decode cX4_isFactToCome 123 = .ok (.invokevirtual 117, 3) := by decide +kernel
theorem dX4_isFactToCome_126 : decode cX4_isFactToCome 126 = .ok (.ifCond .ne 13, 3) := by decide +kernel
theorem dX4_isFactToCome_129 : decode cX4_isFactToCome 129 = .ok (.aload_n 1, 1) := by decide +kernel
theorem dX4_isFactToCome_130 : decode cX4_isFactToCome 130 = .ok (.aload_n 1, 1) := by decide +kernel
theorem dX4_isFactToCome_131 : decode cX4_isFactToCome 131 = .ok (.invokevirtual 85, 3) := by decide +kernel
theorem dX4_isFactToCome_134 : decode cX4_isFactToCome 134 = .ok (.iconst 0, 1) := by decide +kernel
theorem dX4_isFactToCome_135 : decode cX4_isFactToCome 135 = .ok (.invokevirtual 88, 3) := by decide +kernel
theorem dX4_isFactToCome_138 : decode cX4_isFactToCome 138 = .ok (.ireturn, 1) := by decide +kernel
theorem dX4_isFactToCome_139 : decode cX4_isFactToCome 139 = .ok (.aload_n 0, 1) := by decide +kernel
theorem dX4_isFactToCome_140 : decode cX4_isFactToCome 140 = .ok (.dup, 1) := by decide +kernel
theorem dX4_isFactToCome_141 : decode cX4_isFactToCome 141 = .ok (.getfield 28, 3) := by decide +kernel
theorem dX4_isFactToCome_144 : decode cX4_isFactToCome 144 = .ok (.iconst 1, 1) := by decide +kernel
theorem dX4_isFactToCome_145 : decode cX4_isFactToCome 145 = .ok (.isub, 1) := by decide +kernel
theorem dX4_isFactToCome_146 : decode cX4_isFactToCome 146 = .ok (.putfield 28, 3) := by decide +kernel
theorem dX4_isFactToCome_149 : decode cX4_isFactToCome 149 = .ok (.iinc 2 1, 3) := by decide +kernel
theorem dX4_isFactToCome_152 : decode cX4_isFactToCome 152 = .ok (.goto (-150), 3) := by decide +kernel
theorem dX4_isFactToCome_155 : decode cX4_isFactToCome 155 = .ok (.iconst 0, 1) := by decide +kernel
theorem dX4_isFactToCome_156 : decode cX4_isFactToCome 156 = .ok (.ireturn, 1) := by decide +kernel
theorem wd_11 : (Jvm.Cond.selects "SilentSale$Rule" ({ cls := "SilentSale$Rule", name := "readFact", desc := "(LSilentSale$Tape;)Z" } : Jvm.MethodName) ({ cls := "SilentSale$Rule", name := "readFact", desc := "(LSilentSale$Tape;)Z" } : Jvm.MethodName)) ∈ tb_L := tb_in (i := 11) (by decide +kernel) (by decide +kernel)
theorem wd_12 : (Jvm.Cond.selects "SilentSale$Rule" ({ cls := "SilentSale$Rule", name := "isFactToCome", desc := "(LSilentSale$Tape;)Z" } : Jvm.MethodName) ({ cls := "SilentSale$Rule", name := "isFactToCome", desc := "(LSilentSale$Tape;)Z" } : Jvm.MethodName)) ∈ tb_L := tb_in (i := 12) (by decide +kernel) (by decide +kernel)
theorem wd_685 : (Jvm.Cond.instanceMethod ({ cls := "SilentSale$Tape", name := "firstFault", desc := "()I" } : Jvm.MethodName)) ∈ tb_L := tb_in (i := 685) (by decide +kernel) (by decide +kernel)
theorem wd_686 : (Jvm.Cond.selects "SilentSale$Tape" ({ cls := "SilentSale$Tape", name := "firstFault", desc := "()I" } : Jvm.MethodName) ({ cls := "SilentSale$Tape", name := "firstFault", desc := "()I" } : Jvm.MethodName)) ∈ tb_L := tb_in (i := 686) (by decide +kernel) (by decide +kernel)
theorem wd_758 : (Jvm.Cond.code ({ cls := "SilentSale$Rule", name := "readTest", desc := "(LSilentSale$Tape;)Z" } : Jvm.MethodName) prog_6_method_5_code (4 : Nat) (Option.some Jvm.ClassFile.FieldType.boolean)) ∈ tb_L := tb_in (i := 758) (by decide +kernel) (by decide +kernel)
theorem wd_760 : (Jvm.Cond.methodLink "SilentSale$Rule" (99 : Nat) ({ cls := "SilentSale$Rule", name := "readFact", desc := "(LSilentSale$Tape;)Z" } : Jvm.MethodName)) ∈ tb_L := tb_in (i := 760) (by decide +kernel) (by decide +kernel)
theorem wd_762 : (Jvm.Cond.instanceMethod ({ cls := "SilentSale$Rule", name := "readFact", desc := "(LSilentSale$Tape;)Z" } : Jvm.MethodName)) ∈ tb_L := tb_in (i := 762) (by decide +kernel) (by decide +kernel)
theorem wd_768 : (Jvm.Cond.methodLink "SilentSale$Rule" (102 : Nat) ({ cls := "SilentSale$Rule", name := "isFactToCome", desc := "(LSilentSale$Tape;)Z" } : Jvm.MethodName)) ∈ tb_L := tb_in (i := 768) (by decide +kernel) (by decide +kernel)
theorem wd_770 : (Jvm.Cond.instanceMethod ({ cls := "SilentSale$Rule", name := "isFactToCome", desc := "(LSilentSale$Tape;)Z" } : Jvm.MethodName)) ∈ tb_L := tb_in (i := 770) (by decide +kernel) (by decide +kernel)
theorem wd_779 : (Jvm.Cond.methodLink "SilentSale$Rule" (75 : Nat) ({ cls := "SilentSale$Tape", name := "firstFault", desc := "()I" } : Jvm.MethodName)) ∈ tb_L := tb_in (i := 779) (by decide +kernel) (by decide +kernel)
theorem dX4_readTest_0 : decode cX4_readTest 0 = .ok (.aload_n 0, 1) := by decide +kernel
theorem dX4_readTest_1 : decode cX4_readTest 1 = .ok (.iconst 0, 1) := by decide +kernel
theorem dX4_readTest_2 : decode cX4_readTest 2 = .ok (.putfield 28, 3) := by decide +kernel
theorem dX4_readTest_5 : decode cX4_readTest 5 = .ok (.aload_n 0, 1) := by decide +kernel
theorem dX4_readTest_6 : decode cX4_readTest 6 = .ok (.getfield 25, 3) := by decide +kernel
theorem dX4_readTest_9 : decode cX4_readTest 9 = .ok (.iconst 0, 1) := by decide +kernel
theorem dX4_readTest_10 : decode cX4_readTest 10 = .ok (.iconst 0, 1) := by decide +kernel
theorem dX4_readTest_11 : decode cX4_readTest 11 = .ok (.iastore, 1) := by decide +kernel
theorem dX4_readTest_12 : decode cX4_readTest 12 = .ok (.iconst 0, 1) := by decide +kernel
theorem dX4_readTest_13 : decode cX4_readTest 13 = .ok (.istore_n 2, 1) := by decide +kernel
theorem dX4_readTest_14 : decode cX4_readTest 14 = .ok (.iload_n 2, 1) := by decide +kernel
theorem dX4_readTest_15 : decode cX4_readTest 15 = .ok (.sipush 400, 3) := by decide +kernel
theorem dX4_readTest_18 : decode cX4_readTest 18 = .ok (.if_icmp .gt 136, 3) := by decide +kernel
theorem dX4_readTest_21 : decode cX4_readTest 21 = .ok (.aload_n 1, 1) := by decide +kernel
theorem dX4_readTest_22 : decode cX4_readTest 22 = .ok (.ldc 94, 2) := by decide +kernel
theorem dX4_readTest_24 : decode cX4_readTest 24 = .ok (.invokevirtual 81, 3) := by decide +kernel
theorem dX4_readTest_27 : decode cX4_readTest 27 = .ok (.ifCond .ne 8, 3) := by decide +kernel
theorem dX4_readTest_30 : decode cX4_readTest 30 = .ok (.bipush 22, 2) := by decide +kernel
theorem dX4_readTest_32 : decode cX4_readTest 32 = .ok (.goto 18, 3) := by decide +kernel
theorem dX4_readTest_35 : decode cX4_readTest 35 = .ok (.aload_n 1, 1) := by decide +kernel
theorem dX4_readTest_36 : decode cX4_readTest 36 = .ok (.invokevirtual 96, 3) := by decide +kernel
theorem dX4_readTest_39 : decode cX4_readTest 39 = .ok (.bipush 91, 2) := by decide +kernel
theorem dX4_readTest_41 : decode cX4_readTest 41 = .ok (.if_icmp .ne 8, 3) := by decide +kernel
theorem dX4_readTest_44 : decode cX4_readTest 44 = .ok (.bipush 25, 2) := by decide +kernel
theorem dX4_readTest_46 : decode cX4_readTest 46 = .ok (.goto 4, 3) := by decide +kernel
theorem dX4_readTest_49 : decode cX4_readTest 49 = .ok (.iconst 0, 1) := by decide +kernel
theorem dX4_readTest_50 : decode cX4_readTest 50 = .ok (.istore_n 3, 1) := by decide +kernel
theorem dX4_readTest_51 : decode cX4_readTest 51 = .ok (.iload_n 3, 1) := by decide +kernel
theorem dX4_readTest_52 : decode cX4_readTest 52 = .ok (.ifCond .ne 32, 3) := by decide +kernel
theorem dX4_readTest_55 : decode cX4_readTest 55 = .ok (.aload_n 0, 1) := by decide +kernel
theorem dX4_readTest_56 : decode cX4_readTest 56 = .ok (.aload_n 1, 1) := by decide +kernel
theorem dX4_readTest_57 : decode cX4_readTest 57 = .ok (.invokevirtual 99, 3) := by decide +kernel
theorem dX4_readTest_60 : decode cX4_readTest 60 = .ok (.ifCond .eq 11, 3) := by decide +kernel
theorem dX4_readTest_63 : decode cX4_readTest 63 = .ok (.aload_n 0, 1) := by decide +kernel
theorem dX4_readTest_64 : decode cX4_readTest 64 = .ok (.aload_n 1, 1) := by decide +kernel
theorem dX4_readTest_65 : decode cX4_readTest 65 = .ok (.invokevirtual 102, 3) := by decide +kernel
theorem dX4_readTest_68 : decode cX4_readTest 68 = .ok (.ifCond .ne 80, 3) := by decide +kernel
theorem dX4_readTest_71 : decode cX4_readTest 71 = .ok (.aload_n 1, 1) := by decide +kernel
theorem dX4_readTest_72 : decode cX4_readTest 72 = .ok (.invokevirtual 75, 3) := by decide +kernel
theorem dX4_readTest_75 : decode cX4_readTest 75 = .ok (.ifCond .ne 7, 3) := by decide +kernel
theorem dX4_readTest_78 : decode cX4_readTest 78 = .ok (.iconst 1, 1) := by decide +kernel
theorem dX4_readTest_79 : decode cX4_readTest 79 = .ok (.goto 4, 3) := by decide +kernel
theorem dX4_readTest_82 : decode cX4_readTest 82 = .ok (.iconst 0, 1) := by decide +kernel
theorem dX4_readTest_83 : decode cX4_readTest 83 = .ok (.ireturn, 1) := by decide +kernel
theorem dX4_readTest_84 : decode cX4_readTest 84 = .ok (.aload_n 0, 1) := by decide +kernel
theorem dX4_readTest_85 : decode cX4_readTest 85 = .ok (.getfield 28, 3) := by decide +kernel
theorem dX4_readTest_88 : decode cX4_readTest 88 = .ok (.bipush 10, 2) := by decide +kernel
theorem dX4_readTest_90 : decode cX4_readTest 90 = .ok (.if_icmp .lt 13, 3) := by decide +kernel
theorem dX4_readTest_93 : decode cX4_readTest 93 = .ok (.aload_n 1, 1) := by decide +kernel
theorem dX4_readTest_94 : decode cX4_readTest 94 = .ok (.aload_n 1, 1) := by decide +kernel
theorem dX4_readTest_95 : decode cX4_readTest 95 = .ok (.invokevirtual 85, 3) := by decide +kernel
theorem dX4_readTest_98 : decode cX4_readTest 98 = .ok (.iconst 2, 1) := by decide +kernel
theorem dX4_readTest_99 : decode cX4_readTest 99 = .ok (.invokevirtual 88, 3) := by decide +kernel
theorem dX4_readTest_102 : decode cX4_readTest 102 = .ok (.ireturn, 1) := by decide +kernel
theorem dX4_readTest_103 : decode cX4_readTest 103 = .ok (.aload_n 0, 1) := by decide +kernel
theorem dX4_readTest_104 : decode cX4_readTest 104 = .ok (.dup, 1) := by decide +kernel
theorem dX4_readTest_105 : decode cX4_readTest 105 = .ok (.getfield 28, 3) := by decide +kernel
theorem dX4_readTest_108 : decode cX4_readTest 108 = .ok (.iconst 1, 1) := by decide +kernel
theorem dX4_readTest_109 : decode cX4_readTest 109 = .ok (.iadd, 1) := by decide +kernel
theorem dX4_readTest_110 : decode cX4_readTest 110 = .ok (.putfield 28, 3) := by decide +kernel
theorem dX4_readTest_113 : decode cX4_readTest 113 = .ok (.aload_n 0, 1) := by decide +kernel
theorem dX4_readTest_114 : decode cX4_readTest 114 = .ok (.getfield 22, 3) := by decide +kernel
theorem dX4_readTest_117 : decode cX4_readTest 117 = .ok (.aload_n 0, 1) := by decide +kernel
theorem dX4_readTest_118 : decode cX4_readTest 118 = .ok (.getfield 28, 3) := by decide +kernel
theorem dX4_readTest_121 : decode cX4_readTest 121 = .ok (.iload_n 3, 1) := by decide +kernel
theorem dX4_readTest_122 : decode cX4_readTest 122 = .ok (.iastore, 1) := by decide +kernel
theorem dX4_readTest_123 : decode cX4_readTest 123 = .ok (.aload_n 0, 1) := by decide +kernel
theorem dX4_readTest_124 : decode cX4_readTest 124 = .ok (.getfield 25, 3) := by decide +kernel
theorem dX4_readTest_127 : decode cX4_readTest 127 = .ok (.aload_n 0, 1) := by decide +kernel
theorem dX4_readTest_128 : decode cX4_readTest 128 = .ok (.getfield 28, 3) := by decide +kernel
theorem dX4_readTest_131 : decode cX4_readTest 131 = .ok (.iconst 0, 1) := by decide +kernel
theorem dX4_readTest_132 : decode cX4_readTest 132 = .ok (.iastore, 1) := by decide +kernel
theorem dX4_readTest_133 : decode cX4_readTest 133 = .ok (.aload_n 1, 1) := by decide +kernel
theorem dX4_readTest_134 : decode cX4_readTest 134 = .ok (.iload_n 3, 1) := by decide +kernel
theorem dX4_readTest_135 : decode cX4_readTest 135 = .ok (.bipush 22, 2) := by decide +kernel
theorem dX4_readTest_137 : decode cX4_readTest 137 = .ok (.if_icmp .ne 7, 3) := by decide +kernel
theorem dX4_readTest_140 : decode cX4_readTest 140 = .ok (.iconst 3, 1) := by decide +kernel
theorem dX4_readTest_141 : decode cX4_readTest 141 = .ok (.goto 4, 3) := by decide +kernel
theorem dX4_readTest_144 : decode cX4_readTest 144 = .ok (.iconst 1, 1) := by decide +kernel
theorem dX4_readTest_145 : decode cX4_readTest 145 = .ok (.invokevirtual 105, 3) := by decide +kernel
theorem dX4_readTest_148 : decode cX4_readTest 148 = .ok (.iinc 2 1, 3) := by decide +kernel
theorem dX4_readTest_151 : decode cX4_readTest 151 = .ok (.goto (-137), 3) := by decide +kernel
theorem dX4_readTest_154 : decode cX4_readTest 154 = .ok (.iconst 0, 1) := by decide +kernel
theorem dX4_readTest_155 : decode cX4_readTest 155 = .ok (.ireturn, 1) := by decide +kernel
theorem wd_715 : (Jvm.Cond.code ({ cls := "SilentSale$Rule", name := "readHead", desc := "(LSilentSale$Tape;I)Z" } : Jvm.MethodName) prog_6_method_4_code (2 : Nat) (Option.some Jvm.ClassFile.FieldType.boolean)) ∈ tb_L := tb_in (i := 715) (by decide +kernel) (by decide +kernel)
theorem dX4_readHead_0 : decode cX4_readHead 0 = .ok (.aload_n 0, 1) := by decide +kernel
theorem dX4_readHead_1 : decode cX4_readHead 1 = .ok (.ldc 79, 2) := by decide +kernel
theorem dX4_readHead_3 : decode cX4_readHead 3 = .ok (.invokevirtual 81, 3) := by decide +kernel
theorem dX4_readHead_6 : decode cX4_readHead 6 = .ok (.iconst (-1), 1) := by decide +kernel
theorem dX4_readHead_7 : decode cX4_readHead 7 = .ok (.if_icmp .ne 13, 3) := by decide +kernel
theorem dX4_readHead_10 : decode cX4_readHead 10 = .ok (.aload_n 0, 1) := by decide +kernel
theorem dX4_readHead_11 : decode cX4_readHead 11 = .ok (.aload_n 0, 1) := by decide +kernel
theorem dX4_readHead_12 : decode cX4_readHead 12 = .ok (.invokevirtual 85, 3) := by decide +kernel
theorem dX4_readHead_15 : decode cX4_readHead 15 = .ok (.iconst 0, 1) := by decide +kernel
theorem dX4_readHead_16 : decode cX4_readHead 16 = .ok (.invokevirtual 88, 3) := by decide +kernel
theorem dX4_readHead_19 : decode cX4_readHead 19 = .ok (.ireturn, 1) := by decide +kernel
theorem dX4_readHead_20 : decode cX4_readHead 20 = .ok (.iload_n 1, 1) := by decide +kernel
theorem dX4_readHead_21 : decode cX4_readHead 21 = .ok (.bipush 12, 2) := by decide +kernel
theorem dX4_readHead_23 : decode cX4_readHead 23 = .ok (.if_icmp .lt 13, 3) := by decide +kernel
theorem dX4_readHead_26 : decode cX4_readHead 26 = .ok (.aload_n 0, 1) := by decide +kernel
theorem dX4_readHead_27 : decode cX4_readHead 27 = .ok (.aload_n 0, 1) := by decide +kernel
theorem dX4_readHead_28 : decode cX4_readHead 28 = .ok (.invokevirtual 85, 3) := by decide +kernel
theorem dX4_readHead_31 : decode cX4_readHead 31 = .ok (.iconst 4, 1) := by decide +kernel
theorem dX4_readHead_32 : decode cX4_readHead 32 = .ok (.invokevirtual 88, 3) := by decide +kernel
theorem dX4_readHead_35 : decode cX4_readHead 35 = .ok (.ireturn, 1) := by decide +kernel
theorem dX4_readHead_36 : decode cX4_readHead 36 = .ok (.aload_n 0, 1) := by decide +kernel
theorem dX4_readHead_37 : decode cX4_readHead 37 = .ok (.invokevirtual 91, 3) := by decide +kernel
theorem dX4_readHead_40 : decode cX4_readHead 40 = .ok (.iconst 1, 1) := by decide +kernel
theorem dX4_readHead_41 : decode cX4_readHead 41 = .ok (.ireturn, 1) := by decide +kernel
theorem wd_10 : (Jvm.Cond.selects "SilentSale$Rule" ({ cls := "SilentSale$Rule", name := "readTest", desc := "(LSilentSale$Tape;)Z" } : Jvm.MethodName) ({ cls := "SilentSale$Rule", name := "readTest", desc := "(LSilentSale$Tape;)Z" } : Jvm.MethodName)) ∈ tb_L := tb_in (i := 10) (by decide +kernel) (by decide +kernel)
theorem wd_575 : (Jvm.Cond.instanceMethod ({ cls := "SilentSale$Tape", name := "rewind", desc := "()V" } : Jvm.MethodName)) ∈ tb_L := tb_in (i := 575) (by decide +kernel) (by decide +kernel)
theorem wd_576 : (Jvm.Cond.selects "SilentSale$Tape" ({ cls := "SilentSale$Tape", name := "rewind", desc := "()V" } : Jvm.MethodName) ({ cls := "SilentSale$Tape", name := "rewind", desc := "()V" } : Jvm.MethodName)) ∈ tb_L := tb_in (i := 576) (by decide +kernel) (by decide +kernel)
theorem wd_673 : (Jvm.Cond.instanceMethod ({ cls := "SilentSale$Tape", name := "anotherClause", desc := "()Z" } : Jvm.MethodName)) ∈ tb_L := tb_in (i := 673) (by decide +kernel) (by decide +kernel)
theorem wd_674 : (Jvm.Cond.selects "SilentSale$Tape" ({ cls := "SilentSale$Tape", name := "anotherClause", desc := "()Z" } : Jvm.MethodName) ({ cls := "SilentSale$Tape", name := "anotherClause", desc := "()Z" } : Jvm.MethodName)) ∈ tb_L := tb_in (i := 674) (by decide +kernel) (by decide +kernel)
theorem wd_711 : (Jvm.Cond.code ({ cls := "SilentSale$Rule", name := "readRule", desc := "(LSilentSale$Tape;)I" } : Jvm.MethodName) prog_6_method_3_code (5 : Nat) (Option.some Jvm.ClassFile.FieldType.int)) ∈ tb_L := tb_in (i := 711) (by decide +kernel) (by decide +kernel)
theorem wd_712 : (Jvm.Cond.methodLink "SilentSale$Rule" (45 : Nat) ({ cls := "SilentSale$Tape", name := "rewind", desc := "()V" } : Jvm.MethodName)) ∈ tb_L := tb_in (i := 712) (by decide +kernel) (by decide +kernel)
theorem wd_713 : (Jvm.Cond.methodLink "SilentSale$Rule" (50 : Nat) ({ cls := "SilentSale$Rule", name := "readHead", desc := "(LSilentSale$Tape;I)Z" } : Jvm.MethodName)) ∈ tb_L := tb_in (i := 713) (by decide +kernel) (by decide +kernel)
theorem wd_714 : (Jvm.Cond.static ({ cls := "SilentSale$Rule", name := "readHead", desc := "(LSilentSale$Tape;I)Z" } : Jvm.MethodName)) ∈ tb_L := tb_in (i := 714) (by decide +kernel) (by decide +kernel)
theorem wd_755 : (Jvm.Cond.methodLink "SilentSale$Rule" (64 : Nat) ({ cls := "SilentSale$Rule", name := "readTest", desc := "(LSilentSale$Tape;)Z" } : Jvm.MethodName)) ∈ tb_L := tb_in (i := 755) (by decide +kernel) (by decide +kernel)
theorem wd_757 : (Jvm.Cond.instanceMethod ({ cls := "SilentSale$Rule", name := "readTest", desc := "(LSilentSale$Tape;)Z" } : Jvm.MethodName)) ∈ tb_L := tb_in (i := 757) (by decide +kernel) (by decide +kernel)
theorem wd_780 : (Jvm.Cond.methodLink "SilentSale$Rule" (71 : Nat) ({ cls := "SilentSale$Tape", name := "anotherClause", desc := "()Z" } : Jvm.MethodName)) ∈ tb_L := tb_in (i := 780) (by decide +kernel) (by decide +kernel)
theorem dX4_readRule_0 : decode cX4_readRule 0 = .ok (.aload_n 0, 1) := by decide +kernel
theorem dX4_readRule_1 : decode cX4_readRule 1 = .ok (.iconst 0, 1) := by decide +kernel
theorem dX4_readRule_2 : decode cX4_readRule 2 = .ok (.putfield 32, 3) := by decide +kernel
theorem dX4_readRule_5 : decode cX4_readRule 5 = .ok (.aload_n 0, 1) := by decide +kernel
theorem dX4_readRule_6 : decode cX4_readRule 6 = .ok (.iconst 0, 1) := by decide +kernel
theorem dX4_readRule_7 : decode cX4_readRule 7 = .ok (.putfield 35, 3) := by decide +kernel
theorem dX4_readRule_10 : decode cX4_readRule 10 = .ok (.aload_n 0, 1) := by decide +kernel
theorem dX4_readRule_11 : decode cX4_readRule 11 = .ok (.iconst 0, 1) := by decide +kernel
theorem dX4_readRule_12 : decode cX4_readRule 12 = .ok (.putfield 38, 3) := by decide +kernel
theorem dX4_readRule_15 : decode cX4_readRule 15 = .ok (.aload_n 1, 1) := by decide +kernel
theorem dX4_readRule_16 : decode cX4_readRule 16 = .ok (.invokevirtual 45, 3) := by decide +kernel
theorem dX4_readRule_19 : decode cX4_readRule 19 = .ok (.iconst 1, 1) := by decide +kernel
theorem dX4_readRule_20 : decode cX4_readRule 20 = .ok (.istore_n 2, 1) := by decide +kernel
theorem dX4_readRule_21 : decode cX4_readRule 21 = .ok (.iconst 0, 1) := by decide +kernel
theorem dX4_readRule_22 : decode cX4_readRule 22 = .ok (.istore_n 3, 1) := by decide +kernel
theorem dX4_readRule_23 : decode cX4_readRule 23 = .ok (.iload_n 2, 1) := by decide +kernel
theorem dX4_readRule_24 : decode cX4_readRule 24 = .ok (.ifCond .eq 118, 3) := by decide +kernel
theorem dX4_readRule_27 : decode cX4_readRule 27 = .ok (.iload_n 3, 1) := by decide +kernel
theorem dX4_readRule_28 : decode cX4_readRule 28 = .ok (.bipush 12, 2) := by decide +kernel
theorem dX4_readRule_30 : decode cX4_readRule 30 = .ok (.if_icmp .gt 112, 3) := by decide +kernel
theorem dX4_readRule_33 : decode cX4_readRule 33 = .ok (.aload_n 1, 1) := by decide +kernel
theorem dX4_readRule_34 : decode cX4_readRule 34 = .ok (.iload_n 3, 1) := by decide +kernel
theorem dX4_readRule_35 : decode cX4_readRule 35 = .ok (.invokestatic 50, 3) := by decide +kernel
theorem dX4_readRule_38 : decode cX4_readRule 38 = .ok (.ifCond .eq 15, 3) := by decide +kernel
theorem dX4_readRule_41 : decode cX4_readRule 41 = .ok (.aload_n 0, 1) := by decide +kernel
theorem dX4_readRule_42 : decode cX4_readRule 42 = .ok (.aload_n 1, 1) := by decide +kernel
theorem dX4_readRule_43 : decode cX4_readRule 43 = .ok (.invokevirtual 54, 3) := by decide +kernel
theorem dX4_readRule_46 : decode cX4_readRule 46 = .ok (.ifCond .eq 7, 3) := by decide +kernel
theorem dX4_readRule_49 : decode cX4_readRule 49 = .ok (.iconst 1, 1) := by decide +kernel
theorem dX4_readRule_50 : decode cX4_readRule 50 = .ok (.goto 4, 3) := by decide +kernel
theorem dX4_readRule_53 : decode cX4_readRule 53 = .ok (.iconst 0, 1) := by decide +kernel
theorem dX4_readRule_54 : decode cX4_readRule 54 = .ok (.istore 4, 2) := by decide +kernel
theorem dX4_readRule_56 : decode cX4_readRule 56 = .ok (.iload 4, 2) := by decide +kernel
theorem dX4_readRule_58 : decode cX4_readRule 58 = .ok (.ifCond .eq 39, 3) := by decide +kernel
theorem dX4_readRule_61 : decode cX4_readRule 61 = .ok (.aload_n 1, 1) := by decide +kernel
theorem dX4_readRule_62 : decode cX4_readRule 62 = .ok (.ldc 58, 2) := by decide +kernel
theorem dX4_readRule_64 : decode cX4_readRule 64 = .ok (.invokevirtual 60, 3) := by decide +kernel
theorem dX4_readRule_67 : decode cX4_readRule 67 = .ok (.ifCond .eq 30, 3) := by decide +kernel
theorem dX4_readRule_70 : decode cX4_readRule 70 = .ok (.aload_n 0, 1) := by decide +kernel
theorem dX4_readRule_71 : decode cX4_readRule 71 = .ok (.aload_n 1, 1) := by decide +kernel
theorem dX4_readRule_72 : decode cX4_readRule 72 = .ok (.invokevirtual 64, 3) := by decide +kernel
theorem dX4_readRule_75 : decode cX4_readRule 75 = .ok (.ifCond .eq 16, 3) := by decide +kernel
theorem dX4_readRule_78 : decode cX4_readRule 78 = .ok (.aload_n 0, 1) := by decide +kernel
theorem dX4_readRule_79 : decode cX4_readRule 79 = .ok (.bipush 24, 2) := by decide +kernel
theorem dX4_readRule_81 : decode cX4_readRule 81 = .ok (.invokevirtual 67, 3) := by decide +kernel
theorem dX4_readRule_84 : decode cX4_readRule 84 = .ok (.ifCond .eq 7, 3) := by decide +kernel
theorem dX4_readRule_87 : decode cX4_readRule 87 = .ok (.iconst 1, 1) := by decide +kernel
theorem dX4_readRule_88 : decode cX4_readRule 88 = .ok (.goto 4, 3) := by decide +kernel
theorem dX4_readRule_91 : decode cX4_readRule 91 = .ok (.iconst 0, 1) := by decide +kernel
theorem dX4_readRule_92 : decode cX4_readRule 92 = .ok (.istore 4, 2) := by decide +kernel
theorem dX4_readRule_94 : decode cX4_readRule 94 = .ok (.goto 24, 3) := by decide +kernel
theorem dX4_readRule_97 : decode cX4_readRule 97 = .ok (.iload 4, 2) := by decide +kernel
theorem dX4_readRule_99 : decode cX4_readRule 99 = .ok (.ifCond .eq 16, 3) := by decide +kernel
theorem dX4_readRule_102 : decode cX4_readRule 102 = .ok (.aload_n 0, 1) := by decide +kernel
theorem dX4_readRule_103 : decode cX4_readRule 103 = .ok (.bipush 23, 2) := by decide +kernel
theorem dX4_readRule_105 : decode cX4_readRule 105 = .ok (.invokevirtual 67, 3) := by decide +kernel
theorem dX4_readRule_108 : decode cX4_readRule 108 = .ok (.ifCond .eq 7, 3) := by decide +kernel
theorem dX4_readRule_111 : decode cX4_readRule 111 = .ok (.iconst 1, 1) := by decide +kernel
theorem dX4_readRule_112 : decode cX4_readRule 112 = .ok (.goto 4, 3) := by decide +kernel
theorem dX4_readRule_115 : decode cX4_readRule 115 = .ok (.iconst 0, 1) := by decide +kernel
theorem dX4_readRule_116 : decode cX4_readRule 116 = .ok (.istore 4, 2) := by decide +kernel
theorem dX4_readRule_118 : decode cX4_readRule 118 = .ok (.iload 4, 2) := by decide +kernel
theorem dX4_readRule_120 : decode cX4_readRule 120 = .ok (.ifCond .eq 14, 3) := by decide +kernel
theorem dX4_readRule_123 : decode cX4_readRule 123 = .ok (.aload_n 1, 1) := by decide +kernel
theorem dX4_readRule_124 : decode cX4_readRule 124 = .ok (.invokevirtual 71, 3) := by decide +kernel
theorem dX4_readRule_127 : decode cX4_readRule 127 = .ok (.ifCond .eq 7, 3) := by decide +kernel
theorem dX4_readRule_130 : decode cX4_readRule 130 = .ok (.iconst 1, 1) := by decide +kernel
theorem dX4_readRule_131 : decode cX4_readRule 131 = .ok (.goto 4, 3) := by decide +kernel
theorem dX4_readRule_134 : decode cX4_readRule 134 = .ok (.iconst 0, 1) := by decide +kernel
theorem dX4_readRule_135 : decode cX4_readRule 135 = .ok (.istore_n 2, 1) := by decide +kernel
theorem dX4_readRule_136 : decode cX4_readRule 136 = .ok (.iinc 3 1, 3) := by decide +kernel
theorem dX4_readRule_139 : decode cX4_readRule 139 = .ok (.goto (-116), 3) := by decide +kernel
theorem dX4_readRule_142 : decode cX4_readRule 142 = .ok (.aload_n 1, 1) := by decide +kernel
theorem dX4_readRule_143 : decode cX4_readRule 143 = .ok (.invokevirtual 75, 3) := by decide +kernel
theorem dX4_readRule_146 : decode cX4_readRule 146 = .ok (.ireturn, 1) := by decide +kernel
set_option maxHeartbeats 4000000 in
set_option maxRecDepth 100000 in
theorem d_step (l : Launch) (G : gg_T) (Γ : Nat → Nat) (sz : Nat) (wt : va_W) (hT : tk_ty G Γ wt) (t : Nat) (b : Int32) (k_t : Γ t = 5) (lo_b : 0 ≤ b.toInt) (hi_b : b.toInt ≤ 2147483647) : Met l yX4_step (ts_L yX4_step cX4_step 2 (some .boolean)) ({ frames := 0, cells := 0, slots := 0, locals := 0 }) (gc_P G wt sz [.ref t, .int b]) (gc_I G (va_A wt sz) (fun r (u : va_W) => tk_ty G Γ u ∧ tk_kp [406] wt u ∧ 0 ≤ r.toInt ∧ r.toInt ≤ 1) (fun u => u)) 0 0 (va_A wt sz) := by
  refine Met.ofW (cc := cX4_step) (maxL := 2) (ret := (some .boolean)) (by decide) rfl ?_
  intro p e s m args below meth c s₁ B hml hv
  obtain ⟨rfl, hsz, hP, hK, hD0⟩ := hv
  have hx := B.exec
  have hb := B.bytes
  have hr := B.returns
  have ht := ts_ht (atoms_spec (ws := ts_L yX4_step cX4_step 2 (some .boolean)) B.pre)
  have hown : s.vm.findClass RX4 = some m.cls := findClass_of_methodNamed B.named
  have hlocks := B.notSynchronized
  subst hsz
  have hD := hD0.self (sz := s.heap.size)
  generalize hAe : va_A wt s.heap.size = A at hD ⊢
  have hA : ∀ q : Nat, s.heap.size ≤ q → A q := fun q h => by rw [← hAe]; exact Or.inr h
  clear hAe hD0
  have hS : va_S A s.heap s.heap [] := va_S.rf
  obtain ⟨w0, hw0⟩ : ∃ z, z = wt := ⟨_, rfl⟩
  have hW : tk_kp [406] w0 wt := by rw [hw0]; exact tk_kp.rf
  rw [← hw0]
  clear hw0
  have hP : va_P (gg_D G) classes ([] ++ wt) s.heap := hP
  have hD : va_D A ([] ++ wt) := hD
  have hl := lv_entry ([.ref t, .int b]) (n := 2) (Nat.le_of_ble_eq_true rfl)
  rw [lg_entry_eq]
  generalize (lg_sl ([.ref t, .int b]) ++ List.replicate (2 - (lg_sl ([.ref t, .int b])).length) Slot.unset).toArray = ls at hl ⊢
  have hl : lv_has ls 2 [(0, .ref t), (1, .int b)] := hl
  have l0 : (0 : Int32).toInt = 0 := by decide +kernel
  have l1 : (1 : Int32).toInt = 1 := by decide +kernel
  have l400 : (400 : Int32).toInt = 400 := by decide +kernel
  refine lv_aload_n hx hb dX4_step_0 rfl (lv_at hl 0 rfl) ?_
  refine tr_get (ci := 4) hx hb ht hown hK hT hP k_t (by decide) i_X4 rfl 6 (by decide) wd_343 rfl dX4_step_1 (fun v hv hf_1 => ?_)
  obtain ⟨n_2, rfl, lo_n_2, hi_n_2⟩ := hv
  refine lv_aload_n hx hb dX4_step_4 rfl (lv_at hl 0 rfl) ?_
  refine tr_get (ci := 4) hx hb ht hown hK hT hP k_t (by decide) i_X4 rfl 0 (by decide) wd_337 rfl dX4_step_5 (fun v hv hf_3 => ?_)
  obtain ⟨q_4, rfl, hq_4⟩ := hv
  refine tr_alen hx hb hK hT hP 25 hq_4 (by decide) (by decide) 400 (by decide +kernel) dX4_step_8 ?_
  refine lv_icmp_lt (tgt := 14) hx hb dX4_step_9 (by decide) (fun c_5 => ?_) (fun c_5 => ?_)
  · rw [Int32.lt_iff_toInt_lt] at c_5
    refine lv_aload_n hx hb dX4_step_14 rfl (lv_at hl 0 rfl) ?_
    refine tr_get (ci := 4) hx hb ht hown hK hT hP k_t (by decide) i_X4 rfl 0 (by decide) wd_337 rfl dX4_step_15 (fun v hv hf_6 => ?_)
    obtain ⟨q_7, rfl, hq_7⟩ := hv
    refine lv_aload_n hx hb dX4_step_18 rfl (lv_at hl 0 rfl) ?_
    refine tr_getK (ci := 4) hx hb ht hown hK hP i_X4 rfl 6 (by decide) wd_343 rfl hf_1 dX4_step_19 ?_
    refine lv_iload_n hx hb dX4_step_22 rfl (lv_at hl 1 rfl) ?_
    refine tr_iast hx hb hK hT hP hD hS 25 hq_7 (by decide) (by decide) (show vp_in _ (tk_len 25) from ia_in (n := 400) (by omega) (by omega)) (show tk_e 25 _ from (show 0 ≤ (b : Int32).toInt by omega)) dX4_step_23 (fun H locs wt hT hfl hP hD hS => ?_)
    have hW := hW.arr hfl
    have hf_1 := hfl _ _ _ _ hf_1
    refine lv_aload_n hx hb dX4_step_24 rfl (lv_at hl 0 rfl) ?_
    refine lv_dup hx hb dX4_step_25 rfl ?_
    refine tr_getK (ci := 4) hx hb ht hown hK hP i_X4 rfl 6 (by decide) wd_343 rfl hf_1 dX4_step_26 ?_
    refine lv_iconst (v := 1) hx hb dX4_step_29 (by decide +kernel) ?_
    obtain ⟨t_8, et_8⟩ : ∃ zz_ : Int32, n_2 + 1 = zz_ := ⟨_, rfl⟩
    refine gq_iadd hx hb t_8 et_8 dX4_step_30 ?_
    have ft_8 := ia_add et_8 (by omega) (by omega)
    refine tr_put (ci := 4) hx hb ht hown hK hT hP hD hS k_t (by decide) i_X4 tyX4 tyX4_ok nmX4 rfl 6 (by decide) wd_343 rfl rfl rfl rfl ⟨_, rfl, by omega, by omega⟩ dX4_step_31 (fun H locs wt hT hfl hfn hP hD hS => ?_)
    have hW := hW.obj (show 4 * 100 + 6 ∈ [406] by decide) hfl
    have hf_9 := hfn
    refine lv_iconst (v := 1) hx hb dX4_step_34 (by decide +kernel) ?_
    have hP9 := tw_right hP
    have hD9 := tw_rightD hD
    exact W.zret (v := 1) hx hb hr (by decide +kernel) (gq_endI wt ⟨hT, hW, (by omega), (by omega)⟩ hP9 hD9 hS) hS.2.2 dX4_step_35
  · rw [Int32.lt_iff_toInt_lt] at c_5
    refine lv_iconst (v := 0) hx hb dX4_step_12 (by decide +kernel) ?_
    have hP9 := tw_right hP
    have hD9 := tw_rightD hD
    exact W.zret (v := 0) hx hb hr (by decide +kernel) (gq_endI wt ⟨hT, hW, (by omega), (by omega)⟩ hP9 hD9 hS) hS.2.2 dX4_step_13
set_option maxHeartbeats 4000000 in
set_option maxRecDepth 100000 in
theorem d_isRoom (l : Launch) (G : gg_T) (Γ : Nat → Nat) (sz : Nat) (wt : va_W) (hT : tk_ty G Γ wt) (t : Nat) (b : Int32) (tp : Nat) (bp : Nat) (n : Int32) (at_ : Int32) (w_ : Int32) (fl : Int32) (bf : Nat → Int32) (k_t : Γ t = 5) (xp1 : 0 ≤ n.toInt) (xp2 : n.toInt ≤ 400) (xp3 : 0 ≤ at_.toInt) (xp4 : 0 ≤ w_.toInt) (xp5 : at_.toInt + w_.toInt ≤ 400) : Met l yX4_isRoomForPiece (ts_L yX4_isRoomForPiece cX4_isRoomForPiece 3 (some .boolean)) ({ frames := 1, cells := 0, slots := 0, locals := 22 }) (gc_P G ([(tp, .inr (8, [.ref bp, .int n, .int at_, .int w_, .int fl])), (bp, .inl (G.2.2 0, 400, .inl bf))] ++ wt) sz [.ref t, .ref tp, .int b]) (gc_I G (va_A ([(tp, .inr (8, [.ref bp, .int n, .int at_, .int w_, .int fl])), (bp, .inl (G.2.2 0, 400, .inl bf))] ++ wt) sz) (fun r (u : (Int32) × (Int32) × (Int32) × va_W) => match u with | (a1, w1, f1, wt1) => tk_ty G Γ wt1 ∧ tk_kp [407] wt wt1 ∧ 0 ≤ a1.toInt ∧ 0 ≤ w1.toInt ∧ a1.toInt + w1.toInt ≤ 400 ∧ 0 ≤ r.toInt ∧ r.toInt ≤ 1) (fun (u : (Int32) × (Int32) × (Int32) × va_W) => match u with | (a1, w1, f1, wt1) => [(tp, .inr (8, [.ref bp, .int n, .int a1, .int w1, .int f1])), (bp, .inl (G.2.2 0, 400, .inl bf))] ++ wt1)) 0 0 (va_A ([(tp, .inr (8, [.ref bp, .int n, .int at_, .int w_, .int fl])), (bp, .inl (G.2.2 0, 400, .inl bf))] ++ wt) sz) := by
  refine Met.ofW (cc := cX4_isRoomForPiece) (maxL := 3) (ret := (some .boolean)) (by decide) rfl ?_
  intro p e s m args below meth c s₁ B hml hv
  obtain ⟨rfl, hsz, hP, hK, hD0⟩ := hv
  have hx := B.exec
  have hb := B.bytes
  have hr := B.returns
  have ht := ts_ht (atoms_spec (ws := ts_L yX4_isRoomForPiece cX4_isRoomForPiece 3 (some .boolean)) B.pre)
  have hown : s.vm.findClass RX4 = some m.cls := findClass_of_methodNamed B.named
  have hlocks := B.notSynchronized
  subst hsz
  have hD := hD0.self (sz := s.heap.size)
  generalize hAe : va_A ([(tp, .inr (8, [.ref bp, .int n, .int at_, .int w_, .int fl])), (bp, .inl (G.2.2 0, 400, .inl bf))] ++ wt) s.heap.size = A at hD ⊢
  have hA : ∀ q : Nat, s.heap.size ≤ q → A q := fun q h => by rw [← hAe]; exact Or.inr h
  clear hAe hD0
  have hS : va_S A s.heap s.heap [] := va_S.rf
  obtain ⟨w0, hw0⟩ : ∃ z, z = wt := ⟨_, rfl⟩
  have hW : tk_kp [407] w0 wt := by rw [hw0]; exact tk_kp.rf
  rw [← hw0]
  clear hw0
  have hP : va_P (gg_D G) classes ([(tp, .inr (8, [.ref bp, .int n, .int at_, .int w_, .int fl])), (bp, .inl (G.2.2 0, 400, .inl bf))] ++ wt) s.heap := hP
  have hD : va_D A ([(tp, .inr (8, [.ref bp, .int n, .int at_, .int w_, .int fl])), (bp, .inl (G.2.2 0, 400, .inl bf))] ++ wt) := hD
  have hl := lv_entry ([.ref t, .ref tp, .int b]) (n := 3) (Nat.le_of_ble_eq_true rfl)
  rw [lg_entry_eq]
  generalize (lg_sl ([.ref t, .ref tp, .int b]) ++ List.replicate (3 - (lg_sl ([.ref t, .ref tp, .int b])).length) Slot.unset).toArray = ls at hl ⊢
  have hl : lv_has ls 3 [(0, .ref t), (1, .ref tp), (2, .int b)] := hl
  have l0 : (0 : Int32).toInt = 0 := by decide +kernel
  have l1 : (1 : Int32).toInt = 1 := by decide +kernel
  have l3 : (3 : Int32).toInt = 3 := by decide +kernel
  have l60 : (60 : Int32).toInt = 60 := by decide +kernel
  refine lv_aload_n hx hb dX4_isRoomForPiece_0 rfl (lv_at hl 0 rfl) ?_
  refine tr_get (ci := 4) hx hb ht hown hK hT hP k_t (by decide) i_X4 rfl 7 (by decide) wd_344 rfl dX4_isRoomForPiece_1 (fun v hv hf_1 => ?_)
  obtain ⟨n_2, rfl, lo_n_2, hi_n_2⟩ := hv
  refine lv_bipush (v := 60) hx hb dX4_isRoomForPiece_4 (by decide +kernel) ?_
  refine lv_icmp_lt (tgt := 16) hx hb dX4_isRoomForPiece_6 (by decide) (fun c_3 => ?_) (fun c_3 => ?_)
  · rw [Int32.lt_iff_toInt_lt] at c_3
    refine lv_aload_n hx hb dX4_isRoomForPiece_16 rfl (lv_at hl 0 rfl) ?_
    refine lv_dup hx hb dX4_isRoomForPiece_17 rfl ?_
    refine tr_getK (ci := 4) hx hb ht hown hK hP i_X4 rfl 7 (by decide) wd_344 rfl hf_1 dX4_isRoomForPiece_18 ?_
    refine lv_iconst (v := 1) hx hb dX4_isRoomForPiece_21 (by decide +kernel) ?_
    obtain ⟨t_4, et_4⟩ : ∃ zz_ : Int32, n_2 + 1 = zz_ := ⟨_, rfl⟩
    refine gq_iadd hx hb t_4 et_4 dX4_isRoomForPiece_22 ?_
    have ft_4 := ia_add et_4 (by omega) (by omega)
    refine tr_put (ci := 4) hx hb ht hown hK hT hP hD hS k_t (by decide) i_X4 tyX4 tyX4_ok nmX4 rfl 7 (by decide) wd_344 rfl rfl rfl rfl ⟨_, rfl, by omega, by omega⟩ dX4_isRoomForPiece_23 (fun H locs wt hT hfl hfn hP hD hS => ?_)
    have hW := hW.obj (show 4 * 100 + 7 ∈ [407] by decide) hfl
    have hf_5 := hfn
    refine lv_iconst (v := 1) hx hb dX4_isRoomForPiece_26 (by decide +kernel) ?_
    have hP9 : va_P (gg_D G) classes ([(tp, .inr (8, [.ref bp, .int n, .int at_, .int w_, .int fl])), (bp, .inl (G.2.2 0, 400, .inl bf))] ++ wt) _ := hP
    have hD9 : va_D A ([(tp, .inr (8, [.ref bp, .int n, .int at_, .int w_, .int fl])), (bp, .inl (G.2.2 0, 400, .inl bf))] ++ wt) := hD
    exact W.zret (v := 1) hx hb hr (by decide +kernel) (gq_endI (at_, w_, fl, wt) ⟨hT, hW, (by omega), (by omega), (by omega), (by omega), (by omega)⟩ hP9 hD9 hS) hS.2.2 dX4_isRoomForPiece_27
  · rw [Int32.lt_iff_toInt_lt] at c_3
    refine lv_aload_n hx hb dX4_isRoomForPiece_9 rfl (lv_at hl 1 rfl) ?_
    refine lv_iload_n hx hb dX4_isRoomForPiece_10 rfl (lv_at hl 2 rfl) ?_
    refine lv_iconst (v := 3) hx hb dX4_isRoomForPiece_11 (by decide +kernel) ?_
    have hP : va_P (gg_D G) classes ([] ++ ([(tp, .inr (8, [.ref bp, .int n, .int at_, .int w_, .int fl])), (bp, .inl (G.2.2 0, 400, .inl bf))] ++ wt)) s.heap := hP
    have hD : va_D A ([] ++ ([(tp, .inr (8, [.ref bp, .int n, .int at_, .int w_, .int fl])), (bp, .inl (G.2.2 0, 400, .inl bf))] ++ wt)) := hD
    refine gt_callI (wr := []) (va_runV (As := [.int b, .int 3]) (rest := []) ⟨hx, hb, hml, hown, ht⟩ (d_refuse l G Γ s.heap.size wt hT b 3 tp bp n at_ w_ fl bf (by first | assumption | omega) (by first | assumption | omega) (by first | assumption | omega) (by first | assumption | omega) (by first | assumption | omega)) (cwV 2 ht (ts_gV wd_719 wd_644 wd_645 wd_123 wd_646) rfl rfl rfl (by decide +kernel) ⟨Nat.le_of_ble_eq_true rfl, Nat.le_of_ble_eq_true rfl⟩) (gc_preV (ci := 8) (q0 := 0) hK (tw_right hP) (tw_rightD hD) rfl rfl) rfl rfl hl.1 rfl (lv_room (Nat.le_of_ble_eq_true rfl)) dX4_isRoomForPiece_12 ⟨Nat.le_of_ble_eq_true rfl, Nat.le_of_ble_eq_true rfl⟩) hP hD hS hA (fun r_6 u H locs hw hP hD hS => ?_)
    obtain ⟨y_7, y_8, y_9, wt⟩ := u
    obtain ⟨hT, hkp, w_10, w_11, w_12, lo_r_6, hi_r_6⟩ := hw
    have hW := hW.call (show ∀ x ∈ [], x ∈ [407] by decide) hkp
    have hf_1 := hkp _ _ _ _ (by decide) (by decide) hf_1
    have hP : va_P (gg_D G) classes ([(tp, .inr (8, [.ref bp, .int n, .int y_7, .int y_8, .int y_9])), (bp, .inl (G.2.2 0, 400, .inl bf))] ++ wt) H := hP
    have hD : va_D A ([(tp, .inr (8, [.ref bp, .int n, .int y_7, .int y_8, .int y_9])), (bp, .inl (G.2.2 0, 400, .inl bf))] ++ wt) := hD
    have z_r_6 : r_6 = 0 := by rw [← Int32.toInt_inj]; omega
    subst z_r_6
    have hP9 : va_P (gg_D G) classes ([(tp, .inr (8, [.ref bp, .int n, .int y_7, .int y_8, .int y_9])), (bp, .inl (G.2.2 0, 400, .inl bf))] ++ wt) _ := hP
    have hD9 : va_D A ([(tp, .inr (8, [.ref bp, .int n, .int y_7, .int y_8, .int y_9])), (bp, .inl (G.2.2 0, 400, .inl bf))] ++ wt) := hD
    exact W.zret (v := 0) hx hb hr (by decide +kernel) (gq_endI (y_7, y_8, y_9, wt) ⟨hT, hW, (by omega), (by omega), (by omega), (by omega), (by omega)⟩ hP9 hD9 hS) hS.2.2 dX4_isRoomForPiece_15
set_option maxHeartbeats 4000000 in
set_option maxRecDepth 100000 in
theorem d_stepWait (l : Launch) (G : gg_T) (Γ : Nat → Nat) (sz : Nat) (wt : va_W) (hT : tk_ty G Γ wt) (t : Nat) (b : Int32) (w : Int32) (k_t : Γ t = 5) (lo_w : 0 ≤ w.toInt) (hi_w : w.toInt ≤ 2147483647) : Met l yX4_stepIfWaiting (ts_L yX4_stepIfWaiting cX4_stepIfWaiting 3 none) ({ frames := 1, cells := 0, slots := 0, locals := 21 }) (gc_P G wt sz [.ref t, .int b, .int w]) (gc_V G (va_A wt sz) (fun (u : va_W) => tk_ty G Γ u ∧ tk_kp [406] wt u) (fun u => u)) 0 0 (va_A wt sz) := by
  refine Met.ofW (cc := cX4_stepIfWaiting) (maxL := 3) (ret := none) (by decide) rfl ?_
  intro p e s m args below meth c s₁ B hml hv
  obtain ⟨rfl, hsz, hP, hK, hD0⟩ := hv
  have hx := B.exec
  have hb := B.bytes
  have hr := B.returns
  have ht := ts_ht (atoms_spec (ws := ts_L yX4_stepIfWaiting cX4_stepIfWaiting 3 none) B.pre)
  have hown : s.vm.findClass RX4 = some m.cls := findClass_of_methodNamed B.named
  have hlocks := B.notSynchronized
  subst hsz
  have hD := hD0.self (sz := s.heap.size)
  generalize hAe : va_A wt s.heap.size = A at hD ⊢
  have hA : ∀ q : Nat, s.heap.size ≤ q → A q := fun q h => by rw [← hAe]; exact Or.inr h
  clear hAe hD0
  have hS : va_S A s.heap s.heap [] := va_S.rf
  obtain ⟨w0, hw0⟩ : ∃ z, z = wt := ⟨_, rfl⟩
  have hW : tk_kp [406] w0 wt := by rw [hw0]; exact tk_kp.rf
  rw [← hw0]
  clear hw0
  have hP : va_P (gg_D G) classes ([] ++ wt) s.heap := hP
  have hD : va_D A ([] ++ wt) := hD
  have hl := lv_entry ([.ref t, .int b, .int w]) (n := 3) (Nat.le_of_ble_eq_true rfl)
  rw [lg_entry_eq]
  generalize (lg_sl ([.ref t, .int b, .int w]) ++ List.replicate (3 - (lg_sl ([.ref t, .int b, .int w])).length) Slot.unset).toArray = ls at hl ⊢
  have hl : lv_has ls 3 [(0, .ref t), (1, .int b), (2, .int w)] := hl
  have l0 : (0 : Int32).toInt = 0 := by decide +kernel
  refine lv_aload_n hx hb dX4_stepIfWaiting_0 rfl (lv_at hl 0 rfl) ?_
  refine tr_get (ci := 4) hx hb ht hown hK hT hP k_t (by decide) i_X4 rfl 4 (by decide) wd_341 rfl dX4_stepIfWaiting_1 (fun v hv hf_1 => ?_)
  obtain ⟨q_2, rfl, hq_2⟩ := hv
  refine lv_aload_n hx hb dX4_stepIfWaiting_4 rfl (lv_at hl 0 rfl) ?_
  refine tr_get (ci := 4) hx hb ht hown hK hT hP k_t (by decide) i_X4 rfl 5 (by decide) wd_342 rfl dX4_stepIfWaiting_5 (fun v hv hf_3 => ?_)
  obtain ⟨n_4, rfl, lo_n_4, hi_n_4⟩ := hv
  refine tr_iald hx hb hK hT hP 26 hq_2 (by decide) (by decide) (show vp_in _ (tk_len 26) from ia_in (n := 11) (by omega) (by omega)) dX4_stepIfWaiting_8 (fun n_5 hn_5 => ?_)
  clear hn_5
  refine lv_iload_n hx hb dX4_stepIfWaiting_9 rfl (lv_at hl 1 rfl) ?_
  obtain ⟨t_6, et_6⟩ : ∃ zz_ : Int32, n_5 &&& b = zz_ := ⟨_, rfl⟩
  refine gq_iand hx hb t_6 et_6 dX4_stepIfWaiting_10 ?_
  refine lv_if_eq (tgt := 35) hx hb dX4_stepIfWaiting_11 (by decide) (fun c_7 => ?_) (fun c_7 => ?_)
  · rw [← Int32.toInt_inj] at c_7
    have hP9 := tw_right hP
    have hD9 := tw_rightD hD
    exact W.vret hx hb hr (gq_endV wt ⟨hT, hW⟩ hP9 hD9 hS) hS.2.2 dX4_stepIfWaiting_35
  · rw [← Int32.toInt_inj] at c_7
    refine lv_aload_n hx hb dX4_stepIfWaiting_14 rfl (lv_at hl 0 rfl) ?_
    refine tr_get (ci := 4) hx hb ht hown hK hT hP k_t (by decide) i_X4 rfl 4 (by decide) wd_341 rfl dX4_stepIfWaiting_15 (fun v hv hf_8 => ?_)
    obtain ⟨q_9, rfl, hq_9⟩ := hv
    refine lv_aload_n hx hb dX4_stepIfWaiting_18 rfl (lv_at hl 0 rfl) ?_
    refine tr_getK (ci := 4) hx hb ht hown hK hP i_X4 rfl 5 (by decide) wd_342 rfl hf_3 dX4_stepIfWaiting_19 ?_
    refine lv_dup2_11 hx hb dX4_stepIfWaiting_22 rfl rfl ?_
    refine tr_iald hx hb hK hT hP 26 hq_9 (by decide) (by decide) (show vp_in _ (tk_len 26) from ia_in (n := 11) (by omega) (by omega)) dX4_stepIfWaiting_23 (fun n_10 hn_10 => ?_)
    clear hn_10
    refine lv_iload_n hx hb dX4_stepIfWaiting_24 rfl (lv_at hl 1 rfl) ?_
    refine lv_iconst (v := (-1)) hx hb dX4_stepIfWaiting_25 (by decide +kernel) ?_
    refine lv_ixor hx hb dX4_stepIfWaiting_26 ?_
    refine lv_topi (fun t_11 et_11 => ?_)
    obtain ⟨t_12, et_12⟩ : ∃ zz_ : Int32, n_10 &&& t_11 = zz_ := ⟨_, rfl⟩
    refine gq_iand hx hb t_12 et_12 dX4_stepIfWaiting_27 ?_
    refine tr_iast hx hb hK hT hP hD hS 26 hq_9 (by decide) (by decide) (show vp_in _ (tk_len 26) from ia_in (n := 11) (by omega) (by omega)) (show tk_e 26 _ from trivial) dX4_stepIfWaiting_28 (fun H locs wt hT hfl hP hD hS => ?_)
    have hW := hW.arr hfl
    have hf_3 := hfl _ _ _ _ hf_3
    refine lv_aload_n hx hb dX4_stepIfWaiting_29 rfl (lv_at hl 0 rfl) ?_
    refine lv_iload_n hx hb dX4_stepIfWaiting_30 rfl (lv_at hl 2 rfl) ?_
    refine gt_callI (wr := []) (va_runV (As := [.int w]) (rest := []) ⟨hx, hb, hml, hown, ht⟩ (d_step l G Γ H.size wt hT t w k_t (by omega) (by omega)) (cwV 1 ht (ts_gV wd_736 wd_738 wd_9 wd_128 wd_739) rfl rfl rfl (by decide +kernel) ⟨Nat.le_of_ble_eq_true rfl, Nat.le_of_ble_eq_true rfl⟩) (gt_preW (ci := 4) hK hT (tw_right hP) (tw_rightD hD) k_t (by decide) rfl) rfl rfl hl.1 rfl (lv_room (Nat.le_of_ble_eq_true rfl)) dX4_stepIfWaiting_31 ⟨Nat.le_of_ble_eq_true rfl, Nat.le_of_ble_eq_true rfl⟩) hP hD hS hA (fun r_13 wt H locs hw hP hD hS => ?_)
    obtain ⟨hT, hkp, lo_r_13, hi_r_13⟩ := hw
    have hW := hW.call (show ∀ x ∈ [406], x ∈ [406] by decide) hkp
    have hf_3 := hkp _ _ _ _ (by decide) (by decide) hf_3
    refine lv_pop hx hb dX4_stepIfWaiting_34 rfl ?_
    have hP9 := tw_right hP
    have hD9 := tw_rightD hD
    exact W.vret hx hb hr (gq_endV wt ⟨hT, hW⟩ hP9 hD9 hS) hS.2.2 dX4_stepIfWaiting_35
set_option maxHeartbeats 4000000 in
set_option maxRecDepth 100000 in
theorem d_takeIf (l : Launch) (G : gg_T) (Γ : Nat → Nat) (sz : Nat) (wt : va_W) (hT : tk_ty G Γ wt) (K : Nat → Nat) (V : Nat → Nat) (tp : Nat) (bp : Nat) (n : Int32) (at_ : Int32) (w_ : Int32) (fl : Int32) (bf : Nat → Int32) (xp1 : 0 ≤ n.toInt) (xp2 : n.toInt ≤ 400) (xp3 : 0 ≤ at_.toInt) (xp4 : 0 ≤ w_.toInt) (xp5 : at_.toInt + w_.toInt ≤ 400) : Met l yX8_takeWord (ts_L yX8_takeWord cX8_takeWord 2 (some .boolean)) ({ frames := 5, cells := 0, slots := 0, locals := 110 }) (gx_P G K V ([(tp, .inr (8, [.ref bp, .int n, .int at_, .int w_, .int fl])), (bp, .inl (G.2.2 0, 400, .inl bf))] ++ wt) sz [.ref tp, .ref (K 3)]) (gc_I G (va_A ([(tp, .inr (8, [.ref bp, .int n, .int at_, .int w_, .int fl])), (bp, .inl (G.2.2 0, 400, .inl bf))] ++ wt) sz) (fun r (u : (Int32) × (Int32) × (Int32) × va_W) => match u with | (a1, w1, f1, wt1) => tk_ty G Γ wt1 ∧ tk_kp [] wt wt1 ∧ 0 ≤ a1.toInt ∧ 0 ≤ w1.toInt ∧ a1.toInt + w1.toInt ≤ 400 ∧ 0 ≤ r.toInt ∧ r.toInt ≤ 1) (fun (u : (Int32) × (Int32) × (Int32) × va_W) => match u with | (a1, w1, f1, wt1) => [(tp, .inr (8, [.ref bp, .int n, .int a1, .int w1, .int f1])), (bp, .inl (G.2.2 0, 400, .inl bf))] ++ wt1)) 0 0 (va_A ([(tp, .inr (8, [.ref bp, .int n, .int at_, .int w_, .int fl])), (bp, .inl (G.2.2 0, 400, .inl bf))] ++ wt) sz) := by
  refine Met.ofW (cc := cX8_takeWord) (maxL := 2) (ret := (some .boolean)) (by decide) rfl ?_
  intro p e s m args below meth c s₁ B hml hv
  obtain ⟨rfl, hsz, hP, hK, hD0, hX⟩ := hv
  have hx := B.exec
  have hb := B.bytes
  have hr := B.returns
  have ht := ts_ht (atoms_spec (ws := ts_L yX8_takeWord cX8_takeWord 2 (some .boolean)) B.pre)
  have hown : s.vm.findClass RX8 = some m.cls := findClass_of_methodNamed B.named
  have hlocks := B.notSynchronized
  subst hsz
  have hD := hD0.self (sz := s.heap.size)
  generalize hAe : va_A ([(tp, .inr (8, [.ref bp, .int n, .int at_, .int w_, .int fl])), (bp, .inl (G.2.2 0, 400, .inl bf))] ++ wt) s.heap.size = A at hD hX ⊢
  have hA : ∀ q : Nat, s.heap.size ≤ q → A q := fun q h => by rw [← hAe]; exact Or.inr h
  clear hAe hD0
  have hS : va_S A s.heap s.heap [] := va_S.rf
  obtain ⟨w0, hw0⟩ : ∃ z, z = wt := ⟨_, rfl⟩
  have hW : tk_kp [] w0 wt := by rw [hw0]; exact tk_kp.rf
  rw [← hw0]
  clear hw0
  have hP : va_P (gg_D G) classes ([(tp, .inr (8, [.ref bp, .int n, .int at_, .int w_, .int fl])), (bp, .inl (G.2.2 0, 400, .inl bf))] ++ wt) s.heap := hP
  have hD : va_D A ([(tp, .inr (8, [.ref bp, .int n, .int at_, .int w_, .int fl])), (bp, .inl (G.2.2 0, 400, .inl bf))] ++ wt) := hD
  have hl := lv_entry ([.ref tp, .ref (K 3)]) (n := 2) (Nat.le_of_ble_eq_true rfl)
  rw [lg_entry_eq]
  generalize (lg_sl ([.ref tp, .ref (K 3)]) ++ List.replicate (2 - (lg_sl ([.ref tp, .ref (K 3)])).length) Slot.unset).toArray = ls at hl ⊢
  have hl : lv_has ls 2 [(0, .ref tp), (1, .ref (K 3))] := hl
  have l0 : (0 : Int32).toInt = 0 := by decide +kernel
  have l1 : (1 : Int32).toInt = 1 := by decide +kernel
  refine lv_aload_n hx hb dX8_takeWord_0 rfl (lv_at hl 0 rfl) ?_
  refine lv_aload_n hx hb dX8_takeWord_1 rfl (lv_at hl 1 rfl) ?_
  have hP : va_P (gg_D G) classes ([] ++ ([(tp, .inr (8, [.ref bp, .int n, .int at_, .int w_, .int fl])), (bp, .inl (G.2.2 0, 400, .inl bf))] ++ wt)) s.heap := hP
  have hD : va_D A ([] ++ ([(tp, .inr (8, [.ref bp, .int n, .int at_, .int w_, .int fl])), (bp, .inl (G.2.2 0, 400, .inl bf))] ++ wt)) := hD
  refine gt_callI (wr := []) (va_runV (As := [.ref (K 3)]) (rest := []) ⟨hx, hb, hml, hown, ht⟩ (d_which3 l G Γ s.heap.size wt hT K V tp bp n at_ w_ fl bf (by first | assumption | omega) (by first | assumption | omega) (by first | assumption | omega) (by first | assumption | omega) (by first | assumption | omega)) (cwV 1 ht (ts_gV wd_753 wd_588 wd_589 wd_123 wd_590) rfl rfl rfl (by decide +kernel) ⟨Nat.le_of_ble_eq_true rfl, Nat.le_of_ble_eq_true rfl⟩) (gx_preV (ci := 8) (q0 := 0) hK (tw_right hP) (tw_rightD hD) hX hS (tw_free hD hS hA) rfl rfl) rfl rfl hl.1 rfl (lv_room (Nat.le_of_ble_eq_true rfl)) dX8_takeWord_2 ⟨Nat.le_of_ble_eq_true rfl, Nat.le_of_ble_eq_true rfl⟩) hP hD hS hA (fun r_1 wt H locs hw hP hD hS => ?_)
  obtain ⟨hT, hkp, lo_r_1, hi_r_1⟩ := hw
  have hW := hW.call (show ∀ x ∈ [], x ∈ [] by decide) hkp
  have hP : va_P (gg_D G) classes ([(tp, .inr (8, [.ref bp, .int n, .int at_, .int w_, .int fl])), (bp, .inl (G.2.2 0, 400, .inl bf))] ++ wt) H := hP
  have hD : va_D A ([(tp, .inr (8, [.ref bp, .int n, .int at_, .int w_, .int fl])), (bp, .inl (G.2.2 0, 400, .inl bf))] ++ wt) := hD
  refine lv_if_eq (tgt := 10) hx hb dX8_takeWord_5 (by decide) (fun c_2 => ?_) (fun c_2 => ?_)
  · rw [← Int32.toInt_inj] at c_2
    refine lv_aload_n hx hb dX8_takeWord_10 rfl (lv_at hl 0 rfl) ?_
    have hP : va_P (gg_D G) classes ([] ++ ([(tp, .inr (8, [.ref bp, .int n, .int at_, .int w_, .int fl])), (bp, .inl (G.2.2 0, 400, .inl bf))] ++ wt)) H := hP
    have hD : va_D A ([] ++ ([(tp, .inr (8, [.ref bp, .int n, .int at_, .int w_, .int fl])), (bp, .inl (G.2.2 0, 400, .inl bf))] ++ wt)) := hD
    refine gt_callV (wr := []) (va_runV (As := []) (rest := []) ⟨hx, hb, hml, hown, ht⟩ (d_passWord l G Γ H.size wt hT tp bp n at_ w_ fl bf (by first | assumption | omega) (by first | assumption | omega) (by first | assumption | omega) (by first | assumption | omega) (by first | assumption | omega)) (cwV 0 ht (ts_gV wd_754 wd_652 wd_653 wd_123 wd_654) rfl rfl rfl (by decide +kernel) ⟨Nat.le_of_ble_eq_true rfl, Nat.le_of_ble_eq_true rfl⟩) (gc_preV (ci := 8) (q0 := 0) hK (tw_right hP) (tw_rightD hD) rfl rfl) rfl rfl hl.1 rfl (lv_room (Nat.le_of_ble_eq_true rfl)) dX8_takeWord_11 ⟨Nat.le_of_ble_eq_true rfl, Nat.le_of_ble_eq_true rfl⟩) hP hD hS hA (fun u H locs hw hP hD hS => ?_)
    obtain ⟨y_3, y_4, y_5, wt⟩ := u
    obtain ⟨hT, hkp, w_6, w_7, w_8⟩ := hw
    have hW := hW.call (show ∀ x ∈ [], x ∈ [] by decide) hkp
    have hP : va_P (gg_D G) classes ([(tp, .inr (8, [.ref bp, .int n, .int y_3, .int y_4, .int y_5])), (bp, .inl (G.2.2 0, 400, .inl bf))] ++ wt) H := hP
    have hD : va_D A ([(tp, .inr (8, [.ref bp, .int n, .int y_3, .int y_4, .int y_5])), (bp, .inl (G.2.2 0, 400, .inl bf))] ++ wt) := hD
    refine lv_iconst (v := 1) hx hb dX8_takeWord_14 (by decide +kernel) ?_
    have hP9 : va_P (gg_D G) classes ([(tp, .inr (8, [.ref bp, .int n, .int y_3, .int y_4, .int y_5])), (bp, .inl (G.2.2 0, 400, .inl bf))] ++ wt) _ := hP
    have hD9 : va_D A ([(tp, .inr (8, [.ref bp, .int n, .int y_3, .int y_4, .int y_5])), (bp, .inl (G.2.2 0, 400, .inl bf))] ++ wt) := hD
    exact W.zret (v := 1) hx hb hr (by decide +kernel) (gq_endI (y_3, y_4, y_5, wt) ⟨hT, hW, (by omega), (by omega), (by omega), (by omega), (by omega)⟩ hP9 hD9 hS) hS.2.2 dX8_takeWord_15
  · rw [← Int32.toInt_inj] at c_2
    refine lv_iconst (v := 0) hx hb dX8_takeWord_8 (by decide +kernel) ?_
    have hP9 : va_P (gg_D G) classes ([(tp, .inr (8, [.ref bp, .int n, .int at_, .int w_, .int fl])), (bp, .inl (G.2.2 0, 400, .inl bf))] ++ wt) _ := hP
    have hD9 : va_D A ([(tp, .inr (8, [.ref bp, .int n, .int at_, .int w_, .int fl])), (bp, .inl (G.2.2 0, 400, .inl bf))] ++ wt) := hD
    exact W.zret (v := 0) hx hb hr (by decide +kernel) (gq_endI (at_, w_, fl, wt) ⟨hT, hW, (by omega), (by omega), (by omega), (by omega), (by omega)⟩ hP9 hD9 hS) hS.2.2 dX8_takeWord_9
set_option maxHeartbeats 4000000 in
set_option maxRecDepth 100000 in
theorem d_takeAnd (l : Launch) (G : gg_T) (Γ : Nat → Nat) (sz : Nat) (wt : va_W) (hT : tk_ty G Γ wt) (K : Nat → Nat) (V : Nat → Nat) (tp : Nat) (bp : Nat) (n : Int32) (at_ : Int32) (w_ : Int32) (fl : Int32) (bf : Nat → Int32) (xp1 : 0 ≤ n.toInt) (xp2 : n.toInt ≤ 400) (xp3 : 0 ≤ at_.toInt) (xp4 : 0 ≤ w_.toInt) (xp5 : at_.toInt + w_.toInt ≤ 400) : Met l yX8_takeWord (ts_L yX8_takeWord cX8_takeWord 2 (some .boolean)) ({ frames := 5, cells := 0, slots := 0, locals := 110 }) (gx_P G K V ([(tp, .inr (8, [.ref bp, .int n, .int at_, .int w_, .int fl])), (bp, .inl (G.2.2 0, 400, .inl bf))] ++ wt) sz [.ref tp, .ref (K 5)]) (gc_I G (va_A ([(tp, .inr (8, [.ref bp, .int n, .int at_, .int w_, .int fl])), (bp, .inl (G.2.2 0, 400, .inl bf))] ++ wt) sz) (fun r (u : (Int32) × (Int32) × (Int32) × va_W) => match u with | (a1, w1, f1, wt1) => tk_ty G Γ wt1 ∧ tk_kp [] wt wt1 ∧ 0 ≤ a1.toInt ∧ 0 ≤ w1.toInt ∧ a1.toInt + w1.toInt ≤ 400 ∧ 0 ≤ r.toInt ∧ r.toInt ≤ 1) (fun (u : (Int32) × (Int32) × (Int32) × va_W) => match u with | (a1, w1, f1, wt1) => [(tp, .inr (8, [.ref bp, .int n, .int a1, .int w1, .int f1])), (bp, .inl (G.2.2 0, 400, .inl bf))] ++ wt1)) 0 0 (va_A ([(tp, .inr (8, [.ref bp, .int n, .int at_, .int w_, .int fl])), (bp, .inl (G.2.2 0, 400, .inl bf))] ++ wt) sz) := by
  refine Met.ofW (cc := cX8_takeWord) (maxL := 2) (ret := (some .boolean)) (by decide) rfl ?_
  intro p e s m args below meth c s₁ B hml hv
  obtain ⟨rfl, hsz, hP, hK, hD0, hX⟩ := hv
  have hx := B.exec
  have hb := B.bytes
  have hr := B.returns
  have ht := ts_ht (atoms_spec (ws := ts_L yX8_takeWord cX8_takeWord 2 (some .boolean)) B.pre)
  have hown : s.vm.findClass RX8 = some m.cls := findClass_of_methodNamed B.named
  have hlocks := B.notSynchronized
  subst hsz
  have hD := hD0.self (sz := s.heap.size)
  generalize hAe : va_A ([(tp, .inr (8, [.ref bp, .int n, .int at_, .int w_, .int fl])), (bp, .inl (G.2.2 0, 400, .inl bf))] ++ wt) s.heap.size = A at hD hX ⊢
  have hA : ∀ q : Nat, s.heap.size ≤ q → A q := fun q h => by rw [← hAe]; exact Or.inr h
  clear hAe hD0
  have hS : va_S A s.heap s.heap [] := va_S.rf
  obtain ⟨w0, hw0⟩ : ∃ z, z = wt := ⟨_, rfl⟩
  have hW : tk_kp [] w0 wt := by rw [hw0]; exact tk_kp.rf
  rw [← hw0]
  clear hw0
  have hP : va_P (gg_D G) classes ([(tp, .inr (8, [.ref bp, .int n, .int at_, .int w_, .int fl])), (bp, .inl (G.2.2 0, 400, .inl bf))] ++ wt) s.heap := hP
  have hD : va_D A ([(tp, .inr (8, [.ref bp, .int n, .int at_, .int w_, .int fl])), (bp, .inl (G.2.2 0, 400, .inl bf))] ++ wt) := hD
  have hl := lv_entry ([.ref tp, .ref (K 5)]) (n := 2) (Nat.le_of_ble_eq_true rfl)
  rw [lg_entry_eq]
  generalize (lg_sl ([.ref tp, .ref (K 5)]) ++ List.replicate (2 - (lg_sl ([.ref tp, .ref (K 5)])).length) Slot.unset).toArray = ls at hl ⊢
  have hl : lv_has ls 2 [(0, .ref tp), (1, .ref (K 5))] := hl
  have l0 : (0 : Int32).toInt = 0 := by decide +kernel
  have l1 : (1 : Int32).toInt = 1 := by decide +kernel
  refine lv_aload_n hx hb dX8_takeWord_0 rfl (lv_at hl 0 rfl) ?_
  refine lv_aload_n hx hb dX8_takeWord_1 rfl (lv_at hl 1 rfl) ?_
  have hP : va_P (gg_D G) classes ([] ++ ([(tp, .inr (8, [.ref bp, .int n, .int at_, .int w_, .int fl])), (bp, .inl (G.2.2 0, 400, .inl bf))] ++ wt)) s.heap := hP
  have hD : va_D A ([] ++ ([(tp, .inr (8, [.ref bp, .int n, .int at_, .int w_, .int fl])), (bp, .inl (G.2.2 0, 400, .inl bf))] ++ wt)) := hD
  refine gt_callI (wr := []) (va_runV (As := [.ref (K 5)]) (rest := []) ⟨hx, hb, hml, hown, ht⟩ (d_which5 l G Γ s.heap.size wt hT K V tp bp n at_ w_ fl bf (by first | assumption | omega) (by first | assumption | omega) (by first | assumption | omega) (by first | assumption | omega) (by first | assumption | omega)) (cwV 1 ht (ts_gV wd_753 wd_588 wd_589 wd_123 wd_590) rfl rfl rfl (by decide +kernel) ⟨Nat.le_of_ble_eq_true rfl, Nat.le_of_ble_eq_true rfl⟩) (gx_preV (ci := 8) (q0 := 0) hK (tw_right hP) (tw_rightD hD) hX hS (tw_free hD hS hA) rfl rfl) rfl rfl hl.1 rfl (lv_room (Nat.le_of_ble_eq_true rfl)) dX8_takeWord_2 ⟨Nat.le_of_ble_eq_true rfl, Nat.le_of_ble_eq_true rfl⟩) hP hD hS hA (fun r_1 wt H locs hw hP hD hS => ?_)
  obtain ⟨hT, hkp, lo_r_1, hi_r_1⟩ := hw
  have hW := hW.call (show ∀ x ∈ [], x ∈ [] by decide) hkp
  have hP : va_P (gg_D G) classes ([(tp, .inr (8, [.ref bp, .int n, .int at_, .int w_, .int fl])), (bp, .inl (G.2.2 0, 400, .inl bf))] ++ wt) H := hP
  have hD : va_D A ([(tp, .inr (8, [.ref bp, .int n, .int at_, .int w_, .int fl])), (bp, .inl (G.2.2 0, 400, .inl bf))] ++ wt) := hD
  refine lv_if_eq (tgt := 10) hx hb dX8_takeWord_5 (by decide) (fun c_2 => ?_) (fun c_2 => ?_)
  · rw [← Int32.toInt_inj] at c_2
    refine lv_aload_n hx hb dX8_takeWord_10 rfl (lv_at hl 0 rfl) ?_
    have hP : va_P (gg_D G) classes ([] ++ ([(tp, .inr (8, [.ref bp, .int n, .int at_, .int w_, .int fl])), (bp, .inl (G.2.2 0, 400, .inl bf))] ++ wt)) H := hP
    have hD : va_D A ([] ++ ([(tp, .inr (8, [.ref bp, .int n, .int at_, .int w_, .int fl])), (bp, .inl (G.2.2 0, 400, .inl bf))] ++ wt)) := hD
    refine gt_callV (wr := []) (va_runV (As := []) (rest := []) ⟨hx, hb, hml, hown, ht⟩ (d_passWord l G Γ H.size wt hT tp bp n at_ w_ fl bf (by first | assumption | omega) (by first | assumption | omega) (by first | assumption | omega) (by first | assumption | omega) (by first | assumption | omega)) (cwV 0 ht (ts_gV wd_754 wd_652 wd_653 wd_123 wd_654) rfl rfl rfl (by decide +kernel) ⟨Nat.le_of_ble_eq_true rfl, Nat.le_of_ble_eq_true rfl⟩) (gc_preV (ci := 8) (q0 := 0) hK (tw_right hP) (tw_rightD hD) rfl rfl) rfl rfl hl.1 rfl (lv_room (Nat.le_of_ble_eq_true rfl)) dX8_takeWord_11 ⟨Nat.le_of_ble_eq_true rfl, Nat.le_of_ble_eq_true rfl⟩) hP hD hS hA (fun u H locs hw hP hD hS => ?_)
    obtain ⟨y_3, y_4, y_5, wt⟩ := u
    obtain ⟨hT, hkp, w_6, w_7, w_8⟩ := hw
    have hW := hW.call (show ∀ x ∈ [], x ∈ [] by decide) hkp
    have hP : va_P (gg_D G) classes ([(tp, .inr (8, [.ref bp, .int n, .int y_3, .int y_4, .int y_5])), (bp, .inl (G.2.2 0, 400, .inl bf))] ++ wt) H := hP
    have hD : va_D A ([(tp, .inr (8, [.ref bp, .int n, .int y_3, .int y_4, .int y_5])), (bp, .inl (G.2.2 0, 400, .inl bf))] ++ wt) := hD
    refine lv_iconst (v := 1) hx hb dX8_takeWord_14 (by decide +kernel) ?_
    have hP9 : va_P (gg_D G) classes ([(tp, .inr (8, [.ref bp, .int n, .int y_3, .int y_4, .int y_5])), (bp, .inl (G.2.2 0, 400, .inl bf))] ++ wt) _ := hP
    have hD9 : va_D A ([(tp, .inr (8, [.ref bp, .int n, .int y_3, .int y_4, .int y_5])), (bp, .inl (G.2.2 0, 400, .inl bf))] ++ wt) := hD
    exact W.zret (v := 1) hx hb hr (by decide +kernel) (gq_endI (y_3, y_4, y_5, wt) ⟨hT, hW, (by omega), (by omega), (by omega), (by omega), (by omega)⟩ hP9 hD9 hS) hS.2.2 dX8_takeWord_15
  · rw [← Int32.toInt_inj] at c_2
    refine lv_iconst (v := 0) hx hb dX8_takeWord_8 (by decide +kernel) ?_
    have hP9 : va_P (gg_D G) classes ([(tp, .inr (8, [.ref bp, .int n, .int at_, .int w_, .int fl])), (bp, .inl (G.2.2 0, 400, .inl bf))] ++ wt) _ := hP
    have hD9 : va_D A ([(tp, .inr (8, [.ref bp, .int n, .int at_, .int w_, .int fl])), (bp, .inl (G.2.2 0, 400, .inl bf))] ++ wt) := hD
    exact W.zret (v := 0) hx hb hr (by decide +kernel) (gq_endI (at_, w_, fl, wt) ⟨hT, hW, (by omega), (by omega), (by omega), (by omega), (by omega)⟩ hP9 hD9 hS) hS.2.2 dX8_takeWord_9
set_option maxHeartbeats 4000000 in
set_option maxRecDepth 100000 in
theorem d_takeOr (l : Launch) (G : gg_T) (Γ : Nat → Nat) (sz : Nat) (wt : va_W) (hT : tk_ty G Γ wt) (K : Nat → Nat) (V : Nat → Nat) (tp : Nat) (bp : Nat) (n : Int32) (at_ : Int32) (w_ : Int32) (fl : Int32) (bf : Nat → Int32) (xp1 : 0 ≤ n.toInt) (xp2 : n.toInt ≤ 400) (xp3 : 0 ≤ at_.toInt) (xp4 : 0 ≤ w_.toInt) (xp5 : at_.toInt + w_.toInt ≤ 400) : Met l yX8_takeWord (ts_L yX8_takeWord cX8_takeWord 2 (some .boolean)) ({ frames := 5, cells := 0, slots := 0, locals := 110 }) (gx_P G K V ([(tp, .inr (8, [.ref bp, .int n, .int at_, .int w_, .int fl])), (bp, .inl (G.2.2 0, 400, .inl bf))] ++ wt) sz [.ref tp, .ref (K 6)]) (gc_I G (va_A ([(tp, .inr (8, [.ref bp, .int n, .int at_, .int w_, .int fl])), (bp, .inl (G.2.2 0, 400, .inl bf))] ++ wt) sz) (fun r (u : (Int32) × (Int32) × (Int32) × va_W) => match u with | (a1, w1, f1, wt1) => tk_ty G Γ wt1 ∧ tk_kp [] wt wt1 ∧ 0 ≤ a1.toInt ∧ 0 ≤ w1.toInt ∧ a1.toInt + w1.toInt ≤ 400 ∧ 0 ≤ r.toInt ∧ r.toInt ≤ 1) (fun (u : (Int32) × (Int32) × (Int32) × va_W) => match u with | (a1, w1, f1, wt1) => [(tp, .inr (8, [.ref bp, .int n, .int a1, .int w1, .int f1])), (bp, .inl (G.2.2 0, 400, .inl bf))] ++ wt1)) 0 0 (va_A ([(tp, .inr (8, [.ref bp, .int n, .int at_, .int w_, .int fl])), (bp, .inl (G.2.2 0, 400, .inl bf))] ++ wt) sz) := by
  refine Met.ofW (cc := cX8_takeWord) (maxL := 2) (ret := (some .boolean)) (by decide) rfl ?_
  intro p e s m args below meth c s₁ B hml hv
  obtain ⟨rfl, hsz, hP, hK, hD0, hX⟩ := hv
  have hx := B.exec
  have hb := B.bytes
  have hr := B.returns
  have ht := ts_ht (atoms_spec (ws := ts_L yX8_takeWord cX8_takeWord 2 (some .boolean)) B.pre)
  have hown : s.vm.findClass RX8 = some m.cls := findClass_of_methodNamed B.named
  have hlocks := B.notSynchronized
  subst hsz
  have hD := hD0.self (sz := s.heap.size)
  generalize hAe : va_A ([(tp, .inr (8, [.ref bp, .int n, .int at_, .int w_, .int fl])), (bp, .inl (G.2.2 0, 400, .inl bf))] ++ wt) s.heap.size = A at hD hX ⊢
  have hA : ∀ q : Nat, s.heap.size ≤ q → A q := fun q h => by rw [← hAe]; exact Or.inr h
  clear hAe hD0
  have hS : va_S A s.heap s.heap [] := va_S.rf
  obtain ⟨w0, hw0⟩ : ∃ z, z = wt := ⟨_, rfl⟩
  have hW : tk_kp [] w0 wt := by rw [hw0]; exact tk_kp.rf
  rw [← hw0]
  clear hw0
  have hP : va_P (gg_D G) classes ([(tp, .inr (8, [.ref bp, .int n, .int at_, .int w_, .int fl])), (bp, .inl (G.2.2 0, 400, .inl bf))] ++ wt) s.heap := hP
  have hD : va_D A ([(tp, .inr (8, [.ref bp, .int n, .int at_, .int w_, .int fl])), (bp, .inl (G.2.2 0, 400, .inl bf))] ++ wt) := hD
  have hl := lv_entry ([.ref tp, .ref (K 6)]) (n := 2) (Nat.le_of_ble_eq_true rfl)
  rw [lg_entry_eq]
  generalize (lg_sl ([.ref tp, .ref (K 6)]) ++ List.replicate (2 - (lg_sl ([.ref tp, .ref (K 6)])).length) Slot.unset).toArray = ls at hl ⊢
  have hl : lv_has ls 2 [(0, .ref tp), (1, .ref (K 6))] := hl
  have l0 : (0 : Int32).toInt = 0 := by decide +kernel
  have l1 : (1 : Int32).toInt = 1 := by decide +kernel
  refine lv_aload_n hx hb dX8_takeWord_0 rfl (lv_at hl 0 rfl) ?_
  refine lv_aload_n hx hb dX8_takeWord_1 rfl (lv_at hl 1 rfl) ?_
  have hP : va_P (gg_D G) classes ([] ++ ([(tp, .inr (8, [.ref bp, .int n, .int at_, .int w_, .int fl])), (bp, .inl (G.2.2 0, 400, .inl bf))] ++ wt)) s.heap := hP
  have hD : va_D A ([] ++ ([(tp, .inr (8, [.ref bp, .int n, .int at_, .int w_, .int fl])), (bp, .inl (G.2.2 0, 400, .inl bf))] ++ wt)) := hD
  refine gt_callI (wr := []) (va_runV (As := [.ref (K 6)]) (rest := []) ⟨hx, hb, hml, hown, ht⟩ (d_which6 l G Γ s.heap.size wt hT K V tp bp n at_ w_ fl bf (by first | assumption | omega) (by first | assumption | omega) (by first | assumption | omega) (by first | assumption | omega) (by first | assumption | omega)) (cwV 1 ht (ts_gV wd_753 wd_588 wd_589 wd_123 wd_590) rfl rfl rfl (by decide +kernel) ⟨Nat.le_of_ble_eq_true rfl, Nat.le_of_ble_eq_true rfl⟩) (gx_preV (ci := 8) (q0 := 0) hK (tw_right hP) (tw_rightD hD) hX hS (tw_free hD hS hA) rfl rfl) rfl rfl hl.1 rfl (lv_room (Nat.le_of_ble_eq_true rfl)) dX8_takeWord_2 ⟨Nat.le_of_ble_eq_true rfl, Nat.le_of_ble_eq_true rfl⟩) hP hD hS hA (fun r_1 wt H locs hw hP hD hS => ?_)
  obtain ⟨hT, hkp, lo_r_1, hi_r_1⟩ := hw
  have hW := hW.call (show ∀ x ∈ [], x ∈ [] by decide) hkp
  have hP : va_P (gg_D G) classes ([(tp, .inr (8, [.ref bp, .int n, .int at_, .int w_, .int fl])), (bp, .inl (G.2.2 0, 400, .inl bf))] ++ wt) H := hP
  have hD : va_D A ([(tp, .inr (8, [.ref bp, .int n, .int at_, .int w_, .int fl])), (bp, .inl (G.2.2 0, 400, .inl bf))] ++ wt) := hD
  refine lv_if_eq (tgt := 10) hx hb dX8_takeWord_5 (by decide) (fun c_2 => ?_) (fun c_2 => ?_)
  · rw [← Int32.toInt_inj] at c_2
    refine lv_aload_n hx hb dX8_takeWord_10 rfl (lv_at hl 0 rfl) ?_
    have hP : va_P (gg_D G) classes ([] ++ ([(tp, .inr (8, [.ref bp, .int n, .int at_, .int w_, .int fl])), (bp, .inl (G.2.2 0, 400, .inl bf))] ++ wt)) H := hP
    have hD : va_D A ([] ++ ([(tp, .inr (8, [.ref bp, .int n, .int at_, .int w_, .int fl])), (bp, .inl (G.2.2 0, 400, .inl bf))] ++ wt)) := hD
    refine gt_callV (wr := []) (va_runV (As := []) (rest := []) ⟨hx, hb, hml, hown, ht⟩ (d_passWord l G Γ H.size wt hT tp bp n at_ w_ fl bf (by first | assumption | omega) (by first | assumption | omega) (by first | assumption | omega) (by first | assumption | omega) (by first | assumption | omega)) (cwV 0 ht (ts_gV wd_754 wd_652 wd_653 wd_123 wd_654) rfl rfl rfl (by decide +kernel) ⟨Nat.le_of_ble_eq_true rfl, Nat.le_of_ble_eq_true rfl⟩) (gc_preV (ci := 8) (q0 := 0) hK (tw_right hP) (tw_rightD hD) rfl rfl) rfl rfl hl.1 rfl (lv_room (Nat.le_of_ble_eq_true rfl)) dX8_takeWord_11 ⟨Nat.le_of_ble_eq_true rfl, Nat.le_of_ble_eq_true rfl⟩) hP hD hS hA (fun u H locs hw hP hD hS => ?_)
    obtain ⟨y_3, y_4, y_5, wt⟩ := u
    obtain ⟨hT, hkp, w_6, w_7, w_8⟩ := hw
    have hW := hW.call (show ∀ x ∈ [], x ∈ [] by decide) hkp
    have hP : va_P (gg_D G) classes ([(tp, .inr (8, [.ref bp, .int n, .int y_3, .int y_4, .int y_5])), (bp, .inl (G.2.2 0, 400, .inl bf))] ++ wt) H := hP
    have hD : va_D A ([(tp, .inr (8, [.ref bp, .int n, .int y_3, .int y_4, .int y_5])), (bp, .inl (G.2.2 0, 400, .inl bf))] ++ wt) := hD
    refine lv_iconst (v := 1) hx hb dX8_takeWord_14 (by decide +kernel) ?_
    have hP9 : va_P (gg_D G) classes ([(tp, .inr (8, [.ref bp, .int n, .int y_3, .int y_4, .int y_5])), (bp, .inl (G.2.2 0, 400, .inl bf))] ++ wt) _ := hP
    have hD9 : va_D A ([(tp, .inr (8, [.ref bp, .int n, .int y_3, .int y_4, .int y_5])), (bp, .inl (G.2.2 0, 400, .inl bf))] ++ wt) := hD
    exact W.zret (v := 1) hx hb hr (by decide +kernel) (gq_endI (y_3, y_4, y_5, wt) ⟨hT, hW, (by omega), (by omega), (by omega), (by omega), (by omega)⟩ hP9 hD9 hS) hS.2.2 dX8_takeWord_15
  · rw [← Int32.toInt_inj] at c_2
    refine lv_iconst (v := 0) hx hb dX8_takeWord_8 (by decide +kernel) ?_
    have hP9 : va_P (gg_D G) classes ([(tp, .inr (8, [.ref bp, .int n, .int at_, .int w_, .int fl])), (bp, .inl (G.2.2 0, 400, .inl bf))] ++ wt) _ := hP
    have hD9 : va_D A ([(tp, .inr (8, [.ref bp, .int n, .int at_, .int w_, .int fl])), (bp, .inl (G.2.2 0, 400, .inl bf))] ++ wt) := hD
    exact W.zret (v := 0) hx hb hr (by decide +kernel) (gq_endI (at_, w_, fl, wt) ⟨hT, hW, (by omega), (by omega), (by omega), (by omega), (by omega)⟩ hP9 hD9 hS) hS.2.2 dX8_takeWord_9
set_option maxHeartbeats 4000000 in
set_option maxRecDepth 100000 in
theorem d_readValue (l : Launch) (G : gg_T) (Γ : Nat → Nat) (sz : Nat) (wt : va_W) (hT : tk_ty G Γ wt) (K : Nat → Nat) (V : Nat → Nat) (t : Nat) (tp : Nat) (bp : Nat) (n : Int32) (at_ : Int32) (w_ : Int32) (fl : Int32) (bf : Nat → Int32) (k_t : Γ t = 5) (xp1 : 0 ≤ n.toInt) (xp2 : n.toInt ≤ 400) (xp3 : 0 ≤ at_.toInt) (xp4 : 0 ≤ w_.toInt) (xp5 : at_.toInt + w_.toInt ≤ 400) : Met l yX4_readValue (ts_L yX4_readValue cX4_readValue 5 (some .boolean)) ({ frames := 5, cells := 0, slots := 0, locals := 110 }) (gx_P G K V ([(tp, .inr (8, [.ref bp, .int n, .int at_, .int w_, .int fl])), (bp, .inl (G.2.2 0, 400, .inl bf))] ++ wt) sz [.ref t, .ref tp]) (gc_I G (va_A ([(tp, .inr (8, [.ref bp, .int n, .int at_, .int w_, .int fl])), (bp, .inl (G.2.2 0, 400, .inl bf))] ++ wt) sz) (fun r (u : (Int32) × (Int32) × (Int32) × va_W) => match u with | (a1, w1, f1, wt1) => tk_ty G Γ wt1 ∧ tk_kp [406, 407, 408] wt wt1 ∧ 0 ≤ a1.toInt ∧ 0 ≤ w1.toInt ∧ a1.toInt + w1.toInt ≤ 400 ∧ 0 ≤ r.toInt ∧ r.toInt ≤ 1) (fun (u : (Int32) × (Int32) × (Int32) × va_W) => match u with | (a1, w1, f1, wt1) => [(tp, .inr (8, [.ref bp, .int n, .int a1, .int w1, .int f1])), (bp, .inl (G.2.2 0, 400, .inl bf))] ++ wt1)) 0 0 (va_A ([(tp, .inr (8, [.ref bp, .int n, .int at_, .int w_, .int fl])), (bp, .inl (G.2.2 0, 400, .inl bf))] ++ wt) sz) := by
  refine Met.ofW (cc := cX4_readValue) (maxL := 5) (ret := (some .boolean)) (by decide) rfl ?_
  intro p e s m args below meth c s₁ B hml hv
  obtain ⟨rfl, hsz, hP, hK, hD0, hX⟩ := hv
  have hx := B.exec
  have hb := B.bytes
  have hr := B.returns
  have ht := ts_ht (atoms_spec (ws := ts_L yX4_readValue cX4_readValue 5 (some .boolean)) B.pre)
  have hown : s.vm.findClass RX4 = some m.cls := findClass_of_methodNamed B.named
  have hlocks := B.notSynchronized
  subst hsz
  have hD := hD0.self (sz := s.heap.size)
  generalize hAe : va_A ([(tp, .inr (8, [.ref bp, .int n, .int at_, .int w_, .int fl])), (bp, .inl (G.2.2 0, 400, .inl bf))] ++ wt) s.heap.size = A at hD hX ⊢
  have hA : ∀ q : Nat, s.heap.size ≤ q → A q := fun q h => by rw [← hAe]; exact Or.inr h
  clear hAe hD0
  have hS : va_S A s.heap s.heap [] := va_S.rf
  obtain ⟨w0, hw0⟩ : ∃ z, z = wt := ⟨_, rfl⟩
  have hW : tk_kp [406, 407, 408] w0 wt := by rw [hw0]; exact tk_kp.rf
  rw [← hw0]
  clear hw0
  have hP : va_P (gg_D G) classes ([(tp, .inr (8, [.ref bp, .int n, .int at_, .int w_, .int fl])), (bp, .inl (G.2.2 0, 400, .inl bf))] ++ wt) s.heap := hP
  have hD : va_D A ([(tp, .inr (8, [.ref bp, .int n, .int at_, .int w_, .int fl])), (bp, .inl (G.2.2 0, 400, .inl bf))] ++ wt) := hD
  have hl := lv_entry ([.ref t, .ref tp]) (n := 5) (Nat.le_of_ble_eq_true rfl)
  rw [lg_entry_eq]
  generalize (lg_sl ([.ref t, .ref tp]) ++ List.replicate (5 - (lg_sl ([.ref t, .ref tp])).length) Slot.unset).toArray = ls at hl ⊢
  have hl : lv_has ls 5 [(0, .ref t), (1, .ref tp)] := hl
  have lm1 : ((-1) : Int32).toInt = -1 := by decide +kernel
  have l0 : (0 : Int32).toInt = 0 := by decide +kernel
  have l1 : (1 : Int32).toInt = 1 := by decide +kernel
  have l100 : (100 : Int32).toInt = 100 := by decide +kernel
  have l99999 : (99999 : Int32).toInt = 99999 := by decide +kernel
  refine lv_aload_n hx hb dX4_readValue_0 rfl (lv_at hl 1 rfl) ?_
  have hP : va_P (gg_D G) classes ([] ++ ([(tp, .inr (8, [.ref bp, .int n, .int at_, .int w_, .int fl])), (bp, .inl (G.2.2 0, 400, .inl bf))] ++ wt)) s.heap := hP
  have hD : va_D A ([] ++ ([(tp, .inr (8, [.ref bp, .int n, .int at_, .int w_, .int fl])), (bp, .inl (G.2.2 0, 400, .inl bf))] ++ wt)) := hD
  refine gt_callI (wr := []) (va_runV (As := []) (rest := []) ⟨hx, hb, hml, hown, ht⟩ (d_place l G Γ s.heap.size wt hT tp bp n at_ w_ fl bf (by first | assumption | omega) (by first | assumption | omega) (by first | assumption | omega) (by first | assumption | omega) (by first | assumption | omega)) (cwV 0 ht (ts_gV wd_718 wd_640 wd_641 wd_123 wd_642) rfl rfl rfl (by decide +kernel) ⟨Nat.le_of_ble_eq_true rfl, Nat.le_of_ble_eq_true rfl⟩) (gc_preV (ci := 8) (q0 := 0) hK (tw_right hP) (tw_rightD hD) rfl rfl) rfl rfl hl.1 rfl (lv_room (Nat.le_of_ble_eq_true rfl)) dX4_readValue_1 ⟨Nat.le_of_ble_eq_true rfl, Nat.le_of_ble_eq_true rfl⟩) hP hD hS hA (fun r_1 wt H locs hw hP hD hS => ?_)
  obtain ⟨hT, hkp, lo_r_1, hi_r_1⟩ := hw
  have hW := hW.call (show ∀ x ∈ [], x ∈ [406, 407, 408] by decide) hkp
  have hP : va_P (gg_D G) classes ([(tp, .inr (8, [.ref bp, .int n, .int at_, .int w_, .int fl])), (bp, .inl (G.2.2 0, 400, .inl bf))] ++ wt) H := hP
  have hD : va_D A ([(tp, .inr (8, [.ref bp, .int n, .int at_, .int w_, .int fl])), (bp, .inl (G.2.2 0, 400, .inl bf))] ++ wt) := hD
  refine lv_istore_n (lv' := [(2, .int r_1), (0, .ref t), (1, .ref tp)]) hx hb dX4_readValue_4 rfl hl (by decide) rfl (fun ls hl => ?_)
  refine lv_aload_n hx hb dX4_readValue_5 rfl (lv_at hl 2 rfl) ?_
  refine va_ldcS hx hb hown (hX.2.2.2.2.2.1) dX4_readValue_6 ?_
  have hP : va_P (gg_D G) classes ([] ++ ([(tp, .inr (8, [.ref bp, .int n, .int at_, .int w_, .int fl])), (bp, .inl (G.2.2 0, 400, .inl bf))] ++ wt)) H := hP
  have hD : va_D A ([] ++ ([(tp, .inr (8, [.ref bp, .int n, .int at_, .int w_, .int fl])), (bp, .inl (G.2.2 0, 400, .inl bf))] ++ wt)) := hD
  refine gt_callI (wr := []) (va_runV (As := [.ref (K 2)]) (rest := []) ⟨hx, hb, hml, hown, ht⟩ (d_which2 l G Γ H.size wt hT K V tp bp n at_ w_ fl bf (by first | assumption | omega) (by first | assumption | omega) (by first | assumption | omega) (by first | assumption | omega) (by first | assumption | omega)) (cwV 1 ht (ts_gV wd_717 wd_588 wd_589 wd_123 wd_590) rfl rfl rfl (by decide +kernel) ⟨Nat.le_of_ble_eq_true rfl, Nat.le_of_ble_eq_true rfl⟩) (gx_preV (ci := 8) (q0 := 0) hK (tw_right hP) (tw_rightD hD) hX hS (tw_free hD hS hA) rfl rfl) rfl rfl hl.1 rfl (lv_room (Nat.le_of_ble_eq_true rfl)) dX4_readValue_8 ⟨Nat.le_of_ble_eq_true rfl, Nat.le_of_ble_eq_true rfl⟩) hP hD hS hA (fun r_2 wt H locs hw hP hD hS => ?_)
  obtain ⟨hT, hkp, lo_r_2, hi_r_2⟩ := hw
  have hW := hW.call (show ∀ x ∈ [], x ∈ [406, 407, 408] by decide) hkp
  have hP : va_P (gg_D G) classes ([(tp, .inr (8, [.ref bp, .int n, .int at_, .int w_, .int fl])), (bp, .inl (G.2.2 0, 400, .inl bf))] ++ wt) H := hP
  have hD : va_D A ([(tp, .inr (8, [.ref bp, .int n, .int at_, .int w_, .int fl])), (bp, .inl (G.2.2 0, 400, .inl bf))] ++ wt) := hD
  refine lv_istore_n (lv' := [(3, .int r_2), (2, .int r_1), (0, .ref t), (1, .ref tp)]) hx hb dX4_readValue_11 rfl hl (by decide) rfl (fun ls hl => ?_)
  refine lv_iload_n hx hb dX4_readValue_12 rfl (lv_at hl 0 rfl) ?_
  refine lv_iconst (v := (-1)) hx hb dX4_readValue_13 (by decide +kernel) ?_
  refine lv_icmp_ne (tgt := 59) hx hb dX4_readValue_14 (by decide) (fun c_3 => ?_) (fun c_3 => ?_)
  · rw [← Int32.toInt_inj] at c_3
    refine lv_aload_n hx hb dX4_readValue_59 rfl (lv_at hl 3 rfl) ?_
    have hP : va_P (gg_D G) classes ([] ++ ([(tp, .inr (8, [.ref bp, .int n, .int at_, .int w_, .int fl])), (bp, .inl (G.2.2 0, 400, .inl bf))] ++ wt)) H := hP
    have hD : va_D A ([] ++ ([(tp, .inr (8, [.ref bp, .int n, .int at_, .int w_, .int fl])), (bp, .inl (G.2.2 0, 400, .inl bf))] ++ wt)) := hD
    refine gt_callV (wr := []) (va_runV (As := []) (rest := []) ⟨hx, hb, hml, hown, ht⟩ (d_passWord l G Γ H.size wt hT tp bp n at_ w_ fl bf (by first | assumption | omega) (by first | assumption | omega) (by first | assumption | omega) (by first | assumption | omega) (by first | assumption | omega)) (cwV 0 ht (ts_gV wd_720 wd_652 wd_653 wd_123 wd_654) rfl rfl rfl (by decide +kernel) ⟨Nat.le_of_ble_eq_true rfl, Nat.le_of_ble_eq_true rfl⟩) (gc_preV (ci := 8) (q0 := 0) hK (tw_right hP) (tw_rightD hD) rfl rfl) rfl rfl hl.1 rfl (lv_room (Nat.le_of_ble_eq_true rfl)) dX4_readValue_60 ⟨Nat.le_of_ble_eq_true rfl, Nat.le_of_ble_eq_true rfl⟩) hP hD hS hA (fun u H locs hw hP hD hS => ?_)
    obtain ⟨y_4, y_5, y_6, wt⟩ := u
    obtain ⟨hT, hkp, w_7, w_8, w_9⟩ := hw
    have hW := hW.call (show ∀ x ∈ [], x ∈ [406, 407, 408] by decide) hkp
    have hP : va_P (gg_D G) classes ([(tp, .inr (8, [.ref bp, .int n, .int y_4, .int y_5, .int y_6])), (bp, .inl (G.2.2 0, 400, .inl bf))] ++ wt) H := hP
    have hD : va_D A ([(tp, .inr (8, [.ref bp, .int n, .int y_4, .int y_5, .int y_6])), (bp, .inl (G.2.2 0, 400, .inl bf))] ++ wt) := hD
    refine lv_aload_n hx hb dX4_readValue_63 rfl (lv_at hl 2 rfl) ?_
    refine lv_dup hx hb dX4_readValue_64 rfl ?_
    refine tr_get (ci := 4) hx hb ht hown hK hT hP k_t (by decide) i_X4 rfl 8 (by decide) wd_345 rfl dX4_readValue_65 (fun v hv hf_10 => ?_)
    obtain ⟨n_11, rfl⟩ := hv
    refine lv_iconst (v := 1) hx hb dX4_readValue_68 (by decide +kernel) ?_
    refine lv_iload_n hx hb dX4_readValue_69 rfl (lv_at hl 0 rfl) ?_
    obtain ⟨t_12, et_12⟩ : ∃ zz_ : Int32, 1 <<< (r_2 &&& 31) = zz_ := ⟨_, rfl⟩
    refine gq_ishl hx hb t_12 et_12 dX4_readValue_70 ?_
    obtain ⟨t_13, et_13⟩ : ∃ zz_ : Int32, n_11 ||| t_12 = zz_ := ⟨_, rfl⟩
    refine gq_ior hx hb t_13 et_13 dX4_readValue_71 ?_
    refine tr_put (ci := 4) hx hb ht hown hK hT hP hD hS k_t (by decide) i_X4 tyX4 tyX4_ok nmX4 rfl 8 (by decide) wd_345 rfl rfl rfl rfl ⟨_, rfl⟩ dX4_readValue_72 (fun H locs wt hT hfl hfn hP hD hS => ?_)
    have hW := hW.obj (show 4 * 100 + 8 ∈ [406, 407, 408] by decide) hfl
    have hf_14 := hfn
    refine lv_aload_n hx hb dX4_readValue_75 rfl (lv_at hl 2 rfl) ?_
    refine lv_aload_n hx hb dX4_readValue_76 rfl (lv_at hl 3 rfl) ?_
    refine lv_iload_n hx hb dX4_readValue_77 rfl (lv_at hl 1 rfl) ?_
    have hP : va_P (gg_D G) classes ([] ++ ([(tp, .inr (8, [.ref bp, .int n, .int y_4, .int y_5, .int y_6])), (bp, .inl (G.2.2 0, 400, .inl bf))] ++ wt)) H := hP
    have hD : va_D A ([] ++ ([(tp, .inr (8, [.ref bp, .int n, .int y_4, .int y_5, .int y_6])), (bp, .inl (G.2.2 0, 400, .inl bf))] ++ wt)) := hD
    refine gt_callI (wr := []) (va_runV (As := [.ref tp, .int r_1]) (rest := []) ⟨hx, hb, hml, hown, ht⟩ (d_isRoom l G Γ H.size wt hT t r_1 tp bp n y_4 y_5 y_6 bf k_t (by first | assumption | omega) (by first | assumption | omega) (by first | assumption | omega) (by first | assumption | omega) (by first | assumption | omega)) (cwV 2 ht (ts_gV wd_732 wd_734 wd_8 wd_128 wd_735) rfl rfl rfl (by decide +kernel) ⟨Nat.le_of_ble_eq_true rfl, Nat.le_of_ble_eq_true rfl⟩) (gt_preV (ci := 4) hK hT (tw_right hP) (tw_rightD hD) k_t (by decide) rfl) rfl rfl hl.1 rfl (lv_room (Nat.le_of_ble_eq_true rfl)) dX4_readValue_78 ⟨Nat.le_of_ble_eq_true rfl, Nat.le_of_ble_eq_true rfl⟩) hP hD hS hA (fun r_15 u H locs hw hP hD hS => ?_)
    obtain ⟨y_16, y_17, y_18, wt⟩ := u
    obtain ⟨hT, hkp, w_19, w_20, w_21, lo_r_15, hi_r_15⟩ := hw
    have hW := hW.call (show ∀ x ∈ [407], x ∈ [406, 407, 408] by decide) hkp
    have hf_14 := hkp _ _ _ _ (by decide) (by decide) hf_14
    have hP : va_P (gg_D G) classes ([(tp, .inr (8, [.ref bp, .int n, .int y_16, .int y_17, .int y_18])), (bp, .inl (G.2.2 0, 400, .inl bf))] ++ wt) H := hP
    have hD : va_D A ([(tp, .inr (8, [.ref bp, .int n, .int y_16, .int y_17, .int y_18])), (bp, .inl (G.2.2 0, 400, .inl bf))] ++ wt) := hD
    refine lv_if_eq (tgt := 96) hx hb dX4_readValue_81 (by decide) (fun c_22 => ?_) (fun c_22 => ?_)
    · rw [← Int32.toInt_inj] at c_22
      refine lv_iconst (v := 0) hx hb dX4_readValue_96 (by decide +kernel) ?_
      have hP9 : va_P (gg_D G) classes ([(tp, .inr (8, [.ref bp, .int n, .int y_16, .int y_17, .int y_18])), (bp, .inl (G.2.2 0, 400, .inl bf))] ++ wt) _ := hP
      have hD9 : va_D A ([(tp, .inr (8, [.ref bp, .int n, .int y_16, .int y_17, .int y_18])), (bp, .inl (G.2.2 0, 400, .inl bf))] ++ wt) := hD
      exact W.zret (v := 0) hx hb hr (by decide +kernel) (gq_endI (y_16, y_17, y_18, wt) ⟨hT, hW, (by omega), (by omega), (by omega), (by omega), (by omega)⟩ hP9 hD9 hS) hS.2.2 dX4_readValue_97
    · rw [← Int32.toInt_inj] at c_22
      refine lv_aload_n hx hb dX4_readValue_84 rfl (lv_at hl 2 rfl) ?_
      refine lv_iload_n hx hb dX4_readValue_85 rfl (lv_at hl 0 rfl) ?_
      refine gt_callI (wr := [(tp, .inr (8, [.ref bp, .int n, .int y_16, .int y_17, .int y_18])), (bp, .inl (G.2.2 0, 400, .inl bf))]) (va_runV (As := [.int r_2]) (rest := []) ⟨hx, hb, hml, hown, ht⟩ (d_step l G Γ H.size wt hT t r_2 k_t (by omega) (by omega)) (cwV 1 ht (ts_gV wd_736 wd_738 wd_9 wd_128 wd_739) rfl rfl rfl (by decide +kernel) ⟨Nat.le_of_ble_eq_true rfl, Nat.le_of_ble_eq_true rfl⟩) (gt_preW (ci := 4) hK hT (tw_right hP) (tw_rightD hD) k_t (by decide) rfl) rfl rfl hl.1 rfl (lv_room (Nat.le_of_ble_eq_true rfl)) dX4_readValue_86 ⟨Nat.le_of_ble_eq_true rfl, Nat.le_of_ble_eq_true rfl⟩) hP hD hS hA (fun r_23 wt H locs hw hP hD hS => ?_)
      obtain ⟨hT, hkp, lo_r_23, hi_r_23⟩ := hw
      have hW := hW.call (show ∀ x ∈ [406], x ∈ [406, 407, 408] by decide) hkp
      have hf_14 := hkp _ _ _ _ (by decide) (by decide) hf_14
      have hP : va_P (gg_D G) classes ([(tp, .inr (8, [.ref bp, .int n, .int y_16, .int y_17, .int y_18])), (bp, .inl (G.2.2 0, 400, .inl bf))] ++ wt) H := hP
      have hD : va_D A ([(tp, .inr (8, [.ref bp, .int n, .int y_16, .int y_17, .int y_18])), (bp, .inl (G.2.2 0, 400, .inl bf))] ++ wt) := hD
      refine lv_if_eq (tgt := 96) hx hb dX4_readValue_89 (by decide) (fun c_24 => ?_) (fun c_24 => ?_)
      · rw [← Int32.toInt_inj] at c_24
        refine lv_iconst (v := 0) hx hb dX4_readValue_96 (by decide +kernel) ?_
        have hP9 : va_P (gg_D G) classes ([(tp, .inr (8, [.ref bp, .int n, .int y_16, .int y_17, .int y_18])), (bp, .inl (G.2.2 0, 400, .inl bf))] ++ wt) _ := hP
        have hD9 : va_D A ([(tp, .inr (8, [.ref bp, .int n, .int y_16, .int y_17, .int y_18])), (bp, .inl (G.2.2 0, 400, .inl bf))] ++ wt) := hD
        exact W.zret (v := 0) hx hb hr (by decide +kernel) (gq_endI (y_16, y_17, y_18, wt) ⟨hT, hW, (by omega), (by omega), (by omega), (by omega), (by omega)⟩ hP9 hD9 hS) hS.2.2 dX4_readValue_97
      · rw [← Int32.toInt_inj] at c_24
        refine lv_iconst (v := 1) hx hb dX4_readValue_92 (by decide +kernel) ?_
        refine lv_goto (tgt := 97) hx hb dX4_readValue_93 (by decide) ?_
        have hP9 : va_P (gg_D G) classes ([(tp, .inr (8, [.ref bp, .int n, .int y_16, .int y_17, .int y_18])), (bp, .inl (G.2.2 0, 400, .inl bf))] ++ wt) _ := hP
        have hD9 : va_D A ([(tp, .inr (8, [.ref bp, .int n, .int y_16, .int y_17, .int y_18])), (bp, .inl (G.2.2 0, 400, .inl bf))] ++ wt) := hD
        exact W.zret (v := 1) hx hb hr (by decide +kernel) (gq_endI (y_16, y_17, y_18, wt) ⟨hT, hW, (by omega), (by omega), (by omega), (by omega), (by omega)⟩ hP9 hD9 hS) hS.2.2 dX4_readValue_97
  · rw [← Int32.toInt_inj] at c_3
    refine lv_aload_n hx hb dX4_readValue_17 rfl (lv_at hl 3 rfl) ?_
    refine lv_iconst (v := 0) hx hb dX4_readValue_18 (by decide +kernel) ?_
    refine lv_ldc hx hb hown (ht _ wd_730) dX4_readValue_19 ?_
    have hP : va_P (gg_D G) classes ([] ++ ([(tp, .inr (8, [.ref bp, .int n, .int at_, .int w_, .int fl])), (bp, .inl (G.2.2 0, 400, .inl bf))] ++ wt)) H := hP
    have hD : va_D A ([] ++ ([(tp, .inr (8, [.ref bp, .int n, .int at_, .int w_, .int fl])), (bp, .inl (G.2.2 0, 400, .inl bf))] ++ wt)) := hD
    refine gt_callI (wr := []) (va_runV (As := [.int 0, .int 99999]) (rest := []) ⟨hx, hb, hml, hown, ht⟩ (d_number l G Γ H.size wt hT 0 99999 tp bp n at_ w_ fl bf (by first | assumption | omega) (by first | assumption | omega) (by first | assumption | omega) (by first | assumption | omega) (by first | assumption | omega)) (cwV 2 ht (ts_gV wd_731 wd_656 wd_657 wd_123 wd_658) rfl rfl rfl (by decide +kernel) ⟨Nat.le_of_ble_eq_true rfl, Nat.le_of_ble_eq_true rfl⟩) (gc_preV (ci := 8) (q0 := 0) hK (tw_right hP) (tw_rightD hD) rfl rfl) rfl rfl hl.1 rfl (lv_room (Nat.le_of_ble_eq_true rfl)) dX4_readValue_21 ⟨Nat.le_of_ble_eq_true rfl, Nat.le_of_ble_eq_true rfl⟩) hP hD hS hA (fun r_25 u H locs hw hP hD hS => ?_)
    obtain ⟨y_26, y_27, y_28, wt⟩ := u
    obtain ⟨hT, hkp, w_29, w_30, w_31, rp_r_25⟩ := hw
    have hW := hW.call (show ∀ x ∈ [], x ∈ [406, 407, 408] by decide) hkp
    have hP : va_P (gg_D G) classes ([(tp, .inr (8, [.ref bp, .int n, .int y_26, .int y_27, .int y_28])), (bp, .inl (G.2.2 0, 400, .inl bf))] ++ wt) H := hP
    have hD : va_D A ([(tp, .inr (8, [.ref bp, .int n, .int y_26, .int y_27, .int y_28])), (bp, .inl (G.2.2 0, 400, .inl bf))] ++ wt) := hD
    refine lv_istore (lv' := [(4, .int r_25), (3, .int r_2), (2, .int r_1), (0, .ref t), (1, .ref tp)]) hx hb dX4_readValue_24 hl (by decide) rfl (fun ls hl => ?_)
    refine lv_iload hx hb dX4_readValue_26 (lv_at hl 0 rfl) ?_
    refine lv_iconst (v := (-1)) hx hb dX4_readValue_28 (by decide +kernel) ?_
    refine lv_icmp_eq (tgt := 57) hx hb dX4_readValue_29 (by decide) (fun c_32 => ?_) (fun c_32 => ?_)
    · rw [← Int32.toInt_inj] at c_32
      refine lv_iconst (v := 0) hx hb dX4_readValue_57 (by decide +kernel) ?_
      have hP9 : va_P (gg_D G) classes ([(tp, .inr (8, [.ref bp, .int n, .int y_26, .int y_27, .int y_28])), (bp, .inl (G.2.2 0, 400, .inl bf))] ++ wt) _ := hP
      have hD9 : va_D A ([(tp, .inr (8, [.ref bp, .int n, .int y_26, .int y_27, .int y_28])), (bp, .inl (G.2.2 0, 400, .inl bf))] ++ wt) := hD
      exact W.zret (v := 0) hx hb hr (by decide +kernel) (gq_endI (y_26, y_27, y_28, wt) ⟨hT, hW, (by omega), (by omega), (by omega), (by omega), (by omega)⟩ hP9 hD9 hS) hS.2.2 dX4_readValue_58
    · rw [← Int32.toInt_inj] at c_32
      refine lv_aload_n hx hb dX4_readValue_32 rfl (lv_at hl 3 rfl) ?_
      refine lv_aload_n hx hb dX4_readValue_33 rfl (lv_at hl 4 rfl) ?_
      refine lv_iload_n hx hb dX4_readValue_34 rfl (lv_at hl 2 rfl) ?_
      have hP : va_P (gg_D G) classes ([] ++ ([(tp, .inr (8, [.ref bp, .int n, .int y_26, .int y_27, .int y_28])), (bp, .inl (G.2.2 0, 400, .inl bf))] ++ wt)) H := hP
      have hD : va_D A ([] ++ ([(tp, .inr (8, [.ref bp, .int n, .int y_26, .int y_27, .int y_28])), (bp, .inl (G.2.2 0, 400, .inl bf))] ++ wt)) := hD
      refine gt_callI (wr := []) (va_runV (As := [.ref tp, .int r_1]) (rest := []) ⟨hx, hb, hml, hown, ht⟩ (d_isRoom l G Γ H.size wt hT t r_1 tp bp n y_26 y_27 y_28 bf k_t (by first | assumption | omega) (by first | assumption | omega) (by first | assumption | omega) (by first | assumption | omega) (by first | assumption | omega)) (cwV 2 ht (ts_gV wd_732 wd_734 wd_8 wd_128 wd_735) rfl rfl rfl (by decide +kernel) ⟨Nat.le_of_ble_eq_true rfl, Nat.le_of_ble_eq_true rfl⟩) (gt_preV (ci := 4) hK hT (tw_right hP) (tw_rightD hD) k_t (by decide) rfl) rfl rfl hl.1 rfl (lv_room (Nat.le_of_ble_eq_true rfl)) dX4_readValue_35 ⟨Nat.le_of_ble_eq_true rfl, Nat.le_of_ble_eq_true rfl⟩) hP hD hS hA (fun r_33 u H locs hw hP hD hS => ?_)
      obtain ⟨y_34, y_35, y_36, wt⟩ := u
      obtain ⟨hT, hkp, w_37, w_38, w_39, lo_r_33, hi_r_33⟩ := hw
      have hW := hW.call (show ∀ x ∈ [407], x ∈ [406, 407, 408] by decide) hkp
      have hP : va_P (gg_D G) classes ([(tp, .inr (8, [.ref bp, .int n, .int y_34, .int y_35, .int y_36])), (bp, .inl (G.2.2 0, 400, .inl bf))] ++ wt) H := hP
      have hD : va_D A ([(tp, .inr (8, [.ref bp, .int n, .int y_34, .int y_35, .int y_36])), (bp, .inl (G.2.2 0, 400, .inl bf))] ++ wt) := hD
      refine lv_if_eq (tgt := 57) hx hb dX4_readValue_38 (by decide) (fun c_40 => ?_) (fun c_40 => ?_)
      · rw [← Int32.toInt_inj] at c_40
        refine lv_iconst (v := 0) hx hb dX4_readValue_57 (by decide +kernel) ?_
        have hP9 : va_P (gg_D G) classes ([(tp, .inr (8, [.ref bp, .int n, .int y_34, .int y_35, .int y_36])), (bp, .inl (G.2.2 0, 400, .inl bf))] ++ wt) _ := hP
        have hD9 : va_D A ([(tp, .inr (8, [.ref bp, .int n, .int y_34, .int y_35, .int y_36])), (bp, .inl (G.2.2 0, 400, .inl bf))] ++ wt) := hD
        exact W.zret (v := 0) hx hb hr (by decide +kernel) (gq_endI (y_34, y_35, y_36, wt) ⟨hT, hW, (by omega), (by omega), (by omega), (by omega), (by omega)⟩ hP9 hD9 hS) hS.2.2 dX4_readValue_58
      · rw [← Int32.toInt_inj] at c_40
        refine lv_aload_n hx hb dX4_readValue_41 rfl (lv_at hl 3 rfl) ?_
        refine lv_bipush (v := 100) hx hb dX4_readValue_42 (by decide +kernel) ?_
        refine lv_iload hx hb dX4_readValue_44 (lv_at hl 0 rfl) ?_
        obtain ⟨t_41, et_41⟩ : ∃ zz_ : Int32, 100 + r_25 = zz_ := ⟨_, rfl⟩
        refine gq_iadd hx hb t_41 et_41 dX4_readValue_46 ?_
        have ft_41 := ia_add et_41 (by omega) (by omega)
        refine gt_callI (wr := [(tp, .inr (8, [.ref bp, .int n, .int y_34, .int y_35, .int y_36])), (bp, .inl (G.2.2 0, 400, .inl bf))]) (va_runV (As := [.int t_41]) (rest := []) ⟨hx, hb, hml, hown, ht⟩ (d_step l G Γ H.size wt hT t t_41 k_t (by omega) (by omega)) (cwV 1 ht (ts_gV wd_736 wd_738 wd_9 wd_128 wd_739) rfl rfl rfl (by decide +kernel) ⟨Nat.le_of_ble_eq_true rfl, Nat.le_of_ble_eq_true rfl⟩) (gt_preW (ci := 4) hK hT (tw_right hP) (tw_rightD hD) k_t (by decide) rfl) rfl rfl hl.1 rfl (lv_room (Nat.le_of_ble_eq_true rfl)) dX4_readValue_47 ⟨Nat.le_of_ble_eq_true rfl, Nat.le_of_ble_eq_true rfl⟩) hP hD hS hA (fun r_42 wt H locs hw hP hD hS => ?_)
        obtain ⟨hT, hkp, lo_r_42, hi_r_42⟩ := hw
        have hW := hW.call (show ∀ x ∈ [406], x ∈ [406, 407, 408] by decide) hkp
        have hP : va_P (gg_D G) classes ([(tp, .inr (8, [.ref bp, .int n, .int y_34, .int y_35, .int y_36])), (bp, .inl (G.2.2 0, 400, .inl bf))] ++ wt) H := hP
        have hD : va_D A ([(tp, .inr (8, [.ref bp, .int n, .int y_34, .int y_35, .int y_36])), (bp, .inl (G.2.2 0, 400, .inl bf))] ++ wt) := hD
        refine lv_if_eq (tgt := 57) hx hb dX4_readValue_50 (by decide) (fun c_43 => ?_) (fun c_43 => ?_)
        · rw [← Int32.toInt_inj] at c_43
          refine lv_iconst (v := 0) hx hb dX4_readValue_57 (by decide +kernel) ?_
          have hP9 : va_P (gg_D G) classes ([(tp, .inr (8, [.ref bp, .int n, .int y_34, .int y_35, .int y_36])), (bp, .inl (G.2.2 0, 400, .inl bf))] ++ wt) _ := hP
          have hD9 : va_D A ([(tp, .inr (8, [.ref bp, .int n, .int y_34, .int y_35, .int y_36])), (bp, .inl (G.2.2 0, 400, .inl bf))] ++ wt) := hD
          exact W.zret (v := 0) hx hb hr (by decide +kernel) (gq_endI (y_34, y_35, y_36, wt) ⟨hT, hW, (by omega), (by omega), (by omega), (by omega), (by omega)⟩ hP9 hD9 hS) hS.2.2 dX4_readValue_58
        · rw [← Int32.toInt_inj] at c_43
          refine lv_iconst (v := 1) hx hb dX4_readValue_53 (by decide +kernel) ?_
          refine lv_goto (tgt := 58) hx hb dX4_readValue_54 (by decide) ?_
          have hP9 : va_P (gg_D G) classes ([(tp, .inr (8, [.ref bp, .int n, .int y_34, .int y_35, .int y_36])), (bp, .inl (G.2.2 0, 400, .inl bf))] ++ wt) _ := hP
          have hD9 : va_D A ([(tp, .inr (8, [.ref bp, .int n, .int y_34, .int y_35, .int y_36])), (bp, .inl (G.2.2 0, 400, .inl bf))] ++ wt) := hD
          exact W.zret (v := 1) hx hb hr (by decide +kernel) (gq_endI (y_34, y_35, y_36, wt) ⟨hT, hW, (by omega), (by omega), (by omega), (by omega), (by omega)⟩ hP9 hD9 hS) hS.2.2 dX4_readValue_58
set_option maxHeartbeats 4000000 in
set_option maxRecDepth 100000 in
theorem d_readSum (l : Launch) (G : gg_T) (Γ : Nat → Nat) (sz : Nat) (wt : va_W) (hT : tk_ty G Γ wt) (K : Nat → Nat) (V : Nat → Nat) (t : Nat) (tp : Nat) (bp : Nat) (n : Int32) (at_ : Int32) (w_ : Int32) (fl : Int32) (bf : Nat → Int32) (k_t : Γ t = 5) (xp1 : 0 ≤ n.toInt) (xp2 : n.toInt ≤ 400) (xp3 : 0 ≤ at_.toInt) (xp4 : 0 ≤ w_.toInt) (xp5 : at_.toInt + w_.toInt ≤ 400) : Met l yX4_readSum (ts_L yX4_readSum cX4_readSum 6 (some .boolean)) ({ frames := 6, cells := 0, slots := 0, locals := 134 }) (gx_P G K V ([(tp, .inr (8, [.ref bp, .int n, .int at_, .int w_, .int fl])), (bp, .inl (G.2.2 0, 400, .inl bf))] ++ wt) sz [.ref t, .ref tp]) (gc_I G (va_A ([(tp, .inr (8, [.ref bp, .int n, .int at_, .int w_, .int fl])), (bp, .inl (G.2.2 0, 400, .inl bf))] ++ wt) sz) (fun r (u : (Int32) × (Int32) × (Int32) × va_W) => match u with | (a1, w1, f1, wt1) => tk_ty G Γ wt1 ∧ tk_kp [406, 407, 408] wt wt1 ∧ 0 ≤ a1.toInt ∧ 0 ≤ w1.toInt ∧ a1.toInt + w1.toInt ≤ 400 ∧ 0 ≤ r.toInt ∧ r.toInt ≤ 1) (fun (u : (Int32) × (Int32) × (Int32) × va_W) => match u with | (a1, w1, f1, wt1) => [(tp, .inr (8, [.ref bp, .int n, .int a1, .int w1, .int f1])), (bp, .inl (G.2.2 0, 400, .inl bf))] ++ wt1)) 0 0 (va_A ([(tp, .inr (8, [.ref bp, .int n, .int at_, .int w_, .int fl])), (bp, .inl (G.2.2 0, 400, .inl bf))] ++ wt) sz) := by
  refine Met.ofW (cc := cX4_readSum) (maxL := 6) (ret := (some .boolean)) (by decide) rfl ?_
  intro p e s m args below meth c s₁ B hml hv
  obtain ⟨rfl, hsz, hP, hK, hD0, hX⟩ := hv
  have hx := B.exec
  have hb := B.bytes
  have hr := B.returns
  have ht := ts_ht (atoms_spec (ws := ts_L yX4_readSum cX4_readSum 6 (some .boolean)) B.pre)
  have hown : s.vm.findClass RX4 = some m.cls := findClass_of_methodNamed B.named
  have hlocks := B.notSynchronized
  subst hsz
  have hD := hD0.self (sz := s.heap.size)
  generalize hAe : va_A ([(tp, .inr (8, [.ref bp, .int n, .int at_, .int w_, .int fl])), (bp, .inl (G.2.2 0, 400, .inl bf))] ++ wt) s.heap.size = A at hD hX ⊢
  have hA : ∀ q : Nat, s.heap.size ≤ q → A q := fun q h => by rw [← hAe]; exact Or.inr h
  clear hAe hD0
  have hS : va_S A s.heap s.heap [] := va_S.rf
  obtain ⟨w0, hw0⟩ : ∃ z, z = wt := ⟨_, rfl⟩
  have hW : tk_kp [406, 407, 408] w0 wt := by rw [hw0]; exact tk_kp.rf
  rw [← hw0]
  clear hw0
  have hP : va_P (gg_D G) classes ([(tp, .inr (8, [.ref bp, .int n, .int at_, .int w_, .int fl])), (bp, .inl (G.2.2 0, 400, .inl bf))] ++ wt) s.heap := hP
  have hD : va_D A ([(tp, .inr (8, [.ref bp, .int n, .int at_, .int w_, .int fl])), (bp, .inl (G.2.2 0, 400, .inl bf))] ++ wt) := hD
  have hl := lv_entry ([.ref t, .ref tp]) (n := 6) (Nat.le_of_ble_eq_true rfl)
  rw [lg_entry_eq]
  generalize (lg_sl ([.ref t, .ref tp]) ++ List.replicate (6 - (lg_sl ([.ref t, .ref tp])).length) Slot.unset).toArray = ls at hl ⊢
  have hl : lv_has ls 6 [(0, .ref t), (1, .ref tp)] := hl
  have l0 : (0 : Int32).toInt = 0 := by decide +kernel
  have l1 : (1 : Int32).toInt = 1 := by decide +kernel
  have l10 : (10 : Int32).toInt = 10 := by decide +kernel
  have l11 : (11 : Int32).toInt = 11 := by decide +kernel
  have l12 : (12 : Int32).toInt = 12 := by decide +kernel
  have l13 : (13 : Int32).toInt = 13 := by decide +kernel
  have l14 : (14 : Int32).toInt = 14 := by decide +kernel
  have l37 : (37 : Int32).toInt = 37 := by decide +kernel
  have l42 : (42 : Int32).toInt = 42 := by decide +kernel
  have l43 : (43 : Int32).toInt = 43 := by decide +kernel
  have l45 : (45 : Int32).toInt = 45 := by decide +kernel
  have l47 : (47 : Int32).toInt = 47 := by decide +kernel
  have l60 : (60 : Int32).toInt = 60 := by decide +kernel
  refine lv_iconst (v := 0) hx hb dX4_readSum_0 (by decide +kernel) ?_
  refine lv_istore_n (lv' := [(2, .int 0), (0, .ref t), (1, .ref tp)]) hx hb dX4_readSum_1 rfl hl (by decide) rfl (fun ls hl => ?_)
  refine lv_iconst (v := 0) hx hb dX4_readSum_2 (by decide +kernel) ?_
  refine lv_istore_n (lv' := [(3, .int 0), (2, .int 0), (0, .ref t), (1, .ref tp)]) hx hb dX4_readSum_3 rfl hl (by decide) rfl (fun ls hl => ?_)
  refine lv_iconst (v := 0) hx hb dX4_readSum_4 (by decide +kernel) ?_
  refine lv_istore (lv' := [(4, .int 0), (3, .int 0), (2, .int 0), (0, .ref t), (1, .ref tp)]) hx hb dX4_readSum_5 hl (by decide) rfl (fun ls hl => ?_)
  refine tl_loopE (Γ := Γ) (nL := 6) (fun (zz_ : Int32 × Int32 × Int32 × Int32 × Int32 × Int32) => match zz_ with | (x7_0, x7_1, x7_2, x7_3, x7_4, x7_5) => 0 ≤ x7_0.toInt ∧ x7_0.toInt ≤ 61 ∧ 0 ≤ x7_1.toInt ∧ x7_1.toInt ≤ 14 ∧ 0 ≤ x7_2.toInt ∧ x7_2.toInt ≤ 14 ∧ 0 ≤ x7_3.toInt ∧ x7_3.toInt ≤ 400 ∧ 0 ≤ x7_4.toInt ∧ x7_4.toInt ≤ 400 ∧ x7_3.toInt + x7_4.toInt ≤ 400) (fun (zz_ : Int32 × Int32 × Int32 × Int32 × Int32 × Int32) => match zz_ with | (x7_0, x7_1, x7_2, x7_3, x7_4, x7_5) => (61 - x7_0.toInt).toNat) (fun (zz_ : Int32 × Int32 × Int32 × Int32 × Int32 × Int32) => match zz_ with | (x7_0, x7_1, x7_2, x7_3, x7_4, x7_5) => [(4, .int x7_0), (3, .int x7_2), (2, .int x7_1), (0, .ref t), (1, .ref tp)]) (fun (zz_ : Int32 × Int32 × Int32 × Int32 × Int32 × Int32) => match zz_ with | (x7_0, x7_1, x7_2, x7_3, x7_4, x7_5) => [(tp, .inr (8, [.ref bp, .int n, .int x7_3, .int x7_4, .int x7_5])), (bp, .inl (G.2.2 0, 400, .inl bf))]) (fun (zz_ : Int32 × Int32 × Int32 × Int32 × Int32 × Int32) (w : va_W) => match zz_ with | (x7_0, x7_1, x7_2, x7_3, x7_4, x7_5) => tk_kp [406, 407, 408] w0 w) (fun zz_ hI H locs wt ls hT hW hP hD hS hl ih7 => ?_) (0, 0, 0, at_, w_, fl) (show 0 ≤ (0 : Int32).toInt ∧ (0 : Int32).toInt ≤ 61 ∧ 0 ≤ (0 : Int32).toInt ∧ (0 : Int32).toInt ≤ 14 ∧ 0 ≤ (0 : Int32).toInt ∧ (0 : Int32).toInt ≤ 14 ∧ 0 ≤ at_.toInt ∧ at_.toInt ≤ 400 ∧ 0 ≤ w_.toInt ∧ w_.toInt ≤ 400 ∧ at_.toInt + w_.toInt ≤ 400 from ⟨by omega, by omega, by omega, by omega, by omega, by omega, by omega, by omega, by omega, by omega, by omega⟩) _ _ wt ls hT hW hP hD hS hl
  obtain ⟨x7_0, x7_1, x7_2, x7_3, x7_4, x7_5⟩ := zz_
  have hW : tk_kp [406, 407, 408] w0 wt := hW
  have hI : 0 ≤ x7_0.toInt ∧ x7_0.toInt ≤ 61 ∧ 0 ≤ x7_1.toInt ∧ x7_1.toInt ≤ 14 ∧ 0 ≤ x7_2.toInt ∧ x7_2.toInt ≤ 14 ∧ 0 ≤ x7_3.toInt ∧ x7_3.toInt ≤ 400 ∧ 0 ≤ x7_4.toInt ∧ x7_4.toInt ≤ 400 ∧ x7_3.toInt + x7_4.toInt ≤ 400 := hI
  obtain ⟨j7_0, j7_1, j7_2, j7_3, j7_4, j7_5, j7_6, j7_7, j7_8, j7_9, j7_10⟩ := hI
  have hl : lv_has ls 6 [(4, .int x7_0), (3, .int x7_2), (2, .int x7_1), (0, .ref t), (1, .ref tp)] := hl
  have hP : va_P (gg_D G) classes ([(tp, .inr (8, [.ref bp, .int n, .int x7_3, .int x7_4, .int x7_5])), (bp, .inl (G.2.2 0, 400, .inl bf))] ++ wt) H := hP
  have hD : va_D A ([(tp, .inr (8, [.ref bp, .int n, .int x7_3, .int x7_4, .int x7_5])), (bp, .inl (G.2.2 0, 400, .inl bf))] ++ wt) := hD
  refine lv_iload hx hb dX4_readSum_7 (lv_at hl 0 rfl) ?_
  refine lv_bipush (v := 60) hx hb dX4_readSum_9 (by decide +kernel) ?_
  refine lv_icmp_gt (tgt := 135) hx hb dX4_readSum_11 (by decide) (fun c_1 => ?_) (fun c_1 => ?_)
  · rw [Int32.lt_iff_toInt_lt] at c_1
    refine lv_iconst (v := 0) hx hb dX4_readSum_135 (by decide +kernel) ?_
    have hP9 : va_P (gg_D G) classes ([(tp, .inr (8, [.ref bp, .int n, .int x7_3, .int x7_4, .int x7_5])), (bp, .inl (G.2.2 0, 400, .inl bf))] ++ wt) _ := hP
    have hD9 : va_D A ([(tp, .inr (8, [.ref bp, .int n, .int x7_3, .int x7_4, .int x7_5])), (bp, .inl (G.2.2 0, 400, .inl bf))] ++ wt) := hD
    exact W.zret (v := 0) hx hb hr (by decide +kernel) (gq_endI (x7_3, x7_4, x7_5, wt) ⟨hT, hW, (by omega), (by omega), (by omega), (by omega), (by omega)⟩ hP9 hD9 hS) hS.2.2 dX4_readSum_136
  · rw [Int32.lt_iff_toInt_lt] at c_1
    refine lv_aload_n hx hb dX4_readSum_14 rfl (lv_at hl 3 rfl) ?_
    refine lv_aload_n hx hb dX4_readSum_15 rfl (lv_at hl 4 rfl) ?_
    have hP : va_P (gg_D G) classes ([] ++ ([(tp, .inr (8, [.ref bp, .int n, .int x7_3, .int x7_4, .int x7_5])), (bp, .inl (G.2.2 0, 400, .inl bf))] ++ wt)) H := hP
    have hD : va_D A ([] ++ ([(tp, .inr (8, [.ref bp, .int n, .int x7_3, .int x7_4, .int x7_5])), (bp, .inl (G.2.2 0, 400, .inl bf))] ++ wt)) := hD
    refine gt_callI (wr := []) (va_runV (As := [.ref tp]) (rest := []) ⟨hx, hb, hml, hown, ht⟩ (d_readValue l G Γ H.size wt hT K V t tp bp n x7_3 x7_4 x7_5 bf k_t (by first | assumption | omega) (by first | assumption | omega) (by first | assumption | omega) (by first | assumption | omega) (by first | assumption | omega)) (cwV 1 ht (ts_gV wd_725 wd_727 wd_7 wd_128 wd_728) rfl rfl rfl (by decide +kernel) ⟨Nat.le_of_ble_eq_true rfl, Nat.le_of_ble_eq_true rfl⟩) (gx_preW (we := [(tp, .inr (8, [.ref bp, .int n, .int x7_3, .int x7_4, .int x7_5])), (bp, .inl (G.2.2 0, 400, .inl bf))]) (ci := 4) hK hT (tw_right hP) (tw_rightD hD) hX hS (tw_free hD hS hA) k_t (by decide) rfl) rfl rfl hl.1 rfl (lv_room (Nat.le_of_ble_eq_true rfl)) dX4_readSum_16 ⟨Nat.le_of_ble_eq_true rfl, Nat.le_of_ble_eq_true rfl⟩) hP hD hS hA (fun r_2 u H locs hw hP hD hS => ?_)
    obtain ⟨y_3, y_4, y_5, wt⟩ := u
    obtain ⟨hT, hkp, w_6, w_7, w_8, lo_r_2, hi_r_2⟩ := hw
    have hW := hW.call (show ∀ x ∈ [406, 407, 408], x ∈ [406, 407, 408] by decide) hkp
    have hP : va_P (gg_D G) classes ([(tp, .inr (8, [.ref bp, .int n, .int y_3, .int y_4, .int y_5])), (bp, .inl (G.2.2 0, 400, .inl bf))] ++ wt) H := hP
    have hD : va_D A ([(tp, .inr (8, [.ref bp, .int n, .int y_3, .int y_4, .int y_5])), (bp, .inl (G.2.2 0, 400, .inl bf))] ++ wt) := hD
    refine lv_if_ne (tgt := 24) hx hb dX4_readSum_19 (by decide) (fun c_9 => ?_) (fun c_9 => ?_)
    · rw [← Int32.toInt_inj] at c_9
      refine lv_iload_n hx hb dX4_readSum_24 rfl (lv_at hl 1 rfl) ?_
      refine lv_if_eq (tgt := 34) hx hb dX4_readSum_25 (by decide) (fun c_10 => ?_) (fun c_10 => ?_)
      · rw [← Int32.toInt_inj] at c_10
        refine lv_aload_n hx hb dX4_readSum_34 rfl (lv_at hl 4 rfl) ?_
        have hP : va_P (gg_D G) classes ([] ++ ([(tp, .inr (8, [.ref bp, .int n, .int y_3, .int y_4, .int y_5])), (bp, .inl (G.2.2 0, 400, .inl bf))] ++ wt)) H := hP
        have hD : va_D A ([] ++ ([(tp, .inr (8, [.ref bp, .int n, .int y_3, .int y_4, .int y_5])), (bp, .inl (G.2.2 0, 400, .inl bf))] ++ wt)) := hD
        refine gt_callI (wr := []) (va_runV (As := []) (rest := []) ⟨hx, hb, hml, hown, ht⟩ (d_sign l G Γ H.size wt hT tp bp n y_3 y_4 y_5 bf (by first | assumption | omega) (by first | assumption | omega) (by first | assumption | omega) (by first | assumption | omega) (by first | assumption | omega)) (cwV 0 ht (ts_gV wd_740 wd_681 wd_682 wd_123 wd_683) rfl rfl rfl (by decide +kernel) ⟨Nat.le_of_ble_eq_true rfl, Nat.le_of_ble_eq_true rfl⟩) (gc_preV (ci := 8) (q0 := 0) hK (tw_right hP) (tw_rightD hD) rfl rfl) rfl rfl hl.1 rfl (lv_room (Nat.le_of_ble_eq_true rfl)) dX4_readSum_35 ⟨Nat.le_of_ble_eq_true rfl, Nat.le_of_ble_eq_true rfl⟩) hP hD hS hA (fun r_11 wt H locs hw hP hD hS => ?_)
        obtain ⟨hT, hkp, rp_r_11⟩ := hw
        have hW := hW.call (show ∀ x ∈ [], x ∈ [406, 407, 408] by decide) hkp
        have hP : va_P (gg_D G) classes ([(tp, .inr (8, [.ref bp, .int n, .int y_3, .int y_4, .int y_5])), (bp, .inl (G.2.2 0, 400, .inl bf))] ++ wt) H := hP
        have hD : va_D A ([(tp, .inr (8, [.ref bp, .int n, .int y_3, .int y_4, .int y_5])), (bp, .inl (G.2.2 0, 400, .inl bf))] ++ wt) := hD
        refine lv_istore (lv' := [(5, .int r_11), (4, .int x7_0), (3, .int x7_2), (2, .int x7_1), (0, .ref t), (1, .ref tp)]) hx hb dX4_readSum_38 hl (by decide) rfl (fun ls hl => ?_)
        refine lv_iload hx hb dX4_readSum_40 (lv_at hl 0 rfl) ?_
        refine lv_bipush (v := 42) hx hb dX4_readSum_42 (by decide +kernel) ?_
        refine lv_icmp_ne (tgt := 52) hx hb dX4_readSum_44 (by decide) (fun c_12 => ?_) (fun c_12 => ?_)
        · rw [← Int32.toInt_inj] at c_12
          refine lv_iload hx hb dX4_readSum_52 (lv_at hl 0 rfl) ?_
          refine lv_bipush (v := 47) hx hb dX4_readSum_54 (by decide +kernel) ?_
          refine lv_icmp_ne (tgt := 64) hx hb dX4_readSum_56 (by decide) (fun c_13 => ?_) (fun c_13 => ?_)
          · rw [← Int32.toInt_inj] at c_13
            refine lv_iload hx hb dX4_readSum_64 (lv_at hl 0 rfl) ?_
            refine lv_bipush (v := 37) hx hb dX4_readSum_66 (by decide +kernel) ?_
            refine lv_icmp_ne (tgt := 76) hx hb dX4_readSum_68 (by decide) (fun c_14 => ?_) (fun c_14 => ?_)
            · rw [← Int32.toInt_inj] at c_14
              refine lv_iconst (v := 0) hx hb dX4_readSum_76 (by decide +kernel) ?_
              refine lv_istore_n (lv' := [(3, .int 0), (5, .int r_11), (4, .int x7_0), (2, .int x7_1), (0, .ref t), (1, .ref tp)]) hx hb dX4_readSum_77 rfl hl (by decide) rfl (fun ls hl => ?_)
              refine lv_iload_n hx hb dX4_readSum_78 rfl (lv_at hl 0 rfl) ?_
              refine lv_if_ne (tgt := 124) hx hb dX4_readSum_79 (by decide) (fun c0 => False.elim (by rw [← Int32.toInt_inj] at c0; omega)) (fun _ => ?_)
              refine lv_iload_n hx hb dX4_readSum_82 rfl (lv_at hl 3 rfl) ?_
              refine lv_if_eq (tgt := 92) hx hb dX4_readSum_83 (by decide) (fun c_15 => ?_) (fun c_15 => ?_)
              · rw [← Int32.toInt_inj] at c_15
                refine lv_iload hx hb dX4_readSum_92 (lv_at hl 1 rfl) ?_
                refine lv_bipush (v := 43) hx hb dX4_readSum_94 (by decide +kernel) ?_
                refine lv_icmp_ne (tgt := 104) hx hb dX4_readSum_96 (by decide) (fun c_16 => ?_) (fun c_16 => ?_)
                · rw [← Int32.toInt_inj] at c_16
                  refine lv_iload hx hb dX4_readSum_104 (lv_at hl 1 rfl) ?_
                  refine lv_bipush (v := 45) hx hb dX4_readSum_106 (by decide +kernel) ?_
                  refine lv_icmp_ne (tgt := 116) hx hb dX4_readSum_108 (by decide) (fun c_17 => ?_) (fun c_17 => ?_)
                  · rw [← Int32.toInt_inj] at c_17
                    refine lv_iconst (v := 0) hx hb dX4_readSum_116 (by decide +kernel) ?_
                    refine lv_istore_n (lv' := [(2, .int 0), (3, .int 0), (5, .int r_11), (4, .int x7_0), (0, .ref t), (1, .ref tp)]) hx hb dX4_readSum_117 rfl hl (by decide) rfl (fun ls hl => ?_)
                    refine lv_iload_n hx hb dX4_readSum_118 rfl (lv_at hl 0 rfl) ?_
                    refine lv_if_ne (tgt := 124) hx hb dX4_readSum_119 (by decide) (fun c0 => False.elim (by rw [← Int32.toInt_inj] at c0; omega)) (fun _ => ?_)
                    refine lv_iconst (v := 1) hx hb dX4_readSum_122 (by decide +kernel) ?_
                    have hP9 : va_P (gg_D G) classes ([(tp, .inr (8, [.ref bp, .int n, .int y_3, .int y_4, .int y_5])), (bp, .inl (G.2.2 0, 400, .inl bf))] ++ wt) _ := hP
                    have hD9 : va_D A ([(tp, .inr (8, [.ref bp, .int n, .int y_3, .int y_4, .int y_5])), (bp, .inl (G.2.2 0, 400, .inl bf))] ++ wt) := hD
                    exact W.zret (v := 1) hx hb hr (by decide +kernel) (gq_endI (y_3, y_4, y_5, wt) ⟨hT, hW, (by omega), (by omega), (by omega), (by omega), (by omega)⟩ hP9 hD9 hS) hS.2.2 dX4_readSum_123
                  · rw [← Int32.toInt_inj] at c_17
                    refine lv_bipush (v := 11) hx hb dX4_readSum_111 (by decide +kernel) ?_
                    refine lv_goto (tgt := 117) hx hb dX4_readSum_113 (by decide) ?_
                    refine lv_istore_n (lv' := [(2, .int 11), (3, .int 0), (5, .int r_11), (4, .int x7_0), (0, .ref t), (1, .ref tp)]) hx hb dX4_readSum_117 rfl hl (by decide) rfl (fun ls hl => ?_)
                    refine lv_iload_n hx hb dX4_readSum_118 rfl (lv_at hl 0 rfl) ?_
                    refine lv_if_ne (tgt := 124) hx hb dX4_readSum_119 (by decide) (fun _ => ?_) (fun c0 => False.elim (by rw [← Int32.toInt_inj] at c0; omega))
                    refine lv_aload_n hx hb dX4_readSum_124 rfl (lv_at hl 5 rfl) ?_
                    refine lv_iconst (v := 1) hx hb dX4_readSum_125 (by decide +kernel) ?_
                    have hP : va_P (gg_D G) classes ([] ++ ([(tp, .inr (8, [.ref bp, .int n, .int y_3, .int y_4, .int y_5])), (bp, .inl (G.2.2 0, 400, .inl bf))] ++ wt)) H := hP
                    have hD : va_D A ([] ++ ([(tp, .inr (8, [.ref bp, .int n, .int y_3, .int y_4, .int y_5])), (bp, .inl (G.2.2 0, 400, .inl bf))] ++ wt)) := hD
                    refine gt_callV (wr := []) (va_runV (As := [.int 1]) (rest := []) ⟨hx, hb, hml, hown, ht⟩ (d_skip l G Γ H.size wt hT 1 tp bp n y_3 y_4 y_5 bf (by omega) (by omega) (by first | assumption | omega) (by first | assumption | omega) (by first | assumption | omega) (by first | assumption | omega) (by first | assumption | omega)) (cwV 1 ht (ts_gV wd_741 wd_742 wd_743 wd_123 wd_744) rfl rfl rfl (by decide +kernel) ⟨Nat.le_of_ble_eq_true rfl, Nat.le_of_ble_eq_true rfl⟩) (gc_preV (ci := 8) (q0 := 0) hK (tw_right hP) (tw_rightD hD) rfl rfl) rfl rfl hl.1 rfl (lv_room (Nat.le_of_ble_eq_true rfl)) dX4_readSum_126 ⟨Nat.le_of_ble_eq_true rfl, Nat.le_of_ble_eq_true rfl⟩) hP hD hS hA (fun u H locs hw hP hD hS => ?_)
                    obtain ⟨y_18, y_19, y_20, wt⟩ := u
                    obtain ⟨hT, hkp, w_21, w_22, w_23⟩ := hw
                    have hW := hW.call (show ∀ x ∈ [], x ∈ [406, 407, 408] by decide) hkp
                    have hP : va_P (gg_D G) classes ([(tp, .inr (8, [.ref bp, .int n, .int y_18, .int y_19, .int y_20])), (bp, .inl (G.2.2 0, 400, .inl bf))] ++ wt) H := hP
                    have hD : va_D A ([(tp, .inr (8, [.ref bp, .int n, .int y_18, .int y_19, .int y_20])), (bp, .inl (G.2.2 0, 400, .inl bf))] ++ wt) := hD
                    obtain ⟨t_24, et_24⟩ : ∃ zz_ : Int32, x7_0 + Int32.ofInt (1) = zz_ := ⟨_, rfl⟩
                    have ft_24 : t_24.toInt = x7_0.toInt + (1 : Int32).toInt := ia_add (y := 1) et_24 (by omega) (by omega)
                    refine lv_iinc (v := t_24) (lv' := [(4, .int t_24), (2, .int 11), (3, .int 0), (5, .int r_11), (0, .ref t), (1, .ref tp)]) hx hb dX4_readSum_129 hl (k := 3) rfl et_24 (by decide) rfl (fun ls hl => ?_)
                    refine lv_goto (tgt := 7) hx hb dX4_readSum_132 (by decide) ?_
                    exact ih7 (t_24, 11, 0, y_18, y_19, y_20) (show 0 ≤ t_24.toInt ∧ t_24.toInt ≤ 61 ∧ 0 ≤ (11 : Int32).toInt ∧ (11 : Int32).toInt ≤ 14 ∧ 0 ≤ (0 : Int32).toInt ∧ (0 : Int32).toInt ≤ 14 ∧ 0 ≤ y_18.toInt ∧ y_18.toInt ≤ 400 ∧ 0 ≤ y_19.toInt ∧ y_19.toInt ≤ 400 ∧ y_18.toInt + y_19.toInt ≤ 400 from ⟨by omega, by omega, by omega, by omega, by omega, by omega, by omega, by omega, by omega, by omega, by omega⟩) (show (61 - t_24.toInt).toNat < (61 - x7_0.toInt).toNat by omega) H locs wt ls hT hW hP hD hS (lv_sub hl [0, 2, 1, 4, 5] rfl)
                · rw [← Int32.toInt_inj] at c_16
                  refine lv_bipush (v := 10) hx hb dX4_readSum_99 (by decide +kernel) ?_
                  refine lv_goto (tgt := 117) hx hb dX4_readSum_101 (by decide) ?_
                  refine lv_istore_n (lv' := [(2, .int 10), (3, .int 0), (5, .int r_11), (4, .int x7_0), (0, .ref t), (1, .ref tp)]) hx hb dX4_readSum_117 rfl hl (by decide) rfl (fun ls hl => ?_)
                  refine lv_iload_n hx hb dX4_readSum_118 rfl (lv_at hl 0 rfl) ?_
                  refine lv_if_ne (tgt := 124) hx hb dX4_readSum_119 (by decide) (fun _ => ?_) (fun c0 => False.elim (by rw [← Int32.toInt_inj] at c0; omega))
                  refine lv_aload_n hx hb dX4_readSum_124 rfl (lv_at hl 5 rfl) ?_
                  refine lv_iconst (v := 1) hx hb dX4_readSum_125 (by decide +kernel) ?_
                  have hP : va_P (gg_D G) classes ([] ++ ([(tp, .inr (8, [.ref bp, .int n, .int y_3, .int y_4, .int y_5])), (bp, .inl (G.2.2 0, 400, .inl bf))] ++ wt)) H := hP
                  have hD : va_D A ([] ++ ([(tp, .inr (8, [.ref bp, .int n, .int y_3, .int y_4, .int y_5])), (bp, .inl (G.2.2 0, 400, .inl bf))] ++ wt)) := hD
                  refine gt_callV (wr := []) (va_runV (As := [.int 1]) (rest := []) ⟨hx, hb, hml, hown, ht⟩ (d_skip l G Γ H.size wt hT 1 tp bp n y_3 y_4 y_5 bf (by omega) (by omega) (by first | assumption | omega) (by first | assumption | omega) (by first | assumption | omega) (by first | assumption | omega) (by first | assumption | omega)) (cwV 1 ht (ts_gV wd_741 wd_742 wd_743 wd_123 wd_744) rfl rfl rfl (by decide +kernel) ⟨Nat.le_of_ble_eq_true rfl, Nat.le_of_ble_eq_true rfl⟩) (gc_preV (ci := 8) (q0 := 0) hK (tw_right hP) (tw_rightD hD) rfl rfl) rfl rfl hl.1 rfl (lv_room (Nat.le_of_ble_eq_true rfl)) dX4_readSum_126 ⟨Nat.le_of_ble_eq_true rfl, Nat.le_of_ble_eq_true rfl⟩) hP hD hS hA (fun u H locs hw hP hD hS => ?_)
                  obtain ⟨y_25, y_26, y_27, wt⟩ := u
                  obtain ⟨hT, hkp, w_28, w_29, w_30⟩ := hw
                  have hW := hW.call (show ∀ x ∈ [], x ∈ [406, 407, 408] by decide) hkp
                  have hP : va_P (gg_D G) classes ([(tp, .inr (8, [.ref bp, .int n, .int y_25, .int y_26, .int y_27])), (bp, .inl (G.2.2 0, 400, .inl bf))] ++ wt) H := hP
                  have hD : va_D A ([(tp, .inr (8, [.ref bp, .int n, .int y_25, .int y_26, .int y_27])), (bp, .inl (G.2.2 0, 400, .inl bf))] ++ wt) := hD
                  obtain ⟨t_31, et_31⟩ : ∃ zz_ : Int32, x7_0 + Int32.ofInt (1) = zz_ := ⟨_, rfl⟩
                  have ft_31 : t_31.toInt = x7_0.toInt + (1 : Int32).toInt := ia_add (y := 1) et_31 (by omega) (by omega)
                  refine lv_iinc (v := t_31) (lv' := [(4, .int t_31), (2, .int 10), (3, .int 0), (5, .int r_11), (0, .ref t), (1, .ref tp)]) hx hb dX4_readSum_129 hl (k := 3) rfl et_31 (by decide) rfl (fun ls hl => ?_)
                  refine lv_goto (tgt := 7) hx hb dX4_readSum_132 (by decide) ?_
                  exact ih7 (t_31, 10, 0, y_25, y_26, y_27) (show 0 ≤ t_31.toInt ∧ t_31.toInt ≤ 61 ∧ 0 ≤ (10 : Int32).toInt ∧ (10 : Int32).toInt ≤ 14 ∧ 0 ≤ (0 : Int32).toInt ∧ (0 : Int32).toInt ≤ 14 ∧ 0 ≤ y_25.toInt ∧ y_25.toInt ≤ 400 ∧ 0 ≤ y_26.toInt ∧ y_26.toInt ≤ 400 ∧ y_25.toInt + y_26.toInt ≤ 400 from ⟨by omega, by omega, by omega, by omega, by omega, by omega, by omega, by omega, by omega, by omega, by omega⟩) (show (61 - t_31.toInt).toNat < (61 - x7_0.toInt).toNat by omega) H locs wt ls hT hW hP hD hS (lv_sub hl [0, 2, 1, 4, 5] rfl)
              · rw [← Int32.toInt_inj] at c_15
                refine lv_aload_n hx hb dX4_readSum_86 rfl (lv_at hl 4 rfl) ?_
                refine lv_iload_n hx hb dX4_readSum_87 rfl (lv_at hl 3 rfl) ?_
                refine gt_callI (wr := [(tp, .inr (8, [.ref bp, .int n, .int y_3, .int y_4, .int y_5])), (bp, .inl (G.2.2 0, 400, .inl bf))]) (va_runV (As := [.int x7_1]) (rest := []) ⟨hx, hb, hml, hown, ht⟩ (d_step l G Γ H.size wt hT t x7_1 k_t (by omega) (by omega)) (cwV 1 ht (ts_gV wd_736 wd_738 wd_9 wd_128 wd_739) rfl rfl rfl (by decide +kernel) ⟨Nat.le_of_ble_eq_true rfl, Nat.le_of_ble_eq_true rfl⟩) (gt_preW (ci := 4) hK hT (tw_right hP) (tw_rightD hD) k_t (by decide) rfl) rfl rfl hl.1 rfl (lv_room (Nat.le_of_ble_eq_true rfl)) dX4_readSum_88 ⟨Nat.le_of_ble_eq_true rfl, Nat.le_of_ble_eq_true rfl⟩) hP hD hS hA (fun r_32 wt H locs hw hP hD hS => ?_)
                obtain ⟨hT, hkp, lo_r_32, hi_r_32⟩ := hw
                have hW := hW.call (show ∀ x ∈ [406], x ∈ [406, 407, 408] by decide) hkp
                have hP : va_P (gg_D G) classes ([(tp, .inr (8, [.ref bp, .int n, .int y_3, .int y_4, .int y_5])), (bp, .inl (G.2.2 0, 400, .inl bf))] ++ wt) H := hP
                have hD : va_D A ([(tp, .inr (8, [.ref bp, .int n, .int y_3, .int y_4, .int y_5])), (bp, .inl (G.2.2 0, 400, .inl bf))] ++ wt) := hD
                refine lv_pop hx hb dX4_readSum_91 rfl ?_
                refine lv_iload hx hb dX4_readSum_92 (lv_at hl 1 rfl) ?_
                refine lv_bipush (v := 43) hx hb dX4_readSum_94 (by decide +kernel) ?_
                refine lv_icmp_ne (tgt := 104) hx hb dX4_readSum_96 (by decide) (fun c_33 => ?_) (fun c_33 => ?_)
                · rw [← Int32.toInt_inj] at c_33
                  refine lv_iload hx hb dX4_readSum_104 (lv_at hl 1 rfl) ?_
                  refine lv_bipush (v := 45) hx hb dX4_readSum_106 (by decide +kernel) ?_
                  refine lv_icmp_ne (tgt := 116) hx hb dX4_readSum_108 (by decide) (fun c_34 => ?_) (fun c_34 => ?_)
                  · rw [← Int32.toInt_inj] at c_34
                    refine lv_iconst (v := 0) hx hb dX4_readSum_116 (by decide +kernel) ?_
                    refine lv_istore_n (lv' := [(2, .int 0), (3, .int 0), (5, .int r_11), (4, .int x7_0), (0, .ref t), (1, .ref tp)]) hx hb dX4_readSum_117 rfl hl (by decide) rfl (fun ls hl => ?_)
                    refine lv_iload_n hx hb dX4_readSum_118 rfl (lv_at hl 0 rfl) ?_
                    refine lv_if_ne (tgt := 124) hx hb dX4_readSum_119 (by decide) (fun c0 => False.elim (by rw [← Int32.toInt_inj] at c0; omega)) (fun _ => ?_)
                    refine lv_iconst (v := 1) hx hb dX4_readSum_122 (by decide +kernel) ?_
                    have hP9 : va_P (gg_D G) classes ([(tp, .inr (8, [.ref bp, .int n, .int y_3, .int y_4, .int y_5])), (bp, .inl (G.2.2 0, 400, .inl bf))] ++ wt) _ := hP
                    have hD9 : va_D A ([(tp, .inr (8, [.ref bp, .int n, .int y_3, .int y_4, .int y_5])), (bp, .inl (G.2.2 0, 400, .inl bf))] ++ wt) := hD
                    exact W.zret (v := 1) hx hb hr (by decide +kernel) (gq_endI (y_3, y_4, y_5, wt) ⟨hT, hW, (by omega), (by omega), (by omega), (by omega), (by omega)⟩ hP9 hD9 hS) hS.2.2 dX4_readSum_123
                  · rw [← Int32.toInt_inj] at c_34
                    refine lv_bipush (v := 11) hx hb dX4_readSum_111 (by decide +kernel) ?_
                    refine lv_goto (tgt := 117) hx hb dX4_readSum_113 (by decide) ?_
                    refine lv_istore_n (lv' := [(2, .int 11), (3, .int 0), (5, .int r_11), (4, .int x7_0), (0, .ref t), (1, .ref tp)]) hx hb dX4_readSum_117 rfl hl (by decide) rfl (fun ls hl => ?_)
                    refine lv_iload_n hx hb dX4_readSum_118 rfl (lv_at hl 0 rfl) ?_
                    refine lv_if_ne (tgt := 124) hx hb dX4_readSum_119 (by decide) (fun _ => ?_) (fun c0 => False.elim (by rw [← Int32.toInt_inj] at c0; omega))
                    refine lv_aload_n hx hb dX4_readSum_124 rfl (lv_at hl 5 rfl) ?_
                    refine lv_iconst (v := 1) hx hb dX4_readSum_125 (by decide +kernel) ?_
                    have hP : va_P (gg_D G) classes ([] ++ ([(tp, .inr (8, [.ref bp, .int n, .int y_3, .int y_4, .int y_5])), (bp, .inl (G.2.2 0, 400, .inl bf))] ++ wt)) H := hP
                    have hD : va_D A ([] ++ ([(tp, .inr (8, [.ref bp, .int n, .int y_3, .int y_4, .int y_5])), (bp, .inl (G.2.2 0, 400, .inl bf))] ++ wt)) := hD
                    refine gt_callV (wr := []) (va_runV (As := [.int 1]) (rest := []) ⟨hx, hb, hml, hown, ht⟩ (d_skip l G Γ H.size wt hT 1 tp bp n y_3 y_4 y_5 bf (by omega) (by omega) (by first | assumption | omega) (by first | assumption | omega) (by first | assumption | omega) (by first | assumption | omega) (by first | assumption | omega)) (cwV 1 ht (ts_gV wd_741 wd_742 wd_743 wd_123 wd_744) rfl rfl rfl (by decide +kernel) ⟨Nat.le_of_ble_eq_true rfl, Nat.le_of_ble_eq_true rfl⟩) (gc_preV (ci := 8) (q0 := 0) hK (tw_right hP) (tw_rightD hD) rfl rfl) rfl rfl hl.1 rfl (lv_room (Nat.le_of_ble_eq_true rfl)) dX4_readSum_126 ⟨Nat.le_of_ble_eq_true rfl, Nat.le_of_ble_eq_true rfl⟩) hP hD hS hA (fun u H locs hw hP hD hS => ?_)
                    obtain ⟨y_35, y_36, y_37, wt⟩ := u
                    obtain ⟨hT, hkp, w_38, w_39, w_40⟩ := hw
                    have hW := hW.call (show ∀ x ∈ [], x ∈ [406, 407, 408] by decide) hkp
                    have hP : va_P (gg_D G) classes ([(tp, .inr (8, [.ref bp, .int n, .int y_35, .int y_36, .int y_37])), (bp, .inl (G.2.2 0, 400, .inl bf))] ++ wt) H := hP
                    have hD : va_D A ([(tp, .inr (8, [.ref bp, .int n, .int y_35, .int y_36, .int y_37])), (bp, .inl (G.2.2 0, 400, .inl bf))] ++ wt) := hD
                    obtain ⟨t_41, et_41⟩ : ∃ zz_ : Int32, x7_0 + Int32.ofInt (1) = zz_ := ⟨_, rfl⟩
                    have ft_41 : t_41.toInt = x7_0.toInt + (1 : Int32).toInt := ia_add (y := 1) et_41 (by omega) (by omega)
                    refine lv_iinc (v := t_41) (lv' := [(4, .int t_41), (2, .int 11), (3, .int 0), (5, .int r_11), (0, .ref t), (1, .ref tp)]) hx hb dX4_readSum_129 hl (k := 3) rfl et_41 (by decide) rfl (fun ls hl => ?_)
                    refine lv_goto (tgt := 7) hx hb dX4_readSum_132 (by decide) ?_
                    exact ih7 (t_41, 11, 0, y_35, y_36, y_37) (show 0 ≤ t_41.toInt ∧ t_41.toInt ≤ 61 ∧ 0 ≤ (11 : Int32).toInt ∧ (11 : Int32).toInt ≤ 14 ∧ 0 ≤ (0 : Int32).toInt ∧ (0 : Int32).toInt ≤ 14 ∧ 0 ≤ y_35.toInt ∧ y_35.toInt ≤ 400 ∧ 0 ≤ y_36.toInt ∧ y_36.toInt ≤ 400 ∧ y_35.toInt + y_36.toInt ≤ 400 from ⟨by omega, by omega, by omega, by omega, by omega, by omega, by omega, by omega, by omega, by omega, by omega⟩) (show (61 - t_41.toInt).toNat < (61 - x7_0.toInt).toNat by omega) H locs wt ls hT hW hP hD hS (lv_sub hl [0, 2, 1, 4, 5] rfl)
                · rw [← Int32.toInt_inj] at c_33
                  refine lv_bipush (v := 10) hx hb dX4_readSum_99 (by decide +kernel) ?_
                  refine lv_goto (tgt := 117) hx hb dX4_readSum_101 (by decide) ?_
                  refine lv_istore_n (lv' := [(2, .int 10), (3, .int 0), (5, .int r_11), (4, .int x7_0), (0, .ref t), (1, .ref tp)]) hx hb dX4_readSum_117 rfl hl (by decide) rfl (fun ls hl => ?_)
                  refine lv_iload_n hx hb dX4_readSum_118 rfl (lv_at hl 0 rfl) ?_
                  refine lv_if_ne (tgt := 124) hx hb dX4_readSum_119 (by decide) (fun _ => ?_) (fun c0 => False.elim (by rw [← Int32.toInt_inj] at c0; omega))
                  refine lv_aload_n hx hb dX4_readSum_124 rfl (lv_at hl 5 rfl) ?_
                  refine lv_iconst (v := 1) hx hb dX4_readSum_125 (by decide +kernel) ?_
                  have hP : va_P (gg_D G) classes ([] ++ ([(tp, .inr (8, [.ref bp, .int n, .int y_3, .int y_4, .int y_5])), (bp, .inl (G.2.2 0, 400, .inl bf))] ++ wt)) H := hP
                  have hD : va_D A ([] ++ ([(tp, .inr (8, [.ref bp, .int n, .int y_3, .int y_4, .int y_5])), (bp, .inl (G.2.2 0, 400, .inl bf))] ++ wt)) := hD
                  refine gt_callV (wr := []) (va_runV (As := [.int 1]) (rest := []) ⟨hx, hb, hml, hown, ht⟩ (d_skip l G Γ H.size wt hT 1 tp bp n y_3 y_4 y_5 bf (by omega) (by omega) (by first | assumption | omega) (by first | assumption | omega) (by first | assumption | omega) (by first | assumption | omega) (by first | assumption | omega)) (cwV 1 ht (ts_gV wd_741 wd_742 wd_743 wd_123 wd_744) rfl rfl rfl (by decide +kernel) ⟨Nat.le_of_ble_eq_true rfl, Nat.le_of_ble_eq_true rfl⟩) (gc_preV (ci := 8) (q0 := 0) hK (tw_right hP) (tw_rightD hD) rfl rfl) rfl rfl hl.1 rfl (lv_room (Nat.le_of_ble_eq_true rfl)) dX4_readSum_126 ⟨Nat.le_of_ble_eq_true rfl, Nat.le_of_ble_eq_true rfl⟩) hP hD hS hA (fun u H locs hw hP hD hS => ?_)
                  obtain ⟨y_42, y_43, y_44, wt⟩ := u
                  obtain ⟨hT, hkp, w_45, w_46, w_47⟩ := hw
                  have hW := hW.call (show ∀ x ∈ [], x ∈ [406, 407, 408] by decide) hkp
                  have hP : va_P (gg_D G) classes ([(tp, .inr (8, [.ref bp, .int n, .int y_42, .int y_43, .int y_44])), (bp, .inl (G.2.2 0, 400, .inl bf))] ++ wt) H := hP
                  have hD : va_D A ([(tp, .inr (8, [.ref bp, .int n, .int y_42, .int y_43, .int y_44])), (bp, .inl (G.2.2 0, 400, .inl bf))] ++ wt) := hD
                  obtain ⟨t_48, et_48⟩ : ∃ zz_ : Int32, x7_0 + Int32.ofInt (1) = zz_ := ⟨_, rfl⟩
                  have ft_48 : t_48.toInt = x7_0.toInt + (1 : Int32).toInt := ia_add (y := 1) et_48 (by omega) (by omega)
                  refine lv_iinc (v := t_48) (lv' := [(4, .int t_48), (2, .int 10), (3, .int 0), (5, .int r_11), (0, .ref t), (1, .ref tp)]) hx hb dX4_readSum_129 hl (k := 3) rfl et_48 (by decide) rfl (fun ls hl => ?_)
                  refine lv_goto (tgt := 7) hx hb dX4_readSum_132 (by decide) ?_
                  exact ih7 (t_48, 10, 0, y_42, y_43, y_44) (show 0 ≤ t_48.toInt ∧ t_48.toInt ≤ 61 ∧ 0 ≤ (10 : Int32).toInt ∧ (10 : Int32).toInt ≤ 14 ∧ 0 ≤ (0 : Int32).toInt ∧ (0 : Int32).toInt ≤ 14 ∧ 0 ≤ y_42.toInt ∧ y_42.toInt ≤ 400 ∧ 0 ≤ y_43.toInt ∧ y_43.toInt ≤ 400 ∧ y_42.toInt + y_43.toInt ≤ 400 from ⟨by omega, by omega, by omega, by omega, by omega, by omega, by omega, by omega, by omega, by omega, by omega⟩) (show (61 - t_48.toInt).toNat < (61 - x7_0.toInt).toNat by omega) H locs wt ls hT hW hP hD hS (lv_sub hl [0, 2, 1, 4, 5] rfl)
            · rw [← Int32.toInt_inj] at c_14
              refine lv_bipush (v := 14) hx hb dX4_readSum_71 (by decide +kernel) ?_
              refine lv_goto (tgt := 77) hx hb dX4_readSum_73 (by decide) ?_
              refine lv_istore_n (lv' := [(3, .int 14), (5, .int r_11), (4, .int x7_0), (2, .int x7_1), (0, .ref t), (1, .ref tp)]) hx hb dX4_readSum_77 rfl hl (by decide) rfl (fun ls hl => ?_)
              refine lv_iload_n hx hb dX4_readSum_78 rfl (lv_at hl 0 rfl) ?_
              refine lv_if_ne (tgt := 124) hx hb dX4_readSum_79 (by decide) (fun _ => ?_) (fun c0 => False.elim (by rw [← Int32.toInt_inj] at c0; omega))
              refine lv_aload_n hx hb dX4_readSum_124 rfl (lv_at hl 5 rfl) ?_
              refine lv_iconst (v := 1) hx hb dX4_readSum_125 (by decide +kernel) ?_
              have hP : va_P (gg_D G) classes ([] ++ ([(tp, .inr (8, [.ref bp, .int n, .int y_3, .int y_4, .int y_5])), (bp, .inl (G.2.2 0, 400, .inl bf))] ++ wt)) H := hP
              have hD : va_D A ([] ++ ([(tp, .inr (8, [.ref bp, .int n, .int y_3, .int y_4, .int y_5])), (bp, .inl (G.2.2 0, 400, .inl bf))] ++ wt)) := hD
              refine gt_callV (wr := []) (va_runV (As := [.int 1]) (rest := []) ⟨hx, hb, hml, hown, ht⟩ (d_skip l G Γ H.size wt hT 1 tp bp n y_3 y_4 y_5 bf (by omega) (by omega) (by first | assumption | omega) (by first | assumption | omega) (by first | assumption | omega) (by first | assumption | omega) (by first | assumption | omega)) (cwV 1 ht (ts_gV wd_741 wd_742 wd_743 wd_123 wd_744) rfl rfl rfl (by decide +kernel) ⟨Nat.le_of_ble_eq_true rfl, Nat.le_of_ble_eq_true rfl⟩) (gc_preV (ci := 8) (q0 := 0) hK (tw_right hP) (tw_rightD hD) rfl rfl) rfl rfl hl.1 rfl (lv_room (Nat.le_of_ble_eq_true rfl)) dX4_readSum_126 ⟨Nat.le_of_ble_eq_true rfl, Nat.le_of_ble_eq_true rfl⟩) hP hD hS hA (fun u H locs hw hP hD hS => ?_)
              obtain ⟨y_49, y_50, y_51, wt⟩ := u
              obtain ⟨hT, hkp, w_52, w_53, w_54⟩ := hw
              have hW := hW.call (show ∀ x ∈ [], x ∈ [406, 407, 408] by decide) hkp
              have hP : va_P (gg_D G) classes ([(tp, .inr (8, [.ref bp, .int n, .int y_49, .int y_50, .int y_51])), (bp, .inl (G.2.2 0, 400, .inl bf))] ++ wt) H := hP
              have hD : va_D A ([(tp, .inr (8, [.ref bp, .int n, .int y_49, .int y_50, .int y_51])), (bp, .inl (G.2.2 0, 400, .inl bf))] ++ wt) := hD
              obtain ⟨t_55, et_55⟩ : ∃ zz_ : Int32, x7_0 + Int32.ofInt (1) = zz_ := ⟨_, rfl⟩
              have ft_55 : t_55.toInt = x7_0.toInt + (1 : Int32).toInt := ia_add (y := 1) et_55 (by omega) (by omega)
              refine lv_iinc (v := t_55) (lv' := [(4, .int t_55), (3, .int 14), (5, .int r_11), (2, .int x7_1), (0, .ref t), (1, .ref tp)]) hx hb dX4_readSum_129 hl (k := 2) rfl et_55 (by decide) rfl (fun ls hl => ?_)
              refine lv_goto (tgt := 7) hx hb dX4_readSum_132 (by decide) ?_
              exact ih7 (t_55, x7_1, 14, y_49, y_50, y_51) (show 0 ≤ t_55.toInt ∧ t_55.toInt ≤ 61 ∧ 0 ≤ x7_1.toInt ∧ x7_1.toInt ≤ 14 ∧ 0 ≤ (14 : Int32).toInt ∧ (14 : Int32).toInt ≤ 14 ∧ 0 ≤ y_49.toInt ∧ y_49.toInt ≤ 400 ∧ 0 ≤ y_50.toInt ∧ y_50.toInt ≤ 400 ∧ y_49.toInt + y_50.toInt ≤ 400 from ⟨by omega, by omega, by omega, by omega, by omega, by omega, by omega, by omega, by omega, by omega, by omega⟩) (show (61 - t_55.toInt).toNat < (61 - x7_0.toInt).toNat by omega) H locs wt ls hT hW hP hD hS (lv_sub hl [0, 1, 3, 4, 5] rfl)
          · rw [← Int32.toInt_inj] at c_13
            refine lv_bipush (v := 13) hx hb dX4_readSum_59 (by decide +kernel) ?_
            refine lv_goto (tgt := 77) hx hb dX4_readSum_61 (by decide) ?_
            refine lv_istore_n (lv' := [(3, .int 13), (5, .int r_11), (4, .int x7_0), (2, .int x7_1), (0, .ref t), (1, .ref tp)]) hx hb dX4_readSum_77 rfl hl (by decide) rfl (fun ls hl => ?_)
            refine lv_iload_n hx hb dX4_readSum_78 rfl (lv_at hl 0 rfl) ?_
            refine lv_if_ne (tgt := 124) hx hb dX4_readSum_79 (by decide) (fun _ => ?_) (fun c0 => False.elim (by rw [← Int32.toInt_inj] at c0; omega))
            refine lv_aload_n hx hb dX4_readSum_124 rfl (lv_at hl 5 rfl) ?_
            refine lv_iconst (v := 1) hx hb dX4_readSum_125 (by decide +kernel) ?_
            have hP : va_P (gg_D G) classes ([] ++ ([(tp, .inr (8, [.ref bp, .int n, .int y_3, .int y_4, .int y_5])), (bp, .inl (G.2.2 0, 400, .inl bf))] ++ wt)) H := hP
            have hD : va_D A ([] ++ ([(tp, .inr (8, [.ref bp, .int n, .int y_3, .int y_4, .int y_5])), (bp, .inl (G.2.2 0, 400, .inl bf))] ++ wt)) := hD
            refine gt_callV (wr := []) (va_runV (As := [.int 1]) (rest := []) ⟨hx, hb, hml, hown, ht⟩ (d_skip l G Γ H.size wt hT 1 tp bp n y_3 y_4 y_5 bf (by omega) (by omega) (by first | assumption | omega) (by first | assumption | omega) (by first | assumption | omega) (by first | assumption | omega) (by first | assumption | omega)) (cwV 1 ht (ts_gV wd_741 wd_742 wd_743 wd_123 wd_744) rfl rfl rfl (by decide +kernel) ⟨Nat.le_of_ble_eq_true rfl, Nat.le_of_ble_eq_true rfl⟩) (gc_preV (ci := 8) (q0 := 0) hK (tw_right hP) (tw_rightD hD) rfl rfl) rfl rfl hl.1 rfl (lv_room (Nat.le_of_ble_eq_true rfl)) dX4_readSum_126 ⟨Nat.le_of_ble_eq_true rfl, Nat.le_of_ble_eq_true rfl⟩) hP hD hS hA (fun u H locs hw hP hD hS => ?_)
            obtain ⟨y_56, y_57, y_58, wt⟩ := u
            obtain ⟨hT, hkp, w_59, w_60, w_61⟩ := hw
            have hW := hW.call (show ∀ x ∈ [], x ∈ [406, 407, 408] by decide) hkp
            have hP : va_P (gg_D G) classes ([(tp, .inr (8, [.ref bp, .int n, .int y_56, .int y_57, .int y_58])), (bp, .inl (G.2.2 0, 400, .inl bf))] ++ wt) H := hP
            have hD : va_D A ([(tp, .inr (8, [.ref bp, .int n, .int y_56, .int y_57, .int y_58])), (bp, .inl (G.2.2 0, 400, .inl bf))] ++ wt) := hD
            obtain ⟨t_62, et_62⟩ : ∃ zz_ : Int32, x7_0 + Int32.ofInt (1) = zz_ := ⟨_, rfl⟩
            have ft_62 : t_62.toInt = x7_0.toInt + (1 : Int32).toInt := ia_add (y := 1) et_62 (by omega) (by omega)
            refine lv_iinc (v := t_62) (lv' := [(4, .int t_62), (3, .int 13), (5, .int r_11), (2, .int x7_1), (0, .ref t), (1, .ref tp)]) hx hb dX4_readSum_129 hl (k := 2) rfl et_62 (by decide) rfl (fun ls hl => ?_)
            refine lv_goto (tgt := 7) hx hb dX4_readSum_132 (by decide) ?_
            exact ih7 (t_62, x7_1, 13, y_56, y_57, y_58) (show 0 ≤ t_62.toInt ∧ t_62.toInt ≤ 61 ∧ 0 ≤ x7_1.toInt ∧ x7_1.toInt ≤ 14 ∧ 0 ≤ (13 : Int32).toInt ∧ (13 : Int32).toInt ≤ 14 ∧ 0 ≤ y_56.toInt ∧ y_56.toInt ≤ 400 ∧ 0 ≤ y_57.toInt ∧ y_57.toInt ≤ 400 ∧ y_56.toInt + y_57.toInt ≤ 400 from ⟨by omega, by omega, by omega, by omega, by omega, by omega, by omega, by omega, by omega, by omega, by omega⟩) (show (61 - t_62.toInt).toNat < (61 - x7_0.toInt).toNat by omega) H locs wt ls hT hW hP hD hS (lv_sub hl [0, 1, 3, 4, 5] rfl)
        · rw [← Int32.toInt_inj] at c_12
          refine lv_bipush (v := 12) hx hb dX4_readSum_47 (by decide +kernel) ?_
          refine lv_goto (tgt := 77) hx hb dX4_readSum_49 (by decide) ?_
          refine lv_istore_n (lv' := [(3, .int 12), (5, .int r_11), (4, .int x7_0), (2, .int x7_1), (0, .ref t), (1, .ref tp)]) hx hb dX4_readSum_77 rfl hl (by decide) rfl (fun ls hl => ?_)
          refine lv_iload_n hx hb dX4_readSum_78 rfl (lv_at hl 0 rfl) ?_
          refine lv_if_ne (tgt := 124) hx hb dX4_readSum_79 (by decide) (fun _ => ?_) (fun c0 => False.elim (by rw [← Int32.toInt_inj] at c0; omega))
          refine lv_aload_n hx hb dX4_readSum_124 rfl (lv_at hl 5 rfl) ?_
          refine lv_iconst (v := 1) hx hb dX4_readSum_125 (by decide +kernel) ?_
          have hP : va_P (gg_D G) classes ([] ++ ([(tp, .inr (8, [.ref bp, .int n, .int y_3, .int y_4, .int y_5])), (bp, .inl (G.2.2 0, 400, .inl bf))] ++ wt)) H := hP
          have hD : va_D A ([] ++ ([(tp, .inr (8, [.ref bp, .int n, .int y_3, .int y_4, .int y_5])), (bp, .inl (G.2.2 0, 400, .inl bf))] ++ wt)) := hD
          refine gt_callV (wr := []) (va_runV (As := [.int 1]) (rest := []) ⟨hx, hb, hml, hown, ht⟩ (d_skip l G Γ H.size wt hT 1 tp bp n y_3 y_4 y_5 bf (by omega) (by omega) (by first | assumption | omega) (by first | assumption | omega) (by first | assumption | omega) (by first | assumption | omega) (by first | assumption | omega)) (cwV 1 ht (ts_gV wd_741 wd_742 wd_743 wd_123 wd_744) rfl rfl rfl (by decide +kernel) ⟨Nat.le_of_ble_eq_true rfl, Nat.le_of_ble_eq_true rfl⟩) (gc_preV (ci := 8) (q0 := 0) hK (tw_right hP) (tw_rightD hD) rfl rfl) rfl rfl hl.1 rfl (lv_room (Nat.le_of_ble_eq_true rfl)) dX4_readSum_126 ⟨Nat.le_of_ble_eq_true rfl, Nat.le_of_ble_eq_true rfl⟩) hP hD hS hA (fun u H locs hw hP hD hS => ?_)
          obtain ⟨y_63, y_64, y_65, wt⟩ := u
          obtain ⟨hT, hkp, w_66, w_67, w_68⟩ := hw
          have hW := hW.call (show ∀ x ∈ [], x ∈ [406, 407, 408] by decide) hkp
          have hP : va_P (gg_D G) classes ([(tp, .inr (8, [.ref bp, .int n, .int y_63, .int y_64, .int y_65])), (bp, .inl (G.2.2 0, 400, .inl bf))] ++ wt) H := hP
          have hD : va_D A ([(tp, .inr (8, [.ref bp, .int n, .int y_63, .int y_64, .int y_65])), (bp, .inl (G.2.2 0, 400, .inl bf))] ++ wt) := hD
          obtain ⟨t_69, et_69⟩ : ∃ zz_ : Int32, x7_0 + Int32.ofInt (1) = zz_ := ⟨_, rfl⟩
          have ft_69 : t_69.toInt = x7_0.toInt + (1 : Int32).toInt := ia_add (y := 1) et_69 (by omega) (by omega)
          refine lv_iinc (v := t_69) (lv' := [(4, .int t_69), (3, .int 12), (5, .int r_11), (2, .int x7_1), (0, .ref t), (1, .ref tp)]) hx hb dX4_readSum_129 hl (k := 2) rfl et_69 (by decide) rfl (fun ls hl => ?_)
          refine lv_goto (tgt := 7) hx hb dX4_readSum_132 (by decide) ?_
          exact ih7 (t_69, x7_1, 12, y_63, y_64, y_65) (show 0 ≤ t_69.toInt ∧ t_69.toInt ≤ 61 ∧ 0 ≤ x7_1.toInt ∧ x7_1.toInt ≤ 14 ∧ 0 ≤ (12 : Int32).toInt ∧ (12 : Int32).toInt ≤ 14 ∧ 0 ≤ y_63.toInt ∧ y_63.toInt ≤ 400 ∧ 0 ≤ y_64.toInt ∧ y_64.toInt ≤ 400 ∧ y_63.toInt + y_64.toInt ≤ 400 from ⟨by omega, by omega, by omega, by omega, by omega, by omega, by omega, by omega, by omega, by omega, by omega⟩) (show (61 - t_69.toInt).toNat < (61 - x7_0.toInt).toNat by omega) H locs wt ls hT hW hP hD hS (lv_sub hl [0, 1, 3, 4, 5] rfl)
      · rw [← Int32.toInt_inj] at c_10
        refine lv_aload_n hx hb dX4_readSum_28 rfl (lv_at hl 3 rfl) ?_
        refine lv_iload_n hx hb dX4_readSum_29 rfl (lv_at hl 1 rfl) ?_
        refine gt_callI (wr := [(tp, .inr (8, [.ref bp, .int n, .int y_3, .int y_4, .int y_5])), (bp, .inl (G.2.2 0, 400, .inl bf))]) (va_runV (As := [.int x7_2]) (rest := []) ⟨hx, hb, hml, hown, ht⟩ (d_step l G Γ H.size wt hT t x7_2 k_t (by omega) (by omega)) (cwV 1 ht (ts_gV wd_736 wd_738 wd_9 wd_128 wd_739) rfl rfl rfl (by decide +kernel) ⟨Nat.le_of_ble_eq_true rfl, Nat.le_of_ble_eq_true rfl⟩) (gt_preW (ci := 4) hK hT (tw_right hP) (tw_rightD hD) k_t (by decide) rfl) rfl rfl hl.1 rfl (lv_room (Nat.le_of_ble_eq_true rfl)) dX4_readSum_30 ⟨Nat.le_of_ble_eq_true rfl, Nat.le_of_ble_eq_true rfl⟩) hP hD hS hA (fun r_70 wt H locs hw hP hD hS => ?_)
        obtain ⟨hT, hkp, lo_r_70, hi_r_70⟩ := hw
        have hW := hW.call (show ∀ x ∈ [406], x ∈ [406, 407, 408] by decide) hkp
        have hP : va_P (gg_D G) classes ([(tp, .inr (8, [.ref bp, .int n, .int y_3, .int y_4, .int y_5])), (bp, .inl (G.2.2 0, 400, .inl bf))] ++ wt) H := hP
        have hD : va_D A ([(tp, .inr (8, [.ref bp, .int n, .int y_3, .int y_4, .int y_5])), (bp, .inl (G.2.2 0, 400, .inl bf))] ++ wt) := hD
        refine lv_pop hx hb dX4_readSum_33 rfl ?_
        refine lv_aload_n hx hb dX4_readSum_34 rfl (lv_at hl 4 rfl) ?_
        have hP : va_P (gg_D G) classes ([] ++ ([(tp, .inr (8, [.ref bp, .int n, .int y_3, .int y_4, .int y_5])), (bp, .inl (G.2.2 0, 400, .inl bf))] ++ wt)) H := hP
        have hD : va_D A ([] ++ ([(tp, .inr (8, [.ref bp, .int n, .int y_3, .int y_4, .int y_5])), (bp, .inl (G.2.2 0, 400, .inl bf))] ++ wt)) := hD
        refine gt_callI (wr := []) (va_runV (As := []) (rest := []) ⟨hx, hb, hml, hown, ht⟩ (d_sign l G Γ H.size wt hT tp bp n y_3 y_4 y_5 bf (by first | assumption | omega) (by first | assumption | omega) (by first | assumption | omega) (by first | assumption | omega) (by first | assumption | omega)) (cwV 0 ht (ts_gV wd_740 wd_681 wd_682 wd_123 wd_683) rfl rfl rfl (by decide +kernel) ⟨Nat.le_of_ble_eq_true rfl, Nat.le_of_ble_eq_true rfl⟩) (gc_preV (ci := 8) (q0 := 0) hK (tw_right hP) (tw_rightD hD) rfl rfl) rfl rfl hl.1 rfl (lv_room (Nat.le_of_ble_eq_true rfl)) dX4_readSum_35 ⟨Nat.le_of_ble_eq_true rfl, Nat.le_of_ble_eq_true rfl⟩) hP hD hS hA (fun r_71 wt H locs hw hP hD hS => ?_)
        obtain ⟨hT, hkp, rp_r_71⟩ := hw
        have hW := hW.call (show ∀ x ∈ [], x ∈ [406, 407, 408] by decide) hkp
        have hP : va_P (gg_D G) classes ([(tp, .inr (8, [.ref bp, .int n, .int y_3, .int y_4, .int y_5])), (bp, .inl (G.2.2 0, 400, .inl bf))] ++ wt) H := hP
        have hD : va_D A ([(tp, .inr (8, [.ref bp, .int n, .int y_3, .int y_4, .int y_5])), (bp, .inl (G.2.2 0, 400, .inl bf))] ++ wt) := hD
        refine lv_istore (lv' := [(5, .int r_71), (4, .int x7_0), (3, .int x7_2), (2, .int x7_1), (0, .ref t), (1, .ref tp)]) hx hb dX4_readSum_38 hl (by decide) rfl (fun ls hl => ?_)
        refine lv_iload hx hb dX4_readSum_40 (lv_at hl 0 rfl) ?_
        refine lv_bipush (v := 42) hx hb dX4_readSum_42 (by decide +kernel) ?_
        refine lv_icmp_ne (tgt := 52) hx hb dX4_readSum_44 (by decide) (fun c_72 => ?_) (fun c_72 => ?_)
        · rw [← Int32.toInt_inj] at c_72
          refine lv_iload hx hb dX4_readSum_52 (lv_at hl 0 rfl) ?_
          refine lv_bipush (v := 47) hx hb dX4_readSum_54 (by decide +kernel) ?_
          refine lv_icmp_ne (tgt := 64) hx hb dX4_readSum_56 (by decide) (fun c_73 => ?_) (fun c_73 => ?_)
          · rw [← Int32.toInt_inj] at c_73
            refine lv_iload hx hb dX4_readSum_64 (lv_at hl 0 rfl) ?_
            refine lv_bipush (v := 37) hx hb dX4_readSum_66 (by decide +kernel) ?_
            refine lv_icmp_ne (tgt := 76) hx hb dX4_readSum_68 (by decide) (fun c_74 => ?_) (fun c_74 => ?_)
            · rw [← Int32.toInt_inj] at c_74
              refine lv_iconst (v := 0) hx hb dX4_readSum_76 (by decide +kernel) ?_
              refine lv_istore_n (lv' := [(3, .int 0), (5, .int r_71), (4, .int x7_0), (2, .int x7_1), (0, .ref t), (1, .ref tp)]) hx hb dX4_readSum_77 rfl hl (by decide) rfl (fun ls hl => ?_)
              refine lv_iload_n hx hb dX4_readSum_78 rfl (lv_at hl 0 rfl) ?_
              refine lv_if_ne (tgt := 124) hx hb dX4_readSum_79 (by decide) (fun c0 => False.elim (by rw [← Int32.toInt_inj] at c0; omega)) (fun _ => ?_)
              refine lv_iload_n hx hb dX4_readSum_82 rfl (lv_at hl 3 rfl) ?_
              refine lv_if_eq (tgt := 92) hx hb dX4_readSum_83 (by decide) (fun c_75 => ?_) (fun c_75 => ?_)
              · rw [← Int32.toInt_inj] at c_75
                refine lv_iload hx hb dX4_readSum_92 (lv_at hl 1 rfl) ?_
                refine lv_bipush (v := 43) hx hb dX4_readSum_94 (by decide +kernel) ?_
                refine lv_icmp_ne (tgt := 104) hx hb dX4_readSum_96 (by decide) (fun c_76 => ?_) (fun c_76 => ?_)
                · rw [← Int32.toInt_inj] at c_76
                  refine lv_iload hx hb dX4_readSum_104 (lv_at hl 1 rfl) ?_
                  refine lv_bipush (v := 45) hx hb dX4_readSum_106 (by decide +kernel) ?_
                  refine lv_icmp_ne (tgt := 116) hx hb dX4_readSum_108 (by decide) (fun c_77 => ?_) (fun c_77 => ?_)
                  · rw [← Int32.toInt_inj] at c_77
                    refine lv_iconst (v := 0) hx hb dX4_readSum_116 (by decide +kernel) ?_
                    refine lv_istore_n (lv' := [(2, .int 0), (3, .int 0), (5, .int r_71), (4, .int x7_0), (0, .ref t), (1, .ref tp)]) hx hb dX4_readSum_117 rfl hl (by decide) rfl (fun ls hl => ?_)
                    refine lv_iload_n hx hb dX4_readSum_118 rfl (lv_at hl 0 rfl) ?_
                    refine lv_if_ne (tgt := 124) hx hb dX4_readSum_119 (by decide) (fun c0 => False.elim (by rw [← Int32.toInt_inj] at c0; omega)) (fun _ => ?_)
                    refine lv_iconst (v := 1) hx hb dX4_readSum_122 (by decide +kernel) ?_
                    have hP9 : va_P (gg_D G) classes ([(tp, .inr (8, [.ref bp, .int n, .int y_3, .int y_4, .int y_5])), (bp, .inl (G.2.2 0, 400, .inl bf))] ++ wt) _ := hP
                    have hD9 : va_D A ([(tp, .inr (8, [.ref bp, .int n, .int y_3, .int y_4, .int y_5])), (bp, .inl (G.2.2 0, 400, .inl bf))] ++ wt) := hD
                    exact W.zret (v := 1) hx hb hr (by decide +kernel) (gq_endI (y_3, y_4, y_5, wt) ⟨hT, hW, (by omega), (by omega), (by omega), (by omega), (by omega)⟩ hP9 hD9 hS) hS.2.2 dX4_readSum_123
                  · rw [← Int32.toInt_inj] at c_77
                    refine lv_bipush (v := 11) hx hb dX4_readSum_111 (by decide +kernel) ?_
                    refine lv_goto (tgt := 117) hx hb dX4_readSum_113 (by decide) ?_
                    refine lv_istore_n (lv' := [(2, .int 11), (3, .int 0), (5, .int r_71), (4, .int x7_0), (0, .ref t), (1, .ref tp)]) hx hb dX4_readSum_117 rfl hl (by decide) rfl (fun ls hl => ?_)
                    refine lv_iload_n hx hb dX4_readSum_118 rfl (lv_at hl 0 rfl) ?_
                    refine lv_if_ne (tgt := 124) hx hb dX4_readSum_119 (by decide) (fun _ => ?_) (fun c0 => False.elim (by rw [← Int32.toInt_inj] at c0; omega))
                    refine lv_aload_n hx hb dX4_readSum_124 rfl (lv_at hl 5 rfl) ?_
                    refine lv_iconst (v := 1) hx hb dX4_readSum_125 (by decide +kernel) ?_
                    have hP : va_P (gg_D G) classes ([] ++ ([(tp, .inr (8, [.ref bp, .int n, .int y_3, .int y_4, .int y_5])), (bp, .inl (G.2.2 0, 400, .inl bf))] ++ wt)) H := hP
                    have hD : va_D A ([] ++ ([(tp, .inr (8, [.ref bp, .int n, .int y_3, .int y_4, .int y_5])), (bp, .inl (G.2.2 0, 400, .inl bf))] ++ wt)) := hD
                    refine gt_callV (wr := []) (va_runV (As := [.int 1]) (rest := []) ⟨hx, hb, hml, hown, ht⟩ (d_skip l G Γ H.size wt hT 1 tp bp n y_3 y_4 y_5 bf (by omega) (by omega) (by first | assumption | omega) (by first | assumption | omega) (by first | assumption | omega) (by first | assumption | omega) (by first | assumption | omega)) (cwV 1 ht (ts_gV wd_741 wd_742 wd_743 wd_123 wd_744) rfl rfl rfl (by decide +kernel) ⟨Nat.le_of_ble_eq_true rfl, Nat.le_of_ble_eq_true rfl⟩) (gc_preV (ci := 8) (q0 := 0) hK (tw_right hP) (tw_rightD hD) rfl rfl) rfl rfl hl.1 rfl (lv_room (Nat.le_of_ble_eq_true rfl)) dX4_readSum_126 ⟨Nat.le_of_ble_eq_true rfl, Nat.le_of_ble_eq_true rfl⟩) hP hD hS hA (fun u H locs hw hP hD hS => ?_)
                    obtain ⟨y_78, y_79, y_80, wt⟩ := u
                    obtain ⟨hT, hkp, w_81, w_82, w_83⟩ := hw
                    have hW := hW.call (show ∀ x ∈ [], x ∈ [406, 407, 408] by decide) hkp
                    have hP : va_P (gg_D G) classes ([(tp, .inr (8, [.ref bp, .int n, .int y_78, .int y_79, .int y_80])), (bp, .inl (G.2.2 0, 400, .inl bf))] ++ wt) H := hP
                    have hD : va_D A ([(tp, .inr (8, [.ref bp, .int n, .int y_78, .int y_79, .int y_80])), (bp, .inl (G.2.2 0, 400, .inl bf))] ++ wt) := hD
                    obtain ⟨t_84, et_84⟩ : ∃ zz_ : Int32, x7_0 + Int32.ofInt (1) = zz_ := ⟨_, rfl⟩
                    have ft_84 : t_84.toInt = x7_0.toInt + (1 : Int32).toInt := ia_add (y := 1) et_84 (by omega) (by omega)
                    refine lv_iinc (v := t_84) (lv' := [(4, .int t_84), (2, .int 11), (3, .int 0), (5, .int r_71), (0, .ref t), (1, .ref tp)]) hx hb dX4_readSum_129 hl (k := 3) rfl et_84 (by decide) rfl (fun ls hl => ?_)
                    refine lv_goto (tgt := 7) hx hb dX4_readSum_132 (by decide) ?_
                    exact ih7 (t_84, 11, 0, y_78, y_79, y_80) (show 0 ≤ t_84.toInt ∧ t_84.toInt ≤ 61 ∧ 0 ≤ (11 : Int32).toInt ∧ (11 : Int32).toInt ≤ 14 ∧ 0 ≤ (0 : Int32).toInt ∧ (0 : Int32).toInt ≤ 14 ∧ 0 ≤ y_78.toInt ∧ y_78.toInt ≤ 400 ∧ 0 ≤ y_79.toInt ∧ y_79.toInt ≤ 400 ∧ y_78.toInt + y_79.toInt ≤ 400 from ⟨by omega, by omega, by omega, by omega, by omega, by omega, by omega, by omega, by omega, by omega, by omega⟩) (show (61 - t_84.toInt).toNat < (61 - x7_0.toInt).toNat by omega) H locs wt ls hT hW hP hD hS (lv_sub hl [0, 2, 1, 4, 5] rfl)
                · rw [← Int32.toInt_inj] at c_76
                  refine lv_bipush (v := 10) hx hb dX4_readSum_99 (by decide +kernel) ?_
                  refine lv_goto (tgt := 117) hx hb dX4_readSum_101 (by decide) ?_
                  refine lv_istore_n (lv' := [(2, .int 10), (3, .int 0), (5, .int r_71), (4, .int x7_0), (0, .ref t), (1, .ref tp)]) hx hb dX4_readSum_117 rfl hl (by decide) rfl (fun ls hl => ?_)
                  refine lv_iload_n hx hb dX4_readSum_118 rfl (lv_at hl 0 rfl) ?_
                  refine lv_if_ne (tgt := 124) hx hb dX4_readSum_119 (by decide) (fun _ => ?_) (fun c0 => False.elim (by rw [← Int32.toInt_inj] at c0; omega))
                  refine lv_aload_n hx hb dX4_readSum_124 rfl (lv_at hl 5 rfl) ?_
                  refine lv_iconst (v := 1) hx hb dX4_readSum_125 (by decide +kernel) ?_
                  have hP : va_P (gg_D G) classes ([] ++ ([(tp, .inr (8, [.ref bp, .int n, .int y_3, .int y_4, .int y_5])), (bp, .inl (G.2.2 0, 400, .inl bf))] ++ wt)) H := hP
                  have hD : va_D A ([] ++ ([(tp, .inr (8, [.ref bp, .int n, .int y_3, .int y_4, .int y_5])), (bp, .inl (G.2.2 0, 400, .inl bf))] ++ wt)) := hD
                  refine gt_callV (wr := []) (va_runV (As := [.int 1]) (rest := []) ⟨hx, hb, hml, hown, ht⟩ (d_skip l G Γ H.size wt hT 1 tp bp n y_3 y_4 y_5 bf (by omega) (by omega) (by first | assumption | omega) (by first | assumption | omega) (by first | assumption | omega) (by first | assumption | omega) (by first | assumption | omega)) (cwV 1 ht (ts_gV wd_741 wd_742 wd_743 wd_123 wd_744) rfl rfl rfl (by decide +kernel) ⟨Nat.le_of_ble_eq_true rfl, Nat.le_of_ble_eq_true rfl⟩) (gc_preV (ci := 8) (q0 := 0) hK (tw_right hP) (tw_rightD hD) rfl rfl) rfl rfl hl.1 rfl (lv_room (Nat.le_of_ble_eq_true rfl)) dX4_readSum_126 ⟨Nat.le_of_ble_eq_true rfl, Nat.le_of_ble_eq_true rfl⟩) hP hD hS hA (fun u H locs hw hP hD hS => ?_)
                  obtain ⟨y_85, y_86, y_87, wt⟩ := u
                  obtain ⟨hT, hkp, w_88, w_89, w_90⟩ := hw
                  have hW := hW.call (show ∀ x ∈ [], x ∈ [406, 407, 408] by decide) hkp
                  have hP : va_P (gg_D G) classes ([(tp, .inr (8, [.ref bp, .int n, .int y_85, .int y_86, .int y_87])), (bp, .inl (G.2.2 0, 400, .inl bf))] ++ wt) H := hP
                  have hD : va_D A ([(tp, .inr (8, [.ref bp, .int n, .int y_85, .int y_86, .int y_87])), (bp, .inl (G.2.2 0, 400, .inl bf))] ++ wt) := hD
                  obtain ⟨t_91, et_91⟩ : ∃ zz_ : Int32, x7_0 + Int32.ofInt (1) = zz_ := ⟨_, rfl⟩
                  have ft_91 : t_91.toInt = x7_0.toInt + (1 : Int32).toInt := ia_add (y := 1) et_91 (by omega) (by omega)
                  refine lv_iinc (v := t_91) (lv' := [(4, .int t_91), (2, .int 10), (3, .int 0), (5, .int r_71), (0, .ref t), (1, .ref tp)]) hx hb dX4_readSum_129 hl (k := 3) rfl et_91 (by decide) rfl (fun ls hl => ?_)
                  refine lv_goto (tgt := 7) hx hb dX4_readSum_132 (by decide) ?_
                  exact ih7 (t_91, 10, 0, y_85, y_86, y_87) (show 0 ≤ t_91.toInt ∧ t_91.toInt ≤ 61 ∧ 0 ≤ (10 : Int32).toInt ∧ (10 : Int32).toInt ≤ 14 ∧ 0 ≤ (0 : Int32).toInt ∧ (0 : Int32).toInt ≤ 14 ∧ 0 ≤ y_85.toInt ∧ y_85.toInt ≤ 400 ∧ 0 ≤ y_86.toInt ∧ y_86.toInt ≤ 400 ∧ y_85.toInt + y_86.toInt ≤ 400 from ⟨by omega, by omega, by omega, by omega, by omega, by omega, by omega, by omega, by omega, by omega, by omega⟩) (show (61 - t_91.toInt).toNat < (61 - x7_0.toInt).toNat by omega) H locs wt ls hT hW hP hD hS (lv_sub hl [0, 2, 1, 4, 5] rfl)
              · rw [← Int32.toInt_inj] at c_75
                refine lv_aload_n hx hb dX4_readSum_86 rfl (lv_at hl 4 rfl) ?_
                refine lv_iload_n hx hb dX4_readSum_87 rfl (lv_at hl 3 rfl) ?_
                refine gt_callI (wr := [(tp, .inr (8, [.ref bp, .int n, .int y_3, .int y_4, .int y_5])), (bp, .inl (G.2.2 0, 400, .inl bf))]) (va_runV (As := [.int x7_1]) (rest := []) ⟨hx, hb, hml, hown, ht⟩ (d_step l G Γ H.size wt hT t x7_1 k_t (by omega) (by omega)) (cwV 1 ht (ts_gV wd_736 wd_738 wd_9 wd_128 wd_739) rfl rfl rfl (by decide +kernel) ⟨Nat.le_of_ble_eq_true rfl, Nat.le_of_ble_eq_true rfl⟩) (gt_preW (ci := 4) hK hT (tw_right hP) (tw_rightD hD) k_t (by decide) rfl) rfl rfl hl.1 rfl (lv_room (Nat.le_of_ble_eq_true rfl)) dX4_readSum_88 ⟨Nat.le_of_ble_eq_true rfl, Nat.le_of_ble_eq_true rfl⟩) hP hD hS hA (fun r_92 wt H locs hw hP hD hS => ?_)
                obtain ⟨hT, hkp, lo_r_92, hi_r_92⟩ := hw
                have hW := hW.call (show ∀ x ∈ [406], x ∈ [406, 407, 408] by decide) hkp
                have hP : va_P (gg_D G) classes ([(tp, .inr (8, [.ref bp, .int n, .int y_3, .int y_4, .int y_5])), (bp, .inl (G.2.2 0, 400, .inl bf))] ++ wt) H := hP
                have hD : va_D A ([(tp, .inr (8, [.ref bp, .int n, .int y_3, .int y_4, .int y_5])), (bp, .inl (G.2.2 0, 400, .inl bf))] ++ wt) := hD
                refine lv_pop hx hb dX4_readSum_91 rfl ?_
                refine lv_iload hx hb dX4_readSum_92 (lv_at hl 1 rfl) ?_
                refine lv_bipush (v := 43) hx hb dX4_readSum_94 (by decide +kernel) ?_
                refine lv_icmp_ne (tgt := 104) hx hb dX4_readSum_96 (by decide) (fun c_93 => ?_) (fun c_93 => ?_)
                · rw [← Int32.toInt_inj] at c_93
                  refine lv_iload hx hb dX4_readSum_104 (lv_at hl 1 rfl) ?_
                  refine lv_bipush (v := 45) hx hb dX4_readSum_106 (by decide +kernel) ?_
                  refine lv_icmp_ne (tgt := 116) hx hb dX4_readSum_108 (by decide) (fun c_94 => ?_) (fun c_94 => ?_)
                  · rw [← Int32.toInt_inj] at c_94
                    refine lv_iconst (v := 0) hx hb dX4_readSum_116 (by decide +kernel) ?_
                    refine lv_istore_n (lv' := [(2, .int 0), (3, .int 0), (5, .int r_71), (4, .int x7_0), (0, .ref t), (1, .ref tp)]) hx hb dX4_readSum_117 rfl hl (by decide) rfl (fun ls hl => ?_)
                    refine lv_iload_n hx hb dX4_readSum_118 rfl (lv_at hl 0 rfl) ?_
                    refine lv_if_ne (tgt := 124) hx hb dX4_readSum_119 (by decide) (fun c0 => False.elim (by rw [← Int32.toInt_inj] at c0; omega)) (fun _ => ?_)
                    refine lv_iconst (v := 1) hx hb dX4_readSum_122 (by decide +kernel) ?_
                    have hP9 : va_P (gg_D G) classes ([(tp, .inr (8, [.ref bp, .int n, .int y_3, .int y_4, .int y_5])), (bp, .inl (G.2.2 0, 400, .inl bf))] ++ wt) _ := hP
                    have hD9 : va_D A ([(tp, .inr (8, [.ref bp, .int n, .int y_3, .int y_4, .int y_5])), (bp, .inl (G.2.2 0, 400, .inl bf))] ++ wt) := hD
                    exact W.zret (v := 1) hx hb hr (by decide +kernel) (gq_endI (y_3, y_4, y_5, wt) ⟨hT, hW, (by omega), (by omega), (by omega), (by omega), (by omega)⟩ hP9 hD9 hS) hS.2.2 dX4_readSum_123
                  · rw [← Int32.toInt_inj] at c_94
                    refine lv_bipush (v := 11) hx hb dX4_readSum_111 (by decide +kernel) ?_
                    refine lv_goto (tgt := 117) hx hb dX4_readSum_113 (by decide) ?_
                    refine lv_istore_n (lv' := [(2, .int 11), (3, .int 0), (5, .int r_71), (4, .int x7_0), (0, .ref t), (1, .ref tp)]) hx hb dX4_readSum_117 rfl hl (by decide) rfl (fun ls hl => ?_)
                    refine lv_iload_n hx hb dX4_readSum_118 rfl (lv_at hl 0 rfl) ?_
                    refine lv_if_ne (tgt := 124) hx hb dX4_readSum_119 (by decide) (fun _ => ?_) (fun c0 => False.elim (by rw [← Int32.toInt_inj] at c0; omega))
                    refine lv_aload_n hx hb dX4_readSum_124 rfl (lv_at hl 5 rfl) ?_
                    refine lv_iconst (v := 1) hx hb dX4_readSum_125 (by decide +kernel) ?_
                    have hP : va_P (gg_D G) classes ([] ++ ([(tp, .inr (8, [.ref bp, .int n, .int y_3, .int y_4, .int y_5])), (bp, .inl (G.2.2 0, 400, .inl bf))] ++ wt)) H := hP
                    have hD : va_D A ([] ++ ([(tp, .inr (8, [.ref bp, .int n, .int y_3, .int y_4, .int y_5])), (bp, .inl (G.2.2 0, 400, .inl bf))] ++ wt)) := hD
                    refine gt_callV (wr := []) (va_runV (As := [.int 1]) (rest := []) ⟨hx, hb, hml, hown, ht⟩ (d_skip l G Γ H.size wt hT 1 tp bp n y_3 y_4 y_5 bf (by omega) (by omega) (by first | assumption | omega) (by first | assumption | omega) (by first | assumption | omega) (by first | assumption | omega) (by first | assumption | omega)) (cwV 1 ht (ts_gV wd_741 wd_742 wd_743 wd_123 wd_744) rfl rfl rfl (by decide +kernel) ⟨Nat.le_of_ble_eq_true rfl, Nat.le_of_ble_eq_true rfl⟩) (gc_preV (ci := 8) (q0 := 0) hK (tw_right hP) (tw_rightD hD) rfl rfl) rfl rfl hl.1 rfl (lv_room (Nat.le_of_ble_eq_true rfl)) dX4_readSum_126 ⟨Nat.le_of_ble_eq_true rfl, Nat.le_of_ble_eq_true rfl⟩) hP hD hS hA (fun u H locs hw hP hD hS => ?_)
                    obtain ⟨y_95, y_96, y_97, wt⟩ := u
                    obtain ⟨hT, hkp, w_98, w_99, w_100⟩ := hw
                    have hW := hW.call (show ∀ x ∈ [], x ∈ [406, 407, 408] by decide) hkp
                    have hP : va_P (gg_D G) classes ([(tp, .inr (8, [.ref bp, .int n, .int y_95, .int y_96, .int y_97])), (bp, .inl (G.2.2 0, 400, .inl bf))] ++ wt) H := hP
                    have hD : va_D A ([(tp, .inr (8, [.ref bp, .int n, .int y_95, .int y_96, .int y_97])), (bp, .inl (G.2.2 0, 400, .inl bf))] ++ wt) := hD
                    obtain ⟨t_101, et_101⟩ : ∃ zz_ : Int32, x7_0 + Int32.ofInt (1) = zz_ := ⟨_, rfl⟩
                    have ft_101 : t_101.toInt = x7_0.toInt + (1 : Int32).toInt := ia_add (y := 1) et_101 (by omega) (by omega)
                    refine lv_iinc (v := t_101) (lv' := [(4, .int t_101), (2, .int 11), (3, .int 0), (5, .int r_71), (0, .ref t), (1, .ref tp)]) hx hb dX4_readSum_129 hl (k := 3) rfl et_101 (by decide) rfl (fun ls hl => ?_)
                    refine lv_goto (tgt := 7) hx hb dX4_readSum_132 (by decide) ?_
                    exact ih7 (t_101, 11, 0, y_95, y_96, y_97) (show 0 ≤ t_101.toInt ∧ t_101.toInt ≤ 61 ∧ 0 ≤ (11 : Int32).toInt ∧ (11 : Int32).toInt ≤ 14 ∧ 0 ≤ (0 : Int32).toInt ∧ (0 : Int32).toInt ≤ 14 ∧ 0 ≤ y_95.toInt ∧ y_95.toInt ≤ 400 ∧ 0 ≤ y_96.toInt ∧ y_96.toInt ≤ 400 ∧ y_95.toInt + y_96.toInt ≤ 400 from ⟨by omega, by omega, by omega, by omega, by omega, by omega, by omega, by omega, by omega, by omega, by omega⟩) (show (61 - t_101.toInt).toNat < (61 - x7_0.toInt).toNat by omega) H locs wt ls hT hW hP hD hS (lv_sub hl [0, 2, 1, 4, 5] rfl)
                · rw [← Int32.toInt_inj] at c_93
                  refine lv_bipush (v := 10) hx hb dX4_readSum_99 (by decide +kernel) ?_
                  refine lv_goto (tgt := 117) hx hb dX4_readSum_101 (by decide) ?_
                  refine lv_istore_n (lv' := [(2, .int 10), (3, .int 0), (5, .int r_71), (4, .int x7_0), (0, .ref t), (1, .ref tp)]) hx hb dX4_readSum_117 rfl hl (by decide) rfl (fun ls hl => ?_)
                  refine lv_iload_n hx hb dX4_readSum_118 rfl (lv_at hl 0 rfl) ?_
                  refine lv_if_ne (tgt := 124) hx hb dX4_readSum_119 (by decide) (fun _ => ?_) (fun c0 => False.elim (by rw [← Int32.toInt_inj] at c0; omega))
                  refine lv_aload_n hx hb dX4_readSum_124 rfl (lv_at hl 5 rfl) ?_
                  refine lv_iconst (v := 1) hx hb dX4_readSum_125 (by decide +kernel) ?_
                  have hP : va_P (gg_D G) classes ([] ++ ([(tp, .inr (8, [.ref bp, .int n, .int y_3, .int y_4, .int y_5])), (bp, .inl (G.2.2 0, 400, .inl bf))] ++ wt)) H := hP
                  have hD : va_D A ([] ++ ([(tp, .inr (8, [.ref bp, .int n, .int y_3, .int y_4, .int y_5])), (bp, .inl (G.2.2 0, 400, .inl bf))] ++ wt)) := hD
                  refine gt_callV (wr := []) (va_runV (As := [.int 1]) (rest := []) ⟨hx, hb, hml, hown, ht⟩ (d_skip l G Γ H.size wt hT 1 tp bp n y_3 y_4 y_5 bf (by omega) (by omega) (by first | assumption | omega) (by first | assumption | omega) (by first | assumption | omega) (by first | assumption | omega) (by first | assumption | omega)) (cwV 1 ht (ts_gV wd_741 wd_742 wd_743 wd_123 wd_744) rfl rfl rfl (by decide +kernel) ⟨Nat.le_of_ble_eq_true rfl, Nat.le_of_ble_eq_true rfl⟩) (gc_preV (ci := 8) (q0 := 0) hK (tw_right hP) (tw_rightD hD) rfl rfl) rfl rfl hl.1 rfl (lv_room (Nat.le_of_ble_eq_true rfl)) dX4_readSum_126 ⟨Nat.le_of_ble_eq_true rfl, Nat.le_of_ble_eq_true rfl⟩) hP hD hS hA (fun u H locs hw hP hD hS => ?_)
                  obtain ⟨y_102, y_103, y_104, wt⟩ := u
                  obtain ⟨hT, hkp, w_105, w_106, w_107⟩ := hw
                  have hW := hW.call (show ∀ x ∈ [], x ∈ [406, 407, 408] by decide) hkp
                  have hP : va_P (gg_D G) classes ([(tp, .inr (8, [.ref bp, .int n, .int y_102, .int y_103, .int y_104])), (bp, .inl (G.2.2 0, 400, .inl bf))] ++ wt) H := hP
                  have hD : va_D A ([(tp, .inr (8, [.ref bp, .int n, .int y_102, .int y_103, .int y_104])), (bp, .inl (G.2.2 0, 400, .inl bf))] ++ wt) := hD
                  obtain ⟨t_108, et_108⟩ : ∃ zz_ : Int32, x7_0 + Int32.ofInt (1) = zz_ := ⟨_, rfl⟩
                  have ft_108 : t_108.toInt = x7_0.toInt + (1 : Int32).toInt := ia_add (y := 1) et_108 (by omega) (by omega)
                  refine lv_iinc (v := t_108) (lv' := [(4, .int t_108), (2, .int 10), (3, .int 0), (5, .int r_71), (0, .ref t), (1, .ref tp)]) hx hb dX4_readSum_129 hl (k := 3) rfl et_108 (by decide) rfl (fun ls hl => ?_)
                  refine lv_goto (tgt := 7) hx hb dX4_readSum_132 (by decide) ?_
                  exact ih7 (t_108, 10, 0, y_102, y_103, y_104) (show 0 ≤ t_108.toInt ∧ t_108.toInt ≤ 61 ∧ 0 ≤ (10 : Int32).toInt ∧ (10 : Int32).toInt ≤ 14 ∧ 0 ≤ (0 : Int32).toInt ∧ (0 : Int32).toInt ≤ 14 ∧ 0 ≤ y_102.toInt ∧ y_102.toInt ≤ 400 ∧ 0 ≤ y_103.toInt ∧ y_103.toInt ≤ 400 ∧ y_102.toInt + y_103.toInt ≤ 400 from ⟨by omega, by omega, by omega, by omega, by omega, by omega, by omega, by omega, by omega, by omega, by omega⟩) (show (61 - t_108.toInt).toNat < (61 - x7_0.toInt).toNat by omega) H locs wt ls hT hW hP hD hS (lv_sub hl [0, 2, 1, 4, 5] rfl)
            · rw [← Int32.toInt_inj] at c_74
              refine lv_bipush (v := 14) hx hb dX4_readSum_71 (by decide +kernel) ?_
              refine lv_goto (tgt := 77) hx hb dX4_readSum_73 (by decide) ?_
              refine lv_istore_n (lv' := [(3, .int 14), (5, .int r_71), (4, .int x7_0), (2, .int x7_1), (0, .ref t), (1, .ref tp)]) hx hb dX4_readSum_77 rfl hl (by decide) rfl (fun ls hl => ?_)
              refine lv_iload_n hx hb dX4_readSum_78 rfl (lv_at hl 0 rfl) ?_
              refine lv_if_ne (tgt := 124) hx hb dX4_readSum_79 (by decide) (fun _ => ?_) (fun c0 => False.elim (by rw [← Int32.toInt_inj] at c0; omega))
              refine lv_aload_n hx hb dX4_readSum_124 rfl (lv_at hl 5 rfl) ?_
              refine lv_iconst (v := 1) hx hb dX4_readSum_125 (by decide +kernel) ?_
              have hP : va_P (gg_D G) classes ([] ++ ([(tp, .inr (8, [.ref bp, .int n, .int y_3, .int y_4, .int y_5])), (bp, .inl (G.2.2 0, 400, .inl bf))] ++ wt)) H := hP
              have hD : va_D A ([] ++ ([(tp, .inr (8, [.ref bp, .int n, .int y_3, .int y_4, .int y_5])), (bp, .inl (G.2.2 0, 400, .inl bf))] ++ wt)) := hD
              refine gt_callV (wr := []) (va_runV (As := [.int 1]) (rest := []) ⟨hx, hb, hml, hown, ht⟩ (d_skip l G Γ H.size wt hT 1 tp bp n y_3 y_4 y_5 bf (by omega) (by omega) (by first | assumption | omega) (by first | assumption | omega) (by first | assumption | omega) (by first | assumption | omega) (by first | assumption | omega)) (cwV 1 ht (ts_gV wd_741 wd_742 wd_743 wd_123 wd_744) rfl rfl rfl (by decide +kernel) ⟨Nat.le_of_ble_eq_true rfl, Nat.le_of_ble_eq_true rfl⟩) (gc_preV (ci := 8) (q0 := 0) hK (tw_right hP) (tw_rightD hD) rfl rfl) rfl rfl hl.1 rfl (lv_room (Nat.le_of_ble_eq_true rfl)) dX4_readSum_126 ⟨Nat.le_of_ble_eq_true rfl, Nat.le_of_ble_eq_true rfl⟩) hP hD hS hA (fun u H locs hw hP hD hS => ?_)
              obtain ⟨y_109, y_110, y_111, wt⟩ := u
              obtain ⟨hT, hkp, w_112, w_113, w_114⟩ := hw
              have hW := hW.call (show ∀ x ∈ [], x ∈ [406, 407, 408] by decide) hkp
              have hP : va_P (gg_D G) classes ([(tp, .inr (8, [.ref bp, .int n, .int y_109, .int y_110, .int y_111])), (bp, .inl (G.2.2 0, 400, .inl bf))] ++ wt) H := hP
              have hD : va_D A ([(tp, .inr (8, [.ref bp, .int n, .int y_109, .int y_110, .int y_111])), (bp, .inl (G.2.2 0, 400, .inl bf))] ++ wt) := hD
              obtain ⟨t_115, et_115⟩ : ∃ zz_ : Int32, x7_0 + Int32.ofInt (1) = zz_ := ⟨_, rfl⟩
              have ft_115 : t_115.toInt = x7_0.toInt + (1 : Int32).toInt := ia_add (y := 1) et_115 (by omega) (by omega)
              refine lv_iinc (v := t_115) (lv' := [(4, .int t_115), (3, .int 14), (5, .int r_71), (2, .int x7_1), (0, .ref t), (1, .ref tp)]) hx hb dX4_readSum_129 hl (k := 2) rfl et_115 (by decide) rfl (fun ls hl => ?_)
              refine lv_goto (tgt := 7) hx hb dX4_readSum_132 (by decide) ?_
              exact ih7 (t_115, x7_1, 14, y_109, y_110, y_111) (show 0 ≤ t_115.toInt ∧ t_115.toInt ≤ 61 ∧ 0 ≤ x7_1.toInt ∧ x7_1.toInt ≤ 14 ∧ 0 ≤ (14 : Int32).toInt ∧ (14 : Int32).toInt ≤ 14 ∧ 0 ≤ y_109.toInt ∧ y_109.toInt ≤ 400 ∧ 0 ≤ y_110.toInt ∧ y_110.toInt ≤ 400 ∧ y_109.toInt + y_110.toInt ≤ 400 from ⟨by omega, by omega, by omega, by omega, by omega, by omega, by omega, by omega, by omega, by omega, by omega⟩) (show (61 - t_115.toInt).toNat < (61 - x7_0.toInt).toNat by omega) H locs wt ls hT hW hP hD hS (lv_sub hl [0, 1, 3, 4, 5] rfl)
          · rw [← Int32.toInt_inj] at c_73
            refine lv_bipush (v := 13) hx hb dX4_readSum_59 (by decide +kernel) ?_
            refine lv_goto (tgt := 77) hx hb dX4_readSum_61 (by decide) ?_
            refine lv_istore_n (lv' := [(3, .int 13), (5, .int r_71), (4, .int x7_0), (2, .int x7_1), (0, .ref t), (1, .ref tp)]) hx hb dX4_readSum_77 rfl hl (by decide) rfl (fun ls hl => ?_)
            refine lv_iload_n hx hb dX4_readSum_78 rfl (lv_at hl 0 rfl) ?_
            refine lv_if_ne (tgt := 124) hx hb dX4_readSum_79 (by decide) (fun _ => ?_) (fun c0 => False.elim (by rw [← Int32.toInt_inj] at c0; omega))
            refine lv_aload_n hx hb dX4_readSum_124 rfl (lv_at hl 5 rfl) ?_
            refine lv_iconst (v := 1) hx hb dX4_readSum_125 (by decide +kernel) ?_
            have hP : va_P (gg_D G) classes ([] ++ ([(tp, .inr (8, [.ref bp, .int n, .int y_3, .int y_4, .int y_5])), (bp, .inl (G.2.2 0, 400, .inl bf))] ++ wt)) H := hP
            have hD : va_D A ([] ++ ([(tp, .inr (8, [.ref bp, .int n, .int y_3, .int y_4, .int y_5])), (bp, .inl (G.2.2 0, 400, .inl bf))] ++ wt)) := hD
            refine gt_callV (wr := []) (va_runV (As := [.int 1]) (rest := []) ⟨hx, hb, hml, hown, ht⟩ (d_skip l G Γ H.size wt hT 1 tp bp n y_3 y_4 y_5 bf (by omega) (by omega) (by first | assumption | omega) (by first | assumption | omega) (by first | assumption | omega) (by first | assumption | omega) (by first | assumption | omega)) (cwV 1 ht (ts_gV wd_741 wd_742 wd_743 wd_123 wd_744) rfl rfl rfl (by decide +kernel) ⟨Nat.le_of_ble_eq_true rfl, Nat.le_of_ble_eq_true rfl⟩) (gc_preV (ci := 8) (q0 := 0) hK (tw_right hP) (tw_rightD hD) rfl rfl) rfl rfl hl.1 rfl (lv_room (Nat.le_of_ble_eq_true rfl)) dX4_readSum_126 ⟨Nat.le_of_ble_eq_true rfl, Nat.le_of_ble_eq_true rfl⟩) hP hD hS hA (fun u H locs hw hP hD hS => ?_)
            obtain ⟨y_116, y_117, y_118, wt⟩ := u
            obtain ⟨hT, hkp, w_119, w_120, w_121⟩ := hw
            have hW := hW.call (show ∀ x ∈ [], x ∈ [406, 407, 408] by decide) hkp
            have hP : va_P (gg_D G) classes ([(tp, .inr (8, [.ref bp, .int n, .int y_116, .int y_117, .int y_118])), (bp, .inl (G.2.2 0, 400, .inl bf))] ++ wt) H := hP
            have hD : va_D A ([(tp, .inr (8, [.ref bp, .int n, .int y_116, .int y_117, .int y_118])), (bp, .inl (G.2.2 0, 400, .inl bf))] ++ wt) := hD
            obtain ⟨t_122, et_122⟩ : ∃ zz_ : Int32, x7_0 + Int32.ofInt (1) = zz_ := ⟨_, rfl⟩
            have ft_122 : t_122.toInt = x7_0.toInt + (1 : Int32).toInt := ia_add (y := 1) et_122 (by omega) (by omega)
            refine lv_iinc (v := t_122) (lv' := [(4, .int t_122), (3, .int 13), (5, .int r_71), (2, .int x7_1), (0, .ref t), (1, .ref tp)]) hx hb dX4_readSum_129 hl (k := 2) rfl et_122 (by decide) rfl (fun ls hl => ?_)
            refine lv_goto (tgt := 7) hx hb dX4_readSum_132 (by decide) ?_
            exact ih7 (t_122, x7_1, 13, y_116, y_117, y_118) (show 0 ≤ t_122.toInt ∧ t_122.toInt ≤ 61 ∧ 0 ≤ x7_1.toInt ∧ x7_1.toInt ≤ 14 ∧ 0 ≤ (13 : Int32).toInt ∧ (13 : Int32).toInt ≤ 14 ∧ 0 ≤ y_116.toInt ∧ y_116.toInt ≤ 400 ∧ 0 ≤ y_117.toInt ∧ y_117.toInt ≤ 400 ∧ y_116.toInt + y_117.toInt ≤ 400 from ⟨by omega, by omega, by omega, by omega, by omega, by omega, by omega, by omega, by omega, by omega, by omega⟩) (show (61 - t_122.toInt).toNat < (61 - x7_0.toInt).toNat by omega) H locs wt ls hT hW hP hD hS (lv_sub hl [0, 1, 3, 4, 5] rfl)
        · rw [← Int32.toInt_inj] at c_72
          refine lv_bipush (v := 12) hx hb dX4_readSum_47 (by decide +kernel) ?_
          refine lv_goto (tgt := 77) hx hb dX4_readSum_49 (by decide) ?_
          refine lv_istore_n (lv' := [(3, .int 12), (5, .int r_71), (4, .int x7_0), (2, .int x7_1), (0, .ref t), (1, .ref tp)]) hx hb dX4_readSum_77 rfl hl (by decide) rfl (fun ls hl => ?_)
          refine lv_iload_n hx hb dX4_readSum_78 rfl (lv_at hl 0 rfl) ?_
          refine lv_if_ne (tgt := 124) hx hb dX4_readSum_79 (by decide) (fun _ => ?_) (fun c0 => False.elim (by rw [← Int32.toInt_inj] at c0; omega))
          refine lv_aload_n hx hb dX4_readSum_124 rfl (lv_at hl 5 rfl) ?_
          refine lv_iconst (v := 1) hx hb dX4_readSum_125 (by decide +kernel) ?_
          have hP : va_P (gg_D G) classes ([] ++ ([(tp, .inr (8, [.ref bp, .int n, .int y_3, .int y_4, .int y_5])), (bp, .inl (G.2.2 0, 400, .inl bf))] ++ wt)) H := hP
          have hD : va_D A ([] ++ ([(tp, .inr (8, [.ref bp, .int n, .int y_3, .int y_4, .int y_5])), (bp, .inl (G.2.2 0, 400, .inl bf))] ++ wt)) := hD
          refine gt_callV (wr := []) (va_runV (As := [.int 1]) (rest := []) ⟨hx, hb, hml, hown, ht⟩ (d_skip l G Γ H.size wt hT 1 tp bp n y_3 y_4 y_5 bf (by omega) (by omega) (by first | assumption | omega) (by first | assumption | omega) (by first | assumption | omega) (by first | assumption | omega) (by first | assumption | omega)) (cwV 1 ht (ts_gV wd_741 wd_742 wd_743 wd_123 wd_744) rfl rfl rfl (by decide +kernel) ⟨Nat.le_of_ble_eq_true rfl, Nat.le_of_ble_eq_true rfl⟩) (gc_preV (ci := 8) (q0 := 0) hK (tw_right hP) (tw_rightD hD) rfl rfl) rfl rfl hl.1 rfl (lv_room (Nat.le_of_ble_eq_true rfl)) dX4_readSum_126 ⟨Nat.le_of_ble_eq_true rfl, Nat.le_of_ble_eq_true rfl⟩) hP hD hS hA (fun u H locs hw hP hD hS => ?_)
          obtain ⟨y_123, y_124, y_125, wt⟩ := u
          obtain ⟨hT, hkp, w_126, w_127, w_128⟩ := hw
          have hW := hW.call (show ∀ x ∈ [], x ∈ [406, 407, 408] by decide) hkp
          have hP : va_P (gg_D G) classes ([(tp, .inr (8, [.ref bp, .int n, .int y_123, .int y_124, .int y_125])), (bp, .inl (G.2.2 0, 400, .inl bf))] ++ wt) H := hP
          have hD : va_D A ([(tp, .inr (8, [.ref bp, .int n, .int y_123, .int y_124, .int y_125])), (bp, .inl (G.2.2 0, 400, .inl bf))] ++ wt) := hD
          obtain ⟨t_129, et_129⟩ : ∃ zz_ : Int32, x7_0 + Int32.ofInt (1) = zz_ := ⟨_, rfl⟩
          have ft_129 : t_129.toInt = x7_0.toInt + (1 : Int32).toInt := ia_add (y := 1) et_129 (by omega) (by omega)
          refine lv_iinc (v := t_129) (lv' := [(4, .int t_129), (3, .int 12), (5, .int r_71), (2, .int x7_1), (0, .ref t), (1, .ref tp)]) hx hb dX4_readSum_129 hl (k := 2) rfl et_129 (by decide) rfl (fun ls hl => ?_)
          refine lv_goto (tgt := 7) hx hb dX4_readSum_132 (by decide) ?_
          exact ih7 (t_129, x7_1, 12, y_123, y_124, y_125) (show 0 ≤ t_129.toInt ∧ t_129.toInt ≤ 61 ∧ 0 ≤ x7_1.toInt ∧ x7_1.toInt ≤ 14 ∧ 0 ≤ (12 : Int32).toInt ∧ (12 : Int32).toInt ≤ 14 ∧ 0 ≤ y_123.toInt ∧ y_123.toInt ≤ 400 ∧ 0 ≤ y_124.toInt ∧ y_124.toInt ≤ 400 ∧ y_123.toInt + y_124.toInt ≤ 400 from ⟨by omega, by omega, by omega, by omega, by omega, by omega, by omega, by omega, by omega, by omega, by omega⟩) (show (61 - t_129.toInt).toNat < (61 - x7_0.toInt).toNat by omega) H locs wt ls hT hW hP hD hS (lv_sub hl [0, 1, 3, 4, 5] rfl)
    · rw [← Int32.toInt_inj] at c_9
      refine lv_iconst (v := 0) hx hb dX4_readSum_22 (by decide +kernel) ?_
      have hP9 : va_P (gg_D G) classes ([(tp, .inr (8, [.ref bp, .int n, .int y_3, .int y_4, .int y_5])), (bp, .inl (G.2.2 0, 400, .inl bf))] ++ wt) _ := hP
      have hD9 : va_D A ([(tp, .inr (8, [.ref bp, .int n, .int y_3, .int y_4, .int y_5])), (bp, .inl (G.2.2 0, 400, .inl bf))] ++ wt) := hD
      exact W.zret (v := 0) hx hb hr (by decide +kernel) (gq_endI (y_3, y_4, y_5, wt) ⟨hT, hW, (by omega), (by omega), (by omega), (by omega), (by omega)⟩ hP9 hD9 hS) hS.2.2 dX4_readSum_23
set_option maxHeartbeats 4000000 in
set_option maxRecDepth 100000 in
theorem d_readFact (l : Launch) (G : gg_T) (Γ : Nat → Nat) (sz : Nat) (wt : va_W) (hT : tk_ty G Γ wt) (K : Nat → Nat) (V : Nat → Nat) (t : Nat) (tp : Nat) (bp : Nat) (n : Int32) (at_ : Int32) (w_ : Int32) (fl : Int32) (bf : Nat → Int32) (k_t : Γ t = 5) (xp1 : 0 ≤ n.toInt) (xp2 : n.toInt ≤ 400) (xp3 : 0 ≤ at_.toInt) (xp4 : 0 ≤ w_.toInt) (xp5 : at_.toInt + w_.toInt ≤ 400) : Met l yX4_readFact (ts_L yX4_readFact cX4_readFact 5 (some .boolean)) ({ frames := 7, cells := 0, slots := 0, locals := 159 }) (gx_P G K V ([(tp, .inr (8, [.ref bp, .int n, .int at_, .int w_, .int fl])), (bp, .inl (G.2.2 0, 400, .inl bf))] ++ wt) sz [.ref t, .ref tp]) (gc_I G (va_A ([(tp, .inr (8, [.ref bp, .int n, .int at_, .int w_, .int fl])), (bp, .inl (G.2.2 0, 400, .inl bf))] ++ wt) sz) (fun r (u : (Int32) × (Int32) × (Int32) × va_W) => match u with | (a1, w1, f1, wt1) => tk_ty G Γ wt1 ∧ tk_kp [406, 407, 408] wt wt1 ∧ 0 ≤ a1.toInt ∧ 0 ≤ w1.toInt ∧ a1.toInt + w1.toInt ≤ 400 ∧ 0 ≤ r.toInt ∧ r.toInt ≤ 1) (fun (u : (Int32) × (Int32) × (Int32) × va_W) => match u with | (a1, w1, f1, wt1) => [(tp, .inr (8, [.ref bp, .int n, .int a1, .int w1, .int f1])), (bp, .inl (G.2.2 0, 400, .inl bf))] ++ wt1)) 0 0 (va_A ([(tp, .inr (8, [.ref bp, .int n, .int at_, .int w_, .int fl])), (bp, .inl (G.2.2 0, 400, .inl bf))] ++ wt) sz) := by
  refine Met.ofW (cc := cX4_readFact) (maxL := 5) (ret := (some .boolean)) (by decide) rfl ?_
  intro p e s m args below meth c s₁ B hml hv
  obtain ⟨rfl, hsz, hP, hK, hD0, hX⟩ := hv
  have hx := B.exec
  have hb := B.bytes
  have hr := B.returns
  have ht := ts_ht (atoms_spec (ws := ts_L yX4_readFact cX4_readFact 5 (some .boolean)) B.pre)
  have hown : s.vm.findClass RX4 = some m.cls := findClass_of_methodNamed B.named
  have hlocks := B.notSynchronized
  subst hsz
  have hD := hD0.self (sz := s.heap.size)
  generalize hAe : va_A ([(tp, .inr (8, [.ref bp, .int n, .int at_, .int w_, .int fl])), (bp, .inl (G.2.2 0, 400, .inl bf))] ++ wt) s.heap.size = A at hD hX ⊢
  have hA : ∀ q : Nat, s.heap.size ≤ q → A q := fun q h => by rw [← hAe]; exact Or.inr h
  clear hAe hD0
  have hS : va_S A s.heap s.heap [] := va_S.rf
  obtain ⟨w0, hw0⟩ : ∃ z, z = wt := ⟨_, rfl⟩
  have hW : tk_kp [406, 407, 408] w0 wt := by rw [hw0]; exact tk_kp.rf
  rw [← hw0]
  clear hw0
  have hP : va_P (gg_D G) classes ([(tp, .inr (8, [.ref bp, .int n, .int at_, .int w_, .int fl])), (bp, .inl (G.2.2 0, 400, .inl bf))] ++ wt) s.heap := hP
  have hD : va_D A ([(tp, .inr (8, [.ref bp, .int n, .int at_, .int w_, .int fl])), (bp, .inl (G.2.2 0, 400, .inl bf))] ++ wt) := hD
  have hl := lv_entry ([.ref t, .ref tp]) (n := 5) (Nat.le_of_ble_eq_true rfl)
  rw [lg_entry_eq]
  generalize (lg_sl ([.ref t, .ref tp]) ++ List.replicate (5 - (lg_sl ([.ref t, .ref tp])).length) Slot.unset).toArray = ls at hl ⊢
  have hl : lv_has ls 5 [(0, .ref t), (1, .ref tp)] := hl
  have l0 : (0 : Int32).toInt = 0 := by decide +kernel
  have l1 : (1 : Int32).toInt = 1 := by decide +kernel
  have l2 : (2 : Int32).toInt = 2 := by decide +kernel
  have l15 : (15 : Int32).toInt = 15 := by decide +kernel
  have l16 : (16 : Int32).toInt = 16 := by decide +kernel
  have l17 : (17 : Int32).toInt = 17 := by decide +kernel
  have l18 : (18 : Int32).toInt = 18 := by decide +kernel
  have l19 : (19 : Int32).toInt = 19 := by decide +kernel
  have l60 : (60 : Int32).toInt = 60 := by decide +kernel
  have l61 : (61 : Int32).toInt = 61 := by decide +kernel
  have l62 : (62 : Int32).toInt = 62 := by decide +kernel
  refine lv_aload_n hx hb dX4_readFact_0 rfl (lv_at hl 0 rfl) ?_
  refine lv_aload_n hx hb dX4_readFact_1 rfl (lv_at hl 1 rfl) ?_
  have hP : va_P (gg_D G) classes ([] ++ ([(tp, .inr (8, [.ref bp, .int n, .int at_, .int w_, .int fl])), (bp, .inl (G.2.2 0, 400, .inl bf))] ++ wt)) s.heap := hP
  have hD : va_D A ([] ++ ([(tp, .inr (8, [.ref bp, .int n, .int at_, .int w_, .int fl])), (bp, .inl (G.2.2 0, 400, .inl bf))] ++ wt)) := hD
  refine gt_callI (wr := []) (va_runV (As := [.ref tp]) (rest := []) ⟨hx, hb, hml, hown, ht⟩ (d_readSum l G Γ s.heap.size wt hT K V t tp bp n at_ w_ fl bf k_t (by first | assumption | omega) (by first | assumption | omega) (by first | assumption | omega) (by first | assumption | omega) (by first | assumption | omega)) (cwV 1 ht (ts_gV wd_721 wd_723 wd_6 wd_128 wd_724) rfl rfl rfl (by decide +kernel) ⟨Nat.le_of_ble_eq_true rfl, Nat.le_of_ble_eq_true rfl⟩) (gx_preW (we := [(tp, .inr (8, [.ref bp, .int n, .int at_, .int w_, .int fl])), (bp, .inl (G.2.2 0, 400, .inl bf))]) (ci := 4) hK hT (tw_right hP) (tw_rightD hD) hX hS (tw_free hD hS hA) k_t (by decide) rfl) rfl rfl hl.1 rfl (lv_room (Nat.le_of_ble_eq_true rfl)) dX4_readFact_2 ⟨Nat.le_of_ble_eq_true rfl, Nat.le_of_ble_eq_true rfl⟩) hP hD hS hA (fun r_1 u H locs hw hP hD hS => ?_)
  obtain ⟨y_2, y_3, y_4, wt⟩ := u
  obtain ⟨hT, hkp, w_5, w_6, w_7, lo_r_1, hi_r_1⟩ := hw
  have hW := hW.call (show ∀ x ∈ [406, 407, 408], x ∈ [406, 407, 408] by decide) hkp
  have hP : va_P (gg_D G) classes ([(tp, .inr (8, [.ref bp, .int n, .int y_2, .int y_3, .int y_4])), (bp, .inl (G.2.2 0, 400, .inl bf))] ++ wt) H := hP
  have hD : va_D A ([(tp, .inr (8, [.ref bp, .int n, .int y_2, .int y_3, .int y_4])), (bp, .inl (G.2.2 0, 400, .inl bf))] ++ wt) := hD
  refine lv_if_ne (tgt := 10) hx hb dX4_readFact_5 (by decide) (fun c_8 => ?_) (fun c_8 => ?_)
  · rw [← Int32.toInt_inj] at c_8
    refine lv_aload_n hx hb dX4_readFact_10 rfl (lv_at hl 1 rfl) ?_
    have hP : va_P (gg_D G) classes ([] ++ ([(tp, .inr (8, [.ref bp, .int n, .int y_2, .int y_3, .int y_4])), (bp, .inl (G.2.2 0, 400, .inl bf))] ++ wt)) H := hP
    have hD : va_D A ([] ++ ([(tp, .inr (8, [.ref bp, .int n, .int y_2, .int y_3, .int y_4])), (bp, .inl (G.2.2 0, 400, .inl bf))] ++ wt)) := hD
    refine gt_callI (wr := []) (va_runV (As := []) (rest := []) ⟨hx, hb, hml, hown, ht⟩ (d_sign l G Γ H.size wt hT tp bp n y_2 y_3 y_4 bf (by first | assumption | omega) (by first | assumption | omega) (by first | assumption | omega) (by first | assumption | omega) (by first | assumption | omega)) (cwV 0 ht (ts_gV wd_740 wd_681 wd_682 wd_123 wd_683) rfl rfl rfl (by decide +kernel) ⟨Nat.le_of_ble_eq_true rfl, Nat.le_of_ble_eq_true rfl⟩) (gc_preV (ci := 8) (q0 := 0) hK (tw_right hP) (tw_rightD hD) rfl rfl) rfl rfl hl.1 rfl (lv_room (Nat.le_of_ble_eq_true rfl)) dX4_readFact_11 ⟨Nat.le_of_ble_eq_true rfl, Nat.le_of_ble_eq_true rfl⟩) hP hD hS hA (fun r_9 wt H locs hw hP hD hS => ?_)
    obtain ⟨hT, hkp, rp_r_9⟩ := hw
    have hW := hW.call (show ∀ x ∈ [], x ∈ [406, 407, 408] by decide) hkp
    have hP : va_P (gg_D G) classes ([(tp, .inr (8, [.ref bp, .int n, .int y_2, .int y_3, .int y_4])), (bp, .inl (G.2.2 0, 400, .inl bf))] ++ wt) H := hP
    have hD : va_D A ([(tp, .inr (8, [.ref bp, .int n, .int y_2, .int y_3, .int y_4])), (bp, .inl (G.2.2 0, 400, .inl bf))] ++ wt) := hD
    refine lv_istore_n (lv' := [(2, .int r_9), (0, .ref t), (1, .ref tp)]) hx hb dX4_readFact_14 rfl hl (by decide) rfl (fun ls hl => ?_)
    refine lv_iload_n hx hb dX4_readFact_15 rfl (lv_at hl 0 rfl) ?_
    refine lv_bipush (v := 60) hx hb dX4_readFact_16 (by decide +kernel) ?_
    refine lv_icmp_eq (tgt := 43) hx hb dX4_readFact_18 (by decide) (fun c_10 => ?_) (fun c_10 => ?_)
    · rw [← Int32.toInt_inj] at c_10
      refine lv_aload_n hx hb dX4_readFact_43 rfl (lv_at hl 1 rfl) ?_
      refine lv_aload_n hx hb dX4_readFact_44 rfl (lv_at hl 2 rfl) ?_
      refine lv_aload_n hx hb dX4_readFact_45 rfl (lv_at hl 2 rfl) ?_
      have hP : va_P (gg_D G) classes ([] ++ ([(tp, .inr (8, [.ref bp, .int n, .int y_2, .int y_3, .int y_4])), (bp, .inl (G.2.2 0, 400, .inl bf))] ++ wt)) H := hP
      have hD : va_D A ([] ++ ([(tp, .inr (8, [.ref bp, .int n, .int y_2, .int y_3, .int y_4])), (bp, .inl (G.2.2 0, 400, .inl bf))] ++ wt)) := hD
      refine gt_callI (wr := []) (va_runV (As := []) (rest := [.ref tp, .ref t]) ⟨hx, hb, hml, hown, ht⟩ (d_place l G Γ H.size wt hT tp bp n y_2 y_3 y_4 bf (by first | assumption | omega) (by first | assumption | omega) (by first | assumption | omega) (by first | assumption | omega) (by first | assumption | omega)) (cwV 0 ht (ts_gV wd_718 wd_640 wd_641 wd_123 wd_642) rfl rfl rfl (by decide +kernel) ⟨Nat.le_of_ble_eq_true rfl, Nat.le_of_ble_eq_true rfl⟩) (gc_preV (ci := 8) (q0 := 0) hK (tw_right hP) (tw_rightD hD) rfl rfl) rfl rfl hl.1 rfl (lv_room (Nat.le_of_ble_eq_true rfl)) dX4_readFact_46 ⟨Nat.le_of_ble_eq_true rfl, Nat.le_of_ble_eq_true rfl⟩) hP hD hS hA (fun r_11 wt H locs hw hP hD hS => ?_)
      obtain ⟨hT, hkp, lo_r_11, hi_r_11⟩ := hw
      have hW := hW.call (show ∀ x ∈ [], x ∈ [406, 407, 408] by decide) hkp
      have hP : va_P (gg_D G) classes ([(tp, .inr (8, [.ref bp, .int n, .int y_2, .int y_3, .int y_4])), (bp, .inl (G.2.2 0, 400, .inl bf))] ++ wt) H := hP
      have hD : va_D A ([(tp, .inr (8, [.ref bp, .int n, .int y_2, .int y_3, .int y_4])), (bp, .inl (G.2.2 0, 400, .inl bf))] ++ wt) := hD
      have hP : va_P (gg_D G) classes ([] ++ ([(tp, .inr (8, [.ref bp, .int n, .int y_2, .int y_3, .int y_4])), (bp, .inl (G.2.2 0, 400, .inl bf))] ++ wt)) H := hP
      have hD : va_D A ([] ++ ([(tp, .inr (8, [.ref bp, .int n, .int y_2, .int y_3, .int y_4])), (bp, .inl (G.2.2 0, 400, .inl bf))] ++ wt)) := hD
      refine gt_callI (wr := []) (va_runV (As := [.ref tp, .int r_11]) (rest := []) ⟨hx, hb, hml, hown, ht⟩ (d_isRoom l G Γ H.size wt hT t r_11 tp bp n y_2 y_3 y_4 bf k_t (by first | assumption | omega) (by first | assumption | omega) (by first | assumption | omega) (by first | assumption | omega) (by first | assumption | omega)) (cwV 2 ht (ts_gV wd_732 wd_734 wd_8 wd_128 wd_735) rfl rfl rfl (by decide +kernel) ⟨Nat.le_of_ble_eq_true rfl, Nat.le_of_ble_eq_true rfl⟩) (gt_preV (ci := 4) hK hT (tw_right hP) (tw_rightD hD) k_t (by decide) rfl) rfl rfl hl.1 rfl (lv_room (Nat.le_of_ble_eq_true rfl)) dX4_readFact_49 ⟨Nat.le_of_ble_eq_true rfl, Nat.le_of_ble_eq_true rfl⟩) hP hD hS hA (fun r_12 u H locs hw hP hD hS => ?_)
      obtain ⟨y_13, y_14, y_15, wt⟩ := u
      obtain ⟨hT, hkp, w_16, w_17, w_18, lo_r_12, hi_r_12⟩ := hw
      have hW := hW.call (show ∀ x ∈ [407], x ∈ [406, 407, 408] by decide) hkp
      have hP : va_P (gg_D G) classes ([(tp, .inr (8, [.ref bp, .int n, .int y_13, .int y_14, .int y_15])), (bp, .inl (G.2.2 0, 400, .inl bf))] ++ wt) H := hP
      have hD : va_D A ([(tp, .inr (8, [.ref bp, .int n, .int y_13, .int y_14, .int y_15])), (bp, .inl (G.2.2 0, 400, .inl bf))] ++ wt) := hD
      refine lv_if_ne (tgt := 57) hx hb dX4_readFact_52 (by decide) (fun c_19 => ?_) (fun c_19 => ?_)
      · rw [← Int32.toInt_inj] at c_19
        refine lv_iload_n hx hb dX4_readFact_57 rfl (lv_at hl 0 rfl) ?_
        refine lv_bipush (v := 61) hx hb dX4_readFact_58 (by decide +kernel) ?_
        refine lv_icmp_eq (tgt := 76) hx hb dX4_readFact_60 (by decide) (fun c0 => False.elim (by rw [← Int32.toInt_inj] at c0; omega)) (fun _ => ?_)
        refine lv_aload_n hx hb dX4_readFact_63 rfl (lv_at hl 2 rfl) ?_
        have hP : va_P (gg_D G) classes ([] ++ ([(tp, .inr (8, [.ref bp, .int n, .int y_13, .int y_14, .int y_15])), (bp, .inl (G.2.2 0, 400, .inl bf))] ++ wt)) H := hP
        have hD : va_D A ([] ++ ([(tp, .inr (8, [.ref bp, .int n, .int y_13, .int y_14, .int y_15])), (bp, .inl (G.2.2 0, 400, .inl bf))] ++ wt)) := hD
        refine gt_callI (wr := []) (va_runV (As := []) (rest := []) ⟨hx, hb, hml, hown, ht⟩ (d_signBehind l G Γ H.size wt hT tp bp n y_13 y_14 y_15 bf (by first | assumption | omega) (by first | assumption | omega) (by first | assumption | omega) (by first | assumption | omega) (by first | assumption | omega)) (cwV 0 ht (ts_gV wd_764 wd_765 wd_766 wd_123 wd_767) rfl rfl rfl (by decide +kernel) ⟨Nat.le_of_ble_eq_true rfl, Nat.le_of_ble_eq_true rfl⟩) (gc_preV (ci := 8) (q0 := 0) hK (tw_right hP) (tw_rightD hD) rfl rfl) rfl rfl hl.1 rfl (lv_room (Nat.le_of_ble_eq_true rfl)) dX4_readFact_64 ⟨Nat.le_of_ble_eq_true rfl, Nat.le_of_ble_eq_true rfl⟩) hP hD hS hA (fun r_20 wt H locs hw hP hD hS => ?_)
        obtain ⟨hT, hkp⟩ := hw
        have hW := hW.call (show ∀ x ∈ [], x ∈ [406, 407, 408] by decide) hkp
        have hP : va_P (gg_D G) classes ([(tp, .inr (8, [.ref bp, .int n, .int y_13, .int y_14, .int y_15])), (bp, .inl (G.2.2 0, 400, .inl bf))] ++ wt) H := hP
        have hD : va_D A ([(tp, .inr (8, [.ref bp, .int n, .int y_13, .int y_14, .int y_15])), (bp, .inl (G.2.2 0, 400, .inl bf))] ++ wt) := hD
        refine lv_bipush (v := 61) hx hb dX4_readFact_67 (by decide +kernel) ?_
        refine lv_icmp_ne (tgt := 76) hx hb dX4_readFact_69 (by decide) (fun c_21 => ?_) (fun c_21 => ?_)
        · rw [← Int32.toInt_inj] at c_21
          refine lv_iconst (v := 0) hx hb dX4_readFact_76 (by decide +kernel) ?_
          refine lv_istore_n (lv' := [(3, .int 0), (2, .int r_9), (0, .ref t), (1, .ref tp)]) hx hb dX4_readFact_77 rfl hl (by decide) rfl (fun ls hl => ?_)
          refine lv_bipush (v := 17) hx hb dX4_readFact_78 (by decide +kernel) ?_
          refine lv_istore (lv' := [(4, .int 17), (3, .int 0), (2, .int r_9), (0, .ref t), (1, .ref tp)]) hx hb dX4_readFact_80 hl (by decide) rfl (fun ls hl => ?_)
          refine lv_iload_n hx hb dX4_readFact_82 rfl (lv_at hl 2 rfl) ?_
          refine lv_bipush (v := 60) hx hb dX4_readFact_83 (by decide +kernel) ?_
          refine lv_icmp_ne (tgt := 104) hx hb dX4_readFact_85 (by decide) (fun c0 => False.elim (by rw [← Int32.toInt_inj] at c0; omega)) (fun _ => ?_)
          refine lv_iload_n hx hb dX4_readFact_88 rfl (lv_at hl 1 rfl) ?_
          refine lv_if_eq (tgt := 97) hx hb dX4_readFact_89 (by decide) (fun _ => ?_) (fun c0 => False.elim (by rw [← Int32.toInt_inj] at c0; omega))
          refine lv_bipush (v := 15) hx hb dX4_readFact_97 (by decide +kernel) ?_
          refine lv_istore (lv' := [(4, .int 15), (3, .int 0), (2, .int r_9), (0, .ref t), (1, .ref tp)]) hx hb dX4_readFact_99 hl (by decide) rfl (fun ls hl => ?_)
          refine lv_goto (tgt := 123) hx hb dX4_readFact_101 (by decide) ?_
          refine lv_aload_n hx hb dX4_readFact_123 rfl (lv_at hl 4 rfl) ?_
          refine lv_iload_n hx hb dX4_readFact_124 rfl (lv_at hl 1 rfl) ?_
          refine lv_if_eq (tgt := 132) hx hb dX4_readFact_125 (by decide) (fun _ => ?_) (fun c0 => False.elim (by rw [← Int32.toInt_inj] at c0; omega))
          refine lv_iconst (v := 1) hx hb dX4_readFact_132 (by decide +kernel) ?_
          have hP : va_P (gg_D G) classes ([] ++ ([(tp, .inr (8, [.ref bp, .int n, .int y_13, .int y_14, .int y_15])), (bp, .inl (G.2.2 0, 400, .inl bf))] ++ wt)) H := hP
          have hD : va_D A ([] ++ ([(tp, .inr (8, [.ref bp, .int n, .int y_13, .int y_14, .int y_15])), (bp, .inl (G.2.2 0, 400, .inl bf))] ++ wt)) := hD
          refine gt_callV (wr := []) (va_runV (As := [.int 1]) (rest := []) ⟨hx, hb, hml, hown, ht⟩ (d_skip l G Γ H.size wt hT 1 tp bp n y_13 y_14 y_15 bf (by omega) (by omega) (by first | assumption | omega) (by first | assumption | omega) (by first | assumption | omega) (by first | assumption | omega) (by first | assumption | omega)) (cwV 1 ht (ts_gV wd_741 wd_742 wd_743 wd_123 wd_744) rfl rfl rfl (by decide +kernel) ⟨Nat.le_of_ble_eq_true rfl, Nat.le_of_ble_eq_true rfl⟩) (gc_preV (ci := 8) (q0 := 0) hK (tw_right hP) (tw_rightD hD) rfl rfl) rfl rfl hl.1 rfl (lv_room (Nat.le_of_ble_eq_true rfl)) dX4_readFact_133 ⟨Nat.le_of_ble_eq_true rfl, Nat.le_of_ble_eq_true rfl⟩) hP hD hS hA (fun u H locs hw hP hD hS => ?_)
          obtain ⟨y_22, y_23, y_24, wt⟩ := u
          obtain ⟨hT, hkp, w_25, w_26, w_27⟩ := hw
          have hW := hW.call (show ∀ x ∈ [], x ∈ [406, 407, 408] by decide) hkp
          have hP : va_P (gg_D G) classes ([(tp, .inr (8, [.ref bp, .int n, .int y_22, .int y_23, .int y_24])), (bp, .inl (G.2.2 0, 400, .inl bf))] ++ wt) H := hP
          have hD : va_D A ([(tp, .inr (8, [.ref bp, .int n, .int y_22, .int y_23, .int y_24])), (bp, .inl (G.2.2 0, 400, .inl bf))] ++ wt) := hD
          refine lv_aload_n hx hb dX4_readFact_136 rfl (lv_at hl 3 rfl) ?_
          refine lv_aload_n hx hb dX4_readFact_137 rfl (lv_at hl 4 rfl) ?_
          have hP : va_P (gg_D G) classes ([] ++ ([(tp, .inr (8, [.ref bp, .int n, .int y_22, .int y_23, .int y_24])), (bp, .inl (G.2.2 0, 400, .inl bf))] ++ wt)) H := hP
          have hD : va_D A ([] ++ ([(tp, .inr (8, [.ref bp, .int n, .int y_22, .int y_23, .int y_24])), (bp, .inl (G.2.2 0, 400, .inl bf))] ++ wt)) := hD
          refine gt_callI (wr := []) (va_runV (As := [.ref tp]) (rest := []) ⟨hx, hb, hml, hown, ht⟩ (d_readSum l G Γ H.size wt hT K V t tp bp n y_22 y_23 y_24 bf k_t (by first | assumption | omega) (by first | assumption | omega) (by first | assumption | omega) (by first | assumption | omega) (by first | assumption | omega)) (cwV 1 ht (ts_gV wd_721 wd_723 wd_6 wd_128 wd_724) rfl rfl rfl (by decide +kernel) ⟨Nat.le_of_ble_eq_true rfl, Nat.le_of_ble_eq_true rfl⟩) (gx_preW (we := [(tp, .inr (8, [.ref bp, .int n, .int y_22, .int y_23, .int y_24])), (bp, .inl (G.2.2 0, 400, .inl bf))]) (ci := 4) hK hT (tw_right hP) (tw_rightD hD) hX hS (tw_free hD hS hA) k_t (by decide) rfl) rfl rfl hl.1 rfl (lv_room (Nat.le_of_ble_eq_true rfl)) dX4_readFact_138 ⟨Nat.le_of_ble_eq_true rfl, Nat.le_of_ble_eq_true rfl⟩) hP hD hS hA (fun r_28 u H locs hw hP hD hS => ?_)
          obtain ⟨y_29, y_30, y_31, wt⟩ := u
          obtain ⟨hT, hkp, w_32, w_33, w_34, lo_r_28, hi_r_28⟩ := hw
          have hW := hW.call (show ∀ x ∈ [406, 407, 408], x ∈ [406, 407, 408] by decide) hkp
          have hP : va_P (gg_D G) classes ([(tp, .inr (8, [.ref bp, .int n, .int y_29, .int y_30, .int y_31])), (bp, .inl (G.2.2 0, 400, .inl bf))] ++ wt) H := hP
          have hD : va_D A ([(tp, .inr (8, [.ref bp, .int n, .int y_29, .int y_30, .int y_31])), (bp, .inl (G.2.2 0, 400, .inl bf))] ++ wt) := hD
          refine lv_if_eq (tgt := 157) hx hb dX4_readFact_141 (by decide) (fun c_35 => ?_) (fun c_35 => ?_)
          · rw [← Int32.toInt_inj] at c_35
            refine lv_iconst (v := 0) hx hb dX4_readFact_157 (by decide +kernel) ?_
            have hP9 : va_P (gg_D G) classes ([(tp, .inr (8, [.ref bp, .int n, .int y_29, .int y_30, .int y_31])), (bp, .inl (G.2.2 0, 400, .inl bf))] ++ wt) _ := hP
            have hD9 : va_D A ([(tp, .inr (8, [.ref bp, .int n, .int y_29, .int y_30, .int y_31])), (bp, .inl (G.2.2 0, 400, .inl bf))] ++ wt) := hD
            exact W.zret (v := 0) hx hb hr (by decide +kernel) (gq_endI (y_29, y_30, y_31, wt) ⟨hT, hW, (by omega), (by omega), (by omega), (by omega), (by omega)⟩ hP9 hD9 hS) hS.2.2 dX4_readFact_158
          · rw [← Int32.toInt_inj] at c_35
            refine lv_aload_n hx hb dX4_readFact_144 rfl (lv_at hl 3 rfl) ?_
            refine lv_iload hx hb dX4_readFact_145 (lv_at hl 0 rfl) ?_
            refine gt_callI (wr := [(tp, .inr (8, [.ref bp, .int n, .int y_29, .int y_30, .int y_31])), (bp, .inl (G.2.2 0, 400, .inl bf))]) (va_runV (As := [.int 15]) (rest := []) ⟨hx, hb, hml, hown, ht⟩ (d_step l G Γ H.size wt hT t 15 k_t (by omega) (by omega)) (cwV 1 ht (ts_gV wd_736 wd_738 wd_9 wd_128 wd_739) rfl rfl rfl (by decide +kernel) ⟨Nat.le_of_ble_eq_true rfl, Nat.le_of_ble_eq_true rfl⟩) (gt_preW (ci := 4) hK hT (tw_right hP) (tw_rightD hD) k_t (by decide) rfl) rfl rfl hl.1 rfl (lv_room (Nat.le_of_ble_eq_true rfl)) dX4_readFact_147 ⟨Nat.le_of_ble_eq_true rfl, Nat.le_of_ble_eq_true rfl⟩) hP hD hS hA (fun r_36 wt H locs hw hP hD hS => ?_)
            obtain ⟨hT, hkp, lo_r_36, hi_r_36⟩ := hw
            have hW := hW.call (show ∀ x ∈ [406], x ∈ [406, 407, 408] by decide) hkp
            have hP : va_P (gg_D G) classes ([(tp, .inr (8, [.ref bp, .int n, .int y_29, .int y_30, .int y_31])), (bp, .inl (G.2.2 0, 400, .inl bf))] ++ wt) H := hP
            have hD : va_D A ([(tp, .inr (8, [.ref bp, .int n, .int y_29, .int y_30, .int y_31])), (bp, .inl (G.2.2 0, 400, .inl bf))] ++ wt) := hD
            refine lv_if_eq (tgt := 157) hx hb dX4_readFact_150 (by decide) (fun c_37 => ?_) (fun c_37 => ?_)
            · rw [← Int32.toInt_inj] at c_37
              refine lv_iconst (v := 0) hx hb dX4_readFact_157 (by decide +kernel) ?_
              have hP9 : va_P (gg_D G) classes ([(tp, .inr (8, [.ref bp, .int n, .int y_29, .int y_30, .int y_31])), (bp, .inl (G.2.2 0, 400, .inl bf))] ++ wt) _ := hP
              have hD9 : va_D A ([(tp, .inr (8, [.ref bp, .int n, .int y_29, .int y_30, .int y_31])), (bp, .inl (G.2.2 0, 400, .inl bf))] ++ wt) := hD
              exact W.zret (v := 0) hx hb hr (by decide +kernel) (gq_endI (y_29, y_30, y_31, wt) ⟨hT, hW, (by omega), (by omega), (by omega), (by omega), (by omega)⟩ hP9 hD9 hS) hS.2.2 dX4_readFact_158
            · rw [← Int32.toInt_inj] at c_37
              refine lv_iconst (v := 1) hx hb dX4_readFact_153 (by decide +kernel) ?_
              refine lv_goto (tgt := 158) hx hb dX4_readFact_154 (by decide) ?_
              have hP9 : va_P (gg_D G) classes ([(tp, .inr (8, [.ref bp, .int n, .int y_29, .int y_30, .int y_31])), (bp, .inl (G.2.2 0, 400, .inl bf))] ++ wt) _ := hP
              have hD9 : va_D A ([(tp, .inr (8, [.ref bp, .int n, .int y_29, .int y_30, .int y_31])), (bp, .inl (G.2.2 0, 400, .inl bf))] ++ wt) := hD
              exact W.zret (v := 1) hx hb hr (by decide +kernel) (gq_endI (y_29, y_30, y_31, wt) ⟨hT, hW, (by omega), (by omega), (by omega), (by omega), (by omega)⟩ hP9 hD9 hS) hS.2.2 dX4_readFact_158
        · rw [← Int32.toInt_inj] at c_21
          refine lv_iconst (v := 1) hx hb dX4_readFact_72 (by decide +kernel) ?_
          refine lv_goto (tgt := 77) hx hb dX4_readFact_73 (by decide) ?_
          refine lv_istore_n (lv' := [(3, .int 1), (2, .int r_9), (0, .ref t), (1, .ref tp)]) hx hb dX4_readFact_77 rfl hl (by decide) rfl (fun ls hl => ?_)
          refine lv_bipush (v := 17) hx hb dX4_readFact_78 (by decide +kernel) ?_
          refine lv_istore (lv' := [(4, .int 17), (3, .int 1), (2, .int r_9), (0, .ref t), (1, .ref tp)]) hx hb dX4_readFact_80 hl (by decide) rfl (fun ls hl => ?_)
          refine lv_iload_n hx hb dX4_readFact_82 rfl (lv_at hl 2 rfl) ?_
          refine lv_bipush (v := 60) hx hb dX4_readFact_83 (by decide +kernel) ?_
          refine lv_icmp_ne (tgt := 104) hx hb dX4_readFact_85 (by decide) (fun c0 => False.elim (by rw [← Int32.toInt_inj] at c0; omega)) (fun _ => ?_)
          refine lv_iload_n hx hb dX4_readFact_88 rfl (lv_at hl 1 rfl) ?_
          refine lv_if_eq (tgt := 97) hx hb dX4_readFact_89 (by decide) (fun c0 => False.elim (by rw [← Int32.toInt_inj] at c0; omega)) (fun _ => ?_)
          refine lv_bipush (v := 16) hx hb dX4_readFact_92 (by decide +kernel) ?_
          refine lv_goto (tgt := 99) hx hb dX4_readFact_94 (by decide) ?_
          refine lv_istore (lv' := [(4, .int 16), (3, .int 1), (2, .int r_9), (0, .ref t), (1, .ref tp)]) hx hb dX4_readFact_99 hl (by decide) rfl (fun ls hl => ?_)
          refine lv_goto (tgt := 123) hx hb dX4_readFact_101 (by decide) ?_
          refine lv_aload_n hx hb dX4_readFact_123 rfl (lv_at hl 4 rfl) ?_
          refine lv_iload_n hx hb dX4_readFact_124 rfl (lv_at hl 1 rfl) ?_
          refine lv_if_eq (tgt := 132) hx hb dX4_readFact_125 (by decide) (fun c0 => False.elim (by rw [← Int32.toInt_inj] at c0; omega)) (fun _ => ?_)
          refine lv_iconst (v := 2) hx hb dX4_readFact_128 (by decide +kernel) ?_
          refine lv_goto (tgt := 133) hx hb dX4_readFact_129 (by decide) ?_
          have hP : va_P (gg_D G) classes ([] ++ ([(tp, .inr (8, [.ref bp, .int n, .int y_13, .int y_14, .int y_15])), (bp, .inl (G.2.2 0, 400, .inl bf))] ++ wt)) H := hP
          have hD : va_D A ([] ++ ([(tp, .inr (8, [.ref bp, .int n, .int y_13, .int y_14, .int y_15])), (bp, .inl (G.2.2 0, 400, .inl bf))] ++ wt)) := hD
          refine gt_callV (wr := []) (va_runV (As := [.int 2]) (rest := []) ⟨hx, hb, hml, hown, ht⟩ (d_skip l G Γ H.size wt hT 2 tp bp n y_13 y_14 y_15 bf (by omega) (by omega) (by first | assumption | omega) (by first | assumption | omega) (by first | assumption | omega) (by first | assumption | omega) (by first | assumption | omega)) (cwV 1 ht (ts_gV wd_741 wd_742 wd_743 wd_123 wd_744) rfl rfl rfl (by decide +kernel) ⟨Nat.le_of_ble_eq_true rfl, Nat.le_of_ble_eq_true rfl⟩) (gc_preV (ci := 8) (q0 := 0) hK (tw_right hP) (tw_rightD hD) rfl rfl) rfl rfl hl.1 rfl (lv_room (Nat.le_of_ble_eq_true rfl)) dX4_readFact_133 ⟨Nat.le_of_ble_eq_true rfl, Nat.le_of_ble_eq_true rfl⟩) hP hD hS hA (fun u H locs hw hP hD hS => ?_)
          obtain ⟨y_38, y_39, y_40, wt⟩ := u
          obtain ⟨hT, hkp, w_41, w_42, w_43⟩ := hw
          have hW := hW.call (show ∀ x ∈ [], x ∈ [406, 407, 408] by decide) hkp
          have hP : va_P (gg_D G) classes ([(tp, .inr (8, [.ref bp, .int n, .int y_38, .int y_39, .int y_40])), (bp, .inl (G.2.2 0, 400, .inl bf))] ++ wt) H := hP
          have hD : va_D A ([(tp, .inr (8, [.ref bp, .int n, .int y_38, .int y_39, .int y_40])), (bp, .inl (G.2.2 0, 400, .inl bf))] ++ wt) := hD
          refine lv_aload_n hx hb dX4_readFact_136 rfl (lv_at hl 3 rfl) ?_
          refine lv_aload_n hx hb dX4_readFact_137 rfl (lv_at hl 4 rfl) ?_
          have hP : va_P (gg_D G) classes ([] ++ ([(tp, .inr (8, [.ref bp, .int n, .int y_38, .int y_39, .int y_40])), (bp, .inl (G.2.2 0, 400, .inl bf))] ++ wt)) H := hP
          have hD : va_D A ([] ++ ([(tp, .inr (8, [.ref bp, .int n, .int y_38, .int y_39, .int y_40])), (bp, .inl (G.2.2 0, 400, .inl bf))] ++ wt)) := hD
          refine gt_callI (wr := []) (va_runV (As := [.ref tp]) (rest := []) ⟨hx, hb, hml, hown, ht⟩ (d_readSum l G Γ H.size wt hT K V t tp bp n y_38 y_39 y_40 bf k_t (by first | assumption | omega) (by first | assumption | omega) (by first | assumption | omega) (by first | assumption | omega) (by first | assumption | omega)) (cwV 1 ht (ts_gV wd_721 wd_723 wd_6 wd_128 wd_724) rfl rfl rfl (by decide +kernel) ⟨Nat.le_of_ble_eq_true rfl, Nat.le_of_ble_eq_true rfl⟩) (gx_preW (we := [(tp, .inr (8, [.ref bp, .int n, .int y_38, .int y_39, .int y_40])), (bp, .inl (G.2.2 0, 400, .inl bf))]) (ci := 4) hK hT (tw_right hP) (tw_rightD hD) hX hS (tw_free hD hS hA) k_t (by decide) rfl) rfl rfl hl.1 rfl (lv_room (Nat.le_of_ble_eq_true rfl)) dX4_readFact_138 ⟨Nat.le_of_ble_eq_true rfl, Nat.le_of_ble_eq_true rfl⟩) hP hD hS hA (fun r_44 u H locs hw hP hD hS => ?_)
          obtain ⟨y_45, y_46, y_47, wt⟩ := u
          obtain ⟨hT, hkp, w_48, w_49, w_50, lo_r_44, hi_r_44⟩ := hw
          have hW := hW.call (show ∀ x ∈ [406, 407, 408], x ∈ [406, 407, 408] by decide) hkp
          have hP : va_P (gg_D G) classes ([(tp, .inr (8, [.ref bp, .int n, .int y_45, .int y_46, .int y_47])), (bp, .inl (G.2.2 0, 400, .inl bf))] ++ wt) H := hP
          have hD : va_D A ([(tp, .inr (8, [.ref bp, .int n, .int y_45, .int y_46, .int y_47])), (bp, .inl (G.2.2 0, 400, .inl bf))] ++ wt) := hD
          refine lv_if_eq (tgt := 157) hx hb dX4_readFact_141 (by decide) (fun c_51 => ?_) (fun c_51 => ?_)
          · rw [← Int32.toInt_inj] at c_51
            refine lv_iconst (v := 0) hx hb dX4_readFact_157 (by decide +kernel) ?_
            have hP9 : va_P (gg_D G) classes ([(tp, .inr (8, [.ref bp, .int n, .int y_45, .int y_46, .int y_47])), (bp, .inl (G.2.2 0, 400, .inl bf))] ++ wt) _ := hP
            have hD9 : va_D A ([(tp, .inr (8, [.ref bp, .int n, .int y_45, .int y_46, .int y_47])), (bp, .inl (G.2.2 0, 400, .inl bf))] ++ wt) := hD
            exact W.zret (v := 0) hx hb hr (by decide +kernel) (gq_endI (y_45, y_46, y_47, wt) ⟨hT, hW, (by omega), (by omega), (by omega), (by omega), (by omega)⟩ hP9 hD9 hS) hS.2.2 dX4_readFact_158
          · rw [← Int32.toInt_inj] at c_51
            refine lv_aload_n hx hb dX4_readFact_144 rfl (lv_at hl 3 rfl) ?_
            refine lv_iload hx hb dX4_readFact_145 (lv_at hl 0 rfl) ?_
            refine gt_callI (wr := [(tp, .inr (8, [.ref bp, .int n, .int y_45, .int y_46, .int y_47])), (bp, .inl (G.2.2 0, 400, .inl bf))]) (va_runV (As := [.int 16]) (rest := []) ⟨hx, hb, hml, hown, ht⟩ (d_step l G Γ H.size wt hT t 16 k_t (by omega) (by omega)) (cwV 1 ht (ts_gV wd_736 wd_738 wd_9 wd_128 wd_739) rfl rfl rfl (by decide +kernel) ⟨Nat.le_of_ble_eq_true rfl, Nat.le_of_ble_eq_true rfl⟩) (gt_preW (ci := 4) hK hT (tw_right hP) (tw_rightD hD) k_t (by decide) rfl) rfl rfl hl.1 rfl (lv_room (Nat.le_of_ble_eq_true rfl)) dX4_readFact_147 ⟨Nat.le_of_ble_eq_true rfl, Nat.le_of_ble_eq_true rfl⟩) hP hD hS hA (fun r_52 wt H locs hw hP hD hS => ?_)
            obtain ⟨hT, hkp, lo_r_52, hi_r_52⟩ := hw
            have hW := hW.call (show ∀ x ∈ [406], x ∈ [406, 407, 408] by decide) hkp
            have hP : va_P (gg_D G) classes ([(tp, .inr (8, [.ref bp, .int n, .int y_45, .int y_46, .int y_47])), (bp, .inl (G.2.2 0, 400, .inl bf))] ++ wt) H := hP
            have hD : va_D A ([(tp, .inr (8, [.ref bp, .int n, .int y_45, .int y_46, .int y_47])), (bp, .inl (G.2.2 0, 400, .inl bf))] ++ wt) := hD
            refine lv_if_eq (tgt := 157) hx hb dX4_readFact_150 (by decide) (fun c_53 => ?_) (fun c_53 => ?_)
            · rw [← Int32.toInt_inj] at c_53
              refine lv_iconst (v := 0) hx hb dX4_readFact_157 (by decide +kernel) ?_
              have hP9 : va_P (gg_D G) classes ([(tp, .inr (8, [.ref bp, .int n, .int y_45, .int y_46, .int y_47])), (bp, .inl (G.2.2 0, 400, .inl bf))] ++ wt) _ := hP
              have hD9 : va_D A ([(tp, .inr (8, [.ref bp, .int n, .int y_45, .int y_46, .int y_47])), (bp, .inl (G.2.2 0, 400, .inl bf))] ++ wt) := hD
              exact W.zret (v := 0) hx hb hr (by decide +kernel) (gq_endI (y_45, y_46, y_47, wt) ⟨hT, hW, (by omega), (by omega), (by omega), (by omega), (by omega)⟩ hP9 hD9 hS) hS.2.2 dX4_readFact_158
            · rw [← Int32.toInt_inj] at c_53
              refine lv_iconst (v := 1) hx hb dX4_readFact_153 (by decide +kernel) ?_
              refine lv_goto (tgt := 158) hx hb dX4_readFact_154 (by decide) ?_
              have hP9 : va_P (gg_D G) classes ([(tp, .inr (8, [.ref bp, .int n, .int y_45, .int y_46, .int y_47])), (bp, .inl (G.2.2 0, 400, .inl bf))] ++ wt) _ := hP
              have hD9 : va_D A ([(tp, .inr (8, [.ref bp, .int n, .int y_45, .int y_46, .int y_47])), (bp, .inl (G.2.2 0, 400, .inl bf))] ++ wt) := hD
              exact W.zret (v := 1) hx hb hr (by decide +kernel) (gq_endI (y_45, y_46, y_47, wt) ⟨hT, hW, (by omega), (by omega), (by omega), (by omega), (by omega)⟩ hP9 hD9 hS) hS.2.2 dX4_readFact_158
      · rw [← Int32.toInt_inj] at c_19
        refine lv_iconst (v := 0) hx hb dX4_readFact_55 (by decide +kernel) ?_
        have hP9 : va_P (gg_D G) classes ([(tp, .inr (8, [.ref bp, .int n, .int y_13, .int y_14, .int y_15])), (bp, .inl (G.2.2 0, 400, .inl bf))] ++ wt) _ := hP
        have hD9 : va_D A ([(tp, .inr (8, [.ref bp, .int n, .int y_13, .int y_14, .int y_15])), (bp, .inl (G.2.2 0, 400, .inl bf))] ++ wt) := hD
        exact W.zret (v := 0) hx hb hr (by decide +kernel) (gq_endI (y_13, y_14, y_15, wt) ⟨hT, hW, (by omega), (by omega), (by omega), (by omega), (by omega)⟩ hP9 hD9 hS) hS.2.2 dX4_readFact_56
    · rw [← Int32.toInt_inj] at c_10
      refine lv_iload_n hx hb dX4_readFact_21 rfl (lv_at hl 0 rfl) ?_
      refine lv_bipush (v := 61) hx hb dX4_readFact_22 (by decide +kernel) ?_
      refine lv_icmp_eq (tgt := 43) hx hb dX4_readFact_24 (by decide) (fun c_54 => ?_) (fun c_54 => ?_)
      · rw [← Int32.toInt_inj] at c_54
        refine lv_aload_n hx hb dX4_readFact_43 rfl (lv_at hl 1 rfl) ?_
        refine lv_aload_n hx hb dX4_readFact_44 rfl (lv_at hl 2 rfl) ?_
        refine lv_aload_n hx hb dX4_readFact_45 rfl (lv_at hl 2 rfl) ?_
        have hP : va_P (gg_D G) classes ([] ++ ([(tp, .inr (8, [.ref bp, .int n, .int y_2, .int y_3, .int y_4])), (bp, .inl (G.2.2 0, 400, .inl bf))] ++ wt)) H := hP
        have hD : va_D A ([] ++ ([(tp, .inr (8, [.ref bp, .int n, .int y_2, .int y_3, .int y_4])), (bp, .inl (G.2.2 0, 400, .inl bf))] ++ wt)) := hD
        refine gt_callI (wr := []) (va_runV (As := []) (rest := [.ref tp, .ref t]) ⟨hx, hb, hml, hown, ht⟩ (d_place l G Γ H.size wt hT tp bp n y_2 y_3 y_4 bf (by first | assumption | omega) (by first | assumption | omega) (by first | assumption | omega) (by first | assumption | omega) (by first | assumption | omega)) (cwV 0 ht (ts_gV wd_718 wd_640 wd_641 wd_123 wd_642) rfl rfl rfl (by decide +kernel) ⟨Nat.le_of_ble_eq_true rfl, Nat.le_of_ble_eq_true rfl⟩) (gc_preV (ci := 8) (q0 := 0) hK (tw_right hP) (tw_rightD hD) rfl rfl) rfl rfl hl.1 rfl (lv_room (Nat.le_of_ble_eq_true rfl)) dX4_readFact_46 ⟨Nat.le_of_ble_eq_true rfl, Nat.le_of_ble_eq_true rfl⟩) hP hD hS hA (fun r_55 wt H locs hw hP hD hS => ?_)
        obtain ⟨hT, hkp, lo_r_55, hi_r_55⟩ := hw
        have hW := hW.call (show ∀ x ∈ [], x ∈ [406, 407, 408] by decide) hkp
        have hP : va_P (gg_D G) classes ([(tp, .inr (8, [.ref bp, .int n, .int y_2, .int y_3, .int y_4])), (bp, .inl (G.2.2 0, 400, .inl bf))] ++ wt) H := hP
        have hD : va_D A ([(tp, .inr (8, [.ref bp, .int n, .int y_2, .int y_3, .int y_4])), (bp, .inl (G.2.2 0, 400, .inl bf))] ++ wt) := hD
        have hP : va_P (gg_D G) classes ([] ++ ([(tp, .inr (8, [.ref bp, .int n, .int y_2, .int y_3, .int y_4])), (bp, .inl (G.2.2 0, 400, .inl bf))] ++ wt)) H := hP
        have hD : va_D A ([] ++ ([(tp, .inr (8, [.ref bp, .int n, .int y_2, .int y_3, .int y_4])), (bp, .inl (G.2.2 0, 400, .inl bf))] ++ wt)) := hD
        refine gt_callI (wr := []) (va_runV (As := [.ref tp, .int r_55]) (rest := []) ⟨hx, hb, hml, hown, ht⟩ (d_isRoom l G Γ H.size wt hT t r_55 tp bp n y_2 y_3 y_4 bf k_t (by first | assumption | omega) (by first | assumption | omega) (by first | assumption | omega) (by first | assumption | omega) (by first | assumption | omega)) (cwV 2 ht (ts_gV wd_732 wd_734 wd_8 wd_128 wd_735) rfl rfl rfl (by decide +kernel) ⟨Nat.le_of_ble_eq_true rfl, Nat.le_of_ble_eq_true rfl⟩) (gt_preV (ci := 4) hK hT (tw_right hP) (tw_rightD hD) k_t (by decide) rfl) rfl rfl hl.1 rfl (lv_room (Nat.le_of_ble_eq_true rfl)) dX4_readFact_49 ⟨Nat.le_of_ble_eq_true rfl, Nat.le_of_ble_eq_true rfl⟩) hP hD hS hA (fun r_56 u H locs hw hP hD hS => ?_)
        obtain ⟨y_57, y_58, y_59, wt⟩ := u
        obtain ⟨hT, hkp, w_60, w_61, w_62, lo_r_56, hi_r_56⟩ := hw
        have hW := hW.call (show ∀ x ∈ [407], x ∈ [406, 407, 408] by decide) hkp
        have hP : va_P (gg_D G) classes ([(tp, .inr (8, [.ref bp, .int n, .int y_57, .int y_58, .int y_59])), (bp, .inl (G.2.2 0, 400, .inl bf))] ++ wt) H := hP
        have hD : va_D A ([(tp, .inr (8, [.ref bp, .int n, .int y_57, .int y_58, .int y_59])), (bp, .inl (G.2.2 0, 400, .inl bf))] ++ wt) := hD
        refine lv_if_ne (tgt := 57) hx hb dX4_readFact_52 (by decide) (fun c_63 => ?_) (fun c_63 => ?_)
        · rw [← Int32.toInt_inj] at c_63
          refine lv_iload_n hx hb dX4_readFact_57 rfl (lv_at hl 0 rfl) ?_
          refine lv_bipush (v := 61) hx hb dX4_readFact_58 (by decide +kernel) ?_
          refine lv_icmp_eq (tgt := 76) hx hb dX4_readFact_60 (by decide) (fun _ => ?_) (fun c0 => False.elim (by rw [← Int32.toInt_inj] at c0; omega))
          refine lv_iconst (v := 0) hx hb dX4_readFact_76 (by decide +kernel) ?_
          refine lv_istore_n (lv' := [(3, .int 0), (2, .int r_9), (0, .ref t), (1, .ref tp)]) hx hb dX4_readFact_77 rfl hl (by decide) rfl (fun ls hl => ?_)
          refine lv_bipush (v := 17) hx hb dX4_readFact_78 (by decide +kernel) ?_
          refine lv_istore (lv' := [(4, .int 17), (3, .int 0), (2, .int r_9), (0, .ref t), (1, .ref tp)]) hx hb dX4_readFact_80 hl (by decide) rfl (fun ls hl => ?_)
          refine lv_iload_n hx hb dX4_readFact_82 rfl (lv_at hl 2 rfl) ?_
          refine lv_bipush (v := 60) hx hb dX4_readFact_83 (by decide +kernel) ?_
          refine lv_icmp_ne (tgt := 104) hx hb dX4_readFact_85 (by decide) (fun _ => ?_) (fun c0 => False.elim (by rw [← Int32.toInt_inj] at c0; omega))
          refine lv_iload_n hx hb dX4_readFact_104 rfl (lv_at hl 2 rfl) ?_
          refine lv_bipush (v := 62) hx hb dX4_readFact_105 (by decide +kernel) ?_
          refine lv_icmp_ne (tgt := 123) hx hb dX4_readFact_107 (by decide) (fun _ => ?_) (fun c0 => False.elim (by rw [← Int32.toInt_inj] at c0; omega))
          refine lv_aload_n hx hb dX4_readFact_123 rfl (lv_at hl 4 rfl) ?_
          refine lv_iload_n hx hb dX4_readFact_124 rfl (lv_at hl 1 rfl) ?_
          refine lv_if_eq (tgt := 132) hx hb dX4_readFact_125 (by decide) (fun _ => ?_) (fun c0 => False.elim (by rw [← Int32.toInt_inj] at c0; omega))
          refine lv_iconst (v := 1) hx hb dX4_readFact_132 (by decide +kernel) ?_
          have hP : va_P (gg_D G) classes ([] ++ ([(tp, .inr (8, [.ref bp, .int n, .int y_57, .int y_58, .int y_59])), (bp, .inl (G.2.2 0, 400, .inl bf))] ++ wt)) H := hP
          have hD : va_D A ([] ++ ([(tp, .inr (8, [.ref bp, .int n, .int y_57, .int y_58, .int y_59])), (bp, .inl (G.2.2 0, 400, .inl bf))] ++ wt)) := hD
          refine gt_callV (wr := []) (va_runV (As := [.int 1]) (rest := []) ⟨hx, hb, hml, hown, ht⟩ (d_skip l G Γ H.size wt hT 1 tp bp n y_57 y_58 y_59 bf (by omega) (by omega) (by first | assumption | omega) (by first | assumption | omega) (by first | assumption | omega) (by first | assumption | omega) (by first | assumption | omega)) (cwV 1 ht (ts_gV wd_741 wd_742 wd_743 wd_123 wd_744) rfl rfl rfl (by decide +kernel) ⟨Nat.le_of_ble_eq_true rfl, Nat.le_of_ble_eq_true rfl⟩) (gc_preV (ci := 8) (q0 := 0) hK (tw_right hP) (tw_rightD hD) rfl rfl) rfl rfl hl.1 rfl (lv_room (Nat.le_of_ble_eq_true rfl)) dX4_readFact_133 ⟨Nat.le_of_ble_eq_true rfl, Nat.le_of_ble_eq_true rfl⟩) hP hD hS hA (fun u H locs hw hP hD hS => ?_)
          obtain ⟨y_64, y_65, y_66, wt⟩ := u
          obtain ⟨hT, hkp, w_67, w_68, w_69⟩ := hw
          have hW := hW.call (show ∀ x ∈ [], x ∈ [406, 407, 408] by decide) hkp
          have hP : va_P (gg_D G) classes ([(tp, .inr (8, [.ref bp, .int n, .int y_64, .int y_65, .int y_66])), (bp, .inl (G.2.2 0, 400, .inl bf))] ++ wt) H := hP
          have hD : va_D A ([(tp, .inr (8, [.ref bp, .int n, .int y_64, .int y_65, .int y_66])), (bp, .inl (G.2.2 0, 400, .inl bf))] ++ wt) := hD
          refine lv_aload_n hx hb dX4_readFact_136 rfl (lv_at hl 3 rfl) ?_
          refine lv_aload_n hx hb dX4_readFact_137 rfl (lv_at hl 4 rfl) ?_
          have hP : va_P (gg_D G) classes ([] ++ ([(tp, .inr (8, [.ref bp, .int n, .int y_64, .int y_65, .int y_66])), (bp, .inl (G.2.2 0, 400, .inl bf))] ++ wt)) H := hP
          have hD : va_D A ([] ++ ([(tp, .inr (8, [.ref bp, .int n, .int y_64, .int y_65, .int y_66])), (bp, .inl (G.2.2 0, 400, .inl bf))] ++ wt)) := hD
          refine gt_callI (wr := []) (va_runV (As := [.ref tp]) (rest := []) ⟨hx, hb, hml, hown, ht⟩ (d_readSum l G Γ H.size wt hT K V t tp bp n y_64 y_65 y_66 bf k_t (by first | assumption | omega) (by first | assumption | omega) (by first | assumption | omega) (by first | assumption | omega) (by first | assumption | omega)) (cwV 1 ht (ts_gV wd_721 wd_723 wd_6 wd_128 wd_724) rfl rfl rfl (by decide +kernel) ⟨Nat.le_of_ble_eq_true rfl, Nat.le_of_ble_eq_true rfl⟩) (gx_preW (we := [(tp, .inr (8, [.ref bp, .int n, .int y_64, .int y_65, .int y_66])), (bp, .inl (G.2.2 0, 400, .inl bf))]) (ci := 4) hK hT (tw_right hP) (tw_rightD hD) hX hS (tw_free hD hS hA) k_t (by decide) rfl) rfl rfl hl.1 rfl (lv_room (Nat.le_of_ble_eq_true rfl)) dX4_readFact_138 ⟨Nat.le_of_ble_eq_true rfl, Nat.le_of_ble_eq_true rfl⟩) hP hD hS hA (fun r_70 u H locs hw hP hD hS => ?_)
          obtain ⟨y_71, y_72, y_73, wt⟩ := u
          obtain ⟨hT, hkp, w_74, w_75, w_76, lo_r_70, hi_r_70⟩ := hw
          have hW := hW.call (show ∀ x ∈ [406, 407, 408], x ∈ [406, 407, 408] by decide) hkp
          have hP : va_P (gg_D G) classes ([(tp, .inr (8, [.ref bp, .int n, .int y_71, .int y_72, .int y_73])), (bp, .inl (G.2.2 0, 400, .inl bf))] ++ wt) H := hP
          have hD : va_D A ([(tp, .inr (8, [.ref bp, .int n, .int y_71, .int y_72, .int y_73])), (bp, .inl (G.2.2 0, 400, .inl bf))] ++ wt) := hD
          refine lv_if_eq (tgt := 157) hx hb dX4_readFact_141 (by decide) (fun c_77 => ?_) (fun c_77 => ?_)
          · rw [← Int32.toInt_inj] at c_77
            refine lv_iconst (v := 0) hx hb dX4_readFact_157 (by decide +kernel) ?_
            have hP9 : va_P (gg_D G) classes ([(tp, .inr (8, [.ref bp, .int n, .int y_71, .int y_72, .int y_73])), (bp, .inl (G.2.2 0, 400, .inl bf))] ++ wt) _ := hP
            have hD9 : va_D A ([(tp, .inr (8, [.ref bp, .int n, .int y_71, .int y_72, .int y_73])), (bp, .inl (G.2.2 0, 400, .inl bf))] ++ wt) := hD
            exact W.zret (v := 0) hx hb hr (by decide +kernel) (gq_endI (y_71, y_72, y_73, wt) ⟨hT, hW, (by omega), (by omega), (by omega), (by omega), (by omega)⟩ hP9 hD9 hS) hS.2.2 dX4_readFact_158
          · rw [← Int32.toInt_inj] at c_77
            refine lv_aload_n hx hb dX4_readFact_144 rfl (lv_at hl 3 rfl) ?_
            refine lv_iload hx hb dX4_readFact_145 (lv_at hl 0 rfl) ?_
            refine gt_callI (wr := [(tp, .inr (8, [.ref bp, .int n, .int y_71, .int y_72, .int y_73])), (bp, .inl (G.2.2 0, 400, .inl bf))]) (va_runV (As := [.int 17]) (rest := []) ⟨hx, hb, hml, hown, ht⟩ (d_step l G Γ H.size wt hT t 17 k_t (by omega) (by omega)) (cwV 1 ht (ts_gV wd_736 wd_738 wd_9 wd_128 wd_739) rfl rfl rfl (by decide +kernel) ⟨Nat.le_of_ble_eq_true rfl, Nat.le_of_ble_eq_true rfl⟩) (gt_preW (ci := 4) hK hT (tw_right hP) (tw_rightD hD) k_t (by decide) rfl) rfl rfl hl.1 rfl (lv_room (Nat.le_of_ble_eq_true rfl)) dX4_readFact_147 ⟨Nat.le_of_ble_eq_true rfl, Nat.le_of_ble_eq_true rfl⟩) hP hD hS hA (fun r_78 wt H locs hw hP hD hS => ?_)
            obtain ⟨hT, hkp, lo_r_78, hi_r_78⟩ := hw
            have hW := hW.call (show ∀ x ∈ [406], x ∈ [406, 407, 408] by decide) hkp
            have hP : va_P (gg_D G) classes ([(tp, .inr (8, [.ref bp, .int n, .int y_71, .int y_72, .int y_73])), (bp, .inl (G.2.2 0, 400, .inl bf))] ++ wt) H := hP
            have hD : va_D A ([(tp, .inr (8, [.ref bp, .int n, .int y_71, .int y_72, .int y_73])), (bp, .inl (G.2.2 0, 400, .inl bf))] ++ wt) := hD
            refine lv_if_eq (tgt := 157) hx hb dX4_readFact_150 (by decide) (fun c_79 => ?_) (fun c_79 => ?_)
            · rw [← Int32.toInt_inj] at c_79
              refine lv_iconst (v := 0) hx hb dX4_readFact_157 (by decide +kernel) ?_
              have hP9 : va_P (gg_D G) classes ([(tp, .inr (8, [.ref bp, .int n, .int y_71, .int y_72, .int y_73])), (bp, .inl (G.2.2 0, 400, .inl bf))] ++ wt) _ := hP
              have hD9 : va_D A ([(tp, .inr (8, [.ref bp, .int n, .int y_71, .int y_72, .int y_73])), (bp, .inl (G.2.2 0, 400, .inl bf))] ++ wt) := hD
              exact W.zret (v := 0) hx hb hr (by decide +kernel) (gq_endI (y_71, y_72, y_73, wt) ⟨hT, hW, (by omega), (by omega), (by omega), (by omega), (by omega)⟩ hP9 hD9 hS) hS.2.2 dX4_readFact_158
            · rw [← Int32.toInt_inj] at c_79
              refine lv_iconst (v := 1) hx hb dX4_readFact_153 (by decide +kernel) ?_
              refine lv_goto (tgt := 158) hx hb dX4_readFact_154 (by decide) ?_
              have hP9 : va_P (gg_D G) classes ([(tp, .inr (8, [.ref bp, .int n, .int y_71, .int y_72, .int y_73])), (bp, .inl (G.2.2 0, 400, .inl bf))] ++ wt) _ := hP
              have hD9 : va_D A ([(tp, .inr (8, [.ref bp, .int n, .int y_71, .int y_72, .int y_73])), (bp, .inl (G.2.2 0, 400, .inl bf))] ++ wt) := hD
              exact W.zret (v := 1) hx hb hr (by decide +kernel) (gq_endI (y_71, y_72, y_73, wt) ⟨hT, hW, (by omega), (by omega), (by omega), (by omega), (by omega)⟩ hP9 hD9 hS) hS.2.2 dX4_readFact_158
        · rw [← Int32.toInt_inj] at c_63
          refine lv_iconst (v := 0) hx hb dX4_readFact_55 (by decide +kernel) ?_
          have hP9 : va_P (gg_D G) classes ([(tp, .inr (8, [.ref bp, .int n, .int y_57, .int y_58, .int y_59])), (bp, .inl (G.2.2 0, 400, .inl bf))] ++ wt) _ := hP
          have hD9 : va_D A ([(tp, .inr (8, [.ref bp, .int n, .int y_57, .int y_58, .int y_59])), (bp, .inl (G.2.2 0, 400, .inl bf))] ++ wt) := hD
          exact W.zret (v := 0) hx hb hr (by decide +kernel) (gq_endI (y_57, y_58, y_59, wt) ⟨hT, hW, (by omega), (by omega), (by omega), (by omega), (by omega)⟩ hP9 hD9 hS) hS.2.2 dX4_readFact_56
      · rw [← Int32.toInt_inj] at c_54
        refine lv_iload_n hx hb dX4_readFact_27 rfl (lv_at hl 0 rfl) ?_
        refine lv_bipush (v := 62) hx hb dX4_readFact_28 (by decide +kernel) ?_
        refine lv_icmp_eq (tgt := 43) hx hb dX4_readFact_30 (by decide) (fun c_80 => ?_) (fun c_80 => ?_)
        · rw [← Int32.toInt_inj] at c_80
          refine lv_aload_n hx hb dX4_readFact_43 rfl (lv_at hl 1 rfl) ?_
          refine lv_aload_n hx hb dX4_readFact_44 rfl (lv_at hl 2 rfl) ?_
          refine lv_aload_n hx hb dX4_readFact_45 rfl (lv_at hl 2 rfl) ?_
          have hP : va_P (gg_D G) classes ([] ++ ([(tp, .inr (8, [.ref bp, .int n, .int y_2, .int y_3, .int y_4])), (bp, .inl (G.2.2 0, 400, .inl bf))] ++ wt)) H := hP
          have hD : va_D A ([] ++ ([(tp, .inr (8, [.ref bp, .int n, .int y_2, .int y_3, .int y_4])), (bp, .inl (G.2.2 0, 400, .inl bf))] ++ wt)) := hD
          refine gt_callI (wr := []) (va_runV (As := []) (rest := [.ref tp, .ref t]) ⟨hx, hb, hml, hown, ht⟩ (d_place l G Γ H.size wt hT tp bp n y_2 y_3 y_4 bf (by first | assumption | omega) (by first | assumption | omega) (by first | assumption | omega) (by first | assumption | omega) (by first | assumption | omega)) (cwV 0 ht (ts_gV wd_718 wd_640 wd_641 wd_123 wd_642) rfl rfl rfl (by decide +kernel) ⟨Nat.le_of_ble_eq_true rfl, Nat.le_of_ble_eq_true rfl⟩) (gc_preV (ci := 8) (q0 := 0) hK (tw_right hP) (tw_rightD hD) rfl rfl) rfl rfl hl.1 rfl (lv_room (Nat.le_of_ble_eq_true rfl)) dX4_readFact_46 ⟨Nat.le_of_ble_eq_true rfl, Nat.le_of_ble_eq_true rfl⟩) hP hD hS hA (fun r_81 wt H locs hw hP hD hS => ?_)
          obtain ⟨hT, hkp, lo_r_81, hi_r_81⟩ := hw
          have hW := hW.call (show ∀ x ∈ [], x ∈ [406, 407, 408] by decide) hkp
          have hP : va_P (gg_D G) classes ([(tp, .inr (8, [.ref bp, .int n, .int y_2, .int y_3, .int y_4])), (bp, .inl (G.2.2 0, 400, .inl bf))] ++ wt) H := hP
          have hD : va_D A ([(tp, .inr (8, [.ref bp, .int n, .int y_2, .int y_3, .int y_4])), (bp, .inl (G.2.2 0, 400, .inl bf))] ++ wt) := hD
          have hP : va_P (gg_D G) classes ([] ++ ([(tp, .inr (8, [.ref bp, .int n, .int y_2, .int y_3, .int y_4])), (bp, .inl (G.2.2 0, 400, .inl bf))] ++ wt)) H := hP
          have hD : va_D A ([] ++ ([(tp, .inr (8, [.ref bp, .int n, .int y_2, .int y_3, .int y_4])), (bp, .inl (G.2.2 0, 400, .inl bf))] ++ wt)) := hD
          refine gt_callI (wr := []) (va_runV (As := [.ref tp, .int r_81]) (rest := []) ⟨hx, hb, hml, hown, ht⟩ (d_isRoom l G Γ H.size wt hT t r_81 tp bp n y_2 y_3 y_4 bf k_t (by first | assumption | omega) (by first | assumption | omega) (by first | assumption | omega) (by first | assumption | omega) (by first | assumption | omega)) (cwV 2 ht (ts_gV wd_732 wd_734 wd_8 wd_128 wd_735) rfl rfl rfl (by decide +kernel) ⟨Nat.le_of_ble_eq_true rfl, Nat.le_of_ble_eq_true rfl⟩) (gt_preV (ci := 4) hK hT (tw_right hP) (tw_rightD hD) k_t (by decide) rfl) rfl rfl hl.1 rfl (lv_room (Nat.le_of_ble_eq_true rfl)) dX4_readFact_49 ⟨Nat.le_of_ble_eq_true rfl, Nat.le_of_ble_eq_true rfl⟩) hP hD hS hA (fun r_82 u H locs hw hP hD hS => ?_)
          obtain ⟨y_83, y_84, y_85, wt⟩ := u
          obtain ⟨hT, hkp, w_86, w_87, w_88, lo_r_82, hi_r_82⟩ := hw
          have hW := hW.call (show ∀ x ∈ [407], x ∈ [406, 407, 408] by decide) hkp
          have hP : va_P (gg_D G) classes ([(tp, .inr (8, [.ref bp, .int n, .int y_83, .int y_84, .int y_85])), (bp, .inl (G.2.2 0, 400, .inl bf))] ++ wt) H := hP
          have hD : va_D A ([(tp, .inr (8, [.ref bp, .int n, .int y_83, .int y_84, .int y_85])), (bp, .inl (G.2.2 0, 400, .inl bf))] ++ wt) := hD
          refine lv_if_ne (tgt := 57) hx hb dX4_readFact_52 (by decide) (fun c_89 => ?_) (fun c_89 => ?_)
          · rw [← Int32.toInt_inj] at c_89
            refine lv_iload_n hx hb dX4_readFact_57 rfl (lv_at hl 0 rfl) ?_
            refine lv_bipush (v := 61) hx hb dX4_readFact_58 (by decide +kernel) ?_
            refine lv_icmp_eq (tgt := 76) hx hb dX4_readFact_60 (by decide) (fun c0 => False.elim (by rw [← Int32.toInt_inj] at c0; omega)) (fun _ => ?_)
            refine lv_aload_n hx hb dX4_readFact_63 rfl (lv_at hl 2 rfl) ?_
            have hP : va_P (gg_D G) classes ([] ++ ([(tp, .inr (8, [.ref bp, .int n, .int y_83, .int y_84, .int y_85])), (bp, .inl (G.2.2 0, 400, .inl bf))] ++ wt)) H := hP
            have hD : va_D A ([] ++ ([(tp, .inr (8, [.ref bp, .int n, .int y_83, .int y_84, .int y_85])), (bp, .inl (G.2.2 0, 400, .inl bf))] ++ wt)) := hD
            refine gt_callI (wr := []) (va_runV (As := []) (rest := []) ⟨hx, hb, hml, hown, ht⟩ (d_signBehind l G Γ H.size wt hT tp bp n y_83 y_84 y_85 bf (by first | assumption | omega) (by first | assumption | omega) (by first | assumption | omega) (by first | assumption | omega) (by first | assumption | omega)) (cwV 0 ht (ts_gV wd_764 wd_765 wd_766 wd_123 wd_767) rfl rfl rfl (by decide +kernel) ⟨Nat.le_of_ble_eq_true rfl, Nat.le_of_ble_eq_true rfl⟩) (gc_preV (ci := 8) (q0 := 0) hK (tw_right hP) (tw_rightD hD) rfl rfl) rfl rfl hl.1 rfl (lv_room (Nat.le_of_ble_eq_true rfl)) dX4_readFact_64 ⟨Nat.le_of_ble_eq_true rfl, Nat.le_of_ble_eq_true rfl⟩) hP hD hS hA (fun r_90 wt H locs hw hP hD hS => ?_)
            obtain ⟨hT, hkp⟩ := hw
            have hW := hW.call (show ∀ x ∈ [], x ∈ [406, 407, 408] by decide) hkp
            have hP : va_P (gg_D G) classes ([(tp, .inr (8, [.ref bp, .int n, .int y_83, .int y_84, .int y_85])), (bp, .inl (G.2.2 0, 400, .inl bf))] ++ wt) H := hP
            have hD : va_D A ([(tp, .inr (8, [.ref bp, .int n, .int y_83, .int y_84, .int y_85])), (bp, .inl (G.2.2 0, 400, .inl bf))] ++ wt) := hD
            refine lv_bipush (v := 61) hx hb dX4_readFact_67 (by decide +kernel) ?_
            refine lv_icmp_ne (tgt := 76) hx hb dX4_readFact_69 (by decide) (fun c_91 => ?_) (fun c_91 => ?_)
            · rw [← Int32.toInt_inj] at c_91
              refine lv_iconst (v := 0) hx hb dX4_readFact_76 (by decide +kernel) ?_
              refine lv_istore_n (lv' := [(3, .int 0), (2, .int r_9), (0, .ref t), (1, .ref tp)]) hx hb dX4_readFact_77 rfl hl (by decide) rfl (fun ls hl => ?_)
              refine lv_bipush (v := 17) hx hb dX4_readFact_78 (by decide +kernel) ?_
              refine lv_istore (lv' := [(4, .int 17), (3, .int 0), (2, .int r_9), (0, .ref t), (1, .ref tp)]) hx hb dX4_readFact_80 hl (by decide) rfl (fun ls hl => ?_)
              refine lv_iload_n hx hb dX4_readFact_82 rfl (lv_at hl 2 rfl) ?_
              refine lv_bipush (v := 60) hx hb dX4_readFact_83 (by decide +kernel) ?_
              refine lv_icmp_ne (tgt := 104) hx hb dX4_readFact_85 (by decide) (fun _ => ?_) (fun c0 => False.elim (by rw [← Int32.toInt_inj] at c0; omega))
              refine lv_iload_n hx hb dX4_readFact_104 rfl (lv_at hl 2 rfl) ?_
              refine lv_bipush (v := 62) hx hb dX4_readFact_105 (by decide +kernel) ?_
              refine lv_icmp_ne (tgt := 123) hx hb dX4_readFact_107 (by decide) (fun c0 => False.elim (by rw [← Int32.toInt_inj] at c0; omega)) (fun _ => ?_)
              refine lv_iload_n hx hb dX4_readFact_110 rfl (lv_at hl 1 rfl) ?_
              refine lv_if_eq (tgt := 119) hx hb dX4_readFact_111 (by decide) (fun _ => ?_) (fun c0 => False.elim (by rw [← Int32.toInt_inj] at c0; omega))
              refine lv_bipush (v := 19) hx hb dX4_readFact_119 (by decide +kernel) ?_
              refine lv_istore (lv' := [(4, .int 19), (3, .int 0), (2, .int r_9), (0, .ref t), (1, .ref tp)]) hx hb dX4_readFact_121 hl (by decide) rfl (fun ls hl => ?_)
              refine lv_aload_n hx hb dX4_readFact_123 rfl (lv_at hl 4 rfl) ?_
              refine lv_iload_n hx hb dX4_readFact_124 rfl (lv_at hl 1 rfl) ?_
              refine lv_if_eq (tgt := 132) hx hb dX4_readFact_125 (by decide) (fun _ => ?_) (fun c0 => False.elim (by rw [← Int32.toInt_inj] at c0; omega))
              refine lv_iconst (v := 1) hx hb dX4_readFact_132 (by decide +kernel) ?_
              have hP : va_P (gg_D G) classes ([] ++ ([(tp, .inr (8, [.ref bp, .int n, .int y_83, .int y_84, .int y_85])), (bp, .inl (G.2.2 0, 400, .inl bf))] ++ wt)) H := hP
              have hD : va_D A ([] ++ ([(tp, .inr (8, [.ref bp, .int n, .int y_83, .int y_84, .int y_85])), (bp, .inl (G.2.2 0, 400, .inl bf))] ++ wt)) := hD
              refine gt_callV (wr := []) (va_runV (As := [.int 1]) (rest := []) ⟨hx, hb, hml, hown, ht⟩ (d_skip l G Γ H.size wt hT 1 tp bp n y_83 y_84 y_85 bf (by omega) (by omega) (by first | assumption | omega) (by first | assumption | omega) (by first | assumption | omega) (by first | assumption | omega) (by first | assumption | omega)) (cwV 1 ht (ts_gV wd_741 wd_742 wd_743 wd_123 wd_744) rfl rfl rfl (by decide +kernel) ⟨Nat.le_of_ble_eq_true rfl, Nat.le_of_ble_eq_true rfl⟩) (gc_preV (ci := 8) (q0 := 0) hK (tw_right hP) (tw_rightD hD) rfl rfl) rfl rfl hl.1 rfl (lv_room (Nat.le_of_ble_eq_true rfl)) dX4_readFact_133 ⟨Nat.le_of_ble_eq_true rfl, Nat.le_of_ble_eq_true rfl⟩) hP hD hS hA (fun u H locs hw hP hD hS => ?_)
              obtain ⟨y_92, y_93, y_94, wt⟩ := u
              obtain ⟨hT, hkp, w_95, w_96, w_97⟩ := hw
              have hW := hW.call (show ∀ x ∈ [], x ∈ [406, 407, 408] by decide) hkp
              have hP : va_P (gg_D G) classes ([(tp, .inr (8, [.ref bp, .int n, .int y_92, .int y_93, .int y_94])), (bp, .inl (G.2.2 0, 400, .inl bf))] ++ wt) H := hP
              have hD : va_D A ([(tp, .inr (8, [.ref bp, .int n, .int y_92, .int y_93, .int y_94])), (bp, .inl (G.2.2 0, 400, .inl bf))] ++ wt) := hD
              refine lv_aload_n hx hb dX4_readFact_136 rfl (lv_at hl 3 rfl) ?_
              refine lv_aload_n hx hb dX4_readFact_137 rfl (lv_at hl 4 rfl) ?_
              have hP : va_P (gg_D G) classes ([] ++ ([(tp, .inr (8, [.ref bp, .int n, .int y_92, .int y_93, .int y_94])), (bp, .inl (G.2.2 0, 400, .inl bf))] ++ wt)) H := hP
              have hD : va_D A ([] ++ ([(tp, .inr (8, [.ref bp, .int n, .int y_92, .int y_93, .int y_94])), (bp, .inl (G.2.2 0, 400, .inl bf))] ++ wt)) := hD
              refine gt_callI (wr := []) (va_runV (As := [.ref tp]) (rest := []) ⟨hx, hb, hml, hown, ht⟩ (d_readSum l G Γ H.size wt hT K V t tp bp n y_92 y_93 y_94 bf k_t (by first | assumption | omega) (by first | assumption | omega) (by first | assumption | omega) (by first | assumption | omega) (by first | assumption | omega)) (cwV 1 ht (ts_gV wd_721 wd_723 wd_6 wd_128 wd_724) rfl rfl rfl (by decide +kernel) ⟨Nat.le_of_ble_eq_true rfl, Nat.le_of_ble_eq_true rfl⟩) (gx_preW (we := [(tp, .inr (8, [.ref bp, .int n, .int y_92, .int y_93, .int y_94])), (bp, .inl (G.2.2 0, 400, .inl bf))]) (ci := 4) hK hT (tw_right hP) (tw_rightD hD) hX hS (tw_free hD hS hA) k_t (by decide) rfl) rfl rfl hl.1 rfl (lv_room (Nat.le_of_ble_eq_true rfl)) dX4_readFact_138 ⟨Nat.le_of_ble_eq_true rfl, Nat.le_of_ble_eq_true rfl⟩) hP hD hS hA (fun r_98 u H locs hw hP hD hS => ?_)
              obtain ⟨y_99, y_100, y_101, wt⟩ := u
              obtain ⟨hT, hkp, w_102, w_103, w_104, lo_r_98, hi_r_98⟩ := hw
              have hW := hW.call (show ∀ x ∈ [406, 407, 408], x ∈ [406, 407, 408] by decide) hkp
              have hP : va_P (gg_D G) classes ([(tp, .inr (8, [.ref bp, .int n, .int y_99, .int y_100, .int y_101])), (bp, .inl (G.2.2 0, 400, .inl bf))] ++ wt) H := hP
              have hD : va_D A ([(tp, .inr (8, [.ref bp, .int n, .int y_99, .int y_100, .int y_101])), (bp, .inl (G.2.2 0, 400, .inl bf))] ++ wt) := hD
              refine lv_if_eq (tgt := 157) hx hb dX4_readFact_141 (by decide) (fun c_105 => ?_) (fun c_105 => ?_)
              · rw [← Int32.toInt_inj] at c_105
                refine lv_iconst (v := 0) hx hb dX4_readFact_157 (by decide +kernel) ?_
                have hP9 : va_P (gg_D G) classes ([(tp, .inr (8, [.ref bp, .int n, .int y_99, .int y_100, .int y_101])), (bp, .inl (G.2.2 0, 400, .inl bf))] ++ wt) _ := hP
                have hD9 : va_D A ([(tp, .inr (8, [.ref bp, .int n, .int y_99, .int y_100, .int y_101])), (bp, .inl (G.2.2 0, 400, .inl bf))] ++ wt) := hD
                exact W.zret (v := 0) hx hb hr (by decide +kernel) (gq_endI (y_99, y_100, y_101, wt) ⟨hT, hW, (by omega), (by omega), (by omega), (by omega), (by omega)⟩ hP9 hD9 hS) hS.2.2 dX4_readFact_158
              · rw [← Int32.toInt_inj] at c_105
                refine lv_aload_n hx hb dX4_readFact_144 rfl (lv_at hl 3 rfl) ?_
                refine lv_iload hx hb dX4_readFact_145 (lv_at hl 0 rfl) ?_
                refine gt_callI (wr := [(tp, .inr (8, [.ref bp, .int n, .int y_99, .int y_100, .int y_101])), (bp, .inl (G.2.2 0, 400, .inl bf))]) (va_runV (As := [.int 19]) (rest := []) ⟨hx, hb, hml, hown, ht⟩ (d_step l G Γ H.size wt hT t 19 k_t (by omega) (by omega)) (cwV 1 ht (ts_gV wd_736 wd_738 wd_9 wd_128 wd_739) rfl rfl rfl (by decide +kernel) ⟨Nat.le_of_ble_eq_true rfl, Nat.le_of_ble_eq_true rfl⟩) (gt_preW (ci := 4) hK hT (tw_right hP) (tw_rightD hD) k_t (by decide) rfl) rfl rfl hl.1 rfl (lv_room (Nat.le_of_ble_eq_true rfl)) dX4_readFact_147 ⟨Nat.le_of_ble_eq_true rfl, Nat.le_of_ble_eq_true rfl⟩) hP hD hS hA (fun r_106 wt H locs hw hP hD hS => ?_)
                obtain ⟨hT, hkp, lo_r_106, hi_r_106⟩ := hw
                have hW := hW.call (show ∀ x ∈ [406], x ∈ [406, 407, 408] by decide) hkp
                have hP : va_P (gg_D G) classes ([(tp, .inr (8, [.ref bp, .int n, .int y_99, .int y_100, .int y_101])), (bp, .inl (G.2.2 0, 400, .inl bf))] ++ wt) H := hP
                have hD : va_D A ([(tp, .inr (8, [.ref bp, .int n, .int y_99, .int y_100, .int y_101])), (bp, .inl (G.2.2 0, 400, .inl bf))] ++ wt) := hD
                refine lv_if_eq (tgt := 157) hx hb dX4_readFact_150 (by decide) (fun c_107 => ?_) (fun c_107 => ?_)
                · rw [← Int32.toInt_inj] at c_107
                  refine lv_iconst (v := 0) hx hb dX4_readFact_157 (by decide +kernel) ?_
                  have hP9 : va_P (gg_D G) classes ([(tp, .inr (8, [.ref bp, .int n, .int y_99, .int y_100, .int y_101])), (bp, .inl (G.2.2 0, 400, .inl bf))] ++ wt) _ := hP
                  have hD9 : va_D A ([(tp, .inr (8, [.ref bp, .int n, .int y_99, .int y_100, .int y_101])), (bp, .inl (G.2.2 0, 400, .inl bf))] ++ wt) := hD
                  exact W.zret (v := 0) hx hb hr (by decide +kernel) (gq_endI (y_99, y_100, y_101, wt) ⟨hT, hW, (by omega), (by omega), (by omega), (by omega), (by omega)⟩ hP9 hD9 hS) hS.2.2 dX4_readFact_158
                · rw [← Int32.toInt_inj] at c_107
                  refine lv_iconst (v := 1) hx hb dX4_readFact_153 (by decide +kernel) ?_
                  refine lv_goto (tgt := 158) hx hb dX4_readFact_154 (by decide) ?_
                  have hP9 : va_P (gg_D G) classes ([(tp, .inr (8, [.ref bp, .int n, .int y_99, .int y_100, .int y_101])), (bp, .inl (G.2.2 0, 400, .inl bf))] ++ wt) _ := hP
                  have hD9 : va_D A ([(tp, .inr (8, [.ref bp, .int n, .int y_99, .int y_100, .int y_101])), (bp, .inl (G.2.2 0, 400, .inl bf))] ++ wt) := hD
                  exact W.zret (v := 1) hx hb hr (by decide +kernel) (gq_endI (y_99, y_100, y_101, wt) ⟨hT, hW, (by omega), (by omega), (by omega), (by omega), (by omega)⟩ hP9 hD9 hS) hS.2.2 dX4_readFact_158
            · rw [← Int32.toInt_inj] at c_91
              refine lv_iconst (v := 1) hx hb dX4_readFact_72 (by decide +kernel) ?_
              refine lv_goto (tgt := 77) hx hb dX4_readFact_73 (by decide) ?_
              refine lv_istore_n (lv' := [(3, .int 1), (2, .int r_9), (0, .ref t), (1, .ref tp)]) hx hb dX4_readFact_77 rfl hl (by decide) rfl (fun ls hl => ?_)
              refine lv_bipush (v := 17) hx hb dX4_readFact_78 (by decide +kernel) ?_
              refine lv_istore (lv' := [(4, .int 17), (3, .int 1), (2, .int r_9), (0, .ref t), (1, .ref tp)]) hx hb dX4_readFact_80 hl (by decide) rfl (fun ls hl => ?_)
              refine lv_iload_n hx hb dX4_readFact_82 rfl (lv_at hl 2 rfl) ?_
              refine lv_bipush (v := 60) hx hb dX4_readFact_83 (by decide +kernel) ?_
              refine lv_icmp_ne (tgt := 104) hx hb dX4_readFact_85 (by decide) (fun _ => ?_) (fun c0 => False.elim (by rw [← Int32.toInt_inj] at c0; omega))
              refine lv_iload_n hx hb dX4_readFact_104 rfl (lv_at hl 2 rfl) ?_
              refine lv_bipush (v := 62) hx hb dX4_readFact_105 (by decide +kernel) ?_
              refine lv_icmp_ne (tgt := 123) hx hb dX4_readFact_107 (by decide) (fun c0 => False.elim (by rw [← Int32.toInt_inj] at c0; omega)) (fun _ => ?_)
              refine lv_iload_n hx hb dX4_readFact_110 rfl (lv_at hl 1 rfl) ?_
              refine lv_if_eq (tgt := 119) hx hb dX4_readFact_111 (by decide) (fun c0 => False.elim (by rw [← Int32.toInt_inj] at c0; omega)) (fun _ => ?_)
              refine lv_bipush (v := 18) hx hb dX4_readFact_114 (by decide +kernel) ?_
              refine lv_goto (tgt := 121) hx hb dX4_readFact_116 (by decide) ?_
              refine lv_istore (lv' := [(4, .int 18), (3, .int 1), (2, .int r_9), (0, .ref t), (1, .ref tp)]) hx hb dX4_readFact_121 hl (by decide) rfl (fun ls hl => ?_)
              refine lv_aload_n hx hb dX4_readFact_123 rfl (lv_at hl 4 rfl) ?_
              refine lv_iload_n hx hb dX4_readFact_124 rfl (lv_at hl 1 rfl) ?_
              refine lv_if_eq (tgt := 132) hx hb dX4_readFact_125 (by decide) (fun c0 => False.elim (by rw [← Int32.toInt_inj] at c0; omega)) (fun _ => ?_)
              refine lv_iconst (v := 2) hx hb dX4_readFact_128 (by decide +kernel) ?_
              refine lv_goto (tgt := 133) hx hb dX4_readFact_129 (by decide) ?_
              have hP : va_P (gg_D G) classes ([] ++ ([(tp, .inr (8, [.ref bp, .int n, .int y_83, .int y_84, .int y_85])), (bp, .inl (G.2.2 0, 400, .inl bf))] ++ wt)) H := hP
              have hD : va_D A ([] ++ ([(tp, .inr (8, [.ref bp, .int n, .int y_83, .int y_84, .int y_85])), (bp, .inl (G.2.2 0, 400, .inl bf))] ++ wt)) := hD
              refine gt_callV (wr := []) (va_runV (As := [.int 2]) (rest := []) ⟨hx, hb, hml, hown, ht⟩ (d_skip l G Γ H.size wt hT 2 tp bp n y_83 y_84 y_85 bf (by omega) (by omega) (by first | assumption | omega) (by first | assumption | omega) (by first | assumption | omega) (by first | assumption | omega) (by first | assumption | omega)) (cwV 1 ht (ts_gV wd_741 wd_742 wd_743 wd_123 wd_744) rfl rfl rfl (by decide +kernel) ⟨Nat.le_of_ble_eq_true rfl, Nat.le_of_ble_eq_true rfl⟩) (gc_preV (ci := 8) (q0 := 0) hK (tw_right hP) (tw_rightD hD) rfl rfl) rfl rfl hl.1 rfl (lv_room (Nat.le_of_ble_eq_true rfl)) dX4_readFact_133 ⟨Nat.le_of_ble_eq_true rfl, Nat.le_of_ble_eq_true rfl⟩) hP hD hS hA (fun u H locs hw hP hD hS => ?_)
              obtain ⟨y_108, y_109, y_110, wt⟩ := u
              obtain ⟨hT, hkp, w_111, w_112, w_113⟩ := hw
              have hW := hW.call (show ∀ x ∈ [], x ∈ [406, 407, 408] by decide) hkp
              have hP : va_P (gg_D G) classes ([(tp, .inr (8, [.ref bp, .int n, .int y_108, .int y_109, .int y_110])), (bp, .inl (G.2.2 0, 400, .inl bf))] ++ wt) H := hP
              have hD : va_D A ([(tp, .inr (8, [.ref bp, .int n, .int y_108, .int y_109, .int y_110])), (bp, .inl (G.2.2 0, 400, .inl bf))] ++ wt) := hD
              refine lv_aload_n hx hb dX4_readFact_136 rfl (lv_at hl 3 rfl) ?_
              refine lv_aload_n hx hb dX4_readFact_137 rfl (lv_at hl 4 rfl) ?_
              have hP : va_P (gg_D G) classes ([] ++ ([(tp, .inr (8, [.ref bp, .int n, .int y_108, .int y_109, .int y_110])), (bp, .inl (G.2.2 0, 400, .inl bf))] ++ wt)) H := hP
              have hD : va_D A ([] ++ ([(tp, .inr (8, [.ref bp, .int n, .int y_108, .int y_109, .int y_110])), (bp, .inl (G.2.2 0, 400, .inl bf))] ++ wt)) := hD
              refine gt_callI (wr := []) (va_runV (As := [.ref tp]) (rest := []) ⟨hx, hb, hml, hown, ht⟩ (d_readSum l G Γ H.size wt hT K V t tp bp n y_108 y_109 y_110 bf k_t (by first | assumption | omega) (by first | assumption | omega) (by first | assumption | omega) (by first | assumption | omega) (by first | assumption | omega)) (cwV 1 ht (ts_gV wd_721 wd_723 wd_6 wd_128 wd_724) rfl rfl rfl (by decide +kernel) ⟨Nat.le_of_ble_eq_true rfl, Nat.le_of_ble_eq_true rfl⟩) (gx_preW (we := [(tp, .inr (8, [.ref bp, .int n, .int y_108, .int y_109, .int y_110])), (bp, .inl (G.2.2 0, 400, .inl bf))]) (ci := 4) hK hT (tw_right hP) (tw_rightD hD) hX hS (tw_free hD hS hA) k_t (by decide) rfl) rfl rfl hl.1 rfl (lv_room (Nat.le_of_ble_eq_true rfl)) dX4_readFact_138 ⟨Nat.le_of_ble_eq_true rfl, Nat.le_of_ble_eq_true rfl⟩) hP hD hS hA (fun r_114 u H locs hw hP hD hS => ?_)
              obtain ⟨y_115, y_116, y_117, wt⟩ := u
              obtain ⟨hT, hkp, w_118, w_119, w_120, lo_r_114, hi_r_114⟩ := hw
              have hW := hW.call (show ∀ x ∈ [406, 407, 408], x ∈ [406, 407, 408] by decide) hkp
              have hP : va_P (gg_D G) classes ([(tp, .inr (8, [.ref bp, .int n, .int y_115, .int y_116, .int y_117])), (bp, .inl (G.2.2 0, 400, .inl bf))] ++ wt) H := hP
              have hD : va_D A ([(tp, .inr (8, [.ref bp, .int n, .int y_115, .int y_116, .int y_117])), (bp, .inl (G.2.2 0, 400, .inl bf))] ++ wt) := hD
              refine lv_if_eq (tgt := 157) hx hb dX4_readFact_141 (by decide) (fun c_121 => ?_) (fun c_121 => ?_)
              · rw [← Int32.toInt_inj] at c_121
                refine lv_iconst (v := 0) hx hb dX4_readFact_157 (by decide +kernel) ?_
                have hP9 : va_P (gg_D G) classes ([(tp, .inr (8, [.ref bp, .int n, .int y_115, .int y_116, .int y_117])), (bp, .inl (G.2.2 0, 400, .inl bf))] ++ wt) _ := hP
                have hD9 : va_D A ([(tp, .inr (8, [.ref bp, .int n, .int y_115, .int y_116, .int y_117])), (bp, .inl (G.2.2 0, 400, .inl bf))] ++ wt) := hD
                exact W.zret (v := 0) hx hb hr (by decide +kernel) (gq_endI (y_115, y_116, y_117, wt) ⟨hT, hW, (by omega), (by omega), (by omega), (by omega), (by omega)⟩ hP9 hD9 hS) hS.2.2 dX4_readFact_158
              · rw [← Int32.toInt_inj] at c_121
                refine lv_aload_n hx hb dX4_readFact_144 rfl (lv_at hl 3 rfl) ?_
                refine lv_iload hx hb dX4_readFact_145 (lv_at hl 0 rfl) ?_
                refine gt_callI (wr := [(tp, .inr (8, [.ref bp, .int n, .int y_115, .int y_116, .int y_117])), (bp, .inl (G.2.2 0, 400, .inl bf))]) (va_runV (As := [.int 18]) (rest := []) ⟨hx, hb, hml, hown, ht⟩ (d_step l G Γ H.size wt hT t 18 k_t (by omega) (by omega)) (cwV 1 ht (ts_gV wd_736 wd_738 wd_9 wd_128 wd_739) rfl rfl rfl (by decide +kernel) ⟨Nat.le_of_ble_eq_true rfl, Nat.le_of_ble_eq_true rfl⟩) (gt_preW (ci := 4) hK hT (tw_right hP) (tw_rightD hD) k_t (by decide) rfl) rfl rfl hl.1 rfl (lv_room (Nat.le_of_ble_eq_true rfl)) dX4_readFact_147 ⟨Nat.le_of_ble_eq_true rfl, Nat.le_of_ble_eq_true rfl⟩) hP hD hS hA (fun r_122 wt H locs hw hP hD hS => ?_)
                obtain ⟨hT, hkp, lo_r_122, hi_r_122⟩ := hw
                have hW := hW.call (show ∀ x ∈ [406], x ∈ [406, 407, 408] by decide) hkp
                have hP : va_P (gg_D G) classes ([(tp, .inr (8, [.ref bp, .int n, .int y_115, .int y_116, .int y_117])), (bp, .inl (G.2.2 0, 400, .inl bf))] ++ wt) H := hP
                have hD : va_D A ([(tp, .inr (8, [.ref bp, .int n, .int y_115, .int y_116, .int y_117])), (bp, .inl (G.2.2 0, 400, .inl bf))] ++ wt) := hD
                refine lv_if_eq (tgt := 157) hx hb dX4_readFact_150 (by decide) (fun c_123 => ?_) (fun c_123 => ?_)
                · rw [← Int32.toInt_inj] at c_123
                  refine lv_iconst (v := 0) hx hb dX4_readFact_157 (by decide +kernel) ?_
                  have hP9 : va_P (gg_D G) classes ([(tp, .inr (8, [.ref bp, .int n, .int y_115, .int y_116, .int y_117])), (bp, .inl (G.2.2 0, 400, .inl bf))] ++ wt) _ := hP
                  have hD9 : va_D A ([(tp, .inr (8, [.ref bp, .int n, .int y_115, .int y_116, .int y_117])), (bp, .inl (G.2.2 0, 400, .inl bf))] ++ wt) := hD
                  exact W.zret (v := 0) hx hb hr (by decide +kernel) (gq_endI (y_115, y_116, y_117, wt) ⟨hT, hW, (by omega), (by omega), (by omega), (by omega), (by omega)⟩ hP9 hD9 hS) hS.2.2 dX4_readFact_158
                · rw [← Int32.toInt_inj] at c_123
                  refine lv_iconst (v := 1) hx hb dX4_readFact_153 (by decide +kernel) ?_
                  refine lv_goto (tgt := 158) hx hb dX4_readFact_154 (by decide) ?_
                  have hP9 : va_P (gg_D G) classes ([(tp, .inr (8, [.ref bp, .int n, .int y_115, .int y_116, .int y_117])), (bp, .inl (G.2.2 0, 400, .inl bf))] ++ wt) _ := hP
                  have hD9 : va_D A ([(tp, .inr (8, [.ref bp, .int n, .int y_115, .int y_116, .int y_117])), (bp, .inl (G.2.2 0, 400, .inl bf))] ++ wt) := hD
                  exact W.zret (v := 1) hx hb hr (by decide +kernel) (gq_endI (y_115, y_116, y_117, wt) ⟨hT, hW, (by omega), (by omega), (by omega), (by omega), (by omega)⟩ hP9 hD9 hS) hS.2.2 dX4_readFact_158
          · rw [← Int32.toInt_inj] at c_89
            refine lv_iconst (v := 0) hx hb dX4_readFact_55 (by decide +kernel) ?_
            have hP9 : va_P (gg_D G) classes ([(tp, .inr (8, [.ref bp, .int n, .int y_83, .int y_84, .int y_85])), (bp, .inl (G.2.2 0, 400, .inl bf))] ++ wt) _ := hP
            have hD9 : va_D A ([(tp, .inr (8, [.ref bp, .int n, .int y_83, .int y_84, .int y_85])), (bp, .inl (G.2.2 0, 400, .inl bf))] ++ wt) := hD
            exact W.zret (v := 0) hx hb hr (by decide +kernel) (gq_endI (y_83, y_84, y_85, wt) ⟨hT, hW, (by omega), (by omega), (by omega), (by omega), (by omega)⟩ hP9 hD9 hS) hS.2.2 dX4_readFact_56
        · rw [← Int32.toInt_inj] at c_80
          refine lv_aload_n hx hb dX4_readFact_33 rfl (lv_at hl 2 rfl) ?_
          refine lv_aload_n hx hb dX4_readFact_34 rfl (lv_at hl 2 rfl) ?_
          have hP : va_P (gg_D G) classes ([] ++ ([(tp, .inr (8, [.ref bp, .int n, .int y_2, .int y_3, .int y_4])), (bp, .inl (G.2.2 0, 400, .inl bf))] ++ wt)) H := hP
          have hD : va_D A ([] ++ ([(tp, .inr (8, [.ref bp, .int n, .int y_2, .int y_3, .int y_4])), (bp, .inl (G.2.2 0, 400, .inl bf))] ++ wt)) := hD
          refine gt_callI (wr := []) (va_runV (As := []) (rest := [.ref tp]) ⟨hx, hb, hml, hown, ht⟩ (d_place l G Γ H.size wt hT tp bp n y_2 y_3 y_4 bf (by first | assumption | omega) (by first | assumption | omega) (by first | assumption | omega) (by first | assumption | omega) (by first | assumption | omega)) (cwV 0 ht (ts_gV wd_718 wd_640 wd_641 wd_123 wd_642) rfl rfl rfl (by decide +kernel) ⟨Nat.le_of_ble_eq_true rfl, Nat.le_of_ble_eq_true rfl⟩) (gc_preV (ci := 8) (q0 := 0) hK (tw_right hP) (tw_rightD hD) rfl rfl) rfl rfl hl.1 rfl (lv_room (Nat.le_of_ble_eq_true rfl)) dX4_readFact_35 ⟨Nat.le_of_ble_eq_true rfl, Nat.le_of_ble_eq_true rfl⟩) hP hD hS hA (fun r_124 wt H locs hw hP hD hS => ?_)
          obtain ⟨hT, hkp, lo_r_124, hi_r_124⟩ := hw
          have hW := hW.call (show ∀ x ∈ [], x ∈ [406, 407, 408] by decide) hkp
          have hP : va_P (gg_D G) classes ([(tp, .inr (8, [.ref bp, .int n, .int y_2, .int y_3, .int y_4])), (bp, .inl (G.2.2 0, 400, .inl bf))] ++ wt) H := hP
          have hD : va_D A ([(tp, .inr (8, [.ref bp, .int n, .int y_2, .int y_3, .int y_4])), (bp, .inl (G.2.2 0, 400, .inl bf))] ++ wt) := hD
          refine lv_iconst (v := 0) hx hb dX4_readFact_38 (by decide +kernel) ?_
          have hP : va_P (gg_D G) classes ([] ++ ([(tp, .inr (8, [.ref bp, .int n, .int y_2, .int y_3, .int y_4])), (bp, .inl (G.2.2 0, 400, .inl bf))] ++ wt)) H := hP
          have hD : va_D A ([] ++ ([(tp, .inr (8, [.ref bp, .int n, .int y_2, .int y_3, .int y_4])), (bp, .inl (G.2.2 0, 400, .inl bf))] ++ wt)) := hD
          refine gt_callI (wr := []) (va_runV (As := [.int r_124, .int 0]) (rest := []) ⟨hx, hb, hml, hown, ht⟩ (d_refuse l G Γ H.size wt hT r_124 0 tp bp n y_2 y_3 y_4 bf (by first | assumption | omega) (by first | assumption | omega) (by first | assumption | omega) (by first | assumption | omega) (by first | assumption | omega)) (cwV 2 ht (ts_gV wd_719 wd_644 wd_645 wd_123 wd_646) rfl rfl rfl (by decide +kernel) ⟨Nat.le_of_ble_eq_true rfl, Nat.le_of_ble_eq_true rfl⟩) (gc_preV (ci := 8) (q0 := 0) hK (tw_right hP) (tw_rightD hD) rfl rfl) rfl rfl hl.1 rfl (lv_room (Nat.le_of_ble_eq_true rfl)) dX4_readFact_39 ⟨Nat.le_of_ble_eq_true rfl, Nat.le_of_ble_eq_true rfl⟩) hP hD hS hA (fun r_125 u H locs hw hP hD hS => ?_)
          obtain ⟨y_126, y_127, y_128, wt⟩ := u
          obtain ⟨hT, hkp, w_129, w_130, w_131, lo_r_125, hi_r_125⟩ := hw
          have hW := hW.call (show ∀ x ∈ [], x ∈ [406, 407, 408] by decide) hkp
          have hP : va_P (gg_D G) classes ([(tp, .inr (8, [.ref bp, .int n, .int y_126, .int y_127, .int y_128])), (bp, .inl (G.2.2 0, 400, .inl bf))] ++ wt) H := hP
          have hD : va_D A ([(tp, .inr (8, [.ref bp, .int n, .int y_126, .int y_127, .int y_128])), (bp, .inl (G.2.2 0, 400, .inl bf))] ++ wt) := hD
          have z_r_125 : r_125 = 0 := by rw [← Int32.toInt_inj]; omega
          subst z_r_125
          have hP9 : va_P (gg_D G) classes ([(tp, .inr (8, [.ref bp, .int n, .int y_126, .int y_127, .int y_128])), (bp, .inl (G.2.2 0, 400, .inl bf))] ++ wt) _ := hP
          have hD9 : va_D A ([(tp, .inr (8, [.ref bp, .int n, .int y_126, .int y_127, .int y_128])), (bp, .inl (G.2.2 0, 400, .inl bf))] ++ wt) := hD
          exact W.zret (v := 0) hx hb hr (by decide +kernel) (gq_endI (y_126, y_127, y_128, wt) ⟨hT, hW, (by omega), (by omega), (by omega), (by omega), (by omega)⟩ hP9 hD9 hS) hS.2.2 dX4_readFact_42
  · rw [← Int32.toInt_inj] at c_8
    refine lv_iconst (v := 0) hx hb dX4_readFact_8 (by decide +kernel) ?_
    have hP9 : va_P (gg_D G) classes ([(tp, .inr (8, [.ref bp, .int n, .int y_2, .int y_3, .int y_4])), (bp, .inl (G.2.2 0, 400, .inl bf))] ++ wt) _ := hP
    have hD9 : va_D A ([(tp, .inr (8, [.ref bp, .int n, .int y_2, .int y_3, .int y_4])), (bp, .inl (G.2.2 0, 400, .inl bf))] ++ wt) := hD
    exact W.zret (v := 0) hx hb hr (by decide +kernel) (gq_endI (y_2, y_3, y_4, wt) ⟨hT, hW, (by omega), (by omega), (by omega), (by omega), (by omega)⟩ hP9 hD9 hS) hS.2.2 dX4_readFact_9
set_option maxHeartbeats 4000000 in
set_option maxRecDepth 100000 in
theorem d_factCome (l : Launch) (G : gg_T) (Γ : Nat → Nat) (sz : Nat) (wt : va_W) (hT : tk_ty G Γ wt) (K : Nat → Nat) (V : Nat → Nat) (t : Nat) (tp : Nat) (bp : Nat) (n : Int32) (at_ : Int32) (w_ : Int32) (fl : Int32) (bf : Nat → Int32) (k_t : Γ t = 5) (xp1 : 0 ≤ n.toInt) (xp2 : n.toInt ≤ 400) (xp3 : 0 ≤ at_.toInt) (xp4 : 0 ≤ w_.toInt) (xp5 : at_.toInt + w_.toInt ≤ 400) : Met l yX4_isFactToCome (ts_L yX4_isFactToCome cX4_isFactToCome 3 (some .boolean)) ({ frames := 6, cells := 0, slots := 0, locals := 131 }) (gx_P G K V ([(tp, .inr (8, [.ref bp, .int n, .int at_, .int w_, .int fl])), (bp, .inl (G.2.2 0, 400, .inl bf))] ++ wt) sz [.ref t, .ref tp]) (gc_I G (va_A ([(tp, .inr (8, [.ref bp, .int n, .int at_, .int w_, .int fl])), (bp, .inl (G.2.2 0, 400, .inl bf))] ++ wt) sz) (fun r (u : (Int32) × (Int32) × (Int32) × va_W) => match u with | (a1, w1, f1, wt1) => tk_ty G Γ wt1 ∧ tk_kp [405, 406] wt wt1 ∧ 0 ≤ a1.toInt ∧ 0 ≤ w1.toInt ∧ a1.toInt + w1.toInt ≤ 400 ∧ 0 ≤ r.toInt ∧ r.toInt ≤ 1) (fun (u : (Int32) × (Int32) × (Int32) × va_W) => match u with | (a1, w1, f1, wt1) => [(tp, .inr (8, [.ref bp, .int n, .int a1, .int w1, .int f1])), (bp, .inl (G.2.2 0, 400, .inl bf))] ++ wt1)) 0 0 (va_A ([(tp, .inr (8, [.ref bp, .int n, .int at_, .int w_, .int fl])), (bp, .inl (G.2.2 0, 400, .inl bf))] ++ wt) sz) := by
  refine Met.ofW (cc := cX4_isFactToCome) (maxL := 3) (ret := (some .boolean)) (by decide) rfl ?_
  intro p e s m args below meth c s₁ B hml hv
  obtain ⟨rfl, hsz, hP, hK, hD0, hX⟩ := hv
  have hx := B.exec
  have hb := B.bytes
  have hr := B.returns
  have ht := ts_ht (atoms_spec (ws := ts_L yX4_isFactToCome cX4_isFactToCome 3 (some .boolean)) B.pre)
  have hown : s.vm.findClass RX4 = some m.cls := findClass_of_methodNamed B.named
  have hlocks := B.notSynchronized
  subst hsz
  have hD := hD0.self (sz := s.heap.size)
  generalize hAe : va_A ([(tp, .inr (8, [.ref bp, .int n, .int at_, .int w_, .int fl])), (bp, .inl (G.2.2 0, 400, .inl bf))] ++ wt) s.heap.size = A at hD hX ⊢
  have hA : ∀ q : Nat, s.heap.size ≤ q → A q := fun q h => by rw [← hAe]; exact Or.inr h
  clear hAe hD0
  have hS : va_S A s.heap s.heap [] := va_S.rf
  obtain ⟨w0, hw0⟩ : ∃ z, z = wt := ⟨_, rfl⟩
  have hW : tk_kp [405, 406] w0 wt := by rw [hw0]; exact tk_kp.rf
  rw [← hw0]
  clear hw0
  have hP : va_P (gg_D G) classes ([(tp, .inr (8, [.ref bp, .int n, .int at_, .int w_, .int fl])), (bp, .inl (G.2.2 0, 400, .inl bf))] ++ wt) s.heap := hP
  have hD : va_D A ([(tp, .inr (8, [.ref bp, .int n, .int at_, .int w_, .int fl])), (bp, .inl (G.2.2 0, 400, .inl bf))] ++ wt) := hD
  have hl := lv_entry ([.ref t, .ref tp]) (n := 3) (Nat.le_of_ble_eq_true rfl)
  rw [lg_entry_eq]
  generalize (lg_sl ([.ref t, .ref tp]) ++ List.replicate (3 - (lg_sl ([.ref t, .ref tp])).length) Slot.unset).toArray = ls at hl ⊢
  have hl : lv_has ls 3 [(0, .ref t), (1, .ref tp)] := hl
  have l0 : (0 : Int32).toInt = 0 := by decide +kernel
  have l1 : (1 : Int32).toInt = 1 := by decide +kernel
  have l2 : (2 : Int32).toInt = 2 := by decide +kernel
  have l10 : (10 : Int32).toInt = 10 := by decide +kernel
  have l20 : (20 : Int32).toInt = 20 := by decide +kernel
  have l21 : (21 : Int32).toInt = 21 := by decide +kernel
  have l22 : (22 : Int32).toInt = 22 := by decide +kernel
  have l93 : (93 : Int32).toInt = 93 := by decide +kernel
  refine lv_iconst (v := 0) hx hb dX4_isFactToCome_0 (by decide +kernel) ?_
  refine lv_istore_n (lv' := [(2, .int 0), (0, .ref t), (1, .ref tp)]) hx hb dX4_isFactToCome_1 rfl hl (by decide) rfl (fun ls hl => ?_)
  refine tl_loopE (Γ := Γ) (nL := 3) (fun (zz_ : Int32 × Int32 × Int32 × Int32) => match zz_ with | (x2_0, x2_1, x2_2, x2_3) => 0 ≤ x2_0.toInt ∧ x2_0.toInt ≤ 11 ∧ 0 ≤ x2_1.toInt ∧ x2_1.toInt ≤ 400 ∧ 0 ≤ x2_2.toInt ∧ x2_2.toInt ≤ 400 ∧ x2_1.toInt + x2_2.toInt ≤ 400) (fun (zz_ : Int32 × Int32 × Int32 × Int32) => match zz_ with | (x2_0, x2_1, x2_2, x2_3) => (11 - x2_0.toInt).toNat) (fun (zz_ : Int32 × Int32 × Int32 × Int32) => match zz_ with | (x2_0, x2_1, x2_2, x2_3) => [(2, .int x2_0), (0, .ref t), (1, .ref tp)]) (fun (zz_ : Int32 × Int32 × Int32 × Int32) => match zz_ with | (x2_0, x2_1, x2_2, x2_3) => [(tp, .inr (8, [.ref bp, .int n, .int x2_1, .int x2_2, .int x2_3])), (bp, .inl (G.2.2 0, 400, .inl bf))]) (fun (zz_ : Int32 × Int32 × Int32 × Int32) (w : va_W) => match zz_ with | (x2_0, x2_1, x2_2, x2_3) => tk_kp [405, 406] w0 w) (fun zz_ hI H locs wt ls hT hW hP hD hS hl ih2 => ?_) (0, at_, w_, fl) (show 0 ≤ (0 : Int32).toInt ∧ (0 : Int32).toInt ≤ 11 ∧ 0 ≤ at_.toInt ∧ at_.toInt ≤ 400 ∧ 0 ≤ w_.toInt ∧ w_.toInt ≤ 400 ∧ at_.toInt + w_.toInt ≤ 400 from ⟨by omega, by omega, by omega, by omega, by omega, by omega, by omega⟩) _ _ wt ls hT hW hP hD hS hl
  obtain ⟨x2_0, x2_1, x2_2, x2_3⟩ := zz_
  have hW : tk_kp [405, 406] w0 wt := hW
  have hI : 0 ≤ x2_0.toInt ∧ x2_0.toInt ≤ 11 ∧ 0 ≤ x2_1.toInt ∧ x2_1.toInt ≤ 400 ∧ 0 ≤ x2_2.toInt ∧ x2_2.toInt ≤ 400 ∧ x2_1.toInt + x2_2.toInt ≤ 400 := hI
  obtain ⟨j2_0, j2_1, j2_2, j2_3, j2_4, j2_5, j2_6⟩ := hI
  have hl : lv_has ls 3 [(2, .int x2_0), (0, .ref t), (1, .ref tp)] := hl
  have hP : va_P (gg_D G) classes ([(tp, .inr (8, [.ref bp, .int n, .int x2_1, .int x2_2, .int x2_3])), (bp, .inl (G.2.2 0, 400, .inl bf))] ++ wt) H := hP
  have hD : va_D A ([(tp, .inr (8, [.ref bp, .int n, .int x2_1, .int x2_2, .int x2_3])), (bp, .inl (G.2.2 0, 400, .inl bf))] ++ wt) := hD
  refine lv_iload_n hx hb dX4_isFactToCome_2 rfl (lv_at hl 0 rfl) ?_
  refine lv_bipush (v := 10) hx hb dX4_isFactToCome_3 (by decide +kernel) ?_
  refine lv_icmp_gt (tgt := 155) hx hb dX4_isFactToCome_5 (by decide) (fun c_1 => ?_) (fun c_1 => ?_)
  · rw [Int32.lt_iff_toInt_lt] at c_1
    refine lv_iconst (v := 0) hx hb dX4_isFactToCome_155 (by decide +kernel) ?_
    have hP9 : va_P (gg_D G) classes ([(tp, .inr (8, [.ref bp, .int n, .int x2_1, .int x2_2, .int x2_3])), (bp, .inl (G.2.2 0, 400, .inl bf))] ++ wt) _ := hP
    have hD9 : va_D A ([(tp, .inr (8, [.ref bp, .int n, .int x2_1, .int x2_2, .int x2_3])), (bp, .inl (G.2.2 0, 400, .inl bf))] ++ wt) := hD
    exact W.zret (v := 0) hx hb hr (by decide +kernel) (gq_endI (x2_1, x2_2, x2_3, wt) ⟨hT, hW, (by omega), (by omega), (by omega), (by omega), (by omega)⟩ hP9 hD9 hS) hS.2.2 dX4_isFactToCome_156
  · rw [Int32.lt_iff_toInt_lt] at c_1
    obtain ⟨v, hv, hf_2⟩ := tk_peek hT k_t (by decide) (show classes[4]? = some _ from rfl) 5 (by decide)
    obtain ⟨n_3, rfl, lo_n_3, hi_n_3⟩ := hv
    refine tl_loopE (Γ := Γ) (nL := 3) (fun (zz_ : Int32 × Int32 × Int32 × Int32) => match zz_ with | (x8_0, x8_1, x8_2, x8_3) => 0 ≤ x8_0.toInt ∧ x8_0.toInt ≤ 10 ∧ 0 ≤ x8_1.toInt ∧ x8_1.toInt ≤ 400 ∧ 0 ≤ x8_2.toInt ∧ x8_2.toInt ≤ 400 ∧ x8_1.toInt + x8_2.toInt ≤ 400) (fun (zz_ : Int32 × Int32 × Int32 × Int32) => match zz_ with | (x8_0, x8_1, x8_2, x8_3) => (x8_0.toInt).toNat) (fun (zz_ : Int32 × Int32 × Int32 × Int32) => match zz_ with | (x8_0, x8_1, x8_2, x8_3) => [(2, .int x2_0), (0, .ref t), (1, .ref tp)]) (fun (zz_ : Int32 × Int32 × Int32 × Int32) => match zz_ with | (x8_0, x8_1, x8_2, x8_3) => [(tp, .inr (8, [.ref bp, .int n, .int x8_1, .int x8_2, .int x8_3])), (bp, .inl (G.2.2 0, 400, .inl bf))]) (fun (zz_ : Int32 × Int32 × Int32 × Int32) (w : va_W) => match zz_ with | (x8_0, x8_1, x8_2, x8_3) => tk_kp [405, 406] w0 w ∧ tk_fl w t 4 5 (.int x8_0)) (fun zz_ hI H locs wt ls hT hW hP hD hS hl ih8 => ?_) (n_3, x2_1, x2_2, x2_3) (show 0 ≤ n_3.toInt ∧ n_3.toInt ≤ 10 ∧ 0 ≤ x2_1.toInt ∧ x2_1.toInt ≤ 400 ∧ 0 ≤ x2_2.toInt ∧ x2_2.toInt ≤ 400 ∧ x2_1.toInt + x2_2.toInt ≤ 400 from ⟨by omega, by omega, by omega, by omega, by omega, by omega, by omega⟩) _ _ wt ls hT ⟨hW, hf_2⟩ hP hD hS hl
    obtain ⟨x8_0, x8_1, x8_2, x8_3⟩ := zz_
    obtain ⟨hW, hk8_0⟩ := hW
    have hI : 0 ≤ x8_0.toInt ∧ x8_0.toInt ≤ 10 ∧ 0 ≤ x8_1.toInt ∧ x8_1.toInt ≤ 400 ∧ 0 ≤ x8_2.toInt ∧ x8_2.toInt ≤ 400 ∧ x8_1.toInt + x8_2.toInt ≤ 400 := hI
    obtain ⟨j8_0, j8_1, j8_2, j8_3, j8_4, j8_5, j8_6⟩ := hI
    have hl : lv_has ls 3 [(2, .int x2_0), (0, .ref t), (1, .ref tp)] := hl
    have hP : va_P (gg_D G) classes ([(tp, .inr (8, [.ref bp, .int n, .int x8_1, .int x8_2, .int x8_3])), (bp, .inl (G.2.2 0, 400, .inl bf))] ++ wt) H := hP
    have hD : va_D A ([(tp, .inr (8, [.ref bp, .int n, .int x8_1, .int x8_2, .int x8_3])), (bp, .inl (G.2.2 0, 400, .inl bf))] ++ wt) := hD
    refine lv_aload_n hx hb dX4_isFactToCome_8 rfl (lv_at hl 1 rfl) ?_
    refine tr_getK (ci := 4) hx hb ht hown hK hP i_X4 rfl 5 (by decide) wd_342 rfl hk8_0 dX4_isFactToCome_9 ?_
    refine lv_if_le (tgt := 49) hx hb dX4_isFactToCome_12 (by decide) (fun c_4 => ?_) (fun c_4 => ?_)
    · rw [Int32.le_iff_toInt_le] at c_4
      refine lv_aload_n hx hb dX4_isFactToCome_49 rfl (lv_at hl 1 rfl) ?_
      refine lv_iconst (v := 1) hx hb dX4_isFactToCome_50 (by decide +kernel) ?_
      refine lv_bipush (v := 20) hx hb dX4_isFactToCome_51 (by decide +kernel) ?_
      refine gt_callV (wr := [(tp, .inr (8, [.ref bp, .int n, .int x8_1, .int x8_2, .int x8_3])), (bp, .inl (G.2.2 0, 400, .inl bf))]) (va_runV (As := [.int 1, .int 20]) (rest := []) ⟨hx, hb, hml, hown, ht⟩ (d_stepWait l G Γ H.size wt hT t 1 20 k_t (by omega) (by omega)) (cwV 2 ht (ts_gV wd_772 wd_774 wd_13 wd_128 wd_775) rfl rfl rfl (by decide +kernel) ⟨Nat.le_of_ble_eq_true rfl, Nat.le_of_ble_eq_true rfl⟩) (gt_preW (ci := 4) hK hT (tw_right hP) (tw_rightD hD) k_t (by decide) rfl) rfl rfl hl.1 rfl (lv_room (Nat.le_of_ble_eq_true rfl)) dX4_isFactToCome_53 ⟨Nat.le_of_ble_eq_true rfl, Nat.le_of_ble_eq_true rfl⟩) hP hD hS hA (fun wt H locs hw hP hD hS => ?_)
      obtain ⟨hT, hkp⟩ := hw
      have hW := hW.call (show ∀ x ∈ [406], x ∈ [405, 406] by decide) hkp
      have hk8_0 := hkp _ _ _ _ (by decide) (by decide) hk8_0
      have hP : va_P (gg_D G) classes ([(tp, .inr (8, [.ref bp, .int n, .int x8_1, .int x8_2, .int x8_3])), (bp, .inl (G.2.2 0, 400, .inl bf))] ++ wt) H := hP
      have hD : va_D A ([(tp, .inr (8, [.ref bp, .int n, .int x8_1, .int x8_2, .int x8_3])), (bp, .inl (G.2.2 0, 400, .inl bf))] ++ wt) := hD
      refine lv_aload_n hx hb dX4_isFactToCome_56 rfl (lv_at hl 2 rfl) ?_
      refine va_ldcS hx hb hown (hX.2.2.2.2.2.2.2.2.1) dX4_isFactToCome_57 ?_
      have hP : va_P (gg_D G) classes ([] ++ ([(tp, .inr (8, [.ref bp, .int n, .int x8_1, .int x8_2, .int x8_3])), (bp, .inl (G.2.2 0, 400, .inl bf))] ++ wt)) H := hP
      have hD : va_D A ([] ++ ([(tp, .inr (8, [.ref bp, .int n, .int x8_1, .int x8_2, .int x8_3])), (bp, .inl (G.2.2 0, 400, .inl bf))] ++ wt)) := hD
      refine gt_callI (wr := []) (va_runV (As := [.ref (K 5)]) (rest := []) ⟨hx, hb, hml, hown, ht⟩ (d_takeAnd l G Γ H.size wt hT K V tp bp n x8_1 x8_2 x8_3 bf (by first | assumption | omega) (by first | assumption | omega) (by first | assumption | omega) (by first | assumption | omega) (by first | assumption | omega)) (cwV 1 ht (ts_gV wd_749 wd_750 wd_751 wd_123 wd_752) rfl rfl rfl (by decide +kernel) ⟨Nat.le_of_ble_eq_true rfl, Nat.le_of_ble_eq_true rfl⟩) (gx_preV (ci := 8) (q0 := 0) hK (tw_right hP) (tw_rightD hD) hX hS (tw_free hD hS hA) rfl rfl) rfl rfl hl.1 rfl (lv_room (Nat.le_of_ble_eq_true rfl)) dX4_isFactToCome_59 ⟨Nat.le_of_ble_eq_true rfl, Nat.le_of_ble_eq_true rfl⟩) hP hD hS hA (fun r_5 u H locs hw hP hD hS => ?_)
      obtain ⟨y_6, y_7, y_8, wt⟩ := u
      obtain ⟨hT, hkp, w_9, w_10, w_11, lo_r_5, hi_r_5⟩ := hw
      have hW := hW.call (show ∀ x ∈ [], x ∈ [405, 406] by decide) hkp
      have hk8_0 := hkp _ _ _ _ (by decide) (by decide) hk8_0
      have hP : va_P (gg_D G) classes ([(tp, .inr (8, [.ref bp, .int n, .int y_6, .int y_7, .int y_8])), (bp, .inl (G.2.2 0, 400, .inl bf))] ++ wt) H := hP
      have hD : va_D A ([(tp, .inr (8, [.ref bp, .int n, .int y_6, .int y_7, .int y_8])), (bp, .inl (G.2.2 0, 400, .inl bf))] ++ wt) := hD
      refine lv_if_eq (tgt := 80) hx hb dX4_isFactToCome_62 (by decide) (fun c_12 => ?_) (fun c_12 => ?_)
      · rw [← Int32.toInt_inj] at c_12
        refine lv_aload_n hx hb dX4_isFactToCome_80 rfl (lv_at hl 1 rfl) ?_
        refine lv_iconst (v := 2) hx hb dX4_isFactToCome_81 (by decide +kernel) ?_
        refine lv_bipush (v := 21) hx hb dX4_isFactToCome_82 (by decide +kernel) ?_
        refine gt_callV (wr := [(tp, .inr (8, [.ref bp, .int n, .int y_6, .int y_7, .int y_8])), (bp, .inl (G.2.2 0, 400, .inl bf))]) (va_runV (As := [.int 2, .int 21]) (rest := []) ⟨hx, hb, hml, hown, ht⟩ (d_stepWait l G Γ H.size wt hT t 2 21 k_t (by omega) (by omega)) (cwV 2 ht (ts_gV wd_772 wd_774 wd_13 wd_128 wd_775) rfl rfl rfl (by decide +kernel) ⟨Nat.le_of_ble_eq_true rfl, Nat.le_of_ble_eq_true rfl⟩) (gt_preW (ci := 4) hK hT (tw_right hP) (tw_rightD hD) k_t (by decide) rfl) rfl rfl hl.1 rfl (lv_room (Nat.le_of_ble_eq_true rfl)) dX4_isFactToCome_84 ⟨Nat.le_of_ble_eq_true rfl, Nat.le_of_ble_eq_true rfl⟩) hP hD hS hA (fun wt H locs hw hP hD hS => ?_)
        obtain ⟨hT, hkp⟩ := hw
        have hW := hW.call (show ∀ x ∈ [406], x ∈ [405, 406] by decide) hkp
        have hk8_0 := hkp _ _ _ _ (by decide) (by decide) hk8_0
        have hP : va_P (gg_D G) classes ([(tp, .inr (8, [.ref bp, .int n, .int y_6, .int y_7, .int y_8])), (bp, .inl (G.2.2 0, 400, .inl bf))] ++ wt) H := hP
        have hD : va_D A ([(tp, .inr (8, [.ref bp, .int n, .int y_6, .int y_7, .int y_8])), (bp, .inl (G.2.2 0, 400, .inl bf))] ++ wt) := hD
        refine lv_aload_n hx hb dX4_isFactToCome_87 rfl (lv_at hl 2 rfl) ?_
        refine va_ldcS hx hb hown (hX.2.2.2.2.2.2.2.2.2) dX4_isFactToCome_88 ?_
        have hP : va_P (gg_D G) classes ([] ++ ([(tp, .inr (8, [.ref bp, .int n, .int y_6, .int y_7, .int y_8])), (bp, .inl (G.2.2 0, 400, .inl bf))] ++ wt)) H := hP
        have hD : va_D A ([] ++ ([(tp, .inr (8, [.ref bp, .int n, .int y_6, .int y_7, .int y_8])), (bp, .inl (G.2.2 0, 400, .inl bf))] ++ wt)) := hD
        refine gt_callI (wr := []) (va_runV (As := [.ref (K 6)]) (rest := []) ⟨hx, hb, hml, hown, ht⟩ (d_takeOr l G Γ H.size wt hT K V tp bp n y_6 y_7 y_8 bf (by first | assumption | omega) (by first | assumption | omega) (by first | assumption | omega) (by first | assumption | omega) (by first | assumption | omega)) (cwV 1 ht (ts_gV wd_749 wd_750 wd_751 wd_123 wd_752) rfl rfl rfl (by decide +kernel) ⟨Nat.le_of_ble_eq_true rfl, Nat.le_of_ble_eq_true rfl⟩) (gx_preV (ci := 8) (q0 := 0) hK (tw_right hP) (tw_rightD hD) hX hS (tw_free hD hS hA) rfl rfl) rfl rfl hl.1 rfl (lv_room (Nat.le_of_ble_eq_true rfl)) dX4_isFactToCome_90 ⟨Nat.le_of_ble_eq_true rfl, Nat.le_of_ble_eq_true rfl⟩) hP hD hS hA (fun r_13 u H locs hw hP hD hS => ?_)
        obtain ⟨y_14, y_15, y_16, wt⟩ := u
        obtain ⟨hT, hkp, w_17, w_18, w_19, lo_r_13, hi_r_13⟩ := hw
        have hW := hW.call (show ∀ x ∈ [], x ∈ [405, 406] by decide) hkp
        have hk8_0 := hkp _ _ _ _ (by decide) (by decide) hk8_0
        have hP : va_P (gg_D G) classes ([(tp, .inr (8, [.ref bp, .int n, .int y_14, .int y_15, .int y_16])), (bp, .inl (G.2.2 0, 400, .inl bf))] ++ wt) H := hP
        have hD : va_D A ([(tp, .inr (8, [.ref bp, .int n, .int y_14, .int y_15, .int y_16])), (bp, .inl (G.2.2 0, 400, .inl bf))] ++ wt) := hD
        refine lv_if_eq (tgt := 111) hx hb dX4_isFactToCome_93 (by decide) (fun c_20 => ?_) (fun c_20 => ?_)
        · rw [← Int32.toInt_inj] at c_20
          refine lv_aload_n hx hb dX4_isFactToCome_111 rfl (lv_at hl 1 rfl) ?_
          refine tr_getK (ci := 4) hx hb ht hown hK hP i_X4 rfl 5 (by decide) wd_342 rfl hk8_0 dX4_isFactToCome_112 ?_
          refine lv_if_ne (tgt := 120) hx hb dX4_isFactToCome_115 (by decide) (fun c0 => False.elim (by rw [← Int32.toInt_inj] at c0; omega)) (fun _ => ?_)
          refine lv_iconst (v := 0) hx hb dX4_isFactToCome_118 (by decide +kernel) ?_
          have hP9 : va_P (gg_D G) classes ([(tp, .inr (8, [.ref bp, .int n, .int y_14, .int y_15, .int y_16])), (bp, .inl (G.2.2 0, 400, .inl bf))] ++ wt) _ := hP
          have hD9 : va_D A ([(tp, .inr (8, [.ref bp, .int n, .int y_14, .int y_15, .int y_16])), (bp, .inl (G.2.2 0, 400, .inl bf))] ++ wt) := hD
          exact W.zret (v := 0) hx hb hr (by decide +kernel) (gq_endI (y_14, y_15, y_16, wt) ⟨hT, hW, (by omega), (by omega), (by omega), (by omega), (by omega)⟩ hP9 hD9 hS) hS.2.2 dX4_isFactToCome_119
        · rw [← Int32.toInt_inj] at c_20
          refine lv_aload_n hx hb dX4_isFactToCome_96 rfl (lv_at hl 1 rfl) ?_
          refine tr_get (ci := 4) hx hb ht hown hK hT hP k_t (by decide) i_X4 rfl 4 (by decide) wd_341 rfl dX4_isFactToCome_97 (fun v hv hf_21 => ?_)
          obtain ⟨q_22, rfl, hq_22⟩ := hv
          refine lv_aload_n hx hb dX4_isFactToCome_100 rfl (lv_at hl 1 rfl) ?_
          refine tr_getK (ci := 4) hx hb ht hown hK hP i_X4 rfl 5 (by decide) wd_342 rfl hk8_0 dX4_isFactToCome_101 ?_
          refine lv_dup2_11 hx hb dX4_isFactToCome_104 rfl rfl ?_
          refine tr_iald hx hb hK hT hP 26 hq_22 (by decide) (by decide) (show vp_in _ (tk_len 26) from ia_in (n := 11) (by omega) (by omega)) dX4_isFactToCome_105 (fun n_23 hn_23 => ?_)
          clear hn_23
          refine lv_iconst (v := 2) hx hb dX4_isFactToCome_106 (by decide +kernel) ?_
          obtain ⟨t_24, et_24⟩ : ∃ zz_ : Int32, n_23 ||| 2 = zz_ := ⟨_, rfl⟩
          refine gq_ior hx hb t_24 et_24 dX4_isFactToCome_107 ?_
          refine tr_iast hx hb hK hT hP hD hS 26 hq_22 (by decide) (by decide) (show vp_in _ (tk_len 26) from ia_in (n := 11) (by omega) (by omega)) (show tk_e 26 _ from trivial) dX4_isFactToCome_108 (fun H locs wt hT hfl hP hD hS => ?_)
          have hW := hW.arr hfl
          have hk8_0 := hfl _ _ _ _ hk8_0
          refine lv_iconst (v := 1) hx hb dX4_isFactToCome_109 (by decide +kernel) ?_
          have hP9 : va_P (gg_D G) classes ([(tp, .inr (8, [.ref bp, .int n, .int y_14, .int y_15, .int y_16])), (bp, .inl (G.2.2 0, 400, .inl bf))] ++ wt) _ := hP
          have hD9 : va_D A ([(tp, .inr (8, [.ref bp, .int n, .int y_14, .int y_15, .int y_16])), (bp, .inl (G.2.2 0, 400, .inl bf))] ++ wt) := hD
          exact W.zret (v := 1) hx hb hr (by decide +kernel) (gq_endI (y_14, y_15, y_16, wt) ⟨hT, hW, (by omega), (by omega), (by omega), (by omega), (by omega)⟩ hP9 hD9 hS) hS.2.2 dX4_isFactToCome_110
      · rw [← Int32.toInt_inj] at c_12
        refine lv_aload_n hx hb dX4_isFactToCome_65 rfl (lv_at hl 1 rfl) ?_
        refine tr_get (ci := 4) hx hb ht hown hK hT hP k_t (by decide) i_X4 rfl 4 (by decide) wd_341 rfl dX4_isFactToCome_66 (fun v hv hf_25 => ?_)
        obtain ⟨q_26, rfl, hq_26⟩ := hv
        refine lv_aload_n hx hb dX4_isFactToCome_69 rfl (lv_at hl 1 rfl) ?_
        refine tr_getK (ci := 4) hx hb ht hown hK hP i_X4 rfl 5 (by decide) wd_342 rfl hk8_0 dX4_isFactToCome_70 ?_
        refine lv_dup2_11 hx hb dX4_isFactToCome_73 rfl rfl ?_
        refine tr_iald hx hb hK hT hP 26 hq_26 (by decide) (by decide) (show vp_in _ (tk_len 26) from ia_in (n := 11) (by omega) (by omega)) dX4_isFactToCome_74 (fun n_27 hn_27 => ?_)
        clear hn_27
        refine lv_iconst (v := 1) hx hb dX4_isFactToCome_75 (by decide +kernel) ?_
        obtain ⟨t_28, et_28⟩ : ∃ zz_ : Int32, n_27 ||| 1 = zz_ := ⟨_, rfl⟩
        refine gq_ior hx hb t_28 et_28 dX4_isFactToCome_76 ?_
        refine tr_iast hx hb hK hT hP hD hS 26 hq_26 (by decide) (by decide) (show vp_in _ (tk_len 26) from ia_in (n := 11) (by omega) (by omega)) (show tk_e 26 _ from trivial) dX4_isFactToCome_77 (fun H locs wt hT hfl hP hD hS => ?_)
        have hW := hW.arr hfl
        have hk8_0 := hfl _ _ _ _ hk8_0
        refine lv_iconst (v := 1) hx hb dX4_isFactToCome_78 (by decide +kernel) ?_
        have hP9 : va_P (gg_D G) classes ([(tp, .inr (8, [.ref bp, .int n, .int y_6, .int y_7, .int y_8])), (bp, .inl (G.2.2 0, 400, .inl bf))] ++ wt) _ := hP
        have hD9 : va_D A ([(tp, .inr (8, [.ref bp, .int n, .int y_6, .int y_7, .int y_8])), (bp, .inl (G.2.2 0, 400, .inl bf))] ++ wt) := hD
        exact W.zret (v := 1) hx hb hr (by decide +kernel) (gq_endI (y_6, y_7, y_8, wt) ⟨hT, hW, (by omega), (by omega), (by omega), (by omega), (by omega)⟩ hP9 hD9 hS) hS.2.2 dX4_isFactToCome_79
    · rw [Int32.le_iff_toInt_le] at c_4
      refine lv_aload_n hx hb dX4_isFactToCome_15 rfl (lv_at hl 1 rfl) ?_
      refine tr_get (ci := 4) hx hb ht hown hK hT hP k_t (by decide) i_X4 rfl 3 (by decide) wd_340 rfl dX4_isFactToCome_16 (fun v hv hf_29 => ?_)
      obtain ⟨q_30, rfl, hq_30⟩ := hv
      refine lv_aload_n hx hb dX4_isFactToCome_19 rfl (lv_at hl 1 rfl) ?_
      refine tr_getK (ci := 4) hx hb ht hown hK hP i_X4 rfl 5 (by decide) wd_342 rfl hk8_0 dX4_isFactToCome_20 ?_
      refine tr_iald hx hb hK hT hP 26 hq_30 (by decide) (by decide) (show vp_in _ (tk_len 26) from ia_in (n := 11) (by omega) (by omega)) dX4_isFactToCome_23 (fun n_31 hn_31 => ?_)
      clear hn_31
      refine lv_bipush (v := 22) hx hb dX4_isFactToCome_24 (by decide +kernel) ?_
      refine lv_icmp_ne (tgt := 49) hx hb dX4_isFactToCome_26 (by decide) (fun c_32 => ?_) (fun c_32 => ?_)
      · rw [← Int32.toInt_inj] at c_32
        refine lv_aload_n hx hb dX4_isFactToCome_49 rfl (lv_at hl 1 rfl) ?_
        refine lv_iconst (v := 1) hx hb dX4_isFactToCome_50 (by decide +kernel) ?_
        refine lv_bipush (v := 20) hx hb dX4_isFactToCome_51 (by decide +kernel) ?_
        refine gt_callV (wr := [(tp, .inr (8, [.ref bp, .int n, .int x8_1, .int x8_2, .int x8_3])), (bp, .inl (G.2.2 0, 400, .inl bf))]) (va_runV (As := [.int 1, .int 20]) (rest := []) ⟨hx, hb, hml, hown, ht⟩ (d_stepWait l G Γ H.size wt hT t 1 20 k_t (by omega) (by omega)) (cwV 2 ht (ts_gV wd_772 wd_774 wd_13 wd_128 wd_775) rfl rfl rfl (by decide +kernel) ⟨Nat.le_of_ble_eq_true rfl, Nat.le_of_ble_eq_true rfl⟩) (gt_preW (ci := 4) hK hT (tw_right hP) (tw_rightD hD) k_t (by decide) rfl) rfl rfl hl.1 rfl (lv_room (Nat.le_of_ble_eq_true rfl)) dX4_isFactToCome_53 ⟨Nat.le_of_ble_eq_true rfl, Nat.le_of_ble_eq_true rfl⟩) hP hD hS hA (fun wt H locs hw hP hD hS => ?_)
        obtain ⟨hT, hkp⟩ := hw
        have hW := hW.call (show ∀ x ∈ [406], x ∈ [405, 406] by decide) hkp
        have hk8_0 := hkp _ _ _ _ (by decide) (by decide) hk8_0
        have hP : va_P (gg_D G) classes ([(tp, .inr (8, [.ref bp, .int n, .int x8_1, .int x8_2, .int x8_3])), (bp, .inl (G.2.2 0, 400, .inl bf))] ++ wt) H := hP
        have hD : va_D A ([(tp, .inr (8, [.ref bp, .int n, .int x8_1, .int x8_2, .int x8_3])), (bp, .inl (G.2.2 0, 400, .inl bf))] ++ wt) := hD
        refine lv_aload_n hx hb dX4_isFactToCome_56 rfl (lv_at hl 2 rfl) ?_
        refine va_ldcS hx hb hown (hX.2.2.2.2.2.2.2.2.1) dX4_isFactToCome_57 ?_
        have hP : va_P (gg_D G) classes ([] ++ ([(tp, .inr (8, [.ref bp, .int n, .int x8_1, .int x8_2, .int x8_3])), (bp, .inl (G.2.2 0, 400, .inl bf))] ++ wt)) H := hP
        have hD : va_D A ([] ++ ([(tp, .inr (8, [.ref bp, .int n, .int x8_1, .int x8_2, .int x8_3])), (bp, .inl (G.2.2 0, 400, .inl bf))] ++ wt)) := hD
        refine gt_callI (wr := []) (va_runV (As := [.ref (K 5)]) (rest := []) ⟨hx, hb, hml, hown, ht⟩ (d_takeAnd l G Γ H.size wt hT K V tp bp n x8_1 x8_2 x8_3 bf (by first | assumption | omega) (by first | assumption | omega) (by first | assumption | omega) (by first | assumption | omega) (by first | assumption | omega)) (cwV 1 ht (ts_gV wd_749 wd_750 wd_751 wd_123 wd_752) rfl rfl rfl (by decide +kernel) ⟨Nat.le_of_ble_eq_true rfl, Nat.le_of_ble_eq_true rfl⟩) (gx_preV (ci := 8) (q0 := 0) hK (tw_right hP) (tw_rightD hD) hX hS (tw_free hD hS hA) rfl rfl) rfl rfl hl.1 rfl (lv_room (Nat.le_of_ble_eq_true rfl)) dX4_isFactToCome_59 ⟨Nat.le_of_ble_eq_true rfl, Nat.le_of_ble_eq_true rfl⟩) hP hD hS hA (fun r_33 u H locs hw hP hD hS => ?_)
        obtain ⟨y_34, y_35, y_36, wt⟩ := u
        obtain ⟨hT, hkp, w_37, w_38, w_39, lo_r_33, hi_r_33⟩ := hw
        have hW := hW.call (show ∀ x ∈ [], x ∈ [405, 406] by decide) hkp
        have hk8_0 := hkp _ _ _ _ (by decide) (by decide) hk8_0
        have hP : va_P (gg_D G) classes ([(tp, .inr (8, [.ref bp, .int n, .int y_34, .int y_35, .int y_36])), (bp, .inl (G.2.2 0, 400, .inl bf))] ++ wt) H := hP
        have hD : va_D A ([(tp, .inr (8, [.ref bp, .int n, .int y_34, .int y_35, .int y_36])), (bp, .inl (G.2.2 0, 400, .inl bf))] ++ wt) := hD
        refine lv_if_eq (tgt := 80) hx hb dX4_isFactToCome_62 (by decide) (fun c_40 => ?_) (fun c_40 => ?_)
        · rw [← Int32.toInt_inj] at c_40
          refine lv_aload_n hx hb dX4_isFactToCome_80 rfl (lv_at hl 1 rfl) ?_
          refine lv_iconst (v := 2) hx hb dX4_isFactToCome_81 (by decide +kernel) ?_
          refine lv_bipush (v := 21) hx hb dX4_isFactToCome_82 (by decide +kernel) ?_
          refine gt_callV (wr := [(tp, .inr (8, [.ref bp, .int n, .int y_34, .int y_35, .int y_36])), (bp, .inl (G.2.2 0, 400, .inl bf))]) (va_runV (As := [.int 2, .int 21]) (rest := []) ⟨hx, hb, hml, hown, ht⟩ (d_stepWait l G Γ H.size wt hT t 2 21 k_t (by omega) (by omega)) (cwV 2 ht (ts_gV wd_772 wd_774 wd_13 wd_128 wd_775) rfl rfl rfl (by decide +kernel) ⟨Nat.le_of_ble_eq_true rfl, Nat.le_of_ble_eq_true rfl⟩) (gt_preW (ci := 4) hK hT (tw_right hP) (tw_rightD hD) k_t (by decide) rfl) rfl rfl hl.1 rfl (lv_room (Nat.le_of_ble_eq_true rfl)) dX4_isFactToCome_84 ⟨Nat.le_of_ble_eq_true rfl, Nat.le_of_ble_eq_true rfl⟩) hP hD hS hA (fun wt H locs hw hP hD hS => ?_)
          obtain ⟨hT, hkp⟩ := hw
          have hW := hW.call (show ∀ x ∈ [406], x ∈ [405, 406] by decide) hkp
          have hk8_0 := hkp _ _ _ _ (by decide) (by decide) hk8_0
          have hP : va_P (gg_D G) classes ([(tp, .inr (8, [.ref bp, .int n, .int y_34, .int y_35, .int y_36])), (bp, .inl (G.2.2 0, 400, .inl bf))] ++ wt) H := hP
          have hD : va_D A ([(tp, .inr (8, [.ref bp, .int n, .int y_34, .int y_35, .int y_36])), (bp, .inl (G.2.2 0, 400, .inl bf))] ++ wt) := hD
          refine lv_aload_n hx hb dX4_isFactToCome_87 rfl (lv_at hl 2 rfl) ?_
          refine va_ldcS hx hb hown (hX.2.2.2.2.2.2.2.2.2) dX4_isFactToCome_88 ?_
          have hP : va_P (gg_D G) classes ([] ++ ([(tp, .inr (8, [.ref bp, .int n, .int y_34, .int y_35, .int y_36])), (bp, .inl (G.2.2 0, 400, .inl bf))] ++ wt)) H := hP
          have hD : va_D A ([] ++ ([(tp, .inr (8, [.ref bp, .int n, .int y_34, .int y_35, .int y_36])), (bp, .inl (G.2.2 0, 400, .inl bf))] ++ wt)) := hD
          refine gt_callI (wr := []) (va_runV (As := [.ref (K 6)]) (rest := []) ⟨hx, hb, hml, hown, ht⟩ (d_takeOr l G Γ H.size wt hT K V tp bp n y_34 y_35 y_36 bf (by first | assumption | omega) (by first | assumption | omega) (by first | assumption | omega) (by first | assumption | omega) (by first | assumption | omega)) (cwV 1 ht (ts_gV wd_749 wd_750 wd_751 wd_123 wd_752) rfl rfl rfl (by decide +kernel) ⟨Nat.le_of_ble_eq_true rfl, Nat.le_of_ble_eq_true rfl⟩) (gx_preV (ci := 8) (q0 := 0) hK (tw_right hP) (tw_rightD hD) hX hS (tw_free hD hS hA) rfl rfl) rfl rfl hl.1 rfl (lv_room (Nat.le_of_ble_eq_true rfl)) dX4_isFactToCome_90 ⟨Nat.le_of_ble_eq_true rfl, Nat.le_of_ble_eq_true rfl⟩) hP hD hS hA (fun r_41 u H locs hw hP hD hS => ?_)
          obtain ⟨y_42, y_43, y_44, wt⟩ := u
          obtain ⟨hT, hkp, w_45, w_46, w_47, lo_r_41, hi_r_41⟩ := hw
          have hW := hW.call (show ∀ x ∈ [], x ∈ [405, 406] by decide) hkp
          have hk8_0 := hkp _ _ _ _ (by decide) (by decide) hk8_0
          have hP : va_P (gg_D G) classes ([(tp, .inr (8, [.ref bp, .int n, .int y_42, .int y_43, .int y_44])), (bp, .inl (G.2.2 0, 400, .inl bf))] ++ wt) H := hP
          have hD : va_D A ([(tp, .inr (8, [.ref bp, .int n, .int y_42, .int y_43, .int y_44])), (bp, .inl (G.2.2 0, 400, .inl bf))] ++ wt) := hD
          refine lv_if_eq (tgt := 111) hx hb dX4_isFactToCome_93 (by decide) (fun c_48 => ?_) (fun c_48 => ?_)
          · rw [← Int32.toInt_inj] at c_48
            refine lv_aload_n hx hb dX4_isFactToCome_111 rfl (lv_at hl 1 rfl) ?_
            refine tr_getK (ci := 4) hx hb ht hown hK hP i_X4 rfl 5 (by decide) wd_342 rfl hk8_0 dX4_isFactToCome_112 ?_
            refine lv_if_ne (tgt := 120) hx hb dX4_isFactToCome_115 (by decide) (fun _ => ?_) (fun c0 => False.elim (by rw [← Int32.toInt_inj] at c0; omega))
            refine lv_aload_n hx hb dX4_isFactToCome_120 rfl (lv_at hl 2 rfl) ?_
            refine lv_bipush (v := 93) hx hb dX4_isFactToCome_121 (by decide +kernel) ?_
            have hP : va_P (gg_D G) classes ([] ++ ([(tp, .inr (8, [.ref bp, .int n, .int y_42, .int y_43, .int y_44])), (bp, .inl (G.2.2 0, 400, .inl bf))] ++ wt)) H := hP
            have hD : va_D A ([] ++ ([(tp, .inr (8, [.ref bp, .int n, .int y_42, .int y_43, .int y_44])), (bp, .inl (G.2.2 0, 400, .inl bf))] ++ wt)) := hD
            refine gt_callI (wr := []) (va_runV (As := [.int 93]) (rest := []) ⟨hx, hb, hml, hown, ht⟩ (d_take l G Γ H.size wt hT 93 tp bp n y_42 y_43 y_44 bf (by omega) (by omega) (by first | assumption | omega) (by first | assumption | omega) (by first | assumption | omega) (by first | assumption | omega) (by first | assumption | omega)) (cwV 1 ht (ts_gV wd_778 wd_677 wd_678 wd_123 wd_679) rfl rfl rfl (by decide +kernel) ⟨Nat.le_of_ble_eq_true rfl, Nat.le_of_ble_eq_true rfl⟩) (gc_preV (ci := 8) (q0 := 0) hK (tw_right hP) (tw_rightD hD) rfl rfl) rfl rfl hl.1 rfl (lv_room (Nat.le_of_ble_eq_true rfl)) dX4_isFactToCome_123 ⟨Nat.le_of_ble_eq_true rfl, Nat.le_of_ble_eq_true rfl⟩) hP hD hS hA (fun r_49 u H locs hw hP hD hS => ?_)
            obtain ⟨y_50, y_51, y_52, wt⟩ := u
            obtain ⟨hT, hkp, w_53, w_54, w_55, lo_r_49, hi_r_49⟩ := hw
            have hW := hW.call (show ∀ x ∈ [], x ∈ [405, 406] by decide) hkp
            have hk8_0 := hkp _ _ _ _ (by decide) (by decide) hk8_0
            have hP : va_P (gg_D G) classes ([(tp, .inr (8, [.ref bp, .int n, .int y_50, .int y_51, .int y_52])), (bp, .inl (G.2.2 0, 400, .inl bf))] ++ wt) H := hP
            have hD : va_D A ([(tp, .inr (8, [.ref bp, .int n, .int y_50, .int y_51, .int y_52])), (bp, .inl (G.2.2 0, 400, .inl bf))] ++ wt) := hD
            refine lv_if_ne (tgt := 139) hx hb dX4_isFactToCome_126 (by decide) (fun c_56 => ?_) (fun c_56 => ?_)
            · rw [← Int32.toInt_inj] at c_56
              refine lv_aload_n hx hb dX4_isFactToCome_139 rfl (lv_at hl 1 rfl) ?_
              refine lv_dup hx hb dX4_isFactToCome_140 rfl ?_
              refine tr_getK (ci := 4) hx hb ht hown hK hP i_X4 rfl 5 (by decide) wd_342 rfl hk8_0 dX4_isFactToCome_141 ?_
              refine lv_iconst (v := 1) hx hb dX4_isFactToCome_144 (by decide +kernel) ?_
              obtain ⟨t_57, et_57⟩ : ∃ zz_ : Int32, x8_0 - 1 = zz_ := ⟨_, rfl⟩
              refine gq_isub hx hb t_57 et_57 dX4_isFactToCome_145 ?_
              have ft_57 := ia_sub et_57 (by omega) (by omega)
              refine tr_put (ci := 4) hx hb ht hown hK hT hP hD hS k_t (by decide) i_X4 tyX4 tyX4_ok nmX4 rfl 5 (by decide) wd_342 rfl rfl rfl rfl ⟨_, rfl, by omega, by omega⟩ dX4_isFactToCome_146 (fun H locs wt hT hfl hfn hP hD hS => ?_)
              have hW := hW.obj (show 4 * 100 + 5 ∈ [405, 406] by decide) hfl
              have hf_58 := hfn
              obtain ⟨t_59, et_59⟩ : ∃ zz_ : Int32, x2_0 + Int32.ofInt (1) = zz_ := ⟨_, rfl⟩
              have ft_59 : t_59.toInt = x2_0.toInt + (1 : Int32).toInt := ia_add (y := 1) et_59 (by omega) (by omega)
              refine lv_iinc (v := t_59) (lv' := [(2, .int t_59), (0, .ref t), (1, .ref tp)]) hx hb dX4_isFactToCome_149 hl (k := 0) rfl et_59 (by decide) rfl (fun ls hl => ?_)
              refine lv_goto (tgt := 2) hx hb dX4_isFactToCome_152 (by decide) ?_
              exact ih2 (t_59, y_50, y_51, y_52) (show 0 ≤ t_59.toInt ∧ t_59.toInt ≤ 11 ∧ 0 ≤ y_50.toInt ∧ y_50.toInt ≤ 400 ∧ 0 ≤ y_51.toInt ∧ y_51.toInt ≤ 400 ∧ y_50.toInt + y_51.toInt ≤ 400 from ⟨by omega, by omega, by omega, by omega, by omega, by omega, by omega⟩) (show (11 - t_59.toInt).toNat < (11 - x2_0.toInt).toNat by omega) H locs wt ls hT hW hP hD hS (lv_sub hl [0, 1, 2] rfl)
            · rw [← Int32.toInt_inj] at c_56
              refine lv_aload_n hx hb dX4_isFactToCome_129 rfl (lv_at hl 2 rfl) ?_
              refine lv_aload_n hx hb dX4_isFactToCome_130 rfl (lv_at hl 2 rfl) ?_
              have hP : va_P (gg_D G) classes ([] ++ ([(tp, .inr (8, [.ref bp, .int n, .int y_50, .int y_51, .int y_52])), (bp, .inl (G.2.2 0, 400, .inl bf))] ++ wt)) H := hP
              have hD : va_D A ([] ++ ([(tp, .inr (8, [.ref bp, .int n, .int y_50, .int y_51, .int y_52])), (bp, .inl (G.2.2 0, 400, .inl bf))] ++ wt)) := hD
              refine gt_callI (wr := []) (va_runV (As := []) (rest := [.ref tp]) ⟨hx, hb, hml, hown, ht⟩ (d_place l G Γ H.size wt hT tp bp n y_50 y_51 y_52 bf (by first | assumption | omega) (by first | assumption | omega) (by first | assumption | omega) (by first | assumption | omega) (by first | assumption | omega)) (cwV 0 ht (ts_gV wd_718 wd_640 wd_641 wd_123 wd_642) rfl rfl rfl (by decide +kernel) ⟨Nat.le_of_ble_eq_true rfl, Nat.le_of_ble_eq_true rfl⟩) (gc_preV (ci := 8) (q0 := 0) hK (tw_right hP) (tw_rightD hD) rfl rfl) rfl rfl hl.1 rfl (lv_room (Nat.le_of_ble_eq_true rfl)) dX4_isFactToCome_131 ⟨Nat.le_of_ble_eq_true rfl, Nat.le_of_ble_eq_true rfl⟩) hP hD hS hA (fun r_60 wt H locs hw hP hD hS => ?_)
              obtain ⟨hT, hkp, lo_r_60, hi_r_60⟩ := hw
              have hW := hW.call (show ∀ x ∈ [], x ∈ [405, 406] by decide) hkp
              have hk8_0 := hkp _ _ _ _ (by decide) (by decide) hk8_0
              have hP : va_P (gg_D G) classes ([(tp, .inr (8, [.ref bp, .int n, .int y_50, .int y_51, .int y_52])), (bp, .inl (G.2.2 0, 400, .inl bf))] ++ wt) H := hP
              have hD : va_D A ([(tp, .inr (8, [.ref bp, .int n, .int y_50, .int y_51, .int y_52])), (bp, .inl (G.2.2 0, 400, .inl bf))] ++ wt) := hD
              refine lv_iconst (v := 0) hx hb dX4_isFactToCome_134 (by decide +kernel) ?_
              have hP : va_P (gg_D G) classes ([] ++ ([(tp, .inr (8, [.ref bp, .int n, .int y_50, .int y_51, .int y_52])), (bp, .inl (G.2.2 0, 400, .inl bf))] ++ wt)) H := hP
              have hD : va_D A ([] ++ ([(tp, .inr (8, [.ref bp, .int n, .int y_50, .int y_51, .int y_52])), (bp, .inl (G.2.2 0, 400, .inl bf))] ++ wt)) := hD
              refine gt_callI (wr := []) (va_runV (As := [.int r_60, .int 0]) (rest := []) ⟨hx, hb, hml, hown, ht⟩ (d_refuse l G Γ H.size wt hT r_60 0 tp bp n y_50 y_51 y_52 bf (by first | assumption | omega) (by first | assumption | omega) (by first | assumption | omega) (by first | assumption | omega) (by first | assumption | omega)) (cwV 2 ht (ts_gV wd_719 wd_644 wd_645 wd_123 wd_646) rfl rfl rfl (by decide +kernel) ⟨Nat.le_of_ble_eq_true rfl, Nat.le_of_ble_eq_true rfl⟩) (gc_preV (ci := 8) (q0 := 0) hK (tw_right hP) (tw_rightD hD) rfl rfl) rfl rfl hl.1 rfl (lv_room (Nat.le_of_ble_eq_true rfl)) dX4_isFactToCome_135 ⟨Nat.le_of_ble_eq_true rfl, Nat.le_of_ble_eq_true rfl⟩) hP hD hS hA (fun r_61 u H locs hw hP hD hS => ?_)
              obtain ⟨y_62, y_63, y_64, wt⟩ := u
              obtain ⟨hT, hkp, w_65, w_66, w_67, lo_r_61, hi_r_61⟩ := hw
              have hW := hW.call (show ∀ x ∈ [], x ∈ [405, 406] by decide) hkp
              have hk8_0 := hkp _ _ _ _ (by decide) (by decide) hk8_0
              have hP : va_P (gg_D G) classes ([(tp, .inr (8, [.ref bp, .int n, .int y_62, .int y_63, .int y_64])), (bp, .inl (G.2.2 0, 400, .inl bf))] ++ wt) H := hP
              have hD : va_D A ([(tp, .inr (8, [.ref bp, .int n, .int y_62, .int y_63, .int y_64])), (bp, .inl (G.2.2 0, 400, .inl bf))] ++ wt) := hD
              have z_r_61 : r_61 = 0 := by rw [← Int32.toInt_inj]; omega
              subst z_r_61
              have hP9 : va_P (gg_D G) classes ([(tp, .inr (8, [.ref bp, .int n, .int y_62, .int y_63, .int y_64])), (bp, .inl (G.2.2 0, 400, .inl bf))] ++ wt) _ := hP
              have hD9 : va_D A ([(tp, .inr (8, [.ref bp, .int n, .int y_62, .int y_63, .int y_64])), (bp, .inl (G.2.2 0, 400, .inl bf))] ++ wt) := hD
              exact W.zret (v := 0) hx hb hr (by decide +kernel) (gq_endI (y_62, y_63, y_64, wt) ⟨hT, hW, (by omega), (by omega), (by omega), (by omega), (by omega)⟩ hP9 hD9 hS) hS.2.2 dX4_isFactToCome_138
          · rw [← Int32.toInt_inj] at c_48
            refine lv_aload_n hx hb dX4_isFactToCome_96 rfl (lv_at hl 1 rfl) ?_
            refine tr_get (ci := 4) hx hb ht hown hK hT hP k_t (by decide) i_X4 rfl 4 (by decide) wd_341 rfl dX4_isFactToCome_97 (fun v hv hf_68 => ?_)
            obtain ⟨q_69, rfl, hq_69⟩ := hv
            refine lv_aload_n hx hb dX4_isFactToCome_100 rfl (lv_at hl 1 rfl) ?_
            refine tr_getK (ci := 4) hx hb ht hown hK hP i_X4 rfl 5 (by decide) wd_342 rfl hk8_0 dX4_isFactToCome_101 ?_
            refine lv_dup2_11 hx hb dX4_isFactToCome_104 rfl rfl ?_
            refine tr_iald hx hb hK hT hP 26 hq_69 (by decide) (by decide) (show vp_in _ (tk_len 26) from ia_in (n := 11) (by omega) (by omega)) dX4_isFactToCome_105 (fun n_70 hn_70 => ?_)
            clear hn_70
            refine lv_iconst (v := 2) hx hb dX4_isFactToCome_106 (by decide +kernel) ?_
            obtain ⟨t_71, et_71⟩ : ∃ zz_ : Int32, n_70 ||| 2 = zz_ := ⟨_, rfl⟩
            refine gq_ior hx hb t_71 et_71 dX4_isFactToCome_107 ?_
            refine tr_iast hx hb hK hT hP hD hS 26 hq_69 (by decide) (by decide) (show vp_in _ (tk_len 26) from ia_in (n := 11) (by omega) (by omega)) (show tk_e 26 _ from trivial) dX4_isFactToCome_108 (fun H locs wt hT hfl hP hD hS => ?_)
            have hW := hW.arr hfl
            have hk8_0 := hfl _ _ _ _ hk8_0
            refine lv_iconst (v := 1) hx hb dX4_isFactToCome_109 (by decide +kernel) ?_
            have hP9 : va_P (gg_D G) classes ([(tp, .inr (8, [.ref bp, .int n, .int y_42, .int y_43, .int y_44])), (bp, .inl (G.2.2 0, 400, .inl bf))] ++ wt) _ := hP
            have hD9 : va_D A ([(tp, .inr (8, [.ref bp, .int n, .int y_42, .int y_43, .int y_44])), (bp, .inl (G.2.2 0, 400, .inl bf))] ++ wt) := hD
            exact W.zret (v := 1) hx hb hr (by decide +kernel) (gq_endI (y_42, y_43, y_44, wt) ⟨hT, hW, (by omega), (by omega), (by omega), (by omega), (by omega)⟩ hP9 hD9 hS) hS.2.2 dX4_isFactToCome_110
        · rw [← Int32.toInt_inj] at c_40
          refine lv_aload_n hx hb dX4_isFactToCome_65 rfl (lv_at hl 1 rfl) ?_
          refine tr_get (ci := 4) hx hb ht hown hK hT hP k_t (by decide) i_X4 rfl 4 (by decide) wd_341 rfl dX4_isFactToCome_66 (fun v hv hf_72 => ?_)
          obtain ⟨q_73, rfl, hq_73⟩ := hv
          refine lv_aload_n hx hb dX4_isFactToCome_69 rfl (lv_at hl 1 rfl) ?_
          refine tr_getK (ci := 4) hx hb ht hown hK hP i_X4 rfl 5 (by decide) wd_342 rfl hk8_0 dX4_isFactToCome_70 ?_
          refine lv_dup2_11 hx hb dX4_isFactToCome_73 rfl rfl ?_
          refine tr_iald hx hb hK hT hP 26 hq_73 (by decide) (by decide) (show vp_in _ (tk_len 26) from ia_in (n := 11) (by omega) (by omega)) dX4_isFactToCome_74 (fun n_74 hn_74 => ?_)
          clear hn_74
          refine lv_iconst (v := 1) hx hb dX4_isFactToCome_75 (by decide +kernel) ?_
          obtain ⟨t_75, et_75⟩ : ∃ zz_ : Int32, n_74 ||| 1 = zz_ := ⟨_, rfl⟩
          refine gq_ior hx hb t_75 et_75 dX4_isFactToCome_76 ?_
          refine tr_iast hx hb hK hT hP hD hS 26 hq_73 (by decide) (by decide) (show vp_in _ (tk_len 26) from ia_in (n := 11) (by omega) (by omega)) (show tk_e 26 _ from trivial) dX4_isFactToCome_77 (fun H locs wt hT hfl hP hD hS => ?_)
          have hW := hW.arr hfl
          have hk8_0 := hfl _ _ _ _ hk8_0
          refine lv_iconst (v := 1) hx hb dX4_isFactToCome_78 (by decide +kernel) ?_
          have hP9 : va_P (gg_D G) classes ([(tp, .inr (8, [.ref bp, .int n, .int y_34, .int y_35, .int y_36])), (bp, .inl (G.2.2 0, 400, .inl bf))] ++ wt) _ := hP
          have hD9 : va_D A ([(tp, .inr (8, [.ref bp, .int n, .int y_34, .int y_35, .int y_36])), (bp, .inl (G.2.2 0, 400, .inl bf))] ++ wt) := hD
          exact W.zret (v := 1) hx hb hr (by decide +kernel) (gq_endI (y_34, y_35, y_36, wt) ⟨hT, hW, (by omega), (by omega), (by omega), (by omega), (by omega)⟩ hP9 hD9 hS) hS.2.2 dX4_isFactToCome_79
      · rw [← Int32.toInt_inj] at c_32
        refine lv_aload_n hx hb dX4_isFactToCome_29 rfl (lv_at hl 1 rfl) ?_
        refine lv_bipush (v := 22) hx hb dX4_isFactToCome_30 (by decide +kernel) ?_
        refine gt_callI (wr := [(tp, .inr (8, [.ref bp, .int n, .int x8_1, .int x8_2, .int x8_3])), (bp, .inl (G.2.2 0, 400, .inl bf))]) (va_runV (As := [.int 22]) (rest := []) ⟨hx, hb, hml, hown, ht⟩ (d_step l G Γ H.size wt hT t 22 k_t (by omega) (by omega)) (cwV 1 ht (ts_gV wd_736 wd_738 wd_9 wd_128 wd_739) rfl rfl rfl (by decide +kernel) ⟨Nat.le_of_ble_eq_true rfl, Nat.le_of_ble_eq_true rfl⟩) (gt_preW (ci := 4) hK hT (tw_right hP) (tw_rightD hD) k_t (by decide) rfl) rfl rfl hl.1 rfl (lv_room (Nat.le_of_ble_eq_true rfl)) dX4_isFactToCome_32 ⟨Nat.le_of_ble_eq_true rfl, Nat.le_of_ble_eq_true rfl⟩) hP hD hS hA (fun r_76 wt H locs hw hP hD hS => ?_)
        obtain ⟨hT, hkp, lo_r_76, hi_r_76⟩ := hw
        have hW := hW.call (show ∀ x ∈ [406], x ∈ [405, 406] by decide) hkp
        have hk8_0 := hkp _ _ _ _ (by decide) (by decide) hk8_0
        have hP : va_P (gg_D G) classes ([(tp, .inr (8, [.ref bp, .int n, .int x8_1, .int x8_2, .int x8_3])), (bp, .inl (G.2.2 0, 400, .inl bf))] ++ wt) H := hP
        have hD : va_D A ([(tp, .inr (8, [.ref bp, .int n, .int x8_1, .int x8_2, .int x8_3])), (bp, .inl (G.2.2 0, 400, .inl bf))] ++ wt) := hD
        refine lv_pop hx hb dX4_isFactToCome_35 rfl ?_
        refine lv_aload_n hx hb dX4_isFactToCome_36 rfl (lv_at hl 1 rfl) ?_
        refine lv_dup hx hb dX4_isFactToCome_37 rfl ?_
        refine tr_getK (ci := 4) hx hb ht hown hK hP i_X4 rfl 5 (by decide) wd_342 rfl hk8_0 dX4_isFactToCome_38 ?_
        refine lv_iconst (v := 1) hx hb dX4_isFactToCome_41 (by decide +kernel) ?_
        obtain ⟨t_77, et_77⟩ : ∃ zz_ : Int32, x8_0 - 1 = zz_ := ⟨_, rfl⟩
        refine gq_isub hx hb t_77 et_77 dX4_isFactToCome_42 ?_
        have ft_77 := ia_sub et_77 (by omega) (by omega)
        refine tr_put (ci := 4) hx hb ht hown hK hT hP hD hS k_t (by decide) i_X4 tyX4 tyX4_ok nmX4 rfl 5 (by decide) wd_342 rfl rfl rfl rfl ⟨_, rfl, by omega, by omega⟩ dX4_isFactToCome_43 (fun H locs wt hT hfl hfn hP hD hS => ?_)
        have hW := hW.obj (show 4 * 100 + 5 ∈ [405, 406] by decide) hfl
        have hf_78 := hfn
        refine lv_goto (tgt := 8) hx hb dX4_isFactToCome_46 (by decide) ?_
        exact ih8 (t_77, x8_1, x8_2, x8_3) (show 0 ≤ t_77.toInt ∧ t_77.toInt ≤ 10 ∧ 0 ≤ x8_1.toInt ∧ x8_1.toInt ≤ 400 ∧ 0 ≤ x8_2.toInt ∧ x8_2.toInt ≤ 400 ∧ x8_1.toInt + x8_2.toInt ≤ 400 from ⟨by omega, by omega, by omega, by omega, by omega, by omega, by omega⟩) (show (t_77.toInt).toNat < (x8_0.toInt).toNat by omega) H locs wt ls hT ⟨hW, hf_78⟩ hP hD hS (lv_sub hl [0, 1, 2] rfl)
set_option maxHeartbeats 4000000 in
set_option maxRecDepth 100000 in
theorem d_readTest (l : Launch) (G : gg_T) (Γ : Nat → Nat) (sz : Nat) (wt : va_W) (hT : tk_ty G Γ wt) (K : Nat → Nat) (V : Nat → Nat) (t : Nat) (tp : Nat) (bp : Nat) (n : Int32) (at_ : Int32) (w_ : Int32) (fl : Int32) (bf : Nat → Int32) (k_t : Γ t = 5) (xp1 : 0 ≤ n.toInt) (xp2 : n.toInt ≤ 400) (xp3 : 0 ≤ at_.toInt) (xp4 : 0 ≤ w_.toInt) (xp5 : at_.toInt + w_.toInt ≤ 400) : Met l yX4_readTest (ts_L yX4_readTest cX4_readTest 4 (some .boolean)) ({ frames := 8, cells := 0, slots := 0, locals := 183 }) (gx_P G K V ([(tp, .inr (8, [.ref bp, .int n, .int at_, .int w_, .int fl])), (bp, .inl (G.2.2 0, 400, .inl bf))] ++ wt) sz [.ref t, .ref tp]) (gc_I G (va_A ([(tp, .inr (8, [.ref bp, .int n, .int at_, .int w_, .int fl])), (bp, .inl (G.2.2 0, 400, .inl bf))] ++ wt) sz) (fun r (u : (Int32) × (Int32) × (Int32) × va_W) => match u with | (a1, w1, f1, wt1) => tk_ty G Γ wt1 ∧ tk_kp [405, 406, 407, 408] wt wt1 ∧ 0 ≤ a1.toInt ∧ 0 ≤ w1.toInt ∧ a1.toInt + w1.toInt ≤ 400 ∧ 0 ≤ r.toInt ∧ r.toInt ≤ 1) (fun (u : (Int32) × (Int32) × (Int32) × va_W) => match u with | (a1, w1, f1, wt1) => [(tp, .inr (8, [.ref bp, .int n, .int a1, .int w1, .int f1])), (bp, .inl (G.2.2 0, 400, .inl bf))] ++ wt1)) 0 0 (va_A ([(tp, .inr (8, [.ref bp, .int n, .int at_, .int w_, .int fl])), (bp, .inl (G.2.2 0, 400, .inl bf))] ++ wt) sz) := by
  refine Met.ofW (cc := cX4_readTest) (maxL := 4) (ret := (some .boolean)) (by decide) rfl ?_
  intro p e s m args below meth c s₁ B hml hv
  obtain ⟨rfl, hsz, hP, hK, hD0, hX⟩ := hv
  have hx := B.exec
  have hb := B.bytes
  have hr := B.returns
  have ht := ts_ht (atoms_spec (ws := ts_L yX4_readTest cX4_readTest 4 (some .boolean)) B.pre)
  have hown : s.vm.findClass RX4 = some m.cls := findClass_of_methodNamed B.named
  have hlocks := B.notSynchronized
  subst hsz
  have hD := hD0.self (sz := s.heap.size)
  generalize hAe : va_A ([(tp, .inr (8, [.ref bp, .int n, .int at_, .int w_, .int fl])), (bp, .inl (G.2.2 0, 400, .inl bf))] ++ wt) s.heap.size = A at hD hX ⊢
  have hA : ∀ q : Nat, s.heap.size ≤ q → A q := fun q h => by rw [← hAe]; exact Or.inr h
  clear hAe hD0
  have hS : va_S A s.heap s.heap [] := va_S.rf
  obtain ⟨w0, hw0⟩ : ∃ z, z = wt := ⟨_, rfl⟩
  have hW : tk_kp [405, 406, 407, 408] w0 wt := by rw [hw0]; exact tk_kp.rf
  rw [← hw0]
  clear hw0
  have hP : va_P (gg_D G) classes ([(tp, .inr (8, [.ref bp, .int n, .int at_, .int w_, .int fl])), (bp, .inl (G.2.2 0, 400, .inl bf))] ++ wt) s.heap := hP
  have hD : va_D A ([(tp, .inr (8, [.ref bp, .int n, .int at_, .int w_, .int fl])), (bp, .inl (G.2.2 0, 400, .inl bf))] ++ wt) := hD
  have hl := lv_entry ([.ref t, .ref tp]) (n := 4) (Nat.le_of_ble_eq_true rfl)
  rw [lg_entry_eq]
  generalize (lg_sl ([.ref t, .ref tp]) ++ List.replicate (4 - (lg_sl ([.ref t, .ref tp])).length) Slot.unset).toArray = ls at hl ⊢
  have hl : lv_has ls 4 [(0, .ref t), (1, .ref tp)] := hl
  have l0 : (0 : Int32).toInt = 0 := by decide +kernel
  have l1 : (1 : Int32).toInt = 1 := by decide +kernel
  have l2 : (2 : Int32).toInt = 2 := by decide +kernel
  have l3 : (3 : Int32).toInt = 3 := by decide +kernel
  have l10 : (10 : Int32).toInt = 10 := by decide +kernel
  have l22 : (22 : Int32).toInt = 22 := by decide +kernel
  have l25 : (25 : Int32).toInt = 25 := by decide +kernel
  have l91 : (91 : Int32).toInt = 91 := by decide +kernel
  have l400 : (400 : Int32).toInt = 400 := by decide +kernel
  refine lv_aload_n hx hb dX4_readTest_0 rfl (lv_at hl 0 rfl) ?_
  refine lv_iconst (v := 0) hx hb dX4_readTest_1 (by decide +kernel) ?_
  refine tr_put (ci := 4) hx hb ht hown hK hT hP hD hS k_t (by decide) i_X4 tyX4 tyX4_ok nmX4 rfl 5 (by decide) wd_342 rfl rfl rfl rfl ⟨_, rfl, by omega, by omega⟩ dX4_readTest_2 (fun H locs wt hT hfl hfn hP hD hS => ?_)
  have hW := hW.obj (show 4 * 100 + 5 ∈ [405, 406, 407, 408] by decide) hfl
  have hf_1 := hfn
  refine lv_aload_n hx hb dX4_readTest_5 rfl (lv_at hl 0 rfl) ?_
  refine tr_get (ci := 4) hx hb ht hown hK hT hP k_t (by decide) i_X4 rfl 4 (by decide) wd_341 rfl dX4_readTest_6 (fun v hv hf_2 => ?_)
  obtain ⟨q_3, rfl, hq_3⟩ := hv
  refine lv_iconst (v := 0) hx hb dX4_readTest_9 (by decide +kernel) ?_
  refine lv_iconst (v := 0) hx hb dX4_readTest_10 (by decide +kernel) ?_
  refine tr_iast hx hb hK hT hP hD hS 26 hq_3 (by decide) (by decide) (show vp_in _ (tk_len 26) from ia_in (n := 11) (by omega) (by omega)) (show tk_e 26 _ from trivial) dX4_readTest_11 (fun H locs wt hT hfl hP hD hS => ?_)
  have hW := hW.arr hfl
  have hf_1 := hfl _ _ _ _ hf_1
  refine lv_iconst (v := 0) hx hb dX4_readTest_12 (by decide +kernel) ?_
  refine lv_istore_n (lv' := [(2, .int 0), (0, .ref t), (1, .ref tp)]) hx hb dX4_readTest_13 rfl hl (by decide) rfl (fun ls hl => ?_)
  refine tl_loopE (Γ := Γ) (nL := 4) (fun (zz_ : Int32 × Int32 × Int32 × Int32) => match zz_ with | (x14_0, x14_1, x14_2, x14_3) => 0 ≤ x14_0.toInt ∧ x14_0.toInt ≤ 401 ∧ 0 ≤ x14_1.toInt ∧ x14_1.toInt ≤ 400 ∧ 0 ≤ x14_2.toInt ∧ x14_2.toInt ≤ 400 ∧ x14_1.toInt + x14_2.toInt ≤ 400) (fun (zz_ : Int32 × Int32 × Int32 × Int32) => match zz_ with | (x14_0, x14_1, x14_2, x14_3) => (401 - x14_0.toInt).toNat) (fun (zz_ : Int32 × Int32 × Int32 × Int32) => match zz_ with | (x14_0, x14_1, x14_2, x14_3) => [(2, .int x14_0), (0, .ref t), (1, .ref tp)]) (fun (zz_ : Int32 × Int32 × Int32 × Int32) => match zz_ with | (x14_0, x14_1, x14_2, x14_3) => [(tp, .inr (8, [.ref bp, .int n, .int x14_1, .int x14_2, .int x14_3])), (bp, .inl (G.2.2 0, 400, .inl bf))]) (fun (zz_ : Int32 × Int32 × Int32 × Int32) (w : va_W) => match zz_ with | (x14_0, x14_1, x14_2, x14_3) => tk_kp [405, 406, 407, 408] w0 w) (fun zz_ hI H locs wt ls hT hW hP hD hS hl ih14 => ?_) (0, at_, w_, fl) (show 0 ≤ (0 : Int32).toInt ∧ (0 : Int32).toInt ≤ 401 ∧ 0 ≤ at_.toInt ∧ at_.toInt ≤ 400 ∧ 0 ≤ w_.toInt ∧ w_.toInt ≤ 400 ∧ at_.toInt + w_.toInt ≤ 400 from ⟨by omega, by omega, by omega, by omega, by omega, by omega, by omega⟩) _ _ wt ls hT hW hP hD hS hl
  obtain ⟨x14_0, x14_1, x14_2, x14_3⟩ := zz_
  have hW : tk_kp [405, 406, 407, 408] w0 wt := hW
  have hI : 0 ≤ x14_0.toInt ∧ x14_0.toInt ≤ 401 ∧ 0 ≤ x14_1.toInt ∧ x14_1.toInt ≤ 400 ∧ 0 ≤ x14_2.toInt ∧ x14_2.toInt ≤ 400 ∧ x14_1.toInt + x14_2.toInt ≤ 400 := hI
  obtain ⟨j14_0, j14_1, j14_2, j14_3, j14_4, j14_5, j14_6⟩ := hI
  have hl : lv_has ls 4 [(2, .int x14_0), (0, .ref t), (1, .ref tp)] := hl
  have hP : va_P (gg_D G) classes ([(tp, .inr (8, [.ref bp, .int n, .int x14_1, .int x14_2, .int x14_3])), (bp, .inl (G.2.2 0, 400, .inl bf))] ++ wt) H := hP
  have hD : va_D A ([(tp, .inr (8, [.ref bp, .int n, .int x14_1, .int x14_2, .int x14_3])), (bp, .inl (G.2.2 0, 400, .inl bf))] ++ wt) := hD
  refine lv_iload_n hx hb dX4_readTest_14 rfl (lv_at hl 0 rfl) ?_
  refine lv_sipush (v := 400) hx hb dX4_readTest_15 (by decide +kernel) ?_
  refine lv_icmp_gt (tgt := 154) hx hb dX4_readTest_18 (by decide) (fun c_4 => ?_) (fun c_4 => ?_)
  · rw [Int32.lt_iff_toInt_lt] at c_4
    refine lv_iconst (v := 0) hx hb dX4_readTest_154 (by decide +kernel) ?_
    have hP9 : va_P (gg_D G) classes ([(tp, .inr (8, [.ref bp, .int n, .int x14_1, .int x14_2, .int x14_3])), (bp, .inl (G.2.2 0, 400, .inl bf))] ++ wt) _ := hP
    have hD9 : va_D A ([(tp, .inr (8, [.ref bp, .int n, .int x14_1, .int x14_2, .int x14_3])), (bp, .inl (G.2.2 0, 400, .inl bf))] ++ wt) := hD
    exact W.zret (v := 0) hx hb hr (by decide +kernel) (gq_endI (x14_1, x14_2, x14_3, wt) ⟨hT, hW, (by omega), (by omega), (by omega), (by omega), (by omega)⟩ hP9 hD9 hS) hS.2.2 dX4_readTest_155
  · rw [Int32.lt_iff_toInt_lt] at c_4
    refine lv_aload_n hx hb dX4_readTest_21 rfl (lv_at hl 2 rfl) ?_
    refine va_ldcS hx hb hown (hX.2.2.2.2.2.2.2.1) dX4_readTest_22 ?_
    have hP : va_P (gg_D G) classes ([] ++ ([(tp, .inr (8, [.ref bp, .int n, .int x14_1, .int x14_2, .int x14_3])), (bp, .inl (G.2.2 0, 400, .inl bf))] ++ wt)) H := hP
    have hD : va_D A ([] ++ ([(tp, .inr (8, [.ref bp, .int n, .int x14_1, .int x14_2, .int x14_3])), (bp, .inl (G.2.2 0, 400, .inl bf))] ++ wt)) := hD
    refine gt_callI (wr := []) (va_runV (As := [.ref (K 4)]) (rest := []) ⟨hx, hb, hml, hown, ht⟩ (d_which4 l G Γ H.size wt hT K V tp bp n x14_1 x14_2 x14_3 bf (by first | assumption | omega) (by first | assumption | omega) (by first | assumption | omega) (by first | assumption | omega) (by first | assumption | omega)) (cwV 1 ht (ts_gV wd_717 wd_588 wd_589 wd_123 wd_590) rfl rfl rfl (by decide +kernel) ⟨Nat.le_of_ble_eq_true rfl, Nat.le_of_ble_eq_true rfl⟩) (gx_preV (ci := 8) (q0 := 0) hK (tw_right hP) (tw_rightD hD) hX hS (tw_free hD hS hA) rfl rfl) rfl rfl hl.1 rfl (lv_room (Nat.le_of_ble_eq_true rfl)) dX4_readTest_24 ⟨Nat.le_of_ble_eq_true rfl, Nat.le_of_ble_eq_true rfl⟩) hP hD hS hA (fun r_5 wt H locs hw hP hD hS => ?_)
    obtain ⟨hT, hkp, lo_r_5, hi_r_5⟩ := hw
    have hW := hW.call (show ∀ x ∈ [], x ∈ [405, 406, 407, 408] by decide) hkp
    have hP : va_P (gg_D G) classes ([(tp, .inr (8, [.ref bp, .int n, .int x14_1, .int x14_2, .int x14_3])), (bp, .inl (G.2.2 0, 400, .inl bf))] ++ wt) H := hP
    have hD : va_D A ([(tp, .inr (8, [.ref bp, .int n, .int x14_1, .int x14_2, .int x14_3])), (bp, .inl (G.2.2 0, 400, .inl bf))] ++ wt) := hD
    refine lv_if_ne (tgt := 35) hx hb dX4_readTest_27 (by decide) (fun c_6 => ?_) (fun c_6 => ?_)
    · rw [← Int32.toInt_inj] at c_6
      refine lv_aload_n hx hb dX4_readTest_35 rfl (lv_at hl 2 rfl) ?_
      have hP : va_P (gg_D G) classes ([] ++ ([(tp, .inr (8, [.ref bp, .int n, .int x14_1, .int x14_2, .int x14_3])), (bp, .inl (G.2.2 0, 400, .inl bf))] ++ wt)) H := hP
      have hD : va_D A ([] ++ ([(tp, .inr (8, [.ref bp, .int n, .int x14_1, .int x14_2, .int x14_3])), (bp, .inl (G.2.2 0, 400, .inl bf))] ++ wt)) := hD
      refine gt_callI (wr := []) (va_runV (As := []) (rest := []) ⟨hx, hb, hml, hown, ht⟩ (d_sign l G Γ H.size wt hT tp bp n x14_1 x14_2 x14_3 bf (by first | assumption | omega) (by first | assumption | omega) (by first | assumption | omega) (by first | assumption | omega) (by first | assumption | omega)) (cwV 0 ht (ts_gV wd_740 wd_681 wd_682 wd_123 wd_683) rfl rfl rfl (by decide +kernel) ⟨Nat.le_of_ble_eq_true rfl, Nat.le_of_ble_eq_true rfl⟩) (gc_preV (ci := 8) (q0 := 0) hK (tw_right hP) (tw_rightD hD) rfl rfl) rfl rfl hl.1 rfl (lv_room (Nat.le_of_ble_eq_true rfl)) dX4_readTest_36 ⟨Nat.le_of_ble_eq_true rfl, Nat.le_of_ble_eq_true rfl⟩) hP hD hS hA (fun r_7 wt H locs hw hP hD hS => ?_)
      obtain ⟨hT, hkp, rp_r_7⟩ := hw
      have hW := hW.call (show ∀ x ∈ [], x ∈ [405, 406, 407, 408] by decide) hkp
      have hP : va_P (gg_D G) classes ([(tp, .inr (8, [.ref bp, .int n, .int x14_1, .int x14_2, .int x14_3])), (bp, .inl (G.2.2 0, 400, .inl bf))] ++ wt) H := hP
      have hD : va_D A ([(tp, .inr (8, [.ref bp, .int n, .int x14_1, .int x14_2, .int x14_3])), (bp, .inl (G.2.2 0, 400, .inl bf))] ++ wt) := hD
      refine lv_bipush (v := 91) hx hb dX4_readTest_39 (by decide +kernel) ?_
      refine lv_icmp_ne (tgt := 49) hx hb dX4_readTest_41 (by decide) (fun c_8 => ?_) (fun c_8 => ?_)
      · rw [← Int32.toInt_inj] at c_8
        refine lv_iconst (v := 0) hx hb dX4_readTest_49 (by decide +kernel) ?_
        refine lv_istore_n (lv' := [(3, .int 0), (2, .int x14_0), (0, .ref t), (1, .ref tp)]) hx hb dX4_readTest_50 rfl hl (by decide) rfl (fun ls hl => ?_)
        refine lv_iload_n hx hb dX4_readTest_51 rfl (lv_at hl 0 rfl) ?_
        refine lv_if_ne (tgt := 84) hx hb dX4_readTest_52 (by decide) (fun c0 => False.elim (by rw [← Int32.toInt_inj] at c0; omega)) (fun _ => ?_)
        refine lv_aload_n hx hb dX4_readTest_55 rfl (lv_at hl 2 rfl) ?_
        refine lv_aload_n hx hb dX4_readTest_56 rfl (lv_at hl 3 rfl) ?_
        have hP : va_P (gg_D G) classes ([] ++ ([(tp, .inr (8, [.ref bp, .int n, .int x14_1, .int x14_2, .int x14_3])), (bp, .inl (G.2.2 0, 400, .inl bf))] ++ wt)) H := hP
        have hD : va_D A ([] ++ ([(tp, .inr (8, [.ref bp, .int n, .int x14_1, .int x14_2, .int x14_3])), (bp, .inl (G.2.2 0, 400, .inl bf))] ++ wt)) := hD
        refine gt_callI (wr := []) (va_runV (As := [.ref tp]) (rest := []) ⟨hx, hb, hml, hown, ht⟩ (d_readFact l G Γ H.size wt hT K V t tp bp n x14_1 x14_2 x14_3 bf k_t (by first | assumption | omega) (by first | assumption | omega) (by first | assumption | omega) (by first | assumption | omega) (by first | assumption | omega)) (cwV 1 ht (ts_gV wd_760 wd_762 wd_11 wd_128 wd_763) rfl rfl rfl (by decide +kernel) ⟨Nat.le_of_ble_eq_true rfl, Nat.le_of_ble_eq_true rfl⟩) (gx_preW (we := [(tp, .inr (8, [.ref bp, .int n, .int x14_1, .int x14_2, .int x14_3])), (bp, .inl (G.2.2 0, 400, .inl bf))]) (ci := 4) hK hT (tw_right hP) (tw_rightD hD) hX hS (tw_free hD hS hA) k_t (by decide) rfl) rfl rfl hl.1 rfl (lv_room (Nat.le_of_ble_eq_true rfl)) dX4_readTest_57 ⟨Nat.le_of_ble_eq_true rfl, Nat.le_of_ble_eq_true rfl⟩) hP hD hS hA (fun r_9 u H locs hw hP hD hS => ?_)
        obtain ⟨y_10, y_11, y_12, wt⟩ := u
        obtain ⟨hT, hkp, w_13, w_14, w_15, lo_r_9, hi_r_9⟩ := hw
        have hW := hW.call (show ∀ x ∈ [406, 407, 408], x ∈ [405, 406, 407, 408] by decide) hkp
        have hP : va_P (gg_D G) classes ([(tp, .inr (8, [.ref bp, .int n, .int y_10, .int y_11, .int y_12])), (bp, .inl (G.2.2 0, 400, .inl bf))] ++ wt) H := hP
        have hD : va_D A ([(tp, .inr (8, [.ref bp, .int n, .int y_10, .int y_11, .int y_12])), (bp, .inl (G.2.2 0, 400, .inl bf))] ++ wt) := hD
        refine lv_if_eq (tgt := 71) hx hb dX4_readTest_60 (by decide) (fun c_16 => ?_) (fun c_16 => ?_)
        · rw [← Int32.toInt_inj] at c_16
          refine lv_aload_n hx hb dX4_readTest_71 rfl (lv_at hl 3 rfl) ?_
          have hP : va_P (gg_D G) classes ([] ++ ([(tp, .inr (8, [.ref bp, .int n, .int y_10, .int y_11, .int y_12])), (bp, .inl (G.2.2 0, 400, .inl bf))] ++ wt)) H := hP
          have hD : va_D A ([] ++ ([(tp, .inr (8, [.ref bp, .int n, .int y_10, .int y_11, .int y_12])), (bp, .inl (G.2.2 0, 400, .inl bf))] ++ wt)) := hD
          refine gt_callI (wr := []) (va_runV (As := []) (rest := []) ⟨hx, hb, hml, hown, ht⟩ (d_firstFault l G Γ H.size wt hT tp bp n y_10 y_11 y_12 bf (by first | assumption | omega) (by first | assumption | omega) (by first | assumption | omega) (by first | assumption | omega) (by first | assumption | omega)) (cwV 0 ht (ts_gV wd_779 wd_685 wd_686 wd_123 wd_687) rfl rfl rfl (by decide +kernel) ⟨Nat.le_of_ble_eq_true rfl, Nat.le_of_ble_eq_true rfl⟩) (gc_preV (ci := 8) (q0 := 0) hK (tw_right hP) (tw_rightD hD) rfl rfl) rfl rfl hl.1 rfl (lv_room (Nat.le_of_ble_eq_true rfl)) dX4_readTest_72 ⟨Nat.le_of_ble_eq_true rfl, Nat.le_of_ble_eq_true rfl⟩) hP hD hS hA (fun r_17 wt H locs hw hP hD hS => ?_)
          obtain ⟨hT, hkp⟩ := hw
          have hW := hW.call (show ∀ x ∈ [], x ∈ [405, 406, 407, 408] by decide) hkp
          have hP : va_P (gg_D G) classes ([(tp, .inr (8, [.ref bp, .int n, .int y_10, .int y_11, .int y_12])), (bp, .inl (G.2.2 0, 400, .inl bf))] ++ wt) H := hP
          have hD : va_D A ([(tp, .inr (8, [.ref bp, .int n, .int y_10, .int y_11, .int y_12])), (bp, .inl (G.2.2 0, 400, .inl bf))] ++ wt) := hD
          refine lv_if_ne (tgt := 82) hx hb dX4_readTest_75 (by decide) (fun c_18 => ?_) (fun c_18 => ?_)
          · rw [← Int32.toInt_inj] at c_18
            refine lv_iconst (v := 0) hx hb dX4_readTest_82 (by decide +kernel) ?_
            have hP9 : va_P (gg_D G) classes ([(tp, .inr (8, [.ref bp, .int n, .int y_10, .int y_11, .int y_12])), (bp, .inl (G.2.2 0, 400, .inl bf))] ++ wt) _ := hP
            have hD9 : va_D A ([(tp, .inr (8, [.ref bp, .int n, .int y_10, .int y_11, .int y_12])), (bp, .inl (G.2.2 0, 400, .inl bf))] ++ wt) := hD
            exact W.zret (v := 0) hx hb hr (by decide +kernel) (gq_endI (y_10, y_11, y_12, wt) ⟨hT, hW, (by omega), (by omega), (by omega), (by omega), (by omega)⟩ hP9 hD9 hS) hS.2.2 dX4_readTest_83
          · rw [← Int32.toInt_inj] at c_18
            refine lv_iconst (v := 1) hx hb dX4_readTest_78 (by decide +kernel) ?_
            refine lv_goto (tgt := 83) hx hb dX4_readTest_79 (by decide) ?_
            have hP9 : va_P (gg_D G) classes ([(tp, .inr (8, [.ref bp, .int n, .int y_10, .int y_11, .int y_12])), (bp, .inl (G.2.2 0, 400, .inl bf))] ++ wt) _ := hP
            have hD9 : va_D A ([(tp, .inr (8, [.ref bp, .int n, .int y_10, .int y_11, .int y_12])), (bp, .inl (G.2.2 0, 400, .inl bf))] ++ wt) := hD
            exact W.zret (v := 1) hx hb hr (by decide +kernel) (gq_endI (y_10, y_11, y_12, wt) ⟨hT, hW, (by omega), (by omega), (by omega), (by omega), (by omega)⟩ hP9 hD9 hS) hS.2.2 dX4_readTest_83
        · rw [← Int32.toInt_inj] at c_16
          refine lv_aload_n hx hb dX4_readTest_63 rfl (lv_at hl 2 rfl) ?_
          refine lv_aload_n hx hb dX4_readTest_64 rfl (lv_at hl 3 rfl) ?_
          have hP : va_P (gg_D G) classes ([] ++ ([(tp, .inr (8, [.ref bp, .int n, .int y_10, .int y_11, .int y_12])), (bp, .inl (G.2.2 0, 400, .inl bf))] ++ wt)) H := hP
          have hD : va_D A ([] ++ ([(tp, .inr (8, [.ref bp, .int n, .int y_10, .int y_11, .int y_12])), (bp, .inl (G.2.2 0, 400, .inl bf))] ++ wt)) := hD
          refine gt_callI (wr := []) (va_runV (As := [.ref tp]) (rest := []) ⟨hx, hb, hml, hown, ht⟩ (d_factCome l G Γ H.size wt hT K V t tp bp n y_10 y_11 y_12 bf k_t (by first | assumption | omega) (by first | assumption | omega) (by first | assumption | omega) (by first | assumption | omega) (by first | assumption | omega)) (cwV 1 ht (ts_gV wd_768 wd_770 wd_12 wd_128 wd_771) rfl rfl rfl (by decide +kernel) ⟨Nat.le_of_ble_eq_true rfl, Nat.le_of_ble_eq_true rfl⟩) (gx_preW (we := [(tp, .inr (8, [.ref bp, .int n, .int y_10, .int y_11, .int y_12])), (bp, .inl (G.2.2 0, 400, .inl bf))]) (ci := 4) hK hT (tw_right hP) (tw_rightD hD) hX hS (tw_free hD hS hA) k_t (by decide) rfl) rfl rfl hl.1 rfl (lv_room (Nat.le_of_ble_eq_true rfl)) dX4_readTest_65 ⟨Nat.le_of_ble_eq_true rfl, Nat.le_of_ble_eq_true rfl⟩) hP hD hS hA (fun r_19 u H locs hw hP hD hS => ?_)
          obtain ⟨y_20, y_21, y_22, wt⟩ := u
          obtain ⟨hT, hkp, w_23, w_24, w_25, lo_r_19, hi_r_19⟩ := hw
          have hW := hW.call (show ∀ x ∈ [405, 406], x ∈ [405, 406, 407, 408] by decide) hkp
          have hP : va_P (gg_D G) classes ([(tp, .inr (8, [.ref bp, .int n, .int y_20, .int y_21, .int y_22])), (bp, .inl (G.2.2 0, 400, .inl bf))] ++ wt) H := hP
          have hD : va_D A ([(tp, .inr (8, [.ref bp, .int n, .int y_20, .int y_21, .int y_22])), (bp, .inl (G.2.2 0, 400, .inl bf))] ++ wt) := hD
          refine lv_if_ne (tgt := 148) hx hb dX4_readTest_68 (by decide) (fun c_26 => ?_) (fun c_26 => ?_)
          · rw [← Int32.toInt_inj] at c_26
            obtain ⟨t_27, et_27⟩ : ∃ zz_ : Int32, x14_0 + Int32.ofInt (1) = zz_ := ⟨_, rfl⟩
            have ft_27 : t_27.toInt = x14_0.toInt + (1 : Int32).toInt := ia_add (y := 1) et_27 (by omega) (by omega)
            refine lv_iinc (v := t_27) (lv' := [(2, .int t_27), (3, .int 0), (0, .ref t), (1, .ref tp)]) hx hb dX4_readTest_148 hl (k := 1) rfl et_27 (by decide) rfl (fun ls hl => ?_)
            refine lv_goto (tgt := 14) hx hb dX4_readTest_151 (by decide) ?_
            exact ih14 (t_27, y_20, y_21, y_22) (show 0 ≤ t_27.toInt ∧ t_27.toInt ≤ 401 ∧ 0 ≤ y_20.toInt ∧ y_20.toInt ≤ 400 ∧ 0 ≤ y_21.toInt ∧ y_21.toInt ≤ 400 ∧ y_20.toInt + y_21.toInt ≤ 400 from ⟨by omega, by omega, by omega, by omega, by omega, by omega, by omega⟩) (show (401 - t_27.toInt).toNat < (401 - x14_0.toInt).toNat by omega) H locs wt ls hT hW hP hD hS (lv_sub hl [0, 2, 3] rfl)
          · rw [← Int32.toInt_inj] at c_26
            refine lv_aload_n hx hb dX4_readTest_71 rfl (lv_at hl 3 rfl) ?_
            have hP : va_P (gg_D G) classes ([] ++ ([(tp, .inr (8, [.ref bp, .int n, .int y_20, .int y_21, .int y_22])), (bp, .inl (G.2.2 0, 400, .inl bf))] ++ wt)) H := hP
            have hD : va_D A ([] ++ ([(tp, .inr (8, [.ref bp, .int n, .int y_20, .int y_21, .int y_22])), (bp, .inl (G.2.2 0, 400, .inl bf))] ++ wt)) := hD
            refine gt_callI (wr := []) (va_runV (As := []) (rest := []) ⟨hx, hb, hml, hown, ht⟩ (d_firstFault l G Γ H.size wt hT tp bp n y_20 y_21 y_22 bf (by first | assumption | omega) (by first | assumption | omega) (by first | assumption | omega) (by first | assumption | omega) (by first | assumption | omega)) (cwV 0 ht (ts_gV wd_779 wd_685 wd_686 wd_123 wd_687) rfl rfl rfl (by decide +kernel) ⟨Nat.le_of_ble_eq_true rfl, Nat.le_of_ble_eq_true rfl⟩) (gc_preV (ci := 8) (q0 := 0) hK (tw_right hP) (tw_rightD hD) rfl rfl) rfl rfl hl.1 rfl (lv_room (Nat.le_of_ble_eq_true rfl)) dX4_readTest_72 ⟨Nat.le_of_ble_eq_true rfl, Nat.le_of_ble_eq_true rfl⟩) hP hD hS hA (fun r_28 wt H locs hw hP hD hS => ?_)
            obtain ⟨hT, hkp⟩ := hw
            have hW := hW.call (show ∀ x ∈ [], x ∈ [405, 406, 407, 408] by decide) hkp
            have hP : va_P (gg_D G) classes ([(tp, .inr (8, [.ref bp, .int n, .int y_20, .int y_21, .int y_22])), (bp, .inl (G.2.2 0, 400, .inl bf))] ++ wt) H := hP
            have hD : va_D A ([(tp, .inr (8, [.ref bp, .int n, .int y_20, .int y_21, .int y_22])), (bp, .inl (G.2.2 0, 400, .inl bf))] ++ wt) := hD
            refine lv_if_ne (tgt := 82) hx hb dX4_readTest_75 (by decide) (fun c_29 => ?_) (fun c_29 => ?_)
            · rw [← Int32.toInt_inj] at c_29
              refine lv_iconst (v := 0) hx hb dX4_readTest_82 (by decide +kernel) ?_
              have hP9 : va_P (gg_D G) classes ([(tp, .inr (8, [.ref bp, .int n, .int y_20, .int y_21, .int y_22])), (bp, .inl (G.2.2 0, 400, .inl bf))] ++ wt) _ := hP
              have hD9 : va_D A ([(tp, .inr (8, [.ref bp, .int n, .int y_20, .int y_21, .int y_22])), (bp, .inl (G.2.2 0, 400, .inl bf))] ++ wt) := hD
              exact W.zret (v := 0) hx hb hr (by decide +kernel) (gq_endI (y_20, y_21, y_22, wt) ⟨hT, hW, (by omega), (by omega), (by omega), (by omega), (by omega)⟩ hP9 hD9 hS) hS.2.2 dX4_readTest_83
            · rw [← Int32.toInt_inj] at c_29
              refine lv_iconst (v := 1) hx hb dX4_readTest_78 (by decide +kernel) ?_
              refine lv_goto (tgt := 83) hx hb dX4_readTest_79 (by decide) ?_
              have hP9 : va_P (gg_D G) classes ([(tp, .inr (8, [.ref bp, .int n, .int y_20, .int y_21, .int y_22])), (bp, .inl (G.2.2 0, 400, .inl bf))] ++ wt) _ := hP
              have hD9 : va_D A ([(tp, .inr (8, [.ref bp, .int n, .int y_20, .int y_21, .int y_22])), (bp, .inl (G.2.2 0, 400, .inl bf))] ++ wt) := hD
              exact W.zret (v := 1) hx hb hr (by decide +kernel) (gq_endI (y_20, y_21, y_22, wt) ⟨hT, hW, (by omega), (by omega), (by omega), (by omega), (by omega)⟩ hP9 hD9 hS) hS.2.2 dX4_readTest_83
      · rw [← Int32.toInt_inj] at c_8
        refine lv_bipush (v := 25) hx hb dX4_readTest_44 (by decide +kernel) ?_
        refine lv_goto (tgt := 50) hx hb dX4_readTest_46 (by decide) ?_
        refine lv_istore_n (lv' := [(3, .int 25), (2, .int x14_0), (0, .ref t), (1, .ref tp)]) hx hb dX4_readTest_50 rfl hl (by decide) rfl (fun ls hl => ?_)
        refine lv_iload_n hx hb dX4_readTest_51 rfl (lv_at hl 0 rfl) ?_
        refine lv_if_ne (tgt := 84) hx hb dX4_readTest_52 (by decide) (fun _ => ?_) (fun c0 => False.elim (by rw [← Int32.toInt_inj] at c0; omega))
        refine lv_aload_n hx hb dX4_readTest_84 rfl (lv_at hl 2 rfl) ?_
        refine tr_get (ci := 4) hx hb ht hown hK hT hP k_t (by decide) i_X4 rfl 5 (by decide) wd_342 rfl dX4_readTest_85 (fun v hv hf_30 => ?_)
        obtain ⟨n_31, rfl, lo_n_31, hi_n_31⟩ := hv
        refine lv_bipush (v := 10) hx hb dX4_readTest_88 (by decide +kernel) ?_
        refine lv_icmp_lt (tgt := 103) hx hb dX4_readTest_90 (by decide) (fun c_32 => ?_) (fun c_32 => ?_)
        · rw [Int32.lt_iff_toInt_lt] at c_32
          refine lv_aload_n hx hb dX4_readTest_103 rfl (lv_at hl 2 rfl) ?_
          refine lv_dup hx hb dX4_readTest_104 rfl ?_
          refine tr_getK (ci := 4) hx hb ht hown hK hP i_X4 rfl 5 (by decide) wd_342 rfl hf_30 dX4_readTest_105 ?_
          refine lv_iconst (v := 1) hx hb dX4_readTest_108 (by decide +kernel) ?_
          obtain ⟨t_33, et_33⟩ : ∃ zz_ : Int32, n_31 + 1 = zz_ := ⟨_, rfl⟩
          refine gq_iadd hx hb t_33 et_33 dX4_readTest_109 ?_
          have ft_33 := ia_add et_33 (by omega) (by omega)
          refine tr_put (ci := 4) hx hb ht hown hK hT hP hD hS k_t (by decide) i_X4 tyX4 tyX4_ok nmX4 rfl 5 (by decide) wd_342 rfl rfl rfl rfl ⟨_, rfl, by omega, by omega⟩ dX4_readTest_110 (fun H locs wt hT hfl hfn hP hD hS => ?_)
          have hW := hW.obj (show 4 * 100 + 5 ∈ [405, 406, 407, 408] by decide) hfl
          have hf_34 := hfn
          refine lv_aload_n hx hb dX4_readTest_113 rfl (lv_at hl 2 rfl) ?_
          refine tr_get (ci := 4) hx hb ht hown hK hT hP k_t (by decide) i_X4 rfl 3 (by decide) wd_340 rfl dX4_readTest_114 (fun v hv hf_35 => ?_)
          obtain ⟨q_36, rfl, hq_36⟩ := hv
          refine lv_aload_n hx hb dX4_readTest_117 rfl (lv_at hl 2 rfl) ?_
          refine tr_getK (ci := 4) hx hb ht hown hK hP i_X4 rfl 5 (by decide) wd_342 rfl hf_34 dX4_readTest_118 ?_
          refine lv_iload_n hx hb dX4_readTest_121 rfl (lv_at hl 0 rfl) ?_
          refine tr_iast hx hb hK hT hP hD hS 26 hq_36 (by decide) (by decide) (show vp_in _ (tk_len 26) from ia_in (n := 11) (by omega) (by omega)) (show tk_e 26 _ from trivial) dX4_readTest_122 (fun H locs wt hT hfl hP hD hS => ?_)
          have hW := hW.arr hfl
          have hf_34 := hfl _ _ _ _ hf_34
          refine lv_aload_n hx hb dX4_readTest_123 rfl (lv_at hl 2 rfl) ?_
          refine tr_get (ci := 4) hx hb ht hown hK hT hP k_t (by decide) i_X4 rfl 4 (by decide) wd_341 rfl dX4_readTest_124 (fun v hv hf_37 => ?_)
          obtain ⟨q_38, rfl, hq_38⟩ := hv
          refine lv_aload_n hx hb dX4_readTest_127 rfl (lv_at hl 2 rfl) ?_
          refine tr_getK (ci := 4) hx hb ht hown hK hP i_X4 rfl 5 (by decide) wd_342 rfl hf_34 dX4_readTest_128 ?_
          refine lv_iconst (v := 0) hx hb dX4_readTest_131 (by decide +kernel) ?_
          refine tr_iast hx hb hK hT hP hD hS 26 hq_38 (by decide) (by decide) (show vp_in _ (tk_len 26) from ia_in (n := 11) (by omega) (by omega)) (show tk_e 26 _ from trivial) dX4_readTest_132 (fun H locs wt hT hfl hP hD hS => ?_)
          have hW := hW.arr hfl
          have hf_34 := hfl _ _ _ _ hf_34
          refine lv_aload_n hx hb dX4_readTest_133 rfl (lv_at hl 3 rfl) ?_
          refine lv_iload_n hx hb dX4_readTest_134 rfl (lv_at hl 0 rfl) ?_
          refine lv_bipush (v := 22) hx hb dX4_readTest_135 (by decide +kernel) ?_
          refine lv_icmp_ne (tgt := 144) hx hb dX4_readTest_137 (by decide) (fun _ => ?_) (fun c0 => False.elim (by rw [← Int32.toInt_inj] at c0; omega))
          refine lv_iconst (v := 1) hx hb dX4_readTest_144 (by decide +kernel) ?_
          have hP : va_P (gg_D G) classes ([] ++ ([(tp, .inr (8, [.ref bp, .int n, .int x14_1, .int x14_2, .int x14_3])), (bp, .inl (G.2.2 0, 400, .inl bf))] ++ wt)) H := hP
          have hD : va_D A ([] ++ ([(tp, .inr (8, [.ref bp, .int n, .int x14_1, .int x14_2, .int x14_3])), (bp, .inl (G.2.2 0, 400, .inl bf))] ++ wt)) := hD
          refine gt_callV (wr := []) (va_runV (As := [.int 1]) (rest := []) ⟨hx, hb, hml, hown, ht⟩ (d_skip l G Γ H.size wt hT 1 tp bp n x14_1 x14_2 x14_3 bf (by omega) (by omega) (by first | assumption | omega) (by first | assumption | omega) (by first | assumption | omega) (by first | assumption | omega) (by first | assumption | omega)) (cwV 1 ht (ts_gV wd_741 wd_742 wd_743 wd_123 wd_744) rfl rfl rfl (by decide +kernel) ⟨Nat.le_of_ble_eq_true rfl, Nat.le_of_ble_eq_true rfl⟩) (gc_preV (ci := 8) (q0 := 0) hK (tw_right hP) (tw_rightD hD) rfl rfl) rfl rfl hl.1 rfl (lv_room (Nat.le_of_ble_eq_true rfl)) dX4_readTest_145 ⟨Nat.le_of_ble_eq_true rfl, Nat.le_of_ble_eq_true rfl⟩) hP hD hS hA (fun u H locs hw hP hD hS => ?_)
          obtain ⟨y_39, y_40, y_41, wt⟩ := u
          obtain ⟨hT, hkp, w_42, w_43, w_44⟩ := hw
          have hW := hW.call (show ∀ x ∈ [], x ∈ [405, 406, 407, 408] by decide) hkp
          have hf_34 := hkp _ _ _ _ (by decide) (by decide) hf_34
          have hP : va_P (gg_D G) classes ([(tp, .inr (8, [.ref bp, .int n, .int y_39, .int y_40, .int y_41])), (bp, .inl (G.2.2 0, 400, .inl bf))] ++ wt) H := hP
          have hD : va_D A ([(tp, .inr (8, [.ref bp, .int n, .int y_39, .int y_40, .int y_41])), (bp, .inl (G.2.2 0, 400, .inl bf))] ++ wt) := hD
          obtain ⟨t_45, et_45⟩ : ∃ zz_ : Int32, x14_0 + Int32.ofInt (1) = zz_ := ⟨_, rfl⟩
          have ft_45 : t_45.toInt = x14_0.toInt + (1 : Int32).toInt := ia_add (y := 1) et_45 (by omega) (by omega)
          refine lv_iinc (v := t_45) (lv' := [(2, .int t_45), (3, .int 25), (0, .ref t), (1, .ref tp)]) hx hb dX4_readTest_148 hl (k := 1) rfl et_45 (by decide) rfl (fun ls hl => ?_)
          refine lv_goto (tgt := 14) hx hb dX4_readTest_151 (by decide) ?_
          exact ih14 (t_45, y_39, y_40, y_41) (show 0 ≤ t_45.toInt ∧ t_45.toInt ≤ 401 ∧ 0 ≤ y_39.toInt ∧ y_39.toInt ≤ 400 ∧ 0 ≤ y_40.toInt ∧ y_40.toInt ≤ 400 ∧ y_39.toInt + y_40.toInt ≤ 400 from ⟨by omega, by omega, by omega, by omega, by omega, by omega, by omega⟩) (show (401 - t_45.toInt).toNat < (401 - x14_0.toInt).toNat by omega) H locs wt ls hT hW hP hD hS (lv_sub hl [0, 2, 3] rfl)
        · rw [Int32.lt_iff_toInt_lt] at c_32
          refine lv_aload_n hx hb dX4_readTest_93 rfl (lv_at hl 3 rfl) ?_
          refine lv_aload_n hx hb dX4_readTest_94 rfl (lv_at hl 3 rfl) ?_
          have hP : va_P (gg_D G) classes ([] ++ ([(tp, .inr (8, [.ref bp, .int n, .int x14_1, .int x14_2, .int x14_3])), (bp, .inl (G.2.2 0, 400, .inl bf))] ++ wt)) H := hP
          have hD : va_D A ([] ++ ([(tp, .inr (8, [.ref bp, .int n, .int x14_1, .int x14_2, .int x14_3])), (bp, .inl (G.2.2 0, 400, .inl bf))] ++ wt)) := hD
          refine gt_callI (wr := []) (va_runV (As := []) (rest := [.ref tp]) ⟨hx, hb, hml, hown, ht⟩ (d_place l G Γ H.size wt hT tp bp n x14_1 x14_2 x14_3 bf (by first | assumption | omega) (by first | assumption | omega) (by first | assumption | omega) (by first | assumption | omega) (by first | assumption | omega)) (cwV 0 ht (ts_gV wd_718 wd_640 wd_641 wd_123 wd_642) rfl rfl rfl (by decide +kernel) ⟨Nat.le_of_ble_eq_true rfl, Nat.le_of_ble_eq_true rfl⟩) (gc_preV (ci := 8) (q0 := 0) hK (tw_right hP) (tw_rightD hD) rfl rfl) rfl rfl hl.1 rfl (lv_room (Nat.le_of_ble_eq_true rfl)) dX4_readTest_95 ⟨Nat.le_of_ble_eq_true rfl, Nat.le_of_ble_eq_true rfl⟩) hP hD hS hA (fun r_46 wt H locs hw hP hD hS => ?_)
          obtain ⟨hT, hkp, lo_r_46, hi_r_46⟩ := hw
          have hW := hW.call (show ∀ x ∈ [], x ∈ [405, 406, 407, 408] by decide) hkp
          have hf_30 := hkp _ _ _ _ (by decide) (by decide) hf_30
          have hP : va_P (gg_D G) classes ([(tp, .inr (8, [.ref bp, .int n, .int x14_1, .int x14_2, .int x14_3])), (bp, .inl (G.2.2 0, 400, .inl bf))] ++ wt) H := hP
          have hD : va_D A ([(tp, .inr (8, [.ref bp, .int n, .int x14_1, .int x14_2, .int x14_3])), (bp, .inl (G.2.2 0, 400, .inl bf))] ++ wt) := hD
          refine lv_iconst (v := 2) hx hb dX4_readTest_98 (by decide +kernel) ?_
          have hP : va_P (gg_D G) classes ([] ++ ([(tp, .inr (8, [.ref bp, .int n, .int x14_1, .int x14_2, .int x14_3])), (bp, .inl (G.2.2 0, 400, .inl bf))] ++ wt)) H := hP
          have hD : va_D A ([] ++ ([(tp, .inr (8, [.ref bp, .int n, .int x14_1, .int x14_2, .int x14_3])), (bp, .inl (G.2.2 0, 400, .inl bf))] ++ wt)) := hD
          refine gt_callI (wr := []) (va_runV (As := [.int r_46, .int 2]) (rest := []) ⟨hx, hb, hml, hown, ht⟩ (d_refuse l G Γ H.size wt hT r_46 2 tp bp n x14_1 x14_2 x14_3 bf (by first | assumption | omega) (by first | assumption | omega) (by first | assumption | omega) (by first | assumption | omega) (by first | assumption | omega)) (cwV 2 ht (ts_gV wd_719 wd_644 wd_645 wd_123 wd_646) rfl rfl rfl (by decide +kernel) ⟨Nat.le_of_ble_eq_true rfl, Nat.le_of_ble_eq_true rfl⟩) (gc_preV (ci := 8) (q0 := 0) hK (tw_right hP) (tw_rightD hD) rfl rfl) rfl rfl hl.1 rfl (lv_room (Nat.le_of_ble_eq_true rfl)) dX4_readTest_99 ⟨Nat.le_of_ble_eq_true rfl, Nat.le_of_ble_eq_true rfl⟩) hP hD hS hA (fun r_47 u H locs hw hP hD hS => ?_)
          obtain ⟨y_48, y_49, y_50, wt⟩ := u
          obtain ⟨hT, hkp, w_51, w_52, w_53, lo_r_47, hi_r_47⟩ := hw
          have hW := hW.call (show ∀ x ∈ [], x ∈ [405, 406, 407, 408] by decide) hkp
          have hf_30 := hkp _ _ _ _ (by decide) (by decide) hf_30
          have hP : va_P (gg_D G) classes ([(tp, .inr (8, [.ref bp, .int n, .int y_48, .int y_49, .int y_50])), (bp, .inl (G.2.2 0, 400, .inl bf))] ++ wt) H := hP
          have hD : va_D A ([(tp, .inr (8, [.ref bp, .int n, .int y_48, .int y_49, .int y_50])), (bp, .inl (G.2.2 0, 400, .inl bf))] ++ wt) := hD
          have z_r_47 : r_47 = 0 := by rw [← Int32.toInt_inj]; omega
          subst z_r_47
          have hP9 : va_P (gg_D G) classes ([(tp, .inr (8, [.ref bp, .int n, .int y_48, .int y_49, .int y_50])), (bp, .inl (G.2.2 0, 400, .inl bf))] ++ wt) _ := hP
          have hD9 : va_D A ([(tp, .inr (8, [.ref bp, .int n, .int y_48, .int y_49, .int y_50])), (bp, .inl (G.2.2 0, 400, .inl bf))] ++ wt) := hD
          exact W.zret (v := 0) hx hb hr (by decide +kernel) (gq_endI (y_48, y_49, y_50, wt) ⟨hT, hW, (by omega), (by omega), (by omega), (by omega), (by omega)⟩ hP9 hD9 hS) hS.2.2 dX4_readTest_102
    · rw [← Int32.toInt_inj] at c_6
      refine lv_bipush (v := 22) hx hb dX4_readTest_30 (by decide +kernel) ?_
      refine lv_goto (tgt := 50) hx hb dX4_readTest_32 (by decide) ?_
      refine lv_istore_n (lv' := [(3, .int 22), (2, .int x14_0), (0, .ref t), (1, .ref tp)]) hx hb dX4_readTest_50 rfl hl (by decide) rfl (fun ls hl => ?_)
      refine lv_iload_n hx hb dX4_readTest_51 rfl (lv_at hl 0 rfl) ?_
      refine lv_if_ne (tgt := 84) hx hb dX4_readTest_52 (by decide) (fun _ => ?_) (fun c0 => False.elim (by rw [← Int32.toInt_inj] at c0; omega))
      refine lv_aload_n hx hb dX4_readTest_84 rfl (lv_at hl 2 rfl) ?_
      refine tr_get (ci := 4) hx hb ht hown hK hT hP k_t (by decide) i_X4 rfl 5 (by decide) wd_342 rfl dX4_readTest_85 (fun v hv hf_54 => ?_)
      obtain ⟨n_55, rfl, lo_n_55, hi_n_55⟩ := hv
      refine lv_bipush (v := 10) hx hb dX4_readTest_88 (by decide +kernel) ?_
      refine lv_icmp_lt (tgt := 103) hx hb dX4_readTest_90 (by decide) (fun c_56 => ?_) (fun c_56 => ?_)
      · rw [Int32.lt_iff_toInt_lt] at c_56
        refine lv_aload_n hx hb dX4_readTest_103 rfl (lv_at hl 2 rfl) ?_
        refine lv_dup hx hb dX4_readTest_104 rfl ?_
        refine tr_getK (ci := 4) hx hb ht hown hK hP i_X4 rfl 5 (by decide) wd_342 rfl hf_54 dX4_readTest_105 ?_
        refine lv_iconst (v := 1) hx hb dX4_readTest_108 (by decide +kernel) ?_
        obtain ⟨t_57, et_57⟩ : ∃ zz_ : Int32, n_55 + 1 = zz_ := ⟨_, rfl⟩
        refine gq_iadd hx hb t_57 et_57 dX4_readTest_109 ?_
        have ft_57 := ia_add et_57 (by omega) (by omega)
        refine tr_put (ci := 4) hx hb ht hown hK hT hP hD hS k_t (by decide) i_X4 tyX4 tyX4_ok nmX4 rfl 5 (by decide) wd_342 rfl rfl rfl rfl ⟨_, rfl, by omega, by omega⟩ dX4_readTest_110 (fun H locs wt hT hfl hfn hP hD hS => ?_)
        have hW := hW.obj (show 4 * 100 + 5 ∈ [405, 406, 407, 408] by decide) hfl
        have hf_58 := hfn
        refine lv_aload_n hx hb dX4_readTest_113 rfl (lv_at hl 2 rfl) ?_
        refine tr_get (ci := 4) hx hb ht hown hK hT hP k_t (by decide) i_X4 rfl 3 (by decide) wd_340 rfl dX4_readTest_114 (fun v hv hf_59 => ?_)
        obtain ⟨q_60, rfl, hq_60⟩ := hv
        refine lv_aload_n hx hb dX4_readTest_117 rfl (lv_at hl 2 rfl) ?_
        refine tr_getK (ci := 4) hx hb ht hown hK hP i_X4 rfl 5 (by decide) wd_342 rfl hf_58 dX4_readTest_118 ?_
        refine lv_iload_n hx hb dX4_readTest_121 rfl (lv_at hl 0 rfl) ?_
        refine tr_iast hx hb hK hT hP hD hS 26 hq_60 (by decide) (by decide) (show vp_in _ (tk_len 26) from ia_in (n := 11) (by omega) (by omega)) (show tk_e 26 _ from trivial) dX4_readTest_122 (fun H locs wt hT hfl hP hD hS => ?_)
        have hW := hW.arr hfl
        have hf_58 := hfl _ _ _ _ hf_58
        refine lv_aload_n hx hb dX4_readTest_123 rfl (lv_at hl 2 rfl) ?_
        refine tr_get (ci := 4) hx hb ht hown hK hT hP k_t (by decide) i_X4 rfl 4 (by decide) wd_341 rfl dX4_readTest_124 (fun v hv hf_61 => ?_)
        obtain ⟨q_62, rfl, hq_62⟩ := hv
        refine lv_aload_n hx hb dX4_readTest_127 rfl (lv_at hl 2 rfl) ?_
        refine tr_getK (ci := 4) hx hb ht hown hK hP i_X4 rfl 5 (by decide) wd_342 rfl hf_58 dX4_readTest_128 ?_
        refine lv_iconst (v := 0) hx hb dX4_readTest_131 (by decide +kernel) ?_
        refine tr_iast hx hb hK hT hP hD hS 26 hq_62 (by decide) (by decide) (show vp_in _ (tk_len 26) from ia_in (n := 11) (by omega) (by omega)) (show tk_e 26 _ from trivial) dX4_readTest_132 (fun H locs wt hT hfl hP hD hS => ?_)
        have hW := hW.arr hfl
        have hf_58 := hfl _ _ _ _ hf_58
        refine lv_aload_n hx hb dX4_readTest_133 rfl (lv_at hl 3 rfl) ?_
        refine lv_iload_n hx hb dX4_readTest_134 rfl (lv_at hl 0 rfl) ?_
        refine lv_bipush (v := 22) hx hb dX4_readTest_135 (by decide +kernel) ?_
        refine lv_icmp_ne (tgt := 144) hx hb dX4_readTest_137 (by decide) (fun c0 => False.elim (by rw [← Int32.toInt_inj] at c0; omega)) (fun _ => ?_)
        refine lv_iconst (v := 3) hx hb dX4_readTest_140 (by decide +kernel) ?_
        refine lv_goto (tgt := 145) hx hb dX4_readTest_141 (by decide) ?_
        have hP : va_P (gg_D G) classes ([] ++ ([(tp, .inr (8, [.ref bp, .int n, .int x14_1, .int x14_2, .int x14_3])), (bp, .inl (G.2.2 0, 400, .inl bf))] ++ wt)) H := hP
        have hD : va_D A ([] ++ ([(tp, .inr (8, [.ref bp, .int n, .int x14_1, .int x14_2, .int x14_3])), (bp, .inl (G.2.2 0, 400, .inl bf))] ++ wt)) := hD
        refine gt_callV (wr := []) (va_runV (As := [.int 3]) (rest := []) ⟨hx, hb, hml, hown, ht⟩ (d_skip l G Γ H.size wt hT 3 tp bp n x14_1 x14_2 x14_3 bf (by omega) (by omega) (by first | assumption | omega) (by first | assumption | omega) (by first | assumption | omega) (by first | assumption | omega) (by first | assumption | omega)) (cwV 1 ht (ts_gV wd_741 wd_742 wd_743 wd_123 wd_744) rfl rfl rfl (by decide +kernel) ⟨Nat.le_of_ble_eq_true rfl, Nat.le_of_ble_eq_true rfl⟩) (gc_preV (ci := 8) (q0 := 0) hK (tw_right hP) (tw_rightD hD) rfl rfl) rfl rfl hl.1 rfl (lv_room (Nat.le_of_ble_eq_true rfl)) dX4_readTest_145 ⟨Nat.le_of_ble_eq_true rfl, Nat.le_of_ble_eq_true rfl⟩) hP hD hS hA (fun u H locs hw hP hD hS => ?_)
        obtain ⟨y_63, y_64, y_65, wt⟩ := u
        obtain ⟨hT, hkp, w_66, w_67, w_68⟩ := hw
        have hW := hW.call (show ∀ x ∈ [], x ∈ [405, 406, 407, 408] by decide) hkp
        have hf_58 := hkp _ _ _ _ (by decide) (by decide) hf_58
        have hP : va_P (gg_D G) classes ([(tp, .inr (8, [.ref bp, .int n, .int y_63, .int y_64, .int y_65])), (bp, .inl (G.2.2 0, 400, .inl bf))] ++ wt) H := hP
        have hD : va_D A ([(tp, .inr (8, [.ref bp, .int n, .int y_63, .int y_64, .int y_65])), (bp, .inl (G.2.2 0, 400, .inl bf))] ++ wt) := hD
        obtain ⟨t_69, et_69⟩ : ∃ zz_ : Int32, x14_0 + Int32.ofInt (1) = zz_ := ⟨_, rfl⟩
        have ft_69 : t_69.toInt = x14_0.toInt + (1 : Int32).toInt := ia_add (y := 1) et_69 (by omega) (by omega)
        refine lv_iinc (v := t_69) (lv' := [(2, .int t_69), (3, .int 22), (0, .ref t), (1, .ref tp)]) hx hb dX4_readTest_148 hl (k := 1) rfl et_69 (by decide) rfl (fun ls hl => ?_)
        refine lv_goto (tgt := 14) hx hb dX4_readTest_151 (by decide) ?_
        exact ih14 (t_69, y_63, y_64, y_65) (show 0 ≤ t_69.toInt ∧ t_69.toInt ≤ 401 ∧ 0 ≤ y_63.toInt ∧ y_63.toInt ≤ 400 ∧ 0 ≤ y_64.toInt ∧ y_64.toInt ≤ 400 ∧ y_63.toInt + y_64.toInt ≤ 400 from ⟨by omega, by omega, by omega, by omega, by omega, by omega, by omega⟩) (show (401 - t_69.toInt).toNat < (401 - x14_0.toInt).toNat by omega) H locs wt ls hT hW hP hD hS (lv_sub hl [0, 2, 3] rfl)
      · rw [Int32.lt_iff_toInt_lt] at c_56
        refine lv_aload_n hx hb dX4_readTest_93 rfl (lv_at hl 3 rfl) ?_
        refine lv_aload_n hx hb dX4_readTest_94 rfl (lv_at hl 3 rfl) ?_
        have hP : va_P (gg_D G) classes ([] ++ ([(tp, .inr (8, [.ref bp, .int n, .int x14_1, .int x14_2, .int x14_3])), (bp, .inl (G.2.2 0, 400, .inl bf))] ++ wt)) H := hP
        have hD : va_D A ([] ++ ([(tp, .inr (8, [.ref bp, .int n, .int x14_1, .int x14_2, .int x14_3])), (bp, .inl (G.2.2 0, 400, .inl bf))] ++ wt)) := hD
        refine gt_callI (wr := []) (va_runV (As := []) (rest := [.ref tp]) ⟨hx, hb, hml, hown, ht⟩ (d_place l G Γ H.size wt hT tp bp n x14_1 x14_2 x14_3 bf (by first | assumption | omega) (by first | assumption | omega) (by first | assumption | omega) (by first | assumption | omega) (by first | assumption | omega)) (cwV 0 ht (ts_gV wd_718 wd_640 wd_641 wd_123 wd_642) rfl rfl rfl (by decide +kernel) ⟨Nat.le_of_ble_eq_true rfl, Nat.le_of_ble_eq_true rfl⟩) (gc_preV (ci := 8) (q0 := 0) hK (tw_right hP) (tw_rightD hD) rfl rfl) rfl rfl hl.1 rfl (lv_room (Nat.le_of_ble_eq_true rfl)) dX4_readTest_95 ⟨Nat.le_of_ble_eq_true rfl, Nat.le_of_ble_eq_true rfl⟩) hP hD hS hA (fun r_70 wt H locs hw hP hD hS => ?_)
        obtain ⟨hT, hkp, lo_r_70, hi_r_70⟩ := hw
        have hW := hW.call (show ∀ x ∈ [], x ∈ [405, 406, 407, 408] by decide) hkp
        have hf_54 := hkp _ _ _ _ (by decide) (by decide) hf_54
        have hP : va_P (gg_D G) classes ([(tp, .inr (8, [.ref bp, .int n, .int x14_1, .int x14_2, .int x14_3])), (bp, .inl (G.2.2 0, 400, .inl bf))] ++ wt) H := hP
        have hD : va_D A ([(tp, .inr (8, [.ref bp, .int n, .int x14_1, .int x14_2, .int x14_3])), (bp, .inl (G.2.2 0, 400, .inl bf))] ++ wt) := hD
        refine lv_iconst (v := 2) hx hb dX4_readTest_98 (by decide +kernel) ?_
        have hP : va_P (gg_D G) classes ([] ++ ([(tp, .inr (8, [.ref bp, .int n, .int x14_1, .int x14_2, .int x14_3])), (bp, .inl (G.2.2 0, 400, .inl bf))] ++ wt)) H := hP
        have hD : va_D A ([] ++ ([(tp, .inr (8, [.ref bp, .int n, .int x14_1, .int x14_2, .int x14_3])), (bp, .inl (G.2.2 0, 400, .inl bf))] ++ wt)) := hD
        refine gt_callI (wr := []) (va_runV (As := [.int r_70, .int 2]) (rest := []) ⟨hx, hb, hml, hown, ht⟩ (d_refuse l G Γ H.size wt hT r_70 2 tp bp n x14_1 x14_2 x14_3 bf (by first | assumption | omega) (by first | assumption | omega) (by first | assumption | omega) (by first | assumption | omega) (by first | assumption | omega)) (cwV 2 ht (ts_gV wd_719 wd_644 wd_645 wd_123 wd_646) rfl rfl rfl (by decide +kernel) ⟨Nat.le_of_ble_eq_true rfl, Nat.le_of_ble_eq_true rfl⟩) (gc_preV (ci := 8) (q0 := 0) hK (tw_right hP) (tw_rightD hD) rfl rfl) rfl rfl hl.1 rfl (lv_room (Nat.le_of_ble_eq_true rfl)) dX4_readTest_99 ⟨Nat.le_of_ble_eq_true rfl, Nat.le_of_ble_eq_true rfl⟩) hP hD hS hA (fun r_71 u H locs hw hP hD hS => ?_)
        obtain ⟨y_72, y_73, y_74, wt⟩ := u
        obtain ⟨hT, hkp, w_75, w_76, w_77, lo_r_71, hi_r_71⟩ := hw
        have hW := hW.call (show ∀ x ∈ [], x ∈ [405, 406, 407, 408] by decide) hkp
        have hf_54 := hkp _ _ _ _ (by decide) (by decide) hf_54
        have hP : va_P (gg_D G) classes ([(tp, .inr (8, [.ref bp, .int n, .int y_72, .int y_73, .int y_74])), (bp, .inl (G.2.2 0, 400, .inl bf))] ++ wt) H := hP
        have hD : va_D A ([(tp, .inr (8, [.ref bp, .int n, .int y_72, .int y_73, .int y_74])), (bp, .inl (G.2.2 0, 400, .inl bf))] ++ wt) := hD
        have z_r_71 : r_71 = 0 := by rw [← Int32.toInt_inj]; omega
        subst z_r_71
        have hP9 : va_P (gg_D G) classes ([(tp, .inr (8, [.ref bp, .int n, .int y_72, .int y_73, .int y_74])), (bp, .inl (G.2.2 0, 400, .inl bf))] ++ wt) _ := hP
        have hD9 : va_D A ([(tp, .inr (8, [.ref bp, .int n, .int y_72, .int y_73, .int y_74])), (bp, .inl (G.2.2 0, 400, .inl bf))] ++ wt) := hD
        exact W.zret (v := 0) hx hb hr (by decide +kernel) (gq_endI (y_72, y_73, y_74, wt) ⟨hT, hW, (by omega), (by omega), (by omega), (by omega), (by omega)⟩ hP9 hD9 hS) hS.2.2 dX4_readTest_102
set_option maxHeartbeats 4000000 in
set_option maxRecDepth 100000 in
theorem d_readHead (l : Launch) (G : gg_T) (Γ : Nat → Nat) (sz : Nat) (wt : va_W) (hT : tk_ty G Γ wt) (K : Nat → Nat) (V : Nat → Nat) (b : Int32) (tp : Nat) (bp : Nat) (n : Int32) (at_ : Int32) (w_ : Int32) (fl : Int32) (bf : Nat → Int32) (xp1 : 0 ≤ n.toInt) (xp2 : n.toInt ≤ 400) (xp3 : 0 ≤ at_.toInt) (xp4 : 0 ≤ w_.toInt) (xp5 : at_.toInt + w_.toInt ≤ 400) : Met l yX4_readHead (ts_L yX4_readHead cX4_readHead 2 (some .boolean)) ({ frames := 5, cells := 0, slots := 0, locals := 110 }) (gx_P G K V ([(tp, .inr (8, [.ref bp, .int n, .int at_, .int w_, .int fl])), (bp, .inl (G.2.2 0, 400, .inl bf))] ++ wt) sz [.ref tp, .int b]) (gc_I G (va_A ([(tp, .inr (8, [.ref bp, .int n, .int at_, .int w_, .int fl])), (bp, .inl (G.2.2 0, 400, .inl bf))] ++ wt) sz) (fun r (u : (Int32) × (Int32) × (Int32) × va_W) => match u with | (a1, w1, f1, wt1) => tk_ty G Γ wt1 ∧ tk_kp [] wt wt1 ∧ 0 ≤ a1.toInt ∧ 0 ≤ w1.toInt ∧ a1.toInt + w1.toInt ≤ 400 ∧ 0 ≤ r.toInt ∧ r.toInt ≤ 1) (fun (u : (Int32) × (Int32) × (Int32) × va_W) => match u with | (a1, w1, f1, wt1) => [(tp, .inr (8, [.ref bp, .int n, .int a1, .int w1, .int f1])), (bp, .inl (G.2.2 0, 400, .inl bf))] ++ wt1)) 0 0 (va_A ([(tp, .inr (8, [.ref bp, .int n, .int at_, .int w_, .int fl])), (bp, .inl (G.2.2 0, 400, .inl bf))] ++ wt) sz) := by
  refine Met.ofW (cc := cX4_readHead) (maxL := 2) (ret := (some .boolean)) (by decide) rfl ?_
  intro p e s m args below meth c s₁ B hml hv
  obtain ⟨rfl, hsz, hP, hK, hD0, hX⟩ := hv
  have hx := B.exec
  have hb := B.bytes
  have hr := B.returns
  have ht := ts_ht (atoms_spec (ws := ts_L yX4_readHead cX4_readHead 2 (some .boolean)) B.pre)
  have hown : s.vm.findClass RX4 = some m.cls := findClass_of_methodNamed B.named
  have hlocks := B.notSynchronized
  subst hsz
  have hD := hD0.self (sz := s.heap.size)
  generalize hAe : va_A ([(tp, .inr (8, [.ref bp, .int n, .int at_, .int w_, .int fl])), (bp, .inl (G.2.2 0, 400, .inl bf))] ++ wt) s.heap.size = A at hD hX ⊢
  have hA : ∀ q : Nat, s.heap.size ≤ q → A q := fun q h => by rw [← hAe]; exact Or.inr h
  clear hAe hD0
  have hS : va_S A s.heap s.heap [] := va_S.rf
  obtain ⟨w0, hw0⟩ : ∃ z, z = wt := ⟨_, rfl⟩
  have hW : tk_kp [] w0 wt := by rw [hw0]; exact tk_kp.rf
  rw [← hw0]
  clear hw0
  have hP : va_P (gg_D G) classes ([(tp, .inr (8, [.ref bp, .int n, .int at_, .int w_, .int fl])), (bp, .inl (G.2.2 0, 400, .inl bf))] ++ wt) s.heap := hP
  have hD : va_D A ([(tp, .inr (8, [.ref bp, .int n, .int at_, .int w_, .int fl])), (bp, .inl (G.2.2 0, 400, .inl bf))] ++ wt) := hD
  have hl := lv_entry ([.ref tp, .int b]) (n := 2) (Nat.le_of_ble_eq_true rfl)
  rw [lg_entry_eq]
  generalize (lg_sl ([.ref tp, .int b]) ++ List.replicate (2 - (lg_sl ([.ref tp, .int b])).length) Slot.unset).toArray = ls at hl ⊢
  have hl : lv_has ls 2 [(0, .ref tp), (1, .int b)] := hl
  have lm1 : ((-1) : Int32).toInt = -1 := by decide +kernel
  have l0 : (0 : Int32).toInt = 0 := by decide +kernel
  have l1 : (1 : Int32).toInt = 1 := by decide +kernel
  have l4 : (4 : Int32).toInt = 4 := by decide +kernel
  have l12 : (12 : Int32).toInt = 12 := by decide +kernel
  refine lv_aload_n hx hb dX4_readHead_0 rfl (lv_at hl 0 rfl) ?_
  refine va_ldcS hx hb hown (hX.2.2.2.2.1) dX4_readHead_1 ?_
  have hP : va_P (gg_D G) classes ([] ++ ([(tp, .inr (8, [.ref bp, .int n, .int at_, .int w_, .int fl])), (bp, .inl (G.2.2 0, 400, .inl bf))] ++ wt)) s.heap := hP
  have hD : va_D A ([] ++ ([(tp, .inr (8, [.ref bp, .int n, .int at_, .int w_, .int fl])), (bp, .inl (G.2.2 0, 400, .inl bf))] ++ wt)) := hD
  refine gt_callI (wr := []) (va_runV (As := [.ref (K 1)]) (rest := []) ⟨hx, hb, hml, hown, ht⟩ (d_which1 l G Γ s.heap.size wt hT K V tp bp n at_ w_ fl bf (by first | assumption | omega) (by first | assumption | omega) (by first | assumption | omega) (by first | assumption | omega) (by first | assumption | omega)) (cwV 1 ht (ts_gV wd_717 wd_588 wd_589 wd_123 wd_590) rfl rfl rfl (by decide +kernel) ⟨Nat.le_of_ble_eq_true rfl, Nat.le_of_ble_eq_true rfl⟩) (gx_preV (ci := 8) (q0 := 0) hK (tw_right hP) (tw_rightD hD) hX hS (tw_free hD hS hA) rfl rfl) rfl rfl hl.1 rfl (lv_room (Nat.le_of_ble_eq_true rfl)) dX4_readHead_3 ⟨Nat.le_of_ble_eq_true rfl, Nat.le_of_ble_eq_true rfl⟩) hP hD hS hA (fun r_1 wt H locs hw hP hD hS => ?_)
  obtain ⟨hT, hkp, lo_r_1, hi_r_1⟩ := hw
  have hW := hW.call (show ∀ x ∈ [], x ∈ [] by decide) hkp
  have hP : va_P (gg_D G) classes ([(tp, .inr (8, [.ref bp, .int n, .int at_, .int w_, .int fl])), (bp, .inl (G.2.2 0, 400, .inl bf))] ++ wt) H := hP
  have hD : va_D A ([(tp, .inr (8, [.ref bp, .int n, .int at_, .int w_, .int fl])), (bp, .inl (G.2.2 0, 400, .inl bf))] ++ wt) := hD
  refine lv_iconst (v := (-1)) hx hb dX4_readHead_6 (by decide +kernel) ?_
  refine lv_icmp_ne (tgt := 20) hx hb dX4_readHead_7 (by decide) (fun c_2 => ?_) (fun c_2 => ?_)
  · rw [← Int32.toInt_inj] at c_2
    refine lv_iload_n hx hb dX4_readHead_20 rfl (lv_at hl 1 rfl) ?_
    refine lv_bipush (v := 12) hx hb dX4_readHead_21 (by decide +kernel) ?_
    refine lv_icmp_lt (tgt := 36) hx hb dX4_readHead_23 (by decide) (fun c_3 => ?_) (fun c_3 => ?_)
    · rw [Int32.lt_iff_toInt_lt] at c_3
      refine lv_aload_n hx hb dX4_readHead_36 rfl (lv_at hl 0 rfl) ?_
      have hP : va_P (gg_D G) classes ([] ++ ([(tp, .inr (8, [.ref bp, .int n, .int at_, .int w_, .int fl])), (bp, .inl (G.2.2 0, 400, .inl bf))] ++ wt)) H := hP
      have hD : va_D A ([] ++ ([(tp, .inr (8, [.ref bp, .int n, .int at_, .int w_, .int fl])), (bp, .inl (G.2.2 0, 400, .inl bf))] ++ wt)) := hD
      refine gt_callV (wr := []) (va_runV (As := []) (rest := []) ⟨hx, hb, hml, hown, ht⟩ (d_passWord l G Γ H.size wt hT tp bp n at_ w_ fl bf (by first | assumption | omega) (by first | assumption | omega) (by first | assumption | omega) (by first | assumption | omega) (by first | assumption | omega)) (cwV 0 ht (ts_gV wd_720 wd_652 wd_653 wd_123 wd_654) rfl rfl rfl (by decide +kernel) ⟨Nat.le_of_ble_eq_true rfl, Nat.le_of_ble_eq_true rfl⟩) (gc_preV (ci := 8) (q0 := 0) hK (tw_right hP) (tw_rightD hD) rfl rfl) rfl rfl hl.1 rfl (lv_room (Nat.le_of_ble_eq_true rfl)) dX4_readHead_37 ⟨Nat.le_of_ble_eq_true rfl, Nat.le_of_ble_eq_true rfl⟩) hP hD hS hA (fun u H locs hw hP hD hS => ?_)
      obtain ⟨y_4, y_5, y_6, wt⟩ := u
      obtain ⟨hT, hkp, w_7, w_8, w_9⟩ := hw
      have hW := hW.call (show ∀ x ∈ [], x ∈ [] by decide) hkp
      have hP : va_P (gg_D G) classes ([(tp, .inr (8, [.ref bp, .int n, .int y_4, .int y_5, .int y_6])), (bp, .inl (G.2.2 0, 400, .inl bf))] ++ wt) H := hP
      have hD : va_D A ([(tp, .inr (8, [.ref bp, .int n, .int y_4, .int y_5, .int y_6])), (bp, .inl (G.2.2 0, 400, .inl bf))] ++ wt) := hD
      refine lv_iconst (v := 1) hx hb dX4_readHead_40 (by decide +kernel) ?_
      have hP9 : va_P (gg_D G) classes ([(tp, .inr (8, [.ref bp, .int n, .int y_4, .int y_5, .int y_6])), (bp, .inl (G.2.2 0, 400, .inl bf))] ++ wt) _ := hP
      have hD9 : va_D A ([(tp, .inr (8, [.ref bp, .int n, .int y_4, .int y_5, .int y_6])), (bp, .inl (G.2.2 0, 400, .inl bf))] ++ wt) := hD
      exact W.zret (v := 1) hx hb hr (by decide +kernel) (gq_endI (y_4, y_5, y_6, wt) ⟨hT, hW, (by omega), (by omega), (by omega), (by omega), (by omega)⟩ hP9 hD9 hS) hS.2.2 dX4_readHead_41
    · rw [Int32.lt_iff_toInt_lt] at c_3
      refine lv_aload_n hx hb dX4_readHead_26 rfl (lv_at hl 0 rfl) ?_
      refine lv_aload_n hx hb dX4_readHead_27 rfl (lv_at hl 0 rfl) ?_
      have hP : va_P (gg_D G) classes ([] ++ ([(tp, .inr (8, [.ref bp, .int n, .int at_, .int w_, .int fl])), (bp, .inl (G.2.2 0, 400, .inl bf))] ++ wt)) H := hP
      have hD : va_D A ([] ++ ([(tp, .inr (8, [.ref bp, .int n, .int at_, .int w_, .int fl])), (bp, .inl (G.2.2 0, 400, .inl bf))] ++ wt)) := hD
      refine gt_callI (wr := []) (va_runV (As := []) (rest := [.ref tp]) ⟨hx, hb, hml, hown, ht⟩ (d_place l G Γ H.size wt hT tp bp n at_ w_ fl bf (by first | assumption | omega) (by first | assumption | omega) (by first | assumption | omega) (by first | assumption | omega) (by first | assumption | omega)) (cwV 0 ht (ts_gV wd_718 wd_640 wd_641 wd_123 wd_642) rfl rfl rfl (by decide +kernel) ⟨Nat.le_of_ble_eq_true rfl, Nat.le_of_ble_eq_true rfl⟩) (gc_preV (ci := 8) (q0 := 0) hK (tw_right hP) (tw_rightD hD) rfl rfl) rfl rfl hl.1 rfl (lv_room (Nat.le_of_ble_eq_true rfl)) dX4_readHead_28 ⟨Nat.le_of_ble_eq_true rfl, Nat.le_of_ble_eq_true rfl⟩) hP hD hS hA (fun r_10 wt H locs hw hP hD hS => ?_)
      obtain ⟨hT, hkp, lo_r_10, hi_r_10⟩ := hw
      have hW := hW.call (show ∀ x ∈ [], x ∈ [] by decide) hkp
      have hP : va_P (gg_D G) classes ([(tp, .inr (8, [.ref bp, .int n, .int at_, .int w_, .int fl])), (bp, .inl (G.2.2 0, 400, .inl bf))] ++ wt) H := hP
      have hD : va_D A ([(tp, .inr (8, [.ref bp, .int n, .int at_, .int w_, .int fl])), (bp, .inl (G.2.2 0, 400, .inl bf))] ++ wt) := hD
      refine lv_iconst (v := 4) hx hb dX4_readHead_31 (by decide +kernel) ?_
      have hP : va_P (gg_D G) classes ([] ++ ([(tp, .inr (8, [.ref bp, .int n, .int at_, .int w_, .int fl])), (bp, .inl (G.2.2 0, 400, .inl bf))] ++ wt)) H := hP
      have hD : va_D A ([] ++ ([(tp, .inr (8, [.ref bp, .int n, .int at_, .int w_, .int fl])), (bp, .inl (G.2.2 0, 400, .inl bf))] ++ wt)) := hD
      refine gt_callI (wr := []) (va_runV (As := [.int r_10, .int 4]) (rest := []) ⟨hx, hb, hml, hown, ht⟩ (d_refuse l G Γ H.size wt hT r_10 4 tp bp n at_ w_ fl bf (by first | assumption | omega) (by first | assumption | omega) (by first | assumption | omega) (by first | assumption | omega) (by first | assumption | omega)) (cwV 2 ht (ts_gV wd_719 wd_644 wd_645 wd_123 wd_646) rfl rfl rfl (by decide +kernel) ⟨Nat.le_of_ble_eq_true rfl, Nat.le_of_ble_eq_true rfl⟩) (gc_preV (ci := 8) (q0 := 0) hK (tw_right hP) (tw_rightD hD) rfl rfl) rfl rfl hl.1 rfl (lv_room (Nat.le_of_ble_eq_true rfl)) dX4_readHead_32 ⟨Nat.le_of_ble_eq_true rfl, Nat.le_of_ble_eq_true rfl⟩) hP hD hS hA (fun r_11 u H locs hw hP hD hS => ?_)
      obtain ⟨y_12, y_13, y_14, wt⟩ := u
      obtain ⟨hT, hkp, w_15, w_16, w_17, lo_r_11, hi_r_11⟩ := hw
      have hW := hW.call (show ∀ x ∈ [], x ∈ [] by decide) hkp
      have hP : va_P (gg_D G) classes ([(tp, .inr (8, [.ref bp, .int n, .int y_12, .int y_13, .int y_14])), (bp, .inl (G.2.2 0, 400, .inl bf))] ++ wt) H := hP
      have hD : va_D A ([(tp, .inr (8, [.ref bp, .int n, .int y_12, .int y_13, .int y_14])), (bp, .inl (G.2.2 0, 400, .inl bf))] ++ wt) := hD
      have z_r_11 : r_11 = 0 := by rw [← Int32.toInt_inj]; omega
      subst z_r_11
      have hP9 : va_P (gg_D G) classes ([(tp, .inr (8, [.ref bp, .int n, .int y_12, .int y_13, .int y_14])), (bp, .inl (G.2.2 0, 400, .inl bf))] ++ wt) _ := hP
      have hD9 : va_D A ([(tp, .inr (8, [.ref bp, .int n, .int y_12, .int y_13, .int y_14])), (bp, .inl (G.2.2 0, 400, .inl bf))] ++ wt) := hD
      exact W.zret (v := 0) hx hb hr (by decide +kernel) (gq_endI (y_12, y_13, y_14, wt) ⟨hT, hW, (by omega), (by omega), (by omega), (by omega), (by omega)⟩ hP9 hD9 hS) hS.2.2 dX4_readHead_35
  · rw [← Int32.toInt_inj] at c_2
    refine lv_aload_n hx hb dX4_readHead_10 rfl (lv_at hl 0 rfl) ?_
    refine lv_aload_n hx hb dX4_readHead_11 rfl (lv_at hl 0 rfl) ?_
    have hP : va_P (gg_D G) classes ([] ++ ([(tp, .inr (8, [.ref bp, .int n, .int at_, .int w_, .int fl])), (bp, .inl (G.2.2 0, 400, .inl bf))] ++ wt)) H := hP
    have hD : va_D A ([] ++ ([(tp, .inr (8, [.ref bp, .int n, .int at_, .int w_, .int fl])), (bp, .inl (G.2.2 0, 400, .inl bf))] ++ wt)) := hD
    refine gt_callI (wr := []) (va_runV (As := []) (rest := [.ref tp]) ⟨hx, hb, hml, hown, ht⟩ (d_place l G Γ H.size wt hT tp bp n at_ w_ fl bf (by first | assumption | omega) (by first | assumption | omega) (by first | assumption | omega) (by first | assumption | omega) (by first | assumption | omega)) (cwV 0 ht (ts_gV wd_718 wd_640 wd_641 wd_123 wd_642) rfl rfl rfl (by decide +kernel) ⟨Nat.le_of_ble_eq_true rfl, Nat.le_of_ble_eq_true rfl⟩) (gc_preV (ci := 8) (q0 := 0) hK (tw_right hP) (tw_rightD hD) rfl rfl) rfl rfl hl.1 rfl (lv_room (Nat.le_of_ble_eq_true rfl)) dX4_readHead_12 ⟨Nat.le_of_ble_eq_true rfl, Nat.le_of_ble_eq_true rfl⟩) hP hD hS hA (fun r_18 wt H locs hw hP hD hS => ?_)
    obtain ⟨hT, hkp, lo_r_18, hi_r_18⟩ := hw
    have hW := hW.call (show ∀ x ∈ [], x ∈ [] by decide) hkp
    have hP : va_P (gg_D G) classes ([(tp, .inr (8, [.ref bp, .int n, .int at_, .int w_, .int fl])), (bp, .inl (G.2.2 0, 400, .inl bf))] ++ wt) H := hP
    have hD : va_D A ([(tp, .inr (8, [.ref bp, .int n, .int at_, .int w_, .int fl])), (bp, .inl (G.2.2 0, 400, .inl bf))] ++ wt) := hD
    refine lv_iconst (v := 0) hx hb dX4_readHead_15 (by decide +kernel) ?_
    have hP : va_P (gg_D G) classes ([] ++ ([(tp, .inr (8, [.ref bp, .int n, .int at_, .int w_, .int fl])), (bp, .inl (G.2.2 0, 400, .inl bf))] ++ wt)) H := hP
    have hD : va_D A ([] ++ ([(tp, .inr (8, [.ref bp, .int n, .int at_, .int w_, .int fl])), (bp, .inl (G.2.2 0, 400, .inl bf))] ++ wt)) := hD
    refine gt_callI (wr := []) (va_runV (As := [.int r_18, .int 0]) (rest := []) ⟨hx, hb, hml, hown, ht⟩ (d_refuse l G Γ H.size wt hT r_18 0 tp bp n at_ w_ fl bf (by first | assumption | omega) (by first | assumption | omega) (by first | assumption | omega) (by first | assumption | omega) (by first | assumption | omega)) (cwV 2 ht (ts_gV wd_719 wd_644 wd_645 wd_123 wd_646) rfl rfl rfl (by decide +kernel) ⟨Nat.le_of_ble_eq_true rfl, Nat.le_of_ble_eq_true rfl⟩) (gc_preV (ci := 8) (q0 := 0) hK (tw_right hP) (tw_rightD hD) rfl rfl) rfl rfl hl.1 rfl (lv_room (Nat.le_of_ble_eq_true rfl)) dX4_readHead_16 ⟨Nat.le_of_ble_eq_true rfl, Nat.le_of_ble_eq_true rfl⟩) hP hD hS hA (fun r_19 u H locs hw hP hD hS => ?_)
    obtain ⟨y_20, y_21, y_22, wt⟩ := u
    obtain ⟨hT, hkp, w_23, w_24, w_25, lo_r_19, hi_r_19⟩ := hw
    have hW := hW.call (show ∀ x ∈ [], x ∈ [] by decide) hkp
    have hP : va_P (gg_D G) classes ([(tp, .inr (8, [.ref bp, .int n, .int y_20, .int y_21, .int y_22])), (bp, .inl (G.2.2 0, 400, .inl bf))] ++ wt) H := hP
    have hD : va_D A ([(tp, .inr (8, [.ref bp, .int n, .int y_20, .int y_21, .int y_22])), (bp, .inl (G.2.2 0, 400, .inl bf))] ++ wt) := hD
    have z_r_19 : r_19 = 0 := by rw [← Int32.toInt_inj]; omega
    subst z_r_19
    have hP9 : va_P (gg_D G) classes ([(tp, .inr (8, [.ref bp, .int n, .int y_20, .int y_21, .int y_22])), (bp, .inl (G.2.2 0, 400, .inl bf))] ++ wt) _ := hP
    have hD9 : va_D A ([(tp, .inr (8, [.ref bp, .int n, .int y_20, .int y_21, .int y_22])), (bp, .inl (G.2.2 0, 400, .inl bf))] ++ wt) := hD
    exact W.zret (v := 0) hx hb hr (by decide +kernel) (gq_endI (y_20, y_21, y_22, wt) ⟨hT, hW, (by omega), (by omega), (by omega), (by omega), (by omega)⟩ hP9 hD9 hS) hS.2.2 dX4_readHead_19
set_option maxHeartbeats 4000000 in
set_option maxRecDepth 100000 in
theorem d_readRule (l : Launch) (G : gg_T) (Γ : Nat → Nat) (sz : Nat) (wt : va_W) (hT : tk_ty G Γ wt) (K : Nat → Nat) (V : Nat → Nat) (t : Nat) (tp : Nat) (bp : Nat) (n : Int32) (at_ : Int32) (w_ : Int32) (fl : Int32) (bf : Nat → Int32) (k_t : Γ t = 5) (xp1 : 0 ≤ n.toInt) (xp2 : n.toInt ≤ 400) (xp3 : 0 ≤ at_.toInt) (xp4 : 0 ≤ w_.toInt) (xp5 : at_.toInt + w_.toInt ≤ 400) : Met l yX4_readRule (ts_L yX4_readRule cX4_readRule 5 (some .int)) ({ frames := 9, cells := 0, slots := 0, locals := 206 }) (gx_P G K V ([(tp, .inr (8, [.ref bp, .int n, .int at_, .int w_, .int fl])), (bp, .inl (G.2.2 0, 400, .inl bf))] ++ wt) sz [.ref t, .ref tp]) (gc_I G (va_A ([(tp, .inr (8, [.ref bp, .int n, .int at_, .int w_, .int fl])), (bp, .inl (G.2.2 0, 400, .inl bf))] ++ wt) sz) (fun r (u : (Int32) × (Int32) × (Int32) × va_W) => match u with | (a1, w1, f1, wt1) => tk_ty G Γ wt1 ∧ tk_kp [405, 406, 407, 408] wt wt1 ∧ 0 ≤ a1.toInt ∧ 0 ≤ w1.toInt ∧ a1.toInt + w1.toInt ≤ 400) (fun (u : (Int32) × (Int32) × (Int32) × va_W) => match u with | (a1, w1, f1, wt1) => [(tp, .inr (8, [.ref bp, .int n, .int a1, .int w1, .int f1])), (bp, .inl (G.2.2 0, 400, .inl bf))] ++ wt1)) 0 0 (va_A ([(tp, .inr (8, [.ref bp, .int n, .int at_, .int w_, .int fl])), (bp, .inl (G.2.2 0, 400, .inl bf))] ++ wt) sz) := by
  refine Met.ofW (cc := cX4_readRule) (maxL := 5) (ret := (some .int)) (by decide) rfl ?_
  intro p e s m args below meth c s₁ B hml hv
  obtain ⟨rfl, hsz, hP, hK, hD0, hX⟩ := hv
  have hx := B.exec
  have hb := B.bytes
  have hr := B.returns
  have ht := ts_ht (atoms_spec (ws := ts_L yX4_readRule cX4_readRule 5 (some .int)) B.pre)
  have hown : s.vm.findClass RX4 = some m.cls := findClass_of_methodNamed B.named
  have hlocks := B.notSynchronized
  subst hsz
  have hD := hD0.self (sz := s.heap.size)
  generalize hAe : va_A ([(tp, .inr (8, [.ref bp, .int n, .int at_, .int w_, .int fl])), (bp, .inl (G.2.2 0, 400, .inl bf))] ++ wt) s.heap.size = A at hD hX ⊢
  have hA : ∀ q : Nat, s.heap.size ≤ q → A q := fun q h => by rw [← hAe]; exact Or.inr h
  clear hAe hD0
  have hS : va_S A s.heap s.heap [] := va_S.rf
  obtain ⟨w0, hw0⟩ : ∃ z, z = wt := ⟨_, rfl⟩
  have hW : tk_kp [405, 406, 407, 408] w0 wt := by rw [hw0]; exact tk_kp.rf
  rw [← hw0]
  clear hw0
  have hP : va_P (gg_D G) classes ([(tp, .inr (8, [.ref bp, .int n, .int at_, .int w_, .int fl])), (bp, .inl (G.2.2 0, 400, .inl bf))] ++ wt) s.heap := hP
  have hD : va_D A ([(tp, .inr (8, [.ref bp, .int n, .int at_, .int w_, .int fl])), (bp, .inl (G.2.2 0, 400, .inl bf))] ++ wt) := hD
  have hl := lv_entry ([.ref t, .ref tp]) (n := 5) (Nat.le_of_ble_eq_true rfl)
  rw [lg_entry_eq]
  generalize (lg_sl ([.ref t, .ref tp]) ++ List.replicate (5 - (lg_sl ([.ref t, .ref tp])).length) Slot.unset).toArray = ls at hl ⊢
  have hl : lv_has ls 5 [(0, .ref t), (1, .ref tp)] := hl
  have l0 : (0 : Int32).toInt = 0 := by decide +kernel
  have l1 : (1 : Int32).toInt = 1 := by decide +kernel
  have l12 : (12 : Int32).toInt = 12 := by decide +kernel
  have l23 : (23 : Int32).toInt = 23 := by decide +kernel
  have l24 : (24 : Int32).toInt = 24 := by decide +kernel
  refine lv_aload_n hx hb dX4_readRule_0 rfl (lv_at hl 0 rfl) ?_
  refine lv_iconst (v := 0) hx hb dX4_readRule_1 (by decide +kernel) ?_
  refine tr_put (ci := 4) hx hb ht hown hK hT hP hD hS k_t (by decide) i_X4 tyX4 tyX4_ok nmX4 rfl 6 (by decide) wd_343 rfl rfl rfl rfl ⟨_, rfl, by omega, by omega⟩ dX4_readRule_2 (fun H locs wt hT hfl hfn hP hD hS => ?_)
  have hW := hW.obj (show 4 * 100 + 6 ∈ [405, 406, 407, 408] by decide) hfl
  have hf_1 := hfn
  refine lv_aload_n hx hb dX4_readRule_5 rfl (lv_at hl 0 rfl) ?_
  refine lv_iconst (v := 0) hx hb dX4_readRule_6 (by decide +kernel) ?_
  refine tr_put (ci := 4) hx hb ht hown hK hT hP hD hS k_t (by decide) i_X4 tyX4 tyX4_ok nmX4 rfl 7 (by decide) wd_344 rfl rfl rfl rfl ⟨_, rfl, by omega, by omega⟩ dX4_readRule_7 (fun H locs wt hT hfl hfn hP hD hS => ?_)
  have hW := hW.obj (show 4 * 100 + 7 ∈ [405, 406, 407, 408] by decide) hfl
  have hf_1 := hfl _ _ _ _ (Or.inr (Or.inr (by decide))) hf_1
  have hf_2 := hfn
  refine lv_aload_n hx hb dX4_readRule_10 rfl (lv_at hl 0 rfl) ?_
  refine lv_iconst (v := 0) hx hb dX4_readRule_11 (by decide +kernel) ?_
  refine tr_put (ci := 4) hx hb ht hown hK hT hP hD hS k_t (by decide) i_X4 tyX4 tyX4_ok nmX4 rfl 8 (by decide) wd_345 rfl rfl rfl rfl ⟨_, rfl⟩ dX4_readRule_12 (fun H locs wt hT hfl hfn hP hD hS => ?_)
  have hW := hW.obj (show 4 * 100 + 8 ∈ [405, 406, 407, 408] by decide) hfl
  have hf_1 := hfl _ _ _ _ (Or.inr (Or.inr (by decide))) hf_1
  have hf_2 := hfl _ _ _ _ (Or.inr (Or.inr (by decide))) hf_2
  have hf_3 := hfn
  refine lv_aload_n hx hb dX4_readRule_15 rfl (lv_at hl 1 rfl) ?_
  have hP : va_P (gg_D G) classes ([] ++ ([(tp, .inr (8, [.ref bp, .int n, .int at_, .int w_, .int fl])), (bp, .inl (G.2.2 0, 400, .inl bf))] ++ wt)) H := hP
  have hD : va_D A ([] ++ ([(tp, .inr (8, [.ref bp, .int n, .int at_, .int w_, .int fl])), (bp, .inl (G.2.2 0, 400, .inl bf))] ++ wt)) := hD
  refine gt_callV (wr := []) (va_runV (As := []) (rest := []) ⟨hx, hb, hml, hown, ht⟩ (d_rewind l G Γ H.size wt hT tp bp n at_ w_ fl bf (by first | assumption | omega) (by first | assumption | omega) (by first | assumption | omega) (by first | assumption | omega) (by first | assumption | omega)) (cwV 0 ht (ts_gV wd_712 wd_575 wd_576 wd_123 wd_577) rfl rfl rfl (by decide +kernel) ⟨Nat.le_of_ble_eq_true rfl, Nat.le_of_ble_eq_true rfl⟩) (gc_preV (ci := 8) (q0 := 0) hK (tw_right hP) (tw_rightD hD) rfl rfl) rfl rfl hl.1 rfl (lv_room (Nat.le_of_ble_eq_true rfl)) dX4_readRule_16 ⟨Nat.le_of_ble_eq_true rfl, Nat.le_of_ble_eq_true rfl⟩) hP hD hS hA (fun u H locs hw hP hD hS => ?_)
  obtain ⟨y_4, y_5, y_6, wt⟩ := u
  obtain ⟨hT, hkp, w_7, w_8, w_9⟩ := hw
  have hW := hW.call (show ∀ x ∈ [], x ∈ [405, 406, 407, 408] by decide) hkp
  have hf_1 := hkp _ _ _ _ (by decide) (by decide) hf_1
  have hf_2 := hkp _ _ _ _ (by decide) (by decide) hf_2
  have hf_3 := hkp _ _ _ _ (by decide) (by decide) hf_3
  have hP : va_P (gg_D G) classes ([(tp, .inr (8, [.ref bp, .int n, .int y_4, .int y_5, .int y_6])), (bp, .inl (G.2.2 0, 400, .inl bf))] ++ wt) H := hP
  have hD : va_D A ([(tp, .inr (8, [.ref bp, .int n, .int y_4, .int y_5, .int y_6])), (bp, .inl (G.2.2 0, 400, .inl bf))] ++ wt) := hD
  refine lv_iconst (v := 1) hx hb dX4_readRule_19 (by decide +kernel) ?_
  refine lv_istore_n (lv' := [(2, .int 1), (0, .ref t), (1, .ref tp)]) hx hb dX4_readRule_20 rfl hl (by decide) rfl (fun ls hl => ?_)
  refine lv_iconst (v := 0) hx hb dX4_readRule_21 (by decide +kernel) ?_
  refine lv_istore_n (lv' := [(3, .int 0), (2, .int 1), (0, .ref t), (1, .ref tp)]) hx hb dX4_readRule_22 rfl hl (by decide) rfl (fun ls hl => ?_)
  refine tl_loopE (Γ := Γ) (nL := 5) (fun (zz_ : Int32 × Int32 × Int32 × Int32 × Int32) => match zz_ with | (x23_0, x23_1, x23_2, x23_3, x23_4) => 0 ≤ x23_0.toInt ∧ x23_0.toInt ≤ 13 ∧ 0 ≤ x23_1.toInt ∧ x23_1.toInt ≤ 1 ∧ 0 ≤ x23_2.toInt ∧ x23_2.toInt ≤ 400 ∧ 0 ≤ x23_3.toInt ∧ x23_3.toInt ≤ 400 ∧ x23_2.toInt + x23_3.toInt ≤ 400) (fun (zz_ : Int32 × Int32 × Int32 × Int32 × Int32) => match zz_ with | (x23_0, x23_1, x23_2, x23_3, x23_4) => (13 - x23_0.toInt).toNat) (fun (zz_ : Int32 × Int32 × Int32 × Int32 × Int32) => match zz_ with | (x23_0, x23_1, x23_2, x23_3, x23_4) => [(3, .int x23_0), (2, .int x23_1), (0, .ref t), (1, .ref tp)]) (fun (zz_ : Int32 × Int32 × Int32 × Int32 × Int32) => match zz_ with | (x23_0, x23_1, x23_2, x23_3, x23_4) => [(tp, .inr (8, [.ref bp, .int n, .int x23_2, .int x23_3, .int x23_4])), (bp, .inl (G.2.2 0, 400, .inl bf))]) (fun (zz_ : Int32 × Int32 × Int32 × Int32 × Int32) (w : va_W) => match zz_ with | (x23_0, x23_1, x23_2, x23_3, x23_4) => tk_kp [405, 406, 407, 408] w0 w) (fun zz_ hI H locs wt ls hT hW hP hD hS hl ih23 => ?_) (0, 1, y_4, y_5, y_6) (show 0 ≤ (0 : Int32).toInt ∧ (0 : Int32).toInt ≤ 13 ∧ 0 ≤ (1 : Int32).toInt ∧ (1 : Int32).toInt ≤ 1 ∧ 0 ≤ y_4.toInt ∧ y_4.toInt ≤ 400 ∧ 0 ≤ y_5.toInt ∧ y_5.toInt ≤ 400 ∧ y_4.toInt + y_5.toInt ≤ 400 from ⟨by omega, by omega, by omega, by omega, by omega, by omega, by omega, by omega, by omega⟩) _ _ wt ls hT hW hP hD hS hl
  obtain ⟨x23_0, x23_1, x23_2, x23_3, x23_4⟩ := zz_
  have hW : tk_kp [405, 406, 407, 408] w0 wt := hW
  have hI : 0 ≤ x23_0.toInt ∧ x23_0.toInt ≤ 13 ∧ 0 ≤ x23_1.toInt ∧ x23_1.toInt ≤ 1 ∧ 0 ≤ x23_2.toInt ∧ x23_2.toInt ≤ 400 ∧ 0 ≤ x23_3.toInt ∧ x23_3.toInt ≤ 400 ∧ x23_2.toInt + x23_3.toInt ≤ 400 := hI
  obtain ⟨j23_0, j23_1, j23_2, j23_3, j23_4, j23_5, j23_6, j23_7, j23_8⟩ := hI
  have hl : lv_has ls 5 [(3, .int x23_0), (2, .int x23_1), (0, .ref t), (1, .ref tp)] := hl
  have hP : va_P (gg_D G) classes ([(tp, .inr (8, [.ref bp, .int n, .int x23_2, .int x23_3, .int x23_4])), (bp, .inl (G.2.2 0, 400, .inl bf))] ++ wt) H := hP
  have hD : va_D A ([(tp, .inr (8, [.ref bp, .int n, .int x23_2, .int x23_3, .int x23_4])), (bp, .inl (G.2.2 0, 400, .inl bf))] ++ wt) := hD
  refine lv_iload_n hx hb dX4_readRule_23 rfl (lv_at hl 1 rfl) ?_
  refine lv_if_eq (tgt := 142) hx hb dX4_readRule_24 (by decide) (fun c_10 => ?_) (fun c_10 => ?_)
  · rw [← Int32.toInt_inj] at c_10
    refine lv_aload_n hx hb dX4_readRule_142 rfl (lv_at hl 3 rfl) ?_
    have hP : va_P (gg_D G) classes ([] ++ ([(tp, .inr (8, [.ref bp, .int n, .int x23_2, .int x23_3, .int x23_4])), (bp, .inl (G.2.2 0, 400, .inl bf))] ++ wt)) H := hP
    have hD : va_D A ([] ++ ([(tp, .inr (8, [.ref bp, .int n, .int x23_2, .int x23_3, .int x23_4])), (bp, .inl (G.2.2 0, 400, .inl bf))] ++ wt)) := hD
    refine gt_callI (wr := []) (va_runV (As := []) (rest := []) ⟨hx, hb, hml, hown, ht⟩ (d_firstFault l G Γ H.size wt hT tp bp n x23_2 x23_3 x23_4 bf (by first | assumption | omega) (by first | assumption | omega) (by first | assumption | omega) (by first | assumption | omega) (by first | assumption | omega)) (cwV 0 ht (ts_gV wd_779 wd_685 wd_686 wd_123 wd_687) rfl rfl rfl (by decide +kernel) ⟨Nat.le_of_ble_eq_true rfl, Nat.le_of_ble_eq_true rfl⟩) (gc_preV (ci := 8) (q0 := 0) hK (tw_right hP) (tw_rightD hD) rfl rfl) rfl rfl hl.1 rfl (lv_room (Nat.le_of_ble_eq_true rfl)) dX4_readRule_143 ⟨Nat.le_of_ble_eq_true rfl, Nat.le_of_ble_eq_true rfl⟩) hP hD hS hA (fun r_11 wt H locs hw hP hD hS => ?_)
    obtain ⟨hT, hkp⟩ := hw
    have hW := hW.call (show ∀ x ∈ [], x ∈ [405, 406, 407, 408] by decide) hkp
    have hP : va_P (gg_D G) classes ([(tp, .inr (8, [.ref bp, .int n, .int x23_2, .int x23_3, .int x23_4])), (bp, .inl (G.2.2 0, 400, .inl bf))] ++ wt) H := hP
    have hD : va_D A ([(tp, .inr (8, [.ref bp, .int n, .int x23_2, .int x23_3, .int x23_4])), (bp, .inl (G.2.2 0, 400, .inl bf))] ++ wt) := hD
    have hP9 : va_P (gg_D G) classes ([(tp, .inr (8, [.ref bp, .int n, .int x23_2, .int x23_3, .int x23_4])), (bp, .inl (G.2.2 0, 400, .inl bf))] ++ wt) _ := hP
    have hD9 : va_D A ([(tp, .inr (8, [.ref bp, .int n, .int x23_2, .int x23_3, .int x23_4])), (bp, .inl (G.2.2 0, 400, .inl bf))] ++ wt) := hD
    exact W.iret (v := r_11) hx hb hr (gq_endI (x23_2, x23_3, x23_4, wt) ⟨hT, hW, (by omega), (by omega), (by omega)⟩ hP9 hD9 hS) hS.2.2 dX4_readRule_146
  · rw [← Int32.toInt_inj] at c_10
    refine lv_iload_n hx hb dX4_readRule_27 rfl (lv_at hl 0 rfl) ?_
    refine lv_bipush (v := 12) hx hb dX4_readRule_28 (by decide +kernel) ?_
    refine lv_icmp_gt (tgt := 142) hx hb dX4_readRule_30 (by decide) (fun c_12 => ?_) (fun c_12 => ?_)
    · rw [Int32.lt_iff_toInt_lt] at c_12
      refine lv_aload_n hx hb dX4_readRule_142 rfl (lv_at hl 3 rfl) ?_
      have hP : va_P (gg_D G) classes ([] ++ ([(tp, .inr (8, [.ref bp, .int n, .int x23_2, .int x23_3, .int x23_4])), (bp, .inl (G.2.2 0, 400, .inl bf))] ++ wt)) H := hP
      have hD : va_D A ([] ++ ([(tp, .inr (8, [.ref bp, .int n, .int x23_2, .int x23_3, .int x23_4])), (bp, .inl (G.2.2 0, 400, .inl bf))] ++ wt)) := hD
      refine gt_callI (wr := []) (va_runV (As := []) (rest := []) ⟨hx, hb, hml, hown, ht⟩ (d_firstFault l G Γ H.size wt hT tp bp n x23_2 x23_3 x23_4 bf (by first | assumption | omega) (by first | assumption | omega) (by first | assumption | omega) (by first | assumption | omega) (by first | assumption | omega)) (cwV 0 ht (ts_gV wd_779 wd_685 wd_686 wd_123 wd_687) rfl rfl rfl (by decide +kernel) ⟨Nat.le_of_ble_eq_true rfl, Nat.le_of_ble_eq_true rfl⟩) (gc_preV (ci := 8) (q0 := 0) hK (tw_right hP) (tw_rightD hD) rfl rfl) rfl rfl hl.1 rfl (lv_room (Nat.le_of_ble_eq_true rfl)) dX4_readRule_143 ⟨Nat.le_of_ble_eq_true rfl, Nat.le_of_ble_eq_true rfl⟩) hP hD hS hA (fun r_13 wt H locs hw hP hD hS => ?_)
      obtain ⟨hT, hkp⟩ := hw
      have hW := hW.call (show ∀ x ∈ [], x ∈ [405, 406, 407, 408] by decide) hkp
      have hP : va_P (gg_D G) classes ([(tp, .inr (8, [.ref bp, .int n, .int x23_2, .int x23_3, .int x23_4])), (bp, .inl (G.2.2 0, 400, .inl bf))] ++ wt) H := hP
      have hD : va_D A ([(tp, .inr (8, [.ref bp, .int n, .int x23_2, .int x23_3, .int x23_4])), (bp, .inl (G.2.2 0, 400, .inl bf))] ++ wt) := hD
      have hP9 : va_P (gg_D G) classes ([(tp, .inr (8, [.ref bp, .int n, .int x23_2, .int x23_3, .int x23_4])), (bp, .inl (G.2.2 0, 400, .inl bf))] ++ wt) _ := hP
      have hD9 : va_D A ([(tp, .inr (8, [.ref bp, .int n, .int x23_2, .int x23_3, .int x23_4])), (bp, .inl (G.2.2 0, 400, .inl bf))] ++ wt) := hD
      exact W.iret (v := r_13) hx hb hr (gq_endI (x23_2, x23_3, x23_4, wt) ⟨hT, hW, (by omega), (by omega), (by omega)⟩ hP9 hD9 hS) hS.2.2 dX4_readRule_146
    · rw [Int32.lt_iff_toInt_lt] at c_12
      refine lv_aload_n hx hb dX4_readRule_33 rfl (lv_at hl 3 rfl) ?_
      refine lv_iload_n hx hb dX4_readRule_34 rfl (lv_at hl 0 rfl) ?_
      have hP : va_P (gg_D G) classes ([] ++ ([(tp, .inr (8, [.ref bp, .int n, .int x23_2, .int x23_3, .int x23_4])), (bp, .inl (G.2.2 0, 400, .inl bf))] ++ wt)) H := hP
      have hD : va_D A ([] ++ ([(tp, .inr (8, [.ref bp, .int n, .int x23_2, .int x23_3, .int x23_4])), (bp, .inl (G.2.2 0, 400, .inl bf))] ++ wt)) := hD
      refine gt_callI (wr := []) (va_runS (As := [.ref tp, .int x23_0]) (rest := []) ⟨hx, hb, hml, hown, ht⟩ (d_readHead l G Γ H.size wt hT K V x23_0 tp bp n x23_2 x23_3 x23_4 bf (by first | assumption | omega) (by first | assumption | omega) (by first | assumption | omega) (by first | assumption | omega) (by first | assumption | omega)) (va_cwS 2 ht (ts_gS wd_713 wd_714 wd_128 wd_715) rfl rfl rfl (by decide +kernel) ⟨Nat.le_of_ble_eq_true rfl, Nat.le_of_ble_eq_true rfl⟩) (gx_preS hK (tw_right hP) (tw_rightD hD) hX hS (tw_free hD hS hA)) rfl rfl hl.1 rfl (lv_room (Nat.le_of_ble_eq_true rfl)) dX4_readRule_35 ⟨Nat.le_of_ble_eq_true rfl, Nat.le_of_ble_eq_true rfl⟩) hP hD hS hA (fun r_14 u H locs hw hP hD hS => ?_)
      obtain ⟨y_15, y_16, y_17, wt⟩ := u
      obtain ⟨hT, hkp, w_18, w_19, w_20, lo_r_14, hi_r_14⟩ := hw
      have hW := hW.call (show ∀ x ∈ [], x ∈ [405, 406, 407, 408] by decide) hkp
      have hP : va_P (gg_D G) classes ([(tp, .inr (8, [.ref bp, .int n, .int y_15, .int y_16, .int y_17])), (bp, .inl (G.2.2 0, 400, .inl bf))] ++ wt) H := hP
      have hD : va_D A ([(tp, .inr (8, [.ref bp, .int n, .int y_15, .int y_16, .int y_17])), (bp, .inl (G.2.2 0, 400, .inl bf))] ++ wt) := hD
      refine lv_if_eq (tgt := 53) hx hb dX4_readRule_38 (by decide) (fun c_21 => ?_) (fun c_21 => ?_)
      · rw [← Int32.toInt_inj] at c_21
        refine lv_iconst (v := 0) hx hb dX4_readRule_53 (by decide +kernel) ?_
        refine lv_istore (lv' := [(4, .int 0), (3, .int x23_0), (2, .int x23_1), (0, .ref t), (1, .ref tp)]) hx hb dX4_readRule_54 hl (by decide) rfl (fun ls hl => ?_)
        refine lv_iload hx hb dX4_readRule_56 (lv_at hl 0 rfl) ?_
        refine lv_if_eq (tgt := 97) hx hb dX4_readRule_58 (by decide) (fun _ => ?_) (fun c0 => False.elim (by rw [← Int32.toInt_inj] at c0; omega))
        refine lv_iload hx hb dX4_readRule_97 (lv_at hl 0 rfl) ?_
        refine lv_if_eq (tgt := 115) hx hb dX4_readRule_99 (by decide) (fun _ => ?_) (fun c0 => False.elim (by rw [← Int32.toInt_inj] at c0; omega))
        refine lv_iconst (v := 0) hx hb dX4_readRule_115 (by decide +kernel) ?_
        refine lv_istore (lv' := [(4, .int 0), (3, .int x23_0), (2, .int x23_1), (0, .ref t), (1, .ref tp)]) hx hb dX4_readRule_116 hl (by decide) rfl (fun ls hl => ?_)
        refine lv_iload hx hb dX4_readRule_118 (lv_at hl 0 rfl) ?_
        refine lv_if_eq (tgt := 134) hx hb dX4_readRule_120 (by decide) (fun _ => ?_) (fun c0 => False.elim (by rw [← Int32.toInt_inj] at c0; omega))
        refine lv_iconst (v := 0) hx hb dX4_readRule_134 (by decide +kernel) ?_
        refine lv_istore_n (lv' := [(2, .int 0), (4, .int 0), (3, .int x23_0), (0, .ref t), (1, .ref tp)]) hx hb dX4_readRule_135 rfl hl (by decide) rfl (fun ls hl => ?_)
        obtain ⟨t_22, et_22⟩ : ∃ zz_ : Int32, x23_0 + Int32.ofInt (1) = zz_ := ⟨_, rfl⟩
        have ft_22 : t_22.toInt = x23_0.toInt + (1 : Int32).toInt := ia_add (y := 1) et_22 (by omega) (by omega)
        refine lv_iinc (v := t_22) (lv' := [(3, .int t_22), (2, .int 0), (4, .int 0), (0, .ref t), (1, .ref tp)]) hx hb dX4_readRule_136 hl (k := 2) rfl et_22 (by decide) rfl (fun ls hl => ?_)
        refine lv_goto (tgt := 23) hx hb dX4_readRule_139 (by decide) ?_
        exact ih23 (t_22, 0, y_15, y_16, y_17) (show 0 ≤ t_22.toInt ∧ t_22.toInt ≤ 13 ∧ 0 ≤ (0 : Int32).toInt ∧ (0 : Int32).toInt ≤ 1 ∧ 0 ≤ y_15.toInt ∧ y_15.toInt ≤ 400 ∧ 0 ≤ y_16.toInt ∧ y_16.toInt ≤ 400 ∧ y_15.toInt + y_16.toInt ≤ 400 from ⟨by omega, by omega, by omega, by omega, by omega, by omega, by omega, by omega, by omega⟩) (show (13 - t_22.toInt).toNat < (13 - x23_0.toInt).toNat by omega) H locs wt ls hT hW hP hD hS (lv_sub hl [0, 1, 3, 4] rfl)
      · rw [← Int32.toInt_inj] at c_21
        refine lv_aload_n hx hb dX4_readRule_41 rfl (lv_at hl 2 rfl) ?_
        refine lv_aload_n hx hb dX4_readRule_42 rfl (lv_at hl 3 rfl) ?_
        have hP : va_P (gg_D G) classes ([] ++ ([(tp, .inr (8, [.ref bp, .int n, .int y_15, .int y_16, .int y_17])), (bp, .inl (G.2.2 0, 400, .inl bf))] ++ wt)) H := hP
        have hD : va_D A ([] ++ ([(tp, .inr (8, [.ref bp, .int n, .int y_15, .int y_16, .int y_17])), (bp, .inl (G.2.2 0, 400, .inl bf))] ++ wt)) := hD
        refine gt_callI (wr := []) (va_runV (As := [.ref tp]) (rest := []) ⟨hx, hb, hml, hown, ht⟩ (d_readSum l G Γ H.size wt hT K V t tp bp n y_15 y_16 y_17 bf k_t (by first | assumption | omega) (by first | assumption | omega) (by first | assumption | omega) (by first | assumption | omega) (by first | assumption | omega)) (cwV 1 ht (ts_gV wd_721 wd_723 wd_6 wd_128 wd_724) rfl rfl rfl (by decide +kernel) ⟨Nat.le_of_ble_eq_true rfl, Nat.le_of_ble_eq_true rfl⟩) (gx_preW (we := [(tp, .inr (8, [.ref bp, .int n, .int y_15, .int y_16, .int y_17])), (bp, .inl (G.2.2 0, 400, .inl bf))]) (ci := 4) hK hT (tw_right hP) (tw_rightD hD) hX hS (tw_free hD hS hA) k_t (by decide) rfl) rfl rfl hl.1 rfl (lv_room (Nat.le_of_ble_eq_true rfl)) dX4_readRule_43 ⟨Nat.le_of_ble_eq_true rfl, Nat.le_of_ble_eq_true rfl⟩) hP hD hS hA (fun r_23 u H locs hw hP hD hS => ?_)
        obtain ⟨y_24, y_25, y_26, wt⟩ := u
        obtain ⟨hT, hkp, w_27, w_28, w_29, lo_r_23, hi_r_23⟩ := hw
        have hW := hW.call (show ∀ x ∈ [406, 407, 408], x ∈ [405, 406, 407, 408] by decide) hkp
        have hP : va_P (gg_D G) classes ([(tp, .inr (8, [.ref bp, .int n, .int y_24, .int y_25, .int y_26])), (bp, .inl (G.2.2 0, 400, .inl bf))] ++ wt) H := hP
        have hD : va_D A ([(tp, .inr (8, [.ref bp, .int n, .int y_24, .int y_25, .int y_26])), (bp, .inl (G.2.2 0, 400, .inl bf))] ++ wt) := hD
        refine lv_if_eq (tgt := 53) hx hb dX4_readRule_46 (by decide) (fun c_30 => ?_) (fun c_30 => ?_)
        · rw [← Int32.toInt_inj] at c_30
          refine lv_iconst (v := 0) hx hb dX4_readRule_53 (by decide +kernel) ?_
          refine lv_istore (lv' := [(4, .int 0), (3, .int x23_0), (2, .int x23_1), (0, .ref t), (1, .ref tp)]) hx hb dX4_readRule_54 hl (by decide) rfl (fun ls hl => ?_)
          refine lv_iload hx hb dX4_readRule_56 (lv_at hl 0 rfl) ?_
          refine lv_if_eq (tgt := 97) hx hb dX4_readRule_58 (by decide) (fun _ => ?_) (fun c0 => False.elim (by rw [← Int32.toInt_inj] at c0; omega))
          refine lv_iload hx hb dX4_readRule_97 (lv_at hl 0 rfl) ?_
          refine lv_if_eq (tgt := 115) hx hb dX4_readRule_99 (by decide) (fun _ => ?_) (fun c0 => False.elim (by rw [← Int32.toInt_inj] at c0; omega))
          refine lv_iconst (v := 0) hx hb dX4_readRule_115 (by decide +kernel) ?_
          refine lv_istore (lv' := [(4, .int 0), (3, .int x23_0), (2, .int x23_1), (0, .ref t), (1, .ref tp)]) hx hb dX4_readRule_116 hl (by decide) rfl (fun ls hl => ?_)
          refine lv_iload hx hb dX4_readRule_118 (lv_at hl 0 rfl) ?_
          refine lv_if_eq (tgt := 134) hx hb dX4_readRule_120 (by decide) (fun _ => ?_) (fun c0 => False.elim (by rw [← Int32.toInt_inj] at c0; omega))
          refine lv_iconst (v := 0) hx hb dX4_readRule_134 (by decide +kernel) ?_
          refine lv_istore_n (lv' := [(2, .int 0), (4, .int 0), (3, .int x23_0), (0, .ref t), (1, .ref tp)]) hx hb dX4_readRule_135 rfl hl (by decide) rfl (fun ls hl => ?_)
          obtain ⟨t_31, et_31⟩ : ∃ zz_ : Int32, x23_0 + Int32.ofInt (1) = zz_ := ⟨_, rfl⟩
          have ft_31 : t_31.toInt = x23_0.toInt + (1 : Int32).toInt := ia_add (y := 1) et_31 (by omega) (by omega)
          refine lv_iinc (v := t_31) (lv' := [(3, .int t_31), (2, .int 0), (4, .int 0), (0, .ref t), (1, .ref tp)]) hx hb dX4_readRule_136 hl (k := 2) rfl et_31 (by decide) rfl (fun ls hl => ?_)
          refine lv_goto (tgt := 23) hx hb dX4_readRule_139 (by decide) ?_
          exact ih23 (t_31, 0, y_24, y_25, y_26) (show 0 ≤ t_31.toInt ∧ t_31.toInt ≤ 13 ∧ 0 ≤ (0 : Int32).toInt ∧ (0 : Int32).toInt ≤ 1 ∧ 0 ≤ y_24.toInt ∧ y_24.toInt ≤ 400 ∧ 0 ≤ y_25.toInt ∧ y_25.toInt ≤ 400 ∧ y_24.toInt + y_25.toInt ≤ 400 from ⟨by omega, by omega, by omega, by omega, by omega, by omega, by omega, by omega, by omega⟩) (show (13 - t_31.toInt).toNat < (13 - x23_0.toInt).toNat by omega) H locs wt ls hT hW hP hD hS (lv_sub hl [0, 1, 3, 4] rfl)
        · rw [← Int32.toInt_inj] at c_30
          refine lv_iconst (v := 1) hx hb dX4_readRule_49 (by decide +kernel) ?_
          refine lv_goto (tgt := 54) hx hb dX4_readRule_50 (by decide) ?_
          refine lv_istore (lv' := [(4, .int 1), (3, .int x23_0), (2, .int x23_1), (0, .ref t), (1, .ref tp)]) hx hb dX4_readRule_54 hl (by decide) rfl (fun ls hl => ?_)
          refine lv_iload hx hb dX4_readRule_56 (lv_at hl 0 rfl) ?_
          refine lv_if_eq (tgt := 97) hx hb dX4_readRule_58 (by decide) (fun c0 => False.elim (by rw [← Int32.toInt_inj] at c0; omega)) (fun _ => ?_)
          refine lv_aload_n hx hb dX4_readRule_61 rfl (lv_at hl 4 rfl) ?_
          refine va_ldcS hx hb hown (hX.2.2.2.2.2.2.1) dX4_readRule_62 ?_
          have hP : va_P (gg_D G) classes ([] ++ ([(tp, .inr (8, [.ref bp, .int n, .int y_24, .int y_25, .int y_26])), (bp, .inl (G.2.2 0, 400, .inl bf))] ++ wt)) H := hP
          have hD : va_D A ([] ++ ([(tp, .inr (8, [.ref bp, .int n, .int y_24, .int y_25, .int y_26])), (bp, .inl (G.2.2 0, 400, .inl bf))] ++ wt)) := hD
          refine gt_callI (wr := []) (va_runV (As := [.ref (K 3)]) (rest := []) ⟨hx, hb, hml, hown, ht⟩ (d_takeIf l G Γ H.size wt hT K V tp bp n y_24 y_25 y_26 bf (by first | assumption | omega) (by first | assumption | omega) (by first | assumption | omega) (by first | assumption | omega) (by first | assumption | omega)) (cwV 1 ht (ts_gV wd_749 wd_750 wd_751 wd_123 wd_752) rfl rfl rfl (by decide +kernel) ⟨Nat.le_of_ble_eq_true rfl, Nat.le_of_ble_eq_true rfl⟩) (gx_preV (ci := 8) (q0 := 0) hK (tw_right hP) (tw_rightD hD) hX hS (tw_free hD hS hA) rfl rfl) rfl rfl hl.1 rfl (lv_room (Nat.le_of_ble_eq_true rfl)) dX4_readRule_64 ⟨Nat.le_of_ble_eq_true rfl, Nat.le_of_ble_eq_true rfl⟩) hP hD hS hA (fun r_32 u H locs hw hP hD hS => ?_)
          obtain ⟨y_33, y_34, y_35, wt⟩ := u
          obtain ⟨hT, hkp, w_36, w_37, w_38, lo_r_32, hi_r_32⟩ := hw
          have hW := hW.call (show ∀ x ∈ [], x ∈ [405, 406, 407, 408] by decide) hkp
          have hP : va_P (gg_D G) classes ([(tp, .inr (8, [.ref bp, .int n, .int y_33, .int y_34, .int y_35])), (bp, .inl (G.2.2 0, 400, .inl bf))] ++ wt) H := hP
          have hD : va_D A ([(tp, .inr (8, [.ref bp, .int n, .int y_33, .int y_34, .int y_35])), (bp, .inl (G.2.2 0, 400, .inl bf))] ++ wt) := hD
          refine lv_if_eq (tgt := 97) hx hb dX4_readRule_67 (by decide) (fun c_39 => ?_) (fun c_39 => ?_)
          · rw [← Int32.toInt_inj] at c_39
            refine lv_iload hx hb dX4_readRule_97 (lv_at hl 0 rfl) ?_
            refine lv_if_eq (tgt := 115) hx hb dX4_readRule_99 (by decide) (fun c0 => False.elim (by rw [← Int32.toInt_inj] at c0; omega)) (fun _ => ?_)
            refine lv_aload_n hx hb dX4_readRule_102 rfl (lv_at hl 3 rfl) ?_
            refine lv_bipush (v := 23) hx hb dX4_readRule_103 (by decide +kernel) ?_
            refine gt_callI (wr := [(tp, .inr (8, [.ref bp, .int n, .int y_33, .int y_34, .int y_35])), (bp, .inl (G.2.2 0, 400, .inl bf))]) (va_runV (As := [.int 23]) (rest := []) ⟨hx, hb, hml, hown, ht⟩ (d_step l G Γ H.size wt hT t 23 k_t (by omega) (by omega)) (cwV 1 ht (ts_gV wd_736 wd_738 wd_9 wd_128 wd_739) rfl rfl rfl (by decide +kernel) ⟨Nat.le_of_ble_eq_true rfl, Nat.le_of_ble_eq_true rfl⟩) (gt_preW (ci := 4) hK hT (tw_right hP) (tw_rightD hD) k_t (by decide) rfl) rfl rfl hl.1 rfl (lv_room (Nat.le_of_ble_eq_true rfl)) dX4_readRule_105 ⟨Nat.le_of_ble_eq_true rfl, Nat.le_of_ble_eq_true rfl⟩) hP hD hS hA (fun r_40 wt H locs hw hP hD hS => ?_)
            obtain ⟨hT, hkp, lo_r_40, hi_r_40⟩ := hw
            have hW := hW.call (show ∀ x ∈ [406], x ∈ [405, 406, 407, 408] by decide) hkp
            have hP : va_P (gg_D G) classes ([(tp, .inr (8, [.ref bp, .int n, .int y_33, .int y_34, .int y_35])), (bp, .inl (G.2.2 0, 400, .inl bf))] ++ wt) H := hP
            have hD : va_D A ([(tp, .inr (8, [.ref bp, .int n, .int y_33, .int y_34, .int y_35])), (bp, .inl (G.2.2 0, 400, .inl bf))] ++ wt) := hD
            refine lv_if_eq (tgt := 115) hx hb dX4_readRule_108 (by decide) (fun c_41 => ?_) (fun c_41 => ?_)
            · rw [← Int32.toInt_inj] at c_41
              refine lv_iconst (v := 0) hx hb dX4_readRule_115 (by decide +kernel) ?_
              refine lv_istore (lv' := [(4, .int 0), (3, .int x23_0), (2, .int x23_1), (0, .ref t), (1, .ref tp)]) hx hb dX4_readRule_116 hl (by decide) rfl (fun ls hl => ?_)
              refine lv_iload hx hb dX4_readRule_118 (lv_at hl 0 rfl) ?_
              refine lv_if_eq (tgt := 134) hx hb dX4_readRule_120 (by decide) (fun _ => ?_) (fun c0 => False.elim (by rw [← Int32.toInt_inj] at c0; omega))
              refine lv_iconst (v := 0) hx hb dX4_readRule_134 (by decide +kernel) ?_
              refine lv_istore_n (lv' := [(2, .int 0), (4, .int 0), (3, .int x23_0), (0, .ref t), (1, .ref tp)]) hx hb dX4_readRule_135 rfl hl (by decide) rfl (fun ls hl => ?_)
              obtain ⟨t_42, et_42⟩ : ∃ zz_ : Int32, x23_0 + Int32.ofInt (1) = zz_ := ⟨_, rfl⟩
              have ft_42 : t_42.toInt = x23_0.toInt + (1 : Int32).toInt := ia_add (y := 1) et_42 (by omega) (by omega)
              refine lv_iinc (v := t_42) (lv' := [(3, .int t_42), (2, .int 0), (4, .int 0), (0, .ref t), (1, .ref tp)]) hx hb dX4_readRule_136 hl (k := 2) rfl et_42 (by decide) rfl (fun ls hl => ?_)
              refine lv_goto (tgt := 23) hx hb dX4_readRule_139 (by decide) ?_
              exact ih23 (t_42, 0, y_33, y_34, y_35) (show 0 ≤ t_42.toInt ∧ t_42.toInt ≤ 13 ∧ 0 ≤ (0 : Int32).toInt ∧ (0 : Int32).toInt ≤ 1 ∧ 0 ≤ y_33.toInt ∧ y_33.toInt ≤ 400 ∧ 0 ≤ y_34.toInt ∧ y_34.toInt ≤ 400 ∧ y_33.toInt + y_34.toInt ≤ 400 from ⟨by omega, by omega, by omega, by omega, by omega, by omega, by omega, by omega, by omega⟩) (show (13 - t_42.toInt).toNat < (13 - x23_0.toInt).toNat by omega) H locs wt ls hT hW hP hD hS (lv_sub hl [0, 1, 3, 4] rfl)
            · rw [← Int32.toInt_inj] at c_41
              refine lv_iconst (v := 1) hx hb dX4_readRule_111 (by decide +kernel) ?_
              refine lv_goto (tgt := 116) hx hb dX4_readRule_112 (by decide) ?_
              refine lv_istore (lv' := [(4, .int 1), (3, .int x23_0), (2, .int x23_1), (0, .ref t), (1, .ref tp)]) hx hb dX4_readRule_116 hl (by decide) rfl (fun ls hl => ?_)
              refine lv_iload hx hb dX4_readRule_118 (lv_at hl 0 rfl) ?_
              refine lv_if_eq (tgt := 134) hx hb dX4_readRule_120 (by decide) (fun c0 => False.elim (by rw [← Int32.toInt_inj] at c0; omega)) (fun _ => ?_)
              refine lv_aload_n hx hb dX4_readRule_123 rfl (lv_at hl 4 rfl) ?_
              have hP : va_P (gg_D G) classes ([] ++ ([(tp, .inr (8, [.ref bp, .int n, .int y_33, .int y_34, .int y_35])), (bp, .inl (G.2.2 0, 400, .inl bf))] ++ wt)) H := hP
              have hD : va_D A ([] ++ ([(tp, .inr (8, [.ref bp, .int n, .int y_33, .int y_34, .int y_35])), (bp, .inl (G.2.2 0, 400, .inl bf))] ++ wt)) := hD
              refine gt_callI (wr := []) (va_runV (As := []) (rest := []) ⟨hx, hb, hml, hown, ht⟩ (d_another l G Γ H.size wt hT tp bp n y_33 y_34 y_35 bf (by first | assumption | omega) (by first | assumption | omega) (by first | assumption | omega) (by first | assumption | omega) (by first | assumption | omega)) (cwV 0 ht (ts_gV wd_780 wd_673 wd_674 wd_123 wd_675) rfl rfl rfl (by decide +kernel) ⟨Nat.le_of_ble_eq_true rfl, Nat.le_of_ble_eq_true rfl⟩) (gc_preV (ci := 8) (q0 := 0) hK (tw_right hP) (tw_rightD hD) rfl rfl) rfl rfl hl.1 rfl (lv_room (Nat.le_of_ble_eq_true rfl)) dX4_readRule_124 ⟨Nat.le_of_ble_eq_true rfl, Nat.le_of_ble_eq_true rfl⟩) hP hD hS hA (fun r_43 u H locs hw hP hD hS => ?_)
              obtain ⟨y_44, y_45, y_46, wt⟩ := u
              obtain ⟨hT, hkp, w_47, w_48, w_49, lo_r_43, hi_r_43⟩ := hw
              have hW := hW.call (show ∀ x ∈ [], x ∈ [405, 406, 407, 408] by decide) hkp
              have hP : va_P (gg_D G) classes ([(tp, .inr (8, [.ref bp, .int n, .int y_44, .int y_45, .int y_46])), (bp, .inl (G.2.2 0, 400, .inl bf))] ++ wt) H := hP
              have hD : va_D A ([(tp, .inr (8, [.ref bp, .int n, .int y_44, .int y_45, .int y_46])), (bp, .inl (G.2.2 0, 400, .inl bf))] ++ wt) := hD
              refine lv_if_eq (tgt := 134) hx hb dX4_readRule_127 (by decide) (fun c_50 => ?_) (fun c_50 => ?_)
              · rw [← Int32.toInt_inj] at c_50
                refine lv_iconst (v := 0) hx hb dX4_readRule_134 (by decide +kernel) ?_
                refine lv_istore_n (lv' := [(2, .int 0), (4, .int 1), (3, .int x23_0), (0, .ref t), (1, .ref tp)]) hx hb dX4_readRule_135 rfl hl (by decide) rfl (fun ls hl => ?_)
                obtain ⟨t_51, et_51⟩ : ∃ zz_ : Int32, x23_0 + Int32.ofInt (1) = zz_ := ⟨_, rfl⟩
                have ft_51 : t_51.toInt = x23_0.toInt + (1 : Int32).toInt := ia_add (y := 1) et_51 (by omega) (by omega)
                refine lv_iinc (v := t_51) (lv' := [(3, .int t_51), (2, .int 0), (4, .int 1), (0, .ref t), (1, .ref tp)]) hx hb dX4_readRule_136 hl (k := 2) rfl et_51 (by decide) rfl (fun ls hl => ?_)
                refine lv_goto (tgt := 23) hx hb dX4_readRule_139 (by decide) ?_
                exact ih23 (t_51, 0, y_44, y_45, y_46) (show 0 ≤ t_51.toInt ∧ t_51.toInt ≤ 13 ∧ 0 ≤ (0 : Int32).toInt ∧ (0 : Int32).toInt ≤ 1 ∧ 0 ≤ y_44.toInt ∧ y_44.toInt ≤ 400 ∧ 0 ≤ y_45.toInt ∧ y_45.toInt ≤ 400 ∧ y_44.toInt + y_45.toInt ≤ 400 from ⟨by omega, by omega, by omega, by omega, by omega, by omega, by omega, by omega, by omega⟩) (show (13 - t_51.toInt).toNat < (13 - x23_0.toInt).toNat by omega) H locs wt ls hT hW hP hD hS (lv_sub hl [0, 1, 3, 4] rfl)
              · rw [← Int32.toInt_inj] at c_50
                refine lv_iconst (v := 1) hx hb dX4_readRule_130 (by decide +kernel) ?_
                refine lv_goto (tgt := 135) hx hb dX4_readRule_131 (by decide) ?_
                refine lv_istore_n (lv' := [(2, .int 1), (4, .int 1), (3, .int x23_0), (0, .ref t), (1, .ref tp)]) hx hb dX4_readRule_135 rfl hl (by decide) rfl (fun ls hl => ?_)
                obtain ⟨t_52, et_52⟩ : ∃ zz_ : Int32, x23_0 + Int32.ofInt (1) = zz_ := ⟨_, rfl⟩
                have ft_52 : t_52.toInt = x23_0.toInt + (1 : Int32).toInt := ia_add (y := 1) et_52 (by omega) (by omega)
                refine lv_iinc (v := t_52) (lv' := [(3, .int t_52), (2, .int 1), (4, .int 1), (0, .ref t), (1, .ref tp)]) hx hb dX4_readRule_136 hl (k := 2) rfl et_52 (by decide) rfl (fun ls hl => ?_)
                refine lv_goto (tgt := 23) hx hb dX4_readRule_139 (by decide) ?_
                exact ih23 (t_52, 1, y_44, y_45, y_46) (show 0 ≤ t_52.toInt ∧ t_52.toInt ≤ 13 ∧ 0 ≤ (1 : Int32).toInt ∧ (1 : Int32).toInt ≤ 1 ∧ 0 ≤ y_44.toInt ∧ y_44.toInt ≤ 400 ∧ 0 ≤ y_45.toInt ∧ y_45.toInt ≤ 400 ∧ y_44.toInt + y_45.toInt ≤ 400 from ⟨by omega, by omega, by omega, by omega, by omega, by omega, by omega, by omega, by omega⟩) (show (13 - t_52.toInt).toNat < (13 - x23_0.toInt).toNat by omega) H locs wt ls hT hW hP hD hS (lv_sub hl [0, 1, 3, 4] rfl)
          · rw [← Int32.toInt_inj] at c_39
            refine lv_aload_n hx hb dX4_readRule_70 rfl (lv_at hl 3 rfl) ?_
            refine lv_aload_n hx hb dX4_readRule_71 rfl (lv_at hl 4 rfl) ?_
            have hP : va_P (gg_D G) classes ([] ++ ([(tp, .inr (8, [.ref bp, .int n, .int y_33, .int y_34, .int y_35])), (bp, .inl (G.2.2 0, 400, .inl bf))] ++ wt)) H := hP
            have hD : va_D A ([] ++ ([(tp, .inr (8, [.ref bp, .int n, .int y_33, .int y_34, .int y_35])), (bp, .inl (G.2.2 0, 400, .inl bf))] ++ wt)) := hD
            refine gt_callI (wr := []) (va_runV (As := [.ref tp]) (rest := []) ⟨hx, hb, hml, hown, ht⟩ (d_readTest l G Γ H.size wt hT K V t tp bp n y_33 y_34 y_35 bf k_t (by first | assumption | omega) (by first | assumption | omega) (by first | assumption | omega) (by first | assumption | omega) (by first | assumption | omega)) (cwV 1 ht (ts_gV wd_755 wd_757 wd_10 wd_128 wd_758) rfl rfl rfl (by decide +kernel) ⟨Nat.le_of_ble_eq_true rfl, Nat.le_of_ble_eq_true rfl⟩) (gx_preW (we := [(tp, .inr (8, [.ref bp, .int n, .int y_33, .int y_34, .int y_35])), (bp, .inl (G.2.2 0, 400, .inl bf))]) (ci := 4) hK hT (tw_right hP) (tw_rightD hD) hX hS (tw_free hD hS hA) k_t (by decide) rfl) rfl rfl hl.1 rfl (lv_room (Nat.le_of_ble_eq_true rfl)) dX4_readRule_72 ⟨Nat.le_of_ble_eq_true rfl, Nat.le_of_ble_eq_true rfl⟩) hP hD hS hA (fun r_53 u H locs hw hP hD hS => ?_)
            obtain ⟨y_54, y_55, y_56, wt⟩ := u
            obtain ⟨hT, hkp, w_57, w_58, w_59, lo_r_53, hi_r_53⟩ := hw
            have hW := hW.call (show ∀ x ∈ [405, 406, 407, 408], x ∈ [405, 406, 407, 408] by decide) hkp
            have hP : va_P (gg_D G) classes ([(tp, .inr (8, [.ref bp, .int n, .int y_54, .int y_55, .int y_56])), (bp, .inl (G.2.2 0, 400, .inl bf))] ++ wt) H := hP
            have hD : va_D A ([(tp, .inr (8, [.ref bp, .int n, .int y_54, .int y_55, .int y_56])), (bp, .inl (G.2.2 0, 400, .inl bf))] ++ wt) := hD
            refine lv_if_eq (tgt := 91) hx hb dX4_readRule_75 (by decide) (fun c_60 => ?_) (fun c_60 => ?_)
            · rw [← Int32.toInt_inj] at c_60
              refine lv_iconst (v := 0) hx hb dX4_readRule_91 (by decide +kernel) ?_
              refine lv_istore (lv' := [(4, .int 0), (3, .int x23_0), (2, .int x23_1), (0, .ref t), (1, .ref tp)]) hx hb dX4_readRule_92 hl (by decide) rfl (fun ls hl => ?_)
              refine lv_goto (tgt := 118) hx hb dX4_readRule_94 (by decide) ?_
              refine lv_iload hx hb dX4_readRule_118 (lv_at hl 0 rfl) ?_
              refine lv_if_eq (tgt := 134) hx hb dX4_readRule_120 (by decide) (fun _ => ?_) (fun c0 => False.elim (by rw [← Int32.toInt_inj] at c0; omega))
              refine lv_iconst (v := 0) hx hb dX4_readRule_134 (by decide +kernel) ?_
              refine lv_istore_n (lv' := [(2, .int 0), (4, .int 0), (3, .int x23_0), (0, .ref t), (1, .ref tp)]) hx hb dX4_readRule_135 rfl hl (by decide) rfl (fun ls hl => ?_)
              obtain ⟨t_61, et_61⟩ : ∃ zz_ : Int32, x23_0 + Int32.ofInt (1) = zz_ := ⟨_, rfl⟩
              have ft_61 : t_61.toInt = x23_0.toInt + (1 : Int32).toInt := ia_add (y := 1) et_61 (by omega) (by omega)
              refine lv_iinc (v := t_61) (lv' := [(3, .int t_61), (2, .int 0), (4, .int 0), (0, .ref t), (1, .ref tp)]) hx hb dX4_readRule_136 hl (k := 2) rfl et_61 (by decide) rfl (fun ls hl => ?_)
              refine lv_goto (tgt := 23) hx hb dX4_readRule_139 (by decide) ?_
              exact ih23 (t_61, 0, y_54, y_55, y_56) (show 0 ≤ t_61.toInt ∧ t_61.toInt ≤ 13 ∧ 0 ≤ (0 : Int32).toInt ∧ (0 : Int32).toInt ≤ 1 ∧ 0 ≤ y_54.toInt ∧ y_54.toInt ≤ 400 ∧ 0 ≤ y_55.toInt ∧ y_55.toInt ≤ 400 ∧ y_54.toInt + y_55.toInt ≤ 400 from ⟨by omega, by omega, by omega, by omega, by omega, by omega, by omega, by omega, by omega⟩) (show (13 - t_61.toInt).toNat < (13 - x23_0.toInt).toNat by omega) H locs wt ls hT hW hP hD hS (lv_sub hl [0, 1, 3, 4] rfl)
            · rw [← Int32.toInt_inj] at c_60
              refine lv_aload_n hx hb dX4_readRule_78 rfl (lv_at hl 3 rfl) ?_
              refine lv_bipush (v := 24) hx hb dX4_readRule_79 (by decide +kernel) ?_
              refine gt_callI (wr := [(tp, .inr (8, [.ref bp, .int n, .int y_54, .int y_55, .int y_56])), (bp, .inl (G.2.2 0, 400, .inl bf))]) (va_runV (As := [.int 24]) (rest := []) ⟨hx, hb, hml, hown, ht⟩ (d_step l G Γ H.size wt hT t 24 k_t (by omega) (by omega)) (cwV 1 ht (ts_gV wd_736 wd_738 wd_9 wd_128 wd_739) rfl rfl rfl (by decide +kernel) ⟨Nat.le_of_ble_eq_true rfl, Nat.le_of_ble_eq_true rfl⟩) (gt_preW (ci := 4) hK hT (tw_right hP) (tw_rightD hD) k_t (by decide) rfl) rfl rfl hl.1 rfl (lv_room (Nat.le_of_ble_eq_true rfl)) dX4_readRule_81 ⟨Nat.le_of_ble_eq_true rfl, Nat.le_of_ble_eq_true rfl⟩) hP hD hS hA (fun r_62 wt H locs hw hP hD hS => ?_)
              obtain ⟨hT, hkp, lo_r_62, hi_r_62⟩ := hw
              have hW := hW.call (show ∀ x ∈ [406], x ∈ [405, 406, 407, 408] by decide) hkp
              have hP : va_P (gg_D G) classes ([(tp, .inr (8, [.ref bp, .int n, .int y_54, .int y_55, .int y_56])), (bp, .inl (G.2.2 0, 400, .inl bf))] ++ wt) H := hP
              have hD : va_D A ([(tp, .inr (8, [.ref bp, .int n, .int y_54, .int y_55, .int y_56])), (bp, .inl (G.2.2 0, 400, .inl bf))] ++ wt) := hD
              refine lv_if_eq (tgt := 91) hx hb dX4_readRule_84 (by decide) (fun c_63 => ?_) (fun c_63 => ?_)
              · rw [← Int32.toInt_inj] at c_63
                refine lv_iconst (v := 0) hx hb dX4_readRule_91 (by decide +kernel) ?_
                refine lv_istore (lv' := [(4, .int 0), (3, .int x23_0), (2, .int x23_1), (0, .ref t), (1, .ref tp)]) hx hb dX4_readRule_92 hl (by decide) rfl (fun ls hl => ?_)
                refine lv_goto (tgt := 118) hx hb dX4_readRule_94 (by decide) ?_
                refine lv_iload hx hb dX4_readRule_118 (lv_at hl 0 rfl) ?_
                refine lv_if_eq (tgt := 134) hx hb dX4_readRule_120 (by decide) (fun _ => ?_) (fun c0 => False.elim (by rw [← Int32.toInt_inj] at c0; omega))
                refine lv_iconst (v := 0) hx hb dX4_readRule_134 (by decide +kernel) ?_
                refine lv_istore_n (lv' := [(2, .int 0), (4, .int 0), (3, .int x23_0), (0, .ref t), (1, .ref tp)]) hx hb dX4_readRule_135 rfl hl (by decide) rfl (fun ls hl => ?_)
                obtain ⟨t_64, et_64⟩ : ∃ zz_ : Int32, x23_0 + Int32.ofInt (1) = zz_ := ⟨_, rfl⟩
                have ft_64 : t_64.toInt = x23_0.toInt + (1 : Int32).toInt := ia_add (y := 1) et_64 (by omega) (by omega)
                refine lv_iinc (v := t_64) (lv' := [(3, .int t_64), (2, .int 0), (4, .int 0), (0, .ref t), (1, .ref tp)]) hx hb dX4_readRule_136 hl (k := 2) rfl et_64 (by decide) rfl (fun ls hl => ?_)
                refine lv_goto (tgt := 23) hx hb dX4_readRule_139 (by decide) ?_
                exact ih23 (t_64, 0, y_54, y_55, y_56) (show 0 ≤ t_64.toInt ∧ t_64.toInt ≤ 13 ∧ 0 ≤ (0 : Int32).toInt ∧ (0 : Int32).toInt ≤ 1 ∧ 0 ≤ y_54.toInt ∧ y_54.toInt ≤ 400 ∧ 0 ≤ y_55.toInt ∧ y_55.toInt ≤ 400 ∧ y_54.toInt + y_55.toInt ≤ 400 from ⟨by omega, by omega, by omega, by omega, by omega, by omega, by omega, by omega, by omega⟩) (show (13 - t_64.toInt).toNat < (13 - x23_0.toInt).toNat by omega) H locs wt ls hT hW hP hD hS (lv_sub hl [0, 1, 3, 4] rfl)
              · rw [← Int32.toInt_inj] at c_63
                refine lv_iconst (v := 1) hx hb dX4_readRule_87 (by decide +kernel) ?_
                refine lv_goto (tgt := 92) hx hb dX4_readRule_88 (by decide) ?_
                refine lv_istore (lv' := [(4, .int 1), (3, .int x23_0), (2, .int x23_1), (0, .ref t), (1, .ref tp)]) hx hb dX4_readRule_92 hl (by decide) rfl (fun ls hl => ?_)
                refine lv_goto (tgt := 118) hx hb dX4_readRule_94 (by decide) ?_
                refine lv_iload hx hb dX4_readRule_118 (lv_at hl 0 rfl) ?_
                refine lv_if_eq (tgt := 134) hx hb dX4_readRule_120 (by decide) (fun c0 => False.elim (by rw [← Int32.toInt_inj] at c0; omega)) (fun _ => ?_)
                refine lv_aload_n hx hb dX4_readRule_123 rfl (lv_at hl 4 rfl) ?_
                have hP : va_P (gg_D G) classes ([] ++ ([(tp, .inr (8, [.ref bp, .int n, .int y_54, .int y_55, .int y_56])), (bp, .inl (G.2.2 0, 400, .inl bf))] ++ wt)) H := hP
                have hD : va_D A ([] ++ ([(tp, .inr (8, [.ref bp, .int n, .int y_54, .int y_55, .int y_56])), (bp, .inl (G.2.2 0, 400, .inl bf))] ++ wt)) := hD
                refine gt_callI (wr := []) (va_runV (As := []) (rest := []) ⟨hx, hb, hml, hown, ht⟩ (d_another l G Γ H.size wt hT tp bp n y_54 y_55 y_56 bf (by first | assumption | omega) (by first | assumption | omega) (by first | assumption | omega) (by first | assumption | omega) (by first | assumption | omega)) (cwV 0 ht (ts_gV wd_780 wd_673 wd_674 wd_123 wd_675) rfl rfl rfl (by decide +kernel) ⟨Nat.le_of_ble_eq_true rfl, Nat.le_of_ble_eq_true rfl⟩) (gc_preV (ci := 8) (q0 := 0) hK (tw_right hP) (tw_rightD hD) rfl rfl) rfl rfl hl.1 rfl (lv_room (Nat.le_of_ble_eq_true rfl)) dX4_readRule_124 ⟨Nat.le_of_ble_eq_true rfl, Nat.le_of_ble_eq_true rfl⟩) hP hD hS hA (fun r_65 u H locs hw hP hD hS => ?_)
                obtain ⟨y_66, y_67, y_68, wt⟩ := u
                obtain ⟨hT, hkp, w_69, w_70, w_71, lo_r_65, hi_r_65⟩ := hw
                have hW := hW.call (show ∀ x ∈ [], x ∈ [405, 406, 407, 408] by decide) hkp
                have hP : va_P (gg_D G) classes ([(tp, .inr (8, [.ref bp, .int n, .int y_66, .int y_67, .int y_68])), (bp, .inl (G.2.2 0, 400, .inl bf))] ++ wt) H := hP
                have hD : va_D A ([(tp, .inr (8, [.ref bp, .int n, .int y_66, .int y_67, .int y_68])), (bp, .inl (G.2.2 0, 400, .inl bf))] ++ wt) := hD
                refine lv_if_eq (tgt := 134) hx hb dX4_readRule_127 (by decide) (fun c_72 => ?_) (fun c_72 => ?_)
                · rw [← Int32.toInt_inj] at c_72
                  refine lv_iconst (v := 0) hx hb dX4_readRule_134 (by decide +kernel) ?_
                  refine lv_istore_n (lv' := [(2, .int 0), (4, .int 1), (3, .int x23_0), (0, .ref t), (1, .ref tp)]) hx hb dX4_readRule_135 rfl hl (by decide) rfl (fun ls hl => ?_)
                  obtain ⟨t_73, et_73⟩ : ∃ zz_ : Int32, x23_0 + Int32.ofInt (1) = zz_ := ⟨_, rfl⟩
                  have ft_73 : t_73.toInt = x23_0.toInt + (1 : Int32).toInt := ia_add (y := 1) et_73 (by omega) (by omega)
                  refine lv_iinc (v := t_73) (lv' := [(3, .int t_73), (2, .int 0), (4, .int 1), (0, .ref t), (1, .ref tp)]) hx hb dX4_readRule_136 hl (k := 2) rfl et_73 (by decide) rfl (fun ls hl => ?_)
                  refine lv_goto (tgt := 23) hx hb dX4_readRule_139 (by decide) ?_
                  exact ih23 (t_73, 0, y_66, y_67, y_68) (show 0 ≤ t_73.toInt ∧ t_73.toInt ≤ 13 ∧ 0 ≤ (0 : Int32).toInt ∧ (0 : Int32).toInt ≤ 1 ∧ 0 ≤ y_66.toInt ∧ y_66.toInt ≤ 400 ∧ 0 ≤ y_67.toInt ∧ y_67.toInt ≤ 400 ∧ y_66.toInt + y_67.toInt ≤ 400 from ⟨by omega, by omega, by omega, by omega, by omega, by omega, by omega, by omega, by omega⟩) (show (13 - t_73.toInt).toNat < (13 - x23_0.toInt).toNat by omega) H locs wt ls hT hW hP hD hS (lv_sub hl [0, 1, 3, 4] rfl)
                · rw [← Int32.toInt_inj] at c_72
                  refine lv_iconst (v := 1) hx hb dX4_readRule_130 (by decide +kernel) ?_
                  refine lv_goto (tgt := 135) hx hb dX4_readRule_131 (by decide) ?_
                  refine lv_istore_n (lv' := [(2, .int 1), (4, .int 1), (3, .int x23_0), (0, .ref t), (1, .ref tp)]) hx hb dX4_readRule_135 rfl hl (by decide) rfl (fun ls hl => ?_)
                  obtain ⟨t_74, et_74⟩ : ∃ zz_ : Int32, x23_0 + Int32.ofInt (1) = zz_ := ⟨_, rfl⟩
                  have ft_74 : t_74.toInt = x23_0.toInt + (1 : Int32).toInt := ia_add (y := 1) et_74 (by omega) (by omega)
                  refine lv_iinc (v := t_74) (lv' := [(3, .int t_74), (2, .int 1), (4, .int 1), (0, .ref t), (1, .ref tp)]) hx hb dX4_readRule_136 hl (k := 2) rfl et_74 (by decide) rfl (fun ls hl => ?_)
                  refine lv_goto (tgt := 23) hx hb dX4_readRule_139 (by decide) ?_
                  exact ih23 (t_74, 1, y_66, y_67, y_68) (show 0 ≤ t_74.toInt ∧ t_74.toInt ≤ 13 ∧ 0 ≤ (1 : Int32).toInt ∧ (1 : Int32).toInt ≤ 1 ∧ 0 ≤ y_66.toInt ∧ y_66.toInt ≤ 400 ∧ 0 ≤ y_67.toInt ∧ y_67.toInt ≤ 400 ∧ y_66.toInt + y_67.toInt ≤ 400 from ⟨by omega, by omega, by omega, by omega, by omega, by omega, by omega, by omega, by omega⟩) (show (13 - t_74.toInt).toNat < (13 - x23_0.toInt).toNat by omega) H locs wt ls hT hW hP hD hS (lv_sub hl [0, 1, 3, 4] rfl)

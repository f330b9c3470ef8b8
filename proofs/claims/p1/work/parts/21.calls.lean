theorem wd_549 : (Jvm.Cond.code ({ cls := "SilentSale", name := "feed", desc := "(IIIII)I" } : Jvm.MethodName) prog_1_method_2_code (6 : Nat) (Option.some Jvm.ClassFile.FieldType.int)) ∈ tb_L := tb_in (i := 549) (by decide +kernel) (by decide +kernel)
theorem wd_550 : (Jvm.Cond.methodLink "SilentSale" (106 : Nat) ({ cls := "SilentSale$Tape", name := "size", desc := "()I" } : Jvm.MethodName)) ∈ tb_L := tb_in (i := 550) (by decide +kernel) (by decide +kernel)
theorem wd_551 : (Jvm.Cond.instanceMethod ({ cls := "SilentSale$Tape", name := "size", desc := "()I" } : Jvm.MethodName)) ∈ tb_L := tb_in (i := 551) (by decide +kernel) (by decide +kernel)
theorem wd_552 : (Jvm.Cond.selects "SilentSale$Tape" ({ cls := "SilentSale$Tape", name := "size", desc := "()I" } : Jvm.MethodName) ({ cls := "SilentSale$Tape", name := "size", desc := "()I" } : Jvm.MethodName)) ∈ tb_L := tb_in (i := 552) (by decide +kernel) (by decide +kernel)
theorem wd_554 : (Jvm.Cond.methodLink "SilentSale" (110 : Nat) ({ cls := "SilentSale$Tape", name := "put", desc := "(I)V" } : Jvm.MethodName)) ∈ tb_L := tb_in (i := 554) (by decide +kernel) (by decide +kernel)
theorem wd_555 : (Jvm.Cond.instanceMethod ({ cls := "SilentSale$Tape", name := "put", desc := "(I)V" } : Jvm.MethodName)) ∈ tb_L := tb_in (i := 555) (by decide +kernel) (by decide +kernel)
theorem wd_556 : (Jvm.Cond.selects "SilentSale$Tape" ({ cls := "SilentSale$Tape", name := "put", desc := "(I)V" } : Jvm.MethodName) ({ cls := "SilentSale$Tape", name := "put", desc := "(I)V" } : Jvm.MethodName)) ∈ tb_L := tb_in (i := 556) (by decide +kernel) (by decide +kernel)
theorem dX11_feed_0 : decode cX11_feed 0 = .ok (.aload_n 0, 1) := by decide +kernel
theorem dX11_feed_1 : decode cX11_feed 1 = .ok (.getfield 10, 3) := by decide +kernel
theorem dX11_feed_4 : decode cX11_feed 4 = .ok (.invokevirtual 106, 3) := by decide +kernel
theorem dX11_feed_7 : decode cX11_feed 7 = .ok (.bipush 20, 2) := by decide +kernel
theorem dX11_feed_9 : decode cX11_feed 9 = .ok (.iadd, 1) := by decide +kernel
theorem dX11_feed_10 : decode cX11_feed 10 = .ok (.sipush 400, 3) := by decide +kernel
theorem dX11_feed_13 : decode cX11_feed 13 = .ok (.if_icmp .le 5, 3) := by decide +kernel
theorem dX11_feed_18 : decode cX11_feed 18 = .ok (.aload_n 0, 1) := by decide +kernel
theorem dX11_feed_19 : decode cX11_feed 19 = .ok (.getfield 10, 3) := by decide +kernel
theorem dX11_feed_22 : decode cX11_feed 22 = .ok (.iload_n 1, 1) := by decide +kernel
theorem dX11_feed_23 : decode cX11_feed 23 = .ok (.invokevirtual 110, 3) := by decide +kernel
theorem dX11_feed_26 : decode cX11_feed 26 = .ok (.aload_n 0, 1) := by decide +kernel
theorem dX11_feed_27 : decode cX11_feed 27 = .ok (.getfield 10, 3) := by decide +kernel
theorem dX11_feed_30 : decode cX11_feed 30 = .ok (.iload_n 2, 1) := by decide +kernel
theorem dX11_feed_31 : decode cX11_feed 31 = .ok (.invokevirtual 110, 3) := by decide +kernel
theorem dX11_feed_34 : decode cX11_feed 34 = .ok (.aload_n 0, 1) := by decide +kernel
theorem dX11_feed_35 : decode cX11_feed 35 = .ok (.getfield 10, 3) := by decide +kernel
theorem dX11_feed_38 : decode cX11_feed 38 = .ok (.iload_n 3, 1) := by decide +kernel
theorem dX11_feed_39 : decode cX11_feed 39 = .ok (.invokevirtual 110, 3) := by decide +kernel
theorem dX11_feed_42 : decode cX11_feed 42 = .ok (.aload_n 0, 1) := by decide +kernel
theorem dX11_feed_43 : decode cX11_feed 43 = .ok (.getfield 10, 3) := by decide +kernel
theorem dX11_feed_46 : decode cX11_feed 46 = .ok (.iload 4, 2) := by decide +kernel
theorem dX11_feed_48 : decode cX11_feed 48 = .ok (.invokevirtual 110, 3) := by decide +kernel
theorem dX11_feed_51 : decode cX11_feed 51 = .ok (.aload_n 0, 1) := by decide +kernel
theorem dX11_feed_52 : decode cX11_feed 52 = .ok (.getfield 10, 3) := by decide +kernel
theorem dX11_feed_55 : decode cX11_feed 55 = .ok (.iload 5, 2) := by decide +kernel
theorem dX11_feed_57 : decode cX11_feed 57 = .ok (.invokevirtual 110, 3) := by decide +kernel
theorem dX11_feed_60 : decode cX11_feed 60 = .ok (.aload_n 0, 1) := by decide +kernel
theorem dX11_feed_61 : decode cX11_feed 61 = .ok (.getfield 10, 3) := by decide +kernel
theorem dX11_feed_64 : decode cX11_feed 64 = .ok (.invokevirtual 106, 3) := by decide +kernel
theorem dX11_feed_67 : decode cX11_feed 67 = .ok (.ireturn, 1) := by decide +kernel
theorem wd_561 : (Jvm.Cond.code ({ cls := "SilentSale", name := "end", desc := "(I)I" } : Jvm.MethodName) prog_1_method_3_code (2 : Nat) (Option.some Jvm.ClassFile.FieldType.int)) ∈ tb_L := tb_in (i := 561) (by decide +kernel) (by decide +kernel)
theorem wd_562 : (Jvm.Cond.methodLink "SilentSale" (114 : Nat) ({ cls := "SilentSale$Tape", name := "cut", desc := "(I)V" } : Jvm.MethodName)) ∈ tb_L := tb_in (i := 562) (by decide +kernel) (by decide +kernel)
theorem wd_563 : (Jvm.Cond.instanceMethod ({ cls := "SilentSale$Tape", name := "cut", desc := "(I)V" } : Jvm.MethodName)) ∈ tb_L := tb_in (i := 563) (by decide +kernel) (by decide +kernel)
theorem wd_564 : (Jvm.Cond.selects "SilentSale$Tape" ({ cls := "SilentSale$Tape", name := "cut", desc := "(I)V" } : Jvm.MethodName) ({ cls := "SilentSale$Tape", name := "cut", desc := "(I)V" } : Jvm.MethodName)) ∈ tb_L := tb_in (i := 564) (by decide +kernel) (by decide +kernel)
theorem dX11_end_0 : decode cX11_end 0 = .ok (.iload_n 1, 1) := by decide +kernel
theorem dX11_end_1 : decode cX11_end 1 = .ok (.ifCond .lt 14, 3) := by decide +kernel
theorem dX11_end_4 : decode cX11_end 4 = .ok (.iload_n 1, 1) := by decide +kernel
theorem dX11_end_5 : decode cX11_end 5 = .ok (.aload_n 0, 1) := by decide +kernel
theorem dX11_end_6 : decode cX11_end 6 = .ok (.getfield 10, 3) := by decide +kernel
theorem dX11_end_9 : decode cX11_end 9 = .ok (.invokevirtual 106, 3) := by decide +kernel
theorem dX11_end_12 : decode cX11_end 12 = .ok (.if_icmp .le 5, 3) := by decide +kernel
theorem dX11_end_15 : decode cX11_end 15 = .ok (.iconst (-1), 1) := by decide +kernel
theorem dX11_end_16 : decode cX11_end 16 = .ok (.ireturn, 1) := by decide +kernel
theorem dX11_end_17 : decode cX11_end 17 = .ok (.aload_n 0, 1) := by decide +kernel
theorem dX11_end_18 : decode cX11_end 18 = .ok (.getfield 10, 3) := by decide +kernel
theorem dX11_end_21 : decode cX11_end 21 = .ok (.iload_n 1, 1) := by decide +kernel
theorem dX11_end_22 : decode cX11_end 22 = .ok (.invokevirtual 114, 3) := by decide +kernel
theorem dX11_end_25 : decode cX11_end 25 = .ok (.iload_n 1, 1) := by decide +kernel
theorem dX11_end_26 : decode cX11_end 26 = .ok (.ireturn, 1) := by decide +kernel
theorem wd_784 : (Jvm.Cond.code ({ cls := "SilentSale", name := "force", desc := "(I)I" } : Jvm.MethodName) prog_1_method_6_code (3 : Nat) (Option.some Jvm.ClassFile.FieldType.int)) ∈ tb_L := tb_in (i := 784) (by decide +kernel) (by decide +kernel)
theorem dX11_force_0 : decode cX11_force 0 = .ok (.iload_n 1, 1) := by decide +kernel
theorem dX11_force_1 : decode cX11_force 1 = .ok (.iconst (-1), 1) := by decide +kernel
theorem dX11_force_2 : decode cX11_force 2 = .ok (.if_icmp .lt 11, 3) := by decide +kernel
theorem dX11_force_5 : decode cX11_force 5 = .ok (.iload_n 1, 1) := by decide +kernel
theorem dX11_force_6 : decode cX11_force 6 = .ok (.aload_n 0, 1) := by decide +kernel
theorem dX11_force_7 : decode cX11_force 7 = .ok (.getfield 92, 3) := by decide +kernel
theorem dX11_force_10 : decode cX11_force 10 = .ok (.if_icmp .lt 6, 3) := by decide +kernel
theorem dX11_force_13 : decode cX11_force 13 = .ok (.bipush (-2), 2) := by decide +kernel
theorem dX11_force_15 : decode cX11_force 15 = .ok (.ireturn, 1) := by decide +kernel
theorem dX11_force_16 : decode cX11_force 16 = .ok (.aload_n 0, 1) := by decide +kernel
theorem dX11_force_17 : decode cX11_force 17 = .ok (.getfield 96, 3) := by decide +kernel
theorem dX11_force_20 : decode cX11_force 20 = .ok (.istore_n 2, 1) := by decide +kernel
theorem dX11_force_21 : decode cX11_force 21 = .ok (.aload_n 0, 1) := by decide +kernel
theorem dX11_force_22 : decode cX11_force 22 = .ok (.iload_n 1, 1) := by decide +kernel
theorem dX11_force_23 : decode cX11_force 23 = .ok (.putfield 96, 3) := by decide +kernel
theorem dX11_force_26 : decode cX11_force 26 = .ok (.iload_n 2, 1) := by decide +kernel
theorem dX11_force_27 : decode cX11_force 27 = .ok (.ireturn, 1) := by decide +kernel
theorem wd_788 : (Jvm.Cond.code ({ cls := "SilentSale", name := "bidder", desc := "(II)I" } : Jvm.MethodName) prog_1_method_7_code (3 : Nat) (Option.some Jvm.ClassFile.FieldType.int)) ∈ tb_L := tb_in (i := 788) (by decide +kernel) (by decide +kernel)
theorem dX11_bidder_0 : decode cX11_bidder 0 = .ok (.aload_n 0, 1) := by decide +kernel
theorem dX11_bidder_1 : decode cX11_bidder 1 = .ok (.iload_n 1, 1) := by decide +kernel
theorem dX11_bidder_2 : decode cX11_bidder 2 = .ok (.invokevirtual 136, 3) := by decide +kernel
theorem dX11_bidder_5 : decode cX11_bidder 5 = .ok (.ifCond .ne 7, 3) := by decide +kernel
theorem dX11_bidder_8 : decode cX11_bidder 8 = .ok (.sipush (-1000), 3) := by decide +kernel
theorem dX11_bidder_11 : decode cX11_bidder 11 = .ok (.ireturn, 1) := by decide +kernel
theorem wd_15 : (Jvm.Cond.selects "SilentSale" ({ cls := "SilentSale", name := "isLot", desc := "(I)Z" } : Jvm.MethodName) ({ cls := "SilentSale", name := "isLot", desc := "(I)Z" } : Jvm.MethodName)) ∈ tb_L := tb_in (i := 15) (by decide +kernel) (by decide +kernel)
theorem wd_819 : (Jvm.Cond.code ({ cls := "SilentSale", name := "lot", desc := "(II)I" } : Jvm.MethodName) prog_1_method_8_code (3 : Nat) (Option.some Jvm.ClassFile.FieldType.int)) ∈ tb_L := tb_in (i := 819) (by decide +kernel) (by decide +kernel)
theorem wd_820 : (Jvm.Cond.methodLink "SilentSale" (164 : Nat) ({ cls := "SilentSale", name := "isLot", desc := "(I)Z" } : Jvm.MethodName)) ∈ tb_L := tb_in (i := 820) (by decide +kernel) (by decide +kernel)
theorem wd_822 : (Jvm.Cond.instanceMethod ({ cls := "SilentSale", name := "isLot", desc := "(I)Z" } : Jvm.MethodName)) ∈ tb_L := tb_in (i := 822) (by decide +kernel) (by decide +kernel)
theorem dX11_lot_0 : decode cX11_lot 0 = .ok (.aload_n 0, 1) := by decide +kernel
theorem dX11_lot_1 : decode cX11_lot 1 = .ok (.iload_n 1, 1) := by decide +kernel
theorem dX11_lot_2 : decode cX11_lot 2 = .ok (.invokevirtual 164, 3) := by decide +kernel
theorem dX11_lot_5 : decode cX11_lot 5 = .ok (.ifCond .ne 6, 3) := by decide +kernel
theorem dX11_lot_8 : decode cX11_lot 8 = .ok (.bipush (-2), 2) := by decide +kernel
theorem dX11_lot_10 : decode cX11_lot 10 = .ok (.ireturn, 1) := by decide +kernel
theorem wd_831 : (Jvm.Cond.code ({ cls := "SilentSale", name := "worth", desc := "(II)I" } : Jvm.MethodName) prog_1_method_9_code (3 : Nat) (Option.some Jvm.ClassFile.FieldType.int)) ∈ tb_L := tb_in (i := 831) (by decide +kernel) (by decide +kernel)
theorem dX11_worth_0 : decode cX11_worth 0 = .ok (.aload_n 0, 1) := by decide +kernel
theorem dX11_worth_1 : decode cX11_worth 1 = .ok (.iload_n 1, 1) := by decide +kernel
theorem dX11_worth_2 : decode cX11_worth 2 = .ok (.invokevirtual 136, 3) := by decide +kernel
theorem dX11_worth_5 : decode cX11_worth 5 = .ok (.ifCond .eq 23, 3) := by decide +kernel
theorem dX11_worth_28 : decode cX11_worth 28 = .ok (.iconst (-1), 1) := by decide +kernel
theorem dX11_worth_29 : decode cX11_worth 29 = .ok (.ireturn, 1) := by decide +kernel
theorem wd_16 : (Jvm.Cond.selects "SilentSale" ({ cls := "SilentSale", name := "isTrick", desc := "(I)Z" } : Jvm.MethodName) ({ cls := "SilentSale", name := "isTrick", desc := "(I)Z" } : Jvm.MethodName)) ∈ tb_L := tb_in (i := 16) (by decide +kernel) (by decide +kernel)
theorem wd_836 : (Jvm.Cond.code ({ cls := "SilentSale", name := "trick", desc := "(II)I" } : Jvm.MethodName) prog_1_method_10_code (3 : Nat) (Option.some Jvm.ClassFile.FieldType.int)) ∈ tb_L := tb_in (i := 836) (by decide +kernel) (by decide +kernel)
theorem wd_837 : (Jvm.Cond.methodLink "SilentSale" (189 : Nat) ({ cls := "SilentSale", name := "isTrick", desc := "(I)Z" } : Jvm.MethodName)) ∈ tb_L := tb_in (i := 837) (by decide +kernel) (by decide +kernel)
theorem wd_839 : (Jvm.Cond.instanceMethod ({ cls := "SilentSale", name := "isTrick", desc := "(I)Z" } : Jvm.MethodName)) ∈ tb_L := tb_in (i := 839) (by decide +kernel) (by decide +kernel)
theorem dX11_trick_0 : decode cX11_trick 0 = .ok (.aload_n 0, 1) := by decide +kernel
theorem dX11_trick_1 : decode cX11_trick 1 = .ok (.iload_n 1, 1) := by decide +kernel
theorem dX11_trick_2 : decode cX11_trick 2 = .ok (.invokevirtual 189, 3) := by decide +kernel
theorem dX11_trick_5 : decode cX11_trick 5 = .ok (.ifCond .eq 12, 3) := by decide +kernel
theorem dX11_trick_17 : decode cX11_trick 17 = .ok (.iconst (-1), 1) := by decide +kernel
theorem dX11_trick_18 : decode cX11_trick 18 = .ok (.ireturn, 1) := by decide +kernel
theorem wd_846 : (Jvm.Cond.methodLink "SilentSale" (213 : Nat) ({ cls := "SilentSale$State", name := "lotsAt", desc := "(I)I" } : Jvm.MethodName)) ∈ tb_L := tb_in (i := 846) (by decide +kernel) (by decide +kernel)
theorem wd_847 : (Jvm.Cond.instanceMethod ({ cls := "SilentSale$State", name := "lotsAt", desc := "(I)I" } : Jvm.MethodName)) ∈ tb_L := tb_in (i := 847) (by decide +kernel) (by decide +kernel)
theorem wd_848 : (Jvm.Cond.selects "SilentSale$State" ({ cls := "SilentSale$State", name := "lotsAt", desc := "(I)I" } : Jvm.MethodName) ({ cls := "SilentSale$State", name := "lotsAt", desc := "(I)I" } : Jvm.MethodName)) ∈ tb_L := tb_in (i := 848) (by decide +kernel) (by decide +kernel)
theorem wd_857 : (Jvm.Cond.code ({ cls := "SilentSale", name := "minute", desc := "()I" } : Jvm.MethodName) prog_1_method_12_code (1 : Nat) (Option.some Jvm.ClassFile.FieldType.int)) ∈ tb_L := tb_in (i := 857) (by decide +kernel) (by decide +kernel)
theorem dX11_minute_0 : decode cX11_minute 0 = .ok (.aload_n 0, 1) := by decide +kernel
theorem dX11_minute_1 : decode cX11_minute 1 = .ok (.getfield 29, 3) := by decide +kernel
theorem dX11_minute_4 : decode cX11_minute 4 = .ok (.iconst 1, 1) := by decide +kernel
theorem dX11_minute_5 : decode cX11_minute 5 = .ok (.invokevirtual 213, 3) := by decide +kernel
theorem dX11_minute_8 : decode cX11_minute 8 = .ok (.ifCond .eq 16, 3) := by decide +kernel
theorem dX11_minute_24 : decode cX11_minute 24 = .ok (.iconst (-1), 1) := by decide +kernel
theorem dX11_minute_25 : decode cX11_minute 25 = .ok (.ireturn, 1) := by decide +kernel
theorem wd_938 : (Jvm.Cond.code ({ cls := "SilentSale", name := "sit", desc := "(II)I" } : Jvm.MethodName) prog_1_method_13_code (4 : Nat) (Option.some Jvm.ClassFile.FieldType.int)) ∈ tb_L := tb_in (i := 938) (by decide +kernel) (by decide +kernel)
theorem dX11_sit_0 : decode cX11_sit 0 = .ok (.aload_n 0, 1) := by decide +kernel
theorem dX11_sit_1 : decode cX11_sit 1 = .ok (.iload_n 1, 1) := by decide +kernel
theorem dX11_sit_2 : decode cX11_sit 2 = .ok (.invokevirtual 136, 3) := by decide +kernel
theorem dX11_sit_5 : decode cX11_sit 5 = .ok (.ifCond .eq 14, 3) := by decide +kernel
theorem dX11_sit_19 : decode cX11_sit 19 = .ok (.bipush (-2), 2) := by decide +kernel
theorem dX11_sit_21 : decode cX11_sit 21 = .ok (.ireturn, 1) := by decide +kernel
theorem wd_942 : (Jvm.Cond.code ({ cls := "SilentSale", name := "bell", desc := "(I)I" } : Jvm.MethodName) prog_1_method_14_code (2 : Nat) (Option.some Jvm.ClassFile.FieldType.int)) ∈ tb_L := tb_in (i := 942) (by decide +kernel) (by decide +kernel)
theorem dX11_bell_0 : decode cX11_bell 0 = .ok (.aload_n 0, 1) := by decide +kernel
theorem dX11_bell_1 : decode cX11_bell 1 = .ok (.iload_n 1, 1) := by decide +kernel
theorem dX11_bell_2 : decode cX11_bell 2 = .ok (.invokevirtual 164, 3) := by decide +kernel
theorem dX11_bell_5 : decode cX11_bell 5 = .ok (.ifCond .eq 26, 3) := by decide +kernel
theorem dX11_bell_31 : decode cX11_bell 31 = .ok (.iconst (-1), 1) := by decide +kernel
theorem dX11_bell_32 : decode cX11_bell 32 = .ok (.ireturn, 1) := by decide +kernel
theorem wd_954 : (Jvm.Cond.code ({ cls := "SilentSale", name := "play", desc := "(III)I" } : Jvm.MethodName) prog_1_method_15_code (4 : Nat) (Option.some Jvm.ClassFile.FieldType.int)) ∈ tb_L := tb_in (i := 954) (by decide +kernel) (by decide +kernel)
theorem dX11_play_0 : decode cX11_play 0 = .ok (.aload_n 0, 1) := by decide +kernel
theorem dX11_play_1 : decode cX11_play 1 = .ok (.iload_n 1, 1) := by decide +kernel
theorem dX11_play_2 : decode cX11_play 2 = .ok (.invokevirtual 136, 3) := by decide +kernel
theorem dX11_play_5 : decode cX11_play 5 = .ok (.ifCond .eq 24, 3) := by decide +kernel
theorem dX11_play_29 : decode cX11_play 29 = .ok (.iconst (-1), 1) := by decide +kernel
theorem dX11_play_30 : decode cX11_play 30 = .ok (.ireturn, 1) := by decide +kernel
theorem wd_967 : (Jvm.Cond.code ({ cls := "SilentSale", name := "fire", desc := "(I)I" } : Jvm.MethodName) prog_1_method_16_code (3 : Nat) (Option.some Jvm.ClassFile.FieldType.int)) ∈ tb_L := tb_in (i := 967) (by decide +kernel) (by decide +kernel)
theorem dX11_fire_0 : decode cX11_fire 0 = .ok (.aload_n 0, 1) := by decide +kernel
theorem dX11_fire_1 : decode cX11_fire 1 = .ok (.iload_n 1, 1) := by decide +kernel
theorem dX11_fire_2 : decode cX11_fire 2 = .ok (.invokevirtual 164, 3) := by decide +kernel
theorem dX11_fire_5 : decode cX11_fire 5 = .ok (.ifCond .eq 16, 3) := by decide +kernel
theorem dX11_fire_21 : decode cX11_fire 21 = .ok (.iconst (-1), 1) := by decide +kernel
theorem dX11_fire_22 : decode cX11_fire 22 = .ok (.ireturn, 1) := by decide +kernel
theorem wd_975 : (Jvm.Cond.code ({ cls := "SilentSale", name := "undo", desc := "()I" } : Jvm.MethodName) prog_1_method_17_code (1 : Nat) (Option.some Jvm.ClassFile.FieldType.int)) ∈ tb_L := tb_in (i := 975) (by decide +kernel) (by decide +kernel)
theorem wd_976 : (Jvm.Cond.methodLink "SilentSale" (247 : Nat) ({ cls := "SilentSale$Past", name := "takeBack", desc := "(LSilentSale$State;)Z" } : Jvm.MethodName)) ∈ tb_L := tb_in (i := 976) (by decide +kernel) (by decide +kernel)
theorem wd_977 : (Jvm.Cond.instanceMethod ({ cls := "SilentSale$Past", name := "takeBack", desc := "(LSilentSale$State;)Z" } : Jvm.MethodName)) ∈ tb_L := tb_in (i := 977) (by decide +kernel) (by decide +kernel)
theorem wd_978 : (Jvm.Cond.selects "SilentSale$Past" ({ cls := "SilentSale$Past", name := "takeBack", desc := "(LSilentSale$State;)Z" } : Jvm.MethodName) ({ cls := "SilentSale$Past", name := "takeBack", desc := "(LSilentSale$State;)Z" } : Jvm.MethodName)) ∈ tb_L := tb_in (i := 978) (by decide +kernel) (by decide +kernel)
theorem dX11_undo_0 : decode cX11_undo 0 = .ok (.aload_n 0, 1) := by decide +kernel
theorem dX11_undo_1 : decode cX11_undo 1 = .ok (.getfield 39, 3) := by decide +kernel
theorem dX11_undo_4 : decode cX11_undo 4 = .ok (.aload_n 0, 1) := by decide +kernel
theorem dX11_undo_5 : decode cX11_undo 5 = .ok (.getfield 29, 3) := by decide +kernel
theorem dX11_undo_8 : decode cX11_undo 8 = .ok (.invokevirtual 247, 3) := by decide +kernel
theorem dX11_undo_11 : decode cX11_undo 11 = .ok (.ifCond .eq 13, 3) := by decide +kernel
theorem dX11_undo_24 : decode cX11_undo 24 = .ok (.iconst (-1), 1) := by decide +kernel
theorem dX11_undo_25 : decode cX11_undo 25 = .ok (.ireturn, 1) := by decide +kernel
theorem wd_21 : (Jvm.Cond.selects "SilentSale" ({ cls := "SilentSale", name := "isTold", desc := "()Z" } : Jvm.MethodName) ({ cls := "SilentSale", name := "isTold", desc := "()Z" } : Jvm.MethodName)) ∈ tb_L := tb_in (i := 21) (by decide +kernel) (by decide +kernel)
theorem wd_983 : (Jvm.Cond.code ({ cls := "SilentSale", name := "ahead", desc := "(III)I" } : Jvm.MethodName) prog_1_method_18_code (4 : Nat) (Option.some Jvm.ClassFile.FieldType.int)) ∈ tb_L := tb_in (i := 983) (by decide +kernel) (by decide +kernel)
theorem wd_984 : (Jvm.Cond.methodLink "SilentSale" (251 : Nat) ({ cls := "SilentSale", name := "isTold", desc := "()Z" } : Jvm.MethodName)) ∈ tb_L := tb_in (i := 984) (by decide +kernel) (by decide +kernel)
theorem wd_986 : (Jvm.Cond.instanceMethod ({ cls := "SilentSale", name := "isTold", desc := "()Z" } : Jvm.MethodName)) ∈ tb_L := tb_in (i := 986) (by decide +kernel) (by decide +kernel)
theorem dX11_ahead_0 : decode cX11_ahead 0 = .ok (.aload_n 0, 1) := by decide +kernel
theorem dX11_ahead_1 : decode cX11_ahead 1 = .ok (.invokevirtual 251, 3) := by decide +kernel
theorem dX11_ahead_4 : decode cX11_ahead 4 = .ok (.ifCond .eq 23, 3) := by decide +kernel
theorem dX11_ahead_27 : decode cX11_ahead 27 = .ok (.sipush (-1000), 3) := by decide +kernel
theorem dX11_ahead_30 : decode cX11_ahead 30 = .ok (.ireturn, 1) := by decide +kernel
theorem wd_1002 : (Jvm.Cond.code ({ cls := "SilentSale", name := "ends", desc := "(II)I" } : Jvm.MethodName) prog_1_method_19_code (3 : Nat) (Option.some Jvm.ClassFile.FieldType.int)) ∈ tb_L := tb_in (i := 1002) (by decide +kernel) (by decide +kernel)
theorem dX11_ends_0 : decode cX11_ends 0 = .ok (.aload_n 0, 1) := by decide +kernel
theorem dX11_ends_1 : decode cX11_ends 1 = .ok (.iload_n 1, 1) := by decide +kernel
theorem dX11_ends_2 : decode cX11_ends 2 = .ok (.invokevirtual 164, 3) := by decide +kernel
theorem dX11_ends_5 : decode cX11_ends 5 = .ok (.ifCond .eq 25, 3) := by decide +kernel
theorem dX11_ends_30 : decode cX11_ends 30 = .ok (.bipush (-2), 2) := by decide +kernel
theorem dX11_ends_32 : decode cX11_ends 32 = .ok (.ireturn, 1) := by decide +kernel
theorem wd_23 : (Jvm.Cond.selects "SilentSale" ({ cls := "SilentSale", name := "roomOf", desc := "(I)I" } : Jvm.MethodName) ({ cls := "SilentSale", name := "roomOf", desc := "(I)I" } : Jvm.MethodName)) ∈ tb_L := tb_in (i := 23) (by decide +kernel) (by decide +kernel)
theorem wd_1010 : (Jvm.Cond.code ({ cls := "SilentSale", name := "hold", desc := "(II)I" } : Jvm.MethodName) prog_1_method_20_code (6 : Nat) (Option.some Jvm.ClassFile.FieldType.int)) ∈ tb_L := tb_in (i := 1010) (by decide +kernel) (by decide +kernel)
theorem wd_1011 : (Jvm.Cond.methodLink "SilentSale" (265 : Nat) ({ cls := "SilentSale", name := "roomOf", desc := "(I)I" } : Jvm.MethodName)) ∈ tb_L := tb_in (i := 1011) (by decide +kernel) (by decide +kernel)
theorem wd_1013 : (Jvm.Cond.instanceMethod ({ cls := "SilentSale", name := "roomOf", desc := "(I)I" } : Jvm.MethodName)) ∈ tb_L := tb_in (i := 1013) (by decide +kernel) (by decide +kernel)
theorem dX11_hold_0 : decode cX11_hold 0 = .ok (.aload_n 0, 1) := by decide +kernel
theorem dX11_hold_1 : decode cX11_hold 1 = .ok (.iload_n 1, 1) := by decide +kernel
theorem dX11_hold_2 : decode cX11_hold 2 = .ok (.invokevirtual 265, 3) := by decide +kernel
theorem dX11_hold_5 : decode cX11_hold 5 = .ok (.istore_n 3, 1) := by decide +kernel
theorem dX11_hold_6 : decode cX11_hold 6 = .ok (.iload_n 3, 1) := by decide +kernel
theorem dX11_hold_7 : decode cX11_hold 7 = .ok (.iconst (-1), 1) := by decide +kernel
theorem dX11_hold_8 : decode cX11_hold 8 = .ok (.if_icmp .eq 12, 3) := by decide +kernel
theorem dX11_hold_20 : decode cX11_hold 20 = .ok (.sipush (-1000), 3) := by decide +kernel
theorem dX11_hold_23 : decode cX11_hold 23 = .ok (.ireturn, 1) := by decide +kernel
theorem wd_1027 : (Jvm.Cond.code ({ cls := "SilentSale", name := "rests", desc := "(IIII)I" } : Jvm.MethodName) prog_1_method_21_code (10 : Nat) (Option.some Jvm.ClassFile.FieldType.int)) ∈ tb_L := tb_in (i := 1027) (by decide +kernel) (by decide +kernel)
theorem dX11_rests_0 : decode cX11_rests 0 = .ok (.aload_n 0, 1) := by decide +kernel
theorem dX11_rests_1 : decode cX11_rests 1 = .ok (.iload_n 1, 1) := by decide +kernel
theorem dX11_rests_2 : decode cX11_rests 2 = .ok (.invokevirtual 136, 3) := by decide +kernel
theorem dX11_rests_5 : decode cX11_rests 5 = .ok (.ifCond .eq 35, 3) := by decide +kernel
theorem dX11_rests_40 : decode cX11_rests 40 = .ok (.iconst (-1), 1) := by decide +kernel
theorem dX11_rests_41 : decode cX11_rests 41 = .ok (.ireturn, 1) := by decide +kernel
theorem wd_1037 : (Jvm.Cond.code ({ cls := "SilentSale", name := "seats", desc := "(I)I" } : Jvm.MethodName) prog_1_method_22_code (2 : Nat) (Option.some Jvm.ClassFile.FieldType.int)) ∈ tb_L := tb_in (i := 1037) (by decide +kernel) (by decide +kernel)
theorem dX11_seats_0 : decode cX11_seats 0 = .ok (.aload_n 0, 1) := by decide +kernel
theorem dX11_seats_1 : decode cX11_seats 1 = .ok (.invokevirtual 251, 3) := by decide +kernel
theorem dX11_seats_4 : decode cX11_seats 4 = .ok (.ifCond .eq 12, 3) := by decide +kernel
theorem dX11_seats_16 : decode cX11_seats 16 = .ok (.sipush (-1000), 3) := by decide +kernel
theorem dX11_seats_19 : decode cX11_seats 19 = .ok (.ireturn, 1) := by decide +kernel
theorem wd_1100 : (Jvm.Cond.code ({ cls := "SilentSale", name := "tricks", desc := "(II)I" } : Jvm.MethodName) prog_1_method_23_code (4 : Nat) (Option.some Jvm.ClassFile.FieldType.int)) ∈ tb_L := tb_in (i := 1100) (by decide +kernel) (by decide +kernel)
theorem dX11_tricks_0 : decode cX11_tricks 0 = .ok (.aload_n 0, 1) := by decide +kernel
theorem dX11_tricks_1 : decode cX11_tricks 1 = .ok (.iload_n 1, 1) := by decide +kernel
theorem dX11_tricks_2 : decode cX11_tricks 2 = .ok (.invokevirtual 265, 3) := by decide +kernel
theorem dX11_tricks_5 : decode cX11_tricks 5 = .ok (.istore_n 3, 1) := by decide +kernel
theorem dX11_tricks_6 : decode cX11_tricks 6 = .ok (.iload_n 3, 1) := by decide +kernel
theorem dX11_tricks_7 : decode cX11_tricks 7 = .ok (.iconst (-1), 1) := by decide +kernel
theorem dX11_tricks_8 : decode cX11_tricks 8 = .ok (.if_icmp .eq 12, 3) := by decide +kernel
theorem dX11_tricks_20 : decode cX11_tricks 20 = .ok (.bipush (-4), 2) := by decide +kernel
theorem dX11_tricks_22 : decode cX11_tricks 22 = .ok (.ireturn, 1) := by decide +kernel
theorem wd_24 : (Jvm.Cond.selects "SilentSale" ({ cls := "SilentSale", name := "roomOfAll", desc := "(I)I" } : Jvm.MethodName) ({ cls := "SilentSale", name := "roomOfAll", desc := "(I)I" } : Jvm.MethodName)) ∈ tb_L := tb_in (i := 24) (by decide +kernel) (by decide +kernel)
theorem wd_141 : (Jvm.Cond.initialized "java/lang/Integer") ∈ tb_L := tb_in (i := 141) (by decide +kernel) (by decide +kernel)
theorem wd_895 : (Jvm.Cond.static ({ cls := "java/lang/Integer", name := "bitCount", desc := "(I)I" } : Jvm.MethodName)) ∈ tb_L := tb_in (i := 895) (by decide +kernel) (by decide +kernel)
theorem wd_1015 : (Jvm.Cond.methodLink "SilentSale" (303 : Nat) ({ cls := "SilentSale", name := "roomOfAll", desc := "(I)I" } : Jvm.MethodName)) ∈ tb_L := tb_in (i := 1015) (by decide +kernel) (by decide +kernel)
theorem wd_1017 : (Jvm.Cond.instanceMethod ({ cls := "SilentSale", name := "roomOfAll", desc := "(I)I" } : Jvm.MethodName)) ∈ tb_L := tb_in (i := 1017) (by decide +kernel) (by decide +kernel)
theorem wd_1127 : (Jvm.Cond.code ({ cls := "SilentSale", name := "ring", desc := "(II)I" } : Jvm.MethodName) prog_1_method_24_code (5 : Nat) (Option.some Jvm.ClassFile.FieldType.int)) ∈ tb_L := tb_in (i := 1127) (by decide +kernel) (by decide +kernel)
theorem wd_1128 : (Jvm.Cond.methodLink "SilentSale" (298 : Nat) ({ cls := "java/lang/Integer", name := "bitCount", desc := "(I)I" } : Jvm.MethodName)) ∈ tb_L := tb_in (i := 1128) (by decide +kernel) (by decide +kernel)
theorem dX11_ring_0 : decode cX11_ring 0 = .ok (.iload_n 1, 1) := by decide +kernel
theorem dX11_ring_1 : decode cX11_ring 1 = .ok (.invokestatic 298, 3) := by decide +kernel
theorem dX11_ring_4 : decode cX11_ring 4 = .ok (.iconst 2, 1) := by decide +kernel
theorem dX11_ring_5 : decode cX11_ring 5 = .ok (.if_icmp .ge 7, 3) := by decide +kernel
theorem dX11_ring_8 : decode cX11_ring 8 = .ok (.iconst (-1), 1) := by decide +kernel
theorem dX11_ring_9 : decode cX11_ring 9 = .ok (.goto 8, 3) := by decide +kernel
theorem dX11_ring_12 : decode cX11_ring 12 = .ok (.aload_n 0, 1) := by decide +kernel
theorem dX11_ring_13 : decode cX11_ring 13 = .ok (.iload_n 1, 1) := by decide +kernel
theorem dX11_ring_14 : decode cX11_ring 14 = .ok (.invokevirtual 303, 3) := by decide +kernel
theorem dX11_ring_17 : decode cX11_ring 17 = .ok (.istore_n 3, 1) := by decide +kernel
theorem dX11_ring_18 : decode cX11_ring 18 = .ok (.iload_n 3, 1) := by decide +kernel
theorem dX11_ring_19 : decode cX11_ring 19 = .ok (.iconst (-1), 1) := by decide +kernel
theorem dX11_ring_20 : decode cX11_ring 20 = .ok (.if_icmp .eq 12, 3) := by decide +kernel
theorem dX11_ring_32 : decode cX11_ring 32 = .ok (.sipush (-1000), 3) := by decide +kernel
theorem dX11_ring_35 : decode cX11_ring 35 = .ok (.ireturn, 1) := by decide +kernel
theorem wd_1148 : (Jvm.Cond.code ({ cls := "SilentSale", name := "breath", desc := "(I)I" } : Jvm.MethodName) prog_1_method_25_code (4 : Nat) (Option.some Jvm.ClassFile.FieldType.int)) ∈ tb_L := tb_in (i := 1148) (by decide +kernel) (by decide +kernel)
theorem dX11_breath_0 : decode cX11_breath 0 = .ok (.aload_n 0, 1) := by decide +kernel
theorem dX11_breath_1 : decode cX11_breath 1 = .ok (.iload_n 1, 1) := by decide +kernel
theorem dX11_breath_2 : decode cX11_breath 2 = .ok (.invokevirtual 265, 3) := by decide +kernel
theorem dX11_breath_5 : decode cX11_breath 5 = .ok (.istore_n 2, 1) := by decide +kernel
theorem dX11_breath_6 : decode cX11_breath 6 = .ok (.iload_n 2, 1) := by decide +kernel
theorem dX11_breath_7 : decode cX11_breath 7 = .ok (.iconst (-1), 1) := by decide +kernel
theorem dX11_breath_8 : decode cX11_breath 8 = .ok (.if_icmp .ne 5, 3) := by decide +kernel
theorem dX11_breath_11 : decode cX11_breath 11 = .ok (.iconst (-1), 1) := by decide +kernel
theorem dX11_breath_12 : decode cX11_breath 12 = .ok (.ireturn, 1) := by decide +kernel
theorem wd_695 : (Jvm.Cond.methodLink "SilentSale" (124 : Nat) ({ cls := "SilentSale$Logs", name := "clear", desc := "()V" } : Jvm.MethodName)) ∈ tb_L := tb_in (i := 695) (by decide +kernel) (by decide +kernel)
theorem wd_696 : (Jvm.Cond.instanceMethod ({ cls := "SilentSale$Logs", name := "clear", desc := "()V" } : Jvm.MethodName)) ∈ tb_L := tb_in (i := 696) (by decide +kernel) (by decide +kernel)
theorem wd_697 : (Jvm.Cond.selects "SilentSale$Logs" ({ cls := "SilentSale$Logs", name := "clear", desc := "()V" } : Jvm.MethodName) ({ cls := "SilentSale$Logs", name := "clear", desc := "()V" } : Jvm.MethodName)) ∈ tb_L := tb_in (i := 697) (by decide +kernel) (by decide +kernel)
theorem wd_1153 : (Jvm.Cond.code ({ cls := "SilentSale", name := "log", desc := "(III)I" } : Jvm.MethodName) prog_1_method_26_code (4 : Nat) (Option.some Jvm.ClassFile.FieldType.int)) ∈ tb_L := tb_in (i := 1153) (by decide +kernel) (by decide +kernel)
theorem dX11_log_0 : decode cX11_log 0 = .ok (.iload_n 1, 1) := by decide +kernel
theorem dX11_log_1 : decode cX11_log 1 = .ok (.iconst (-1), 1) := by decide +kernel
theorem dX11_log_2 : decode cX11_log 2 = .ok (.if_icmp .ne 12, 3) := by decide +kernel
theorem dX11_log_5 : decode cX11_log 5 = .ok (.aload_n 0, 1) := by decide +kernel
theorem dX11_log_6 : decode cX11_log 6 = .ok (.getfield 46, 3) := by decide +kernel
theorem dX11_log_9 : decode cX11_log 9 = .ok (.invokevirtual 124, 3) := by decide +kernel
theorem dX11_log_12 : decode cX11_log 12 = .ok (.iconst 0, 1) := by decide +kernel
theorem dX11_log_13 : decode cX11_log 13 = .ok (.ireturn, 1) := by decide +kernel
theorem dX11_log_14 : decode cX11_log 14 = .ok (.aload_n 0, 1) := by decide +kernel
theorem dX11_log_15 : decode cX11_log 15 = .ok (.iload_n 1, 1) := by decide +kernel
theorem dX11_log_16 : decode cX11_log 16 = .ok (.invokevirtual 164, 3) := by decide +kernel
theorem dX11_log_19 : decode cX11_log 19 = .ok (.ifCond .eq 27, 3) := by decide +kernel
theorem dX11_log_46 : decode cX11_log 46 = .ok (.bipush (-2), 2) := by decide +kernel
theorem dX11_log_48 : decode cX11_log 48 = .ok (.ireturn, 1) := by decide +kernel
theorem wd_1161 : (Jvm.Cond.code ({ cls := "SilentSale", name := "ruled", desc := "(I)I" } : Jvm.MethodName) prog_1_method_27_code (2 : Nat) (Option.some Jvm.ClassFile.FieldType.int)) ∈ tb_L := tb_in (i := 1161) (by decide +kernel) (by decide +kernel)
theorem dX11_ruled_0 : decode cX11_ruled 0 = .ok (.aload_n 0, 1) := by decide +kernel
theorem dX11_ruled_1 : decode cX11_ruled 1 = .ok (.invokevirtual 251, 3) := by decide +kernel
theorem dX11_ruled_4 : decode cX11_ruled 4 = .ok (.ifCond .eq 12, 3) := by decide +kernel
theorem dX11_ruled_16 : decode cX11_ruled 16 = .ok (.bipush (-3), 2) := by decide +kernel
theorem dX11_ruled_18 : decode cX11_ruled 18 = .ok (.ireturn, 1) := by decide +kernel
theorem wd_1186 : (Jvm.Cond.code ({ cls := "SilentSale", name := "look", desc := "(I)I" } : Jvm.MethodName) prog_1_method_28_code (4 : Nat) (Option.some Jvm.ClassFile.FieldType.int)) ∈ tb_L := tb_in (i := 1186) (by decide +kernel) (by decide +kernel)
theorem dX11_look_0 : decode cX11_look 0 = .ok (.aload_n 0, 1) := by decide +kernel
theorem dX11_look_1 : decode cX11_look 1 = .ok (.invokevirtual 251, 3) := by decide +kernel
theorem dX11_look_4 : decode cX11_look 4 = .ok (.ifCond .eq 12, 3) := by decide +kernel
theorem dX11_look_16 : decode cX11_look 16 = .ok (.iconst (-1), 1) := by decide +kernel
theorem dX11_look_17 : decode cX11_look 17 = .ok (.ireturn, 1) := by decide +kernel
theorem wd_1200 : (Jvm.Cond.code ({ cls := "SilentSale", name := "seed", desc := "(I)I" } : Jvm.MethodName) prog_1_method_29_code (3 : Nat) (Option.some Jvm.ClassFile.FieldType.int)) ∈ tb_L := tb_in (i := 1200) (by decide +kernel) (by decide +kernel)
theorem dX11_seed_0 : decode cX11_seed 0 = .ok (.iload_n 1, 1) := by decide +kernel
theorem dX11_seed_1 : decode cX11_seed 1 = .ok (.ifCond .ge 5, 3) := by decide +kernel
theorem dX11_seed_4 : decode cX11_seed 4 = .ok (.iconst (-1), 1) := by decide +kernel
theorem dX11_seed_5 : decode cX11_seed 5 = .ok (.ireturn, 1) := by decide +kernel
theorem dX11_seed_6 : decode cX11_seed 6 = .ok (.aload_n 0, 1) := by decide +kernel
theorem dX11_seed_7 : decode cX11_seed 7 = .ok (.getfield 99, 3) := by decide +kernel
theorem dX11_seed_10 : decode cX11_seed 10 = .ok (.istore_n 2, 1) := by decide +kernel
theorem dX11_seed_11 : decode cX11_seed 11 = .ok (.aload_n 0, 1) := by decide +kernel
theorem dX11_seed_12 : decode cX11_seed 12 = .ok (.iload_n 1, 1) := by decide +kernel
theorem dX11_seed_13 : decode cX11_seed 13 = .ok (.putfield 99, 3) := by decide +kernel
theorem dX11_seed_16 : decode cX11_seed 16 = .ok (.iload_n 2, 1) := by decide +kernel
theorem dX11_seed_17 : decode cX11_seed 17 = .ok (.ireturn, 1) := by decide +kernel
theorem wd_1204 : (Jvm.Cond.code ({ cls := "SilentSale", name := "coughs", desc := "(IIII)I" } : Jvm.MethodName) prog_1_method_30_code (8 : Nat) (Option.some Jvm.ClassFile.FieldType.int)) ∈ tb_L := tb_in (i := 1204) (by decide +kernel) (by decide +kernel)
theorem dX11_coughs_0 : decode cX11_coughs 0 = .ok (.aload_n 0, 1) := by decide +kernel
theorem dX11_coughs_1 : decode cX11_coughs 1 = .ok (.invokevirtual 251, 3) := by decide +kernel
theorem dX11_coughs_4 : decode cX11_coughs 4 = .ok (.ifCond .eq 25, 3) := by decide +kernel
theorem dX11_coughs_29 : decode cX11_coughs 29 = .ok (.iconst (-1), 1) := by decide +kernel
theorem dX11_coughs_30 : decode cX11_coughs 30 = .ok (.ireturn, 1) := by decide +kernel
theorem wd_268 : (Jvm.Cond.fieldLink "SilentSale" (207 : Nat) "SilentSale$State" "minutes" "I") ∈ tb_L := tb_in (i := 268) (by decide +kernel) (by decide +kernel)
theorem wd_302 : (Jvm.Cond.fieldLink "SilentSale" (221 : Nat) "SilentSale$Past" "size" "I") ∈ tb_L := tb_in (i := 302) (by decide +kernel) (by decide +kernel)
theorem wd_320 : (Jvm.Cond.fieldLink "SilentSale" (219 : Nat) "SilentSale$Logs" "size" "I") ∈ tb_L := tb_in (i := 320) (by decide +kernel) (by decide +kernel)
theorem wd_798 : (Jvm.Cond.instanceMethod ({ cls := "SilentSale$State", name := "silentOnes", desc := "()I" } : Jvm.MethodName)) ∈ tb_L := tb_in (i := 798) (by decide +kernel) (by decide +kernel)
theorem wd_799 : (Jvm.Cond.selects "SilentSale$State" ({ cls := "SilentSale$State", name := "silentOnes", desc := "()I" } : Jvm.MethodName) ({ cls := "SilentSale$State", name := "silentOnes", desc := "()I" } : Jvm.MethodName)) ∈ tb_L := tb_in (i := 799) (by decide +kernel) (by decide +kernel)
theorem wd_844 : (Jvm.Cond.code ({ cls := "SilentSale", name := "count", desc := "(I)I" } : Jvm.MethodName) prog_1_method_11_code (2 : Nat) (Option.some Jvm.ClassFile.FieldType.int)) ∈ tb_L := tb_in (i := 844) (by decide +kernel) (by decide +kernel)
theorem wd_845 : (Jvm.Cond.methodLink "SilentSale" (210 : Nat) ({ cls := "SilentSale$State", name := "silentOnes", desc := "()I" } : Jvm.MethodName)) ∈ tb_L := tb_in (i := 845) (by decide +kernel) (by decide +kernel)
theorem wd_850 : (Jvm.Cond.methodLink "SilentSale" (216 : Nat) ({ cls := "SilentSale$State", name := "allPaid", desc := "()I" } : Jvm.MethodName)) ∈ tb_L := tb_in (i := 850) (by decide +kernel) (by decide +kernel)
theorem wd_851 : (Jvm.Cond.instanceMethod ({ cls := "SilentSale$State", name := "allPaid", desc := "()I" } : Jvm.MethodName)) ∈ tb_L := tb_in (i := 851) (by decide +kernel) (by decide +kernel)
theorem wd_852 : (Jvm.Cond.selects "SilentSale$State" ({ cls := "SilentSale$State", name := "allPaid", desc := "()I" } : Jvm.MethodName) ({ cls := "SilentSale$State", name := "allPaid", desc := "()I" } : Jvm.MethodName)) ∈ tb_L := tb_in (i := 852) (by decide +kernel) (by decide +kernel)
theorem dX11_count_0 : decode cX11_count 0 = .ok (.iload_n 1, 1) := by decide +kernel
theorem dX11_count_1 : decode cX11_count 1 = .ok (.tableswitch 188 0 14 #[75, 83, 91, 99, 107, 112, 117, 125, 133, 142, 151, 159, 167, 175, 180], 75) := by decide +kernel
theorem dX11_count_76 : decode cX11_count 76 = .ok (.aload_n 0, 1) := by decide +kernel
theorem dX11_count_77 : decode cX11_count 77 = .ok (.getfield 19, 3) := by decide +kernel
theorem dX11_count_80 : decode cX11_count 80 = .ok (.getfield 198, 3) := by decide +kernel
theorem dX11_count_83 : decode cX11_count 83 = .ok (.ireturn, 1) := by decide +kernel
theorem dX11_count_84 : decode cX11_count 84 = .ok (.aload_n 0, 1) := by decide +kernel
theorem dX11_count_85 : decode cX11_count 85 = .ok (.getfield 19, 3) := by decide +kernel
theorem dX11_count_88 : decode cX11_count 88 = .ok (.getfield 201, 3) := by decide +kernel
theorem dX11_count_91 : decode cX11_count 91 = .ok (.ireturn, 1) := by decide +kernel
theorem dX11_count_92 : decode cX11_count 92 = .ok (.aload_n 0, 1) := by decide +kernel
theorem dX11_count_93 : decode cX11_count 93 = .ok (.getfield 19, 3) := by decide +kernel
theorem dX11_count_96 : decode cX11_count 96 = .ok (.getfield 130, 3) := by decide +kernel
theorem dX11_count_99 : decode cX11_count 99 = .ok (.ireturn, 1) := by decide +kernel
theorem dX11_count_100 : decode cX11_count 100 = .ok (.aload_n 0, 1) := by decide +kernel
theorem dX11_count_101 : decode cX11_count 101 = .ok (.getfield 19, 3) := by decide +kernel
theorem dX11_count_104 : decode cX11_count 104 = .ok (.getfield 204, 3) := by decide +kernel
theorem dX11_count_107 : decode cX11_count 107 = .ok (.ireturn, 1) := by decide +kernel
theorem dX11_count_108 : decode cX11_count 108 = .ok (.aload_n 0, 1) := by decide +kernel
theorem dX11_count_109 : decode cX11_count 109 = .ok (.getfield 92, 3) := by decide +kernel
theorem dX11_count_112 : decode cX11_count 112 = .ok (.ireturn, 1) := by decide +kernel
theorem dX11_count_113 : decode cX11_count 113 = .ok (.aload_n 0, 1) := by decide +kernel
theorem dX11_count_114 : decode cX11_count 114 = .ok (.getfield 96, 3) := by decide +kernel
theorem dX11_count_117 : decode cX11_count 117 = .ok (.ireturn, 1) := by decide +kernel
theorem dX11_count_118 : decode cX11_count 118 = .ok (.aload_n 0, 1) := by decide +kernel
theorem dX11_count_119 : decode cX11_count 119 = .ok (.getfield 29, 3) := by decide +kernel
theorem dX11_count_122 : decode cX11_count 122 = .ok (.getfield 207, 3) := by decide +kernel
theorem dX11_count_125 : decode cX11_count 125 = .ok (.ireturn, 1) := by decide +kernel
theorem dX11_count_126 : decode cX11_count 126 = .ok (.aload_n 0, 1) := by decide +kernel
theorem dX11_count_127 : decode cX11_count 127 = .ok (.getfield 29, 3) := by decide +kernel
theorem dX11_count_130 : decode cX11_count 130 = .ok (.invokevirtual 210, 3) := by decide +kernel
theorem dX11_count_133 : decode cX11_count 133 = .ok (.ireturn, 1) := by decide +kernel
theorem dX11_count_134 : decode cX11_count 134 = .ok (.aload_n 0, 1) := by decide +kernel
theorem dX11_count_135 : decode cX11_count 135 = .ok (.getfield 29, 3) := by decide +kernel
theorem dX11_count_138 : decode cX11_count 138 = .ok (.iconst 1, 1) := by decide +kernel
theorem dX11_count_139 : decode cX11_count 139 = .ok (.invokevirtual 213, 3) := by decide +kernel
theorem dX11_count_142 : decode cX11_count 142 = .ok (.ireturn, 1) := by decide +kernel
theorem dX11_count_143 : decode cX11_count 143 = .ok (.aload_n 0, 1) := by decide +kernel
theorem dX11_count_144 : decode cX11_count 144 = .ok (.getfield 29, 3) := by decide +kernel
theorem dX11_count_147 : decode cX11_count 147 = .ok (.iconst 2, 1) := by decide +kernel
theorem dX11_count_148 : decode cX11_count 148 = .ok (.invokevirtual 213, 3) := by decide +kernel
theorem dX11_count_151 : decode cX11_count 151 = .ok (.ireturn, 1) := by decide +kernel
theorem dX11_count_152 : decode cX11_count 152 = .ok (.aload_n 0, 1) := by decide +kernel
theorem dX11_count_153 : decode cX11_count 153 = .ok (.getfield 29, 3) := by decide +kernel
theorem dX11_count_156 : decode cX11_count 156 = .ok (.invokevirtual 216, 3) := by decide +kernel
theorem dX11_count_159 : decode cX11_count 159 = .ok (.ireturn, 1) := by decide +kernel
theorem dX11_count_160 : decode cX11_count 160 = .ok (.aload_n 0, 1) := by decide +kernel
theorem dX11_count_161 : decode cX11_count 161 = .ok (.getfield 46, 3) := by decide +kernel
theorem dX11_count_164 : decode cX11_count 164 = .ok (.getfield 219, 3) := by decide +kernel
theorem dX11_count_167 : decode cX11_count 167 = .ok (.ireturn, 1) := by decide +kernel
theorem dX11_count_168 : decode cX11_count 168 = .ok (.aload_n 0, 1) := by decide +kernel
theorem dX11_count_169 : decode cX11_count 169 = .ok (.getfield 39, 3) := by decide +kernel
theorem dX11_count_172 : decode cX11_count 172 = .ok (.getfield 221, 3) := by decide +kernel
theorem dX11_count_175 : decode cX11_count 175 = .ok (.ireturn, 1) := by decide +kernel
theorem dX11_count_176 : decode cX11_count 176 = .ok (.aload_n 0, 1) := by decide +kernel
theorem dX11_count_177 : decode cX11_count 177 = .ok (.getfield 99, 3) := by decide +kernel
theorem dX11_count_180 : decode cX11_count 180 = .ok (.ireturn, 1) := by decide +kernel
theorem dX11_count_181 : decode cX11_count 181 = .ok (.aload_n 0, 1) := by decide +kernel
theorem dX11_count_182 : decode cX11_count 182 = .ok (.getfield 10, 3) := by decide +kernel
theorem dX11_count_185 : decode cX11_count 185 = .ok (.invokevirtual 106, 3) := by decide +kernel
theorem dX11_count_188 : decode cX11_count 188 = .ok (.ireturn, 1) := by decide +kernel
theorem dX11_count_189 : decode cX11_count 189 = .ok (.iconst (-1), 1) := by decide +kernel
theorem dX11_count_190 : decode cX11_count 190 = .ok (.ireturn, 1) := by decide +kernel
theorem wd_383 : (Jvm.Cond.fieldLink "SilentSale" (359 : Nat) "SilentSale$Image" "made" "Z") ∈ tb_L := tb_in (i := 383) (by decide +kernel) (by decide +kernel)
theorem wd_1241 : (Jvm.Cond.code ({ cls := "SilentSale", name := "back", desc := "(I)I" } : Jvm.MethodName) prog_1_method_32_code (2 : Nat) (Option.some Jvm.ClassFile.FieldType.int)) ∈ tb_L := tb_in (i := 1241) (by decide +kernel) (by decide +kernel)
theorem dX11_back_0 : decode cX11_back 0 = .ok (.iload_n 1, 1) := by decide +kernel
theorem dX11_back_1 : decode cX11_back 1 = .ok (.ifCond .lt 20, 3) := by decide +kernel
theorem dX11_back_4 : decode cX11_back 4 = .ok (.iload_n 1, 1) := by decide +kernel
theorem dX11_back_5 : decode cX11_back 5 = .ok (.iconst 4, 1) := by decide +kernel
theorem dX11_back_6 : decode cX11_back 6 = .ok (.if_icmp .ge 15, 3) := by decide +kernel
theorem dX11_back_9 : decode cX11_back 9 = .ok (.aload_n 0, 1) := by decide +kernel
theorem dX11_back_10 : decode cX11_back 10 = .ok (.getfield 59, 3) := by decide +kernel
theorem dX11_back_13 : decode cX11_back 13 = .ok (.iload_n 1, 1) := by decide +kernel
theorem dX11_back_14 : decode cX11_back 14 = .ok (.aaload, 1) := by decide +kernel
theorem dX11_back_15 : decode cX11_back 15 = .ok (.getfield 359, 3) := by decide +kernel
theorem dX11_back_18 : decode cX11_back 18 = .ok (.ifCond .ne 5, 3) := by decide +kernel
theorem dX11_back_21 : decode cX11_back 21 = .ok (.iconst (-1), 1) := by decide +kernel
theorem dX11_back_22 : decode cX11_back 22 = .ok (.ireturn, 1) := by decide +kernel
set_option maxHeartbeats 4000000 in
set_option maxRecDepth 100000 in
theorem c_S_feed (l : Launch) (G : gg_T) (sz : Nat) (h0 : Nat) (ad : Nat → Nat) (a : Int32) (b : Int32) (c1 : Int32) (d1 : Int32) (e1 : Int32) : Met l yX11_feed (ts_L yX11_feed cX11_feed 6 (some .int)) ({ frames := 1, cells := 0, slots := 0, locals := 22 }) (gc_P G [(h0, .inr (11, [.ref (ad 0), .ref (ad 1), .ref (ad 2), .ref (ad 3), .ref (ad 4), .ref (ad 5), .ref (ad 6), .ref (ad 7), .ref (ad 8), .ref (ad 9), .ref (ad 10), .ref (ad 11), .ref (ad 12), .int 0, .int (-1), .int 0])), ((ad 0), .inr (8, [.ref (ad 13), .int 0, .int 0, .int 0, .int 0])), ((ad 13), .inl (G.2.2 0, 400, .inl (fun _ => 0)))] sz [.ref h0, .int a, .int b, .int c1, .int d1, .int e1]) (gc_I G (va_A [(h0, .inr (11, [.ref (ad 0), .ref (ad 1), .ref (ad 2), .ref (ad 3), .ref (ad 4), .ref (ad 5), .ref (ad 6), .ref (ad 7), .ref (ad 8), .ref (ad 9), .ref (ad 10), .ref (ad 11), .ref (ad 12), .int 0, .int (-1), .int 0])), ((ad 0), .inr (8, [.ref (ad 13), .int 0, .int 0, .int 0, .int 0])), ((ad 13), .inl (G.2.2 0, 400, .inl (fun _ => 0)))] sz) (fun r (_ : Unit) => r = 20) (fun _ => [])) 0 0 (va_A [(h0, .inr (11, [.ref (ad 0), .ref (ad 1), .ref (ad 2), .ref (ad 3), .ref (ad 4), .ref (ad 5), .ref (ad 6), .ref (ad 7), .ref (ad 8), .ref (ad 9), .ref (ad 10), .ref (ad 11), .ref (ad 12), .int 0, .int (-1), .int 0])), ((ad 0), .inr (8, [.ref (ad 13), .int 0, .int 0, .int 0, .int 0])), ((ad 13), .inl (G.2.2 0, 400, .inl (fun _ => 0)))] sz) := by
  refine Met.ofW (cc := cX11_feed) (maxL := 6) (ret := (some .int)) (by decide) rfl ?_
  intro p e s m args below meth c s₁ B hml hv
  obtain ⟨rfl, hsz, hP, hK, hD0⟩ := hv
  have hx := B.exec
  have hb := B.bytes
  have hr := B.returns
  have ht := ts_ht (atoms_spec (ws := ts_L yX11_feed cX11_feed 6 (some .int)) B.pre)
  have hown : s.vm.findClass RX11 = some m.cls := findClass_of_methodNamed B.named
  have hlocks := B.notSynchronized
  subst hsz
  have hD := hD0.self (sz := s.heap.size)
  generalize hAe : va_A [(h0, .inr (11, [.ref (ad 0), .ref (ad 1), .ref (ad 2), .ref (ad 3), .ref (ad 4), .ref (ad 5), .ref (ad 6), .ref (ad 7), .ref (ad 8), .ref (ad 9), .ref (ad 10), .ref (ad 11), .ref (ad 12), .int 0, .int (-1), .int 0])), ((ad 0), .inr (8, [.ref (ad 13), .int 0, .int 0, .int 0, .int 0])), ((ad 13), .inl (G.2.2 0, 400, .inl (fun _ => 0)))] s.heap.size = A at hD ⊢
  have hA : ∀ q : Nat, s.heap.size ≤ q → A q := fun q h => by rw [← hAe]; exact Or.inr h
  have hS : va_S A s.heap s.heap [] := va_S.rf
  have hl := lv_entry ([.ref h0, .int a, .int b, .int c1, .int d1, .int e1]) (n := 6) (Nat.le_of_ble_eq_true rfl)
  rw [lg_entry_eq]
  generalize (lg_sl ([.ref h0, .int a, .int b, .int c1, .int d1, .int e1]) ++ List.replicate (6 - (lg_sl ([.ref h0, .int a, .int b, .int c1, .int d1, .int e1])).length) Slot.unset).toArray = ls at hl ⊢
  have hl : lv_has ls 6 [(0, .ref h0), (1, .int a), (2, .int b), (3, .int c1), (4, .int d1), (5, .int e1)] := hl
  refine lv_aload_n hx hb dX11_feed_0 rfl (lv_at hl 0 rfl) ?_
  refine gq_get hx hb ht hown hK hP i_X11 0 rfl rfl 0 (by decide) wd_497 rfl rfl dX11_feed_1 ?_
  have hPc := hP.sub (ws' := [((ad 0), .inr (8, [.ref (ad 13), .int 0, .int 0, .int 0, .int 0]))]) [1] rfl
  have hDc := hD.sub (ws' := [((ad 0), .inr (8, [.ref (ad 13), .int 0, .int 0, .int 0, .int 0]))]) [1] (by decide) rfl
  refine gq_callI (wr := [(h0, .inr (11, [.ref (ad 0), .ref (ad 1), .ref (ad 2), .ref (ad 3), .ref (ad 4), .ref (ad 5), .ref (ad 6), .ref (ad 7), .ref (ad 8), .ref (ad 9), .ref (ad 10), .ref (ad 11), .ref (ad 12), .int 0, .int (-1), .int 0])), ((ad 13), .inl (G.2.2 0, 400, .inl (fun _ => 0)))]) (va_runV (As := []) (rest := []) ⟨hx, hb, hml, hown, ht⟩ (c_Tape_size l G s.heap.size (ad 0) (ad 13) 0 0 0 0) (cwV 0 ht (ts_gV wd_550 wd_551 wd_552 wd_123 wd_553) rfl rfl rfl (by decide +kernel) ⟨Nat.le_of_ble_eq_true rfl, Nat.le_of_ble_eq_true rfl⟩) (gc_preV (ci := 8) (q0 := 0) hK hPc hDc rfl rfl) rfl rfl hl.1 rfl (lv_room (Nat.le_of_ble_eq_true rfl)) dX11_feed_4 ⟨Nat.le_of_ble_eq_true rfl, Nat.le_of_ble_eq_true rfl⟩) hP hD hS hA [1] [0, 2] rfl rfl (by decide) (by decide) (fun r u H locs hw hP hD hS => ?_)
  have hw : r = 0 := hw
  subst hw
  have hP : va_P (gg_D G) classes [(h0, .inr (11, [.ref (ad 0), .ref (ad 1), .ref (ad 2), .ref (ad 3), .ref (ad 4), .ref (ad 5), .ref (ad 6), .ref (ad 7), .ref (ad 8), .ref (ad 9), .ref (ad 10), .ref (ad 11), .ref (ad 12), .int 0, .int (-1), .int 0])), ((ad 13), .inl (G.2.2 0, 400, .inl (fun _ => 0))), ((ad 0), .inr (8, [.ref (ad 13), .int 0, .int 0, .int 0, .int 0]))] H := hP
  have hD : va_D A [(h0, .inr (11, [.ref (ad 0), .ref (ad 1), .ref (ad 2), .ref (ad 3), .ref (ad 4), .ref (ad 5), .ref (ad 6), .ref (ad 7), .ref (ad 8), .ref (ad 9), .ref (ad 10), .ref (ad 11), .ref (ad 12), .int 0, .int (-1), .int 0])), ((ad 13), .inl (G.2.2 0, 400, .inl (fun _ => 0))), ((ad 0), .inr (8, [.ref (ad 13), .int 0, .int 0, .int 0, .int 0]))] := hD
  refine lv_bipush (v := 20) hx hb dX11_feed_7 (by decide +kernel) ?_
  refine gq_iadd hx hb 20 (by decide +kernel) dX11_feed_9 ?_
  refine lv_sipush (v := 400) hx hb dX11_feed_10 (by decide +kernel) ?_
  refine lv_icmp_le (tgt := 18) hx hb dX11_feed_13 (by decide) (fun _ => ?_) (fun c0 => absurd (by decide +kernel) c0)
  refine lv_aload_n hx hb dX11_feed_18 rfl (lv_at hl 0 rfl) ?_
  refine gq_get hx hb ht hown hK hP i_X11 0 rfl rfl 0 (by decide) wd_497 rfl rfl dX11_feed_19 ?_
  refine lv_iload_n hx hb dX11_feed_22 rfl (lv_at hl 1 rfl) ?_
  have hPc := hP.sub (ws' := [((ad 0), .inr (8, [.ref (ad 13), .int 0, .int 0, .int 0, .int 0])), ((ad 13), .inl (G.2.2 0, 400, .inl (fun _ => 0)))]) [2, 1] rfl
  have hDc := hD.sub (ws' := [((ad 0), .inr (8, [.ref (ad 13), .int 0, .int 0, .int 0, .int 0])), ((ad 13), .inl (G.2.2 0, 400, .inl (fun _ => 0)))]) [2, 1] (by decide) rfl
  refine gq_callV (wr := [(h0, .inr (11, [.ref (ad 0), .ref (ad 1), .ref (ad 2), .ref (ad 3), .ref (ad 4), .ref (ad 5), .ref (ad 6), .ref (ad 7), .ref (ad 8), .ref (ad 9), .ref (ad 10), .ref (ad 11), .ref (ad 12), .int 0, .int (-1), .int 0]))]) (va_runV (As := [.int a]) (rest := []) ⟨hx, hb, hml, hown, ht⟩ (c_Tape_put0 l G H.size (ad 0) (ad 13) 0 0 0 a (fun _ => 0)) (cwV 1 ht (ts_gV wd_554 wd_555 wd_556 wd_123 wd_557) rfl rfl rfl (by decide +kernel) ⟨Nat.le_of_ble_eq_true rfl, Nat.le_of_ble_eq_true rfl⟩) (gc_preV (ci := 8) (q0 := 0) hK hPc hDc rfl rfl) rfl rfl hl.1 rfl (lv_room (Nat.le_of_ble_eq_true rfl)) dX11_feed_23 ⟨Nat.le_of_ble_eq_true rfl, Nat.le_of_ble_eq_true rfl⟩) hP hD hS hA [2, 1] [0] rfl rfl (by decide) (by decide) (fun u H locs hw hP hD hS => ?_)
  obtain ⟨u_1, rfl⟩ : ∃ z, z = u := ⟨_, rfl⟩
  have hP : va_P (gg_D G) classes [(h0, .inr (11, [.ref (ad 0), .ref (ad 1), .ref (ad 2), .ref (ad 3), .ref (ad 4), .ref (ad 5), .ref (ad 6), .ref (ad 7), .ref (ad 8), .ref (ad 9), .ref (ad 10), .ref (ad 11), .ref (ad 12), .int 0, .int (-1), .int 0])), ((ad 0), .inr (8, [.ref (ad 13), .int 4, .int 0, .int 0, .int 0])), ((ad 13), .inl (G.2.2 0, 400, .inl u_1))] H := hP
  have hD : va_D A [(h0, .inr (11, [.ref (ad 0), .ref (ad 1), .ref (ad 2), .ref (ad 3), .ref (ad 4), .ref (ad 5), .ref (ad 6), .ref (ad 7), .ref (ad 8), .ref (ad 9), .ref (ad 10), .ref (ad 11), .ref (ad 12), .int 0, .int (-1), .int 0])), ((ad 0), .inr (8, [.ref (ad 13), .int 4, .int 0, .int 0, .int 0])), ((ad 13), .inl (G.2.2 0, 400, .inl u_1))] := hD
  refine lv_aload_n hx hb dX11_feed_26 rfl (lv_at hl 0 rfl) ?_
  refine gq_get hx hb ht hown hK hP i_X11 0 rfl rfl 0 (by decide) wd_497 rfl rfl dX11_feed_27 ?_
  refine lv_iload_n hx hb dX11_feed_30 rfl (lv_at hl 2 rfl) ?_
  have hPc := hP.sub (ws' := [((ad 0), .inr (8, [.ref (ad 13), .int 4, .int 0, .int 0, .int 0])), ((ad 13), .inl (G.2.2 0, 400, .inl u_1))]) [1, 2] rfl
  have hDc := hD.sub (ws' := [((ad 0), .inr (8, [.ref (ad 13), .int 4, .int 0, .int 0, .int 0])), ((ad 13), .inl (G.2.2 0, 400, .inl u_1))]) [1, 2] (by decide) rfl
  refine gq_callV (wr := [(h0, .inr (11, [.ref (ad 0), .ref (ad 1), .ref (ad 2), .ref (ad 3), .ref (ad 4), .ref (ad 5), .ref (ad 6), .ref (ad 7), .ref (ad 8), .ref (ad 9), .ref (ad 10), .ref (ad 11), .ref (ad 12), .int 0, .int (-1), .int 0]))]) (va_runV (As := [.int b]) (rest := []) ⟨hx, hb, hml, hown, ht⟩ (c_Tape_put4 l G H.size (ad 0) (ad 13) 0 0 0 b u_1) (cwV 1 ht (ts_gV wd_554 wd_555 wd_556 wd_123 wd_557) rfl rfl rfl (by decide +kernel) ⟨Nat.le_of_ble_eq_true rfl, Nat.le_of_ble_eq_true rfl⟩) (gc_preV (ci := 8) (q0 := 0) hK hPc hDc rfl rfl) rfl rfl hl.1 rfl (lv_room (Nat.le_of_ble_eq_true rfl)) dX11_feed_31 ⟨Nat.le_of_ble_eq_true rfl, Nat.le_of_ble_eq_true rfl⟩) hP hD hS hA [1, 2] [0] rfl rfl (by decide) (by decide) (fun u H locs hw hP hD hS => ?_)
  obtain ⟨u_2, rfl⟩ : ∃ z, z = u := ⟨_, rfl⟩
  have hP : va_P (gg_D G) classes [(h0, .inr (11, [.ref (ad 0), .ref (ad 1), .ref (ad 2), .ref (ad 3), .ref (ad 4), .ref (ad 5), .ref (ad 6), .ref (ad 7), .ref (ad 8), .ref (ad 9), .ref (ad 10), .ref (ad 11), .ref (ad 12), .int 0, .int (-1), .int 0])), ((ad 0), .inr (8, [.ref (ad 13), .int 8, .int 0, .int 0, .int 0])), ((ad 13), .inl (G.2.2 0, 400, .inl u_2))] H := hP
  have hD : va_D A [(h0, .inr (11, [.ref (ad 0), .ref (ad 1), .ref (ad 2), .ref (ad 3), .ref (ad 4), .ref (ad 5), .ref (ad 6), .ref (ad 7), .ref (ad 8), .ref (ad 9), .ref (ad 10), .ref (ad 11), .ref (ad 12), .int 0, .int (-1), .int 0])), ((ad 0), .inr (8, [.ref (ad 13), .int 8, .int 0, .int 0, .int 0])), ((ad 13), .inl (G.2.2 0, 400, .inl u_2))] := hD
  refine lv_aload_n hx hb dX11_feed_34 rfl (lv_at hl 0 rfl) ?_
  refine gq_get hx hb ht hown hK hP i_X11 0 rfl rfl 0 (by decide) wd_497 rfl rfl dX11_feed_35 ?_
  refine lv_iload_n hx hb dX11_feed_38 rfl (lv_at hl 3 rfl) ?_
  have hPc := hP.sub (ws' := [((ad 0), .inr (8, [.ref (ad 13), .int 8, .int 0, .int 0, .int 0])), ((ad 13), .inl (G.2.2 0, 400, .inl u_2))]) [1, 2] rfl
  have hDc := hD.sub (ws' := [((ad 0), .inr (8, [.ref (ad 13), .int 8, .int 0, .int 0, .int 0])), ((ad 13), .inl (G.2.2 0, 400, .inl u_2))]) [1, 2] (by decide) rfl
  refine gq_callV (wr := [(h0, .inr (11, [.ref (ad 0), .ref (ad 1), .ref (ad 2), .ref (ad 3), .ref (ad 4), .ref (ad 5), .ref (ad 6), .ref (ad 7), .ref (ad 8), .ref (ad 9), .ref (ad 10), .ref (ad 11), .ref (ad 12), .int 0, .int (-1), .int 0]))]) (va_runV (As := [.int c1]) (rest := []) ⟨hx, hb, hml, hown, ht⟩ (c_Tape_put8 l G H.size (ad 0) (ad 13) 0 0 0 c1 u_2) (cwV 1 ht (ts_gV wd_554 wd_555 wd_556 wd_123 wd_557) rfl rfl rfl (by decide +kernel) ⟨Nat.le_of_ble_eq_true rfl, Nat.le_of_ble_eq_true rfl⟩) (gc_preV (ci := 8) (q0 := 0) hK hPc hDc rfl rfl) rfl rfl hl.1 rfl (lv_room (Nat.le_of_ble_eq_true rfl)) dX11_feed_39 ⟨Nat.le_of_ble_eq_true rfl, Nat.le_of_ble_eq_true rfl⟩) hP hD hS hA [1, 2] [0] rfl rfl (by decide) (by decide) (fun u H locs hw hP hD hS => ?_)
  obtain ⟨u_3, rfl⟩ : ∃ z, z = u := ⟨_, rfl⟩
  have hP : va_P (gg_D G) classes [(h0, .inr (11, [.ref (ad 0), .ref (ad 1), .ref (ad 2), .ref (ad 3), .ref (ad 4), .ref (ad 5), .ref (ad 6), .ref (ad 7), .ref (ad 8), .ref (ad 9), .ref (ad 10), .ref (ad 11), .ref (ad 12), .int 0, .int (-1), .int 0])), ((ad 0), .inr (8, [.ref (ad 13), .int 12, .int 0, .int 0, .int 0])), ((ad 13), .inl (G.2.2 0, 400, .inl u_3))] H := hP
  have hD : va_D A [(h0, .inr (11, [.ref (ad 0), .ref (ad 1), .ref (ad 2), .ref (ad 3), .ref (ad 4), .ref (ad 5), .ref (ad 6), .ref (ad 7), .ref (ad 8), .ref (ad 9), .ref (ad 10), .ref (ad 11), .ref (ad 12), .int 0, .int (-1), .int 0])), ((ad 0), .inr (8, [.ref (ad 13), .int 12, .int 0, .int 0, .int 0])), ((ad 13), .inl (G.2.2 0, 400, .inl u_3))] := hD
  refine lv_aload_n hx hb dX11_feed_42 rfl (lv_at hl 0 rfl) ?_
  refine gq_get hx hb ht hown hK hP i_X11 0 rfl rfl 0 (by decide) wd_497 rfl rfl dX11_feed_43 ?_
  refine lv_iload hx hb dX11_feed_46 (lv_at hl 4 rfl) ?_
  have hPc := hP.sub (ws' := [((ad 0), .inr (8, [.ref (ad 13), .int 12, .int 0, .int 0, .int 0])), ((ad 13), .inl (G.2.2 0, 400, .inl u_3))]) [1, 2] rfl
  have hDc := hD.sub (ws' := [((ad 0), .inr (8, [.ref (ad 13), .int 12, .int 0, .int 0, .int 0])), ((ad 13), .inl (G.2.2 0, 400, .inl u_3))]) [1, 2] (by decide) rfl
  refine gq_callV (wr := [(h0, .inr (11, [.ref (ad 0), .ref (ad 1), .ref (ad 2), .ref (ad 3), .ref (ad 4), .ref (ad 5), .ref (ad 6), .ref (ad 7), .ref (ad 8), .ref (ad 9), .ref (ad 10), .ref (ad 11), .ref (ad 12), .int 0, .int (-1), .int 0]))]) (va_runV (As := [.int d1]) (rest := []) ⟨hx, hb, hml, hown, ht⟩ (c_Tape_put12 l G H.size (ad 0) (ad 13) 0 0 0 d1 u_3) (cwV 1 ht (ts_gV wd_554 wd_555 wd_556 wd_123 wd_557) rfl rfl rfl (by decide +kernel) ⟨Nat.le_of_ble_eq_true rfl, Nat.le_of_ble_eq_true rfl⟩) (gc_preV (ci := 8) (q0 := 0) hK hPc hDc rfl rfl) rfl rfl hl.1 rfl (lv_room (Nat.le_of_ble_eq_true rfl)) dX11_feed_48 ⟨Nat.le_of_ble_eq_true rfl, Nat.le_of_ble_eq_true rfl⟩) hP hD hS hA [1, 2] [0] rfl rfl (by decide) (by decide) (fun u H locs hw hP hD hS => ?_)
  obtain ⟨u_4, rfl⟩ : ∃ z, z = u := ⟨_, rfl⟩
  have hP : va_P (gg_D G) classes [(h0, .inr (11, [.ref (ad 0), .ref (ad 1), .ref (ad 2), .ref (ad 3), .ref (ad 4), .ref (ad 5), .ref (ad 6), .ref (ad 7), .ref (ad 8), .ref (ad 9), .ref (ad 10), .ref (ad 11), .ref (ad 12), .int 0, .int (-1), .int 0])), ((ad 0), .inr (8, [.ref (ad 13), .int 16, .int 0, .int 0, .int 0])), ((ad 13), .inl (G.2.2 0, 400, .inl u_4))] H := hP
  have hD : va_D A [(h0, .inr (11, [.ref (ad 0), .ref (ad 1), .ref (ad 2), .ref (ad 3), .ref (ad 4), .ref (ad 5), .ref (ad 6), .ref (ad 7), .ref (ad 8), .ref (ad 9), .ref (ad 10), .ref (ad 11), .ref (ad 12), .int 0, .int (-1), .int 0])), ((ad 0), .inr (8, [.ref (ad 13), .int 16, .int 0, .int 0, .int 0])), ((ad 13), .inl (G.2.2 0, 400, .inl u_4))] := hD
  refine lv_aload_n hx hb dX11_feed_51 rfl (lv_at hl 0 rfl) ?_
  refine gq_get hx hb ht hown hK hP i_X11 0 rfl rfl 0 (by decide) wd_497 rfl rfl dX11_feed_52 ?_
  refine lv_iload hx hb dX11_feed_55 (lv_at hl 5 rfl) ?_
  have hPc := hP.sub (ws' := [((ad 0), .inr (8, [.ref (ad 13), .int 16, .int 0, .int 0, .int 0])), ((ad 13), .inl (G.2.2 0, 400, .inl u_4))]) [1, 2] rfl
  have hDc := hD.sub (ws' := [((ad 0), .inr (8, [.ref (ad 13), .int 16, .int 0, .int 0, .int 0])), ((ad 13), .inl (G.2.2 0, 400, .inl u_4))]) [1, 2] (by decide) rfl
  refine gq_callV (wr := [(h0, .inr (11, [.ref (ad 0), .ref (ad 1), .ref (ad 2), .ref (ad 3), .ref (ad 4), .ref (ad 5), .ref (ad 6), .ref (ad 7), .ref (ad 8), .ref (ad 9), .ref (ad 10), .ref (ad 11), .ref (ad 12), .int 0, .int (-1), .int 0]))]) (va_runV (As := [.int e1]) (rest := []) ⟨hx, hb, hml, hown, ht⟩ (c_Tape_put16 l G H.size (ad 0) (ad 13) 0 0 0 e1 u_4) (cwV 1 ht (ts_gV wd_554 wd_555 wd_556 wd_123 wd_557) rfl rfl rfl (by decide +kernel) ⟨Nat.le_of_ble_eq_true rfl, Nat.le_of_ble_eq_true rfl⟩) (gc_preV (ci := 8) (q0 := 0) hK hPc hDc rfl rfl) rfl rfl hl.1 rfl (lv_room (Nat.le_of_ble_eq_true rfl)) dX11_feed_57 ⟨Nat.le_of_ble_eq_true rfl, Nat.le_of_ble_eq_true rfl⟩) hP hD hS hA [1, 2] [0] rfl rfl (by decide) (by decide) (fun u H locs hw hP hD hS => ?_)
  obtain ⟨u_5, rfl⟩ : ∃ z, z = u := ⟨_, rfl⟩
  have hP : va_P (gg_D G) classes [(h0, .inr (11, [.ref (ad 0), .ref (ad 1), .ref (ad 2), .ref (ad 3), .ref (ad 4), .ref (ad 5), .ref (ad 6), .ref (ad 7), .ref (ad 8), .ref (ad 9), .ref (ad 10), .ref (ad 11), .ref (ad 12), .int 0, .int (-1), .int 0])), ((ad 0), .inr (8, [.ref (ad 13), .int 20, .int 0, .int 0, .int 0])), ((ad 13), .inl (G.2.2 0, 400, .inl u_5))] H := hP
  have hD : va_D A [(h0, .inr (11, [.ref (ad 0), .ref (ad 1), .ref (ad 2), .ref (ad 3), .ref (ad 4), .ref (ad 5), .ref (ad 6), .ref (ad 7), .ref (ad 8), .ref (ad 9), .ref (ad 10), .ref (ad 11), .ref (ad 12), .int 0, .int (-1), .int 0])), ((ad 0), .inr (8, [.ref (ad 13), .int 20, .int 0, .int 0, .int 0])), ((ad 13), .inl (G.2.2 0, 400, .inl u_5))] := hD
  refine lv_aload_n hx hb dX11_feed_60 rfl (lv_at hl 0 rfl) ?_
  refine gq_get hx hb ht hown hK hP i_X11 0 rfl rfl 0 (by decide) wd_497 rfl rfl dX11_feed_61 ?_
  have hPc := hP.sub (ws' := [((ad 0), .inr (8, [.ref (ad 13), .int 20, .int 0, .int 0, .int 0]))]) [1] rfl
  have hDc := hD.sub (ws' := [((ad 0), .inr (8, [.ref (ad 13), .int 20, .int 0, .int 0, .int 0]))]) [1] (by decide) rfl
  refine gq_callI (wr := [(h0, .inr (11, [.ref (ad 0), .ref (ad 1), .ref (ad 2), .ref (ad 3), .ref (ad 4), .ref (ad 5), .ref (ad 6), .ref (ad 7), .ref (ad 8), .ref (ad 9), .ref (ad 10), .ref (ad 11), .ref (ad 12), .int 0, .int (-1), .int 0])), ((ad 13), .inl (G.2.2 0, 400, .inl u_5))]) (va_runV (As := []) (rest := []) ⟨hx, hb, hml, hown, ht⟩ (c_Tape_size l G H.size (ad 0) (ad 13) 20 0 0 0) (cwV 0 ht (ts_gV wd_550 wd_551 wd_552 wd_123 wd_553) rfl rfl rfl (by decide +kernel) ⟨Nat.le_of_ble_eq_true rfl, Nat.le_of_ble_eq_true rfl⟩) (gc_preV (ci := 8) (q0 := 0) hK hPc hDc rfl rfl) rfl rfl hl.1 rfl (lv_room (Nat.le_of_ble_eq_true rfl)) dX11_feed_64 ⟨Nat.le_of_ble_eq_true rfl, Nat.le_of_ble_eq_true rfl⟩) hP hD hS hA [1] [0, 2] rfl rfl (by decide) (by decide) (fun r u H locs hw hP hD hS => ?_)
  have hw : r = 20 := hw
  subst hw
  have hP : va_P (gg_D G) classes [(h0, .inr (11, [.ref (ad 0), .ref (ad 1), .ref (ad 2), .ref (ad 3), .ref (ad 4), .ref (ad 5), .ref (ad 6), .ref (ad 7), .ref (ad 8), .ref (ad 9), .ref (ad 10), .ref (ad 11), .ref (ad 12), .int 0, .int (-1), .int 0])), ((ad 13), .inl (G.2.2 0, 400, .inl u_5)), ((ad 0), .inr (8, [.ref (ad 13), .int 20, .int 0, .int 0, .int 0]))] H := hP
  have hD : va_D A [(h0, .inr (11, [.ref (ad 0), .ref (ad 1), .ref (ad 2), .ref (ad 3), .ref (ad 4), .ref (ad 5), .ref (ad 6), .ref (ad 7), .ref (ad 8), .ref (ad 9), .ref (ad 10), .ref (ad 11), .ref (ad 12), .int 0, .int (-1), .int 0])), ((ad 13), .inl (G.2.2 0, 400, .inl u_5)), ((ad 0), .inr (8, [.ref (ad 13), .int 20, .int 0, .int 0, .int 0]))] := hD
  have hP9 := hP.sub (ws' := []) [] rfl
  have hD9 := hD.sub (ws' := []) [] (by decide) rfl
  exact W.iret (v := 20) hx hb hr (gq_endI () rfl hP9 hD9 hS) hS.2.2 dX11_feed_67
set_option maxHeartbeats 4000000 in
set_option maxRecDepth 100000 in
theorem c_S_end (l : Launch) (G : gg_T) (sz : Nat) (h0 : Nat) (ad : Nat → Nat) (n : Int32) : Met l yX11_end (ts_L yX11_end cX11_end 2 (some .int)) ({ frames := 1, cells := 0, slots := 0, locals := 21 }) (gc_P G [(h0, .inr (11, [.ref (ad 0), .ref (ad 1), .ref (ad 2), .ref (ad 3), .ref (ad 4), .ref (ad 5), .ref (ad 6), .ref (ad 7), .ref (ad 8), .ref (ad 9), .ref (ad 10), .ref (ad 11), .ref (ad 12), .int 0, .int (-1), .int 0])), ((ad 0), .inr (8, [.ref (ad 13), .int 0, .int 0, .int 0, .int 0]))] sz [.ref h0, .int n]) (gc_I G (va_A [(h0, .inr (11, [.ref (ad 0), .ref (ad 1), .ref (ad 2), .ref (ad 3), .ref (ad 4), .ref (ad 5), .ref (ad 6), .ref (ad 7), .ref (ad 8), .ref (ad 9), .ref (ad 10), .ref (ad 11), .ref (ad 12), .int 0, .int (-1), .int 0])), ((ad 0), .inr (8, [.ref (ad 13), .int 0, .int 0, .int 0, .int 0]))] sz) (fun r (_ : Unit) => r = (if n = 0 then 0 else -1)) (fun _ => [])) 0 0 (va_A [(h0, .inr (11, [.ref (ad 0), .ref (ad 1), .ref (ad 2), .ref (ad 3), .ref (ad 4), .ref (ad 5), .ref (ad 6), .ref (ad 7), .ref (ad 8), .ref (ad 9), .ref (ad 10), .ref (ad 11), .ref (ad 12), .int 0, .int (-1), .int 0])), ((ad 0), .inr (8, [.ref (ad 13), .int 0, .int 0, .int 0, .int 0]))] sz) := by
  refine Met.ofW (cc := cX11_end) (maxL := 2) (ret := (some .int)) (by decide) rfl ?_
  intro p e s m args below meth c s₁ B hml hv
  obtain ⟨rfl, hsz, hP, hK, hD0⟩ := hv
  have hx := B.exec
  have hb := B.bytes
  have hr := B.returns
  have ht := ts_ht (atoms_spec (ws := ts_L yX11_end cX11_end 2 (some .int)) B.pre)
  have hown : s.vm.findClass RX11 = some m.cls := findClass_of_methodNamed B.named
  have hlocks := B.notSynchronized
  subst hsz
  have hD := hD0.self (sz := s.heap.size)
  generalize hAe : va_A [(h0, .inr (11, [.ref (ad 0), .ref (ad 1), .ref (ad 2), .ref (ad 3), .ref (ad 4), .ref (ad 5), .ref (ad 6), .ref (ad 7), .ref (ad 8), .ref (ad 9), .ref (ad 10), .ref (ad 11), .ref (ad 12), .int 0, .int (-1), .int 0])), ((ad 0), .inr (8, [.ref (ad 13), .int 0, .int 0, .int 0, .int 0]))] s.heap.size = A at hD ⊢
  have hA : ∀ q : Nat, s.heap.size ≤ q → A q := fun q h => by rw [← hAe]; exact Or.inr h
  have hS : va_S A s.heap s.heap [] := va_S.rf
  have hl := lv_entry ([.ref h0, .int n]) (n := 2) (Nat.le_of_ble_eq_true rfl)
  rw [lg_entry_eq]
  generalize (lg_sl ([.ref h0, .int n]) ++ List.replicate (2 - (lg_sl ([.ref h0, .int n])).length) Slot.unset).toArray = ls at hl ⊢
  have hl : lv_has ls 2 [(0, .ref h0), (1, .int n)] := hl
  by_cases c_1 : n = 0
  · subst c_1
    refine lv_iload_n hx hb dX11_end_0 rfl (lv_at hl 1 rfl) ?_
    refine lv_if_lt (tgt := 15) hx hb dX11_end_1 (by decide) (fun c0 => absurd c0 (by decide +kernel)) (fun _ => ?_)
    refine lv_iload_n hx hb dX11_end_4 rfl (lv_at hl 1 rfl) ?_
    refine lv_aload_n hx hb dX11_end_5 rfl (lv_at hl 0 rfl) ?_
    refine gq_get hx hb ht hown hK hP i_X11 0 rfl rfl 0 (by decide) wd_497 rfl rfl dX11_end_6 ?_
    have hPc := hP.sub (ws' := [((ad 0), .inr (8, [.ref (ad 13), .int 0, .int 0, .int 0, .int 0]))]) [1] rfl
    have hDc := hD.sub (ws' := [((ad 0), .inr (8, [.ref (ad 13), .int 0, .int 0, .int 0, .int 0]))]) [1] (by decide) rfl
    refine gq_callI (wr := [(h0, .inr (11, [.ref (ad 0), .ref (ad 1), .ref (ad 2), .ref (ad 3), .ref (ad 4), .ref (ad 5), .ref (ad 6), .ref (ad 7), .ref (ad 8), .ref (ad 9), .ref (ad 10), .ref (ad 11), .ref (ad 12), .int 0, .int (-1), .int 0]))]) (va_runV (As := []) (rest := [.int 0]) ⟨hx, hb, hml, hown, ht⟩ (c_Tape_size l G s.heap.size (ad 0) (ad 13) 0 0 0 0) (cwV 0 ht (ts_gV wd_550 wd_551 wd_552 wd_123 wd_553) rfl rfl rfl (by decide +kernel) ⟨Nat.le_of_ble_eq_true rfl, Nat.le_of_ble_eq_true rfl⟩) (gc_preV (ci := 8) (q0 := 0) hK hPc hDc rfl rfl) rfl rfl hl.1 rfl (lv_room (Nat.le_of_ble_eq_true rfl)) dX11_end_9 ⟨Nat.le_of_ble_eq_true rfl, Nat.le_of_ble_eq_true rfl⟩) hP hD hS hA [1] [0] rfl rfl (by decide) (by decide) (fun r u H locs hw hP hD hS => ?_)
    have hw : r = 0 := hw
    subst hw
    have hP : va_P (gg_D G) classes [(h0, .inr (11, [.ref (ad 0), .ref (ad 1), .ref (ad 2), .ref (ad 3), .ref (ad 4), .ref (ad 5), .ref (ad 6), .ref (ad 7), .ref (ad 8), .ref (ad 9), .ref (ad 10), .ref (ad 11), .ref (ad 12), .int 0, .int (-1), .int 0])), ((ad 0), .inr (8, [.ref (ad 13), .int 0, .int 0, .int 0, .int 0]))] H := hP
    have hD : va_D A [(h0, .inr (11, [.ref (ad 0), .ref (ad 1), .ref (ad 2), .ref (ad 3), .ref (ad 4), .ref (ad 5), .ref (ad 6), .ref (ad 7), .ref (ad 8), .ref (ad 9), .ref (ad 10), .ref (ad 11), .ref (ad 12), .int 0, .int (-1), .int 0])), ((ad 0), .inr (8, [.ref (ad 13), .int 0, .int 0, .int 0, .int 0]))] := hD
    refine lv_icmp_le (tgt := 17) hx hb dX11_end_12 (by decide) (fun _ => ?_) (fun c0 => absurd (by decide +kernel) c0)
    refine lv_aload_n hx hb dX11_end_17 rfl (lv_at hl 0 rfl) ?_
    refine gq_get hx hb ht hown hK hP i_X11 0 rfl rfl 0 (by decide) wd_497 rfl rfl dX11_end_18 ?_
    refine lv_iload_n hx hb dX11_end_21 rfl (lv_at hl 1 rfl) ?_
    have hPc := hP.sub (ws' := [((ad 0), .inr (8, [.ref (ad 13), .int 0, .int 0, .int 0, .int 0]))]) [1] rfl
    have hDc := hD.sub (ws' := [((ad 0), .inr (8, [.ref (ad 13), .int 0, .int 0, .int 0, .int 0]))]) [1] (by decide) rfl
    refine gq_callV (wr := [(h0, .inr (11, [.ref (ad 0), .ref (ad 1), .ref (ad 2), .ref (ad 3), .ref (ad 4), .ref (ad 5), .ref (ad 6), .ref (ad 7), .ref (ad 8), .ref (ad 9), .ref (ad 10), .ref (ad 11), .ref (ad 12), .int 0, .int (-1), .int 0]))]) (va_runV (As := [.int 0]) (rest := []) ⟨hx, hb, hml, hown, ht⟩ (c_Tape_cut0 l G H.size (ad 0) (ad 13) 0 0 0) (cwV 1 ht (ts_gV wd_562 wd_563 wd_564 wd_123 wd_565) rfl rfl rfl (by decide +kernel) ⟨Nat.le_of_ble_eq_true rfl, Nat.le_of_ble_eq_true rfl⟩) (gc_preV (ci := 8) (q0 := 0) hK hPc hDc rfl rfl) rfl rfl hl.1 rfl (lv_room (Nat.le_of_ble_eq_true rfl)) dX11_end_22 ⟨Nat.le_of_ble_eq_true rfl, Nat.le_of_ble_eq_true rfl⟩) hP hD hS hA [1] [0] rfl rfl (by decide) (by decide) (fun u H locs hw hP hD hS => ?_)
    have hP : va_P (gg_D G) classes [(h0, .inr (11, [.ref (ad 0), .ref (ad 1), .ref (ad 2), .ref (ad 3), .ref (ad 4), .ref (ad 5), .ref (ad 6), .ref (ad 7), .ref (ad 8), .ref (ad 9), .ref (ad 10), .ref (ad 11), .ref (ad 12), .int 0, .int (-1), .int 0])), ((ad 0), .inr (8, [.ref (ad 13), .int 0, .int 0, .int 0, .int 0]))] H := hP
    have hD : va_D A [(h0, .inr (11, [.ref (ad 0), .ref (ad 1), .ref (ad 2), .ref (ad 3), .ref (ad 4), .ref (ad 5), .ref (ad 6), .ref (ad 7), .ref (ad 8), .ref (ad 9), .ref (ad 10), .ref (ad 11), .ref (ad 12), .int 0, .int (-1), .int 0])), ((ad 0), .inr (8, [.ref (ad 13), .int 0, .int 0, .int 0, .int 0]))] := hD
    refine lv_iload_n hx hb dX11_end_25 rfl (lv_at hl 1 rfl) ?_
    have hP9 := hP.sub (ws' := []) [] rfl
    have hD9 := hD.sub (ws' := []) [] (by decide) rfl
    exact W.iret (v := 0) hx hb hr (gq_endI () (by decide +kernel) hP9 hD9 hS) hS.2.2 dX11_end_26
  · refine lv_iload_n hx hb dX11_end_0 rfl (lv_at hl 1 rfl) ?_
    refine lv_if_lt (tgt := 15) hx hb dX11_end_1 (by decide) (fun c_2 => ?_) (fun c_2 => ?_)
    · refine lv_iconst (v := (-1)) hx hb dX11_end_15 (by decide) ?_
      have hP9 := hP.sub (ws' := []) [] rfl
      have hD9 := hD.sub (ws' := []) [] (by decide) rfl
      exact W.iret (v := (-1)) hx hb hr (gq_endI () (if_neg c_1).symm hP9 hD9 hS) hS.2.2 dX11_end_16
    · refine lv_iload_n hx hb dX11_end_4 rfl (lv_at hl 1 rfl) ?_
      refine lv_aload_n hx hb dX11_end_5 rfl (lv_at hl 0 rfl) ?_
      refine gq_get hx hb ht hown hK hP i_X11 0 rfl rfl 0 (by decide) wd_497 rfl rfl dX11_end_6 ?_
      have hPc := hP.sub (ws' := [((ad 0), .inr (8, [.ref (ad 13), .int 0, .int 0, .int 0, .int 0]))]) [1] rfl
      have hDc := hD.sub (ws' := [((ad 0), .inr (8, [.ref (ad 13), .int 0, .int 0, .int 0, .int 0]))]) [1] (by decide) rfl
      refine gq_callI (wr := [(h0, .inr (11, [.ref (ad 0), .ref (ad 1), .ref (ad 2), .ref (ad 3), .ref (ad 4), .ref (ad 5), .ref (ad 6), .ref (ad 7), .ref (ad 8), .ref (ad 9), .ref (ad 10), .ref (ad 11), .ref (ad 12), .int 0, .int (-1), .int 0]))]) (va_runV (As := []) (rest := [.int n]) ⟨hx, hb, hml, hown, ht⟩ (c_Tape_size l G s.heap.size (ad 0) (ad 13) 0 0 0 0) (cwV 0 ht (ts_gV wd_550 wd_551 wd_552 wd_123 wd_553) rfl rfl rfl (by decide +kernel) ⟨Nat.le_of_ble_eq_true rfl, Nat.le_of_ble_eq_true rfl⟩) (gc_preV (ci := 8) (q0 := 0) hK hPc hDc rfl rfl) rfl rfl hl.1 rfl (lv_room (Nat.le_of_ble_eq_true rfl)) dX11_end_9 ⟨Nat.le_of_ble_eq_true rfl, Nat.le_of_ble_eq_true rfl⟩) hP hD hS hA [1] [0] rfl rfl (by decide) (by decide) (fun r u H locs hw hP hD hS => ?_)
      have hw : r = 0 := hw
      subst hw
      have hP : va_P (gg_D G) classes [(h0, .inr (11, [.ref (ad 0), .ref (ad 1), .ref (ad 2), .ref (ad 3), .ref (ad 4), .ref (ad 5), .ref (ad 6), .ref (ad 7), .ref (ad 8), .ref (ad 9), .ref (ad 10), .ref (ad 11), .ref (ad 12), .int 0, .int (-1), .int 0])), ((ad 0), .inr (8, [.ref (ad 13), .int 0, .int 0, .int 0, .int 0]))] H := hP
      have hD : va_D A [(h0, .inr (11, [.ref (ad 0), .ref (ad 1), .ref (ad 2), .ref (ad 3), .ref (ad 4), .ref (ad 5), .ref (ad 6), .ref (ad 7), .ref (ad 8), .ref (ad 9), .ref (ad 10), .ref (ad 11), .ref (ad 12), .int 0, .int (-1), .int 0])), ((ad 0), .inr (8, [.ref (ad 13), .int 0, .int 0, .int 0, .int 0]))] := hD
      refine lv_icmp_le (tgt := 17) hx hb dX11_end_12 (by decide) (fun c0 => False.elim (by have k0 : (0 : Int32).toInt = 0 := (by decide +kernel); simp only [Int32.lt_iff_toInt_lt, Int32.le_iff_toInt_le, ← Int32.toInt_inj] at c_1 c_2 c0; omega)) (fun _ => ?_)
      refine lv_iconst (v := (-1)) hx hb dX11_end_15 (by decide) ?_
      have hP9 := hP.sub (ws' := []) [] rfl
      have hD9 := hD.sub (ws' := []) [] (by decide) rfl
      exact W.iret (v := (-1)) hx hb hr (gq_endI () (if_neg c_1).symm hP9 hD9 hS) hS.2.2 dX11_end_16
set_option maxHeartbeats 4000000 in
set_option maxRecDepth 100000 in
theorem c_S_force (l : Launch) (G : gg_T) (sz : Nat) (h0 : Nat) (ad : Nat → Nat) (n : Int32) : Met l yX11_force (ts_L yX11_force cX11_force 3 (some .int)) ({ frames := 0, cells := 0, slots := 0, locals := 0 }) (gc_P G [(h0, .inr (11, [.ref (ad 0), .ref (ad 1), .ref (ad 2), .ref (ad 3), .ref (ad 4), .ref (ad 5), .ref (ad 6), .ref (ad 7), .ref (ad 8), .ref (ad 9), .ref (ad 10), .ref (ad 11), .ref (ad 12), .int 0, .int (-1), .int 0]))] sz [.ref h0, .int n]) (gc_I G (va_A [(h0, .inr (11, [.ref (ad 0), .ref (ad 1), .ref (ad 2), .ref (ad 3), .ref (ad 4), .ref (ad 5), .ref (ad 6), .ref (ad 7), .ref (ad 8), .ref (ad 9), .ref (ad 10), .ref (ad 11), .ref (ad 12), .int 0, .int (-1), .int 0]))] sz) (fun r (_ : Unit) => r = (if n = -1 then -1 else -2)) (fun _ => [])) 0 0 (va_A [(h0, .inr (11, [.ref (ad 0), .ref (ad 1), .ref (ad 2), .ref (ad 3), .ref (ad 4), .ref (ad 5), .ref (ad 6), .ref (ad 7), .ref (ad 8), .ref (ad 9), .ref (ad 10), .ref (ad 11), .ref (ad 12), .int 0, .int (-1), .int 0]))] sz) := by
  refine Met.ofW (cc := cX11_force) (maxL := 3) (ret := (some .int)) (by decide) rfl ?_
  intro p e s m args below meth c s₁ B hml hv
  obtain ⟨rfl, hsz, hP, hK, hD0⟩ := hv
  have hx := B.exec
  have hb := B.bytes
  have hr := B.returns
  have ht := ts_ht (atoms_spec (ws := ts_L yX11_force cX11_force 3 (some .int)) B.pre)
  have hown : s.vm.findClass RX11 = some m.cls := findClass_of_methodNamed B.named
  have hlocks := B.notSynchronized
  subst hsz
  have hD := hD0.self (sz := s.heap.size)
  generalize hAe : va_A [(h0, .inr (11, [.ref (ad 0), .ref (ad 1), .ref (ad 2), .ref (ad 3), .ref (ad 4), .ref (ad 5), .ref (ad 6), .ref (ad 7), .ref (ad 8), .ref (ad 9), .ref (ad 10), .ref (ad 11), .ref (ad 12), .int 0, .int (-1), .int 0]))] s.heap.size = A at hD ⊢
  have hA : ∀ q : Nat, s.heap.size ≤ q → A q := fun q h => by rw [← hAe]; exact Or.inr h
  have hS : va_S A s.heap s.heap [] := va_S.rf
  have hl := lv_entry ([.ref h0, .int n]) (n := 3) (Nat.le_of_ble_eq_true rfl)
  rw [lg_entry_eq]
  generalize (lg_sl ([.ref h0, .int n]) ++ List.replicate (3 - (lg_sl ([.ref h0, .int n])).length) Slot.unset).toArray = ls at hl ⊢
  have hl : lv_has ls 3 [(0, .ref h0), (1, .int n)] := hl
  by_cases c_1 : n = (-1)
  · subst c_1
    refine lv_iload_n hx hb dX11_force_0 rfl (lv_at hl 1 rfl) ?_
    refine lv_iconst (v := (-1)) hx hb dX11_force_1 (by decide) ?_
    refine lv_icmp_lt (tgt := 13) hx hb dX11_force_2 (by decide) (fun c0 => absurd c0 (by decide +kernel)) (fun _ => ?_)
    refine lv_iload_n hx hb dX11_force_5 rfl (lv_at hl 1 rfl) ?_
    refine lv_aload_n hx hb dX11_force_6 rfl (lv_at hl 0 rfl) ?_
    refine gq_get hx hb ht hown hK hP i_X11 0 rfl rfl 13 (by decide) wd_510 rfl rfl dX11_force_7 ?_
    refine lv_icmp_lt (tgt := 16) hx hb dX11_force_10 (by decide) (fun _ => ?_) (fun c0 => absurd (by decide +kernel) c0)
    refine lv_aload_n hx hb dX11_force_16 rfl (lv_at hl 0 rfl) ?_
    refine gq_get hx hb ht hown hK hP i_X11 0 rfl rfl 14 (by decide) wd_511 rfl rfl dX11_force_17 ?_
    refine lv_istore_n (lv' := [(2, .int (-1)), (0, .ref h0), (1, .int (-1))]) hx hb dX11_force_20 rfl hl (by decide) rfl (fun ls hl => ?_)
    refine lv_aload_n hx hb dX11_force_21 rfl (lv_at hl 1 rfl) ?_
    refine lv_iload_n hx hb dX11_force_22 rfl (lv_at hl 2 rfl) ?_
    refine gq_put (ws' := [(h0, .inr (11, [.ref (ad 0), .ref (ad 1), .ref (ad 2), .ref (ad 3), .ref (ad 4), .ref (ad 5), .ref (ad 6), .ref (ad 7), .ref (ad 8), .ref (ad 9), .ref (ad 10), .ref (ad 11), .ref (ad 12), .int 0, .int (-1), .int 0]))]) hx hb ht hown hK hP hD hS i_X11 tyX11 tyX11_ok nmX11 0 rfl rfl 14 (by decide) wd_511 rfl rfl rfl rfl (Nat.le_of_ble_eq_true rfl) rfl dX11_force_23 (fun H locs hP hD hS => ?_)
    refine lv_iload_n hx hb dX11_force_26 rfl (lv_at hl 0 rfl) ?_
    have hP9 := hP.sub (ws' := []) [] rfl
    have hD9 := hD.sub (ws' := []) [] (by decide) rfl
    exact W.iret (v := (-1)) hx hb hr (gq_endI () (by decide +kernel) hP9 hD9 hS) hS.2.2 dX11_force_27
  · refine lv_iload_n hx hb dX11_force_0 rfl (lv_at hl 1 rfl) ?_
    refine lv_iconst (v := (-1)) hx hb dX11_force_1 (by decide) ?_
    refine lv_icmp_lt (tgt := 13) hx hb dX11_force_2 (by decide) (fun c_2 => ?_) (fun c_2 => ?_)
    · refine lv_bipush (v := (-2)) hx hb dX11_force_13 (by decide +kernel) ?_
      have hP9 := hP.sub (ws' := []) [] rfl
      have hD9 := hD.sub (ws' := []) [] (by decide) rfl
      exact W.iret (v := (-2)) hx hb hr (gq_endI () (if_neg c_1).symm hP9 hD9 hS) hS.2.2 dX11_force_15
    · refine lv_iload_n hx hb dX11_force_5 rfl (lv_at hl 1 rfl) ?_
      refine lv_aload_n hx hb dX11_force_6 rfl (lv_at hl 0 rfl) ?_
      refine gq_get hx hb ht hown hK hP i_X11 0 rfl rfl 13 (by decide) wd_510 rfl rfl dX11_force_7 ?_
      refine lv_icmp_lt (tgt := 16) hx hb dX11_force_10 (by decide) (fun c0 => False.elim (by have k0 : ((-1) : Int32).toInt = -1 := (by decide +kernel); have k1 : (0 : Int32).toInt = 0 := (by decide +kernel); simp only [Int32.lt_iff_toInt_lt, Int32.le_iff_toInt_le, ← Int32.toInt_inj] at c_1 c_2 c0; omega)) (fun _ => ?_)
      refine lv_bipush (v := (-2)) hx hb dX11_force_13 (by decide +kernel) ?_
      have hP9 := hP.sub (ws' := []) [] rfl
      have hD9 := hD.sub (ws' := []) [] (by decide) rfl
      exact W.iret (v := (-2)) hx hb hr (gq_endI () (if_neg c_1).symm hP9 hD9 hS) hS.2.2 dX11_force_15
set_option maxHeartbeats 4000000 in
set_option maxRecDepth 100000 in
theorem c_S_bidder (l : Launch) (G : gg_T) (sz : Nat) (h0 : Nat) (ad : Nat → Nat) (b : Int32) (w : Int32) : Met l yX11_bidder (ts_L yX11_bidder cX11_bidder 3 (some .int)) ({ frames := 1, cells := 0, slots := 0, locals := 21 }) (gc_P G [(h0, .inr (11, [.ref (ad 0), .ref (ad 1), .ref (ad 2), .ref (ad 3), .ref (ad 4), .ref (ad 5), .ref (ad 6), .ref (ad 7), .ref (ad 8), .ref (ad 9), .ref (ad 10), .ref (ad 11), .ref (ad 12), .int 0, .int (-1), .int 0])), ((ad 1), .inr (9, [.int 0, .int 0, .int 0, .int 0, .ref (ad 14), .ref (ad 15), .ref (ad 16), .ref (ad 17), .ref (ad 18)]))] sz [.ref h0, .int b, .int w]) (gc_I G (va_A [(h0, .inr (11, [.ref (ad 0), .ref (ad 1), .ref (ad 2), .ref (ad 3), .ref (ad 4), .ref (ad 5), .ref (ad 6), .ref (ad 7), .ref (ad 8), .ref (ad 9), .ref (ad 10), .ref (ad 11), .ref (ad 12), .int 0, .int (-1), .int 0])), ((ad 1), .inr (9, [.int 0, .int 0, .int 0, .int 0, .ref (ad 14), .ref (ad 15), .ref (ad 16), .ref (ad 17), .ref (ad 18)]))] sz) (fun r (_ : Unit) => r = (-1000)) (fun _ => [])) 0 0 (va_A [(h0, .inr (11, [.ref (ad 0), .ref (ad 1), .ref (ad 2), .ref (ad 3), .ref (ad 4), .ref (ad 5), .ref (ad 6), .ref (ad 7), .ref (ad 8), .ref (ad 9), .ref (ad 10), .ref (ad 11), .ref (ad 12), .int 0, .int (-1), .int 0])), ((ad 1), .inr (9, [.int 0, .int 0, .int 0, .int 0, .ref (ad 14), .ref (ad 15), .ref (ad 16), .ref (ad 17), .ref (ad 18)]))] sz) := by
  refine Met.ofW (cc := cX11_bidder) (maxL := 3) (ret := (some .int)) (by decide) rfl ?_
  intro p e s m args below meth c s₁ B hml hv
  obtain ⟨rfl, hsz, hP, hK, hD0⟩ := hv
  have hx := B.exec
  have hb := B.bytes
  have hr := B.returns
  have ht := ts_ht (atoms_spec (ws := ts_L yX11_bidder cX11_bidder 3 (some .int)) B.pre)
  have hown : s.vm.findClass RX11 = some m.cls := findClass_of_methodNamed B.named
  have hlocks := B.notSynchronized
  subst hsz
  have hD := hD0.self (sz := s.heap.size)
  generalize hAe : va_A [(h0, .inr (11, [.ref (ad 0), .ref (ad 1), .ref (ad 2), .ref (ad 3), .ref (ad 4), .ref (ad 5), .ref (ad 6), .ref (ad 7), .ref (ad 8), .ref (ad 9), .ref (ad 10), .ref (ad 11), .ref (ad 12), .int 0, .int (-1), .int 0])), ((ad 1), .inr (9, [.int 0, .int 0, .int 0, .int 0, .ref (ad 14), .ref (ad 15), .ref (ad 16), .ref (ad 17), .ref (ad 18)]))] s.heap.size = A at hD ⊢
  have hA : ∀ q : Nat, s.heap.size ≤ q → A q := fun q h => by rw [← hAe]; exact Or.inr h
  have hS : va_S A s.heap s.heap [] := va_S.rf
  have hl := lv_entry ([.ref h0, .int b, .int w]) (n := 3) (Nat.le_of_ble_eq_true rfl)
  rw [lg_entry_eq]
  generalize (lg_sl ([.ref h0, .int b, .int w]) ++ List.replicate (3 - (lg_sl ([.ref h0, .int b, .int w])).length) Slot.unset).toArray = ls at hl ⊢
  have hl : lv_has ls 3 [(0, .ref h0), (1, .int b), (2, .int w)] := hl
  refine lv_aload_n hx hb dX11_bidder_0 rfl (lv_at hl 0 rfl) ?_
  refine lv_iload_n hx hb dX11_bidder_1 rfl (lv_at hl 1 rfl) ?_
  have hPc := hP.sub (ws' := [(h0, .inr (11, [.ref (ad 0), .ref (ad 1), .ref (ad 2), .ref (ad 3), .ref (ad 4), .ref (ad 5), .ref (ad 6), .ref (ad 7), .ref (ad 8), .ref (ad 9), .ref (ad 10), .ref (ad 11), .ref (ad 12), .int 0, .int (-1), .int 0])), ((ad 1), .inr (9, [.int 0, .int 0, .int 0, .int 0, .ref (ad 14), .ref (ad 15), .ref (ad 16), .ref (ad 17), .ref (ad 18)]))]) [0, 1] rfl
  have hDc := hD.sub (ws' := [(h0, .inr (11, [.ref (ad 0), .ref (ad 1), .ref (ad 2), .ref (ad 3), .ref (ad 4), .ref (ad 5), .ref (ad 6), .ref (ad 7), .ref (ad 8), .ref (ad 9), .ref (ad 10), .ref (ad 11), .ref (ad 12), .int 0, .int (-1), .int 0])), ((ad 1), .inr (9, [.int 0, .int 0, .int 0, .int 0, .ref (ad 14), .ref (ad 15), .ref (ad 16), .ref (ad 17), .ref (ad 18)]))]) [0, 1] (by decide) rfl
  refine gq_callI (wr := []) (va_runV (As := [.int b]) (rest := []) ⟨hx, hb, hml, hown, ht⟩ (c_S_isBidder l G s.heap.size h0 ad b) (cwV 1 ht (ts_gV wd_789 wd_791 wd_14 wd_122 wd_792) rfl rfl rfl (by decide +kernel) ⟨Nat.le_of_ble_eq_true rfl, Nat.le_of_ble_eq_true rfl⟩) (gc_preV (ci := 11) (q0 := 0) hK hPc hDc rfl rfl) rfl rfl hl.1 rfl (lv_room (Nat.le_of_ble_eq_true rfl)) dX11_bidder_2 ⟨Nat.le_of_ble_eq_true rfl, Nat.le_of_ble_eq_true rfl⟩) hP hD hS hA [0, 1] [] rfl rfl (by decide) (by decide) (fun r u H locs hw hP hD hS => ?_)
  have hw : r = 0 := hw
  subst hw
  have hP : va_P (gg_D G) classes [(h0, .inr (11, [.ref (ad 0), .ref (ad 1), .ref (ad 2), .ref (ad 3), .ref (ad 4), .ref (ad 5), .ref (ad 6), .ref (ad 7), .ref (ad 8), .ref (ad 9), .ref (ad 10), .ref (ad 11), .ref (ad 12), .int 0, .int (-1), .int 0])), ((ad 1), .inr (9, [.int 0, .int 0, .int 0, .int 0, .ref (ad 14), .ref (ad 15), .ref (ad 16), .ref (ad 17), .ref (ad 18)]))] H := hP
  have hD : va_D A [(h0, .inr (11, [.ref (ad 0), .ref (ad 1), .ref (ad 2), .ref (ad 3), .ref (ad 4), .ref (ad 5), .ref (ad 6), .ref (ad 7), .ref (ad 8), .ref (ad 9), .ref (ad 10), .ref (ad 11), .ref (ad 12), .int 0, .int (-1), .int 0])), ((ad 1), .inr (9, [.int 0, .int 0, .int 0, .int 0, .ref (ad 14), .ref (ad 15), .ref (ad 16), .ref (ad 17), .ref (ad 18)]))] := hD
  refine lv_if_ne (tgt := 12) hx hb dX11_bidder_5 (by decide) (fun c0 => absurd (by decide +kernel) c0) (fun _ => ?_)
  refine lv_sipush (v := (-1000)) hx hb dX11_bidder_8 (by decide +kernel) ?_
  have hP9 := hP.sub (ws' := []) [] rfl
  have hD9 := hD.sub (ws' := []) [] (by decide) rfl
  exact W.iret (v := (-1000)) hx hb hr (gq_endI () rfl hP9 hD9 hS) hS.2.2 dX11_bidder_11
set_option maxHeartbeats 4000000 in
set_option maxRecDepth 100000 in
theorem c_S_lot (l : Launch) (G : gg_T) (sz : Nat) (h0 : Nat) (ad : Nat → Nat) (b : Int32) (w : Int32) : Met l yX11_lot (ts_L yX11_lot cX11_lot 3 (some .int)) ({ frames := 1, cells := 0, slots := 0, locals := 21 }) (gc_P G [(h0, .inr (11, [.ref (ad 0), .ref (ad 1), .ref (ad 2), .ref (ad 3), .ref (ad 4), .ref (ad 5), .ref (ad 6), .ref (ad 7), .ref (ad 8), .ref (ad 9), .ref (ad 10), .ref (ad 11), .ref (ad 12), .int 0, .int (-1), .int 0])), ((ad 1), .inr (9, [.int 0, .int 0, .int 0, .int 0, .ref (ad 14), .ref (ad 15), .ref (ad 16), .ref (ad 17), .ref (ad 18)]))] sz [.ref h0, .int b, .int w]) (gc_I G (va_A [(h0, .inr (11, [.ref (ad 0), .ref (ad 1), .ref (ad 2), .ref (ad 3), .ref (ad 4), .ref (ad 5), .ref (ad 6), .ref (ad 7), .ref (ad 8), .ref (ad 9), .ref (ad 10), .ref (ad 11), .ref (ad 12), .int 0, .int (-1), .int 0])), ((ad 1), .inr (9, [.int 0, .int 0, .int 0, .int 0, .ref (ad 14), .ref (ad 15), .ref (ad 16), .ref (ad 17), .ref (ad 18)]))] sz) (fun r (_ : Unit) => r = (-2)) (fun _ => [])) 0 0 (va_A [(h0, .inr (11, [.ref (ad 0), .ref (ad 1), .ref (ad 2), .ref (ad 3), .ref (ad 4), .ref (ad 5), .ref (ad 6), .ref (ad 7), .ref (ad 8), .ref (ad 9), .ref (ad 10), .ref (ad 11), .ref (ad 12), .int 0, .int (-1), .int 0])), ((ad 1), .inr (9, [.int 0, .int 0, .int 0, .int 0, .ref (ad 14), .ref (ad 15), .ref (ad 16), .ref (ad 17), .ref (ad 18)]))] sz) := by
  refine Met.ofW (cc := cX11_lot) (maxL := 3) (ret := (some .int)) (by decide) rfl ?_
  intro p e s m args below meth c s₁ B hml hv
  obtain ⟨rfl, hsz, hP, hK, hD0⟩ := hv
  have hx := B.exec
  have hb := B.bytes
  have hr := B.returns
  have ht := ts_ht (atoms_spec (ws := ts_L yX11_lot cX11_lot 3 (some .int)) B.pre)
  have hown : s.vm.findClass RX11 = some m.cls := findClass_of_methodNamed B.named
  have hlocks := B.notSynchronized
  subst hsz
  have hD := hD0.self (sz := s.heap.size)
  generalize hAe : va_A [(h0, .inr (11, [.ref (ad 0), .ref (ad 1), .ref (ad 2), .ref (ad 3), .ref (ad 4), .ref (ad 5), .ref (ad 6), .ref (ad 7), .ref (ad 8), .ref (ad 9), .ref (ad 10), .ref (ad 11), .ref (ad 12), .int 0, .int (-1), .int 0])), ((ad 1), .inr (9, [.int 0, .int 0, .int 0, .int 0, .ref (ad 14), .ref (ad 15), .ref (ad 16), .ref (ad 17), .ref (ad 18)]))] s.heap.size = A at hD ⊢
  have hA : ∀ q : Nat, s.heap.size ≤ q → A q := fun q h => by rw [← hAe]; exact Or.inr h
  have hS : va_S A s.heap s.heap [] := va_S.rf
  have hl := lv_entry ([.ref h0, .int b, .int w]) (n := 3) (Nat.le_of_ble_eq_true rfl)
  rw [lg_entry_eq]
  generalize (lg_sl ([.ref h0, .int b, .int w]) ++ List.replicate (3 - (lg_sl ([.ref h0, .int b, .int w])).length) Slot.unset).toArray = ls at hl ⊢
  have hl : lv_has ls 3 [(0, .ref h0), (1, .int b), (2, .int w)] := hl
  refine lv_aload_n hx hb dX11_lot_0 rfl (lv_at hl 0 rfl) ?_
  refine lv_iload_n hx hb dX11_lot_1 rfl (lv_at hl 1 rfl) ?_
  have hPc := hP.sub (ws' := [(h0, .inr (11, [.ref (ad 0), .ref (ad 1), .ref (ad 2), .ref (ad 3), .ref (ad 4), .ref (ad 5), .ref (ad 6), .ref (ad 7), .ref (ad 8), .ref (ad 9), .ref (ad 10), .ref (ad 11), .ref (ad 12), .int 0, .int (-1), .int 0])), ((ad 1), .inr (9, [.int 0, .int 0, .int 0, .int 0, .ref (ad 14), .ref (ad 15), .ref (ad 16), .ref (ad 17), .ref (ad 18)]))]) [0, 1] rfl
  have hDc := hD.sub (ws' := [(h0, .inr (11, [.ref (ad 0), .ref (ad 1), .ref (ad 2), .ref (ad 3), .ref (ad 4), .ref (ad 5), .ref (ad 6), .ref (ad 7), .ref (ad 8), .ref (ad 9), .ref (ad 10), .ref (ad 11), .ref (ad 12), .int 0, .int (-1), .int 0])), ((ad 1), .inr (9, [.int 0, .int 0, .int 0, .int 0, .ref (ad 14), .ref (ad 15), .ref (ad 16), .ref (ad 17), .ref (ad 18)]))]) [0, 1] (by decide) rfl
  refine gq_callI (wr := []) (va_runV (As := [.int b]) (rest := []) ⟨hx, hb, hml, hown, ht⟩ (c_S_isLot l G s.heap.size h0 ad b) (cwV 1 ht (ts_gV wd_820 wd_822 wd_15 wd_122 wd_823) rfl rfl rfl (by decide +kernel) ⟨Nat.le_of_ble_eq_true rfl, Nat.le_of_ble_eq_true rfl⟩) (gc_preV (ci := 11) (q0 := 0) hK hPc hDc rfl rfl) rfl rfl hl.1 rfl (lv_room (Nat.le_of_ble_eq_true rfl)) dX11_lot_2 ⟨Nat.le_of_ble_eq_true rfl, Nat.le_of_ble_eq_true rfl⟩) hP hD hS hA [0, 1] [] rfl rfl (by decide) (by decide) (fun r u H locs hw hP hD hS => ?_)
  have hw : r = 0 := hw
  subst hw
  have hP : va_P (gg_D G) classes [(h0, .inr (11, [.ref (ad 0), .ref (ad 1), .ref (ad 2), .ref (ad 3), .ref (ad 4), .ref (ad 5), .ref (ad 6), .ref (ad 7), .ref (ad 8), .ref (ad 9), .ref (ad 10), .ref (ad 11), .ref (ad 12), .int 0, .int (-1), .int 0])), ((ad 1), .inr (9, [.int 0, .int 0, .int 0, .int 0, .ref (ad 14), .ref (ad 15), .ref (ad 16), .ref (ad 17), .ref (ad 18)]))] H := hP
  have hD : va_D A [(h0, .inr (11, [.ref (ad 0), .ref (ad 1), .ref (ad 2), .ref (ad 3), .ref (ad 4), .ref (ad 5), .ref (ad 6), .ref (ad 7), .ref (ad 8), .ref (ad 9), .ref (ad 10), .ref (ad 11), .ref (ad 12), .int 0, .int (-1), .int 0])), ((ad 1), .inr (9, [.int 0, .int 0, .int 0, .int 0, .ref (ad 14), .ref (ad 15), .ref (ad 16), .ref (ad 17), .ref (ad 18)]))] := hD
  refine lv_if_ne (tgt := 11) hx hb dX11_lot_5 (by decide) (fun c0 => absurd (by decide +kernel) c0) (fun _ => ?_)
  refine lv_bipush (v := (-2)) hx hb dX11_lot_8 (by decide +kernel) ?_
  have hP9 := hP.sub (ws' := []) [] rfl
  have hD9 := hD.sub (ws' := []) [] (by decide) rfl
  exact W.iret (v := (-2)) hx hb hr (gq_endI () rfl hP9 hD9 hS) hS.2.2 dX11_lot_10
set_option maxHeartbeats 4000000 in
set_option maxRecDepth 100000 in
theorem c_S_worth (l : Launch) (G : gg_T) (sz : Nat) (h0 : Nat) (ad : Nat → Nat) (b : Int32) (w : Int32) : Met l yX11_worth (ts_L yX11_worth cX11_worth 3 (some .int)) ({ frames := 1, cells := 0, slots := 0, locals := 21 }) (gc_P G [(h0, .inr (11, [.ref (ad 0), .ref (ad 1), .ref (ad 2), .ref (ad 3), .ref (ad 4), .ref (ad 5), .ref (ad 6), .ref (ad 7), .ref (ad 8), .ref (ad 9), .ref (ad 10), .ref (ad 11), .ref (ad 12), .int 0, .int (-1), .int 0])), ((ad 1), .inr (9, [.int 0, .int 0, .int 0, .int 0, .ref (ad 14), .ref (ad 15), .ref (ad 16), .ref (ad 17), .ref (ad 18)]))] sz [.ref h0, .int b, .int w]) (gc_I G (va_A [(h0, .inr (11, [.ref (ad 0), .ref (ad 1), .ref (ad 2), .ref (ad 3), .ref (ad 4), .ref (ad 5), .ref (ad 6), .ref (ad 7), .ref (ad 8), .ref (ad 9), .ref (ad 10), .ref (ad 11), .ref (ad 12), .int 0, .int (-1), .int 0])), ((ad 1), .inr (9, [.int 0, .int 0, .int 0, .int 0, .ref (ad 14), .ref (ad 15), .ref (ad 16), .ref (ad 17), .ref (ad 18)]))] sz) (fun r (_ : Unit) => r = (-1)) (fun _ => [])) 0 0 (va_A [(h0, .inr (11, [.ref (ad 0), .ref (ad 1), .ref (ad 2), .ref (ad 3), .ref (ad 4), .ref (ad 5), .ref (ad 6), .ref (ad 7), .ref (ad 8), .ref (ad 9), .ref (ad 10), .ref (ad 11), .ref (ad 12), .int 0, .int (-1), .int 0])), ((ad 1), .inr (9, [.int 0, .int 0, .int 0, .int 0, .ref (ad 14), .ref (ad 15), .ref (ad 16), .ref (ad 17), .ref (ad 18)]))] sz) := by
  refine Met.ofW (cc := cX11_worth) (maxL := 3) (ret := (some .int)) (by decide) rfl ?_
  intro p e s m args below meth c s₁ B hml hv
  obtain ⟨rfl, hsz, hP, hK, hD0⟩ := hv
  have hx := B.exec
  have hb := B.bytes
  have hr := B.returns
  have ht := ts_ht (atoms_spec (ws := ts_L yX11_worth cX11_worth 3 (some .int)) B.pre)
  have hown : s.vm.findClass RX11 = some m.cls := findClass_of_methodNamed B.named
  have hlocks := B.notSynchronized
  subst hsz
  have hD := hD0.self (sz := s.heap.size)
  generalize hAe : va_A [(h0, .inr (11, [.ref (ad 0), .ref (ad 1), .ref (ad 2), .ref (ad 3), .ref (ad 4), .ref (ad 5), .ref (ad 6), .ref (ad 7), .ref (ad 8), .ref (ad 9), .ref (ad 10), .ref (ad 11), .ref (ad 12), .int 0, .int (-1), .int 0])), ((ad 1), .inr (9, [.int 0, .int 0, .int 0, .int 0, .ref (ad 14), .ref (ad 15), .ref (ad 16), .ref (ad 17), .ref (ad 18)]))] s.heap.size = A at hD ⊢
  have hA : ∀ q : Nat, s.heap.size ≤ q → A q := fun q h => by rw [← hAe]; exact Or.inr h
  have hS : va_S A s.heap s.heap [] := va_S.rf
  have hl := lv_entry ([.ref h0, .int b, .int w]) (n := 3) (Nat.le_of_ble_eq_true rfl)
  rw [lg_entry_eq]
  generalize (lg_sl ([.ref h0, .int b, .int w]) ++ List.replicate (3 - (lg_sl ([.ref h0, .int b, .int w])).length) Slot.unset).toArray = ls at hl ⊢
  have hl : lv_has ls 3 [(0, .ref h0), (1, .int b), (2, .int w)] := hl
  refine lv_aload_n hx hb dX11_worth_0 rfl (lv_at hl 0 rfl) ?_
  refine lv_iload_n hx hb dX11_worth_1 rfl (lv_at hl 1 rfl) ?_
  have hPc := hP.sub (ws' := [(h0, .inr (11, [.ref (ad 0), .ref (ad 1), .ref (ad 2), .ref (ad 3), .ref (ad 4), .ref (ad 5), .ref (ad 6), .ref (ad 7), .ref (ad 8), .ref (ad 9), .ref (ad 10), .ref (ad 11), .ref (ad 12), .int 0, .int (-1), .int 0])), ((ad 1), .inr (9, [.int 0, .int 0, .int 0, .int 0, .ref (ad 14), .ref (ad 15), .ref (ad 16), .ref (ad 17), .ref (ad 18)]))]) [0, 1] rfl
  have hDc := hD.sub (ws' := [(h0, .inr (11, [.ref (ad 0), .ref (ad 1), .ref (ad 2), .ref (ad 3), .ref (ad 4), .ref (ad 5), .ref (ad 6), .ref (ad 7), .ref (ad 8), .ref (ad 9), .ref (ad 10), .ref (ad 11), .ref (ad 12), .int 0, .int (-1), .int 0])), ((ad 1), .inr (9, [.int 0, .int 0, .int 0, .int 0, .ref (ad 14), .ref (ad 15), .ref (ad 16), .ref (ad 17), .ref (ad 18)]))]) [0, 1] (by decide) rfl
  refine gq_callI (wr := []) (va_runV (As := [.int b]) (rest := []) ⟨hx, hb, hml, hown, ht⟩ (c_S_isBidder l G s.heap.size h0 ad b) (cwV 1 ht (ts_gV wd_789 wd_791 wd_14 wd_122 wd_792) rfl rfl rfl (by decide +kernel) ⟨Nat.le_of_ble_eq_true rfl, Nat.le_of_ble_eq_true rfl⟩) (gc_preV (ci := 11) (q0 := 0) hK hPc hDc rfl rfl) rfl rfl hl.1 rfl (lv_room (Nat.le_of_ble_eq_true rfl)) dX11_worth_2 ⟨Nat.le_of_ble_eq_true rfl, Nat.le_of_ble_eq_true rfl⟩) hP hD hS hA [0, 1] [] rfl rfl (by decide) (by decide) (fun r u H locs hw hP hD hS => ?_)
  have hw : r = 0 := hw
  subst hw
  have hP : va_P (gg_D G) classes [(h0, .inr (11, [.ref (ad 0), .ref (ad 1), .ref (ad 2), .ref (ad 3), .ref (ad 4), .ref (ad 5), .ref (ad 6), .ref (ad 7), .ref (ad 8), .ref (ad 9), .ref (ad 10), .ref (ad 11), .ref (ad 12), .int 0, .int (-1), .int 0])), ((ad 1), .inr (9, [.int 0, .int 0, .int 0, .int 0, .ref (ad 14), .ref (ad 15), .ref (ad 16), .ref (ad 17), .ref (ad 18)]))] H := hP
  have hD : va_D A [(h0, .inr (11, [.ref (ad 0), .ref (ad 1), .ref (ad 2), .ref (ad 3), .ref (ad 4), .ref (ad 5), .ref (ad 6), .ref (ad 7), .ref (ad 8), .ref (ad 9), .ref (ad 10), .ref (ad 11), .ref (ad 12), .int 0, .int (-1), .int 0])), ((ad 1), .inr (9, [.int 0, .int 0, .int 0, .int 0, .ref (ad 14), .ref (ad 15), .ref (ad 16), .ref (ad 17), .ref (ad 18)]))] := hD
  refine lv_if_eq (tgt := 28) hx hb dX11_worth_5 (by decide) (fun _ => ?_) (fun c0 => absurd (by decide +kernel) c0)
  refine lv_iconst (v := (-1)) hx hb dX11_worth_28 (by decide) ?_
  have hP9 := hP.sub (ws' := []) [] rfl
  have hD9 := hD.sub (ws' := []) [] (by decide) rfl
  exact W.iret (v := (-1)) hx hb hr (gq_endI () rfl hP9 hD9 hS) hS.2.2 dX11_worth_29
set_option maxHeartbeats 4000000 in
set_option maxRecDepth 100000 in
theorem c_S_trick (l : Launch) (G : gg_T) (sz : Nat) (h0 : Nat) (ad : Nat → Nat) (b : Int32) (w : Int32) : Met l yX11_trick (ts_L yX11_trick cX11_trick 3 (some .int)) ({ frames := 1, cells := 0, slots := 0, locals := 21 }) (gc_P G [(h0, .inr (11, [.ref (ad 0), .ref (ad 1), .ref (ad 2), .ref (ad 3), .ref (ad 4), .ref (ad 5), .ref (ad 6), .ref (ad 7), .ref (ad 8), .ref (ad 9), .ref (ad 10), .ref (ad 11), .ref (ad 12), .int 0, .int (-1), .int 0])), ((ad 1), .inr (9, [.int 0, .int 0, .int 0, .int 0, .ref (ad 14), .ref (ad 15), .ref (ad 16), .ref (ad 17), .ref (ad 18)]))] sz [.ref h0, .int b, .int w]) (gc_I G (va_A [(h0, .inr (11, [.ref (ad 0), .ref (ad 1), .ref (ad 2), .ref (ad 3), .ref (ad 4), .ref (ad 5), .ref (ad 6), .ref (ad 7), .ref (ad 8), .ref (ad 9), .ref (ad 10), .ref (ad 11), .ref (ad 12), .int 0, .int (-1), .int 0])), ((ad 1), .inr (9, [.int 0, .int 0, .int 0, .int 0, .ref (ad 14), .ref (ad 15), .ref (ad 16), .ref (ad 17), .ref (ad 18)]))] sz) (fun r (_ : Unit) => r = (-1)) (fun _ => [])) 0 0 (va_A [(h0, .inr (11, [.ref (ad 0), .ref (ad 1), .ref (ad 2), .ref (ad 3), .ref (ad 4), .ref (ad 5), .ref (ad 6), .ref (ad 7), .ref (ad 8), .ref (ad 9), .ref (ad 10), .ref (ad 11), .ref (ad 12), .int 0, .int (-1), .int 0])), ((ad 1), .inr (9, [.int 0, .int 0, .int 0, .int 0, .ref (ad 14), .ref (ad 15), .ref (ad 16), .ref (ad 17), .ref (ad 18)]))] sz) := by
  refine Met.ofW (cc := cX11_trick) (maxL := 3) (ret := (some .int)) (by decide) rfl ?_
  intro p e s m args below meth c s₁ B hml hv
  obtain ⟨rfl, hsz, hP, hK, hD0⟩ := hv
  have hx := B.exec
  have hb := B.bytes
  have hr := B.returns
  have ht := ts_ht (atoms_spec (ws := ts_L yX11_trick cX11_trick 3 (some .int)) B.pre)
  have hown : s.vm.findClass RX11 = some m.cls := findClass_of_methodNamed B.named
  have hlocks := B.notSynchronized
  subst hsz
  have hD := hD0.self (sz := s.heap.size)
  generalize hAe : va_A [(h0, .inr (11, [.ref (ad 0), .ref (ad 1), .ref (ad 2), .ref (ad 3), .ref (ad 4), .ref (ad 5), .ref (ad 6), .ref (ad 7), .ref (ad 8), .ref (ad 9), .ref (ad 10), .ref (ad 11), .ref (ad 12), .int 0, .int (-1), .int 0])), ((ad 1), .inr (9, [.int 0, .int 0, .int 0, .int 0, .ref (ad 14), .ref (ad 15), .ref (ad 16), .ref (ad 17), .ref (ad 18)]))] s.heap.size = A at hD ⊢
  have hA : ∀ q : Nat, s.heap.size ≤ q → A q := fun q h => by rw [← hAe]; exact Or.inr h
  have hS : va_S A s.heap s.heap [] := va_S.rf
  have hl := lv_entry ([.ref h0, .int b, .int w]) (n := 3) (Nat.le_of_ble_eq_true rfl)
  rw [lg_entry_eq]
  generalize (lg_sl ([.ref h0, .int b, .int w]) ++ List.replicate (3 - (lg_sl ([.ref h0, .int b, .int w])).length) Slot.unset).toArray = ls at hl ⊢
  have hl : lv_has ls 3 [(0, .ref h0), (1, .int b), (2, .int w)] := hl
  refine lv_aload_n hx hb dX11_trick_0 rfl (lv_at hl 0 rfl) ?_
  refine lv_iload_n hx hb dX11_trick_1 rfl (lv_at hl 1 rfl) ?_
  have hPc := hP.sub (ws' := [(h0, .inr (11, [.ref (ad 0), .ref (ad 1), .ref (ad 2), .ref (ad 3), .ref (ad 4), .ref (ad 5), .ref (ad 6), .ref (ad 7), .ref (ad 8), .ref (ad 9), .ref (ad 10), .ref (ad 11), .ref (ad 12), .int 0, .int (-1), .int 0])), ((ad 1), .inr (9, [.int 0, .int 0, .int 0, .int 0, .ref (ad 14), .ref (ad 15), .ref (ad 16), .ref (ad 17), .ref (ad 18)]))]) [0, 1] rfl
  have hDc := hD.sub (ws' := [(h0, .inr (11, [.ref (ad 0), .ref (ad 1), .ref (ad 2), .ref (ad 3), .ref (ad 4), .ref (ad 5), .ref (ad 6), .ref (ad 7), .ref (ad 8), .ref (ad 9), .ref (ad 10), .ref (ad 11), .ref (ad 12), .int 0, .int (-1), .int 0])), ((ad 1), .inr (9, [.int 0, .int 0, .int 0, .int 0, .ref (ad 14), .ref (ad 15), .ref (ad 16), .ref (ad 17), .ref (ad 18)]))]) [0, 1] (by decide) rfl
  refine gq_callI (wr := []) (va_runV (As := [.int b]) (rest := []) ⟨hx, hb, hml, hown, ht⟩ (c_S_isTrick l G s.heap.size h0 ad b) (cwV 1 ht (ts_gV wd_837 wd_839 wd_16 wd_122 wd_840) rfl rfl rfl (by decide +kernel) ⟨Nat.le_of_ble_eq_true rfl, Nat.le_of_ble_eq_true rfl⟩) (gc_preV (ci := 11) (q0 := 0) hK hPc hDc rfl rfl) rfl rfl hl.1 rfl (lv_room (Nat.le_of_ble_eq_true rfl)) dX11_trick_2 ⟨Nat.le_of_ble_eq_true rfl, Nat.le_of_ble_eq_true rfl⟩) hP hD hS hA [0, 1] [] rfl rfl (by decide) (by decide) (fun r u H locs hw hP hD hS => ?_)
  have hw : r = 0 := hw
  subst hw
  have hP : va_P (gg_D G) classes [(h0, .inr (11, [.ref (ad 0), .ref (ad 1), .ref (ad 2), .ref (ad 3), .ref (ad 4), .ref (ad 5), .ref (ad 6), .ref (ad 7), .ref (ad 8), .ref (ad 9), .ref (ad 10), .ref (ad 11), .ref (ad 12), .int 0, .int (-1), .int 0])), ((ad 1), .inr (9, [.int 0, .int 0, .int 0, .int 0, .ref (ad 14), .ref (ad 15), .ref (ad 16), .ref (ad 17), .ref (ad 18)]))] H := hP
  have hD : va_D A [(h0, .inr (11, [.ref (ad 0), .ref (ad 1), .ref (ad 2), .ref (ad 3), .ref (ad 4), .ref (ad 5), .ref (ad 6), .ref (ad 7), .ref (ad 8), .ref (ad 9), .ref (ad 10), .ref (ad 11), .ref (ad 12), .int 0, .int (-1), .int 0])), ((ad 1), .inr (9, [.int 0, .int 0, .int 0, .int 0, .ref (ad 14), .ref (ad 15), .ref (ad 16), .ref (ad 17), .ref (ad 18)]))] := hD
  refine lv_if_eq (tgt := 17) hx hb dX11_trick_5 (by decide) (fun _ => ?_) (fun c0 => absurd (by decide +kernel) c0)
  refine lv_iconst (v := (-1)) hx hb dX11_trick_17 (by decide) ?_
  have hP9 := hP.sub (ws' := []) [] rfl
  have hD9 := hD.sub (ws' := []) [] (by decide) rfl
  exact W.iret (v := (-1)) hx hb hr (gq_endI () rfl hP9 hD9 hS) hS.2.2 dX11_trick_18
set_option maxHeartbeats 4000000 in
set_option maxRecDepth 100000 in
theorem c_S_minute (l : Launch) (G : gg_T) (sz : Nat) (h0 : Nat) (ad : Nat → Nat) : Met l yX11_minute (ts_L yX11_minute cX11_minute 1 (some .int)) ({ frames := 1, cells := 0, slots := 0, locals := 23 }) (gc_P G [(h0, .inr (11, [.ref (ad 0), .ref (ad 1), .ref (ad 2), .ref (ad 3), .ref (ad 4), .ref (ad 5), .ref (ad 6), .ref (ad 7), .ref (ad 8), .ref (ad 9), .ref (ad 10), .ref (ad 11), .ref (ad 12), .int 0, .int (-1), .int 0])), ((ad 3), .inr (7, [.ref (ad 24), .ref (ad 25), .ref (ad 26), .ref (ad 27), .ref (ad 28), .ref (ad 29), .ref (ad 30), .ref (ad 31), .ref (ad 32), .int 0])), ((ad 28), .inl (G.2.2 0, 3, .inl (fun _ => 0)))] sz [.ref h0]) (gc_I G (va_A [(h0, .inr (11, [.ref (ad 0), .ref (ad 1), .ref (ad 2), .ref (ad 3), .ref (ad 4), .ref (ad 5), .ref (ad 6), .ref (ad 7), .ref (ad 8), .ref (ad 9), .ref (ad 10), .ref (ad 11), .ref (ad 12), .int 0, .int (-1), .int 0])), ((ad 3), .inr (7, [.ref (ad 24), .ref (ad 25), .ref (ad 26), .ref (ad 27), .ref (ad 28), .ref (ad 29), .ref (ad 30), .ref (ad 31), .ref (ad 32), .int 0])), ((ad 28), .inl (G.2.2 0, 3, .inl (fun _ => 0)))] sz) (fun r (_ : Unit) => r = (-1)) (fun _ => [])) 0 0 (va_A [(h0, .inr (11, [.ref (ad 0), .ref (ad 1), .ref (ad 2), .ref (ad 3), .ref (ad 4), .ref (ad 5), .ref (ad 6), .ref (ad 7), .ref (ad 8), .ref (ad 9), .ref (ad 10), .ref (ad 11), .ref (ad 12), .int 0, .int (-1), .int 0])), ((ad 3), .inr (7, [.ref (ad 24), .ref (ad 25), .ref (ad 26), .ref (ad 27), .ref (ad 28), .ref (ad 29), .ref (ad 30), .ref (ad 31), .ref (ad 32), .int 0])), ((ad 28), .inl (G.2.2 0, 3, .inl (fun _ => 0)))] sz) := by
  refine Met.ofW (cc := cX11_minute) (maxL := 1) (ret := (some .int)) (by decide) rfl ?_
  intro p e s m args below meth c s₁ B hml hv
  obtain ⟨rfl, hsz, hP, hK, hD0⟩ := hv
  have hx := B.exec
  have hb := B.bytes
  have hr := B.returns
  have ht := ts_ht (atoms_spec (ws := ts_L yX11_minute cX11_minute 1 (some .int)) B.pre)
  have hown : s.vm.findClass RX11 = some m.cls := findClass_of_methodNamed B.named
  have hlocks := B.notSynchronized
  subst hsz
  have hD := hD0.self (sz := s.heap.size)
  generalize hAe : va_A [(h0, .inr (11, [.ref (ad 0), .ref (ad 1), .ref (ad 2), .ref (ad 3), .ref (ad 4), .ref (ad 5), .ref (ad 6), .ref (ad 7), .ref (ad 8), .ref (ad 9), .ref (ad 10), .ref (ad 11), .ref (ad 12), .int 0, .int (-1), .int 0])), ((ad 3), .inr (7, [.ref (ad 24), .ref (ad 25), .ref (ad 26), .ref (ad 27), .ref (ad 28), .ref (ad 29), .ref (ad 30), .ref (ad 31), .ref (ad 32), .int 0])), ((ad 28), .inl (G.2.2 0, 3, .inl (fun _ => 0)))] s.heap.size = A at hD ⊢
  have hA : ∀ q : Nat, s.heap.size ≤ q → A q := fun q h => by rw [← hAe]; exact Or.inr h
  have hS : va_S A s.heap s.heap [] := va_S.rf
  have hl := lv_entry ([.ref h0]) (n := 1) (Nat.le_of_ble_eq_true rfl)
  rw [lg_entry_eq]
  generalize (lg_sl ([.ref h0]) ++ List.replicate (1 - (lg_sl ([.ref h0])).length) Slot.unset).toArray = ls at hl ⊢
  have hl : lv_has ls 1 [(0, .ref h0)] := hl
  refine lv_aload_n hx hb dX11_minute_0 rfl (lv_at hl 0 rfl) ?_
  refine gq_get hx hb ht hown hK hP i_X11 0 rfl rfl 3 (by decide) wd_500 rfl rfl dX11_minute_1 ?_
  refine lv_iconst (v := 1) hx hb dX11_minute_4 (by decide) ?_
  have hPc := hP.sub (ws' := [((ad 3), .inr (7, [.ref (ad 24), .ref (ad 25), .ref (ad 26), .ref (ad 27), .ref (ad 28), .ref (ad 29), .ref (ad 30), .ref (ad 31), .ref (ad 32), .int 0])), ((ad 28), .inl (G.2.2 0, 3, .inl (fun _ => 0)))]) [1, 2] rfl
  have hDc := hD.sub (ws' := [((ad 3), .inr (7, [.ref (ad 24), .ref (ad 25), .ref (ad 26), .ref (ad 27), .ref (ad 28), .ref (ad 29), .ref (ad 30), .ref (ad 31), .ref (ad 32), .int 0])), ((ad 28), .inl (G.2.2 0, 3, .inl (fun _ => 0)))]) [1, 2] (by decide) rfl
  refine gq_callI (wr := [(h0, .inr (11, [.ref (ad 0), .ref (ad 1), .ref (ad 2), .ref (ad 3), .ref (ad 4), .ref (ad 5), .ref (ad 6), .ref (ad 7), .ref (ad 8), .ref (ad 9), .ref (ad 10), .ref (ad 11), .ref (ad 12), .int 0, .int (-1), .int 0]))]) (va_runV (As := [.int 1]) (rest := []) ⟨hx, hb, hml, hown, ht⟩ (c_State_lotsAt1 l G s.heap.size (ad 3) (ad 24) (ad 25) (ad 26) (ad 27) (ad 28) (ad 29) (ad 30) (ad 31) (ad 32)) (cwV 1 ht (ts_gV wd_846 wd_847 wd_848 wd_125 wd_849) rfl rfl rfl (by decide +kernel) ⟨Nat.le_of_ble_eq_true rfl, Nat.le_of_ble_eq_true rfl⟩) (gc_preV (ci := 7) (q0 := 0) hK hPc hDc rfl rfl) rfl rfl hl.1 rfl (lv_room (Nat.le_of_ble_eq_true rfl)) dX11_minute_5 ⟨Nat.le_of_ble_eq_true rfl, Nat.le_of_ble_eq_true rfl⟩) hP hD hS hA [1, 2] [0] rfl rfl (by decide) (by decide) (fun r u H locs hw hP hD hS => ?_)
  have hw : r = 0 := hw
  subst hw
  have hP : va_P (gg_D G) classes [(h0, .inr (11, [.ref (ad 0), .ref (ad 1), .ref (ad 2), .ref (ad 3), .ref (ad 4), .ref (ad 5), .ref (ad 6), .ref (ad 7), .ref (ad 8), .ref (ad 9), .ref (ad 10), .ref (ad 11), .ref (ad 12), .int 0, .int (-1), .int 0])), ((ad 3), .inr (7, [.ref (ad 24), .ref (ad 25), .ref (ad 26), .ref (ad 27), .ref (ad 28), .ref (ad 29), .ref (ad 30), .ref (ad 31), .ref (ad 32), .int 0])), ((ad 28), .inl (G.2.2 0, 3, .inl (fun _ => 0)))] H := hP
  have hD : va_D A [(h0, .inr (11, [.ref (ad 0), .ref (ad 1), .ref (ad 2), .ref (ad 3), .ref (ad 4), .ref (ad 5), .ref (ad 6), .ref (ad 7), .ref (ad 8), .ref (ad 9), .ref (ad 10), .ref (ad 11), .ref (ad 12), .int 0, .int (-1), .int 0])), ((ad 3), .inr (7, [.ref (ad 24), .ref (ad 25), .ref (ad 26), .ref (ad 27), .ref (ad 28), .ref (ad 29), .ref (ad 30), .ref (ad 31), .ref (ad 32), .int 0])), ((ad 28), .inl (G.2.2 0, 3, .inl (fun _ => 0)))] := hD
  refine lv_if_eq (tgt := 24) hx hb dX11_minute_8 (by decide) (fun _ => ?_) (fun c0 => absurd (by decide +kernel) c0)
  refine lv_iconst (v := (-1)) hx hb dX11_minute_24 (by decide) ?_
  have hP9 := hP.sub (ws' := []) [] rfl
  have hD9 := hD.sub (ws' := []) [] (by decide) rfl
  exact W.iret (v := (-1)) hx hb hr (gq_endI () rfl hP9 hD9 hS) hS.2.2 dX11_minute_25
set_option maxHeartbeats 4000000 in
set_option maxRecDepth 100000 in
theorem c_S_sit (l : Launch) (G : gg_T) (sz : Nat) (h0 : Nat) (ad : Nat → Nat) (b : Int32) (w : Int32) : Met l yX11_sit (ts_L yX11_sit cX11_sit 4 (some .int)) ({ frames := 1, cells := 0, slots := 0, locals := 21 }) (gc_P G [(h0, .inr (11, [.ref (ad 0), .ref (ad 1), .ref (ad 2), .ref (ad 3), .ref (ad 4), .ref (ad 5), .ref (ad 6), .ref (ad 7), .ref (ad 8), .ref (ad 9), .ref (ad 10), .ref (ad 11), .ref (ad 12), .int 0, .int (-1), .int 0])), ((ad 1), .inr (9, [.int 0, .int 0, .int 0, .int 0, .ref (ad 14), .ref (ad 15), .ref (ad 16), .ref (ad 17), .ref (ad 18)]))] sz [.ref h0, .int b, .int w]) (gc_I G (va_A [(h0, .inr (11, [.ref (ad 0), .ref (ad 1), .ref (ad 2), .ref (ad 3), .ref (ad 4), .ref (ad 5), .ref (ad 6), .ref (ad 7), .ref (ad 8), .ref (ad 9), .ref (ad 10), .ref (ad 11), .ref (ad 12), .int 0, .int (-1), .int 0])), ((ad 1), .inr (9, [.int 0, .int 0, .int 0, .int 0, .ref (ad 14), .ref (ad 15), .ref (ad 16), .ref (ad 17), .ref (ad 18)]))] sz) (fun r (_ : Unit) => r = (-2)) (fun _ => [])) 0 0 (va_A [(h0, .inr (11, [.ref (ad 0), .ref (ad 1), .ref (ad 2), .ref (ad 3), .ref (ad 4), .ref (ad 5), .ref (ad 6), .ref (ad 7), .ref (ad 8), .ref (ad 9), .ref (ad 10), .ref (ad 11), .ref (ad 12), .int 0, .int (-1), .int 0])), ((ad 1), .inr (9, [.int 0, .int 0, .int 0, .int 0, .ref (ad 14), .ref (ad 15), .ref (ad 16), .ref (ad 17), .ref (ad 18)]))] sz) := by
  refine Met.ofW (cc := cX11_sit) (maxL := 4) (ret := (some .int)) (by decide) rfl ?_
  intro p e s m args below meth c s₁ B hml hv
  obtain ⟨rfl, hsz, hP, hK, hD0⟩ := hv
  have hx := B.exec
  have hb := B.bytes
  have hr := B.returns
  have ht := ts_ht (atoms_spec (ws := ts_L yX11_sit cX11_sit 4 (some .int)) B.pre)
  have hown : s.vm.findClass RX11 = some m.cls := findClass_of_methodNamed B.named
  have hlocks := B.notSynchronized
  subst hsz
  have hD := hD0.self (sz := s.heap.size)
  generalize hAe : va_A [(h0, .inr (11, [.ref (ad 0), .ref (ad 1), .ref (ad 2), .ref (ad 3), .ref (ad 4), .ref (ad 5), .ref (ad 6), .ref (ad 7), .ref (ad 8), .ref (ad 9), .ref (ad 10), .ref (ad 11), .ref (ad 12), .int 0, .int (-1), .int 0])), ((ad 1), .inr (9, [.int 0, .int 0, .int 0, .int 0, .ref (ad 14), .ref (ad 15), .ref (ad 16), .ref (ad 17), .ref (ad 18)]))] s.heap.size = A at hD ⊢
  have hA : ∀ q : Nat, s.heap.size ≤ q → A q := fun q h => by rw [← hAe]; exact Or.inr h
  have hS : va_S A s.heap s.heap [] := va_S.rf
  have hl := lv_entry ([.ref h0, .int b, .int w]) (n := 4) (Nat.le_of_ble_eq_true rfl)
  rw [lg_entry_eq]
  generalize (lg_sl ([.ref h0, .int b, .int w]) ++ List.replicate (4 - (lg_sl ([.ref h0, .int b, .int w])).length) Slot.unset).toArray = ls at hl ⊢
  have hl : lv_has ls 4 [(0, .ref h0), (1, .int b), (2, .int w)] := hl
  refine lv_aload_n hx hb dX11_sit_0 rfl (lv_at hl 0 rfl) ?_
  refine lv_iload_n hx hb dX11_sit_1 rfl (lv_at hl 1 rfl) ?_
  have hPc := hP.sub (ws' := [(h0, .inr (11, [.ref (ad 0), .ref (ad 1), .ref (ad 2), .ref (ad 3), .ref (ad 4), .ref (ad 5), .ref (ad 6), .ref (ad 7), .ref (ad 8), .ref (ad 9), .ref (ad 10), .ref (ad 11), .ref (ad 12), .int 0, .int (-1), .int 0])), ((ad 1), .inr (9, [.int 0, .int 0, .int 0, .int 0, .ref (ad 14), .ref (ad 15), .ref (ad 16), .ref (ad 17), .ref (ad 18)]))]) [0, 1] rfl
  have hDc := hD.sub (ws' := [(h0, .inr (11, [.ref (ad 0), .ref (ad 1), .ref (ad 2), .ref (ad 3), .ref (ad 4), .ref (ad 5), .ref (ad 6), .ref (ad 7), .ref (ad 8), .ref (ad 9), .ref (ad 10), .ref (ad 11), .ref (ad 12), .int 0, .int (-1), .int 0])), ((ad 1), .inr (9, [.int 0, .int 0, .int 0, .int 0, .ref (ad 14), .ref (ad 15), .ref (ad 16), .ref (ad 17), .ref (ad 18)]))]) [0, 1] (by decide) rfl
  refine gq_callI (wr := []) (va_runV (As := [.int b]) (rest := []) ⟨hx, hb, hml, hown, ht⟩ (c_S_isBidder l G s.heap.size h0 ad b) (cwV 1 ht (ts_gV wd_789 wd_791 wd_14 wd_122 wd_792) rfl rfl rfl (by decide +kernel) ⟨Nat.le_of_ble_eq_true rfl, Nat.le_of_ble_eq_true rfl⟩) (gc_preV (ci := 11) (q0 := 0) hK hPc hDc rfl rfl) rfl rfl hl.1 rfl (lv_room (Nat.le_of_ble_eq_true rfl)) dX11_sit_2 ⟨Nat.le_of_ble_eq_true rfl, Nat.le_of_ble_eq_true rfl⟩) hP hD hS hA [0, 1] [] rfl rfl (by decide) (by decide) (fun r u H locs hw hP hD hS => ?_)
  have hw : r = 0 := hw
  subst hw
  have hP : va_P (gg_D G) classes [(h0, .inr (11, [.ref (ad 0), .ref (ad 1), .ref (ad 2), .ref (ad 3), .ref (ad 4), .ref (ad 5), .ref (ad 6), .ref (ad 7), .ref (ad 8), .ref (ad 9), .ref (ad 10), .ref (ad 11), .ref (ad 12), .int 0, .int (-1), .int 0])), ((ad 1), .inr (9, [.int 0, .int 0, .int 0, .int 0, .ref (ad 14), .ref (ad 15), .ref (ad 16), .ref (ad 17), .ref (ad 18)]))] H := hP
  have hD : va_D A [(h0, .inr (11, [.ref (ad 0), .ref (ad 1), .ref (ad 2), .ref (ad 3), .ref (ad 4), .ref (ad 5), .ref (ad 6), .ref (ad 7), .ref (ad 8), .ref (ad 9), .ref (ad 10), .ref (ad 11), .ref (ad 12), .int 0, .int (-1), .int 0])), ((ad 1), .inr (9, [.int 0, .int 0, .int 0, .int 0, .ref (ad 14), .ref (ad 15), .ref (ad 16), .ref (ad 17), .ref (ad 18)]))] := hD
  refine lv_if_eq (tgt := 19) hx hb dX11_sit_5 (by decide) (fun _ => ?_) (fun c0 => absurd (by decide +kernel) c0)
  refine lv_bipush (v := (-2)) hx hb dX11_sit_19 (by decide +kernel) ?_
  have hP9 := hP.sub (ws' := []) [] rfl
  have hD9 := hD.sub (ws' := []) [] (by decide) rfl
  exact W.iret (v := (-2)) hx hb hr (gq_endI () rfl hP9 hD9 hS) hS.2.2 dX11_sit_21
set_option maxHeartbeats 4000000 in
set_option maxRecDepth 100000 in
theorem c_S_bell (l : Launch) (G : gg_T) (sz : Nat) (h0 : Nat) (ad : Nat → Nat) (b : Int32) : Met l yX11_bell (ts_L yX11_bell cX11_bell 2 (some .int)) ({ frames := 1, cells := 0, slots := 0, locals := 21 }) (gc_P G [(h0, .inr (11, [.ref (ad 0), .ref (ad 1), .ref (ad 2), .ref (ad 3), .ref (ad 4), .ref (ad 5), .ref (ad 6), .ref (ad 7), .ref (ad 8), .ref (ad 9), .ref (ad 10), .ref (ad 11), .ref (ad 12), .int 0, .int (-1), .int 0])), ((ad 1), .inr (9, [.int 0, .int 0, .int 0, .int 0, .ref (ad 14), .ref (ad 15), .ref (ad 16), .ref (ad 17), .ref (ad 18)]))] sz [.ref h0, .int b]) (gc_I G (va_A [(h0, .inr (11, [.ref (ad 0), .ref (ad 1), .ref (ad 2), .ref (ad 3), .ref (ad 4), .ref (ad 5), .ref (ad 6), .ref (ad 7), .ref (ad 8), .ref (ad 9), .ref (ad 10), .ref (ad 11), .ref (ad 12), .int 0, .int (-1), .int 0])), ((ad 1), .inr (9, [.int 0, .int 0, .int 0, .int 0, .ref (ad 14), .ref (ad 15), .ref (ad 16), .ref (ad 17), .ref (ad 18)]))] sz) (fun r (_ : Unit) => r = (-1)) (fun _ => [])) 0 0 (va_A [(h0, .inr (11, [.ref (ad 0), .ref (ad 1), .ref (ad 2), .ref (ad 3), .ref (ad 4), .ref (ad 5), .ref (ad 6), .ref (ad 7), .ref (ad 8), .ref (ad 9), .ref (ad 10), .ref (ad 11), .ref (ad 12), .int 0, .int (-1), .int 0])), ((ad 1), .inr (9, [.int 0, .int 0, .int 0, .int 0, .ref (ad 14), .ref (ad 15), .ref (ad 16), .ref (ad 17), .ref (ad 18)]))] sz) := by
  refine Met.ofW (cc := cX11_bell) (maxL := 2) (ret := (some .int)) (by decide) rfl ?_
  intro p e s m args below meth c s₁ B hml hv
  obtain ⟨rfl, hsz, hP, hK, hD0⟩ := hv
  have hx := B.exec
  have hb := B.bytes
  have hr := B.returns
  have ht := ts_ht (atoms_spec (ws := ts_L yX11_bell cX11_bell 2 (some .int)) B.pre)
  have hown : s.vm.findClass RX11 = some m.cls := findClass_of_methodNamed B.named
  have hlocks := B.notSynchronized
  subst hsz
  have hD := hD0.self (sz := s.heap.size)
  generalize hAe : va_A [(h0, .inr (11, [.ref (ad 0), .ref (ad 1), .ref (ad 2), .ref (ad 3), .ref (ad 4), .ref (ad 5), .ref (ad 6), .ref (ad 7), .ref (ad 8), .ref (ad 9), .ref (ad 10), .ref (ad 11), .ref (ad 12), .int 0, .int (-1), .int 0])), ((ad 1), .inr (9, [.int 0, .int 0, .int 0, .int 0, .ref (ad 14), .ref (ad 15), .ref (ad 16), .ref (ad 17), .ref (ad 18)]))] s.heap.size = A at hD ⊢
  have hA : ∀ q : Nat, s.heap.size ≤ q → A q := fun q h => by rw [← hAe]; exact Or.inr h
  have hS : va_S A s.heap s.heap [] := va_S.rf
  have hl := lv_entry ([.ref h0, .int b]) (n := 2) (Nat.le_of_ble_eq_true rfl)
  rw [lg_entry_eq]
  generalize (lg_sl ([.ref h0, .int b]) ++ List.replicate (2 - (lg_sl ([.ref h0, .int b])).length) Slot.unset).toArray = ls at hl ⊢
  have hl : lv_has ls 2 [(0, .ref h0), (1, .int b)] := hl
  refine lv_aload_n hx hb dX11_bell_0 rfl (lv_at hl 0 rfl) ?_
  refine lv_iload_n hx hb dX11_bell_1 rfl (lv_at hl 1 rfl) ?_
  have hPc := hP.sub (ws' := [(h0, .inr (11, [.ref (ad 0), .ref (ad 1), .ref (ad 2), .ref (ad 3), .ref (ad 4), .ref (ad 5), .ref (ad 6), .ref (ad 7), .ref (ad 8), .ref (ad 9), .ref (ad 10), .ref (ad 11), .ref (ad 12), .int 0, .int (-1), .int 0])), ((ad 1), .inr (9, [.int 0, .int 0, .int 0, .int 0, .ref (ad 14), .ref (ad 15), .ref (ad 16), .ref (ad 17), .ref (ad 18)]))]) [0, 1] rfl
  have hDc := hD.sub (ws' := [(h0, .inr (11, [.ref (ad 0), .ref (ad 1), .ref (ad 2), .ref (ad 3), .ref (ad 4), .ref (ad 5), .ref (ad 6), .ref (ad 7), .ref (ad 8), .ref (ad 9), .ref (ad 10), .ref (ad 11), .ref (ad 12), .int 0, .int (-1), .int 0])), ((ad 1), .inr (9, [.int 0, .int 0, .int 0, .int 0, .ref (ad 14), .ref (ad 15), .ref (ad 16), .ref (ad 17), .ref (ad 18)]))]) [0, 1] (by decide) rfl
  refine gq_callI (wr := []) (va_runV (As := [.int b]) (rest := []) ⟨hx, hb, hml, hown, ht⟩ (c_S_isLot l G s.heap.size h0 ad b) (cwV 1 ht (ts_gV wd_820 wd_822 wd_15 wd_122 wd_823) rfl rfl rfl (by decide +kernel) ⟨Nat.le_of_ble_eq_true rfl, Nat.le_of_ble_eq_true rfl⟩) (gc_preV (ci := 11) (q0 := 0) hK hPc hDc rfl rfl) rfl rfl hl.1 rfl (lv_room (Nat.le_of_ble_eq_true rfl)) dX11_bell_2 ⟨Nat.le_of_ble_eq_true rfl, Nat.le_of_ble_eq_true rfl⟩) hP hD hS hA [0, 1] [] rfl rfl (by decide) (by decide) (fun r u H locs hw hP hD hS => ?_)
  have hw : r = 0 := hw
  subst hw
  have hP : va_P (gg_D G) classes [(h0, .inr (11, [.ref (ad 0), .ref (ad 1), .ref (ad 2), .ref (ad 3), .ref (ad 4), .ref (ad 5), .ref (ad 6), .ref (ad 7), .ref (ad 8), .ref (ad 9), .ref (ad 10), .ref (ad 11), .ref (ad 12), .int 0, .int (-1), .int 0])), ((ad 1), .inr (9, [.int 0, .int 0, .int 0, .int 0, .ref (ad 14), .ref (ad 15), .ref (ad 16), .ref (ad 17), .ref (ad 18)]))] H := hP
  have hD : va_D A [(h0, .inr (11, [.ref (ad 0), .ref (ad 1), .ref (ad 2), .ref (ad 3), .ref (ad 4), .ref (ad 5), .ref (ad 6), .ref (ad 7), .ref (ad 8), .ref (ad 9), .ref (ad 10), .ref (ad 11), .ref (ad 12), .int 0, .int (-1), .int 0])), ((ad 1), .inr (9, [.int 0, .int 0, .int 0, .int 0, .ref (ad 14), .ref (ad 15), .ref (ad 16), .ref (ad 17), .ref (ad 18)]))] := hD
  refine lv_if_eq (tgt := 31) hx hb dX11_bell_5 (by decide) (fun _ => ?_) (fun c0 => absurd (by decide +kernel) c0)
  refine lv_iconst (v := (-1)) hx hb dX11_bell_31 (by decide) ?_
  have hP9 := hP.sub (ws' := []) [] rfl
  have hD9 := hD.sub (ws' := []) [] (by decide) rfl
  exact W.iret (v := (-1)) hx hb hr (gq_endI () rfl hP9 hD9 hS) hS.2.2 dX11_bell_32
set_option maxHeartbeats 4000000 in
set_option maxRecDepth 100000 in
theorem c_S_play (l : Launch) (G : gg_T) (sz : Nat) (h0 : Nat) (ad : Nat → Nat) (b : Int32) (w : Int32) (z : Int32) : Met l yX11_play (ts_L yX11_play cX11_play 4 (some .int)) ({ frames := 1, cells := 0, slots := 0, locals := 21 }) (gc_P G [(h0, .inr (11, [.ref (ad 0), .ref (ad 1), .ref (ad 2), .ref (ad 3), .ref (ad 4), .ref (ad 5), .ref (ad 6), .ref (ad 7), .ref (ad 8), .ref (ad 9), .ref (ad 10), .ref (ad 11), .ref (ad 12), .int 0, .int (-1), .int 0])), ((ad 1), .inr (9, [.int 0, .int 0, .int 0, .int 0, .ref (ad 14), .ref (ad 15), .ref (ad 16), .ref (ad 17), .ref (ad 18)]))] sz [.ref h0, .int b, .int w, .int z]) (gc_I G (va_A [(h0, .inr (11, [.ref (ad 0), .ref (ad 1), .ref (ad 2), .ref (ad 3), .ref (ad 4), .ref (ad 5), .ref (ad 6), .ref (ad 7), .ref (ad 8), .ref (ad 9), .ref (ad 10), .ref (ad 11), .ref (ad 12), .int 0, .int (-1), .int 0])), ((ad 1), .inr (9, [.int 0, .int 0, .int 0, .int 0, .ref (ad 14), .ref (ad 15), .ref (ad 16), .ref (ad 17), .ref (ad 18)]))] sz) (fun r (_ : Unit) => r = (-1)) (fun _ => [])) 0 0 (va_A [(h0, .inr (11, [.ref (ad 0), .ref (ad 1), .ref (ad 2), .ref (ad 3), .ref (ad 4), .ref (ad 5), .ref (ad 6), .ref (ad 7), .ref (ad 8), .ref (ad 9), .ref (ad 10), .ref (ad 11), .ref (ad 12), .int 0, .int (-1), .int 0])), ((ad 1), .inr (9, [.int 0, .int 0, .int 0, .int 0, .ref (ad 14), .ref (ad 15), .ref (ad 16), .ref (ad 17), .ref (ad 18)]))] sz) := by
  refine Met.ofW (cc := cX11_play) (maxL := 4) (ret := (some .int)) (by decide) rfl ?_
  intro p e s m args below meth c s₁ B hml hv
  obtain ⟨rfl, hsz, hP, hK, hD0⟩ := hv
  have hx := B.exec
  have hb := B.bytes
  have hr := B.returns
  have ht := ts_ht (atoms_spec (ws := ts_L yX11_play cX11_play 4 (some .int)) B.pre)
  have hown : s.vm.findClass RX11 = some m.cls := findClass_of_methodNamed B.named
  have hlocks := B.notSynchronized
  subst hsz
  have hD := hD0.self (sz := s.heap.size)
  generalize hAe : va_A [(h0, .inr (11, [.ref (ad 0), .ref (ad 1), .ref (ad 2), .ref (ad 3), .ref (ad 4), .ref (ad 5), .ref (ad 6), .ref (ad 7), .ref (ad 8), .ref (ad 9), .ref (ad 10), .ref (ad 11), .ref (ad 12), .int 0, .int (-1), .int 0])), ((ad 1), .inr (9, [.int 0, .int 0, .int 0, .int 0, .ref (ad 14), .ref (ad 15), .ref (ad 16), .ref (ad 17), .ref (ad 18)]))] s.heap.size = A at hD ⊢
  have hA : ∀ q : Nat, s.heap.size ≤ q → A q := fun q h => by rw [← hAe]; exact Or.inr h
  have hS : va_S A s.heap s.heap [] := va_S.rf
  have hl := lv_entry ([.ref h0, .int b, .int w, .int z]) (n := 4) (Nat.le_of_ble_eq_true rfl)
  rw [lg_entry_eq]
  generalize (lg_sl ([.ref h0, .int b, .int w, .int z]) ++ List.replicate (4 - (lg_sl ([.ref h0, .int b, .int w, .int z])).length) Slot.unset).toArray = ls at hl ⊢
  have hl : lv_has ls 4 [(0, .ref h0), (1, .int b), (2, .int w), (3, .int z)] := hl
  refine lv_aload_n hx hb dX11_play_0 rfl (lv_at hl 0 rfl) ?_
  refine lv_iload_n hx hb dX11_play_1 rfl (lv_at hl 1 rfl) ?_
  have hPc := hP.sub (ws' := [(h0, .inr (11, [.ref (ad 0), .ref (ad 1), .ref (ad 2), .ref (ad 3), .ref (ad 4), .ref (ad 5), .ref (ad 6), .ref (ad 7), .ref (ad 8), .ref (ad 9), .ref (ad 10), .ref (ad 11), .ref (ad 12), .int 0, .int (-1), .int 0])), ((ad 1), .inr (9, [.int 0, .int 0, .int 0, .int 0, .ref (ad 14), .ref (ad 15), .ref (ad 16), .ref (ad 17), .ref (ad 18)]))]) [0, 1] rfl
  have hDc := hD.sub (ws' := [(h0, .inr (11, [.ref (ad 0), .ref (ad 1), .ref (ad 2), .ref (ad 3), .ref (ad 4), .ref (ad 5), .ref (ad 6), .ref (ad 7), .ref (ad 8), .ref (ad 9), .ref (ad 10), .ref (ad 11), .ref (ad 12), .int 0, .int (-1), .int 0])), ((ad 1), .inr (9, [.int 0, .int 0, .int 0, .int 0, .ref (ad 14), .ref (ad 15), .ref (ad 16), .ref (ad 17), .ref (ad 18)]))]) [0, 1] (by decide) rfl
  refine gq_callI (wr := []) (va_runV (As := [.int b]) (rest := []) ⟨hx, hb, hml, hown, ht⟩ (c_S_isBidder l G s.heap.size h0 ad b) (cwV 1 ht (ts_gV wd_789 wd_791 wd_14 wd_122 wd_792) rfl rfl rfl (by decide +kernel) ⟨Nat.le_of_ble_eq_true rfl, Nat.le_of_ble_eq_true rfl⟩) (gc_preV (ci := 11) (q0 := 0) hK hPc hDc rfl rfl) rfl rfl hl.1 rfl (lv_room (Nat.le_of_ble_eq_true rfl)) dX11_play_2 ⟨Nat.le_of_ble_eq_true rfl, Nat.le_of_ble_eq_true rfl⟩) hP hD hS hA [0, 1] [] rfl rfl (by decide) (by decide) (fun r u H locs hw hP hD hS => ?_)
  have hw : r = 0 := hw
  subst hw
  have hP : va_P (gg_D G) classes [(h0, .inr (11, [.ref (ad 0), .ref (ad 1), .ref (ad 2), .ref (ad 3), .ref (ad 4), .ref (ad 5), .ref (ad 6), .ref (ad 7), .ref (ad 8), .ref (ad 9), .ref (ad 10), .ref (ad 11), .ref (ad 12), .int 0, .int (-1), .int 0])), ((ad 1), .inr (9, [.int 0, .int 0, .int 0, .int 0, .ref (ad 14), .ref (ad 15), .ref (ad 16), .ref (ad 17), .ref (ad 18)]))] H := hP
  have hD : va_D A [(h0, .inr (11, [.ref (ad 0), .ref (ad 1), .ref (ad 2), .ref (ad 3), .ref (ad 4), .ref (ad 5), .ref (ad 6), .ref (ad 7), .ref (ad 8), .ref (ad 9), .ref (ad 10), .ref (ad 11), .ref (ad 12), .int 0, .int (-1), .int 0])), ((ad 1), .inr (9, [.int 0, .int 0, .int 0, .int 0, .ref (ad 14), .ref (ad 15), .ref (ad 16), .ref (ad 17), .ref (ad 18)]))] := hD
  refine lv_if_eq (tgt := 29) hx hb dX11_play_5 (by decide) (fun _ => ?_) (fun c0 => absurd (by decide +kernel) c0)
  refine lv_iconst (v := (-1)) hx hb dX11_play_29 (by decide) ?_
  have hP9 := hP.sub (ws' := []) [] rfl
  have hD9 := hD.sub (ws' := []) [] (by decide) rfl
  exact W.iret (v := (-1)) hx hb hr (gq_endI () rfl hP9 hD9 hS) hS.2.2 dX11_play_30
set_option maxHeartbeats 4000000 in
set_option maxRecDepth 100000 in
theorem c_S_fire (l : Launch) (G : gg_T) (sz : Nat) (h0 : Nat) (ad : Nat → Nat) (b : Int32) : Met l yX11_fire (ts_L yX11_fire cX11_fire 3 (some .int)) ({ frames := 1, cells := 0, slots := 0, locals := 21 }) (gc_P G [(h0, .inr (11, [.ref (ad 0), .ref (ad 1), .ref (ad 2), .ref (ad 3), .ref (ad 4), .ref (ad 5), .ref (ad 6), .ref (ad 7), .ref (ad 8), .ref (ad 9), .ref (ad 10), .ref (ad 11), .ref (ad 12), .int 0, .int (-1), .int 0])), ((ad 1), .inr (9, [.int 0, .int 0, .int 0, .int 0, .ref (ad 14), .ref (ad 15), .ref (ad 16), .ref (ad 17), .ref (ad 18)]))] sz [.ref h0, .int b]) (gc_I G (va_A [(h0, .inr (11, [.ref (ad 0), .ref (ad 1), .ref (ad 2), .ref (ad 3), .ref (ad 4), .ref (ad 5), .ref (ad 6), .ref (ad 7), .ref (ad 8), .ref (ad 9), .ref (ad 10), .ref (ad 11), .ref (ad 12), .int 0, .int (-1), .int 0])), ((ad 1), .inr (9, [.int 0, .int 0, .int 0, .int 0, .ref (ad 14), .ref (ad 15), .ref (ad 16), .ref (ad 17), .ref (ad 18)]))] sz) (fun r (_ : Unit) => r = (-1)) (fun _ => [])) 0 0 (va_A [(h0, .inr (11, [.ref (ad 0), .ref (ad 1), .ref (ad 2), .ref (ad 3), .ref (ad 4), .ref (ad 5), .ref (ad 6), .ref (ad 7), .ref (ad 8), .ref (ad 9), .ref (ad 10), .ref (ad 11), .ref (ad 12), .int 0, .int (-1), .int 0])), ((ad 1), .inr (9, [.int 0, .int 0, .int 0, .int 0, .ref (ad 14), .ref (ad 15), .ref (ad 16), .ref (ad 17), .ref (ad 18)]))] sz) := by
  refine Met.ofW (cc := cX11_fire) (maxL := 3) (ret := (some .int)) (by decide) rfl ?_
  intro p e s m args below meth c s₁ B hml hv
  obtain ⟨rfl, hsz, hP, hK, hD0⟩ := hv
  have hx := B.exec
  have hb := B.bytes
  have hr := B.returns
  have ht := ts_ht (atoms_spec (ws := ts_L yX11_fire cX11_fire 3 (some .int)) B.pre)
  have hown : s.vm.findClass RX11 = some m.cls := findClass_of_methodNamed B.named
  have hlocks := B.notSynchronized
  subst hsz
  have hD := hD0.self (sz := s.heap.size)
  generalize hAe : va_A [(h0, .inr (11, [.ref (ad 0), .ref (ad 1), .ref (ad 2), .ref (ad 3), .ref (ad 4), .ref (ad 5), .ref (ad 6), .ref (ad 7), .ref (ad 8), .ref (ad 9), .ref (ad 10), .ref (ad 11), .ref (ad 12), .int 0, .int (-1), .int 0])), ((ad 1), .inr (9, [.int 0, .int 0, .int 0, .int 0, .ref (ad 14), .ref (ad 15), .ref (ad 16), .ref (ad 17), .ref (ad 18)]))] s.heap.size = A at hD ⊢
  have hA : ∀ q : Nat, s.heap.size ≤ q → A q := fun q h => by rw [← hAe]; exact Or.inr h
  have hS : va_S A s.heap s.heap [] := va_S.rf
  have hl := lv_entry ([.ref h0, .int b]) (n := 3) (Nat.le_of_ble_eq_true rfl)
  rw [lg_entry_eq]
  generalize (lg_sl ([.ref h0, .int b]) ++ List.replicate (3 - (lg_sl ([.ref h0, .int b])).length) Slot.unset).toArray = ls at hl ⊢
  have hl : lv_has ls 3 [(0, .ref h0), (1, .int b)] := hl
  refine lv_aload_n hx hb dX11_fire_0 rfl (lv_at hl 0 rfl) ?_
  refine lv_iload_n hx hb dX11_fire_1 rfl (lv_at hl 1 rfl) ?_
  have hPc := hP.sub (ws' := [(h0, .inr (11, [.ref (ad 0), .ref (ad 1), .ref (ad 2), .ref (ad 3), .ref (ad 4), .ref (ad 5), .ref (ad 6), .ref (ad 7), .ref (ad 8), .ref (ad 9), .ref (ad 10), .ref (ad 11), .ref (ad 12), .int 0, .int (-1), .int 0])), ((ad 1), .inr (9, [.int 0, .int 0, .int 0, .int 0, .ref (ad 14), .ref (ad 15), .ref (ad 16), .ref (ad 17), .ref (ad 18)]))]) [0, 1] rfl
  have hDc := hD.sub (ws' := [(h0, .inr (11, [.ref (ad 0), .ref (ad 1), .ref (ad 2), .ref (ad 3), .ref (ad 4), .ref (ad 5), .ref (ad 6), .ref (ad 7), .ref (ad 8), .ref (ad 9), .ref (ad 10), .ref (ad 11), .ref (ad 12), .int 0, .int (-1), .int 0])), ((ad 1), .inr (9, [.int 0, .int 0, .int 0, .int 0, .ref (ad 14), .ref (ad 15), .ref (ad 16), .ref (ad 17), .ref (ad 18)]))]) [0, 1] (by decide) rfl
  refine gq_callI (wr := []) (va_runV (As := [.int b]) (rest := []) ⟨hx, hb, hml, hown, ht⟩ (c_S_isLot l G s.heap.size h0 ad b) (cwV 1 ht (ts_gV wd_820 wd_822 wd_15 wd_122 wd_823) rfl rfl rfl (by decide +kernel) ⟨Nat.le_of_ble_eq_true rfl, Nat.le_of_ble_eq_true rfl⟩) (gc_preV (ci := 11) (q0 := 0) hK hPc hDc rfl rfl) rfl rfl hl.1 rfl (lv_room (Nat.le_of_ble_eq_true rfl)) dX11_fire_2 ⟨Nat.le_of_ble_eq_true rfl, Nat.le_of_ble_eq_true rfl⟩) hP hD hS hA [0, 1] [] rfl rfl (by decide) (by decide) (fun r u H locs hw hP hD hS => ?_)
  have hw : r = 0 := hw
  subst hw
  have hP : va_P (gg_D G) classes [(h0, .inr (11, [.ref (ad 0), .ref (ad 1), .ref (ad 2), .ref (ad 3), .ref (ad 4), .ref (ad 5), .ref (ad 6), .ref (ad 7), .ref (ad 8), .ref (ad 9), .ref (ad 10), .ref (ad 11), .ref (ad 12), .int 0, .int (-1), .int 0])), ((ad 1), .inr (9, [.int 0, .int 0, .int 0, .int 0, .ref (ad 14), .ref (ad 15), .ref (ad 16), .ref (ad 17), .ref (ad 18)]))] H := hP
  have hD : va_D A [(h0, .inr (11, [.ref (ad 0), .ref (ad 1), .ref (ad 2), .ref (ad 3), .ref (ad 4), .ref (ad 5), .ref (ad 6), .ref (ad 7), .ref (ad 8), .ref (ad 9), .ref (ad 10), .ref (ad 11), .ref (ad 12), .int 0, .int (-1), .int 0])), ((ad 1), .inr (9, [.int 0, .int 0, .int 0, .int 0, .ref (ad 14), .ref (ad 15), .ref (ad 16), .ref (ad 17), .ref (ad 18)]))] := hD
  refine lv_if_eq (tgt := 21) hx hb dX11_fire_5 (by decide) (fun _ => ?_) (fun c0 => absurd (by decide +kernel) c0)
  refine lv_iconst (v := (-1)) hx hb dX11_fire_21 (by decide) ?_
  have hP9 := hP.sub (ws' := []) [] rfl
  have hD9 := hD.sub (ws' := []) [] (by decide) rfl
  exact W.iret (v := (-1)) hx hb hr (gq_endI () rfl hP9 hD9 hS) hS.2.2 dX11_fire_22
set_option maxHeartbeats 4000000 in
set_option maxRecDepth 100000 in
theorem c_S_undo (l : Launch) (G : gg_T) (sz : Nat) (h0 : Nat) (ad : Nat → Nat) : Met l yX11_undo (ts_L yX11_undo cX11_undo 1 (some .int)) ({ frames := 1, cells := 0, slots := 0, locals := 21 }) (gc_P G [(h0, .inr (11, [.ref (ad 0), .ref (ad 1), .ref (ad 2), .ref (ad 3), .ref (ad 4), .ref (ad 5), .ref (ad 6), .ref (ad 7), .ref (ad 8), .ref (ad 9), .ref (ad 10), .ref (ad 11), .ref (ad 12), .int 0, .int (-1), .int 0])), ((ad 5), .inr (3, [.ref (ad 33), .int 0, .int 0]))] sz [.ref h0]) (gc_I G (va_A [(h0, .inr (11, [.ref (ad 0), .ref (ad 1), .ref (ad 2), .ref (ad 3), .ref (ad 4), .ref (ad 5), .ref (ad 6), .ref (ad 7), .ref (ad 8), .ref (ad 9), .ref (ad 10), .ref (ad 11), .ref (ad 12), .int 0, .int (-1), .int 0])), ((ad 5), .inr (3, [.ref (ad 33), .int 0, .int 0]))] sz) (fun r (_ : Unit) => r = (-1)) (fun _ => [])) 0 0 (va_A [(h0, .inr (11, [.ref (ad 0), .ref (ad 1), .ref (ad 2), .ref (ad 3), .ref (ad 4), .ref (ad 5), .ref (ad 6), .ref (ad 7), .ref (ad 8), .ref (ad 9), .ref (ad 10), .ref (ad 11), .ref (ad 12), .int 0, .int (-1), .int 0])), ((ad 5), .inr (3, [.ref (ad 33), .int 0, .int 0]))] sz) := by
  refine Met.ofW (cc := cX11_undo) (maxL := 1) (ret := (some .int)) (by decide) rfl ?_
  intro p e s m args below meth c s₁ B hml hv
  obtain ⟨rfl, hsz, hP, hK, hD0⟩ := hv
  have hx := B.exec
  have hb := B.bytes
  have hr := B.returns
  have ht := ts_ht (atoms_spec (ws := ts_L yX11_undo cX11_undo 1 (some .int)) B.pre)
  have hown : s.vm.findClass RX11 = some m.cls := findClass_of_methodNamed B.named
  have hlocks := B.notSynchronized
  subst hsz
  have hD := hD0.self (sz := s.heap.size)
  generalize hAe : va_A [(h0, .inr (11, [.ref (ad 0), .ref (ad 1), .ref (ad 2), .ref (ad 3), .ref (ad 4), .ref (ad 5), .ref (ad 6), .ref (ad 7), .ref (ad 8), .ref (ad 9), .ref (ad 10), .ref (ad 11), .ref (ad 12), .int 0, .int (-1), .int 0])), ((ad 5), .inr (3, [.ref (ad 33), .int 0, .int 0]))] s.heap.size = A at hD ⊢
  have hA : ∀ q : Nat, s.heap.size ≤ q → A q := fun q h => by rw [← hAe]; exact Or.inr h
  have hS : va_S A s.heap s.heap [] := va_S.rf
  have hl := lv_entry ([.ref h0]) (n := 1) (Nat.le_of_ble_eq_true rfl)
  rw [lg_entry_eq]
  generalize (lg_sl ([.ref h0]) ++ List.replicate (1 - (lg_sl ([.ref h0])).length) Slot.unset).toArray = ls at hl ⊢
  have hl : lv_has ls 1 [(0, .ref h0)] := hl
  refine lv_aload_n hx hb dX11_undo_0 rfl (lv_at hl 0 rfl) ?_
  refine gq_get hx hb ht hown hK hP i_X11 0 rfl rfl 5 (by decide) wd_502 rfl rfl dX11_undo_1 ?_
  refine lv_aload_n hx hb dX11_undo_4 rfl (lv_at hl 0 rfl) ?_
  refine gq_get hx hb ht hown hK hP i_X11 0 rfl rfl 3 (by decide) wd_500 rfl rfl dX11_undo_5 ?_
  have hPc := hP.sub (ws' := [((ad 5), .inr (3, [.ref (ad 33), .int 0, .int 0]))]) [1] rfl
  have hDc := hD.sub (ws' := [((ad 5), .inr (3, [.ref (ad 33), .int 0, .int 0]))]) [1] (by decide) rfl
  refine gq_callI (wr := [(h0, .inr (11, [.ref (ad 0), .ref (ad 1), .ref (ad 2), .ref (ad 3), .ref (ad 4), .ref (ad 5), .ref (ad 6), .ref (ad 7), .ref (ad 8), .ref (ad 9), .ref (ad 10), .ref (ad 11), .ref (ad 12), .int 0, .int (-1), .int 0]))]) (va_runV (As := [.ref (ad 3)]) (rest := []) ⟨hx, hb, hml, hown, ht⟩ (c_Past_takeBack l G s.heap.size (ad 5) (ad 33) (ad 3)) (cwV 1 ht (ts_gV wd_976 wd_977 wd_978 wd_126 wd_979) rfl rfl rfl (by decide +kernel) ⟨Nat.le_of_ble_eq_true rfl, Nat.le_of_ble_eq_true rfl⟩) (gc_preV (ci := 3) (q0 := 0) hK hPc hDc rfl rfl) rfl rfl hl.1 rfl (lv_room (Nat.le_of_ble_eq_true rfl)) dX11_undo_8 ⟨Nat.le_of_ble_eq_true rfl, Nat.le_of_ble_eq_true rfl⟩) hP hD hS hA [1] [0] rfl rfl (by decide) (by decide) (fun r u H locs hw hP hD hS => ?_)
  have hw : r = 0 := hw
  subst hw
  have hP : va_P (gg_D G) classes [(h0, .inr (11, [.ref (ad 0), .ref (ad 1), .ref (ad 2), .ref (ad 3), .ref (ad 4), .ref (ad 5), .ref (ad 6), .ref (ad 7), .ref (ad 8), .ref (ad 9), .ref (ad 10), .ref (ad 11), .ref (ad 12), .int 0, .int (-1), .int 0])), ((ad 5), .inr (3, [.ref (ad 33), .int 0, .int 0]))] H := hP
  have hD : va_D A [(h0, .inr (11, [.ref (ad 0), .ref (ad 1), .ref (ad 2), .ref (ad 3), .ref (ad 4), .ref (ad 5), .ref (ad 6), .ref (ad 7), .ref (ad 8), .ref (ad 9), .ref (ad 10), .ref (ad 11), .ref (ad 12), .int 0, .int (-1), .int 0])), ((ad 5), .inr (3, [.ref (ad 33), .int 0, .int 0]))] := hD
  refine lv_if_eq (tgt := 24) hx hb dX11_undo_11 (by decide) (fun _ => ?_) (fun c0 => absurd (by decide +kernel) c0)
  refine lv_iconst (v := (-1)) hx hb dX11_undo_24 (by decide) ?_
  have hP9 := hP.sub (ws' := []) [] rfl
  have hD9 := hD.sub (ws' := []) [] (by decide) rfl
  exact W.iret (v := (-1)) hx hb hr (gq_endI () rfl hP9 hD9 hS) hS.2.2 dX11_undo_25
set_option maxHeartbeats 4000000 in
set_option maxRecDepth 100000 in
theorem c_S_ahead (l : Launch) (G : gg_T) (sz : Nat) (h0 : Nat) (ad : Nat → Nat) (b : Int32) (w : Int32) (z : Int32) : Met l yX11_ahead (ts_L yX11_ahead cX11_ahead 4 (some .int)) ({ frames := 1, cells := 0, slots := 0, locals := 20 }) (gc_P G [(h0, .inr (11, [.ref (ad 0), .ref (ad 1), .ref (ad 2), .ref (ad 3), .ref (ad 4), .ref (ad 5), .ref (ad 6), .ref (ad 7), .ref (ad 8), .ref (ad 9), .ref (ad 10), .ref (ad 11), .ref (ad 12), .int 0, .int (-1), .int 0])), ((ad 1), .inr (9, [.int 0, .int 0, .int 0, .int 0, .ref (ad 14), .ref (ad 15), .ref (ad 16), .ref (ad 17), .ref (ad 18)]))] sz [.ref h0, .int b, .int w, .int z]) (gc_I G (va_A [(h0, .inr (11, [.ref (ad 0), .ref (ad 1), .ref (ad 2), .ref (ad 3), .ref (ad 4), .ref (ad 5), .ref (ad 6), .ref (ad 7), .ref (ad 8), .ref (ad 9), .ref (ad 10), .ref (ad 11), .ref (ad 12), .int 0, .int (-1), .int 0])), ((ad 1), .inr (9, [.int 0, .int 0, .int 0, .int 0, .ref (ad 14), .ref (ad 15), .ref (ad 16), .ref (ad 17), .ref (ad 18)]))] sz) (fun r (_ : Unit) => r = (-1000)) (fun _ => [])) 0 0 (va_A [(h0, .inr (11, [.ref (ad 0), .ref (ad 1), .ref (ad 2), .ref (ad 3), .ref (ad 4), .ref (ad 5), .ref (ad 6), .ref (ad 7), .ref (ad 8), .ref (ad 9), .ref (ad 10), .ref (ad 11), .ref (ad 12), .int 0, .int (-1), .int 0])), ((ad 1), .inr (9, [.int 0, .int 0, .int 0, .int 0, .ref (ad 14), .ref (ad 15), .ref (ad 16), .ref (ad 17), .ref (ad 18)]))] sz) := by
  refine Met.ofW (cc := cX11_ahead) (maxL := 4) (ret := (some .int)) (by decide) rfl ?_
  intro p e s m args below meth c s₁ B hml hv
  obtain ⟨rfl, hsz, hP, hK, hD0⟩ := hv
  have hx := B.exec
  have hb := B.bytes
  have hr := B.returns
  have ht := ts_ht (atoms_spec (ws := ts_L yX11_ahead cX11_ahead 4 (some .int)) B.pre)
  have hown : s.vm.findClass RX11 = some m.cls := findClass_of_methodNamed B.named
  have hlocks := B.notSynchronized
  subst hsz
  have hD := hD0.self (sz := s.heap.size)
  generalize hAe : va_A [(h0, .inr (11, [.ref (ad 0), .ref (ad 1), .ref (ad 2), .ref (ad 3), .ref (ad 4), .ref (ad 5), .ref (ad 6), .ref (ad 7), .ref (ad 8), .ref (ad 9), .ref (ad 10), .ref (ad 11), .ref (ad 12), .int 0, .int (-1), .int 0])), ((ad 1), .inr (9, [.int 0, .int 0, .int 0, .int 0, .ref (ad 14), .ref (ad 15), .ref (ad 16), .ref (ad 17), .ref (ad 18)]))] s.heap.size = A at hD ⊢
  have hA : ∀ q : Nat, s.heap.size ≤ q → A q := fun q h => by rw [← hAe]; exact Or.inr h
  have hS : va_S A s.heap s.heap [] := va_S.rf
  have hl := lv_entry ([.ref h0, .int b, .int w, .int z]) (n := 4) (Nat.le_of_ble_eq_true rfl)
  rw [lg_entry_eq]
  generalize (lg_sl ([.ref h0, .int b, .int w, .int z]) ++ List.replicate (4 - (lg_sl ([.ref h0, .int b, .int w, .int z])).length) Slot.unset).toArray = ls at hl ⊢
  have hl : lv_has ls 4 [(0, .ref h0), (1, .int b), (2, .int w), (3, .int z)] := hl
  refine lv_aload_n hx hb dX11_ahead_0 rfl (lv_at hl 0 rfl) ?_
  have hPc := hP.sub (ws' := [(h0, .inr (11, [.ref (ad 0), .ref (ad 1), .ref (ad 2), .ref (ad 3), .ref (ad 4), .ref (ad 5), .ref (ad 6), .ref (ad 7), .ref (ad 8), .ref (ad 9), .ref (ad 10), .ref (ad 11), .ref (ad 12), .int 0, .int (-1), .int 0])), ((ad 1), .inr (9, [.int 0, .int 0, .int 0, .int 0, .ref (ad 14), .ref (ad 15), .ref (ad 16), .ref (ad 17), .ref (ad 18)]))]) [0, 1] rfl
  have hDc := hD.sub (ws' := [(h0, .inr (11, [.ref (ad 0), .ref (ad 1), .ref (ad 2), .ref (ad 3), .ref (ad 4), .ref (ad 5), .ref (ad 6), .ref (ad 7), .ref (ad 8), .ref (ad 9), .ref (ad 10), .ref (ad 11), .ref (ad 12), .int 0, .int (-1), .int 0])), ((ad 1), .inr (9, [.int 0, .int 0, .int 0, .int 0, .ref (ad 14), .ref (ad 15), .ref (ad 16), .ref (ad 17), .ref (ad 18)]))]) [0, 1] (by decide) rfl
  refine gq_callI (wr := []) (va_runV (As := []) (rest := []) ⟨hx, hb, hml, hown, ht⟩ (c_S_isTold l G s.heap.size h0 ad) (cwV 0 ht (ts_gV wd_984 wd_986 wd_21 wd_122 wd_987) rfl rfl rfl (by decide +kernel) ⟨Nat.le_of_ble_eq_true rfl, Nat.le_of_ble_eq_true rfl⟩) (gc_preV (ci := 11) (q0 := 0) hK hPc hDc rfl rfl) rfl rfl hl.1 rfl (lv_room (Nat.le_of_ble_eq_true rfl)) dX11_ahead_1 ⟨Nat.le_of_ble_eq_true rfl, Nat.le_of_ble_eq_true rfl⟩) hP hD hS hA [0, 1] [] rfl rfl (by decide) (by decide) (fun r u H locs hw hP hD hS => ?_)
  have hw : r = 0 := hw
  subst hw
  have hP : va_P (gg_D G) classes [(h0, .inr (11, [.ref (ad 0), .ref (ad 1), .ref (ad 2), .ref (ad 3), .ref (ad 4), .ref (ad 5), .ref (ad 6), .ref (ad 7), .ref (ad 8), .ref (ad 9), .ref (ad 10), .ref (ad 11), .ref (ad 12), .int 0, .int (-1), .int 0])), ((ad 1), .inr (9, [.int 0, .int 0, .int 0, .int 0, .ref (ad 14), .ref (ad 15), .ref (ad 16), .ref (ad 17), .ref (ad 18)]))] H := hP
  have hD : va_D A [(h0, .inr (11, [.ref (ad 0), .ref (ad 1), .ref (ad 2), .ref (ad 3), .ref (ad 4), .ref (ad 5), .ref (ad 6), .ref (ad 7), .ref (ad 8), .ref (ad 9), .ref (ad 10), .ref (ad 11), .ref (ad 12), .int 0, .int (-1), .int 0])), ((ad 1), .inr (9, [.int 0, .int 0, .int 0, .int 0, .ref (ad 14), .ref (ad 15), .ref (ad 16), .ref (ad 17), .ref (ad 18)]))] := hD
  refine lv_if_eq (tgt := 27) hx hb dX11_ahead_4 (by decide) (fun _ => ?_) (fun c0 => absurd (by decide +kernel) c0)
  refine lv_sipush (v := (-1000)) hx hb dX11_ahead_27 (by decide +kernel) ?_
  have hP9 := hP.sub (ws' := []) [] rfl
  have hD9 := hD.sub (ws' := []) [] (by decide) rfl
  exact W.iret (v := (-1000)) hx hb hr (gq_endI () rfl hP9 hD9 hS) hS.2.2 dX11_ahead_30
set_option maxHeartbeats 4000000 in
set_option maxRecDepth 100000 in
theorem c_S_ends (l : Launch) (G : gg_T) (sz : Nat) (h0 : Nat) (ad : Nat → Nat) (b : Int32) (w : Int32) : Met l yX11_ends (ts_L yX11_ends cX11_ends 3 (some .int)) ({ frames := 1, cells := 0, slots := 0, locals := 21 }) (gc_P G [(h0, .inr (11, [.ref (ad 0), .ref (ad 1), .ref (ad 2), .ref (ad 3), .ref (ad 4), .ref (ad 5), .ref (ad 6), .ref (ad 7), .ref (ad 8), .ref (ad 9), .ref (ad 10), .ref (ad 11), .ref (ad 12), .int 0, .int (-1), .int 0])), ((ad 1), .inr (9, [.int 0, .int 0, .int 0, .int 0, .ref (ad 14), .ref (ad 15), .ref (ad 16), .ref (ad 17), .ref (ad 18)]))] sz [.ref h0, .int b, .int w]) (gc_I G (va_A [(h0, .inr (11, [.ref (ad 0), .ref (ad 1), .ref (ad 2), .ref (ad 3), .ref (ad 4), .ref (ad 5), .ref (ad 6), .ref (ad 7), .ref (ad 8), .ref (ad 9), .ref (ad 10), .ref (ad 11), .ref (ad 12), .int 0, .int (-1), .int 0])), ((ad 1), .inr (9, [.int 0, .int 0, .int 0, .int 0, .ref (ad 14), .ref (ad 15), .ref (ad 16), .ref (ad 17), .ref (ad 18)]))] sz) (fun r (_ : Unit) => r = (-2)) (fun _ => [])) 0 0 (va_A [(h0, .inr (11, [.ref (ad 0), .ref (ad 1), .ref (ad 2), .ref (ad 3), .ref (ad 4), .ref (ad 5), .ref (ad 6), .ref (ad 7), .ref (ad 8), .ref (ad 9), .ref (ad 10), .ref (ad 11), .ref (ad 12), .int 0, .int (-1), .int 0])), ((ad 1), .inr (9, [.int 0, .int 0, .int 0, .int 0, .ref (ad 14), .ref (ad 15), .ref (ad 16), .ref (ad 17), .ref (ad 18)]))] sz) := by
  refine Met.ofW (cc := cX11_ends) (maxL := 3) (ret := (some .int)) (by decide) rfl ?_
  intro p e s m args below meth c s₁ B hml hv
  obtain ⟨rfl, hsz, hP, hK, hD0⟩ := hv
  have hx := B.exec
  have hb := B.bytes
  have hr := B.returns
  have ht := ts_ht (atoms_spec (ws := ts_L yX11_ends cX11_ends 3 (some .int)) B.pre)
  have hown : s.vm.findClass RX11 = some m.cls := findClass_of_methodNamed B.named
  have hlocks := B.notSynchronized
  subst hsz
  have hD := hD0.self (sz := s.heap.size)
  generalize hAe : va_A [(h0, .inr (11, [.ref (ad 0), .ref (ad 1), .ref (ad 2), .ref (ad 3), .ref (ad 4), .ref (ad 5), .ref (ad 6), .ref (ad 7), .ref (ad 8), .ref (ad 9), .ref (ad 10), .ref (ad 11), .ref (ad 12), .int 0, .int (-1), .int 0])), ((ad 1), .inr (9, [.int 0, .int 0, .int 0, .int 0, .ref (ad 14), .ref (ad 15), .ref (ad 16), .ref (ad 17), .ref (ad 18)]))] s.heap.size = A at hD ⊢
  have hA : ∀ q : Nat, s.heap.size ≤ q → A q := fun q h => by rw [← hAe]; exact Or.inr h
  have hS : va_S A s.heap s.heap [] := va_S.rf
  have hl := lv_entry ([.ref h0, .int b, .int w]) (n := 3) (Nat.le_of_ble_eq_true rfl)
  rw [lg_entry_eq]
  generalize (lg_sl ([.ref h0, .int b, .int w]) ++ List.replicate (3 - (lg_sl ([.ref h0, .int b, .int w])).length) Slot.unset).toArray = ls at hl ⊢
  have hl : lv_has ls 3 [(0, .ref h0), (1, .int b), (2, .int w)] := hl
  refine lv_aload_n hx hb dX11_ends_0 rfl (lv_at hl 0 rfl) ?_
  refine lv_iload_n hx hb dX11_ends_1 rfl (lv_at hl 1 rfl) ?_
  have hPc := hP.sub (ws' := [(h0, .inr (11, [.ref (ad 0), .ref (ad 1), .ref (ad 2), .ref (ad 3), .ref (ad 4), .ref (ad 5), .ref (ad 6), .ref (ad 7), .ref (ad 8), .ref (ad 9), .ref (ad 10), .ref (ad 11), .ref (ad 12), .int 0, .int (-1), .int 0])), ((ad 1), .inr (9, [.int 0, .int 0, .int 0, .int 0, .ref (ad 14), .ref (ad 15), .ref (ad 16), .ref (ad 17), .ref (ad 18)]))]) [0, 1] rfl
  have hDc := hD.sub (ws' := [(h0, .inr (11, [.ref (ad 0), .ref (ad 1), .ref (ad 2), .ref (ad 3), .ref (ad 4), .ref (ad 5), .ref (ad 6), .ref (ad 7), .ref (ad 8), .ref (ad 9), .ref (ad 10), .ref (ad 11), .ref (ad 12), .int 0, .int (-1), .int 0])), ((ad 1), .inr (9, [.int 0, .int 0, .int 0, .int 0, .ref (ad 14), .ref (ad 15), .ref (ad 16), .ref (ad 17), .ref (ad 18)]))]) [0, 1] (by decide) rfl
  refine gq_callI (wr := []) (va_runV (As := [.int b]) (rest := []) ⟨hx, hb, hml, hown, ht⟩ (c_S_isLot l G s.heap.size h0 ad b) (cwV 1 ht (ts_gV wd_820 wd_822 wd_15 wd_122 wd_823) rfl rfl rfl (by decide +kernel) ⟨Nat.le_of_ble_eq_true rfl, Nat.le_of_ble_eq_true rfl⟩) (gc_preV (ci := 11) (q0 := 0) hK hPc hDc rfl rfl) rfl rfl hl.1 rfl (lv_room (Nat.le_of_ble_eq_true rfl)) dX11_ends_2 ⟨Nat.le_of_ble_eq_true rfl, Nat.le_of_ble_eq_true rfl⟩) hP hD hS hA [0, 1] [] rfl rfl (by decide) (by decide) (fun r u H locs hw hP hD hS => ?_)
  have hw : r = 0 := hw
  subst hw
  have hP : va_P (gg_D G) classes [(h0, .inr (11, [.ref (ad 0), .ref (ad 1), .ref (ad 2), .ref (ad 3), .ref (ad 4), .ref (ad 5), .ref (ad 6), .ref (ad 7), .ref (ad 8), .ref (ad 9), .ref (ad 10), .ref (ad 11), .ref (ad 12), .int 0, .int (-1), .int 0])), ((ad 1), .inr (9, [.int 0, .int 0, .int 0, .int 0, .ref (ad 14), .ref (ad 15), .ref (ad 16), .ref (ad 17), .ref (ad 18)]))] H := hP
  have hD : va_D A [(h0, .inr (11, [.ref (ad 0), .ref (ad 1), .ref (ad 2), .ref (ad 3), .ref (ad 4), .ref (ad 5), .ref (ad 6), .ref (ad 7), .ref (ad 8), .ref (ad 9), .ref (ad 10), .ref (ad 11), .ref (ad 12), .int 0, .int (-1), .int 0])), ((ad 1), .inr (9, [.int 0, .int 0, .int 0, .int 0, .ref (ad 14), .ref (ad 15), .ref (ad 16), .ref (ad 17), .ref (ad 18)]))] := hD
  refine lv_if_eq (tgt := 30) hx hb dX11_ends_5 (by decide) (fun _ => ?_) (fun c0 => absurd (by decide +kernel) c0)
  refine lv_bipush (v := (-2)) hx hb dX11_ends_30 (by decide +kernel) ?_
  have hP9 := hP.sub (ws' := []) [] rfl
  have hD9 := hD.sub (ws' := []) [] (by decide) rfl
  exact W.iret (v := (-2)) hx hb hr (gq_endI () rfl hP9 hD9 hS) hS.2.2 dX11_ends_32
set_option maxHeartbeats 4000000 in
set_option maxRecDepth 100000 in
theorem c_S_hold (l : Launch) (G : gg_T) (sz : Nat) (h0 : Nat) (ad : Nat → Nat) (b : Int32) (w : Int32) : Met l yX11_hold (ts_L yX11_hold cX11_hold 6 (some .int)) ({ frames := 2, cells := 0, slots := 0, locals := 42 }) (gc_P G [(h0, .inr (11, [.ref (ad 0), .ref (ad 1), .ref (ad 2), .ref (ad 3), .ref (ad 4), .ref (ad 5), .ref (ad 6), .ref (ad 7), .ref (ad 8), .ref (ad 9), .ref (ad 10), .ref (ad 11), .ref (ad 12), .int 0, .int (-1), .int 0])), ((ad 1), .inr (9, [.int 0, .int 0, .int 0, .int 0, .ref (ad 14), .ref (ad 15), .ref (ad 16), .ref (ad 17), .ref (ad 18)]))] sz [.ref h0, .int b, .int w]) (gc_I G (va_A [(h0, .inr (11, [.ref (ad 0), .ref (ad 1), .ref (ad 2), .ref (ad 3), .ref (ad 4), .ref (ad 5), .ref (ad 6), .ref (ad 7), .ref (ad 8), .ref (ad 9), .ref (ad 10), .ref (ad 11), .ref (ad 12), .int 0, .int (-1), .int 0])), ((ad 1), .inr (9, [.int 0, .int 0, .int 0, .int 0, .ref (ad 14), .ref (ad 15), .ref (ad 16), .ref (ad 17), .ref (ad 18)]))] sz) (fun r (_ : Unit) => r = (-1000)) (fun _ => [])) 0 0 (va_A [(h0, .inr (11, [.ref (ad 0), .ref (ad 1), .ref (ad 2), .ref (ad 3), .ref (ad 4), .ref (ad 5), .ref (ad 6), .ref (ad 7), .ref (ad 8), .ref (ad 9), .ref (ad 10), .ref (ad 11), .ref (ad 12), .int 0, .int (-1), .int 0])), ((ad 1), .inr (9, [.int 0, .int 0, .int 0, .int 0, .ref (ad 14), .ref (ad 15), .ref (ad 16), .ref (ad 17), .ref (ad 18)]))] sz) := by
  refine Met.ofW (cc := cX11_hold) (maxL := 6) (ret := (some .int)) (by decide) rfl ?_
  intro p e s m args below meth c s₁ B hml hv
  obtain ⟨rfl, hsz, hP, hK, hD0⟩ := hv
  have hx := B.exec
  have hb := B.bytes
  have hr := B.returns
  have ht := ts_ht (atoms_spec (ws := ts_L yX11_hold cX11_hold 6 (some .int)) B.pre)
  have hown : s.vm.findClass RX11 = some m.cls := findClass_of_methodNamed B.named
  have hlocks := B.notSynchronized
  subst hsz
  have hD := hD0.self (sz := s.heap.size)
  generalize hAe : va_A [(h0, .inr (11, [.ref (ad 0), .ref (ad 1), .ref (ad 2), .ref (ad 3), .ref (ad 4), .ref (ad 5), .ref (ad 6), .ref (ad 7), .ref (ad 8), .ref (ad 9), .ref (ad 10), .ref (ad 11), .ref (ad 12), .int 0, .int (-1), .int 0])), ((ad 1), .inr (9, [.int 0, .int 0, .int 0, .int 0, .ref (ad 14), .ref (ad 15), .ref (ad 16), .ref (ad 17), .ref (ad 18)]))] s.heap.size = A at hD ⊢
  have hA : ∀ q : Nat, s.heap.size ≤ q → A q := fun q h => by rw [← hAe]; exact Or.inr h
  have hS : va_S A s.heap s.heap [] := va_S.rf
  have hl := lv_entry ([.ref h0, .int b, .int w]) (n := 6) (Nat.le_of_ble_eq_true rfl)
  rw [lg_entry_eq]
  generalize (lg_sl ([.ref h0, .int b, .int w]) ++ List.replicate (6 - (lg_sl ([.ref h0, .int b, .int w])).length) Slot.unset).toArray = ls at hl ⊢
  have hl : lv_has ls 6 [(0, .ref h0), (1, .int b), (2, .int w)] := hl
  refine lv_aload_n hx hb dX11_hold_0 rfl (lv_at hl 0 rfl) ?_
  refine lv_iload_n hx hb dX11_hold_1 rfl (lv_at hl 1 rfl) ?_
  have hPc := hP.sub (ws' := [(h0, .inr (11, [.ref (ad 0), .ref (ad 1), .ref (ad 2), .ref (ad 3), .ref (ad 4), .ref (ad 5), .ref (ad 6), .ref (ad 7), .ref (ad 8), .ref (ad 9), .ref (ad 10), .ref (ad 11), .ref (ad 12), .int 0, .int (-1), .int 0])), ((ad 1), .inr (9, [.int 0, .int 0, .int 0, .int 0, .ref (ad 14), .ref (ad 15), .ref (ad 16), .ref (ad 17), .ref (ad 18)]))]) [0, 1] rfl
  have hDc := hD.sub (ws' := [(h0, .inr (11, [.ref (ad 0), .ref (ad 1), .ref (ad 2), .ref (ad 3), .ref (ad 4), .ref (ad 5), .ref (ad 6), .ref (ad 7), .ref (ad 8), .ref (ad 9), .ref (ad 10), .ref (ad 11), .ref (ad 12), .int 0, .int (-1), .int 0])), ((ad 1), .inr (9, [.int 0, .int 0, .int 0, .int 0, .ref (ad 14), .ref (ad 15), .ref (ad 16), .ref (ad 17), .ref (ad 18)]))]) [0, 1] (by decide) rfl
  refine gq_callI (wr := []) (va_runV (As := [.int b]) (rest := []) ⟨hx, hb, hml, hown, ht⟩ (c_S_roomOf l G s.heap.size h0 ad b) (cwV 1 ht (ts_gV wd_1011 wd_1013 wd_23 wd_122 wd_1014) rfl rfl rfl (by decide +kernel) ⟨Nat.le_of_ble_eq_true rfl, Nat.le_of_ble_eq_true rfl⟩) (gc_preV (ci := 11) (q0 := 0) hK hPc hDc rfl rfl) rfl rfl hl.1 rfl (lv_room (Nat.le_of_ble_eq_true rfl)) dX11_hold_2 ⟨Nat.le_of_ble_eq_true rfl, Nat.le_of_ble_eq_true rfl⟩) hP hD hS hA [0, 1] [] rfl rfl (by decide) (by decide) (fun r u H locs hw hP hD hS => ?_)
  have hw : r = (-1) := hw
  subst hw
  have hP : va_P (gg_D G) classes [(h0, .inr (11, [.ref (ad 0), .ref (ad 1), .ref (ad 2), .ref (ad 3), .ref (ad 4), .ref (ad 5), .ref (ad 6), .ref (ad 7), .ref (ad 8), .ref (ad 9), .ref (ad 10), .ref (ad 11), .ref (ad 12), .int 0, .int (-1), .int 0])), ((ad 1), .inr (9, [.int 0, .int 0, .int 0, .int 0, .ref (ad 14), .ref (ad 15), .ref (ad 16), .ref (ad 17), .ref (ad 18)]))] H := hP
  have hD : va_D A [(h0, .inr (11, [.ref (ad 0), .ref (ad 1), .ref (ad 2), .ref (ad 3), .ref (ad 4), .ref (ad 5), .ref (ad 6), .ref (ad 7), .ref (ad 8), .ref (ad 9), .ref (ad 10), .ref (ad 11), .ref (ad 12), .int 0, .int (-1), .int 0])), ((ad 1), .inr (9, [.int 0, .int 0, .int 0, .int 0, .ref (ad 14), .ref (ad 15), .ref (ad 16), .ref (ad 17), .ref (ad 18)]))] := hD
  refine lv_istore_n (lv' := [(3, .int (-1)), (0, .ref h0), (1, .int b), (2, .int w)]) hx hb dX11_hold_5 rfl hl (by decide) rfl (fun ls hl => ?_)
  refine lv_iload_n hx hb dX11_hold_6 rfl (lv_at hl 0 rfl) ?_
  refine lv_iconst (v := (-1)) hx hb dX11_hold_7 (by decide) ?_
  refine lv_icmp_eq (tgt := 20) hx hb dX11_hold_8 (by decide) (fun _ => ?_) (fun c0 => absurd (by decide +kernel) c0)
  refine lv_sipush (v := (-1000)) hx hb dX11_hold_20 (by decide +kernel) ?_
  have hP9 := hP.sub (ws' := []) [] rfl
  have hD9 := hD.sub (ws' := []) [] (by decide) rfl
  exact W.iret (v := (-1000)) hx hb hr (gq_endI () rfl hP9 hD9 hS) hS.2.2 dX11_hold_23
set_option maxHeartbeats 4000000 in
set_option maxRecDepth 100000 in
theorem c_S_rests (l : Launch) (G : gg_T) (sz : Nat) (h0 : Nat) (ad : Nat → Nat) (b : Int32) (w : Int32) (z : Int32) (y : Int32) : Met l yX11_rests (ts_L yX11_rests cX11_rests 10 (some .int)) ({ frames := 1, cells := 0, slots := 0, locals := 21 }) (gc_P G [(h0, .inr (11, [.ref (ad 0), .ref (ad 1), .ref (ad 2), .ref (ad 3), .ref (ad 4), .ref (ad 5), .ref (ad 6), .ref (ad 7), .ref (ad 8), .ref (ad 9), .ref (ad 10), .ref (ad 11), .ref (ad 12), .int 0, .int (-1), .int 0])), ((ad 1), .inr (9, [.int 0, .int 0, .int 0, .int 0, .ref (ad 14), .ref (ad 15), .ref (ad 16), .ref (ad 17), .ref (ad 18)]))] sz [.ref h0, .int b, .int w, .int z, .int y]) (gc_I G (va_A [(h0, .inr (11, [.ref (ad 0), .ref (ad 1), .ref (ad 2), .ref (ad 3), .ref (ad 4), .ref (ad 5), .ref (ad 6), .ref (ad 7), .ref (ad 8), .ref (ad 9), .ref (ad 10), .ref (ad 11), .ref (ad 12), .int 0, .int (-1), .int 0])), ((ad 1), .inr (9, [.int 0, .int 0, .int 0, .int 0, .ref (ad 14), .ref (ad 15), .ref (ad 16), .ref (ad 17), .ref (ad 18)]))] sz) (fun r (_ : Unit) => r = (-1)) (fun _ => [])) 0 0 (va_A [(h0, .inr (11, [.ref (ad 0), .ref (ad 1), .ref (ad 2), .ref (ad 3), .ref (ad 4), .ref (ad 5), .ref (ad 6), .ref (ad 7), .ref (ad 8), .ref (ad 9), .ref (ad 10), .ref (ad 11), .ref (ad 12), .int 0, .int (-1), .int 0])), ((ad 1), .inr (9, [.int 0, .int 0, .int 0, .int 0, .ref (ad 14), .ref (ad 15), .ref (ad 16), .ref (ad 17), .ref (ad 18)]))] sz) := by
  refine Met.ofW (cc := cX11_rests) (maxL := 10) (ret := (some .int)) (by decide) rfl ?_
  intro p e s m args below meth c s₁ B hml hv
  obtain ⟨rfl, hsz, hP, hK, hD0⟩ := hv
  have hx := B.exec
  have hb := B.bytes
  have hr := B.returns
  have ht := ts_ht (atoms_spec (ws := ts_L yX11_rests cX11_rests 10 (some .int)) B.pre)
  have hown : s.vm.findClass RX11 = some m.cls := findClass_of_methodNamed B.named
  have hlocks := B.notSynchronized
  subst hsz
  have hD := hD0.self (sz := s.heap.size)
  generalize hAe : va_A [(h0, .inr (11, [.ref (ad 0), .ref (ad 1), .ref (ad 2), .ref (ad 3), .ref (ad 4), .ref (ad 5), .ref (ad 6), .ref (ad 7), .ref (ad 8), .ref (ad 9), .ref (ad 10), .ref (ad 11), .ref (ad 12), .int 0, .int (-1), .int 0])), ((ad 1), .inr (9, [.int 0, .int 0, .int 0, .int 0, .ref (ad 14), .ref (ad 15), .ref (ad 16), .ref (ad 17), .ref (ad 18)]))] s.heap.size = A at hD ⊢
  have hA : ∀ q : Nat, s.heap.size ≤ q → A q := fun q h => by rw [← hAe]; exact Or.inr h
  have hS : va_S A s.heap s.heap [] := va_S.rf
  have hl := lv_entry ([.ref h0, .int b, .int w, .int z, .int y]) (n := 10) (Nat.le_of_ble_eq_true rfl)
  rw [lg_entry_eq]
  generalize (lg_sl ([.ref h0, .int b, .int w, .int z, .int y]) ++ List.replicate (10 - (lg_sl ([.ref h0, .int b, .int w, .int z, .int y])).length) Slot.unset).toArray = ls at hl ⊢
  have hl : lv_has ls 10 [(0, .ref h0), (1, .int b), (2, .int w), (3, .int z), (4, .int y)] := hl
  refine lv_aload_n hx hb dX11_rests_0 rfl (lv_at hl 0 rfl) ?_
  refine lv_iload_n hx hb dX11_rests_1 rfl (lv_at hl 1 rfl) ?_
  have hPc := hP.sub (ws' := [(h0, .inr (11, [.ref (ad 0), .ref (ad 1), .ref (ad 2), .ref (ad 3), .ref (ad 4), .ref (ad 5), .ref (ad 6), .ref (ad 7), .ref (ad 8), .ref (ad 9), .ref (ad 10), .ref (ad 11), .ref (ad 12), .int 0, .int (-1), .int 0])), ((ad 1), .inr (9, [.int 0, .int 0, .int 0, .int 0, .ref (ad 14), .ref (ad 15), .ref (ad 16), .ref (ad 17), .ref (ad 18)]))]) [0, 1] rfl
  have hDc := hD.sub (ws' := [(h0, .inr (11, [.ref (ad 0), .ref (ad 1), .ref (ad 2), .ref (ad 3), .ref (ad 4), .ref (ad 5), .ref (ad 6), .ref (ad 7), .ref (ad 8), .ref (ad 9), .ref (ad 10), .ref (ad 11), .ref (ad 12), .int 0, .int (-1), .int 0])), ((ad 1), .inr (9, [.int 0, .int 0, .int 0, .int 0, .ref (ad 14), .ref (ad 15), .ref (ad 16), .ref (ad 17), .ref (ad 18)]))]) [0, 1] (by decide) rfl
  refine gq_callI (wr := []) (va_runV (As := [.int b]) (rest := []) ⟨hx, hb, hml, hown, ht⟩ (c_S_isBidder l G s.heap.size h0 ad b) (cwV 1 ht (ts_gV wd_789 wd_791 wd_14 wd_122 wd_792) rfl rfl rfl (by decide +kernel) ⟨Nat.le_of_ble_eq_true rfl, Nat.le_of_ble_eq_true rfl⟩) (gc_preV (ci := 11) (q0 := 0) hK hPc hDc rfl rfl) rfl rfl hl.1 rfl (lv_room (Nat.le_of_ble_eq_true rfl)) dX11_rests_2 ⟨Nat.le_of_ble_eq_true rfl, Nat.le_of_ble_eq_true rfl⟩) hP hD hS hA [0, 1] [] rfl rfl (by decide) (by decide) (fun r u H locs hw hP hD hS => ?_)
  have hw : r = 0 := hw
  subst hw
  have hP : va_P (gg_D G) classes [(h0, .inr (11, [.ref (ad 0), .ref (ad 1), .ref (ad 2), .ref (ad 3), .ref (ad 4), .ref (ad 5), .ref (ad 6), .ref (ad 7), .ref (ad 8), .ref (ad 9), .ref (ad 10), .ref (ad 11), .ref (ad 12), .int 0, .int (-1), .int 0])), ((ad 1), .inr (9, [.int 0, .int 0, .int 0, .int 0, .ref (ad 14), .ref (ad 15), .ref (ad 16), .ref (ad 17), .ref (ad 18)]))] H := hP
  have hD : va_D A [(h0, .inr (11, [.ref (ad 0), .ref (ad 1), .ref (ad 2), .ref (ad 3), .ref (ad 4), .ref (ad 5), .ref (ad 6), .ref (ad 7), .ref (ad 8), .ref (ad 9), .ref (ad 10), .ref (ad 11), .ref (ad 12), .int 0, .int (-1), .int 0])), ((ad 1), .inr (9, [.int 0, .int 0, .int 0, .int 0, .ref (ad 14), .ref (ad 15), .ref (ad 16), .ref (ad 17), .ref (ad 18)]))] := hD
  refine lv_if_eq (tgt := 40) hx hb dX11_rests_5 (by decide) (fun _ => ?_) (fun c0 => absurd (by decide +kernel) c0)
  refine lv_iconst (v := (-1)) hx hb dX11_rests_40 (by decide) ?_
  have hP9 := hP.sub (ws' := []) [] rfl
  have hD9 := hD.sub (ws' := []) [] (by decide) rfl
  exact W.iret (v := (-1)) hx hb hr (gq_endI () rfl hP9 hD9 hS) hS.2.2 dX11_rests_41
set_option maxHeartbeats 4000000 in
set_option maxRecDepth 100000 in
theorem c_S_seats (l : Launch) (G : gg_T) (sz : Nat) (h0 : Nat) (ad : Nat → Nat) (b : Int32) : Met l yX11_seats (ts_L yX11_seats cX11_seats 2 (some .int)) ({ frames := 1, cells := 0, slots := 0, locals := 20 }) (gc_P G [(h0, .inr (11, [.ref (ad 0), .ref (ad 1), .ref (ad 2), .ref (ad 3), .ref (ad 4), .ref (ad 5), .ref (ad 6), .ref (ad 7), .ref (ad 8), .ref (ad 9), .ref (ad 10), .ref (ad 11), .ref (ad 12), .int 0, .int (-1), .int 0])), ((ad 1), .inr (9, [.int 0, .int 0, .int 0, .int 0, .ref (ad 14), .ref (ad 15), .ref (ad 16), .ref (ad 17), .ref (ad 18)]))] sz [.ref h0, .int b]) (gc_I G (va_A [(h0, .inr (11, [.ref (ad 0), .ref (ad 1), .ref (ad 2), .ref (ad 3), .ref (ad 4), .ref (ad 5), .ref (ad 6), .ref (ad 7), .ref (ad 8), .ref (ad 9), .ref (ad 10), .ref (ad 11), .ref (ad 12), .int 0, .int (-1), .int 0])), ((ad 1), .inr (9, [.int 0, .int 0, .int 0, .int 0, .ref (ad 14), .ref (ad 15), .ref (ad 16), .ref (ad 17), .ref (ad 18)]))] sz) (fun r (_ : Unit) => r = (-1000)) (fun _ => [])) 0 0 (va_A [(h0, .inr (11, [.ref (ad 0), .ref (ad 1), .ref (ad 2), .ref (ad 3), .ref (ad 4), .ref (ad 5), .ref (ad 6), .ref (ad 7), .ref (ad 8), .ref (ad 9), .ref (ad 10), .ref (ad 11), .ref (ad 12), .int 0, .int (-1), .int 0])), ((ad 1), .inr (9, [.int 0, .int 0, .int 0, .int 0, .ref (ad 14), .ref (ad 15), .ref (ad 16), .ref (ad 17), .ref (ad 18)]))] sz) := by
  refine Met.ofW (cc := cX11_seats) (maxL := 2) (ret := (some .int)) (by decide) rfl ?_
  intro p e s m args below meth c s₁ B hml hv
  obtain ⟨rfl, hsz, hP, hK, hD0⟩ := hv
  have hx := B.exec
  have hb := B.bytes
  have hr := B.returns
  have ht := ts_ht (atoms_spec (ws := ts_L yX11_seats cX11_seats 2 (some .int)) B.pre)
  have hown : s.vm.findClass RX11 = some m.cls := findClass_of_methodNamed B.named
  have hlocks := B.notSynchronized
  subst hsz
  have hD := hD0.self (sz := s.heap.size)
  generalize hAe : va_A [(h0, .inr (11, [.ref (ad 0), .ref (ad 1), .ref (ad 2), .ref (ad 3), .ref (ad 4), .ref (ad 5), .ref (ad 6), .ref (ad 7), .ref (ad 8), .ref (ad 9), .ref (ad 10), .ref (ad 11), .ref (ad 12), .int 0, .int (-1), .int 0])), ((ad 1), .inr (9, [.int 0, .int 0, .int 0, .int 0, .ref (ad 14), .ref (ad 15), .ref (ad 16), .ref (ad 17), .ref (ad 18)]))] s.heap.size = A at hD ⊢
  have hA : ∀ q : Nat, s.heap.size ≤ q → A q := fun q h => by rw [← hAe]; exact Or.inr h
  have hS : va_S A s.heap s.heap [] := va_S.rf
  have hl := lv_entry ([.ref h0, .int b]) (n := 2) (Nat.le_of_ble_eq_true rfl)
  rw [lg_entry_eq]
  generalize (lg_sl ([.ref h0, .int b]) ++ List.replicate (2 - (lg_sl ([.ref h0, .int b])).length) Slot.unset).toArray = ls at hl ⊢
  have hl : lv_has ls 2 [(0, .ref h0), (1, .int b)] := hl
  refine lv_aload_n hx hb dX11_seats_0 rfl (lv_at hl 0 rfl) ?_
  have hPc := hP.sub (ws' := [(h0, .inr (11, [.ref (ad 0), .ref (ad 1), .ref (ad 2), .ref (ad 3), .ref (ad 4), .ref (ad 5), .ref (ad 6), .ref (ad 7), .ref (ad 8), .ref (ad 9), .ref (ad 10), .ref (ad 11), .ref (ad 12), .int 0, .int (-1), .int 0])), ((ad 1), .inr (9, [.int 0, .int 0, .int 0, .int 0, .ref (ad 14), .ref (ad 15), .ref (ad 16), .ref (ad 17), .ref (ad 18)]))]) [0, 1] rfl
  have hDc := hD.sub (ws' := [(h0, .inr (11, [.ref (ad 0), .ref (ad 1), .ref (ad 2), .ref (ad 3), .ref (ad 4), .ref (ad 5), .ref (ad 6), .ref (ad 7), .ref (ad 8), .ref (ad 9), .ref (ad 10), .ref (ad 11), .ref (ad 12), .int 0, .int (-1), .int 0])), ((ad 1), .inr (9, [.int 0, .int 0, .int 0, .int 0, .ref (ad 14), .ref (ad 15), .ref (ad 16), .ref (ad 17), .ref (ad 18)]))]) [0, 1] (by decide) rfl
  refine gq_callI (wr := []) (va_runV (As := []) (rest := []) ⟨hx, hb, hml, hown, ht⟩ (c_S_isTold l G s.heap.size h0 ad) (cwV 0 ht (ts_gV wd_984 wd_986 wd_21 wd_122 wd_987) rfl rfl rfl (by decide +kernel) ⟨Nat.le_of_ble_eq_true rfl, Nat.le_of_ble_eq_true rfl⟩) (gc_preV (ci := 11) (q0 := 0) hK hPc hDc rfl rfl) rfl rfl hl.1 rfl (lv_room (Nat.le_of_ble_eq_true rfl)) dX11_seats_1 ⟨Nat.le_of_ble_eq_true rfl, Nat.le_of_ble_eq_true rfl⟩) hP hD hS hA [0, 1] [] rfl rfl (by decide) (by decide) (fun r u H locs hw hP hD hS => ?_)
  have hw : r = 0 := hw
  subst hw
  have hP : va_P (gg_D G) classes [(h0, .inr (11, [.ref (ad 0), .ref (ad 1), .ref (ad 2), .ref (ad 3), .ref (ad 4), .ref (ad 5), .ref (ad 6), .ref (ad 7), .ref (ad 8), .ref (ad 9), .ref (ad 10), .ref (ad 11), .ref (ad 12), .int 0, .int (-1), .int 0])), ((ad 1), .inr (9, [.int 0, .int 0, .int 0, .int 0, .ref (ad 14), .ref (ad 15), .ref (ad 16), .ref (ad 17), .ref (ad 18)]))] H := hP
  have hD : va_D A [(h0, .inr (11, [.ref (ad 0), .ref (ad 1), .ref (ad 2), .ref (ad 3), .ref (ad 4), .ref (ad 5), .ref (ad 6), .ref (ad 7), .ref (ad 8), .ref (ad 9), .ref (ad 10), .ref (ad 11), .ref (ad 12), .int 0, .int (-1), .int 0])), ((ad 1), .inr (9, [.int 0, .int 0, .int 0, .int 0, .ref (ad 14), .ref (ad 15), .ref (ad 16), .ref (ad 17), .ref (ad 18)]))] := hD
  refine lv_if_eq (tgt := 16) hx hb dX11_seats_4 (by decide) (fun _ => ?_) (fun c0 => absurd (by decide +kernel) c0)
  refine lv_sipush (v := (-1000)) hx hb dX11_seats_16 (by decide +kernel) ?_
  have hP9 := hP.sub (ws' := []) [] rfl
  have hD9 := hD.sub (ws' := []) [] (by decide) rfl
  exact W.iret (v := (-1000)) hx hb hr (gq_endI () rfl hP9 hD9 hS) hS.2.2 dX11_seats_19
set_option maxHeartbeats 4000000 in
set_option maxRecDepth 100000 in
theorem c_S_tricks (l : Launch) (G : gg_T) (sz : Nat) (h0 : Nat) (ad : Nat → Nat) (b : Int32) (w : Int32) : Met l yX11_tricks (ts_L yX11_tricks cX11_tricks 4 (some .int)) ({ frames := 2, cells := 0, slots := 0, locals := 42 }) (gc_P G [(h0, .inr (11, [.ref (ad 0), .ref (ad 1), .ref (ad 2), .ref (ad 3), .ref (ad 4), .ref (ad 5), .ref (ad 6), .ref (ad 7), .ref (ad 8), .ref (ad 9), .ref (ad 10), .ref (ad 11), .ref (ad 12), .int 0, .int (-1), .int 0])), ((ad 1), .inr (9, [.int 0, .int 0, .int 0, .int 0, .ref (ad 14), .ref (ad 15), .ref (ad 16), .ref (ad 17), .ref (ad 18)]))] sz [.ref h0, .int b, .int w]) (gc_I G (va_A [(h0, .inr (11, [.ref (ad 0), .ref (ad 1), .ref (ad 2), .ref (ad 3), .ref (ad 4), .ref (ad 5), .ref (ad 6), .ref (ad 7), .ref (ad 8), .ref (ad 9), .ref (ad 10), .ref (ad 11), .ref (ad 12), .int 0, .int (-1), .int 0])), ((ad 1), .inr (9, [.int 0, .int 0, .int 0, .int 0, .ref (ad 14), .ref (ad 15), .ref (ad 16), .ref (ad 17), .ref (ad 18)]))] sz) (fun r (_ : Unit) => r = (-4)) (fun _ => [])) 0 0 (va_A [(h0, .inr (11, [.ref (ad 0), .ref (ad 1), .ref (ad 2), .ref (ad 3), .ref (ad 4), .ref (ad 5), .ref (ad 6), .ref (ad 7), .ref (ad 8), .ref (ad 9), .ref (ad 10), .ref (ad 11), .ref (ad 12), .int 0, .int (-1), .int 0])), ((ad 1), .inr (9, [.int 0, .int 0, .int 0, .int 0, .ref (ad 14), .ref (ad 15), .ref (ad 16), .ref (ad 17), .ref (ad 18)]))] sz) := by
  refine Met.ofW (cc := cX11_tricks) (maxL := 4) (ret := (some .int)) (by decide) rfl ?_
  intro p e s m args below meth c s₁ B hml hv
  obtain ⟨rfl, hsz, hP, hK, hD0⟩ := hv
  have hx := B.exec
  have hb := B.bytes
  have hr := B.returns
  have ht := ts_ht (atoms_spec (ws := ts_L yX11_tricks cX11_tricks 4 (some .int)) B.pre)
  have hown : s.vm.findClass RX11 = some m.cls := findClass_of_methodNamed B.named
  have hlocks := B.notSynchronized
  subst hsz
  have hD := hD0.self (sz := s.heap.size)
  generalize hAe : va_A [(h0, .inr (11, [.ref (ad 0), .ref (ad 1), .ref (ad 2), .ref (ad 3), .ref (ad 4), .ref (ad 5), .ref (ad 6), .ref (ad 7), .ref (ad 8), .ref (ad 9), .ref (ad 10), .ref (ad 11), .ref (ad 12), .int 0, .int (-1), .int 0])), ((ad 1), .inr (9, [.int 0, .int 0, .int 0, .int 0, .ref (ad 14), .ref (ad 15), .ref (ad 16), .ref (ad 17), .ref (ad 18)]))] s.heap.size = A at hD ⊢
  have hA : ∀ q : Nat, s.heap.size ≤ q → A q := fun q h => by rw [← hAe]; exact Or.inr h
  have hS : va_S A s.heap s.heap [] := va_S.rf
  have hl := lv_entry ([.ref h0, .int b, .int w]) (n := 4) (Nat.le_of_ble_eq_true rfl)
  rw [lg_entry_eq]
  generalize (lg_sl ([.ref h0, .int b, .int w]) ++ List.replicate (4 - (lg_sl ([.ref h0, .int b, .int w])).length) Slot.unset).toArray = ls at hl ⊢
  have hl : lv_has ls 4 [(0, .ref h0), (1, .int b), (2, .int w)] := hl
  refine lv_aload_n hx hb dX11_tricks_0 rfl (lv_at hl 0 rfl) ?_
  refine lv_iload_n hx hb dX11_tricks_1 rfl (lv_at hl 1 rfl) ?_
  have hPc := hP.sub (ws' := [(h0, .inr (11, [.ref (ad 0), .ref (ad 1), .ref (ad 2), .ref (ad 3), .ref (ad 4), .ref (ad 5), .ref (ad 6), .ref (ad 7), .ref (ad 8), .ref (ad 9), .ref (ad 10), .ref (ad 11), .ref (ad 12), .int 0, .int (-1), .int 0])), ((ad 1), .inr (9, [.int 0, .int 0, .int 0, .int 0, .ref (ad 14), .ref (ad 15), .ref (ad 16), .ref (ad 17), .ref (ad 18)]))]) [0, 1] rfl
  have hDc := hD.sub (ws' := [(h0, .inr (11, [.ref (ad 0), .ref (ad 1), .ref (ad 2), .ref (ad 3), .ref (ad 4), .ref (ad 5), .ref (ad 6), .ref (ad 7), .ref (ad 8), .ref (ad 9), .ref (ad 10), .ref (ad 11), .ref (ad 12), .int 0, .int (-1), .int 0])), ((ad 1), .inr (9, [.int 0, .int 0, .int 0, .int 0, .ref (ad 14), .ref (ad 15), .ref (ad 16), .ref (ad 17), .ref (ad 18)]))]) [0, 1] (by decide) rfl
  refine gq_callI (wr := []) (va_runV (As := [.int b]) (rest := []) ⟨hx, hb, hml, hown, ht⟩ (c_S_roomOf l G s.heap.size h0 ad b) (cwV 1 ht (ts_gV wd_1011 wd_1013 wd_23 wd_122 wd_1014) rfl rfl rfl (by decide +kernel) ⟨Nat.le_of_ble_eq_true rfl, Nat.le_of_ble_eq_true rfl⟩) (gc_preV (ci := 11) (q0 := 0) hK hPc hDc rfl rfl) rfl rfl hl.1 rfl (lv_room (Nat.le_of_ble_eq_true rfl)) dX11_tricks_2 ⟨Nat.le_of_ble_eq_true rfl, Nat.le_of_ble_eq_true rfl⟩) hP hD hS hA [0, 1] [] rfl rfl (by decide) (by decide) (fun r u H locs hw hP hD hS => ?_)
  have hw : r = (-1) := hw
  subst hw
  have hP : va_P (gg_D G) classes [(h0, .inr (11, [.ref (ad 0), .ref (ad 1), .ref (ad 2), .ref (ad 3), .ref (ad 4), .ref (ad 5), .ref (ad 6), .ref (ad 7), .ref (ad 8), .ref (ad 9), .ref (ad 10), .ref (ad 11), .ref (ad 12), .int 0, .int (-1), .int 0])), ((ad 1), .inr (9, [.int 0, .int 0, .int 0, .int 0, .ref (ad 14), .ref (ad 15), .ref (ad 16), .ref (ad 17), .ref (ad 18)]))] H := hP
  have hD : va_D A [(h0, .inr (11, [.ref (ad 0), .ref (ad 1), .ref (ad 2), .ref (ad 3), .ref (ad 4), .ref (ad 5), .ref (ad 6), .ref (ad 7), .ref (ad 8), .ref (ad 9), .ref (ad 10), .ref (ad 11), .ref (ad 12), .int 0, .int (-1), .int 0])), ((ad 1), .inr (9, [.int 0, .int 0, .int 0, .int 0, .ref (ad 14), .ref (ad 15), .ref (ad 16), .ref (ad 17), .ref (ad 18)]))] := hD
  refine lv_istore_n (lv' := [(3, .int (-1)), (0, .ref h0), (1, .int b), (2, .int w)]) hx hb dX11_tricks_5 rfl hl (by decide) rfl (fun ls hl => ?_)
  refine lv_iload_n hx hb dX11_tricks_6 rfl (lv_at hl 0 rfl) ?_
  refine lv_iconst (v := (-1)) hx hb dX11_tricks_7 (by decide) ?_
  refine lv_icmp_eq (tgt := 20) hx hb dX11_tricks_8 (by decide) (fun _ => ?_) (fun c0 => absurd (by decide +kernel) c0)
  refine lv_bipush (v := (-4)) hx hb dX11_tricks_20 (by decide +kernel) ?_
  have hP9 := hP.sub (ws' := []) [] rfl
  have hD9 := hD.sub (ws' := []) [] (by decide) rfl
  exact W.iret (v := (-4)) hx hb hr (gq_endI () rfl hP9 hD9 hS) hS.2.2 dX11_tricks_22
set_option maxHeartbeats 4000000 in
set_option maxRecDepth 100000 in
theorem c_S_ring (l : Launch) (G : gg_T) (sz : Nat) (h0 : Nat) (ad : Nat → Nat) (b : Int32) (w : Int32) : Met l yX11_ring (ts_L yX11_ring cX11_ring 5 (some .int)) ({ frames := 1, cells := 0, slots := 0, locals := 22 }) (gc_P G [(h0, .inr (11, [.ref (ad 0), .ref (ad 1), .ref (ad 2), .ref (ad 3), .ref (ad 4), .ref (ad 5), .ref (ad 6), .ref (ad 7), .ref (ad 8), .ref (ad 9), .ref (ad 10), .ref (ad 11), .ref (ad 12), .int 0, .int (-1), .int 0])), ((ad 1), .inr (9, [.int 0, .int 0, .int 0, .int 0, .ref (ad 14), .ref (ad 15), .ref (ad 16), .ref (ad 17), .ref (ad 18)]))] sz [.ref h0, .int b, .int w]) (gc_I G (va_A [(h0, .inr (11, [.ref (ad 0), .ref (ad 1), .ref (ad 2), .ref (ad 3), .ref (ad 4), .ref (ad 5), .ref (ad 6), .ref (ad 7), .ref (ad 8), .ref (ad 9), .ref (ad 10), .ref (ad 11), .ref (ad 12), .int 0, .int (-1), .int 0])), ((ad 1), .inr (9, [.int 0, .int 0, .int 0, .int 0, .ref (ad 14), .ref (ad 15), .ref (ad 16), .ref (ad 17), .ref (ad 18)]))] sz) (fun r (_ : Unit) => r = (-1000)) (fun _ => [])) 0 0 (va_A [(h0, .inr (11, [.ref (ad 0), .ref (ad 1), .ref (ad 2), .ref (ad 3), .ref (ad 4), .ref (ad 5), .ref (ad 6), .ref (ad 7), .ref (ad 8), .ref (ad 9), .ref (ad 10), .ref (ad 11), .ref (ad 12), .int 0, .int (-1), .int 0])), ((ad 1), .inr (9, [.int 0, .int 0, .int 0, .int 0, .ref (ad 14), .ref (ad 15), .ref (ad 16), .ref (ad 17), .ref (ad 18)]))] sz) := by
  refine Met.ofW (cc := cX11_ring) (maxL := 5) (ret := (some .int)) (by decide) rfl ?_
  intro p e s m args below meth c s₁ B hml hv
  obtain ⟨rfl, hsz, hP, hK, hD0⟩ := hv
  have hx := B.exec
  have hb := B.bytes
  have hr := B.returns
  have ht := ts_ht (atoms_spec (ws := ts_L yX11_ring cX11_ring 5 (some .int)) B.pre)
  have hown : s.vm.findClass RX11 = some m.cls := findClass_of_methodNamed B.named
  have hlocks := B.notSynchronized
  subst hsz
  have hD := hD0.self (sz := s.heap.size)
  generalize hAe : va_A [(h0, .inr (11, [.ref (ad 0), .ref (ad 1), .ref (ad 2), .ref (ad 3), .ref (ad 4), .ref (ad 5), .ref (ad 6), .ref (ad 7), .ref (ad 8), .ref (ad 9), .ref (ad 10), .ref (ad 11), .ref (ad 12), .int 0, .int (-1), .int 0])), ((ad 1), .inr (9, [.int 0, .int 0, .int 0, .int 0, .ref (ad 14), .ref (ad 15), .ref (ad 16), .ref (ad 17), .ref (ad 18)]))] s.heap.size = A at hD ⊢
  have hA : ∀ q : Nat, s.heap.size ≤ q → A q := fun q h => by rw [← hAe]; exact Or.inr h
  have hS : va_S A s.heap s.heap [] := va_S.rf
  have hl := lv_entry ([.ref h0, .int b, .int w]) (n := 5) (Nat.le_of_ble_eq_true rfl)
  rw [lg_entry_eq]
  generalize (lg_sl ([.ref h0, .int b, .int w]) ++ List.replicate (5 - (lg_sl ([.ref h0, .int b, .int w])).length) Slot.unset).toArray = ls at hl ⊢
  have hl : lv_has ls 5 [(0, .ref h0), (1, .int b), (2, .int w)] := hl
  refine lv_iload_n hx hb dX11_ring_0 rfl (lv_at hl 1 rfl) ?_
  have hPc := hP.sub (ws' := []) [] rfl
  have hDc := hD.sub (ws' := []) [] (by decide) rfl
  refine gq_callI (wr := [(h0, .inr (11, [.ref (ad 0), .ref (ad 1), .ref (ad 2), .ref (ad 3), .ref (ad 4), .ref (ad 5), .ref (ad 6), .ref (ad 7), .ref (ad 8), .ref (ad 9), .ref (ad 10), .ref (ad 11), .ref (ad 12), .int 0, .int (-1), .int 0])), ((ad 1), .inr (9, [.int 0, .int 0, .int 0, .int 0, .ref (ad 14), .ref (ad 15), .ref (ad 16), .ref (ad 17), .ref (ad 18)]))]) (va_runS (As := [.int b]) (rest := []) ⟨hx, hb, hml, hown, ht⟩ (c_J_bitCount l G s.heap.size b) (va_cwS 1 ht (ts_gS wd_1128 wd_895 wd_141 wd_896) rfl rfl rfl (by decide +kernel) ⟨Nat.le_of_ble_eq_true rfl, Nat.le_of_ble_eq_true rfl⟩) (gc_preS hK hPc hDc) rfl rfl hl.1 rfl (lv_room (Nat.le_of_ble_eq_true rfl)) dX11_ring_1 ⟨Nat.le_of_ble_eq_true rfl, Nat.le_of_ble_eq_true rfl⟩) hP hD hS hA [] [0, 1] rfl rfl (by decide) (by decide) (fun r u H locs hw hP hD hS => ?_)
  obtain ⟨u_1, rfl⟩ : ∃ z, z = u := ⟨_, rfl⟩
  have hw : r = u_1 := hw
  subst hw
  have hP : va_P (gg_D G) classes [(h0, .inr (11, [.ref (ad 0), .ref (ad 1), .ref (ad 2), .ref (ad 3), .ref (ad 4), .ref (ad 5), .ref (ad 6), .ref (ad 7), .ref (ad 8), .ref (ad 9), .ref (ad 10), .ref (ad 11), .ref (ad 12), .int 0, .int (-1), .int 0])), ((ad 1), .inr (9, [.int 0, .int 0, .int 0, .int 0, .ref (ad 14), .ref (ad 15), .ref (ad 16), .ref (ad 17), .ref (ad 18)]))] H := hP
  have hD : va_D A [(h0, .inr (11, [.ref (ad 0), .ref (ad 1), .ref (ad 2), .ref (ad 3), .ref (ad 4), .ref (ad 5), .ref (ad 6), .ref (ad 7), .ref (ad 8), .ref (ad 9), .ref (ad 10), .ref (ad 11), .ref (ad 12), .int 0, .int (-1), .int 0])), ((ad 1), .inr (9, [.int 0, .int 0, .int 0, .int 0, .ref (ad 14), .ref (ad 15), .ref (ad 16), .ref (ad 17), .ref (ad 18)]))] := hD
  refine lv_iconst (v := 2) hx hb dX11_ring_4 (by decide) ?_
  refine lv_icmp_ge (tgt := 12) hx hb dX11_ring_5 (by decide) (fun c_2 => ?_) (fun c_2 => ?_)
  · refine lv_aload_n hx hb dX11_ring_12 rfl (lv_at hl 0 rfl) ?_
    refine lv_iload_n hx hb dX11_ring_13 rfl (lv_at hl 1 rfl) ?_
    have hPc := hP.sub (ws' := [(h0, .inr (11, [.ref (ad 0), .ref (ad 1), .ref (ad 2), .ref (ad 3), .ref (ad 4), .ref (ad 5), .ref (ad 6), .ref (ad 7), .ref (ad 8), .ref (ad 9), .ref (ad 10), .ref (ad 11), .ref (ad 12), .int 0, .int (-1), .int 0])), ((ad 1), .inr (9, [.int 0, .int 0, .int 0, .int 0, .ref (ad 14), .ref (ad 15), .ref (ad 16), .ref (ad 17), .ref (ad 18)]))]) [0, 1] rfl
    have hDc := hD.sub (ws' := [(h0, .inr (11, [.ref (ad 0), .ref (ad 1), .ref (ad 2), .ref (ad 3), .ref (ad 4), .ref (ad 5), .ref (ad 6), .ref (ad 7), .ref (ad 8), .ref (ad 9), .ref (ad 10), .ref (ad 11), .ref (ad 12), .int 0, .int (-1), .int 0])), ((ad 1), .inr (9, [.int 0, .int 0, .int 0, .int 0, .ref (ad 14), .ref (ad 15), .ref (ad 16), .ref (ad 17), .ref (ad 18)]))]) [0, 1] (by decide) rfl
    refine gq_callI (wr := []) (va_runV (As := [.int b]) (rest := []) ⟨hx, hb, hml, hown, ht⟩ (c_S_roomOfAll l G H.size h0 ad b) (cwV 1 ht (ts_gV wd_1015 wd_1017 wd_24 wd_122 wd_1018) rfl rfl rfl (by decide +kernel) ⟨Nat.le_of_ble_eq_true rfl, Nat.le_of_ble_eq_true rfl⟩) (gc_preV (ci := 11) (q0 := 0) hK hPc hDc rfl rfl) rfl rfl hl.1 rfl (lv_room (Nat.le_of_ble_eq_true rfl)) dX11_ring_14 ⟨Nat.le_of_ble_eq_true rfl, Nat.le_of_ble_eq_true rfl⟩) hP hD hS hA [0, 1] [] rfl rfl (by decide) (by decide) (fun r u H locs hw hP hD hS => ?_)
    have hw : r = (-1) := hw
    subst hw
    have hP : va_P (gg_D G) classes [(h0, .inr (11, [.ref (ad 0), .ref (ad 1), .ref (ad 2), .ref (ad 3), .ref (ad 4), .ref (ad 5), .ref (ad 6), .ref (ad 7), .ref (ad 8), .ref (ad 9), .ref (ad 10), .ref (ad 11), .ref (ad 12), .int 0, .int (-1), .int 0])), ((ad 1), .inr (9, [.int 0, .int 0, .int 0, .int 0, .ref (ad 14), .ref (ad 15), .ref (ad 16), .ref (ad 17), .ref (ad 18)]))] H := hP
    have hD : va_D A [(h0, .inr (11, [.ref (ad 0), .ref (ad 1), .ref (ad 2), .ref (ad 3), .ref (ad 4), .ref (ad 5), .ref (ad 6), .ref (ad 7), .ref (ad 8), .ref (ad 9), .ref (ad 10), .ref (ad 11), .ref (ad 12), .int 0, .int (-1), .int 0])), ((ad 1), .inr (9, [.int 0, .int 0, .int 0, .int 0, .ref (ad 14), .ref (ad 15), .ref (ad 16), .ref (ad 17), .ref (ad 18)]))] := hD
    refine lv_istore_n (lv' := [(3, .int (-1)), (0, .ref h0), (1, .int b), (2, .int w)]) hx hb dX11_ring_17 rfl hl (by decide) rfl (fun ls hl => ?_)
    refine lv_iload_n hx hb dX11_ring_18 rfl (lv_at hl 0 rfl) ?_
    refine lv_iconst (v := (-1)) hx hb dX11_ring_19 (by decide) ?_
    refine lv_icmp_eq (tgt := 32) hx hb dX11_ring_20 (by decide) (fun _ => ?_) (fun c0 => absurd (by decide +kernel) c0)
    refine lv_sipush (v := (-1000)) hx hb dX11_ring_32 (by decide +kernel) ?_
    have hP9 := hP.sub (ws' := []) [] rfl
    have hD9 := hD.sub (ws' := []) [] (by decide) rfl
    exact W.iret (v := (-1000)) hx hb hr (gq_endI () rfl hP9 hD9 hS) hS.2.2 dX11_ring_35
  · refine lv_iconst (v := (-1)) hx hb dX11_ring_8 (by decide) ?_
    refine lv_goto (tgt := 17) hx hb dX11_ring_9 (by decide) ?_
    refine lv_istore_n (lv' := [(3, .int (-1)), (0, .ref h0), (1, .int b), (2, .int w)]) hx hb dX11_ring_17 rfl hl (by decide) rfl (fun ls hl => ?_)
    refine lv_iload_n hx hb dX11_ring_18 rfl (lv_at hl 0 rfl) ?_
    refine lv_iconst (v := (-1)) hx hb dX11_ring_19 (by decide) ?_
    refine lv_icmp_eq (tgt := 32) hx hb dX11_ring_20 (by decide) (fun _ => ?_) (fun c0 => absurd (by decide +kernel) c0)
    refine lv_sipush (v := (-1000)) hx hb dX11_ring_32 (by decide +kernel) ?_
    have hP9 := hP.sub (ws' := []) [] rfl
    have hD9 := hD.sub (ws' := []) [] (by decide) rfl
    exact W.iret (v := (-1000)) hx hb hr (gq_endI () rfl hP9 hD9 hS) hS.2.2 dX11_ring_35
set_option maxHeartbeats 4000000 in
set_option maxRecDepth 100000 in
theorem c_S_breath (l : Launch) (G : gg_T) (sz : Nat) (h0 : Nat) (ad : Nat → Nat) (b : Int32) : Met l yX11_breath (ts_L yX11_breath cX11_breath 4 (some .int)) ({ frames := 2, cells := 0, slots := 0, locals := 42 }) (gc_P G [(h0, .inr (11, [.ref (ad 0), .ref (ad 1), .ref (ad 2), .ref (ad 3), .ref (ad 4), .ref (ad 5), .ref (ad 6), .ref (ad 7), .ref (ad 8), .ref (ad 9), .ref (ad 10), .ref (ad 11), .ref (ad 12), .int 0, .int (-1), .int 0])), ((ad 1), .inr (9, [.int 0, .int 0, .int 0, .int 0, .ref (ad 14), .ref (ad 15), .ref (ad 16), .ref (ad 17), .ref (ad 18)]))] sz [.ref h0, .int b]) (gc_I G (va_A [(h0, .inr (11, [.ref (ad 0), .ref (ad 1), .ref (ad 2), .ref (ad 3), .ref (ad 4), .ref (ad 5), .ref (ad 6), .ref (ad 7), .ref (ad 8), .ref (ad 9), .ref (ad 10), .ref (ad 11), .ref (ad 12), .int 0, .int (-1), .int 0])), ((ad 1), .inr (9, [.int 0, .int 0, .int 0, .int 0, .ref (ad 14), .ref (ad 15), .ref (ad 16), .ref (ad 17), .ref (ad 18)]))] sz) (fun r (_ : Unit) => r = (-1)) (fun _ => [])) 0 0 (va_A [(h0, .inr (11, [.ref (ad 0), .ref (ad 1), .ref (ad 2), .ref (ad 3), .ref (ad 4), .ref (ad 5), .ref (ad 6), .ref (ad 7), .ref (ad 8), .ref (ad 9), .ref (ad 10), .ref (ad 11), .ref (ad 12), .int 0, .int (-1), .int 0])), ((ad 1), .inr (9, [.int 0, .int 0, .int 0, .int 0, .ref (ad 14), .ref (ad 15), .ref (ad 16), .ref (ad 17), .ref (ad 18)]))] sz) := by
  refine Met.ofW (cc := cX11_breath) (maxL := 4) (ret := (some .int)) (by decide) rfl ?_
  intro p e s m args below meth c s₁ B hml hv
  obtain ⟨rfl, hsz, hP, hK, hD0⟩ := hv
  have hx := B.exec
  have hb := B.bytes
  have hr := B.returns
  have ht := ts_ht (atoms_spec (ws := ts_L yX11_breath cX11_breath 4 (some .int)) B.pre)
  have hown : s.vm.findClass RX11 = some m.cls := findClass_of_methodNamed B.named
  have hlocks := B.notSynchronized
  subst hsz
  have hD := hD0.self (sz := s.heap.size)
  generalize hAe : va_A [(h0, .inr (11, [.ref (ad 0), .ref (ad 1), .ref (ad 2), .ref (ad 3), .ref (ad 4), .ref (ad 5), .ref (ad 6), .ref (ad 7), .ref (ad 8), .ref (ad 9), .ref (ad 10), .ref (ad 11), .ref (ad 12), .int 0, .int (-1), .int 0])), ((ad 1), .inr (9, [.int 0, .int 0, .int 0, .int 0, .ref (ad 14), .ref (ad 15), .ref (ad 16), .ref (ad 17), .ref (ad 18)]))] s.heap.size = A at hD ⊢
  have hA : ∀ q : Nat, s.heap.size ≤ q → A q := fun q h => by rw [← hAe]; exact Or.inr h
  have hS : va_S A s.heap s.heap [] := va_S.rf
  have hl := lv_entry ([.ref h0, .int b]) (n := 4) (Nat.le_of_ble_eq_true rfl)
  rw [lg_entry_eq]
  generalize (lg_sl ([.ref h0, .int b]) ++ List.replicate (4 - (lg_sl ([.ref h0, .int b])).length) Slot.unset).toArray = ls at hl ⊢
  have hl : lv_has ls 4 [(0, .ref h0), (1, .int b)] := hl
  refine lv_aload_n hx hb dX11_breath_0 rfl (lv_at hl 0 rfl) ?_
  refine lv_iload_n hx hb dX11_breath_1 rfl (lv_at hl 1 rfl) ?_
  have hPc := hP.sub (ws' := [(h0, .inr (11, [.ref (ad 0), .ref (ad 1), .ref (ad 2), .ref (ad 3), .ref (ad 4), .ref (ad 5), .ref (ad 6), .ref (ad 7), .ref (ad 8), .ref (ad 9), .ref (ad 10), .ref (ad 11), .ref (ad 12), .int 0, .int (-1), .int 0])), ((ad 1), .inr (9, [.int 0, .int 0, .int 0, .int 0, .ref (ad 14), .ref (ad 15), .ref (ad 16), .ref (ad 17), .ref (ad 18)]))]) [0, 1] rfl
  have hDc := hD.sub (ws' := [(h0, .inr (11, [.ref (ad 0), .ref (ad 1), .ref (ad 2), .ref (ad 3), .ref (ad 4), .ref (ad 5), .ref (ad 6), .ref (ad 7), .ref (ad 8), .ref (ad 9), .ref (ad 10), .ref (ad 11), .ref (ad 12), .int 0, .int (-1), .int 0])), ((ad 1), .inr (9, [.int 0, .int 0, .int 0, .int 0, .ref (ad 14), .ref (ad 15), .ref (ad 16), .ref (ad 17), .ref (ad 18)]))]) [0, 1] (by decide) rfl
  refine gq_callI (wr := []) (va_runV (As := [.int b]) (rest := []) ⟨hx, hb, hml, hown, ht⟩ (c_S_roomOf l G s.heap.size h0 ad b) (cwV 1 ht (ts_gV wd_1011 wd_1013 wd_23 wd_122 wd_1014) rfl rfl rfl (by decide +kernel) ⟨Nat.le_of_ble_eq_true rfl, Nat.le_of_ble_eq_true rfl⟩) (gc_preV (ci := 11) (q0 := 0) hK hPc hDc rfl rfl) rfl rfl hl.1 rfl (lv_room (Nat.le_of_ble_eq_true rfl)) dX11_breath_2 ⟨Nat.le_of_ble_eq_true rfl, Nat.le_of_ble_eq_true rfl⟩) hP hD hS hA [0, 1] [] rfl rfl (by decide) (by decide) (fun r u H locs hw hP hD hS => ?_)
  have hw : r = (-1) := hw
  subst hw
  have hP : va_P (gg_D G) classes [(h0, .inr (11, [.ref (ad 0), .ref (ad 1), .ref (ad 2), .ref (ad 3), .ref (ad 4), .ref (ad 5), .ref (ad 6), .ref (ad 7), .ref (ad 8), .ref (ad 9), .ref (ad 10), .ref (ad 11), .ref (ad 12), .int 0, .int (-1), .int 0])), ((ad 1), .inr (9, [.int 0, .int 0, .int 0, .int 0, .ref (ad 14), .ref (ad 15), .ref (ad 16), .ref (ad 17), .ref (ad 18)]))] H := hP
  have hD : va_D A [(h0, .inr (11, [.ref (ad 0), .ref (ad 1), .ref (ad 2), .ref (ad 3), .ref (ad 4), .ref (ad 5), .ref (ad 6), .ref (ad 7), .ref (ad 8), .ref (ad 9), .ref (ad 10), .ref (ad 11), .ref (ad 12), .int 0, .int (-1), .int 0])), ((ad 1), .inr (9, [.int 0, .int 0, .int 0, .int 0, .ref (ad 14), .ref (ad 15), .ref (ad 16), .ref (ad 17), .ref (ad 18)]))] := hD
  refine lv_istore_n (lv' := [(2, .int (-1)), (0, .ref h0), (1, .int b)]) hx hb dX11_breath_5 rfl hl (by decide) rfl (fun ls hl => ?_)
  refine lv_iload_n hx hb dX11_breath_6 rfl (lv_at hl 0 rfl) ?_
  refine lv_iconst (v := (-1)) hx hb dX11_breath_7 (by decide) ?_
  refine lv_icmp_ne (tgt := 13) hx hb dX11_breath_8 (by decide) (fun c0 => absurd (by decide +kernel) c0) (fun _ => ?_)
  refine lv_iconst (v := (-1)) hx hb dX11_breath_11 (by decide) ?_
  have hP9 := hP.sub (ws' := []) [] rfl
  have hD9 := hD.sub (ws' := []) [] (by decide) rfl
  exact W.iret (v := (-1)) hx hb hr (gq_endI () rfl hP9 hD9 hS) hS.2.2 dX11_breath_12
set_option maxHeartbeats 4000000 in
set_option maxRecDepth 100000 in
theorem c_S_log (l : Launch) (G : gg_T) (sz : Nat) (h0 : Nat) (ad : Nat → Nat) (n : Int32) (w : Int32) (z : Int32) : Met l yX11_log (ts_L yX11_log cX11_log 4 (some .int)) ({ frames := 1, cells := 0, slots := 0, locals := 21 }) (gc_P G [(h0, .inr (11, [.ref (ad 0), .ref (ad 1), .ref (ad 2), .ref (ad 3), .ref (ad 4), .ref (ad 5), .ref (ad 6), .ref (ad 7), .ref (ad 8), .ref (ad 9), .ref (ad 10), .ref (ad 11), .ref (ad 12), .int 0, .int (-1), .int 0])), ((ad 1), .inr (9, [.int 0, .int 0, .int 0, .int 0, .ref (ad 14), .ref (ad 15), .ref (ad 16), .ref (ad 17), .ref (ad 18)])), ((ad 6), .inr (2, [.ref (ad 34), .ref (ad 35), .ref (ad 36), .int 0]))] sz [.ref h0, .int n, .int w, .int z]) (gc_I G (va_A [(h0, .inr (11, [.ref (ad 0), .ref (ad 1), .ref (ad 2), .ref (ad 3), .ref (ad 4), .ref (ad 5), .ref (ad 6), .ref (ad 7), .ref (ad 8), .ref (ad 9), .ref (ad 10), .ref (ad 11), .ref (ad 12), .int 0, .int (-1), .int 0])), ((ad 1), .inr (9, [.int 0, .int 0, .int 0, .int 0, .ref (ad 14), .ref (ad 15), .ref (ad 16), .ref (ad 17), .ref (ad 18)])), ((ad 6), .inr (2, [.ref (ad 34), .ref (ad 35), .ref (ad 36), .int 0]))] sz) (fun r (_ : Unit) => r = (if n = -1 then 0 else -2)) (fun _ => [])) 0 0 (va_A [(h0, .inr (11, [.ref (ad 0), .ref (ad 1), .ref (ad 2), .ref (ad 3), .ref (ad 4), .ref (ad 5), .ref (ad 6), .ref (ad 7), .ref (ad 8), .ref (ad 9), .ref (ad 10), .ref (ad 11), .ref (ad 12), .int 0, .int (-1), .int 0])), ((ad 1), .inr (9, [.int 0, .int 0, .int 0, .int 0, .ref (ad 14), .ref (ad 15), .ref (ad 16), .ref (ad 17), .ref (ad 18)])), ((ad 6), .inr (2, [.ref (ad 34), .ref (ad 35), .ref (ad 36), .int 0]))] sz) := by
  refine Met.ofW (cc := cX11_log) (maxL := 4) (ret := (some .int)) (by decide) rfl ?_
  intro p e s m args below meth c s₁ B hml hv
  obtain ⟨rfl, hsz, hP, hK, hD0⟩ := hv
  have hx := B.exec
  have hb := B.bytes
  have hr := B.returns
  have ht := ts_ht (atoms_spec (ws := ts_L yX11_log cX11_log 4 (some .int)) B.pre)
  have hown : s.vm.findClass RX11 = some m.cls := findClass_of_methodNamed B.named
  have hlocks := B.notSynchronized
  subst hsz
  have hD := hD0.self (sz := s.heap.size)
  generalize hAe : va_A [(h0, .inr (11, [.ref (ad 0), .ref (ad 1), .ref (ad 2), .ref (ad 3), .ref (ad 4), .ref (ad 5), .ref (ad 6), .ref (ad 7), .ref (ad 8), .ref (ad 9), .ref (ad 10), .ref (ad 11), .ref (ad 12), .int 0, .int (-1), .int 0])), ((ad 1), .inr (9, [.int 0, .int 0, .int 0, .int 0, .ref (ad 14), .ref (ad 15), .ref (ad 16), .ref (ad 17), .ref (ad 18)])), ((ad 6), .inr (2, [.ref (ad 34), .ref (ad 35), .ref (ad 36), .int 0]))] s.heap.size = A at hD ⊢
  have hA : ∀ q : Nat, s.heap.size ≤ q → A q := fun q h => by rw [← hAe]; exact Or.inr h
  have hS : va_S A s.heap s.heap [] := va_S.rf
  have hl := lv_entry ([.ref h0, .int n, .int w, .int z]) (n := 4) (Nat.le_of_ble_eq_true rfl)
  rw [lg_entry_eq]
  generalize (lg_sl ([.ref h0, .int n, .int w, .int z]) ++ List.replicate (4 - (lg_sl ([.ref h0, .int n, .int w, .int z])).length) Slot.unset).toArray = ls at hl ⊢
  have hl : lv_has ls 4 [(0, .ref h0), (1, .int n), (2, .int w), (3, .int z)] := hl
  by_cases c_1 : n = (-1)
  · subst c_1
    refine lv_iload_n hx hb dX11_log_0 rfl (lv_at hl 1 rfl) ?_
    refine lv_iconst (v := (-1)) hx hb dX11_log_1 (by decide) ?_
    refine lv_icmp_ne (tgt := 14) hx hb dX11_log_2 (by decide) (fun c0 => absurd (by decide +kernel) c0) (fun _ => ?_)
    refine lv_aload_n hx hb dX11_log_5 rfl (lv_at hl 0 rfl) ?_
    refine gq_get hx hb ht hown hK hP i_X11 0 rfl rfl 6 (by decide) wd_503 rfl rfl dX11_log_6 ?_
    have hPc := hP.sub (ws' := [((ad 6), .inr (2, [.ref (ad 34), .ref (ad 35), .ref (ad 36), .int 0]))]) [2] rfl
    have hDc := hD.sub (ws' := [((ad 6), .inr (2, [.ref (ad 34), .ref (ad 35), .ref (ad 36), .int 0]))]) [2] (by decide) rfl
    refine gq_callV (wr := [(h0, .inr (11, [.ref (ad 0), .ref (ad 1), .ref (ad 2), .ref (ad 3), .ref (ad 4), .ref (ad 5), .ref (ad 6), .ref (ad 7), .ref (ad 8), .ref (ad 9), .ref (ad 10), .ref (ad 11), .ref (ad 12), .int 0, .int (-1), .int 0])), ((ad 1), .inr (9, [.int 0, .int 0, .int 0, .int 0, .ref (ad 14), .ref (ad 15), .ref (ad 16), .ref (ad 17), .ref (ad 18)]))]) (va_runV (As := []) (rest := []) ⟨hx, hb, hml, hown, ht⟩ (c_Logs_clear l G s.heap.size (ad 6) (ad 34) (ad 35) (ad 36)) (cwV 0 ht (ts_gV wd_695 wd_696 wd_697 wd_127 wd_698) rfl rfl rfl (by decide +kernel) ⟨Nat.le_of_ble_eq_true rfl, Nat.le_of_ble_eq_true rfl⟩) (gc_preV (ci := 2) (q0 := 0) hK hPc hDc rfl rfl) rfl rfl hl.1 rfl (lv_room (Nat.le_of_ble_eq_true rfl)) dX11_log_9 ⟨Nat.le_of_ble_eq_true rfl, Nat.le_of_ble_eq_true rfl⟩) hP hD hS hA [2] [0, 1] rfl rfl (by decide) (by decide) (fun u H locs hw hP hD hS => ?_)
    have hP : va_P (gg_D G) classes [(h0, .inr (11, [.ref (ad 0), .ref (ad 1), .ref (ad 2), .ref (ad 3), .ref (ad 4), .ref (ad 5), .ref (ad 6), .ref (ad 7), .ref (ad 8), .ref (ad 9), .ref (ad 10), .ref (ad 11), .ref (ad 12), .int 0, .int (-1), .int 0])), ((ad 1), .inr (9, [.int 0, .int 0, .int 0, .int 0, .ref (ad 14), .ref (ad 15), .ref (ad 16), .ref (ad 17), .ref (ad 18)])), ((ad 6), .inr (2, [.ref (ad 34), .ref (ad 35), .ref (ad 36), .int 0]))] H := hP
    have hD : va_D A [(h0, .inr (11, [.ref (ad 0), .ref (ad 1), .ref (ad 2), .ref (ad 3), .ref (ad 4), .ref (ad 5), .ref (ad 6), .ref (ad 7), .ref (ad 8), .ref (ad 9), .ref (ad 10), .ref (ad 11), .ref (ad 12), .int 0, .int (-1), .int 0])), ((ad 1), .inr (9, [.int 0, .int 0, .int 0, .int 0, .ref (ad 14), .ref (ad 15), .ref (ad 16), .ref (ad 17), .ref (ad 18)])), ((ad 6), .inr (2, [.ref (ad 34), .ref (ad 35), .ref (ad 36), .int 0]))] := hD
    refine lv_iconst (v := 0) hx hb dX11_log_12 (by decide) ?_
    have hP9 := hP.sub (ws' := []) [] rfl
    have hD9 := hD.sub (ws' := []) [] (by decide) rfl
    exact W.iret (v := 0) hx hb hr (gq_endI () (by decide +kernel) hP9 hD9 hS) hS.2.2 dX11_log_13
  · refine lv_iload_n hx hb dX11_log_0 rfl (lv_at hl 1 rfl) ?_
    refine lv_iconst (v := (-1)) hx hb dX11_log_1 (by decide) ?_
    refine lv_icmp_ne (tgt := 14) hx hb dX11_log_2 (by decide) (fun _ => ?_) (fun c0 => False.elim (by have k0 : ((-1) : Int32).toInt = -1 := (by decide +kernel); simp only [Int32.lt_iff_toInt_lt, Int32.le_iff_toInt_le, ← Int32.toInt_inj] at c_1 c0; omega))
    refine lv_aload_n hx hb dX11_log_14 rfl (lv_at hl 0 rfl) ?_
    refine lv_iload_n hx hb dX11_log_15 rfl (lv_at hl 1 rfl) ?_
    have hPc := hP.sub (ws' := [(h0, .inr (11, [.ref (ad 0), .ref (ad 1), .ref (ad 2), .ref (ad 3), .ref (ad 4), .ref (ad 5), .ref (ad 6), .ref (ad 7), .ref (ad 8), .ref (ad 9), .ref (ad 10), .ref (ad 11), .ref (ad 12), .int 0, .int (-1), .int 0])), ((ad 1), .inr (9, [.int 0, .int 0, .int 0, .int 0, .ref (ad 14), .ref (ad 15), .ref (ad 16), .ref (ad 17), .ref (ad 18)]))]) [0, 1] rfl
    have hDc := hD.sub (ws' := [(h0, .inr (11, [.ref (ad 0), .ref (ad 1), .ref (ad 2), .ref (ad 3), .ref (ad 4), .ref (ad 5), .ref (ad 6), .ref (ad 7), .ref (ad 8), .ref (ad 9), .ref (ad 10), .ref (ad 11), .ref (ad 12), .int 0, .int (-1), .int 0])), ((ad 1), .inr (9, [.int 0, .int 0, .int 0, .int 0, .ref (ad 14), .ref (ad 15), .ref (ad 16), .ref (ad 17), .ref (ad 18)]))]) [0, 1] (by decide) rfl
    refine gq_callI (wr := [((ad 6), .inr (2, [.ref (ad 34), .ref (ad 35), .ref (ad 36), .int 0]))]) (va_runV (As := [.int n]) (rest := []) ⟨hx, hb, hml, hown, ht⟩ (c_S_isLot l G s.heap.size h0 ad n) (cwV 1 ht (ts_gV wd_820 wd_822 wd_15 wd_122 wd_823) rfl rfl rfl (by decide +kernel) ⟨Nat.le_of_ble_eq_true rfl, Nat.le_of_ble_eq_true rfl⟩) (gc_preV (ci := 11) (q0 := 0) hK hPc hDc rfl rfl) rfl rfl hl.1 rfl (lv_room (Nat.le_of_ble_eq_true rfl)) dX11_log_16 ⟨Nat.le_of_ble_eq_true rfl, Nat.le_of_ble_eq_true rfl⟩) hP hD hS hA [0, 1] [2] rfl rfl (by decide) (by decide) (fun r u H locs hw hP hD hS => ?_)
    have hw : r = 0 := hw
    subst hw
    have hP : va_P (gg_D G) classes [((ad 6), .inr (2, [.ref (ad 34), .ref (ad 35), .ref (ad 36), .int 0])), (h0, .inr (11, [.ref (ad 0), .ref (ad 1), .ref (ad 2), .ref (ad 3), .ref (ad 4), .ref (ad 5), .ref (ad 6), .ref (ad 7), .ref (ad 8), .ref (ad 9), .ref (ad 10), .ref (ad 11), .ref (ad 12), .int 0, .int (-1), .int 0])), ((ad 1), .inr (9, [.int 0, .int 0, .int 0, .int 0, .ref (ad 14), .ref (ad 15), .ref (ad 16), .ref (ad 17), .ref (ad 18)]))] H := hP
    have hD : va_D A [((ad 6), .inr (2, [.ref (ad 34), .ref (ad 35), .ref (ad 36), .int 0])), (h0, .inr (11, [.ref (ad 0), .ref (ad 1), .ref (ad 2), .ref (ad 3), .ref (ad 4), .ref (ad 5), .ref (ad 6), .ref (ad 7), .ref (ad 8), .ref (ad 9), .ref (ad 10), .ref (ad 11), .ref (ad 12), .int 0, .int (-1), .int 0])), ((ad 1), .inr (9, [.int 0, .int 0, .int 0, .int 0, .ref (ad 14), .ref (ad 15), .ref (ad 16), .ref (ad 17), .ref (ad 18)]))] := hD
    refine lv_if_eq (tgt := 46) hx hb dX11_log_19 (by decide) (fun _ => ?_) (fun c0 => absurd (by decide +kernel) c0)
    refine lv_bipush (v := (-2)) hx hb dX11_log_46 (by decide +kernel) ?_
    have hP9 := hP.sub (ws' := []) [] rfl
    have hD9 := hD.sub (ws' := []) [] (by decide) rfl
    exact W.iret (v := (-2)) hx hb hr (gq_endI () (if_neg c_1).symm hP9 hD9 hS) hS.2.2 dX11_log_48
set_option maxHeartbeats 4000000 in
set_option maxRecDepth 100000 in
theorem c_S_ruled (l : Launch) (G : gg_T) (sz : Nat) (h0 : Nat) (ad : Nat → Nat) (b : Int32) : Met l yX11_ruled (ts_L yX11_ruled cX11_ruled 2 (some .int)) ({ frames := 1, cells := 0, slots := 0, locals := 20 }) (gc_P G [(h0, .inr (11, [.ref (ad 0), .ref (ad 1), .ref (ad 2), .ref (ad 3), .ref (ad 4), .ref (ad 5), .ref (ad 6), .ref (ad 7), .ref (ad 8), .ref (ad 9), .ref (ad 10), .ref (ad 11), .ref (ad 12), .int 0, .int (-1), .int 0])), ((ad 1), .inr (9, [.int 0, .int 0, .int 0, .int 0, .ref (ad 14), .ref (ad 15), .ref (ad 16), .ref (ad 17), .ref (ad 18)]))] sz [.ref h0, .int b]) (gc_I G (va_A [(h0, .inr (11, [.ref (ad 0), .ref (ad 1), .ref (ad 2), .ref (ad 3), .ref (ad 4), .ref (ad 5), .ref (ad 6), .ref (ad 7), .ref (ad 8), .ref (ad 9), .ref (ad 10), .ref (ad 11), .ref (ad 12), .int 0, .int (-1), .int 0])), ((ad 1), .inr (9, [.int 0, .int 0, .int 0, .int 0, .ref (ad 14), .ref (ad 15), .ref (ad 16), .ref (ad 17), .ref (ad 18)]))] sz) (fun r (_ : Unit) => r = (-3)) (fun _ => [])) 0 0 (va_A [(h0, .inr (11, [.ref (ad 0), .ref (ad 1), .ref (ad 2), .ref (ad 3), .ref (ad 4), .ref (ad 5), .ref (ad 6), .ref (ad 7), .ref (ad 8), .ref (ad 9), .ref (ad 10), .ref (ad 11), .ref (ad 12), .int 0, .int (-1), .int 0])), ((ad 1), .inr (9, [.int 0, .int 0, .int 0, .int 0, .ref (ad 14), .ref (ad 15), .ref (ad 16), .ref (ad 17), .ref (ad 18)]))] sz) := by
  refine Met.ofW (cc := cX11_ruled) (maxL := 2) (ret := (some .int)) (by decide) rfl ?_
  intro p e s m args below meth c s₁ B hml hv
  obtain ⟨rfl, hsz, hP, hK, hD0⟩ := hv
  have hx := B.exec
  have hb := B.bytes
  have hr := B.returns
  have ht := ts_ht (atoms_spec (ws := ts_L yX11_ruled cX11_ruled 2 (some .int)) B.pre)
  have hown : s.vm.findClass RX11 = some m.cls := findClass_of_methodNamed B.named
  have hlocks := B.notSynchronized
  subst hsz
  have hD := hD0.self (sz := s.heap.size)
  generalize hAe : va_A [(h0, .inr (11, [.ref (ad 0), .ref (ad 1), .ref (ad 2), .ref (ad 3), .ref (ad 4), .ref (ad 5), .ref (ad 6), .ref (ad 7), .ref (ad 8), .ref (ad 9), .ref (ad 10), .ref (ad 11), .ref (ad 12), .int 0, .int (-1), .int 0])), ((ad 1), .inr (9, [.int 0, .int 0, .int 0, .int 0, .ref (ad 14), .ref (ad 15), .ref (ad 16), .ref (ad 17), .ref (ad 18)]))] s.heap.size = A at hD ⊢
  have hA : ∀ q : Nat, s.heap.size ≤ q → A q := fun q h => by rw [← hAe]; exact Or.inr h
  have hS : va_S A s.heap s.heap [] := va_S.rf
  have hl := lv_entry ([.ref h0, .int b]) (n := 2) (Nat.le_of_ble_eq_true rfl)
  rw [lg_entry_eq]
  generalize (lg_sl ([.ref h0, .int b]) ++ List.replicate (2 - (lg_sl ([.ref h0, .int b])).length) Slot.unset).toArray = ls at hl ⊢
  have hl : lv_has ls 2 [(0, .ref h0), (1, .int b)] := hl
  refine lv_aload_n hx hb dX11_ruled_0 rfl (lv_at hl 0 rfl) ?_
  have hPc := hP.sub (ws' := [(h0, .inr (11, [.ref (ad 0), .ref (ad 1), .ref (ad 2), .ref (ad 3), .ref (ad 4), .ref (ad 5), .ref (ad 6), .ref (ad 7), .ref (ad 8), .ref (ad 9), .ref (ad 10), .ref (ad 11), .ref (ad 12), .int 0, .int (-1), .int 0])), ((ad 1), .inr (9, [.int 0, .int 0, .int 0, .int 0, .ref (ad 14), .ref (ad 15), .ref (ad 16), .ref (ad 17), .ref (ad 18)]))]) [0, 1] rfl
  have hDc := hD.sub (ws' := [(h0, .inr (11, [.ref (ad 0), .ref (ad 1), .ref (ad 2), .ref (ad 3), .ref (ad 4), .ref (ad 5), .ref (ad 6), .ref (ad 7), .ref (ad 8), .ref (ad 9), .ref (ad 10), .ref (ad 11), .ref (ad 12), .int 0, .int (-1), .int 0])), ((ad 1), .inr (9, [.int 0, .int 0, .int 0, .int 0, .ref (ad 14), .ref (ad 15), .ref (ad 16), .ref (ad 17), .ref (ad 18)]))]) [0, 1] (by decide) rfl
  refine gq_callI (wr := []) (va_runV (As := []) (rest := []) ⟨hx, hb, hml, hown, ht⟩ (c_S_isTold l G s.heap.size h0 ad) (cwV 0 ht (ts_gV wd_984 wd_986 wd_21 wd_122 wd_987) rfl rfl rfl (by decide +kernel) ⟨Nat.le_of_ble_eq_true rfl, Nat.le_of_ble_eq_true rfl⟩) (gc_preV (ci := 11) (q0 := 0) hK hPc hDc rfl rfl) rfl rfl hl.1 rfl (lv_room (Nat.le_of_ble_eq_true rfl)) dX11_ruled_1 ⟨Nat.le_of_ble_eq_true rfl, Nat.le_of_ble_eq_true rfl⟩) hP hD hS hA [0, 1] [] rfl rfl (by decide) (by decide) (fun r u H locs hw hP hD hS => ?_)
  have hw : r = 0 := hw
  subst hw
  have hP : va_P (gg_D G) classes [(h0, .inr (11, [.ref (ad 0), .ref (ad 1), .ref (ad 2), .ref (ad 3), .ref (ad 4), .ref (ad 5), .ref (ad 6), .ref (ad 7), .ref (ad 8), .ref (ad 9), .ref (ad 10), .ref (ad 11), .ref (ad 12), .int 0, .int (-1), .int 0])), ((ad 1), .inr (9, [.int 0, .int 0, .int 0, .int 0, .ref (ad 14), .ref (ad 15), .ref (ad 16), .ref (ad 17), .ref (ad 18)]))] H := hP
  have hD : va_D A [(h0, .inr (11, [.ref (ad 0), .ref (ad 1), .ref (ad 2), .ref (ad 3), .ref (ad 4), .ref (ad 5), .ref (ad 6), .ref (ad 7), .ref (ad 8), .ref (ad 9), .ref (ad 10), .ref (ad 11), .ref (ad 12), .int 0, .int (-1), .int 0])), ((ad 1), .inr (9, [.int 0, .int 0, .int 0, .int 0, .ref (ad 14), .ref (ad 15), .ref (ad 16), .ref (ad 17), .ref (ad 18)]))] := hD
  refine lv_if_eq (tgt := 16) hx hb dX11_ruled_4 (by decide) (fun _ => ?_) (fun c0 => absurd (by decide +kernel) c0)
  refine lv_bipush (v := (-3)) hx hb dX11_ruled_16 (by decide +kernel) ?_
  have hP9 := hP.sub (ws' := []) [] rfl
  have hD9 := hD.sub (ws' := []) [] (by decide) rfl
  exact W.iret (v := (-3)) hx hb hr (gq_endI () rfl hP9 hD9 hS) hS.2.2 dX11_ruled_18
set_option maxHeartbeats 4000000 in
set_option maxRecDepth 100000 in
theorem c_S_look (l : Launch) (G : gg_T) (sz : Nat) (h0 : Nat) (ad : Nat → Nat) (b : Int32) : Met l yX11_look (ts_L yX11_look cX11_look 4 (some .int)) ({ frames := 1, cells := 0, slots := 0, locals := 20 }) (gc_P G [(h0, .inr (11, [.ref (ad 0), .ref (ad 1), .ref (ad 2), .ref (ad 3), .ref (ad 4), .ref (ad 5), .ref (ad 6), .ref (ad 7), .ref (ad 8), .ref (ad 9), .ref (ad 10), .ref (ad 11), .ref (ad 12), .int 0, .int (-1), .int 0])), ((ad 1), .inr (9, [.int 0, .int 0, .int 0, .int 0, .ref (ad 14), .ref (ad 15), .ref (ad 16), .ref (ad 17), .ref (ad 18)]))] sz [.ref h0, .int b]) (gc_I G (va_A [(h0, .inr (11, [.ref (ad 0), .ref (ad 1), .ref (ad 2), .ref (ad 3), .ref (ad 4), .ref (ad 5), .ref (ad 6), .ref (ad 7), .ref (ad 8), .ref (ad 9), .ref (ad 10), .ref (ad 11), .ref (ad 12), .int 0, .int (-1), .int 0])), ((ad 1), .inr (9, [.int 0, .int 0, .int 0, .int 0, .ref (ad 14), .ref (ad 15), .ref (ad 16), .ref (ad 17), .ref (ad 18)]))] sz) (fun r (_ : Unit) => r = (-1)) (fun _ => [])) 0 0 (va_A [(h0, .inr (11, [.ref (ad 0), .ref (ad 1), .ref (ad 2), .ref (ad 3), .ref (ad 4), .ref (ad 5), .ref (ad 6), .ref (ad 7), .ref (ad 8), .ref (ad 9), .ref (ad 10), .ref (ad 11), .ref (ad 12), .int 0, .int (-1), .int 0])), ((ad 1), .inr (9, [.int 0, .int 0, .int 0, .int 0, .ref (ad 14), .ref (ad 15), .ref (ad 16), .ref (ad 17), .ref (ad 18)]))] sz) := by
  refine Met.ofW (cc := cX11_look) (maxL := 4) (ret := (some .int)) (by decide) rfl ?_
  intro p e s m args below meth c s₁ B hml hv
  obtain ⟨rfl, hsz, hP, hK, hD0⟩ := hv
  have hx := B.exec
  have hb := B.bytes
  have hr := B.returns
  have ht := ts_ht (atoms_spec (ws := ts_L yX11_look cX11_look 4 (some .int)) B.pre)
  have hown : s.vm.findClass RX11 = some m.cls := findClass_of_methodNamed B.named
  have hlocks := B.notSynchronized
  subst hsz
  have hD := hD0.self (sz := s.heap.size)
  generalize hAe : va_A [(h0, .inr (11, [.ref (ad 0), .ref (ad 1), .ref (ad 2), .ref (ad 3), .ref (ad 4), .ref (ad 5), .ref (ad 6), .ref (ad 7), .ref (ad 8), .ref (ad 9), .ref (ad 10), .ref (ad 11), .ref (ad 12), .int 0, .int (-1), .int 0])), ((ad 1), .inr (9, [.int 0, .int 0, .int 0, .int 0, .ref (ad 14), .ref (ad 15), .ref (ad 16), .ref (ad 17), .ref (ad 18)]))] s.heap.size = A at hD ⊢
  have hA : ∀ q : Nat, s.heap.size ≤ q → A q := fun q h => by rw [← hAe]; exact Or.inr h
  have hS : va_S A s.heap s.heap [] := va_S.rf
  have hl := lv_entry ([.ref h0, .int b]) (n := 4) (Nat.le_of_ble_eq_true rfl)
  rw [lg_entry_eq]
  generalize (lg_sl ([.ref h0, .int b]) ++ List.replicate (4 - (lg_sl ([.ref h0, .int b])).length) Slot.unset).toArray = ls at hl ⊢
  have hl : lv_has ls 4 [(0, .ref h0), (1, .int b)] := hl
  refine lv_aload_n hx hb dX11_look_0 rfl (lv_at hl 0 rfl) ?_
  have hPc := hP.sub (ws' := [(h0, .inr (11, [.ref (ad 0), .ref (ad 1), .ref (ad 2), .ref (ad 3), .ref (ad 4), .ref (ad 5), .ref (ad 6), .ref (ad 7), .ref (ad 8), .ref (ad 9), .ref (ad 10), .ref (ad 11), .ref (ad 12), .int 0, .int (-1), .int 0])), ((ad 1), .inr (9, [.int 0, .int 0, .int 0, .int 0, .ref (ad 14), .ref (ad 15), .ref (ad 16), .ref (ad 17), .ref (ad 18)]))]) [0, 1] rfl
  have hDc := hD.sub (ws' := [(h0, .inr (11, [.ref (ad 0), .ref (ad 1), .ref (ad 2), .ref (ad 3), .ref (ad 4), .ref (ad 5), .ref (ad 6), .ref (ad 7), .ref (ad 8), .ref (ad 9), .ref (ad 10), .ref (ad 11), .ref (ad 12), .int 0, .int (-1), .int 0])), ((ad 1), .inr (9, [.int 0, .int 0, .int 0, .int 0, .ref (ad 14), .ref (ad 15), .ref (ad 16), .ref (ad 17), .ref (ad 18)]))]) [0, 1] (by decide) rfl
  refine gq_callI (wr := []) (va_runV (As := []) (rest := []) ⟨hx, hb, hml, hown, ht⟩ (c_S_isTold l G s.heap.size h0 ad) (cwV 0 ht (ts_gV wd_984 wd_986 wd_21 wd_122 wd_987) rfl rfl rfl (by decide +kernel) ⟨Nat.le_of_ble_eq_true rfl, Nat.le_of_ble_eq_true rfl⟩) (gc_preV (ci := 11) (q0 := 0) hK hPc hDc rfl rfl) rfl rfl hl.1 rfl (lv_room (Nat.le_of_ble_eq_true rfl)) dX11_look_1 ⟨Nat.le_of_ble_eq_true rfl, Nat.le_of_ble_eq_true rfl⟩) hP hD hS hA [0, 1] [] rfl rfl (by decide) (by decide) (fun r u H locs hw hP hD hS => ?_)
  have hw : r = 0 := hw
  subst hw
  have hP : va_P (gg_D G) classes [(h0, .inr (11, [.ref (ad 0), .ref (ad 1), .ref (ad 2), .ref (ad 3), .ref (ad 4), .ref (ad 5), .ref (ad 6), .ref (ad 7), .ref (ad 8), .ref (ad 9), .ref (ad 10), .ref (ad 11), .ref (ad 12), .int 0, .int (-1), .int 0])), ((ad 1), .inr (9, [.int 0, .int 0, .int 0, .int 0, .ref (ad 14), .ref (ad 15), .ref (ad 16), .ref (ad 17), .ref (ad 18)]))] H := hP
  have hD : va_D A [(h0, .inr (11, [.ref (ad 0), .ref (ad 1), .ref (ad 2), .ref (ad 3), .ref (ad 4), .ref (ad 5), .ref (ad 6), .ref (ad 7), .ref (ad 8), .ref (ad 9), .ref (ad 10), .ref (ad 11), .ref (ad 12), .int 0, .int (-1), .int 0])), ((ad 1), .inr (9, [.int 0, .int 0, .int 0, .int 0, .ref (ad 14), .ref (ad 15), .ref (ad 16), .ref (ad 17), .ref (ad 18)]))] := hD
  refine lv_if_eq (tgt := 16) hx hb dX11_look_4 (by decide) (fun _ => ?_) (fun c0 => absurd (by decide +kernel) c0)
  refine lv_iconst (v := (-1)) hx hb dX11_look_16 (by decide) ?_
  have hP9 := hP.sub (ws' := []) [] rfl
  have hD9 := hD.sub (ws' := []) [] (by decide) rfl
  exact W.iret (v := (-1)) hx hb hr (gq_endI () rfl hP9 hD9 hS) hS.2.2 dX11_look_17
set_option maxHeartbeats 4000000 in
set_option maxRecDepth 100000 in
theorem c_S_seed (l : Launch) (G : gg_T) (sz : Nat) (h0 : Nat) (ad : Nat → Nat) (n : Int32) : Met l yX11_seed (ts_L yX11_seed cX11_seed 3 (some .int)) ({ frames := 0, cells := 0, slots := 0, locals := 0 }) (gc_P G [(h0, .inr (11, [.ref (ad 0), .ref (ad 1), .ref (ad 2), .ref (ad 3), .ref (ad 4), .ref (ad 5), .ref (ad 6), .ref (ad 7), .ref (ad 8), .ref (ad 9), .ref (ad 10), .ref (ad 11), .ref (ad 12), .int 0, .int (-1), .int 0]))] sz [.ref h0, .int n]) (gc_I G (va_A [(h0, .inr (11, [.ref (ad 0), .ref (ad 1), .ref (ad 2), .ref (ad 3), .ref (ad 4), .ref (ad 5), .ref (ad 6), .ref (ad 7), .ref (ad 8), .ref (ad 9), .ref (ad 10), .ref (ad 11), .ref (ad 12), .int 0, .int (-1), .int 0]))] sz) (fun r (_ : Unit) => r = (if n < 0 then -1 else 0)) (fun _ => [])) 0 0 (va_A [(h0, .inr (11, [.ref (ad 0), .ref (ad 1), .ref (ad 2), .ref (ad 3), .ref (ad 4), .ref (ad 5), .ref (ad 6), .ref (ad 7), .ref (ad 8), .ref (ad 9), .ref (ad 10), .ref (ad 11), .ref (ad 12), .int 0, .int (-1), .int 0]))] sz) := by
  refine Met.ofW (cc := cX11_seed) (maxL := 3) (ret := (some .int)) (by decide) rfl ?_
  intro p e s m args below meth c s₁ B hml hv
  obtain ⟨rfl, hsz, hP, hK, hD0⟩ := hv
  have hx := B.exec
  have hb := B.bytes
  have hr := B.returns
  have ht := ts_ht (atoms_spec (ws := ts_L yX11_seed cX11_seed 3 (some .int)) B.pre)
  have hown : s.vm.findClass RX11 = some m.cls := findClass_of_methodNamed B.named
  have hlocks := B.notSynchronized
  subst hsz
  have hD := hD0.self (sz := s.heap.size)
  generalize hAe : va_A [(h0, .inr (11, [.ref (ad 0), .ref (ad 1), .ref (ad 2), .ref (ad 3), .ref (ad 4), .ref (ad 5), .ref (ad 6), .ref (ad 7), .ref (ad 8), .ref (ad 9), .ref (ad 10), .ref (ad 11), .ref (ad 12), .int 0, .int (-1), .int 0]))] s.heap.size = A at hD ⊢
  have hA : ∀ q : Nat, s.heap.size ≤ q → A q := fun q h => by rw [← hAe]; exact Or.inr h
  have hS : va_S A s.heap s.heap [] := va_S.rf
  have hl := lv_entry ([.ref h0, .int n]) (n := 3) (Nat.le_of_ble_eq_true rfl)
  rw [lg_entry_eq]
  generalize (lg_sl ([.ref h0, .int n]) ++ List.replicate (3 - (lg_sl ([.ref h0, .int n])).length) Slot.unset).toArray = ls at hl ⊢
  have hl : lv_has ls 3 [(0, .ref h0), (1, .int n)] := hl
  refine lv_iload_n hx hb dX11_seed_0 rfl (lv_at hl 1 rfl) ?_
  refine lv_if_ge (tgt := 6) hx hb dX11_seed_1 (by decide) (fun c_1 => ?_) (fun c_1 => ?_)
  · refine lv_aload_n hx hb dX11_seed_6 rfl (lv_at hl 0 rfl) ?_
    refine gq_get hx hb ht hown hK hP i_X11 0 rfl rfl 15 (by decide) wd_512 rfl rfl dX11_seed_7 ?_
    refine lv_istore_n (lv' := [(2, .int 0), (0, .ref h0), (1, .int n)]) hx hb dX11_seed_10 rfl hl (by decide) rfl (fun ls hl => ?_)
    refine lv_aload_n hx hb dX11_seed_11 rfl (lv_at hl 1 rfl) ?_
    refine lv_iload_n hx hb dX11_seed_12 rfl (lv_at hl 2 rfl) ?_
    refine gq_put (ws' := [(h0, .inr (11, [.ref (ad 0), .ref (ad 1), .ref (ad 2), .ref (ad 3), .ref (ad 4), .ref (ad 5), .ref (ad 6), .ref (ad 7), .ref (ad 8), .ref (ad 9), .ref (ad 10), .ref (ad 11), .ref (ad 12), .int 0, .int (-1), .int n]))]) hx hb ht hown hK hP hD hS i_X11 tyX11 tyX11_ok nmX11 0 rfl rfl 15 (by decide) wd_512 rfl rfl rfl rfl (Nat.le_of_ble_eq_true rfl) rfl dX11_seed_13 (fun H locs hP hD hS => ?_)
    refine lv_iload_n hx hb dX11_seed_16 rfl (lv_at hl 0 rfl) ?_
    have hP9 := hP.sub (ws' := []) [] rfl
    have hD9 := hD.sub (ws' := []) [] (by decide) rfl
    exact W.iret (v := 0) hx hb hr (gq_endI () (if_neg (Int32.not_lt.mpr c_1)).symm hP9 hD9 hS) hS.2.2 dX11_seed_17
  · refine lv_iconst (v := (-1)) hx hb dX11_seed_4 (by decide) ?_
    have hP9 := hP.sub (ws' := []) [] rfl
    have hD9 := hD.sub (ws' := []) [] (by decide) rfl
    exact W.iret (v := (-1)) hx hb hr (gq_endI () (if_pos (Int32.not_le.mp c_1)).symm hP9 hD9 hS) hS.2.2 dX11_seed_5
set_option maxHeartbeats 4000000 in
set_option maxRecDepth 100000 in
theorem c_S_coughs (l : Launch) (G : gg_T) (sz : Nat) (h0 : Nat) (ad : Nat → Nat) (b : Int32) (w : Int32) (z : Int32) (y : Int32) : Met l yX11_coughs (ts_L yX11_coughs cX11_coughs 8 (some .int)) ({ frames := 1, cells := 0, slots := 0, locals := 20 }) (gc_P G [(h0, .inr (11, [.ref (ad 0), .ref (ad 1), .ref (ad 2), .ref (ad 3), .ref (ad 4), .ref (ad 5), .ref (ad 6), .ref (ad 7), .ref (ad 8), .ref (ad 9), .ref (ad 10), .ref (ad 11), .ref (ad 12), .int 0, .int (-1), .int 0])), ((ad 1), .inr (9, [.int 0, .int 0, .int 0, .int 0, .ref (ad 14), .ref (ad 15), .ref (ad 16), .ref (ad 17), .ref (ad 18)]))] sz [.ref h0, .int b, .int w, .int z, .int y]) (gc_I G (va_A [(h0, .inr (11, [.ref (ad 0), .ref (ad 1), .ref (ad 2), .ref (ad 3), .ref (ad 4), .ref (ad 5), .ref (ad 6), .ref (ad 7), .ref (ad 8), .ref (ad 9), .ref (ad 10), .ref (ad 11), .ref (ad 12), .int 0, .int (-1), .int 0])), ((ad 1), .inr (9, [.int 0, .int 0, .int 0, .int 0, .ref (ad 14), .ref (ad 15), .ref (ad 16), .ref (ad 17), .ref (ad 18)]))] sz) (fun r (_ : Unit) => r = (-1)) (fun _ => [])) 0 0 (va_A [(h0, .inr (11, [.ref (ad 0), .ref (ad 1), .ref (ad 2), .ref (ad 3), .ref (ad 4), .ref (ad 5), .ref (ad 6), .ref (ad 7), .ref (ad 8), .ref (ad 9), .ref (ad 10), .ref (ad 11), .ref (ad 12), .int 0, .int (-1), .int 0])), ((ad 1), .inr (9, [.int 0, .int 0, .int 0, .int 0, .ref (ad 14), .ref (ad 15), .ref (ad 16), .ref (ad 17), .ref (ad 18)]))] sz) := by
  refine Met.ofW (cc := cX11_coughs) (maxL := 8) (ret := (some .int)) (by decide) rfl ?_
  intro p e s m args below meth c s₁ B hml hv
  obtain ⟨rfl, hsz, hP, hK, hD0⟩ := hv
  have hx := B.exec
  have hb := B.bytes
  have hr := B.returns
  have ht := ts_ht (atoms_spec (ws := ts_L yX11_coughs cX11_coughs 8 (some .int)) B.pre)
  have hown : s.vm.findClass RX11 = some m.cls := findClass_of_methodNamed B.named
  have hlocks := B.notSynchronized
  subst hsz
  have hD := hD0.self (sz := s.heap.size)
  generalize hAe : va_A [(h0, .inr (11, [.ref (ad 0), .ref (ad 1), .ref (ad 2), .ref (ad 3), .ref (ad 4), .ref (ad 5), .ref (ad 6), .ref (ad 7), .ref (ad 8), .ref (ad 9), .ref (ad 10), .ref (ad 11), .ref (ad 12), .int 0, .int (-1), .int 0])), ((ad 1), .inr (9, [.int 0, .int 0, .int 0, .int 0, .ref (ad 14), .ref (ad 15), .ref (ad 16), .ref (ad 17), .ref (ad 18)]))] s.heap.size = A at hD ⊢
  have hA : ∀ q : Nat, s.heap.size ≤ q → A q := fun q h => by rw [← hAe]; exact Or.inr h
  have hS : va_S A s.heap s.heap [] := va_S.rf
  have hl := lv_entry ([.ref h0, .int b, .int w, .int z, .int y]) (n := 8) (Nat.le_of_ble_eq_true rfl)
  rw [lg_entry_eq]
  generalize (lg_sl ([.ref h0, .int b, .int w, .int z, .int y]) ++ List.replicate (8 - (lg_sl ([.ref h0, .int b, .int w, .int z, .int y])).length) Slot.unset).toArray = ls at hl ⊢
  have hl : lv_has ls 8 [(0, .ref h0), (1, .int b), (2, .int w), (3, .int z), (4, .int y)] := hl
  refine lv_aload_n hx hb dX11_coughs_0 rfl (lv_at hl 0 rfl) ?_
  have hPc := hP.sub (ws' := [(h0, .inr (11, [.ref (ad 0), .ref (ad 1), .ref (ad 2), .ref (ad 3), .ref (ad 4), .ref (ad 5), .ref (ad 6), .ref (ad 7), .ref (ad 8), .ref (ad 9), .ref (ad 10), .ref (ad 11), .ref (ad 12), .int 0, .int (-1), .int 0])), ((ad 1), .inr (9, [.int 0, .int 0, .int 0, .int 0, .ref (ad 14), .ref (ad 15), .ref (ad 16), .ref (ad 17), .ref (ad 18)]))]) [0, 1] rfl
  have hDc := hD.sub (ws' := [(h0, .inr (11, [.ref (ad 0), .ref (ad 1), .ref (ad 2), .ref (ad 3), .ref (ad 4), .ref (ad 5), .ref (ad 6), .ref (ad 7), .ref (ad 8), .ref (ad 9), .ref (ad 10), .ref (ad 11), .ref (ad 12), .int 0, .int (-1), .int 0])), ((ad 1), .inr (9, [.int 0, .int 0, .int 0, .int 0, .ref (ad 14), .ref (ad 15), .ref (ad 16), .ref (ad 17), .ref (ad 18)]))]) [0, 1] (by decide) rfl
  refine gq_callI (wr := []) (va_runV (As := []) (rest := []) ⟨hx, hb, hml, hown, ht⟩ (c_S_isTold l G s.heap.size h0 ad) (cwV 0 ht (ts_gV wd_984 wd_986 wd_21 wd_122 wd_987) rfl rfl rfl (by decide +kernel) ⟨Nat.le_of_ble_eq_true rfl, Nat.le_of_ble_eq_true rfl⟩) (gc_preV (ci := 11) (q0 := 0) hK hPc hDc rfl rfl) rfl rfl hl.1 rfl (lv_room (Nat.le_of_ble_eq_true rfl)) dX11_coughs_1 ⟨Nat.le_of_ble_eq_true rfl, Nat.le_of_ble_eq_true rfl⟩) hP hD hS hA [0, 1] [] rfl rfl (by decide) (by decide) (fun r u H locs hw hP hD hS => ?_)
  have hw : r = 0 := hw
  subst hw
  have hP : va_P (gg_D G) classes [(h0, .inr (11, [.ref (ad 0), .ref (ad 1), .ref (ad 2), .ref (ad 3), .ref (ad 4), .ref (ad 5), .ref (ad 6), .ref (ad 7), .ref (ad 8), .ref (ad 9), .ref (ad 10), .ref (ad 11), .ref (ad 12), .int 0, .int (-1), .int 0])), ((ad 1), .inr (9, [.int 0, .int 0, .int 0, .int 0, .ref (ad 14), .ref (ad 15), .ref (ad 16), .ref (ad 17), .ref (ad 18)]))] H := hP
  have hD : va_D A [(h0, .inr (11, [.ref (ad 0), .ref (ad 1), .ref (ad 2), .ref (ad 3), .ref (ad 4), .ref (ad 5), .ref (ad 6), .ref (ad 7), .ref (ad 8), .ref (ad 9), .ref (ad 10), .ref (ad 11), .ref (ad 12), .int 0, .int (-1), .int 0])), ((ad 1), .inr (9, [.int 0, .int 0, .int 0, .int 0, .ref (ad 14), .ref (ad 15), .ref (ad 16), .ref (ad 17), .ref (ad 18)]))] := hD
  refine lv_if_eq (tgt := 29) hx hb dX11_coughs_4 (by decide) (fun _ => ?_) (fun c0 => absurd (by decide +kernel) c0)
  refine lv_iconst (v := (-1)) hx hb dX11_coughs_29 (by decide) ?_
  have hP9 := hP.sub (ws' := []) [] rfl
  have hD9 := hD.sub (ws' := []) [] (by decide) rfl
  exact W.iret (v := (-1)) hx hb hr (gq_endI () rfl hP9 hD9 hS) hS.2.2 dX11_coughs_30
set_option maxHeartbeats 4000000 in
set_option maxRecDepth 100000 in
theorem c_S_count (l : Launch) (G : gg_T) (sz : Nat) (h0 : Nat) (ad : Nat → Nat) (n : Int32) : Met l yX11_count (ts_L yX11_count cX11_count 2 (some .int)) ({ frames := 1, cells := 0, slots := 0, locals := 23 }) (gc_P G [(h0, .inr (11, [.ref (ad 0), .ref (ad 1), .ref (ad 2), .ref (ad 3), .ref (ad 4), .ref (ad 5), .ref (ad 6), .ref (ad 7), .ref (ad 8), .ref (ad 9), .ref (ad 10), .ref (ad 11), .ref (ad 12), .int 0, .int (-1), .int 0])), ((ad 0), .inr (8, [.ref (ad 13), .int 0, .int 0, .int 0, .int 0])), ((ad 1), .inr (9, [.int 0, .int 0, .int 0, .int 0, .ref (ad 14), .ref (ad 15), .ref (ad 16), .ref (ad 17), .ref (ad 18)])), ((ad 3), .inr (7, [.ref (ad 24), .ref (ad 25), .ref (ad 26), .ref (ad 27), .ref (ad 28), .ref (ad 29), .ref (ad 30), .ref (ad 31), .ref (ad 32), .int 0])), ((ad 28), .inl (G.2.2 0, 3, .inl (fun _ => 0))), ((ad 31), .inl (G.2.2 0, 3, .inl (fun _ => 0))), ((ad 32), .inl (G.2.2 0, 3, .inl (fun _ => 0))), ((ad 6), .inr (2, [.ref (ad 34), .ref (ad 35), .ref (ad 36), .int 0])), ((ad 5), .inr (3, [.ref (ad 33), .int 0, .int 0]))] sz [.ref h0, .int n]) (gc_I G (va_A [(h0, .inr (11, [.ref (ad 0), .ref (ad 1), .ref (ad 2), .ref (ad 3), .ref (ad 4), .ref (ad 5), .ref (ad 6), .ref (ad 7), .ref (ad 8), .ref (ad 9), .ref (ad 10), .ref (ad 11), .ref (ad 12), .int 0, .int (-1), .int 0])), ((ad 0), .inr (8, [.ref (ad 13), .int 0, .int 0, .int 0, .int 0])), ((ad 1), .inr (9, [.int 0, .int 0, .int 0, .int 0, .ref (ad 14), .ref (ad 15), .ref (ad 16), .ref (ad 17), .ref (ad 18)])), ((ad 3), .inr (7, [.ref (ad 24), .ref (ad 25), .ref (ad 26), .ref (ad 27), .ref (ad 28), .ref (ad 29), .ref (ad 30), .ref (ad 31), .ref (ad 32), .int 0])), ((ad 28), .inl (G.2.2 0, 3, .inl (fun _ => 0))), ((ad 31), .inl (G.2.2 0, 3, .inl (fun _ => 0))), ((ad 32), .inl (G.2.2 0, 3, .inl (fun _ => 0))), ((ad 6), .inr (2, [.ref (ad 34), .ref (ad 35), .ref (ad 36), .int 0])), ((ad 5), .inr (3, [.ref (ad 33), .int 0, .int 0]))] sz) (fun r (_ : Unit) => r = (sp_count n)) (fun _ => [])) 0 0 (va_A [(h0, .inr (11, [.ref (ad 0), .ref (ad 1), .ref (ad 2), .ref (ad 3), .ref (ad 4), .ref (ad 5), .ref (ad 6), .ref (ad 7), .ref (ad 8), .ref (ad 9), .ref (ad 10), .ref (ad 11), .ref (ad 12), .int 0, .int (-1), .int 0])), ((ad 0), .inr (8, [.ref (ad 13), .int 0, .int 0, .int 0, .int 0])), ((ad 1), .inr (9, [.int 0, .int 0, .int 0, .int 0, .ref (ad 14), .ref (ad 15), .ref (ad 16), .ref (ad 17), .ref (ad 18)])), ((ad 3), .inr (7, [.ref (ad 24), .ref (ad 25), .ref (ad 26), .ref (ad 27), .ref (ad 28), .ref (ad 29), .ref (ad 30), .ref (ad 31), .ref (ad 32), .int 0])), ((ad 28), .inl (G.2.2 0, 3, .inl (fun _ => 0))), ((ad 31), .inl (G.2.2 0, 3, .inl (fun _ => 0))), ((ad 32), .inl (G.2.2 0, 3, .inl (fun _ => 0))), ((ad 6), .inr (2, [.ref (ad 34), .ref (ad 35), .ref (ad 36), .int 0])), ((ad 5), .inr (3, [.ref (ad 33), .int 0, .int 0]))] sz) := by
  refine Met.ofW (cc := cX11_count) (maxL := 2) (ret := (some .int)) (by decide) rfl ?_
  intro p e s m args below meth c s₁ B hml hv
  obtain ⟨rfl, hsz, hP, hK, hD0⟩ := hv
  have hx := B.exec
  have hb := B.bytes
  have hr := B.returns
  have ht := ts_ht (atoms_spec (ws := ts_L yX11_count cX11_count 2 (some .int)) B.pre)
  have hown : s.vm.findClass RX11 = some m.cls := findClass_of_methodNamed B.named
  have hlocks := B.notSynchronized
  subst hsz
  have hD := hD0.self (sz := s.heap.size)
  generalize hAe : va_A [(h0, .inr (11, [.ref (ad 0), .ref (ad 1), .ref (ad 2), .ref (ad 3), .ref (ad 4), .ref (ad 5), .ref (ad 6), .ref (ad 7), .ref (ad 8), .ref (ad 9), .ref (ad 10), .ref (ad 11), .ref (ad 12), .int 0, .int (-1), .int 0])), ((ad 0), .inr (8, [.ref (ad 13), .int 0, .int 0, .int 0, .int 0])), ((ad 1), .inr (9, [.int 0, .int 0, .int 0, .int 0, .ref (ad 14), .ref (ad 15), .ref (ad 16), .ref (ad 17), .ref (ad 18)])), ((ad 3), .inr (7, [.ref (ad 24), .ref (ad 25), .ref (ad 26), .ref (ad 27), .ref (ad 28), .ref (ad 29), .ref (ad 30), .ref (ad 31), .ref (ad 32), .int 0])), ((ad 28), .inl (G.2.2 0, 3, .inl (fun _ => 0))), ((ad 31), .inl (G.2.2 0, 3, .inl (fun _ => 0))), ((ad 32), .inl (G.2.2 0, 3, .inl (fun _ => 0))), ((ad 6), .inr (2, [.ref (ad 34), .ref (ad 35), .ref (ad 36), .int 0])), ((ad 5), .inr (3, [.ref (ad 33), .int 0, .int 0]))] s.heap.size = A at hD ⊢
  have hA : ∀ q : Nat, s.heap.size ≤ q → A q := fun q h => by rw [← hAe]; exact Or.inr h
  have hS : va_S A s.heap s.heap [] := va_S.rf
  have hl := lv_entry ([.ref h0, .int n]) (n := 2) (Nat.le_of_ble_eq_true rfl)
  rw [lg_entry_eq]
  generalize (lg_sl ([.ref h0, .int n]) ++ List.replicate (2 - (lg_sl ([.ref h0, .int n])).length) Slot.unset).toArray = ls at hl ⊢
  have hl : lv_has ls 2 [(0, .ref h0), (1, .int n)] := hl
  refine lv_iload_n hx hb dX11_count_0 rfl (lv_at hl 1 rfl) ?_
  by_cases c_1 : n = 0
  · subst c_1
    refine lv_tableIn (x := 0) (off := 75) (tgt := 76) hx hb dX11_count_1 (by decide +kernel) (by decide +kernel) (by decide +kernel) (by decide) ?_
    refine lv_aload_n hx hb dX11_count_76 rfl (lv_at hl 0 rfl) ?_
    refine gq_get hx hb ht hown hK hP i_X11 0 rfl rfl 1 (by decide) wd_498 rfl rfl dX11_count_77 ?_
    refine gq_get hx hb ht hown hK hP i_X9 2 rfl rfl 0 (by decide) wd_180 rfl rfl dX11_count_80 ?_
    have hP9 := hP.sub (ws' := []) [] rfl
    have hD9 := hD.sub (ws' := []) [] (by decide) rfl
    exact W.iret (v := 0) hx hb hr (gq_endI () (by decide +kernel) hP9 hD9 hS) hS.2.2 dX11_count_83
  by_cases c_2 : n = 1
  · subst c_2
    refine lv_tableIn (x := 1) (off := 83) (tgt := 84) hx hb dX11_count_1 (by decide +kernel) (by decide +kernel) (by decide +kernel) (by decide) ?_
    refine lv_aload_n hx hb dX11_count_84 rfl (lv_at hl 0 rfl) ?_
    refine gq_get hx hb ht hown hK hP i_X11 0 rfl rfl 1 (by decide) wd_498 rfl rfl dX11_count_85 ?_
    refine gq_get hx hb ht hown hK hP i_X9 2 rfl rfl 1 (by decide) wd_185 rfl rfl dX11_count_88 ?_
    have hP9 := hP.sub (ws' := []) [] rfl
    have hD9 := hD.sub (ws' := []) [] (by decide) rfl
    exact W.iret (v := 0) hx hb hr (gq_endI () (by decide +kernel) hP9 hD9 hS) hS.2.2 dX11_count_91
  by_cases c_3 : n = 2
  · subst c_3
    refine lv_tableIn (x := 2) (off := 91) (tgt := 92) hx hb dX11_count_1 (by decide +kernel) (by decide +kernel) (by decide +kernel) (by decide) ?_
    refine lv_aload_n hx hb dX11_count_92 rfl (lv_at hl 0 rfl) ?_
    refine gq_get hx hb ht hown hK hP i_X11 0 rfl rfl 1 (by decide) wd_498 rfl rfl dX11_count_93 ?_
    refine gq_get hx hb ht hown hK hP i_X9 2 rfl rfl 2 (by decide) wd_190 rfl rfl dX11_count_96 ?_
    have hP9 := hP.sub (ws' := []) [] rfl
    have hD9 := hD.sub (ws' := []) [] (by decide) rfl
    exact W.iret (v := 0) hx hb hr (gq_endI () (by decide +kernel) hP9 hD9 hS) hS.2.2 dX11_count_99
  by_cases c_4 : n = 3
  · subst c_4
    refine lv_tableIn (x := 3) (off := 99) (tgt := 100) hx hb dX11_count_1 (by decide +kernel) (by decide +kernel) (by decide +kernel) (by decide) ?_
    refine lv_aload_n hx hb dX11_count_100 rfl (lv_at hl 0 rfl) ?_
    refine gq_get hx hb ht hown hK hP i_X11 0 rfl rfl 1 (by decide) wd_498 rfl rfl dX11_count_101 ?_
    refine gq_get hx hb ht hown hK hP i_X9 2 rfl rfl 3 (by decide) wd_193 rfl rfl dX11_count_104 ?_
    have hP9 := hP.sub (ws' := []) [] rfl
    have hD9 := hD.sub (ws' := []) [] (by decide) rfl
    exact W.iret (v := 0) hx hb hr (gq_endI () (by decide +kernel) hP9 hD9 hS) hS.2.2 dX11_count_107
  by_cases c_5 : n = 4
  · subst c_5
    refine lv_tableIn (x := 4) (off := 107) (tgt := 108) hx hb dX11_count_1 (by decide +kernel) (by decide +kernel) (by decide +kernel) (by decide) ?_
    refine lv_aload_n hx hb dX11_count_108 rfl (lv_at hl 0 rfl) ?_
    refine gq_get hx hb ht hown hK hP i_X11 0 rfl rfl 13 (by decide) wd_510 rfl rfl dX11_count_109 ?_
    have hP9 := hP.sub (ws' := []) [] rfl
    have hD9 := hD.sub (ws' := []) [] (by decide) rfl
    exact W.iret (v := 0) hx hb hr (gq_endI () (by decide +kernel) hP9 hD9 hS) hS.2.2 dX11_count_112
  by_cases c_6 : n = 5
  · subst c_6
    refine lv_tableIn (x := 5) (off := 112) (tgt := 113) hx hb dX11_count_1 (by decide +kernel) (by decide +kernel) (by decide +kernel) (by decide) ?_
    refine lv_aload_n hx hb dX11_count_113 rfl (lv_at hl 0 rfl) ?_
    refine gq_get hx hb ht hown hK hP i_X11 0 rfl rfl 14 (by decide) wd_511 rfl rfl dX11_count_114 ?_
    have hP9 := hP.sub (ws' := []) [] rfl
    have hD9 := hD.sub (ws' := []) [] (by decide) rfl
    exact W.iret (v := (-1)) hx hb hr (gq_endI () (by decide +kernel) hP9 hD9 hS) hS.2.2 dX11_count_117
  by_cases c_7 : n = 6
  · subst c_7
    refine lv_tableIn (x := 6) (off := 117) (tgt := 118) hx hb dX11_count_1 (by decide +kernel) (by decide +kernel) (by decide +kernel) (by decide) ?_
    refine lv_aload_n hx hb dX11_count_118 rfl (lv_at hl 0 rfl) ?_
    refine gq_get hx hb ht hown hK hP i_X11 0 rfl rfl 3 (by decide) wd_500 rfl rfl dX11_count_119 ?_
    refine gq_get hx hb ht hown hK hP i_X7 3 rfl rfl 9 (by decide) wd_268 rfl rfl dX11_count_122 ?_
    have hP9 := hP.sub (ws' := []) [] rfl
    have hD9 := hD.sub (ws' := []) [] (by decide) rfl
    exact W.iret (v := 0) hx hb hr (gq_endI () (by decide +kernel) hP9 hD9 hS) hS.2.2 dX11_count_125
  by_cases c_8 : n = 7
  · subst c_8
    refine lv_tableIn (x := 7) (off := 125) (tgt := 126) hx hb dX11_count_1 (by decide +kernel) (by decide +kernel) (by decide +kernel) (by decide) ?_
    refine lv_aload_n hx hb dX11_count_126 rfl (lv_at hl 0 rfl) ?_
    refine gq_get hx hb ht hown hK hP i_X11 0 rfl rfl 3 (by decide) wd_500 rfl rfl dX11_count_127 ?_
    have hPc := hP.sub (ws' := [((ad 3), .inr (7, [.ref (ad 24), .ref (ad 25), .ref (ad 26), .ref (ad 27), .ref (ad 28), .ref (ad 29), .ref (ad 30), .ref (ad 31), .ref (ad 32), .int 0])), ((ad 32), .inl (G.2.2 0, 3, .inl (fun _ => 0)))]) [3, 6] rfl
    have hDc := hD.sub (ws' := [((ad 3), .inr (7, [.ref (ad 24), .ref (ad 25), .ref (ad 26), .ref (ad 27), .ref (ad 28), .ref (ad 29), .ref (ad 30), .ref (ad 31), .ref (ad 32), .int 0])), ((ad 32), .inl (G.2.2 0, 3, .inl (fun _ => 0)))]) [3, 6] (by decide) rfl
    refine gq_callI (wr := [(h0, .inr (11, [.ref (ad 0), .ref (ad 1), .ref (ad 2), .ref (ad 3), .ref (ad 4), .ref (ad 5), .ref (ad 6), .ref (ad 7), .ref (ad 8), .ref (ad 9), .ref (ad 10), .ref (ad 11), .ref (ad 12), .int 0, .int (-1), .int 0])), ((ad 0), .inr (8, [.ref (ad 13), .int 0, .int 0, .int 0, .int 0])), ((ad 1), .inr (9, [.int 0, .int 0, .int 0, .int 0, .ref (ad 14), .ref (ad 15), .ref (ad 16), .ref (ad 17), .ref (ad 18)])), ((ad 28), .inl (G.2.2 0, 3, .inl (fun _ => 0))), ((ad 31), .inl (G.2.2 0, 3, .inl (fun _ => 0))), ((ad 6), .inr (2, [.ref (ad 34), .ref (ad 35), .ref (ad 36), .int 0])), ((ad 5), .inr (3, [.ref (ad 33), .int 0, .int 0]))]) (va_runV (As := []) (rest := []) ⟨hx, hb, hml, hown, ht⟩ (c_State_silentOnes l G s.heap.size (ad 3) (ad 24) (ad 25) (ad 26) (ad 27) (ad 28) (ad 29) (ad 30) (ad 31) (ad 32)) (cwV 0 ht (ts_gV wd_845 wd_798 wd_799 wd_125 wd_800) rfl rfl rfl (by decide +kernel) ⟨Nat.le_of_ble_eq_true rfl, Nat.le_of_ble_eq_true rfl⟩) (gc_preV (ci := 7) (q0 := 0) hK hPc hDc rfl rfl) rfl rfl hl.1 rfl (lv_room (Nat.le_of_ble_eq_true rfl)) dX11_count_130 ⟨Nat.le_of_ble_eq_true rfl, Nat.le_of_ble_eq_true rfl⟩) hP hD hS hA [3, 6] [0, 1, 2, 4, 5, 7, 8] rfl rfl (by decide) (by decide) (fun r u H locs hw hP hD hS => ?_)
    have hw : r = 0 := hw
    subst hw
    have hP : va_P (gg_D G) classes [(h0, .inr (11, [.ref (ad 0), .ref (ad 1), .ref (ad 2), .ref (ad 3), .ref (ad 4), .ref (ad 5), .ref (ad 6), .ref (ad 7), .ref (ad 8), .ref (ad 9), .ref (ad 10), .ref (ad 11), .ref (ad 12), .int 0, .int (-1), .int 0])), ((ad 0), .inr (8, [.ref (ad 13), .int 0, .int 0, .int 0, .int 0])), ((ad 1), .inr (9, [.int 0, .int 0, .int 0, .int 0, .ref (ad 14), .ref (ad 15), .ref (ad 16), .ref (ad 17), .ref (ad 18)])), ((ad 28), .inl (G.2.2 0, 3, .inl (fun _ => 0))), ((ad 31), .inl (G.2.2 0, 3, .inl (fun _ => 0))), ((ad 6), .inr (2, [.ref (ad 34), .ref (ad 35), .ref (ad 36), .int 0])), ((ad 5), .inr (3, [.ref (ad 33), .int 0, .int 0])), ((ad 3), .inr (7, [.ref (ad 24), .ref (ad 25), .ref (ad 26), .ref (ad 27), .ref (ad 28), .ref (ad 29), .ref (ad 30), .ref (ad 31), .ref (ad 32), .int 0])), ((ad 32), .inl (G.2.2 0, 3, .inl (fun _ => 0)))] H := hP
    have hD : va_D A [(h0, .inr (11, [.ref (ad 0), .ref (ad 1), .ref (ad 2), .ref (ad 3), .ref (ad 4), .ref (ad 5), .ref (ad 6), .ref (ad 7), .ref (ad 8), .ref (ad 9), .ref (ad 10), .ref (ad 11), .ref (ad 12), .int 0, .int (-1), .int 0])), ((ad 0), .inr (8, [.ref (ad 13), .int 0, .int 0, .int 0, .int 0])), ((ad 1), .inr (9, [.int 0, .int 0, .int 0, .int 0, .ref (ad 14), .ref (ad 15), .ref (ad 16), .ref (ad 17), .ref (ad 18)])), ((ad 28), .inl (G.2.2 0, 3, .inl (fun _ => 0))), ((ad 31), .inl (G.2.2 0, 3, .inl (fun _ => 0))), ((ad 6), .inr (2, [.ref (ad 34), .ref (ad 35), .ref (ad 36), .int 0])), ((ad 5), .inr (3, [.ref (ad 33), .int 0, .int 0])), ((ad 3), .inr (7, [.ref (ad 24), .ref (ad 25), .ref (ad 26), .ref (ad 27), .ref (ad 28), .ref (ad 29), .ref (ad 30), .ref (ad 31), .ref (ad 32), .int 0])), ((ad 32), .inl (G.2.2 0, 3, .inl (fun _ => 0)))] := hD
    have hP9 := hP.sub (ws' := []) [] rfl
    have hD9 := hD.sub (ws' := []) [] (by decide) rfl
    exact W.iret (v := 0) hx hb hr (gq_endI () (by decide +kernel) hP9 hD9 hS) hS.2.2 dX11_count_133
  by_cases c_9 : n = 8
  · subst c_9
    refine lv_tableIn (x := 8) (off := 133) (tgt := 134) hx hb dX11_count_1 (by decide +kernel) (by decide +kernel) (by decide +kernel) (by decide) ?_
    refine lv_aload_n hx hb dX11_count_134 rfl (lv_at hl 0 rfl) ?_
    refine gq_get hx hb ht hown hK hP i_X11 0 rfl rfl 3 (by decide) wd_500 rfl rfl dX11_count_135 ?_
    refine lv_iconst (v := 1) hx hb dX11_count_138 (by decide) ?_
    have hPc := hP.sub (ws' := [((ad 3), .inr (7, [.ref (ad 24), .ref (ad 25), .ref (ad 26), .ref (ad 27), .ref (ad 28), .ref (ad 29), .ref (ad 30), .ref (ad 31), .ref (ad 32), .int 0])), ((ad 28), .inl (G.2.2 0, 3, .inl (fun _ => 0)))]) [3, 4] rfl
    have hDc := hD.sub (ws' := [((ad 3), .inr (7, [.ref (ad 24), .ref (ad 25), .ref (ad 26), .ref (ad 27), .ref (ad 28), .ref (ad 29), .ref (ad 30), .ref (ad 31), .ref (ad 32), .int 0])), ((ad 28), .inl (G.2.2 0, 3, .inl (fun _ => 0)))]) [3, 4] (by decide) rfl
    refine gq_callI (wr := [(h0, .inr (11, [.ref (ad 0), .ref (ad 1), .ref (ad 2), .ref (ad 3), .ref (ad 4), .ref (ad 5), .ref (ad 6), .ref (ad 7), .ref (ad 8), .ref (ad 9), .ref (ad 10), .ref (ad 11), .ref (ad 12), .int 0, .int (-1), .int 0])), ((ad 0), .inr (8, [.ref (ad 13), .int 0, .int 0, .int 0, .int 0])), ((ad 1), .inr (9, [.int 0, .int 0, .int 0, .int 0, .ref (ad 14), .ref (ad 15), .ref (ad 16), .ref (ad 17), .ref (ad 18)])), ((ad 31), .inl (G.2.2 0, 3, .inl (fun _ => 0))), ((ad 32), .inl (G.2.2 0, 3, .inl (fun _ => 0))), ((ad 6), .inr (2, [.ref (ad 34), .ref (ad 35), .ref (ad 36), .int 0])), ((ad 5), .inr (3, [.ref (ad 33), .int 0, .int 0]))]) (va_runV (As := [.int 1]) (rest := []) ⟨hx, hb, hml, hown, ht⟩ (c_State_lotsAt1 l G s.heap.size (ad 3) (ad 24) (ad 25) (ad 26) (ad 27) (ad 28) (ad 29) (ad 30) (ad 31) (ad 32)) (cwV 1 ht (ts_gV wd_846 wd_847 wd_848 wd_125 wd_849) rfl rfl rfl (by decide +kernel) ⟨Nat.le_of_ble_eq_true rfl, Nat.le_of_ble_eq_true rfl⟩) (gc_preV (ci := 7) (q0 := 0) hK hPc hDc rfl rfl) rfl rfl hl.1 rfl (lv_room (Nat.le_of_ble_eq_true rfl)) dX11_count_139 ⟨Nat.le_of_ble_eq_true rfl, Nat.le_of_ble_eq_true rfl⟩) hP hD hS hA [3, 4] [0, 1, 2, 5, 6, 7, 8] rfl rfl (by decide) (by decide) (fun r u H locs hw hP hD hS => ?_)
    have hw : r = 0 := hw
    subst hw
    have hP : va_P (gg_D G) classes [(h0, .inr (11, [.ref (ad 0), .ref (ad 1), .ref (ad 2), .ref (ad 3), .ref (ad 4), .ref (ad 5), .ref (ad 6), .ref (ad 7), .ref (ad 8), .ref (ad 9), .ref (ad 10), .ref (ad 11), .ref (ad 12), .int 0, .int (-1), .int 0])), ((ad 0), .inr (8, [.ref (ad 13), .int 0, .int 0, .int 0, .int 0])), ((ad 1), .inr (9, [.int 0, .int 0, .int 0, .int 0, .ref (ad 14), .ref (ad 15), .ref (ad 16), .ref (ad 17), .ref (ad 18)])), ((ad 31), .inl (G.2.2 0, 3, .inl (fun _ => 0))), ((ad 32), .inl (G.2.2 0, 3, .inl (fun _ => 0))), ((ad 6), .inr (2, [.ref (ad 34), .ref (ad 35), .ref (ad 36), .int 0])), ((ad 5), .inr (3, [.ref (ad 33), .int 0, .int 0])), ((ad 3), .inr (7, [.ref (ad 24), .ref (ad 25), .ref (ad 26), .ref (ad 27), .ref (ad 28), .ref (ad 29), .ref (ad 30), .ref (ad 31), .ref (ad 32), .int 0])), ((ad 28), .inl (G.2.2 0, 3, .inl (fun _ => 0)))] H := hP
    have hD : va_D A [(h0, .inr (11, [.ref (ad 0), .ref (ad 1), .ref (ad 2), .ref (ad 3), .ref (ad 4), .ref (ad 5), .ref (ad 6), .ref (ad 7), .ref (ad 8), .ref (ad 9), .ref (ad 10), .ref (ad 11), .ref (ad 12), .int 0, .int (-1), .int 0])), ((ad 0), .inr (8, [.ref (ad 13), .int 0, .int 0, .int 0, .int 0])), ((ad 1), .inr (9, [.int 0, .int 0, .int 0, .int 0, .ref (ad 14), .ref (ad 15), .ref (ad 16), .ref (ad 17), .ref (ad 18)])), ((ad 31), .inl (G.2.2 0, 3, .inl (fun _ => 0))), ((ad 32), .inl (G.2.2 0, 3, .inl (fun _ => 0))), ((ad 6), .inr (2, [.ref (ad 34), .ref (ad 35), .ref (ad 36), .int 0])), ((ad 5), .inr (3, [.ref (ad 33), .int 0, .int 0])), ((ad 3), .inr (7, [.ref (ad 24), .ref (ad 25), .ref (ad 26), .ref (ad 27), .ref (ad 28), .ref (ad 29), .ref (ad 30), .ref (ad 31), .ref (ad 32), .int 0])), ((ad 28), .inl (G.2.2 0, 3, .inl (fun _ => 0)))] := hD
    have hP9 := hP.sub (ws' := []) [] rfl
    have hD9 := hD.sub (ws' := []) [] (by decide) rfl
    exact W.iret (v := 0) hx hb hr (gq_endI () (by decide +kernel) hP9 hD9 hS) hS.2.2 dX11_count_142
  by_cases c_10 : n = 9
  · subst c_10
    refine lv_tableIn (x := 9) (off := 142) (tgt := 143) hx hb dX11_count_1 (by decide +kernel) (by decide +kernel) (by decide +kernel) (by decide) ?_
    refine lv_aload_n hx hb dX11_count_143 rfl (lv_at hl 0 rfl) ?_
    refine gq_get hx hb ht hown hK hP i_X11 0 rfl rfl 3 (by decide) wd_500 rfl rfl dX11_count_144 ?_
    refine lv_iconst (v := 2) hx hb dX11_count_147 (by decide) ?_
    have hPc := hP.sub (ws' := [((ad 3), .inr (7, [.ref (ad 24), .ref (ad 25), .ref (ad 26), .ref (ad 27), .ref (ad 28), .ref (ad 29), .ref (ad 30), .ref (ad 31), .ref (ad 32), .int 0])), ((ad 28), .inl (G.2.2 0, 3, .inl (fun _ => 0)))]) [3, 4] rfl
    have hDc := hD.sub (ws' := [((ad 3), .inr (7, [.ref (ad 24), .ref (ad 25), .ref (ad 26), .ref (ad 27), .ref (ad 28), .ref (ad 29), .ref (ad 30), .ref (ad 31), .ref (ad 32), .int 0])), ((ad 28), .inl (G.2.2 0, 3, .inl (fun _ => 0)))]) [3, 4] (by decide) rfl
    refine gq_callI (wr := [(h0, .inr (11, [.ref (ad 0), .ref (ad 1), .ref (ad 2), .ref (ad 3), .ref (ad 4), .ref (ad 5), .ref (ad 6), .ref (ad 7), .ref (ad 8), .ref (ad 9), .ref (ad 10), .ref (ad 11), .ref (ad 12), .int 0, .int (-1), .int 0])), ((ad 0), .inr (8, [.ref (ad 13), .int 0, .int 0, .int 0, .int 0])), ((ad 1), .inr (9, [.int 0, .int 0, .int 0, .int 0, .ref (ad 14), .ref (ad 15), .ref (ad 16), .ref (ad 17), .ref (ad 18)])), ((ad 31), .inl (G.2.2 0, 3, .inl (fun _ => 0))), ((ad 32), .inl (G.2.2 0, 3, .inl (fun _ => 0))), ((ad 6), .inr (2, [.ref (ad 34), .ref (ad 35), .ref (ad 36), .int 0])), ((ad 5), .inr (3, [.ref (ad 33), .int 0, .int 0]))]) (va_runV (As := [.int 2]) (rest := []) ⟨hx, hb, hml, hown, ht⟩ (c_State_lotsAt2 l G s.heap.size (ad 3) (ad 24) (ad 25) (ad 26) (ad 27) (ad 28) (ad 29) (ad 30) (ad 31) (ad 32)) (cwV 1 ht (ts_gV wd_846 wd_847 wd_848 wd_125 wd_849) rfl rfl rfl (by decide +kernel) ⟨Nat.le_of_ble_eq_true rfl, Nat.le_of_ble_eq_true rfl⟩) (gc_preV (ci := 7) (q0 := 0) hK hPc hDc rfl rfl) rfl rfl hl.1 rfl (lv_room (Nat.le_of_ble_eq_true rfl)) dX11_count_148 ⟨Nat.le_of_ble_eq_true rfl, Nat.le_of_ble_eq_true rfl⟩) hP hD hS hA [3, 4] [0, 1, 2, 5, 6, 7, 8] rfl rfl (by decide) (by decide) (fun r u H locs hw hP hD hS => ?_)
    have hw : r = 0 := hw
    subst hw
    have hP : va_P (gg_D G) classes [(h0, .inr (11, [.ref (ad 0), .ref (ad 1), .ref (ad 2), .ref (ad 3), .ref (ad 4), .ref (ad 5), .ref (ad 6), .ref (ad 7), .ref (ad 8), .ref (ad 9), .ref (ad 10), .ref (ad 11), .ref (ad 12), .int 0, .int (-1), .int 0])), ((ad 0), .inr (8, [.ref (ad 13), .int 0, .int 0, .int 0, .int 0])), ((ad 1), .inr (9, [.int 0, .int 0, .int 0, .int 0, .ref (ad 14), .ref (ad 15), .ref (ad 16), .ref (ad 17), .ref (ad 18)])), ((ad 31), .inl (G.2.2 0, 3, .inl (fun _ => 0))), ((ad 32), .inl (G.2.2 0, 3, .inl (fun _ => 0))), ((ad 6), .inr (2, [.ref (ad 34), .ref (ad 35), .ref (ad 36), .int 0])), ((ad 5), .inr (3, [.ref (ad 33), .int 0, .int 0])), ((ad 3), .inr (7, [.ref (ad 24), .ref (ad 25), .ref (ad 26), .ref (ad 27), .ref (ad 28), .ref (ad 29), .ref (ad 30), .ref (ad 31), .ref (ad 32), .int 0])), ((ad 28), .inl (G.2.2 0, 3, .inl (fun _ => 0)))] H := hP
    have hD : va_D A [(h0, .inr (11, [.ref (ad 0), .ref (ad 1), .ref (ad 2), .ref (ad 3), .ref (ad 4), .ref (ad 5), .ref (ad 6), .ref (ad 7), .ref (ad 8), .ref (ad 9), .ref (ad 10), .ref (ad 11), .ref (ad 12), .int 0, .int (-1), .int 0])), ((ad 0), .inr (8, [.ref (ad 13), .int 0, .int 0, .int 0, .int 0])), ((ad 1), .inr (9, [.int 0, .int 0, .int 0, .int 0, .ref (ad 14), .ref (ad 15), .ref (ad 16), .ref (ad 17), .ref (ad 18)])), ((ad 31), .inl (G.2.2 0, 3, .inl (fun _ => 0))), ((ad 32), .inl (G.2.2 0, 3, .inl (fun _ => 0))), ((ad 6), .inr (2, [.ref (ad 34), .ref (ad 35), .ref (ad 36), .int 0])), ((ad 5), .inr (3, [.ref (ad 33), .int 0, .int 0])), ((ad 3), .inr (7, [.ref (ad 24), .ref (ad 25), .ref (ad 26), .ref (ad 27), .ref (ad 28), .ref (ad 29), .ref (ad 30), .ref (ad 31), .ref (ad 32), .int 0])), ((ad 28), .inl (G.2.2 0, 3, .inl (fun _ => 0)))] := hD
    have hP9 := hP.sub (ws' := []) [] rfl
    have hD9 := hD.sub (ws' := []) [] (by decide) rfl
    exact W.iret (v := 0) hx hb hr (gq_endI () (by decide +kernel) hP9 hD9 hS) hS.2.2 dX11_count_151
  by_cases c_11 : n = 10
  · subst c_11
    refine lv_tableIn (x := 10) (off := 151) (tgt := 152) hx hb dX11_count_1 (by decide +kernel) (by decide +kernel) (by decide +kernel) (by decide) ?_
    refine lv_aload_n hx hb dX11_count_152 rfl (lv_at hl 0 rfl) ?_
    refine gq_get hx hb ht hown hK hP i_X11 0 rfl rfl 3 (by decide) wd_500 rfl rfl dX11_count_153 ?_
    have hPc := hP.sub (ws' := [((ad 3), .inr (7, [.ref (ad 24), .ref (ad 25), .ref (ad 26), .ref (ad 27), .ref (ad 28), .ref (ad 29), .ref (ad 30), .ref (ad 31), .ref (ad 32), .int 0])), ((ad 31), .inl (G.2.2 0, 3, .inl (fun _ => 0)))]) [3, 5] rfl
    have hDc := hD.sub (ws' := [((ad 3), .inr (7, [.ref (ad 24), .ref (ad 25), .ref (ad 26), .ref (ad 27), .ref (ad 28), .ref (ad 29), .ref (ad 30), .ref (ad 31), .ref (ad 32), .int 0])), ((ad 31), .inl (G.2.2 0, 3, .inl (fun _ => 0)))]) [3, 5] (by decide) rfl
    refine gq_callI (wr := [(h0, .inr (11, [.ref (ad 0), .ref (ad 1), .ref (ad 2), .ref (ad 3), .ref (ad 4), .ref (ad 5), .ref (ad 6), .ref (ad 7), .ref (ad 8), .ref (ad 9), .ref (ad 10), .ref (ad 11), .ref (ad 12), .int 0, .int (-1), .int 0])), ((ad 0), .inr (8, [.ref (ad 13), .int 0, .int 0, .int 0, .int 0])), ((ad 1), .inr (9, [.int 0, .int 0, .int 0, .int 0, .ref (ad 14), .ref (ad 15), .ref (ad 16), .ref (ad 17), .ref (ad 18)])), ((ad 28), .inl (G.2.2 0, 3, .inl (fun _ => 0))), ((ad 32), .inl (G.2.2 0, 3, .inl (fun _ => 0))), ((ad 6), .inr (2, [.ref (ad 34), .ref (ad 35), .ref (ad 36), .int 0])), ((ad 5), .inr (3, [.ref (ad 33), .int 0, .int 0]))]) (va_runV (As := []) (rest := []) ⟨hx, hb, hml, hown, ht⟩ (c_State_allPaid l G s.heap.size (ad 3) (ad 24) (ad 25) (ad 26) (ad 27) (ad 28) (ad 29) (ad 30) (ad 31) (ad 32)) (cwV 0 ht (ts_gV wd_850 wd_851 wd_852 wd_125 wd_853) rfl rfl rfl (by decide +kernel) ⟨Nat.le_of_ble_eq_true rfl, Nat.le_of_ble_eq_true rfl⟩) (gc_preV (ci := 7) (q0 := 0) hK hPc hDc rfl rfl) rfl rfl hl.1 rfl (lv_room (Nat.le_of_ble_eq_true rfl)) dX11_count_156 ⟨Nat.le_of_ble_eq_true rfl, Nat.le_of_ble_eq_true rfl⟩) hP hD hS hA [3, 5] [0, 1, 2, 4, 6, 7, 8] rfl rfl (by decide) (by decide) (fun r u H locs hw hP hD hS => ?_)
    have hw : r = 0 := hw
    subst hw
    have hP : va_P (gg_D G) classes [(h0, .inr (11, [.ref (ad 0), .ref (ad 1), .ref (ad 2), .ref (ad 3), .ref (ad 4), .ref (ad 5), .ref (ad 6), .ref (ad 7), .ref (ad 8), .ref (ad 9), .ref (ad 10), .ref (ad 11), .ref (ad 12), .int 0, .int (-1), .int 0])), ((ad 0), .inr (8, [.ref (ad 13), .int 0, .int 0, .int 0, .int 0])), ((ad 1), .inr (9, [.int 0, .int 0, .int 0, .int 0, .ref (ad 14), .ref (ad 15), .ref (ad 16), .ref (ad 17), .ref (ad 18)])), ((ad 28), .inl (G.2.2 0, 3, .inl (fun _ => 0))), ((ad 32), .inl (G.2.2 0, 3, .inl (fun _ => 0))), ((ad 6), .inr (2, [.ref (ad 34), .ref (ad 35), .ref (ad 36), .int 0])), ((ad 5), .inr (3, [.ref (ad 33), .int 0, .int 0])), ((ad 3), .inr (7, [.ref (ad 24), .ref (ad 25), .ref (ad 26), .ref (ad 27), .ref (ad 28), .ref (ad 29), .ref (ad 30), .ref (ad 31), .ref (ad 32), .int 0])), ((ad 31), .inl (G.2.2 0, 3, .inl (fun _ => 0)))] H := hP
    have hD : va_D A [(h0, .inr (11, [.ref (ad 0), .ref (ad 1), .ref (ad 2), .ref (ad 3), .ref (ad 4), .ref (ad 5), .ref (ad 6), .ref (ad 7), .ref (ad 8), .ref (ad 9), .ref (ad 10), .ref (ad 11), .ref (ad 12), .int 0, .int (-1), .int 0])), ((ad 0), .inr (8, [.ref (ad 13), .int 0, .int 0, .int 0, .int 0])), ((ad 1), .inr (9, [.int 0, .int 0, .int 0, .int 0, .ref (ad 14), .ref (ad 15), .ref (ad 16), .ref (ad 17), .ref (ad 18)])), ((ad 28), .inl (G.2.2 0, 3, .inl (fun _ => 0))), ((ad 32), .inl (G.2.2 0, 3, .inl (fun _ => 0))), ((ad 6), .inr (2, [.ref (ad 34), .ref (ad 35), .ref (ad 36), .int 0])), ((ad 5), .inr (3, [.ref (ad 33), .int 0, .int 0])), ((ad 3), .inr (7, [.ref (ad 24), .ref (ad 25), .ref (ad 26), .ref (ad 27), .ref (ad 28), .ref (ad 29), .ref (ad 30), .ref (ad 31), .ref (ad 32), .int 0])), ((ad 31), .inl (G.2.2 0, 3, .inl (fun _ => 0)))] := hD
    have hP9 := hP.sub (ws' := []) [] rfl
    have hD9 := hD.sub (ws' := []) [] (by decide) rfl
    exact W.iret (v := 0) hx hb hr (gq_endI () (by decide +kernel) hP9 hD9 hS) hS.2.2 dX11_count_159
  by_cases c_12 : n = 11
  · subst c_12
    refine lv_tableIn (x := 11) (off := 159) (tgt := 160) hx hb dX11_count_1 (by decide +kernel) (by decide +kernel) (by decide +kernel) (by decide) ?_
    refine lv_aload_n hx hb dX11_count_160 rfl (lv_at hl 0 rfl) ?_
    refine gq_get hx hb ht hown hK hP i_X11 0 rfl rfl 6 (by decide) wd_503 rfl rfl dX11_count_161 ?_
    refine gq_get hx hb ht hown hK hP i_X2 7 rfl rfl 3 (by decide) wd_320 rfl rfl dX11_count_164 ?_
    have hP9 := hP.sub (ws' := []) [] rfl
    have hD9 := hD.sub (ws' := []) [] (by decide) rfl
    exact W.iret (v := 0) hx hb hr (gq_endI () (by decide +kernel) hP9 hD9 hS) hS.2.2 dX11_count_167
  by_cases c_13 : n = 12
  · subst c_13
    refine lv_tableIn (x := 12) (off := 167) (tgt := 168) hx hb dX11_count_1 (by decide +kernel) (by decide +kernel) (by decide +kernel) (by decide) ?_
    refine lv_aload_n hx hb dX11_count_168 rfl (lv_at hl 0 rfl) ?_
    refine gq_get hx hb ht hown hK hP i_X11 0 rfl rfl 5 (by decide) wd_502 rfl rfl dX11_count_169 ?_
    refine gq_get hx hb ht hown hK hP i_X3 8 rfl rfl 2 (by decide) wd_302 rfl rfl dX11_count_172 ?_
    have hP9 := hP.sub (ws' := []) [] rfl
    have hD9 := hD.sub (ws' := []) [] (by decide) rfl
    exact W.iret (v := 0) hx hb hr (gq_endI () (by decide +kernel) hP9 hD9 hS) hS.2.2 dX11_count_175
  by_cases c_14 : n = 13
  · subst c_14
    refine lv_tableIn (x := 13) (off := 175) (tgt := 176) hx hb dX11_count_1 (by decide +kernel) (by decide +kernel) (by decide +kernel) (by decide) ?_
    refine lv_aload_n hx hb dX11_count_176 rfl (lv_at hl 0 rfl) ?_
    refine gq_get hx hb ht hown hK hP i_X11 0 rfl rfl 15 (by decide) wd_512 rfl rfl dX11_count_177 ?_
    have hP9 := hP.sub (ws' := []) [] rfl
    have hD9 := hD.sub (ws' := []) [] (by decide) rfl
    exact W.iret (v := 0) hx hb hr (gq_endI () (by decide +kernel) hP9 hD9 hS) hS.2.2 dX11_count_180
  by_cases c_15 : n = 14
  · subst c_15
    refine lv_tableIn (x := 14) (off := 180) (tgt := 181) hx hb dX11_count_1 (by decide +kernel) (by decide +kernel) (by decide +kernel) (by decide) ?_
    refine lv_aload_n hx hb dX11_count_181 rfl (lv_at hl 0 rfl) ?_
    refine gq_get hx hb ht hown hK hP i_X11 0 rfl rfl 0 (by decide) wd_497 rfl rfl dX11_count_182 ?_
    have hPc := hP.sub (ws' := [((ad 0), .inr (8, [.ref (ad 13), .int 0, .int 0, .int 0, .int 0]))]) [1] rfl
    have hDc := hD.sub (ws' := [((ad 0), .inr (8, [.ref (ad 13), .int 0, .int 0, .int 0, .int 0]))]) [1] (by decide) rfl
    refine gq_callI (wr := [(h0, .inr (11, [.ref (ad 0), .ref (ad 1), .ref (ad 2), .ref (ad 3), .ref (ad 4), .ref (ad 5), .ref (ad 6), .ref (ad 7), .ref (ad 8), .ref (ad 9), .ref (ad 10), .ref (ad 11), .ref (ad 12), .int 0, .int (-1), .int 0])), ((ad 1), .inr (9, [.int 0, .int 0, .int 0, .int 0, .ref (ad 14), .ref (ad 15), .ref (ad 16), .ref (ad 17), .ref (ad 18)])), ((ad 3), .inr (7, [.ref (ad 24), .ref (ad 25), .ref (ad 26), .ref (ad 27), .ref (ad 28), .ref (ad 29), .ref (ad 30), .ref (ad 31), .ref (ad 32), .int 0])), ((ad 28), .inl (G.2.2 0, 3, .inl (fun _ => 0))), ((ad 31), .inl (G.2.2 0, 3, .inl (fun _ => 0))), ((ad 32), .inl (G.2.2 0, 3, .inl (fun _ => 0))), ((ad 6), .inr (2, [.ref (ad 34), .ref (ad 35), .ref (ad 36), .int 0])), ((ad 5), .inr (3, [.ref (ad 33), .int 0, .int 0]))]) (va_runV (As := []) (rest := []) ⟨hx, hb, hml, hown, ht⟩ (c_Tape_size l G s.heap.size (ad 0) (ad 13) 0 0 0 0) (cwV 0 ht (ts_gV wd_550 wd_551 wd_552 wd_123 wd_553) rfl rfl rfl (by decide +kernel) ⟨Nat.le_of_ble_eq_true rfl, Nat.le_of_ble_eq_true rfl⟩) (gc_preV (ci := 8) (q0 := 0) hK hPc hDc rfl rfl) rfl rfl hl.1 rfl (lv_room (Nat.le_of_ble_eq_true rfl)) dX11_count_185 ⟨Nat.le_of_ble_eq_true rfl, Nat.le_of_ble_eq_true rfl⟩) hP hD hS hA [1] [0, 2, 3, 4, 5, 6, 7, 8] rfl rfl (by decide) (by decide) (fun r u H locs hw hP hD hS => ?_)
    have hw : r = 0 := hw
    subst hw
    have hP : va_P (gg_D G) classes [(h0, .inr (11, [.ref (ad 0), .ref (ad 1), .ref (ad 2), .ref (ad 3), .ref (ad 4), .ref (ad 5), .ref (ad 6), .ref (ad 7), .ref (ad 8), .ref (ad 9), .ref (ad 10), .ref (ad 11), .ref (ad 12), .int 0, .int (-1), .int 0])), ((ad 1), .inr (9, [.int 0, .int 0, .int 0, .int 0, .ref (ad 14), .ref (ad 15), .ref (ad 16), .ref (ad 17), .ref (ad 18)])), ((ad 3), .inr (7, [.ref (ad 24), .ref (ad 25), .ref (ad 26), .ref (ad 27), .ref (ad 28), .ref (ad 29), .ref (ad 30), .ref (ad 31), .ref (ad 32), .int 0])), ((ad 28), .inl (G.2.2 0, 3, .inl (fun _ => 0))), ((ad 31), .inl (G.2.2 0, 3, .inl (fun _ => 0))), ((ad 32), .inl (G.2.2 0, 3, .inl (fun _ => 0))), ((ad 6), .inr (2, [.ref (ad 34), .ref (ad 35), .ref (ad 36), .int 0])), ((ad 5), .inr (3, [.ref (ad 33), .int 0, .int 0])), ((ad 0), .inr (8, [.ref (ad 13), .int 0, .int 0, .int 0, .int 0]))] H := hP
    have hD : va_D A [(h0, .inr (11, [.ref (ad 0), .ref (ad 1), .ref (ad 2), .ref (ad 3), .ref (ad 4), .ref (ad 5), .ref (ad 6), .ref (ad 7), .ref (ad 8), .ref (ad 9), .ref (ad 10), .ref (ad 11), .ref (ad 12), .int 0, .int (-1), .int 0])), ((ad 1), .inr (9, [.int 0, .int 0, .int 0, .int 0, .ref (ad 14), .ref (ad 15), .ref (ad 16), .ref (ad 17), .ref (ad 18)])), ((ad 3), .inr (7, [.ref (ad 24), .ref (ad 25), .ref (ad 26), .ref (ad 27), .ref (ad 28), .ref (ad 29), .ref (ad 30), .ref (ad 31), .ref (ad 32), .int 0])), ((ad 28), .inl (G.2.2 0, 3, .inl (fun _ => 0))), ((ad 31), .inl (G.2.2 0, 3, .inl (fun _ => 0))), ((ad 32), .inl (G.2.2 0, 3, .inl (fun _ => 0))), ((ad 6), .inr (2, [.ref (ad 34), .ref (ad 35), .ref (ad 36), .int 0])), ((ad 5), .inr (3, [.ref (ad 33), .int 0, .int 0])), ((ad 0), .inr (8, [.ref (ad 13), .int 0, .int 0, .int 0, .int 0]))] := hD
    have hP9 := hP.sub (ws' := []) [] rfl
    have hD9 := hD.sub (ws' := []) [] (by decide) rfl
    exact W.iret (v := 0) hx hb hr (gq_endI () (by decide +kernel) hP9 hD9 hS) hS.2.2 dX11_count_188
  refine lv_tableOut (x := n) (tgt := 189) hx hb dX11_count_1 (by have k0 : (0 : Int32).toInt = 0 := (by decide +kernel); have k1 : (1 : Int32).toInt = 1 := (by decide +kernel); have k2 : (2 : Int32).toInt = 2 := (by decide +kernel); have k3 : (3 : Int32).toInt = 3 := (by decide +kernel); have k4 : (4 : Int32).toInt = 4 := (by decide +kernel); have k5 : (5 : Int32).toInt = 5 := (by decide +kernel); have k6 : (6 : Int32).toInt = 6 := (by decide +kernel); have k7 : (7 : Int32).toInt = 7 := (by decide +kernel); have k8 : (8 : Int32).toInt = 8 := (by decide +kernel); have k9 : (9 : Int32).toInt = 9 := (by decide +kernel); have k10 : (10 : Int32).toInt = 10 := (by decide +kernel); have k11 : (11 : Int32).toInt = 11 := (by decide +kernel); have k12 : (12 : Int32).toInt = 12 := (by decide +kernel); have k13 : (13 : Int32).toInt = 13 := (by decide +kernel); have k14 : (14 : Int32).toInt = 14 := (by decide +kernel); simp only [← Int32.toInt_inj] at c_1 c_2 c_3 c_4 c_5 c_6 c_7 c_8 c_9 c_10 c_11 c_12 c_13 c_14 c_15; omega) (by decide) ?_
  refine lv_iconst (v := (-1)) hx hb dX11_count_189 (by decide) ?_
  have hP9 := hP.sub (ws' := []) [] rfl
  have hD9 := hD.sub (ws' := []) [] (by decide) rfl
  exact W.iret (v := (-1)) hx hb hr (gq_endI () (by simp only [sp_count, c_1, c_2, c_3, c_4, c_5, c_6, c_7, c_8, c_9, c_10, c_11, c_12, c_13, c_14, c_15, if_false]) hP9 hD9 hS) hS.2.2 dX11_count_190
set_option maxHeartbeats 4000000 in
set_option maxRecDepth 100000 in
theorem c_S_back (l : Launch) (G : gg_T) (sz : Nat) (h0 : Nat) (ad : Nat → Nat) (fi : Nat → Option Nat) (n : Int32) (pi0 : fi 0 = some (ad 43)) (pi1 : fi 1 = some (ad 64)) (pi2 : fi 2 = some (ad 85)) (pi3 : fi 3 = some (ad 106)) : Met l yX11_back (ts_L yX11_back cX11_back 2 (some .int)) ({ frames := 0, cells := 0, slots := 0, locals := 0 }) (gc_P G [(h0, .inr (11, [.ref (ad 0), .ref (ad 1), .ref (ad 2), .ref (ad 3), .ref (ad 4), .ref (ad 5), .ref (ad 6), .ref (ad 7), .ref (ad 8), .ref (ad 9), .ref (ad 10), .ref (ad 11), .ref (ad 12), .int 0, .int (-1), .int 0])), ((ad 8), .inl (G.2.2 6, 4, .inr (.inr (.inr (.inr fi))))), ((ad 43), .inr (1, [.ref (ad 44), .ref (ad 45), .ref (ad 46), .int 0, .int (-1), .int 0])), ((ad 64), .inr (1, [.ref (ad 65), .ref (ad 66), .ref (ad 67), .int 0, .int (-1), .int 0])), ((ad 85), .inr (1, [.ref (ad 86), .ref (ad 87), .ref (ad 88), .int 0, .int (-1), .int 0])), ((ad 106), .inr (1, [.ref (ad 107), .ref (ad 108), .ref (ad 109), .int 0, .int (-1), .int 0]))] sz [.ref h0, .int n]) (gc_I G (va_A [(h0, .inr (11, [.ref (ad 0), .ref (ad 1), .ref (ad 2), .ref (ad 3), .ref (ad 4), .ref (ad 5), .ref (ad 6), .ref (ad 7), .ref (ad 8), .ref (ad 9), .ref (ad 10), .ref (ad 11), .ref (ad 12), .int 0, .int (-1), .int 0])), ((ad 8), .inl (G.2.2 6, 4, .inr (.inr (.inr (.inr fi))))), ((ad 43), .inr (1, [.ref (ad 44), .ref (ad 45), .ref (ad 46), .int 0, .int (-1), .int 0])), ((ad 64), .inr (1, [.ref (ad 65), .ref (ad 66), .ref (ad 67), .int 0, .int (-1), .int 0])), ((ad 85), .inr (1, [.ref (ad 86), .ref (ad 87), .ref (ad 88), .int 0, .int (-1), .int 0])), ((ad 106), .inr (1, [.ref (ad 107), .ref (ad 108), .ref (ad 109), .int 0, .int (-1), .int 0]))] sz) (fun r (_ : Unit) => r = (-1)) (fun _ => [])) 0 0 (va_A [(h0, .inr (11, [.ref (ad 0), .ref (ad 1), .ref (ad 2), .ref (ad 3), .ref (ad 4), .ref (ad 5), .ref (ad 6), .ref (ad 7), .ref (ad 8), .ref (ad 9), .ref (ad 10), .ref (ad 11), .ref (ad 12), .int 0, .int (-1), .int 0])), ((ad 8), .inl (G.2.2 6, 4, .inr (.inr (.inr (.inr fi))))), ((ad 43), .inr (1, [.ref (ad 44), .ref (ad 45), .ref (ad 46), .int 0, .int (-1), .int 0])), ((ad 64), .inr (1, [.ref (ad 65), .ref (ad 66), .ref (ad 67), .int 0, .int (-1), .int 0])), ((ad 85), .inr (1, [.ref (ad 86), .ref (ad 87), .ref (ad 88), .int 0, .int (-1), .int 0])), ((ad 106), .inr (1, [.ref (ad 107), .ref (ad 108), .ref (ad 109), .int 0, .int (-1), .int 0]))] sz) := by
  refine Met.ofW (cc := cX11_back) (maxL := 2) (ret := (some .int)) (by decide) rfl ?_
  intro p e s m args below meth c s₁ B hml hv
  obtain ⟨rfl, hsz, hP, hK, hD0⟩ := hv
  have hx := B.exec
  have hb := B.bytes
  have hr := B.returns
  have ht := ts_ht (atoms_spec (ws := ts_L yX11_back cX11_back 2 (some .int)) B.pre)
  have hown : s.vm.findClass RX11 = some m.cls := findClass_of_methodNamed B.named
  have hlocks := B.notSynchronized
  subst hsz
  have hD := hD0.self (sz := s.heap.size)
  generalize hAe : va_A [(h0, .inr (11, [.ref (ad 0), .ref (ad 1), .ref (ad 2), .ref (ad 3), .ref (ad 4), .ref (ad 5), .ref (ad 6), .ref (ad 7), .ref (ad 8), .ref (ad 9), .ref (ad 10), .ref (ad 11), .ref (ad 12), .int 0, .int (-1), .int 0])), ((ad 8), .inl (G.2.2 6, 4, .inr (.inr (.inr (.inr fi))))), ((ad 43), .inr (1, [.ref (ad 44), .ref (ad 45), .ref (ad 46), .int 0, .int (-1), .int 0])), ((ad 64), .inr (1, [.ref (ad 65), .ref (ad 66), .ref (ad 67), .int 0, .int (-1), .int 0])), ((ad 85), .inr (1, [.ref (ad 86), .ref (ad 87), .ref (ad 88), .int 0, .int (-1), .int 0])), ((ad 106), .inr (1, [.ref (ad 107), .ref (ad 108), .ref (ad 109), .int 0, .int (-1), .int 0]))] s.heap.size = A at hD ⊢
  have hA : ∀ q : Nat, s.heap.size ≤ q → A q := fun q h => by rw [← hAe]; exact Or.inr h
  have hS : va_S A s.heap s.heap [] := va_S.rf
  have hl := lv_entry ([.ref h0, .int n]) (n := 2) (Nat.le_of_ble_eq_true rfl)
  rw [lg_entry_eq]
  generalize (lg_sl ([.ref h0, .int n]) ++ List.replicate (2 - (lg_sl ([.ref h0, .int n])).length) Slot.unset).toArray = ls at hl ⊢
  have hl : lv_has ls 2 [(0, .ref h0), (1, .int n)] := hl
  by_cases c_1 : n = 0
  · subst c_1
    refine lv_iload_n hx hb dX11_back_0 rfl (lv_at hl 1 rfl) ?_
    refine lv_if_lt (tgt := 21) hx hb dX11_back_1 (by decide) (fun c0 => absurd c0 (by decide +kernel)) (fun _ => ?_)
    refine lv_iload_n hx hb dX11_back_4 rfl (lv_at hl 1 rfl) ?_
    refine lv_iconst (v := 4) hx hb dX11_back_5 (by decide) ?_
    refine lv_icmp_ge (tgt := 21) hx hb dX11_back_6 (by decide) (fun c0 => absurd c0 (by decide +kernel)) (fun _ => ?_)
    refine lv_aload_n hx hb dX11_back_9 rfl (lv_at hl 0 rfl) ?_
    refine gq_get hx hb ht hown hK hP i_X11 0 rfl rfl 8 (by decide) wd_505 rfl rfl dX11_back_10 ?_
    refine lv_iload_n hx hb dX11_back_13 rfl (lv_at hl 1 rfl) ?_
    refine gq_aald hx hb hK hP 1 6 rfl rfl (ad 43) (by unfold vp_in; decide +kernel) pi0 dX11_back_14 ?_
    refine gq_get hx hb ht hown hK hP i_X1 2 rfl rfl 3 (by decide) wd_383 rfl rfl dX11_back_15 ?_
    refine lv_if_ne (tgt := 23) hx hb dX11_back_18 (by decide) (fun c0 => absurd (by decide +kernel) c0) (fun _ => ?_)
    refine lv_iconst (v := (-1)) hx hb dX11_back_21 (by decide) ?_
    have hP9 := hP.sub (ws' := []) [] rfl
    have hD9 := hD.sub (ws' := []) [] (by decide) rfl
    exact W.iret (v := (-1)) hx hb hr (gq_endI () rfl hP9 hD9 hS) hS.2.2 dX11_back_22
  · by_cases c_2 : n = 1
    · subst c_2
      refine lv_iload_n hx hb dX11_back_0 rfl (lv_at hl 1 rfl) ?_
      refine lv_if_lt (tgt := 21) hx hb dX11_back_1 (by decide) (fun c0 => absurd c0 (by decide +kernel)) (fun _ => ?_)
      refine lv_iload_n hx hb dX11_back_4 rfl (lv_at hl 1 rfl) ?_
      refine lv_iconst (v := 4) hx hb dX11_back_5 (by decide) ?_
      refine lv_icmp_ge (tgt := 21) hx hb dX11_back_6 (by decide) (fun c0 => absurd c0 (by decide +kernel)) (fun _ => ?_)
      refine lv_aload_n hx hb dX11_back_9 rfl (lv_at hl 0 rfl) ?_
      refine gq_get hx hb ht hown hK hP i_X11 0 rfl rfl 8 (by decide) wd_505 rfl rfl dX11_back_10 ?_
      refine lv_iload_n hx hb dX11_back_13 rfl (lv_at hl 1 rfl) ?_
      refine gq_aald hx hb hK hP 1 6 rfl rfl (ad 64) (by unfold vp_in; decide +kernel) pi1 dX11_back_14 ?_
      refine gq_get hx hb ht hown hK hP i_X1 3 rfl rfl 3 (by decide) wd_383 rfl rfl dX11_back_15 ?_
      refine lv_if_ne (tgt := 23) hx hb dX11_back_18 (by decide) (fun c0 => absurd (by decide +kernel) c0) (fun _ => ?_)
      refine lv_iconst (v := (-1)) hx hb dX11_back_21 (by decide) ?_
      have hP9 := hP.sub (ws' := []) [] rfl
      have hD9 := hD.sub (ws' := []) [] (by decide) rfl
      exact W.iret (v := (-1)) hx hb hr (gq_endI () rfl hP9 hD9 hS) hS.2.2 dX11_back_22
    · by_cases c_3 : n = 2
      · subst c_3
        refine lv_iload_n hx hb dX11_back_0 rfl (lv_at hl 1 rfl) ?_
        refine lv_if_lt (tgt := 21) hx hb dX11_back_1 (by decide) (fun c0 => absurd c0 (by decide +kernel)) (fun _ => ?_)
        refine lv_iload_n hx hb dX11_back_4 rfl (lv_at hl 1 rfl) ?_
        refine lv_iconst (v := 4) hx hb dX11_back_5 (by decide) ?_
        refine lv_icmp_ge (tgt := 21) hx hb dX11_back_6 (by decide) (fun c0 => absurd c0 (by decide +kernel)) (fun _ => ?_)
        refine lv_aload_n hx hb dX11_back_9 rfl (lv_at hl 0 rfl) ?_
        refine gq_get hx hb ht hown hK hP i_X11 0 rfl rfl 8 (by decide) wd_505 rfl rfl dX11_back_10 ?_
        refine lv_iload_n hx hb dX11_back_13 rfl (lv_at hl 1 rfl) ?_
        refine gq_aald hx hb hK hP 1 6 rfl rfl (ad 85) (by unfold vp_in; decide +kernel) pi2 dX11_back_14 ?_
        refine gq_get hx hb ht hown hK hP i_X1 4 rfl rfl 3 (by decide) wd_383 rfl rfl dX11_back_15 ?_
        refine lv_if_ne (tgt := 23) hx hb dX11_back_18 (by decide) (fun c0 => absurd (by decide +kernel) c0) (fun _ => ?_)
        refine lv_iconst (v := (-1)) hx hb dX11_back_21 (by decide) ?_
        have hP9 := hP.sub (ws' := []) [] rfl
        have hD9 := hD.sub (ws' := []) [] (by decide) rfl
        exact W.iret (v := (-1)) hx hb hr (gq_endI () rfl hP9 hD9 hS) hS.2.2 dX11_back_22
      · by_cases c_4 : n = 3
        · subst c_4
          refine lv_iload_n hx hb dX11_back_0 rfl (lv_at hl 1 rfl) ?_
          refine lv_if_lt (tgt := 21) hx hb dX11_back_1 (by decide) (fun c0 => absurd c0 (by decide +kernel)) (fun _ => ?_)
          refine lv_iload_n hx hb dX11_back_4 rfl (lv_at hl 1 rfl) ?_
          refine lv_iconst (v := 4) hx hb dX11_back_5 (by decide) ?_
          refine lv_icmp_ge (tgt := 21) hx hb dX11_back_6 (by decide) (fun c0 => absurd c0 (by decide +kernel)) (fun _ => ?_)
          refine lv_aload_n hx hb dX11_back_9 rfl (lv_at hl 0 rfl) ?_
          refine gq_get hx hb ht hown hK hP i_X11 0 rfl rfl 8 (by decide) wd_505 rfl rfl dX11_back_10 ?_
          refine lv_iload_n hx hb dX11_back_13 rfl (lv_at hl 1 rfl) ?_
          refine gq_aald hx hb hK hP 1 6 rfl rfl (ad 106) (by unfold vp_in; decide +kernel) pi3 dX11_back_14 ?_
          refine gq_get hx hb ht hown hK hP i_X1 5 rfl rfl 3 (by decide) wd_383 rfl rfl dX11_back_15 ?_
          refine lv_if_ne (tgt := 23) hx hb dX11_back_18 (by decide) (fun c0 => absurd (by decide +kernel) c0) (fun _ => ?_)
          refine lv_iconst (v := (-1)) hx hb dX11_back_21 (by decide) ?_
          have hP9 := hP.sub (ws' := []) [] rfl
          have hD9 := hD.sub (ws' := []) [] (by decide) rfl
          exact W.iret (v := (-1)) hx hb hr (gq_endI () rfl hP9 hD9 hS) hS.2.2 dX11_back_22
        · refine lv_iload_n hx hb dX11_back_0 rfl (lv_at hl 1 rfl) ?_
          refine lv_if_lt (tgt := 21) hx hb dX11_back_1 (by decide) (fun c_5 => ?_) (fun c_5 => ?_)
          · refine lv_iconst (v := (-1)) hx hb dX11_back_21 (by decide) ?_
            have hP9 := hP.sub (ws' := []) [] rfl
            have hD9 := hD.sub (ws' := []) [] (by decide) rfl
            exact W.iret (v := (-1)) hx hb hr (gq_endI () rfl hP9 hD9 hS) hS.2.2 dX11_back_22
          · refine lv_iload_n hx hb dX11_back_4 rfl (lv_at hl 1 rfl) ?_
            refine lv_iconst (v := 4) hx hb dX11_back_5 (by decide) ?_
            refine lv_icmp_ge (tgt := 21) hx hb dX11_back_6 (by decide) (fun _ => ?_) (fun c0 => False.elim (by have k0 : (0 : Int32).toInt = 0 := (by decide +kernel); have k1 : (1 : Int32).toInt = 1 := (by decide +kernel); have k2 : (2 : Int32).toInt = 2 := (by decide +kernel); have k3 : (3 : Int32).toInt = 3 := (by decide +kernel); have k4 : (4 : Int32).toInt = 4 := (by decide +kernel); simp only [Int32.lt_iff_toInt_lt, Int32.le_iff_toInt_le, ← Int32.toInt_inj] at c_1 c_2 c_3 c_4 c_5 c0; omega))
            refine lv_iconst (v := (-1)) hx hb dX11_back_21 (by decide) ?_
            have hP9 := hP.sub (ws' := []) [] rfl
            have hD9 := hD.sub (ws' := []) [] (by decide) rfl
            exact W.iret (v := (-1)) hx hb hr (gq_endI () rfl hP9 hD9 hS) hS.2.2 dX11_back_22

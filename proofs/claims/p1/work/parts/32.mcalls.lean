theorem wd_38 : (Jvm.Cond.selects "SilentSaleModel" ({ cls := "SilentSaleModel", name := "four", desc := "(I)V" } : Jvm.MethodName) ({ cls := "SilentSaleModel", name := "four", desc := "(I)V" } : Jvm.MethodName)) ∈ tb_L := tb_in (i := 38) (by decide +kernel) (by decide +kernel)
theorem wd_1368 : (Jvm.Cond.code ({ cls := "SilentSaleModel", name := "feed", desc := "(IIIII)I" } : Jvm.MethodName) prog_14_method_6_code (6 : Nat) (Option.some Jvm.ClassFile.FieldType.int)) ∈ tb_L := tb_in (i := 1368) (by decide +kernel) (by decide +kernel)
theorem wd_1369 : (Jvm.Cond.methodLink "SilentSaleModel" (80 : Nat) ({ cls := "SilentSaleModel", name := "four", desc := "(I)V" } : Jvm.MethodName)) ∈ tb_L := tb_in (i := 1369) (by decide +kernel) (by decide +kernel)
theorem wd_1371 : (Jvm.Cond.instanceMethod ({ cls := "SilentSaleModel", name := "four", desc := "(I)V" } : Jvm.MethodName)) ∈ tb_L := tb_in (i := 1371) (by decide +kernel) (by decide +kernel)
theorem dX12_feed_0 : decode cX12_feed 0 = .ok (.aload_n 0, 1) := by decide +kernel
theorem dX12_feed_1 : decode cX12_feed 1 = .ok (.getfield 77, 3) := by decide +kernel
theorem dX12_feed_4 : decode cX12_feed 4 = .ok (.bipush 20, 2) := by decide +kernel
theorem dX12_feed_6 : decode cX12_feed 6 = .ok (.iadd, 1) := by decide +kernel
theorem dX12_feed_7 : decode cX12_feed 7 = .ok (.sipush 400, 3) := by decide +kernel
theorem dX12_feed_10 : decode cX12_feed 10 = .ok (.if_icmp .le 5, 3) := by decide +kernel
theorem dX12_feed_15 : decode cX12_feed 15 = .ok (.aload_n 0, 1) := by decide +kernel
theorem dX12_feed_16 : decode cX12_feed 16 = .ok (.iload_n 1, 1) := by decide +kernel
theorem dX12_feed_17 : decode cX12_feed 17 = .ok (.invokevirtual 80, 3) := by decide +kernel
theorem dX12_feed_20 : decode cX12_feed 20 = .ok (.aload_n 0, 1) := by decide +kernel
theorem dX12_feed_21 : decode cX12_feed 21 = .ok (.iload_n 2, 1) := by decide +kernel
theorem dX12_feed_22 : decode cX12_feed 22 = .ok (.invokevirtual 80, 3) := by decide +kernel
theorem dX12_feed_25 : decode cX12_feed 25 = .ok (.aload_n 0, 1) := by decide +kernel
theorem dX12_feed_26 : decode cX12_feed 26 = .ok (.iload_n 3, 1) := by decide +kernel
theorem dX12_feed_27 : decode cX12_feed 27 = .ok (.invokevirtual 80, 3) := by decide +kernel
theorem dX12_feed_30 : decode cX12_feed 30 = .ok (.aload_n 0, 1) := by decide +kernel
theorem dX12_feed_31 : decode cX12_feed 31 = .ok (.iload 4, 2) := by decide +kernel
theorem dX12_feed_33 : decode cX12_feed 33 = .ok (.invokevirtual 80, 3) := by decide +kernel
theorem dX12_feed_36 : decode cX12_feed 36 = .ok (.aload_n 0, 1) := by decide +kernel
theorem dX12_feed_37 : decode cX12_feed 37 = .ok (.iload 5, 2) := by decide +kernel
theorem dX12_feed_39 : decode cX12_feed 39 = .ok (.invokevirtual 80, 3) := by decide +kernel
theorem dX12_feed_42 : decode cX12_feed 42 = .ok (.aload_n 0, 1) := by decide +kernel
theorem dX12_feed_43 : decode cX12_feed 43 = .ok (.getfield 77, 3) := by decide +kernel
theorem dX12_feed_46 : decode cX12_feed 46 = .ok (.ireturn, 1) := by decide +kernel
theorem wd_1376 : (Jvm.Cond.code ({ cls := "SilentSaleModel", name := "end", desc := "(I)I" } : Jvm.MethodName) prog_14_method_7_code (2 : Nat) (Option.some Jvm.ClassFile.FieldType.int)) ∈ tb_L := tb_in (i := 1376) (by decide +kernel) (by decide +kernel)
theorem dX12_end_0 : decode cX12_end 0 = .ok (.iload_n 1, 1) := by decide +kernel
theorem dX12_end_1 : decode cX12_end 1 = .ok (.ifCond .lt 11, 3) := by decide +kernel
theorem dX12_end_4 : decode cX12_end 4 = .ok (.iload_n 1, 1) := by decide +kernel
theorem dX12_end_5 : decode cX12_end 5 = .ok (.aload_n 0, 1) := by decide +kernel
theorem dX12_end_6 : decode cX12_end 6 = .ok (.getfield 77, 3) := by decide +kernel
theorem dX12_end_9 : decode cX12_end 9 = .ok (.if_icmp .le 5, 3) := by decide +kernel
theorem dX12_end_12 : decode cX12_end 12 = .ok (.iconst (-1), 1) := by decide +kernel
theorem dX12_end_13 : decode cX12_end 13 = .ok (.ireturn, 1) := by decide +kernel
theorem dX12_end_14 : decode cX12_end 14 = .ok (.aload_n 0, 1) := by decide +kernel
theorem dX12_end_15 : decode cX12_end 15 = .ok (.iload_n 1, 1) := by decide +kernel
theorem dX12_end_16 : decode cX12_end 16 = .ok (.putfield 77, 3) := by decide +kernel
theorem dX12_end_19 : decode cX12_end 19 = .ok (.iload_n 1, 1) := by decide +kernel
theorem dX12_end_20 : decode cX12_end 20 = .ok (.ireturn, 1) := by decide +kernel
theorem wd_39 : (Jvm.Cond.selects "SilentSaleModel" ({ cls := "SilentSaleModel", name := "readsAll", desc := "()Z" } : Jvm.MethodName) ({ cls := "SilentSaleModel", name := "readsAll", desc := "()Z" } : Jvm.MethodName)) ∈ tb_L := tb_in (i := 39) (by decide +kernel) (by decide +kernel)
theorem wd_1381 : (Jvm.Cond.methodLink "SilentSaleModel" (254 : Nat) ({ cls := "SilentSaleModel", name := "readsAll", desc := "()Z" } : Jvm.MethodName)) ∈ tb_L := tb_in (i := 1381) (by decide +kernel) (by decide +kernel)
theorem wd_1383 : (Jvm.Cond.instanceMethod ({ cls := "SilentSaleModel", name := "readsAll", desc := "()Z" } : Jvm.MethodName)) ∈ tb_L := tb_in (i := 1383) (by decide +kernel) (by decide +kernel)
theorem wd_1536 : (Jvm.Cond.code ({ cls := "SilentSaleModel", name := "sale", desc := "()I" } : Jvm.MethodName) prog_14_method_42_code (2 : Nat) (Option.some Jvm.ClassFile.FieldType.int)) ∈ tb_L := tb_in (i := 1536) (by decide +kernel) (by decide +kernel)
theorem dX12_sale_0 : decode cX12_sale 0 = .ok (.aload_n 0, 1) := by decide +kernel
theorem dX12_sale_1 : decode cX12_sale 1 = .ok (.bipush 6, 2) := by decide +kernel
theorem dX12_sale_3 : decode cX12_sale 3 = .ok (.putfield 139, 3) := by decide +kernel
theorem dX12_sale_6 : decode cX12_sale 6 = .ok (.iconst 0, 1) := by decide +kernel
theorem dX12_sale_7 : decode cX12_sale 7 = .ok (.istore_n 1, 1) := by decide +kernel
theorem dX12_sale_8 : decode cX12_sale 8 = .ok (.iload_n 1, 1) := by decide +kernel
theorem dX12_sale_9 : decode cX12_sale 9 = .ok (.bipush 79, 2) := by decide +kernel
theorem dX12_sale_11 : decode cX12_sale 11 = .ok (.if_icmp .ge 16, 3) := by decide +kernel
theorem dX12_sale_14 : decode cX12_sale 14 = .ok (.aload_n 0, 1) := by decide +kernel
theorem dX12_sale_15 : decode cX12_sale 15 = .ok (.getfield 26, 3) := by decide +kernel
theorem dX12_sale_18 : decode cX12_sale 18 = .ok (.iload_n 1, 1) := by decide +kernel
theorem dX12_sale_19 : decode cX12_sale 19 = .ok (.iconst 0, 1) := by decide +kernel
theorem dX12_sale_20 : decode cX12_sale 20 = .ok (.iastore, 1) := by decide +kernel
theorem dX12_sale_21 : decode cX12_sale 21 = .ok (.iinc 1 1, 3) := by decide +kernel
theorem dX12_sale_24 : decode cX12_sale 24 = .ok (.goto (-16), 3) := by decide +kernel
theorem dX12_sale_27 : decode cX12_sale 27 = .ok (.aload_n 0, 1) := by decide +kernel
theorem dX12_sale_28 : decode cX12_sale 28 = .ok (.invokevirtual 254, 3) := by decide +kernel
theorem dX12_sale_31 : decode cX12_sale 31 = .ok (.ifCond .ne 11, 3) := by decide +kernel
theorem dX12_sale_34 : decode cX12_sale 34 = .ok (.bipush (-2), 2) := by decide +kernel
theorem dX12_sale_36 : decode cX12_sale 36 = .ok (.aload_n 0, 1) := by decide +kernel
theorem dX12_sale_37 : decode cX12_sale 37 = .ok (.getfield 84, 3) := by decide +kernel
theorem dX12_sale_40 : decode cX12_sale 40 = .ok (.isub, 1) := by decide +kernel
theorem dX12_sale_41 : decode cX12_sale 41 = .ok (.ireturn, 1) := by decide +kernel
theorem wd_1380 : (Jvm.Cond.code ({ cls := "SilentSaleModel", name := "rule", desc := "()I" } : Jvm.MethodName) prog_14_method_41_code (1 : Nat) (Option.some Jvm.ClassFile.FieldType.int)) ∈ tb_L := tb_in (i := 1380) (by decide +kernel) (by decide +kernel)
theorem dX12_rule_0 : decode cX12_rule 0 = .ok (.aload_n 0, 1) := by decide +kernel
theorem dX12_rule_1 : decode cX12_rule 1 = .ok (.getfield 251, 3) := by decide +kernel
theorem dX12_rule_4 : decode cX12_rule 4 = .ok (.bipush 6, 2) := by decide +kernel
theorem dX12_rule_6 : decode cX12_rule 6 = .ok (.if_icmp .ne 5, 3) := by decide +kernel
theorem dX12_rule_11 : decode cX12_rule 11 = .ok (.aload_n 0, 1) := by decide +kernel
theorem dX12_rule_12 : decode cX12_rule 12 = .ok (.aload_n 0, 1) := by decide +kernel
theorem dX12_rule_13 : decode cX12_rule 13 = .ok (.getfield 251, 3) := by decide +kernel
theorem dX12_rule_16 : decode cX12_rule 16 = .ok (.putfield 139, 3) := by decide +kernel
theorem dX12_rule_19 : decode cX12_rule 19 = .ok (.aload_n 0, 1) := by decide +kernel
theorem dX12_rule_20 : decode cX12_rule 20 = .ok (.getfield 23, 3) := by decide +kernel
theorem dX12_rule_23 : decode cX12_rule 23 = .ok (.aload_n 0, 1) := by decide +kernel
theorem dX12_rule_24 : decode cX12_rule 24 = .ok (.getfield 139, 3) := by decide +kernel
theorem dX12_rule_27 : decode cX12_rule 27 = .ok (.iconst 0, 1) := by decide +kernel
theorem dX12_rule_28 : decode cX12_rule 28 = .ok (.iastore, 1) := by decide +kernel
theorem dX12_rule_29 : decode cX12_rule 29 = .ok (.aload_n 0, 1) := by decide +kernel
theorem dX12_rule_30 : decode cX12_rule 30 = .ok (.invokevirtual 254, 3) := by decide +kernel
theorem dX12_rule_33 : decode cX12_rule 33 = .ok (.ifCond .ne 11, 3) := by decide +kernel
theorem dX12_rule_36 : decode cX12_rule 36 = .ok (.bipush (-2), 2) := by decide +kernel
theorem dX12_rule_38 : decode cX12_rule 38 = .ok (.aload_n 0, 1) := by decide +kernel
theorem dX12_rule_39 : decode cX12_rule 39 = .ok (.getfield 84, 3) := by decide +kernel
theorem dX12_rule_42 : decode cX12_rule 42 = .ok (.isub, 1) := by decide +kernel
theorem dX12_rule_43 : decode cX12_rule 43 = .ok (.ireturn, 1) := by decide +kernel
theorem wd_72 : (Jvm.Cond.selects "SilentSaleModel" ({ cls := "SilentSaleModel", name := "isRule", desc := "(I)Z" } : Jvm.MethodName) ({ cls := "SilentSaleModel", name := "isRule", desc := "(I)Z" } : Jvm.MethodName)) ∈ tb_L := tb_in (i := 72) (by decide +kernel) (by decide +kernel)
theorem wd_1544 : (Jvm.Cond.code ({ cls := "SilentSaleModel", name := "force", desc := "(I)I" } : Jvm.MethodName) prog_14_method_63_code (3 : Nat) (Option.some Jvm.ClassFile.FieldType.int)) ∈ tb_L := tb_in (i := 1544) (by decide +kernel) (by decide +kernel)
theorem wd_1545 : (Jvm.Cond.methodLink "SilentSaleModel" (297 : Nat) ({ cls := "SilentSaleModel", name := "isRule", desc := "(I)Z" } : Jvm.MethodName)) ∈ tb_L := tb_in (i := 1545) (by decide +kernel) (by decide +kernel)
theorem wd_1547 : (Jvm.Cond.instanceMethod ({ cls := "SilentSaleModel", name := "isRule", desc := "(I)Z" } : Jvm.MethodName)) ∈ tb_L := tb_in (i := 1547) (by decide +kernel) (by decide +kernel)
theorem dX12_force_0 : decode cX12_force 0 = .ok (.iload_n 1, 1) := by decide +kernel
theorem dX12_force_1 : decode cX12_force 1 = .ok (.iconst (-1), 1) := by decide +kernel
theorem dX12_force_2 : decode cX12_force 2 = .ok (.if_icmp .eq 14, 3) := by decide +kernel
theorem dX12_force_5 : decode cX12_force 5 = .ok (.aload_n 0, 1) := by decide +kernel
theorem dX12_force_6 : decode cX12_force 6 = .ok (.iload_n 1, 1) := by decide +kernel
theorem dX12_force_7 : decode cX12_force 7 = .ok (.invokevirtual 297, 3) := by decide +kernel
theorem dX12_force_10 : decode cX12_force 10 = .ok (.ifCond .ne 6, 3) := by decide +kernel
theorem dX12_force_13 : decode cX12_force 13 = .ok (.bipush (-2), 2) := by decide +kernel
theorem dX12_force_15 : decode cX12_force 15 = .ok (.ireturn, 1) := by decide +kernel
theorem dX12_force_16 : decode cX12_force 16 = .ok (.aload_n 0, 1) := by decide +kernel
theorem dX12_force_17 : decode cX12_force 17 = .ok (.getfield 42, 3) := by decide +kernel
theorem dX12_force_20 : decode cX12_force 20 = .ok (.istore_n 2, 1) := by decide +kernel
theorem dX12_force_21 : decode cX12_force 21 = .ok (.aload_n 0, 1) := by decide +kernel
theorem dX12_force_22 : decode cX12_force 22 = .ok (.iload_n 1, 1) := by decide +kernel
theorem dX12_force_23 : decode cX12_force 23 = .ok (.putfield 42, 3) := by decide +kernel
theorem dX12_force_26 : decode cX12_force 26 = .ok (.iload_n 2, 1) := by decide +kernel
theorem dX12_force_27 : decode cX12_force 27 = .ok (.ireturn, 1) := by decide +kernel
theorem wd_73 : (Jvm.Cond.selects "SilentSaleModel" ({ cls := "SilentSaleModel", name := "isBidder", desc := "(I)Z" } : Jvm.MethodName) ({ cls := "SilentSaleModel", name := "isBidder", desc := "(I)Z" } : Jvm.MethodName)) ∈ tb_L := tb_in (i := 73) (by decide +kernel) (by decide +kernel)
theorem wd_1552 : (Jvm.Cond.code ({ cls := "SilentSaleModel", name := "bidder", desc := "(II)I" } : Jvm.MethodName) prog_14_method_64_code (3 : Nat) (Option.some Jvm.ClassFile.FieldType.int)) ∈ tb_L := tb_in (i := 1552) (by decide +kernel) (by decide +kernel)
theorem wd_1553 : (Jvm.Cond.methodLink "SilentSaleModel" (300 : Nat) ({ cls := "SilentSaleModel", name := "isBidder", desc := "(I)Z" } : Jvm.MethodName)) ∈ tb_L := tb_in (i := 1553) (by decide +kernel) (by decide +kernel)
theorem wd_1555 : (Jvm.Cond.instanceMethod ({ cls := "SilentSaleModel", name := "isBidder", desc := "(I)Z" } : Jvm.MethodName)) ∈ tb_L := tb_in (i := 1555) (by decide +kernel) (by decide +kernel)
theorem dX12_bidder_0 : decode cX12_bidder 0 = .ok (.aload_n 0, 1) := by decide +kernel
theorem dX12_bidder_1 : decode cX12_bidder 1 = .ok (.iload_n 1, 1) := by decide +kernel
theorem dX12_bidder_2 : decode cX12_bidder 2 = .ok (.invokevirtual 300, 3) := by decide +kernel
theorem dX12_bidder_5 : decode cX12_bidder 5 = .ok (.ifCond .eq 15, 3) := by decide +kernel
theorem dX12_bidder_20 : decode cX12_bidder 20 = .ok (.sipush (-1000), 3) := by decide +kernel
theorem dX12_bidder_23 : decode cX12_bidder 23 = .ok (.ireturn, 1) := by decide +kernel
theorem wd_79 : (Jvm.Cond.selects "SilentSaleModel" ({ cls := "SilentSaleModel", name := "isLot", desc := "(I)Z" } : Jvm.MethodName) ({ cls := "SilentSaleModel", name := "isLot", desc := "(I)Z" } : Jvm.MethodName)) ∈ tb_L := tb_in (i := 79) (by decide +kernel) (by decide +kernel)
theorem wd_1581 : (Jvm.Cond.code ({ cls := "SilentSaleModel", name := "lot", desc := "(II)I" } : Jvm.MethodName) prog_14_method_65_code (3 : Nat) (Option.some Jvm.ClassFile.FieldType.int)) ∈ tb_L := tb_in (i := 1581) (by decide +kernel) (by decide +kernel)
theorem wd_1582 : (Jvm.Cond.methodLink "SilentSaleModel" (308 : Nat) ({ cls := "SilentSaleModel", name := "isLot", desc := "(I)Z" } : Jvm.MethodName)) ∈ tb_L := tb_in (i := 1582) (by decide +kernel) (by decide +kernel)
theorem wd_1584 : (Jvm.Cond.instanceMethod ({ cls := "SilentSaleModel", name := "isLot", desc := "(I)Z" } : Jvm.MethodName)) ∈ tb_L := tb_in (i := 1584) (by decide +kernel) (by decide +kernel)
theorem dX12_lot_0 : decode cX12_lot 0 = .ok (.aload_n 0, 1) := by decide +kernel
theorem dX12_lot_1 : decode cX12_lot 1 = .ok (.iload_n 1, 1) := by decide +kernel
theorem dX12_lot_2 : decode cX12_lot 2 = .ok (.invokevirtual 308, 3) := by decide +kernel
theorem dX12_lot_5 : decode cX12_lot 5 = .ok (.ifCond .eq 15, 3) := by decide +kernel
theorem dX12_lot_20 : decode cX12_lot 20 = .ok (.bipush (-2), 2) := by decide +kernel
theorem dX12_lot_22 : decode cX12_lot 22 = .ok (.ireturn, 1) := by decide +kernel
theorem wd_1602 : (Jvm.Cond.code ({ cls := "SilentSaleModel", name := "worth", desc := "(II)I" } : Jvm.MethodName) prog_14_method_66_code (3 : Nat) (Option.some Jvm.ClassFile.FieldType.int)) ∈ tb_L := tb_in (i := 1602) (by decide +kernel) (by decide +kernel)
theorem dX12_worth_0 : decode cX12_worth 0 = .ok (.aload_n 0, 1) := by decide +kernel
theorem dX12_worth_1 : decode cX12_worth 1 = .ok (.iload_n 1, 1) := by decide +kernel
theorem dX12_worth_2 : decode cX12_worth 2 = .ok (.invokevirtual 300, 3) := by decide +kernel
theorem dX12_worth_5 : decode cX12_worth 5 = .ok (.ifCond .eq 20, 3) := by decide +kernel
theorem dX12_worth_25 : decode cX12_worth 25 = .ok (.iconst (-1), 1) := by decide +kernel
theorem dX12_worth_26 : decode cX12_worth 26 = .ok (.ireturn, 1) := by decide +kernel
theorem wd_83 : (Jvm.Cond.selects "SilentSaleModel" ({ cls := "SilentSaleModel", name := "isTrick", desc := "(I)Z" } : Jvm.MethodName) ({ cls := "SilentSaleModel", name := "isTrick", desc := "(I)Z" } : Jvm.MethodName)) ∈ tb_L := tb_in (i := 83) (by decide +kernel) (by decide +kernel)
theorem wd_1606 : (Jvm.Cond.code ({ cls := "SilentSaleModel", name := "trick", desc := "(II)I" } : Jvm.MethodName) prog_14_method_67_code (3 : Nat) (Option.some Jvm.ClassFile.FieldType.int)) ∈ tb_L := tb_in (i := 1606) (by decide +kernel) (by decide +kernel)
theorem wd_1607 : (Jvm.Cond.methodLink "SilentSaleModel" (319 : Nat) ({ cls := "SilentSaleModel", name := "isTrick", desc := "(I)Z" } : Jvm.MethodName)) ∈ tb_L := tb_in (i := 1607) (by decide +kernel) (by decide +kernel)
theorem wd_1609 : (Jvm.Cond.instanceMethod ({ cls := "SilentSaleModel", name := "isTrick", desc := "(I)Z" } : Jvm.MethodName)) ∈ tb_L := tb_in (i := 1609) (by decide +kernel) (by decide +kernel)
theorem dX12_trick_0 : decode cX12_trick 0 = .ok (.aload_n 0, 1) := by decide +kernel
theorem dX12_trick_1 : decode cX12_trick 1 = .ok (.iload_n 1, 1) := by decide +kernel
theorem dX12_trick_2 : decode cX12_trick 2 = .ok (.invokevirtual 319, 3) := by decide +kernel
theorem dX12_trick_5 : decode cX12_trick 5 = .ok (.ifCond .eq 29, 3) := by decide +kernel
theorem dX12_trick_34 : decode cX12_trick 34 = .ok (.iconst (-1), 1) := by decide +kernel
theorem dX12_trick_35 : decode cX12_trick 35 = .ok (.ireturn, 1) := by decide +kernel
theorem wd_84 : (Jvm.Cond.selects "SilentSaleModel" ({ cls := "SilentSaleModel", name := "lotsIn", desc := "(I)I" } : Jvm.MethodName) ({ cls := "SilentSaleModel", name := "lotsIn", desc := "(I)I" } : Jvm.MethodName)) ∈ tb_L := tb_in (i := 84) (by decide +kernel) (by decide +kernel)
theorem wd_1618 : (Jvm.Cond.code ({ cls := "SilentSaleModel", name := "minute", desc := "()I" } : Jvm.MethodName) prog_14_method_77_code (1 : Nat) (Option.some Jvm.ClassFile.FieldType.int)) ∈ tb_L := tb_in (i := 1618) (by decide +kernel) (by decide +kernel)
theorem wd_1619 : (Jvm.Cond.methodLink "SilentSaleModel" (329 : Nat) ({ cls := "SilentSaleModel", name := "lotsIn", desc := "(I)I" } : Jvm.MethodName)) ∈ tb_L := tb_in (i := 1619) (by decide +kernel) (by decide +kernel)
theorem wd_1621 : (Jvm.Cond.instanceMethod ({ cls := "SilentSaleModel", name := "lotsIn", desc := "(I)I" } : Jvm.MethodName)) ∈ tb_L := tb_in (i := 1621) (by decide +kernel) (by decide +kernel)
theorem dX12_minute_0 : decode cX12_minute 0 = .ok (.aload_n 0, 1) := by decide +kernel
theorem dX12_minute_1 : decode cX12_minute 1 = .ok (.iconst 1, 1) := by decide +kernel
theorem dX12_minute_2 : decode cX12_minute 2 = .ok (.invokevirtual 329, 3) := by decide +kernel
theorem dX12_minute_5 : decode cX12_minute 5 = .ok (.ifCond .eq 16, 3) := by decide +kernel
theorem dX12_minute_21 : decode cX12_minute 21 = .ok (.iconst (-1), 1) := by decide +kernel
theorem dX12_minute_22 : decode cX12_minute 22 = .ok (.ireturn, 1) := by decide +kernel
theorem wd_1679 : (Jvm.Cond.code ({ cls := "SilentSaleModel", name := "sit", desc := "(II)I" } : Jvm.MethodName) prog_14_method_78_code (4 : Nat) (Option.some Jvm.ClassFile.FieldType.int)) ∈ tb_L := tb_in (i := 1679) (by decide +kernel) (by decide +kernel)
theorem dX12_sit_0 : decode cX12_sit 0 = .ok (.aload_n 0, 1) := by decide +kernel
theorem dX12_sit_1 : decode cX12_sit 1 = .ok (.iload_n 1, 1) := by decide +kernel
theorem dX12_sit_2 : decode cX12_sit 2 = .ok (.invokevirtual 300, 3) := by decide +kernel
theorem dX12_sit_5 : decode cX12_sit 5 = .ok (.ifCond .eq 21, 3) := by decide +kernel
theorem dX12_sit_26 : decode cX12_sit 26 = .ok (.bipush (-2), 2) := by decide +kernel
theorem dX12_sit_28 : decode cX12_sit 28 = .ok (.ireturn, 1) := by decide +kernel
theorem wd_1683 : (Jvm.Cond.code ({ cls := "SilentSaleModel", name := "bell", desc := "(I)I" } : Jvm.MethodName) prog_14_method_81_code (3 : Nat) (Option.some Jvm.ClassFile.FieldType.int)) ∈ tb_L := tb_in (i := 1683) (by decide +kernel) (by decide +kernel)
theorem dX12_bell_0 : decode cX12_bell 0 = .ok (.aload_n 0, 1) := by decide +kernel
theorem dX12_bell_1 : decode cX12_bell 1 = .ok (.iload_n 1, 1) := by decide +kernel
theorem dX12_bell_2 : decode cX12_bell 2 = .ok (.invokevirtual 308, 3) := by decide +kernel
theorem dX12_bell_5 : decode cX12_bell 5 = .ok (.ifCond .eq 11, 3) := by decide +kernel
theorem dX12_bell_16 : decode cX12_bell 16 = .ok (.iconst (-1), 1) := by decide +kernel
theorem dX12_bell_17 : decode cX12_bell 17 = .ok (.ireturn, 1) := by decide +kernel
theorem wd_1695 : (Jvm.Cond.code ({ cls := "SilentSaleModel", name := "play", desc := "(III)I" } : Jvm.MethodName) prog_14_method_86_code (4 : Nat) (Option.some Jvm.ClassFile.FieldType.int)) ∈ tb_L := tb_in (i := 1695) (by decide +kernel) (by decide +kernel)
theorem dX12_play_0 : decode cX12_play 0 = .ok (.aload_n 0, 1) := by decide +kernel
theorem dX12_play_1 : decode cX12_play 1 = .ok (.iload_n 1, 1) := by decide +kernel
theorem dX12_play_2 : decode cX12_play 2 = .ok (.invokevirtual 300, 3) := by decide +kernel
theorem dX12_play_5 : decode cX12_play 5 = .ok (.ifCond .eq 29, 3) := by decide +kernel
theorem dX12_play_34 : decode cX12_play 34 = .ok (.iconst (-1), 1) := by decide +kernel
theorem dX12_play_35 : decode cX12_play 35 = .ok (.ireturn, 1) := by decide +kernel
theorem wd_1715 : (Jvm.Cond.code ({ cls := "SilentSaleModel", name := "fire", desc := "(I)I" } : Jvm.MethodName) prog_14_method_87_code (4 : Nat) (Option.some Jvm.ClassFile.FieldType.int)) ∈ tb_L := tb_in (i := 1715) (by decide +kernel) (by decide +kernel)
theorem dX12_fire_0 : decode cX12_fire 0 = .ok (.aload_n 0, 1) := by decide +kernel
theorem dX12_fire_1 : decode cX12_fire 1 = .ok (.iload_n 1, 1) := by decide +kernel
theorem dX12_fire_2 : decode cX12_fire 2 = .ok (.invokevirtual 308, 3) := by decide +kernel
theorem dX12_fire_5 : decode cX12_fire 5 = .ok (.ifCond .eq 13, 3) := by decide +kernel
theorem dX12_fire_18 : decode cX12_fire 18 = .ok (.iconst (-1), 1) := by decide +kernel
theorem dX12_fire_19 : decode cX12_fire 19 = .ok (.ireturn, 1) := by decide +kernel
theorem wd_102 : (Jvm.Cond.selects "SilentSaleModel" ({ cls := "SilentSaleModel", name := "isSale", desc := "()Z" } : Jvm.MethodName) ({ cls := "SilentSaleModel", name := "isSale", desc := "()Z" } : Jvm.MethodName)) ∈ tb_L := tb_in (i := 102) (by decide +kernel) (by decide +kernel)
theorem wd_1719 : (Jvm.Cond.code ({ cls := "SilentSaleModel", name := "ahead", desc := "(III)I" } : Jvm.MethodName) prog_14_method_90_code (5 : Nat) (Option.some Jvm.ClassFile.FieldType.int)) ∈ tb_L := tb_in (i := 1719) (by decide +kernel) (by decide +kernel)
theorem wd_1720 : (Jvm.Cond.methodLink "SilentSaleModel" (381 : Nat) ({ cls := "SilentSaleModel", name := "isSale", desc := "()Z" } : Jvm.MethodName)) ∈ tb_L := tb_in (i := 1720) (by decide +kernel) (by decide +kernel)
theorem wd_1722 : (Jvm.Cond.instanceMethod ({ cls := "SilentSaleModel", name := "isSale", desc := "()Z" } : Jvm.MethodName)) ∈ tb_L := tb_in (i := 1722) (by decide +kernel) (by decide +kernel)
theorem dX12_ahead_0 : decode cX12_ahead 0 = .ok (.aload_n 0, 1) := by decide +kernel
theorem dX12_ahead_1 : decode cX12_ahead 1 = .ok (.invokevirtual 381, 3) := by decide +kernel
theorem dX12_ahead_4 : decode cX12_ahead 4 = .ok (.ifCond .eq 50, 3) := by decide +kernel
theorem dX12_ahead_54 : decode cX12_ahead 54 = .ok (.sipush (-1000), 3) := by decide +kernel
theorem dX12_ahead_57 : decode cX12_ahead 57 = .ok (.ireturn, 1) := by decide +kernel
theorem wd_1737 : (Jvm.Cond.code ({ cls := "SilentSaleModel", name := "ends", desc := "(II)I" } : Jvm.MethodName) prog_14_method_92_code (5 : Nat) (Option.some Jvm.ClassFile.FieldType.int)) ∈ tb_L := tb_in (i := 1737) (by decide +kernel) (by decide +kernel)
theorem dX12_ends_0 : decode cX12_ends 0 = .ok (.aload_n 0, 1) := by decide +kernel
theorem dX12_ends_1 : decode cX12_ends 1 = .ok (.iload_n 1, 1) := by decide +kernel
theorem dX12_ends_2 : decode cX12_ends 2 = .ok (.invokevirtual 308, 3) := by decide +kernel
theorem dX12_ends_5 : decode cX12_ends 5 = .ok (.ifCond .eq 25, 3) := by decide +kernel
theorem dX12_ends_30 : decode cX12_ends 30 = .ok (.bipush (-2), 2) := by decide +kernel
theorem dX12_ends_32 : decode cX12_ends 32 = .ok (.ireturn, 1) := by decide +kernel
theorem wd_1745 : (Jvm.Cond.code ({ cls := "SilentSaleModel", name := "hold", desc := "(II)I" } : Jvm.MethodName) prog_14_method_93_code (8 : Nat) (Option.some Jvm.ClassFile.FieldType.int)) ∈ tb_L := tb_in (i := 1745) (by decide +kernel) (by decide +kernel)
theorem dX12_hold_0 : decode cX12_hold 0 = .ok (.aload_n 0, 1) := by decide +kernel
theorem dX12_hold_1 : decode cX12_hold 1 = .ok (.iload_n 1, 1) := by decide +kernel
theorem dX12_hold_2 : decode cX12_hold 2 = .ok (.invokevirtual 300, 3) := by decide +kernel
theorem dX12_hold_5 : decode cX12_hold 5 = .ok (.ifCond .eq 21, 3) := by decide +kernel
theorem dX12_hold_26 : decode cX12_hold 26 = .ok (.sipush (-1000), 3) := by decide +kernel
theorem dX12_hold_29 : decode cX12_hold 29 = .ok (.ireturn, 1) := by decide +kernel
theorem wd_1749 : (Jvm.Cond.code ({ cls := "SilentSaleModel", name := "rests", desc := "(IIII)I" } : Jvm.MethodName) prog_14_method_96_code (8 : Nat) (Option.some Jvm.ClassFile.FieldType.int)) ∈ tb_L := tb_in (i := 1749) (by decide +kernel) (by decide +kernel)
theorem dX12_rests_0 : decode cX12_rests 0 = .ok (.aload_n 0, 1) := by decide +kernel
theorem dX12_rests_1 : decode cX12_rests 1 = .ok (.iload_n 1, 1) := by decide +kernel
theorem dX12_rests_2 : decode cX12_rests 2 = .ok (.invokevirtual 300, 3) := by decide +kernel
theorem dX12_rests_5 : decode cX12_rests 5 = .ok (.ifCond .eq 37, 3) := by decide +kernel
theorem dX12_rests_42 : decode cX12_rests 42 = .ok (.iconst (-1), 1) := by decide +kernel
theorem dX12_rests_43 : decode cX12_rests 43 = .ok (.ireturn, 1) := by decide +kernel
theorem wd_1761 : (Jvm.Cond.code ({ cls := "SilentSaleModel", name := "seats", desc := "(I)I" } : Jvm.MethodName) prog_14_method_100_code (8 : Nat) (Option.some Jvm.ClassFile.FieldType.int)) ∈ tb_L := tb_in (i := 1761) (by decide +kernel) (by decide +kernel)
theorem dX12_seats_0 : decode cX12_seats 0 = .ok (.aload_n 0, 1) := by decide +kernel
theorem dX12_seats_1 : decode cX12_seats 1 = .ok (.invokevirtual 381, 3) := by decide +kernel
theorem dX12_seats_4 : decode cX12_seats 4 = .ok (.ifCond .eq 15, 3) := by decide +kernel
theorem dX12_seats_19 : decode cX12_seats 19 = .ok (.sipush (-1000), 3) := by decide +kernel
theorem dX12_seats_22 : decode cX12_seats 22 = .ok (.ireturn, 1) := by decide +kernel
theorem wd_1780 : (Jvm.Cond.code ({ cls := "SilentSaleModel", name := "tricks", desc := "(II)I" } : Jvm.MethodName) prog_14_method_103_code (10 : Nat) (Option.some Jvm.ClassFile.FieldType.int)) ∈ tb_L := tb_in (i := 1780) (by decide +kernel) (by decide +kernel)
theorem dX12_tricks_0 : decode cX12_tricks 0 = .ok (.aload_n 0, 1) := by decide +kernel
theorem dX12_tricks_1 : decode cX12_tricks 1 = .ok (.iload_n 1, 1) := by decide +kernel
theorem dX12_tricks_2 : decode cX12_tricks 2 = .ok (.invokevirtual 300, 3) := by decide +kernel
theorem dX12_tricks_5 : decode cX12_tricks 5 = .ok (.ifCond .eq 23, 3) := by decide +kernel
theorem dX12_tricks_28 : decode cX12_tricks 28 = .ok (.bipush (-4), 2) := by decide +kernel
theorem dX12_tricks_30 : decode cX12_tricks 30 = .ok (.ireturn, 1) := by decide +kernel
theorem wd_1792 : (Jvm.Cond.code ({ cls := "SilentSaleModel", name := "ring", desc := "(II)I" } : Jvm.MethodName) prog_14_method_107_code (9 : Nat) (Option.some Jvm.ClassFile.FieldType.int)) ∈ tb_L := tb_in (i := 1792) (by decide +kernel) (by decide +kernel)
theorem dX12_ring_0 : decode cX12_ring 0 = .ok (.aload_n 0, 1) := by decide +kernel
theorem dX12_ring_1 : decode cX12_ring 1 = .ok (.invokevirtual 381, 3) := by decide +kernel
theorem dX12_ring_4 : decode cX12_ring 4 = .ok (.ifCond .eq 11, 3) := by decide +kernel
theorem dX12_ring_15 : decode cX12_ring 15 = .ok (.iconst (-1), 1) := by decide +kernel
theorem dX12_ring_16 : decode cX12_ring 16 = .ok (.istore_n 3, 1) := by decide +kernel
theorem dX12_ring_17 : decode cX12_ring 17 = .ok (.iload_n 3, 1) := by decide +kernel
theorem dX12_ring_18 : decode cX12_ring 18 = .ok (.ifCond .lt 13, 3) := by decide +kernel
theorem dX12_ring_31 : decode cX12_ring 31 = .ok (.sipush (-1000), 3) := by decide +kernel
theorem dX12_ring_34 : decode cX12_ring 34 = .ok (.ireturn, 1) := by decide +kernel
theorem wd_1807 : (Jvm.Cond.code ({ cls := "SilentSaleModel", name := "breath", desc := "(I)I" } : Jvm.MethodName) prog_14_method_108_code (5 : Nat) (Option.some Jvm.ClassFile.FieldType.int)) ∈ tb_L := tb_in (i := 1807) (by decide +kernel) (by decide +kernel)
theorem dX12_breath_0 : decode cX12_breath 0 = .ok (.aload_n 0, 1) := by decide +kernel
theorem dX12_breath_1 : decode cX12_breath 1 = .ok (.iload_n 1, 1) := by decide +kernel
theorem dX12_breath_2 : decode cX12_breath 2 = .ok (.invokevirtual 300, 3) := by decide +kernel
theorem dX12_breath_5 : decode cX12_breath 5 = .ok (.ifCond .eq 11, 3) := by decide +kernel
theorem dX12_breath_16 : decode cX12_breath 16 = .ok (.iconst (-1), 1) := by decide +kernel
theorem dX12_breath_17 : decode cX12_breath 17 = .ok (.ireturn, 1) := by decide +kernel
theorem wd_1816 : (Jvm.Cond.code ({ cls := "SilentSaleModel", name := "ruled", desc := "(I)I" } : Jvm.MethodName) prog_14_method_112_code (5 : Nat) (Option.some Jvm.ClassFile.FieldType.int)) ∈ tb_L := tb_in (i := 1816) (by decide +kernel) (by decide +kernel)
theorem dX12_ruled_0 : decode cX12_ruled 0 = .ok (.aload_n 0, 1) := by decide +kernel
theorem dX12_ruled_1 : decode cX12_ruled 1 = .ok (.invokevirtual 381, 3) := by decide +kernel
theorem dX12_ruled_4 : decode cX12_ruled 4 = .ok (.ifCond .eq 13, 3) := by decide +kernel
theorem dX12_ruled_17 : decode cX12_ruled 17 = .ok (.bipush (-3), 2) := by decide +kernel
theorem dX12_ruled_19 : decode cX12_ruled 19 = .ok (.ireturn, 1) := by decide +kernel
theorem wd_1828 : (Jvm.Cond.code ({ cls := "SilentSaleModel", name := "look", desc := "(I)I" } : Jvm.MethodName) prog_14_method_114_code (6 : Nat) (Option.some Jvm.ClassFile.FieldType.int)) ∈ tb_L := tb_in (i := 1828) (by decide +kernel) (by decide +kernel)
theorem dX12_look_0 : decode cX12_look 0 = .ok (.aload_n 0, 1) := by decide +kernel
theorem dX12_look_1 : decode cX12_look 1 = .ok (.invokevirtual 381, 3) := by decide +kernel
theorem dX12_look_4 : decode cX12_look 4 = .ok (.ifCond .eq 13, 3) := by decide +kernel
theorem dX12_look_17 : decode cX12_look 17 = .ok (.iconst (-1), 1) := by decide +kernel
theorem dX12_look_18 : decode cX12_look 18 = .ok (.ireturn, 1) := by decide +kernel
theorem wd_1840 : (Jvm.Cond.code ({ cls := "SilentSaleModel", name := "coughs", desc := "(IIII)I" } : Jvm.MethodName) prog_14_method_119_code (10 : Nat) (Option.some Jvm.ClassFile.FieldType.int)) ∈ tb_L := tb_in (i := 1840) (by decide +kernel) (by decide +kernel)
theorem dX12_coughs_0 : decode cX12_coughs 0 = .ok (.aload_n 0, 1) := by decide +kernel
theorem dX12_coughs_1 : decode cX12_coughs 1 = .ok (.invokevirtual 381, 3) := by decide +kernel
theorem dX12_coughs_4 : decode cX12_coughs 4 = .ok (.ifCond .eq 50, 3) := by decide +kernel
theorem dX12_coughs_54 : decode cX12_coughs 54 = .ok (.iconst (-1), 1) := by decide +kernel
theorem dX12_coughs_55 : decode cX12_coughs 55 = .ok (.ireturn, 1) := by decide +kernel
theorem wd_1279 : (Jvm.Cond.fieldLink "SilentSaleModel" (260 : Nat) "SilentSaleModel" "undone" "I") ∈ tb_L := tb_in (i := 1279) (by decide +kernel) (by decide +kernel)
theorem wd_1614 : (Jvm.Cond.code ({ cls := "SilentSaleModel", name := "undo", desc := "()I" } : Jvm.MethodName) prog_14_method_76_code (2 : Nat) (Option.some Jvm.ClassFile.FieldType.int)) ∈ tb_L := tb_in (i := 1614) (by decide +kernel) (by decide +kernel)
theorem dX12_undo_0 : decode cX12_undo 0 = .ok (.aload_n 0, 1) := by decide +kernel
theorem dX12_undo_1 : decode cX12_undo 1 = .ok (.getfield 260, 3) := by decide +kernel
theorem dX12_undo_4 : decode cX12_undo 4 = .ok (.ifCond .ne 5, 3) := by decide +kernel
theorem dX12_undo_7 : decode cX12_undo 7 = .ok (.iconst (-1), 1) := by decide +kernel
theorem dX12_undo_8 : decode cX12_undo 8 = .ok (.ireturn, 1) := by decide +kernel
theorem wd_1811 : (Jvm.Cond.code ({ cls := "SilentSaleModel", name := "log", desc := "(III)I" } : Jvm.MethodName) prog_14_method_109_code (5 : Nat) (Option.some Jvm.ClassFile.FieldType.int)) ∈ tb_L := tb_in (i := 1811) (by decide +kernel) (by decide +kernel)
theorem dX12_log_0 : decode cX12_log 0 = .ok (.iload_n 1, 1) := by decide +kernel
theorem dX12_log_1 : decode cX12_log 1 = .ok (.iconst (-1), 1) := by decide +kernel
theorem dX12_log_2 : decode cX12_log 2 = .ok (.if_icmp .ne 13, 3) := by decide +kernel
theorem dX12_log_5 : decode cX12_log 5 = .ok (.aload_n 0, 1) := by decide +kernel
theorem dX12_log_6 : decode cX12_log 6 = .ok (.getfield 39, 3) := by decide +kernel
theorem dX12_log_9 : decode cX12_log 9 = .ok (.bipush 109, 2) := by decide +kernel
theorem dX12_log_11 : decode cX12_log 11 = .ok (.iconst 0, 1) := by decide +kernel
theorem dX12_log_12 : decode cX12_log 12 = .ok (.iastore, 1) := by decide +kernel
theorem dX12_log_13 : decode cX12_log 13 = .ok (.iconst 0, 1) := by decide +kernel
theorem dX12_log_14 : decode cX12_log 14 = .ok (.ireturn, 1) := by decide +kernel
theorem dX12_log_15 : decode cX12_log 15 = .ok (.aload_n 0, 1) := by decide +kernel
theorem dX12_log_16 : decode cX12_log 16 = .ok (.iload_n 1, 1) := by decide +kernel
theorem dX12_log_17 : decode cX12_log 17 = .ok (.invokevirtual 308, 3) := by decide +kernel
theorem dX12_log_20 : decode cX12_log 20 = .ok (.ifCond .eq 40, 3) := by decide +kernel
theorem dX12_log_60 : decode cX12_log 60 = .ok (.bipush (-2), 2) := by decide +kernel
theorem dX12_log_62 : decode cX12_log 62 = .ok (.ireturn, 1) := by decide +kernel
theorem wd_1274 : (Jvm.Cond.fieldLink "SilentSaleModel" (444 : Nat) "SilentSaleModel" "x" "I") ∈ tb_L := tb_in (i := 1274) (by decide +kernel) (by decide +kernel)
theorem wd_1836 : (Jvm.Cond.code ({ cls := "SilentSaleModel", name := "seed", desc := "(I)I" } : Jvm.MethodName) prog_14_method_115_code (3 : Nat) (Option.some Jvm.ClassFile.FieldType.int)) ∈ tb_L := tb_in (i := 1836) (by decide +kernel) (by decide +kernel)
theorem dX12_seed_0 : decode cX12_seed 0 = .ok (.iload_n 1, 1) := by decide +kernel
theorem dX12_seed_1 : decode cX12_seed 1 = .ok (.ifCond .ge 5, 3) := by decide +kernel
theorem dX12_seed_4 : decode cX12_seed 4 = .ok (.iconst (-1), 1) := by decide +kernel
theorem dX12_seed_5 : decode cX12_seed 5 = .ok (.ireturn, 1) := by decide +kernel
theorem dX12_seed_6 : decode cX12_seed 6 = .ok (.aload_n 0, 1) := by decide +kernel
theorem dX12_seed_7 : decode cX12_seed 7 = .ok (.getfield 444, 3) := by decide +kernel
theorem dX12_seed_10 : decode cX12_seed 10 = .ok (.istore_n 2, 1) := by decide +kernel
theorem dX12_seed_11 : decode cX12_seed 11 = .ok (.aload_n 0, 1) := by decide +kernel
theorem dX12_seed_12 : decode cX12_seed 12 = .ok (.iload_n 1, 1) := by decide +kernel
theorem dX12_seed_13 : decode cX12_seed 13 = .ok (.putfield 444, 3) := by decide +kernel
theorem dX12_seed_16 : decode cX12_seed 16 = .ok (.iload_n 2, 1) := by decide +kernel
theorem dX12_seed_17 : decode cX12_seed 17 = .ok (.ireturn, 1) := by decide +kernel
theorem wd_119 : (Jvm.Cond.selects "SilentSaleModel" ({ cls := "SilentSaleModel", name := "coinsPaid", desc := "()I" } : Jvm.MethodName) ({ cls := "SilentSaleModel", name := "coinsPaid", desc := "()I" } : Jvm.MethodName)) ∈ tb_L := tb_in (i := 119) (by decide +kernel) (by decide +kernel)
theorem wd_1848 : (Jvm.Cond.methodLink "SilentSaleModel" (468 : Nat) ({ cls := "SilentSaleModel", name := "coinsPaid", desc := "()I" } : Jvm.MethodName)) ∈ tb_L := tb_in (i := 1848) (by decide +kernel) (by decide +kernel)
theorem wd_1850 : (Jvm.Cond.instanceMethod ({ cls := "SilentSaleModel", name := "coinsPaid", desc := "()I" } : Jvm.MethodName)) ∈ tb_L := tb_in (i := 1850) (by decide +kernel) (by decide +kernel)
theorem wd_1863 : (Jvm.Cond.code ({ cls := "SilentSaleModel", name := "count", desc := "(I)I" } : Jvm.MethodName) prog_14_method_120_code (4 : Nat) (Option.some Jvm.ClassFile.FieldType.int)) ∈ tb_L := tb_in (i := 1863) (by decide +kernel) (by decide +kernel)
theorem dX12_count_0 : decode cX12_count 0 = .ok (.iconst 0, 1) := by decide +kernel
theorem dX12_count_1 : decode cX12_count 1 = .ok (.istore_n 2, 1) := by decide +kernel
theorem dX12_count_2 : decode cX12_count 2 = .ok (.iload_n 1, 1) := by decide +kernel
theorem dX12_count_3 : decode cX12_count 3 = .ok (.tableswitch 176 0 14 #[73, 73, 73, 73, 80, 85, 90, 98, 136, 142, 148, 153, 161, 166, 171], 73) := by decide +kernel
theorem dX12_count_76 : decode cX12_count 76 = .ok (.aload_n 0, 1) := by decide +kernel
theorem dX12_count_77 : decode cX12_count 77 = .ok (.getfield 39, 3) := by decide +kernel
theorem dX12_count_80 : decode cX12_count 80 = .ok (.iload_n 1, 1) := by decide +kernel
theorem dX12_count_81 : decode cX12_count 81 = .ok (.iaload, 1) := by decide +kernel
theorem dX12_count_82 : decode cX12_count 82 = .ok (.ireturn, 1) := by decide +kernel
theorem dX12_count_83 : decode cX12_count 83 = .ok (.aload_n 0, 1) := by decide +kernel
theorem dX12_count_84 : decode cX12_count 84 = .ok (.getfield 251, 3) := by decide +kernel
theorem dX12_count_87 : decode cX12_count 87 = .ok (.ireturn, 1) := by decide +kernel
theorem dX12_count_88 : decode cX12_count 88 = .ok (.aload_n 0, 1) := by decide +kernel
theorem dX12_count_89 : decode cX12_count 89 = .ok (.getfield 42, 3) := by decide +kernel
theorem dX12_count_92 : decode cX12_count 92 = .ok (.ireturn, 1) := by decide +kernel
theorem dX12_count_93 : decode cX12_count 93 = .ok (.aload_n 0, 1) := by decide +kernel
theorem dX12_count_94 : decode cX12_count 94 = .ok (.getfield 39, 3) := by decide +kernel
theorem dX12_count_97 : decode cX12_count 97 = .ok (.bipush 10, 2) := by decide +kernel
theorem dX12_count_99 : decode cX12_count 99 = .ok (.iaload, 1) := by decide +kernel
theorem dX12_count_100 : decode cX12_count 100 = .ok (.ireturn, 1) := by decide +kernel
theorem dX12_count_101 : decode cX12_count 101 = .ok (.iconst 0, 1) := by decide +kernel
theorem dX12_count_102 : decode cX12_count 102 = .ok (.istore_n 3, 1) := by decide +kernel
theorem dX12_count_103 : decode cX12_count 103 = .ok (.iload_n 3, 1) := by decide +kernel
theorem dX12_count_104 : decode cX12_count 104 = .ok (.aload_n 0, 1) := by decide +kernel
theorem dX12_count_105 : decode cX12_count 105 = .ok (.getfield 39, 3) := by decide +kernel
theorem dX12_count_108 : decode cX12_count 108 = .ok (.iconst 1, 1) := by decide +kernel
theorem dX12_count_109 : decode cX12_count 109 = .ok (.iaload, 1) := by decide +kernel
theorem dX12_count_110 : decode cX12_count 110 = .ok (.if_icmp .ge 27, 3) := by decide +kernel
theorem dX12_count_137 : decode cX12_count 137 = .ok (.iload_n 2, 1) := by decide +kernel
theorem dX12_count_138 : decode cX12_count 138 = .ok (.ireturn, 1) := by decide +kernel
theorem dX12_count_139 : decode cX12_count 139 = .ok (.aload_n 0, 1) := by decide +kernel
theorem dX12_count_140 : decode cX12_count 140 = .ok (.iconst 1, 1) := by decide +kernel
theorem dX12_count_141 : decode cX12_count 141 = .ok (.invokevirtual 329, 3) := by decide +kernel
theorem dX12_count_144 : decode cX12_count 144 = .ok (.ireturn, 1) := by decide +kernel
theorem dX12_count_145 : decode cX12_count 145 = .ok (.aload_n 0, 1) := by decide +kernel
theorem dX12_count_146 : decode cX12_count 146 = .ok (.iconst 2, 1) := by decide +kernel
theorem dX12_count_147 : decode cX12_count 147 = .ok (.invokevirtual 329, 3) := by decide +kernel
theorem dX12_count_150 : decode cX12_count 150 = .ok (.ireturn, 1) := by decide +kernel
theorem dX12_count_151 : decode cX12_count 151 = .ok (.aload_n 0, 1) := by decide +kernel
theorem dX12_count_152 : decode cX12_count 152 = .ok (.invokevirtual 468, 3) := by decide +kernel
theorem dX12_count_155 : decode cX12_count 155 = .ok (.ireturn, 1) := by decide +kernel
theorem dX12_count_156 : decode cX12_count 156 = .ok (.aload_n 0, 1) := by decide +kernel
theorem dX12_count_157 : decode cX12_count 157 = .ok (.getfield 39, 3) := by decide +kernel
theorem dX12_count_160 : decode cX12_count 160 = .ok (.bipush 109, 2) := by decide +kernel
theorem dX12_count_162 : decode cX12_count 162 = .ok (.iaload, 1) := by decide +kernel
theorem dX12_count_163 : decode cX12_count 163 = .ok (.ireturn, 1) := by decide +kernel
theorem dX12_count_164 : decode cX12_count 164 = .ok (.aload_n 0, 1) := by decide +kernel
theorem dX12_count_165 : decode cX12_count 165 = .ok (.getfield 260, 3) := by decide +kernel
theorem dX12_count_168 : decode cX12_count 168 = .ok (.ireturn, 1) := by decide +kernel
theorem dX12_count_169 : decode cX12_count 169 = .ok (.aload_n 0, 1) := by decide +kernel
theorem dX12_count_170 : decode cX12_count 170 = .ok (.getfield 444, 3) := by decide +kernel
theorem dX12_count_173 : decode cX12_count 173 = .ok (.ireturn, 1) := by decide +kernel
theorem dX12_count_174 : decode cX12_count 174 = .ok (.aload_n 0, 1) := by decide +kernel
theorem dX12_count_175 : decode cX12_count 175 = .ok (.getfield 77, 3) := by decide +kernel
theorem dX12_count_178 : decode cX12_count 178 = .ok (.ireturn, 1) := by decide +kernel
theorem dX12_count_179 : decode cX12_count 179 = .ok (.iconst (-1), 1) := by decide +kernel
theorem dX12_count_180 : decode cX12_count 180 = .ok (.ireturn, 1) := by decide +kernel
theorem wd_1439 : (Jvm.Cond.methodLink "SilentSaleModel" (115 : Nat) ({ cls := "SilentSaleModel", name := "in", desc := "(JJJ)Z" } : Jvm.MethodName)) ∈ tb_L := tb_in (i := 1439) (by decide +kernel) (by decide +kernel)
theorem wd_1440 : (Jvm.Cond.static ({ cls := "SilentSaleModel", name := "in", desc := "(JJJ)Z" } : Jvm.MethodName)) ∈ tb_L := tb_in (i := 1440) (by decide +kernel) (by decide +kernel)
theorem wd_1867 : (Jvm.Cond.code ({ cls := "SilentSaleModel", name := "image", desc := "(I)I" } : Jvm.MethodName) prog_14_method_121_code (3 : Nat) (Option.some Jvm.ClassFile.FieldType.int)) ∈ tb_L := tb_in (i := 1867) (by decide +kernel) (by decide +kernel)
theorem wd_1868 : (Jvm.Cond.constantLong "SilentSaleModel" (474 : Nat) (3 : Int64)) ∈ tb_L := tb_in (i := 1868) (by decide +kernel) (by decide +kernel)
theorem dX12_image_0 : decode cX12_image 0 = .ok (.iload_n 1, 1) := by decide +kernel
theorem dX12_image_1 : decode cX12_image 1 = .ok (.i2l, 1) := by decide +kernel
theorem dX12_image_2 : decode cX12_image 2 = .ok (.lconst 0, 1) := by decide +kernel
theorem dX12_image_3 : decode cX12_image 3 = .ok (.ldc2_w 474, 3) := by decide +kernel
theorem dX12_image_6 : decode cX12_image 6 = .ok (.invokestatic 115, 3) := by decide +kernel
theorem dX12_image_9 : decode cX12_image 9 = .ok (.ifCond .ne 5, 3) := by decide +kernel
theorem dX12_image_12 : decode cX12_image 12 = .ok (.iconst (-1), 1) := by decide +kernel
theorem dX12_image_13 : decode cX12_image 13 = .ok (.ireturn, 1) := by decide +kernel
theorem dX12_image_14 : decode cX12_image 14 = .ok (.aload_n 0, 1) := by decide +kernel
theorem dX12_image_15 : decode cX12_image 15 = .ok (.getfield 74, 3) := by decide +kernel
theorem dX12_image_18 : decode cX12_image 18 = .ok (.iload_n 1, 1) := by decide +kernel
theorem dX12_image_19 : decode cX12_image 19 = .ok (.iconst 1, 1) := by decide +kernel
theorem dX12_image_20 : decode cX12_image 20 = .ok (.bastore, 1) := by decide +kernel
theorem dX12_image_21 : decode cX12_image 21 = .ok (.aload_n 0, 1) := by decide +kernel
theorem dX12_image_22 : decode cX12_image 22 = .ok (.getfield 68, 3) := by decide +kernel
theorem dX12_image_25 : decode cX12_image 25 = .ok (.iload_n 1, 1) := by decide +kernel
theorem dX12_image_26 : decode cX12_image 26 = .ok (.aload_n 0, 1) := by decide +kernel
theorem dX12_image_27 : decode cX12_image 27 = .ok (.getfield 42, 3) := by decide +kernel
theorem dX12_image_30 : decode cX12_image 30 = .ok (.iastore, 1) := by decide +kernel
theorem dX12_image_31 : decode cX12_image 31 = .ok (.aload_n 0, 1) := by decide +kernel
theorem dX12_image_32 : decode cX12_image 32 = .ok (.getfield 71, 3) := by decide +kernel
theorem dX12_image_35 : decode cX12_image 35 = .ok (.iload_n 1, 1) := by decide +kernel
theorem dX12_image_36 : decode cX12_image 36 = .ok (.aload_n 0, 1) := by decide +kernel
theorem dX12_image_37 : decode cX12_image 37 = .ok (.getfield 444, 3) := by decide +kernel
theorem dX12_image_40 : decode cX12_image 40 = .ok (.iastore, 1) := by decide +kernel
theorem dX12_image_41 : decode cX12_image 41 = .ok (.iconst 0, 1) := by decide +kernel
theorem dX12_image_42 : decode cX12_image 42 = .ok (.istore_n 2, 1) := by decide +kernel
theorem dX12_image_43 : decode cX12_image 43 = .ok (.iload_n 2, 1) := by decide +kernel
theorem dX12_image_44 : decode cX12_image 44 = .ok (.bipush 110, 2) := by decide +kernel
theorem dX12_image_46 : decode cX12_image 46 = .ok (.if_icmp .ge 26, 3) := by decide +kernel
theorem dX12_image_49 : decode cX12_image 49 = .ok (.aload_n 0, 1) := by decide +kernel
theorem dX12_image_50 : decode cX12_image 50 = .ok (.getfield 65, 3) := by decide +kernel
theorem dX12_image_53 : decode cX12_image 53 = .ok (.bipush 110, 2) := by decide +kernel
theorem dX12_image_55 : decode cX12_image 55 = .ok (.iload_n 1, 1) := by decide +kernel
theorem dX12_image_56 : decode cX12_image 56 = .ok (.imul, 1) := by decide +kernel
theorem dX12_image_57 : decode cX12_image 57 = .ok (.iload_n 2, 1) := by decide +kernel
theorem dX12_image_58 : decode cX12_image 58 = .ok (.iadd, 1) := by decide +kernel
theorem dX12_image_59 : decode cX12_image 59 = .ok (.aload_n 0, 1) := by decide +kernel
theorem dX12_image_60 : decode cX12_image 60 = .ok (.getfield 39, 3) := by decide +kernel
theorem dX12_image_63 : decode cX12_image 63 = .ok (.iload_n 2, 1) := by decide +kernel
theorem dX12_image_64 : decode cX12_image 64 = .ok (.iaload, 1) := by decide +kernel
theorem dX12_image_65 : decode cX12_image 65 = .ok (.iastore, 1) := by decide +kernel
theorem dX12_image_66 : decode cX12_image 66 = .ok (.iinc 2 1, 3) := by decide +kernel
theorem dX12_image_69 : decode cX12_image 69 = .ok (.goto (-26), 3) := by decide +kernel
theorem dX12_image_72 : decode cX12_image 72 = .ok (.aload_n 0, 1) := by decide +kernel
theorem dX12_image_73 : decode cX12_image 73 = .ok (.getfield 39, 3) := by decide +kernel
theorem dX12_image_76 : decode cX12_image 76 = .ok (.bipush 10, 2) := by decide +kernel
theorem dX12_image_78 : decode cX12_image 78 = .ok (.iaload, 1) := by decide +kernel
theorem dX12_image_79 : decode cX12_image 79 = .ok (.ireturn, 1) := by decide +kernel
theorem wd_1872 : (Jvm.Cond.code ({ cls := "SilentSaleModel", name := "back", desc := "(I)I" } : Jvm.MethodName) prog_14_method_122_code (3 : Nat) (Option.some Jvm.ClassFile.FieldType.int)) ∈ tb_L := tb_in (i := 1872) (by decide +kernel) (by decide +kernel)
theorem dX12_back_0 : decode cX12_back 0 = .ok (.iload_n 1, 1) := by decide +kernel
theorem dX12_back_1 : decode cX12_back 1 = .ok (.i2l, 1) := by decide +kernel
theorem dX12_back_2 : decode cX12_back 2 = .ok (.lconst 0, 1) := by decide +kernel
theorem dX12_back_3 : decode cX12_back 3 = .ok (.ldc2_w 474, 3) := by decide +kernel
theorem dX12_back_6 : decode cX12_back 6 = .ok (.invokestatic 115, 3) := by decide +kernel
theorem dX12_back_9 : decode cX12_back 9 = .ok (.ifCond .eq 12, 3) := by decide +kernel
theorem dX12_back_12 : decode cX12_back 12 = .ok (.aload_n 0, 1) := by decide +kernel
theorem dX12_back_13 : decode cX12_back 13 = .ok (.getfield 74, 3) := by decide +kernel
theorem dX12_back_16 : decode cX12_back 16 = .ok (.iload_n 1, 1) := by decide +kernel
theorem dX12_back_17 : decode cX12_back 17 = .ok (.baload, 1) := by decide +kernel
theorem dX12_back_18 : decode cX12_back 18 = .ok (.ifCond .ne 5, 3) := by decide +kernel
theorem dX12_back_21 : decode cX12_back 21 = .ok (.iconst (-1), 1) := by decide +kernel
theorem dX12_back_22 : decode cX12_back 22 = .ok (.ireturn, 1) := by decide +kernel
set_option maxHeartbeats 4000000 in
set_option maxRecDepth 100000 in
theorem c_M_feed (l : Launch) (G : gg_T) (sz : Nat) (h0 : Nat) (am : Nat → Nat) (a : Int32) (b : Int32) (c1 : Int32) (d1 : Int32) (e1 : Int32) : Met l yX12_feed (ts_L yX12_feed cX12_feed 6 (some .int)) ({ frames := 1, cells := 0, slots := 0, locals := 22 }) (gc_P G [(h0, .inr (12, [.ref (am 0), .int 0, .int 0, .ref (am 1), .ref (am 2), .ref (am 3), .ref (am 4), .ref (am 5), .int 0, .int 0, .int 0, .int 0, .int 0, .int 0, .int 0, .ref (am 6), .int 0, .ref (am 7), .int 0, .ref (am 8), .ref (am 9), .int (-1), .int 0, .int 0, .int (-1), .int 0, .ref (am 10), .int 0, .ref (am 11), .ref (am 12), .ref (am 13), .ref (am 14), .long 0, .ref (am 15), .ref (am 16), .ref (am 17), .ref (am 18)])), ((am 0), .inl (G.2.2 2, 400, .inl (fun _ => 0)))] sz [.ref h0, .int a, .int b, .int c1, .int d1, .int e1]) (gc_I G (va_A [(h0, .inr (12, [.ref (am 0), .int 0, .int 0, .ref (am 1), .ref (am 2), .ref (am 3), .ref (am 4), .ref (am 5), .int 0, .int 0, .int 0, .int 0, .int 0, .int 0, .int 0, .ref (am 6), .int 0, .ref (am 7), .int 0, .ref (am 8), .ref (am 9), .int (-1), .int 0, .int 0, .int (-1), .int 0, .ref (am 10), .int 0, .ref (am 11), .ref (am 12), .ref (am 13), .ref (am 14), .long 0, .ref (am 15), .ref (am 16), .ref (am 17), .ref (am 18)])), ((am 0), .inl (G.2.2 2, 400, .inl (fun _ => 0)))] sz) (fun r (_ : Unit) => r = 20) (fun _ => [])) 0 0 (va_A [(h0, .inr (12, [.ref (am 0), .int 0, .int 0, .ref (am 1), .ref (am 2), .ref (am 3), .ref (am 4), .ref (am 5), .int 0, .int 0, .int 0, .int 0, .int 0, .int 0, .int 0, .ref (am 6), .int 0, .ref (am 7), .int 0, .ref (am 8), .ref (am 9), .int (-1), .int 0, .int 0, .int (-1), .int 0, .ref (am 10), .int 0, .ref (am 11), .ref (am 12), .ref (am 13), .ref (am 14), .long 0, .ref (am 15), .ref (am 16), .ref (am 17), .ref (am 18)])), ((am 0), .inl (G.2.2 2, 400, .inl (fun _ => 0)))] sz) := by
  refine Met.ofW (cc := cX12_feed) (maxL := 6) (ret := (some .int)) (by decide) rfl ?_
  intro p e s m args below meth c s₁ B hml hv
  obtain ⟨rfl, hsz, hP, hK, hD0⟩ := hv
  have hx := B.exec
  have hb := B.bytes
  have hr := B.returns
  have ht := ts_ht (atoms_spec (ws := ts_L yX12_feed cX12_feed 6 (some .int)) B.pre)
  have hown : s.vm.findClass RX12 = some m.cls := findClass_of_methodNamed B.named
  have hlocks := B.notSynchronized
  subst hsz
  have hD := hD0.self (sz := s.heap.size)
  generalize hAe : va_A [(h0, .inr (12, [.ref (am 0), .int 0, .int 0, .ref (am 1), .ref (am 2), .ref (am 3), .ref (am 4), .ref (am 5), .int 0, .int 0, .int 0, .int 0, .int 0, .int 0, .int 0, .ref (am 6), .int 0, .ref (am 7), .int 0, .ref (am 8), .ref (am 9), .int (-1), .int 0, .int 0, .int (-1), .int 0, .ref (am 10), .int 0, .ref (am 11), .ref (am 12), .ref (am 13), .ref (am 14), .long 0, .ref (am 15), .ref (am 16), .ref (am 17), .ref (am 18)])), ((am 0), .inl (G.2.2 2, 400, .inl (fun _ => 0)))] s.heap.size = A at hD ⊢
  have hA : ∀ q : Nat, s.heap.size ≤ q → A q := fun q h => by rw [← hAe]; exact Or.inr h
  have hS : va_S A s.heap s.heap [] := va_S.rf
  have hl := lv_entry ([.ref h0, .int a, .int b, .int c1, .int d1, .int e1]) (n := 6) (Nat.le_of_ble_eq_true rfl)
  rw [lg_entry_eq]
  generalize (lg_sl ([.ref h0, .int a, .int b, .int c1, .int d1, .int e1]) ++ List.replicate (6 - (lg_sl ([.ref h0, .int a, .int b, .int c1, .int d1, .int e1])).length) Slot.unset).toArray = ls at hl ⊢
  have hl : lv_has ls 6 [(0, .ref h0), (1, .int a), (2, .int b), (3, .int c1), (4, .int d1), (5, .int e1)] := hl
  refine lv_aload_n hx hb dX12_feed_0 rfl (lv_at hl 0 rfl) ?_
  refine gq_get hx hb ht hown hK hP i_X12 0 rfl rfl 1 (by decide) wd_1253 rfl rfl dX12_feed_1 ?_
  refine lv_bipush (v := 20) hx hb dX12_feed_4 (by decide +kernel) ?_
  refine gq_iadd hx hb 20 (by decide +kernel) dX12_feed_6 ?_
  refine lv_sipush (v := 400) hx hb dX12_feed_7 (by decide +kernel) ?_
  refine lv_icmp_le (tgt := 15) hx hb dX12_feed_10 (by decide) (fun _ => ?_) (fun c0 => absurd (by decide +kernel) c0)
  refine lv_aload_n hx hb dX12_feed_15 rfl (lv_at hl 0 rfl) ?_
  refine lv_iload_n hx hb dX12_feed_16 rfl (lv_at hl 1 rfl) ?_
  have hPc := hP.sub (ws' := [(h0, .inr (12, [.ref (am 0), .int 0, .int 0, .ref (am 1), .ref (am 2), .ref (am 3), .ref (am 4), .ref (am 5), .int 0, .int 0, .int 0, .int 0, .int 0, .int 0, .int 0, .ref (am 6), .int 0, .ref (am 7), .int 0, .ref (am 8), .ref (am 9), .int (-1), .int 0, .int 0, .int (-1), .int 0, .ref (am 10), .int 0, .ref (am 11), .ref (am 12), .ref (am 13), .ref (am 14), .long 0, .ref (am 15), .ref (am 16), .ref (am 17), .ref (am 18)])), ((am 0), .inl (G.2.2 2, 400, .inl (fun _ => 0)))]) [0, 1] rfl
  have hDc := hD.sub (ws' := [(h0, .inr (12, [.ref (am 0), .int 0, .int 0, .ref (am 1), .ref (am 2), .ref (am 3), .ref (am 4), .ref (am 5), .int 0, .int 0, .int 0, .int 0, .int 0, .int 0, .int 0, .ref (am 6), .int 0, .ref (am 7), .int 0, .ref (am 8), .ref (am 9), .int (-1), .int 0, .int 0, .int (-1), .int 0, .ref (am 10), .int 0, .ref (am 11), .ref (am 12), .ref (am 13), .ref (am 14), .long 0, .ref (am 15), .ref (am 16), .ref (am 17), .ref (am 18)])), ((am 0), .inl (G.2.2 2, 400, .inl (fun _ => 0)))]) [0, 1] (by decide) rfl
  refine gq_callV (wr := []) (va_runV (As := [.int a]) (rest := []) ⟨hx, hb, hml, hown, ht⟩ (c_M_four0 l G s.heap.size h0 am a (fun _ => 0)) (cwV 1 ht (ts_gV wd_1369 wd_1371 wd_38 wd_134 wd_1372) rfl rfl rfl (by decide +kernel) ⟨Nat.le_of_ble_eq_true rfl, Nat.le_of_ble_eq_true rfl⟩) (gc_preV (ci := 12) (q0 := 0) hK hPc hDc rfl rfl) rfl rfl hl.1 rfl (lv_room (Nat.le_of_ble_eq_true rfl)) dX12_feed_17 ⟨Nat.le_of_ble_eq_true rfl, Nat.le_of_ble_eq_true rfl⟩) hP hD hS hA [0, 1] [] rfl rfl (by decide) (by decide) (fun u H locs hw hP hD hS => ?_)
  obtain ⟨u_1, rfl⟩ : ∃ z, z = u := ⟨_, rfl⟩
  have hP : va_P (gg_D G) classes [(h0, .inr (12, [.ref (am 0), .int 4, .int 0, .ref (am 1), .ref (am 2), .ref (am 3), .ref (am 4), .ref (am 5), .int 0, .int 0, .int 0, .int 0, .int 0, .int 0, .int 0, .ref (am 6), .int 0, .ref (am 7), .int 0, .ref (am 8), .ref (am 9), .int (-1), .int 0, .int 0, .int (-1), .int 0, .ref (am 10), .int 0, .ref (am 11), .ref (am 12), .ref (am 13), .ref (am 14), .long 0, .ref (am 15), .ref (am 16), .ref (am 17), .ref (am 18)])), ((am 0), .inl (G.2.2 2, 400, .inl u_1))] H := hP
  have hD : va_D A [(h0, .inr (12, [.ref (am 0), .int 4, .int 0, .ref (am 1), .ref (am 2), .ref (am 3), .ref (am 4), .ref (am 5), .int 0, .int 0, .int 0, .int 0, .int 0, .int 0, .int 0, .ref (am 6), .int 0, .ref (am 7), .int 0, .ref (am 8), .ref (am 9), .int (-1), .int 0, .int 0, .int (-1), .int 0, .ref (am 10), .int 0, .ref (am 11), .ref (am 12), .ref (am 13), .ref (am 14), .long 0, .ref (am 15), .ref (am 16), .ref (am 17), .ref (am 18)])), ((am 0), .inl (G.2.2 2, 400, .inl u_1))] := hD
  refine lv_aload_n hx hb dX12_feed_20 rfl (lv_at hl 0 rfl) ?_
  refine lv_iload_n hx hb dX12_feed_21 rfl (lv_at hl 2 rfl) ?_
  have hPc := hP.sub (ws' := [(h0, .inr (12, [.ref (am 0), .int 4, .int 0, .ref (am 1), .ref (am 2), .ref (am 3), .ref (am 4), .ref (am 5), .int 0, .int 0, .int 0, .int 0, .int 0, .int 0, .int 0, .ref (am 6), .int 0, .ref (am 7), .int 0, .ref (am 8), .ref (am 9), .int (-1), .int 0, .int 0, .int (-1), .int 0, .ref (am 10), .int 0, .ref (am 11), .ref (am 12), .ref (am 13), .ref (am 14), .long 0, .ref (am 15), .ref (am 16), .ref (am 17), .ref (am 18)])), ((am 0), .inl (G.2.2 2, 400, .inl u_1))]) [0, 1] rfl
  have hDc := hD.sub (ws' := [(h0, .inr (12, [.ref (am 0), .int 4, .int 0, .ref (am 1), .ref (am 2), .ref (am 3), .ref (am 4), .ref (am 5), .int 0, .int 0, .int 0, .int 0, .int 0, .int 0, .int 0, .ref (am 6), .int 0, .ref (am 7), .int 0, .ref (am 8), .ref (am 9), .int (-1), .int 0, .int 0, .int (-1), .int 0, .ref (am 10), .int 0, .ref (am 11), .ref (am 12), .ref (am 13), .ref (am 14), .long 0, .ref (am 15), .ref (am 16), .ref (am 17), .ref (am 18)])), ((am 0), .inl (G.2.2 2, 400, .inl u_1))]) [0, 1] (by decide) rfl
  refine gq_callV (wr := []) (va_runV (As := [.int b]) (rest := []) ⟨hx, hb, hml, hown, ht⟩ (c_M_four4 l G H.size h0 am b u_1) (cwV 1 ht (ts_gV wd_1369 wd_1371 wd_38 wd_134 wd_1372) rfl rfl rfl (by decide +kernel) ⟨Nat.le_of_ble_eq_true rfl, Nat.le_of_ble_eq_true rfl⟩) (gc_preV (ci := 12) (q0 := 0) hK hPc hDc rfl rfl) rfl rfl hl.1 rfl (lv_room (Nat.le_of_ble_eq_true rfl)) dX12_feed_22 ⟨Nat.le_of_ble_eq_true rfl, Nat.le_of_ble_eq_true rfl⟩) hP hD hS hA [0, 1] [] rfl rfl (by decide) (by decide) (fun u H locs hw hP hD hS => ?_)
  obtain ⟨u_2, rfl⟩ : ∃ z, z = u := ⟨_, rfl⟩
  have hP : va_P (gg_D G) classes [(h0, .inr (12, [.ref (am 0), .int 8, .int 0, .ref (am 1), .ref (am 2), .ref (am 3), .ref (am 4), .ref (am 5), .int 0, .int 0, .int 0, .int 0, .int 0, .int 0, .int 0, .ref (am 6), .int 0, .ref (am 7), .int 0, .ref (am 8), .ref (am 9), .int (-1), .int 0, .int 0, .int (-1), .int 0, .ref (am 10), .int 0, .ref (am 11), .ref (am 12), .ref (am 13), .ref (am 14), .long 0, .ref (am 15), .ref (am 16), .ref (am 17), .ref (am 18)])), ((am 0), .inl (G.2.2 2, 400, .inl u_2))] H := hP
  have hD : va_D A [(h0, .inr (12, [.ref (am 0), .int 8, .int 0, .ref (am 1), .ref (am 2), .ref (am 3), .ref (am 4), .ref (am 5), .int 0, .int 0, .int 0, .int 0, .int 0, .int 0, .int 0, .ref (am 6), .int 0, .ref (am 7), .int 0, .ref (am 8), .ref (am 9), .int (-1), .int 0, .int 0, .int (-1), .int 0, .ref (am 10), .int 0, .ref (am 11), .ref (am 12), .ref (am 13), .ref (am 14), .long 0, .ref (am 15), .ref (am 16), .ref (am 17), .ref (am 18)])), ((am 0), .inl (G.2.2 2, 400, .inl u_2))] := hD
  refine lv_aload_n hx hb dX12_feed_25 rfl (lv_at hl 0 rfl) ?_
  refine lv_iload_n hx hb dX12_feed_26 rfl (lv_at hl 3 rfl) ?_
  have hPc := hP.sub (ws' := [(h0, .inr (12, [.ref (am 0), .int 8, .int 0, .ref (am 1), .ref (am 2), .ref (am 3), .ref (am 4), .ref (am 5), .int 0, .int 0, .int 0, .int 0, .int 0, .int 0, .int 0, .ref (am 6), .int 0, .ref (am 7), .int 0, .ref (am 8), .ref (am 9), .int (-1), .int 0, .int 0, .int (-1), .int 0, .ref (am 10), .int 0, .ref (am 11), .ref (am 12), .ref (am 13), .ref (am 14), .long 0, .ref (am 15), .ref (am 16), .ref (am 17), .ref (am 18)])), ((am 0), .inl (G.2.2 2, 400, .inl u_2))]) [0, 1] rfl
  have hDc := hD.sub (ws' := [(h0, .inr (12, [.ref (am 0), .int 8, .int 0, .ref (am 1), .ref (am 2), .ref (am 3), .ref (am 4), .ref (am 5), .int 0, .int 0, .int 0, .int 0, .int 0, .int 0, .int 0, .ref (am 6), .int 0, .ref (am 7), .int 0, .ref (am 8), .ref (am 9), .int (-1), .int 0, .int 0, .int (-1), .int 0, .ref (am 10), .int 0, .ref (am 11), .ref (am 12), .ref (am 13), .ref (am 14), .long 0, .ref (am 15), .ref (am 16), .ref (am 17), .ref (am 18)])), ((am 0), .inl (G.2.2 2, 400, .inl u_2))]) [0, 1] (by decide) rfl
  refine gq_callV (wr := []) (va_runV (As := [.int c1]) (rest := []) ⟨hx, hb, hml, hown, ht⟩ (c_M_four8 l G H.size h0 am c1 u_2) (cwV 1 ht (ts_gV wd_1369 wd_1371 wd_38 wd_134 wd_1372) rfl rfl rfl (by decide +kernel) ⟨Nat.le_of_ble_eq_true rfl, Nat.le_of_ble_eq_true rfl⟩) (gc_preV (ci := 12) (q0 := 0) hK hPc hDc rfl rfl) rfl rfl hl.1 rfl (lv_room (Nat.le_of_ble_eq_true rfl)) dX12_feed_27 ⟨Nat.le_of_ble_eq_true rfl, Nat.le_of_ble_eq_true rfl⟩) hP hD hS hA [0, 1] [] rfl rfl (by decide) (by decide) (fun u H locs hw hP hD hS => ?_)
  obtain ⟨u_3, rfl⟩ : ∃ z, z = u := ⟨_, rfl⟩
  have hP : va_P (gg_D G) classes [(h0, .inr (12, [.ref (am 0), .int 12, .int 0, .ref (am 1), .ref (am 2), .ref (am 3), .ref (am 4), .ref (am 5), .int 0, .int 0, .int 0, .int 0, .int 0, .int 0, .int 0, .ref (am 6), .int 0, .ref (am 7), .int 0, .ref (am 8), .ref (am 9), .int (-1), .int 0, .int 0, .int (-1), .int 0, .ref (am 10), .int 0, .ref (am 11), .ref (am 12), .ref (am 13), .ref (am 14), .long 0, .ref (am 15), .ref (am 16), .ref (am 17), .ref (am 18)])), ((am 0), .inl (G.2.2 2, 400, .inl u_3))] H := hP
  have hD : va_D A [(h0, .inr (12, [.ref (am 0), .int 12, .int 0, .ref (am 1), .ref (am 2), .ref (am 3), .ref (am 4), .ref (am 5), .int 0, .int 0, .int 0, .int 0, .int 0, .int 0, .int 0, .ref (am 6), .int 0, .ref (am 7), .int 0, .ref (am 8), .ref (am 9), .int (-1), .int 0, .int 0, .int (-1), .int 0, .ref (am 10), .int 0, .ref (am 11), .ref (am 12), .ref (am 13), .ref (am 14), .long 0, .ref (am 15), .ref (am 16), .ref (am 17), .ref (am 18)])), ((am 0), .inl (G.2.2 2, 400, .inl u_3))] := hD
  refine lv_aload_n hx hb dX12_feed_30 rfl (lv_at hl 0 rfl) ?_
  refine lv_iload hx hb dX12_feed_31 (lv_at hl 4 rfl) ?_
  have hPc := hP.sub (ws' := [(h0, .inr (12, [.ref (am 0), .int 12, .int 0, .ref (am 1), .ref (am 2), .ref (am 3), .ref (am 4), .ref (am 5), .int 0, .int 0, .int 0, .int 0, .int 0, .int 0, .int 0, .ref (am 6), .int 0, .ref (am 7), .int 0, .ref (am 8), .ref (am 9), .int (-1), .int 0, .int 0, .int (-1), .int 0, .ref (am 10), .int 0, .ref (am 11), .ref (am 12), .ref (am 13), .ref (am 14), .long 0, .ref (am 15), .ref (am 16), .ref (am 17), .ref (am 18)])), ((am 0), .inl (G.2.2 2, 400, .inl u_3))]) [0, 1] rfl
  have hDc := hD.sub (ws' := [(h0, .inr (12, [.ref (am 0), .int 12, .int 0, .ref (am 1), .ref (am 2), .ref (am 3), .ref (am 4), .ref (am 5), .int 0, .int 0, .int 0, .int 0, .int 0, .int 0, .int 0, .ref (am 6), .int 0, .ref (am 7), .int 0, .ref (am 8), .ref (am 9), .int (-1), .int 0, .int 0, .int (-1), .int 0, .ref (am 10), .int 0, .ref (am 11), .ref (am 12), .ref (am 13), .ref (am 14), .long 0, .ref (am 15), .ref (am 16), .ref (am 17), .ref (am 18)])), ((am 0), .inl (G.2.2 2, 400, .inl u_3))]) [0, 1] (by decide) rfl
  refine gq_callV (wr := []) (va_runV (As := [.int d1]) (rest := []) ⟨hx, hb, hml, hown, ht⟩ (c_M_four12 l G H.size h0 am d1 u_3) (cwV 1 ht (ts_gV wd_1369 wd_1371 wd_38 wd_134 wd_1372) rfl rfl rfl (by decide +kernel) ⟨Nat.le_of_ble_eq_true rfl, Nat.le_of_ble_eq_true rfl⟩) (gc_preV (ci := 12) (q0 := 0) hK hPc hDc rfl rfl) rfl rfl hl.1 rfl (lv_room (Nat.le_of_ble_eq_true rfl)) dX12_feed_33 ⟨Nat.le_of_ble_eq_true rfl, Nat.le_of_ble_eq_true rfl⟩) hP hD hS hA [0, 1] [] rfl rfl (by decide) (by decide) (fun u H locs hw hP hD hS => ?_)
  obtain ⟨u_4, rfl⟩ : ∃ z, z = u := ⟨_, rfl⟩
  have hP : va_P (gg_D G) classes [(h0, .inr (12, [.ref (am 0), .int 16, .int 0, .ref (am 1), .ref (am 2), .ref (am 3), .ref (am 4), .ref (am 5), .int 0, .int 0, .int 0, .int 0, .int 0, .int 0, .int 0, .ref (am 6), .int 0, .ref (am 7), .int 0, .ref (am 8), .ref (am 9), .int (-1), .int 0, .int 0, .int (-1), .int 0, .ref (am 10), .int 0, .ref (am 11), .ref (am 12), .ref (am 13), .ref (am 14), .long 0, .ref (am 15), .ref (am 16), .ref (am 17), .ref (am 18)])), ((am 0), .inl (G.2.2 2, 400, .inl u_4))] H := hP
  have hD : va_D A [(h0, .inr (12, [.ref (am 0), .int 16, .int 0, .ref (am 1), .ref (am 2), .ref (am 3), .ref (am 4), .ref (am 5), .int 0, .int 0, .int 0, .int 0, .int 0, .int 0, .int 0, .ref (am 6), .int 0, .ref (am 7), .int 0, .ref (am 8), .ref (am 9), .int (-1), .int 0, .int 0, .int (-1), .int 0, .ref (am 10), .int 0, .ref (am 11), .ref (am 12), .ref (am 13), .ref (am 14), .long 0, .ref (am 15), .ref (am 16), .ref (am 17), .ref (am 18)])), ((am 0), .inl (G.2.2 2, 400, .inl u_4))] := hD
  refine lv_aload_n hx hb dX12_feed_36 rfl (lv_at hl 0 rfl) ?_
  refine lv_iload hx hb dX12_feed_37 (lv_at hl 5 rfl) ?_
  have hPc := hP.sub (ws' := [(h0, .inr (12, [.ref (am 0), .int 16, .int 0, .ref (am 1), .ref (am 2), .ref (am 3), .ref (am 4), .ref (am 5), .int 0, .int 0, .int 0, .int 0, .int 0, .int 0, .int 0, .ref (am 6), .int 0, .ref (am 7), .int 0, .ref (am 8), .ref (am 9), .int (-1), .int 0, .int 0, .int (-1), .int 0, .ref (am 10), .int 0, .ref (am 11), .ref (am 12), .ref (am 13), .ref (am 14), .long 0, .ref (am 15), .ref (am 16), .ref (am 17), .ref (am 18)])), ((am 0), .inl (G.2.2 2, 400, .inl u_4))]) [0, 1] rfl
  have hDc := hD.sub (ws' := [(h0, .inr (12, [.ref (am 0), .int 16, .int 0, .ref (am 1), .ref (am 2), .ref (am 3), .ref (am 4), .ref (am 5), .int 0, .int 0, .int 0, .int 0, .int 0, .int 0, .int 0, .ref (am 6), .int 0, .ref (am 7), .int 0, .ref (am 8), .ref (am 9), .int (-1), .int 0, .int 0, .int (-1), .int 0, .ref (am 10), .int 0, .ref (am 11), .ref (am 12), .ref (am 13), .ref (am 14), .long 0, .ref (am 15), .ref (am 16), .ref (am 17), .ref (am 18)])), ((am 0), .inl (G.2.2 2, 400, .inl u_4))]) [0, 1] (by decide) rfl
  refine gq_callV (wr := []) (va_runV (As := [.int e1]) (rest := []) ⟨hx, hb, hml, hown, ht⟩ (c_M_four16 l G H.size h0 am e1 u_4) (cwV 1 ht (ts_gV wd_1369 wd_1371 wd_38 wd_134 wd_1372) rfl rfl rfl (by decide +kernel) ⟨Nat.le_of_ble_eq_true rfl, Nat.le_of_ble_eq_true rfl⟩) (gc_preV (ci := 12) (q0 := 0) hK hPc hDc rfl rfl) rfl rfl hl.1 rfl (lv_room (Nat.le_of_ble_eq_true rfl)) dX12_feed_39 ⟨Nat.le_of_ble_eq_true rfl, Nat.le_of_ble_eq_true rfl⟩) hP hD hS hA [0, 1] [] rfl rfl (by decide) (by decide) (fun u H locs hw hP hD hS => ?_)
  obtain ⟨u_5, rfl⟩ : ∃ z, z = u := ⟨_, rfl⟩
  have hP : va_P (gg_D G) classes [(h0, .inr (12, [.ref (am 0), .int 20, .int 0, .ref (am 1), .ref (am 2), .ref (am 3), .ref (am 4), .ref (am 5), .int 0, .int 0, .int 0, .int 0, .int 0, .int 0, .int 0, .ref (am 6), .int 0, .ref (am 7), .int 0, .ref (am 8), .ref (am 9), .int (-1), .int 0, .int 0, .int (-1), .int 0, .ref (am 10), .int 0, .ref (am 11), .ref (am 12), .ref (am 13), .ref (am 14), .long 0, .ref (am 15), .ref (am 16), .ref (am 17), .ref (am 18)])), ((am 0), .inl (G.2.2 2, 400, .inl u_5))] H := hP
  have hD : va_D A [(h0, .inr (12, [.ref (am 0), .int 20, .int 0, .ref (am 1), .ref (am 2), .ref (am 3), .ref (am 4), .ref (am 5), .int 0, .int 0, .int 0, .int 0, .int 0, .int 0, .int 0, .ref (am 6), .int 0, .ref (am 7), .int 0, .ref (am 8), .ref (am 9), .int (-1), .int 0, .int 0, .int (-1), .int 0, .ref (am 10), .int 0, .ref (am 11), .ref (am 12), .ref (am 13), .ref (am 14), .long 0, .ref (am 15), .ref (am 16), .ref (am 17), .ref (am 18)])), ((am 0), .inl (G.2.2 2, 400, .inl u_5))] := hD
  refine lv_aload_n hx hb dX12_feed_42 rfl (lv_at hl 0 rfl) ?_
  refine gq_get hx hb ht hown hK hP i_X12 0 rfl rfl 1 (by decide) wd_1253 rfl rfl dX12_feed_43 ?_
  have hP9 := hP.sub (ws' := []) [] rfl
  have hD9 := hD.sub (ws' := []) [] (by decide) rfl
  exact W.iret (v := 20) hx hb hr (gq_endI () rfl hP9 hD9 hS) hS.2.2 dX12_feed_46
set_option maxHeartbeats 4000000 in
set_option maxRecDepth 100000 in
theorem c_M_end (l : Launch) (G : gg_T) (sz : Nat) (h0 : Nat) (am : Nat → Nat) (n : Int32) : Met l yX12_end (ts_L yX12_end cX12_end 2 (some .int)) ({ frames := 0, cells := 0, slots := 0, locals := 0 }) (gc_P G [(h0, .inr (12, [.ref (am 0), .int 0, .int 0, .ref (am 1), .ref (am 2), .ref (am 3), .ref (am 4), .ref (am 5), .int 0, .int 0, .int 0, .int 0, .int 0, .int 0, .int 0, .ref (am 6), .int 0, .ref (am 7), .int 0, .ref (am 8), .ref (am 9), .int (-1), .int 0, .int 0, .int (-1), .int 0, .ref (am 10), .int 0, .ref (am 11), .ref (am 12), .ref (am 13), .ref (am 14), .long 0, .ref (am 15), .ref (am 16), .ref (am 17), .ref (am 18)]))] sz [.ref h0, .int n]) (gc_I G (va_A [(h0, .inr (12, [.ref (am 0), .int 0, .int 0, .ref (am 1), .ref (am 2), .ref (am 3), .ref (am 4), .ref (am 5), .int 0, .int 0, .int 0, .int 0, .int 0, .int 0, .int 0, .ref (am 6), .int 0, .ref (am 7), .int 0, .ref (am 8), .ref (am 9), .int (-1), .int 0, .int 0, .int (-1), .int 0, .ref (am 10), .int 0, .ref (am 11), .ref (am 12), .ref (am 13), .ref (am 14), .long 0, .ref (am 15), .ref (am 16), .ref (am 17), .ref (am 18)]))] sz) (fun r (_ : Unit) => r = (if n = 0 then 0 else -1)) (fun _ => [])) 0 0 (va_A [(h0, .inr (12, [.ref (am 0), .int 0, .int 0, .ref (am 1), .ref (am 2), .ref (am 3), .ref (am 4), .ref (am 5), .int 0, .int 0, .int 0, .int 0, .int 0, .int 0, .int 0, .ref (am 6), .int 0, .ref (am 7), .int 0, .ref (am 8), .ref (am 9), .int (-1), .int 0, .int 0, .int (-1), .int 0, .ref (am 10), .int 0, .ref (am 11), .ref (am 12), .ref (am 13), .ref (am 14), .long 0, .ref (am 15), .ref (am 16), .ref (am 17), .ref (am 18)]))] sz) := by
  refine Met.ofW (cc := cX12_end) (maxL := 2) (ret := (some .int)) (by decide) rfl ?_
  intro p e s m args below meth c s₁ B hml hv
  obtain ⟨rfl, hsz, hP, hK, hD0⟩ := hv
  have hx := B.exec
  have hb := B.bytes
  have hr := B.returns
  have ht := ts_ht (atoms_spec (ws := ts_L yX12_end cX12_end 2 (some .int)) B.pre)
  have hown : s.vm.findClass RX12 = some m.cls := findClass_of_methodNamed B.named
  have hlocks := B.notSynchronized
  subst hsz
  have hD := hD0.self (sz := s.heap.size)
  generalize hAe : va_A [(h0, .inr (12, [.ref (am 0), .int 0, .int 0, .ref (am 1), .ref (am 2), .ref (am 3), .ref (am 4), .ref (am 5), .int 0, .int 0, .int 0, .int 0, .int 0, .int 0, .int 0, .ref (am 6), .int 0, .ref (am 7), .int 0, .ref (am 8), .ref (am 9), .int (-1), .int 0, .int 0, .int (-1), .int 0, .ref (am 10), .int 0, .ref (am 11), .ref (am 12), .ref (am 13), .ref (am 14), .long 0, .ref (am 15), .ref (am 16), .ref (am 17), .ref (am 18)]))] s.heap.size = A at hD ⊢
  have hA : ∀ q : Nat, s.heap.size ≤ q → A q := fun q h => by rw [← hAe]; exact Or.inr h
  have hS : va_S A s.heap s.heap [] := va_S.rf
  have hl := lv_entry ([.ref h0, .int n]) (n := 2) (Nat.le_of_ble_eq_true rfl)
  rw [lg_entry_eq]
  generalize (lg_sl ([.ref h0, .int n]) ++ List.replicate (2 - (lg_sl ([.ref h0, .int n])).length) Slot.unset).toArray = ls at hl ⊢
  have hl : lv_has ls 2 [(0, .ref h0), (1, .int n)] := hl
  by_cases c_1 : n = 0
  · subst c_1
    refine lv_iload_n hx hb dX12_end_0 rfl (lv_at hl 1 rfl) ?_
    refine lv_if_lt (tgt := 12) hx hb dX12_end_1 (by decide) (fun c0 => absurd c0 (by decide +kernel)) (fun _ => ?_)
    refine lv_iload_n hx hb dX12_end_4 rfl (lv_at hl 1 rfl) ?_
    refine lv_aload_n hx hb dX12_end_5 rfl (lv_at hl 0 rfl) ?_
    refine gq_get hx hb ht hown hK hP i_X12 0 rfl rfl 1 (by decide) wd_1253 rfl rfl dX12_end_6 ?_
    refine lv_icmp_le (tgt := 14) hx hb dX12_end_9 (by decide) (fun _ => ?_) (fun c0 => absurd (by decide +kernel) c0)
    refine lv_aload_n hx hb dX12_end_14 rfl (lv_at hl 0 rfl) ?_
    refine lv_iload_n hx hb dX12_end_15 rfl (lv_at hl 1 rfl) ?_
    refine gq_put (ws' := [(h0, .inr (12, [.ref (am 0), .int 0, .int 0, .ref (am 1), .ref (am 2), .ref (am 3), .ref (am 4), .ref (am 5), .int 0, .int 0, .int 0, .int 0, .int 0, .int 0, .int 0, .ref (am 6), .int 0, .ref (am 7), .int 0, .ref (am 8), .ref (am 9), .int (-1), .int 0, .int 0, .int (-1), .int 0, .ref (am 10), .int 0, .ref (am 11), .ref (am 12), .ref (am 13), .ref (am 14), .long 0, .ref (am 15), .ref (am 16), .ref (am 17), .ref (am 18)]))]) hx hb ht hown hK hP hD hS i_X12 tyX12 tyX12_ok nmX12 0 rfl rfl 1 (by decide) wd_1253 rfl rfl rfl rfl (Nat.le_of_ble_eq_true rfl) rfl dX12_end_16 (fun H locs hP hD hS => ?_)
    refine lv_iload_n hx hb dX12_end_19 rfl (lv_at hl 1 rfl) ?_
    have hP9 := hP.sub (ws' := []) [] rfl
    have hD9 := hD.sub (ws' := []) [] (by decide) rfl
    exact W.iret (v := 0) hx hb hr (gq_endI () (by decide +kernel) hP9 hD9 hS) hS.2.2 dX12_end_20
  · refine lv_iload_n hx hb dX12_end_0 rfl (lv_at hl 1 rfl) ?_
    refine lv_if_lt (tgt := 12) hx hb dX12_end_1 (by decide) (fun c_2 => ?_) (fun c_2 => ?_)
    · refine lv_iconst (v := (-1)) hx hb dX12_end_12 (by decide) ?_
      have hP9 := hP.sub (ws' := []) [] rfl
      have hD9 := hD.sub (ws' := []) [] (by decide) rfl
      exact W.iret (v := (-1)) hx hb hr (gq_endI () (if_neg c_1).symm hP9 hD9 hS) hS.2.2 dX12_end_13
    · refine lv_iload_n hx hb dX12_end_4 rfl (lv_at hl 1 rfl) ?_
      refine lv_aload_n hx hb dX12_end_5 rfl (lv_at hl 0 rfl) ?_
      refine gq_get hx hb ht hown hK hP i_X12 0 rfl rfl 1 (by decide) wd_1253 rfl rfl dX12_end_6 ?_
      refine lv_icmp_le (tgt := 14) hx hb dX12_end_9 (by decide) (fun c0 => False.elim (by have k0 : (0 : Int32).toInt = 0 := (by decide +kernel); simp only [Int32.lt_iff_toInt_lt, Int32.le_iff_toInt_le, ← Int32.toInt_inj] at c_1 c_2 c0; omega)) (fun _ => ?_)
      refine lv_iconst (v := (-1)) hx hb dX12_end_12 (by decide) ?_
      have hP9 := hP.sub (ws' := []) [] rfl
      have hD9 := hD.sub (ws' := []) [] (by decide) rfl
      exact W.iret (v := (-1)) hx hb hr (gq_endI () (if_neg c_1).symm hP9 hD9 hS) hS.2.2 dX12_end_13
set_option maxHeartbeats 4000000 in
set_option maxRecDepth 100000 in
theorem c_M_sale (l : Launch) (G : gg_T) (sz : Nat) (h0 : Nat) (am : Nat → Nat) : Met l yX12_sale (ts_L yX12_sale cX12_sale 2 (some .int)) ({ frames := 5, cells := 0, slots := 0, locals := 109 }) (gc_P G [(h0, .inr (12, [.ref (am 0), .int 0, .int 0, .ref (am 1), .ref (am 2), .ref (am 3), .ref (am 4), .ref (am 5), .int 0, .int 0, .int 0, .int 0, .int 0, .int 0, .int 0, .ref (am 6), .int 0, .ref (am 7), .int 0, .ref (am 8), .ref (am 9), .int (-1), .int 0, .int 0, .int (-1), .int 0, .ref (am 10), .int 0, .ref (am 11), .ref (am 12), .ref (am 13), .ref (am 14), .long 0, .ref (am 15), .ref (am 16), .ref (am 17), .ref (am 18)])), ((am 5), .inl (G.2.2 0, 79, .inl (fun _ => 0))), ((am 2), .inl (G.2.2 0, 7, .inl (fun _ => 0)))] sz [.ref h0]) (gc_I G (va_A [(h0, .inr (12, [.ref (am 0), .int 0, .int 0, .ref (am 1), .ref (am 2), .ref (am 3), .ref (am 4), .ref (am 5), .int 0, .int 0, .int 0, .int 0, .int 0, .int 0, .int 0, .ref (am 6), .int 0, .ref (am 7), .int 0, .ref (am 8), .ref (am 9), .int (-1), .int 0, .int 0, .int (-1), .int 0, .ref (am 10), .int 0, .ref (am 11), .ref (am 12), .ref (am 13), .ref (am 14), .long 0, .ref (am 15), .ref (am 16), .ref (am 17), .ref (am 18)])), ((am 5), .inl (G.2.2 0, 79, .inl (fun _ => 0))), ((am 2), .inl (G.2.2 0, 7, .inl (fun _ => 0)))] sz) (fun r (_ : Unit) => r = (-3)) (fun _ => [])) 0 0 (va_A [(h0, .inr (12, [.ref (am 0), .int 0, .int 0, .ref (am 1), .ref (am 2), .ref (am 3), .ref (am 4), .ref (am 5), .int 0, .int 0, .int 0, .int 0, .int 0, .int 0, .int 0, .ref (am 6), .int 0, .ref (am 7), .int 0, .ref (am 8), .ref (am 9), .int (-1), .int 0, .int 0, .int (-1), .int 0, .ref (am 10), .int 0, .ref (am 11), .ref (am 12), .ref (am 13), .ref (am 14), .long 0, .ref (am 15), .ref (am 16), .ref (am 17), .ref (am 18)])), ((am 5), .inl (G.2.2 0, 79, .inl (fun _ => 0))), ((am 2), .inl (G.2.2 0, 7, .inl (fun _ => 0)))] sz) := by
  refine Met.ofW (cc := cX12_sale) (maxL := 2) (ret := (some .int)) (by decide) rfl ?_
  intro p e s m args below meth c s₁ B hml hv
  obtain ⟨rfl, hsz, hP, hK, hD0⟩ := hv
  have hx := B.exec
  have hb := B.bytes
  have hr := B.returns
  have ht := ts_ht (atoms_spec (ws := ts_L yX12_sale cX12_sale 2 (some .int)) B.pre)
  have hown : s.vm.findClass RX12 = some m.cls := findClass_of_methodNamed B.named
  have hlocks := B.notSynchronized
  subst hsz
  have hD := hD0.self (sz := s.heap.size)
  generalize hAe : va_A [(h0, .inr (12, [.ref (am 0), .int 0, .int 0, .ref (am 1), .ref (am 2), .ref (am 3), .ref (am 4), .ref (am 5), .int 0, .int 0, .int 0, .int 0, .int 0, .int 0, .int 0, .ref (am 6), .int 0, .ref (am 7), .int 0, .ref (am 8), .ref (am 9), .int (-1), .int 0, .int 0, .int (-1), .int 0, .ref (am 10), .int 0, .ref (am 11), .ref (am 12), .ref (am 13), .ref (am 14), .long 0, .ref (am 15), .ref (am 16), .ref (am 17), .ref (am 18)])), ((am 5), .inl (G.2.2 0, 79, .inl (fun _ => 0))), ((am 2), .inl (G.2.2 0, 7, .inl (fun _ => 0)))] s.heap.size = A at hD ⊢
  have hA : ∀ q : Nat, s.heap.size ≤ q → A q := fun q h => by rw [← hAe]; exact Or.inr h
  have hS : va_S A s.heap s.heap [] := va_S.rf
  have hl := lv_entry ([.ref h0]) (n := 2) (Nat.le_of_ble_eq_true rfl)
  rw [lg_entry_eq]
  generalize (lg_sl ([.ref h0]) ++ List.replicate (2 - (lg_sl ([.ref h0])).length) Slot.unset).toArray = ls at hl ⊢
  have hl : lv_has ls 2 [(0, .ref h0)] := hl
  refine lv_aload_n hx hb dX12_sale_0 rfl (lv_at hl 0 rfl) ?_
  refine lv_bipush (v := 6) hx hb dX12_sale_1 (by decide +kernel) ?_
  refine gq_put (ws' := [(h0, .inr (12, [.ref (am 0), .int 0, .int 0, .ref (am 1), .ref (am 2), .ref (am 3), .ref (am 4), .ref (am 5), .int 0, .int 0, .int 0, .int 6, .int 0, .int 0, .int 0, .ref (am 6), .int 0, .ref (am 7), .int 0, .ref (am 8), .ref (am 9), .int (-1), .int 0, .int 0, .int (-1), .int 0, .ref (am 10), .int 0, .ref (am 11), .ref (am 12), .ref (am 13), .ref (am 14), .long 0, .ref (am 15), .ref (am 16), .ref (am 17), .ref (am 18)])), ((am 5), .inl (G.2.2 0, 79, .inl (fun _ => 0))), ((am 2), .inl (G.2.2 0, 7, .inl (fun _ => 0)))]) hx hb ht hown hK hP hD hS i_X12 tyX12 tyX12_ok nmX12 0 rfl rfl 11 (by decide) wd_1263 rfl rfl rfl rfl (Nat.le_of_ble_eq_true rfl) rfl dX12_sale_3 (fun H locs hP hD hS => ?_)
  refine lv_iconst (v := 0) hx hb dX12_sale_6 (by decide) ?_
  refine lv_istore_n (lv' := [(1, .int 0), (0, .ref h0)]) hx hb dX12_sale_7 rfl hl (by decide) rfl (fun ls hl => ?_)
  refine lp_cnt (ws := [(h0, .inr (12, [.ref (am 0), .int 0, .int 0, .ref (am 1), .ref (am 2), .ref (am 3), .ref (am 4), .ref (am 5), .int 0, .int 0, .int 0, .int 6, .int 0, .int 0, .int 0, .ref (am 6), .int 0, .ref (am 7), .int 0, .ref (am 8), .ref (am 9), .int (-1), .int 0, .int 0, .int (-1), .int 0, .ref (am 10), .int 0, .ref (am 11), .ref (am 12), .ref (am 13), .ref (am 14), .long 0, .ref (am 15), .ref (am 16), .ref (am 17), .ref (am 18)])), ((am 5), .inl (G.2.2 0, 79, .inl (fun _ => 0))), ((am 2), .inl (G.2.2 0, 7, .inl (fun _ => 0)))]) (nL := 2) 79 (fun z => [(1, .int z), (0, .ref h0)]) (fun H locs ls hP hD hS hl => ?_) (fun i hi_ H locs ls hP hD hS hl ih => ?_) 0 (Nat.zero_le _) _ _ ls hP hD hS hl
  · have hl : lv_has ls 2 [(1, .int 79), (0, .ref h0)] := hl
    refine lv_iload_n hx hb dX12_sale_8 rfl (lv_at hl 0 rfl) ?_
    refine lv_bipush (v := 79) hx hb dX12_sale_9 (by decide +kernel) ?_
    refine lv_icmp_ge (tgt := 27) hx hb dX12_sale_11 (by decide) (fun _ => ?_) (fun c0 => absurd (by decide +kernel) c0)
    refine lv_aload_n hx hb dX12_sale_27 rfl (lv_at hl 1 rfl) ?_
    have hPc := hP.sub (ws' := [(h0, .inr (12, [.ref (am 0), .int 0, .int 0, .ref (am 1), .ref (am 2), .ref (am 3), .ref (am 4), .ref (am 5), .int 0, .int 0, .int 0, .int 6, .int 0, .int 0, .int 0, .ref (am 6), .int 0, .ref (am 7), .int 0, .ref (am 8), .ref (am 9), .int (-1), .int 0, .int 0, .int (-1), .int 0, .ref (am 10), .int 0, .ref (am 11), .ref (am 12), .ref (am 13), .ref (am 14), .long 0, .ref (am 15), .ref (am 16), .ref (am 17), .ref (am 18)])), ((am 2), .inl (G.2.2 0, 7, .inl (fun _ => 0)))]) [0, 2] rfl
    have hDc := hD.sub (ws' := [(h0, .inr (12, [.ref (am 0), .int 0, .int 0, .ref (am 1), .ref (am 2), .ref (am 3), .ref (am 4), .ref (am 5), .int 0, .int 0, .int 0, .int 6, .int 0, .int 0, .int 0, .ref (am 6), .int 0, .ref (am 7), .int 0, .ref (am 8), .ref (am 9), .int (-1), .int 0, .int 0, .int (-1), .int 0, .ref (am 10), .int 0, .ref (am 11), .ref (am 12), .ref (am 13), .ref (am 14), .long 0, .ref (am 15), .ref (am 16), .ref (am 17), .ref (am 18)])), ((am 2), .inl (G.2.2 0, 7, .inl (fun _ => 0)))]) [0, 2] (by decide) rfl
    refine gq_callI (wr := [((am 5), .inl (G.2.2 0, 79, .inl (fun _ => 0)))]) (va_runV (As := []) (rest := []) ⟨hx, hb, hml, hown, ht⟩ (c_M_readsAll_6 l G H.size h0 am) (cwV 0 ht (ts_gV wd_1381 wd_1383 wd_39 wd_134 wd_1384) rfl rfl rfl (by decide +kernel) ⟨Nat.le_of_ble_eq_true rfl, Nat.le_of_ble_eq_true rfl⟩) (gc_preV (ci := 12) (q0 := 0) hK hPc hDc rfl rfl) rfl rfl hl.1 rfl (lv_room (Nat.le_of_ble_eq_true rfl)) dX12_sale_28 ⟨Nat.le_of_ble_eq_true rfl, Nat.le_of_ble_eq_true rfl⟩) hP hD hS hA [0, 2] [1] rfl rfl (by decide) (by decide) (fun r u H locs hw hP hD hS => ?_)
    have hw : r = 0 := hw
    subst hw
    have hP : va_P (gg_D G) classes [((am 5), .inl (G.2.2 0, 79, .inl (fun _ => 0))), (h0, .inr (12, [.ref (am 0), .int 0, .int 0, .ref (am 1), .ref (am 2), .ref (am 3), .ref (am 4), .ref (am 5), .int 0, .int 1, .int 0, .int 6, .int 0, .int 0, .int 0, .ref (am 6), .int 0, .ref (am 7), .int 0, .ref (am 8), .ref (am 9), .int (-1), .int 0, .int 0, .int (-1), .int 0, .ref (am 10), .int 0, .ref (am 11), .ref (am 12), .ref (am 13), .ref (am 14), .long 0, .ref (am 15), .ref (am 16), .ref (am 17), .ref (am 18)])), ((am 2), .inl (G.2.2 0, 7, .inl (fun _ => 0)))] H := hP
    have hD : va_D A [((am 5), .inl (G.2.2 0, 79, .inl (fun _ => 0))), (h0, .inr (12, [.ref (am 0), .int 0, .int 0, .ref (am 1), .ref (am 2), .ref (am 3), .ref (am 4), .ref (am 5), .int 0, .int 1, .int 0, .int 6, .int 0, .int 0, .int 0, .ref (am 6), .int 0, .ref (am 7), .int 0, .ref (am 8), .ref (am 9), .int (-1), .int 0, .int 0, .int (-1), .int 0, .ref (am 10), .int 0, .ref (am 11), .ref (am 12), .ref (am 13), .ref (am 14), .long 0, .ref (am 15), .ref (am 16), .ref (am 17), .ref (am 18)])), ((am 2), .inl (G.2.2 0, 7, .inl (fun _ => 0)))] := hD
    refine lv_if_ne (tgt := 42) hx hb dX12_sale_31 (by decide) (fun c0 => absurd (by decide +kernel) c0) (fun _ => ?_)
    refine lv_bipush (v := (-2)) hx hb dX12_sale_34 (by decide +kernel) ?_
    refine lv_aload_n hx hb dX12_sale_36 rfl (lv_at hl 1 rfl) ?_
    refine gq_get hx hb ht hown hK hP i_X12 1 rfl rfl 9 (by decide) wd_1261 rfl rfl dX12_sale_37 ?_
    refine gq_isub hx hb (-3) (by decide +kernel) dX12_sale_40 ?_
    have hP9 := hP.sub (ws' := []) [] rfl
    have hD9 := hD.sub (ws' := []) [] (by decide) rfl
    exact W.iret (v := (-3)) hx hb hr (gq_endI () rfl hP9 hD9 hS) hS.2.2 dX12_sale_41
  · have hl : lv_has ls 2 [(1, .int (nI i)), (0, .ref h0)] := hl
    refine lv_iload_n hx hb dX12_sale_8 rfl (lv_at hl 0 rfl) ?_
    refine lv_bipush (v := 79) hx hb dX12_sale_9 (by decide +kernel) ?_
    refine lv_icmp_ge (tgt := 27) hx hb dX12_sale_11 (by decide) (fun c0 => absurd c0 (nI_ge hi_ (by decide))) (fun _ => ?_)
    refine lv_aload_n hx hb dX12_sale_14 rfl (lv_at hl 1 rfl) ?_
    refine gq_get hx hb ht hown hK hP i_X12 0 rfl rfl 7 (by decide) wd_1259 rfl rfl dX12_sale_15 ?_
    refine lv_iload_n hx hb dX12_sale_18 rfl (lv_at hl 0 rfl) ?_
    refine lv_iconst (v := 0) hx hb dX12_sale_19 (by decide) ?_
    refine gq_iast (ws' := [(h0, .inr (12, [.ref (am 0), .int 0, .int 0, .ref (am 1), .ref (am 2), .ref (am 3), .ref (am 4), .ref (am 5), .int 0, .int 0, .int 0, .int 6, .int 0, .int 0, .int 0, .ref (am 6), .int 0, .ref (am 7), .int 0, .ref (am 8), .ref (am 9), .int (-1), .int 0, .int 0, .int (-1), .int 0, .ref (am 10), .int 0, .ref (am 11), .ref (am 12), .ref (am 13), .ref (am 14), .long 0, .ref (am 15), .ref (am 16), .ref (am 17), .ref (am 18)])), ((am 5), .inl (G.2.2 0, 79, .inl (fun _ => 0))), ((am 2), .inl (G.2.2 0, 7, .inl (fun _ => 0)))]) hx hb hK hP hD hS 1 rfl (fun _ => 0) (vp_in_nI (by omega) (by decide)) (up_z _ _) rfl dX12_sale_20 (fun H locs hP hD hS => ?_)
    refine lv_iinc (v := (nI (i + 1))) (lv' := [(1, .int (nI (i + 1))), (0, .ref h0)]) hx hb dX12_sale_21 hl (k := 0) rfl (nI_1 i) (by decide) rfl (fun ls hl => ?_)
    refine lv_goto (tgt := 8) hx hb dX12_sale_24 (by decide) ?_
    exact ih H locs ls hP hD hS (lv_sub hl [0, 1] rfl)
set_option maxHeartbeats 4000000 in
set_option maxRecDepth 100000 in
theorem c_M_rule (l : Launch) (G : gg_T) (sz : Nat) (h0 : Nat) (am : Nat → Nat) : Met l yX12_rule (ts_L yX12_rule cX12_rule 1 (some .int)) ({ frames := 4, cells := 0, slots := 0, locals := 89 }) (gc_P G [(h0, .inr (12, [.ref (am 0), .int 0, .int 0, .ref (am 1), .ref (am 2), .ref (am 3), .ref (am 4), .ref (am 5), .int 0, .int 0, .int 0, .int 0, .int 0, .int 0, .int 0, .ref (am 6), .int 0, .ref (am 7), .int 0, .ref (am 8), .ref (am 9), .int (-1), .int 0, .int 0, .int (-1), .int 0, .ref (am 10), .int 0, .ref (am 11), .ref (am 12), .ref (am 13), .ref (am 14), .long 0, .ref (am 15), .ref (am 16), .ref (am 17), .ref (am 18)])), ((am 4), .inl (G.2.2 0, 6, .inl (fun _ => 0))), ((am 2), .inl (G.2.2 0, 7, .inl (fun _ => 0)))] sz [.ref h0]) (gc_I G (va_A [(h0, .inr (12, [.ref (am 0), .int 0, .int 0, .ref (am 1), .ref (am 2), .ref (am 3), .ref (am 4), .ref (am 5), .int 0, .int 0, .int 0, .int 0, .int 0, .int 0, .int 0, .ref (am 6), .int 0, .ref (am 7), .int 0, .ref (am 8), .ref (am 9), .int (-1), .int 0, .int 0, .int (-1), .int 0, .ref (am 10), .int 0, .ref (am 11), .ref (am 12), .ref (am 13), .ref (am 14), .long 0, .ref (am 15), .ref (am 16), .ref (am 17), .ref (am 18)])), ((am 4), .inl (G.2.2 0, 6, .inl (fun _ => 0))), ((am 2), .inl (G.2.2 0, 7, .inl (fun _ => 0)))] sz) (fun r (_ : Unit) => r = (-3)) (fun _ => [])) 0 0 (va_A [(h0, .inr (12, [.ref (am 0), .int 0, .int 0, .ref (am 1), .ref (am 2), .ref (am 3), .ref (am 4), .ref (am 5), .int 0, .int 0, .int 0, .int 0, .int 0, .int 0, .int 0, .ref (am 6), .int 0, .ref (am 7), .int 0, .ref (am 8), .ref (am 9), .int (-1), .int 0, .int 0, .int (-1), .int 0, .ref (am 10), .int 0, .ref (am 11), .ref (am 12), .ref (am 13), .ref (am 14), .long 0, .ref (am 15), .ref (am 16), .ref (am 17), .ref (am 18)])), ((am 4), .inl (G.2.2 0, 6, .inl (fun _ => 0))), ((am 2), .inl (G.2.2 0, 7, .inl (fun _ => 0)))] sz) := by
  refine Met.ofW (cc := cX12_rule) (maxL := 1) (ret := (some .int)) (by decide) rfl ?_
  intro p e s m args below meth c s₁ B hml hv
  obtain ⟨rfl, hsz, hP, hK, hD0⟩ := hv
  have hx := B.exec
  have hb := B.bytes
  have hr := B.returns
  have ht := ts_ht (atoms_spec (ws := ts_L yX12_rule cX12_rule 1 (some .int)) B.pre)
  have hown : s.vm.findClass RX12 = some m.cls := findClass_of_methodNamed B.named
  have hlocks := B.notSynchronized
  subst hsz
  have hD := hD0.self (sz := s.heap.size)
  generalize hAe : va_A [(h0, .inr (12, [.ref (am 0), .int 0, .int 0, .ref (am 1), .ref (am 2), .ref (am 3), .ref (am 4), .ref (am 5), .int 0, .int 0, .int 0, .int 0, .int 0, .int 0, .int 0, .ref (am 6), .int 0, .ref (am 7), .int 0, .ref (am 8), .ref (am 9), .int (-1), .int 0, .int 0, .int (-1), .int 0, .ref (am 10), .int 0, .ref (am 11), .ref (am 12), .ref (am 13), .ref (am 14), .long 0, .ref (am 15), .ref (am 16), .ref (am 17), .ref (am 18)])), ((am 4), .inl (G.2.2 0, 6, .inl (fun _ => 0))), ((am 2), .inl (G.2.2 0, 7, .inl (fun _ => 0)))] s.heap.size = A at hD ⊢
  have hA : ∀ q : Nat, s.heap.size ≤ q → A q := fun q h => by rw [← hAe]; exact Or.inr h
  have hS : va_S A s.heap s.heap [] := va_S.rf
  have hl := lv_entry ([.ref h0]) (n := 1) (Nat.le_of_ble_eq_true rfl)
  rw [lg_entry_eq]
  generalize (lg_sl ([.ref h0]) ++ List.replicate (1 - (lg_sl ([.ref h0])).length) Slot.unset).toArray = ls at hl ⊢
  have hl : lv_has ls 1 [(0, .ref h0)] := hl
  refine lv_aload_n hx hb dX12_rule_0 rfl (lv_at hl 0 rfl) ?_
  refine gq_get hx hb ht hown hK hP i_X12 0 rfl rfl 2 (by decide) wd_1254 rfl rfl dX12_rule_1 ?_
  refine lv_bipush (v := 6) hx hb dX12_rule_4 (by decide +kernel) ?_
  refine lv_icmp_ne (tgt := 11) hx hb dX12_rule_6 (by decide) (fun _ => ?_) (fun c0 => absurd c0 (by decide +kernel))
  refine lv_aload_n hx hb dX12_rule_11 rfl (lv_at hl 0 rfl) ?_
  refine lv_aload_n hx hb dX12_rule_12 rfl (lv_at hl 0 rfl) ?_
  refine gq_get hx hb ht hown hK hP i_X12 0 rfl rfl 2 (by decide) wd_1254 rfl rfl dX12_rule_13 ?_
  refine gq_put (ws' := [(h0, .inr (12, [.ref (am 0), .int 0, .int 0, .ref (am 1), .ref (am 2), .ref (am 3), .ref (am 4), .ref (am 5), .int 0, .int 0, .int 0, .int 0, .int 0, .int 0, .int 0, .ref (am 6), .int 0, .ref (am 7), .int 0, .ref (am 8), .ref (am 9), .int (-1), .int 0, .int 0, .int (-1), .int 0, .ref (am 10), .int 0, .ref (am 11), .ref (am 12), .ref (am 13), .ref (am 14), .long 0, .ref (am 15), .ref (am 16), .ref (am 17), .ref (am 18)])), ((am 4), .inl (G.2.2 0, 6, .inl (fun _ => 0))), ((am 2), .inl (G.2.2 0, 7, .inl (fun _ => 0)))]) hx hb ht hown hK hP hD hS i_X12 tyX12 tyX12_ok nmX12 0 rfl rfl 11 (by decide) wd_1263 rfl rfl rfl rfl (Nat.le_of_ble_eq_true rfl) rfl dX12_rule_16 (fun H locs hP hD hS => ?_)
  refine lv_aload_n hx hb dX12_rule_19 rfl (lv_at hl 0 rfl) ?_
  refine gq_get hx hb ht hown hK hP i_X12 0 rfl rfl 6 (by decide) wd_1258 rfl rfl dX12_rule_20 ?_
  refine lv_aload_n hx hb dX12_rule_23 rfl (lv_at hl 0 rfl) ?_
  refine gq_get hx hb ht hown hK hP i_X12 0 rfl rfl 11 (by decide) wd_1263 rfl rfl dX12_rule_24 ?_
  refine lv_iconst (v := 0) hx hb dX12_rule_27 (by decide) ?_
  refine gq_iast (ws' := [(h0, .inr (12, [.ref (am 0), .int 0, .int 0, .ref (am 1), .ref (am 2), .ref (am 3), .ref (am 4), .ref (am 5), .int 0, .int 0, .int 0, .int 0, .int 0, .int 0, .int 0, .ref (am 6), .int 0, .ref (am 7), .int 0, .ref (am 8), .ref (am 9), .int (-1), .int 0, .int 0, .int (-1), .int 0, .ref (am 10), .int 0, .ref (am 11), .ref (am 12), .ref (am 13), .ref (am 14), .long 0, .ref (am 15), .ref (am 16), .ref (am 17), .ref (am 18)])), ((am 4), .inl (G.2.2 0, 6, .inl (fun _ => 0))), ((am 2), .inl (G.2.2 0, 7, .inl (fun _ => 0)))]) hx hb hK hP hD hS 1 rfl (fun _ => 0) (by unfold vp_in; decide +kernel) (up_z _ _) rfl dX12_rule_28 (fun H locs hP hD hS => ?_)
  refine lv_aload_n hx hb dX12_rule_29 rfl (lv_at hl 0 rfl) ?_
  have hPc := hP.sub (ws' := [(h0, .inr (12, [.ref (am 0), .int 0, .int 0, .ref (am 1), .ref (am 2), .ref (am 3), .ref (am 4), .ref (am 5), .int 0, .int 0, .int 0, .int 0, .int 0, .int 0, .int 0, .ref (am 6), .int 0, .ref (am 7), .int 0, .ref (am 8), .ref (am 9), .int (-1), .int 0, .int 0, .int (-1), .int 0, .ref (am 10), .int 0, .ref (am 11), .ref (am 12), .ref (am 13), .ref (am 14), .long 0, .ref (am 15), .ref (am 16), .ref (am 17), .ref (am 18)])), ((am 2), .inl (G.2.2 0, 7, .inl (fun _ => 0)))]) [0, 2] rfl
  have hDc := hD.sub (ws' := [(h0, .inr (12, [.ref (am 0), .int 0, .int 0, .ref (am 1), .ref (am 2), .ref (am 3), .ref (am 4), .ref (am 5), .int 0, .int 0, .int 0, .int 0, .int 0, .int 0, .int 0, .ref (am 6), .int 0, .ref (am 7), .int 0, .ref (am 8), .ref (am 9), .int (-1), .int 0, .int 0, .int (-1), .int 0, .ref (am 10), .int 0, .ref (am 11), .ref (am 12), .ref (am 13), .ref (am 14), .long 0, .ref (am 15), .ref (am 16), .ref (am 17), .ref (am 18)])), ((am 2), .inl (G.2.2 0, 7, .inl (fun _ => 0)))]) [0, 2] (by decide) rfl
  refine gq_callI (wr := [((am 4), .inl (G.2.2 0, 6, .inl (fun _ => 0)))]) (va_runV (As := []) (rest := []) ⟨hx, hb, hml, hown, ht⟩ (c_M_readsAll_0 l G H.size h0 am) (cwV 0 ht (ts_gV wd_1381 wd_1383 wd_39 wd_134 wd_1384) rfl rfl rfl (by decide +kernel) ⟨Nat.le_of_ble_eq_true rfl, Nat.le_of_ble_eq_true rfl⟩) (gc_preV (ci := 12) (q0 := 0) hK hPc hDc rfl rfl) rfl rfl hl.1 rfl (lv_room (Nat.le_of_ble_eq_true rfl)) dX12_rule_30 ⟨Nat.le_of_ble_eq_true rfl, Nat.le_of_ble_eq_true rfl⟩) hP hD hS hA [0, 2] [1] rfl rfl (by decide) (by decide) (fun r u H locs hw hP hD hS => ?_)
  have hw : r = 0 := hw
  subst hw
  have hP : va_P (gg_D G) classes [((am 4), .inl (G.2.2 0, 6, .inl (fun _ => 0))), (h0, .inr (12, [.ref (am 0), .int 0, .int 0, .ref (am 1), .ref (am 2), .ref (am 3), .ref (am 4), .ref (am 5), .int 0, .int 1, .int 0, .int 0, .int 0, .int 0, .int 0, .ref (am 6), .int 0, .ref (am 7), .int 0, .ref (am 8), .ref (am 9), .int (-1), .int 0, .int 0, .int (-1), .int 0, .ref (am 10), .int 0, .ref (am 11), .ref (am 12), .ref (am 13), .ref (am 14), .long 0, .ref (am 15), .ref (am 16), .ref (am 17), .ref (am 18)])), ((am 2), .inl (G.2.2 0, 7, .inl (fun _ => 0)))] H := hP
  have hD : va_D A [((am 4), .inl (G.2.2 0, 6, .inl (fun _ => 0))), (h0, .inr (12, [.ref (am 0), .int 0, .int 0, .ref (am 1), .ref (am 2), .ref (am 3), .ref (am 4), .ref (am 5), .int 0, .int 1, .int 0, .int 0, .int 0, .int 0, .int 0, .ref (am 6), .int 0, .ref (am 7), .int 0, .ref (am 8), .ref (am 9), .int (-1), .int 0, .int 0, .int (-1), .int 0, .ref (am 10), .int 0, .ref (am 11), .ref (am 12), .ref (am 13), .ref (am 14), .long 0, .ref (am 15), .ref (am 16), .ref (am 17), .ref (am 18)])), ((am 2), .inl (G.2.2 0, 7, .inl (fun _ => 0)))] := hD
  refine lv_if_ne (tgt := 44) hx hb dX12_rule_33 (by decide) (fun c0 => absurd (by decide +kernel) c0) (fun _ => ?_)
  refine lv_bipush (v := (-2)) hx hb dX12_rule_36 (by decide +kernel) ?_
  refine lv_aload_n hx hb dX12_rule_38 rfl (lv_at hl 0 rfl) ?_
  refine gq_get hx hb ht hown hK hP i_X12 1 rfl rfl 9 (by decide) wd_1261 rfl rfl dX12_rule_39 ?_
  refine gq_isub hx hb (-3) (by decide +kernel) dX12_rule_42 ?_
  have hP9 := hP.sub (ws' := []) [] rfl
  have hD9 := hD.sub (ws' := []) [] (by decide) rfl
  exact W.iret (v := (-3)) hx hb hr (gq_endI () rfl hP9 hD9 hS) hS.2.2 dX12_rule_43
set_option maxHeartbeats 4000000 in
set_option maxRecDepth 100000 in
theorem c_M_force (l : Launch) (G : gg_T) (sz : Nat) (h0 : Nat) (am : Nat → Nat) (n : Int32) : Met l yX12_force (ts_L yX12_force cX12_force 3 (some .int)) ({ frames := 1, cells := 0, slots := 0, locals := 21 }) (gc_P G [(h0, .inr (12, [.ref (am 0), .int 0, .int 0, .ref (am 1), .ref (am 2), .ref (am 3), .ref (am 4), .ref (am 5), .int 0, .int 0, .int 0, .int 0, .int 0, .int 0, .int 0, .ref (am 6), .int 0, .ref (am 7), .int 0, .ref (am 8), .ref (am 9), .int (-1), .int 0, .int 0, .int (-1), .int 0, .ref (am 10), .int 0, .ref (am 11), .ref (am 12), .ref (am 13), .ref (am 14), .long 0, .ref (am 15), .ref (am 16), .ref (am 17), .ref (am 18)]))] sz [.ref h0, .int n]) (gc_I G (va_A [(h0, .inr (12, [.ref (am 0), .int 0, .int 0, .ref (am 1), .ref (am 2), .ref (am 3), .ref (am 4), .ref (am 5), .int 0, .int 0, .int 0, .int 0, .int 0, .int 0, .int 0, .ref (am 6), .int 0, .ref (am 7), .int 0, .ref (am 8), .ref (am 9), .int (-1), .int 0, .int 0, .int (-1), .int 0, .ref (am 10), .int 0, .ref (am 11), .ref (am 12), .ref (am 13), .ref (am 14), .long 0, .ref (am 15), .ref (am 16), .ref (am 17), .ref (am 18)]))] sz) (fun r (_ : Unit) => r = (if n = -1 then -1 else -2)) (fun _ => [])) 0 0 (va_A [(h0, .inr (12, [.ref (am 0), .int 0, .int 0, .ref (am 1), .ref (am 2), .ref (am 3), .ref (am 4), .ref (am 5), .int 0, .int 0, .int 0, .int 0, .int 0, .int 0, .int 0, .ref (am 6), .int 0, .ref (am 7), .int 0, .ref (am 8), .ref (am 9), .int (-1), .int 0, .int 0, .int (-1), .int 0, .ref (am 10), .int 0, .ref (am 11), .ref (am 12), .ref (am 13), .ref (am 14), .long 0, .ref (am 15), .ref (am 16), .ref (am 17), .ref (am 18)]))] sz) := by
  refine Met.ofW (cc := cX12_force) (maxL := 3) (ret := (some .int)) (by decide) rfl ?_
  intro p e s m args below meth c s₁ B hml hv
  obtain ⟨rfl, hsz, hP, hK, hD0⟩ := hv
  have hx := B.exec
  have hb := B.bytes
  have hr := B.returns
  have ht := ts_ht (atoms_spec (ws := ts_L yX12_force cX12_force 3 (some .int)) B.pre)
  have hown : s.vm.findClass RX12 = some m.cls := findClass_of_methodNamed B.named
  have hlocks := B.notSynchronized
  subst hsz
  have hD := hD0.self (sz := s.heap.size)
  generalize hAe : va_A [(h0, .inr (12, [.ref (am 0), .int 0, .int 0, .ref (am 1), .ref (am 2), .ref (am 3), .ref (am 4), .ref (am 5), .int 0, .int 0, .int 0, .int 0, .int 0, .int 0, .int 0, .ref (am 6), .int 0, .ref (am 7), .int 0, .ref (am 8), .ref (am 9), .int (-1), .int 0, .int 0, .int (-1), .int 0, .ref (am 10), .int 0, .ref (am 11), .ref (am 12), .ref (am 13), .ref (am 14), .long 0, .ref (am 15), .ref (am 16), .ref (am 17), .ref (am 18)]))] s.heap.size = A at hD ⊢
  have hA : ∀ q : Nat, s.heap.size ≤ q → A q := fun q h => by rw [← hAe]; exact Or.inr h
  have hS : va_S A s.heap s.heap [] := va_S.rf
  have hl := lv_entry ([.ref h0, .int n]) (n := 3) (Nat.le_of_ble_eq_true rfl)
  rw [lg_entry_eq]
  generalize (lg_sl ([.ref h0, .int n]) ++ List.replicate (3 - (lg_sl ([.ref h0, .int n])).length) Slot.unset).toArray = ls at hl ⊢
  have hl : lv_has ls 3 [(0, .ref h0), (1, .int n)] := hl
  by_cases c_1 : n = (-1)
  · subst c_1
    refine lv_iload_n hx hb dX12_force_0 rfl (lv_at hl 1 rfl) ?_
    refine lv_iconst (v := (-1)) hx hb dX12_force_1 (by decide) ?_
    refine lv_icmp_eq (tgt := 16) hx hb dX12_force_2 (by decide) (fun _ => ?_) (fun c0 => absurd (by decide +kernel) c0)
    refine lv_aload_n hx hb dX12_force_16 rfl (lv_at hl 0 rfl) ?_
    refine gq_get hx hb ht hown hK hP i_X12 0 rfl rfl 21 (by decide) wd_1273 rfl rfl dX12_force_17 ?_
    refine lv_istore_n (lv' := [(2, .int (-1)), (0, .ref h0), (1, .int (-1))]) hx hb dX12_force_20 rfl hl (by decide) rfl (fun ls hl => ?_)
    refine lv_aload_n hx hb dX12_force_21 rfl (lv_at hl 1 rfl) ?_
    refine lv_iload_n hx hb dX12_force_22 rfl (lv_at hl 2 rfl) ?_
    refine gq_put (ws' := [(h0, .inr (12, [.ref (am 0), .int 0, .int 0, .ref (am 1), .ref (am 2), .ref (am 3), .ref (am 4), .ref (am 5), .int 0, .int 0, .int 0, .int 0, .int 0, .int 0, .int 0, .ref (am 6), .int 0, .ref (am 7), .int 0, .ref (am 8), .ref (am 9), .int (-1), .int 0, .int 0, .int (-1), .int 0, .ref (am 10), .int 0, .ref (am 11), .ref (am 12), .ref (am 13), .ref (am 14), .long 0, .ref (am 15), .ref (am 16), .ref (am 17), .ref (am 18)]))]) hx hb ht hown hK hP hD hS i_X12 tyX12 tyX12_ok nmX12 0 rfl rfl 21 (by decide) wd_1273 rfl rfl rfl rfl (Nat.le_of_ble_eq_true rfl) rfl dX12_force_23 (fun H locs hP hD hS => ?_)
    refine lv_iload_n hx hb dX12_force_26 rfl (lv_at hl 0 rfl) ?_
    have hP9 := hP.sub (ws' := []) [] rfl
    have hD9 := hD.sub (ws' := []) [] (by decide) rfl
    exact W.iret (v := (-1)) hx hb hr (gq_endI () (by decide +kernel) hP9 hD9 hS) hS.2.2 dX12_force_27
  · refine lv_iload_n hx hb dX12_force_0 rfl (lv_at hl 1 rfl) ?_
    refine lv_iconst (v := (-1)) hx hb dX12_force_1 (by decide) ?_
    refine lv_icmp_eq (tgt := 16) hx hb dX12_force_2 (by decide) (fun c0 => False.elim (by have k0 : ((-1) : Int32).toInt = -1 := (by decide +kernel); simp only [Int32.lt_iff_toInt_lt, Int32.le_iff_toInt_le, ← Int32.toInt_inj] at c_1 c0; omega)) (fun _ => ?_)
    refine lv_aload_n hx hb dX12_force_5 rfl (lv_at hl 0 rfl) ?_
    refine lv_iload_n hx hb dX12_force_6 rfl (lv_at hl 1 rfl) ?_
    have hPc := hP.sub (ws' := [(h0, .inr (12, [.ref (am 0), .int 0, .int 0, .ref (am 1), .ref (am 2), .ref (am 3), .ref (am 4), .ref (am 5), .int 0, .int 0, .int 0, .int 0, .int 0, .int 0, .int 0, .ref (am 6), .int 0, .ref (am 7), .int 0, .ref (am 8), .ref (am 9), .int (-1), .int 0, .int 0, .int (-1), .int 0, .ref (am 10), .int 0, .ref (am 11), .ref (am 12), .ref (am 13), .ref (am 14), .long 0, .ref (am 15), .ref (am 16), .ref (am 17), .ref (am 18)]))]) [0] rfl
    have hDc := hD.sub (ws' := [(h0, .inr (12, [.ref (am 0), .int 0, .int 0, .ref (am 1), .ref (am 2), .ref (am 3), .ref (am 4), .ref (am 5), .int 0, .int 0, .int 0, .int 0, .int 0, .int 0, .int 0, .ref (am 6), .int 0, .ref (am 7), .int 0, .ref (am 8), .ref (am 9), .int (-1), .int 0, .int 0, .int (-1), .int 0, .ref (am 10), .int 0, .ref (am 11), .ref (am 12), .ref (am 13), .ref (am 14), .long 0, .ref (am 15), .ref (am 16), .ref (am 17), .ref (am 18)]))]) [0] (by decide) rfl
    refine gq_callI (wr := []) (va_runV (As := [.int n]) (rest := []) ⟨hx, hb, hml, hown, ht⟩ (c_M_isRule l G s.heap.size h0 am n) (cwV 1 ht (ts_gV wd_1545 wd_1547 wd_72 wd_134 wd_1548) rfl rfl rfl (by decide +kernel) ⟨Nat.le_of_ble_eq_true rfl, Nat.le_of_ble_eq_true rfl⟩) (gc_preV (ci := 12) (q0 := 0) hK hPc hDc rfl rfl) rfl rfl hl.1 rfl (lv_room (Nat.le_of_ble_eq_true rfl)) dX12_force_7 ⟨Nat.le_of_ble_eq_true rfl, Nat.le_of_ble_eq_true rfl⟩) hP hD hS hA [0] [] rfl rfl (by decide) (by decide) (fun r u H locs hw hP hD hS => ?_)
    have hw : r = 0 := hw
    subst hw
    have hP : va_P (gg_D G) classes [(h0, .inr (12, [.ref (am 0), .int 0, .int 0, .ref (am 1), .ref (am 2), .ref (am 3), .ref (am 4), .ref (am 5), .int 0, .int 0, .int 0, .int 0, .int 0, .int 0, .int 0, .ref (am 6), .int 0, .ref (am 7), .int 0, .ref (am 8), .ref (am 9), .int (-1), .int 0, .int 0, .int (-1), .int 0, .ref (am 10), .int 0, .ref (am 11), .ref (am 12), .ref (am 13), .ref (am 14), .long 0, .ref (am 15), .ref (am 16), .ref (am 17), .ref (am 18)]))] H := hP
    have hD : va_D A [(h0, .inr (12, [.ref (am 0), .int 0, .int 0, .ref (am 1), .ref (am 2), .ref (am 3), .ref (am 4), .ref (am 5), .int 0, .int 0, .int 0, .int 0, .int 0, .int 0, .int 0, .ref (am 6), .int 0, .ref (am 7), .int 0, .ref (am 8), .ref (am 9), .int (-1), .int 0, .int 0, .int (-1), .int 0, .ref (am 10), .int 0, .ref (am 11), .ref (am 12), .ref (am 13), .ref (am 14), .long 0, .ref (am 15), .ref (am 16), .ref (am 17), .ref (am 18)]))] := hD
    refine lv_if_ne (tgt := 16) hx hb dX12_force_10 (by decide) (fun c0 => absurd (by decide +kernel) c0) (fun _ => ?_)
    refine lv_bipush (v := (-2)) hx hb dX12_force_13 (by decide +kernel) ?_
    have hP9 := hP.sub (ws' := []) [] rfl
    have hD9 := hD.sub (ws' := []) [] (by decide) rfl
    exact W.iret (v := (-2)) hx hb hr (gq_endI () (if_neg c_1).symm hP9 hD9 hS) hS.2.2 dX12_force_15
set_option maxHeartbeats 4000000 in
set_option maxRecDepth 100000 in
theorem c_M_bidder (l : Launch) (G : gg_T) (sz : Nat) (h0 : Nat) (am : Nat → Nat) (b : Int32) (w : Int32) : Met l yX12_bidder (ts_L yX12_bidder cX12_bidder 3 (some .int)) ({ frames := 1, cells := 0, slots := 0, locals := 21 }) (gc_P G [(h0, .inr (12, [.ref (am 0), .int 0, .int 0, .ref (am 1), .ref (am 2), .ref (am 3), .ref (am 4), .ref (am 5), .int 0, .int 0, .int 0, .int 0, .int 0, .int 0, .int 0, .ref (am 6), .int 0, .ref (am 7), .int 0, .ref (am 8), .ref (am 9), .int (-1), .int 0, .int 0, .int (-1), .int 0, .ref (am 10), .int 0, .ref (am 11), .ref (am 12), .ref (am 13), .ref (am 14), .long 0, .ref (am 15), .ref (am 16), .ref (am 17), .ref (am 18)])), ((am 9), .inl (G.2.2 0, 110, .inl (fun _ => 0)))] sz [.ref h0, .int b, .int w]) (gc_I G (va_A [(h0, .inr (12, [.ref (am 0), .int 0, .int 0, .ref (am 1), .ref (am 2), .ref (am 3), .ref (am 4), .ref (am 5), .int 0, .int 0, .int 0, .int 0, .int 0, .int 0, .int 0, .ref (am 6), .int 0, .ref (am 7), .int 0, .ref (am 8), .ref (am 9), .int (-1), .int 0, .int 0, .int (-1), .int 0, .ref (am 10), .int 0, .ref (am 11), .ref (am 12), .ref (am 13), .ref (am 14), .long 0, .ref (am 15), .ref (am 16), .ref (am 17), .ref (am 18)])), ((am 9), .inl (G.2.2 0, 110, .inl (fun _ => 0)))] sz) (fun r (_ : Unit) => r = (-1000)) (fun _ => [])) 0 0 (va_A [(h0, .inr (12, [.ref (am 0), .int 0, .int 0, .ref (am 1), .ref (am 2), .ref (am 3), .ref (am 4), .ref (am 5), .int 0, .int 0, .int 0, .int 0, .int 0, .int 0, .int 0, .ref (am 6), .int 0, .ref (am 7), .int 0, .ref (am 8), .ref (am 9), .int (-1), .int 0, .int 0, .int (-1), .int 0, .ref (am 10), .int 0, .ref (am 11), .ref (am 12), .ref (am 13), .ref (am 14), .long 0, .ref (am 15), .ref (am 16), .ref (am 17), .ref (am 18)])), ((am 9), .inl (G.2.2 0, 110, .inl (fun _ => 0)))] sz) := by
  refine Met.ofW (cc := cX12_bidder) (maxL := 3) (ret := (some .int)) (by decide) rfl ?_
  intro p e s m args below meth c s₁ B hml hv
  obtain ⟨rfl, hsz, hP, hK, hD0⟩ := hv
  have hx := B.exec
  have hb := B.bytes
  have hr := B.returns
  have ht := ts_ht (atoms_spec (ws := ts_L yX12_bidder cX12_bidder 3 (some .int)) B.pre)
  have hown : s.vm.findClass RX12 = some m.cls := findClass_of_methodNamed B.named
  have hlocks := B.notSynchronized
  subst hsz
  have hD := hD0.self (sz := s.heap.size)
  generalize hAe : va_A [(h0, .inr (12, [.ref (am 0), .int 0, .int 0, .ref (am 1), .ref (am 2), .ref (am 3), .ref (am 4), .ref (am 5), .int 0, .int 0, .int 0, .int 0, .int 0, .int 0, .int 0, .ref (am 6), .int 0, .ref (am 7), .int 0, .ref (am 8), .ref (am 9), .int (-1), .int 0, .int 0, .int (-1), .int 0, .ref (am 10), .int 0, .ref (am 11), .ref (am 12), .ref (am 13), .ref (am 14), .long 0, .ref (am 15), .ref (am 16), .ref (am 17), .ref (am 18)])), ((am 9), .inl (G.2.2 0, 110, .inl (fun _ => 0)))] s.heap.size = A at hD ⊢
  have hA : ∀ q : Nat, s.heap.size ≤ q → A q := fun q h => by rw [← hAe]; exact Or.inr h
  have hS : va_S A s.heap s.heap [] := va_S.rf
  have hl := lv_entry ([.ref h0, .int b, .int w]) (n := 3) (Nat.le_of_ble_eq_true rfl)
  rw [lg_entry_eq]
  generalize (lg_sl ([.ref h0, .int b, .int w]) ++ List.replicate (3 - (lg_sl ([.ref h0, .int b, .int w])).length) Slot.unset).toArray = ls at hl ⊢
  have hl : lv_has ls 3 [(0, .ref h0), (1, .int b), (2, .int w)] := hl
  refine lv_aload_n hx hb dX12_bidder_0 rfl (lv_at hl 0 rfl) ?_
  refine lv_iload_n hx hb dX12_bidder_1 rfl (lv_at hl 1 rfl) ?_
  have hPc := hP.sub (ws' := [(h0, .inr (12, [.ref (am 0), .int 0, .int 0, .ref (am 1), .ref (am 2), .ref (am 3), .ref (am 4), .ref (am 5), .int 0, .int 0, .int 0, .int 0, .int 0, .int 0, .int 0, .ref (am 6), .int 0, .ref (am 7), .int 0, .ref (am 8), .ref (am 9), .int (-1), .int 0, .int 0, .int (-1), .int 0, .ref (am 10), .int 0, .ref (am 11), .ref (am 12), .ref (am 13), .ref (am 14), .long 0, .ref (am 15), .ref (am 16), .ref (am 17), .ref (am 18)])), ((am 9), .inl (G.2.2 0, 110, .inl (fun _ => 0)))]) [0, 1] rfl
  have hDc := hD.sub (ws' := [(h0, .inr (12, [.ref (am 0), .int 0, .int 0, .ref (am 1), .ref (am 2), .ref (am 3), .ref (am 4), .ref (am 5), .int 0, .int 0, .int 0, .int 0, .int 0, .int 0, .int 0, .ref (am 6), .int 0, .ref (am 7), .int 0, .ref (am 8), .ref (am 9), .int (-1), .int 0, .int 0, .int (-1), .int 0, .ref (am 10), .int 0, .ref (am 11), .ref (am 12), .ref (am 13), .ref (am 14), .long 0, .ref (am 15), .ref (am 16), .ref (am 17), .ref (am 18)])), ((am 9), .inl (G.2.2 0, 110, .inl (fun _ => 0)))]) [0, 1] (by decide) rfl
  refine gq_callI (wr := []) (va_runV (As := [.int b]) (rest := []) ⟨hx, hb, hml, hown, ht⟩ (c_M_isBidder l G s.heap.size h0 am b) (cwV 1 ht (ts_gV wd_1553 wd_1555 wd_73 wd_134 wd_1556) rfl rfl rfl (by decide +kernel) ⟨Nat.le_of_ble_eq_true rfl, Nat.le_of_ble_eq_true rfl⟩) (gc_preV (ci := 12) (q0 := 0) hK hPc hDc rfl rfl) rfl rfl hl.1 rfl (lv_room (Nat.le_of_ble_eq_true rfl)) dX12_bidder_2 ⟨Nat.le_of_ble_eq_true rfl, Nat.le_of_ble_eq_true rfl⟩) hP hD hS hA [0, 1] [] rfl rfl (by decide) (by decide) (fun r u H locs hw hP hD hS => ?_)
  have hw : r = 0 := hw
  subst hw
  have hP : va_P (gg_D G) classes [(h0, .inr (12, [.ref (am 0), .int 0, .int 0, .ref (am 1), .ref (am 2), .ref (am 3), .ref (am 4), .ref (am 5), .int 0, .int 0, .int 0, .int 0, .int 0, .int 0, .int 0, .ref (am 6), .int 0, .ref (am 7), .int 0, .ref (am 8), .ref (am 9), .int (-1), .int 0, .int 0, .int (-1), .int 0, .ref (am 10), .int 0, .ref (am 11), .ref (am 12), .ref (am 13), .ref (am 14), .long 0, .ref (am 15), .ref (am 16), .ref (am 17), .ref (am 18)])), ((am 9), .inl (G.2.2 0, 110, .inl (fun _ => 0)))] H := hP
  have hD : va_D A [(h0, .inr (12, [.ref (am 0), .int 0, .int 0, .ref (am 1), .ref (am 2), .ref (am 3), .ref (am 4), .ref (am 5), .int 0, .int 0, .int 0, .int 0, .int 0, .int 0, .int 0, .ref (am 6), .int 0, .ref (am 7), .int 0, .ref (am 8), .ref (am 9), .int (-1), .int 0, .int 0, .int (-1), .int 0, .ref (am 10), .int 0, .ref (am 11), .ref (am 12), .ref (am 13), .ref (am 14), .long 0, .ref (am 15), .ref (am 16), .ref (am 17), .ref (am 18)])), ((am 9), .inl (G.2.2 0, 110, .inl (fun _ => 0)))] := hD
  refine lv_if_eq (tgt := 20) hx hb dX12_bidder_5 (by decide) (fun _ => ?_) (fun c0 => absurd (by decide +kernel) c0)
  refine lv_sipush (v := (-1000)) hx hb dX12_bidder_20 (by decide +kernel) ?_
  have hP9 := hP.sub (ws' := []) [] rfl
  have hD9 := hD.sub (ws' := []) [] (by decide) rfl
  exact W.iret (v := (-1000)) hx hb hr (gq_endI () rfl hP9 hD9 hS) hS.2.2 dX12_bidder_23
set_option maxHeartbeats 4000000 in
set_option maxRecDepth 100000 in
theorem c_M_lot (l : Launch) (G : gg_T) (sz : Nat) (h0 : Nat) (am : Nat → Nat) (b : Int32) (w : Int32) : Met l yX12_lot (ts_L yX12_lot cX12_lot 3 (some .int)) ({ frames := 1, cells := 0, slots := 0, locals := 21 }) (gc_P G [(h0, .inr (12, [.ref (am 0), .int 0, .int 0, .ref (am 1), .ref (am 2), .ref (am 3), .ref (am 4), .ref (am 5), .int 0, .int 0, .int 0, .int 0, .int 0, .int 0, .int 0, .ref (am 6), .int 0, .ref (am 7), .int 0, .ref (am 8), .ref (am 9), .int (-1), .int 0, .int 0, .int (-1), .int 0, .ref (am 10), .int 0, .ref (am 11), .ref (am 12), .ref (am 13), .ref (am 14), .long 0, .ref (am 15), .ref (am 16), .ref (am 17), .ref (am 18)])), ((am 9), .inl (G.2.2 0, 110, .inl (fun _ => 0)))] sz [.ref h0, .int b, .int w]) (gc_I G (va_A [(h0, .inr (12, [.ref (am 0), .int 0, .int 0, .ref (am 1), .ref (am 2), .ref (am 3), .ref (am 4), .ref (am 5), .int 0, .int 0, .int 0, .int 0, .int 0, .int 0, .int 0, .ref (am 6), .int 0, .ref (am 7), .int 0, .ref (am 8), .ref (am 9), .int (-1), .int 0, .int 0, .int (-1), .int 0, .ref (am 10), .int 0, .ref (am 11), .ref (am 12), .ref (am 13), .ref (am 14), .long 0, .ref (am 15), .ref (am 16), .ref (am 17), .ref (am 18)])), ((am 9), .inl (G.2.2 0, 110, .inl (fun _ => 0)))] sz) (fun r (_ : Unit) => r = (-2)) (fun _ => [])) 0 0 (va_A [(h0, .inr (12, [.ref (am 0), .int 0, .int 0, .ref (am 1), .ref (am 2), .ref (am 3), .ref (am 4), .ref (am 5), .int 0, .int 0, .int 0, .int 0, .int 0, .int 0, .int 0, .ref (am 6), .int 0, .ref (am 7), .int 0, .ref (am 8), .ref (am 9), .int (-1), .int 0, .int 0, .int (-1), .int 0, .ref (am 10), .int 0, .ref (am 11), .ref (am 12), .ref (am 13), .ref (am 14), .long 0, .ref (am 15), .ref (am 16), .ref (am 17), .ref (am 18)])), ((am 9), .inl (G.2.2 0, 110, .inl (fun _ => 0)))] sz) := by
  refine Met.ofW (cc := cX12_lot) (maxL := 3) (ret := (some .int)) (by decide) rfl ?_
  intro p e s m args below meth c s₁ B hml hv
  obtain ⟨rfl, hsz, hP, hK, hD0⟩ := hv
  have hx := B.exec
  have hb := B.bytes
  have hr := B.returns
  have ht := ts_ht (atoms_spec (ws := ts_L yX12_lot cX12_lot 3 (some .int)) B.pre)
  have hown : s.vm.findClass RX12 = some m.cls := findClass_of_methodNamed B.named
  have hlocks := B.notSynchronized
  subst hsz
  have hD := hD0.self (sz := s.heap.size)
  generalize hAe : va_A [(h0, .inr (12, [.ref (am 0), .int 0, .int 0, .ref (am 1), .ref (am 2), .ref (am 3), .ref (am 4), .ref (am 5), .int 0, .int 0, .int 0, .int 0, .int 0, .int 0, .int 0, .ref (am 6), .int 0, .ref (am 7), .int 0, .ref (am 8), .ref (am 9), .int (-1), .int 0, .int 0, .int (-1), .int 0, .ref (am 10), .int 0, .ref (am 11), .ref (am 12), .ref (am 13), .ref (am 14), .long 0, .ref (am 15), .ref (am 16), .ref (am 17), .ref (am 18)])), ((am 9), .inl (G.2.2 0, 110, .inl (fun _ => 0)))] s.heap.size = A at hD ⊢
  have hA : ∀ q : Nat, s.heap.size ≤ q → A q := fun q h => by rw [← hAe]; exact Or.inr h
  have hS : va_S A s.heap s.heap [] := va_S.rf
  have hl := lv_entry ([.ref h0, .int b, .int w]) (n := 3) (Nat.le_of_ble_eq_true rfl)
  rw [lg_entry_eq]
  generalize (lg_sl ([.ref h0, .int b, .int w]) ++ List.replicate (3 - (lg_sl ([.ref h0, .int b, .int w])).length) Slot.unset).toArray = ls at hl ⊢
  have hl : lv_has ls 3 [(0, .ref h0), (1, .int b), (2, .int w)] := hl
  refine lv_aload_n hx hb dX12_lot_0 rfl (lv_at hl 0 rfl) ?_
  refine lv_iload_n hx hb dX12_lot_1 rfl (lv_at hl 1 rfl) ?_
  have hPc := hP.sub (ws' := [(h0, .inr (12, [.ref (am 0), .int 0, .int 0, .ref (am 1), .ref (am 2), .ref (am 3), .ref (am 4), .ref (am 5), .int 0, .int 0, .int 0, .int 0, .int 0, .int 0, .int 0, .ref (am 6), .int 0, .ref (am 7), .int 0, .ref (am 8), .ref (am 9), .int (-1), .int 0, .int 0, .int (-1), .int 0, .ref (am 10), .int 0, .ref (am 11), .ref (am 12), .ref (am 13), .ref (am 14), .long 0, .ref (am 15), .ref (am 16), .ref (am 17), .ref (am 18)])), ((am 9), .inl (G.2.2 0, 110, .inl (fun _ => 0)))]) [0, 1] rfl
  have hDc := hD.sub (ws' := [(h0, .inr (12, [.ref (am 0), .int 0, .int 0, .ref (am 1), .ref (am 2), .ref (am 3), .ref (am 4), .ref (am 5), .int 0, .int 0, .int 0, .int 0, .int 0, .int 0, .int 0, .ref (am 6), .int 0, .ref (am 7), .int 0, .ref (am 8), .ref (am 9), .int (-1), .int 0, .int 0, .int (-1), .int 0, .ref (am 10), .int 0, .ref (am 11), .ref (am 12), .ref (am 13), .ref (am 14), .long 0, .ref (am 15), .ref (am 16), .ref (am 17), .ref (am 18)])), ((am 9), .inl (G.2.2 0, 110, .inl (fun _ => 0)))]) [0, 1] (by decide) rfl
  refine gq_callI (wr := []) (va_runV (As := [.int b]) (rest := []) ⟨hx, hb, hml, hown, ht⟩ (c_M_isLot l G s.heap.size h0 am b) (cwV 1 ht (ts_gV wd_1582 wd_1584 wd_79 wd_134 wd_1585) rfl rfl rfl (by decide +kernel) ⟨Nat.le_of_ble_eq_true rfl, Nat.le_of_ble_eq_true rfl⟩) (gc_preV (ci := 12) (q0 := 0) hK hPc hDc rfl rfl) rfl rfl hl.1 rfl (lv_room (Nat.le_of_ble_eq_true rfl)) dX12_lot_2 ⟨Nat.le_of_ble_eq_true rfl, Nat.le_of_ble_eq_true rfl⟩) hP hD hS hA [0, 1] [] rfl rfl (by decide) (by decide) (fun r u H locs hw hP hD hS => ?_)
  have hw : r = 0 := hw
  subst hw
  have hP : va_P (gg_D G) classes [(h0, .inr (12, [.ref (am 0), .int 0, .int 0, .ref (am 1), .ref (am 2), .ref (am 3), .ref (am 4), .ref (am 5), .int 0, .int 0, .int 0, .int 0, .int 0, .int 0, .int 0, .ref (am 6), .int 0, .ref (am 7), .int 0, .ref (am 8), .ref (am 9), .int (-1), .int 0, .int 0, .int (-1), .int 0, .ref (am 10), .int 0, .ref (am 11), .ref (am 12), .ref (am 13), .ref (am 14), .long 0, .ref (am 15), .ref (am 16), .ref (am 17), .ref (am 18)])), ((am 9), .inl (G.2.2 0, 110, .inl (fun _ => 0)))] H := hP
  have hD : va_D A [(h0, .inr (12, [.ref (am 0), .int 0, .int 0, .ref (am 1), .ref (am 2), .ref (am 3), .ref (am 4), .ref (am 5), .int 0, .int 0, .int 0, .int 0, .int 0, .int 0, .int 0, .ref (am 6), .int 0, .ref (am 7), .int 0, .ref (am 8), .ref (am 9), .int (-1), .int 0, .int 0, .int (-1), .int 0, .ref (am 10), .int 0, .ref (am 11), .ref (am 12), .ref (am 13), .ref (am 14), .long 0, .ref (am 15), .ref (am 16), .ref (am 17), .ref (am 18)])), ((am 9), .inl (G.2.2 0, 110, .inl (fun _ => 0)))] := hD
  refine lv_if_eq (tgt := 20) hx hb dX12_lot_5 (by decide) (fun _ => ?_) (fun c0 => absurd (by decide +kernel) c0)
  refine lv_bipush (v := (-2)) hx hb dX12_lot_20 (by decide +kernel) ?_
  have hP9 := hP.sub (ws' := []) [] rfl
  have hD9 := hD.sub (ws' := []) [] (by decide) rfl
  exact W.iret (v := (-2)) hx hb hr (gq_endI () rfl hP9 hD9 hS) hS.2.2 dX12_lot_22
set_option maxHeartbeats 4000000 in
set_option maxRecDepth 100000 in
theorem c_M_worth (l : Launch) (G : gg_T) (sz : Nat) (h0 : Nat) (am : Nat → Nat) (b : Int32) (w : Int32) : Met l yX12_worth (ts_L yX12_worth cX12_worth 3 (some .int)) ({ frames := 1, cells := 0, slots := 0, locals := 21 }) (gc_P G [(h0, .inr (12, [.ref (am 0), .int 0, .int 0, .ref (am 1), .ref (am 2), .ref (am 3), .ref (am 4), .ref (am 5), .int 0, .int 0, .int 0, .int 0, .int 0, .int 0, .int 0, .ref (am 6), .int 0, .ref (am 7), .int 0, .ref (am 8), .ref (am 9), .int (-1), .int 0, .int 0, .int (-1), .int 0, .ref (am 10), .int 0, .ref (am 11), .ref (am 12), .ref (am 13), .ref (am 14), .long 0, .ref (am 15), .ref (am 16), .ref (am 17), .ref (am 18)])), ((am 9), .inl (G.2.2 0, 110, .inl (fun _ => 0)))] sz [.ref h0, .int b, .int w]) (gc_I G (va_A [(h0, .inr (12, [.ref (am 0), .int 0, .int 0, .ref (am 1), .ref (am 2), .ref (am 3), .ref (am 4), .ref (am 5), .int 0, .int 0, .int 0, .int 0, .int 0, .int 0, .int 0, .ref (am 6), .int 0, .ref (am 7), .int 0, .ref (am 8), .ref (am 9), .int (-1), .int 0, .int 0, .int (-1), .int 0, .ref (am 10), .int 0, .ref (am 11), .ref (am 12), .ref (am 13), .ref (am 14), .long 0, .ref (am 15), .ref (am 16), .ref (am 17), .ref (am 18)])), ((am 9), .inl (G.2.2 0, 110, .inl (fun _ => 0)))] sz) (fun r (_ : Unit) => r = (-1)) (fun _ => [])) 0 0 (va_A [(h0, .inr (12, [.ref (am 0), .int 0, .int 0, .ref (am 1), .ref (am 2), .ref (am 3), .ref (am 4), .ref (am 5), .int 0, .int 0, .int 0, .int 0, .int 0, .int 0, .int 0, .ref (am 6), .int 0, .ref (am 7), .int 0, .ref (am 8), .ref (am 9), .int (-1), .int 0, .int 0, .int (-1), .int 0, .ref (am 10), .int 0, .ref (am 11), .ref (am 12), .ref (am 13), .ref (am 14), .long 0, .ref (am 15), .ref (am 16), .ref (am 17), .ref (am 18)])), ((am 9), .inl (G.2.2 0, 110, .inl (fun _ => 0)))] sz) := by
  refine Met.ofW (cc := cX12_worth) (maxL := 3) (ret := (some .int)) (by decide) rfl ?_
  intro p e s m args below meth c s₁ B hml hv
  obtain ⟨rfl, hsz, hP, hK, hD0⟩ := hv
  have hx := B.exec
  have hb := B.bytes
  have hr := B.returns
  have ht := ts_ht (atoms_spec (ws := ts_L yX12_worth cX12_worth 3 (some .int)) B.pre)
  have hown : s.vm.findClass RX12 = some m.cls := findClass_of_methodNamed B.named
  have hlocks := B.notSynchronized
  subst hsz
  have hD := hD0.self (sz := s.heap.size)
  generalize hAe : va_A [(h0, .inr (12, [.ref (am 0), .int 0, .int 0, .ref (am 1), .ref (am 2), .ref (am 3), .ref (am 4), .ref (am 5), .int 0, .int 0, .int 0, .int 0, .int 0, .int 0, .int 0, .ref (am 6), .int 0, .ref (am 7), .int 0, .ref (am 8), .ref (am 9), .int (-1), .int 0, .int 0, .int (-1), .int 0, .ref (am 10), .int 0, .ref (am 11), .ref (am 12), .ref (am 13), .ref (am 14), .long 0, .ref (am 15), .ref (am 16), .ref (am 17), .ref (am 18)])), ((am 9), .inl (G.2.2 0, 110, .inl (fun _ => 0)))] s.heap.size = A at hD ⊢
  have hA : ∀ q : Nat, s.heap.size ≤ q → A q := fun q h => by rw [← hAe]; exact Or.inr h
  have hS : va_S A s.heap s.heap [] := va_S.rf
  have hl := lv_entry ([.ref h0, .int b, .int w]) (n := 3) (Nat.le_of_ble_eq_true rfl)
  rw [lg_entry_eq]
  generalize (lg_sl ([.ref h0, .int b, .int w]) ++ List.replicate (3 - (lg_sl ([.ref h0, .int b, .int w])).length) Slot.unset).toArray = ls at hl ⊢
  have hl : lv_has ls 3 [(0, .ref h0), (1, .int b), (2, .int w)] := hl
  refine lv_aload_n hx hb dX12_worth_0 rfl (lv_at hl 0 rfl) ?_
  refine lv_iload_n hx hb dX12_worth_1 rfl (lv_at hl 1 rfl) ?_
  have hPc := hP.sub (ws' := [(h0, .inr (12, [.ref (am 0), .int 0, .int 0, .ref (am 1), .ref (am 2), .ref (am 3), .ref (am 4), .ref (am 5), .int 0, .int 0, .int 0, .int 0, .int 0, .int 0, .int 0, .ref (am 6), .int 0, .ref (am 7), .int 0, .ref (am 8), .ref (am 9), .int (-1), .int 0, .int 0, .int (-1), .int 0, .ref (am 10), .int 0, .ref (am 11), .ref (am 12), .ref (am 13), .ref (am 14), .long 0, .ref (am 15), .ref (am 16), .ref (am 17), .ref (am 18)])), ((am 9), .inl (G.2.2 0, 110, .inl (fun _ => 0)))]) [0, 1] rfl
  have hDc := hD.sub (ws' := [(h0, .inr (12, [.ref (am 0), .int 0, .int 0, .ref (am 1), .ref (am 2), .ref (am 3), .ref (am 4), .ref (am 5), .int 0, .int 0, .int 0, .int 0, .int 0, .int 0, .int 0, .ref (am 6), .int 0, .ref (am 7), .int 0, .ref (am 8), .ref (am 9), .int (-1), .int 0, .int 0, .int (-1), .int 0, .ref (am 10), .int 0, .ref (am 11), .ref (am 12), .ref (am 13), .ref (am 14), .long 0, .ref (am 15), .ref (am 16), .ref (am 17), .ref (am 18)])), ((am 9), .inl (G.2.2 0, 110, .inl (fun _ => 0)))]) [0, 1] (by decide) rfl
  refine gq_callI (wr := []) (va_runV (As := [.int b]) (rest := []) ⟨hx, hb, hml, hown, ht⟩ (c_M_isBidder l G s.heap.size h0 am b) (cwV 1 ht (ts_gV wd_1553 wd_1555 wd_73 wd_134 wd_1556) rfl rfl rfl (by decide +kernel) ⟨Nat.le_of_ble_eq_true rfl, Nat.le_of_ble_eq_true rfl⟩) (gc_preV (ci := 12) (q0 := 0) hK hPc hDc rfl rfl) rfl rfl hl.1 rfl (lv_room (Nat.le_of_ble_eq_true rfl)) dX12_worth_2 ⟨Nat.le_of_ble_eq_true rfl, Nat.le_of_ble_eq_true rfl⟩) hP hD hS hA [0, 1] [] rfl rfl (by decide) (by decide) (fun r u H locs hw hP hD hS => ?_)
  have hw : r = 0 := hw
  subst hw
  have hP : va_P (gg_D G) classes [(h0, .inr (12, [.ref (am 0), .int 0, .int 0, .ref (am 1), .ref (am 2), .ref (am 3), .ref (am 4), .ref (am 5), .int 0, .int 0, .int 0, .int 0, .int 0, .int 0, .int 0, .ref (am 6), .int 0, .ref (am 7), .int 0, .ref (am 8), .ref (am 9), .int (-1), .int 0, .int 0, .int (-1), .int 0, .ref (am 10), .int 0, .ref (am 11), .ref (am 12), .ref (am 13), .ref (am 14), .long 0, .ref (am 15), .ref (am 16), .ref (am 17), .ref (am 18)])), ((am 9), .inl (G.2.2 0, 110, .inl (fun _ => 0)))] H := hP
  have hD : va_D A [(h0, .inr (12, [.ref (am 0), .int 0, .int 0, .ref (am 1), .ref (am 2), .ref (am 3), .ref (am 4), .ref (am 5), .int 0, .int 0, .int 0, .int 0, .int 0, .int 0, .int 0, .ref (am 6), .int 0, .ref (am 7), .int 0, .ref (am 8), .ref (am 9), .int (-1), .int 0, .int 0, .int (-1), .int 0, .ref (am 10), .int 0, .ref (am 11), .ref (am 12), .ref (am 13), .ref (am 14), .long 0, .ref (am 15), .ref (am 16), .ref (am 17), .ref (am 18)])), ((am 9), .inl (G.2.2 0, 110, .inl (fun _ => 0)))] := hD
  refine lv_if_eq (tgt := 25) hx hb dX12_worth_5 (by decide) (fun _ => ?_) (fun c0 => absurd (by decide +kernel) c0)
  refine lv_iconst (v := (-1)) hx hb dX12_worth_25 (by decide) ?_
  have hP9 := hP.sub (ws' := []) [] rfl
  have hD9 := hD.sub (ws' := []) [] (by decide) rfl
  exact W.iret (v := (-1)) hx hb hr (gq_endI () rfl hP9 hD9 hS) hS.2.2 dX12_worth_26
set_option maxHeartbeats 4000000 in
set_option maxRecDepth 100000 in
theorem c_M_trick (l : Launch) (G : gg_T) (sz : Nat) (h0 : Nat) (am : Nat → Nat) (b : Int32) (w : Int32) : Met l yX12_trick (ts_L yX12_trick cX12_trick 3 (some .int)) ({ frames := 1, cells := 0, slots := 0, locals := 21 }) (gc_P G [(h0, .inr (12, [.ref (am 0), .int 0, .int 0, .ref (am 1), .ref (am 2), .ref (am 3), .ref (am 4), .ref (am 5), .int 0, .int 0, .int 0, .int 0, .int 0, .int 0, .int 0, .ref (am 6), .int 0, .ref (am 7), .int 0, .ref (am 8), .ref (am 9), .int (-1), .int 0, .int 0, .int (-1), .int 0, .ref (am 10), .int 0, .ref (am 11), .ref (am 12), .ref (am 13), .ref (am 14), .long 0, .ref (am 15), .ref (am 16), .ref (am 17), .ref (am 18)])), ((am 9), .inl (G.2.2 0, 110, .inl (fun _ => 0)))] sz [.ref h0, .int b, .int w]) (gc_I G (va_A [(h0, .inr (12, [.ref (am 0), .int 0, .int 0, .ref (am 1), .ref (am 2), .ref (am 3), .ref (am 4), .ref (am 5), .int 0, .int 0, .int 0, .int 0, .int 0, .int 0, .int 0, .ref (am 6), .int 0, .ref (am 7), .int 0, .ref (am 8), .ref (am 9), .int (-1), .int 0, .int 0, .int (-1), .int 0, .ref (am 10), .int 0, .ref (am 11), .ref (am 12), .ref (am 13), .ref (am 14), .long 0, .ref (am 15), .ref (am 16), .ref (am 17), .ref (am 18)])), ((am 9), .inl (G.2.2 0, 110, .inl (fun _ => 0)))] sz) (fun r (_ : Unit) => r = (-1)) (fun _ => [])) 0 0 (va_A [(h0, .inr (12, [.ref (am 0), .int 0, .int 0, .ref (am 1), .ref (am 2), .ref (am 3), .ref (am 4), .ref (am 5), .int 0, .int 0, .int 0, .int 0, .int 0, .int 0, .int 0, .ref (am 6), .int 0, .ref (am 7), .int 0, .ref (am 8), .ref (am 9), .int (-1), .int 0, .int 0, .int (-1), .int 0, .ref (am 10), .int 0, .ref (am 11), .ref (am 12), .ref (am 13), .ref (am 14), .long 0, .ref (am 15), .ref (am 16), .ref (am 17), .ref (am 18)])), ((am 9), .inl (G.2.2 0, 110, .inl (fun _ => 0)))] sz) := by
  refine Met.ofW (cc := cX12_trick) (maxL := 3) (ret := (some .int)) (by decide) rfl ?_
  intro p e s m args below meth c s₁ B hml hv
  obtain ⟨rfl, hsz, hP, hK, hD0⟩ := hv
  have hx := B.exec
  have hb := B.bytes
  have hr := B.returns
  have ht := ts_ht (atoms_spec (ws := ts_L yX12_trick cX12_trick 3 (some .int)) B.pre)
  have hown : s.vm.findClass RX12 = some m.cls := findClass_of_methodNamed B.named
  have hlocks := B.notSynchronized
  subst hsz
  have hD := hD0.self (sz := s.heap.size)
  generalize hAe : va_A [(h0, .inr (12, [.ref (am 0), .int 0, .int 0, .ref (am 1), .ref (am 2), .ref (am 3), .ref (am 4), .ref (am 5), .int 0, .int 0, .int 0, .int 0, .int 0, .int 0, .int 0, .ref (am 6), .int 0, .ref (am 7), .int 0, .ref (am 8), .ref (am 9), .int (-1), .int 0, .int 0, .int (-1), .int 0, .ref (am 10), .int 0, .ref (am 11), .ref (am 12), .ref (am 13), .ref (am 14), .long 0, .ref (am 15), .ref (am 16), .ref (am 17), .ref (am 18)])), ((am 9), .inl (G.2.2 0, 110, .inl (fun _ => 0)))] s.heap.size = A at hD ⊢
  have hA : ∀ q : Nat, s.heap.size ≤ q → A q := fun q h => by rw [← hAe]; exact Or.inr h
  have hS : va_S A s.heap s.heap [] := va_S.rf
  have hl := lv_entry ([.ref h0, .int b, .int w]) (n := 3) (Nat.le_of_ble_eq_true rfl)
  rw [lg_entry_eq]
  generalize (lg_sl ([.ref h0, .int b, .int w]) ++ List.replicate (3 - (lg_sl ([.ref h0, .int b, .int w])).length) Slot.unset).toArray = ls at hl ⊢
  have hl : lv_has ls 3 [(0, .ref h0), (1, .int b), (2, .int w)] := hl
  refine lv_aload_n hx hb dX12_trick_0 rfl (lv_at hl 0 rfl) ?_
  refine lv_iload_n hx hb dX12_trick_1 rfl (lv_at hl 1 rfl) ?_
  have hPc := hP.sub (ws' := [(h0, .inr (12, [.ref (am 0), .int 0, .int 0, .ref (am 1), .ref (am 2), .ref (am 3), .ref (am 4), .ref (am 5), .int 0, .int 0, .int 0, .int 0, .int 0, .int 0, .int 0, .ref (am 6), .int 0, .ref (am 7), .int 0, .ref (am 8), .ref (am 9), .int (-1), .int 0, .int 0, .int (-1), .int 0, .ref (am 10), .int 0, .ref (am 11), .ref (am 12), .ref (am 13), .ref (am 14), .long 0, .ref (am 15), .ref (am 16), .ref (am 17), .ref (am 18)])), ((am 9), .inl (G.2.2 0, 110, .inl (fun _ => 0)))]) [0, 1] rfl
  have hDc := hD.sub (ws' := [(h0, .inr (12, [.ref (am 0), .int 0, .int 0, .ref (am 1), .ref (am 2), .ref (am 3), .ref (am 4), .ref (am 5), .int 0, .int 0, .int 0, .int 0, .int 0, .int 0, .int 0, .ref (am 6), .int 0, .ref (am 7), .int 0, .ref (am 8), .ref (am 9), .int (-1), .int 0, .int 0, .int (-1), .int 0, .ref (am 10), .int 0, .ref (am 11), .ref (am 12), .ref (am 13), .ref (am 14), .long 0, .ref (am 15), .ref (am 16), .ref (am 17), .ref (am 18)])), ((am 9), .inl (G.2.2 0, 110, .inl (fun _ => 0)))]) [0, 1] (by decide) rfl
  refine gq_callI (wr := []) (va_runV (As := [.int b]) (rest := []) ⟨hx, hb, hml, hown, ht⟩ (c_M_isTrick l G s.heap.size h0 am b) (cwV 1 ht (ts_gV wd_1607 wd_1609 wd_83 wd_134 wd_1610) rfl rfl rfl (by decide +kernel) ⟨Nat.le_of_ble_eq_true rfl, Nat.le_of_ble_eq_true rfl⟩) (gc_preV (ci := 12) (q0 := 0) hK hPc hDc rfl rfl) rfl rfl hl.1 rfl (lv_room (Nat.le_of_ble_eq_true rfl)) dX12_trick_2 ⟨Nat.le_of_ble_eq_true rfl, Nat.le_of_ble_eq_true rfl⟩) hP hD hS hA [0, 1] [] rfl rfl (by decide) (by decide) (fun r u H locs hw hP hD hS => ?_)
  have hw : r = 0 := hw
  subst hw
  have hP : va_P (gg_D G) classes [(h0, .inr (12, [.ref (am 0), .int 0, .int 0, .ref (am 1), .ref (am 2), .ref (am 3), .ref (am 4), .ref (am 5), .int 0, .int 0, .int 0, .int 0, .int 0, .int 0, .int 0, .ref (am 6), .int 0, .ref (am 7), .int 0, .ref (am 8), .ref (am 9), .int (-1), .int 0, .int 0, .int (-1), .int 0, .ref (am 10), .int 0, .ref (am 11), .ref (am 12), .ref (am 13), .ref (am 14), .long 0, .ref (am 15), .ref (am 16), .ref (am 17), .ref (am 18)])), ((am 9), .inl (G.2.2 0, 110, .inl (fun _ => 0)))] H := hP
  have hD : va_D A [(h0, .inr (12, [.ref (am 0), .int 0, .int 0, .ref (am 1), .ref (am 2), .ref (am 3), .ref (am 4), .ref (am 5), .int 0, .int 0, .int 0, .int 0, .int 0, .int 0, .int 0, .ref (am 6), .int 0, .ref (am 7), .int 0, .ref (am 8), .ref (am 9), .int (-1), .int 0, .int 0, .int (-1), .int 0, .ref (am 10), .int 0, .ref (am 11), .ref (am 12), .ref (am 13), .ref (am 14), .long 0, .ref (am 15), .ref (am 16), .ref (am 17), .ref (am 18)])), ((am 9), .inl (G.2.2 0, 110, .inl (fun _ => 0)))] := hD
  refine lv_if_eq (tgt := 34) hx hb dX12_trick_5 (by decide) (fun _ => ?_) (fun c0 => absurd (by decide +kernel) c0)
  refine lv_iconst (v := (-1)) hx hb dX12_trick_34 (by decide) ?_
  have hP9 := hP.sub (ws' := []) [] rfl
  have hD9 := hD.sub (ws' := []) [] (by decide) rfl
  exact W.iret (v := (-1)) hx hb hr (gq_endI () rfl hP9 hD9 hS) hS.2.2 dX12_trick_35
set_option maxHeartbeats 4000000 in
set_option maxRecDepth 100000 in
theorem c_M_minute (l : Launch) (G : gg_T) (sz : Nat) (h0 : Nat) (am : Nat → Nat) : Met l yX12_minute (ts_L yX12_minute cX12_minute 1 (some .int)) ({ frames := 1, cells := 0, slots := 0, locals := 23 }) (gc_P G [(h0, .inr (12, [.ref (am 0), .int 0, .int 0, .ref (am 1), .ref (am 2), .ref (am 3), .ref (am 4), .ref (am 5), .int 0, .int 0, .int 0, .int 0, .int 0, .int 0, .int 0, .ref (am 6), .int 0, .ref (am 7), .int 0, .ref (am 8), .ref (am 9), .int (-1), .int 0, .int 0, .int (-1), .int 0, .ref (am 10), .int 0, .ref (am 11), .ref (am 12), .ref (am 13), .ref (am 14), .long 0, .ref (am 15), .ref (am 16), .ref (am 17), .ref (am 18)])), ((am 9), .inl (G.2.2 0, 110, .inl (fun _ => 0)))] sz [.ref h0]) (gc_I G (va_A [(h0, .inr (12, [.ref (am 0), .int 0, .int 0, .ref (am 1), .ref (am 2), .ref (am 3), .ref (am 4), .ref (am 5), .int 0, .int 0, .int 0, .int 0, .int 0, .int 0, .int 0, .ref (am 6), .int 0, .ref (am 7), .int 0, .ref (am 8), .ref (am 9), .int (-1), .int 0, .int 0, .int (-1), .int 0, .ref (am 10), .int 0, .ref (am 11), .ref (am 12), .ref (am 13), .ref (am 14), .long 0, .ref (am 15), .ref (am 16), .ref (am 17), .ref (am 18)])), ((am 9), .inl (G.2.2 0, 110, .inl (fun _ => 0)))] sz) (fun r (_ : Unit) => r = (-1)) (fun _ => [])) 0 0 (va_A [(h0, .inr (12, [.ref (am 0), .int 0, .int 0, .ref (am 1), .ref (am 2), .ref (am 3), .ref (am 4), .ref (am 5), .int 0, .int 0, .int 0, .int 0, .int 0, .int 0, .int 0, .ref (am 6), .int 0, .ref (am 7), .int 0, .ref (am 8), .ref (am 9), .int (-1), .int 0, .int 0, .int (-1), .int 0, .ref (am 10), .int 0, .ref (am 11), .ref (am 12), .ref (am 13), .ref (am 14), .long 0, .ref (am 15), .ref (am 16), .ref (am 17), .ref (am 18)])), ((am 9), .inl (G.2.2 0, 110, .inl (fun _ => 0)))] sz) := by
  refine Met.ofW (cc := cX12_minute) (maxL := 1) (ret := (some .int)) (by decide) rfl ?_
  intro p e s m args below meth c s₁ B hml hv
  obtain ⟨rfl, hsz, hP, hK, hD0⟩ := hv
  have hx := B.exec
  have hb := B.bytes
  have hr := B.returns
  have ht := ts_ht (atoms_spec (ws := ts_L yX12_minute cX12_minute 1 (some .int)) B.pre)
  have hown : s.vm.findClass RX12 = some m.cls := findClass_of_methodNamed B.named
  have hlocks := B.notSynchronized
  subst hsz
  have hD := hD0.self (sz := s.heap.size)
  generalize hAe : va_A [(h0, .inr (12, [.ref (am 0), .int 0, .int 0, .ref (am 1), .ref (am 2), .ref (am 3), .ref (am 4), .ref (am 5), .int 0, .int 0, .int 0, .int 0, .int 0, .int 0, .int 0, .ref (am 6), .int 0, .ref (am 7), .int 0, .ref (am 8), .ref (am 9), .int (-1), .int 0, .int 0, .int (-1), .int 0, .ref (am 10), .int 0, .ref (am 11), .ref (am 12), .ref (am 13), .ref (am 14), .long 0, .ref (am 15), .ref (am 16), .ref (am 17), .ref (am 18)])), ((am 9), .inl (G.2.2 0, 110, .inl (fun _ => 0)))] s.heap.size = A at hD ⊢
  have hA : ∀ q : Nat, s.heap.size ≤ q → A q := fun q h => by rw [← hAe]; exact Or.inr h
  have hS : va_S A s.heap s.heap [] := va_S.rf
  have hl := lv_entry ([.ref h0]) (n := 1) (Nat.le_of_ble_eq_true rfl)
  rw [lg_entry_eq]
  generalize (lg_sl ([.ref h0]) ++ List.replicate (1 - (lg_sl ([.ref h0])).length) Slot.unset).toArray = ls at hl ⊢
  have hl : lv_has ls 1 [(0, .ref h0)] := hl
  refine lv_aload_n hx hb dX12_minute_0 rfl (lv_at hl 0 rfl) ?_
  refine lv_iconst (v := 1) hx hb dX12_minute_1 (by decide) ?_
  have hPc := hP.sub (ws' := [(h0, .inr (12, [.ref (am 0), .int 0, .int 0, .ref (am 1), .ref (am 2), .ref (am 3), .ref (am 4), .ref (am 5), .int 0, .int 0, .int 0, .int 0, .int 0, .int 0, .int 0, .ref (am 6), .int 0, .ref (am 7), .int 0, .ref (am 8), .ref (am 9), .int (-1), .int 0, .int 0, .int (-1), .int 0, .ref (am 10), .int 0, .ref (am 11), .ref (am 12), .ref (am 13), .ref (am 14), .long 0, .ref (am 15), .ref (am 16), .ref (am 17), .ref (am 18)])), ((am 9), .inl (G.2.2 0, 110, .inl (fun _ => 0)))]) [0, 1] rfl
  have hDc := hD.sub (ws' := [(h0, .inr (12, [.ref (am 0), .int 0, .int 0, .ref (am 1), .ref (am 2), .ref (am 3), .ref (am 4), .ref (am 5), .int 0, .int 0, .int 0, .int 0, .int 0, .int 0, .int 0, .ref (am 6), .int 0, .ref (am 7), .int 0, .ref (am 8), .ref (am 9), .int (-1), .int 0, .int 0, .int (-1), .int 0, .ref (am 10), .int 0, .ref (am 11), .ref (am 12), .ref (am 13), .ref (am 14), .long 0, .ref (am 15), .ref (am 16), .ref (am 17), .ref (am 18)])), ((am 9), .inl (G.2.2 0, 110, .inl (fun _ => 0)))]) [0, 1] (by decide) rfl
  refine gq_callI (wr := []) (va_runV (As := [.int 1]) (rest := []) ⟨hx, hb, hml, hown, ht⟩ (c_M_lotsIn1 l G s.heap.size h0 am) (cwV 1 ht (ts_gV wd_1619 wd_1621 wd_84 wd_134 wd_1622) rfl rfl rfl (by decide +kernel) ⟨Nat.le_of_ble_eq_true rfl, Nat.le_of_ble_eq_true rfl⟩) (gc_preV (ci := 12) (q0 := 0) hK hPc hDc rfl rfl) rfl rfl hl.1 rfl (lv_room (Nat.le_of_ble_eq_true rfl)) dX12_minute_2 ⟨Nat.le_of_ble_eq_true rfl, Nat.le_of_ble_eq_true rfl⟩) hP hD hS hA [0, 1] [] rfl rfl (by decide) (by decide) (fun r u H locs hw hP hD hS => ?_)
  have hw : r = 0 := hw
  subst hw
  have hP : va_P (gg_D G) classes [(h0, .inr (12, [.ref (am 0), .int 0, .int 0, .ref (am 1), .ref (am 2), .ref (am 3), .ref (am 4), .ref (am 5), .int 0, .int 0, .int 0, .int 0, .int 0, .int 0, .int 0, .ref (am 6), .int 0, .ref (am 7), .int 0, .ref (am 8), .ref (am 9), .int (-1), .int 0, .int 0, .int (-1), .int 0, .ref (am 10), .int 0, .ref (am 11), .ref (am 12), .ref (am 13), .ref (am 14), .long 0, .ref (am 15), .ref (am 16), .ref (am 17), .ref (am 18)])), ((am 9), .inl (G.2.2 0, 110, .inl (fun _ => 0)))] H := hP
  have hD : va_D A [(h0, .inr (12, [.ref (am 0), .int 0, .int 0, .ref (am 1), .ref (am 2), .ref (am 3), .ref (am 4), .ref (am 5), .int 0, .int 0, .int 0, .int 0, .int 0, .int 0, .int 0, .ref (am 6), .int 0, .ref (am 7), .int 0, .ref (am 8), .ref (am 9), .int (-1), .int 0, .int 0, .int (-1), .int 0, .ref (am 10), .int 0, .ref (am 11), .ref (am 12), .ref (am 13), .ref (am 14), .long 0, .ref (am 15), .ref (am 16), .ref (am 17), .ref (am 18)])), ((am 9), .inl (G.2.2 0, 110, .inl (fun _ => 0)))] := hD
  refine lv_if_eq (tgt := 21) hx hb dX12_minute_5 (by decide) (fun _ => ?_) (fun c0 => absurd (by decide +kernel) c0)
  refine lv_iconst (v := (-1)) hx hb dX12_minute_21 (by decide) ?_
  have hP9 := hP.sub (ws' := []) [] rfl
  have hD9 := hD.sub (ws' := []) [] (by decide) rfl
  exact W.iret (v := (-1)) hx hb hr (gq_endI () rfl hP9 hD9 hS) hS.2.2 dX12_minute_22
set_option maxHeartbeats 4000000 in
set_option maxRecDepth 100000 in
theorem c_M_sit (l : Launch) (G : gg_T) (sz : Nat) (h0 : Nat) (am : Nat → Nat) (b : Int32) (w : Int32) : Met l yX12_sit (ts_L yX12_sit cX12_sit 4 (some .int)) ({ frames := 1, cells := 0, slots := 0, locals := 21 }) (gc_P G [(h0, .inr (12, [.ref (am 0), .int 0, .int 0, .ref (am 1), .ref (am 2), .ref (am 3), .ref (am 4), .ref (am 5), .int 0, .int 0, .int 0, .int 0, .int 0, .int 0, .int 0, .ref (am 6), .int 0, .ref (am 7), .int 0, .ref (am 8), .ref (am 9), .int (-1), .int 0, .int 0, .int (-1), .int 0, .ref (am 10), .int 0, .ref (am 11), .ref (am 12), .ref (am 13), .ref (am 14), .long 0, .ref (am 15), .ref (am 16), .ref (am 17), .ref (am 18)])), ((am 9), .inl (G.2.2 0, 110, .inl (fun _ => 0)))] sz [.ref h0, .int b, .int w]) (gc_I G (va_A [(h0, .inr (12, [.ref (am 0), .int 0, .int 0, .ref (am 1), .ref (am 2), .ref (am 3), .ref (am 4), .ref (am 5), .int 0, .int 0, .int 0, .int 0, .int 0, .int 0, .int 0, .ref (am 6), .int 0, .ref (am 7), .int 0, .ref (am 8), .ref (am 9), .int (-1), .int 0, .int 0, .int (-1), .int 0, .ref (am 10), .int 0, .ref (am 11), .ref (am 12), .ref (am 13), .ref (am 14), .long 0, .ref (am 15), .ref (am 16), .ref (am 17), .ref (am 18)])), ((am 9), .inl (G.2.2 0, 110, .inl (fun _ => 0)))] sz) (fun r (_ : Unit) => r = (-2)) (fun _ => [])) 0 0 (va_A [(h0, .inr (12, [.ref (am 0), .int 0, .int 0, .ref (am 1), .ref (am 2), .ref (am 3), .ref (am 4), .ref (am 5), .int 0, .int 0, .int 0, .int 0, .int 0, .int 0, .int 0, .ref (am 6), .int 0, .ref (am 7), .int 0, .ref (am 8), .ref (am 9), .int (-1), .int 0, .int 0, .int (-1), .int 0, .ref (am 10), .int 0, .ref (am 11), .ref (am 12), .ref (am 13), .ref (am 14), .long 0, .ref (am 15), .ref (am 16), .ref (am 17), .ref (am 18)])), ((am 9), .inl (G.2.2 0, 110, .inl (fun _ => 0)))] sz) := by
  refine Met.ofW (cc := cX12_sit) (maxL := 4) (ret := (some .int)) (by decide) rfl ?_
  intro p e s m args below meth c s₁ B hml hv
  obtain ⟨rfl, hsz, hP, hK, hD0⟩ := hv
  have hx := B.exec
  have hb := B.bytes
  have hr := B.returns
  have ht := ts_ht (atoms_spec (ws := ts_L yX12_sit cX12_sit 4 (some .int)) B.pre)
  have hown : s.vm.findClass RX12 = some m.cls := findClass_of_methodNamed B.named
  have hlocks := B.notSynchronized
  subst hsz
  have hD := hD0.self (sz := s.heap.size)
  generalize hAe : va_A [(h0, .inr (12, [.ref (am 0), .int 0, .int 0, .ref (am 1), .ref (am 2), .ref (am 3), .ref (am 4), .ref (am 5), .int 0, .int 0, .int 0, .int 0, .int 0, .int 0, .int 0, .ref (am 6), .int 0, .ref (am 7), .int 0, .ref (am 8), .ref (am 9), .int (-1), .int 0, .int 0, .int (-1), .int 0, .ref (am 10), .int 0, .ref (am 11), .ref (am 12), .ref (am 13), .ref (am 14), .long 0, .ref (am 15), .ref (am 16), .ref (am 17), .ref (am 18)])), ((am 9), .inl (G.2.2 0, 110, .inl (fun _ => 0)))] s.heap.size = A at hD ⊢
  have hA : ∀ q : Nat, s.heap.size ≤ q → A q := fun q h => by rw [← hAe]; exact Or.inr h
  have hS : va_S A s.heap s.heap [] := va_S.rf
  have hl := lv_entry ([.ref h0, .int b, .int w]) (n := 4) (Nat.le_of_ble_eq_true rfl)
  rw [lg_entry_eq]
  generalize (lg_sl ([.ref h0, .int b, .int w]) ++ List.replicate (4 - (lg_sl ([.ref h0, .int b, .int w])).length) Slot.unset).toArray = ls at hl ⊢
  have hl : lv_has ls 4 [(0, .ref h0), (1, .int b), (2, .int w)] := hl
  refine lv_aload_n hx hb dX12_sit_0 rfl (lv_at hl 0 rfl) ?_
  refine lv_iload_n hx hb dX12_sit_1 rfl (lv_at hl 1 rfl) ?_
  have hPc := hP.sub (ws' := [(h0, .inr (12, [.ref (am 0), .int 0, .int 0, .ref (am 1), .ref (am 2), .ref (am 3), .ref (am 4), .ref (am 5), .int 0, .int 0, .int 0, .int 0, .int 0, .int 0, .int 0, .ref (am 6), .int 0, .ref (am 7), .int 0, .ref (am 8), .ref (am 9), .int (-1), .int 0, .int 0, .int (-1), .int 0, .ref (am 10), .int 0, .ref (am 11), .ref (am 12), .ref (am 13), .ref (am 14), .long 0, .ref (am 15), .ref (am 16), .ref (am 17), .ref (am 18)])), ((am 9), .inl (G.2.2 0, 110, .inl (fun _ => 0)))]) [0, 1] rfl
  have hDc := hD.sub (ws' := [(h0, .inr (12, [.ref (am 0), .int 0, .int 0, .ref (am 1), .ref (am 2), .ref (am 3), .ref (am 4), .ref (am 5), .int 0, .int 0, .int 0, .int 0, .int 0, .int 0, .int 0, .ref (am 6), .int 0, .ref (am 7), .int 0, .ref (am 8), .ref (am 9), .int (-1), .int 0, .int 0, .int (-1), .int 0, .ref (am 10), .int 0, .ref (am 11), .ref (am 12), .ref (am 13), .ref (am 14), .long 0, .ref (am 15), .ref (am 16), .ref (am 17), .ref (am 18)])), ((am 9), .inl (G.2.2 0, 110, .inl (fun _ => 0)))]) [0, 1] (by decide) rfl
  refine gq_callI (wr := []) (va_runV (As := [.int b]) (rest := []) ⟨hx, hb, hml, hown, ht⟩ (c_M_isBidder l G s.heap.size h0 am b) (cwV 1 ht (ts_gV wd_1553 wd_1555 wd_73 wd_134 wd_1556) rfl rfl rfl (by decide +kernel) ⟨Nat.le_of_ble_eq_true rfl, Nat.le_of_ble_eq_true rfl⟩) (gc_preV (ci := 12) (q0 := 0) hK hPc hDc rfl rfl) rfl rfl hl.1 rfl (lv_room (Nat.le_of_ble_eq_true rfl)) dX12_sit_2 ⟨Nat.le_of_ble_eq_true rfl, Nat.le_of_ble_eq_true rfl⟩) hP hD hS hA [0, 1] [] rfl rfl (by decide) (by decide) (fun r u H locs hw hP hD hS => ?_)
  have hw : r = 0 := hw
  subst hw
  have hP : va_P (gg_D G) classes [(h0, .inr (12, [.ref (am 0), .int 0, .int 0, .ref (am 1), .ref (am 2), .ref (am 3), .ref (am 4), .ref (am 5), .int 0, .int 0, .int 0, .int 0, .int 0, .int 0, .int 0, .ref (am 6), .int 0, .ref (am 7), .int 0, .ref (am 8), .ref (am 9), .int (-1), .int 0, .int 0, .int (-1), .int 0, .ref (am 10), .int 0, .ref (am 11), .ref (am 12), .ref (am 13), .ref (am 14), .long 0, .ref (am 15), .ref (am 16), .ref (am 17), .ref (am 18)])), ((am 9), .inl (G.2.2 0, 110, .inl (fun _ => 0)))] H := hP
  have hD : va_D A [(h0, .inr (12, [.ref (am 0), .int 0, .int 0, .ref (am 1), .ref (am 2), .ref (am 3), .ref (am 4), .ref (am 5), .int 0, .int 0, .int 0, .int 0, .int 0, .int 0, .int 0, .ref (am 6), .int 0, .ref (am 7), .int 0, .ref (am 8), .ref (am 9), .int (-1), .int 0, .int 0, .int (-1), .int 0, .ref (am 10), .int 0, .ref (am 11), .ref (am 12), .ref (am 13), .ref (am 14), .long 0, .ref (am 15), .ref (am 16), .ref (am 17), .ref (am 18)])), ((am 9), .inl (G.2.2 0, 110, .inl (fun _ => 0)))] := hD
  refine lv_if_eq (tgt := 26) hx hb dX12_sit_5 (by decide) (fun _ => ?_) (fun c0 => absurd (by decide +kernel) c0)
  refine lv_bipush (v := (-2)) hx hb dX12_sit_26 (by decide +kernel) ?_
  have hP9 := hP.sub (ws' := []) [] rfl
  have hD9 := hD.sub (ws' := []) [] (by decide) rfl
  exact W.iret (v := (-2)) hx hb hr (gq_endI () rfl hP9 hD9 hS) hS.2.2 dX12_sit_28
set_option maxHeartbeats 4000000 in
set_option maxRecDepth 100000 in
theorem c_M_bell (l : Launch) (G : gg_T) (sz : Nat) (h0 : Nat) (am : Nat → Nat) (b : Int32) : Met l yX12_bell (ts_L yX12_bell cX12_bell 3 (some .int)) ({ frames := 1, cells := 0, slots := 0, locals := 21 }) (gc_P G [(h0, .inr (12, [.ref (am 0), .int 0, .int 0, .ref (am 1), .ref (am 2), .ref (am 3), .ref (am 4), .ref (am 5), .int 0, .int 0, .int 0, .int 0, .int 0, .int 0, .int 0, .ref (am 6), .int 0, .ref (am 7), .int 0, .ref (am 8), .ref (am 9), .int (-1), .int 0, .int 0, .int (-1), .int 0, .ref (am 10), .int 0, .ref (am 11), .ref (am 12), .ref (am 13), .ref (am 14), .long 0, .ref (am 15), .ref (am 16), .ref (am 17), .ref (am 18)])), ((am 9), .inl (G.2.2 0, 110, .inl (fun _ => 0)))] sz [.ref h0, .int b]) (gc_I G (va_A [(h0, .inr (12, [.ref (am 0), .int 0, .int 0, .ref (am 1), .ref (am 2), .ref (am 3), .ref (am 4), .ref (am 5), .int 0, .int 0, .int 0, .int 0, .int 0, .int 0, .int 0, .ref (am 6), .int 0, .ref (am 7), .int 0, .ref (am 8), .ref (am 9), .int (-1), .int 0, .int 0, .int (-1), .int 0, .ref (am 10), .int 0, .ref (am 11), .ref (am 12), .ref (am 13), .ref (am 14), .long 0, .ref (am 15), .ref (am 16), .ref (am 17), .ref (am 18)])), ((am 9), .inl (G.2.2 0, 110, .inl (fun _ => 0)))] sz) (fun r (_ : Unit) => r = (-1)) (fun _ => [])) 0 0 (va_A [(h0, .inr (12, [.ref (am 0), .int 0, .int 0, .ref (am 1), .ref (am 2), .ref (am 3), .ref (am 4), .ref (am 5), .int 0, .int 0, .int 0, .int 0, .int 0, .int 0, .int 0, .ref (am 6), .int 0, .ref (am 7), .int 0, .ref (am 8), .ref (am 9), .int (-1), .int 0, .int 0, .int (-1), .int 0, .ref (am 10), .int 0, .ref (am 11), .ref (am 12), .ref (am 13), .ref (am 14), .long 0, .ref (am 15), .ref (am 16), .ref (am 17), .ref (am 18)])), ((am 9), .inl (G.2.2 0, 110, .inl (fun _ => 0)))] sz) := by
  refine Met.ofW (cc := cX12_bell) (maxL := 3) (ret := (some .int)) (by decide) rfl ?_
  intro p e s m args below meth c s₁ B hml hv
  obtain ⟨rfl, hsz, hP, hK, hD0⟩ := hv
  have hx := B.exec
  have hb := B.bytes
  have hr := B.returns
  have ht := ts_ht (atoms_spec (ws := ts_L yX12_bell cX12_bell 3 (some .int)) B.pre)
  have hown : s.vm.findClass RX12 = some m.cls := findClass_of_methodNamed B.named
  have hlocks := B.notSynchronized
  subst hsz
  have hD := hD0.self (sz := s.heap.size)
  generalize hAe : va_A [(h0, .inr (12, [.ref (am 0), .int 0, .int 0, .ref (am 1), .ref (am 2), .ref (am 3), .ref (am 4), .ref (am 5), .int 0, .int 0, .int 0, .int 0, .int 0, .int 0, .int 0, .ref (am 6), .int 0, .ref (am 7), .int 0, .ref (am 8), .ref (am 9), .int (-1), .int 0, .int 0, .int (-1), .int 0, .ref (am 10), .int 0, .ref (am 11), .ref (am 12), .ref (am 13), .ref (am 14), .long 0, .ref (am 15), .ref (am 16), .ref (am 17), .ref (am 18)])), ((am 9), .inl (G.2.2 0, 110, .inl (fun _ => 0)))] s.heap.size = A at hD ⊢
  have hA : ∀ q : Nat, s.heap.size ≤ q → A q := fun q h => by rw [← hAe]; exact Or.inr h
  have hS : va_S A s.heap s.heap [] := va_S.rf
  have hl := lv_entry ([.ref h0, .int b]) (n := 3) (Nat.le_of_ble_eq_true rfl)
  rw [lg_entry_eq]
  generalize (lg_sl ([.ref h0, .int b]) ++ List.replicate (3 - (lg_sl ([.ref h0, .int b])).length) Slot.unset).toArray = ls at hl ⊢
  have hl : lv_has ls 3 [(0, .ref h0), (1, .int b)] := hl
  refine lv_aload_n hx hb dX12_bell_0 rfl (lv_at hl 0 rfl) ?_
  refine lv_iload_n hx hb dX12_bell_1 rfl (lv_at hl 1 rfl) ?_
  have hPc := hP.sub (ws' := [(h0, .inr (12, [.ref (am 0), .int 0, .int 0, .ref (am 1), .ref (am 2), .ref (am 3), .ref (am 4), .ref (am 5), .int 0, .int 0, .int 0, .int 0, .int 0, .int 0, .int 0, .ref (am 6), .int 0, .ref (am 7), .int 0, .ref (am 8), .ref (am 9), .int (-1), .int 0, .int 0, .int (-1), .int 0, .ref (am 10), .int 0, .ref (am 11), .ref (am 12), .ref (am 13), .ref (am 14), .long 0, .ref (am 15), .ref (am 16), .ref (am 17), .ref (am 18)])), ((am 9), .inl (G.2.2 0, 110, .inl (fun _ => 0)))]) [0, 1] rfl
  have hDc := hD.sub (ws' := [(h0, .inr (12, [.ref (am 0), .int 0, .int 0, .ref (am 1), .ref (am 2), .ref (am 3), .ref (am 4), .ref (am 5), .int 0, .int 0, .int 0, .int 0, .int 0, .int 0, .int 0, .ref (am 6), .int 0, .ref (am 7), .int 0, .ref (am 8), .ref (am 9), .int (-1), .int 0, .int 0, .int (-1), .int 0, .ref (am 10), .int 0, .ref (am 11), .ref (am 12), .ref (am 13), .ref (am 14), .long 0, .ref (am 15), .ref (am 16), .ref (am 17), .ref (am 18)])), ((am 9), .inl (G.2.2 0, 110, .inl (fun _ => 0)))]) [0, 1] (by decide) rfl
  refine gq_callI (wr := []) (va_runV (As := [.int b]) (rest := []) ⟨hx, hb, hml, hown, ht⟩ (c_M_isLot l G s.heap.size h0 am b) (cwV 1 ht (ts_gV wd_1582 wd_1584 wd_79 wd_134 wd_1585) rfl rfl rfl (by decide +kernel) ⟨Nat.le_of_ble_eq_true rfl, Nat.le_of_ble_eq_true rfl⟩) (gc_preV (ci := 12) (q0 := 0) hK hPc hDc rfl rfl) rfl rfl hl.1 rfl (lv_room (Nat.le_of_ble_eq_true rfl)) dX12_bell_2 ⟨Nat.le_of_ble_eq_true rfl, Nat.le_of_ble_eq_true rfl⟩) hP hD hS hA [0, 1] [] rfl rfl (by decide) (by decide) (fun r u H locs hw hP hD hS => ?_)
  have hw : r = 0 := hw
  subst hw
  have hP : va_P (gg_D G) classes [(h0, .inr (12, [.ref (am 0), .int 0, .int 0, .ref (am 1), .ref (am 2), .ref (am 3), .ref (am 4), .ref (am 5), .int 0, .int 0, .int 0, .int 0, .int 0, .int 0, .int 0, .ref (am 6), .int 0, .ref (am 7), .int 0, .ref (am 8), .ref (am 9), .int (-1), .int 0, .int 0, .int (-1), .int 0, .ref (am 10), .int 0, .ref (am 11), .ref (am 12), .ref (am 13), .ref (am 14), .long 0, .ref (am 15), .ref (am 16), .ref (am 17), .ref (am 18)])), ((am 9), .inl (G.2.2 0, 110, .inl (fun _ => 0)))] H := hP
  have hD : va_D A [(h0, .inr (12, [.ref (am 0), .int 0, .int 0, .ref (am 1), .ref (am 2), .ref (am 3), .ref (am 4), .ref (am 5), .int 0, .int 0, .int 0, .int 0, .int 0, .int 0, .int 0, .ref (am 6), .int 0, .ref (am 7), .int 0, .ref (am 8), .ref (am 9), .int (-1), .int 0, .int 0, .int (-1), .int 0, .ref (am 10), .int 0, .ref (am 11), .ref (am 12), .ref (am 13), .ref (am 14), .long 0, .ref (am 15), .ref (am 16), .ref (am 17), .ref (am 18)])), ((am 9), .inl (G.2.2 0, 110, .inl (fun _ => 0)))] := hD
  refine lv_if_eq (tgt := 16) hx hb dX12_bell_5 (by decide) (fun _ => ?_) (fun c0 => absurd (by decide +kernel) c0)
  refine lv_iconst (v := (-1)) hx hb dX12_bell_16 (by decide) ?_
  have hP9 := hP.sub (ws' := []) [] rfl
  have hD9 := hD.sub (ws' := []) [] (by decide) rfl
  exact W.iret (v := (-1)) hx hb hr (gq_endI () rfl hP9 hD9 hS) hS.2.2 dX12_bell_17
set_option maxHeartbeats 4000000 in
set_option maxRecDepth 100000 in
theorem c_M_play (l : Launch) (G : gg_T) (sz : Nat) (h0 : Nat) (am : Nat → Nat) (b : Int32) (w : Int32) (z : Int32) : Met l yX12_play (ts_L yX12_play cX12_play 4 (some .int)) ({ frames := 1, cells := 0, slots := 0, locals := 21 }) (gc_P G [(h0, .inr (12, [.ref (am 0), .int 0, .int 0, .ref (am 1), .ref (am 2), .ref (am 3), .ref (am 4), .ref (am 5), .int 0, .int 0, .int 0, .int 0, .int 0, .int 0, .int 0, .ref (am 6), .int 0, .ref (am 7), .int 0, .ref (am 8), .ref (am 9), .int (-1), .int 0, .int 0, .int (-1), .int 0, .ref (am 10), .int 0, .ref (am 11), .ref (am 12), .ref (am 13), .ref (am 14), .long 0, .ref (am 15), .ref (am 16), .ref (am 17), .ref (am 18)])), ((am 9), .inl (G.2.2 0, 110, .inl (fun _ => 0)))] sz [.ref h0, .int b, .int w, .int z]) (gc_I G (va_A [(h0, .inr (12, [.ref (am 0), .int 0, .int 0, .ref (am 1), .ref (am 2), .ref (am 3), .ref (am 4), .ref (am 5), .int 0, .int 0, .int 0, .int 0, .int 0, .int 0, .int 0, .ref (am 6), .int 0, .ref (am 7), .int 0, .ref (am 8), .ref (am 9), .int (-1), .int 0, .int 0, .int (-1), .int 0, .ref (am 10), .int 0, .ref (am 11), .ref (am 12), .ref (am 13), .ref (am 14), .long 0, .ref (am 15), .ref (am 16), .ref (am 17), .ref (am 18)])), ((am 9), .inl (G.2.2 0, 110, .inl (fun _ => 0)))] sz) (fun r (_ : Unit) => r = (-1)) (fun _ => [])) 0 0 (va_A [(h0, .inr (12, [.ref (am 0), .int 0, .int 0, .ref (am 1), .ref (am 2), .ref (am 3), .ref (am 4), .ref (am 5), .int 0, .int 0, .int 0, .int 0, .int 0, .int 0, .int 0, .ref (am 6), .int 0, .ref (am 7), .int 0, .ref (am 8), .ref (am 9), .int (-1), .int 0, .int 0, .int (-1), .int 0, .ref (am 10), .int 0, .ref (am 11), .ref (am 12), .ref (am 13), .ref (am 14), .long 0, .ref (am 15), .ref (am 16), .ref (am 17), .ref (am 18)])), ((am 9), .inl (G.2.2 0, 110, .inl (fun _ => 0)))] sz) := by
  refine Met.ofW (cc := cX12_play) (maxL := 4) (ret := (some .int)) (by decide) rfl ?_
  intro p e s m args below meth c s₁ B hml hv
  obtain ⟨rfl, hsz, hP, hK, hD0⟩ := hv
  have hx := B.exec
  have hb := B.bytes
  have hr := B.returns
  have ht := ts_ht (atoms_spec (ws := ts_L yX12_play cX12_play 4 (some .int)) B.pre)
  have hown : s.vm.findClass RX12 = some m.cls := findClass_of_methodNamed B.named
  have hlocks := B.notSynchronized
  subst hsz
  have hD := hD0.self (sz := s.heap.size)
  generalize hAe : va_A [(h0, .inr (12, [.ref (am 0), .int 0, .int 0, .ref (am 1), .ref (am 2), .ref (am 3), .ref (am 4), .ref (am 5), .int 0, .int 0, .int 0, .int 0, .int 0, .int 0, .int 0, .ref (am 6), .int 0, .ref (am 7), .int 0, .ref (am 8), .ref (am 9), .int (-1), .int 0, .int 0, .int (-1), .int 0, .ref (am 10), .int 0, .ref (am 11), .ref (am 12), .ref (am 13), .ref (am 14), .long 0, .ref (am 15), .ref (am 16), .ref (am 17), .ref (am 18)])), ((am 9), .inl (G.2.2 0, 110, .inl (fun _ => 0)))] s.heap.size = A at hD ⊢
  have hA : ∀ q : Nat, s.heap.size ≤ q → A q := fun q h => by rw [← hAe]; exact Or.inr h
  have hS : va_S A s.heap s.heap [] := va_S.rf
  have hl := lv_entry ([.ref h0, .int b, .int w, .int z]) (n := 4) (Nat.le_of_ble_eq_true rfl)
  rw [lg_entry_eq]
  generalize (lg_sl ([.ref h0, .int b, .int w, .int z]) ++ List.replicate (4 - (lg_sl ([.ref h0, .int b, .int w, .int z])).length) Slot.unset).toArray = ls at hl ⊢
  have hl : lv_has ls 4 [(0, .ref h0), (1, .int b), (2, .int w), (3, .int z)] := hl
  refine lv_aload_n hx hb dX12_play_0 rfl (lv_at hl 0 rfl) ?_
  refine lv_iload_n hx hb dX12_play_1 rfl (lv_at hl 1 rfl) ?_
  have hPc := hP.sub (ws' := [(h0, .inr (12, [.ref (am 0), .int 0, .int 0, .ref (am 1), .ref (am 2), .ref (am 3), .ref (am 4), .ref (am 5), .int 0, .int 0, .int 0, .int 0, .int 0, .int 0, .int 0, .ref (am 6), .int 0, .ref (am 7), .int 0, .ref (am 8), .ref (am 9), .int (-1), .int 0, .int 0, .int (-1), .int 0, .ref (am 10), .int 0, .ref (am 11), .ref (am 12), .ref (am 13), .ref (am 14), .long 0, .ref (am 15), .ref (am 16), .ref (am 17), .ref (am 18)])), ((am 9), .inl (G.2.2 0, 110, .inl (fun _ => 0)))]) [0, 1] rfl
  have hDc := hD.sub (ws' := [(h0, .inr (12, [.ref (am 0), .int 0, .int 0, .ref (am 1), .ref (am 2), .ref (am 3), .ref (am 4), .ref (am 5), .int 0, .int 0, .int 0, .int 0, .int 0, .int 0, .int 0, .ref (am 6), .int 0, .ref (am 7), .int 0, .ref (am 8), .ref (am 9), .int (-1), .int 0, .int 0, .int (-1), .int 0, .ref (am 10), .int 0, .ref (am 11), .ref (am 12), .ref (am 13), .ref (am 14), .long 0, .ref (am 15), .ref (am 16), .ref (am 17), .ref (am 18)])), ((am 9), .inl (G.2.2 0, 110, .inl (fun _ => 0)))]) [0, 1] (by decide) rfl
  refine gq_callI (wr := []) (va_runV (As := [.int b]) (rest := []) ⟨hx, hb, hml, hown, ht⟩ (c_M_isBidder l G s.heap.size h0 am b) (cwV 1 ht (ts_gV wd_1553 wd_1555 wd_73 wd_134 wd_1556) rfl rfl rfl (by decide +kernel) ⟨Nat.le_of_ble_eq_true rfl, Nat.le_of_ble_eq_true rfl⟩) (gc_preV (ci := 12) (q0 := 0) hK hPc hDc rfl rfl) rfl rfl hl.1 rfl (lv_room (Nat.le_of_ble_eq_true rfl)) dX12_play_2 ⟨Nat.le_of_ble_eq_true rfl, Nat.le_of_ble_eq_true rfl⟩) hP hD hS hA [0, 1] [] rfl rfl (by decide) (by decide) (fun r u H locs hw hP hD hS => ?_)
  have hw : r = 0 := hw
  subst hw
  have hP : va_P (gg_D G) classes [(h0, .inr (12, [.ref (am 0), .int 0, .int 0, .ref (am 1), .ref (am 2), .ref (am 3), .ref (am 4), .ref (am 5), .int 0, .int 0, .int 0, .int 0, .int 0, .int 0, .int 0, .ref (am 6), .int 0, .ref (am 7), .int 0, .ref (am 8), .ref (am 9), .int (-1), .int 0, .int 0, .int (-1), .int 0, .ref (am 10), .int 0, .ref (am 11), .ref (am 12), .ref (am 13), .ref (am 14), .long 0, .ref (am 15), .ref (am 16), .ref (am 17), .ref (am 18)])), ((am 9), .inl (G.2.2 0, 110, .inl (fun _ => 0)))] H := hP
  have hD : va_D A [(h0, .inr (12, [.ref (am 0), .int 0, .int 0, .ref (am 1), .ref (am 2), .ref (am 3), .ref (am 4), .ref (am 5), .int 0, .int 0, .int 0, .int 0, .int 0, .int 0, .int 0, .ref (am 6), .int 0, .ref (am 7), .int 0, .ref (am 8), .ref (am 9), .int (-1), .int 0, .int 0, .int (-1), .int 0, .ref (am 10), .int 0, .ref (am 11), .ref (am 12), .ref (am 13), .ref (am 14), .long 0, .ref (am 15), .ref (am 16), .ref (am 17), .ref (am 18)])), ((am 9), .inl (G.2.2 0, 110, .inl (fun _ => 0)))] := hD
  refine lv_if_eq (tgt := 34) hx hb dX12_play_5 (by decide) (fun _ => ?_) (fun c0 => absurd (by decide +kernel) c0)
  refine lv_iconst (v := (-1)) hx hb dX12_play_34 (by decide) ?_
  have hP9 := hP.sub (ws' := []) [] rfl
  have hD9 := hD.sub (ws' := []) [] (by decide) rfl
  exact W.iret (v := (-1)) hx hb hr (gq_endI () rfl hP9 hD9 hS) hS.2.2 dX12_play_35
set_option maxHeartbeats 4000000 in
set_option maxRecDepth 100000 in
theorem c_M_fire (l : Launch) (G : gg_T) (sz : Nat) (h0 : Nat) (am : Nat → Nat) (b : Int32) : Met l yX12_fire (ts_L yX12_fire cX12_fire 4 (some .int)) ({ frames := 1, cells := 0, slots := 0, locals := 21 }) (gc_P G [(h0, .inr (12, [.ref (am 0), .int 0, .int 0, .ref (am 1), .ref (am 2), .ref (am 3), .ref (am 4), .ref (am 5), .int 0, .int 0, .int 0, .int 0, .int 0, .int 0, .int 0, .ref (am 6), .int 0, .ref (am 7), .int 0, .ref (am 8), .ref (am 9), .int (-1), .int 0, .int 0, .int (-1), .int 0, .ref (am 10), .int 0, .ref (am 11), .ref (am 12), .ref (am 13), .ref (am 14), .long 0, .ref (am 15), .ref (am 16), .ref (am 17), .ref (am 18)])), ((am 9), .inl (G.2.2 0, 110, .inl (fun _ => 0)))] sz [.ref h0, .int b]) (gc_I G (va_A [(h0, .inr (12, [.ref (am 0), .int 0, .int 0, .ref (am 1), .ref (am 2), .ref (am 3), .ref (am 4), .ref (am 5), .int 0, .int 0, .int 0, .int 0, .int 0, .int 0, .int 0, .ref (am 6), .int 0, .ref (am 7), .int 0, .ref (am 8), .ref (am 9), .int (-1), .int 0, .int 0, .int (-1), .int 0, .ref (am 10), .int 0, .ref (am 11), .ref (am 12), .ref (am 13), .ref (am 14), .long 0, .ref (am 15), .ref (am 16), .ref (am 17), .ref (am 18)])), ((am 9), .inl (G.2.2 0, 110, .inl (fun _ => 0)))] sz) (fun r (_ : Unit) => r = (-1)) (fun _ => [])) 0 0 (va_A [(h0, .inr (12, [.ref (am 0), .int 0, .int 0, .ref (am 1), .ref (am 2), .ref (am 3), .ref (am 4), .ref (am 5), .int 0, .int 0, .int 0, .int 0, .int 0, .int 0, .int 0, .ref (am 6), .int 0, .ref (am 7), .int 0, .ref (am 8), .ref (am 9), .int (-1), .int 0, .int 0, .int (-1), .int 0, .ref (am 10), .int 0, .ref (am 11), .ref (am 12), .ref (am 13), .ref (am 14), .long 0, .ref (am 15), .ref (am 16), .ref (am 17), .ref (am 18)])), ((am 9), .inl (G.2.2 0, 110, .inl (fun _ => 0)))] sz) := by
  refine Met.ofW (cc := cX12_fire) (maxL := 4) (ret := (some .int)) (by decide) rfl ?_
  intro p e s m args below meth c s₁ B hml hv
  obtain ⟨rfl, hsz, hP, hK, hD0⟩ := hv
  have hx := B.exec
  have hb := B.bytes
  have hr := B.returns
  have ht := ts_ht (atoms_spec (ws := ts_L yX12_fire cX12_fire 4 (some .int)) B.pre)
  have hown : s.vm.findClass RX12 = some m.cls := findClass_of_methodNamed B.named
  have hlocks := B.notSynchronized
  subst hsz
  have hD := hD0.self (sz := s.heap.size)
  generalize hAe : va_A [(h0, .inr (12, [.ref (am 0), .int 0, .int 0, .ref (am 1), .ref (am 2), .ref (am 3), .ref (am 4), .ref (am 5), .int 0, .int 0, .int 0, .int 0, .int 0, .int 0, .int 0, .ref (am 6), .int 0, .ref (am 7), .int 0, .ref (am 8), .ref (am 9), .int (-1), .int 0, .int 0, .int (-1), .int 0, .ref (am 10), .int 0, .ref (am 11), .ref (am 12), .ref (am 13), .ref (am 14), .long 0, .ref (am 15), .ref (am 16), .ref (am 17), .ref (am 18)])), ((am 9), .inl (G.2.2 0, 110, .inl (fun _ => 0)))] s.heap.size = A at hD ⊢
  have hA : ∀ q : Nat, s.heap.size ≤ q → A q := fun q h => by rw [← hAe]; exact Or.inr h
  have hS : va_S A s.heap s.heap [] := va_S.rf
  have hl := lv_entry ([.ref h0, .int b]) (n := 4) (Nat.le_of_ble_eq_true rfl)
  rw [lg_entry_eq]
  generalize (lg_sl ([.ref h0, .int b]) ++ List.replicate (4 - (lg_sl ([.ref h0, .int b])).length) Slot.unset).toArray = ls at hl ⊢
  have hl : lv_has ls 4 [(0, .ref h0), (1, .int b)] := hl
  refine lv_aload_n hx hb dX12_fire_0 rfl (lv_at hl 0 rfl) ?_
  refine lv_iload_n hx hb dX12_fire_1 rfl (lv_at hl 1 rfl) ?_
  have hPc := hP.sub (ws' := [(h0, .inr (12, [.ref (am 0), .int 0, .int 0, .ref (am 1), .ref (am 2), .ref (am 3), .ref (am 4), .ref (am 5), .int 0, .int 0, .int 0, .int 0, .int 0, .int 0, .int 0, .ref (am 6), .int 0, .ref (am 7), .int 0, .ref (am 8), .ref (am 9), .int (-1), .int 0, .int 0, .int (-1), .int 0, .ref (am 10), .int 0, .ref (am 11), .ref (am 12), .ref (am 13), .ref (am 14), .long 0, .ref (am 15), .ref (am 16), .ref (am 17), .ref (am 18)])), ((am 9), .inl (G.2.2 0, 110, .inl (fun _ => 0)))]) [0, 1] rfl
  have hDc := hD.sub (ws' := [(h0, .inr (12, [.ref (am 0), .int 0, .int 0, .ref (am 1), .ref (am 2), .ref (am 3), .ref (am 4), .ref (am 5), .int 0, .int 0, .int 0, .int 0, .int 0, .int 0, .int 0, .ref (am 6), .int 0, .ref (am 7), .int 0, .ref (am 8), .ref (am 9), .int (-1), .int 0, .int 0, .int (-1), .int 0, .ref (am 10), .int 0, .ref (am 11), .ref (am 12), .ref (am 13), .ref (am 14), .long 0, .ref (am 15), .ref (am 16), .ref (am 17), .ref (am 18)])), ((am 9), .inl (G.2.2 0, 110, .inl (fun _ => 0)))]) [0, 1] (by decide) rfl
  refine gq_callI (wr := []) (va_runV (As := [.int b]) (rest := []) ⟨hx, hb, hml, hown, ht⟩ (c_M_isLot l G s.heap.size h0 am b) (cwV 1 ht (ts_gV wd_1582 wd_1584 wd_79 wd_134 wd_1585) rfl rfl rfl (by decide +kernel) ⟨Nat.le_of_ble_eq_true rfl, Nat.le_of_ble_eq_true rfl⟩) (gc_preV (ci := 12) (q0 := 0) hK hPc hDc rfl rfl) rfl rfl hl.1 rfl (lv_room (Nat.le_of_ble_eq_true rfl)) dX12_fire_2 ⟨Nat.le_of_ble_eq_true rfl, Nat.le_of_ble_eq_true rfl⟩) hP hD hS hA [0, 1] [] rfl rfl (by decide) (by decide) (fun r u H locs hw hP hD hS => ?_)
  have hw : r = 0 := hw
  subst hw
  have hP : va_P (gg_D G) classes [(h0, .inr (12, [.ref (am 0), .int 0, .int 0, .ref (am 1), .ref (am 2), .ref (am 3), .ref (am 4), .ref (am 5), .int 0, .int 0, .int 0, .int 0, .int 0, .int 0, .int 0, .ref (am 6), .int 0, .ref (am 7), .int 0, .ref (am 8), .ref (am 9), .int (-1), .int 0, .int 0, .int (-1), .int 0, .ref (am 10), .int 0, .ref (am 11), .ref (am 12), .ref (am 13), .ref (am 14), .long 0, .ref (am 15), .ref (am 16), .ref (am 17), .ref (am 18)])), ((am 9), .inl (G.2.2 0, 110, .inl (fun _ => 0)))] H := hP
  have hD : va_D A [(h0, .inr (12, [.ref (am 0), .int 0, .int 0, .ref (am 1), .ref (am 2), .ref (am 3), .ref (am 4), .ref (am 5), .int 0, .int 0, .int 0, .int 0, .int 0, .int 0, .int 0, .ref (am 6), .int 0, .ref (am 7), .int 0, .ref (am 8), .ref (am 9), .int (-1), .int 0, .int 0, .int (-1), .int 0, .ref (am 10), .int 0, .ref (am 11), .ref (am 12), .ref (am 13), .ref (am 14), .long 0, .ref (am 15), .ref (am 16), .ref (am 17), .ref (am 18)])), ((am 9), .inl (G.2.2 0, 110, .inl (fun _ => 0)))] := hD
  refine lv_if_eq (tgt := 18) hx hb dX12_fire_5 (by decide) (fun _ => ?_) (fun c0 => absurd (by decide +kernel) c0)
  refine lv_iconst (v := (-1)) hx hb dX12_fire_18 (by decide) ?_
  have hP9 := hP.sub (ws' := []) [] rfl
  have hD9 := hD.sub (ws' := []) [] (by decide) rfl
  exact W.iret (v := (-1)) hx hb hr (gq_endI () rfl hP9 hD9 hS) hS.2.2 dX12_fire_19
set_option maxHeartbeats 4000000 in
set_option maxRecDepth 100000 in
theorem c_M_ahead (l : Launch) (G : gg_T) (sz : Nat) (h0 : Nat) (am : Nat → Nat) (b : Int32) (w : Int32) (z : Int32) : Met l yX12_ahead (ts_L yX12_ahead cX12_ahead 5 (some .int)) ({ frames := 1, cells := 0, slots := 0, locals := 20 }) (gc_P G [(h0, .inr (12, [.ref (am 0), .int 0, .int 0, .ref (am 1), .ref (am 2), .ref (am 3), .ref (am 4), .ref (am 5), .int 0, .int 0, .int 0, .int 0, .int 0, .int 0, .int 0, .ref (am 6), .int 0, .ref (am 7), .int 0, .ref (am 8), .ref (am 9), .int (-1), .int 0, .int 0, .int (-1), .int 0, .ref (am 10), .int 0, .ref (am 11), .ref (am 12), .ref (am 13), .ref (am 14), .long 0, .ref (am 15), .ref (am 16), .ref (am 17), .ref (am 18)])), ((am 9), .inl (G.2.2 0, 110, .inl (fun _ => 0)))] sz [.ref h0, .int b, .int w, .int z]) (gc_I G (va_A [(h0, .inr (12, [.ref (am 0), .int 0, .int 0, .ref (am 1), .ref (am 2), .ref (am 3), .ref (am 4), .ref (am 5), .int 0, .int 0, .int 0, .int 0, .int 0, .int 0, .int 0, .ref (am 6), .int 0, .ref (am 7), .int 0, .ref (am 8), .ref (am 9), .int (-1), .int 0, .int 0, .int (-1), .int 0, .ref (am 10), .int 0, .ref (am 11), .ref (am 12), .ref (am 13), .ref (am 14), .long 0, .ref (am 15), .ref (am 16), .ref (am 17), .ref (am 18)])), ((am 9), .inl (G.2.2 0, 110, .inl (fun _ => 0)))] sz) (fun r (_ : Unit) => r = (-1000)) (fun _ => [])) 0 0 (va_A [(h0, .inr (12, [.ref (am 0), .int 0, .int 0, .ref (am 1), .ref (am 2), .ref (am 3), .ref (am 4), .ref (am 5), .int 0, .int 0, .int 0, .int 0, .int 0, .int 0, .int 0, .ref (am 6), .int 0, .ref (am 7), .int 0, .ref (am 8), .ref (am 9), .int (-1), .int 0, .int 0, .int (-1), .int 0, .ref (am 10), .int 0, .ref (am 11), .ref (am 12), .ref (am 13), .ref (am 14), .long 0, .ref (am 15), .ref (am 16), .ref (am 17), .ref (am 18)])), ((am 9), .inl (G.2.2 0, 110, .inl (fun _ => 0)))] sz) := by
  refine Met.ofW (cc := cX12_ahead) (maxL := 5) (ret := (some .int)) (by decide) rfl ?_
  intro p e s m args below meth c s₁ B hml hv
  obtain ⟨rfl, hsz, hP, hK, hD0⟩ := hv
  have hx := B.exec
  have hb := B.bytes
  have hr := B.returns
  have ht := ts_ht (atoms_spec (ws := ts_L yX12_ahead cX12_ahead 5 (some .int)) B.pre)
  have hown : s.vm.findClass RX12 = some m.cls := findClass_of_methodNamed B.named
  have hlocks := B.notSynchronized
  subst hsz
  have hD := hD0.self (sz := s.heap.size)
  generalize hAe : va_A [(h0, .inr (12, [.ref (am 0), .int 0, .int 0, .ref (am 1), .ref (am 2), .ref (am 3), .ref (am 4), .ref (am 5), .int 0, .int 0, .int 0, .int 0, .int 0, .int 0, .int 0, .ref (am 6), .int 0, .ref (am 7), .int 0, .ref (am 8), .ref (am 9), .int (-1), .int 0, .int 0, .int (-1), .int 0, .ref (am 10), .int 0, .ref (am 11), .ref (am 12), .ref (am 13), .ref (am 14), .long 0, .ref (am 15), .ref (am 16), .ref (am 17), .ref (am 18)])), ((am 9), .inl (G.2.2 0, 110, .inl (fun _ => 0)))] s.heap.size = A at hD ⊢
  have hA : ∀ q : Nat, s.heap.size ≤ q → A q := fun q h => by rw [← hAe]; exact Or.inr h
  have hS : va_S A s.heap s.heap [] := va_S.rf
  have hl := lv_entry ([.ref h0, .int b, .int w, .int z]) (n := 5) (Nat.le_of_ble_eq_true rfl)
  rw [lg_entry_eq]
  generalize (lg_sl ([.ref h0, .int b, .int w, .int z]) ++ List.replicate (5 - (lg_sl ([.ref h0, .int b, .int w, .int z])).length) Slot.unset).toArray = ls at hl ⊢
  have hl : lv_has ls 5 [(0, .ref h0), (1, .int b), (2, .int w), (3, .int z)] := hl
  refine lv_aload_n hx hb dX12_ahead_0 rfl (lv_at hl 0 rfl) ?_
  have hPc := hP.sub (ws' := [(h0, .inr (12, [.ref (am 0), .int 0, .int 0, .ref (am 1), .ref (am 2), .ref (am 3), .ref (am 4), .ref (am 5), .int 0, .int 0, .int 0, .int 0, .int 0, .int 0, .int 0, .ref (am 6), .int 0, .ref (am 7), .int 0, .ref (am 8), .ref (am 9), .int (-1), .int 0, .int 0, .int (-1), .int 0, .ref (am 10), .int 0, .ref (am 11), .ref (am 12), .ref (am 13), .ref (am 14), .long 0, .ref (am 15), .ref (am 16), .ref (am 17), .ref (am 18)])), ((am 9), .inl (G.2.2 0, 110, .inl (fun _ => 0)))]) [0, 1] rfl
  have hDc := hD.sub (ws' := [(h0, .inr (12, [.ref (am 0), .int 0, .int 0, .ref (am 1), .ref (am 2), .ref (am 3), .ref (am 4), .ref (am 5), .int 0, .int 0, .int 0, .int 0, .int 0, .int 0, .int 0, .ref (am 6), .int 0, .ref (am 7), .int 0, .ref (am 8), .ref (am 9), .int (-1), .int 0, .int 0, .int (-1), .int 0, .ref (am 10), .int 0, .ref (am 11), .ref (am 12), .ref (am 13), .ref (am 14), .long 0, .ref (am 15), .ref (am 16), .ref (am 17), .ref (am 18)])), ((am 9), .inl (G.2.2 0, 110, .inl (fun _ => 0)))]) [0, 1] (by decide) rfl
  refine gq_callI (wr := []) (va_runV (As := []) (rest := []) ⟨hx, hb, hml, hown, ht⟩ (c_M_isSale l G s.heap.size h0 am) (cwV 0 ht (ts_gV wd_1720 wd_1722 wd_102 wd_134 wd_1723) rfl rfl rfl (by decide +kernel) ⟨Nat.le_of_ble_eq_true rfl, Nat.le_of_ble_eq_true rfl⟩) (gc_preV (ci := 12) (q0 := 0) hK hPc hDc rfl rfl) rfl rfl hl.1 rfl (lv_room (Nat.le_of_ble_eq_true rfl)) dX12_ahead_1 ⟨Nat.le_of_ble_eq_true rfl, Nat.le_of_ble_eq_true rfl⟩) hP hD hS hA [0, 1] [] rfl rfl (by decide) (by decide) (fun r u H locs hw hP hD hS => ?_)
  have hw : r = 0 := hw
  subst hw
  have hP : va_P (gg_D G) classes [(h0, .inr (12, [.ref (am 0), .int 0, .int 0, .ref (am 1), .ref (am 2), .ref (am 3), .ref (am 4), .ref (am 5), .int 0, .int 0, .int 0, .int 0, .int 0, .int 0, .int 0, .ref (am 6), .int 0, .ref (am 7), .int 0, .ref (am 8), .ref (am 9), .int (-1), .int 0, .int 0, .int (-1), .int 0, .ref (am 10), .int 0, .ref (am 11), .ref (am 12), .ref (am 13), .ref (am 14), .long 0, .ref (am 15), .ref (am 16), .ref (am 17), .ref (am 18)])), ((am 9), .inl (G.2.2 0, 110, .inl (fun _ => 0)))] H := hP
  have hD : va_D A [(h0, .inr (12, [.ref (am 0), .int 0, .int 0, .ref (am 1), .ref (am 2), .ref (am 3), .ref (am 4), .ref (am 5), .int 0, .int 0, .int 0, .int 0, .int 0, .int 0, .int 0, .ref (am 6), .int 0, .ref (am 7), .int 0, .ref (am 8), .ref (am 9), .int (-1), .int 0, .int 0, .int (-1), .int 0, .ref (am 10), .int 0, .ref (am 11), .ref (am 12), .ref (am 13), .ref (am 14), .long 0, .ref (am 15), .ref (am 16), .ref (am 17), .ref (am 18)])), ((am 9), .inl (G.2.2 0, 110, .inl (fun _ => 0)))] := hD
  refine lv_if_eq (tgt := 54) hx hb dX12_ahead_4 (by decide) (fun _ => ?_) (fun c0 => absurd (by decide +kernel) c0)
  refine lv_sipush (v := (-1000)) hx hb dX12_ahead_54 (by decide +kernel) ?_
  have hP9 := hP.sub (ws' := []) [] rfl
  have hD9 := hD.sub (ws' := []) [] (by decide) rfl
  exact W.iret (v := (-1000)) hx hb hr (gq_endI () rfl hP9 hD9 hS) hS.2.2 dX12_ahead_57
set_option maxHeartbeats 4000000 in
set_option maxRecDepth 100000 in
theorem c_M_ends (l : Launch) (G : gg_T) (sz : Nat) (h0 : Nat) (am : Nat → Nat) (b : Int32) (w : Int32) : Met l yX12_ends (ts_L yX12_ends cX12_ends 5 (some .int)) ({ frames := 1, cells := 0, slots := 0, locals := 21 }) (gc_P G [(h0, .inr (12, [.ref (am 0), .int 0, .int 0, .ref (am 1), .ref (am 2), .ref (am 3), .ref (am 4), .ref (am 5), .int 0, .int 0, .int 0, .int 0, .int 0, .int 0, .int 0, .ref (am 6), .int 0, .ref (am 7), .int 0, .ref (am 8), .ref (am 9), .int (-1), .int 0, .int 0, .int (-1), .int 0, .ref (am 10), .int 0, .ref (am 11), .ref (am 12), .ref (am 13), .ref (am 14), .long 0, .ref (am 15), .ref (am 16), .ref (am 17), .ref (am 18)])), ((am 9), .inl (G.2.2 0, 110, .inl (fun _ => 0)))] sz [.ref h0, .int b, .int w]) (gc_I G (va_A [(h0, .inr (12, [.ref (am 0), .int 0, .int 0, .ref (am 1), .ref (am 2), .ref (am 3), .ref (am 4), .ref (am 5), .int 0, .int 0, .int 0, .int 0, .int 0, .int 0, .int 0, .ref (am 6), .int 0, .ref (am 7), .int 0, .ref (am 8), .ref (am 9), .int (-1), .int 0, .int 0, .int (-1), .int 0, .ref (am 10), .int 0, .ref (am 11), .ref (am 12), .ref (am 13), .ref (am 14), .long 0, .ref (am 15), .ref (am 16), .ref (am 17), .ref (am 18)])), ((am 9), .inl (G.2.2 0, 110, .inl (fun _ => 0)))] sz) (fun r (_ : Unit) => r = (-2)) (fun _ => [])) 0 0 (va_A [(h0, .inr (12, [.ref (am 0), .int 0, .int 0, .ref (am 1), .ref (am 2), .ref (am 3), .ref (am 4), .ref (am 5), .int 0, .int 0, .int 0, .int 0, .int 0, .int 0, .int 0, .ref (am 6), .int 0, .ref (am 7), .int 0, .ref (am 8), .ref (am 9), .int (-1), .int 0, .int 0, .int (-1), .int 0, .ref (am 10), .int 0, .ref (am 11), .ref (am 12), .ref (am 13), .ref (am 14), .long 0, .ref (am 15), .ref (am 16), .ref (am 17), .ref (am 18)])), ((am 9), .inl (G.2.2 0, 110, .inl (fun _ => 0)))] sz) := by
  refine Met.ofW (cc := cX12_ends) (maxL := 5) (ret := (some .int)) (by decide) rfl ?_
  intro p e s m args below meth c s₁ B hml hv
  obtain ⟨rfl, hsz, hP, hK, hD0⟩ := hv
  have hx := B.exec
  have hb := B.bytes
  have hr := B.returns
  have ht := ts_ht (atoms_spec (ws := ts_L yX12_ends cX12_ends 5 (some .int)) B.pre)
  have hown : s.vm.findClass RX12 = some m.cls := findClass_of_methodNamed B.named
  have hlocks := B.notSynchronized
  subst hsz
  have hD := hD0.self (sz := s.heap.size)
  generalize hAe : va_A [(h0, .inr (12, [.ref (am 0), .int 0, .int 0, .ref (am 1), .ref (am 2), .ref (am 3), .ref (am 4), .ref (am 5), .int 0, .int 0, .int 0, .int 0, .int 0, .int 0, .int 0, .ref (am 6), .int 0, .ref (am 7), .int 0, .ref (am 8), .ref (am 9), .int (-1), .int 0, .int 0, .int (-1), .int 0, .ref (am 10), .int 0, .ref (am 11), .ref (am 12), .ref (am 13), .ref (am 14), .long 0, .ref (am 15), .ref (am 16), .ref (am 17), .ref (am 18)])), ((am 9), .inl (G.2.2 0, 110, .inl (fun _ => 0)))] s.heap.size = A at hD ⊢
  have hA : ∀ q : Nat, s.heap.size ≤ q → A q := fun q h => by rw [← hAe]; exact Or.inr h
  have hS : va_S A s.heap s.heap [] := va_S.rf
  have hl := lv_entry ([.ref h0, .int b, .int w]) (n := 5) (Nat.le_of_ble_eq_true rfl)
  rw [lg_entry_eq]
  generalize (lg_sl ([.ref h0, .int b, .int w]) ++ List.replicate (5 - (lg_sl ([.ref h0, .int b, .int w])).length) Slot.unset).toArray = ls at hl ⊢
  have hl : lv_has ls 5 [(0, .ref h0), (1, .int b), (2, .int w)] := hl
  refine lv_aload_n hx hb dX12_ends_0 rfl (lv_at hl 0 rfl) ?_
  refine lv_iload_n hx hb dX12_ends_1 rfl (lv_at hl 1 rfl) ?_
  have hPc := hP.sub (ws' := [(h0, .inr (12, [.ref (am 0), .int 0, .int 0, .ref (am 1), .ref (am 2), .ref (am 3), .ref (am 4), .ref (am 5), .int 0, .int 0, .int 0, .int 0, .int 0, .int 0, .int 0, .ref (am 6), .int 0, .ref (am 7), .int 0, .ref (am 8), .ref (am 9), .int (-1), .int 0, .int 0, .int (-1), .int 0, .ref (am 10), .int 0, .ref (am 11), .ref (am 12), .ref (am 13), .ref (am 14), .long 0, .ref (am 15), .ref (am 16), .ref (am 17), .ref (am 18)])), ((am 9), .inl (G.2.2 0, 110, .inl (fun _ => 0)))]) [0, 1] rfl
  have hDc := hD.sub (ws' := [(h0, .inr (12, [.ref (am 0), .int 0, .int 0, .ref (am 1), .ref (am 2), .ref (am 3), .ref (am 4), .ref (am 5), .int 0, .int 0, .int 0, .int 0, .int 0, .int 0, .int 0, .ref (am 6), .int 0, .ref (am 7), .int 0, .ref (am 8), .ref (am 9), .int (-1), .int 0, .int 0, .int (-1), .int 0, .ref (am 10), .int 0, .ref (am 11), .ref (am 12), .ref (am 13), .ref (am 14), .long 0, .ref (am 15), .ref (am 16), .ref (am 17), .ref (am 18)])), ((am 9), .inl (G.2.2 0, 110, .inl (fun _ => 0)))]) [0, 1] (by decide) rfl
  refine gq_callI (wr := []) (va_runV (As := [.int b]) (rest := []) ⟨hx, hb, hml, hown, ht⟩ (c_M_isLot l G s.heap.size h0 am b) (cwV 1 ht (ts_gV wd_1582 wd_1584 wd_79 wd_134 wd_1585) rfl rfl rfl (by decide +kernel) ⟨Nat.le_of_ble_eq_true rfl, Nat.le_of_ble_eq_true rfl⟩) (gc_preV (ci := 12) (q0 := 0) hK hPc hDc rfl rfl) rfl rfl hl.1 rfl (lv_room (Nat.le_of_ble_eq_true rfl)) dX12_ends_2 ⟨Nat.le_of_ble_eq_true rfl, Nat.le_of_ble_eq_true rfl⟩) hP hD hS hA [0, 1] [] rfl rfl (by decide) (by decide) (fun r u H locs hw hP hD hS => ?_)
  have hw : r = 0 := hw
  subst hw
  have hP : va_P (gg_D G) classes [(h0, .inr (12, [.ref (am 0), .int 0, .int 0, .ref (am 1), .ref (am 2), .ref (am 3), .ref (am 4), .ref (am 5), .int 0, .int 0, .int 0, .int 0, .int 0, .int 0, .int 0, .ref (am 6), .int 0, .ref (am 7), .int 0, .ref (am 8), .ref (am 9), .int (-1), .int 0, .int 0, .int (-1), .int 0, .ref (am 10), .int 0, .ref (am 11), .ref (am 12), .ref (am 13), .ref (am 14), .long 0, .ref (am 15), .ref (am 16), .ref (am 17), .ref (am 18)])), ((am 9), .inl (G.2.2 0, 110, .inl (fun _ => 0)))] H := hP
  have hD : va_D A [(h0, .inr (12, [.ref (am 0), .int 0, .int 0, .ref (am 1), .ref (am 2), .ref (am 3), .ref (am 4), .ref (am 5), .int 0, .int 0, .int 0, .int 0, .int 0, .int 0, .int 0, .ref (am 6), .int 0, .ref (am 7), .int 0, .ref (am 8), .ref (am 9), .int (-1), .int 0, .int 0, .int (-1), .int 0, .ref (am 10), .int 0, .ref (am 11), .ref (am 12), .ref (am 13), .ref (am 14), .long 0, .ref (am 15), .ref (am 16), .ref (am 17), .ref (am 18)])), ((am 9), .inl (G.2.2 0, 110, .inl (fun _ => 0)))] := hD
  refine lv_if_eq (tgt := 30) hx hb dX12_ends_5 (by decide) (fun _ => ?_) (fun c0 => absurd (by decide +kernel) c0)
  refine lv_bipush (v := (-2)) hx hb dX12_ends_30 (by decide +kernel) ?_
  have hP9 := hP.sub (ws' := []) [] rfl
  have hD9 := hD.sub (ws' := []) [] (by decide) rfl
  exact W.iret (v := (-2)) hx hb hr (gq_endI () rfl hP9 hD9 hS) hS.2.2 dX12_ends_32
set_option maxHeartbeats 4000000 in
set_option maxRecDepth 100000 in
theorem c_M_hold (l : Launch) (G : gg_T) (sz : Nat) (h0 : Nat) (am : Nat → Nat) (b : Int32) (w : Int32) : Met l yX12_hold (ts_L yX12_hold cX12_hold 8 (some .int)) ({ frames := 1, cells := 0, slots := 0, locals := 21 }) (gc_P G [(h0, .inr (12, [.ref (am 0), .int 0, .int 0, .ref (am 1), .ref (am 2), .ref (am 3), .ref (am 4), .ref (am 5), .int 0, .int 0, .int 0, .int 0, .int 0, .int 0, .int 0, .ref (am 6), .int 0, .ref (am 7), .int 0, .ref (am 8), .ref (am 9), .int (-1), .int 0, .int 0, .int (-1), .int 0, .ref (am 10), .int 0, .ref (am 11), .ref (am 12), .ref (am 13), .ref (am 14), .long 0, .ref (am 15), .ref (am 16), .ref (am 17), .ref (am 18)])), ((am 9), .inl (G.2.2 0, 110, .inl (fun _ => 0)))] sz [.ref h0, .int b, .int w]) (gc_I G (va_A [(h0, .inr (12, [.ref (am 0), .int 0, .int 0, .ref (am 1), .ref (am 2), .ref (am 3), .ref (am 4), .ref (am 5), .int 0, .int 0, .int 0, .int 0, .int 0, .int 0, .int 0, .ref (am 6), .int 0, .ref (am 7), .int 0, .ref (am 8), .ref (am 9), .int (-1), .int 0, .int 0, .int (-1), .int 0, .ref (am 10), .int 0, .ref (am 11), .ref (am 12), .ref (am 13), .ref (am 14), .long 0, .ref (am 15), .ref (am 16), .ref (am 17), .ref (am 18)])), ((am 9), .inl (G.2.2 0, 110, .inl (fun _ => 0)))] sz) (fun r (_ : Unit) => r = (-1000)) (fun _ => [])) 0 0 (va_A [(h0, .inr (12, [.ref (am 0), .int 0, .int 0, .ref (am 1), .ref (am 2), .ref (am 3), .ref (am 4), .ref (am 5), .int 0, .int 0, .int 0, .int 0, .int 0, .int 0, .int 0, .ref (am 6), .int 0, .ref (am 7), .int 0, .ref (am 8), .ref (am 9), .int (-1), .int 0, .int 0, .int (-1), .int 0, .ref (am 10), .int 0, .ref (am 11), .ref (am 12), .ref (am 13), .ref (am 14), .long 0, .ref (am 15), .ref (am 16), .ref (am 17), .ref (am 18)])), ((am 9), .inl (G.2.2 0, 110, .inl (fun _ => 0)))] sz) := by
  refine Met.ofW (cc := cX12_hold) (maxL := 8) (ret := (some .int)) (by decide) rfl ?_
  intro p e s m args below meth c s₁ B hml hv
  obtain ⟨rfl, hsz, hP, hK, hD0⟩ := hv
  have hx := B.exec
  have hb := B.bytes
  have hr := B.returns
  have ht := ts_ht (atoms_spec (ws := ts_L yX12_hold cX12_hold 8 (some .int)) B.pre)
  have hown : s.vm.findClass RX12 = some m.cls := findClass_of_methodNamed B.named
  have hlocks := B.notSynchronized
  subst hsz
  have hD := hD0.self (sz := s.heap.size)
  generalize hAe : va_A [(h0, .inr (12, [.ref (am 0), .int 0, .int 0, .ref (am 1), .ref (am 2), .ref (am 3), .ref (am 4), .ref (am 5), .int 0, .int 0, .int 0, .int 0, .int 0, .int 0, .int 0, .ref (am 6), .int 0, .ref (am 7), .int 0, .ref (am 8), .ref (am 9), .int (-1), .int 0, .int 0, .int (-1), .int 0, .ref (am 10), .int 0, .ref (am 11), .ref (am 12), .ref (am 13), .ref (am 14), .long 0, .ref (am 15), .ref (am 16), .ref (am 17), .ref (am 18)])), ((am 9), .inl (G.2.2 0, 110, .inl (fun _ => 0)))] s.heap.size = A at hD ⊢
  have hA : ∀ q : Nat, s.heap.size ≤ q → A q := fun q h => by rw [← hAe]; exact Or.inr h
  have hS : va_S A s.heap s.heap [] := va_S.rf
  have hl := lv_entry ([.ref h0, .int b, .int w]) (n := 8) (Nat.le_of_ble_eq_true rfl)
  rw [lg_entry_eq]
  generalize (lg_sl ([.ref h0, .int b, .int w]) ++ List.replicate (8 - (lg_sl ([.ref h0, .int b, .int w])).length) Slot.unset).toArray = ls at hl ⊢
  have hl : lv_has ls 8 [(0, .ref h0), (1, .int b), (2, .int w)] := hl
  refine lv_aload_n hx hb dX12_hold_0 rfl (lv_at hl 0 rfl) ?_
  refine lv_iload_n hx hb dX12_hold_1 rfl (lv_at hl 1 rfl) ?_
  have hPc := hP.sub (ws' := [(h0, .inr (12, [.ref (am 0), .int 0, .int 0, .ref (am 1), .ref (am 2), .ref (am 3), .ref (am 4), .ref (am 5), .int 0, .int 0, .int 0, .int 0, .int 0, .int 0, .int 0, .ref (am 6), .int 0, .ref (am 7), .int 0, .ref (am 8), .ref (am 9), .int (-1), .int 0, .int 0, .int (-1), .int 0, .ref (am 10), .int 0, .ref (am 11), .ref (am 12), .ref (am 13), .ref (am 14), .long 0, .ref (am 15), .ref (am 16), .ref (am 17), .ref (am 18)])), ((am 9), .inl (G.2.2 0, 110, .inl (fun _ => 0)))]) [0, 1] rfl
  have hDc := hD.sub (ws' := [(h0, .inr (12, [.ref (am 0), .int 0, .int 0, .ref (am 1), .ref (am 2), .ref (am 3), .ref (am 4), .ref (am 5), .int 0, .int 0, .int 0, .int 0, .int 0, .int 0, .int 0, .ref (am 6), .int 0, .ref (am 7), .int 0, .ref (am 8), .ref (am 9), .int (-1), .int 0, .int 0, .int (-1), .int 0, .ref (am 10), .int 0, .ref (am 11), .ref (am 12), .ref (am 13), .ref (am 14), .long 0, .ref (am 15), .ref (am 16), .ref (am 17), .ref (am 18)])), ((am 9), .inl (G.2.2 0, 110, .inl (fun _ => 0)))]) [0, 1] (by decide) rfl
  refine gq_callI (wr := []) (va_runV (As := [.int b]) (rest := []) ⟨hx, hb, hml, hown, ht⟩ (c_M_isBidder l G s.heap.size h0 am b) (cwV 1 ht (ts_gV wd_1553 wd_1555 wd_73 wd_134 wd_1556) rfl rfl rfl (by decide +kernel) ⟨Nat.le_of_ble_eq_true rfl, Nat.le_of_ble_eq_true rfl⟩) (gc_preV (ci := 12) (q0 := 0) hK hPc hDc rfl rfl) rfl rfl hl.1 rfl (lv_room (Nat.le_of_ble_eq_true rfl)) dX12_hold_2 ⟨Nat.le_of_ble_eq_true rfl, Nat.le_of_ble_eq_true rfl⟩) hP hD hS hA [0, 1] [] rfl rfl (by decide) (by decide) (fun r u H locs hw hP hD hS => ?_)
  have hw : r = 0 := hw
  subst hw
  have hP : va_P (gg_D G) classes [(h0, .inr (12, [.ref (am 0), .int 0, .int 0, .ref (am 1), .ref (am 2), .ref (am 3), .ref (am 4), .ref (am 5), .int 0, .int 0, .int 0, .int 0, .int 0, .int 0, .int 0, .ref (am 6), .int 0, .ref (am 7), .int 0, .ref (am 8), .ref (am 9), .int (-1), .int 0, .int 0, .int (-1), .int 0, .ref (am 10), .int 0, .ref (am 11), .ref (am 12), .ref (am 13), .ref (am 14), .long 0, .ref (am 15), .ref (am 16), .ref (am 17), .ref (am 18)])), ((am 9), .inl (G.2.2 0, 110, .inl (fun _ => 0)))] H := hP
  have hD : va_D A [(h0, .inr (12, [.ref (am 0), .int 0, .int 0, .ref (am 1), .ref (am 2), .ref (am 3), .ref (am 4), .ref (am 5), .int 0, .int 0, .int 0, .int 0, .int 0, .int 0, .int 0, .ref (am 6), .int 0, .ref (am 7), .int 0, .ref (am 8), .ref (am 9), .int (-1), .int 0, .int 0, .int (-1), .int 0, .ref (am 10), .int 0, .ref (am 11), .ref (am 12), .ref (am 13), .ref (am 14), .long 0, .ref (am 15), .ref (am 16), .ref (am 17), .ref (am 18)])), ((am 9), .inl (G.2.2 0, 110, .inl (fun _ => 0)))] := hD
  refine lv_if_eq (tgt := 26) hx hb dX12_hold_5 (by decide) (fun _ => ?_) (fun c0 => absurd (by decide +kernel) c0)
  refine lv_sipush (v := (-1000)) hx hb dX12_hold_26 (by decide +kernel) ?_
  have hP9 := hP.sub (ws' := []) [] rfl
  have hD9 := hD.sub (ws' := []) [] (by decide) rfl
  exact W.iret (v := (-1000)) hx hb hr (gq_endI () rfl hP9 hD9 hS) hS.2.2 dX12_hold_29
set_option maxHeartbeats 4000000 in
set_option maxRecDepth 100000 in
theorem c_M_rests (l : Launch) (G : gg_T) (sz : Nat) (h0 : Nat) (am : Nat → Nat) (b : Int32) (w : Int32) (z : Int32) (y : Int32) : Met l yX12_rests (ts_L yX12_rests cX12_rests 8 (some .int)) ({ frames := 1, cells := 0, slots := 0, locals := 21 }) (gc_P G [(h0, .inr (12, [.ref (am 0), .int 0, .int 0, .ref (am 1), .ref (am 2), .ref (am 3), .ref (am 4), .ref (am 5), .int 0, .int 0, .int 0, .int 0, .int 0, .int 0, .int 0, .ref (am 6), .int 0, .ref (am 7), .int 0, .ref (am 8), .ref (am 9), .int (-1), .int 0, .int 0, .int (-1), .int 0, .ref (am 10), .int 0, .ref (am 11), .ref (am 12), .ref (am 13), .ref (am 14), .long 0, .ref (am 15), .ref (am 16), .ref (am 17), .ref (am 18)])), ((am 9), .inl (G.2.2 0, 110, .inl (fun _ => 0)))] sz [.ref h0, .int b, .int w, .int z, .int y]) (gc_I G (va_A [(h0, .inr (12, [.ref (am 0), .int 0, .int 0, .ref (am 1), .ref (am 2), .ref (am 3), .ref (am 4), .ref (am 5), .int 0, .int 0, .int 0, .int 0, .int 0, .int 0, .int 0, .ref (am 6), .int 0, .ref (am 7), .int 0, .ref (am 8), .ref (am 9), .int (-1), .int 0, .int 0, .int (-1), .int 0, .ref (am 10), .int 0, .ref (am 11), .ref (am 12), .ref (am 13), .ref (am 14), .long 0, .ref (am 15), .ref (am 16), .ref (am 17), .ref (am 18)])), ((am 9), .inl (G.2.2 0, 110, .inl (fun _ => 0)))] sz) (fun r (_ : Unit) => r = (-1)) (fun _ => [])) 0 0 (va_A [(h0, .inr (12, [.ref (am 0), .int 0, .int 0, .ref (am 1), .ref (am 2), .ref (am 3), .ref (am 4), .ref (am 5), .int 0, .int 0, .int 0, .int 0, .int 0, .int 0, .int 0, .ref (am 6), .int 0, .ref (am 7), .int 0, .ref (am 8), .ref (am 9), .int (-1), .int 0, .int 0, .int (-1), .int 0, .ref (am 10), .int 0, .ref (am 11), .ref (am 12), .ref (am 13), .ref (am 14), .long 0, .ref (am 15), .ref (am 16), .ref (am 17), .ref (am 18)])), ((am 9), .inl (G.2.2 0, 110, .inl (fun _ => 0)))] sz) := by
  refine Met.ofW (cc := cX12_rests) (maxL := 8) (ret := (some .int)) (by decide) rfl ?_
  intro p e s m args below meth c s₁ B hml hv
  obtain ⟨rfl, hsz, hP, hK, hD0⟩ := hv
  have hx := B.exec
  have hb := B.bytes
  have hr := B.returns
  have ht := ts_ht (atoms_spec (ws := ts_L yX12_rests cX12_rests 8 (some .int)) B.pre)
  have hown : s.vm.findClass RX12 = some m.cls := findClass_of_methodNamed B.named
  have hlocks := B.notSynchronized
  subst hsz
  have hD := hD0.self (sz := s.heap.size)
  generalize hAe : va_A [(h0, .inr (12, [.ref (am 0), .int 0, .int 0, .ref (am 1), .ref (am 2), .ref (am 3), .ref (am 4), .ref (am 5), .int 0, .int 0, .int 0, .int 0, .int 0, .int 0, .int 0, .ref (am 6), .int 0, .ref (am 7), .int 0, .ref (am 8), .ref (am 9), .int (-1), .int 0, .int 0, .int (-1), .int 0, .ref (am 10), .int 0, .ref (am 11), .ref (am 12), .ref (am 13), .ref (am 14), .long 0, .ref (am 15), .ref (am 16), .ref (am 17), .ref (am 18)])), ((am 9), .inl (G.2.2 0, 110, .inl (fun _ => 0)))] s.heap.size = A at hD ⊢
  have hA : ∀ q : Nat, s.heap.size ≤ q → A q := fun q h => by rw [← hAe]; exact Or.inr h
  have hS : va_S A s.heap s.heap [] := va_S.rf
  have hl := lv_entry ([.ref h0, .int b, .int w, .int z, .int y]) (n := 8) (Nat.le_of_ble_eq_true rfl)
  rw [lg_entry_eq]
  generalize (lg_sl ([.ref h0, .int b, .int w, .int z, .int y]) ++ List.replicate (8 - (lg_sl ([.ref h0, .int b, .int w, .int z, .int y])).length) Slot.unset).toArray = ls at hl ⊢
  have hl : lv_has ls 8 [(0, .ref h0), (1, .int b), (2, .int w), (3, .int z), (4, .int y)] := hl
  refine lv_aload_n hx hb dX12_rests_0 rfl (lv_at hl 0 rfl) ?_
  refine lv_iload_n hx hb dX12_rests_1 rfl (lv_at hl 1 rfl) ?_
  have hPc := hP.sub (ws' := [(h0, .inr (12, [.ref (am 0), .int 0, .int 0, .ref (am 1), .ref (am 2), .ref (am 3), .ref (am 4), .ref (am 5), .int 0, .int 0, .int 0, .int 0, .int 0, .int 0, .int 0, .ref (am 6), .int 0, .ref (am 7), .int 0, .ref (am 8), .ref (am 9), .int (-1), .int 0, .int 0, .int (-1), .int 0, .ref (am 10), .int 0, .ref (am 11), .ref (am 12), .ref (am 13), .ref (am 14), .long 0, .ref (am 15), .ref (am 16), .ref (am 17), .ref (am 18)])), ((am 9), .inl (G.2.2 0, 110, .inl (fun _ => 0)))]) [0, 1] rfl
  have hDc := hD.sub (ws' := [(h0, .inr (12, [.ref (am 0), .int 0, .int 0, .ref (am 1), .ref (am 2), .ref (am 3), .ref (am 4), .ref (am 5), .int 0, .int 0, .int 0, .int 0, .int 0, .int 0, .int 0, .ref (am 6), .int 0, .ref (am 7), .int 0, .ref (am 8), .ref (am 9), .int (-1), .int 0, .int 0, .int (-1), .int 0, .ref (am 10), .int 0, .ref (am 11), .ref (am 12), .ref (am 13), .ref (am 14), .long 0, .ref (am 15), .ref (am 16), .ref (am 17), .ref (am 18)])), ((am 9), .inl (G.2.2 0, 110, .inl (fun _ => 0)))]) [0, 1] (by decide) rfl
  refine gq_callI (wr := []) (va_runV (As := [.int b]) (rest := []) ⟨hx, hb, hml, hown, ht⟩ (c_M_isBidder l G s.heap.size h0 am b) (cwV 1 ht (ts_gV wd_1553 wd_1555 wd_73 wd_134 wd_1556) rfl rfl rfl (by decide +kernel) ⟨Nat.le_of_ble_eq_true rfl, Nat.le_of_ble_eq_true rfl⟩) (gc_preV (ci := 12) (q0 := 0) hK hPc hDc rfl rfl) rfl rfl hl.1 rfl (lv_room (Nat.le_of_ble_eq_true rfl)) dX12_rests_2 ⟨Nat.le_of_ble_eq_true rfl, Nat.le_of_ble_eq_true rfl⟩) hP hD hS hA [0, 1] [] rfl rfl (by decide) (by decide) (fun r u H locs hw hP hD hS => ?_)
  have hw : r = 0 := hw
  subst hw
  have hP : va_P (gg_D G) classes [(h0, .inr (12, [.ref (am 0), .int 0, .int 0, .ref (am 1), .ref (am 2), .ref (am 3), .ref (am 4), .ref (am 5), .int 0, .int 0, .int 0, .int 0, .int 0, .int 0, .int 0, .ref (am 6), .int 0, .ref (am 7), .int 0, .ref (am 8), .ref (am 9), .int (-1), .int 0, .int 0, .int (-1), .int 0, .ref (am 10), .int 0, .ref (am 11), .ref (am 12), .ref (am 13), .ref (am 14), .long 0, .ref (am 15), .ref (am 16), .ref (am 17), .ref (am 18)])), ((am 9), .inl (G.2.2 0, 110, .inl (fun _ => 0)))] H := hP
  have hD : va_D A [(h0, .inr (12, [.ref (am 0), .int 0, .int 0, .ref (am 1), .ref (am 2), .ref (am 3), .ref (am 4), .ref (am 5), .int 0, .int 0, .int 0, .int 0, .int 0, .int 0, .int 0, .ref (am 6), .int 0, .ref (am 7), .int 0, .ref (am 8), .ref (am 9), .int (-1), .int 0, .int 0, .int (-1), .int 0, .ref (am 10), .int 0, .ref (am 11), .ref (am 12), .ref (am 13), .ref (am 14), .long 0, .ref (am 15), .ref (am 16), .ref (am 17), .ref (am 18)])), ((am 9), .inl (G.2.2 0, 110, .inl (fun _ => 0)))] := hD
  refine lv_if_eq (tgt := 42) hx hb dX12_rests_5 (by decide) (fun _ => ?_) (fun c0 => absurd (by decide +kernel) c0)
  refine lv_iconst (v := (-1)) hx hb dX12_rests_42 (by decide) ?_
  have hP9 := hP.sub (ws' := []) [] rfl
  have hD9 := hD.sub (ws' := []) [] (by decide) rfl
  exact W.iret (v := (-1)) hx hb hr (gq_endI () rfl hP9 hD9 hS) hS.2.2 dX12_rests_43
set_option maxHeartbeats 4000000 in
set_option maxRecDepth 100000 in
theorem c_M_seats (l : Launch) (G : gg_T) (sz : Nat) (h0 : Nat) (am : Nat → Nat) (b : Int32) : Met l yX12_seats (ts_L yX12_seats cX12_seats 8 (some .int)) ({ frames := 1, cells := 0, slots := 0, locals := 20 }) (gc_P G [(h0, .inr (12, [.ref (am 0), .int 0, .int 0, .ref (am 1), .ref (am 2), .ref (am 3), .ref (am 4), .ref (am 5), .int 0, .int 0, .int 0, .int 0, .int 0, .int 0, .int 0, .ref (am 6), .int 0, .ref (am 7), .int 0, .ref (am 8), .ref (am 9), .int (-1), .int 0, .int 0, .int (-1), .int 0, .ref (am 10), .int 0, .ref (am 11), .ref (am 12), .ref (am 13), .ref (am 14), .long 0, .ref (am 15), .ref (am 16), .ref (am 17), .ref (am 18)])), ((am 9), .inl (G.2.2 0, 110, .inl (fun _ => 0)))] sz [.ref h0, .int b]) (gc_I G (va_A [(h0, .inr (12, [.ref (am 0), .int 0, .int 0, .ref (am 1), .ref (am 2), .ref (am 3), .ref (am 4), .ref (am 5), .int 0, .int 0, .int 0, .int 0, .int 0, .int 0, .int 0, .ref (am 6), .int 0, .ref (am 7), .int 0, .ref (am 8), .ref (am 9), .int (-1), .int 0, .int 0, .int (-1), .int 0, .ref (am 10), .int 0, .ref (am 11), .ref (am 12), .ref (am 13), .ref (am 14), .long 0, .ref (am 15), .ref (am 16), .ref (am 17), .ref (am 18)])), ((am 9), .inl (G.2.2 0, 110, .inl (fun _ => 0)))] sz) (fun r (_ : Unit) => r = (-1000)) (fun _ => [])) 0 0 (va_A [(h0, .inr (12, [.ref (am 0), .int 0, .int 0, .ref (am 1), .ref (am 2), .ref (am 3), .ref (am 4), .ref (am 5), .int 0, .int 0, .int 0, .int 0, .int 0, .int 0, .int 0, .ref (am 6), .int 0, .ref (am 7), .int 0, .ref (am 8), .ref (am 9), .int (-1), .int 0, .int 0, .int (-1), .int 0, .ref (am 10), .int 0, .ref (am 11), .ref (am 12), .ref (am 13), .ref (am 14), .long 0, .ref (am 15), .ref (am 16), .ref (am 17), .ref (am 18)])), ((am 9), .inl (G.2.2 0, 110, .inl (fun _ => 0)))] sz) := by
  refine Met.ofW (cc := cX12_seats) (maxL := 8) (ret := (some .int)) (by decide) rfl ?_
  intro p e s m args below meth c s₁ B hml hv
  obtain ⟨rfl, hsz, hP, hK, hD0⟩ := hv
  have hx := B.exec
  have hb := B.bytes
  have hr := B.returns
  have ht := ts_ht (atoms_spec (ws := ts_L yX12_seats cX12_seats 8 (some .int)) B.pre)
  have hown : s.vm.findClass RX12 = some m.cls := findClass_of_methodNamed B.named
  have hlocks := B.notSynchronized
  subst hsz
  have hD := hD0.self (sz := s.heap.size)
  generalize hAe : va_A [(h0, .inr (12, [.ref (am 0), .int 0, .int 0, .ref (am 1), .ref (am 2), .ref (am 3), .ref (am 4), .ref (am 5), .int 0, .int 0, .int 0, .int 0, .int 0, .int 0, .int 0, .ref (am 6), .int 0, .ref (am 7), .int 0, .ref (am 8), .ref (am 9), .int (-1), .int 0, .int 0, .int (-1), .int 0, .ref (am 10), .int 0, .ref (am 11), .ref (am 12), .ref (am 13), .ref (am 14), .long 0, .ref (am 15), .ref (am 16), .ref (am 17), .ref (am 18)])), ((am 9), .inl (G.2.2 0, 110, .inl (fun _ => 0)))] s.heap.size = A at hD ⊢
  have hA : ∀ q : Nat, s.heap.size ≤ q → A q := fun q h => by rw [← hAe]; exact Or.inr h
  have hS : va_S A s.heap s.heap [] := va_S.rf
  have hl := lv_entry ([.ref h0, .int b]) (n := 8) (Nat.le_of_ble_eq_true rfl)
  rw [lg_entry_eq]
  generalize (lg_sl ([.ref h0, .int b]) ++ List.replicate (8 - (lg_sl ([.ref h0, .int b])).length) Slot.unset).toArray = ls at hl ⊢
  have hl : lv_has ls 8 [(0, .ref h0), (1, .int b)] := hl
  refine lv_aload_n hx hb dX12_seats_0 rfl (lv_at hl 0 rfl) ?_
  have hPc := hP.sub (ws' := [(h0, .inr (12, [.ref (am 0), .int 0, .int 0, .ref (am 1), .ref (am 2), .ref (am 3), .ref (am 4), .ref (am 5), .int 0, .int 0, .int 0, .int 0, .int 0, .int 0, .int 0, .ref (am 6), .int 0, .ref (am 7), .int 0, .ref (am 8), .ref (am 9), .int (-1), .int 0, .int 0, .int (-1), .int 0, .ref (am 10), .int 0, .ref (am 11), .ref (am 12), .ref (am 13), .ref (am 14), .long 0, .ref (am 15), .ref (am 16), .ref (am 17), .ref (am 18)])), ((am 9), .inl (G.2.2 0, 110, .inl (fun _ => 0)))]) [0, 1] rfl
  have hDc := hD.sub (ws' := [(h0, .inr (12, [.ref (am 0), .int 0, .int 0, .ref (am 1), .ref (am 2), .ref (am 3), .ref (am 4), .ref (am 5), .int 0, .int 0, .int 0, .int 0, .int 0, .int 0, .int 0, .ref (am 6), .int 0, .ref (am 7), .int 0, .ref (am 8), .ref (am 9), .int (-1), .int 0, .int 0, .int (-1), .int 0, .ref (am 10), .int 0, .ref (am 11), .ref (am 12), .ref (am 13), .ref (am 14), .long 0, .ref (am 15), .ref (am 16), .ref (am 17), .ref (am 18)])), ((am 9), .inl (G.2.2 0, 110, .inl (fun _ => 0)))]) [0, 1] (by decide) rfl
  refine gq_callI (wr := []) (va_runV (As := []) (rest := []) ⟨hx, hb, hml, hown, ht⟩ (c_M_isSale l G s.heap.size h0 am) (cwV 0 ht (ts_gV wd_1720 wd_1722 wd_102 wd_134 wd_1723) rfl rfl rfl (by decide +kernel) ⟨Nat.le_of_ble_eq_true rfl, Nat.le_of_ble_eq_true rfl⟩) (gc_preV (ci := 12) (q0 := 0) hK hPc hDc rfl rfl) rfl rfl hl.1 rfl (lv_room (Nat.le_of_ble_eq_true rfl)) dX12_seats_1 ⟨Nat.le_of_ble_eq_true rfl, Nat.le_of_ble_eq_true rfl⟩) hP hD hS hA [0, 1] [] rfl rfl (by decide) (by decide) (fun r u H locs hw hP hD hS => ?_)
  have hw : r = 0 := hw
  subst hw
  have hP : va_P (gg_D G) classes [(h0, .inr (12, [.ref (am 0), .int 0, .int 0, .ref (am 1), .ref (am 2), .ref (am 3), .ref (am 4), .ref (am 5), .int 0, .int 0, .int 0, .int 0, .int 0, .int 0, .int 0, .ref (am 6), .int 0, .ref (am 7), .int 0, .ref (am 8), .ref (am 9), .int (-1), .int 0, .int 0, .int (-1), .int 0, .ref (am 10), .int 0, .ref (am 11), .ref (am 12), .ref (am 13), .ref (am 14), .long 0, .ref (am 15), .ref (am 16), .ref (am 17), .ref (am 18)])), ((am 9), .inl (G.2.2 0, 110, .inl (fun _ => 0)))] H := hP
  have hD : va_D A [(h0, .inr (12, [.ref (am 0), .int 0, .int 0, .ref (am 1), .ref (am 2), .ref (am 3), .ref (am 4), .ref (am 5), .int 0, .int 0, .int 0, .int 0, .int 0, .int 0, .int 0, .ref (am 6), .int 0, .ref (am 7), .int 0, .ref (am 8), .ref (am 9), .int (-1), .int 0, .int 0, .int (-1), .int 0, .ref (am 10), .int 0, .ref (am 11), .ref (am 12), .ref (am 13), .ref (am 14), .long 0, .ref (am 15), .ref (am 16), .ref (am 17), .ref (am 18)])), ((am 9), .inl (G.2.2 0, 110, .inl (fun _ => 0)))] := hD
  refine lv_if_eq (tgt := 19) hx hb dX12_seats_4 (by decide) (fun _ => ?_) (fun c0 => absurd (by decide +kernel) c0)
  refine lv_sipush (v := (-1000)) hx hb dX12_seats_19 (by decide +kernel) ?_
  have hP9 := hP.sub (ws' := []) [] rfl
  have hD9 := hD.sub (ws' := []) [] (by decide) rfl
  exact W.iret (v := (-1000)) hx hb hr (gq_endI () rfl hP9 hD9 hS) hS.2.2 dX12_seats_22
set_option maxHeartbeats 4000000 in
set_option maxRecDepth 100000 in
theorem c_M_tricks (l : Launch) (G : gg_T) (sz : Nat) (h0 : Nat) (am : Nat → Nat) (b : Int32) (w : Int32) : Met l yX12_tricks (ts_L yX12_tricks cX12_tricks 10 (some .int)) ({ frames := 1, cells := 0, slots := 0, locals := 21 }) (gc_P G [(h0, .inr (12, [.ref (am 0), .int 0, .int 0, .ref (am 1), .ref (am 2), .ref (am 3), .ref (am 4), .ref (am 5), .int 0, .int 0, .int 0, .int 0, .int 0, .int 0, .int 0, .ref (am 6), .int 0, .ref (am 7), .int 0, .ref (am 8), .ref (am 9), .int (-1), .int 0, .int 0, .int (-1), .int 0, .ref (am 10), .int 0, .ref (am 11), .ref (am 12), .ref (am 13), .ref (am 14), .long 0, .ref (am 15), .ref (am 16), .ref (am 17), .ref (am 18)])), ((am 9), .inl (G.2.2 0, 110, .inl (fun _ => 0)))] sz [.ref h0, .int b, .int w]) (gc_I G (va_A [(h0, .inr (12, [.ref (am 0), .int 0, .int 0, .ref (am 1), .ref (am 2), .ref (am 3), .ref (am 4), .ref (am 5), .int 0, .int 0, .int 0, .int 0, .int 0, .int 0, .int 0, .ref (am 6), .int 0, .ref (am 7), .int 0, .ref (am 8), .ref (am 9), .int (-1), .int 0, .int 0, .int (-1), .int 0, .ref (am 10), .int 0, .ref (am 11), .ref (am 12), .ref (am 13), .ref (am 14), .long 0, .ref (am 15), .ref (am 16), .ref (am 17), .ref (am 18)])), ((am 9), .inl (G.2.2 0, 110, .inl (fun _ => 0)))] sz) (fun r (_ : Unit) => r = (-4)) (fun _ => [])) 0 0 (va_A [(h0, .inr (12, [.ref (am 0), .int 0, .int 0, .ref (am 1), .ref (am 2), .ref (am 3), .ref (am 4), .ref (am 5), .int 0, .int 0, .int 0, .int 0, .int 0, .int 0, .int 0, .ref (am 6), .int 0, .ref (am 7), .int 0, .ref (am 8), .ref (am 9), .int (-1), .int 0, .int 0, .int (-1), .int 0, .ref (am 10), .int 0, .ref (am 11), .ref (am 12), .ref (am 13), .ref (am 14), .long 0, .ref (am 15), .ref (am 16), .ref (am 17), .ref (am 18)])), ((am 9), .inl (G.2.2 0, 110, .inl (fun _ => 0)))] sz) := by
  refine Met.ofW (cc := cX12_tricks) (maxL := 10) (ret := (some .int)) (by decide) rfl ?_
  intro p e s m args below meth c s₁ B hml hv
  obtain ⟨rfl, hsz, hP, hK, hD0⟩ := hv
  have hx := B.exec
  have hb := B.bytes
  have hr := B.returns
  have ht := ts_ht (atoms_spec (ws := ts_L yX12_tricks cX12_tricks 10 (some .int)) B.pre)
  have hown : s.vm.findClass RX12 = some m.cls := findClass_of_methodNamed B.named
  have hlocks := B.notSynchronized
  subst hsz
  have hD := hD0.self (sz := s.heap.size)
  generalize hAe : va_A [(h0, .inr (12, [.ref (am 0), .int 0, .int 0, .ref (am 1), .ref (am 2), .ref (am 3), .ref (am 4), .ref (am 5), .int 0, .int 0, .int 0, .int 0, .int 0, .int 0, .int 0, .ref (am 6), .int 0, .ref (am 7), .int 0, .ref (am 8), .ref (am 9), .int (-1), .int 0, .int 0, .int (-1), .int 0, .ref (am 10), .int 0, .ref (am 11), .ref (am 12), .ref (am 13), .ref (am 14), .long 0, .ref (am 15), .ref (am 16), .ref (am 17), .ref (am 18)])), ((am 9), .inl (G.2.2 0, 110, .inl (fun _ => 0)))] s.heap.size = A at hD ⊢
  have hA : ∀ q : Nat, s.heap.size ≤ q → A q := fun q h => by rw [← hAe]; exact Or.inr h
  have hS : va_S A s.heap s.heap [] := va_S.rf
  have hl := lv_entry ([.ref h0, .int b, .int w]) (n := 10) (Nat.le_of_ble_eq_true rfl)
  rw [lg_entry_eq]
  generalize (lg_sl ([.ref h0, .int b, .int w]) ++ List.replicate (10 - (lg_sl ([.ref h0, .int b, .int w])).length) Slot.unset).toArray = ls at hl ⊢
  have hl : lv_has ls 10 [(0, .ref h0), (1, .int b), (2, .int w)] := hl
  refine lv_aload_n hx hb dX12_tricks_0 rfl (lv_at hl 0 rfl) ?_
  refine lv_iload_n hx hb dX12_tricks_1 rfl (lv_at hl 1 rfl) ?_
  have hPc := hP.sub (ws' := [(h0, .inr (12, [.ref (am 0), .int 0, .int 0, .ref (am 1), .ref (am 2), .ref (am 3), .ref (am 4), .ref (am 5), .int 0, .int 0, .int 0, .int 0, .int 0, .int 0, .int 0, .ref (am 6), .int 0, .ref (am 7), .int 0, .ref (am 8), .ref (am 9), .int (-1), .int 0, .int 0, .int (-1), .int 0, .ref (am 10), .int 0, .ref (am 11), .ref (am 12), .ref (am 13), .ref (am 14), .long 0, .ref (am 15), .ref (am 16), .ref (am 17), .ref (am 18)])), ((am 9), .inl (G.2.2 0, 110, .inl (fun _ => 0)))]) [0, 1] rfl
  have hDc := hD.sub (ws' := [(h0, .inr (12, [.ref (am 0), .int 0, .int 0, .ref (am 1), .ref (am 2), .ref (am 3), .ref (am 4), .ref (am 5), .int 0, .int 0, .int 0, .int 0, .int 0, .int 0, .int 0, .ref (am 6), .int 0, .ref (am 7), .int 0, .ref (am 8), .ref (am 9), .int (-1), .int 0, .int 0, .int (-1), .int 0, .ref (am 10), .int 0, .ref (am 11), .ref (am 12), .ref (am 13), .ref (am 14), .long 0, .ref (am 15), .ref (am 16), .ref (am 17), .ref (am 18)])), ((am 9), .inl (G.2.2 0, 110, .inl (fun _ => 0)))]) [0, 1] (by decide) rfl
  refine gq_callI (wr := []) (va_runV (As := [.int b]) (rest := []) ⟨hx, hb, hml, hown, ht⟩ (c_M_isBidder l G s.heap.size h0 am b) (cwV 1 ht (ts_gV wd_1553 wd_1555 wd_73 wd_134 wd_1556) rfl rfl rfl (by decide +kernel) ⟨Nat.le_of_ble_eq_true rfl, Nat.le_of_ble_eq_true rfl⟩) (gc_preV (ci := 12) (q0 := 0) hK hPc hDc rfl rfl) rfl rfl hl.1 rfl (lv_room (Nat.le_of_ble_eq_true rfl)) dX12_tricks_2 ⟨Nat.le_of_ble_eq_true rfl, Nat.le_of_ble_eq_true rfl⟩) hP hD hS hA [0, 1] [] rfl rfl (by decide) (by decide) (fun r u H locs hw hP hD hS => ?_)
  have hw : r = 0 := hw
  subst hw
  have hP : va_P (gg_D G) classes [(h0, .inr (12, [.ref (am 0), .int 0, .int 0, .ref (am 1), .ref (am 2), .ref (am 3), .ref (am 4), .ref (am 5), .int 0, .int 0, .int 0, .int 0, .int 0, .int 0, .int 0, .ref (am 6), .int 0, .ref (am 7), .int 0, .ref (am 8), .ref (am 9), .int (-1), .int 0, .int 0, .int (-1), .int 0, .ref (am 10), .int 0, .ref (am 11), .ref (am 12), .ref (am 13), .ref (am 14), .long 0, .ref (am 15), .ref (am 16), .ref (am 17), .ref (am 18)])), ((am 9), .inl (G.2.2 0, 110, .inl (fun _ => 0)))] H := hP
  have hD : va_D A [(h0, .inr (12, [.ref (am 0), .int 0, .int 0, .ref (am 1), .ref (am 2), .ref (am 3), .ref (am 4), .ref (am 5), .int 0, .int 0, .int 0, .int 0, .int 0, .int 0, .int 0, .ref (am 6), .int 0, .ref (am 7), .int 0, .ref (am 8), .ref (am 9), .int (-1), .int 0, .int 0, .int (-1), .int 0, .ref (am 10), .int 0, .ref (am 11), .ref (am 12), .ref (am 13), .ref (am 14), .long 0, .ref (am 15), .ref (am 16), .ref (am 17), .ref (am 18)])), ((am 9), .inl (G.2.2 0, 110, .inl (fun _ => 0)))] := hD
  refine lv_if_eq (tgt := 28) hx hb dX12_tricks_5 (by decide) (fun _ => ?_) (fun c0 => absurd (by decide +kernel) c0)
  refine lv_bipush (v := (-4)) hx hb dX12_tricks_28 (by decide +kernel) ?_
  have hP9 := hP.sub (ws' := []) [] rfl
  have hD9 := hD.sub (ws' := []) [] (by decide) rfl
  exact W.iret (v := (-4)) hx hb hr (gq_endI () rfl hP9 hD9 hS) hS.2.2 dX12_tricks_30
set_option maxHeartbeats 4000000 in
set_option maxRecDepth 100000 in
theorem c_M_ring (l : Launch) (G : gg_T) (sz : Nat) (h0 : Nat) (am : Nat → Nat) (b : Int32) (w : Int32) : Met l yX12_ring (ts_L yX12_ring cX12_ring 9 (some .int)) ({ frames := 1, cells := 0, slots := 0, locals := 20 }) (gc_P G [(h0, .inr (12, [.ref (am 0), .int 0, .int 0, .ref (am 1), .ref (am 2), .ref (am 3), .ref (am 4), .ref (am 5), .int 0, .int 0, .int 0, .int 0, .int 0, .int 0, .int 0, .ref (am 6), .int 0, .ref (am 7), .int 0, .ref (am 8), .ref (am 9), .int (-1), .int 0, .int 0, .int (-1), .int 0, .ref (am 10), .int 0, .ref (am 11), .ref (am 12), .ref (am 13), .ref (am 14), .long 0, .ref (am 15), .ref (am 16), .ref (am 17), .ref (am 18)])), ((am 9), .inl (G.2.2 0, 110, .inl (fun _ => 0)))] sz [.ref h0, .int b, .int w]) (gc_I G (va_A [(h0, .inr (12, [.ref (am 0), .int 0, .int 0, .ref (am 1), .ref (am 2), .ref (am 3), .ref (am 4), .ref (am 5), .int 0, .int 0, .int 0, .int 0, .int 0, .int 0, .int 0, .ref (am 6), .int 0, .ref (am 7), .int 0, .ref (am 8), .ref (am 9), .int (-1), .int 0, .int 0, .int (-1), .int 0, .ref (am 10), .int 0, .ref (am 11), .ref (am 12), .ref (am 13), .ref (am 14), .long 0, .ref (am 15), .ref (am 16), .ref (am 17), .ref (am 18)])), ((am 9), .inl (G.2.2 0, 110, .inl (fun _ => 0)))] sz) (fun r (_ : Unit) => r = (-1000)) (fun _ => [])) 0 0 (va_A [(h0, .inr (12, [.ref (am 0), .int 0, .int 0, .ref (am 1), .ref (am 2), .ref (am 3), .ref (am 4), .ref (am 5), .int 0, .int 0, .int 0, .int 0, .int 0, .int 0, .int 0, .ref (am 6), .int 0, .ref (am 7), .int 0, .ref (am 8), .ref (am 9), .int (-1), .int 0, .int 0, .int (-1), .int 0, .ref (am 10), .int 0, .ref (am 11), .ref (am 12), .ref (am 13), .ref (am 14), .long 0, .ref (am 15), .ref (am 16), .ref (am 17), .ref (am 18)])), ((am 9), .inl (G.2.2 0, 110, .inl (fun _ => 0)))] sz) := by
  refine Met.ofW (cc := cX12_ring) (maxL := 9) (ret := (some .int)) (by decide) rfl ?_
  intro p e s m args below meth c s₁ B hml hv
  obtain ⟨rfl, hsz, hP, hK, hD0⟩ := hv
  have hx := B.exec
  have hb := B.bytes
  have hr := B.returns
  have ht := ts_ht (atoms_spec (ws := ts_L yX12_ring cX12_ring 9 (some .int)) B.pre)
  have hown : s.vm.findClass RX12 = some m.cls := findClass_of_methodNamed B.named
  have hlocks := B.notSynchronized
  subst hsz
  have hD := hD0.self (sz := s.heap.size)
  generalize hAe : va_A [(h0, .inr (12, [.ref (am 0), .int 0, .int 0, .ref (am 1), .ref (am 2), .ref (am 3), .ref (am 4), .ref (am 5), .int 0, .int 0, .int 0, .int 0, .int 0, .int 0, .int 0, .ref (am 6), .int 0, .ref (am 7), .int 0, .ref (am 8), .ref (am 9), .int (-1), .int 0, .int 0, .int (-1), .int 0, .ref (am 10), .int 0, .ref (am 11), .ref (am 12), .ref (am 13), .ref (am 14), .long 0, .ref (am 15), .ref (am 16), .ref (am 17), .ref (am 18)])), ((am 9), .inl (G.2.2 0, 110, .inl (fun _ => 0)))] s.heap.size = A at hD ⊢
  have hA : ∀ q : Nat, s.heap.size ≤ q → A q := fun q h => by rw [← hAe]; exact Or.inr h
  have hS : va_S A s.heap s.heap [] := va_S.rf
  have hl := lv_entry ([.ref h0, .int b, .int w]) (n := 9) (Nat.le_of_ble_eq_true rfl)
  rw [lg_entry_eq]
  generalize (lg_sl ([.ref h0, .int b, .int w]) ++ List.replicate (9 - (lg_sl ([.ref h0, .int b, .int w])).length) Slot.unset).toArray = ls at hl ⊢
  have hl : lv_has ls 9 [(0, .ref h0), (1, .int b), (2, .int w)] := hl
  refine lv_aload_n hx hb dX12_ring_0 rfl (lv_at hl 0 rfl) ?_
  have hPc := hP.sub (ws' := [(h0, .inr (12, [.ref (am 0), .int 0, .int 0, .ref (am 1), .ref (am 2), .ref (am 3), .ref (am 4), .ref (am 5), .int 0, .int 0, .int 0, .int 0, .int 0, .int 0, .int 0, .ref (am 6), .int 0, .ref (am 7), .int 0, .ref (am 8), .ref (am 9), .int (-1), .int 0, .int 0, .int (-1), .int 0, .ref (am 10), .int 0, .ref (am 11), .ref (am 12), .ref (am 13), .ref (am 14), .long 0, .ref (am 15), .ref (am 16), .ref (am 17), .ref (am 18)])), ((am 9), .inl (G.2.2 0, 110, .inl (fun _ => 0)))]) [0, 1] rfl
  have hDc := hD.sub (ws' := [(h0, .inr (12, [.ref (am 0), .int 0, .int 0, .ref (am 1), .ref (am 2), .ref (am 3), .ref (am 4), .ref (am 5), .int 0, .int 0, .int 0, .int 0, .int 0, .int 0, .int 0, .ref (am 6), .int 0, .ref (am 7), .int 0, .ref (am 8), .ref (am 9), .int (-1), .int 0, .int 0, .int (-1), .int 0, .ref (am 10), .int 0, .ref (am 11), .ref (am 12), .ref (am 13), .ref (am 14), .long 0, .ref (am 15), .ref (am 16), .ref (am 17), .ref (am 18)])), ((am 9), .inl (G.2.2 0, 110, .inl (fun _ => 0)))]) [0, 1] (by decide) rfl
  refine gq_callI (wr := []) (va_runV (As := []) (rest := []) ⟨hx, hb, hml, hown, ht⟩ (c_M_isSale l G s.heap.size h0 am) (cwV 0 ht (ts_gV wd_1720 wd_1722 wd_102 wd_134 wd_1723) rfl rfl rfl (by decide +kernel) ⟨Nat.le_of_ble_eq_true rfl, Nat.le_of_ble_eq_true rfl⟩) (gc_preV (ci := 12) (q0 := 0) hK hPc hDc rfl rfl) rfl rfl hl.1 rfl (lv_room (Nat.le_of_ble_eq_true rfl)) dX12_ring_1 ⟨Nat.le_of_ble_eq_true rfl, Nat.le_of_ble_eq_true rfl⟩) hP hD hS hA [0, 1] [] rfl rfl (by decide) (by decide) (fun r u H locs hw hP hD hS => ?_)
  have hw : r = 0 := hw
  subst hw
  have hP : va_P (gg_D G) classes [(h0, .inr (12, [.ref (am 0), .int 0, .int 0, .ref (am 1), .ref (am 2), .ref (am 3), .ref (am 4), .ref (am 5), .int 0, .int 0, .int 0, .int 0, .int 0, .int 0, .int 0, .ref (am 6), .int 0, .ref (am 7), .int 0, .ref (am 8), .ref (am 9), .int (-1), .int 0, .int 0, .int (-1), .int 0, .ref (am 10), .int 0, .ref (am 11), .ref (am 12), .ref (am 13), .ref (am 14), .long 0, .ref (am 15), .ref (am 16), .ref (am 17), .ref (am 18)])), ((am 9), .inl (G.2.2 0, 110, .inl (fun _ => 0)))] H := hP
  have hD : va_D A [(h0, .inr (12, [.ref (am 0), .int 0, .int 0, .ref (am 1), .ref (am 2), .ref (am 3), .ref (am 4), .ref (am 5), .int 0, .int 0, .int 0, .int 0, .int 0, .int 0, .int 0, .ref (am 6), .int 0, .ref (am 7), .int 0, .ref (am 8), .ref (am 9), .int (-1), .int 0, .int 0, .int (-1), .int 0, .ref (am 10), .int 0, .ref (am 11), .ref (am 12), .ref (am 13), .ref (am 14), .long 0, .ref (am 15), .ref (am 16), .ref (am 17), .ref (am 18)])), ((am 9), .inl (G.2.2 0, 110, .inl (fun _ => 0)))] := hD
  refine lv_if_eq (tgt := 15) hx hb dX12_ring_4 (by decide) (fun _ => ?_) (fun c0 => absurd (by decide +kernel) c0)
  refine lv_iconst (v := (-1)) hx hb dX12_ring_15 (by decide) ?_
  refine lv_istore_n (lv' := [(3, .int (-1)), (0, .ref h0), (1, .int b), (2, .int w)]) hx hb dX12_ring_16 rfl hl (by decide) rfl (fun ls hl => ?_)
  refine lv_iload_n hx hb dX12_ring_17 rfl (lv_at hl 0 rfl) ?_
  refine lv_if_lt (tgt := 31) hx hb dX12_ring_18 (by decide) (fun _ => ?_) (fun c0 => absurd (by decide +kernel) c0)
  refine lv_sipush (v := (-1000)) hx hb dX12_ring_31 (by decide +kernel) ?_
  have hP9 := hP.sub (ws' := []) [] rfl
  have hD9 := hD.sub (ws' := []) [] (by decide) rfl
  exact W.iret (v := (-1000)) hx hb hr (gq_endI () rfl hP9 hD9 hS) hS.2.2 dX12_ring_34
set_option maxHeartbeats 4000000 in
set_option maxRecDepth 100000 in
theorem c_M_breath (l : Launch) (G : gg_T) (sz : Nat) (h0 : Nat) (am : Nat → Nat) (b : Int32) : Met l yX12_breath (ts_L yX12_breath cX12_breath 5 (some .int)) ({ frames := 1, cells := 0, slots := 0, locals := 21 }) (gc_P G [(h0, .inr (12, [.ref (am 0), .int 0, .int 0, .ref (am 1), .ref (am 2), .ref (am 3), .ref (am 4), .ref (am 5), .int 0, .int 0, .int 0, .int 0, .int 0, .int 0, .int 0, .ref (am 6), .int 0, .ref (am 7), .int 0, .ref (am 8), .ref (am 9), .int (-1), .int 0, .int 0, .int (-1), .int 0, .ref (am 10), .int 0, .ref (am 11), .ref (am 12), .ref (am 13), .ref (am 14), .long 0, .ref (am 15), .ref (am 16), .ref (am 17), .ref (am 18)])), ((am 9), .inl (G.2.2 0, 110, .inl (fun _ => 0)))] sz [.ref h0, .int b]) (gc_I G (va_A [(h0, .inr (12, [.ref (am 0), .int 0, .int 0, .ref (am 1), .ref (am 2), .ref (am 3), .ref (am 4), .ref (am 5), .int 0, .int 0, .int 0, .int 0, .int 0, .int 0, .int 0, .ref (am 6), .int 0, .ref (am 7), .int 0, .ref (am 8), .ref (am 9), .int (-1), .int 0, .int 0, .int (-1), .int 0, .ref (am 10), .int 0, .ref (am 11), .ref (am 12), .ref (am 13), .ref (am 14), .long 0, .ref (am 15), .ref (am 16), .ref (am 17), .ref (am 18)])), ((am 9), .inl (G.2.2 0, 110, .inl (fun _ => 0)))] sz) (fun r (_ : Unit) => r = (-1)) (fun _ => [])) 0 0 (va_A [(h0, .inr (12, [.ref (am 0), .int 0, .int 0, .ref (am 1), .ref (am 2), .ref (am 3), .ref (am 4), .ref (am 5), .int 0, .int 0, .int 0, .int 0, .int 0, .int 0, .int 0, .ref (am 6), .int 0, .ref (am 7), .int 0, .ref (am 8), .ref (am 9), .int (-1), .int 0, .int 0, .int (-1), .int 0, .ref (am 10), .int 0, .ref (am 11), .ref (am 12), .ref (am 13), .ref (am 14), .long 0, .ref (am 15), .ref (am 16), .ref (am 17), .ref (am 18)])), ((am 9), .inl (G.2.2 0, 110, .inl (fun _ => 0)))] sz) := by
  refine Met.ofW (cc := cX12_breath) (maxL := 5) (ret := (some .int)) (by decide) rfl ?_
  intro p e s m args below meth c s₁ B hml hv
  obtain ⟨rfl, hsz, hP, hK, hD0⟩ := hv
  have hx := B.exec
  have hb := B.bytes
  have hr := B.returns
  have ht := ts_ht (atoms_spec (ws := ts_L yX12_breath cX12_breath 5 (some .int)) B.pre)
  have hown : s.vm.findClass RX12 = some m.cls := findClass_of_methodNamed B.named
  have hlocks := B.notSynchronized
  subst hsz
  have hD := hD0.self (sz := s.heap.size)
  generalize hAe : va_A [(h0, .inr (12, [.ref (am 0), .int 0, .int 0, .ref (am 1), .ref (am 2), .ref (am 3), .ref (am 4), .ref (am 5), .int 0, .int 0, .int 0, .int 0, .int 0, .int 0, .int 0, .ref (am 6), .int 0, .ref (am 7), .int 0, .ref (am 8), .ref (am 9), .int (-1), .int 0, .int 0, .int (-1), .int 0, .ref (am 10), .int 0, .ref (am 11), .ref (am 12), .ref (am 13), .ref (am 14), .long 0, .ref (am 15), .ref (am 16), .ref (am 17), .ref (am 18)])), ((am 9), .inl (G.2.2 0, 110, .inl (fun _ => 0)))] s.heap.size = A at hD ⊢
  have hA : ∀ q : Nat, s.heap.size ≤ q → A q := fun q h => by rw [← hAe]; exact Or.inr h
  have hS : va_S A s.heap s.heap [] := va_S.rf
  have hl := lv_entry ([.ref h0, .int b]) (n := 5) (Nat.le_of_ble_eq_true rfl)
  rw [lg_entry_eq]
  generalize (lg_sl ([.ref h0, .int b]) ++ List.replicate (5 - (lg_sl ([.ref h0, .int b])).length) Slot.unset).toArray = ls at hl ⊢
  have hl : lv_has ls 5 [(0, .ref h0), (1, .int b)] := hl
  refine lv_aload_n hx hb dX12_breath_0 rfl (lv_at hl 0 rfl) ?_
  refine lv_iload_n hx hb dX12_breath_1 rfl (lv_at hl 1 rfl) ?_
  have hPc := hP.sub (ws' := [(h0, .inr (12, [.ref (am 0), .int 0, .int 0, .ref (am 1), .ref (am 2), .ref (am 3), .ref (am 4), .ref (am 5), .int 0, .int 0, .int 0, .int 0, .int 0, .int 0, .int 0, .ref (am 6), .int 0, .ref (am 7), .int 0, .ref (am 8), .ref (am 9), .int (-1), .int 0, .int 0, .int (-1), .int 0, .ref (am 10), .int 0, .ref (am 11), .ref (am 12), .ref (am 13), .ref (am 14), .long 0, .ref (am 15), .ref (am 16), .ref (am 17), .ref (am 18)])), ((am 9), .inl (G.2.2 0, 110, .inl (fun _ => 0)))]) [0, 1] rfl
  have hDc := hD.sub (ws' := [(h0, .inr (12, [.ref (am 0), .int 0, .int 0, .ref (am 1), .ref (am 2), .ref (am 3), .ref (am 4), .ref (am 5), .int 0, .int 0, .int 0, .int 0, .int 0, .int 0, .int 0, .ref (am 6), .int 0, .ref (am 7), .int 0, .ref (am 8), .ref (am 9), .int (-1), .int 0, .int 0, .int (-1), .int 0, .ref (am 10), .int 0, .ref (am 11), .ref (am 12), .ref (am 13), .ref (am 14), .long 0, .ref (am 15), .ref (am 16), .ref (am 17), .ref (am 18)])), ((am 9), .inl (G.2.2 0, 110, .inl (fun _ => 0)))]) [0, 1] (by decide) rfl
  refine gq_callI (wr := []) (va_runV (As := [.int b]) (rest := []) ⟨hx, hb, hml, hown, ht⟩ (c_M_isBidder l G s.heap.size h0 am b) (cwV 1 ht (ts_gV wd_1553 wd_1555 wd_73 wd_134 wd_1556) rfl rfl rfl (by decide +kernel) ⟨Nat.le_of_ble_eq_true rfl, Nat.le_of_ble_eq_true rfl⟩) (gc_preV (ci := 12) (q0 := 0) hK hPc hDc rfl rfl) rfl rfl hl.1 rfl (lv_room (Nat.le_of_ble_eq_true rfl)) dX12_breath_2 ⟨Nat.le_of_ble_eq_true rfl, Nat.le_of_ble_eq_true rfl⟩) hP hD hS hA [0, 1] [] rfl rfl (by decide) (by decide) (fun r u H locs hw hP hD hS => ?_)
  have hw : r = 0 := hw
  subst hw
  have hP : va_P (gg_D G) classes [(h0, .inr (12, [.ref (am 0), .int 0, .int 0, .ref (am 1), .ref (am 2), .ref (am 3), .ref (am 4), .ref (am 5), .int 0, .int 0, .int 0, .int 0, .int 0, .int 0, .int 0, .ref (am 6), .int 0, .ref (am 7), .int 0, .ref (am 8), .ref (am 9), .int (-1), .int 0, .int 0, .int (-1), .int 0, .ref (am 10), .int 0, .ref (am 11), .ref (am 12), .ref (am 13), .ref (am 14), .long 0, .ref (am 15), .ref (am 16), .ref (am 17), .ref (am 18)])), ((am 9), .inl (G.2.2 0, 110, .inl (fun _ => 0)))] H := hP
  have hD : va_D A [(h0, .inr (12, [.ref (am 0), .int 0, .int 0, .ref (am 1), .ref (am 2), .ref (am 3), .ref (am 4), .ref (am 5), .int 0, .int 0, .int 0, .int 0, .int 0, .int 0, .int 0, .ref (am 6), .int 0, .ref (am 7), .int 0, .ref (am 8), .ref (am 9), .int (-1), .int 0, .int 0, .int (-1), .int 0, .ref (am 10), .int 0, .ref (am 11), .ref (am 12), .ref (am 13), .ref (am 14), .long 0, .ref (am 15), .ref (am 16), .ref (am 17), .ref (am 18)])), ((am 9), .inl (G.2.2 0, 110, .inl (fun _ => 0)))] := hD
  refine lv_if_eq (tgt := 16) hx hb dX12_breath_5 (by decide) (fun _ => ?_) (fun c0 => absurd (by decide +kernel) c0)
  refine lv_iconst (v := (-1)) hx hb dX12_breath_16 (by decide) ?_
  have hP9 := hP.sub (ws' := []) [] rfl
  have hD9 := hD.sub (ws' := []) [] (by decide) rfl
  exact W.iret (v := (-1)) hx hb hr (gq_endI () rfl hP9 hD9 hS) hS.2.2 dX12_breath_17
set_option maxHeartbeats 4000000 in
set_option maxRecDepth 100000 in
theorem c_M_ruled (l : Launch) (G : gg_T) (sz : Nat) (h0 : Nat) (am : Nat → Nat) (b : Int32) : Met l yX12_ruled (ts_L yX12_ruled cX12_ruled 5 (some .int)) ({ frames := 1, cells := 0, slots := 0, locals := 20 }) (gc_P G [(h0, .inr (12, [.ref (am 0), .int 0, .int 0, .ref (am 1), .ref (am 2), .ref (am 3), .ref (am 4), .ref (am 5), .int 0, .int 0, .int 0, .int 0, .int 0, .int 0, .int 0, .ref (am 6), .int 0, .ref (am 7), .int 0, .ref (am 8), .ref (am 9), .int (-1), .int 0, .int 0, .int (-1), .int 0, .ref (am 10), .int 0, .ref (am 11), .ref (am 12), .ref (am 13), .ref (am 14), .long 0, .ref (am 15), .ref (am 16), .ref (am 17), .ref (am 18)])), ((am 9), .inl (G.2.2 0, 110, .inl (fun _ => 0)))] sz [.ref h0, .int b]) (gc_I G (va_A [(h0, .inr (12, [.ref (am 0), .int 0, .int 0, .ref (am 1), .ref (am 2), .ref (am 3), .ref (am 4), .ref (am 5), .int 0, .int 0, .int 0, .int 0, .int 0, .int 0, .int 0, .ref (am 6), .int 0, .ref (am 7), .int 0, .ref (am 8), .ref (am 9), .int (-1), .int 0, .int 0, .int (-1), .int 0, .ref (am 10), .int 0, .ref (am 11), .ref (am 12), .ref (am 13), .ref (am 14), .long 0, .ref (am 15), .ref (am 16), .ref (am 17), .ref (am 18)])), ((am 9), .inl (G.2.2 0, 110, .inl (fun _ => 0)))] sz) (fun r (_ : Unit) => r = (-3)) (fun _ => [])) 0 0 (va_A [(h0, .inr (12, [.ref (am 0), .int 0, .int 0, .ref (am 1), .ref (am 2), .ref (am 3), .ref (am 4), .ref (am 5), .int 0, .int 0, .int 0, .int 0, .int 0, .int 0, .int 0, .ref (am 6), .int 0, .ref (am 7), .int 0, .ref (am 8), .ref (am 9), .int (-1), .int 0, .int 0, .int (-1), .int 0, .ref (am 10), .int 0, .ref (am 11), .ref (am 12), .ref (am 13), .ref (am 14), .long 0, .ref (am 15), .ref (am 16), .ref (am 17), .ref (am 18)])), ((am 9), .inl (G.2.2 0, 110, .inl (fun _ => 0)))] sz) := by
  refine Met.ofW (cc := cX12_ruled) (maxL := 5) (ret := (some .int)) (by decide) rfl ?_
  intro p e s m args below meth c s₁ B hml hv
  obtain ⟨rfl, hsz, hP, hK, hD0⟩ := hv
  have hx := B.exec
  have hb := B.bytes
  have hr := B.returns
  have ht := ts_ht (atoms_spec (ws := ts_L yX12_ruled cX12_ruled 5 (some .int)) B.pre)
  have hown : s.vm.findClass RX12 = some m.cls := findClass_of_methodNamed B.named
  have hlocks := B.notSynchronized
  subst hsz
  have hD := hD0.self (sz := s.heap.size)
  generalize hAe : va_A [(h0, .inr (12, [.ref (am 0), .int 0, .int 0, .ref (am 1), .ref (am 2), .ref (am 3), .ref (am 4), .ref (am 5), .int 0, .int 0, .int 0, .int 0, .int 0, .int 0, .int 0, .ref (am 6), .int 0, .ref (am 7), .int 0, .ref (am 8), .ref (am 9), .int (-1), .int 0, .int 0, .int (-1), .int 0, .ref (am 10), .int 0, .ref (am 11), .ref (am 12), .ref (am 13), .ref (am 14), .long 0, .ref (am 15), .ref (am 16), .ref (am 17), .ref (am 18)])), ((am 9), .inl (G.2.2 0, 110, .inl (fun _ => 0)))] s.heap.size = A at hD ⊢
  have hA : ∀ q : Nat, s.heap.size ≤ q → A q := fun q h => by rw [← hAe]; exact Or.inr h
  have hS : va_S A s.heap s.heap [] := va_S.rf
  have hl := lv_entry ([.ref h0, .int b]) (n := 5) (Nat.le_of_ble_eq_true rfl)
  rw [lg_entry_eq]
  generalize (lg_sl ([.ref h0, .int b]) ++ List.replicate (5 - (lg_sl ([.ref h0, .int b])).length) Slot.unset).toArray = ls at hl ⊢
  have hl : lv_has ls 5 [(0, .ref h0), (1, .int b)] := hl
  refine lv_aload_n hx hb dX12_ruled_0 rfl (lv_at hl 0 rfl) ?_
  have hPc := hP.sub (ws' := [(h0, .inr (12, [.ref (am 0), .int 0, .int 0, .ref (am 1), .ref (am 2), .ref (am 3), .ref (am 4), .ref (am 5), .int 0, .int 0, .int 0, .int 0, .int 0, .int 0, .int 0, .ref (am 6), .int 0, .ref (am 7), .int 0, .ref (am 8), .ref (am 9), .int (-1), .int 0, .int 0, .int (-1), .int 0, .ref (am 10), .int 0, .ref (am 11), .ref (am 12), .ref (am 13), .ref (am 14), .long 0, .ref (am 15), .ref (am 16), .ref (am 17), .ref (am 18)])), ((am 9), .inl (G.2.2 0, 110, .inl (fun _ => 0)))]) [0, 1] rfl
  have hDc := hD.sub (ws' := [(h0, .inr (12, [.ref (am 0), .int 0, .int 0, .ref (am 1), .ref (am 2), .ref (am 3), .ref (am 4), .ref (am 5), .int 0, .int 0, .int 0, .int 0, .int 0, .int 0, .int 0, .ref (am 6), .int 0, .ref (am 7), .int 0, .ref (am 8), .ref (am 9), .int (-1), .int 0, .int 0, .int (-1), .int 0, .ref (am 10), .int 0, .ref (am 11), .ref (am 12), .ref (am 13), .ref (am 14), .long 0, .ref (am 15), .ref (am 16), .ref (am 17), .ref (am 18)])), ((am 9), .inl (G.2.2 0, 110, .inl (fun _ => 0)))]) [0, 1] (by decide) rfl
  refine gq_callI (wr := []) (va_runV (As := []) (rest := []) ⟨hx, hb, hml, hown, ht⟩ (c_M_isSale l G s.heap.size h0 am) (cwV 0 ht (ts_gV wd_1720 wd_1722 wd_102 wd_134 wd_1723) rfl rfl rfl (by decide +kernel) ⟨Nat.le_of_ble_eq_true rfl, Nat.le_of_ble_eq_true rfl⟩) (gc_preV (ci := 12) (q0 := 0) hK hPc hDc rfl rfl) rfl rfl hl.1 rfl (lv_room (Nat.le_of_ble_eq_true rfl)) dX12_ruled_1 ⟨Nat.le_of_ble_eq_true rfl, Nat.le_of_ble_eq_true rfl⟩) hP hD hS hA [0, 1] [] rfl rfl (by decide) (by decide) (fun r u H locs hw hP hD hS => ?_)
  have hw : r = 0 := hw
  subst hw
  have hP : va_P (gg_D G) classes [(h0, .inr (12, [.ref (am 0), .int 0, .int 0, .ref (am 1), .ref (am 2), .ref (am 3), .ref (am 4), .ref (am 5), .int 0, .int 0, .int 0, .int 0, .int 0, .int 0, .int 0, .ref (am 6), .int 0, .ref (am 7), .int 0, .ref (am 8), .ref (am 9), .int (-1), .int 0, .int 0, .int (-1), .int 0, .ref (am 10), .int 0, .ref (am 11), .ref (am 12), .ref (am 13), .ref (am 14), .long 0, .ref (am 15), .ref (am 16), .ref (am 17), .ref (am 18)])), ((am 9), .inl (G.2.2 0, 110, .inl (fun _ => 0)))] H := hP
  have hD : va_D A [(h0, .inr (12, [.ref (am 0), .int 0, .int 0, .ref (am 1), .ref (am 2), .ref (am 3), .ref (am 4), .ref (am 5), .int 0, .int 0, .int 0, .int 0, .int 0, .int 0, .int 0, .ref (am 6), .int 0, .ref (am 7), .int 0, .ref (am 8), .ref (am 9), .int (-1), .int 0, .int 0, .int (-1), .int 0, .ref (am 10), .int 0, .ref (am 11), .ref (am 12), .ref (am 13), .ref (am 14), .long 0, .ref (am 15), .ref (am 16), .ref (am 17), .ref (am 18)])), ((am 9), .inl (G.2.2 0, 110, .inl (fun _ => 0)))] := hD
  refine lv_if_eq (tgt := 17) hx hb dX12_ruled_4 (by decide) (fun _ => ?_) (fun c0 => absurd (by decide +kernel) c0)
  refine lv_bipush (v := (-3)) hx hb dX12_ruled_17 (by decide +kernel) ?_
  have hP9 := hP.sub (ws' := []) [] rfl
  have hD9 := hD.sub (ws' := []) [] (by decide) rfl
  exact W.iret (v := (-3)) hx hb hr (gq_endI () rfl hP9 hD9 hS) hS.2.2 dX12_ruled_19
set_option maxHeartbeats 4000000 in
set_option maxRecDepth 100000 in
theorem c_M_look (l : Launch) (G : gg_T) (sz : Nat) (h0 : Nat) (am : Nat → Nat) (b : Int32) : Met l yX12_look (ts_L yX12_look cX12_look 6 (some .int)) ({ frames := 1, cells := 0, slots := 0, locals := 20 }) (gc_P G [(h0, .inr (12, [.ref (am 0), .int 0, .int 0, .ref (am 1), .ref (am 2), .ref (am 3), .ref (am 4), .ref (am 5), .int 0, .int 0, .int 0, .int 0, .int 0, .int 0, .int 0, .ref (am 6), .int 0, .ref (am 7), .int 0, .ref (am 8), .ref (am 9), .int (-1), .int 0, .int 0, .int (-1), .int 0, .ref (am 10), .int 0, .ref (am 11), .ref (am 12), .ref (am 13), .ref (am 14), .long 0, .ref (am 15), .ref (am 16), .ref (am 17), .ref (am 18)])), ((am 9), .inl (G.2.2 0, 110, .inl (fun _ => 0)))] sz [.ref h0, .int b]) (gc_I G (va_A [(h0, .inr (12, [.ref (am 0), .int 0, .int 0, .ref (am 1), .ref (am 2), .ref (am 3), .ref (am 4), .ref (am 5), .int 0, .int 0, .int 0, .int 0, .int 0, .int 0, .int 0, .ref (am 6), .int 0, .ref (am 7), .int 0, .ref (am 8), .ref (am 9), .int (-1), .int 0, .int 0, .int (-1), .int 0, .ref (am 10), .int 0, .ref (am 11), .ref (am 12), .ref (am 13), .ref (am 14), .long 0, .ref (am 15), .ref (am 16), .ref (am 17), .ref (am 18)])), ((am 9), .inl (G.2.2 0, 110, .inl (fun _ => 0)))] sz) (fun r (_ : Unit) => r = (-1)) (fun _ => [])) 0 0 (va_A [(h0, .inr (12, [.ref (am 0), .int 0, .int 0, .ref (am 1), .ref (am 2), .ref (am 3), .ref (am 4), .ref (am 5), .int 0, .int 0, .int 0, .int 0, .int 0, .int 0, .int 0, .ref (am 6), .int 0, .ref (am 7), .int 0, .ref (am 8), .ref (am 9), .int (-1), .int 0, .int 0, .int (-1), .int 0, .ref (am 10), .int 0, .ref (am 11), .ref (am 12), .ref (am 13), .ref (am 14), .long 0, .ref (am 15), .ref (am 16), .ref (am 17), .ref (am 18)])), ((am 9), .inl (G.2.2 0, 110, .inl (fun _ => 0)))] sz) := by
  refine Met.ofW (cc := cX12_look) (maxL := 6) (ret := (some .int)) (by decide) rfl ?_
  intro p e s m args below meth c s₁ B hml hv
  obtain ⟨rfl, hsz, hP, hK, hD0⟩ := hv
  have hx := B.exec
  have hb := B.bytes
  have hr := B.returns
  have ht := ts_ht (atoms_spec (ws := ts_L yX12_look cX12_look 6 (some .int)) B.pre)
  have hown : s.vm.findClass RX12 = some m.cls := findClass_of_methodNamed B.named
  have hlocks := B.notSynchronized
  subst hsz
  have hD := hD0.self (sz := s.heap.size)
  generalize hAe : va_A [(h0, .inr (12, [.ref (am 0), .int 0, .int 0, .ref (am 1), .ref (am 2), .ref (am 3), .ref (am 4), .ref (am 5), .int 0, .int 0, .int 0, .int 0, .int 0, .int 0, .int 0, .ref (am 6), .int 0, .ref (am 7), .int 0, .ref (am 8), .ref (am 9), .int (-1), .int 0, .int 0, .int (-1), .int 0, .ref (am 10), .int 0, .ref (am 11), .ref (am 12), .ref (am 13), .ref (am 14), .long 0, .ref (am 15), .ref (am 16), .ref (am 17), .ref (am 18)])), ((am 9), .inl (G.2.2 0, 110, .inl (fun _ => 0)))] s.heap.size = A at hD ⊢
  have hA : ∀ q : Nat, s.heap.size ≤ q → A q := fun q h => by rw [← hAe]; exact Or.inr h
  have hS : va_S A s.heap s.heap [] := va_S.rf
  have hl := lv_entry ([.ref h0, .int b]) (n := 6) (Nat.le_of_ble_eq_true rfl)
  rw [lg_entry_eq]
  generalize (lg_sl ([.ref h0, .int b]) ++ List.replicate (6 - (lg_sl ([.ref h0, .int b])).length) Slot.unset).toArray = ls at hl ⊢
  have hl : lv_has ls 6 [(0, .ref h0), (1, .int b)] := hl
  refine lv_aload_n hx hb dX12_look_0 rfl (lv_at hl 0 rfl) ?_
  have hPc := hP.sub (ws' := [(h0, .inr (12, [.ref (am 0), .int 0, .int 0, .ref (am 1), .ref (am 2), .ref (am 3), .ref (am 4), .ref (am 5), .int 0, .int 0, .int 0, .int 0, .int 0, .int 0, .int 0, .ref (am 6), .int 0, .ref (am 7), .int 0, .ref (am 8), .ref (am 9), .int (-1), .int 0, .int 0, .int (-1), .int 0, .ref (am 10), .int 0, .ref (am 11), .ref (am 12), .ref (am 13), .ref (am 14), .long 0, .ref (am 15), .ref (am 16), .ref (am 17), .ref (am 18)])), ((am 9), .inl (G.2.2 0, 110, .inl (fun _ => 0)))]) [0, 1] rfl
  have hDc := hD.sub (ws' := [(h0, .inr (12, [.ref (am 0), .int 0, .int 0, .ref (am 1), .ref (am 2), .ref (am 3), .ref (am 4), .ref (am 5), .int 0, .int 0, .int 0, .int 0, .int 0, .int 0, .int 0, .ref (am 6), .int 0, .ref (am 7), .int 0, .ref (am 8), .ref (am 9), .int (-1), .int 0, .int 0, .int (-1), .int 0, .ref (am 10), .int 0, .ref (am 11), .ref (am 12), .ref (am 13), .ref (am 14), .long 0, .ref (am 15), .ref (am 16), .ref (am 17), .ref (am 18)])), ((am 9), .inl (G.2.2 0, 110, .inl (fun _ => 0)))]) [0, 1] (by decide) rfl
  refine gq_callI (wr := []) (va_runV (As := []) (rest := []) ⟨hx, hb, hml, hown, ht⟩ (c_M_isSale l G s.heap.size h0 am) (cwV 0 ht (ts_gV wd_1720 wd_1722 wd_102 wd_134 wd_1723) rfl rfl rfl (by decide +kernel) ⟨Nat.le_of_ble_eq_true rfl, Nat.le_of_ble_eq_true rfl⟩) (gc_preV (ci := 12) (q0 := 0) hK hPc hDc rfl rfl) rfl rfl hl.1 rfl (lv_room (Nat.le_of_ble_eq_true rfl)) dX12_look_1 ⟨Nat.le_of_ble_eq_true rfl, Nat.le_of_ble_eq_true rfl⟩) hP hD hS hA [0, 1] [] rfl rfl (by decide) (by decide) (fun r u H locs hw hP hD hS => ?_)
  have hw : r = 0 := hw
  subst hw
  have hP : va_P (gg_D G) classes [(h0, .inr (12, [.ref (am 0), .int 0, .int 0, .ref (am 1), .ref (am 2), .ref (am 3), .ref (am 4), .ref (am 5), .int 0, .int 0, .int 0, .int 0, .int 0, .int 0, .int 0, .ref (am 6), .int 0, .ref (am 7), .int 0, .ref (am 8), .ref (am 9), .int (-1), .int 0, .int 0, .int (-1), .int 0, .ref (am 10), .int 0, .ref (am 11), .ref (am 12), .ref (am 13), .ref (am 14), .long 0, .ref (am 15), .ref (am 16), .ref (am 17), .ref (am 18)])), ((am 9), .inl (G.2.2 0, 110, .inl (fun _ => 0)))] H := hP
  have hD : va_D A [(h0, .inr (12, [.ref (am 0), .int 0, .int 0, .ref (am 1), .ref (am 2), .ref (am 3), .ref (am 4), .ref (am 5), .int 0, .int 0, .int 0, .int 0, .int 0, .int 0, .int 0, .ref (am 6), .int 0, .ref (am 7), .int 0, .ref (am 8), .ref (am 9), .int (-1), .int 0, .int 0, .int (-1), .int 0, .ref (am 10), .int 0, .ref (am 11), .ref (am 12), .ref (am 13), .ref (am 14), .long 0, .ref (am 15), .ref (am 16), .ref (am 17), .ref (am 18)])), ((am 9), .inl (G.2.2 0, 110, .inl (fun _ => 0)))] := hD
  refine lv_if_eq (tgt := 17) hx hb dX12_look_4 (by decide) (fun _ => ?_) (fun c0 => absurd (by decide +kernel) c0)
  refine lv_iconst (v := (-1)) hx hb dX12_look_17 (by decide) ?_
  have hP9 := hP.sub (ws' := []) [] rfl
  have hD9 := hD.sub (ws' := []) [] (by decide) rfl
  exact W.iret (v := (-1)) hx hb hr (gq_endI () rfl hP9 hD9 hS) hS.2.2 dX12_look_18
set_option maxHeartbeats 4000000 in
set_option maxRecDepth 100000 in
theorem c_M_coughs (l : Launch) (G : gg_T) (sz : Nat) (h0 : Nat) (am : Nat → Nat) (b : Int32) (w : Int32) (z : Int32) (y : Int32) : Met l yX12_coughs (ts_L yX12_coughs cX12_coughs 10 (some .int)) ({ frames := 1, cells := 0, slots := 0, locals := 20 }) (gc_P G [(h0, .inr (12, [.ref (am 0), .int 0, .int 0, .ref (am 1), .ref (am 2), .ref (am 3), .ref (am 4), .ref (am 5), .int 0, .int 0, .int 0, .int 0, .int 0, .int 0, .int 0, .ref (am 6), .int 0, .ref (am 7), .int 0, .ref (am 8), .ref (am 9), .int (-1), .int 0, .int 0, .int (-1), .int 0, .ref (am 10), .int 0, .ref (am 11), .ref (am 12), .ref (am 13), .ref (am 14), .long 0, .ref (am 15), .ref (am 16), .ref (am 17), .ref (am 18)])), ((am 9), .inl (G.2.2 0, 110, .inl (fun _ => 0)))] sz [.ref h0, .int b, .int w, .int z, .int y]) (gc_I G (va_A [(h0, .inr (12, [.ref (am 0), .int 0, .int 0, .ref (am 1), .ref (am 2), .ref (am 3), .ref (am 4), .ref (am 5), .int 0, .int 0, .int 0, .int 0, .int 0, .int 0, .int 0, .ref (am 6), .int 0, .ref (am 7), .int 0, .ref (am 8), .ref (am 9), .int (-1), .int 0, .int 0, .int (-1), .int 0, .ref (am 10), .int 0, .ref (am 11), .ref (am 12), .ref (am 13), .ref (am 14), .long 0, .ref (am 15), .ref (am 16), .ref (am 17), .ref (am 18)])), ((am 9), .inl (G.2.2 0, 110, .inl (fun _ => 0)))] sz) (fun r (_ : Unit) => r = (-1)) (fun _ => [])) 0 0 (va_A [(h0, .inr (12, [.ref (am 0), .int 0, .int 0, .ref (am 1), .ref (am 2), .ref (am 3), .ref (am 4), .ref (am 5), .int 0, .int 0, .int 0, .int 0, .int 0, .int 0, .int 0, .ref (am 6), .int 0, .ref (am 7), .int 0, .ref (am 8), .ref (am 9), .int (-1), .int 0, .int 0, .int (-1), .int 0, .ref (am 10), .int 0, .ref (am 11), .ref (am 12), .ref (am 13), .ref (am 14), .long 0, .ref (am 15), .ref (am 16), .ref (am 17), .ref (am 18)])), ((am 9), .inl (G.2.2 0, 110, .inl (fun _ => 0)))] sz) := by
  refine Met.ofW (cc := cX12_coughs) (maxL := 10) (ret := (some .int)) (by decide) rfl ?_
  intro p e s m args below meth c s₁ B hml hv
  obtain ⟨rfl, hsz, hP, hK, hD0⟩ := hv
  have hx := B.exec
  have hb := B.bytes
  have hr := B.returns
  have ht := ts_ht (atoms_spec (ws := ts_L yX12_coughs cX12_coughs 10 (some .int)) B.pre)
  have hown : s.vm.findClass RX12 = some m.cls := findClass_of_methodNamed B.named
  have hlocks := B.notSynchronized
  subst hsz
  have hD := hD0.self (sz := s.heap.size)
  generalize hAe : va_A [(h0, .inr (12, [.ref (am 0), .int 0, .int 0, .ref (am 1), .ref (am 2), .ref (am 3), .ref (am 4), .ref (am 5), .int 0, .int 0, .int 0, .int 0, .int 0, .int 0, .int 0, .ref (am 6), .int 0, .ref (am 7), .int 0, .ref (am 8), .ref (am 9), .int (-1), .int 0, .int 0, .int (-1), .int 0, .ref (am 10), .int 0, .ref (am 11), .ref (am 12), .ref (am 13), .ref (am 14), .long 0, .ref (am 15), .ref (am 16), .ref (am 17), .ref (am 18)])), ((am 9), .inl (G.2.2 0, 110, .inl (fun _ => 0)))] s.heap.size = A at hD ⊢
  have hA : ∀ q : Nat, s.heap.size ≤ q → A q := fun q h => by rw [← hAe]; exact Or.inr h
  have hS : va_S A s.heap s.heap [] := va_S.rf
  have hl := lv_entry ([.ref h0, .int b, .int w, .int z, .int y]) (n := 10) (Nat.le_of_ble_eq_true rfl)
  rw [lg_entry_eq]
  generalize (lg_sl ([.ref h0, .int b, .int w, .int z, .int y]) ++ List.replicate (10 - (lg_sl ([.ref h0, .int b, .int w, .int z, .int y])).length) Slot.unset).toArray = ls at hl ⊢
  have hl : lv_has ls 10 [(0, .ref h0), (1, .int b), (2, .int w), (3, .int z), (4, .int y)] := hl
  refine lv_aload_n hx hb dX12_coughs_0 rfl (lv_at hl 0 rfl) ?_
  have hPc := hP.sub (ws' := [(h0, .inr (12, [.ref (am 0), .int 0, .int 0, .ref (am 1), .ref (am 2), .ref (am 3), .ref (am 4), .ref (am 5), .int 0, .int 0, .int 0, .int 0, .int 0, .int 0, .int 0, .ref (am 6), .int 0, .ref (am 7), .int 0, .ref (am 8), .ref (am 9), .int (-1), .int 0, .int 0, .int (-1), .int 0, .ref (am 10), .int 0, .ref (am 11), .ref (am 12), .ref (am 13), .ref (am 14), .long 0, .ref (am 15), .ref (am 16), .ref (am 17), .ref (am 18)])), ((am 9), .inl (G.2.2 0, 110, .inl (fun _ => 0)))]) [0, 1] rfl
  have hDc := hD.sub (ws' := [(h0, .inr (12, [.ref (am 0), .int 0, .int 0, .ref (am 1), .ref (am 2), .ref (am 3), .ref (am 4), .ref (am 5), .int 0, .int 0, .int 0, .int 0, .int 0, .int 0, .int 0, .ref (am 6), .int 0, .ref (am 7), .int 0, .ref (am 8), .ref (am 9), .int (-1), .int 0, .int 0, .int (-1), .int 0, .ref (am 10), .int 0, .ref (am 11), .ref (am 12), .ref (am 13), .ref (am 14), .long 0, .ref (am 15), .ref (am 16), .ref (am 17), .ref (am 18)])), ((am 9), .inl (G.2.2 0, 110, .inl (fun _ => 0)))]) [0, 1] (by decide) rfl
  refine gq_callI (wr := []) (va_runV (As := []) (rest := []) ⟨hx, hb, hml, hown, ht⟩ (c_M_isSale l G s.heap.size h0 am) (cwV 0 ht (ts_gV wd_1720 wd_1722 wd_102 wd_134 wd_1723) rfl rfl rfl (by decide +kernel) ⟨Nat.le_of_ble_eq_true rfl, Nat.le_of_ble_eq_true rfl⟩) (gc_preV (ci := 12) (q0 := 0) hK hPc hDc rfl rfl) rfl rfl hl.1 rfl (lv_room (Nat.le_of_ble_eq_true rfl)) dX12_coughs_1 ⟨Nat.le_of_ble_eq_true rfl, Nat.le_of_ble_eq_true rfl⟩) hP hD hS hA [0, 1] [] rfl rfl (by decide) (by decide) (fun r u H locs hw hP hD hS => ?_)
  have hw : r = 0 := hw
  subst hw
  have hP : va_P (gg_D G) classes [(h0, .inr (12, [.ref (am 0), .int 0, .int 0, .ref (am 1), .ref (am 2), .ref (am 3), .ref (am 4), .ref (am 5), .int 0, .int 0, .int 0, .int 0, .int 0, .int 0, .int 0, .ref (am 6), .int 0, .ref (am 7), .int 0, .ref (am 8), .ref (am 9), .int (-1), .int 0, .int 0, .int (-1), .int 0, .ref (am 10), .int 0, .ref (am 11), .ref (am 12), .ref (am 13), .ref (am 14), .long 0, .ref (am 15), .ref (am 16), .ref (am 17), .ref (am 18)])), ((am 9), .inl (G.2.2 0, 110, .inl (fun _ => 0)))] H := hP
  have hD : va_D A [(h0, .inr (12, [.ref (am 0), .int 0, .int 0, .ref (am 1), .ref (am 2), .ref (am 3), .ref (am 4), .ref (am 5), .int 0, .int 0, .int 0, .int 0, .int 0, .int 0, .int 0, .ref (am 6), .int 0, .ref (am 7), .int 0, .ref (am 8), .ref (am 9), .int (-1), .int 0, .int 0, .int (-1), .int 0, .ref (am 10), .int 0, .ref (am 11), .ref (am 12), .ref (am 13), .ref (am 14), .long 0, .ref (am 15), .ref (am 16), .ref (am 17), .ref (am 18)])), ((am 9), .inl (G.2.2 0, 110, .inl (fun _ => 0)))] := hD
  refine lv_if_eq (tgt := 54) hx hb dX12_coughs_4 (by decide) (fun _ => ?_) (fun c0 => absurd (by decide +kernel) c0)
  refine lv_iconst (v := (-1)) hx hb dX12_coughs_54 (by decide) ?_
  have hP9 := hP.sub (ws' := []) [] rfl
  have hD9 := hD.sub (ws' := []) [] (by decide) rfl
  exact W.iret (v := (-1)) hx hb hr (gq_endI () rfl hP9 hD9 hS) hS.2.2 dX12_coughs_55
set_option maxHeartbeats 4000000 in
set_option maxRecDepth 100000 in
theorem c_M_undo (l : Launch) (G : gg_T) (sz : Nat) (h0 : Nat) (am : Nat → Nat) : Met l yX12_undo (ts_L yX12_undo cX12_undo 2 (some .int)) ({ frames := 0, cells := 0, slots := 0, locals := 0 }) (gc_P G [(h0, .inr (12, [.ref (am 0), .int 0, .int 0, .ref (am 1), .ref (am 2), .ref (am 3), .ref (am 4), .ref (am 5), .int 0, .int 0, .int 0, .int 0, .int 0, .int 0, .int 0, .ref (am 6), .int 0, .ref (am 7), .int 0, .ref (am 8), .ref (am 9), .int (-1), .int 0, .int 0, .int (-1), .int 0, .ref (am 10), .int 0, .ref (am 11), .ref (am 12), .ref (am 13), .ref (am 14), .long 0, .ref (am 15), .ref (am 16), .ref (am 17), .ref (am 18)]))] sz [.ref h0]) (gc_I G (va_A [(h0, .inr (12, [.ref (am 0), .int 0, .int 0, .ref (am 1), .ref (am 2), .ref (am 3), .ref (am 4), .ref (am 5), .int 0, .int 0, .int 0, .int 0, .int 0, .int 0, .int 0, .ref (am 6), .int 0, .ref (am 7), .int 0, .ref (am 8), .ref (am 9), .int (-1), .int 0, .int 0, .int (-1), .int 0, .ref (am 10), .int 0, .ref (am 11), .ref (am 12), .ref (am 13), .ref (am 14), .long 0, .ref (am 15), .ref (am 16), .ref (am 17), .ref (am 18)]))] sz) (fun r (_ : Unit) => r = (-1)) (fun _ => [])) 0 0 (va_A [(h0, .inr (12, [.ref (am 0), .int 0, .int 0, .ref (am 1), .ref (am 2), .ref (am 3), .ref (am 4), .ref (am 5), .int 0, .int 0, .int 0, .int 0, .int 0, .int 0, .int 0, .ref (am 6), .int 0, .ref (am 7), .int 0, .ref (am 8), .ref (am 9), .int (-1), .int 0, .int 0, .int (-1), .int 0, .ref (am 10), .int 0, .ref (am 11), .ref (am 12), .ref (am 13), .ref (am 14), .long 0, .ref (am 15), .ref (am 16), .ref (am 17), .ref (am 18)]))] sz) := by
  refine Met.ofW (cc := cX12_undo) (maxL := 2) (ret := (some .int)) (by decide) rfl ?_
  intro p e s m args below meth c s₁ B hml hv
  obtain ⟨rfl, hsz, hP, hK, hD0⟩ := hv
  have hx := B.exec
  have hb := B.bytes
  have hr := B.returns
  have ht := ts_ht (atoms_spec (ws := ts_L yX12_undo cX12_undo 2 (some .int)) B.pre)
  have hown : s.vm.findClass RX12 = some m.cls := findClass_of_methodNamed B.named
  have hlocks := B.notSynchronized
  subst hsz
  have hD := hD0.self (sz := s.heap.size)
  generalize hAe : va_A [(h0, .inr (12, [.ref (am 0), .int 0, .int 0, .ref (am 1), .ref (am 2), .ref (am 3), .ref (am 4), .ref (am 5), .int 0, .int 0, .int 0, .int 0, .int 0, .int 0, .int 0, .ref (am 6), .int 0, .ref (am 7), .int 0, .ref (am 8), .ref (am 9), .int (-1), .int 0, .int 0, .int (-1), .int 0, .ref (am 10), .int 0, .ref (am 11), .ref (am 12), .ref (am 13), .ref (am 14), .long 0, .ref (am 15), .ref (am 16), .ref (am 17), .ref (am 18)]))] s.heap.size = A at hD ⊢
  have hA : ∀ q : Nat, s.heap.size ≤ q → A q := fun q h => by rw [← hAe]; exact Or.inr h
  have hS : va_S A s.heap s.heap [] := va_S.rf
  have hl := lv_entry ([.ref h0]) (n := 2) (Nat.le_of_ble_eq_true rfl)
  rw [lg_entry_eq]
  generalize (lg_sl ([.ref h0]) ++ List.replicate (2 - (lg_sl ([.ref h0])).length) Slot.unset).toArray = ls at hl ⊢
  have hl : lv_has ls 2 [(0, .ref h0)] := hl
  refine lv_aload_n hx hb dX12_undo_0 rfl (lv_at hl 0 rfl) ?_
  refine gq_get hx hb ht hown hK hP i_X12 0 rfl rfl 27 (by decide) wd_1279 rfl rfl dX12_undo_1 ?_
  refine lv_if_ne (tgt := 9) hx hb dX12_undo_4 (by decide) (fun c0 => absurd (by decide +kernel) c0) (fun _ => ?_)
  refine lv_iconst (v := (-1)) hx hb dX12_undo_7 (by decide) ?_
  have hP9 := hP.sub (ws' := []) [] rfl
  have hD9 := hD.sub (ws' := []) [] (by decide) rfl
  exact W.iret (v := (-1)) hx hb hr (gq_endI () rfl hP9 hD9 hS) hS.2.2 dX12_undo_8
set_option maxHeartbeats 4000000 in
set_option maxRecDepth 100000 in
theorem c_M_log (l : Launch) (G : gg_T) (sz : Nat) (h0 : Nat) (am : Nat → Nat) (n : Int32) (w : Int32) (z : Int32) : Met l yX12_log (ts_L yX12_log cX12_log 5 (some .int)) ({ frames := 1, cells := 0, slots := 0, locals := 21 }) (gc_P G [(h0, .inr (12, [.ref (am 0), .int 0, .int 0, .ref (am 1), .ref (am 2), .ref (am 3), .ref (am 4), .ref (am 5), .int 0, .int 0, .int 0, .int 0, .int 0, .int 0, .int 0, .ref (am 6), .int 0, .ref (am 7), .int 0, .ref (am 8), .ref (am 9), .int (-1), .int 0, .int 0, .int (-1), .int 0, .ref (am 10), .int 0, .ref (am 11), .ref (am 12), .ref (am 13), .ref (am 14), .long 0, .ref (am 15), .ref (am 16), .ref (am 17), .ref (am 18)])), ((am 9), .inl (G.2.2 0, 110, .inl (fun _ => 0)))] sz [.ref h0, .int n, .int w, .int z]) (gc_I G (va_A [(h0, .inr (12, [.ref (am 0), .int 0, .int 0, .ref (am 1), .ref (am 2), .ref (am 3), .ref (am 4), .ref (am 5), .int 0, .int 0, .int 0, .int 0, .int 0, .int 0, .int 0, .ref (am 6), .int 0, .ref (am 7), .int 0, .ref (am 8), .ref (am 9), .int (-1), .int 0, .int 0, .int (-1), .int 0, .ref (am 10), .int 0, .ref (am 11), .ref (am 12), .ref (am 13), .ref (am 14), .long 0, .ref (am 15), .ref (am 16), .ref (am 17), .ref (am 18)])), ((am 9), .inl (G.2.2 0, 110, .inl (fun _ => 0)))] sz) (fun r (_ : Unit) => r = (if n = -1 then 0 else -2)) (fun _ => [])) 0 0 (va_A [(h0, .inr (12, [.ref (am 0), .int 0, .int 0, .ref (am 1), .ref (am 2), .ref (am 3), .ref (am 4), .ref (am 5), .int 0, .int 0, .int 0, .int 0, .int 0, .int 0, .int 0, .ref (am 6), .int 0, .ref (am 7), .int 0, .ref (am 8), .ref (am 9), .int (-1), .int 0, .int 0, .int (-1), .int 0, .ref (am 10), .int 0, .ref (am 11), .ref (am 12), .ref (am 13), .ref (am 14), .long 0, .ref (am 15), .ref (am 16), .ref (am 17), .ref (am 18)])), ((am 9), .inl (G.2.2 0, 110, .inl (fun _ => 0)))] sz) := by
  refine Met.ofW (cc := cX12_log) (maxL := 5) (ret := (some .int)) (by decide) rfl ?_
  intro p e s m args below meth c s₁ B hml hv
  obtain ⟨rfl, hsz, hP, hK, hD0⟩ := hv
  have hx := B.exec
  have hb := B.bytes
  have hr := B.returns
  have ht := ts_ht (atoms_spec (ws := ts_L yX12_log cX12_log 5 (some .int)) B.pre)
  have hown : s.vm.findClass RX12 = some m.cls := findClass_of_methodNamed B.named
  have hlocks := B.notSynchronized
  subst hsz
  have hD := hD0.self (sz := s.heap.size)
  generalize hAe : va_A [(h0, .inr (12, [.ref (am 0), .int 0, .int 0, .ref (am 1), .ref (am 2), .ref (am 3), .ref (am 4), .ref (am 5), .int 0, .int 0, .int 0, .int 0, .int 0, .int 0, .int 0, .ref (am 6), .int 0, .ref (am 7), .int 0, .ref (am 8), .ref (am 9), .int (-1), .int 0, .int 0, .int (-1), .int 0, .ref (am 10), .int 0, .ref (am 11), .ref (am 12), .ref (am 13), .ref (am 14), .long 0, .ref (am 15), .ref (am 16), .ref (am 17), .ref (am 18)])), ((am 9), .inl (G.2.2 0, 110, .inl (fun _ => 0)))] s.heap.size = A at hD ⊢
  have hA : ∀ q : Nat, s.heap.size ≤ q → A q := fun q h => by rw [← hAe]; exact Or.inr h
  have hS : va_S A s.heap s.heap [] := va_S.rf
  have hl := lv_entry ([.ref h0, .int n, .int w, .int z]) (n := 5) (Nat.le_of_ble_eq_true rfl)
  rw [lg_entry_eq]
  generalize (lg_sl ([.ref h0, .int n, .int w, .int z]) ++ List.replicate (5 - (lg_sl ([.ref h0, .int n, .int w, .int z])).length) Slot.unset).toArray = ls at hl ⊢
  have hl : lv_has ls 5 [(0, .ref h0), (1, .int n), (2, .int w), (3, .int z)] := hl
  by_cases c_1 : n = (-1)
  · subst c_1
    refine lv_iload_n hx hb dX12_log_0 rfl (lv_at hl 1 rfl) ?_
    refine lv_iconst (v := (-1)) hx hb dX12_log_1 (by decide) ?_
    refine lv_icmp_ne (tgt := 15) hx hb dX12_log_2 (by decide) (fun c0 => absurd (by decide +kernel) c0) (fun _ => ?_)
    refine lv_aload_n hx hb dX12_log_5 rfl (lv_at hl 0 rfl) ?_
    refine gq_get hx hb ht hown hK hP i_X12 0 rfl rfl 20 (by decide) wd_1272 rfl rfl dX12_log_6 ?_
    refine lv_bipush (v := 109) hx hb dX12_log_9 (by decide +kernel) ?_
    refine lv_iconst (v := 0) hx hb dX12_log_11 (by decide) ?_
    refine gq_iast (ws' := [(h0, .inr (12, [.ref (am 0), .int 0, .int 0, .ref (am 1), .ref (am 2), .ref (am 3), .ref (am 4), .ref (am 5), .int 0, .int 0, .int 0, .int 0, .int 0, .int 0, .int 0, .ref (am 6), .int 0, .ref (am 7), .int 0, .ref (am 8), .ref (am 9), .int (-1), .int 0, .int 0, .int (-1), .int 0, .ref (am 10), .int 0, .ref (am 11), .ref (am 12), .ref (am 13), .ref (am 14), .long 0, .ref (am 15), .ref (am 16), .ref (am 17), .ref (am 18)])), ((am 9), .inl (G.2.2 0, 110, .inl (fun _ => 0)))]) hx hb hK hP hD hS 1 rfl (fun _ => 0) (by unfold vp_in; decide +kernel) (up_z _ _) rfl dX12_log_12 (fun H locs hP hD hS => ?_)
    refine lv_iconst (v := 0) hx hb dX12_log_13 (by decide) ?_
    have hP9 := hP.sub (ws' := []) [] rfl
    have hD9 := hD.sub (ws' := []) [] (by decide) rfl
    exact W.iret (v := 0) hx hb hr (gq_endI () (by decide +kernel) hP9 hD9 hS) hS.2.2 dX12_log_14
  · refine lv_iload_n hx hb dX12_log_0 rfl (lv_at hl 1 rfl) ?_
    refine lv_iconst (v := (-1)) hx hb dX12_log_1 (by decide) ?_
    refine lv_icmp_ne (tgt := 15) hx hb dX12_log_2 (by decide) (fun _ => ?_) (fun c0 => False.elim (by have k0 : ((-1) : Int32).toInt = -1 := (by decide +kernel); simp only [Int32.lt_iff_toInt_lt, Int32.le_iff_toInt_le, ← Int32.toInt_inj] at c_1 c0; omega))
    refine lv_aload_n hx hb dX12_log_15 rfl (lv_at hl 0 rfl) ?_
    refine lv_iload_n hx hb dX12_log_16 rfl (lv_at hl 1 rfl) ?_
    have hPc := hP.sub (ws' := [(h0, .inr (12, [.ref (am 0), .int 0, .int 0, .ref (am 1), .ref (am 2), .ref (am 3), .ref (am 4), .ref (am 5), .int 0, .int 0, .int 0, .int 0, .int 0, .int 0, .int 0, .ref (am 6), .int 0, .ref (am 7), .int 0, .ref (am 8), .ref (am 9), .int (-1), .int 0, .int 0, .int (-1), .int 0, .ref (am 10), .int 0, .ref (am 11), .ref (am 12), .ref (am 13), .ref (am 14), .long 0, .ref (am 15), .ref (am 16), .ref (am 17), .ref (am 18)])), ((am 9), .inl (G.2.2 0, 110, .inl (fun _ => 0)))]) [0, 1] rfl
    have hDc := hD.sub (ws' := [(h0, .inr (12, [.ref (am 0), .int 0, .int 0, .ref (am 1), .ref (am 2), .ref (am 3), .ref (am 4), .ref (am 5), .int 0, .int 0, .int 0, .int 0, .int 0, .int 0, .int 0, .ref (am 6), .int 0, .ref (am 7), .int 0, .ref (am 8), .ref (am 9), .int (-1), .int 0, .int 0, .int (-1), .int 0, .ref (am 10), .int 0, .ref (am 11), .ref (am 12), .ref (am 13), .ref (am 14), .long 0, .ref (am 15), .ref (am 16), .ref (am 17), .ref (am 18)])), ((am 9), .inl (G.2.2 0, 110, .inl (fun _ => 0)))]) [0, 1] (by decide) rfl
    refine gq_callI (wr := []) (va_runV (As := [.int n]) (rest := []) ⟨hx, hb, hml, hown, ht⟩ (c_M_isLot l G s.heap.size h0 am n) (cwV 1 ht (ts_gV wd_1582 wd_1584 wd_79 wd_134 wd_1585) rfl rfl rfl (by decide +kernel) ⟨Nat.le_of_ble_eq_true rfl, Nat.le_of_ble_eq_true rfl⟩) (gc_preV (ci := 12) (q0 := 0) hK hPc hDc rfl rfl) rfl rfl hl.1 rfl (lv_room (Nat.le_of_ble_eq_true rfl)) dX12_log_17 ⟨Nat.le_of_ble_eq_true rfl, Nat.le_of_ble_eq_true rfl⟩) hP hD hS hA [0, 1] [] rfl rfl (by decide) (by decide) (fun r u H locs hw hP hD hS => ?_)
    have hw : r = 0 := hw
    subst hw
    have hP : va_P (gg_D G) classes [(h0, .inr (12, [.ref (am 0), .int 0, .int 0, .ref (am 1), .ref (am 2), .ref (am 3), .ref (am 4), .ref (am 5), .int 0, .int 0, .int 0, .int 0, .int 0, .int 0, .int 0, .ref (am 6), .int 0, .ref (am 7), .int 0, .ref (am 8), .ref (am 9), .int (-1), .int 0, .int 0, .int (-1), .int 0, .ref (am 10), .int 0, .ref (am 11), .ref (am 12), .ref (am 13), .ref (am 14), .long 0, .ref (am 15), .ref (am 16), .ref (am 17), .ref (am 18)])), ((am 9), .inl (G.2.2 0, 110, .inl (fun _ => 0)))] H := hP
    have hD : va_D A [(h0, .inr (12, [.ref (am 0), .int 0, .int 0, .ref (am 1), .ref (am 2), .ref (am 3), .ref (am 4), .ref (am 5), .int 0, .int 0, .int 0, .int 0, .int 0, .int 0, .int 0, .ref (am 6), .int 0, .ref (am 7), .int 0, .ref (am 8), .ref (am 9), .int (-1), .int 0, .int 0, .int (-1), .int 0, .ref (am 10), .int 0, .ref (am 11), .ref (am 12), .ref (am 13), .ref (am 14), .long 0, .ref (am 15), .ref (am 16), .ref (am 17), .ref (am 18)])), ((am 9), .inl (G.2.2 0, 110, .inl (fun _ => 0)))] := hD
    refine lv_if_eq (tgt := 60) hx hb dX12_log_20 (by decide) (fun _ => ?_) (fun c0 => absurd (by decide +kernel) c0)
    refine lv_bipush (v := (-2)) hx hb dX12_log_60 (by decide +kernel) ?_
    have hP9 := hP.sub (ws' := []) [] rfl
    have hD9 := hD.sub (ws' := []) [] (by decide) rfl
    exact W.iret (v := (-2)) hx hb hr (gq_endI () (if_neg c_1).symm hP9 hD9 hS) hS.2.2 dX12_log_62
set_option maxHeartbeats 4000000 in
set_option maxRecDepth 100000 in
theorem c_M_seed (l : Launch) (G : gg_T) (sz : Nat) (h0 : Nat) (am : Nat → Nat) (n : Int32) : Met l yX12_seed (ts_L yX12_seed cX12_seed 3 (some .int)) ({ frames := 0, cells := 0, slots := 0, locals := 0 }) (gc_P G [(h0, .inr (12, [.ref (am 0), .int 0, .int 0, .ref (am 1), .ref (am 2), .ref (am 3), .ref (am 4), .ref (am 5), .int 0, .int 0, .int 0, .int 0, .int 0, .int 0, .int 0, .ref (am 6), .int 0, .ref (am 7), .int 0, .ref (am 8), .ref (am 9), .int (-1), .int 0, .int 0, .int (-1), .int 0, .ref (am 10), .int 0, .ref (am 11), .ref (am 12), .ref (am 13), .ref (am 14), .long 0, .ref (am 15), .ref (am 16), .ref (am 17), .ref (am 18)]))] sz [.ref h0, .int n]) (gc_I G (va_A [(h0, .inr (12, [.ref (am 0), .int 0, .int 0, .ref (am 1), .ref (am 2), .ref (am 3), .ref (am 4), .ref (am 5), .int 0, .int 0, .int 0, .int 0, .int 0, .int 0, .int 0, .ref (am 6), .int 0, .ref (am 7), .int 0, .ref (am 8), .ref (am 9), .int (-1), .int 0, .int 0, .int (-1), .int 0, .ref (am 10), .int 0, .ref (am 11), .ref (am 12), .ref (am 13), .ref (am 14), .long 0, .ref (am 15), .ref (am 16), .ref (am 17), .ref (am 18)]))] sz) (fun r (_ : Unit) => r = (if n < 0 then -1 else 0)) (fun _ => [])) 0 0 (va_A [(h0, .inr (12, [.ref (am 0), .int 0, .int 0, .ref (am 1), .ref (am 2), .ref (am 3), .ref (am 4), .ref (am 5), .int 0, .int 0, .int 0, .int 0, .int 0, .int 0, .int 0, .ref (am 6), .int 0, .ref (am 7), .int 0, .ref (am 8), .ref (am 9), .int (-1), .int 0, .int 0, .int (-1), .int 0, .ref (am 10), .int 0, .ref (am 11), .ref (am 12), .ref (am 13), .ref (am 14), .long 0, .ref (am 15), .ref (am 16), .ref (am 17), .ref (am 18)]))] sz) := by
  refine Met.ofW (cc := cX12_seed) (maxL := 3) (ret := (some .int)) (by decide) rfl ?_
  intro p e s m args below meth c s₁ B hml hv
  obtain ⟨rfl, hsz, hP, hK, hD0⟩ := hv
  have hx := B.exec
  have hb := B.bytes
  have hr := B.returns
  have ht := ts_ht (atoms_spec (ws := ts_L yX12_seed cX12_seed 3 (some .int)) B.pre)
  have hown : s.vm.findClass RX12 = some m.cls := findClass_of_methodNamed B.named
  have hlocks := B.notSynchronized
  subst hsz
  have hD := hD0.self (sz := s.heap.size)
  generalize hAe : va_A [(h0, .inr (12, [.ref (am 0), .int 0, .int 0, .ref (am 1), .ref (am 2), .ref (am 3), .ref (am 4), .ref (am 5), .int 0, .int 0, .int 0, .int 0, .int 0, .int 0, .int 0, .ref (am 6), .int 0, .ref (am 7), .int 0, .ref (am 8), .ref (am 9), .int (-1), .int 0, .int 0, .int (-1), .int 0, .ref (am 10), .int 0, .ref (am 11), .ref (am 12), .ref (am 13), .ref (am 14), .long 0, .ref (am 15), .ref (am 16), .ref (am 17), .ref (am 18)]))] s.heap.size = A at hD ⊢
  have hA : ∀ q : Nat, s.heap.size ≤ q → A q := fun q h => by rw [← hAe]; exact Or.inr h
  have hS : va_S A s.heap s.heap [] := va_S.rf
  have hl := lv_entry ([.ref h0, .int n]) (n := 3) (Nat.le_of_ble_eq_true rfl)
  rw [lg_entry_eq]
  generalize (lg_sl ([.ref h0, .int n]) ++ List.replicate (3 - (lg_sl ([.ref h0, .int n])).length) Slot.unset).toArray = ls at hl ⊢
  have hl : lv_has ls 3 [(0, .ref h0), (1, .int n)] := hl
  refine lv_iload_n hx hb dX12_seed_0 rfl (lv_at hl 1 rfl) ?_
  refine lv_if_ge (tgt := 6) hx hb dX12_seed_1 (by decide) (fun c_1 => ?_) (fun c_1 => ?_)
  · refine lv_aload_n hx hb dX12_seed_6 rfl (lv_at hl 0 rfl) ?_
    refine gq_get hx hb ht hown hK hP i_X12 0 rfl rfl 22 (by decide) wd_1274 rfl rfl dX12_seed_7 ?_
    refine lv_istore_n (lv' := [(2, .int 0), (0, .ref h0), (1, .int n)]) hx hb dX12_seed_10 rfl hl (by decide) rfl (fun ls hl => ?_)
    refine lv_aload_n hx hb dX12_seed_11 rfl (lv_at hl 1 rfl) ?_
    refine lv_iload_n hx hb dX12_seed_12 rfl (lv_at hl 2 rfl) ?_
    refine gq_put (ws' := [(h0, .inr (12, [.ref (am 0), .int 0, .int 0, .ref (am 1), .ref (am 2), .ref (am 3), .ref (am 4), .ref (am 5), .int 0, .int 0, .int 0, .int 0, .int 0, .int 0, .int 0, .ref (am 6), .int 0, .ref (am 7), .int 0, .ref (am 8), .ref (am 9), .int (-1), .int n, .int 0, .int (-1), .int 0, .ref (am 10), .int 0, .ref (am 11), .ref (am 12), .ref (am 13), .ref (am 14), .long 0, .ref (am 15), .ref (am 16), .ref (am 17), .ref (am 18)]))]) hx hb ht hown hK hP hD hS i_X12 tyX12 tyX12_ok nmX12 0 rfl rfl 22 (by decide) wd_1274 rfl rfl rfl rfl (Nat.le_of_ble_eq_true rfl) rfl dX12_seed_13 (fun H locs hP hD hS => ?_)
    refine lv_iload_n hx hb dX12_seed_16 rfl (lv_at hl 0 rfl) ?_
    have hP9 := hP.sub (ws' := []) [] rfl
    have hD9 := hD.sub (ws' := []) [] (by decide) rfl
    exact W.iret (v := 0) hx hb hr (gq_endI () (if_neg (Int32.not_lt.mpr c_1)).symm hP9 hD9 hS) hS.2.2 dX12_seed_17
  · refine lv_iconst (v := (-1)) hx hb dX12_seed_4 (by decide) ?_
    have hP9 := hP.sub (ws' := []) [] rfl
    have hD9 := hD.sub (ws' := []) [] (by decide) rfl
    exact W.iret (v := (-1)) hx hb hr (gq_endI () (if_pos (Int32.not_le.mp c_1)).symm hP9 hD9 hS) hS.2.2 dX12_seed_5
set_option maxHeartbeats 4000000 in
set_option maxRecDepth 100000 in
theorem c_M_count (l : Launch) (G : gg_T) (sz : Nat) (h0 : Nat) (am : Nat → Nat) (n : Int32) : Met l yX12_count (ts_L yX12_count cX12_count 4 (some .int)) ({ frames := 1, cells := 0, slots := 0, locals := 23 }) (gc_P G [(h0, .inr (12, [.ref (am 0), .int 0, .int 0, .ref (am 1), .ref (am 2), .ref (am 3), .ref (am 4), .ref (am 5), .int 0, .int 0, .int 0, .int 0, .int 0, .int 0, .int 0, .ref (am 6), .int 0, .ref (am 7), .int 0, .ref (am 8), .ref (am 9), .int (-1), .int 0, .int 0, .int (-1), .int 0, .ref (am 10), .int 0, .ref (am 11), .ref (am 12), .ref (am 13), .ref (am 14), .long 0, .ref (am 15), .ref (am 16), .ref (am 17), .ref (am 18)])), ((am 9), .inl (G.2.2 0, 110, .inl (fun _ => 0)))] sz [.ref h0, .int n]) (gc_I G (va_A [(h0, .inr (12, [.ref (am 0), .int 0, .int 0, .ref (am 1), .ref (am 2), .ref (am 3), .ref (am 4), .ref (am 5), .int 0, .int 0, .int 0, .int 0, .int 0, .int 0, .int 0, .ref (am 6), .int 0, .ref (am 7), .int 0, .ref (am 8), .ref (am 9), .int (-1), .int 0, .int 0, .int (-1), .int 0, .ref (am 10), .int 0, .ref (am 11), .ref (am 12), .ref (am 13), .ref (am 14), .long 0, .ref (am 15), .ref (am 16), .ref (am 17), .ref (am 18)])), ((am 9), .inl (G.2.2 0, 110, .inl (fun _ => 0)))] sz) (fun r (_ : Unit) => r = (sp_count n)) (fun _ => [])) 0 0 (va_A [(h0, .inr (12, [.ref (am 0), .int 0, .int 0, .ref (am 1), .ref (am 2), .ref (am 3), .ref (am 4), .ref (am 5), .int 0, .int 0, .int 0, .int 0, .int 0, .int 0, .int 0, .ref (am 6), .int 0, .ref (am 7), .int 0, .ref (am 8), .ref (am 9), .int (-1), .int 0, .int 0, .int (-1), .int 0, .ref (am 10), .int 0, .ref (am 11), .ref (am 12), .ref (am 13), .ref (am 14), .long 0, .ref (am 15), .ref (am 16), .ref (am 17), .ref (am 18)])), ((am 9), .inl (G.2.2 0, 110, .inl (fun _ => 0)))] sz) := by
  refine Met.ofW (cc := cX12_count) (maxL := 4) (ret := (some .int)) (by decide) rfl ?_
  intro p e s m args below meth c s₁ B hml hv
  obtain ⟨rfl, hsz, hP, hK, hD0⟩ := hv
  have hx := B.exec
  have hb := B.bytes
  have hr := B.returns
  have ht := ts_ht (atoms_spec (ws := ts_L yX12_count cX12_count 4 (some .int)) B.pre)
  have hown : s.vm.findClass RX12 = some m.cls := findClass_of_methodNamed B.named
  have hlocks := B.notSynchronized
  subst hsz
  have hD := hD0.self (sz := s.heap.size)
  generalize hAe : va_A [(h0, .inr (12, [.ref (am 0), .int 0, .int 0, .ref (am 1), .ref (am 2), .ref (am 3), .ref (am 4), .ref (am 5), .int 0, .int 0, .int 0, .int 0, .int 0, .int 0, .int 0, .ref (am 6), .int 0, .ref (am 7), .int 0, .ref (am 8), .ref (am 9), .int (-1), .int 0, .int 0, .int (-1), .int 0, .ref (am 10), .int 0, .ref (am 11), .ref (am 12), .ref (am 13), .ref (am 14), .long 0, .ref (am 15), .ref (am 16), .ref (am 17), .ref (am 18)])), ((am 9), .inl (G.2.2 0, 110, .inl (fun _ => 0)))] s.heap.size = A at hD ⊢
  have hA : ∀ q : Nat, s.heap.size ≤ q → A q := fun q h => by rw [← hAe]; exact Or.inr h
  have hS : va_S A s.heap s.heap [] := va_S.rf
  have hl := lv_entry ([.ref h0, .int n]) (n := 4) (Nat.le_of_ble_eq_true rfl)
  rw [lg_entry_eq]
  generalize (lg_sl ([.ref h0, .int n]) ++ List.replicate (4 - (lg_sl ([.ref h0, .int n])).length) Slot.unset).toArray = ls at hl ⊢
  have hl : lv_has ls 4 [(0, .ref h0), (1, .int n)] := hl
  refine lv_iconst (v := 0) hx hb dX12_count_0 (by decide) ?_
  refine lv_istore_n (lv' := [(2, .int 0), (0, .ref h0), (1, .int n)]) hx hb dX12_count_1 rfl hl (by decide) rfl (fun ls hl => ?_)
  refine lv_iload_n hx hb dX12_count_2 rfl (lv_at hl 2 rfl) ?_
  by_cases c_1 : n = 0
  · subst c_1
    refine lv_tableIn (x := 0) (off := 73) (tgt := 76) hx hb dX12_count_3 (by decide +kernel) (by decide +kernel) (by decide +kernel) (by decide) ?_
    refine lv_aload_n hx hb dX12_count_76 rfl (lv_at hl 1 rfl) ?_
    refine gq_get hx hb ht hown hK hP i_X12 0 rfl rfl 20 (by decide) wd_1272 rfl rfl dX12_count_77 ?_
    refine lv_iload_n hx hb dX12_count_80 rfl (lv_at hl 2 rfl) ?_
    refine gq_iald hx hb hK hP 1 rfl 0 (by unfold vp_in; decide +kernel) rfl dX12_count_81 ?_
    have hP9 := hP.sub (ws' := []) [] rfl
    have hD9 := hD.sub (ws' := []) [] (by decide) rfl
    exact W.iret (v := 0) hx hb hr (gq_endI () (by decide +kernel) hP9 hD9 hS) hS.2.2 dX12_count_82
  by_cases c_2 : n = 1
  · subst c_2
    refine lv_tableIn (x := 1) (off := 73) (tgt := 76) hx hb dX12_count_3 (by decide +kernel) (by decide +kernel) (by decide +kernel) (by decide) ?_
    refine lv_aload_n hx hb dX12_count_76 rfl (lv_at hl 1 rfl) ?_
    refine gq_get hx hb ht hown hK hP i_X12 0 rfl rfl 20 (by decide) wd_1272 rfl rfl dX12_count_77 ?_
    refine lv_iload_n hx hb dX12_count_80 rfl (lv_at hl 2 rfl) ?_
    refine gq_iald hx hb hK hP 1 rfl 0 (by unfold vp_in; decide +kernel) rfl dX12_count_81 ?_
    have hP9 := hP.sub (ws' := []) [] rfl
    have hD9 := hD.sub (ws' := []) [] (by decide) rfl
    exact W.iret (v := 0) hx hb hr (gq_endI () (by decide +kernel) hP9 hD9 hS) hS.2.2 dX12_count_82
  by_cases c_3 : n = 2
  · subst c_3
    refine lv_tableIn (x := 2) (off := 73) (tgt := 76) hx hb dX12_count_3 (by decide +kernel) (by decide +kernel) (by decide +kernel) (by decide) ?_
    refine lv_aload_n hx hb dX12_count_76 rfl (lv_at hl 1 rfl) ?_
    refine gq_get hx hb ht hown hK hP i_X12 0 rfl rfl 20 (by decide) wd_1272 rfl rfl dX12_count_77 ?_
    refine lv_iload_n hx hb dX12_count_80 rfl (lv_at hl 2 rfl) ?_
    refine gq_iald hx hb hK hP 1 rfl 0 (by unfold vp_in; decide +kernel) rfl dX12_count_81 ?_
    have hP9 := hP.sub (ws' := []) [] rfl
    have hD9 := hD.sub (ws' := []) [] (by decide) rfl
    exact W.iret (v := 0) hx hb hr (gq_endI () (by decide +kernel) hP9 hD9 hS) hS.2.2 dX12_count_82
  by_cases c_4 : n = 3
  · subst c_4
    refine lv_tableIn (x := 3) (off := 73) (tgt := 76) hx hb dX12_count_3 (by decide +kernel) (by decide +kernel) (by decide +kernel) (by decide) ?_
    refine lv_aload_n hx hb dX12_count_76 rfl (lv_at hl 1 rfl) ?_
    refine gq_get hx hb ht hown hK hP i_X12 0 rfl rfl 20 (by decide) wd_1272 rfl rfl dX12_count_77 ?_
    refine lv_iload_n hx hb dX12_count_80 rfl (lv_at hl 2 rfl) ?_
    refine gq_iald hx hb hK hP 1 rfl 0 (by unfold vp_in; decide +kernel) rfl dX12_count_81 ?_
    have hP9 := hP.sub (ws' := []) [] rfl
    have hD9 := hD.sub (ws' := []) [] (by decide) rfl
    exact W.iret (v := 0) hx hb hr (gq_endI () (by decide +kernel) hP9 hD9 hS) hS.2.2 dX12_count_82
  by_cases c_5 : n = 4
  · subst c_5
    refine lv_tableIn (x := 4) (off := 80) (tgt := 83) hx hb dX12_count_3 (by decide +kernel) (by decide +kernel) (by decide +kernel) (by decide) ?_
    refine lv_aload_n hx hb dX12_count_83 rfl (lv_at hl 1 rfl) ?_
    refine gq_get hx hb ht hown hK hP i_X12 0 rfl rfl 2 (by decide) wd_1254 rfl rfl dX12_count_84 ?_
    have hP9 := hP.sub (ws' := []) [] rfl
    have hD9 := hD.sub (ws' := []) [] (by decide) rfl
    exact W.iret (v := 0) hx hb hr (gq_endI () (by decide +kernel) hP9 hD9 hS) hS.2.2 dX12_count_87
  by_cases c_6 : n = 5
  · subst c_6
    refine lv_tableIn (x := 5) (off := 85) (tgt := 88) hx hb dX12_count_3 (by decide +kernel) (by decide +kernel) (by decide +kernel) (by decide) ?_
    refine lv_aload_n hx hb dX12_count_88 rfl (lv_at hl 1 rfl) ?_
    refine gq_get hx hb ht hown hK hP i_X12 0 rfl rfl 21 (by decide) wd_1273 rfl rfl dX12_count_89 ?_
    have hP9 := hP.sub (ws' := []) [] rfl
    have hD9 := hD.sub (ws' := []) [] (by decide) rfl
    exact W.iret (v := (-1)) hx hb hr (gq_endI () (by decide +kernel) hP9 hD9 hS) hS.2.2 dX12_count_92
  by_cases c_7 : n = 6
  · subst c_7
    refine lv_tableIn (x := 6) (off := 90) (tgt := 93) hx hb dX12_count_3 (by decide +kernel) (by decide +kernel) (by decide +kernel) (by decide) ?_
    refine lv_aload_n hx hb dX12_count_93 rfl (lv_at hl 1 rfl) ?_
    refine gq_get hx hb ht hown hK hP i_X12 0 rfl rfl 20 (by decide) wd_1272 rfl rfl dX12_count_94 ?_
    refine lv_bipush (v := 10) hx hb dX12_count_97 (by decide +kernel) ?_
    refine gq_iald hx hb hK hP 1 rfl 0 (by unfold vp_in; decide +kernel) rfl dX12_count_99 ?_
    have hP9 := hP.sub (ws' := []) [] rfl
    have hD9 := hD.sub (ws' := []) [] (by decide) rfl
    exact W.iret (v := 0) hx hb hr (gq_endI () (by decide +kernel) hP9 hD9 hS) hS.2.2 dX12_count_100
  by_cases c_8 : n = 7
  · subst c_8
    refine lv_tableIn (x := 7) (off := 98) (tgt := 101) hx hb dX12_count_3 (by decide +kernel) (by decide +kernel) (by decide +kernel) (by decide) ?_
    refine lv_iconst (v := 0) hx hb dX12_count_101 (by decide) ?_
    refine lv_istore_n (lv' := [(3, .int 0), (2, .int 0), (0, .ref h0), (1, .int 7)]) hx hb dX12_count_102 rfl hl (by decide) rfl (fun ls hl => ?_)
    refine lv_iload_n hx hb dX12_count_103 rfl (lv_at hl 0 rfl) ?_
    refine lv_aload_n hx hb dX12_count_104 rfl (lv_at hl 2 rfl) ?_
    refine gq_get hx hb ht hown hK hP i_X12 0 rfl rfl 20 (by decide) wd_1272 rfl rfl dX12_count_105 ?_
    refine lv_iconst (v := 1) hx hb dX12_count_108 (by decide) ?_
    refine gq_iald hx hb hK hP 1 rfl 0 (by unfold vp_in; decide +kernel) rfl dX12_count_109 ?_
    refine lv_icmp_ge (tgt := 137) hx hb dX12_count_110 (by decide) (fun _ => ?_) (fun c0 => absurd (by decide +kernel) c0)
    refine lv_iload_n hx hb dX12_count_137 rfl (lv_at hl 1 rfl) ?_
    have hP9 := hP.sub (ws' := []) [] rfl
    have hD9 := hD.sub (ws' := []) [] (by decide) rfl
    exact W.iret (v := 0) hx hb hr (gq_endI () (by decide +kernel) hP9 hD9 hS) hS.2.2 dX12_count_138
  by_cases c_9 : n = 8
  · subst c_9
    refine lv_tableIn (x := 8) (off := 136) (tgt := 139) hx hb dX12_count_3 (by decide +kernel) (by decide +kernel) (by decide +kernel) (by decide) ?_
    refine lv_aload_n hx hb dX12_count_139 rfl (lv_at hl 1 rfl) ?_
    refine lv_iconst (v := 1) hx hb dX12_count_140 (by decide) ?_
    have hPc := hP.sub (ws' := [(h0, .inr (12, [.ref (am 0), .int 0, .int 0, .ref (am 1), .ref (am 2), .ref (am 3), .ref (am 4), .ref (am 5), .int 0, .int 0, .int 0, .int 0, .int 0, .int 0, .int 0, .ref (am 6), .int 0, .ref (am 7), .int 0, .ref (am 8), .ref (am 9), .int (-1), .int 0, .int 0, .int (-1), .int 0, .ref (am 10), .int 0, .ref (am 11), .ref (am 12), .ref (am 13), .ref (am 14), .long 0, .ref (am 15), .ref (am 16), .ref (am 17), .ref (am 18)])), ((am 9), .inl (G.2.2 0, 110, .inl (fun _ => 0)))]) [0, 1] rfl
    have hDc := hD.sub (ws' := [(h0, .inr (12, [.ref (am 0), .int 0, .int 0, .ref (am 1), .ref (am 2), .ref (am 3), .ref (am 4), .ref (am 5), .int 0, .int 0, .int 0, .int 0, .int 0, .int 0, .int 0, .ref (am 6), .int 0, .ref (am 7), .int 0, .ref (am 8), .ref (am 9), .int (-1), .int 0, .int 0, .int (-1), .int 0, .ref (am 10), .int 0, .ref (am 11), .ref (am 12), .ref (am 13), .ref (am 14), .long 0, .ref (am 15), .ref (am 16), .ref (am 17), .ref (am 18)])), ((am 9), .inl (G.2.2 0, 110, .inl (fun _ => 0)))]) [0, 1] (by decide) rfl
    refine gq_callI (wr := []) (va_runV (As := [.int 1]) (rest := []) ⟨hx, hb, hml, hown, ht⟩ (c_M_lotsIn1 l G s.heap.size h0 am) (cwV 1 ht (ts_gV wd_1619 wd_1621 wd_84 wd_134 wd_1622) rfl rfl rfl (by decide +kernel) ⟨Nat.le_of_ble_eq_true rfl, Nat.le_of_ble_eq_true rfl⟩) (gc_preV (ci := 12) (q0 := 0) hK hPc hDc rfl rfl) rfl rfl hl.1 rfl (lv_room (Nat.le_of_ble_eq_true rfl)) dX12_count_141 ⟨Nat.le_of_ble_eq_true rfl, Nat.le_of_ble_eq_true rfl⟩) hP hD hS hA [0, 1] [] rfl rfl (by decide) (by decide) (fun r u H locs hw hP hD hS => ?_)
    have hw : r = 0 := hw
    subst hw
    have hP : va_P (gg_D G) classes [(h0, .inr (12, [.ref (am 0), .int 0, .int 0, .ref (am 1), .ref (am 2), .ref (am 3), .ref (am 4), .ref (am 5), .int 0, .int 0, .int 0, .int 0, .int 0, .int 0, .int 0, .ref (am 6), .int 0, .ref (am 7), .int 0, .ref (am 8), .ref (am 9), .int (-1), .int 0, .int 0, .int (-1), .int 0, .ref (am 10), .int 0, .ref (am 11), .ref (am 12), .ref (am 13), .ref (am 14), .long 0, .ref (am 15), .ref (am 16), .ref (am 17), .ref (am 18)])), ((am 9), .inl (G.2.2 0, 110, .inl (fun _ => 0)))] H := hP
    have hD : va_D A [(h0, .inr (12, [.ref (am 0), .int 0, .int 0, .ref (am 1), .ref (am 2), .ref (am 3), .ref (am 4), .ref (am 5), .int 0, .int 0, .int 0, .int 0, .int 0, .int 0, .int 0, .ref (am 6), .int 0, .ref (am 7), .int 0, .ref (am 8), .ref (am 9), .int (-1), .int 0, .int 0, .int (-1), .int 0, .ref (am 10), .int 0, .ref (am 11), .ref (am 12), .ref (am 13), .ref (am 14), .long 0, .ref (am 15), .ref (am 16), .ref (am 17), .ref (am 18)])), ((am 9), .inl (G.2.2 0, 110, .inl (fun _ => 0)))] := hD
    have hP9 := hP.sub (ws' := []) [] rfl
    have hD9 := hD.sub (ws' := []) [] (by decide) rfl
    exact W.iret (v := 0) hx hb hr (gq_endI () (by decide +kernel) hP9 hD9 hS) hS.2.2 dX12_count_144
  by_cases c_10 : n = 9
  · subst c_10
    refine lv_tableIn (x := 9) (off := 142) (tgt := 145) hx hb dX12_count_3 (by decide +kernel) (by decide +kernel) (by decide +kernel) (by decide) ?_
    refine lv_aload_n hx hb dX12_count_145 rfl (lv_at hl 1 rfl) ?_
    refine lv_iconst (v := 2) hx hb dX12_count_146 (by decide) ?_
    have hPc := hP.sub (ws' := [(h0, .inr (12, [.ref (am 0), .int 0, .int 0, .ref (am 1), .ref (am 2), .ref (am 3), .ref (am 4), .ref (am 5), .int 0, .int 0, .int 0, .int 0, .int 0, .int 0, .int 0, .ref (am 6), .int 0, .ref (am 7), .int 0, .ref (am 8), .ref (am 9), .int (-1), .int 0, .int 0, .int (-1), .int 0, .ref (am 10), .int 0, .ref (am 11), .ref (am 12), .ref (am 13), .ref (am 14), .long 0, .ref (am 15), .ref (am 16), .ref (am 17), .ref (am 18)])), ((am 9), .inl (G.2.2 0, 110, .inl (fun _ => 0)))]) [0, 1] rfl
    have hDc := hD.sub (ws' := [(h0, .inr (12, [.ref (am 0), .int 0, .int 0, .ref (am 1), .ref (am 2), .ref (am 3), .ref (am 4), .ref (am 5), .int 0, .int 0, .int 0, .int 0, .int 0, .int 0, .int 0, .ref (am 6), .int 0, .ref (am 7), .int 0, .ref (am 8), .ref (am 9), .int (-1), .int 0, .int 0, .int (-1), .int 0, .ref (am 10), .int 0, .ref (am 11), .ref (am 12), .ref (am 13), .ref (am 14), .long 0, .ref (am 15), .ref (am 16), .ref (am 17), .ref (am 18)])), ((am 9), .inl (G.2.2 0, 110, .inl (fun _ => 0)))]) [0, 1] (by decide) rfl
    refine gq_callI (wr := []) (va_runV (As := [.int 2]) (rest := []) ⟨hx, hb, hml, hown, ht⟩ (c_M_lotsIn2 l G s.heap.size h0 am) (cwV 1 ht (ts_gV wd_1619 wd_1621 wd_84 wd_134 wd_1622) rfl rfl rfl (by decide +kernel) ⟨Nat.le_of_ble_eq_true rfl, Nat.le_of_ble_eq_true rfl⟩) (gc_preV (ci := 12) (q0 := 0) hK hPc hDc rfl rfl) rfl rfl hl.1 rfl (lv_room (Nat.le_of_ble_eq_true rfl)) dX12_count_147 ⟨Nat.le_of_ble_eq_true rfl, Nat.le_of_ble_eq_true rfl⟩) hP hD hS hA [0, 1] [] rfl rfl (by decide) (by decide) (fun r u H locs hw hP hD hS => ?_)
    have hw : r = 0 := hw
    subst hw
    have hP : va_P (gg_D G) classes [(h0, .inr (12, [.ref (am 0), .int 0, .int 0, .ref (am 1), .ref (am 2), .ref (am 3), .ref (am 4), .ref (am 5), .int 0, .int 0, .int 0, .int 0, .int 0, .int 0, .int 0, .ref (am 6), .int 0, .ref (am 7), .int 0, .ref (am 8), .ref (am 9), .int (-1), .int 0, .int 0, .int (-1), .int 0, .ref (am 10), .int 0, .ref (am 11), .ref (am 12), .ref (am 13), .ref (am 14), .long 0, .ref (am 15), .ref (am 16), .ref (am 17), .ref (am 18)])), ((am 9), .inl (G.2.2 0, 110, .inl (fun _ => 0)))] H := hP
    have hD : va_D A [(h0, .inr (12, [.ref (am 0), .int 0, .int 0, .ref (am 1), .ref (am 2), .ref (am 3), .ref (am 4), .ref (am 5), .int 0, .int 0, .int 0, .int 0, .int 0, .int 0, .int 0, .ref (am 6), .int 0, .ref (am 7), .int 0, .ref (am 8), .ref (am 9), .int (-1), .int 0, .int 0, .int (-1), .int 0, .ref (am 10), .int 0, .ref (am 11), .ref (am 12), .ref (am 13), .ref (am 14), .long 0, .ref (am 15), .ref (am 16), .ref (am 17), .ref (am 18)])), ((am 9), .inl (G.2.2 0, 110, .inl (fun _ => 0)))] := hD
    have hP9 := hP.sub (ws' := []) [] rfl
    have hD9 := hD.sub (ws' := []) [] (by decide) rfl
    exact W.iret (v := 0) hx hb hr (gq_endI () (by decide +kernel) hP9 hD9 hS) hS.2.2 dX12_count_150
  by_cases c_11 : n = 10
  · subst c_11
    refine lv_tableIn (x := 10) (off := 148) (tgt := 151) hx hb dX12_count_3 (by decide +kernel) (by decide +kernel) (by decide +kernel) (by decide) ?_
    refine lv_aload_n hx hb dX12_count_151 rfl (lv_at hl 1 rfl) ?_
    have hPc := hP.sub (ws' := [(h0, .inr (12, [.ref (am 0), .int 0, .int 0, .ref (am 1), .ref (am 2), .ref (am 3), .ref (am 4), .ref (am 5), .int 0, .int 0, .int 0, .int 0, .int 0, .int 0, .int 0, .ref (am 6), .int 0, .ref (am 7), .int 0, .ref (am 8), .ref (am 9), .int (-1), .int 0, .int 0, .int (-1), .int 0, .ref (am 10), .int 0, .ref (am 11), .ref (am 12), .ref (am 13), .ref (am 14), .long 0, .ref (am 15), .ref (am 16), .ref (am 17), .ref (am 18)])), ((am 9), .inl (G.2.2 0, 110, .inl (fun _ => 0)))]) [0, 1] rfl
    have hDc := hD.sub (ws' := [(h0, .inr (12, [.ref (am 0), .int 0, .int 0, .ref (am 1), .ref (am 2), .ref (am 3), .ref (am 4), .ref (am 5), .int 0, .int 0, .int 0, .int 0, .int 0, .int 0, .int 0, .ref (am 6), .int 0, .ref (am 7), .int 0, .ref (am 8), .ref (am 9), .int (-1), .int 0, .int 0, .int (-1), .int 0, .ref (am 10), .int 0, .ref (am 11), .ref (am 12), .ref (am 13), .ref (am 14), .long 0, .ref (am 15), .ref (am 16), .ref (am 17), .ref (am 18)])), ((am 9), .inl (G.2.2 0, 110, .inl (fun _ => 0)))]) [0, 1] (by decide) rfl
    refine gq_callI (wr := []) (va_runV (As := []) (rest := []) ⟨hx, hb, hml, hown, ht⟩ (c_M_coinsPaid l G s.heap.size h0 am) (cwV 0 ht (ts_gV wd_1848 wd_1850 wd_119 wd_134 wd_1851) rfl rfl rfl (by decide +kernel) ⟨Nat.le_of_ble_eq_true rfl, Nat.le_of_ble_eq_true rfl⟩) (gc_preV (ci := 12) (q0 := 0) hK hPc hDc rfl rfl) rfl rfl hl.1 rfl (lv_room (Nat.le_of_ble_eq_true rfl)) dX12_count_152 ⟨Nat.le_of_ble_eq_true rfl, Nat.le_of_ble_eq_true rfl⟩) hP hD hS hA [0, 1] [] rfl rfl (by decide) (by decide) (fun r u H locs hw hP hD hS => ?_)
    have hw : r = 0 := hw
    subst hw
    have hP : va_P (gg_D G) classes [(h0, .inr (12, [.ref (am 0), .int 0, .int 0, .ref (am 1), .ref (am 2), .ref (am 3), .ref (am 4), .ref (am 5), .int 0, .int 0, .int 0, .int 0, .int 0, .int 0, .int 0, .ref (am 6), .int 0, .ref (am 7), .int 0, .ref (am 8), .ref (am 9), .int (-1), .int 0, .int 0, .int (-1), .int 0, .ref (am 10), .int 0, .ref (am 11), .ref (am 12), .ref (am 13), .ref (am 14), .long 0, .ref (am 15), .ref (am 16), .ref (am 17), .ref (am 18)])), ((am 9), .inl (G.2.2 0, 110, .inl (fun _ => 0)))] H := hP
    have hD : va_D A [(h0, .inr (12, [.ref (am 0), .int 0, .int 0, .ref (am 1), .ref (am 2), .ref (am 3), .ref (am 4), .ref (am 5), .int 0, .int 0, .int 0, .int 0, .int 0, .int 0, .int 0, .ref (am 6), .int 0, .ref (am 7), .int 0, .ref (am 8), .ref (am 9), .int (-1), .int 0, .int 0, .int (-1), .int 0, .ref (am 10), .int 0, .ref (am 11), .ref (am 12), .ref (am 13), .ref (am 14), .long 0, .ref (am 15), .ref (am 16), .ref (am 17), .ref (am 18)])), ((am 9), .inl (G.2.2 0, 110, .inl (fun _ => 0)))] := hD
    have hP9 := hP.sub (ws' := []) [] rfl
    have hD9 := hD.sub (ws' := []) [] (by decide) rfl
    exact W.iret (v := 0) hx hb hr (gq_endI () (by decide +kernel) hP9 hD9 hS) hS.2.2 dX12_count_155
  by_cases c_12 : n = 11
  · subst c_12
    refine lv_tableIn (x := 11) (off := 153) (tgt := 156) hx hb dX12_count_3 (by decide +kernel) (by decide +kernel) (by decide +kernel) (by decide) ?_
    refine lv_aload_n hx hb dX12_count_156 rfl (lv_at hl 1 rfl) ?_
    refine gq_get hx hb ht hown hK hP i_X12 0 rfl rfl 20 (by decide) wd_1272 rfl rfl dX12_count_157 ?_
    refine lv_bipush (v := 109) hx hb dX12_count_160 (by decide +kernel) ?_
    refine gq_iald hx hb hK hP 1 rfl 0 (by unfold vp_in; decide +kernel) rfl dX12_count_162 ?_
    have hP9 := hP.sub (ws' := []) [] rfl
    have hD9 := hD.sub (ws' := []) [] (by decide) rfl
    exact W.iret (v := 0) hx hb hr (gq_endI () (by decide +kernel) hP9 hD9 hS) hS.2.2 dX12_count_163
  by_cases c_13 : n = 12
  · subst c_13
    refine lv_tableIn (x := 12) (off := 161) (tgt := 164) hx hb dX12_count_3 (by decide +kernel) (by decide +kernel) (by decide +kernel) (by decide) ?_
    refine lv_aload_n hx hb dX12_count_164 rfl (lv_at hl 1 rfl) ?_
    refine gq_get hx hb ht hown hK hP i_X12 0 rfl rfl 27 (by decide) wd_1279 rfl rfl dX12_count_165 ?_
    have hP9 := hP.sub (ws' := []) [] rfl
    have hD9 := hD.sub (ws' := []) [] (by decide) rfl
    exact W.iret (v := 0) hx hb hr (gq_endI () (by decide +kernel) hP9 hD9 hS) hS.2.2 dX12_count_168
  by_cases c_14 : n = 13
  · subst c_14
    refine lv_tableIn (x := 13) (off := 166) (tgt := 169) hx hb dX12_count_3 (by decide +kernel) (by decide +kernel) (by decide +kernel) (by decide) ?_
    refine lv_aload_n hx hb dX12_count_169 rfl (lv_at hl 1 rfl) ?_
    refine gq_get hx hb ht hown hK hP i_X12 0 rfl rfl 22 (by decide) wd_1274 rfl rfl dX12_count_170 ?_
    have hP9 := hP.sub (ws' := []) [] rfl
    have hD9 := hD.sub (ws' := []) [] (by decide) rfl
    exact W.iret (v := 0) hx hb hr (gq_endI () (by decide +kernel) hP9 hD9 hS) hS.2.2 dX12_count_173
  by_cases c_15 : n = 14
  · subst c_15
    refine lv_tableIn (x := 14) (off := 171) (tgt := 174) hx hb dX12_count_3 (by decide +kernel) (by decide +kernel) (by decide +kernel) (by decide) ?_
    refine lv_aload_n hx hb dX12_count_174 rfl (lv_at hl 1 rfl) ?_
    refine gq_get hx hb ht hown hK hP i_X12 0 rfl rfl 1 (by decide) wd_1253 rfl rfl dX12_count_175 ?_
    have hP9 := hP.sub (ws' := []) [] rfl
    have hD9 := hD.sub (ws' := []) [] (by decide) rfl
    exact W.iret (v := 0) hx hb hr (gq_endI () (by decide +kernel) hP9 hD9 hS) hS.2.2 dX12_count_178
  refine lv_tableOut (x := n) (tgt := 179) hx hb dX12_count_3 (by have k0 : (0 : Int32).toInt = 0 := (by decide +kernel); have k1 : (1 : Int32).toInt = 1 := (by decide +kernel); have k2 : (2 : Int32).toInt = 2 := (by decide +kernel); have k3 : (3 : Int32).toInt = 3 := (by decide +kernel); have k4 : (4 : Int32).toInt = 4 := (by decide +kernel); have k5 : (5 : Int32).toInt = 5 := (by decide +kernel); have k6 : (6 : Int32).toInt = 6 := (by decide +kernel); have k7 : (7 : Int32).toInt = 7 := (by decide +kernel); have k8 : (8 : Int32).toInt = 8 := (by decide +kernel); have k9 : (9 : Int32).toInt = 9 := (by decide +kernel); have k10 : (10 : Int32).toInt = 10 := (by decide +kernel); have k11 : (11 : Int32).toInt = 11 := (by decide +kernel); have k12 : (12 : Int32).toInt = 12 := (by decide +kernel); have k13 : (13 : Int32).toInt = 13 := (by decide +kernel); have k14 : (14 : Int32).toInt = 14 := (by decide +kernel); simp only [← Int32.toInt_inj] at c_1 c_2 c_3 c_4 c_5 c_6 c_7 c_8 c_9 c_10 c_11 c_12 c_13 c_14 c_15; omega) (by decide) ?_
  refine lv_iconst (v := (-1)) hx hb dX12_count_179 (by decide) ?_
  have hP9 := hP.sub (ws' := []) [] rfl
  have hD9 := hD.sub (ws' := []) [] (by decide) rfl
  exact W.iret (v := (-1)) hx hb hr (gq_endI () (by simp only [sp_count, c_1, c_2, c_3, c_4, c_5, c_6, c_7, c_8, c_9, c_10, c_11, c_12, c_13, c_14, c_15, if_false]) hP9 hD9 hS) hS.2.2 dX12_count_180
set_option maxHeartbeats 4000000 in
set_option maxRecDepth 100000 in
theorem c_M_image (l : Launch) (G : gg_T) (sz : Nat) (h0 : Nat) (am : Nat → Nat) (n : Int32) : Met l yX12_image (ts_L yX12_image cX12_image 3 (some .int)) ({ frames := 1, cells := 0, slots := 0, locals := 25 }) (gc_P G [(h0, .inr (12, [.ref (am 0), .int 0, .int 0, .ref (am 1), .ref (am 2), .ref (am 3), .ref (am 4), .ref (am 5), .int 0, .int 0, .int 0, .int 0, .int 0, .int 0, .int 0, .ref (am 6), .int 0, .ref (am 7), .int 0, .ref (am 8), .ref (am 9), .int (-1), .int 0, .int 0, .int (-1), .int 0, .ref (am 10), .int 0, .ref (am 11), .ref (am 12), .ref (am 13), .ref (am 14), .long 0, .ref (am 15), .ref (am 16), .ref (am 17), .ref (am 18)])), ((am 9), .inl (G.2.2 0, 110, .inl (fun _ => 0))), ((am 15), .inl (G.2.2 0, 440, .inl (fun _ => 0))), ((am 16), .inl (G.2.2 0, 4, .inl (fun _ => 0))), ((am 17), .inl (G.2.2 0, 4, .inl (fun _ => 0))), ((am 18), .inl (G.2.2 3, 4, .inl (fun _ => 0)))] sz [.ref h0, .int n]) (gc_I G (va_A [(h0, .inr (12, [.ref (am 0), .int 0, .int 0, .ref (am 1), .ref (am 2), .ref (am 3), .ref (am 4), .ref (am 5), .int 0, .int 0, .int 0, .int 0, .int 0, .int 0, .int 0, .ref (am 6), .int 0, .ref (am 7), .int 0, .ref (am 8), .ref (am 9), .int (-1), .int 0, .int 0, .int (-1), .int 0, .ref (am 10), .int 0, .ref (am 11), .ref (am 12), .ref (am 13), .ref (am 14), .long 0, .ref (am 15), .ref (am 16), .ref (am 17), .ref (am 18)])), ((am 9), .inl (G.2.2 0, 110, .inl (fun _ => 0))), ((am 15), .inl (G.2.2 0, 440, .inl (fun _ => 0))), ((am 16), .inl (G.2.2 0, 4, .inl (fun _ => 0))), ((am 17), .inl (G.2.2 0, 4, .inl (fun _ => 0))), ((am 18), .inl (G.2.2 3, 4, .inl (fun _ => 0)))] sz) (fun r (_ : Unit) => r = (sp_image n)) (fun _ => [])) 0 0 (va_A [(h0, .inr (12, [.ref (am 0), .int 0, .int 0, .ref (am 1), .ref (am 2), .ref (am 3), .ref (am 4), .ref (am 5), .int 0, .int 0, .int 0, .int 0, .int 0, .int 0, .int 0, .ref (am 6), .int 0, .ref (am 7), .int 0, .ref (am 8), .ref (am 9), .int (-1), .int 0, .int 0, .int (-1), .int 0, .ref (am 10), .int 0, .ref (am 11), .ref (am 12), .ref (am 13), .ref (am 14), .long 0, .ref (am 15), .ref (am 16), .ref (am 17), .ref (am 18)])), ((am 9), .inl (G.2.2 0, 110, .inl (fun _ => 0))), ((am 15), .inl (G.2.2 0, 440, .inl (fun _ => 0))), ((am 16), .inl (G.2.2 0, 4, .inl (fun _ => 0))), ((am 17), .inl (G.2.2 0, 4, .inl (fun _ => 0))), ((am 18), .inl (G.2.2 3, 4, .inl (fun _ => 0)))] sz) := by
  refine Met.ofW (cc := cX12_image) (maxL := 3) (ret := (some .int)) (by decide) rfl ?_
  intro p e s m args below meth c s₁ B hml hv
  obtain ⟨rfl, hsz, hP, hK, hD0⟩ := hv
  have hx := B.exec
  have hb := B.bytes
  have hr := B.returns
  have ht := ts_ht (atoms_spec (ws := ts_L yX12_image cX12_image 3 (some .int)) B.pre)
  have hown : s.vm.findClass RX12 = some m.cls := findClass_of_methodNamed B.named
  have hlocks := B.notSynchronized
  subst hsz
  have hD := hD0.self (sz := s.heap.size)
  generalize hAe : va_A [(h0, .inr (12, [.ref (am 0), .int 0, .int 0, .ref (am 1), .ref (am 2), .ref (am 3), .ref (am 4), .ref (am 5), .int 0, .int 0, .int 0, .int 0, .int 0, .int 0, .int 0, .ref (am 6), .int 0, .ref (am 7), .int 0, .ref (am 8), .ref (am 9), .int (-1), .int 0, .int 0, .int (-1), .int 0, .ref (am 10), .int 0, .ref (am 11), .ref (am 12), .ref (am 13), .ref (am 14), .long 0, .ref (am 15), .ref (am 16), .ref (am 17), .ref (am 18)])), ((am 9), .inl (G.2.2 0, 110, .inl (fun _ => 0))), ((am 15), .inl (G.2.2 0, 440, .inl (fun _ => 0))), ((am 16), .inl (G.2.2 0, 4, .inl (fun _ => 0))), ((am 17), .inl (G.2.2 0, 4, .inl (fun _ => 0))), ((am 18), .inl (G.2.2 3, 4, .inl (fun _ => 0)))] s.heap.size = A at hD ⊢
  have hA : ∀ q : Nat, s.heap.size ≤ q → A q := fun q h => by rw [← hAe]; exact Or.inr h
  have hS : va_S A s.heap s.heap [] := va_S.rf
  have hl := lv_entry ([.ref h0, .int n]) (n := 3) (Nat.le_of_ble_eq_true rfl)
  rw [lg_entry_eq]
  generalize (lg_sl ([.ref h0, .int n]) ++ List.replicate (3 - (lg_sl ([.ref h0, .int n])).length) Slot.unset).toArray = ls at hl ⊢
  have hl : lv_has ls 3 [(0, .ref h0), (1, .int n)] := hl
  by_cases c_1 : n = 0
  · subst c_1
    refine lv_iload_n hx hb dX12_image_0 rfl (lv_at hl 1 rfl) ?_
    refine lv_i2l (v := 0) hx hb dX12_image_1 (by decide +kernel) ?_
    refine lv_lconst (v := 0) hx hb dX12_image_2 (by decide +kernel) ?_
    refine lv_ldc2 hx hb hown (ht _ wd_1868) dX12_image_3 ?_
    have hPc := hP.sub (ws' := []) [] rfl
    have hDc := hD.sub (ws' := []) [] (by decide) rfl
    refine gq_callI (wr := [(h0, .inr (12, [.ref (am 0), .int 0, .int 0, .ref (am 1), .ref (am 2), .ref (am 3), .ref (am 4), .ref (am 5), .int 0, .int 0, .int 0, .int 0, .int 0, .int 0, .int 0, .ref (am 6), .int 0, .ref (am 7), .int 0, .ref (am 8), .ref (am 9), .int (-1), .int 0, .int 0, .int (-1), .int 0, .ref (am 10), .int 0, .ref (am 11), .ref (am 12), .ref (am 13), .ref (am 14), .long 0, .ref (am 15), .ref (am 16), .ref (am 17), .ref (am 18)])), ((am 9), .inl (G.2.2 0, 110, .inl (fun _ => 0))), ((am 15), .inl (G.2.2 0, 440, .inl (fun _ => 0))), ((am 16), .inl (G.2.2 0, 4, .inl (fun _ => 0))), ((am 17), .inl (G.2.2 0, 4, .inl (fun _ => 0))), ((am 18), .inl (G.2.2 3, 4, .inl (fun _ => 0)))]) (va_runS (As := [.long 0, .long 0, .long 3]) (rest := []) ⟨hx, hb, hml, hown, ht⟩ (c_M_in l G s.heap.size 0 0 3) (va_cwS 3 ht (ts_gS wd_1439 wd_1440 wd_134 wd_1441) rfl rfl rfl (by decide +kernel) ⟨Nat.le_of_ble_eq_true rfl, Nat.le_of_ble_eq_true rfl⟩) (gc_preS hK hPc hDc) rfl rfl hl.1 rfl (lv_room (Nat.le_of_ble_eq_true rfl)) dX12_image_6 ⟨Nat.le_of_ble_eq_true rfl, Nat.le_of_ble_eq_true rfl⟩) hP hD hS hA [] [0, 1, 2, 3, 4, 5] rfl rfl (by decide) (by decide) (fun r u H locs hw hP hD hS => ?_)
    have hw : r = (mi_in 0 0 3) := hw
    subst hw
    have hP : va_P (gg_D G) classes [(h0, .inr (12, [.ref (am 0), .int 0, .int 0, .ref (am 1), .ref (am 2), .ref (am 3), .ref (am 4), .ref (am 5), .int 0, .int 0, .int 0, .int 0, .int 0, .int 0, .int 0, .ref (am 6), .int 0, .ref (am 7), .int 0, .ref (am 8), .ref (am 9), .int (-1), .int 0, .int 0, .int (-1), .int 0, .ref (am 10), .int 0, .ref (am 11), .ref (am 12), .ref (am 13), .ref (am 14), .long 0, .ref (am 15), .ref (am 16), .ref (am 17), .ref (am 18)])), ((am 9), .inl (G.2.2 0, 110, .inl (fun _ => 0))), ((am 15), .inl (G.2.2 0, 440, .inl (fun _ => 0))), ((am 16), .inl (G.2.2 0, 4, .inl (fun _ => 0))), ((am 17), .inl (G.2.2 0, 4, .inl (fun _ => 0))), ((am 18), .inl (G.2.2 3, 4, .inl (fun _ => 0)))] H := hP
    have hD : va_D A [(h0, .inr (12, [.ref (am 0), .int 0, .int 0, .ref (am 1), .ref (am 2), .ref (am 3), .ref (am 4), .ref (am 5), .int 0, .int 0, .int 0, .int 0, .int 0, .int 0, .int 0, .ref (am 6), .int 0, .ref (am 7), .int 0, .ref (am 8), .ref (am 9), .int (-1), .int 0, .int 0, .int (-1), .int 0, .ref (am 10), .int 0, .ref (am 11), .ref (am 12), .ref (am 13), .ref (am 14), .long 0, .ref (am 15), .ref (am 16), .ref (am 17), .ref (am 18)])), ((am 9), .inl (G.2.2 0, 110, .inl (fun _ => 0))), ((am 15), .inl (G.2.2 0, 440, .inl (fun _ => 0))), ((am 16), .inl (G.2.2 0, 4, .inl (fun _ => 0))), ((am 17), .inl (G.2.2 0, 4, .inl (fun _ => 0))), ((am 18), .inl (G.2.2 3, 4, .inl (fun _ => 0)))] := hD
    rw [show (mi_in 0 0 3) = 1 by decide +kernel]
    refine lv_if_ne (tgt := 14) hx hb dX12_image_9 (by decide) (fun _ => ?_) (fun c0 => absurd c0 (by decide +kernel))
    refine lv_aload_n hx hb dX12_image_14 rfl (lv_at hl 0 rfl) ?_
    refine gq_get hx hb ht hown hK hP i_X12 0 rfl rfl 36 (by decide) wd_1288 rfl rfl dX12_image_15 ?_
    refine lv_iload_n hx hb dX12_image_18 rfl (lv_at hl 1 rfl) ?_
    refine lv_iconst (v := 1) hx hb dX12_image_19 (by decide) ?_
    obtain ⟨f_2, ef_2⟩ : ∃ z : Nat → Int32, upd (fun _ => 0) (Int32.toNatClampNeg 0) (vp_nar .boolean 1) = z := ⟨_, rfl⟩
    refine gq_zast (ws' := [(h0, .inr (12, [.ref (am 0), .int 0, .int 0, .ref (am 1), .ref (am 2), .ref (am 3), .ref (am 4), .ref (am 5), .int 0, .int 0, .int 0, .int 0, .int 0, .int 0, .int 0, .ref (am 6), .int 0, .ref (am 7), .int 0, .ref (am 8), .ref (am 9), .int (-1), .int 0, .int 0, .int (-1), .int 0, .ref (am 10), .int 0, .ref (am 11), .ref (am 12), .ref (am 13), .ref (am 14), .long 0, .ref (am 15), .ref (am 16), .ref (am 17), .ref (am 18)])), ((am 9), .inl (G.2.2 0, 110, .inl (fun _ => 0))), ((am 15), .inl (G.2.2 0, 440, .inl (fun _ => 0))), ((am 16), .inl (G.2.2 0, 4, .inl (fun _ => 0))), ((am 17), .inl (G.2.2 0, 4, .inl (fun _ => 0))), ((am 18), .inl (G.2.2 3, 4, .inl f_2))]) hx hb hK hP hD hS 5 rfl f_2 (by unfold vp_in; decide +kernel) ef_2 rfl dX12_image_20 (fun H locs hP hD hS => ?_)
    refine lv_aload_n hx hb dX12_image_21 rfl (lv_at hl 0 rfl) ?_
    refine gq_get hx hb ht hown hK hP i_X12 0 rfl rfl 34 (by decide) wd_1286 rfl rfl dX12_image_22 ?_
    refine lv_iload_n hx hb dX12_image_25 rfl (lv_at hl 1 rfl) ?_
    refine lv_aload_n hx hb dX12_image_26 rfl (lv_at hl 0 rfl) ?_
    refine gq_get hx hb ht hown hK hP i_X12 0 rfl rfl 21 (by decide) wd_1273 rfl rfl dX12_image_27 ?_
    obtain ⟨f_3, ef_3⟩ : ∃ z : Nat → Int32, upd (fun _ => 0) (Int32.toNatClampNeg 0) (-1) = z := ⟨_, rfl⟩
    refine gq_iast (ws' := [(h0, .inr (12, [.ref (am 0), .int 0, .int 0, .ref (am 1), .ref (am 2), .ref (am 3), .ref (am 4), .ref (am 5), .int 0, .int 0, .int 0, .int 0, .int 0, .int 0, .int 0, .ref (am 6), .int 0, .ref (am 7), .int 0, .ref (am 8), .ref (am 9), .int (-1), .int 0, .int 0, .int (-1), .int 0, .ref (am 10), .int 0, .ref (am 11), .ref (am 12), .ref (am 13), .ref (am 14), .long 0, .ref (am 15), .ref (am 16), .ref (am 17), .ref (am 18)])), ((am 9), .inl (G.2.2 0, 110, .inl (fun _ => 0))), ((am 15), .inl (G.2.2 0, 440, .inl (fun _ => 0))), ((am 16), .inl (G.2.2 0, 4, .inl f_3)), ((am 17), .inl (G.2.2 0, 4, .inl (fun _ => 0))), ((am 18), .inl (G.2.2 3, 4, .inl f_2))]) hx hb hK hP hD hS 3 rfl f_3 (by unfold vp_in; decide +kernel) ef_3 rfl dX12_image_30 (fun H locs hP hD hS => ?_)
    refine lv_aload_n hx hb dX12_image_31 rfl (lv_at hl 0 rfl) ?_
    refine gq_get hx hb ht hown hK hP i_X12 0 rfl rfl 35 (by decide) wd_1287 rfl rfl dX12_image_32 ?_
    refine lv_iload_n hx hb dX12_image_35 rfl (lv_at hl 1 rfl) ?_
    refine lv_aload_n hx hb dX12_image_36 rfl (lv_at hl 0 rfl) ?_
    refine gq_get hx hb ht hown hK hP i_X12 0 rfl rfl 22 (by decide) wd_1274 rfl rfl dX12_image_37 ?_
    refine gq_iast (ws' := [(h0, .inr (12, [.ref (am 0), .int 0, .int 0, .ref (am 1), .ref (am 2), .ref (am 3), .ref (am 4), .ref (am 5), .int 0, .int 0, .int 0, .int 0, .int 0, .int 0, .int 0, .ref (am 6), .int 0, .ref (am 7), .int 0, .ref (am 8), .ref (am 9), .int (-1), .int 0, .int 0, .int (-1), .int 0, .ref (am 10), .int 0, .ref (am 11), .ref (am 12), .ref (am 13), .ref (am 14), .long 0, .ref (am 15), .ref (am 16), .ref (am 17), .ref (am 18)])), ((am 9), .inl (G.2.2 0, 110, .inl (fun _ => 0))), ((am 15), .inl (G.2.2 0, 440, .inl (fun _ => 0))), ((am 16), .inl (G.2.2 0, 4, .inl f_3)), ((am 17), .inl (G.2.2 0, 4, .inl (fun _ => 0))), ((am 18), .inl (G.2.2 3, 4, .inl f_2))]) hx hb hK hP hD hS 4 rfl (fun _ => 0) (by unfold vp_in; decide +kernel) (up_z _ _) rfl dX12_image_40 (fun H locs hP hD hS => ?_)
    refine lv_iconst (v := 0) hx hb dX12_image_41 (by decide) ?_
    refine lv_istore_n (lv' := [(2, .int 0), (0, .ref h0), (1, .int 0)]) hx hb dX12_image_42 rfl hl (by decide) rfl (fun ls hl => ?_)
    refine lp_cnt (ws := [(h0, .inr (12, [.ref (am 0), .int 0, .int 0, .ref (am 1), .ref (am 2), .ref (am 3), .ref (am 4), .ref (am 5), .int 0, .int 0, .int 0, .int 0, .int 0, .int 0, .int 0, .ref (am 6), .int 0, .ref (am 7), .int 0, .ref (am 8), .ref (am 9), .int (-1), .int 0, .int 0, .int (-1), .int 0, .ref (am 10), .int 0, .ref (am 11), .ref (am 12), .ref (am 13), .ref (am 14), .long 0, .ref (am 15), .ref (am 16), .ref (am 17), .ref (am 18)])), ((am 9), .inl (G.2.2 0, 110, .inl (fun _ => 0))), ((am 15), .inl (G.2.2 0, 440, .inl (fun _ => 0))), ((am 16), .inl (G.2.2 0, 4, .inl f_3)), ((am 17), .inl (G.2.2 0, 4, .inl (fun _ => 0))), ((am 18), .inl (G.2.2 3, 4, .inl f_2))]) (nL := 3) 110 (fun z => [(2, .int z), (0, .ref h0), (1, .int 0)]) (fun H locs ls hP hD hS hl => ?_) (fun i hi_ H locs ls hP hD hS hl ih => ?_) 0 (Nat.zero_le _) _ _ ls hP hD hS hl
    · have hl : lv_has ls 3 [(2, .int 110), (0, .ref h0), (1, .int 0)] := hl
      refine lv_iload_n hx hb dX12_image_43 rfl (lv_at hl 0 rfl) ?_
      refine lv_bipush (v := 110) hx hb dX12_image_44 (by decide +kernel) ?_
      refine lv_icmp_ge (tgt := 72) hx hb dX12_image_46 (by decide) (fun _ => ?_) (fun c0 => absurd (by decide +kernel) c0)
      refine lv_aload_n hx hb dX12_image_72 rfl (lv_at hl 1 rfl) ?_
      refine gq_get hx hb ht hown hK hP i_X12 0 rfl rfl 20 (by decide) wd_1272 rfl rfl dX12_image_73 ?_
      refine lv_bipush (v := 10) hx hb dX12_image_76 (by decide +kernel) ?_
      refine gq_iald hx hb hK hP 1 rfl 0 (by unfold vp_in; decide +kernel) rfl dX12_image_78 ?_
      have hP9 := hP.sub (ws' := []) [] rfl
      have hD9 := hD.sub (ws' := []) [] (by decide) rfl
      exact W.iret (v := 0) hx hb hr (gq_endI () (by decide +kernel) hP9 hD9 hS) hS.2.2 dX12_image_79
    · have hl : lv_has ls 3 [(2, .int (nI i)), (0, .ref h0), (1, .int 0)] := hl
      refine lv_iload_n hx hb dX12_image_43 rfl (lv_at hl 0 rfl) ?_
      refine lv_bipush (v := 110) hx hb dX12_image_44 (by decide +kernel) ?_
      refine lv_icmp_ge (tgt := 72) hx hb dX12_image_46 (by decide) (fun c0 => absurd c0 (nI_ge hi_ (by decide))) (fun _ => ?_)
      refine lv_aload_n hx hb dX12_image_49 rfl (lv_at hl 1 rfl) ?_
      refine gq_get hx hb ht hown hK hP i_X12 0 rfl rfl 33 (by decide) wd_1285 rfl rfl dX12_image_50 ?_
      refine lv_bipush (v := 110) hx hb dX12_image_53 (by decide +kernel) ?_
      refine lv_iload_n hx hb dX12_image_55 rfl (lv_at hl 2 rfl) ?_
      refine gq_imul hx hb 0 (by decide +kernel) dX12_image_56 ?_
      refine lv_iload_n hx hb dX12_image_57 rfl (lv_at hl 0 rfl) ?_
      refine gq_iadd hx hb (nI (0 + i)) (nI_add 0 i) dX12_image_58 ?_
      refine lv_aload_n hx hb dX12_image_59 rfl (lv_at hl 1 rfl) ?_
      refine gq_get hx hb ht hown hK hP i_X12 0 rfl rfl 20 (by decide) wd_1272 rfl rfl dX12_image_60 ?_
      refine lv_iload_n hx hb dX12_image_63 rfl (lv_at hl 0 rfl) ?_
      refine gq_iald hx hb hK hP 1 rfl 0 (vp_in_nI (by omega) (by decide)) rfl dX12_image_64 ?_
      refine gq_iast (ws' := [(h0, .inr (12, [.ref (am 0), .int 0, .int 0, .ref (am 1), .ref (am 2), .ref (am 3), .ref (am 4), .ref (am 5), .int 0, .int 0, .int 0, .int 0, .int 0, .int 0, .int 0, .ref (am 6), .int 0, .ref (am 7), .int 0, .ref (am 8), .ref (am 9), .int (-1), .int 0, .int 0, .int (-1), .int 0, .ref (am 10), .int 0, .ref (am 11), .ref (am 12), .ref (am 13), .ref (am 14), .long 0, .ref (am 15), .ref (am 16), .ref (am 17), .ref (am 18)])), ((am 9), .inl (G.2.2 0, 110, .inl (fun _ => 0))), ((am 15), .inl (G.2.2 0, 440, .inl (fun _ => 0))), ((am 16), .inl (G.2.2 0, 4, .inl f_3)), ((am 17), .inl (G.2.2 0, 4, .inl (fun _ => 0))), ((am 18), .inl (G.2.2 3, 4, .inl f_2))]) hx hb hK hP hD hS 2 rfl (fun _ => 0) (vp_in_nI (by omega) (by decide)) (up_z _ _) rfl dX12_image_65 (fun H locs hP hD hS => ?_)
      refine lv_iinc (v := (nI (i + 1))) (lv' := [(2, .int (nI (i + 1))), (0, .ref h0), (1, .int 0)]) hx hb dX12_image_66 hl (k := 0) rfl (nI_1 i) (by decide) rfl (fun ls hl => ?_)
      refine lv_goto (tgt := 43) hx hb dX12_image_69 (by decide) ?_
      exact ih H locs ls hP hD hS (lv_sub hl [0, 1, 2] rfl)
  · by_cases c_4 : n = 1
    · subst c_4
      refine lv_iload_n hx hb dX12_image_0 rfl (lv_at hl 1 rfl) ?_
      refine lv_i2l (v := 1) hx hb dX12_image_1 (by decide +kernel) ?_
      refine lv_lconst (v := 0) hx hb dX12_image_2 (by decide +kernel) ?_
      refine lv_ldc2 hx hb hown (ht _ wd_1868) dX12_image_3 ?_
      have hPc := hP.sub (ws' := []) [] rfl
      have hDc := hD.sub (ws' := []) [] (by decide) rfl
      refine gq_callI (wr := [(h0, .inr (12, [.ref (am 0), .int 0, .int 0, .ref (am 1), .ref (am 2), .ref (am 3), .ref (am 4), .ref (am 5), .int 0, .int 0, .int 0, .int 0, .int 0, .int 0, .int 0, .ref (am 6), .int 0, .ref (am 7), .int 0, .ref (am 8), .ref (am 9), .int (-1), .int 0, .int 0, .int (-1), .int 0, .ref (am 10), .int 0, .ref (am 11), .ref (am 12), .ref (am 13), .ref (am 14), .long 0, .ref (am 15), .ref (am 16), .ref (am 17), .ref (am 18)])), ((am 9), .inl (G.2.2 0, 110, .inl (fun _ => 0))), ((am 15), .inl (G.2.2 0, 440, .inl (fun _ => 0))), ((am 16), .inl (G.2.2 0, 4, .inl (fun _ => 0))), ((am 17), .inl (G.2.2 0, 4, .inl (fun _ => 0))), ((am 18), .inl (G.2.2 3, 4, .inl (fun _ => 0)))]) (va_runS (As := [.long 1, .long 0, .long 3]) (rest := []) ⟨hx, hb, hml, hown, ht⟩ (c_M_in l G s.heap.size 1 0 3) (va_cwS 3 ht (ts_gS wd_1439 wd_1440 wd_134 wd_1441) rfl rfl rfl (by decide +kernel) ⟨Nat.le_of_ble_eq_true rfl, Nat.le_of_ble_eq_true rfl⟩) (gc_preS hK hPc hDc) rfl rfl hl.1 rfl (lv_room (Nat.le_of_ble_eq_true rfl)) dX12_image_6 ⟨Nat.le_of_ble_eq_true rfl, Nat.le_of_ble_eq_true rfl⟩) hP hD hS hA [] [0, 1, 2, 3, 4, 5] rfl rfl (by decide) (by decide) (fun r u H locs hw hP hD hS => ?_)
      have hw : r = (mi_in 1 0 3) := hw
      subst hw
      have hP : va_P (gg_D G) classes [(h0, .inr (12, [.ref (am 0), .int 0, .int 0, .ref (am 1), .ref (am 2), .ref (am 3), .ref (am 4), .ref (am 5), .int 0, .int 0, .int 0, .int 0, .int 0, .int 0, .int 0, .ref (am 6), .int 0, .ref (am 7), .int 0, .ref (am 8), .ref (am 9), .int (-1), .int 0, .int 0, .int (-1), .int 0, .ref (am 10), .int 0, .ref (am 11), .ref (am 12), .ref (am 13), .ref (am 14), .long 0, .ref (am 15), .ref (am 16), .ref (am 17), .ref (am 18)])), ((am 9), .inl (G.2.2 0, 110, .inl (fun _ => 0))), ((am 15), .inl (G.2.2 0, 440, .inl (fun _ => 0))), ((am 16), .inl (G.2.2 0, 4, .inl (fun _ => 0))), ((am 17), .inl (G.2.2 0, 4, .inl (fun _ => 0))), ((am 18), .inl (G.2.2 3, 4, .inl (fun _ => 0)))] H := hP
      have hD : va_D A [(h0, .inr (12, [.ref (am 0), .int 0, .int 0, .ref (am 1), .ref (am 2), .ref (am 3), .ref (am 4), .ref (am 5), .int 0, .int 0, .int 0, .int 0, .int 0, .int 0, .int 0, .ref (am 6), .int 0, .ref (am 7), .int 0, .ref (am 8), .ref (am 9), .int (-1), .int 0, .int 0, .int (-1), .int 0, .ref (am 10), .int 0, .ref (am 11), .ref (am 12), .ref (am 13), .ref (am 14), .long 0, .ref (am 15), .ref (am 16), .ref (am 17), .ref (am 18)])), ((am 9), .inl (G.2.2 0, 110, .inl (fun _ => 0))), ((am 15), .inl (G.2.2 0, 440, .inl (fun _ => 0))), ((am 16), .inl (G.2.2 0, 4, .inl (fun _ => 0))), ((am 17), .inl (G.2.2 0, 4, .inl (fun _ => 0))), ((am 18), .inl (G.2.2 3, 4, .inl (fun _ => 0)))] := hD
      rw [show (mi_in 1 0 3) = 1 by decide +kernel]
      refine lv_if_ne (tgt := 14) hx hb dX12_image_9 (by decide) (fun _ => ?_) (fun c0 => absurd c0 (by decide +kernel))
      refine lv_aload_n hx hb dX12_image_14 rfl (lv_at hl 0 rfl) ?_
      refine gq_get hx hb ht hown hK hP i_X12 0 rfl rfl 36 (by decide) wd_1288 rfl rfl dX12_image_15 ?_
      refine lv_iload_n hx hb dX12_image_18 rfl (lv_at hl 1 rfl) ?_
      refine lv_iconst (v := 1) hx hb dX12_image_19 (by decide) ?_
      obtain ⟨f_5, ef_5⟩ : ∃ z : Nat → Int32, upd (fun _ => 0) (Int32.toNatClampNeg 1) (vp_nar .boolean 1) = z := ⟨_, rfl⟩
      refine gq_zast (ws' := [(h0, .inr (12, [.ref (am 0), .int 0, .int 0, .ref (am 1), .ref (am 2), .ref (am 3), .ref (am 4), .ref (am 5), .int 0, .int 0, .int 0, .int 0, .int 0, .int 0, .int 0, .ref (am 6), .int 0, .ref (am 7), .int 0, .ref (am 8), .ref (am 9), .int (-1), .int 0, .int 0, .int (-1), .int 0, .ref (am 10), .int 0, .ref (am 11), .ref (am 12), .ref (am 13), .ref (am 14), .long 0, .ref (am 15), .ref (am 16), .ref (am 17), .ref (am 18)])), ((am 9), .inl (G.2.2 0, 110, .inl (fun _ => 0))), ((am 15), .inl (G.2.2 0, 440, .inl (fun _ => 0))), ((am 16), .inl (G.2.2 0, 4, .inl (fun _ => 0))), ((am 17), .inl (G.2.2 0, 4, .inl (fun _ => 0))), ((am 18), .inl (G.2.2 3, 4, .inl f_5))]) hx hb hK hP hD hS 5 rfl f_5 (by unfold vp_in; decide +kernel) ef_5 rfl dX12_image_20 (fun H locs hP hD hS => ?_)
      refine lv_aload_n hx hb dX12_image_21 rfl (lv_at hl 0 rfl) ?_
      refine gq_get hx hb ht hown hK hP i_X12 0 rfl rfl 34 (by decide) wd_1286 rfl rfl dX12_image_22 ?_
      refine lv_iload_n hx hb dX12_image_25 rfl (lv_at hl 1 rfl) ?_
      refine lv_aload_n hx hb dX12_image_26 rfl (lv_at hl 0 rfl) ?_
      refine gq_get hx hb ht hown hK hP i_X12 0 rfl rfl 21 (by decide) wd_1273 rfl rfl dX12_image_27 ?_
      obtain ⟨f_6, ef_6⟩ : ∃ z : Nat → Int32, upd (fun _ => 0) (Int32.toNatClampNeg 1) (-1) = z := ⟨_, rfl⟩
      refine gq_iast (ws' := [(h0, .inr (12, [.ref (am 0), .int 0, .int 0, .ref (am 1), .ref (am 2), .ref (am 3), .ref (am 4), .ref (am 5), .int 0, .int 0, .int 0, .int 0, .int 0, .int 0, .int 0, .ref (am 6), .int 0, .ref (am 7), .int 0, .ref (am 8), .ref (am 9), .int (-1), .int 0, .int 0, .int (-1), .int 0, .ref (am 10), .int 0, .ref (am 11), .ref (am 12), .ref (am 13), .ref (am 14), .long 0, .ref (am 15), .ref (am 16), .ref (am 17), .ref (am 18)])), ((am 9), .inl (G.2.2 0, 110, .inl (fun _ => 0))), ((am 15), .inl (G.2.2 0, 440, .inl (fun _ => 0))), ((am 16), .inl (G.2.2 0, 4, .inl f_6)), ((am 17), .inl (G.2.2 0, 4, .inl (fun _ => 0))), ((am 18), .inl (G.2.2 3, 4, .inl f_5))]) hx hb hK hP hD hS 3 rfl f_6 (by unfold vp_in; decide +kernel) ef_6 rfl dX12_image_30 (fun H locs hP hD hS => ?_)
      refine lv_aload_n hx hb dX12_image_31 rfl (lv_at hl 0 rfl) ?_
      refine gq_get hx hb ht hown hK hP i_X12 0 rfl rfl 35 (by decide) wd_1287 rfl rfl dX12_image_32 ?_
      refine lv_iload_n hx hb dX12_image_35 rfl (lv_at hl 1 rfl) ?_
      refine lv_aload_n hx hb dX12_image_36 rfl (lv_at hl 0 rfl) ?_
      refine gq_get hx hb ht hown hK hP i_X12 0 rfl rfl 22 (by decide) wd_1274 rfl rfl dX12_image_37 ?_
      refine gq_iast (ws' := [(h0, .inr (12, [.ref (am 0), .int 0, .int 0, .ref (am 1), .ref (am 2), .ref (am 3), .ref (am 4), .ref (am 5), .int 0, .int 0, .int 0, .int 0, .int 0, .int 0, .int 0, .ref (am 6), .int 0, .ref (am 7), .int 0, .ref (am 8), .ref (am 9), .int (-1), .int 0, .int 0, .int (-1), .int 0, .ref (am 10), .int 0, .ref (am 11), .ref (am 12), .ref (am 13), .ref (am 14), .long 0, .ref (am 15), .ref (am 16), .ref (am 17), .ref (am 18)])), ((am 9), .inl (G.2.2 0, 110, .inl (fun _ => 0))), ((am 15), .inl (G.2.2 0, 440, .inl (fun _ => 0))), ((am 16), .inl (G.2.2 0, 4, .inl f_6)), ((am 17), .inl (G.2.2 0, 4, .inl (fun _ => 0))), ((am 18), .inl (G.2.2 3, 4, .inl f_5))]) hx hb hK hP hD hS 4 rfl (fun _ => 0) (by unfold vp_in; decide +kernel) (up_z _ _) rfl dX12_image_40 (fun H locs hP hD hS => ?_)
      refine lv_iconst (v := 0) hx hb dX12_image_41 (by decide) ?_
      refine lv_istore_n (lv' := [(2, .int 0), (0, .ref h0), (1, .int 1)]) hx hb dX12_image_42 rfl hl (by decide) rfl (fun ls hl => ?_)
      refine lp_cnt (ws := [(h0, .inr (12, [.ref (am 0), .int 0, .int 0, .ref (am 1), .ref (am 2), .ref (am 3), .ref (am 4), .ref (am 5), .int 0, .int 0, .int 0, .int 0, .int 0, .int 0, .int 0, .ref (am 6), .int 0, .ref (am 7), .int 0, .ref (am 8), .ref (am 9), .int (-1), .int 0, .int 0, .int (-1), .int 0, .ref (am 10), .int 0, .ref (am 11), .ref (am 12), .ref (am 13), .ref (am 14), .long 0, .ref (am 15), .ref (am 16), .ref (am 17), .ref (am 18)])), ((am 9), .inl (G.2.2 0, 110, .inl (fun _ => 0))), ((am 15), .inl (G.2.2 0, 440, .inl (fun _ => 0))), ((am 16), .inl (G.2.2 0, 4, .inl f_6)), ((am 17), .inl (G.2.2 0, 4, .inl (fun _ => 0))), ((am 18), .inl (G.2.2 3, 4, .inl f_5))]) (nL := 3) 110 (fun z => [(2, .int z), (0, .ref h0), (1, .int 1)]) (fun H locs ls hP hD hS hl => ?_) (fun i hi_ H locs ls hP hD hS hl ih => ?_) 0 (Nat.zero_le _) _ _ ls hP hD hS hl
      · have hl : lv_has ls 3 [(2, .int 110), (0, .ref h0), (1, .int 1)] := hl
        refine lv_iload_n hx hb dX12_image_43 rfl (lv_at hl 0 rfl) ?_
        refine lv_bipush (v := 110) hx hb dX12_image_44 (by decide +kernel) ?_
        refine lv_icmp_ge (tgt := 72) hx hb dX12_image_46 (by decide) (fun _ => ?_) (fun c0 => absurd (by decide +kernel) c0)
        refine lv_aload_n hx hb dX12_image_72 rfl (lv_at hl 1 rfl) ?_
        refine gq_get hx hb ht hown hK hP i_X12 0 rfl rfl 20 (by decide) wd_1272 rfl rfl dX12_image_73 ?_
        refine lv_bipush (v := 10) hx hb dX12_image_76 (by decide +kernel) ?_
        refine gq_iald hx hb hK hP 1 rfl 0 (by unfold vp_in; decide +kernel) rfl dX12_image_78 ?_
        have hP9 := hP.sub (ws' := []) [] rfl
        have hD9 := hD.sub (ws' := []) [] (by decide) rfl
        exact W.iret (v := 0) hx hb hr (gq_endI () (by decide +kernel) hP9 hD9 hS) hS.2.2 dX12_image_79
      · have hl : lv_has ls 3 [(2, .int (nI i)), (0, .ref h0), (1, .int 1)] := hl
        refine lv_iload_n hx hb dX12_image_43 rfl (lv_at hl 0 rfl) ?_
        refine lv_bipush (v := 110) hx hb dX12_image_44 (by decide +kernel) ?_
        refine lv_icmp_ge (tgt := 72) hx hb dX12_image_46 (by decide) (fun c0 => absurd c0 (nI_ge hi_ (by decide))) (fun _ => ?_)
        refine lv_aload_n hx hb dX12_image_49 rfl (lv_at hl 1 rfl) ?_
        refine gq_get hx hb ht hown hK hP i_X12 0 rfl rfl 33 (by decide) wd_1285 rfl rfl dX12_image_50 ?_
        refine lv_bipush (v := 110) hx hb dX12_image_53 (by decide +kernel) ?_
        refine lv_iload_n hx hb dX12_image_55 rfl (lv_at hl 2 rfl) ?_
        refine gq_imul hx hb 110 (by decide +kernel) dX12_image_56 ?_
        refine lv_iload_n hx hb dX12_image_57 rfl (lv_at hl 0 rfl) ?_
        refine gq_iadd hx hb (nI (110 + i)) (nI_add 110 i) dX12_image_58 ?_
        refine lv_aload_n hx hb dX12_image_59 rfl (lv_at hl 1 rfl) ?_
        refine gq_get hx hb ht hown hK hP i_X12 0 rfl rfl 20 (by decide) wd_1272 rfl rfl dX12_image_60 ?_
        refine lv_iload_n hx hb dX12_image_63 rfl (lv_at hl 0 rfl) ?_
        refine gq_iald hx hb hK hP 1 rfl 0 (vp_in_nI (by omega) (by decide)) rfl dX12_image_64 ?_
        refine gq_iast (ws' := [(h0, .inr (12, [.ref (am 0), .int 0, .int 0, .ref (am 1), .ref (am 2), .ref (am 3), .ref (am 4), .ref (am 5), .int 0, .int 0, .int 0, .int 0, .int 0, .int 0, .int 0, .ref (am 6), .int 0, .ref (am 7), .int 0, .ref (am 8), .ref (am 9), .int (-1), .int 0, .int 0, .int (-1), .int 0, .ref (am 10), .int 0, .ref (am 11), .ref (am 12), .ref (am 13), .ref (am 14), .long 0, .ref (am 15), .ref (am 16), .ref (am 17), .ref (am 18)])), ((am 9), .inl (G.2.2 0, 110, .inl (fun _ => 0))), ((am 15), .inl (G.2.2 0, 440, .inl (fun _ => 0))), ((am 16), .inl (G.2.2 0, 4, .inl f_6)), ((am 17), .inl (G.2.2 0, 4, .inl (fun _ => 0))), ((am 18), .inl (G.2.2 3, 4, .inl f_5))]) hx hb hK hP hD hS 2 rfl (fun _ => 0) (vp_in_nI (by omega) (by decide)) (up_z _ _) rfl dX12_image_65 (fun H locs hP hD hS => ?_)
        refine lv_iinc (v := (nI (i + 1))) (lv' := [(2, .int (nI (i + 1))), (0, .ref h0), (1, .int 1)]) hx hb dX12_image_66 hl (k := 0) rfl (nI_1 i) (by decide) rfl (fun ls hl => ?_)
        refine lv_goto (tgt := 43) hx hb dX12_image_69 (by decide) ?_
        exact ih H locs ls hP hD hS (lv_sub hl [0, 1, 2] rfl)
    · by_cases c_7 : n = 2
      · subst c_7
        refine lv_iload_n hx hb dX12_image_0 rfl (lv_at hl 1 rfl) ?_
        refine lv_i2l (v := 2) hx hb dX12_image_1 (by decide +kernel) ?_
        refine lv_lconst (v := 0) hx hb dX12_image_2 (by decide +kernel) ?_
        refine lv_ldc2 hx hb hown (ht _ wd_1868) dX12_image_3 ?_
        have hPc := hP.sub (ws' := []) [] rfl
        have hDc := hD.sub (ws' := []) [] (by decide) rfl
        refine gq_callI (wr := [(h0, .inr (12, [.ref (am 0), .int 0, .int 0, .ref (am 1), .ref (am 2), .ref (am 3), .ref (am 4), .ref (am 5), .int 0, .int 0, .int 0, .int 0, .int 0, .int 0, .int 0, .ref (am 6), .int 0, .ref (am 7), .int 0, .ref (am 8), .ref (am 9), .int (-1), .int 0, .int 0, .int (-1), .int 0, .ref (am 10), .int 0, .ref (am 11), .ref (am 12), .ref (am 13), .ref (am 14), .long 0, .ref (am 15), .ref (am 16), .ref (am 17), .ref (am 18)])), ((am 9), .inl (G.2.2 0, 110, .inl (fun _ => 0))), ((am 15), .inl (G.2.2 0, 440, .inl (fun _ => 0))), ((am 16), .inl (G.2.2 0, 4, .inl (fun _ => 0))), ((am 17), .inl (G.2.2 0, 4, .inl (fun _ => 0))), ((am 18), .inl (G.2.2 3, 4, .inl (fun _ => 0)))]) (va_runS (As := [.long 2, .long 0, .long 3]) (rest := []) ⟨hx, hb, hml, hown, ht⟩ (c_M_in l G s.heap.size 2 0 3) (va_cwS 3 ht (ts_gS wd_1439 wd_1440 wd_134 wd_1441) rfl rfl rfl (by decide +kernel) ⟨Nat.le_of_ble_eq_true rfl, Nat.le_of_ble_eq_true rfl⟩) (gc_preS hK hPc hDc) rfl rfl hl.1 rfl (lv_room (Nat.le_of_ble_eq_true rfl)) dX12_image_6 ⟨Nat.le_of_ble_eq_true rfl, Nat.le_of_ble_eq_true rfl⟩) hP hD hS hA [] [0, 1, 2, 3, 4, 5] rfl rfl (by decide) (by decide) (fun r u H locs hw hP hD hS => ?_)
        have hw : r = (mi_in 2 0 3) := hw
        subst hw
        have hP : va_P (gg_D G) classes [(h0, .inr (12, [.ref (am 0), .int 0, .int 0, .ref (am 1), .ref (am 2), .ref (am 3), .ref (am 4), .ref (am 5), .int 0, .int 0, .int 0, .int 0, .int 0, .int 0, .int 0, .ref (am 6), .int 0, .ref (am 7), .int 0, .ref (am 8), .ref (am 9), .int (-1), .int 0, .int 0, .int (-1), .int 0, .ref (am 10), .int 0, .ref (am 11), .ref (am 12), .ref (am 13), .ref (am 14), .long 0, .ref (am 15), .ref (am 16), .ref (am 17), .ref (am 18)])), ((am 9), .inl (G.2.2 0, 110, .inl (fun _ => 0))), ((am 15), .inl (G.2.2 0, 440, .inl (fun _ => 0))), ((am 16), .inl (G.2.2 0, 4, .inl (fun _ => 0))), ((am 17), .inl (G.2.2 0, 4, .inl (fun _ => 0))), ((am 18), .inl (G.2.2 3, 4, .inl (fun _ => 0)))] H := hP
        have hD : va_D A [(h0, .inr (12, [.ref (am 0), .int 0, .int 0, .ref (am 1), .ref (am 2), .ref (am 3), .ref (am 4), .ref (am 5), .int 0, .int 0, .int 0, .int 0, .int 0, .int 0, .int 0, .ref (am 6), .int 0, .ref (am 7), .int 0, .ref (am 8), .ref (am 9), .int (-1), .int 0, .int 0, .int (-1), .int 0, .ref (am 10), .int 0, .ref (am 11), .ref (am 12), .ref (am 13), .ref (am 14), .long 0, .ref (am 15), .ref (am 16), .ref (am 17), .ref (am 18)])), ((am 9), .inl (G.2.2 0, 110, .inl (fun _ => 0))), ((am 15), .inl (G.2.2 0, 440, .inl (fun _ => 0))), ((am 16), .inl (G.2.2 0, 4, .inl (fun _ => 0))), ((am 17), .inl (G.2.2 0, 4, .inl (fun _ => 0))), ((am 18), .inl (G.2.2 3, 4, .inl (fun _ => 0)))] := hD
        rw [show (mi_in 2 0 3) = 1 by decide +kernel]
        refine lv_if_ne (tgt := 14) hx hb dX12_image_9 (by decide) (fun _ => ?_) (fun c0 => absurd c0 (by decide +kernel))
        refine lv_aload_n hx hb dX12_image_14 rfl (lv_at hl 0 rfl) ?_
        refine gq_get hx hb ht hown hK hP i_X12 0 rfl rfl 36 (by decide) wd_1288 rfl rfl dX12_image_15 ?_
        refine lv_iload_n hx hb dX12_image_18 rfl (lv_at hl 1 rfl) ?_
        refine lv_iconst (v := 1) hx hb dX12_image_19 (by decide) ?_
        obtain ⟨f_8, ef_8⟩ : ∃ z : Nat → Int32, upd (fun _ => 0) (Int32.toNatClampNeg 2) (vp_nar .boolean 1) = z := ⟨_, rfl⟩
        refine gq_zast (ws' := [(h0, .inr (12, [.ref (am 0), .int 0, .int 0, .ref (am 1), .ref (am 2), .ref (am 3), .ref (am 4), .ref (am 5), .int 0, .int 0, .int 0, .int 0, .int 0, .int 0, .int 0, .ref (am 6), .int 0, .ref (am 7), .int 0, .ref (am 8), .ref (am 9), .int (-1), .int 0, .int 0, .int (-1), .int 0, .ref (am 10), .int 0, .ref (am 11), .ref (am 12), .ref (am 13), .ref (am 14), .long 0, .ref (am 15), .ref (am 16), .ref (am 17), .ref (am 18)])), ((am 9), .inl (G.2.2 0, 110, .inl (fun _ => 0))), ((am 15), .inl (G.2.2 0, 440, .inl (fun _ => 0))), ((am 16), .inl (G.2.2 0, 4, .inl (fun _ => 0))), ((am 17), .inl (G.2.2 0, 4, .inl (fun _ => 0))), ((am 18), .inl (G.2.2 3, 4, .inl f_8))]) hx hb hK hP hD hS 5 rfl f_8 (by unfold vp_in; decide +kernel) ef_8 rfl dX12_image_20 (fun H locs hP hD hS => ?_)
        refine lv_aload_n hx hb dX12_image_21 rfl (lv_at hl 0 rfl) ?_
        refine gq_get hx hb ht hown hK hP i_X12 0 rfl rfl 34 (by decide) wd_1286 rfl rfl dX12_image_22 ?_
        refine lv_iload_n hx hb dX12_image_25 rfl (lv_at hl 1 rfl) ?_
        refine lv_aload_n hx hb dX12_image_26 rfl (lv_at hl 0 rfl) ?_
        refine gq_get hx hb ht hown hK hP i_X12 0 rfl rfl 21 (by decide) wd_1273 rfl rfl dX12_image_27 ?_
        obtain ⟨f_9, ef_9⟩ : ∃ z : Nat → Int32, upd (fun _ => 0) (Int32.toNatClampNeg 2) (-1) = z := ⟨_, rfl⟩
        refine gq_iast (ws' := [(h0, .inr (12, [.ref (am 0), .int 0, .int 0, .ref (am 1), .ref (am 2), .ref (am 3), .ref (am 4), .ref (am 5), .int 0, .int 0, .int 0, .int 0, .int 0, .int 0, .int 0, .ref (am 6), .int 0, .ref (am 7), .int 0, .ref (am 8), .ref (am 9), .int (-1), .int 0, .int 0, .int (-1), .int 0, .ref (am 10), .int 0, .ref (am 11), .ref (am 12), .ref (am 13), .ref (am 14), .long 0, .ref (am 15), .ref (am 16), .ref (am 17), .ref (am 18)])), ((am 9), .inl (G.2.2 0, 110, .inl (fun _ => 0))), ((am 15), .inl (G.2.2 0, 440, .inl (fun _ => 0))), ((am 16), .inl (G.2.2 0, 4, .inl f_9)), ((am 17), .inl (G.2.2 0, 4, .inl (fun _ => 0))), ((am 18), .inl (G.2.2 3, 4, .inl f_8))]) hx hb hK hP hD hS 3 rfl f_9 (by unfold vp_in; decide +kernel) ef_9 rfl dX12_image_30 (fun H locs hP hD hS => ?_)
        refine lv_aload_n hx hb dX12_image_31 rfl (lv_at hl 0 rfl) ?_
        refine gq_get hx hb ht hown hK hP i_X12 0 rfl rfl 35 (by decide) wd_1287 rfl rfl dX12_image_32 ?_
        refine lv_iload_n hx hb dX12_image_35 rfl (lv_at hl 1 rfl) ?_
        refine lv_aload_n hx hb dX12_image_36 rfl (lv_at hl 0 rfl) ?_
        refine gq_get hx hb ht hown hK hP i_X12 0 rfl rfl 22 (by decide) wd_1274 rfl rfl dX12_image_37 ?_
        refine gq_iast (ws' := [(h0, .inr (12, [.ref (am 0), .int 0, .int 0, .ref (am 1), .ref (am 2), .ref (am 3), .ref (am 4), .ref (am 5), .int 0, .int 0, .int 0, .int 0, .int 0, .int 0, .int 0, .ref (am 6), .int 0, .ref (am 7), .int 0, .ref (am 8), .ref (am 9), .int (-1), .int 0, .int 0, .int (-1), .int 0, .ref (am 10), .int 0, .ref (am 11), .ref (am 12), .ref (am 13), .ref (am 14), .long 0, .ref (am 15), .ref (am 16), .ref (am 17), .ref (am 18)])), ((am 9), .inl (G.2.2 0, 110, .inl (fun _ => 0))), ((am 15), .inl (G.2.2 0, 440, .inl (fun _ => 0))), ((am 16), .inl (G.2.2 0, 4, .inl f_9)), ((am 17), .inl (G.2.2 0, 4, .inl (fun _ => 0))), ((am 18), .inl (G.2.2 3, 4, .inl f_8))]) hx hb hK hP hD hS 4 rfl (fun _ => 0) (by unfold vp_in; decide +kernel) (up_z _ _) rfl dX12_image_40 (fun H locs hP hD hS => ?_)
        refine lv_iconst (v := 0) hx hb dX12_image_41 (by decide) ?_
        refine lv_istore_n (lv' := [(2, .int 0), (0, .ref h0), (1, .int 2)]) hx hb dX12_image_42 rfl hl (by decide) rfl (fun ls hl => ?_)
        refine lp_cnt (ws := [(h0, .inr (12, [.ref (am 0), .int 0, .int 0, .ref (am 1), .ref (am 2), .ref (am 3), .ref (am 4), .ref (am 5), .int 0, .int 0, .int 0, .int 0, .int 0, .int 0, .int 0, .ref (am 6), .int 0, .ref (am 7), .int 0, .ref (am 8), .ref (am 9), .int (-1), .int 0, .int 0, .int (-1), .int 0, .ref (am 10), .int 0, .ref (am 11), .ref (am 12), .ref (am 13), .ref (am 14), .long 0, .ref (am 15), .ref (am 16), .ref (am 17), .ref (am 18)])), ((am 9), .inl (G.2.2 0, 110, .inl (fun _ => 0))), ((am 15), .inl (G.2.2 0, 440, .inl (fun _ => 0))), ((am 16), .inl (G.2.2 0, 4, .inl f_9)), ((am 17), .inl (G.2.2 0, 4, .inl (fun _ => 0))), ((am 18), .inl (G.2.2 3, 4, .inl f_8))]) (nL := 3) 110 (fun z => [(2, .int z), (0, .ref h0), (1, .int 2)]) (fun H locs ls hP hD hS hl => ?_) (fun i hi_ H locs ls hP hD hS hl ih => ?_) 0 (Nat.zero_le _) _ _ ls hP hD hS hl
        · have hl : lv_has ls 3 [(2, .int 110), (0, .ref h0), (1, .int 2)] := hl
          refine lv_iload_n hx hb dX12_image_43 rfl (lv_at hl 0 rfl) ?_
          refine lv_bipush (v := 110) hx hb dX12_image_44 (by decide +kernel) ?_
          refine lv_icmp_ge (tgt := 72) hx hb dX12_image_46 (by decide) (fun _ => ?_) (fun c0 => absurd (by decide +kernel) c0)
          refine lv_aload_n hx hb dX12_image_72 rfl (lv_at hl 1 rfl) ?_
          refine gq_get hx hb ht hown hK hP i_X12 0 rfl rfl 20 (by decide) wd_1272 rfl rfl dX12_image_73 ?_
          refine lv_bipush (v := 10) hx hb dX12_image_76 (by decide +kernel) ?_
          refine gq_iald hx hb hK hP 1 rfl 0 (by unfold vp_in; decide +kernel) rfl dX12_image_78 ?_
          have hP9 := hP.sub (ws' := []) [] rfl
          have hD9 := hD.sub (ws' := []) [] (by decide) rfl
          exact W.iret (v := 0) hx hb hr (gq_endI () (by decide +kernel) hP9 hD9 hS) hS.2.2 dX12_image_79
        · have hl : lv_has ls 3 [(2, .int (nI i)), (0, .ref h0), (1, .int 2)] := hl
          refine lv_iload_n hx hb dX12_image_43 rfl (lv_at hl 0 rfl) ?_
          refine lv_bipush (v := 110) hx hb dX12_image_44 (by decide +kernel) ?_
          refine lv_icmp_ge (tgt := 72) hx hb dX12_image_46 (by decide) (fun c0 => absurd c0 (nI_ge hi_ (by decide))) (fun _ => ?_)
          refine lv_aload_n hx hb dX12_image_49 rfl (lv_at hl 1 rfl) ?_
          refine gq_get hx hb ht hown hK hP i_X12 0 rfl rfl 33 (by decide) wd_1285 rfl rfl dX12_image_50 ?_
          refine lv_bipush (v := 110) hx hb dX12_image_53 (by decide +kernel) ?_
          refine lv_iload_n hx hb dX12_image_55 rfl (lv_at hl 2 rfl) ?_
          refine gq_imul hx hb 220 (by decide +kernel) dX12_image_56 ?_
          refine lv_iload_n hx hb dX12_image_57 rfl (lv_at hl 0 rfl) ?_
          refine gq_iadd hx hb (nI (220 + i)) (nI_add 220 i) dX12_image_58 ?_
          refine lv_aload_n hx hb dX12_image_59 rfl (lv_at hl 1 rfl) ?_
          refine gq_get hx hb ht hown hK hP i_X12 0 rfl rfl 20 (by decide) wd_1272 rfl rfl dX12_image_60 ?_
          refine lv_iload_n hx hb dX12_image_63 rfl (lv_at hl 0 rfl) ?_
          refine gq_iald hx hb hK hP 1 rfl 0 (vp_in_nI (by omega) (by decide)) rfl dX12_image_64 ?_
          refine gq_iast (ws' := [(h0, .inr (12, [.ref (am 0), .int 0, .int 0, .ref (am 1), .ref (am 2), .ref (am 3), .ref (am 4), .ref (am 5), .int 0, .int 0, .int 0, .int 0, .int 0, .int 0, .int 0, .ref (am 6), .int 0, .ref (am 7), .int 0, .ref (am 8), .ref (am 9), .int (-1), .int 0, .int 0, .int (-1), .int 0, .ref (am 10), .int 0, .ref (am 11), .ref (am 12), .ref (am 13), .ref (am 14), .long 0, .ref (am 15), .ref (am 16), .ref (am 17), .ref (am 18)])), ((am 9), .inl (G.2.2 0, 110, .inl (fun _ => 0))), ((am 15), .inl (G.2.2 0, 440, .inl (fun _ => 0))), ((am 16), .inl (G.2.2 0, 4, .inl f_9)), ((am 17), .inl (G.2.2 0, 4, .inl (fun _ => 0))), ((am 18), .inl (G.2.2 3, 4, .inl f_8))]) hx hb hK hP hD hS 2 rfl (fun _ => 0) (vp_in_nI (by omega) (by decide)) (up_z _ _) rfl dX12_image_65 (fun H locs hP hD hS => ?_)
          refine lv_iinc (v := (nI (i + 1))) (lv' := [(2, .int (nI (i + 1))), (0, .ref h0), (1, .int 2)]) hx hb dX12_image_66 hl (k := 0) rfl (nI_1 i) (by decide) rfl (fun ls hl => ?_)
          refine lv_goto (tgt := 43) hx hb dX12_image_69 (by decide) ?_
          exact ih H locs ls hP hD hS (lv_sub hl [0, 1, 2] rfl)
      · by_cases c_10 : n = 3
        · subst c_10
          refine lv_iload_n hx hb dX12_image_0 rfl (lv_at hl 1 rfl) ?_
          refine lv_i2l (v := 3) hx hb dX12_image_1 (by decide +kernel) ?_
          refine lv_lconst (v := 0) hx hb dX12_image_2 (by decide +kernel) ?_
          refine lv_ldc2 hx hb hown (ht _ wd_1868) dX12_image_3 ?_
          have hPc := hP.sub (ws' := []) [] rfl
          have hDc := hD.sub (ws' := []) [] (by decide) rfl
          refine gq_callI (wr := [(h0, .inr (12, [.ref (am 0), .int 0, .int 0, .ref (am 1), .ref (am 2), .ref (am 3), .ref (am 4), .ref (am 5), .int 0, .int 0, .int 0, .int 0, .int 0, .int 0, .int 0, .ref (am 6), .int 0, .ref (am 7), .int 0, .ref (am 8), .ref (am 9), .int (-1), .int 0, .int 0, .int (-1), .int 0, .ref (am 10), .int 0, .ref (am 11), .ref (am 12), .ref (am 13), .ref (am 14), .long 0, .ref (am 15), .ref (am 16), .ref (am 17), .ref (am 18)])), ((am 9), .inl (G.2.2 0, 110, .inl (fun _ => 0))), ((am 15), .inl (G.2.2 0, 440, .inl (fun _ => 0))), ((am 16), .inl (G.2.2 0, 4, .inl (fun _ => 0))), ((am 17), .inl (G.2.2 0, 4, .inl (fun _ => 0))), ((am 18), .inl (G.2.2 3, 4, .inl (fun _ => 0)))]) (va_runS (As := [.long 3, .long 0, .long 3]) (rest := []) ⟨hx, hb, hml, hown, ht⟩ (c_M_in l G s.heap.size 3 0 3) (va_cwS 3 ht (ts_gS wd_1439 wd_1440 wd_134 wd_1441) rfl rfl rfl (by decide +kernel) ⟨Nat.le_of_ble_eq_true rfl, Nat.le_of_ble_eq_true rfl⟩) (gc_preS hK hPc hDc) rfl rfl hl.1 rfl (lv_room (Nat.le_of_ble_eq_true rfl)) dX12_image_6 ⟨Nat.le_of_ble_eq_true rfl, Nat.le_of_ble_eq_true rfl⟩) hP hD hS hA [] [0, 1, 2, 3, 4, 5] rfl rfl (by decide) (by decide) (fun r u H locs hw hP hD hS => ?_)
          have hw : r = (mi_in 3 0 3) := hw
          subst hw
          have hP : va_P (gg_D G) classes [(h0, .inr (12, [.ref (am 0), .int 0, .int 0, .ref (am 1), .ref (am 2), .ref (am 3), .ref (am 4), .ref (am 5), .int 0, .int 0, .int 0, .int 0, .int 0, .int 0, .int 0, .ref (am 6), .int 0, .ref (am 7), .int 0, .ref (am 8), .ref (am 9), .int (-1), .int 0, .int 0, .int (-1), .int 0, .ref (am 10), .int 0, .ref (am 11), .ref (am 12), .ref (am 13), .ref (am 14), .long 0, .ref (am 15), .ref (am 16), .ref (am 17), .ref (am 18)])), ((am 9), .inl (G.2.2 0, 110, .inl (fun _ => 0))), ((am 15), .inl (G.2.2 0, 440, .inl (fun _ => 0))), ((am 16), .inl (G.2.2 0, 4, .inl (fun _ => 0))), ((am 17), .inl (G.2.2 0, 4, .inl (fun _ => 0))), ((am 18), .inl (G.2.2 3, 4, .inl (fun _ => 0)))] H := hP
          have hD : va_D A [(h0, .inr (12, [.ref (am 0), .int 0, .int 0, .ref (am 1), .ref (am 2), .ref (am 3), .ref (am 4), .ref (am 5), .int 0, .int 0, .int 0, .int 0, .int 0, .int 0, .int 0, .ref (am 6), .int 0, .ref (am 7), .int 0, .ref (am 8), .ref (am 9), .int (-1), .int 0, .int 0, .int (-1), .int 0, .ref (am 10), .int 0, .ref (am 11), .ref (am 12), .ref (am 13), .ref (am 14), .long 0, .ref (am 15), .ref (am 16), .ref (am 17), .ref (am 18)])), ((am 9), .inl (G.2.2 0, 110, .inl (fun _ => 0))), ((am 15), .inl (G.2.2 0, 440, .inl (fun _ => 0))), ((am 16), .inl (G.2.2 0, 4, .inl (fun _ => 0))), ((am 17), .inl (G.2.2 0, 4, .inl (fun _ => 0))), ((am 18), .inl (G.2.2 3, 4, .inl (fun _ => 0)))] := hD
          rw [show (mi_in 3 0 3) = 1 by decide +kernel]
          refine lv_if_ne (tgt := 14) hx hb dX12_image_9 (by decide) (fun _ => ?_) (fun c0 => absurd c0 (by decide +kernel))
          refine lv_aload_n hx hb dX12_image_14 rfl (lv_at hl 0 rfl) ?_
          refine gq_get hx hb ht hown hK hP i_X12 0 rfl rfl 36 (by decide) wd_1288 rfl rfl dX12_image_15 ?_
          refine lv_iload_n hx hb dX12_image_18 rfl (lv_at hl 1 rfl) ?_
          refine lv_iconst (v := 1) hx hb dX12_image_19 (by decide) ?_
          obtain ⟨f_11, ef_11⟩ : ∃ z : Nat → Int32, upd (fun _ => 0) (Int32.toNatClampNeg 3) (vp_nar .boolean 1) = z := ⟨_, rfl⟩
          refine gq_zast (ws' := [(h0, .inr (12, [.ref (am 0), .int 0, .int 0, .ref (am 1), .ref (am 2), .ref (am 3), .ref (am 4), .ref (am 5), .int 0, .int 0, .int 0, .int 0, .int 0, .int 0, .int 0, .ref (am 6), .int 0, .ref (am 7), .int 0, .ref (am 8), .ref (am 9), .int (-1), .int 0, .int 0, .int (-1), .int 0, .ref (am 10), .int 0, .ref (am 11), .ref (am 12), .ref (am 13), .ref (am 14), .long 0, .ref (am 15), .ref (am 16), .ref (am 17), .ref (am 18)])), ((am 9), .inl (G.2.2 0, 110, .inl (fun _ => 0))), ((am 15), .inl (G.2.2 0, 440, .inl (fun _ => 0))), ((am 16), .inl (G.2.2 0, 4, .inl (fun _ => 0))), ((am 17), .inl (G.2.2 0, 4, .inl (fun _ => 0))), ((am 18), .inl (G.2.2 3, 4, .inl f_11))]) hx hb hK hP hD hS 5 rfl f_11 (by unfold vp_in; decide +kernel) ef_11 rfl dX12_image_20 (fun H locs hP hD hS => ?_)
          refine lv_aload_n hx hb dX12_image_21 rfl (lv_at hl 0 rfl) ?_
          refine gq_get hx hb ht hown hK hP i_X12 0 rfl rfl 34 (by decide) wd_1286 rfl rfl dX12_image_22 ?_
          refine lv_iload_n hx hb dX12_image_25 rfl (lv_at hl 1 rfl) ?_
          refine lv_aload_n hx hb dX12_image_26 rfl (lv_at hl 0 rfl) ?_
          refine gq_get hx hb ht hown hK hP i_X12 0 rfl rfl 21 (by decide) wd_1273 rfl rfl dX12_image_27 ?_
          obtain ⟨f_12, ef_12⟩ : ∃ z : Nat → Int32, upd (fun _ => 0) (Int32.toNatClampNeg 3) (-1) = z := ⟨_, rfl⟩
          refine gq_iast (ws' := [(h0, .inr (12, [.ref (am 0), .int 0, .int 0, .ref (am 1), .ref (am 2), .ref (am 3), .ref (am 4), .ref (am 5), .int 0, .int 0, .int 0, .int 0, .int 0, .int 0, .int 0, .ref (am 6), .int 0, .ref (am 7), .int 0, .ref (am 8), .ref (am 9), .int (-1), .int 0, .int 0, .int (-1), .int 0, .ref (am 10), .int 0, .ref (am 11), .ref (am 12), .ref (am 13), .ref (am 14), .long 0, .ref (am 15), .ref (am 16), .ref (am 17), .ref (am 18)])), ((am 9), .inl (G.2.2 0, 110, .inl (fun _ => 0))), ((am 15), .inl (G.2.2 0, 440, .inl (fun _ => 0))), ((am 16), .inl (G.2.2 0, 4, .inl f_12)), ((am 17), .inl (G.2.2 0, 4, .inl (fun _ => 0))), ((am 18), .inl (G.2.2 3, 4, .inl f_11))]) hx hb hK hP hD hS 3 rfl f_12 (by unfold vp_in; decide +kernel) ef_12 rfl dX12_image_30 (fun H locs hP hD hS => ?_)
          refine lv_aload_n hx hb dX12_image_31 rfl (lv_at hl 0 rfl) ?_
          refine gq_get hx hb ht hown hK hP i_X12 0 rfl rfl 35 (by decide) wd_1287 rfl rfl dX12_image_32 ?_
          refine lv_iload_n hx hb dX12_image_35 rfl (lv_at hl 1 rfl) ?_
          refine lv_aload_n hx hb dX12_image_36 rfl (lv_at hl 0 rfl) ?_
          refine gq_get hx hb ht hown hK hP i_X12 0 rfl rfl 22 (by decide) wd_1274 rfl rfl dX12_image_37 ?_
          refine gq_iast (ws' := [(h0, .inr (12, [.ref (am 0), .int 0, .int 0, .ref (am 1), .ref (am 2), .ref (am 3), .ref (am 4), .ref (am 5), .int 0, .int 0, .int 0, .int 0, .int 0, .int 0, .int 0, .ref (am 6), .int 0, .ref (am 7), .int 0, .ref (am 8), .ref (am 9), .int (-1), .int 0, .int 0, .int (-1), .int 0, .ref (am 10), .int 0, .ref (am 11), .ref (am 12), .ref (am 13), .ref (am 14), .long 0, .ref (am 15), .ref (am 16), .ref (am 17), .ref (am 18)])), ((am 9), .inl (G.2.2 0, 110, .inl (fun _ => 0))), ((am 15), .inl (G.2.2 0, 440, .inl (fun _ => 0))), ((am 16), .inl (G.2.2 0, 4, .inl f_12)), ((am 17), .inl (G.2.2 0, 4, .inl (fun _ => 0))), ((am 18), .inl (G.2.2 3, 4, .inl f_11))]) hx hb hK hP hD hS 4 rfl (fun _ => 0) (by unfold vp_in; decide +kernel) (up_z _ _) rfl dX12_image_40 (fun H locs hP hD hS => ?_)
          refine lv_iconst (v := 0) hx hb dX12_image_41 (by decide) ?_
          refine lv_istore_n (lv' := [(2, .int 0), (0, .ref h0), (1, .int 3)]) hx hb dX12_image_42 rfl hl (by decide) rfl (fun ls hl => ?_)
          refine lp_cnt (ws := [(h0, .inr (12, [.ref (am 0), .int 0, .int 0, .ref (am 1), .ref (am 2), .ref (am 3), .ref (am 4), .ref (am 5), .int 0, .int 0, .int 0, .int 0, .int 0, .int 0, .int 0, .ref (am 6), .int 0, .ref (am 7), .int 0, .ref (am 8), .ref (am 9), .int (-1), .int 0, .int 0, .int (-1), .int 0, .ref (am 10), .int 0, .ref (am 11), .ref (am 12), .ref (am 13), .ref (am 14), .long 0, .ref (am 15), .ref (am 16), .ref (am 17), .ref (am 18)])), ((am 9), .inl (G.2.2 0, 110, .inl (fun _ => 0))), ((am 15), .inl (G.2.2 0, 440, .inl (fun _ => 0))), ((am 16), .inl (G.2.2 0, 4, .inl f_12)), ((am 17), .inl (G.2.2 0, 4, .inl (fun _ => 0))), ((am 18), .inl (G.2.2 3, 4, .inl f_11))]) (nL := 3) 110 (fun z => [(2, .int z), (0, .ref h0), (1, .int 3)]) (fun H locs ls hP hD hS hl => ?_) (fun i hi_ H locs ls hP hD hS hl ih => ?_) 0 (Nat.zero_le _) _ _ ls hP hD hS hl
          · have hl : lv_has ls 3 [(2, .int 110), (0, .ref h0), (1, .int 3)] := hl
            refine lv_iload_n hx hb dX12_image_43 rfl (lv_at hl 0 rfl) ?_
            refine lv_bipush (v := 110) hx hb dX12_image_44 (by decide +kernel) ?_
            refine lv_icmp_ge (tgt := 72) hx hb dX12_image_46 (by decide) (fun _ => ?_) (fun c0 => absurd (by decide +kernel) c0)
            refine lv_aload_n hx hb dX12_image_72 rfl (lv_at hl 1 rfl) ?_
            refine gq_get hx hb ht hown hK hP i_X12 0 rfl rfl 20 (by decide) wd_1272 rfl rfl dX12_image_73 ?_
            refine lv_bipush (v := 10) hx hb dX12_image_76 (by decide +kernel) ?_
            refine gq_iald hx hb hK hP 1 rfl 0 (by unfold vp_in; decide +kernel) rfl dX12_image_78 ?_
            have hP9 := hP.sub (ws' := []) [] rfl
            have hD9 := hD.sub (ws' := []) [] (by decide) rfl
            exact W.iret (v := 0) hx hb hr (gq_endI () (by decide +kernel) hP9 hD9 hS) hS.2.2 dX12_image_79
          · have hl : lv_has ls 3 [(2, .int (nI i)), (0, .ref h0), (1, .int 3)] := hl
            refine lv_iload_n hx hb dX12_image_43 rfl (lv_at hl 0 rfl) ?_
            refine lv_bipush (v := 110) hx hb dX12_image_44 (by decide +kernel) ?_
            refine lv_icmp_ge (tgt := 72) hx hb dX12_image_46 (by decide) (fun c0 => absurd c0 (nI_ge hi_ (by decide))) (fun _ => ?_)
            refine lv_aload_n hx hb dX12_image_49 rfl (lv_at hl 1 rfl) ?_
            refine gq_get hx hb ht hown hK hP i_X12 0 rfl rfl 33 (by decide) wd_1285 rfl rfl dX12_image_50 ?_
            refine lv_bipush (v := 110) hx hb dX12_image_53 (by decide +kernel) ?_
            refine lv_iload_n hx hb dX12_image_55 rfl (lv_at hl 2 rfl) ?_
            refine gq_imul hx hb 330 (by decide +kernel) dX12_image_56 ?_
            refine lv_iload_n hx hb dX12_image_57 rfl (lv_at hl 0 rfl) ?_
            refine gq_iadd hx hb (nI (330 + i)) (nI_add 330 i) dX12_image_58 ?_
            refine lv_aload_n hx hb dX12_image_59 rfl (lv_at hl 1 rfl) ?_
            refine gq_get hx hb ht hown hK hP i_X12 0 rfl rfl 20 (by decide) wd_1272 rfl rfl dX12_image_60 ?_
            refine lv_iload_n hx hb dX12_image_63 rfl (lv_at hl 0 rfl) ?_
            refine gq_iald hx hb hK hP 1 rfl 0 (vp_in_nI (by omega) (by decide)) rfl dX12_image_64 ?_
            refine gq_iast (ws' := [(h0, .inr (12, [.ref (am 0), .int 0, .int 0, .ref (am 1), .ref (am 2), .ref (am 3), .ref (am 4), .ref (am 5), .int 0, .int 0, .int 0, .int 0, .int 0, .int 0, .int 0, .ref (am 6), .int 0, .ref (am 7), .int 0, .ref (am 8), .ref (am 9), .int (-1), .int 0, .int 0, .int (-1), .int 0, .ref (am 10), .int 0, .ref (am 11), .ref (am 12), .ref (am 13), .ref (am 14), .long 0, .ref (am 15), .ref (am 16), .ref (am 17), .ref (am 18)])), ((am 9), .inl (G.2.2 0, 110, .inl (fun _ => 0))), ((am 15), .inl (G.2.2 0, 440, .inl (fun _ => 0))), ((am 16), .inl (G.2.2 0, 4, .inl f_12)), ((am 17), .inl (G.2.2 0, 4, .inl (fun _ => 0))), ((am 18), .inl (G.2.2 3, 4, .inl f_11))]) hx hb hK hP hD hS 2 rfl (fun _ => 0) (vp_in_nI (by omega) (by decide)) (up_z _ _) rfl dX12_image_65 (fun H locs hP hD hS => ?_)
            refine lv_iinc (v := (nI (i + 1))) (lv' := [(2, .int (nI (i + 1))), (0, .ref h0), (1, .int 3)]) hx hb dX12_image_66 hl (k := 0) rfl (nI_1 i) (by decide) rfl (fun ls hl => ?_)
            refine lv_goto (tgt := 43) hx hb dX12_image_69 (by decide) ?_
            exact ih H locs ls hP hD hS (lv_sub hl [0, 1, 2] rfl)
        · refine lv_iload_n hx hb dX12_image_0 rfl (lv_at hl 1 rfl) ?_
          refine lv_i2l hx hb dX12_image_1 rfl ?_
          refine lv_lconst (v := 0) hx hb dX12_image_2 (by decide +kernel) ?_
          refine lv_ldc2 hx hb hown (ht _ wd_1868) dX12_image_3 ?_
          have hPc := hP.sub (ws' := []) [] rfl
          have hDc := hD.sub (ws' := []) [] (by decide) rfl
          refine gq_callI (wr := [(h0, .inr (12, [.ref (am 0), .int 0, .int 0, .ref (am 1), .ref (am 2), .ref (am 3), .ref (am 4), .ref (am 5), .int 0, .int 0, .int 0, .int 0, .int 0, .int 0, .int 0, .ref (am 6), .int 0, .ref (am 7), .int 0, .ref (am 8), .ref (am 9), .int (-1), .int 0, .int 0, .int (-1), .int 0, .ref (am 10), .int 0, .ref (am 11), .ref (am 12), .ref (am 13), .ref (am 14), .long 0, .ref (am 15), .ref (am 16), .ref (am 17), .ref (am 18)])), ((am 9), .inl (G.2.2 0, 110, .inl (fun _ => 0))), ((am 15), .inl (G.2.2 0, 440, .inl (fun _ => 0))), ((am 16), .inl (G.2.2 0, 4, .inl (fun _ => 0))), ((am 17), .inl (G.2.2 0, 4, .inl (fun _ => 0))), ((am 18), .inl (G.2.2 3, 4, .inl (fun _ => 0)))]) (va_runS (As := [.long (Int32.toInt64 n), .long 0, .long 3]) (rest := []) ⟨hx, hb, hml, hown, ht⟩ (c_M_in l G s.heap.size (Int32.toInt64 n) 0 3) (va_cwS 3 ht (ts_gS wd_1439 wd_1440 wd_134 wd_1441) rfl rfl rfl (by decide +kernel) ⟨Nat.le_of_ble_eq_true rfl, Nat.le_of_ble_eq_true rfl⟩) (gc_preS hK hPc hDc) rfl rfl hl.1 rfl (lv_room (Nat.le_of_ble_eq_true rfl)) dX12_image_6 ⟨Nat.le_of_ble_eq_true rfl, Nat.le_of_ble_eq_true rfl⟩) hP hD hS hA [] [0, 1, 2, 3, 4, 5] rfl rfl (by decide) (by decide) (fun r u H locs hw hP hD hS => ?_)
          have hw : r = (mi_in (Int32.toInt64 n) 0 3) := hw
          subst hw
          have hP : va_P (gg_D G) classes [(h0, .inr (12, [.ref (am 0), .int 0, .int 0, .ref (am 1), .ref (am 2), .ref (am 3), .ref (am 4), .ref (am 5), .int 0, .int 0, .int 0, .int 0, .int 0, .int 0, .int 0, .ref (am 6), .int 0, .ref (am 7), .int 0, .ref (am 8), .ref (am 9), .int (-1), .int 0, .int 0, .int (-1), .int 0, .ref (am 10), .int 0, .ref (am 11), .ref (am 12), .ref (am 13), .ref (am 14), .long 0, .ref (am 15), .ref (am 16), .ref (am 17), .ref (am 18)])), ((am 9), .inl (G.2.2 0, 110, .inl (fun _ => 0))), ((am 15), .inl (G.2.2 0, 440, .inl (fun _ => 0))), ((am 16), .inl (G.2.2 0, 4, .inl (fun _ => 0))), ((am 17), .inl (G.2.2 0, 4, .inl (fun _ => 0))), ((am 18), .inl (G.2.2 3, 4, .inl (fun _ => 0)))] H := hP
          have hD : va_D A [(h0, .inr (12, [.ref (am 0), .int 0, .int 0, .ref (am 1), .ref (am 2), .ref (am 3), .ref (am 4), .ref (am 5), .int 0, .int 0, .int 0, .int 0, .int 0, .int 0, .int 0, .ref (am 6), .int 0, .ref (am 7), .int 0, .ref (am 8), .ref (am 9), .int (-1), .int 0, .int 0, .int (-1), .int 0, .ref (am 10), .int 0, .ref (am 11), .ref (am 12), .ref (am 13), .ref (am 14), .long 0, .ref (am 15), .ref (am 16), .ref (am 17), .ref (am 18)])), ((am 9), .inl (G.2.2 0, 110, .inl (fun _ => 0))), ((am 15), .inl (G.2.2 0, 440, .inl (fun _ => 0))), ((am 16), .inl (G.2.2 0, 4, .inl (fun _ => 0))), ((am 17), .inl (G.2.2 0, 4, .inl (fun _ => 0))), ((am 18), .inl (G.2.2 3, 4, .inl (fun _ => 0)))] := hD
          rw [show (mi_in (Int32.toInt64 n) 0 3) = 0 from mi_out c_1 c_4 c_7 c_10]
          refine lv_if_ne (tgt := 14) hx hb dX12_image_9 (by decide) (fun c0 => absurd (by decide +kernel) c0) (fun _ => ?_)
          refine lv_iconst (v := (-1)) hx hb dX12_image_12 (by decide) ?_
          have hP9 := hP.sub (ws' := []) [] rfl
          have hD9 := hD.sub (ws' := []) [] (by decide) rfl
          exact W.iret (v := (-1)) hx hb hr (gq_endI () (by simp only [sp_image, c_1, c_4, c_7, c_10, if_false]) hP9 hD9 hS) hS.2.2 dX12_image_13
set_option maxHeartbeats 4000000 in
set_option maxRecDepth 100000 in
theorem c_M_back (l : Launch) (G : gg_T) (sz : Nat) (h0 : Nat) (am : Nat → Nat) (n : Int32) : Met l yX12_back (ts_L yX12_back cX12_back 3 (some .int)) ({ frames := 1, cells := 0, slots := 0, locals := 25 }) (gc_P G [(h0, .inr (12, [.ref (am 0), .int 0, .int 0, .ref (am 1), .ref (am 2), .ref (am 3), .ref (am 4), .ref (am 5), .int 0, .int 0, .int 0, .int 0, .int 0, .int 0, .int 0, .ref (am 6), .int 0, .ref (am 7), .int 0, .ref (am 8), .ref (am 9), .int (-1), .int 0, .int 0, .int (-1), .int 0, .ref (am 10), .int 0, .ref (am 11), .ref (am 12), .ref (am 13), .ref (am 14), .long 0, .ref (am 15), .ref (am 16), .ref (am 17), .ref (am 18)])), ((am 18), .inl (G.2.2 3, 4, .inl (fun _ => 0)))] sz [.ref h0, .int n]) (gc_I G (va_A [(h0, .inr (12, [.ref (am 0), .int 0, .int 0, .ref (am 1), .ref (am 2), .ref (am 3), .ref (am 4), .ref (am 5), .int 0, .int 0, .int 0, .int 0, .int 0, .int 0, .int 0, .ref (am 6), .int 0, .ref (am 7), .int 0, .ref (am 8), .ref (am 9), .int (-1), .int 0, .int 0, .int (-1), .int 0, .ref (am 10), .int 0, .ref (am 11), .ref (am 12), .ref (am 13), .ref (am 14), .long 0, .ref (am 15), .ref (am 16), .ref (am 17), .ref (am 18)])), ((am 18), .inl (G.2.2 3, 4, .inl (fun _ => 0)))] sz) (fun r (_ : Unit) => r = (-1)) (fun _ => [])) 0 0 (va_A [(h0, .inr (12, [.ref (am 0), .int 0, .int 0, .ref (am 1), .ref (am 2), .ref (am 3), .ref (am 4), .ref (am 5), .int 0, .int 0, .int 0, .int 0, .int 0, .int 0, .int 0, .ref (am 6), .int 0, .ref (am 7), .int 0, .ref (am 8), .ref (am 9), .int (-1), .int 0, .int 0, .int (-1), .int 0, .ref (am 10), .int 0, .ref (am 11), .ref (am 12), .ref (am 13), .ref (am 14), .long 0, .ref (am 15), .ref (am 16), .ref (am 17), .ref (am 18)])), ((am 18), .inl (G.2.2 3, 4, .inl (fun _ => 0)))] sz) := by
  refine Met.ofW (cc := cX12_back) (maxL := 3) (ret := (some .int)) (by decide) rfl ?_
  intro p e s m args below meth c s₁ B hml hv
  obtain ⟨rfl, hsz, hP, hK, hD0⟩ := hv
  have hx := B.exec
  have hb := B.bytes
  have hr := B.returns
  have ht := ts_ht (atoms_spec (ws := ts_L yX12_back cX12_back 3 (some .int)) B.pre)
  have hown : s.vm.findClass RX12 = some m.cls := findClass_of_methodNamed B.named
  have hlocks := B.notSynchronized
  subst hsz
  have hD := hD0.self (sz := s.heap.size)
  generalize hAe : va_A [(h0, .inr (12, [.ref (am 0), .int 0, .int 0, .ref (am 1), .ref (am 2), .ref (am 3), .ref (am 4), .ref (am 5), .int 0, .int 0, .int 0, .int 0, .int 0, .int 0, .int 0, .ref (am 6), .int 0, .ref (am 7), .int 0, .ref (am 8), .ref (am 9), .int (-1), .int 0, .int 0, .int (-1), .int 0, .ref (am 10), .int 0, .ref (am 11), .ref (am 12), .ref (am 13), .ref (am 14), .long 0, .ref (am 15), .ref (am 16), .ref (am 17), .ref (am 18)])), ((am 18), .inl (G.2.2 3, 4, .inl (fun _ => 0)))] s.heap.size = A at hD ⊢
  have hA : ∀ q : Nat, s.heap.size ≤ q → A q := fun q h => by rw [← hAe]; exact Or.inr h
  have hS : va_S A s.heap s.heap [] := va_S.rf
  have hl := lv_entry ([.ref h0, .int n]) (n := 3) (Nat.le_of_ble_eq_true rfl)
  rw [lg_entry_eq]
  generalize (lg_sl ([.ref h0, .int n]) ++ List.replicate (3 - (lg_sl ([.ref h0, .int n])).length) Slot.unset).toArray = ls at hl ⊢
  have hl : lv_has ls 3 [(0, .ref h0), (1, .int n)] := hl
  by_cases c_1 : n = 0
  · subst c_1
    refine lv_iload_n hx hb dX12_back_0 rfl (lv_at hl 1 rfl) ?_
    refine lv_i2l (v := 0) hx hb dX12_back_1 (by decide +kernel) ?_
    refine lv_lconst (v := 0) hx hb dX12_back_2 (by decide +kernel) ?_
    refine lv_ldc2 hx hb hown (ht _ wd_1868) dX12_back_3 ?_
    have hPc := hP.sub (ws' := []) [] rfl
    have hDc := hD.sub (ws' := []) [] (by decide) rfl
    refine gq_callI (wr := [(h0, .inr (12, [.ref (am 0), .int 0, .int 0, .ref (am 1), .ref (am 2), .ref (am 3), .ref (am 4), .ref (am 5), .int 0, .int 0, .int 0, .int 0, .int 0, .int 0, .int 0, .ref (am 6), .int 0, .ref (am 7), .int 0, .ref (am 8), .ref (am 9), .int (-1), .int 0, .int 0, .int (-1), .int 0, .ref (am 10), .int 0, .ref (am 11), .ref (am 12), .ref (am 13), .ref (am 14), .long 0, .ref (am 15), .ref (am 16), .ref (am 17), .ref (am 18)])), ((am 18), .inl (G.2.2 3, 4, .inl (fun _ => 0)))]) (va_runS (As := [.long 0, .long 0, .long 3]) (rest := []) ⟨hx, hb, hml, hown, ht⟩ (c_M_in l G s.heap.size 0 0 3) (va_cwS 3 ht (ts_gS wd_1439 wd_1440 wd_134 wd_1441) rfl rfl rfl (by decide +kernel) ⟨Nat.le_of_ble_eq_true rfl, Nat.le_of_ble_eq_true rfl⟩) (gc_preS hK hPc hDc) rfl rfl hl.1 rfl (lv_room (Nat.le_of_ble_eq_true rfl)) dX12_back_6 ⟨Nat.le_of_ble_eq_true rfl, Nat.le_of_ble_eq_true rfl⟩) hP hD hS hA [] [0, 1] rfl rfl (by decide) (by decide) (fun r u H locs hw hP hD hS => ?_)
    have hw : r = (mi_in 0 0 3) := hw
    subst hw
    have hP : va_P (gg_D G) classes [(h0, .inr (12, [.ref (am 0), .int 0, .int 0, .ref (am 1), .ref (am 2), .ref (am 3), .ref (am 4), .ref (am 5), .int 0, .int 0, .int 0, .int 0, .int 0, .int 0, .int 0, .ref (am 6), .int 0, .ref (am 7), .int 0, .ref (am 8), .ref (am 9), .int (-1), .int 0, .int 0, .int (-1), .int 0, .ref (am 10), .int 0, .ref (am 11), .ref (am 12), .ref (am 13), .ref (am 14), .long 0, .ref (am 15), .ref (am 16), .ref (am 17), .ref (am 18)])), ((am 18), .inl (G.2.2 3, 4, .inl (fun _ => 0)))] H := hP
    have hD : va_D A [(h0, .inr (12, [.ref (am 0), .int 0, .int 0, .ref (am 1), .ref (am 2), .ref (am 3), .ref (am 4), .ref (am 5), .int 0, .int 0, .int 0, .int 0, .int 0, .int 0, .int 0, .ref (am 6), .int 0, .ref (am 7), .int 0, .ref (am 8), .ref (am 9), .int (-1), .int 0, .int 0, .int (-1), .int 0, .ref (am 10), .int 0, .ref (am 11), .ref (am 12), .ref (am 13), .ref (am 14), .long 0, .ref (am 15), .ref (am 16), .ref (am 17), .ref (am 18)])), ((am 18), .inl (G.2.2 3, 4, .inl (fun _ => 0)))] := hD
    rw [show (mi_in 0 0 3) = 1 by decide +kernel]
    refine lv_if_eq (tgt := 21) hx hb dX12_back_9 (by decide) (fun c0 => absurd c0 (by decide +kernel)) (fun _ => ?_)
    refine lv_aload_n hx hb dX12_back_12 rfl (lv_at hl 0 rfl) ?_
    refine gq_get hx hb ht hown hK hP i_X12 0 rfl rfl 36 (by decide) wd_1288 rfl rfl dX12_back_13 ?_
    refine lv_iload_n hx hb dX12_back_16 rfl (lv_at hl 1 rfl) ?_
    refine gq_zald hx hb hK hP 1 rfl 0 (by unfold vp_in; decide +kernel) rfl dX12_back_17 ?_
    refine lv_if_ne (tgt := 23) hx hb dX12_back_18 (by decide) (fun c0 => absurd (by decide +kernel) c0) (fun _ => ?_)
    refine lv_iconst (v := (-1)) hx hb dX12_back_21 (by decide) ?_
    have hP9 := hP.sub (ws' := []) [] rfl
    have hD9 := hD.sub (ws' := []) [] (by decide) rfl
    exact W.iret (v := (-1)) hx hb hr (gq_endI () rfl hP9 hD9 hS) hS.2.2 dX12_back_22
  · by_cases c_2 : n = 1
    · subst c_2
      refine lv_iload_n hx hb dX12_back_0 rfl (lv_at hl 1 rfl) ?_
      refine lv_i2l (v := 1) hx hb dX12_back_1 (by decide +kernel) ?_
      refine lv_lconst (v := 0) hx hb dX12_back_2 (by decide +kernel) ?_
      refine lv_ldc2 hx hb hown (ht _ wd_1868) dX12_back_3 ?_
      have hPc := hP.sub (ws' := []) [] rfl
      have hDc := hD.sub (ws' := []) [] (by decide) rfl
      refine gq_callI (wr := [(h0, .inr (12, [.ref (am 0), .int 0, .int 0, .ref (am 1), .ref (am 2), .ref (am 3), .ref (am 4), .ref (am 5), .int 0, .int 0, .int 0, .int 0, .int 0, .int 0, .int 0, .ref (am 6), .int 0, .ref (am 7), .int 0, .ref (am 8), .ref (am 9), .int (-1), .int 0, .int 0, .int (-1), .int 0, .ref (am 10), .int 0, .ref (am 11), .ref (am 12), .ref (am 13), .ref (am 14), .long 0, .ref (am 15), .ref (am 16), .ref (am 17), .ref (am 18)])), ((am 18), .inl (G.2.2 3, 4, .inl (fun _ => 0)))]) (va_runS (As := [.long 1, .long 0, .long 3]) (rest := []) ⟨hx, hb, hml, hown, ht⟩ (c_M_in l G s.heap.size 1 0 3) (va_cwS 3 ht (ts_gS wd_1439 wd_1440 wd_134 wd_1441) rfl rfl rfl (by decide +kernel) ⟨Nat.le_of_ble_eq_true rfl, Nat.le_of_ble_eq_true rfl⟩) (gc_preS hK hPc hDc) rfl rfl hl.1 rfl (lv_room (Nat.le_of_ble_eq_true rfl)) dX12_back_6 ⟨Nat.le_of_ble_eq_true rfl, Nat.le_of_ble_eq_true rfl⟩) hP hD hS hA [] [0, 1] rfl rfl (by decide) (by decide) (fun r u H locs hw hP hD hS => ?_)
      have hw : r = (mi_in 1 0 3) := hw
      subst hw
      have hP : va_P (gg_D G) classes [(h0, .inr (12, [.ref (am 0), .int 0, .int 0, .ref (am 1), .ref (am 2), .ref (am 3), .ref (am 4), .ref (am 5), .int 0, .int 0, .int 0, .int 0, .int 0, .int 0, .int 0, .ref (am 6), .int 0, .ref (am 7), .int 0, .ref (am 8), .ref (am 9), .int (-1), .int 0, .int 0, .int (-1), .int 0, .ref (am 10), .int 0, .ref (am 11), .ref (am 12), .ref (am 13), .ref (am 14), .long 0, .ref (am 15), .ref (am 16), .ref (am 17), .ref (am 18)])), ((am 18), .inl (G.2.2 3, 4, .inl (fun _ => 0)))] H := hP
      have hD : va_D A [(h0, .inr (12, [.ref (am 0), .int 0, .int 0, .ref (am 1), .ref (am 2), .ref (am 3), .ref (am 4), .ref (am 5), .int 0, .int 0, .int 0, .int 0, .int 0, .int 0, .int 0, .ref (am 6), .int 0, .ref (am 7), .int 0, .ref (am 8), .ref (am 9), .int (-1), .int 0, .int 0, .int (-1), .int 0, .ref (am 10), .int 0, .ref (am 11), .ref (am 12), .ref (am 13), .ref (am 14), .long 0, .ref (am 15), .ref (am 16), .ref (am 17), .ref (am 18)])), ((am 18), .inl (G.2.2 3, 4, .inl (fun _ => 0)))] := hD
      rw [show (mi_in 1 0 3) = 1 by decide +kernel]
      refine lv_if_eq (tgt := 21) hx hb dX12_back_9 (by decide) (fun c0 => absurd c0 (by decide +kernel)) (fun _ => ?_)
      refine lv_aload_n hx hb dX12_back_12 rfl (lv_at hl 0 rfl) ?_
      refine gq_get hx hb ht hown hK hP i_X12 0 rfl rfl 36 (by decide) wd_1288 rfl rfl dX12_back_13 ?_
      refine lv_iload_n hx hb dX12_back_16 rfl (lv_at hl 1 rfl) ?_
      refine gq_zald hx hb hK hP 1 rfl 0 (by unfold vp_in; decide +kernel) rfl dX12_back_17 ?_
      refine lv_if_ne (tgt := 23) hx hb dX12_back_18 (by decide) (fun c0 => absurd (by decide +kernel) c0) (fun _ => ?_)
      refine lv_iconst (v := (-1)) hx hb dX12_back_21 (by decide) ?_
      have hP9 := hP.sub (ws' := []) [] rfl
      have hD9 := hD.sub (ws' := []) [] (by decide) rfl
      exact W.iret (v := (-1)) hx hb hr (gq_endI () rfl hP9 hD9 hS) hS.2.2 dX12_back_22
    · by_cases c_3 : n = 2
      · subst c_3
        refine lv_iload_n hx hb dX12_back_0 rfl (lv_at hl 1 rfl) ?_
        refine lv_i2l (v := 2) hx hb dX12_back_1 (by decide +kernel) ?_
        refine lv_lconst (v := 0) hx hb dX12_back_2 (by decide +kernel) ?_
        refine lv_ldc2 hx hb hown (ht _ wd_1868) dX12_back_3 ?_
        have hPc := hP.sub (ws' := []) [] rfl
        have hDc := hD.sub (ws' := []) [] (by decide) rfl
        refine gq_callI (wr := [(h0, .inr (12, [.ref (am 0), .int 0, .int 0, .ref (am 1), .ref (am 2), .ref (am 3), .ref (am 4), .ref (am 5), .int 0, .int 0, .int 0, .int 0, .int 0, .int 0, .int 0, .ref (am 6), .int 0, .ref (am 7), .int 0, .ref (am 8), .ref (am 9), .int (-1), .int 0, .int 0, .int (-1), .int 0, .ref (am 10), .int 0, .ref (am 11), .ref (am 12), .ref (am 13), .ref (am 14), .long 0, .ref (am 15), .ref (am 16), .ref (am 17), .ref (am 18)])), ((am 18), .inl (G.2.2 3, 4, .inl (fun _ => 0)))]) (va_runS (As := [.long 2, .long 0, .long 3]) (rest := []) ⟨hx, hb, hml, hown, ht⟩ (c_M_in l G s.heap.size 2 0 3) (va_cwS 3 ht (ts_gS wd_1439 wd_1440 wd_134 wd_1441) rfl rfl rfl (by decide +kernel) ⟨Nat.le_of_ble_eq_true rfl, Nat.le_of_ble_eq_true rfl⟩) (gc_preS hK hPc hDc) rfl rfl hl.1 rfl (lv_room (Nat.le_of_ble_eq_true rfl)) dX12_back_6 ⟨Nat.le_of_ble_eq_true rfl, Nat.le_of_ble_eq_true rfl⟩) hP hD hS hA [] [0, 1] rfl rfl (by decide) (by decide) (fun r u H locs hw hP hD hS => ?_)
        have hw : r = (mi_in 2 0 3) := hw
        subst hw
        have hP : va_P (gg_D G) classes [(h0, .inr (12, [.ref (am 0), .int 0, .int 0, .ref (am 1), .ref (am 2), .ref (am 3), .ref (am 4), .ref (am 5), .int 0, .int 0, .int 0, .int 0, .int 0, .int 0, .int 0, .ref (am 6), .int 0, .ref (am 7), .int 0, .ref (am 8), .ref (am 9), .int (-1), .int 0, .int 0, .int (-1), .int 0, .ref (am 10), .int 0, .ref (am 11), .ref (am 12), .ref (am 13), .ref (am 14), .long 0, .ref (am 15), .ref (am 16), .ref (am 17), .ref (am 18)])), ((am 18), .inl (G.2.2 3, 4, .inl (fun _ => 0)))] H := hP
        have hD : va_D A [(h0, .inr (12, [.ref (am 0), .int 0, .int 0, .ref (am 1), .ref (am 2), .ref (am 3), .ref (am 4), .ref (am 5), .int 0, .int 0, .int 0, .int 0, .int 0, .int 0, .int 0, .ref (am 6), .int 0, .ref (am 7), .int 0, .ref (am 8), .ref (am 9), .int (-1), .int 0, .int 0, .int (-1), .int 0, .ref (am 10), .int 0, .ref (am 11), .ref (am 12), .ref (am 13), .ref (am 14), .long 0, .ref (am 15), .ref (am 16), .ref (am 17), .ref (am 18)])), ((am 18), .inl (G.2.2 3, 4, .inl (fun _ => 0)))] := hD
        rw [show (mi_in 2 0 3) = 1 by decide +kernel]
        refine lv_if_eq (tgt := 21) hx hb dX12_back_9 (by decide) (fun c0 => absurd c0 (by decide +kernel)) (fun _ => ?_)
        refine lv_aload_n hx hb dX12_back_12 rfl (lv_at hl 0 rfl) ?_
        refine gq_get hx hb ht hown hK hP i_X12 0 rfl rfl 36 (by decide) wd_1288 rfl rfl dX12_back_13 ?_
        refine lv_iload_n hx hb dX12_back_16 rfl (lv_at hl 1 rfl) ?_
        refine gq_zald hx hb hK hP 1 rfl 0 (by unfold vp_in; decide +kernel) rfl dX12_back_17 ?_
        refine lv_if_ne (tgt := 23) hx hb dX12_back_18 (by decide) (fun c0 => absurd (by decide +kernel) c0) (fun _ => ?_)
        refine lv_iconst (v := (-1)) hx hb dX12_back_21 (by decide) ?_
        have hP9 := hP.sub (ws' := []) [] rfl
        have hD9 := hD.sub (ws' := []) [] (by decide) rfl
        exact W.iret (v := (-1)) hx hb hr (gq_endI () rfl hP9 hD9 hS) hS.2.2 dX12_back_22
      · by_cases c_4 : n = 3
        · subst c_4
          refine lv_iload_n hx hb dX12_back_0 rfl (lv_at hl 1 rfl) ?_
          refine lv_i2l (v := 3) hx hb dX12_back_1 (by decide +kernel) ?_
          refine lv_lconst (v := 0) hx hb dX12_back_2 (by decide +kernel) ?_
          refine lv_ldc2 hx hb hown (ht _ wd_1868) dX12_back_3 ?_
          have hPc := hP.sub (ws' := []) [] rfl
          have hDc := hD.sub (ws' := []) [] (by decide) rfl
          refine gq_callI (wr := [(h0, .inr (12, [.ref (am 0), .int 0, .int 0, .ref (am 1), .ref (am 2), .ref (am 3), .ref (am 4), .ref (am 5), .int 0, .int 0, .int 0, .int 0, .int 0, .int 0, .int 0, .ref (am 6), .int 0, .ref (am 7), .int 0, .ref (am 8), .ref (am 9), .int (-1), .int 0, .int 0, .int (-1), .int 0, .ref (am 10), .int 0, .ref (am 11), .ref (am 12), .ref (am 13), .ref (am 14), .long 0, .ref (am 15), .ref (am 16), .ref (am 17), .ref (am 18)])), ((am 18), .inl (G.2.2 3, 4, .inl (fun _ => 0)))]) (va_runS (As := [.long 3, .long 0, .long 3]) (rest := []) ⟨hx, hb, hml, hown, ht⟩ (c_M_in l G s.heap.size 3 0 3) (va_cwS 3 ht (ts_gS wd_1439 wd_1440 wd_134 wd_1441) rfl rfl rfl (by decide +kernel) ⟨Nat.le_of_ble_eq_true rfl, Nat.le_of_ble_eq_true rfl⟩) (gc_preS hK hPc hDc) rfl rfl hl.1 rfl (lv_room (Nat.le_of_ble_eq_true rfl)) dX12_back_6 ⟨Nat.le_of_ble_eq_true rfl, Nat.le_of_ble_eq_true rfl⟩) hP hD hS hA [] [0, 1] rfl rfl (by decide) (by decide) (fun r u H locs hw hP hD hS => ?_)
          have hw : r = (mi_in 3 0 3) := hw
          subst hw
          have hP : va_P (gg_D G) classes [(h0, .inr (12, [.ref (am 0), .int 0, .int 0, .ref (am 1), .ref (am 2), .ref (am 3), .ref (am 4), .ref (am 5), .int 0, .int 0, .int 0, .int 0, .int 0, .int 0, .int 0, .ref (am 6), .int 0, .ref (am 7), .int 0, .ref (am 8), .ref (am 9), .int (-1), .int 0, .int 0, .int (-1), .int 0, .ref (am 10), .int 0, .ref (am 11), .ref (am 12), .ref (am 13), .ref (am 14), .long 0, .ref (am 15), .ref (am 16), .ref (am 17), .ref (am 18)])), ((am 18), .inl (G.2.2 3, 4, .inl (fun _ => 0)))] H := hP
          have hD : va_D A [(h0, .inr (12, [.ref (am 0), .int 0, .int 0, .ref (am 1), .ref (am 2), .ref (am 3), .ref (am 4), .ref (am 5), .int 0, .int 0, .int 0, .int 0, .int 0, .int 0, .int 0, .ref (am 6), .int 0, .ref (am 7), .int 0, .ref (am 8), .ref (am 9), .int (-1), .int 0, .int 0, .int (-1), .int 0, .ref (am 10), .int 0, .ref (am 11), .ref (am 12), .ref (am 13), .ref (am 14), .long 0, .ref (am 15), .ref (am 16), .ref (am 17), .ref (am 18)])), ((am 18), .inl (G.2.2 3, 4, .inl (fun _ => 0)))] := hD
          rw [show (mi_in 3 0 3) = 1 by decide +kernel]
          refine lv_if_eq (tgt := 21) hx hb dX12_back_9 (by decide) (fun c0 => absurd c0 (by decide +kernel)) (fun _ => ?_)
          refine lv_aload_n hx hb dX12_back_12 rfl (lv_at hl 0 rfl) ?_
          refine gq_get hx hb ht hown hK hP i_X12 0 rfl rfl 36 (by decide) wd_1288 rfl rfl dX12_back_13 ?_
          refine lv_iload_n hx hb dX12_back_16 rfl (lv_at hl 1 rfl) ?_
          refine gq_zald hx hb hK hP 1 rfl 0 (by unfold vp_in; decide +kernel) rfl dX12_back_17 ?_
          refine lv_if_ne (tgt := 23) hx hb dX12_back_18 (by decide) (fun c0 => absurd (by decide +kernel) c0) (fun _ => ?_)
          refine lv_iconst (v := (-1)) hx hb dX12_back_21 (by decide) ?_
          have hP9 := hP.sub (ws' := []) [] rfl
          have hD9 := hD.sub (ws' := []) [] (by decide) rfl
          exact W.iret (v := (-1)) hx hb hr (gq_endI () rfl hP9 hD9 hS) hS.2.2 dX12_back_22
        · refine lv_iload_n hx hb dX12_back_0 rfl (lv_at hl 1 rfl) ?_
          refine lv_i2l hx hb dX12_back_1 rfl ?_
          refine lv_lconst (v := 0) hx hb dX12_back_2 (by decide +kernel) ?_
          refine lv_ldc2 hx hb hown (ht _ wd_1868) dX12_back_3 ?_
          have hPc := hP.sub (ws' := []) [] rfl
          have hDc := hD.sub (ws' := []) [] (by decide) rfl
          refine gq_callI (wr := [(h0, .inr (12, [.ref (am 0), .int 0, .int 0, .ref (am 1), .ref (am 2), .ref (am 3), .ref (am 4), .ref (am 5), .int 0, .int 0, .int 0, .int 0, .int 0, .int 0, .int 0, .ref (am 6), .int 0, .ref (am 7), .int 0, .ref (am 8), .ref (am 9), .int (-1), .int 0, .int 0, .int (-1), .int 0, .ref (am 10), .int 0, .ref (am 11), .ref (am 12), .ref (am 13), .ref (am 14), .long 0, .ref (am 15), .ref (am 16), .ref (am 17), .ref (am 18)])), ((am 18), .inl (G.2.2 3, 4, .inl (fun _ => 0)))]) (va_runS (As := [.long (Int32.toInt64 n), .long 0, .long 3]) (rest := []) ⟨hx, hb, hml, hown, ht⟩ (c_M_in l G s.heap.size (Int32.toInt64 n) 0 3) (va_cwS 3 ht (ts_gS wd_1439 wd_1440 wd_134 wd_1441) rfl rfl rfl (by decide +kernel) ⟨Nat.le_of_ble_eq_true rfl, Nat.le_of_ble_eq_true rfl⟩) (gc_preS hK hPc hDc) rfl rfl hl.1 rfl (lv_room (Nat.le_of_ble_eq_true rfl)) dX12_back_6 ⟨Nat.le_of_ble_eq_true rfl, Nat.le_of_ble_eq_true rfl⟩) hP hD hS hA [] [0, 1] rfl rfl (by decide) (by decide) (fun r u H locs hw hP hD hS => ?_)
          have hw : r = (mi_in (Int32.toInt64 n) 0 3) := hw
          subst hw
          have hP : va_P (gg_D G) classes [(h0, .inr (12, [.ref (am 0), .int 0, .int 0, .ref (am 1), .ref (am 2), .ref (am 3), .ref (am 4), .ref (am 5), .int 0, .int 0, .int 0, .int 0, .int 0, .int 0, .int 0, .ref (am 6), .int 0, .ref (am 7), .int 0, .ref (am 8), .ref (am 9), .int (-1), .int 0, .int 0, .int (-1), .int 0, .ref (am 10), .int 0, .ref (am 11), .ref (am 12), .ref (am 13), .ref (am 14), .long 0, .ref (am 15), .ref (am 16), .ref (am 17), .ref (am 18)])), ((am 18), .inl (G.2.2 3, 4, .inl (fun _ => 0)))] H := hP
          have hD : va_D A [(h0, .inr (12, [.ref (am 0), .int 0, .int 0, .ref (am 1), .ref (am 2), .ref (am 3), .ref (am 4), .ref (am 5), .int 0, .int 0, .int 0, .int 0, .int 0, .int 0, .int 0, .ref (am 6), .int 0, .ref (am 7), .int 0, .ref (am 8), .ref (am 9), .int (-1), .int 0, .int 0, .int (-1), .int 0, .ref (am 10), .int 0, .ref (am 11), .ref (am 12), .ref (am 13), .ref (am 14), .long 0, .ref (am 15), .ref (am 16), .ref (am 17), .ref (am 18)])), ((am 18), .inl (G.2.2 3, 4, .inl (fun _ => 0)))] := hD
          rw [show (mi_in (Int32.toInt64 n) 0 3) = 0 from mi_out c_1 c_2 c_3 c_4]
          refine lv_if_eq (tgt := 21) hx hb dX12_back_9 (by decide) (fun _ => ?_) (fun c0 => absurd (by decide +kernel) c0)
          refine lv_iconst (v := (-1)) hx hb dX12_back_21 (by decide) ?_
          have hP9 := hP.sub (ws' := []) [] rfl
          have hD9 := hD.sub (ws' := []) [] (by decide) rfl
          exact W.iret (v := (-1)) hx hb hr (gq_endI () rfl hP9 hD9 hS) hS.2.2 dX12_back_22
